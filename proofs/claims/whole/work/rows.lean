section
-- ===== PART A: goes FIRST, ahead of the names: the tables' words, and 'selects' of the private methods out of them =====
/-- a private method of a class that the tables say can be made, by its rows of tables_1 -/
def lw_okq (q : MethodName × Nat) : Prop := (q.1.cls ≠ "java/lang/invoke/MethodHandle" ∧ q.1.cls ≠ "java/lang/invoke/VarHandle") ∧ Cond.instantiable q.1.cls q.2 ∈ tables_1 ∧ Cond.privateMethod q.1 ∈ tables_1 ∧ Cond.instanceMethod q.1 ∈ tables_1
theorem lw_p0 : lw_okq (⟨"MarkovDesk$Nat", "put", "(J)V"⟩, 2) := ⟨⟨by decide +kernel, by decide +kernel⟩, List.mem_of_getElem? (i := 388) (by decide +kernel), List.mem_of_getElem? (i := 409) (by decide +kernel), List.mem_of_getElem? (i := 410) (by decide +kernel)⟩
theorem lw_p1 : lw_okq (⟨"MarkovDesk$Nat", "bitLength", "()I"⟩, 2) := ⟨⟨by decide +kernel, by decide +kernel⟩, List.mem_of_getElem? (i := 388) (by decide +kernel), List.mem_of_getElem? (i := 631) (by decide +kernel), List.mem_of_getElem? (i := 632) (by decide +kernel)⟩
theorem lw_p2 : lw_okq (⟨"MarkovDesk$Nat", "digit", "(I)I"⟩, 2) := ⟨⟨by decide +kernel, by decide +kernel⟩, List.mem_of_getElem? (i := 388) (by decide +kernel), List.mem_of_getElem? (i := 635) (by decide +kernel), List.mem_of_getElem? (i := 636) (by decide +kernel)⟩
theorem lw_p3 : lw_okq (⟨"java/lang/Throwable", "fillInStackTrace", "(I)Ljava/lang/Throwable;"⟩, 6) := ⟨⟨by decide +kernel, by decide +kernel⟩, List.mem_of_getElem? (i := 691) (by decide +kernel), List.mem_of_getElem? (i := 689) (by decide +kernel), List.mem_of_getElem? (i := 690) (by decide +kernel)⟩
theorem lw_p4 : lw_okq (⟨"MarkovDesk$Tokens", "push", "(I)V"⟩, 8) := ⟨⟨by decide +kernel, by decide +kernel⟩, List.mem_of_getElem? (i := 66) (by decide +kernel), List.mem_of_getElem? (i := 716) (by decide +kernel), List.mem_of_getElem? (i := 717) (by decide +kernel)⟩
theorem lw_p5 : lw_okq (⟨"MarkovDesk", "forget", "()V"⟩, 13) := ⟨⟨by decide +kernel, by decide +kernel⟩, List.mem_of_getElem? (i := 32) (by decide +kernel), List.mem_of_getElem? (i := 728) (by decide +kernel), List.mem_of_getElem? (i := 729) (by decide +kernel)⟩
theorem lw_p6 : lw_okq (⟨"MarkovDesk$Answer", "clear", "()V"⟩, 8) := ⟨⟨by decide +kernel, by decide +kernel⟩, List.mem_of_getElem? (i := 467) (by decide +kernel), List.mem_of_getElem? (i := 732) (by decide +kernel), List.mem_of_getElem? (i := 733) (by decide +kernel)⟩
theorem lw_p7 : lw_okq (⟨"MarkovDesk$Reader", "startOn", "(I)V"⟩, 21) := ⟨⟨by decide +kernel, by decide +kernel⟩, List.mem_of_getElem? (i := 215) (by decide +kernel), List.mem_of_getElem? (i := 737) (by decide +kernel), List.mem_of_getElem? (i := 738) (by decide +kernel)⟩
theorem lw_p8 : lw_okq (⟨"MarkovDesk$Model", "clear", "()V"⟩, 21) := ⟨⟨by decide +kernel, by decide +kernel⟩, List.mem_of_getElem? (i := 104) (by decide +kernel), List.mem_of_getElem? (i := 741) (by decide +kernel), List.mem_of_getElem? (i := 742) (by decide +kernel)⟩
theorem lw_p9 : lw_okq (⟨"MarkovDesk$Tokens", "foreignOctet", "(I)I"⟩, 8) := ⟨⟨by decide +kernel, by decide +kernel⟩, List.mem_of_getElem? (i := 66) (by decide +kernel), List.mem_of_getElem? (i := 745) (by decide +kernel), List.mem_of_getElem? (i := 746) (by decide +kernel)⟩
theorem lw_p10 : lw_okq (⟨"MarkovDesk$Reader", "fail", "(I)V"⟩, 21) := ⟨⟨by decide +kernel, by decide +kernel⟩, List.mem_of_getElem? (i := 215) (by decide +kernel), List.mem_of_getElem? (i := 749) (by decide +kernel), List.mem_of_getElem? (i := 750) (by decide +kernel)⟩
theorem lw_p11 : lw_okq (⟨"MarkovDesk$Tokens", "scan", "(I)V"⟩, 8) := ⟨⟨by decide +kernel, by decide +kernel⟩, List.mem_of_getElem? (i := 66) (by decide +kernel), List.mem_of_getElem? (i := 768) (by decide +kernel), List.mem_of_getElem? (i := 769) (by decide +kernel)⟩
theorem lw_p12 : lw_okq (⟨"MarkovDesk$Tokens", "afterBlanks", "(I)I"⟩, 8) := ⟨⟨by decide +kernel, by decide +kernel⟩, List.mem_of_getElem? (i := 66) (by decide +kernel), List.mem_of_getElem? (i := 775) (by decide +kernel), List.mem_of_getElem? (i := 776) (by decide +kernel)⟩
theorem lw_p13 : lw_okq (⟨"MarkovDesk$Tokens", "octetAt", "(I)I"⟩, 8) := ⟨⟨by decide +kernel, by decide +kernel⟩, List.mem_of_getElem? (i := 66) (by decide +kernel), List.mem_of_getElem? (i := 779) (by decide +kernel), List.mem_of_getElem? (i := 780) (by decide +kernel)⟩
theorem lw_p14 : lw_okq (⟨"MarkovDesk$Tokens", "scanToken", "(II)V"⟩, 8) := ⟨⟨by decide +kernel, by decide +kernel⟩, List.mem_of_getElem? (i := 66) (by decide +kernel), List.mem_of_getElem? (i := 783) (by decide +kernel), List.mem_of_getElem? (i := 784) (by decide +kernel)⟩
theorem lw_p15 : lw_okq (⟨"MarkovDesk$Tokens", "scanName", "(II)V"⟩, 8) := ⟨⟨by decide +kernel, by decide +kernel⟩, List.mem_of_getElem? (i := 66) (by decide +kernel), List.mem_of_getElem? (i := 790) (by decide +kernel), List.mem_of_getElem? (i := 791) (by decide +kernel)⟩
def lw_privs_1 : List (MethodName × Nat) := [(⟨"MarkovDesk$Nat", "put", "(J)V"⟩, 2), (⟨"MarkovDesk$Nat", "bitLength", "()I"⟩, 2), (⟨"MarkovDesk$Nat", "digit", "(I)I"⟩, 2), (⟨"java/lang/Throwable", "fillInStackTrace", "(I)Ljava/lang/Throwable;"⟩, 6), (⟨"MarkovDesk$Tokens", "push", "(I)V"⟩, 8), (⟨"MarkovDesk", "forget", "()V"⟩, 13), (⟨"MarkovDesk$Answer", "clear", "()V"⟩, 8), (⟨"MarkovDesk$Reader", "startOn", "(I)V"⟩, 21), (⟨"MarkovDesk$Model", "clear", "()V"⟩, 21), (⟨"MarkovDesk$Tokens", "foreignOctet", "(I)I"⟩, 8), (⟨"MarkovDesk$Reader", "fail", "(I)V"⟩, 21), (⟨"MarkovDesk$Tokens", "scan", "(I)V"⟩, 8), (⟨"MarkovDesk$Tokens", "afterBlanks", "(I)I"⟩, 8), (⟨"MarkovDesk$Tokens", "octetAt", "(I)I"⟩, 8), (⟨"MarkovDesk$Tokens", "scanToken", "(II)V"⟩, 8), (⟨"MarkovDesk$Tokens", "scanName", "(II)V"⟩, 8)]
theorem lw_r1 : ∀ q ∈ lw_privs_1, lw_okq q := List.forall_mem_cons.mpr ⟨lw_p0, List.forall_mem_cons.mpr ⟨lw_p1, List.forall_mem_cons.mpr ⟨lw_p2, List.forall_mem_cons.mpr ⟨lw_p3, List.forall_mem_cons.mpr ⟨lw_p4, List.forall_mem_cons.mpr ⟨lw_p5, List.forall_mem_cons.mpr ⟨lw_p6, List.forall_mem_cons.mpr ⟨lw_p7, List.forall_mem_cons.mpr ⟨lw_p8, List.forall_mem_cons.mpr ⟨lw_p9, List.forall_mem_cons.mpr ⟨lw_p10, List.forall_mem_cons.mpr ⟨lw_p11, List.forall_mem_cons.mpr ⟨lw_p12, List.forall_mem_cons.mpr ⟨lw_p13, List.forall_mem_cons.mpr ⟨lw_p14, List.forall_mem_cons.mpr ⟨lw_p15, fun _ h => absurd h List.not_mem_nil⟩⟩⟩⟩⟩⟩⟩⟩⟩⟩⟩⟩⟩⟩⟩⟩
theorem lw_p16 : lw_okq (⟨"MarkovDesk$Tokens", "wordOrName", "(II)I"⟩, 8) := ⟨⟨by decide +kernel, by decide +kernel⟩, List.mem_of_getElem? (i := 66) (by decide +kernel), List.mem_of_getElem? (i := 797) (by decide +kernel), List.mem_of_getElem? (i := 798) (by decide +kernel)⟩
theorem lw_p17 : lw_okq (⟨"MarkovDesk$Tokens", "isWord", "(III)Z"⟩, 8) := ⟨⟨by decide +kernel, by decide +kernel⟩, List.mem_of_getElem? (i := 66) (by decide +kernel), List.mem_of_getElem? (i := 850) (by decide +kernel), List.mem_of_getElem? (i := 851) (by decide +kernel)⟩
theorem lw_p18 : lw_okq (⟨"MarkovDesk$Tokens", "scanNumber", "(II)V"⟩, 8) := ⟨⟨by decide +kernel, by decide +kernel⟩, List.mem_of_getElem? (i := 66) (by decide +kernel), List.mem_of_getElem? (i := 854) (by decide +kernel), List.mem_of_getElem? (i := 855) (by decide +kernel)⟩
theorem lw_p19 : lw_okq (⟨"MarkovDesk$Tokens", "digitsFrom", "(I)I"⟩, 8) := ⟨⟨by decide +kernel, by decide +kernel⟩, List.mem_of_getElem? (i := 66) (by decide +kernel), List.mem_of_getElem? (i := 858) (by decide +kernel), List.mem_of_getElem? (i := 859) (by decide +kernel)⟩
theorem lw_p20 : lw_okq (⟨"MarkovDesk$Tokens", "decimal", "(II)I"⟩, 8) := ⟨⟨by decide +kernel, by decide +kernel⟩, List.mem_of_getElem? (i := 66) (by decide +kernel), List.mem_of_getElem? (i := 862) (by decide +kernel), List.mem_of_getElem? (i := 863) (by decide +kernel)⟩
theorem lw_p21 : lw_okq (⟨"MarkovDesk$Tokens", "scanSign", "(III)V"⟩, 8) := ⟨⟨by decide +kernel, by decide +kernel⟩, List.mem_of_getElem? (i := 66) (by decide +kernel), List.mem_of_getElem? (i := 866) (by decide +kernel), List.mem_of_getElem? (i := 867) (by decide +kernel)⟩
theorem lw_p22 : lw_okq (⟨"MarkovDesk$Reader", "advance", "()V"⟩, 21) := ⟨⟨by decide +kernel, by decide +kernel⟩, List.mem_of_getElem? (i := 215) (by decide +kernel), List.mem_of_getElem? (i := 927) (by decide +kernel), List.mem_of_getElem? (i := 928) (by decide +kernel)⟩
theorem lw_p23 : lw_okq (⟨"MarkovDesk$Reader", "kind", "()I"⟩, 21) := ⟨⟨by decide +kernel, by decide +kernel⟩, List.mem_of_getElem? (i := 215) (by decide +kernel), List.mem_of_getElem? (i := 931) (by decide +kernel), List.mem_of_getElem? (i := 932) (by decide +kernel)⟩
theorem lw_p24 : lw_okq (⟨"MarkovDesk$Reader", "place", "()I"⟩, 21) := ⟨⟨by decide +kernel, by decide +kernel⟩, List.mem_of_getElem? (i := 215) (by decide +kernel), List.mem_of_getElem? (i := 935) (by decide +kernel), List.mem_of_getElem? (i := 936) (by decide +kernel)⟩
theorem lw_p25 : lw_okq (⟨"MarkovDesk$Reader", "take", "(I)V"⟩, 21) := ⟨⟨by decide +kernel, by decide +kernel⟩, List.mem_of_getElem? (i := 215) (by decide +kernel), List.mem_of_getElem? (i := 939) (by decide +kernel), List.mem_of_getElem? (i := 940) (by decide +kernel)⟩
theorem lw_p26 : lw_okq (⟨"MarkovDesk$Reader", "readConstant", "()V"⟩, 21) := ⟨⟨by decide +kernel, by decide +kernel⟩, List.mem_of_getElem? (i := 215) (by decide +kernel), List.mem_of_getElem? (i := 944) (by decide +kernel), List.mem_of_getElem? (i := 945) (by decide +kernel)⟩
theorem lw_p27 : lw_okq (⟨"MarkovDesk$Reader", "takeNewName", "()I"⟩, 21) := ⟨⟨by decide +kernel, by decide +kernel⟩, List.mem_of_getElem? (i := 215) (by decide +kernel), List.mem_of_getElem? (i := 948) (by decide +kernel), List.mem_of_getElem? (i := 949) (by decide +kernel)⟩
theorem lw_p28 : lw_okq (⟨"MarkovDesk$Reader", "find", "(I)I"⟩, 21) := ⟨⟨by decide +kernel, by decide +kernel⟩, List.mem_of_getElem? (i := 215) (by decide +kernel), List.mem_of_getElem? (i := 952) (by decide +kernel), List.mem_of_getElem? (i := 953) (by decide +kernel)⟩
theorem lw_p29 : lw_okq (⟨"MarkovDesk$Tokens", "same", "(II)Z"⟩, 8) := ⟨⟨by decide +kernel, by decide +kernel⟩, List.mem_of_getElem? (i := 66) (by decide +kernel), List.mem_of_getElem? (i := 956) (by decide +kernel), List.mem_of_getElem? (i := 957) (by decide +kernel)⟩
theorem lw_p30 : lw_okq (⟨"MarkovDesk$Reader", "readExpression", "(IZ)I"⟩, 21) := ⟨⟨by decide +kernel, by decide +kernel⟩, List.mem_of_getElem? (i := 215) (by decide +kernel), List.mem_of_getElem? (i := 960) (by decide +kernel), List.mem_of_getElem? (i := 961) (by decide +kernel)⟩
theorem lw_p31 : lw_okq (⟨"MarkovDesk$Reader", "readOperand", "()V"⟩, 21) := ⟨⟨by decide +kernel, by decide +kernel⟩, List.mem_of_getElem? (i := 215) (by decide +kernel), List.mem_of_getElem? (i := 964) (by decide +kernel), List.mem_of_getElem? (i := 965) (by decide +kernel)⟩
def lw_privs_2 : List (MethodName × Nat) := [(⟨"MarkovDesk$Tokens", "wordOrName", "(II)I"⟩, 8), (⟨"MarkovDesk$Tokens", "isWord", "(III)Z"⟩, 8), (⟨"MarkovDesk$Tokens", "scanNumber", "(II)V"⟩, 8), (⟨"MarkovDesk$Tokens", "digitsFrom", "(I)I"⟩, 8), (⟨"MarkovDesk$Tokens", "decimal", "(II)I"⟩, 8), (⟨"MarkovDesk$Tokens", "scanSign", "(III)V"⟩, 8), (⟨"MarkovDesk$Reader", "advance", "()V"⟩, 21), (⟨"MarkovDesk$Reader", "kind", "()I"⟩, 21), (⟨"MarkovDesk$Reader", "place", "()I"⟩, 21), (⟨"MarkovDesk$Reader", "take", "(I)V"⟩, 21), (⟨"MarkovDesk$Reader", "readConstant", "()V"⟩, 21), (⟨"MarkovDesk$Reader", "takeNewName", "()I"⟩, 21), (⟨"MarkovDesk$Reader", "find", "(I)I"⟩, 21), (⟨"MarkovDesk$Tokens", "same", "(II)Z"⟩, 8), (⟨"MarkovDesk$Reader", "readExpression", "(IZ)I"⟩, 21), (⟨"MarkovDesk$Reader", "readOperand", "()V"⟩, 21)]
theorem lw_r2 : ∀ q ∈ lw_privs_2, lw_okq q := List.forall_mem_cons.mpr ⟨lw_p16, List.forall_mem_cons.mpr ⟨lw_p17, List.forall_mem_cons.mpr ⟨lw_p18, List.forall_mem_cons.mpr ⟨lw_p19, List.forall_mem_cons.mpr ⟨lw_p20, List.forall_mem_cons.mpr ⟨lw_p21, List.forall_mem_cons.mpr ⟨lw_p22, List.forall_mem_cons.mpr ⟨lw_p23, List.forall_mem_cons.mpr ⟨lw_p24, List.forall_mem_cons.mpr ⟨lw_p25, List.forall_mem_cons.mpr ⟨lw_p26, List.forall_mem_cons.mpr ⟨lw_p27, List.forall_mem_cons.mpr ⟨lw_p28, List.forall_mem_cons.mpr ⟨lw_p29, List.forall_mem_cons.mpr ⟨lw_p30, List.forall_mem_cons.mpr ⟨lw_p31, fun _ h => absurd h List.not_mem_nil⟩⟩⟩⟩⟩⟩⟩⟩⟩⟩⟩⟩⟩⟩⟩⟩
theorem lw_p32 : lw_okq (⟨"MarkovDesk$Reader", "number", "()I"⟩, 21) := ⟨⟨by decide +kernel, by decide +kernel⟩, List.mem_of_getElem? (i := 215) (by decide +kernel), List.mem_of_getElem? (i := 968) (by decide +kernel), List.mem_of_getElem? (i := 969) (by decide +kernel)⟩
theorem lw_p33 : lw_okq (⟨"MarkovDesk$Reader", "operand", "(III)V"⟩, 21) := ⟨⟨by decide +kernel, by decide +kernel⟩, List.mem_of_getElem? (i := 215) (by decide +kernel), List.mem_of_getElem? (i := 972) (by decide +kernel), List.mem_of_getElem? (i := 973) (by decide +kernel)⟩
theorem lw_p34 : lw_okq (⟨"MarkovDesk$Machine", "emit", "(II)I"⟩, 5) := ⟨⟨by decide +kernel, by decide +kernel⟩, List.mem_of_getElem? (i := 40) (by decide +kernel), List.mem_of_getElem? (i := 976) (by decide +kernel), List.mem_of_getElem? (i := 977) (by decide +kernel)⟩
theorem lw_p35 : lw_okq (⟨"MarkovDesk$Reader", "nest", "()V"⟩, 21) := ⟨⟨by decide +kernel, by decide +kernel⟩, List.mem_of_getElem? (i := 215) (by decide +kernel), List.mem_of_getElem? (i := 980) (by decide +kernel), List.mem_of_getElem? (i := 981) (by decide +kernel)⟩
theorem lw_p36 : lw_okq (⟨"MarkovDesk$Reader", "push", "(IIII)V"⟩, 21) := ⟨⟨by decide +kernel, by decide +kernel⟩, List.mem_of_getElem? (i := 215) (by decide +kernel), List.mem_of_getElem? (i := 984) (by decide +kernel), List.mem_of_getElem? (i := 985) (by decide +kernel)⟩
theorem lw_p37 : lw_okq (⟨"MarkovDesk$Reader", "readOperator", "()Z"⟩, 21) := ⟨⟨by decide +kernel, by decide +kernel⟩, List.mem_of_getElem? (i := 215) (by decide +kernel), List.mem_of_getElem? (i := 988) (by decide +kernel), List.mem_of_getElem? (i := 989) (by decide +kernel)⟩
theorem lw_p38 : lw_okq (⟨"MarkovDesk$Reader", "settle", "(I)V"⟩, 21) := ⟨⟨by decide +kernel, by decide +kernel⟩, List.mem_of_getElem? (i := 215) (by decide +kernel), List.mem_of_getElem? (i := 995) (by decide +kernel), List.mem_of_getElem? (i := 996) (by decide +kernel)⟩
theorem lw_p39 : lw_okq (⟨"MarkovDesk$Reader", "typesFit", "(III)Z"⟩, 21) := ⟨⟨by decide +kernel, by decide +kernel⟩, List.mem_of_getElem? (i := 215) (by decide +kernel), List.mem_of_getElem? (i := 999) (by decide +kernel), List.mem_of_getElem? (i := 1000) (by decide +kernel)⟩
theorem lw_p40 : lw_okq (⟨"MarkovDesk$Machine", "aim", "(I)V"⟩, 5) := ⟨⟨by decide +kernel, by decide +kernel⟩, List.mem_of_getElem? (i := 40) (by decide +kernel), List.mem_of_getElem? (i := 1003) (by decide +kernel), List.mem_of_getElem? (i := 1004) (by decide +kernel)⟩
theorem lw_p41 : lw_okq (⟨"MarkovDesk$Reader", "readBracket", "(I)Z"⟩, 21) := ⟨⟨by decide +kernel, by decide +kernel⟩, List.mem_of_getElem? (i := 215) (by decide +kernel), List.mem_of_getElem? (i := 1007) (by decide +kernel), List.mem_of_getElem? (i := 1008) (by decide +kernel)⟩
theorem lw_p42 : lw_okq (⟨"MarkovDesk$Reader", "constant", "(II)I"⟩, 21) := ⟨⟨by decide +kernel, by decide +kernel⟩, List.mem_of_getElem? (i := 215) (by decide +kernel), List.mem_of_getElem? (i := 1011) (by decide +kernel), List.mem_of_getElem? (i := 1012) (by decide +kernel)⟩
theorem lw_p43 : lw_okq (⟨"MarkovDesk$Machine", "run", "(I[II)I"⟩, 5) := ⟨⟨by decide +kernel, by decide +kernel⟩, List.mem_of_getElem? (i := 40) (by decide +kernel), List.mem_of_getElem? (i := 1015) (by decide +kernel), List.mem_of_getElem? (i := 1016) (by decide +kernel)⟩
theorem lw_p44 : lw_okq (⟨"MarkovDesk$Machine", "join", "(III)I"⟩, 5) := ⟨⟨by decide +kernel, by decide +kernel⟩, List.mem_of_getElem? (i := 40) (by decide +kernel), List.mem_of_getElem? (i := 1019) (by decide +kernel), List.mem_of_getElem? (i := 1020) (by decide +kernel)⟩
theorem lw_p45 : lw_okq (⟨"MarkovDesk$Reader", "remember", "(III)V"⟩, 21) := ⟨⟨by decide +kernel, by decide +kernel⟩, List.mem_of_getElem? (i := 215) (by decide +kernel), List.mem_of_getElem? (i := 1029) (by decide +kernel), List.mem_of_getElem? (i := 1030) (by decide +kernel)⟩
theorem lw_p46 : lw_okq (⟨"MarkovDesk$Reader", "openModule", "()V"⟩, 21) := ⟨⟨by decide +kernel, by decide +kernel⟩, List.mem_of_getElem? (i := 215) (by decide +kernel), List.mem_of_getElem? (i := 1033) (by decide +kernel), List.mem_of_getElem? (i := 1034) (by decide +kernel)⟩
theorem lw_p47 : lw_okq (⟨"MarkovDesk$Reader", "readVariable", "()V"⟩, 21) := ⟨⟨by decide +kernel, by decide +kernel⟩, List.mem_of_getElem? (i := 215) (by decide +kernel), List.mem_of_getElem? (i := 1037) (by decide +kernel), List.mem_of_getElem? (i := 1038) (by decide +kernel)⟩
def lw_privs_3 : List (MethodName × Nat) := [(⟨"MarkovDesk$Reader", "number", "()I"⟩, 21), (⟨"MarkovDesk$Reader", "operand", "(III)V"⟩, 21), (⟨"MarkovDesk$Machine", "emit", "(II)I"⟩, 5), (⟨"MarkovDesk$Reader", "nest", "()V"⟩, 21), (⟨"MarkovDesk$Reader", "push", "(IIII)V"⟩, 21), (⟨"MarkovDesk$Reader", "readOperator", "()Z"⟩, 21), (⟨"MarkovDesk$Reader", "settle", "(I)V"⟩, 21), (⟨"MarkovDesk$Reader", "typesFit", "(III)Z"⟩, 21), (⟨"MarkovDesk$Machine", "aim", "(I)V"⟩, 5), (⟨"MarkovDesk$Reader", "readBracket", "(I)Z"⟩, 21), (⟨"MarkovDesk$Reader", "constant", "(II)I"⟩, 21), (⟨"MarkovDesk$Machine", "run", "(I[II)I"⟩, 5), (⟨"MarkovDesk$Machine", "join", "(III)I"⟩, 5), (⟨"MarkovDesk$Reader", "remember", "(III)V"⟩, 21), (⟨"MarkovDesk$Reader", "openModule", "()V"⟩, 21), (⟨"MarkovDesk$Reader", "readVariable", "()V"⟩, 21)]
theorem lw_r3 : ∀ q ∈ lw_privs_3, lw_okq q := List.forall_mem_cons.mpr ⟨lw_p32, List.forall_mem_cons.mpr ⟨lw_p33, List.forall_mem_cons.mpr ⟨lw_p34, List.forall_mem_cons.mpr ⟨lw_p35, List.forall_mem_cons.mpr ⟨lw_p36, List.forall_mem_cons.mpr ⟨lw_p37, List.forall_mem_cons.mpr ⟨lw_p38, List.forall_mem_cons.mpr ⟨lw_p39, List.forall_mem_cons.mpr ⟨lw_p40, List.forall_mem_cons.mpr ⟨lw_p41, List.forall_mem_cons.mpr ⟨lw_p42, List.forall_mem_cons.mpr ⟨lw_p43, List.forall_mem_cons.mpr ⟨lw_p44, List.forall_mem_cons.mpr ⟨lw_p45, List.forall_mem_cons.mpr ⟨lw_p46, List.forall_mem_cons.mpr ⟨lw_p47, fun _ h => absurd h List.not_mem_nil⟩⟩⟩⟩⟩⟩⟩⟩⟩⟩⟩⟩⟩⟩⟩⟩
theorem lw_p48 : lw_okq (⟨"MarkovDesk$Reader", "readBounds", "(I)V"⟩, 21) := ⟨⟨by decide +kernel, by decide +kernel⟩, List.mem_of_getElem? (i := 215) (by decide +kernel), List.mem_of_getElem? (i := 1041) (by decide +kernel), List.mem_of_getElem? (i := 1042) (by decide +kernel)⟩
theorem lw_p49 : lw_okq (⟨"MarkovDesk$Reader", "readCommand", "()V"⟩, 21) := ⟨⟨by decide +kernel, by decide +kernel⟩, List.mem_of_getElem? (i := 215) (by decide +kernel), List.mem_of_getElem? (i := 1046) (by decide +kernel), List.mem_of_getElem? (i := 1047) (by decide +kernel)⟩
theorem lw_p50 : lw_okq (⟨"MarkovDesk$Reader", "actionOf", "(I)I"⟩, 21) := ⟨⟨by decide +kernel, by decide +kernel⟩, List.mem_of_getElem? (i := 215) (by decide +kernel), List.mem_of_getElem? (i := 1050) (by decide +kernel), List.mem_of_getElem? (i := 1051) (by decide +kernel)⟩
theorem lw_p51 : lw_okq (⟨"MarkovDesk$Reader", "readShare", "()I"⟩, 21) := ⟨⟨by decide +kernel, by decide +kernel⟩, List.mem_of_getElem? (i := 215) (by decide +kernel), List.mem_of_getElem? (i := 1054) (by decide +kernel), List.mem_of_getElem? (i := 1055) (by decide +kernel)⟩
theorem lw_p52 : lw_okq (⟨"MarkovDesk$Reader", "readUpdate", "(I)V"⟩, 21) := ⟨⟨by decide +kernel, by decide +kernel⟩, List.mem_of_getElem? (i := 215) (by decide +kernel), List.mem_of_getElem? (i := 1058) (by decide +kernel), List.mem_of_getElem? (i := 1059) (by decide +kernel)⟩
theorem lw_p53 : lw_okq (⟨"MarkovDesk$Reader", "changedVariable", "(I)I"⟩, 21) := ⟨⟨by decide +kernel, by decide +kernel⟩, List.mem_of_getElem? (i := 215) (by decide +kernel), List.mem_of_getElem? (i := 1062) (by decide +kernel), List.mem_of_getElem? (i := 1063) (by decide +kernel)⟩
theorem lw_p54 : lw_okq (⟨"MarkovDesk$Reader", "addShare", "(IJJ)V"⟩, 21) := ⟨⟨by decide +kernel, by decide +kernel⟩, List.mem_of_getElem? (i := 215) (by decide +kernel), List.mem_of_getElem? (i := 1066) (by decide +kernel), List.mem_of_getElem? (i := 1067) (by decide +kernel)⟩
theorem lw_p55 : lw_okq (⟨"MarkovDesk$Reader", "closeModule", "()Z"⟩, 21) := ⟨⟨by decide +kernel, by decide +kernel⟩, List.mem_of_getElem? (i := 215) (by decide +kernel), List.mem_of_getElem? (i := 1073) (by decide +kernel), List.mem_of_getElem? (i := 1074) (by decide +kernel)⟩
theorem lw_p56 : lw_okq (⟨"MarkovDesk$Reader", "readTarget", "()V"⟩, 21) := ⟨⟨by decide +kernel, by decide +kernel⟩, List.mem_of_getElem? (i := 215) (by decide +kernel), List.mem_of_getElem? (i := 1077) (by decide +kernel), List.mem_of_getElem? (i := 1078) (by decide +kernel)⟩
theorem lw_p57 : lw_okq (⟨"MarkovDesk$Space", "build", "()V"⟩, 19) := ⟨⟨by decide +kernel, by decide +kernel⟩, List.mem_of_getElem? (i := 286) (by decide +kernel), List.mem_of_getElem? (i := 1107) (by decide +kernel), List.mem_of_getElem? (i := 1108) (by decide +kernel)⟩
theorem lw_p58 : lw_okq (⟨"MarkovDesk$Space", "lookAt", "(I)V"⟩, 19) := ⟨⟨by decide +kernel, by decide +kernel⟩, List.mem_of_getElem? (i := 286) (by decide +kernel), List.mem_of_getElem? (i := 1114) (by decide +kernel), List.mem_of_getElem? (i := 1115) (by decide +kernel)⟩
theorem lw_p59 : lw_okq (⟨"MarkovDesk$Space", "reckon", "(II)I"⟩, 19) := ⟨⟨by decide +kernel, by decide +kernel⟩, List.mem_of_getElem? (i := 286) (by decide +kernel), List.mem_of_getElem? (i := 1118) (by decide +kernel), List.mem_of_getElem? (i := 1119) (by decide +kernel)⟩
theorem lw_p60 : lw_okq (⟨"MarkovDesk$Space", "addSingleChoices", "(I)V"⟩, 19) := ⟨⟨by decide +kernel, by decide +kernel⟩, List.mem_of_getElem? (i := 286) (by decide +kernel), List.mem_of_getElem? (i := 1138) (by decide +kernel), List.mem_of_getElem? (i := 1139) (by decide +kernel)⟩
theorem lw_p61 : lw_okq (⟨"MarkovDesk$Space", "addChoice", "(I)V"⟩, 19) := ⟨⟨by decide +kernel, by decide +kernel⟩, List.mem_of_getElem? (i := 286) (by decide +kernel), List.mem_of_getElem? (i := 1142) (by decide +kernel), List.mem_of_getElem? (i := 1143) (by decide +kernel)⟩
theorem lw_p62 : lw_okq (⟨"MarkovDesk$Model", "updatesOf", "(I)I"⟩, 21) := ⟨⟨by decide +kernel, by decide +kernel⟩, List.mem_of_getElem? (i := 104) (by decide +kernel), List.mem_of_getElem? (i := 1146) (by decide +kernel), List.mem_of_getElem? (i := 1147) (by decide +kernel)⟩
theorem lw_p63 : lw_okq (⟨"MarkovDesk$Space", "addOutcome", "(II)V"⟩, 19) := ⟨⟨by decide +kernel, by decide +kernel⟩, List.mem_of_getElem? (i := 286) (by decide +kernel), List.mem_of_getElem? (i := 1165) (by decide +kernel), List.mem_of_getElem? (i := 1166) (by decide +kernel)⟩
def lw_privs_4 : List (MethodName × Nat) := [(⟨"MarkovDesk$Reader", "readBounds", "(I)V"⟩, 21), (⟨"MarkovDesk$Reader", "readCommand", "()V"⟩, 21), (⟨"MarkovDesk$Reader", "actionOf", "(I)I"⟩, 21), (⟨"MarkovDesk$Reader", "readShare", "()I"⟩, 21), (⟨"MarkovDesk$Reader", "readUpdate", "(I)V"⟩, 21), (⟨"MarkovDesk$Reader", "changedVariable", "(I)I"⟩, 21), (⟨"MarkovDesk$Reader", "addShare", "(IJJ)V"⟩, 21), (⟨"MarkovDesk$Reader", "closeModule", "()Z"⟩, 21), (⟨"MarkovDesk$Reader", "readTarget", "()V"⟩, 21), (⟨"MarkovDesk$Space", "build", "()V"⟩, 19), (⟨"MarkovDesk$Space", "lookAt", "(I)V"⟩, 19), (⟨"MarkovDesk$Space", "reckon", "(II)I"⟩, 19), (⟨"MarkovDesk$Space", "addSingleChoices", "(I)V"⟩, 19), (⟨"MarkovDesk$Space", "addChoice", "(I)V"⟩, 19), (⟨"MarkovDesk$Model", "updatesOf", "(I)I"⟩, 21), (⟨"MarkovDesk$Space", "addOutcome", "(II)V"⟩, 19)]
theorem lw_r4 : ∀ q ∈ lw_privs_4, lw_okq q := List.forall_mem_cons.mpr ⟨lw_p48, List.forall_mem_cons.mpr ⟨lw_p49, List.forall_mem_cons.mpr ⟨lw_p50, List.forall_mem_cons.mpr ⟨lw_p51, List.forall_mem_cons.mpr ⟨lw_p52, List.forall_mem_cons.mpr ⟨lw_p53, List.forall_mem_cons.mpr ⟨lw_p54, List.forall_mem_cons.mpr ⟨lw_p55, List.forall_mem_cons.mpr ⟨lw_p56, List.forall_mem_cons.mpr ⟨lw_p57, List.forall_mem_cons.mpr ⟨lw_p58, List.forall_mem_cons.mpr ⟨lw_p59, List.forall_mem_cons.mpr ⟨lw_p60, List.forall_mem_cons.mpr ⟨lw_p61, List.forall_mem_cons.mpr ⟨lw_p62, List.forall_mem_cons.mpr ⟨lw_p63, fun _ h => absurd h List.not_mem_nil⟩⟩⟩⟩⟩⟩⟩⟩⟩⟩⟩⟩⟩⟩⟩⟩
theorem lw_p64 : lw_okq (⟨"MarkovDesk$Space", "stateOfNext", "()I"⟩, 19) := ⟨⟨by decide +kernel, by decide +kernel⟩, List.mem_of_getElem? (i := 286) (by decide +kernel), List.mem_of_getElem? (i := 1170) (by decide +kernel), List.mem_of_getElem? (i := 1171) (by decide +kernel)⟩
theorem lw_p65 : lw_okq (⟨"MarkovDesk$Space", "addJointChoices", "(I)V"⟩, 19) := ⟨⟨by decide +kernel, by decide +kernel⟩, List.mem_of_getElem? (i := 286) (by decide +kernel), List.mem_of_getElem? (i := 1175) (by decide +kernel), List.mem_of_getElem? (i := 1176) (by decide +kernel)⟩
theorem lw_p66 : lw_okq (⟨"MarkovDesk$Space", "gatherOffers", "(I)Z"⟩, 19) := ⟨⟨by decide +kernel, by decide +kernel⟩, List.mem_of_getElem? (i := 286) (by decide +kernel), List.mem_of_getElem? (i := 1179) (by decide +kernel), List.mem_of_getElem? (i := 1180) (by decide +kernel)⟩
theorem lw_p67 : lw_okq (⟨"MarkovDesk$Space", "take", "(I)V"⟩, 19) := ⟨⟨by decide +kernel, by decide +kernel⟩, List.mem_of_getElem? (i := 286) (by decide +kernel), List.mem_of_getElem? (i := 1183) (by decide +kernel), List.mem_of_getElem? (i := 1184) (by decide +kernel)⟩
theorem lw_p68 : lw_okq (⟨"MarkovDesk$Space", "hasState", "(I)Z"⟩, 19) := ⟨⟨by decide +kernel, by decide +kernel⟩, List.mem_of_getElem? (i := 286) (by decide +kernel), List.mem_of_getElem? (i := 1196) (by decide +kernel), List.mem_of_getElem? (i := 1197) (by decide +kernel)⟩
theorem lw_p69 : lw_okq (⟨"MarkovDesk$Space", "choicesOf", "(I)I"⟩, 19) := ⟨⟨by decide +kernel, by decide +kernel⟩, List.mem_of_getElem? (i := 286) (by decide +kernel), List.mem_of_getElem? (i := 1200) (by decide +kernel), List.mem_of_getElem? (i := 1201) (by decide +kernel)⟩
theorem lw_p70 : lw_okq (⟨"MarkovDesk$Space", "variableOf", "(II)I"⟩, 19) := ⟨⟨by decide +kernel, by decide +kernel⟩, List.mem_of_getElem? (i := 286) (by decide +kernel), List.mem_of_getElem? (i := 1204) (by decide +kernel), List.mem_of_getElem? (i := 1205) (by decide +kernel)⟩
theorem lw_p71 : lw_okq (⟨"MarkovDesk$Space", "outcomesOf", "(II)I"⟩, 19) := ⟨⟨by decide +kernel, by decide +kernel⟩, List.mem_of_getElem? (i := 286) (by decide +kernel), List.mem_of_getElem? (i := 1208) (by decide +kernel), List.mem_of_getElem? (i := 1209) (by decide +kernel)⟩
theorem lw_p72 : lw_okq (⟨"MarkovDesk", "requireExplored", "()V"⟩, 13) := ⟨⟨by decide +kernel, by decide +kernel⟩, List.mem_of_getElem? (i := 32) (by decide +kernel), List.mem_of_getElem? (i := 1219) (by decide +kernel), List.mem_of_getElem? (i := 1220) (by decide +kernel)⟩
theorem lw_p73 : lw_okq (⟨"MarkovDesk$Ratio", "hold", "(LMarkovDesk$Nat;LMarkovDesk$Nat;)V"⟩, 5) := ⟨⟨by decide +kernel, by decide +kernel⟩, List.mem_of_getElem? (i := 554) (by decide +kernel), List.mem_of_getElem? (i := 1223) (by decide +kernel), List.mem_of_getElem? (i := 1224) (by decide +kernel)⟩
theorem lw_p74 : lw_okq (⟨"MarkovDesk$Nat", "copy", "(LMarkovDesk$Nat;)V"⟩, 2) := ⟨⟨by decide +kernel, by decide +kernel⟩, List.mem_of_getElem? (i := 388) (by decide +kernel), List.mem_of_getElem? (i := 1227) (by decide +kernel), List.mem_of_getElem? (i := 1228) (by decide +kernel)⟩
theorem lw_p75 : lw_okq (⟨"MarkovDesk$Ratio", "spendForDivisor", "()LMarkovDesk$Nat;"⟩, 5) := ⟨⟨by decide +kernel, by decide +kernel⟩, List.mem_of_getElem? (i := 554) (by decide +kernel), List.mem_of_getElem? (i := 1233) (by decide +kernel), List.mem_of_getElem? (i := 1234) (by decide +kernel)⟩
theorem lw_p76 : lw_okq (⟨"MarkovDesk$Nat", "against", "(LMarkovDesk$Nat;)I"⟩, 2) := ⟨⟨by decide +kernel, by decide +kernel⟩, List.mem_of_getElem? (i := 388) (by decide +kernel), List.mem_of_getElem? (i := 1238) (by decide +kernel), List.mem_of_getElem? (i := 1239) (by decide +kernel)⟩
theorem lw_p77 : lw_okq (⟨"MarkovDesk$Nat", "small", "()J"⟩, 2) := ⟨⟨by decide +kernel, by decide +kernel⟩, List.mem_of_getElem? (i := 388) (by decide +kernel), List.mem_of_getElem? (i := 1242) (by decide +kernel), List.mem_of_getElem? (i := 1243) (by decide +kernel)⟩
theorem lw_p78 : lw_okq (⟨"MarkovDesk$Nat", "head", "(II)J"⟩, 2) := ⟨⟨by decide +kernel, by decide +kernel⟩, List.mem_of_getElem? (i := 388) (by decide +kernel), List.mem_of_getElem? (i := 1252) (by decide +kernel), List.mem_of_getElem? (i := 1253) (by decide +kernel)⟩
theorem lw_p79 : lw_okq (⟨"MarkovDesk$Nat", "stretch", "(I)Z"⟩, 2) := ⟨⟨by decide +kernel, by decide +kernel⟩, List.mem_of_getElem? (i := 388) (by decide +kernel), List.mem_of_getElem? (i := 1263) (by decide +kernel), List.mem_of_getElem? (i := 1264) (by decide +kernel)⟩
def lw_privs_5 : List (MethodName × Nat) := [(⟨"MarkovDesk$Space", "stateOfNext", "()I"⟩, 19), (⟨"MarkovDesk$Space", "addJointChoices", "(I)V"⟩, 19), (⟨"MarkovDesk$Space", "gatherOffers", "(I)Z"⟩, 19), (⟨"MarkovDesk$Space", "take", "(I)V"⟩, 19), (⟨"MarkovDesk$Space", "hasState", "(I)Z"⟩, 19), (⟨"MarkovDesk$Space", "choicesOf", "(I)I"⟩, 19), (⟨"MarkovDesk$Space", "variableOf", "(II)I"⟩, 19), (⟨"MarkovDesk$Space", "outcomesOf", "(II)I"⟩, 19), (⟨"MarkovDesk", "requireExplored", "()V"⟩, 13), (⟨"MarkovDesk$Ratio", "hold", "(LMarkovDesk$Nat;LMarkovDesk$Nat;)V"⟩, 5), (⟨"MarkovDesk$Nat", "copy", "(LMarkovDesk$Nat;)V"⟩, 2), (⟨"MarkovDesk$Ratio", "spendForDivisor", "()LMarkovDesk$Nat;"⟩, 5), (⟨"MarkovDesk$Nat", "against", "(LMarkovDesk$Nat;)I"⟩, 2), (⟨"MarkovDesk$Nat", "small", "()J"⟩, 2), (⟨"MarkovDesk$Nat", "head", "(II)J"⟩, 2), (⟨"MarkovDesk$Nat", "stretch", "(I)Z"⟩, 2)]
theorem lw_r5 : ∀ q ∈ lw_privs_5, lw_okq q := List.forall_mem_cons.mpr ⟨lw_p64, List.forall_mem_cons.mpr ⟨lw_p65, List.forall_mem_cons.mpr ⟨lw_p66, List.forall_mem_cons.mpr ⟨lw_p67, List.forall_mem_cons.mpr ⟨lw_p68, List.forall_mem_cons.mpr ⟨lw_p69, List.forall_mem_cons.mpr ⟨lw_p70, List.forall_mem_cons.mpr ⟨lw_p71, List.forall_mem_cons.mpr ⟨lw_p72, List.forall_mem_cons.mpr ⟨lw_p73, List.forall_mem_cons.mpr ⟨lw_p74, List.forall_mem_cons.mpr ⟨lw_p75, List.forall_mem_cons.mpr ⟨lw_p76, List.forall_mem_cons.mpr ⟨lw_p77, List.forall_mem_cons.mpr ⟨lw_p78, List.forall_mem_cons.mpr ⟨lw_p79, fun _ h => absurd h List.not_mem_nil⟩⟩⟩⟩⟩⟩⟩⟩⟩⟩⟩⟩⟩⟩⟩⟩
theorem lw_p80 : lw_okq (⟨"MarkovDesk$Nat", "trim", "()V"⟩, 2) := ⟨⟨by decide +kernel, by decide +kernel⟩, List.mem_of_getElem? (i := 388) (by decide +kernel), List.mem_of_getElem? (i := 1267) (by decide +kernel), List.mem_of_getElem? (i := 1268) (by decide +kernel)⟩
theorem lw_p81 : lw_okq (⟨"MarkovDesk$Nat", "toQuotient", "(LMarkovDesk$Nat;LMarkovDesk$Nat;)V"⟩, 2) := ⟨⟨by decide +kernel, by decide +kernel⟩, List.mem_of_getElem? (i := 388) (by decide +kernel), List.mem_of_getElem? (i := 1271) (by decide +kernel), List.mem_of_getElem? (i := 1272) (by decide +kernel)⟩
theorem lw_p82 : lw_okq (⟨"MarkovDesk$Nat", "shiftUp", "(I)V"⟩, 2) := ⟨⟨by decide +kernel, by decide +kernel⟩, List.mem_of_getElem? (i := 388) (by decide +kernel), List.mem_of_getElem? (i := 1276) (by decide +kernel), List.mem_of_getElem? (i := 1277) (by decide +kernel)⟩
theorem lw_p83 : lw_okq (⟨"MarkovDesk$Nat", "takeOff", "(LMarkovDesk$Nat;I)I"⟩, 2) := ⟨⟨by decide +kernel, by decide +kernel⟩, List.mem_of_getElem? (i := 388) (by decide +kernel), List.mem_of_getElem? (i := 1281) (by decide +kernel), List.mem_of_getElem? (i := 1282) (by decide +kernel)⟩
theorem lw_p84 : lw_okq (⟨"MarkovDesk$Nat", "addMultiple", "(LMarkovDesk$Nat;JI)J"⟩, 2) := ⟨⟨by decide +kernel, by decide +kernel⟩, List.mem_of_getElem? (i := 388) (by decide +kernel), List.mem_of_getElem? (i := 1285) (by decide +kernel), List.mem_of_getElem? (i := 1286) (by decide +kernel)⟩
theorem lw_p85 : lw_okq (⟨"MarkovDesk$Nat", "shiftDown", "(I)V"⟩, 2) := ⟨⟨by decide +kernel, by decide +kernel⟩, List.mem_of_getElem? (i := 388) (by decide +kernel), List.mem_of_getElem? (i := 1290) (by decide +kernel), List.mem_of_getElem? (i := 1291) (by decide +kernel)⟩
theorem lw_p86 : lw_okq (⟨"MarkovDesk$Planner", "find", "(LMarkovDesk$Answer;)V"⟩, 8) := ⟨⟨by decide +kernel, by decide +kernel⟩, List.mem_of_getElem? (i := 375) (by decide +kernel), List.mem_of_getElem? (i := 1301) (by decide +kernel), List.mem_of_getElem? (i := 1302) (by decide +kernel)⟩
theorem lw_p87 : lw_okq (⟨"MarkovDesk$Planner", "beginLeast", "(LMarkovDesk$Answer;)V"⟩, 8) := ⟨⟨by decide +kernel, by decide +kernel⟩, List.mem_of_getElem? (i := 375) (by decide +kernel), List.mem_of_getElem? (i := 1305) (by decide +kernel), List.mem_of_getElem? (i := 1306) (by decide +kernel)⟩
theorem lw_p88 : lw_okq (⟨"MarkovDesk$Planner", "avoidingChoice", "(LMarkovDesk$Answer;I)I"⟩, 8) := ⟨⟨by decide +kernel, by decide +kernel⟩, List.mem_of_getElem? (i := 375) (by decide +kernel), List.mem_of_getElem? (i := 1309) (by decide +kernel), List.mem_of_getElem? (i := 1310) (by decide +kernel)⟩
theorem lw_p89 : lw_okq (⟨"MarkovDesk$Planner", "beginGreatest", "(LMarkovDesk$Answer;)V"⟩, 8) := ⟨⟨by decide +kernel, by decide +kernel⟩, List.mem_of_getElem? (i := 375) (by decide +kernel), List.mem_of_getElem? (i := 1315) (by decide +kernel), List.mem_of_getElem? (i := 1316) (by decide +kernel)⟩
theorem lw_p90 : lw_okq (⟨"MarkovDesk$Planner", "nearingChoice", "(LMarkovDesk$Answer;I)I"⟩, 8) := ⟨⟨by decide +kernel, by decide +kernel⟩, List.mem_of_getElem? (i := 375) (by decide +kernel), List.mem_of_getElem? (i := 1319) (by decide +kernel), List.mem_of_getElem? (i := 1320) (by decide +kernel)⟩
theorem lw_p91 : lw_okq (⟨"MarkovDesk$Planner", "writeEquations", "(LMarkovDesk$Answer;)V"⟩, 8) := ⟨⟨by decide +kernel, by decide +kernel⟩, List.mem_of_getElem? (i := 375) (by decide +kernel), List.mem_of_getElem? (i := 1324) (by decide +kernel), List.mem_of_getElem? (i := 1325) (by decide +kernel)⟩
theorem lw_p92 : lw_okq (⟨"MarkovDesk$Equations", "begin", "(I)V"⟩, 8) := ⟨⟨by decide +kernel, by decide +kernel⟩, List.mem_of_getElem? (i := 381) (by decide +kernel), List.mem_of_getElem? (i := 1328) (by decide +kernel), List.mem_of_getElem? (i := 1329) (by decide +kernel)⟩
theorem lw_p93 : lw_okq (⟨"MarkovDesk$Equations", "cell", "(II)LMarkovDesk$Nat;"⟩, 8) := ⟨⟨by decide +kernel, by decide +kernel⟩, List.mem_of_getElem? (i := 381) (by decide +kernel), List.mem_of_getElem? (i := 1334) (by decide +kernel), List.mem_of_getElem? (i := 1335) (by decide +kernel)⟩
theorem lw_p94 : lw_okq (⟨"MarkovDesk$Planner", "writeEquation", "(LMarkovDesk$Answer;II)V"⟩, 8) := ⟨⟨by decide +kernel, by decide +kernel⟩, List.mem_of_getElem? (i := 375) (by decide +kernel), List.mem_of_getElem? (i := 1338) (by decide +kernel), List.mem_of_getElem? (i := 1339) (by decide +kernel)⟩
theorem lw_p95 : lw_okq (⟨"MarkovDesk$Equations", "eliminate", "()V"⟩, 8) := ⟨⟨by decide +kernel, by decide +kernel⟩, List.mem_of_getElem? (i := 381) (by decide +kernel), List.mem_of_getElem? (i := 1344) (by decide +kernel), List.mem_of_getElem? (i := 1345) (by decide +kernel)⟩
def lw_privs_6 : List (MethodName × Nat) := [(⟨"MarkovDesk$Nat", "trim", "()V"⟩, 2), (⟨"MarkovDesk$Nat", "toQuotient", "(LMarkovDesk$Nat;LMarkovDesk$Nat;)V"⟩, 2), (⟨"MarkovDesk$Nat", "shiftUp", "(I)V"⟩, 2), (⟨"MarkovDesk$Nat", "takeOff", "(LMarkovDesk$Nat;I)I"⟩, 2), (⟨"MarkovDesk$Nat", "addMultiple", "(LMarkovDesk$Nat;JI)J"⟩, 2), (⟨"MarkovDesk$Nat", "shiftDown", "(I)V"⟩, 2), (⟨"MarkovDesk$Planner", "find", "(LMarkovDesk$Answer;)V"⟩, 8), (⟨"MarkovDesk$Planner", "beginLeast", "(LMarkovDesk$Answer;)V"⟩, 8), (⟨"MarkovDesk$Planner", "avoidingChoice", "(LMarkovDesk$Answer;I)I"⟩, 8), (⟨"MarkovDesk$Planner", "beginGreatest", "(LMarkovDesk$Answer;)V"⟩, 8), (⟨"MarkovDesk$Planner", "nearingChoice", "(LMarkovDesk$Answer;I)I"⟩, 8), (⟨"MarkovDesk$Planner", "writeEquations", "(LMarkovDesk$Answer;)V"⟩, 8), (⟨"MarkovDesk$Equations", "begin", "(I)V"⟩, 8), (⟨"MarkovDesk$Equations", "cell", "(II)LMarkovDesk$Nat;"⟩, 8), (⟨"MarkovDesk$Planner", "writeEquation", "(LMarkovDesk$Answer;II)V"⟩, 8), (⟨"MarkovDesk$Equations", "eliminate", "()V"⟩, 8)]
theorem lw_r6 : ∀ q ∈ lw_privs_6, lw_okq q := List.forall_mem_cons.mpr ⟨lw_p80, List.forall_mem_cons.mpr ⟨lw_p81, List.forall_mem_cons.mpr ⟨lw_p82, List.forall_mem_cons.mpr ⟨lw_p83, List.forall_mem_cons.mpr ⟨lw_p84, List.forall_mem_cons.mpr ⟨lw_p85, List.forall_mem_cons.mpr ⟨lw_p86, List.forall_mem_cons.mpr ⟨lw_p87, List.forall_mem_cons.mpr ⟨lw_p88, List.forall_mem_cons.mpr ⟨lw_p89, List.forall_mem_cons.mpr ⟨lw_p90, List.forall_mem_cons.mpr ⟨lw_p91, List.forall_mem_cons.mpr ⟨lw_p92, List.forall_mem_cons.mpr ⟨lw_p93, List.forall_mem_cons.mpr ⟨lw_p94, List.forall_mem_cons.mpr ⟨lw_p95, fun _ h => absurd h List.not_mem_nil⟩⟩⟩⟩⟩⟩⟩⟩⟩⟩⟩⟩⟩⟩⟩⟩
theorem lw_p96 : lw_okq (⟨"MarkovDesk$Equations", "raise", "(I)V"⟩, 8) := ⟨⟨by decide +kernel, by decide +kernel⟩, List.mem_of_getElem? (i := 381) (by decide +kernel), List.mem_of_getElem? (i := 1348) (by decide +kernel), List.mem_of_getElem? (i := 1349) (by decide +kernel)⟩
theorem lw_p97 : lw_okq (⟨"MarkovDesk$Equations", "pivotBefore", "(I)LMarkovDesk$Nat;"⟩, 8) := ⟨⟨by decide +kernel, by decide +kernel⟩, List.mem_of_getElem? (i := 381) (by decide +kernel), List.mem_of_getElem? (i := 1352) (by decide +kernel), List.mem_of_getElem? (i := 1353) (by decide +kernel)⟩
theorem lw_p98 : lw_okq (⟨"MarkovDesk$Nat", "toProduct", "(LMarkovDesk$Nat;LMarkovDesk$Nat;)V"⟩, 2) := ⟨⟨by decide +kernel, by decide +kernel⟩, List.mem_of_getElem? (i := 388) (by decide +kernel), List.mem_of_getElem? (i := 1356) (by decide +kernel), List.mem_of_getElem? (i := 1357) (by decide +kernel)⟩
theorem lw_p99 : lw_okq (⟨"MarkovDesk$Nat", "addProduct", "(LMarkovDesk$Nat;LMarkovDesk$Nat;)V"⟩, 2) := ⟨⟨by decide +kernel, by decide +kernel⟩, List.mem_of_getElem? (i := 388) (by decide +kernel), List.mem_of_getElem? (i := 1360) (by decide +kernel), List.mem_of_getElem? (i := 1361) (by decide +kernel)⟩
theorem lw_p100 : lw_okq (⟨"MarkovDesk$Equations", "sweep", "(II)V"⟩, 8) := ⟨⟨by decide +kernel, by decide +kernel⟩, List.mem_of_getElem? (i := 381) (by decide +kernel), List.mem_of_getElem? (i := 1365) (by decide +kernel), List.mem_of_getElem? (i := 1366) (by decide +kernel)⟩
theorem lw_p101 : lw_okq (⟨"MarkovDesk$Nat", "subtract", "(LMarkovDesk$Nat;)V"⟩, 2) := ⟨⟨by decide +kernel, by decide +kernel⟩, List.mem_of_getElem? (i := 388) (by decide +kernel), List.mem_of_getElem? (i := 1369) (by decide +kernel), List.mem_of_getElem? (i := 1370) (by decide +kernel)⟩
theorem lw_p102 : lw_okq (⟨"MarkovDesk$Equations", "determinant", "()LMarkovDesk$Nat;"⟩, 8) := ⟨⟨by decide +kernel, by decide +kernel⟩, List.mem_of_getElem? (i := 381) (by decide +kernel), List.mem_of_getElem? (i := 1374) (by decide +kernel), List.mem_of_getElem? (i := 1375) (by decide +kernel)⟩
theorem lw_p103 : lw_okq (⟨"MarkovDesk$Planner", "readSolution", "(LMarkovDesk$Answer;)V"⟩, 8) := ⟨⟨by decide +kernel, by decide +kernel⟩, List.mem_of_getElem? (i := 375) (by decide +kernel), List.mem_of_getElem? (i := 1378) (by decide +kernel), List.mem_of_getElem? (i := 1379) (by decide +kernel)⟩
theorem lw_p104 : lw_okq (⟨"MarkovDesk$Planner", "improve", "(LMarkovDesk$Answer;)Z"⟩, 8) := ⟨⟨by decide +kernel, by decide +kernel⟩, List.mem_of_getElem? (i := 375) (by decide +kernel), List.mem_of_getElem? (i := 1384) (by decide +kernel), List.mem_of_getElem? (i := 1385) (by decide +kernel)⟩
theorem lw_p105 : lw_okq (⟨"MarkovDesk$Planner", "bestChoice", "(LMarkovDesk$Answer;I)I"⟩, 8) := ⟨⟨by decide +kernel, by decide +kernel⟩, List.mem_of_getElem? (i := 375) (by decide +kernel), List.mem_of_getElem? (i := 1388) (by decide +kernel), List.mem_of_getElem? (i := 1389) (by decide +kernel)⟩
theorem lw_p106 : lw_okq (⟨"MarkovDesk$Planner", "isBetter", "(LMarkovDesk$Answer;LMarkovDesk$Nat;JLMarkovDesk$Nat;J)Z"⟩, 8) := ⟨⟨by decide +kernel, by decide +kernel⟩, List.mem_of_getElem? (i := 375) (by decide +kernel), List.mem_of_getElem? (i := 1393) (by decide +kernel), List.mem_of_getElem? (i := 1394) (by decide +kernel)⟩
theorem lw_p107 : lw_okq (⟨"MarkovDesk", "requireState", "(I)V"⟩, 13) := ⟨⟨by decide +kernel, by decide +kernel⟩, List.mem_of_getElem? (i := 32) (by decide +kernel), List.mem_of_getElem? (i := 1409) (by decide +kernel), List.mem_of_getElem? (i := 1410) (by decide +kernel)⟩
theorem lw_p108 : lw_okq (⟨"MarkovDesk$Walk", "go", "(LMarkovDesk$Answer;II)V"⟩, 10) := ⟨⟨by decide +kernel, by decide +kernel⟩, List.mem_of_getElem? (i := 513) (by decide +kernel), List.mem_of_getElem? (i := 1421) (by decide +kernel), List.mem_of_getElem? (i := 1422) (by decide +kernel)⟩
theorem lw_p109 : lw_okq (⟨"MarkovDesk$Walk", "step", "(LMarkovDesk$Answer;)V"⟩, 10) := ⟨⟨by decide +kernel, by decide +kernel⟩, List.mem_of_getElem? (i := 513) (by decide +kernel), List.mem_of_getElem? (i := 1426) (by decide +kernel), List.mem_of_getElem? (i := 1427) (by decide +kernel)⟩
theorem lw_p110 : lw_okq (⟨"MarkovDesk$Walk", "findCommon", "(LMarkovDesk$Answer;)V"⟩, 10) := ⟨⟨by decide +kernel, by decide +kernel⟩, List.mem_of_getElem? (i := 513) (by decide +kernel), List.mem_of_getElem? (i := 1430) (by decide +kernel), List.mem_of_getElem? (i := 1431) (by decide +kernel)⟩
theorem lw_p111 : lw_okq (⟨"MarkovDesk$Walk", "spread", "(II)V"⟩, 10) := ⟨⟨by decide +kernel, by decide +kernel⟩, List.mem_of_getElem? (i := 513) (by decide +kernel), List.mem_of_getElem? (i := 1440) (by decide +kernel), List.mem_of_getElem? (i := 1441) (by decide +kernel)⟩
def lw_privs_7 : List (MethodName × Nat) := [(⟨"MarkovDesk$Equations", "raise", "(I)V"⟩, 8), (⟨"MarkovDesk$Equations", "pivotBefore", "(I)LMarkovDesk$Nat;"⟩, 8), (⟨"MarkovDesk$Nat", "toProduct", "(LMarkovDesk$Nat;LMarkovDesk$Nat;)V"⟩, 2), (⟨"MarkovDesk$Nat", "addProduct", "(LMarkovDesk$Nat;LMarkovDesk$Nat;)V"⟩, 2), (⟨"MarkovDesk$Equations", "sweep", "(II)V"⟩, 8), (⟨"MarkovDesk$Nat", "subtract", "(LMarkovDesk$Nat;)V"⟩, 2), (⟨"MarkovDesk$Equations", "determinant", "()LMarkovDesk$Nat;"⟩, 8), (⟨"MarkovDesk$Planner", "readSolution", "(LMarkovDesk$Answer;)V"⟩, 8), (⟨"MarkovDesk$Planner", "improve", "(LMarkovDesk$Answer;)Z"⟩, 8), (⟨"MarkovDesk$Planner", "bestChoice", "(LMarkovDesk$Answer;I)I"⟩, 8), (⟨"MarkovDesk$Planner", "isBetter", "(LMarkovDesk$Answer;LMarkovDesk$Nat;JLMarkovDesk$Nat;J)Z"⟩, 8), (⟨"MarkovDesk", "requireState", "(I)V"⟩, 13), (⟨"MarkovDesk$Walk", "go", "(LMarkovDesk$Answer;II)V"⟩, 10), (⟨"MarkovDesk$Walk", "step", "(LMarkovDesk$Answer;)V"⟩, 10), (⟨"MarkovDesk$Walk", "findCommon", "(LMarkovDesk$Answer;)V"⟩, 10), (⟨"MarkovDesk$Walk", "spread", "(II)V"⟩, 10)]
theorem lw_r7 : ∀ q ∈ lw_privs_7, lw_okq q := List.forall_mem_cons.mpr ⟨lw_p96, List.forall_mem_cons.mpr ⟨lw_p97, List.forall_mem_cons.mpr ⟨lw_p98, List.forall_mem_cons.mpr ⟨lw_p99, List.forall_mem_cons.mpr ⟨lw_p100, List.forall_mem_cons.mpr ⟨lw_p101, List.forall_mem_cons.mpr ⟨lw_p102, List.forall_mem_cons.mpr ⟨lw_p103, List.forall_mem_cons.mpr ⟨lw_p104, List.forall_mem_cons.mpr ⟨lw_p105, List.forall_mem_cons.mpr ⟨lw_p106, List.forall_mem_cons.mpr ⟨lw_p107, List.forall_mem_cons.mpr ⟨lw_p108, List.forall_mem_cons.mpr ⟨lw_p109, List.forall_mem_cons.mpr ⟨lw_p110, List.forall_mem_cons.mpr ⟨lw_p111, fun _ h => absurd h List.not_mem_nil⟩⟩⟩⟩⟩⟩⟩⟩⟩⟩⟩⟩⟩⟩⟩⟩
theorem lw_p112 : lw_okq (⟨"MarkovDesk$Space", "targets", "()I"⟩, 19) := ⟨⟨by decide +kernel, by decide +kernel⟩, List.mem_of_getElem? (i := 286) (by decide +kernel), List.mem_of_getElem? (i := 1484) (by decide +kernel), List.mem_of_getElem? (i := 1485) (by decide +kernel)⟩
theorem lw_p113 : lw_okq (⟨"MarkovDeskModel", "rooms", "()V"⟩, 104) := ⟨⟨by decide +kernel, by decide +kernel⟩, List.mem_of_getElem? (i := 1488) (by decide +kernel), List.mem_of_getElem? (i := 1550) (by decide +kernel), List.mem_of_getElem? (i := 1551) (by decide +kernel)⟩
theorem lw_p114 : lw_okq (⟨"MarkovDeskModel", "fails", "(ZI)Z"⟩, 104) := ⟨⟨by decide +kernel, by decide +kernel⟩, List.mem_of_getElem? (i := 1488) (by decide +kernel), List.mem_of_getElem? (i := 1884) (by decide +kernel), List.mem_of_getElem? (i := 1885) (by decide +kernel)⟩
theorem lw_p115 : lw_okq (⟨"MarkovDeskModel", "bad", "(I)Z"⟩, 104) := ⟨⟨by decide +kernel, by decide +kernel⟩, List.mem_of_getElem? (i := 1488) (by decide +kernel), List.mem_of_getElem? (i := 1899) (by decide +kernel), List.mem_of_getElem? (i := 1900) (by decide +kernel)⟩
theorem lw_p116 : lw_okq (⟨"MarkovDeskModel", "model", "()Z"⟩, 104) := ⟨⟨by decide +kernel, by decide +kernel⟩, List.mem_of_getElem? (i := 1488) (by decide +kernel), List.mem_of_getElem? (i := 1903) (by decide +kernel), List.mem_of_getElem? (i := 1904) (by decide +kernel)⟩
theorem lw_p117 : lw_okq (⟨"MarkovDeskModel", "begin", "()Z"⟩, 104) := ⟨⟨by decide +kernel, by decide +kernel⟩, List.mem_of_getElem? (i := 1488) (by decide +kernel), List.mem_of_getElem? (i := 1907) (by decide +kernel), List.mem_of_getElem? (i := 1908) (by decide +kernel)⟩
theorem lw_p118 : lw_okq (⟨"MarkovDeskModel", "next", "()Z"⟩, 104) := ⟨⟨by decide +kernel, by decide +kernel⟩, List.mem_of_getElem? (i := 1488) (by decide +kernel), List.mem_of_getElem? (i := 1911) (by decide +kernel), List.mem_of_getElem? (i := 1912) (by decide +kernel)⟩
theorem lw_p119 : lw_okq (⟨"MarkovDeskModel", "c", "(I)I"⟩, 104) := ⟨⟨by decide +kernel, by decide +kernel⟩, List.mem_of_getElem? (i := 1488) (by decide +kernel), List.mem_of_getElem? (i := 1915) (by decide +kernel), List.mem_of_getElem? (i := 1916) (by decide +kernel)⟩
theorem lw_p120 : lw_okq (⟨"MarkovDeskModel", "stands", "(Ljava/lang/String;)Z"⟩, 104) := ⟨⟨by decide +kernel, by decide +kernel⟩, List.mem_of_getElem? (i := 1488) (by decide +kernel), List.mem_of_getElem? (i := 1925) (by decide +kernel), List.mem_of_getElem? (i := 1926) (by decide +kernel)⟩
theorem lw_p121 : lw_okq (⟨"MarkovDeskModel", "number", "()Z"⟩, 104) := ⟨⟨by decide +kernel, by decide +kernel⟩, List.mem_of_getElem? (i := 1488) (by decide +kernel), List.mem_of_getElem? (i := 1931) (by decide +kernel), List.mem_of_getElem? (i := 1932) (by decide +kernel)⟩
theorem lw_p122 : lw_okq (⟨"MarkovDeskModel", "need", "(Ljava/lang/String;)Z"⟩, 104) := ⟨⟨by decide +kernel, by decide +kernel⟩, List.mem_of_getElem? (i := 1488) (by decide +kernel), List.mem_of_getElem? (i := 1935) (by decide +kernel), List.mem_of_getElem? (i := 1936) (by decide +kernel)⟩
theorem lw_p123 : lw_okq (⟨"MarkovDeskModel", "is", "(Ljava/lang/String;)Z"⟩, 104) := ⟨⟨by decide +kernel, by decide +kernel⟩, List.mem_of_getElem? (i := 1488) (by decide +kernel), List.mem_of_getElem? (i := 1939) (by decide +kernel), List.mem_of_getElem? (i := 1940) (by decide +kernel)⟩
theorem lw_p124 : lw_okq (⟨"MarkovDeskModel", "constant", "()Z"⟩, 104) := ⟨⟨by decide +kernel, by decide +kernel⟩, List.mem_of_getElem? (i := 1488) (by decide +kernel), List.mem_of_getElem? (i := 1951) (by decide +kernel), List.mem_of_getElem? (i := 1952) (by decide +kernel)⟩
theorem lw_p125 : lw_okq (⟨"MarkovDeskModel", "fresh", "()Z"⟩, 104) := ⟨⟨by decide +kernel, by decide +kernel⟩, List.mem_of_getElem? (i := 1488) (by decide +kernel), List.mem_of_getElem? (i := 1955) (by decide +kernel), List.mem_of_getElem? (i := 1956) (by decide +kernel)⟩
theorem lw_p126 : lw_okq (⟨"MarkovDeskModel", "named", "()I"⟩, 104) := ⟨⟨by decide +kernel, by decide +kernel⟩, List.mem_of_getElem? (i := 1488) (by decide +kernel), List.mem_of_getElem? (i := 1959) (by decide +kernel), List.mem_of_getElem? (i := 1960) (by decide +kernel)⟩
theorem lw_p127 : lw_okq (⟨"MarkovDeskModel", "sameLetters", "(IIII)Z"⟩, 104) := ⟨⟨by decide +kernel, by decide +kernel⟩, List.mem_of_getElem? (i := 1488) (by decide +kernel), List.mem_of_getElem? (i := 1963) (by decide +kernel), List.mem_of_getElem? (i := 1964) (by decide +kernel)⟩
def lw_privs_8 : List (MethodName × Nat) := [(⟨"MarkovDesk$Space", "targets", "()I"⟩, 19), (⟨"MarkovDeskModel", "rooms", "()V"⟩, 104), (⟨"MarkovDeskModel", "fails", "(ZI)Z"⟩, 104), (⟨"MarkovDeskModel", "bad", "(I)Z"⟩, 104), (⟨"MarkovDeskModel", "model", "()Z"⟩, 104), (⟨"MarkovDeskModel", "begin", "()Z"⟩, 104), (⟨"MarkovDeskModel", "next", "()Z"⟩, 104), (⟨"MarkovDeskModel", "c", "(I)I"⟩, 104), (⟨"MarkovDeskModel", "stands", "(Ljava/lang/String;)Z"⟩, 104), (⟨"MarkovDeskModel", "number", "()Z"⟩, 104), (⟨"MarkovDeskModel", "need", "(Ljava/lang/String;)Z"⟩, 104), (⟨"MarkovDeskModel", "is", "(Ljava/lang/String;)Z"⟩, 104), (⟨"MarkovDeskModel", "constant", "()Z"⟩, 104), (⟨"MarkovDeskModel", "fresh", "()Z"⟩, 104), (⟨"MarkovDeskModel", "named", "()I"⟩, 104), (⟨"MarkovDeskModel", "sameLetters", "(IIII)Z"⟩, 104)]
theorem lw_r8 : ∀ q ∈ lw_privs_8, lw_okq q := List.forall_mem_cons.mpr ⟨lw_p112, List.forall_mem_cons.mpr ⟨lw_p113, List.forall_mem_cons.mpr ⟨lw_p114, List.forall_mem_cons.mpr ⟨lw_p115, List.forall_mem_cons.mpr ⟨lw_p116, List.forall_mem_cons.mpr ⟨lw_p117, List.forall_mem_cons.mpr ⟨lw_p118, List.forall_mem_cons.mpr ⟨lw_p119, List.forall_mem_cons.mpr ⟨lw_p120, List.forall_mem_cons.mpr ⟨lw_p121, List.forall_mem_cons.mpr ⟨lw_p122, List.forall_mem_cons.mpr ⟨lw_p123, List.forall_mem_cons.mpr ⟨lw_p124, List.forall_mem_cons.mpr ⟨lw_p125, List.forall_mem_cons.mpr ⟨lw_p126, List.forall_mem_cons.mpr ⟨lw_p127, fun _ h => absurd h List.not_mem_nil⟩⟩⟩⟩⟩⟩⟩⟩⟩⟩⟩⟩⟩⟩⟩⟩
theorem lw_p128 : lw_okq (⟨"MarkovDeskModel", "whole", "(Z)I"⟩, 104) := ⟨⟨by decide +kernel, by decide +kernel⟩, List.mem_of_getElem? (i := 1488) (by decide +kernel), List.mem_of_getElem? (i := 1967) (by decide +kernel), List.mem_of_getElem? (i := 1968) (by decide +kernel)⟩
theorem lw_p129 : lw_okq (⟨"MarkovDeskModel", "expression", "()Z"⟩, 104) := ⟨⟨by decide +kernel, by decide +kernel⟩, List.mem_of_getElem? (i := 1488) (by decide +kernel), List.mem_of_getElem? (i := 1971) (by decide +kernel), List.mem_of_getElem? (i := 1972) (by decide +kernel)⟩
theorem lw_p130 : lw_okq (⟨"MarkovDeskModel", "implied", "()Z"⟩, 104) := ⟨⟨by decide +kernel, by decide +kernel⟩, List.mem_of_getElem? (i := 1488) (by decide +kernel), List.mem_of_getElem? (i := 1975) (by decide +kernel), List.mem_of_getElem? (i := 1976) (by decide +kernel)⟩
theorem lw_p131 : lw_okq (⟨"MarkovDeskModel", "either", "()Z"⟩, 104) := ⟨⟨by decide +kernel, by decide +kernel⟩, List.mem_of_getElem? (i := 1488) (by decide +kernel), List.mem_of_getElem? (i := 1979) (by decide +kernel), List.mem_of_getElem? (i := 1980) (by decide +kernel)⟩
theorem lw_p132 : lw_okq (⟨"MarkovDeskModel", "both", "()Z"⟩, 104) := ⟨⟨by decide +kernel, by decide +kernel⟩, List.mem_of_getElem? (i := 1488) (by decide +kernel), List.mem_of_getElem? (i := 1983) (by decide +kernel), List.mem_of_getElem? (i := 1984) (by decide +kernel)⟩
theorem lw_p133 : lw_okq (⟨"MarkovDeskModel", "not", "()Z"⟩, 104) := ⟨⟨by decide +kernel, by decide +kernel⟩, List.mem_of_getElem? (i := 1488) (by decide +kernel), List.mem_of_getElem? (i := 1987) (by decide +kernel), List.mem_of_getElem? (i := 1988) (by decide +kernel)⟩
theorem lw_p134 : lw_okq (⟨"MarkovDeskModel", "compared", "()Z"⟩, 104) := ⟨⟨by decide +kernel, by decide +kernel⟩, List.mem_of_getElem? (i := 1488) (by decide +kernel), List.mem_of_getElem? (i := 1991) (by decide +kernel), List.mem_of_getElem? (i := 1992) (by decide +kernel)⟩
theorem lw_p135 : lw_okq (⟨"MarkovDeskModel", "sum", "()Z"⟩, 104) := ⟨⟨by decide +kernel, by decide +kernel⟩, List.mem_of_getElem? (i := 1488) (by decide +kernel), List.mem_of_getElem? (i := 1995) (by decide +kernel), List.mem_of_getElem? (i := 1996) (by decide +kernel)⟩
theorem lw_p136 : lw_okq (⟨"MarkovDeskModel", "product", "()Z"⟩, 104) := ⟨⟨by decide +kernel, by decide +kernel⟩, List.mem_of_getElem? (i := 1488) (by decide +kernel), List.mem_of_getElem? (i := 1999) (by decide +kernel), List.mem_of_getElem? (i := 2000) (by decide +kernel)⟩
theorem lw_p137 : lw_okq (⟨"MarkovDeskModel", "factor", "()Z"⟩, 104) := ⟨⟨by decide +kernel, by decide +kernel⟩, List.mem_of_getElem? (i := 1488) (by decide +kernel), List.mem_of_getElem? (i := 2003) (by decide +kernel), List.mem_of_getElem? (i := 2004) (by decide +kernel)⟩
theorem lw_p138 : lw_okq (⟨"MarkovDeskModel", "open", "(I)Z"⟩, 104) := ⟨⟨by decide +kernel, by decide +kernel⟩, List.mem_of_getElem? (i := 1488) (by decide +kernel), List.mem_of_getElem? (i := 2007) (by decide +kernel), List.mem_of_getElem? (i := 2008) (by decide +kernel)⟩
theorem lw_p139 : lw_okq (⟨"MarkovDeskModel", "emit", "(II)I"⟩, 104) := ⟨⟨by decide +kernel, by decide +kernel⟩, List.mem_of_getElem? (i := 1488) (by decide +kernel), List.mem_of_getElem? (i := 2011) (by decide +kernel), List.mem_of_getElem? (i := 2012) (by decide +kernel)⟩
theorem lw_p140 : lw_okq (⟨"MarkovDeskModel", "intOf", "(II)I"⟩, 104) := ⟨⟨by decide +kernel, by decide +kernel⟩, List.mem_of_getElem? (i := 1488) (by decide +kernel), List.mem_of_getElem? (i := 2015) (by decide +kernel), List.mem_of_getElem? (i := 2016) (by decide +kernel)⟩
theorem lw_p141 : lw_okq (⟨"MarkovDeskModel", "comparison", "()I"⟩, 104) := ⟨⟨by decide +kernel, by decide +kernel⟩, List.mem_of_getElem? (i := 1488) (by decide +kernel), List.mem_of_getElem? (i := 2019) (by decide +kernel), List.mem_of_getElem? (i := 2020) (by decide +kernel)⟩
theorem lw_p142 : lw_okq (⟨"MarkovDeskModel", "tell", "(I)I"⟩, 104) := ⟨⟨by decide +kernel, by decide +kernel⟩, List.mem_of_getElem? (i := 1488) (by decide +kernel), List.mem_of_getElem? (i := 2023) (by decide +kernel), List.mem_of_getElem? (i := 2024) (by decide +kernel)⟩
theorem lw_p143 : lw_okq (⟨"MarkovDeskModel", "fit", "(J)I"⟩, 104) := ⟨⟨by decide +kernel, by decide +kernel⟩, List.mem_of_getElem? (i := 1488) (by decide +kernel), List.mem_of_getElem? (i := 2027) (by decide +kernel), List.mem_of_getElem? (i := 2028) (by decide +kernel)⟩
def lw_privs_9 : List (MethodName × Nat) := [(⟨"MarkovDeskModel", "whole", "(Z)I"⟩, 104), (⟨"MarkovDeskModel", "expression", "()Z"⟩, 104), (⟨"MarkovDeskModel", "implied", "()Z"⟩, 104), (⟨"MarkovDeskModel", "either", "()Z"⟩, 104), (⟨"MarkovDeskModel", "both", "()Z"⟩, 104), (⟨"MarkovDeskModel", "not", "()Z"⟩, 104), (⟨"MarkovDeskModel", "compared", "()Z"⟩, 104), (⟨"MarkovDeskModel", "sum", "()Z"⟩, 104), (⟨"MarkovDeskModel", "product", "()Z"⟩, 104), (⟨"MarkovDeskModel", "factor", "()Z"⟩, 104), (⟨"MarkovDeskModel", "open", "(I)Z"⟩, 104), (⟨"MarkovDeskModel", "emit", "(II)I"⟩, 104), (⟨"MarkovDeskModel", "intOf", "(II)I"⟩, 104), (⟨"MarkovDeskModel", "comparison", "()I"⟩, 104), (⟨"MarkovDeskModel", "tell", "(I)I"⟩, 104), (⟨"MarkovDeskModel", "fit", "(J)I"⟩, 104)]
theorem lw_r9 : ∀ q ∈ lw_privs_9, lw_okq q := List.forall_mem_cons.mpr ⟨lw_p128, List.forall_mem_cons.mpr ⟨lw_p129, List.forall_mem_cons.mpr ⟨lw_p130, List.forall_mem_cons.mpr ⟨lw_p131, List.forall_mem_cons.mpr ⟨lw_p132, List.forall_mem_cons.mpr ⟨lw_p133, List.forall_mem_cons.mpr ⟨lw_p134, List.forall_mem_cons.mpr ⟨lw_p135, List.forall_mem_cons.mpr ⟨lw_p136, List.forall_mem_cons.mpr ⟨lw_p137, List.forall_mem_cons.mpr ⟨lw_p138, List.forall_mem_cons.mpr ⟨lw_p139, List.forall_mem_cons.mpr ⟨lw_p140, List.forall_mem_cons.mpr ⟨lw_p141, List.forall_mem_cons.mpr ⟨lw_p142, List.forall_mem_cons.mpr ⟨lw_p143, fun _ h => absurd h List.not_mem_nil⟩⟩⟩⟩⟩⟩⟩⟩⟩⟩⟩⟩⟩⟩⟩⟩
theorem lw_p144 : lw_okq (⟨"MarkovDeskModel", "two", "(III)I"⟩, 104) := ⟨⟨by decide +kernel, by decide +kernel⟩, List.mem_of_getElem? (i := 1488) (by decide +kernel), List.mem_of_getElem? (i := 2031) (by decide +kernel), List.mem_of_getElem? (i := 2032) (by decide +kernel)⟩
theorem lw_p145 : lw_okq (⟨"MarkovDeskModel", "module", "()Z"⟩, 104) := ⟨⟨by decide +kernel, by decide +kernel⟩, List.mem_of_getElem? (i := 1488) (by decide +kernel), List.mem_of_getElem? (i := 2035) (by decide +kernel), List.mem_of_getElem? (i := 2036) (by decide +kernel)⟩
theorem lw_p146 : lw_okq (⟨"MarkovDeskModel", "name", "(II)V"⟩, 104) := ⟨⟨by decide +kernel, by decide +kernel⟩, List.mem_of_getElem? (i := 1488) (by decide +kernel), List.mem_of_getElem? (i := 2039) (by decide +kernel), List.mem_of_getElem? (i := 2040) (by decide +kernel)⟩
theorem lw_p147 : lw_okq (⟨"MarkovDeskModel", "variable", "()Z"⟩, 104) := ⟨⟨by decide +kernel, by decide +kernel⟩, List.mem_of_getElem? (i := 1488) (by decide +kernel), List.mem_of_getElem? (i := 2043) (by decide +kernel), List.mem_of_getElem? (i := 2044) (by decide +kernel)⟩
theorem lw_p148 : lw_okq (⟨"MarkovDeskModel", "bounds", "(I)Z"⟩, 104) := ⟨⟨by decide +kernel, by decide +kernel⟩, List.mem_of_getElem? (i := 1488) (by decide +kernel), List.mem_of_getElem? (i := 2047) (by decide +kernel), List.mem_of_getElem? (i := 2048) (by decide +kernel)⟩
theorem lw_p149 : lw_okq (⟨"MarkovDeskModel", "command", "()Z"⟩, 104) := ⟨⟨by decide +kernel, by decide +kernel⟩, List.mem_of_getElem? (i := 1488) (by decide +kernel), List.mem_of_getElem? (i := 2052) (by decide +kernel), List.mem_of_getElem? (i := 2053) (by decide +kernel)⟩
theorem lw_p150 : lw_okq (⟨"MarkovDeskModel", "update", "(I)Z"⟩, 104) := ⟨⟨by decide +kernel, by decide +kernel⟩, List.mem_of_getElem? (i := 1488) (by decide +kernel), List.mem_of_getElem? (i := 2056) (by decide +kernel), List.mem_of_getElem? (i := 2057) (by decide +kernel)⟩
theorem lw_p151 : lw_okq (⟨"MarkovDeskModel", "chances", "(I)Z"⟩, 104) := ⟨⟨by decide +kernel, by decide +kernel⟩, List.mem_of_getElem? (i := 1488) (by decide +kernel), List.mem_of_getElem? (i := 2060) (by decide +kernel), List.mem_of_getElem? (i := 2061) (by decide +kernel)⟩
theorem lw_p152 : lw_okq (⟨"MarkovDeskModel", "chance", "(I)Z"⟩, 104) := ⟨⟨by decide +kernel, by decide +kernel⟩, List.mem_of_getElem? (i := 1488) (by decide +kernel), List.mem_of_getElem? (i := 2064) (by decide +kernel), List.mem_of_getElem? (i := 2065) (by decide +kernel)⟩
theorem lw_p153 : lw_okq (⟨"MarkovDeskModel", "isOne", "(I)Z"⟩, 104) := ⟨⟨by decide +kernel, by decide +kernel⟩, List.mem_of_getElem? (i := 1488) (by decide +kernel), List.mem_of_getElem? (i := 2068) (by decide +kernel), List.mem_of_getElem? (i := 2069) (by decide +kernel)⟩
theorem lw_p154 : lw_okq (⟨"MarkovDeskModel", "lookAt", "(I)V"⟩, 104) := ⟨⟨by decide +kernel, by decide +kernel⟩, List.mem_of_getElem? (i := 1488) (by decide +kernel), List.mem_of_getElem? (i := 2079) (by decide +kernel), List.mem_of_getElem? (i := 2080) (by decide +kernel)⟩
theorem lw_p155 : lw_okq (⟨"MarkovDeskModel", "choice", "(I)V"⟩, 104) := ⟨⟨by decide +kernel, by decide +kernel⟩, List.mem_of_getElem? (i := 1488) (by decide +kernel), List.mem_of_getElem? (i := 2083) (by decide +kernel), List.mem_of_getElem? (i := 2084) (by decide +kernel)⟩
theorem lw_p156 : lw_okq (⟨"MarkovDeskModel", "begun", "()Z"⟩, 104) := ⟨⟨by decide +kernel, by decide +kernel⟩, List.mem_of_getElem? (i := 1488) (by decide +kernel), List.mem_of_getElem? (i := 2087) (by decide +kernel), List.mem_of_getElem? (i := 2088) (by decide +kernel)⟩
theorem lw_p157 : lw_okq (⟨"MarkovDeskModel", "outcome", "(II)V"⟩, 104) := ⟨⟨by decide +kernel, by decide +kernel⟩, List.mem_of_getElem? (i := 1488) (by decide +kernel), List.mem_of_getElem? (i := 2091) (by decide +kernel), List.mem_of_getElem? (i := 2092) (by decide +kernel)⟩
theorem lw_p158 : lw_okq (⟨"MarkovDeskModel", "inOrder", "(II)I"⟩, 104) := ⟨⟨by decide +kernel, by decide +kernel⟩, List.mem_of_getElem? (i := 1488) (by decide +kernel), List.mem_of_getElem? (i := 2095) (by decide +kernel), List.mem_of_getElem? (i := 2096) (by decide +kernel)⟩
theorem lw_p159 : lw_okq (⟨"MarkovDeskModel", "isState", "(I)Z"⟩, 104) := ⟨⟨by decide +kernel, by decide +kernel⟩, List.mem_of_getElem? (i := 1488) (by decide +kernel), List.mem_of_getElem? (i := 2099) (by decide +kernel), List.mem_of_getElem? (i := 2100) (by decide +kernel)⟩
def lw_privs_10 : List (MethodName × Nat) := [(⟨"MarkovDeskModel", "two", "(III)I"⟩, 104), (⟨"MarkovDeskModel", "module", "()Z"⟩, 104), (⟨"MarkovDeskModel", "name", "(II)V"⟩, 104), (⟨"MarkovDeskModel", "variable", "()Z"⟩, 104), (⟨"MarkovDeskModel", "bounds", "(I)Z"⟩, 104), (⟨"MarkovDeskModel", "command", "()Z"⟩, 104), (⟨"MarkovDeskModel", "update", "(I)Z"⟩, 104), (⟨"MarkovDeskModel", "chances", "(I)Z"⟩, 104), (⟨"MarkovDeskModel", "chance", "(I)Z"⟩, 104), (⟨"MarkovDeskModel", "isOne", "(I)Z"⟩, 104), (⟨"MarkovDeskModel", "lookAt", "(I)V"⟩, 104), (⟨"MarkovDeskModel", "choice", "(I)V"⟩, 104), (⟨"MarkovDeskModel", "begun", "()Z"⟩, 104), (⟨"MarkovDeskModel", "outcome", "(II)V"⟩, 104), (⟨"MarkovDeskModel", "inOrder", "(II)I"⟩, 104), (⟨"MarkovDeskModel", "isState", "(I)Z"⟩, 104)]
theorem lw_r10 : ∀ q ∈ lw_privs_10, lw_okq q := List.forall_mem_cons.mpr ⟨lw_p144, List.forall_mem_cons.mpr ⟨lw_p145, List.forall_mem_cons.mpr ⟨lw_p146, List.forall_mem_cons.mpr ⟨lw_p147, List.forall_mem_cons.mpr ⟨lw_p148, List.forall_mem_cons.mpr ⟨lw_p149, List.forall_mem_cons.mpr ⟨lw_p150, List.forall_mem_cons.mpr ⟨lw_p151, List.forall_mem_cons.mpr ⟨lw_p152, List.forall_mem_cons.mpr ⟨lw_p153, List.forall_mem_cons.mpr ⟨lw_p154, List.forall_mem_cons.mpr ⟨lw_p155, List.forall_mem_cons.mpr ⟨lw_p156, List.forall_mem_cons.mpr ⟨lw_p157, List.forall_mem_cons.mpr ⟨lw_p158, List.forall_mem_cons.mpr ⟨lw_p159, fun _ h => absurd h List.not_mem_nil⟩⟩⟩⟩⟩⟩⟩⟩⟩⟩⟩⟩⟩⟩⟩⟩
theorem lw_p160 : lw_okq (⟨"MarkovDeskModel$Whole", "trim", "()V"⟩, 2) := ⟨⟨by decide +kernel, by decide +kernel⟩, List.mem_of_getElem? (i := 1535) (by decide +kernel), List.mem_of_getElem? (i := 2112) (by decide +kernel), List.mem_of_getElem? (i := 2113) (by decide +kernel)⟩
theorem lw_p161 : lw_okq (⟨"MarkovDeskModel", "lowest", "(LMarkovDeskModel$Whole;LMarkovDeskModel$Whole;)V"⟩, 104) := ⟨⟨by decide +kernel, by decide +kernel⟩, List.mem_of_getElem? (i := 1488) (by decide +kernel), List.mem_of_getElem? (i := 2129) (by decide +kernel), List.mem_of_getElem? (i := 2130) (by decide +kernel)⟩
theorem lw_p162 : lw_okq (⟨"MarkovDeskModel", "common", "(LMarkovDeskModel$Whole;LMarkovDeskModel$Whole;)V"⟩, 104) := ⟨⟨by decide +kernel, by decide +kernel⟩, List.mem_of_getElem? (i := 1488) (by decide +kernel), List.mem_of_getElem? (i := 2133) (by decide +kernel), List.mem_of_getElem? (i := 2134) (by decide +kernel)⟩
theorem lw_p163 : lw_okq (⟨"MarkovDeskModel$Whole", "guess", "(LMarkovDeskModel$Whole;)I"⟩, 2) := ⟨⟨by decide +kernel, by decide +kernel⟩, List.mem_of_getElem? (i := 1535) (by decide +kernel), List.mem_of_getElem? (i := 2145) (by decide +kernel), List.mem_of_getElem? (i := 2146) (by decide +kernel)⟩
theorem lw_p164 : lw_okq (⟨"MarkovDeskModel$Whole", "lessTimes", "(LMarkovDeskModel$Whole;I)V"⟩, 2) := ⟨⟨by decide +kernel, by decide +kernel⟩, List.mem_of_getElem? (i := 1535) (by decide +kernel), List.mem_of_getElem? (i := 2149) (by decide +kernel), List.mem_of_getElem? (i := 2150) (by decide +kernel)⟩
theorem lw_p165 : lw_okq (⟨"MarkovDeskModel", "together", "(I)V"⟩, 104) := ⟨⟨by decide +kernel, by decide +kernel⟩, List.mem_of_getElem? (i := 1488) (by decide +kernel), List.mem_of_getElem? (i := 2153) (by decide +kernel), List.mem_of_getElem? (i := 2154) (by decide +kernel)⟩
theorem lw_p166 : lw_okq (⟨"MarkovDeskModel", "ahead", "(III)I"⟩, 104) := ⟨⟨by decide +kernel, by decide +kernel⟩, List.mem_of_getElem? (i := 1488) (by decide +kernel), List.mem_of_getElem? (i := 2157) (by decide +kernel), List.mem_of_getElem? (i := 2158) (by decide +kernel)⟩
theorem lw_p167 : lw_okq (⟨"MarkovDeskModel", "find", "(I)V"⟩, 104) := ⟨⟨by decide +kernel, by decide +kernel⟩, List.mem_of_getElem? (i := 1488) (by decide +kernel), List.mem_of_getElem? (i := 2165) (by decide +kernel), List.mem_of_getElem? (i := 2166) (by decide +kernel)⟩
theorem lw_p168 : lw_okq (⟨"MarkovDeskModel", "begin", "(I)V"⟩, 104) := ⟨⟨by decide +kernel, by decide +kernel⟩, List.mem_of_getElem? (i := 1488) (by decide +kernel), List.mem_of_getElem? (i := 2169) (by decide +kernel), List.mem_of_getElem? (i := 2170) (by decide +kernel)⟩
theorem lw_p169 : lw_okq (⟨"MarkovDeskModel", "lastChoice", "(I)I"⟩, 104) := ⟨⟨by decide +kernel, by decide +kernel⟩, List.mem_of_getElem? (i := 1488) (by decide +kernel), List.mem_of_getElem? (i := 2173) (by decide +kernel), List.mem_of_getElem? (i := 2174) (by decide +kernel)⟩
theorem lw_p170 : lw_okq (⟨"MarkovDeskModel", "goes", "(I[ZZ)Z"⟩, 104) := ⟨⟨by decide +kernel, by decide +kernel⟩, List.mem_of_getElem? (i := 1488) (by decide +kernel), List.mem_of_getElem? (i := 2177) (by decide +kernel), List.mem_of_getElem? (i := 2178) (by decide +kernel)⟩
theorem lw_p171 : lw_okq (⟨"MarkovDeskModel", "values", "(I)V"⟩, 104) := ⟨⟨by decide +kernel, by decide +kernel⟩, List.mem_of_getElem? (i := 1488) (by decide +kernel), List.mem_of_getElem? (i := 2181) (by decide +kernel), List.mem_of_getElem? (i := 2182) (by decide +kernel)⟩
theorem lw_p172 : lw_okq (⟨"MarkovDeskModel", "baseOf", "(I)V"⟩, 104) := ⟨⟨by decide +kernel, by decide +kernel⟩, List.mem_of_getElem? (i := 1488) (by decide +kernel), List.mem_of_getElem? (i := 2185) (by decide +kernel), List.mem_of_getElem? (i := 2186) (by decide +kernel)⟩
theorem lw_p173 : lw_okq (⟨"MarkovDeskModel", "chanceOf", "(ILMarkovDeskModel$Whole;)V"⟩, 104) := ⟨⟨by decide +kernel, by decide +kernel⟩, List.mem_of_getElem? (i := 1488) (by decide +kernel), List.mem_of_getElem? (i := 2189) (by decide +kernel), List.mem_of_getElem? (i := 2190) (by decide +kernel)⟩
theorem lw_p174 : lw_okq (⟨"MarkovDeskModel", "step", "(LMarkovDeskModel$Whole;LMarkovDeskModel$Whole;LMarkovDeskModel$Whole;IZ)V"⟩, 104) := ⟨⟨by decide +kernel, by decide +kernel⟩, List.mem_of_getElem? (i := 1488) (by decide +kernel), List.mem_of_getElem? (i := 2197) (by decide +kernel), List.mem_of_getElem? (i := 2198) (by decide +kernel)⟩
theorem lw_p175 : lw_okq (⟨"MarkovDeskModel", "sumOf", "(II)V"⟩, 104) := ⟨⟨by decide +kernel, by decide +kernel⟩, List.mem_of_getElem? (i := 1488) (by decide +kernel), List.mem_of_getElem? (i := 2201) (by decide +kernel), List.mem_of_getElem? (i := 2202) (by decide +kernel)⟩
def lw_privs_11 : List (MethodName × Nat) := [(⟨"MarkovDeskModel$Whole", "trim", "()V"⟩, 2), (⟨"MarkovDeskModel", "lowest", "(LMarkovDeskModel$Whole;LMarkovDeskModel$Whole;)V"⟩, 104), (⟨"MarkovDeskModel", "common", "(LMarkovDeskModel$Whole;LMarkovDeskModel$Whole;)V"⟩, 104), (⟨"MarkovDeskModel$Whole", "guess", "(LMarkovDeskModel$Whole;)I"⟩, 2), (⟨"MarkovDeskModel$Whole", "lessTimes", "(LMarkovDeskModel$Whole;I)V"⟩, 2), (⟨"MarkovDeskModel", "together", "(I)V"⟩, 104), (⟨"MarkovDeskModel", "ahead", "(III)I"⟩, 104), (⟨"MarkovDeskModel", "find", "(I)V"⟩, 104), (⟨"MarkovDeskModel", "begin", "(I)V"⟩, 104), (⟨"MarkovDeskModel", "lastChoice", "(I)I"⟩, 104), (⟨"MarkovDeskModel", "goes", "(I[ZZ)Z"⟩, 104), (⟨"MarkovDeskModel", "values", "(I)V"⟩, 104), (⟨"MarkovDeskModel", "baseOf", "(I)V"⟩, 104), (⟨"MarkovDeskModel", "chanceOf", "(ILMarkovDeskModel$Whole;)V"⟩, 104), (⟨"MarkovDeskModel", "step", "(LMarkovDeskModel$Whole;LMarkovDeskModel$Whole;LMarkovDeskModel$Whole;IZ)V"⟩, 104), (⟨"MarkovDeskModel", "sumOf", "(II)V"⟩, 104)]
theorem lw_r11 : ∀ q ∈ lw_privs_11, lw_okq q := List.forall_mem_cons.mpr ⟨lw_p160, List.forall_mem_cons.mpr ⟨lw_p161, List.forall_mem_cons.mpr ⟨lw_p162, List.forall_mem_cons.mpr ⟨lw_p163, List.forall_mem_cons.mpr ⟨lw_p164, List.forall_mem_cons.mpr ⟨lw_p165, List.forall_mem_cons.mpr ⟨lw_p166, List.forall_mem_cons.mpr ⟨lw_p167, List.forall_mem_cons.mpr ⟨lw_p168, List.forall_mem_cons.mpr ⟨lw_p169, List.forall_mem_cons.mpr ⟨lw_p170, List.forall_mem_cons.mpr ⟨lw_p171, List.forall_mem_cons.mpr ⟨lw_p172, List.forall_mem_cons.mpr ⟨lw_p173, List.forall_mem_cons.mpr ⟨lw_p174, List.forall_mem_cons.mpr ⟨lw_p175, fun _ h => absurd h List.not_mem_nil⟩⟩⟩⟩⟩⟩⟩⟩⟩⟩⟩⟩⟩⟩⟩⟩
def lw_privs : List (MethodName × Nat) := lw_privs_1 ++ (lw_privs_2 ++ (lw_privs_3 ++ (lw_privs_4 ++ (lw_privs_5 ++ (lw_privs_6 ++ (lw_privs_7 ++ (lw_privs_8 ++ (lw_privs_9 ++ (lw_privs_10 ++ (lw_privs_11))))))))))
def lw_tbl : List Cond := k2_sels lw_privs ++ tables_1
theorem lw_privs_ok : ∀ q ∈ lw_privs, lw_okq q := by
  show ∀ q ∈ lw_privs_1 ++ (lw_privs_2 ++ (lw_privs_3 ++ (lw_privs_4 ++ (lw_privs_5 ++ (lw_privs_6 ++ (lw_privs_7 ++ (lw_privs_8 ++ (lw_privs_9 ++ (lw_privs_10 ++ (lw_privs_11)))))))))), lw_okq q
  exact List.forall_mem_append.mpr ⟨lw_r1, List.forall_mem_append.mpr ⟨lw_r2, List.forall_mem_append.mpr ⟨lw_r3, List.forall_mem_append.mpr ⟨lw_r4, List.forall_mem_append.mpr ⟨lw_r5, List.forall_mem_append.mpr ⟨lw_r6, List.forall_mem_append.mpr ⟨lw_r7, List.forall_mem_append.mpr ⟨lw_r8, List.forall_mem_append.mpr ⟨lw_r9, List.forall_mem_append.mpr ⟨lw_r10, lw_r11⟩⟩⟩⟩⟩⟩⟩⟩⟩⟩
end
section
/-! calls by a contract that may return or throw -/
def mm_End (st t : State) (L : List Loc) (k n : Nat) : Prop := st.WarmedH t.vm ∧ st.sameButNew ({ t with vm := st.vm } : State) L k n
def mm_C (l : Launch) (y : MethodName) (ws : List Jvm.Cond) (rm : Room) (P : Array Value → State → Prop) (Q : Array Value → State → Outcome → State → List Loc → Nat → Nat → Prop) : Prop :=
  MetFree l y (headSpec ws rm) P (fun _ _ _ _ _ => True) (fun a st o t => ∃ L k n, mm_End st t L k n ∧ Q a st o t L k n)
section MB
variable {p : Program} {l : Launch} {e : Env} {R : Room} {s : State} {m : MethodId} {args : Array Value} {below : List Frame} {meth : Method} {c : Code} {T : State} {locs : List Loc} {cells slots : Nat}
set_option maxHeartbeats 4000000 in
theorem mm_back {y : MethodName} {ws : List Jvm.Cond} {rm : Room} {P : Array Value → State → Prop} {Q : Array Value → State → Outcome → State → List Loc → Nat → Nat → Prop}
    (X : Stand p l e R s m args below meth c T locs cells slots) (hM : mm_C l y ws rm P Q) {g : JFrame} {ig : Instr} {len maxL : Nat} {mk : MethodId} {a : Array Value} {methY : Method} {cY : Code} {kY : Class}
    (hg : g.method = m) (hsize : g.locals.size = c.maxLocals) (hdg : decode c.code g.pc = .ok (ig, len)) (hn : T.methodNamed? y = some mk)
    (hmY : T.vm.method? mk = some methY) (hcY : methY.code = some cY) (hlY : cY.maxLocals = maxL) (hkY : T.vm.classes[mk.cls]? = some kY) (hinitY : kY.init = .initialized)
    (hframes : rm.frames + 1 ≤ R.frames) (hlocals : 2 * g.monitorRoom + (g.stack.map fun v => v.category).sum + (maxL + 11) + rm.locals ≤ R.locals)
    (hcells : cells + rm.cells ≤ R.cells) (hslots : slots + rm.slots ≤ R.slots)
    (hws : ∀ w ∈ ws, w.before a T = true) (hP : P a (T.calling g mk a)) :
    ∃ (o : Outcome) (T' t : State) (L : List Loc) (k n : Nat), Stand p l e R s m args below meth c T' (locs ++ L) (cells + k) (slots + n) ∧ T'.heap = t.heap ∧ T'.vm = t.vm ∧ T.WarmedH T'.vm ∧ Q a (T.calling g mk a) o t L k n ∧
      (∀ v, o = .returned v → Steps p.tables e below (doInvoke e (T.setTop g) [] mk a).1 (T'.setTop { g with pc := g.pc + len, stack := v.toList ++ g.stack })) ∧
      (∀ x, o = .threw x → Steps p.tables e below (doInvoke e (T.setTop g) [] mk a).1 ((T'.setTop g).pushFrame (.throwing x))) := by
  have h : At T g.method c below := by rw [hg]; exact X.here
  have happ : (headSpec ws rm).appliesLoose y e.platform (T.calling g mk a) = true :=
    Spec.appliesLoose_calling (g := g) h hdg hn hkY hinitY
      (X.room_calling (g := g) (R' := rm) hsize hmY hcY hframes (by rw [hlY]; exact hlocals) hcells hslots) (atoms_intro hws)
  obtain ⟨mid, hmid⟩ := h.above
  have hfr : (T.setTop g).frames = (.java g :: mid) ++ below := by rw [State.frames_setTop' g h.top, hmid]; rfl
  obtain ⟨o, s₂, hsteps, -, hend, hq⟩ := Steps.callFree hM p X.admits X.cas X.clock (acts := []) hfr happ hP trivial
  obtain ⟨L, k, n, hfe, hE⟩ := hq
  have hE' : Q a (T.calling g mk a) o s₂ L k n := hE
  rw [State.frames_setTop' g h.top] at hend
  obtain ⟨hW₂, e2, q2, q3, q4, q5, q6⟩ := id hfe
  have hW₂ : (T.calling g mk a).WarmedH s₂.vm := hW₂
  cases o with
  | returned v =>
    have e3 : s₂ = ({ (T.calling g mk a).setFrames s₂.frames with heap := s₂.heap, slotsUsed := s₂.slotsUsed } : State).setVm s₂.vm := by
      have : s₂ = ({ s₂ with vm := (T.calling g mk a).vm } : State).setVm s₂.vm := rfl
      have e2' : ({ s₂ with vm := (T.calling g mk a).vm } : State) = _ := e2
      rw [e2'] at this
      exact this
    obtain ⟨c₂, i₂, len₂, hc₂, hd₂, hf₂⟩ := hend
    have hW' : T.WarmedH s₂.vm := hW₂
    have hcc : c₂ = c := by
      have h1 : s₂.code? g.method = T.code? g.method := by
        rw [State.code?_eq, State.code?_eq, hW'.alike.method?]
      exact Option.some.inj (hc₂.symm.trans (h1.trans h.code))
    subst hcc
    have hlen : len₂ = len := by rw [hdg] at hd₂; cases hd₂; rfl
    subst hlen
    obtain ⟨g₀, hg0⟩ := Option.isSome_iff_exists.mp h.top
    obtain ⟨r, hr⟩ := State.topJava?_eq_some.mp hg0
    have hs₂ : s₂ = (({ T with heap := s₂.heap, slotsUsed := s₂.slotsUsed } : State).setVm s₂.vm).setTop { g with pc := g.pc + len₂, stack := v.toList ++ g.stack } := by
      have hr' : (({ T with heap := s₂.heap, slotsUsed := s₂.slotsUsed } : State).setVm s₂.vm).frames = .java g₀ :: r := hr
      refine e3.trans ?_
      rw [hf₂, State.calling_eq h.top, State.setFrames_setFrames, State.setTop_of_frames _ hr', hr]
      rfl
    have hsame : T.sameButNew ({ T with heap := s₂.heap, slotsUsed := s₂.slotsUsed } : State) L k n := by
      refine ⟨?_, q2, q3, q4, q5, q6⟩
      obtain ⟨t, ht, -⟩ := State.frames_cons hr
      show ({ T with heap := s₂.heap, slotsUsed := s₂.slotsUsed } : State) = { T.setFrames T.frames with heap := s₂.heap, slotsUsed := s₂.slotsUsed }
      rw [State.setFrames_self ht]
    subst hg
    refine ⟨_, (({ T with heap := s₂.heap, slotsUsed := s₂.slotsUsed } : State).setVm s₂.vm), s₂, L, k, n,
      ⟨X.admits, X.cas, X.clock, X.frames, X.room, X.hears, X.method, X.code, (X.here.setHeapUsed s₂.heap s₂.slotsUsed).setVm hW'.alike, X.tail, State.WarmedH.trans X.warmed hW', X.limits, X.bytes, X.same.trans (hsame.setVm s.vm)⟩,
      rfl, rfl, hW', hE', ?_, ?_⟩
    · intro v' hv'
      cases hv'
      rw [← hs₂]
      exact hsteps
    · intro x hx
      cases hx
  | threw x =>
    rw [X.tail] at hend
    obtain ⟨T', X', hWT, hsT, ht⟩ := X.outOfThrown hg (mk := mk) (a := a) (t := s₂) (x := x) (L := L) (k := k) (n := n) hend hW₂ ⟨e2, q2, q3, q4, q5, q6⟩
    have hvm : s₂.vm = T'.vm := by rw [ht]; exact Stand.throwing_vm T' g x
    have hhp : s₂.heap = T'.heap := by rw [ht]; exact Stand.throwing_heap T' g x
    refine ⟨_, T', s₂, L, k, n, X', hhp.symm, hvm.symm, hWT, hE', ?_, ?_⟩
    · intro v hv
      cases hv
    · intro x' hx'
      cases hx'
      rw [← ht]
      exact hsteps
end MB
end
section
/-! the small machine: cells by their numbers, a method's frame as lists -/
abbrev mm_E : Type := (Nat × vp_A) ⊕ (Nat × List Value)
abbrev mm_M : Type := Nat → mm_E
/-- how many cells, how many slots, the cells -/
abbrev mm_S : Type := Nat × Nat × mm_M
abbrev mm_L : Type := List (Option Value)
/-- returned, or thrown: which class, which cell -/
abbrev mm_O : Type := Option Value ⊕ (Nat × Nat)
/-- a pool's entry: a field (class, place), a method, a class, an int, a long, an outer cell -/
abbrev mm_P : Type := (Nat × Nat) ⊕ (Nat ⊕ (Nat ⊕ (Int32 ⊕ (Int64 ⊕ Nat))))
abbrev mm_pF (c k : Nat) : mm_P := .inl (c, k)
abbrev mm_pM (k : Nat) : mm_P := .inr (.inl k)
abbrev mm_pC (k : Nat) : mm_P := .inr (.inr (.inl k))
abbrev mm_pI (v : Int32) : mm_P := .inr (.inr (.inr (.inl v)))
abbrev mm_pJ (v : Int64) : mm_P := .inr (.inr (.inr (.inr (.inl v))))
abbrev mm_pX (k : Nat) : mm_P := .inr (.inr (.inr (.inr (.inr k))))
def mm_big : Nat := 1099511627776
abbrev mm_aI (n : Nat) (f : Nat → Int32) : mm_E := .inl (0, n, .inl f)
abbrev mm_aJ (n : Nat) (f : Nat → Int64) : mm_E := .inl (1, n, .inr (.inl f))
abbrev mm_aZ (n : Nat) (f : Nat → Int32) : mm_E := .inl (2, n, .inl f)
abbrev mm_aA (k n : Nat) (f : Nat → Option Nat) : mm_E := .inl (k, n, .inr (.inr (.inr (.inr f))))
abbrev mm_ob (c : Nat) (fs : List Value) : mm_E := .inr (c, fs)
def mm_ld (ls : mm_L) (i : Nat) : Option Value := (ls[i]?).join
/-- a long before the place loses its second half -/
def mm_cut (ls : mm_L) : Nat → mm_L
  | 0 => ls
  | i + 1 => match mm_ld ls i with
    | some (.long _) => ls.set i none
    | some (.double _) => ls.set i none
    | _ => ls
def mm_s1 (ls : mm_L) (i : Nat) (v : Value) : mm_L := (mm_cut ls i).set i (some v)
def mm_s2 (ls : mm_L) (i : Nat) (v : Value) : mm_L := ((mm_cut ls i).set i (some v)).set (i + 1) none
def mm_inb (j : Int32) (n : Nat) : Bool := decide (0 ≤ j.toInt) && decide (j.toInt < (n : Int))
/-- may the value stand in a field of that type? -/
def mm_fit (ty : FieldType) (v : Value) : Bool := match ty, v with
  | .int, .int _ => true
  | .long, .long _ => true
  | .boolean, .int x => x == 0 || x == 1
  | .object _, .ref _ => true
  | .object _, .null => true
  | .array _, .ref _ => true
  | .array _, .null => true
  | _, _ => false
def mm_icmp (o : ClassFile.Cond) (x y : Int32) : Bool := match o with
  | .eq => decide (x = y)
  | .ne => decide (¬ x = y)
  | .lt => decide (x < y)
  | .ge => decide (y ≤ x)
  | .gt => decide (y < x)
  | .le => decide (x ≤ y)
def mm_up (S : mm_S) (a : Nat) (e : mm_E) : mm_S := (S.1, S.2.1, va_up S.2.2 a e)
def mm_add (S : mm_S) (n : Nat) (e : mm_E) : mm_S := (S.1 + 1, S.2.1 + n, va_up S.2.2 S.1 e)
def mm_i1 (st : List Value) (f : Int32 → Value) : Option (List Value) := match st with
  | .int x :: r => some (f x :: r)
  | _ => none
def mm_i2 (st : List Value) (f : Int32 → Int32 → Value) : Option (List Value) := match st with
  | .int y :: .int x :: r => some (f x y :: r)
  | _ => none
def mm_j1 (st : List Value) (f : Int64 → Value) : Option (List Value) := match st with
  | .long x :: r => some (f x :: r)
  | _ => none
def mm_j2 (st : List Value) (f : Int64 → Int64 → Value) : Option (List Value) := match st with
  | .long y :: .long x :: r => some (f x y :: r)
  | _ => none
def mm_ji (st : List Value) (f : Int64 → Int32 → Value) : Option (List Value) := match st with
  | .int y :: .long x :: r => some (f x y :: r)
  | _ => none
def mm_lcmp (x y : Int64) : Int32 := if x = y then 0 else if x < y then -1 else 1
end
section
/-! how the small machine's cells, locals and values lie in the real one -/
def mm_phi (B : Nat) (ex : Nat → Nat) (k : Nat) : Nat := if k < mm_big then B + k else ex (k - mm_big)
def mm_tv (φ : Nat → Nat) : Value → Value
  | .ref k => .ref (φ k)
  | v => v
def mm_aC (tys : List (ClassId × FieldType)) (k : Nat) : ClassId := (tys.getD k (0, .int)).1
def mm_te (φ : Nat → Nat) (tys : List (ClassId × FieldType)) : mm_E → va_E
  | .inl (k, n, .inl f) => .inl (mm_aC tys k, n, .inl f)
  | .inl (k, n, .inr (.inl f)) => .inl (mm_aC tys k, n, .inr (.inl f))
  | .inl (k, n, .inr (.inr (.inl f))) => .inl (mm_aC tys k, n, .inr (.inr (.inl f)))
  | .inl (k, n, .inr (.inr (.inr (.inl f)))) => .inl (mm_aC tys k, n, .inr (.inr (.inr (.inl f))))
  | .inl (k, n, .inr (.inr (.inr (.inr f)))) => .inl (mm_aC tys k, n, .inr (.inr (.inr (.inr (fun j => (f j).map φ)))))
  | .inr (c, fs) => .inr (c, fs.map (mm_tv φ))
def mm_ws (φ : Nat → Nat) (tys : List (ClassId × FieldType)) (S : mm_S) : va_W := (List.range S.1).map (fun k => (φ k, mm_te φ tys (S.2.2 k)))
theorem mm_ws_at {φ : Nat → Nat} {tys : List (ClassId × FieldType)} {S : mm_S} {k : Nat} (hk : k < S.1) : (mm_ws φ tys S)[k]? = some (φ k, mm_te φ tys (S.2.2 k)) := by
  simp [mm_ws, hk]
theorem mm_ws_len {φ : Nat → Nat} {tys : List (ClassId × FieldType)} {S : mm_S} : (mm_ws φ tys S).length = S.1 := by simp [mm_ws]
theorem mm_ws_up {φ : Nat → Nat} {tys : List (ClassId × FieldType)} {S : mm_S} {k : Nat} (e : mm_E) (hk : k < S.1) : (mm_ws φ tys S).set k (φ k, mm_te φ tys e) = mm_ws φ tys (mm_up S k e) := by
  refine List.ext_getElem? fun j => ?_
  rw [List.getElem?_set]
  by_cases hj : j < S.1
  · have h2 : (mm_ws φ tys (mm_up S k e))[j]? = some (φ j, mm_te φ tys ((mm_up S k e).2.2 j)) := mm_ws_at (S := mm_up S k e) hj
    rw [h2]
    by_cases hjk : k = j
    · subst hjk
      simp [mm_ws_len, hk, mm_up, va_up]
    · rw [if_neg hjk, mm_ws_at hj]
      simp [mm_up, va_up, Ne.symm hjk]
  · have h2 : (mm_ws φ tys (mm_up S k e))[j]? = none := by
      rw [List.getElem?_eq_none_iff, mm_ws_len]
      exact Nat.le_of_not_lt hj
    have h1 : (mm_ws φ tys S)[j]? = none := by
      rw [List.getElem?_eq_none_iff, mm_ws_len]
      exact Nat.le_of_not_lt hj
    have hjk : ¬ k = j := by omega
    rw [h2, if_neg hjk, h1]
theorem mm_ws_add {φ : Nat → Nat} {tys : List (ClassId × FieldType)} {S : mm_S} (n : Nat) (e : mm_E) : mm_ws φ tys S ++ [(φ S.1, mm_te φ tys e)] = mm_ws φ tys (mm_add S n e) := by
  have h1 : (mm_add S n e).1 = S.1 + 1 := rfl
  have h2 : mm_ws φ tys (mm_add S n e) = (List.range (S.1 + 1)).map (fun k => (φ k, mm_te φ tys ((mm_add S n e).2.2 k))) := rfl
  rw [h2, List.range_succ, List.map_append]
  congr 1
  · refine List.map_congr_left fun k hk => ?_
    have hk' : k < S.1 := List.mem_range.mp hk
    have : k ≠ S.1 := by omega
    simp [mm_add, va_up, this]
  · simp [mm_add, va_up]
theorem mm_phi_lt {B : Nat} {ex : Nat → Nat} {k : Nat} (h : k < mm_big) : mm_phi B ex k = B + k := by simp [mm_phi, h]
theorem mm_ws_D {B : Nat} {ex : Nat → Nat} {tys : List (ClassId × FieldType)} {S : mm_S} (hS : S.1 ≤ mm_big) : va_D (fun q => B ≤ q) (mm_ws (mm_phi B ex) tys S) := by
  have key : ∀ (i : Nat) (p : Nat × va_E), (mm_ws (mm_phi B ex) tys S)[i]? = some p → i < S.1 ∧ p.1 = B + i := by
    intro i p h
    have hi : i < S.1 := by
      have := (List.getElem?_eq_some_iff.mp h).1
      rwa [mm_ws_len] at this
    rw [mm_ws_at hi] at h
    cases h
    exact ⟨hi, mm_phi_lt (by omega)⟩
  refine ⟨fun i j p q hp hq he => ?_, fun k q hq => ?_⟩
  · have h1 := (key i p hp).2
    have h2 := (key j q hq).2
    omega
  · have h1 := (key k q hq).2
    show B ≤ q.1
    omega
/-- the locals as the kit lists them -/
def mm_prs (φ : Nat → Nat) (L : mm_L) : List (Nat × Value) := (List.range L.length).filterMap (fun i => (mm_ld L i).map (fun v => (i, mm_tv φ v)))
theorem mm_prs_in {φ : Nat → Nat} {L : mm_L} {i : Nat} {v : Value} (h : mm_ld L i = some v) : (i, mm_tv φ v) ∈ mm_prs φ L := by
  refine List.mem_filterMap.mpr ⟨i, ?_, by rw [h]; rfl⟩
  rw [List.mem_range]
  unfold mm_ld at h
  cases hq : L[i]? with
  | none => rw [hq] at h; cases h
  | some x => exact (List.getElem?_eq_some_iff.mp hq).1
theorem mm_prs_of {φ : Nat → Nat} {L : mm_L} {q : Nat × Value} (h : q ∈ mm_prs φ L) : ∃ v, mm_ld L q.1 = some v ∧ q.2 = mm_tv φ v := by
  obtain ⟨i, -, hi⟩ := List.mem_filterMap.mp h
  cases hv : mm_ld L i with
  | none => rw [hv] at hi; cases hi
  | some v => rw [hv] at hi; cases hi; exact ⟨v, hv, rfl⟩
theorem mm_lv_at {φ : Nat → Nat} {ls : Array Slot} {nL : Nat} {L : mm_L} (h : lv_has ls nL (mm_prs φ L)) {i : Nat} {v : Value} (hi : mm_ld L i = some v) : ls[i]? = some (.val (mm_tv φ v)) := h.2.2 _ (mm_prs_in hi)
theorem mm_tv_cat (φ : Nat → Nat) (v : Value) : (mm_tv φ v).category = v.category := by cases v <;> rfl
theorem mm_lv_mono {ls : Array Slot} {nL : Nat} {l l' : List (Nat × Value)} (h : lv_has ls nL l) (hs : ∀ q ∈ l', q ∈ l) : lv_has ls nL l' := ⟨h.1, h.2.1, fun q hq => h.2.2 q (hs q hq)⟩
theorem mm_ld_set {L : mm_L} {i j : Nat} {x : Option Value} {w : Value} (h : mm_ld (L.set i x) j = some w) : (j = i ∧ x = some w) ∨ (j ≠ i ∧ mm_ld L j = some w) := by
  unfold mm_ld at h ⊢
  rw [List.getElem?_set] at h
  by_cases hij : i = j
  · subst hij
    by_cases hl : i < L.length
    · rw [if_pos rfl, if_pos hl] at h
      exact Or.inl ⟨rfl, by simpa using h⟩
    · rw [if_pos rfl, if_neg hl] at h
      cases h
  · rw [if_neg hij] at h
    exact Or.inr ⟨Ne.symm hij, h⟩
theorem mm_ld_cut {L : mm_L} {i j : Nat} {w : Value} (h : mm_ld (mm_cut L i) j = some w) : mm_ld L j = some w ∧ ¬ (j + 1 = i ∧ w.category = 2) := by
  cases i with
  | zero => exact ⟨h, by omega⟩
  | succ i =>
    simp only [mm_cut] at h
    split at h
    · rcases mm_ld_set h with ⟨-, h2⟩ | ⟨h1, h2⟩
      · cases h2
      · exact ⟨h2, by omega⟩
    · rcases mm_ld_set h with ⟨-, h2⟩ | ⟨h1, h2⟩
      · cases h2
      · exact ⟨h2, by omega⟩
    · rename_i n1 n2
      refine ⟨h, fun ⟨e1, e2⟩ => ?_⟩
      have : j = i := by omega
      subst this
      cases w with
      | long x => exact n1 x h
      | double x => exact n2 x h
      | int x => simp [Value.category] at e2
      | float x => simp [Value.category] at e2
      | null => simp [Value.category] at e2
      | ref x => simp [Value.category] at e2
      | retAddr x => simp [Value.category] at e2
theorem mm_lv_s1 {φ : Nat → Nat} {ls : Array Slot} {nL : Nat} {L : mm_L} {i : Nat} {v : Value} (h : lv_has ls nL ((i, mm_tv φ v) :: (mm_prs φ L).filter (fun q => !(q.1 == i) && !(q.1 + 1 == i && q.2.category == 2)))) : lv_has ls nL (mm_prs φ (mm_s1 L i v)) := by
  refine mm_lv_mono h fun q hq => ?_
  obtain ⟨w, hw, hq2⟩ := mm_prs_of hq
  obtain ⟨j, x⟩ := q
  dsimp only at hw hq2
  subst hq2
  unfold mm_s1 at hw
  rcases mm_ld_set hw with ⟨h1, h2⟩ | ⟨h1, h2⟩
  · cases h2
    subst h1
    exact List.mem_cons_self
  · obtain ⟨h3, h4⟩ := mm_ld_cut h2
    refine List.mem_cons_of_mem _ (List.mem_filter.mpr ⟨mm_prs_in h3, ?_⟩)
    simp only [mm_tv_cat, Bool.and_eq_true, Bool.not_eq_true', beq_eq_false_iff_ne, ne_eq, Bool.and_eq_false_iff]
    refine ⟨h1, ?_⟩
    by_cases e : j + 1 = i
    · exact Or.inr fun z => h4 ⟨e, z⟩
    · exact Or.inl e
theorem mm_lv_s2 {φ : Nat → Nat} {ls : Array Slot} {nL : Nat} {L : mm_L} {i : Nat} {v : Value} (h : lv_has ls nL ((i, mm_tv φ v) :: (mm_prs φ L).filter (fun q => !(q.1 == i) && (!(q.1 == i + 1) && !(q.1 + 1 == i && q.2.category == 2))))) : lv_has ls nL (mm_prs φ (mm_s2 L i v)) := by
  refine mm_lv_mono h fun q hq => ?_
  obtain ⟨w, hw, hq2⟩ := mm_prs_of hq
  obtain ⟨j, x⟩ := q
  dsimp only at hw hq2
  subst hq2
  unfold mm_s2 at hw
  rcases mm_ld_set hw with ⟨-, h2⟩ | ⟨h0, hw⟩
  · cases h2
  rcases mm_ld_set hw with ⟨h1, h2⟩ | ⟨h1, h2⟩
  · cases h2
    subst h1
    exact List.mem_cons_self
  · obtain ⟨h3, h4⟩ := mm_ld_cut h2
    refine List.mem_cons_of_mem _ (List.mem_filter.mpr ⟨mm_prs_in h3, ?_⟩)
    simp only [mm_tv_cat, Bool.and_eq_true, Bool.not_eq_true', beq_eq_false_iff_ne, ne_eq, Bool.and_eq_false_iff]
    refine ⟨h1, h0, ?_⟩
    by_cases e : j + 1 = i
    · exact Or.inr fun z => h4 ⟨e, z⟩
    · exact Or.inl e
end
section
/-! one instruction of the small machine -/
/-- tables of a program: field types; is the field final; a fresh object's fields; an array kind of a class; the class of an array kind; the room -/
abbrev mm_T : Type := (Nat → Nat → FieldType) × (Nat → Nat → Bool) × (Nat → List Value) × (Nat → Nat) × (Nat → Nat) × (Nat × Nat × Nat × Nat × Nat)
abbrev mm_ft (T : mm_T) := T.1
abbrev mm_fi (T : mm_T) := T.2.1
abbrev mm_fd (T : mm_T) := T.2.2.1
abbrev mm_ka (T : mm_T) := T.2.2.2.1
abbrev mm_kc (T : mm_T) := T.2.2.2.2.1
abbrev mm_lc (T : mm_T) := T.2.2.2.2.2.1
abbrev mm_lsl (T : mm_T) := T.2.2.2.2.2.2.1
abbrev mm_nk (T : mm_T) := T.2.2.2.2.2.2.2.1
abbrev mm_nc (T : mm_T) := T.2.2.2.2.2.2.2.2.1
abbrev mm_nx (T : mm_T) := T.2.2.2.2.2.2.2.2.2
abbrev mm_Kf : Type := Nat × mm_L × List Value × mm_S
def mm_mp (o : Option (List Value)) (nx : Nat) (L : mm_L) (S : mm_S) : Option mm_Kf := match o with
  | some st => some (nx, L, st, S)
  | none => none
def mm_lI (L : mm_L) (i nx : Nat) (st : List Value) (S : mm_S) : Option mm_Kf := match mm_ld L i with
  | some (.int x) => some (nx, L, .int x :: st, S)
  | _ => none
def mm_lJ (L : mm_L) (i nx : Nat) (st : List Value) (S : mm_S) : Option mm_Kf := match mm_ld L i with
  | some (.long x) => some (nx, L, .long x :: st, S)
  | _ => none
def mm_lA (L : mm_L) (i nx : Nat) (st : List Value) (S : mm_S) : Option mm_Kf := match mm_ld L i with
  | some (.ref x) => some (nx, L, .ref x :: st, S)
  | some .null => some (nx, L, .null :: st, S)
  | _ => none
def mm_sI (L : mm_L) (i nx : Nat) (st : List Value) (S : mm_S) : Option mm_Kf := match st with
  | .int x :: r => if i < L.length then some (nx, mm_s1 L i (.int x), r, S) else none
  | _ => none
def mm_sJ (L : mm_L) (i nx : Nat) (st : List Value) (S : mm_S) : Option mm_Kf := match st with
  | .long x :: r => if i + 1 < L.length then some (nx, mm_s2 L i (.long x), r, S) else none
  | _ => none
def mm_sA (L : mm_L) (i nx : Nat) (st : List Value) (S : mm_S) : Option mm_Kf := match st with
  | .ref x :: r => if i < L.length then some (nx, mm_s1 L i (.ref x), r, S) else none
  | .null :: r => if i < L.length then some (nx, mm_s1 L i .null, r, S) else none
  | _ => none
def mm_inc (L : mm_L) (i : Nat) (n : Int) (nx : Nat) (st : List Value) (S : mm_S) : Option mm_Kf := match mm_ld L i with
  | some (.int x) => if i < L.length then some (nx, mm_s1 L i (.int (x + Int32.ofInt n)), st, S) else none
  | _ => none
def mm_if1 (o : ClassFile.Cond) (nx tg : Nat) (L : mm_L) (st : List Value) (S : mm_S) : Option mm_Kf := match st with
  | .int x :: r => some (if mm_icmp o x 0 = true then tg else nx, L, r, S)
  | _ => none
def mm_if2 (o : ClassFile.Cond) (nx tg : Nat) (L : mm_L) (st : List Value) (S : mm_S) : Option mm_Kf := match st with
  | .int y :: .int x :: r => some (if mm_icmp o x y = true then tg else nx, L, r, S)
  | _ => none
def mm_dup (nx : Nat) (L : mm_L) (st : List Value) (S : mm_S) : Option mm_Kf := match st with
  | v :: r => if v.category = 1 then some (nx, L, v :: v :: r, S) else none
  | _ => none
def mm_pop (nx : Nat) (L : mm_L) (st : List Value) (S : mm_S) : Option mm_Kf := match st with
  | v :: r => if v.category = 1 then some (nx, L, r, S) else none
  | _ => none
def mm_dx1 (nx : Nat) (L : mm_L) (st : List Value) (S : mm_S) : Option mm_Kf := match st with
  | v :: u :: r => if v.category = 1 ∧ u.category = 1 then some (nx, L, v :: u :: v :: r, S) else none
  | _ => none
def mm_dp2 (nx : Nat) (L : mm_L) (st : List Value) (S : mm_S) : Option mm_Kf := match st with
  | v :: u :: r => if v.category = 1 ∧ u.category = 1 then some (nx, L, v :: u :: v :: u :: r, S) else none
  | _ => none
def mm_tsw (pc : Nat) (df lo hi : Int) (offs : Array Int) (L : mm_L) (st : List Value) (S : mm_S) : Option mm_Kf := match st with
  | .int x :: r => if x.toInt < lo ∨ hi < x.toInt then (if 0 ≤ (pc : Int) + df then some (((pc : Int) + df).toNat, L, r, S) else none) else match offs[(x.toInt - lo).toNat]? with
    | some off => if 0 ≤ (pc : Int) + off then some (((pc : Int) + off).toNat, L, r, S) else none
    | none => none
  | _ => none
/-- the instructions that look at no cell -/
def mm_st0 (i : Instr) (pc nx tg : Nat) (L : mm_L) (st : List Value) (S : mm_S) : Option mm_Kf := match i with
  | .aconst_null => some (nx, L, .null :: st, S)
  | .iconst n => some (nx, L, .int (Int32.ofInt n) :: st, S)
  | .bipush n => some (nx, L, .int (Int8.ofInt n).toInt32 :: st, S)
  | .sipush n => some (nx, L, .int (Int16.ofInt n).toInt32 :: st, S)
  | .lconst n => some (nx, L, .long (Int64.ofNat (n : Nat)) :: st, S)
  | .iload k => mm_lI L k nx st S
  | .iload_n k => mm_lI L (k : Nat) nx st S
  | .lload k => mm_lJ L k nx st S
  | .lload_n k => mm_lJ L (k : Nat) nx st S
  | .aload k => mm_lA L k nx st S
  | .aload_n k => mm_lA L (k : Nat) nx st S
  | .istore k => mm_sI L k nx st S
  | .istore_n k => mm_sI L (k : Nat) nx st S
  | .lstore k => mm_sJ L k nx st S
  | .lstore_n k => mm_sJ L (k : Nat) nx st S
  | .astore k => mm_sA L k nx st S
  | .astore_n k => mm_sA L (k : Nat) nx st S
  | .iinc k n => mm_inc L k n nx st S
  | .iadd => mm_mp (mm_i2 st fun x y => .int (x + y)) nx L S
  | .isub => mm_mp (mm_i2 st fun x y => .int (x - y)) nx L S
  | .imul => mm_mp (mm_i2 st fun x y => .int (x * y)) nx L S
  | .iand => mm_mp (mm_i2 st fun x y => .int (x &&& y)) nx L S
  | .ior => mm_mp (mm_i2 st fun x y => .int (x ||| y)) nx L S
  | .ishl => mm_mp (mm_i2 st fun x y => .int (x <<< (y &&& 31))) nx L S
  | .ishr => mm_mp (mm_i2 st fun x y => .int (x >>> (y &&& 31))) nx L S
  | .iushr => mm_mp (mm_i2 st fun x y => .int (x.toUInt32 >>> (y.toUInt32 &&& Int32.toUInt32 31)).toInt32) nx L S
  | .ladd => mm_mp (mm_j2 st fun x y => .long (x + y)) nx L S
  | .lsub => mm_mp (mm_j2 st fun x y => .long (x - y)) nx L S
  | .lmul => mm_mp (mm_j2 st fun x y => .long (x * y)) nx L S
  | .land => mm_mp (mm_j2 st fun x y => .long (x &&& y)) nx L S
  | .lor => mm_mp (mm_j2 st fun x y => .long (x ||| y)) nx L S
  | .lshl => mm_mp (mm_ji st fun x y => .long (x <<< (y.toInt64 &&& 63))) nx L S
  | .lshr => mm_mp (mm_ji st fun x y => .long (x >>> (y.toInt64 &&& 63))) nx L S
  | .lushr => mm_mp (mm_ji st fun x y => .long (x.toUInt64 >>> (y.toInt64.toUInt64 &&& Int64.toUInt64 63)).toInt64) nx L S
  | .lcmp => mm_mp (mm_j2 st fun x y => .int (lg_cmp x y)) nx L S
  | .i2l => mm_mp (mm_i1 st fun x => .long x.toInt64) nx L S
  | .l2i => mm_mp (mm_j1 st fun x => .int x.toInt32) nx L S
  | .ifCond o _ => mm_if1 o nx tg L st S
  | .if_icmp o _ => mm_if2 o nx tg L st S
  | .goto _ => some (tg, L, st, S)
  | .dup => mm_dup nx L st S
  | .pop => mm_pop nx L st S
  | .dup_x1 => mm_dx1 nx L st S
  | .dup2 => mm_dp2 nx L st S
  | .tableswitch df lo hi offs => mm_tsw pc df lo hi offs L st S
  | _ => none
/-- how long an instruction is, where it matters -/
def mm_len : Instr → Nat
  | .bipush _ | .iload _ | .lload _ | .aload _ | .istore _ | .lstore _ | .astore _ | .ldc _ | .newarray _ => 2
  | .sipush _ | .iinc _ _ | .ifCond _ _ | .if_icmp _ _ | .goto _ | .getfield _ | .putfield _ | .new _ | .anewarray _ | .ldc_w _ | .ldc2_w _ | .invokevirtual _ | .invokespecial _ | .invokestatic _ => 3
  | _ => 1
def mm_tgt (pc tg : Nat) : Instr → Prop
  | .ifCond _ o => (pc : Int) + o = (tg : Int)
  | .if_icmp _ o => (pc : Int) + o = (tg : Int)
  | .goto o => (pc : Int) + o = (tg : Int)
  | _ => True
/-- an instruction as the small machine's table has it -/
def mm_ok (cc : ByteArray) (pc : Nat) (i : Instr) (nx tg : Nat) : Prop := (∃ len, decode cc pc = .ok (i, len) ∧ nx = pc + len ∧ ((∀ a b c d, i ≠ .tableswitch a b c d) → len = mm_len i)) ∧ mm_tgt pc tg i

section MA
variable {p : Program} {l : Launch} {e : Env} {R : Room} {s : State} {m : MethodId} {args : Array Value} {below : List Frame} {meth : Method} {c : Code} {Q : State → Prop}
/-- the walk, at a frame of the small machine -/
def mm_At (p : Program) (l : Launch) (e : Env) (R : Room) (s : State) (m : MethodId) (args : Array Value) (below : List Frame) (meth : Method) (c : Code) (Q : State → Prop) (D : va_G) (cl : List vw_C) (tys : List (ClassId × FieldType)) (φ : Nat → Nat) (B : Nat) (S0 : mm_S) (nL : Nat) (k : mm_Kf) : Prop :=
  ∀ (ls : Array Slot) (H : Heap) (locs : List Loc), lv_has ls nL (mm_prs φ k.2.1) → k.2.1.length = nL → va_P D cl (mm_ws φ tys k.2.2.2) H → va_S (fun q => B ≤ q) s.heap H locs → (S0.1 ≤ k.2.2.2.1 ∧ k.2.2.2.1 ≤ mm_big) → S0.2.1 ≤ k.2.2.2.2.1 →
    W p l e R s m args below meth c H locs (k.2.2.2.1 - S0.1) (k.2.2.2.2.1 - S0.2.1) Q (F0 m k.1 ls (k.2.2.1.map (mm_tv φ)))
variable {D : va_G} {cl : List vw_C} {tys : List (ClassId × FieldType)} {φ : Nat → Nat} {B : Nat} {S0 : mm_S} {nL : Nat} {cc : ByteArray}
theorem mm_pure {pc pc' : Nat} {L : mm_L} {st st' : List Value} {S : mm_S} (h : ∀ (ls : Array Slot) (H : Heap) (locs : List Loc) (x y : Nat), lv_has ls nL (mm_prs φ L) → W p l e R s m args below meth c H locs x y Q (F0 m pc' ls (st'.map (mm_tv φ))) → W p l e R s m args below meth c H locs x y Q (F0 m pc ls (st.map (mm_tv φ))))
    (k : mm_At p l e R s m args below meth c Q D cl tys φ B S0 nL (pc', L, st', S)) : mm_At p l e R s m args below meth c Q D cl tys φ B S0 nL (pc, L, st, S) :=
  fun ls H locs h1 h0 h2 h3 h4 h5 => h ls H locs _ _ h1 (k ls H locs h1 h0 h2 h3 h4 h5)
theorem mm_i2_inv {st st' : List Value} {f : Int32 → Int32 → Value} (h : mm_i2 st f = some st') : ∃ x y r, st = .int y :: .int x :: r ∧ st' = f x y :: r := by
  unfold mm_i2 at h
  split at h
  · cases h; exact ⟨_, _, _, rfl, rfl⟩
  · cases h
theorem mm_i1_inv {st st' : List Value} {f : Int32 → Value} (h : mm_i1 st f = some st') : ∃ x r, st = .int x :: r ∧ st' = f x :: r := by
  unfold mm_i1 at h
  split at h
  · cases h; exact ⟨_, _, rfl, rfl⟩
  · cases h
theorem mm_j1_inv {st st' : List Value} {f : Int64 → Value} (h : mm_j1 st f = some st') : ∃ x r, st = .long x :: r ∧ st' = f x :: r := by
  unfold mm_j1 at h
  split at h
  · cases h; exact ⟨_, _, rfl, rfl⟩
  · cases h
theorem mm_j2_inv {st st' : List Value} {f : Int64 → Int64 → Value} (h : mm_j2 st f = some st') : ∃ x y r, st = .long y :: .long x :: r ∧ st' = f x y :: r := by
  unfold mm_j2 at h
  split at h
  · cases h; exact ⟨_, _, _, rfl, rfl⟩
  · cases h
theorem mm_ji_inv {st st' : List Value} {f : Int64 → Int32 → Value} (h : mm_ji st f = some st') : ∃ x y r, st = .int y :: .long x :: r ∧ st' = f x y :: r := by
  unfold mm_ji at h
  split at h
  · cases h; exact ⟨_, _, _, rfl, rfl⟩
  · cases h
theorem mm_mp_inv {o : Option (List Value)} {nx : Nat} {L : mm_L} {S : mm_S} {k : mm_Kf} (h : mm_mp o nx L S = some k) : ∃ st, o = some st ∧ k = (nx, L, st, S) := by
  unfold mm_mp at h
  split at h
  · cases h; exact ⟨_, rfl, rfl⟩
  · cases h

theorem ms_iadd (hx : p.tables.exec = Jvm.exec) (hb : c.code = cc) {pc nx tg : Nat} {L : mm_L} {st : List Value} {S : mm_S} {k : mm_Kf} (ho : mm_ok cc pc .iadd nx tg) (h : mm_st0 .iadd pc nx tg L st S = some k) (kk : mm_At p l e R s m args below meth c Q D cl tys φ B S0 nL k) : mm_At p l e R s m args below meth c Q D cl tys φ B S0 nL (pc, L, st, S) := by
  obtain ⟨⟨len, hd, rfl, hl⟩, -⟩ := ho
  have hl : len = 1 := hl (fun _ _ _ _ q => by cases q)
  subst hl
  obtain ⟨st', h1, rfl⟩ := mm_mp_inv (show mm_mp _ _ _ _ = some k from h)
  obtain ⟨x, y, r, rfl, rfl⟩ := mm_i2_inv h1
  exact mm_pure (fun ls H locs _ _ _ q => lv_iadd hx hb hd q) kk
theorem ms_isub (hx : p.tables.exec = Jvm.exec) (hb : c.code = cc) {pc nx tg : Nat} {L : mm_L} {st : List Value} {S : mm_S} {k : mm_Kf} (ho : mm_ok cc pc .isub nx tg) (h : mm_st0 .isub pc nx tg L st S = some k) (kk : mm_At p l e R s m args below meth c Q D cl tys φ B S0 nL k) : mm_At p l e R s m args below meth c Q D cl tys φ B S0 nL (pc, L, st, S) := by
  obtain ⟨⟨len, hd, rfl, hl⟩, -⟩ := ho
  have hl : len = 1 := hl (fun _ _ _ _ q => by cases q)
  subst hl
  obtain ⟨st', h1, rfl⟩ := mm_mp_inv (show mm_mp _ _ _ _ = some k from h)
  obtain ⟨x, y, r, rfl, rfl⟩ := mm_i2_inv h1
  exact mm_pure (fun ls H locs _ _ _ q => lv_isub hx hb hd q) kk
theorem ms_imul (hx : p.tables.exec = Jvm.exec) (hb : c.code = cc) {pc nx tg : Nat} {L : mm_L} {st : List Value} {S : mm_S} {k : mm_Kf} (ho : mm_ok cc pc .imul nx tg) (h : mm_st0 .imul pc nx tg L st S = some k) (kk : mm_At p l e R s m args below meth c Q D cl tys φ B S0 nL k) : mm_At p l e R s m args below meth c Q D cl tys φ B S0 nL (pc, L, st, S) := by
  obtain ⟨⟨len, hd, rfl, hl⟩, -⟩ := ho
  have hl : len = 1 := hl (fun _ _ _ _ q => by cases q)
  subst hl
  obtain ⟨st', h1, rfl⟩ := mm_mp_inv (show mm_mp _ _ _ _ = some k from h)
  obtain ⟨x, y, r, rfl, rfl⟩ := mm_i2_inv h1
  exact mm_pure (fun ls H locs _ _ _ q => lv_imul hx hb hd q) kk
theorem ms_iand (hx : p.tables.exec = Jvm.exec) (hb : c.code = cc) {pc nx tg : Nat} {L : mm_L} {st : List Value} {S : mm_S} {k : mm_Kf} (ho : mm_ok cc pc .iand nx tg) (h : mm_st0 .iand pc nx tg L st S = some k) (kk : mm_At p l e R s m args below meth c Q D cl tys φ B S0 nL k) : mm_At p l e R s m args below meth c Q D cl tys φ B S0 nL (pc, L, st, S) := by
  obtain ⟨⟨len, hd, rfl, hl⟩, -⟩ := ho
  have hl : len = 1 := hl (fun _ _ _ _ q => by cases q)
  subst hl
  obtain ⟨st', h1, rfl⟩ := mm_mp_inv (show mm_mp _ _ _ _ = some k from h)
  obtain ⟨x, y, r, rfl, rfl⟩ := mm_i2_inv h1
  exact mm_pure (fun ls H locs _ _ _ q => lv_iand hx hb hd q) kk
theorem ms_ior (hx : p.tables.exec = Jvm.exec) (hb : c.code = cc) {pc nx tg : Nat} {L : mm_L} {st : List Value} {S : mm_S} {k : mm_Kf} (ho : mm_ok cc pc .ior nx tg) (h : mm_st0 .ior pc nx tg L st S = some k) (kk : mm_At p l e R s m args below meth c Q D cl tys φ B S0 nL k) : mm_At p l e R s m args below meth c Q D cl tys φ B S0 nL (pc, L, st, S) := by
  obtain ⟨⟨len, hd, rfl, hl⟩, -⟩ := ho
  have hl : len = 1 := hl (fun _ _ _ _ q => by cases q)
  subst hl
  obtain ⟨st', h1, rfl⟩ := mm_mp_inv (show mm_mp _ _ _ _ = some k from h)
  obtain ⟨x, y, r, rfl, rfl⟩ := mm_i2_inv h1
  exact mm_pure (fun ls H locs _ _ _ q => lv_ior hx hb hd q) kk
theorem ms_ishl (hx : p.tables.exec = Jvm.exec) (hb : c.code = cc) {pc nx tg : Nat} {L : mm_L} {st : List Value} {S : mm_S} {k : mm_Kf} (ho : mm_ok cc pc .ishl nx tg) (h : mm_st0 .ishl pc nx tg L st S = some k) (kk : mm_At p l e R s m args below meth c Q D cl tys φ B S0 nL k) : mm_At p l e R s m args below meth c Q D cl tys φ B S0 nL (pc, L, st, S) := by
  obtain ⟨⟨len, hd, rfl, hl⟩, -⟩ := ho
  have hl : len = 1 := hl (fun _ _ _ _ q => by cases q)
  subst hl
  obtain ⟨st', h1, rfl⟩ := mm_mp_inv (show mm_mp _ _ _ _ = some k from h)
  obtain ⟨x, y, r, rfl, rfl⟩ := mm_i2_inv h1
  exact mm_pure (fun ls H locs _ _ _ q => lv_ishl hx hb hd q) kk
theorem ms_ishr (hx : p.tables.exec = Jvm.exec) (hb : c.code = cc) {pc nx tg : Nat} {L : mm_L} {st : List Value} {S : mm_S} {k : mm_Kf} (ho : mm_ok cc pc .ishr nx tg) (h : mm_st0 .ishr pc nx tg L st S = some k) (kk : mm_At p l e R s m args below meth c Q D cl tys φ B S0 nL k) : mm_At p l e R s m args below meth c Q D cl tys φ B S0 nL (pc, L, st, S) := by
  obtain ⟨⟨len, hd, rfl, hl⟩, -⟩ := ho
  have hl : len = 1 := hl (fun _ _ _ _ q => by cases q)
  subst hl
  obtain ⟨st', h1, rfl⟩ := mm_mp_inv (show mm_mp _ _ _ _ = some k from h)
  obtain ⟨x, y, r, rfl, rfl⟩ := mm_i2_inv h1
  exact mm_pure (fun ls H locs _ _ _ q => lv_ishr hx hb hd q) kk
theorem ms_iushr (hx : p.tables.exec = Jvm.exec) (hb : c.code = cc) {pc nx tg : Nat} {L : mm_L} {st : List Value} {S : mm_S} {k : mm_Kf} (ho : mm_ok cc pc .iushr nx tg) (h : mm_st0 .iushr pc nx tg L st S = some k) (kk : mm_At p l e R s m args below meth c Q D cl tys φ B S0 nL k) : mm_At p l e R s m args below meth c Q D cl tys φ B S0 nL (pc, L, st, S) := by
  obtain ⟨⟨len, hd, rfl, hl⟩, -⟩ := ho
  have hl : len = 1 := hl (fun _ _ _ _ q => by cases q)
  subst hl
  obtain ⟨st', h1, rfl⟩ := mm_mp_inv (show mm_mp _ _ _ _ = some k from h)
  obtain ⟨x, y, r, rfl, rfl⟩ := mm_i2_inv h1
  exact mm_pure (fun ls H locs _ _ _ q => lv_iushr hx hb hd rfl q) kk
theorem ms_ladd (hx : p.tables.exec = Jvm.exec) (hb : c.code = cc) {pc nx tg : Nat} {L : mm_L} {st : List Value} {S : mm_S} {k : mm_Kf} (ho : mm_ok cc pc .ladd nx tg) (h : mm_st0 .ladd pc nx tg L st S = some k) (kk : mm_At p l e R s m args below meth c Q D cl tys φ B S0 nL k) : mm_At p l e R s m args below meth c Q D cl tys φ B S0 nL (pc, L, st, S) := by
  obtain ⟨⟨len, hd, rfl, hl⟩, -⟩ := ho
  have hl : len = 1 := hl (fun _ _ _ _ q => by cases q)
  subst hl
  obtain ⟨st', h1, rfl⟩ := mm_mp_inv (show mm_mp _ _ _ _ = some k from h)
  obtain ⟨x, y, r, rfl, rfl⟩ := mm_j2_inv h1
  exact mm_pure (fun ls H locs _ _ _ q => lv_ladd hx hb hd q) kk
theorem ms_lsub (hx : p.tables.exec = Jvm.exec) (hb : c.code = cc) {pc nx tg : Nat} {L : mm_L} {st : List Value} {S : mm_S} {k : mm_Kf} (ho : mm_ok cc pc .lsub nx tg) (h : mm_st0 .lsub pc nx tg L st S = some k) (kk : mm_At p l e R s m args below meth c Q D cl tys φ B S0 nL k) : mm_At p l e R s m args below meth c Q D cl tys φ B S0 nL (pc, L, st, S) := by
  obtain ⟨⟨len, hd, rfl, hl⟩, -⟩ := ho
  have hl : len = 1 := hl (fun _ _ _ _ q => by cases q)
  subst hl
  obtain ⟨st', h1, rfl⟩ := mm_mp_inv (show mm_mp _ _ _ _ = some k from h)
  obtain ⟨x, y, r, rfl, rfl⟩ := mm_j2_inv h1
  exact mm_pure (fun ls H locs _ _ _ q => lv_lsub hx hb hd q) kk
theorem ms_lmul (hx : p.tables.exec = Jvm.exec) (hb : c.code = cc) {pc nx tg : Nat} {L : mm_L} {st : List Value} {S : mm_S} {k : mm_Kf} (ho : mm_ok cc pc .lmul nx tg) (h : mm_st0 .lmul pc nx tg L st S = some k) (kk : mm_At p l e R s m args below meth c Q D cl tys φ B S0 nL k) : mm_At p l e R s m args below meth c Q D cl tys φ B S0 nL (pc, L, st, S) := by
  obtain ⟨⟨len, hd, rfl, hl⟩, -⟩ := ho
  have hl : len = 1 := hl (fun _ _ _ _ q => by cases q)
  subst hl
  obtain ⟨st', h1, rfl⟩ := mm_mp_inv (show mm_mp _ _ _ _ = some k from h)
  obtain ⟨x, y, r, rfl, rfl⟩ := mm_j2_inv h1
  exact mm_pure (fun ls H locs _ _ _ q => lv_lmul hx hb hd q) kk
theorem ms_land (hx : p.tables.exec = Jvm.exec) (hb : c.code = cc) {pc nx tg : Nat} {L : mm_L} {st : List Value} {S : mm_S} {k : mm_Kf} (ho : mm_ok cc pc .land nx tg) (h : mm_st0 .land pc nx tg L st S = some k) (kk : mm_At p l e R s m args below meth c Q D cl tys φ B S0 nL k) : mm_At p l e R s m args below meth c Q D cl tys φ B S0 nL (pc, L, st, S) := by
  obtain ⟨⟨len, hd, rfl, hl⟩, -⟩ := ho
  have hl : len = 1 := hl (fun _ _ _ _ q => by cases q)
  subst hl
  obtain ⟨st', h1, rfl⟩ := mm_mp_inv (show mm_mp _ _ _ _ = some k from h)
  obtain ⟨x, y, r, rfl, rfl⟩ := mm_j2_inv h1
  exact mm_pure (fun ls H locs _ _ _ q => lv_land hx hb hd q) kk
theorem ms_lor (hx : p.tables.exec = Jvm.exec) (hb : c.code = cc) {pc nx tg : Nat} {L : mm_L} {st : List Value} {S : mm_S} {k : mm_Kf} (ho : mm_ok cc pc .lor nx tg) (h : mm_st0 .lor pc nx tg L st S = some k) (kk : mm_At p l e R s m args below meth c Q D cl tys φ B S0 nL k) : mm_At p l e R s m args below meth c Q D cl tys φ B S0 nL (pc, L, st, S) := by
  obtain ⟨⟨len, hd, rfl, hl⟩, -⟩ := ho
  have hl : len = 1 := hl (fun _ _ _ _ q => by cases q)
  subst hl
  obtain ⟨st', h1, rfl⟩ := mm_mp_inv (show mm_mp _ _ _ _ = some k from h)
  obtain ⟨x, y, r, rfl, rfl⟩ := mm_j2_inv h1
  exact mm_pure (fun ls H locs _ _ _ q => lv_lor hx hb hd q) kk
theorem ms_lshl (hx : p.tables.exec = Jvm.exec) (hb : c.code = cc) {pc nx tg : Nat} {L : mm_L} {st : List Value} {S : mm_S} {k : mm_Kf} (ho : mm_ok cc pc .lshl nx tg) (h : mm_st0 .lshl pc nx tg L st S = some k) (kk : mm_At p l e R s m args below meth c Q D cl tys φ B S0 nL k) : mm_At p l e R s m args below meth c Q D cl tys φ B S0 nL (pc, L, st, S) := by
  obtain ⟨⟨len, hd, rfl, hl⟩, -⟩ := ho
  have hl : len = 1 := hl (fun _ _ _ _ q => by cases q)
  subst hl
  obtain ⟨st', h1, rfl⟩ := mm_mp_inv (show mm_mp _ _ _ _ = some k from h)
  obtain ⟨x, y, r, rfl, rfl⟩ := mm_ji_inv h1
  exact mm_pure (fun ls H locs _ _ _ q => lv_lshl hx hb hd rfl q) kk
theorem ms_lshr (hx : p.tables.exec = Jvm.exec) (hb : c.code = cc) {pc nx tg : Nat} {L : mm_L} {st : List Value} {S : mm_S} {k : mm_Kf} (ho : mm_ok cc pc .lshr nx tg) (h : mm_st0 .lshr pc nx tg L st S = some k) (kk : mm_At p l e R s m args below meth c Q D cl tys φ B S0 nL k) : mm_At p l e R s m args below meth c Q D cl tys φ B S0 nL (pc, L, st, S) := by
  obtain ⟨⟨len, hd, rfl, hl⟩, -⟩ := ho
  have hl : len = 1 := hl (fun _ _ _ _ q => by cases q)
  subst hl
  obtain ⟨st', h1, rfl⟩ := mm_mp_inv (show mm_mp _ _ _ _ = some k from h)
  obtain ⟨x, y, r, rfl, rfl⟩ := mm_ji_inv h1
  exact mm_pure (fun ls H locs _ _ _ q => lv_lshr hx hb hd rfl q) kk
theorem ms_lushr (hx : p.tables.exec = Jvm.exec) (hb : c.code = cc) {pc nx tg : Nat} {L : mm_L} {st : List Value} {S : mm_S} {k : mm_Kf} (ho : mm_ok cc pc .lushr nx tg) (h : mm_st0 .lushr pc nx tg L st S = some k) (kk : mm_At p l e R s m args below meth c Q D cl tys φ B S0 nL k) : mm_At p l e R s m args below meth c Q D cl tys φ B S0 nL (pc, L, st, S) := by
  obtain ⟨⟨len, hd, rfl, hl⟩, -⟩ := ho
  have hl : len = 1 := hl (fun _ _ _ _ q => by cases q)
  subst hl
  obtain ⟨st', h1, rfl⟩ := mm_mp_inv (show mm_mp _ _ _ _ = some k from h)
  obtain ⟨x, y, r, rfl, rfl⟩ := mm_ji_inv h1
  exact mm_pure (fun ls H locs _ _ _ q => lv_lushr hx hb hd rfl q) kk
theorem ms_lcmp (hx : p.tables.exec = Jvm.exec) (hb : c.code = cc) {pc nx tg : Nat} {L : mm_L} {st : List Value} {S : mm_S} {k : mm_Kf} (ho : mm_ok cc pc .lcmp nx tg) (h : mm_st0 .lcmp pc nx tg L st S = some k) (kk : mm_At p l e R s m args below meth c Q D cl tys φ B S0 nL k) : mm_At p l e R s m args below meth c Q D cl tys φ B S0 nL (pc, L, st, S) := by
  obtain ⟨⟨len, hd, rfl, hl⟩, -⟩ := ho
  have hl : len = 1 := hl (fun _ _ _ _ q => by cases q)
  subst hl
  obtain ⟨st', h1, rfl⟩ := mm_mp_inv (show mm_mp _ _ _ _ = some k from h)
  obtain ⟨x, y, r, rfl, rfl⟩ := mm_j2_inv h1
  exact mm_pure (fun ls H locs _ _ _ q => W.lcmp hx hb hd q) kk
theorem ms_i2l (hx : p.tables.exec = Jvm.exec) (hb : c.code = cc) {pc nx tg : Nat} {L : mm_L} {st : List Value} {S : mm_S} {k : mm_Kf} (ho : mm_ok cc pc .i2l nx tg) (h : mm_st0 .i2l pc nx tg L st S = some k) (kk : mm_At p l e R s m args below meth c Q D cl tys φ B S0 nL k) : mm_At p l e R s m args below meth c Q D cl tys φ B S0 nL (pc, L, st, S) := by
  obtain ⟨⟨len, hd, rfl, hl⟩, -⟩ := ho
  have hl : len = 1 := hl (fun _ _ _ _ q => by cases q)
  subst hl
  obtain ⟨st', h1, rfl⟩ := mm_mp_inv (show mm_mp _ _ _ _ = some k from h)
  obtain ⟨x, r, rfl, rfl⟩ := mm_i1_inv h1
  exact mm_pure (fun ls H locs _ _ _ q => lv_i2l hx hb hd rfl q) kk
theorem ms_l2i (hx : p.tables.exec = Jvm.exec) (hb : c.code = cc) {pc nx tg : Nat} {L : mm_L} {st : List Value} {S : mm_S} {k : mm_Kf} (ho : mm_ok cc pc .l2i nx tg) (h : mm_st0 .l2i pc nx tg L st S = some k) (kk : mm_At p l e R s m args below meth c Q D cl tys φ B S0 nL k) : mm_At p l e R s m args below meth c Q D cl tys φ B S0 nL (pc, L, st, S) := by
  obtain ⟨⟨len, hd, rfl, hl⟩, -⟩ := ho
  have hl : len = 1 := hl (fun _ _ _ _ q => by cases q)
  subst hl
  obtain ⟨st', h1, rfl⟩ := mm_mp_inv (show mm_mp _ _ _ _ = some k from h)
  obtain ⟨x, r, rfl, rfl⟩ := mm_j1_inv h1
  exact mm_pure (fun ls H locs _ _ _ q => lv_l2i hx hb hd rfl q) kk
end MA
end
section
section MB5
variable {p : Program} {l : Launch} {e : Env} {R : Room} {s : State} {m : MethodId} {args : Array Value} {below : List Frame} {meth : Method} {c : Code} {Q : State → Prop}
variable {D : va_G} {cl : List vw_C} {tys : List (ClassId × FieldType)} {φ : Nat → Nat} {B : Nat} {S0 : mm_S} {nL : Nat} {cc : ByteArray}
theorem ms_aconst_null (hx : p.tables.exec = Jvm.exec) (hb : c.code = cc) {pc nx tg : Nat} {L : mm_L} {st : List Value} {S : mm_S} {k : mm_Kf} (ho : mm_ok cc pc (.aconst_null) nx tg) (h : mm_st0 (.aconst_null) pc nx tg L st S = some k) (kk : mm_At p l e R s m args below meth c Q D cl tys φ B S0 nL k) : mm_At p l e R s m args below meth c Q D cl tys φ B S0 nL (pc, L, st, S) := by
  obtain ⟨⟨len, hd, rfl, hl⟩, ht⟩ := ho
  have hl : len = 1 := hl (fun _ _ _ _ q => by cases q)
  subst hl
  cases h
  exact mm_pure (fun ls H locs _ _ _ q => lv_null hx hb hd q) kk
theorem ms_iconst (hx : p.tables.exec = Jvm.exec) (hb : c.code = cc) {pc nx tg : Nat} {L : mm_L} {st : List Value} {S : mm_S} {k : mm_Kf} {n : Int} (ho : mm_ok cc pc (.iconst n) nx tg) (h : mm_st0 (.iconst n) pc nx tg L st S = some k) (kk : mm_At p l e R s m args below meth c Q D cl tys φ B S0 nL k) : mm_At p l e R s m args below meth c Q D cl tys φ B S0 nL (pc, L, st, S) := by
  obtain ⟨⟨len, hd, rfl, hl⟩, ht⟩ := ho
  have hl : len = 1 := hl (fun _ _ _ _ q => by cases q)
  subst hl
  cases h
  exact mm_pure (fun ls H locs _ _ _ q => lv_iconst hx hb hd rfl q) kk
theorem ms_bipush (hx : p.tables.exec = Jvm.exec) (hb : c.code = cc) {pc nx tg : Nat} {L : mm_L} {st : List Value} {S : mm_S} {k : mm_Kf} {n : Int} (ho : mm_ok cc pc (.bipush n) nx tg) (h : mm_st0 (.bipush n) pc nx tg L st S = some k) (kk : mm_At p l e R s m args below meth c Q D cl tys φ B S0 nL k) : mm_At p l e R s m args below meth c Q D cl tys φ B S0 nL (pc, L, st, S) := by
  obtain ⟨⟨len, hd, rfl, hl⟩, ht⟩ := ho
  have hl : len = 2 := hl (fun _ _ _ _ q => by cases q)
  subst hl
  cases h
  exact mm_pure (fun ls H locs _ _ _ q => lv_bipush hx hb hd rfl q) kk
theorem ms_sipush (hx : p.tables.exec = Jvm.exec) (hb : c.code = cc) {pc nx tg : Nat} {L : mm_L} {st : List Value} {S : mm_S} {k : mm_Kf} {n : Int} (ho : mm_ok cc pc (.sipush n) nx tg) (h : mm_st0 (.sipush n) pc nx tg L st S = some k) (kk : mm_At p l e R s m args below meth c Q D cl tys φ B S0 nL k) : mm_At p l e R s m args below meth c Q D cl tys φ B S0 nL (pc, L, st, S) := by
  obtain ⟨⟨len, hd, rfl, hl⟩, ht⟩ := ho
  have hl : len = 3 := hl (fun _ _ _ _ q => by cases q)
  subst hl
  cases h
  exact mm_pure (fun ls H locs _ _ _ q => lv_sipush hx hb hd rfl q) kk
theorem ms_lconst (hx : p.tables.exec = Jvm.exec) (hb : c.code = cc) {pc nx tg : Nat} {L : mm_L} {st : List Value} {S : mm_S} {k : mm_Kf} {n : Fin 2} (ho : mm_ok cc pc (.lconst n) nx tg) (h : mm_st0 (.lconst n) pc nx tg L st S = some k) (kk : mm_At p l e R s m args below meth c Q D cl tys φ B S0 nL k) : mm_At p l e R s m args below meth c Q D cl tys φ B S0 nL (pc, L, st, S) := by
  obtain ⟨⟨len, hd, rfl, hl⟩, ht⟩ := ho
  have hl : len = 1 := hl (fun _ _ _ _ q => by cases q)
  subst hl
  cases h
  exact mm_pure (fun ls H locs _ _ _ q => lv_lconst hx hb hd rfl q) kk
theorem ms_iload (hx : p.tables.exec = Jvm.exec) (hb : c.code = cc) {pc nx tg : Nat} {L : mm_L} {st : List Value} {S : mm_S} {k : mm_Kf} {j : Nat} (ho : mm_ok cc pc (.iload j) nx tg) (h : mm_st0 (.iload j) pc nx tg L st S = some k) (kk : mm_At p l e R s m args below meth c Q D cl tys φ B S0 nL k) : mm_At p l e R s m args below meth c Q D cl tys φ B S0 nL (pc, L, st, S) := by
  obtain ⟨⟨len, hd, rfl, hl⟩, ht⟩ := ho
  have hl : len = 2 := hl (fun _ _ _ _ q => by cases q)
  subst hl
  have h : mm_lI L j _ st S = some k := h
  unfold mm_lI at h
  split at h
  · rename_i x hv
    cases h
    exact mm_pure (fun ls H locs _ _ hh q => lv_iload hx hb hd (mm_lv_at hh hv) q) kk
  · cases h
theorem ms_iload_n (hx : p.tables.exec = Jvm.exec) (hb : c.code = cc) {pc nx tg : Nat} {L : mm_L} {st : List Value} {S : mm_S} {k : mm_Kf} {j : Fin 4} (ho : mm_ok cc pc (.iload_n j) nx tg) (h : mm_st0 (.iload_n j) pc nx tg L st S = some k) (kk : mm_At p l e R s m args below meth c Q D cl tys φ B S0 nL k) : mm_At p l e R s m args below meth c Q D cl tys φ B S0 nL (pc, L, st, S) := by
  obtain ⟨⟨len, hd, rfl, hl⟩, ht⟩ := ho
  have hl : len = 1 := hl (fun _ _ _ _ q => by cases q)
  subst hl
  have h : mm_lI L (j : Nat) _ st S = some k := h
  unfold mm_lI at h
  split at h
  · rename_i x hv
    cases h
    exact mm_pure (fun ls H locs _ _ hh q => lv_iload_n hx hb hd rfl (mm_lv_at hh hv) q) kk
  · cases h
theorem ms_lload (hx : p.tables.exec = Jvm.exec) (hb : c.code = cc) {pc nx tg : Nat} {L : mm_L} {st : List Value} {S : mm_S} {k : mm_Kf} {j : Nat} (ho : mm_ok cc pc (.lload j) nx tg) (h : mm_st0 (.lload j) pc nx tg L st S = some k) (kk : mm_At p l e R s m args below meth c Q D cl tys φ B S0 nL k) : mm_At p l e R s m args below meth c Q D cl tys φ B S0 nL (pc, L, st, S) := by
  obtain ⟨⟨len, hd, rfl, hl⟩, ht⟩ := ho
  have hl : len = 2 := hl (fun _ _ _ _ q => by cases q)
  subst hl
  have h : mm_lJ L j _ st S = some k := h
  unfold mm_lJ at h
  split at h
  · rename_i x hv
    cases h
    exact mm_pure (fun ls H locs _ _ hh q => lv_lload hx hb hd (mm_lv_at hh hv) q) kk
  · cases h
theorem ms_lload_n (hx : p.tables.exec = Jvm.exec) (hb : c.code = cc) {pc nx tg : Nat} {L : mm_L} {st : List Value} {S : mm_S} {k : mm_Kf} {j : Fin 4} (ho : mm_ok cc pc (.lload_n j) nx tg) (h : mm_st0 (.lload_n j) pc nx tg L st S = some k) (kk : mm_At p l e R s m args below meth c Q D cl tys φ B S0 nL k) : mm_At p l e R s m args below meth c Q D cl tys φ B S0 nL (pc, L, st, S) := by
  obtain ⟨⟨len, hd, rfl, hl⟩, ht⟩ := ho
  have hl : len = 1 := hl (fun _ _ _ _ q => by cases q)
  subst hl
  have h : mm_lJ L (j : Nat) _ st S = some k := h
  unfold mm_lJ at h
  split at h
  · rename_i x hv
    cases h
    exact mm_pure (fun ls H locs _ _ hh q => lv_lload_n hx hb hd rfl (mm_lv_at hh hv) q) kk
  · cases h
theorem ms_aload (hx : p.tables.exec = Jvm.exec) (hb : c.code = cc) {pc nx tg : Nat} {L : mm_L} {st : List Value} {S : mm_S} {k : mm_Kf} {j : Nat} (ho : mm_ok cc pc (.aload j) nx tg) (h : mm_st0 (.aload j) pc nx tg L st S = some k) (kk : mm_At p l e R s m args below meth c Q D cl tys φ B S0 nL k) : mm_At p l e R s m args below meth c Q D cl tys φ B S0 nL (pc, L, st, S) := by
  obtain ⟨⟨len, hd, rfl, hl⟩, ht⟩ := ho
  have hl : len = 2 := hl (fun _ _ _ _ q => by cases q)
  subst hl
  have h : mm_lA L j _ st S = some k := h
  unfold mm_lA at h
  split at h
  · rename_i x hv
    cases h
    exact mm_pure (fun ls H locs _ _ hh q => lv_aload hx hb hd (mm_lv_at hh hv) q) kk
  · rename_i hv
    cases h
    exact mm_pure (fun ls H locs _ _ hh q => lv_aloadN hx hb hd (mm_lv_at hh hv) q) kk
  · cases h
theorem ms_aload_n (hx : p.tables.exec = Jvm.exec) (hb : c.code = cc) {pc nx tg : Nat} {L : mm_L} {st : List Value} {S : mm_S} {k : mm_Kf} {j : Fin 4} (ho : mm_ok cc pc (.aload_n j) nx tg) (h : mm_st0 (.aload_n j) pc nx tg L st S = some k) (kk : mm_At p l e R s m args below meth c Q D cl tys φ B S0 nL k) : mm_At p l e R s m args below meth c Q D cl tys φ B S0 nL (pc, L, st, S) := by
  obtain ⟨⟨len, hd, rfl, hl⟩, ht⟩ := ho
  have hl : len = 1 := hl (fun _ _ _ _ q => by cases q)
  subst hl
  have h : mm_lA L (j : Nat) _ st S = some k := h
  unfold mm_lA at h
  split at h
  · rename_i x hv
    cases h
    exact mm_pure (fun ls H locs _ _ hh q => lv_aload_n hx hb hd rfl (mm_lv_at hh hv) q) kk
  · rename_i hv
    cases h
    exact mm_pure (fun ls H locs _ _ hh q => lv_aload_nN hx hb hd rfl (mm_lv_at hh hv) q) kk
  · cases h
theorem mm_len_s1 (L : mm_L) (i : Nat) (v : Value) : (mm_s1 L i v).length = L.length := by
  unfold mm_s1
  rw [List.length_set]
  cases i with
  | zero => rfl
  | succ i => simp only [mm_cut]; split <;> simp
theorem mm_len_s2 (L : mm_L) (i : Nat) (v : Value) : (mm_s2 L i v).length = L.length := by
  unfold mm_s2
  rw [List.length_set, List.length_set]
  cases i with
  | zero => rfl
  | succ i => simp only [mm_cut]; split <;> simp
theorem ms_istore (hx : p.tables.exec = Jvm.exec) (hb : c.code = cc) {pc nx tg : Nat} {L : mm_L} {st : List Value} {S : mm_S} {k : mm_Kf} {j : Nat} (ho : mm_ok cc pc (.istore j) nx tg) (h : mm_st0 (.istore j) pc nx tg L st S = some k) (kk : mm_At p l e R s m args below meth c Q D cl tys φ B S0 nL k) : mm_At p l e R s m args below meth c Q D cl tys φ B S0 nL (pc, L, st, S) := by
  obtain ⟨⟨len, hd, rfl, hl⟩, ht⟩ := ho
  have hl : len = 2 := hl (fun _ _ _ _ q => by cases q)
  subst hl
  have h : mm_sI L j _ st S = some k := h
  unfold mm_sI at h
  split at h
  · rename_i x r
    split at h
    · rename_i hlt
      cases h
      intro ls H locs h1 h0 h2 h3 h4 h5
      have h0 : L.length = nL := h0
      exact lv_istore hx hb hd h1 (by omega) rfl (fun ls' hl' => kk ls' H locs (mm_lv_s1 hl') (by rw [mm_len_s1]; exact h0) h2 h3 h4 h5)
    · cases h
  · cases h
theorem ms_istore_n (hx : p.tables.exec = Jvm.exec) (hb : c.code = cc) {pc nx tg : Nat} {L : mm_L} {st : List Value} {S : mm_S} {k : mm_Kf} {j : Fin 4} (ho : mm_ok cc pc (.istore_n j) nx tg) (h : mm_st0 (.istore_n j) pc nx tg L st S = some k) (kk : mm_At p l e R s m args below meth c Q D cl tys φ B S0 nL k) : mm_At p l e R s m args below meth c Q D cl tys φ B S0 nL (pc, L, st, S) := by
  obtain ⟨⟨len, hd, rfl, hl⟩, ht⟩ := ho
  have hl : len = 1 := hl (fun _ _ _ _ q => by cases q)
  subst hl
  have h : mm_sI L (j : Nat) _ st S = some k := h
  unfold mm_sI at h
  split at h
  · rename_i x r
    split at h
    · rename_i hlt
      cases h
      intro ls H locs h1 h0 h2 h3 h4 h5
      have h0 : L.length = nL := h0
      exact lv_istore_n hx hb hd rfl h1 (by omega) rfl (fun ls' hl' => kk ls' H locs (mm_lv_s1 hl') (by rw [mm_len_s1]; exact h0) h2 h3 h4 h5)
    · cases h
  · cases h
theorem ms_lstore (hx : p.tables.exec = Jvm.exec) (hb : c.code = cc) {pc nx tg : Nat} {L : mm_L} {st : List Value} {S : mm_S} {k : mm_Kf} {j : Nat} (ho : mm_ok cc pc (.lstore j) nx tg) (h : mm_st0 (.lstore j) pc nx tg L st S = some k) (kk : mm_At p l e R s m args below meth c Q D cl tys φ B S0 nL k) : mm_At p l e R s m args below meth c Q D cl tys φ B S0 nL (pc, L, st, S) := by
  obtain ⟨⟨len, hd, rfl, hl⟩, ht⟩ := ho
  have hl : len = 2 := hl (fun _ _ _ _ q => by cases q)
  subst hl
  have h : mm_sJ L j _ st S = some k := h
  unfold mm_sJ at h
  split at h
  · rename_i x r
    split at h
    · rename_i hlt
      cases h
      intro ls H locs h1 h0 h2 h3 h4 h5
      have h0 : L.length = nL := h0
      exact lv_lstore hx hb hd h1 (by omega) rfl (fun ls' hl' => kk ls' H locs (mm_lv_s2 hl') (by rw [mm_len_s2]; exact h0) h2 h3 h4 h5)
    · cases h
  · cases h
theorem ms_lstore_n (hx : p.tables.exec = Jvm.exec) (hb : c.code = cc) {pc nx tg : Nat} {L : mm_L} {st : List Value} {S : mm_S} {k : mm_Kf} {j : Fin 4} (ho : mm_ok cc pc (.lstore_n j) nx tg) (h : mm_st0 (.lstore_n j) pc nx tg L st S = some k) (kk : mm_At p l e R s m args below meth c Q D cl tys φ B S0 nL k) : mm_At p l e R s m args below meth c Q D cl tys φ B S0 nL (pc, L, st, S) := by
  obtain ⟨⟨len, hd, rfl, hl⟩, ht⟩ := ho
  have hl : len = 1 := hl (fun _ _ _ _ q => by cases q)
  subst hl
  have h : mm_sJ L (j : Nat) _ st S = some k := h
  unfold mm_sJ at h
  split at h
  · rename_i x r
    split at h
    · rename_i hlt
      cases h
      intro ls H locs h1 h0 h2 h3 h4 h5
      have h0 : L.length = nL := h0
      exact lv_lstore_n hx hb hd rfl h1 (by omega) rfl (fun ls' hl' => kk ls' H locs (mm_lv_s2 hl') (by rw [mm_len_s2]; exact h0) h2 h3 h4 h5)
    · cases h
  · cases h
theorem ms_astore (hx : p.tables.exec = Jvm.exec) (hb : c.code = cc) {pc nx tg : Nat} {L : mm_L} {st : List Value} {S : mm_S} {k : mm_Kf} {j : Nat} (ho : mm_ok cc pc (.astore j) nx tg) (h : mm_st0 (.astore j) pc nx tg L st S = some k) (kk : mm_At p l e R s m args below meth c Q D cl tys φ B S0 nL k) : mm_At p l e R s m args below meth c Q D cl tys φ B S0 nL (pc, L, st, S) := by
  obtain ⟨⟨len, hd, rfl, hl⟩, ht⟩ := ho
  have hl : len = 2 := hl (fun _ _ _ _ q => by cases q)
  subst hl
  have h : mm_sA L j _ st S = some k := h
  unfold mm_sA at h
  split at h
  · rename_i x r
    split at h
    · rename_i hlt
      cases h
      intro ls H locs h1 h0 h2 h3 h4 h5
      have h0 : L.length = nL := h0
      exact lv_astore hx hb hd h1 (by omega) rfl (fun ls' hl' => kk ls' H locs (mm_lv_s1 (v := .ref _) hl') (by rw [mm_len_s1]; exact h0) h2 h3 h4 h5)
    · cases h
  · rename_i r
    split at h
    · rename_i hlt
      cases h
      intro ls H locs h1 h0 h2 h3 h4 h5
      have h0 : L.length = nL := h0
      exact lv_astoreN hx hb hd h1 (by omega) rfl (fun ls' hl' => kk ls' H locs (mm_lv_s1 (v := .null) hl') (by rw [mm_len_s1]; exact h0) h2 h3 h4 h5)
    · cases h
  · cases h
theorem ms_astore_n (hx : p.tables.exec = Jvm.exec) (hb : c.code = cc) {pc nx tg : Nat} {L : mm_L} {st : List Value} {S : mm_S} {k : mm_Kf} {j : Fin 4} (ho : mm_ok cc pc (.astore_n j) nx tg) (h : mm_st0 (.astore_n j) pc nx tg L st S = some k) (kk : mm_At p l e R s m args below meth c Q D cl tys φ B S0 nL k) : mm_At p l e R s m args below meth c Q D cl tys φ B S0 nL (pc, L, st, S) := by
  obtain ⟨⟨len, hd, rfl, hl⟩, ht⟩ := ho
  have hl : len = 1 := hl (fun _ _ _ _ q => by cases q)
  subst hl
  have h : mm_sA L (j : Nat) _ st S = some k := h
  unfold mm_sA at h
  split at h
  · rename_i x r
    split at h
    · rename_i hlt
      cases h
      intro ls H locs h1 h0 h2 h3 h4 h5
      have h0 : L.length = nL := h0
      exact lv_astore_n hx hb hd rfl h1 (by omega) rfl (fun ls' hl' => kk ls' H locs (mm_lv_s1 (v := .ref _) hl') (by rw [mm_len_s1]; exact h0) h2 h3 h4 h5)
    · cases h
  · rename_i r
    split at h
    · rename_i hlt
      cases h
      intro ls H locs h1 h0 h2 h3 h4 h5
      have h0 : L.length = nL := h0
      exact lv_astore_nN hx hb hd rfl h1 (by omega) rfl (fun ls' hl' => kk ls' H locs (mm_lv_s1 (v := .null) hl') (by rw [mm_len_s1]; exact h0) h2 h3 h4 h5)
    · cases h
  · cases h
theorem ms_iinc (hx : p.tables.exec = Jvm.exec) (hb : c.code = cc) {pc nx tg : Nat} {L : mm_L} {st : List Value} {S : mm_S} {k : mm_Kf} {j : Nat} {n : Int} (ho : mm_ok cc pc (.iinc j n) nx tg) (h : mm_st0 (.iinc j n) pc nx tg L st S = some k) (kk : mm_At p l e R s m args below meth c Q D cl tys φ B S0 nL k) : mm_At p l e R s m args below meth c Q D cl tys φ B S0 nL (pc, L, st, S) := by
  obtain ⟨⟨len, hd, rfl, hl⟩, ht⟩ := ho
  have hl : len = 3 := hl (fun _ _ _ _ q => by cases q)
  subst hl
  have h : mm_inc L j n _ st S = some k := h
  unfold mm_inc at h
  split at h
  · rename_i x hv
    split at h
    · rename_i hlt
      cases h
      intro ls H locs h1 h0 h2 h3 h4 h5
      have h0 : L.length = nL := h0
      obtain ⟨q, hq⟩ := List.getElem?_of_mem (mm_prs_in (φ := φ) hv)
      exact lv_iinc hx hb hd h1 (k := q) hq rfl (by omega) rfl (fun ls' hl' => kk ls' H locs (mm_lv_s1 (v := .int (x + Int32.ofInt n)) hl') (by rw [mm_len_s1]; exact h0) h2 h3 h4 h5)
    · cases h
  · cases h
theorem ms_ifCond (hx : p.tables.exec = Jvm.exec) (hb : c.code = cc) {pc nx tg : Nat} {L : mm_L} {st : List Value} {S : mm_S} {k : mm_Kf} {o : ClassFile.Cond} {off : Int} (ho : mm_ok cc pc (.ifCond o off) nx tg) (h : mm_st0 (.ifCond o off) pc nx tg L st S = some k) (kk : mm_At p l e R s m args below meth c Q D cl tys φ B S0 nL k) : mm_At p l e R s m args below meth c Q D cl tys φ B S0 nL (pc, L, st, S) := by
  obtain ⟨⟨len, hd, rfl, hl⟩, ht⟩ := ho
  have hl : len = 3 := hl (fun _ _ _ _ q => by cases q)
  subst hl
  have ht : (pc : Int) + off = (tg : Int) := ht
  have h : mm_if1 o _ tg L st S = some k := h
  unfold mm_if1 at h
  split at h
  · cases h
    intro ls H locs h1 h0 h2 h3 h4 h5
    have kk := kk ls H locs h1 h0 h2 h3 h4 h5
    cases o with
    | eq =>
      refine lv_if_eq hx hb hd ht (fun q => ?_) (fun q => ?_)
      · simpa [mm_icmp, q] using kk
      · simpa [mm_icmp, q] using kk
    | ne =>
      refine lv_if_ne hx hb hd ht (fun q => ?_) (fun q => ?_)
      · simpa [mm_icmp, q] using kk
      · simpa [mm_icmp, q] using kk
    | lt =>
      refine lv_if_lt hx hb hd ht (fun q => ?_) (fun q => ?_)
      · simpa [mm_icmp, q] using kk
      · simpa [mm_icmp, q] using kk
    | ge =>
      refine lv_if_ge hx hb hd ht (fun q => ?_) (fun q => ?_)
      · simpa [mm_icmp, q] using kk
      · simpa [mm_icmp, q] using kk
    | gt =>
      refine lv_if_gt hx hb hd ht (fun q => ?_) (fun q => ?_)
      · simpa [mm_icmp, q] using kk
      · simpa [mm_icmp, q] using kk
    | le =>
      refine lv_if_le hx hb hd ht (fun q => ?_) (fun q => ?_)
      · simpa [mm_icmp, q] using kk
      · simpa [mm_icmp, q] using kk
  · cases h
theorem ms_if_icmp (hx : p.tables.exec = Jvm.exec) (hb : c.code = cc) {pc nx tg : Nat} {L : mm_L} {st : List Value} {S : mm_S} {k : mm_Kf} {o : ClassFile.Cond} {off : Int} (ho : mm_ok cc pc (.if_icmp o off) nx tg) (h : mm_st0 (.if_icmp o off) pc nx tg L st S = some k) (kk : mm_At p l e R s m args below meth c Q D cl tys φ B S0 nL k) : mm_At p l e R s m args below meth c Q D cl tys φ B S0 nL (pc, L, st, S) := by
  obtain ⟨⟨len, hd, rfl, hl⟩, ht⟩ := ho
  have hl : len = 3 := hl (fun _ _ _ _ q => by cases q)
  subst hl
  have ht : (pc : Int) + off = (tg : Int) := ht
  have h : mm_if2 o _ tg L st S = some k := h
  unfold mm_if2 at h
  split at h
  · cases h
    intro ls H locs h1 h0 h2 h3 h4 h5
    have kk := kk ls H locs h1 h0 h2 h3 h4 h5
    cases o with
    | eq =>
      refine lv_icmp_eq hx hb hd ht (fun q => ?_) (fun q => ?_)
      · simpa [mm_icmp, q] using kk
      · simpa [mm_icmp, q] using kk
    | ne =>
      refine lv_icmp_ne hx hb hd ht (fun q => ?_) (fun q => ?_)
      · simpa [mm_icmp, q] using kk
      · simpa [mm_icmp, q] using kk
    | lt =>
      refine lv_icmp_lt hx hb hd ht (fun q => ?_) (fun q => ?_)
      · simpa [mm_icmp, q] using kk
      · simpa [mm_icmp, q] using kk
    | ge =>
      refine lv_icmp_ge hx hb hd ht (fun q => ?_) (fun q => ?_)
      · simpa [mm_icmp, q] using kk
      · simpa [mm_icmp, q] using kk
    | gt =>
      refine lv_icmp_gt hx hb hd ht (fun q => ?_) (fun q => ?_)
      · simpa [mm_icmp, q] using kk
      · simpa [mm_icmp, q] using kk
    | le =>
      refine lv_icmp_le hx hb hd ht (fun q => ?_) (fun q => ?_)
      · simpa [mm_icmp, q] using kk
      · simpa [mm_icmp, q] using kk
  · cases h
theorem ms_goto (hx : p.tables.exec = Jvm.exec) (hb : c.code = cc) {pc nx tg : Nat} {L : mm_L} {st : List Value} {S : mm_S} {k : mm_Kf} {off : Int} (ho : mm_ok cc pc (.goto off) nx tg) (h : mm_st0 (.goto off) pc nx tg L st S = some k) (kk : mm_At p l e R s m args below meth c Q D cl tys φ B S0 nL k) : mm_At p l e R s m args below meth c Q D cl tys φ B S0 nL (pc, L, st, S) := by
  obtain ⟨⟨len, hd, rfl, hl⟩, ht⟩ := ho
  have hl : len = 3 := hl (fun _ _ _ _ q => by cases q)
  subst hl
  have ht : (pc : Int) + off = (tg : Int) := ht
  cases h
  exact mm_pure (fun ls H locs _ _ _ q => lv_goto hx hb hd ht q) kk
theorem ms_dup (hx : p.tables.exec = Jvm.exec) (hb : c.code = cc) {pc nx tg : Nat} {L : mm_L} {st : List Value} {S : mm_S} {k : mm_Kf} (ho : mm_ok cc pc (.dup) nx tg) (h : mm_st0 (.dup) pc nx tg L st S = some k) (kk : mm_At p l e R s m args below meth c Q D cl tys φ B S0 nL k) : mm_At p l e R s m args below meth c Q D cl tys φ B S0 nL (pc, L, st, S) := by
  obtain ⟨⟨len, hd, rfl, hl⟩, ht⟩ := ho
  have hl : len = 1 := hl (fun _ _ _ _ q => by cases q)
  subst hl
  have h : mm_dup _ L st S = some k := h
  unfold mm_dup at h
  split at h
  · split at h
    · rename_i v r hc
      cases h
      exact mm_pure (fun ls H locs _ _ _ q => lv_dup hx hb hd (by rw [mm_tv_cat]; exact hc) q) kk
    · cases h
  · cases h
theorem ms_pop (hx : p.tables.exec = Jvm.exec) (hb : c.code = cc) {pc nx tg : Nat} {L : mm_L} {st : List Value} {S : mm_S} {k : mm_Kf} (ho : mm_ok cc pc (.pop) nx tg) (h : mm_st0 (.pop) pc nx tg L st S = some k) (kk : mm_At p l e R s m args below meth c Q D cl tys φ B S0 nL k) : mm_At p l e R s m args below meth c Q D cl tys φ B S0 nL (pc, L, st, S) := by
  obtain ⟨⟨len, hd, rfl, hl⟩, ht⟩ := ho
  have hl : len = 1 := hl (fun _ _ _ _ q => by cases q)
  subst hl
  have h : mm_pop _ L st S = some k := h
  unfold mm_pop at h
  split at h
  · split at h
    · rename_i v r hc
      cases h
      exact mm_pure (fun ls H locs _ _ _ q => lv_pop hx hb hd (by rw [mm_tv_cat]; exact hc) q) kk
    · cases h
  · cases h
theorem ms_dup_x1 (hx : p.tables.exec = Jvm.exec) (hb : c.code = cc) {pc nx tg : Nat} {L : mm_L} {st : List Value} {S : mm_S} {k : mm_Kf} (ho : mm_ok cc pc (.dup_x1) nx tg) (h : mm_st0 (.dup_x1) pc nx tg L st S = some k) (kk : mm_At p l e R s m args below meth c Q D cl tys φ B S0 nL k) : mm_At p l e R s m args below meth c Q D cl tys φ B S0 nL (pc, L, st, S) := by
  obtain ⟨⟨len, hd, rfl, hl⟩, ht⟩ := ho
  have hl : len = 1 := hl (fun _ _ _ _ q => by cases q)
  subst hl
  have h : mm_dx1 _ L st S = some k := h
  unfold mm_dx1 at h
  split at h
  · split at h
    · rename_i v u r hc
      cases h
      exact mm_pure (fun ls H locs _ _ _ q => lv_dup_x1 hx hb hd (by rw [mm_tv_cat]; exact hc.1) (by rw [mm_tv_cat]; exact hc.2) q) kk
    · cases h
  · cases h
theorem ms_dup2 (hx : p.tables.exec = Jvm.exec) (hb : c.code = cc) {pc nx tg : Nat} {L : mm_L} {st : List Value} {S : mm_S} {k : mm_Kf} (ho : mm_ok cc pc (.dup2) nx tg) (h : mm_st0 (.dup2) pc nx tg L st S = some k) (kk : mm_At p l e R s m args below meth c Q D cl tys φ B S0 nL k) : mm_At p l e R s m args below meth c Q D cl tys φ B S0 nL (pc, L, st, S) := by
  obtain ⟨⟨len, hd, rfl, hl⟩, ht⟩ := ho
  have hl : len = 1 := hl (fun _ _ _ _ q => by cases q)
  subst hl
  have h : mm_dp2 _ L st S = some k := h
  unfold mm_dp2 at h
  split at h
  · split at h
    · rename_i v u r hc
      cases h
      exact mm_pure (fun ls H locs _ _ _ q => lv_dup2_11 hx hb hd (by rw [mm_tv_cat]; exact hc.1) (by rw [mm_tv_cat]; exact hc.2) q) kk
    · cases h
  · cases h
theorem ms_tableswitch (hx : p.tables.exec = Jvm.exec) (hb : c.code = cc) {pc nx tg : Nat} {L : mm_L} {st : List Value} {S : mm_S} {k : mm_Kf} {df lo hi : Int} {offs : Array Int} (ho : mm_ok cc pc (.tableswitch df lo hi offs) nx tg) (h : mm_st0 (.tableswitch df lo hi offs) pc nx tg L st S = some k) (kk : mm_At p l e R s m args below meth c Q D cl tys φ B S0 nL k) : mm_At p l e R s m args below meth c Q D cl tys φ B S0 nL (pc, L, st, S) := by
  obtain ⟨⟨len, hd, rfl, -⟩, -⟩ := ho
  have h : mm_tsw pc df lo hi offs L st S = some k := h
  unfold mm_tsw at h
  split at h
  · split at h
    · rename_i hc
      split at h
      · rename_i hp
        cases h
        exact mm_pure (fun ls H locs _ _ _ q => lv_tableOut hx hb hd hc (by omega) q) kk
      · cases h
    · rename_i hc
      split at h
      · rename_i off hoff
        split at h
        · rename_i hp
          cases h
          exact mm_pure (fun ls H locs _ _ _ q => lv_tableIn hx hb hd (fun z => hc (Or.inl z)) (fun z => hc (Or.inr z)) hoff (by omega) q) kk
        · cases h
      · cases h
  · cases h
set_option maxHeartbeats 4000000 in
theorem ms_all (hx : p.tables.exec = Jvm.exec) (hb : c.code = cc) {i : Instr} {pc nx tg : Nat} {L : mm_L} {st : List Value} {S : mm_S} {k : mm_Kf} (ho : mm_ok cc pc i nx tg) (h : mm_st0 i pc nx tg L st S = some k) (kk : mm_At p l e R s m args below meth c Q D cl tys φ B S0 nL k) : mm_At p l e R s m args below meth c Q D cl tys φ B S0 nL (pc, L, st, S) := by
  cases i

  case aconst_null => exact ms_aconst_null hx hb ho h kk
  case iconst => exact ms_iconst hx hb ho h kk
  case bipush => exact ms_bipush hx hb ho h kk
  case sipush => exact ms_sipush hx hb ho h kk
  case lconst => exact ms_lconst hx hb ho h kk
  case iload => exact ms_iload hx hb ho h kk
  case iload_n => exact ms_iload_n hx hb ho h kk
  case lload => exact ms_lload hx hb ho h kk
  case lload_n => exact ms_lload_n hx hb ho h kk
  case aload => exact ms_aload hx hb ho h kk
  case aload_n => exact ms_aload_n hx hb ho h kk
  case istore => exact ms_istore hx hb ho h kk
  case istore_n => exact ms_istore_n hx hb ho h kk
  case lstore => exact ms_lstore hx hb ho h kk
  case lstore_n => exact ms_lstore_n hx hb ho h kk
  case astore => exact ms_astore hx hb ho h kk
  case astore_n => exact ms_astore_n hx hb ho h kk
  case iinc => exact ms_iinc hx hb ho h kk
  case iadd => exact ms_iadd hx hb ho h kk
  case isub => exact ms_isub hx hb ho h kk
  case imul => exact ms_imul hx hb ho h kk
  case iand => exact ms_iand hx hb ho h kk
  case ior => exact ms_ior hx hb ho h kk
  case ishl => exact ms_ishl hx hb ho h kk
  case ishr => exact ms_ishr hx hb ho h kk
  case iushr => exact ms_iushr hx hb ho h kk
  case ladd => exact ms_ladd hx hb ho h kk
  case lsub => exact ms_lsub hx hb ho h kk
  case lmul => exact ms_lmul hx hb ho h kk
  case land => exact ms_land hx hb ho h kk
  case lor => exact ms_lor hx hb ho h kk
  case lshl => exact ms_lshl hx hb ho h kk
  case lshr => exact ms_lshr hx hb ho h kk
  case lushr => exact ms_lushr hx hb ho h kk
  case lcmp => exact ms_lcmp hx hb ho h kk
  case i2l => exact ms_i2l hx hb ho h kk
  case l2i => exact ms_l2i hx hb ho h kk
  case ifCond => exact ms_ifCond hx hb ho h kk
  case if_icmp => exact ms_if_icmp hx hb ho h kk
  case goto => exact ms_goto hx hb ho h kk
  case dup => exact ms_dup hx hb ho h kk
  case pop => exact ms_pop hx hb ho h kk
  case dup_x1 => exact ms_dup_x1 hx hb ho h kk
  case dup2 => exact ms_dup2 hx hb ho h kk
  case tableswitch => exact ms_tableswitch hx hb ho h kk
  all_goals (cases h)
end MB5
end
section
/-! the instructions that look at cells -/
def mm_gf (pool : Nat → Option mm_P) (x nx : Nat) (L : mm_L) (st : List Value) (S : mm_S) : Option mm_Kf := match pool x, st with
  | some (.inl (ci, k)), .ref a :: r => match S.2.2 a with
    | .inr (c', fs) => if a < S.1 ∧ c' = ci then (match fs[k]? with
      | some v => some (nx, L, v :: r, S)
      | none => none) else none
    | _ => none
  | _, _ => none
def mm_pf (T : mm_T) (ini : Bool) (oc : Nat) (pool : Nat → Option mm_P) (x nx : Nat) (L : mm_L) (st : List Value) (S : mm_S) : Option mm_Kf := match pool x, st with
  | some (.inl (ci, k)), v :: .ref a :: r => match S.2.2 a with
    | .inr (c', fs) => if a < S.1 ∧ c' = ci ∧ k < fs.length ∧ mm_fit (mm_ft T ci k) v = true ∧ (mm_fi T ci k = false ∨ (ini = true ∧ ci = oc)) then some (nx, L, r, mm_up S a (.inr (ci, fs.set k v))) else none
    | _ => none
  | _, _ => none
def mm_ia (scr : Nat × (Nat → Int32)) (nx : Nat) (L : mm_L) (st : List Value) (S : mm_S) : Option mm_Kf := match st with
  | .int j :: .ref a :: r => if a = mm_big then (if mm_inb j scr.1 = true then some (nx, L, .int (scr.2 j.toNatClampNeg) :: r, S) else none) else (match S.2.2 a with
    | .inl (0, n, .inl f) => if a < S.1 ∧ mm_inb j n = true then some (nx, L, .int (f j.toNatClampNeg) :: r, S) else none
    | _ => none)
  | _ => none
def mm_za (nx : Nat) (L : mm_L) (st : List Value) (S : mm_S) : Option mm_Kf := match st with
  | .int j :: .ref a :: r => match S.2.2 a with
    | .inl (2, n, .inl f) => if a < S.1 ∧ mm_inb j n = true then some (nx, L, .int (f j.toNatClampNeg) :: r, S) else none
    | _ => none
  | _ => none
def mm_ja (nx : Nat) (L : mm_L) (st : List Value) (S : mm_S) : Option mm_Kf := match st with
  | .int j :: .ref a :: r => match S.2.2 a with
    | .inl (1, n, .inr (.inl f)) => if a < S.1 ∧ mm_inb j n = true then some (nx, L, .long (f j.toNatClampNeg) :: r, S) else none
    | _ => none
  | _ => none
def mm_aa (T : mm_T) (nx : Nat) (L : mm_L) (st : List Value) (S : mm_S) : Option mm_Kf := match st with
  | .int j :: .ref a :: r => match S.2.2 a with
    | .inl (k, n, .inr (.inr (.inr (.inr f)))) => if a < S.1 ∧ mm_inb j n = true ∧ 3 ≤ k ∧ k < mm_nk T then some (nx, L, va_rf (f j.toNatClampNeg) :: r, S) else none
    | _ => none
  | _ => none
def mm_is (nx : Nat) (L : mm_L) (st : List Value) (S : mm_S) : Option mm_Kf := match st with
  | .int x :: .int j :: .ref a :: r => match S.2.2 a with
    | .inl (0, n, .inl f) => if a < S.1 ∧ mm_inb j n = true then some (nx, L, r, mm_up S a (.inl (0, n, .inl (upd f j.toNatClampNeg x)))) else none
    | _ => none
  | _ => none
def mm_zs (nx : Nat) (L : mm_L) (st : List Value) (S : mm_S) : Option mm_Kf := match st with
  | .int x :: .int j :: .ref a :: r => match S.2.2 a with
    | .inl (2, n, .inl f) => if a < S.1 ∧ mm_inb j n = true then some (nx, L, r, mm_up S a (.inl (2, n, .inl (upd f j.toNatClampNeg (vp_nar .boolean x))))) else none
    | _ => none
  | _ => none
def mm_js (nx : Nat) (L : mm_L) (st : List Value) (S : mm_S) : Option mm_Kf := match st with
  | .long x :: .int j :: .ref a :: r => match S.2.2 a with
    | .inl (1, n, .inr (.inl f)) => if a < S.1 ∧ mm_inb j n = true then some (nx, L, r, mm_up S a (.inl (1, n, .inr (.inl (vp_updL f j.toNatClampNeg x))))) else none
    | _ => none
  | _ => none
def mm_as (T : mm_T) (nx : Nat) (L : mm_L) (st : List Value) (S : mm_S) : Option mm_Kf := match st with
  | .ref b :: .int j :: .ref a :: r => match S.2.2 a with
    | .inl (k, n, .inr (.inr (.inr (.inr f)))) => if a < S.1 ∧ mm_inb j n = true ∧ (3 ≤ k ∧ k < mm_nk T) then (if b < S.1 then (match S.2.2 b with
        | .inr (ci, _) => if mm_kc T k = ci then some (nx, L, r, mm_up S a (.inl (k, n, .inr (.inr (.inr (.inr (va_up f j.toNatClampNeg (some b)))))))) else none
        | _ => none) else (if k = 5 ∧ mm_big < b ∧ b ≤ mm_big + mm_nx T then some (nx, L, r, mm_up S a (.inl (k, n, .inr (.inr (.inr (.inr (va_up f j.toNatClampNeg (some b)))))))) else none)) else none
    | _ => none
  | _ => none
def mm_al (T : mm_T) (scr : Nat × (Nat → Int32)) (nx : Nat) (L : mm_L) (st : List Value) (S : mm_S) : Option mm_Kf := match st with
  | .ref a :: r => if a = mm_big then some (nx, L, .int (Int32.ofNat scr.1) :: r, S) else (match S.2.2 a with
    | .inl (k, n, _) => if a < S.1 ∧ k < mm_nk T then some (nx, L, .int (Int32.ofNat n) :: r, S) else none
    | _ => none)
  | _ => none
def mm_nw (T : mm_T) (pool : Nat → Option mm_P) (x nx : Nat) (L : mm_L) (st : List Value) (S : mm_S) : Option mm_Kf := match pool x with
  | some (.inr (.inr (.inl ci))) => if (S.1 + 1 ≤ mm_lc T ∧ S.2.1 + (mm_fd T ci).length ≤ mm_lsl T) ∧ ci < mm_nc T then some (nx, L, .ref S.1 :: st, mm_add S (mm_fd T ci).length (.inr (ci, mm_fd T ci))) else none
  | _ => none
def mm_na (T : mm_T) (t : ArrayType) (nx : Nat) (L : mm_L) (st : List Value) (S : mm_S) : Option mm_Kf := match st with
  | .int x :: r => if 0 ≤ x.toInt ∧ x.toNatClampNeg ≤ 60000000 ∧ S.1 + 1 ≤ mm_lc T ∧ S.2.1 + x.toNatClampNeg ≤ mm_lsl T then (match t with
    | .int => some (nx, L, .ref S.1 :: r, mm_add S x.toNatClampNeg (.inl (0, x.toNatClampNeg, .inl (fun _ => 0))))
    | .long => some (nx, L, .ref S.1 :: r, mm_add S x.toNatClampNeg (.inl (1, x.toNatClampNeg, .inr (.inl (fun _ => 0)))))
    | .boolean => some (nx, L, .ref S.1 :: r, mm_add S x.toNatClampNeg (.inl (2, x.toNatClampNeg, .inl (fun _ => 0))))
    | _ => none) else none
  | _ => none
def mm_nq (T : mm_T) (pool : Nat → Option mm_P) (x nx : Nat) (L : mm_L) (st : List Value) (S : mm_S) : Option mm_Kf := match pool x, st with
  | some (.inr (.inr (.inl ci))), .int n :: r => if 0 ≤ n.toInt ∧ n.toNatClampNeg ≤ 60000000 ∧ S.1 + 1 ≤ mm_lc T ∧ S.2.1 + n.toNatClampNeg ≤ mm_lsl T ∧ (3 ≤ mm_ka T ci ∧ mm_ka T ci < mm_nk T) then some (nx, L, .ref S.1 :: r, mm_add S n.toNatClampNeg (.inl (mm_ka T ci, n.toNatClampNeg, .inr (.inr (.inr (.inr (fun _ => none))))))) else none
  | _, _ => none
def mm_lc1 (pool : Nat → Option mm_P) (x nx : Nat) (L : mm_L) (st : List Value) (S : mm_S) : Option mm_Kf := match pool x with
  | some (.inr (.inr (.inr (.inl v)))) => some (nx, L, .int v :: st, S)
  | some (.inr (.inr (.inr (.inr (.inr k))))) => some (nx, L, .ref (mm_big + k) :: st, S)
  | _ => none
def mm_lc2 (pool : Nat → Option mm_P) (x nx : Nat) (L : mm_L) (st : List Value) (S : mm_S) : Option mm_Kf := match pool x with
  | some (.inr (.inr (.inr (.inr (.inl v))))) => some (nx, L, .long v :: st, S)
  | _ => none
def mm_lcw (pool : Nat → Option mm_P) (x nx : Nat) (L : mm_L) (st : List Value) (S : mm_S) : Option mm_Kf := match pool x with
  | some (.inr (.inr (.inr (.inl v)))) => some (nx, L, .int v :: st, S)
  | _ => none
def mm_st1 (T : mm_T) (ini : Bool) (oc : Nat) (pool : Nat → Option mm_P) (scr : Nat × (Nat → Int32)) (i : Instr) (nx : Nat) (L : mm_L) (st : List Value) (S : mm_S) : Option mm_Kf := match i with
  | .getfield x => mm_gf pool x nx L st S
  | .putfield x => mm_pf T ini oc pool x nx L st S
  | .iaload => mm_ia scr nx L st S
  | .baload => mm_za nx L st S
  | .laload => mm_ja nx L st S
  | .aaload => mm_aa T nx L st S
  | .iastore => mm_is nx L st S
  | .bastore => mm_zs nx L st S
  | .lastore => mm_js nx L st S
  | .aastore => mm_as T nx L st S
  | .arraylength => mm_al T scr nx L st S
  | .new x => mm_nw T pool x nx L st S
  | .newarray t => mm_na T t nx L st S
  | .anewarray x => mm_nq T pool x nx L st S
  | .ldc x => mm_lc1 pool x nx L st S
  | .ldc2_w x => mm_lc2 pool x nx L st S
  | .ldc_w x => mm_lcw pool x nx L st S
  | _ => none
/-! what the program's tables must be -/
def mm_clOK (Ts : List Jvm.Cond) (cl : List vw_C) (T : mm_T) : Prop := ∀ (ci : Nat) (r : vw_C), cl[ci]? = some r → (∀ w ∈ u_ws r.1 r.2.1 r.2.2, w ∈ Ts) ∧ (∀ k, k < r.2.2 → parseFieldDescriptor (r.2.1 k).2.2.1 = some (mm_ft T ci k)) ∧ (∀ a, a < r.2.2 → ∀ b, b < r.2.2 → a ≠ b → (r.2.1 a).2.1 ≠ (r.2.1 b).2.1) ∧ (∀ k, k < r.2.2 → mm_fi T ci k = (r.2.1 k).2.2.2) ∧ ((mm_fd T ci).length = r.2.2 ∧ ∀ j, j < r.2.2 → vp_V (mm_fd T ci) j = defaultValue (mm_ft T ci j))
/-- a method's pool: its class's name, that class's number -/
def mm_plOK (Ts : List Jvm.Cond) (cl : List vw_C) (aT : List FieldType) (T : mm_T) (own : String) (oc : Nat) (pool : Nat → Option mm_P) : Prop :=
  (∀ x ci k, pool x = some (.inl (ci, k)) → ∃ r : vw_C, cl[ci]? = some r ∧ k < r.2.2 ∧ (Jvm.Cond.fieldLink own x (r.2.1 k).1 (r.2.1 k).2.1 (r.2.1 k).2.2.1 ∈ Ts ∨ (ci ≠ oc ∧ ∃ host, Jvm.Cond.fieldLinkNest own x (r.2.1 k).1 (r.2.1 k).2.1 (r.2.1 k).2.2.1 host ∈ Ts)) ∧ (ci = oc → (r.2.1 k).1 = own)) ∧
  (∀ x ci, pool x = some (.inr (.inr (.inl ci))) → ∃ C : String, Jvm.Cond.classLink own x C ∈ Ts ∧ (∀ r : vw_C, cl[ci]? = some r → r.1 = C ∧ Jvm.Cond.instantiable C r.2.2 ∈ Ts ∧ Jvm.Cond.initialized C ∈ Ts) ∧ (3 ≤ mm_ka T ci → mm_ka T ci < mm_nk T → aT[mm_ka T ci]? = some (.object C))) ∧
  (∀ x v, pool x = some (.inr (.inr (.inr (.inl v)))) → Jvm.Cond.constant own x v ∈ Ts) ∧
  (∀ x v, pool x = some (.inr (.inr (.inr (.inr (.inl v))))) → Jvm.Cond.constantLong own x v ∈ Ts)
theorem mm_fit_ok {φ : Nat → Nat} {ty : FieldType} {v : Value} (h : mm_fit ty v = true) : narrow ty (mm_tv φ v) = mm_tv φ v ∧ fits ty (mm_tv φ v) = true := by
  unfold mm_fit at h
  split at h
  · exact ⟨rfl, rfl⟩
  · exact ⟨rfl, rfl⟩
  · rename_i x
    rcases (by simpa using h : x = 0 ∨ x = 1) with rfl | rfl
    · exact ⟨(show narrow FieldType.boolean (Value.int 0) = Value.int 0 by decide +kernel), (show fits FieldType.boolean (Value.int 0) = true by decide +kernel)⟩
    · exact ⟨(show narrow FieldType.boolean (Value.int 1) = Value.int 1 by decide +kernel), (show fits FieldType.boolean (Value.int 1) = true by decide +kernel)⟩
  all_goals first | (exact ⟨rfl, rfl⟩) | (cases h)
theorem mm_inb_ok {j : Int32} {n : Nat} (h : mm_inb j n = true) : vp_in j n := by
  rw [vp_in_iff]
  unfold mm_inb at h
  rw [Bool.and_eq_true, decide_eq_true_eq, decide_eq_true_eq] at h
  exact h
end
section
section MC7
variable {p : Program} {l : Launch} {e : Env} {R : Room} {s : State} {m : MethodId} {args : Array Value} {below : List Frame} {meth : Method} {c : Code} {Q : State → Prop}
variable {D : va_G} {cl : List vw_C} {tys : List (ClassId × FieldType)} {B : Nat} {ex : Nat → Nat} {S0 : mm_S} {nL : Nat} {cc : ByteArray} {Ts : List Jvm.Cond} {aT : List FieldType} {T : mm_T} {own : String} {oc : Nat} {pool : Nat → Option mm_P} {ini : Bool} {scr : Nat × (Nat → Int32)}
/-- what stands fast during a walk: the machine, the code, the words, the classes, the tables, the room, the script -/
def mm_Fix (p : Program) (R : Room) (s : State) (m : MethodId) (args : Array Value) (meth : Method) (c : Code) (D : va_G) (cl : List vw_C) (tys : List (ClassId × FieldType)) (B : Nat) (ex : Nat → Nat) (S0 : mm_S) (nL : Nat) (cc : ByteArray) (Ts : List Jvm.Cond) (aT : List FieldType) (T : mm_T) (own : String) (oc : Nat) (pool : Nat → Option mm_P) (ini : Bool) (scr : Nat × (Nat → Int32)) : Prop :=
  (p.tables.exec = Jvm.exec ∧ c.code = cc ∧ c.maxLocals = nL ∧ s.vm.findClass own = some m.cls ∧ meth.locks = false ∧ (ini = true → meth.name = "<init>")) ∧
  ((∀ w ∈ Ts, w.before args s = true) ∧ va_K D cl tys s ∧ mm_clOK Ts cl T ∧ mm_plOK Ts cl aT T own oc pool) ∧
  ((∀ k ty, aT[k]? = some ty → tys[k]? = some (mm_aC tys k, ty)) ∧ (aT.length = mm_nk T ∧ cl.length = mm_nc T ∧ aT[0]? = some .int ∧ aT[1]? = some .long ∧ aT[2]? = some .boolean) ∧ (∀ k, 3 ≤ k → ∀ ty, aT[k]? = some ty → ∃ C : String, ty = .object C ∧ (Jvm.Cond.arrayOver (.object C)).before args s = true ∧ ∀ r : vw_C, cl[mm_kc T k]? = some r → r.1 = C)) ∧
  (∀ ty, ty = .int ∨ ty = .long ∨ ty = .boolean → (Jvm.Cond.arrayClass ty).before args s = true) ∧
  (s.heap.size = B + S0.1 ∧ R.cells = mm_lc T - S0.1 ∧ R.slots = mm_lsl T - S0.2.1 ∧ mm_lc T ≤ mm_big) ∧
  (va_X (ex 0) scr.1 scr.2 s s.heap ∧ ex 0 < B ∧ (∀ C, aT[5]? = some (.object C) → ∀ j, 1 ≤ j → j ≤ mm_nx T → va_O C (ex j) (fun q => B ≤ q) s s.heap ∧ ∀ cC, s.vm.findClass C = some cC → s.vm.assignable cC cC = true))
theorem mm_sz {H : Heap} {locs : List Loc} {cells slots : Nat} {g : JFrame} (k : H.size ≤ s.heap.size + cells → W p l e R s m args below meth c H locs cells slots Q g) : W p l e R s m args below meth c H locs cells slots Q g :=
  fun U hU X => k (by rw [← hU]; exact X.heapSize) U hU X
theorem mm_newq {S : mm_S} {q : Nat} {en : va_E} {H1 : Heap} (hS : S.1 < mm_big) (hP : va_P D cl (mm_ws (mm_phi B ex) tys S ++ [(q, en)]) H1) (hD : va_D (fun q => B ≤ q) (mm_ws (mm_phi B ex) tys S ++ [(q, en)])) (hz : H1.size ≤ B + S.1 + 1) : q = mm_phi B ex S.1 := by
  rw [mm_phi_lt hS]
  have hl : (mm_ws (mm_phi B ex) tys S ++ [(q, en)])[S.1]? = some (q, en) := by
    rw [List.getElem?_append_right (by rw [mm_ws_len]; exact Nat.le_refl _), mm_ws_len]
    simp
  have h1 : B ≤ q := hD.2 _ _ hl
  have h2 : q < H1.size := (hP _ _ hl).lt
  rcases Nat.lt_or_ge q (B + S.1) with h3 | h3
  · exfalso
    have hk : q - B < S.1 := by omega
    have hq : (mm_ws (mm_phi B ex) tys S ++ [(q, en)])[q - B]? = some (mm_phi B ex (q - B), mm_te (mm_phi B ex) tys (S.2.2 (q - B))) := by
      rw [List.getElem?_append_left (by rw [mm_ws_len]; exact hk)]
      exact mm_ws_at hk
    have := hD.1 _ _ _ _ hq hl (by show mm_phi B ex (q - B) = q; rw [mm_phi_lt (by omega)]; omega)
    omega
  · omega

set_option maxHeartbeats 1000000 in
theorem mt_getfield (F : mm_Fix p R s m args meth c D cl tys B ex S0 nL cc Ts aT T own oc pool ini scr) {pc nx tg : Nat} {L : mm_L} {st : List Value} {S : mm_S} {k : mm_Kf} {x : Nat} (ho : mm_ok cc pc (.getfield x) nx tg) (h : mm_st1 T ini oc pool scr (.getfield x) nx L st S = some k) (kk : mm_At p l e R s m args below meth c Q D cl tys (mm_phi B ex) B S0 nL k) : mm_At p l e R s m args below meth c Q D cl tys (mm_phi B ex) B S0 nL (pc, L, st, S) := by
  obtain ⟨⟨len, hd, rfl, hl⟩, -⟩ := ho
  have hl : len = 3 := hl (fun _ _ _ _ q => by cases q)
  subst hl
  obtain ⟨⟨hx, hb, hml, hown, hlk, hini⟩, ⟨hts, hK, hcl, hpl⟩, ⟨haT, ⟨hAn, hCn, hA0, hA1, hA2⟩, hA3⟩, hAC, ⟨hB, hRc, hRs, hlcb⟩, hX, hX0, hXs⟩ := F
  replace h : mm_gf pool x _ L st S = some k := h
  unfold mm_gf at h
  split at h
  · rename_i ci k0 a r hp
    split at h
    · rename_i c' fs hE
      split at h
      · rename_i hc
        obtain ⟨ha, rfl⟩ := hc
        split at h
        · rename_i v hv
          cases h
          obtain ⟨⟨C, F, N⟩, hc, hk, hlink, -⟩ := hpl.1 _ _ _ hp
          have hcl1 := hcl _ _ hc
          intro ls H locs h1 h0 h2 h3 h4 h5
          have hat : (mm_ws (mm_phi B ex) tys S)[a]? = some (mm_phi B ex a, .inr (c', fs.map (mm_tv (mm_phi B ex)))) := by
            rw [mm_ws_at ha, hE]; rfl
          have hv2 : (fs.map (mm_tv (mm_phi B ex)))[k0]? = some (mm_tv (mm_phi B ex) v) := by rw [List.getElem?_map, hv]; rfl
          rcases hlink with hlink | ⟨-, host, hlink⟩
          · exact va_get (ref := (F k0).1) hx hb hts hcl1.1 hown hK h2 a hat hc k0 hk (hts _ hlink) (fun _ z => z) hv2 hd (kk ls H locs h1 h0 h2 h3 h4 h5)
          · exact va_getN (ref := (F k0).1) (host := host) hx hb hts hcl1.1 hown hK h2 a hat hc k0 hk (hts _ hlink) (fun _ z => z) hv2 hd (kk ls H locs h1 h0 h2 h3 h4 h5)
        · cases h
      · cases h
    · cases h
  · cases h
set_option maxHeartbeats 1000000 in
theorem mt_putfield (F : mm_Fix p R s m args meth c D cl tys B ex S0 nL cc Ts aT T own oc pool ini scr) {pc nx tg : Nat} {L : mm_L} {st : List Value} {S : mm_S} {k : mm_Kf} {x : Nat} (ho : mm_ok cc pc (.putfield x) nx tg) (h : mm_st1 T ini oc pool scr (.putfield x) nx L st S = some k) (kk : mm_At p l e R s m args below meth c Q D cl tys (mm_phi B ex) B S0 nL k) : mm_At p l e R s m args below meth c Q D cl tys (mm_phi B ex) B S0 nL (pc, L, st, S) := by
  obtain ⟨⟨len, hd, rfl, hl⟩, -⟩ := ho
  have hl : len = 3 := hl (fun _ _ _ _ q => by cases q)
  subst hl
  obtain ⟨⟨hx, hb, hml, hown, hlk, hini⟩, ⟨hts, hK, hcl, hpl⟩, ⟨haT, ⟨hAn, hCn, hA0, hA1, hA2⟩, hA3⟩, hAC, ⟨hB, hRc, hRs, hlcb⟩, hX, hX0, hXs⟩ := F
  replace h : mm_pf T ini oc pool x _ L st S = some k := h
  unfold mm_pf at h
  split at h
  · rename_i ci k0 v a r hp
    split at h
    · rename_i c' fs hE
      split at h
      · rename_i hc
        obtain ⟨ha, rfl, hkl, hft, hfin⟩ := hc
        cases h
        obtain ⟨⟨C, F, N⟩, hc, hk, hlink, hdecl⟩ := hpl.1 _ _ _ hp
        obtain ⟨c1, c2, c3, c4, -⟩ := hcl _ _ hc
        obtain ⟨f1, f2⟩ := mm_fit_ok (φ := mm_phi B ex) hft
        intro ls H locs h1 h0 h2 h3 h4 h5
        have hat : (mm_ws (mm_phi B ex) tys S)[a]? = some (mm_phi B ex a, .inr (c', fs.map (mm_tv (mm_phi B ex)))) := by
          rw [mm_ws_at ha, hE]; rfl
        have hset : (mm_ws (mm_phi B ex) tys S).set a (mm_phi B ex a, .inr (c', (fs.map (mm_tv (mm_phi B ex))).set k0 (mm_tv (mm_phi B ex) v))) = mm_ws (mm_phi B ex) tys (mm_up S a (.inr (c', fs.set k0 v))) := by
          rw [← mm_ws_up _ ha]
          simp only [mm_te, List.map_set]
        have hD := mm_ws_D (B := B) (ex := ex) (tys := tys) h4.2
        have hl2 : k0 < (fs.map (mm_tv (mm_phi B ex))).length := by rw [List.length_map]; exact hkl
        have fin : ∀ (H1 : Heap) (locs1 : List Loc), va_P D cl ((mm_ws (mm_phi B ex) tys S).set a (mm_phi B ex a, .inr (c', (fs.map (mm_tv (mm_phi B ex))).set k0 (mm_tv (mm_phi B ex) v)))) H1 → va_S (fun q => B ≤ q) s.heap H1 locs1 → W p l e R s m args below meth c H1 locs1 (S.1 - S0.1) (S.2.1 - S0.2.1) Q (F0 m (pc + 3) ls (r.map (mm_tv (mm_phi B ex)))) := fun H1 locs1 hP1 hS1 =>
          kk ls H1 locs1 h1 h0 (by rw [hset] at hP1; exact hP1) hS1 h4 h5
        rcases hlink with hlink | ⟨hne, host, hlink⟩
        · rcases hfin with hfin | ⟨hi1, hi2⟩
          · exact va_put (ref := (F k0).1) hx hb hts c1 (mm_ft T c') c2 c3 hown hK h2 hD h3 a hat hc k0 hk (hts _ hlink) (fun _ z => z) (by rw [← c4 k0 hk]; exact hfin) (c2 k0 hk) f1 f2 hl2 hd (fun H1 locs1 hP1 _ hS1 => fin H1 locs1 hP1 hS1)
          · rcases hff : (F k0).2.2.2 with _ | _
            · exact va_put (ref := (F k0).1) hx hb hts c1 (mm_ft T c') c2 c3 hown hK h2 hD h3 a hat hc k0 hk (hts _ hlink) (fun _ z => z) hff (c2 k0 hk) f1 f2 hl2 hd (fun H1 locs1 hP1 _ hS1 => fin H1 locs1 hP1 hS1)
            · exact va_putF (ref := (F k0).1) hx hb hts c1 (mm_ft T c') c2 c3 hown hK h2 hD h3 a hat hc k0 hk (hts _ hlink) (fun _ z => z) hff (hini hi1) (hdecl hi2) (c2 k0 hk) f1 f2 hl2 hd (fun H1 locs1 hP1 _ hS1 => fin H1 locs1 hP1 hS1)
        · rcases hfin with hfin | ⟨hi1, hi2⟩
          · exact va_putN (ref := (F k0).1) (host := host) hx hb hts c1 (mm_ft T c') c2 c3 hown hK h2 hD h3 a hat hc k0 hk (hts _ hlink) (fun _ z => z) (by rw [← c4 k0 hk]; exact hfin) (c2 k0 hk) f1 f2 hl2 hd (fun H1 locs1 hP1 _ hS1 => fin H1 locs1 hP1 hS1)
          · exact absurd hi2 hne
      · cases h
    · cases h
  · cases h
set_option maxHeartbeats 1000000 in
theorem mt_baload (F : mm_Fix p R s m args meth c D cl tys B ex S0 nL cc Ts aT T own oc pool ini scr) {pc nx tg : Nat} {L : mm_L} {st : List Value} {S : mm_S} {k : mm_Kf} (ho : mm_ok cc pc (.baload) nx tg) (h : mm_st1 T ini oc pool scr (.baload) nx L st S = some k) (kk : mm_At p l e R s m args below meth c Q D cl tys (mm_phi B ex) B S0 nL k) : mm_At p l e R s m args below meth c Q D cl tys (mm_phi B ex) B S0 nL (pc, L, st, S) := by
  obtain ⟨⟨len, hd, rfl, hl⟩, -⟩ := ho
  have hl : len = 1 := hl (fun _ _ _ _ q => by cases q)
  subst hl
  obtain ⟨⟨hx, hb, hml, hown, hlk, hini⟩, ⟨hts, hK, hcl, hpl⟩, ⟨haT, ⟨hAn, hCn, hA0, hA1, hA2⟩, hA3⟩, hAC, ⟨hB, hRc, hRs, hlcb⟩, hX, hX0, hXs⟩ := F
  replace h : mm_za _ L st S = some k := h
  unfold mm_za at h
  split at h
  · rename_i j a r
    split at h
    · rename_i n f hE
      split at h
      · rename_i hc
        cases h
        intro ls H locs h1 h0 h2 h3 h4 h5
        have hat : (mm_ws (mm_phi B ex) tys S)[a]? = some (mm_phi B ex a, .inl (mm_aC tys 2, n, .inl f)) := by
          rw [mm_ws_at hc.1, hE]; rfl
        exact va_zald hx hb hK h2 a 2 hat (haT _ _ hA2) (mm_inb_ok hc.2) hd (kk ls H locs h1 h0 h2 h3 h4 h5)
      · cases h
    · cases h
  · cases h
set_option maxHeartbeats 1000000 in
theorem mt_laload (F : mm_Fix p R s m args meth c D cl tys B ex S0 nL cc Ts aT T own oc pool ini scr) {pc nx tg : Nat} {L : mm_L} {st : List Value} {S : mm_S} {k : mm_Kf} (ho : mm_ok cc pc (.laload) nx tg) (h : mm_st1 T ini oc pool scr (.laload) nx L st S = some k) (kk : mm_At p l e R s m args below meth c Q D cl tys (mm_phi B ex) B S0 nL k) : mm_At p l e R s m args below meth c Q D cl tys (mm_phi B ex) B S0 nL (pc, L, st, S) := by
  obtain ⟨⟨len, hd, rfl, hl⟩, -⟩ := ho
  have hl : len = 1 := hl (fun _ _ _ _ q => by cases q)
  subst hl
  obtain ⟨⟨hx, hb, hml, hown, hlk, hini⟩, ⟨hts, hK, hcl, hpl⟩, ⟨haT, ⟨hAn, hCn, hA0, hA1, hA2⟩, hA3⟩, hAC, ⟨hB, hRc, hRs, hlcb⟩, hX, hX0, hXs⟩ := F
  replace h : mm_ja _ L st S = some k := h
  unfold mm_ja at h
  split at h
  · rename_i j a r
    split at h
    · rename_i n f hE
      split at h
      · rename_i hc
        cases h
        intro ls H locs h1 h0 h2 h3 h4 h5
        have hat : (mm_ws (mm_phi B ex) tys S)[a]? = some (mm_phi B ex a, .inl (mm_aC tys 1, n, .inr (.inl f))) := by
          rw [mm_ws_at hc.1, hE]; rfl
        exact va_lald hx hb hK h2 a 1 hat (haT _ _ hA1) (mm_inb_ok hc.2) hd (kk ls H locs h1 h0 h2 h3 h4 h5)
      · cases h
    · cases h
  · cases h
set_option maxHeartbeats 1000000 in
theorem mt_iaload (F : mm_Fix p R s m args meth c D cl tys B ex S0 nL cc Ts aT T own oc pool ini scr) {pc nx tg : Nat} {L : mm_L} {st : List Value} {S : mm_S} {k : mm_Kf} (ho : mm_ok cc pc (.iaload) nx tg) (h : mm_st1 T ini oc pool scr (.iaload) nx L st S = some k) (kk : mm_At p l e R s m args below meth c Q D cl tys (mm_phi B ex) B S0 nL k) : mm_At p l e R s m args below meth c Q D cl tys (mm_phi B ex) B S0 nL (pc, L, st, S) := by
  obtain ⟨⟨len, hd, rfl, hl⟩, -⟩ := ho
  have hl : len = 1 := hl (fun _ _ _ _ q => by cases q)
  subst hl
  obtain ⟨⟨hx, hb, hml, hown, hlk, hini⟩, ⟨hts, hK, hcl, hpl⟩, ⟨haT, ⟨hAn, hCn, hA0, hA1, hA2⟩, hA3⟩, hAC, ⟨hB, hRc, hRs, hlcb⟩, hX, hX0, hXs⟩ := F
  replace h : mm_ia scr _ L st S = some k := h
  unfold mm_ia at h
  split at h
  · rename_i j a r
    split at h
    · rename_i hab
      split at h
      · rename_i hj
        cases h
        subst hab
        intro ls H locs h1 h0 h2 h3 h4 h5
        have h9 : mm_phi B ex mm_big = ex 0 := by simp [mm_phi]
        have goal := va_sld (e := e) (l := l) (R := R) (below := below) (meth := meth) (Q := Q) (cells := S.1 - S0.1) (slots := S.2.1 - S0.2.1) (ls := ls) (rest := r.map (mm_tv (mm_phi B ex))) hx hb hX (by omega) (show ¬ (B ≤ ex 0) by omega) h3 (mm_inb_ok hj) hd (kk ls H locs h1 h0 h2 h3 h4 h5)
        simpa [mm_tv, h9] using goal
      · cases h
    · split at h
      · rename_i n f hE
        split at h
        · rename_i hc
          cases h
          intro ls H locs h1 h0 h2 h3 h4 h5
          have hat : (mm_ws (mm_phi B ex) tys S)[a]? = some (mm_phi B ex a, .inl (mm_aC tys 0, n, .inl f)) := by
            rw [mm_ws_at hc.1, hE]; rfl
          exact va_iald hx hb hK h2 a 0 hat (haT _ _ hA0) (mm_inb_ok hc.2) hd (kk ls H locs h1 h0 h2 h3 h4 h5)
        · cases h
      · cases h
  · cases h
theorem mm_tv_rf (φ : Nat → Nat) (o : Option Nat) : mm_tv φ (va_rf o) = va_rf (o.map φ) := by cases o <;> rfl
set_option maxHeartbeats 1000000 in
theorem mt_aaload (F : mm_Fix p R s m args meth c D cl tys B ex S0 nL cc Ts aT T own oc pool ini scr) {pc nx tg : Nat} {L : mm_L} {st : List Value} {S : mm_S} {k : mm_Kf} (ho : mm_ok cc pc (.aaload) nx tg) (h : mm_st1 T ini oc pool scr (.aaload) nx L st S = some k) (kk : mm_At p l e R s m args below meth c Q D cl tys (mm_phi B ex) B S0 nL k) : mm_At p l e R s m args below meth c Q D cl tys (mm_phi B ex) B S0 nL (pc, L, st, S) := by
  obtain ⟨⟨len, hd, rfl, hl⟩, -⟩ := ho
  have hl : len = 1 := hl (fun _ _ _ _ q => by cases q)
  subst hl
  obtain ⟨⟨hx, hb, hml, hown, hlk, hini⟩, ⟨hts, hK, hcl, hpl⟩, ⟨haT, ⟨hAn, hCn, hA0, hA1, hA2⟩, hA3⟩, hAC, ⟨hB, hRc, hRs, hlcb⟩, hX, hX0, hXs⟩ := F
  replace h : mm_aa T _ L st S = some k := h
  unfold mm_aa at h
  split at h
  · rename_i j a r
    split at h
    · rename_i k0 n f hE
      split at h
      · rename_i hc
        cases h
        intro ls H locs h1 h0 h2 h3 h4 h5
        have hat : (mm_ws (mm_phi B ex) tys S)[a]? = some (mm_phi B ex a, .inl (mm_aC tys k0, n, .inr (.inr (.inr (.inr (fun j => (f j).map (mm_phi B ex))))))) := by
          rw [mm_ws_at hc.1, hE]; rfl
        have kk := kk ls H locs h1 h0 h2 h3 h4 h5
        simp only [List.map_cons, mm_tv_rf] at kk
        have hk0 : aT[k0]? = some (aT[k0]'(by rw [hAn]; exact hc.2.2.2)) := List.getElem?_eq_getElem _
        generalize aT[k0]'(by rw [hAn]; exact hc.2.2.2) = ty at hk0
        obtain ⟨CC, rfl, -, -⟩ := hA3 k0 hc.2.2.1 ty hk0
        exact va_aldq hx hb hK h2 a k0 hat (haT _ _ hk0) (mm_inb_ok hc.2.1) hd kk
      · cases h
    · cases h
  · cases h
set_option maxHeartbeats 1000000 in
theorem mt_iastore (F : mm_Fix p R s m args meth c D cl tys B ex S0 nL cc Ts aT T own oc pool ini scr) {pc nx tg : Nat} {L : mm_L} {st : List Value} {S : mm_S} {k : mm_Kf} (ho : mm_ok cc pc (.iastore) nx tg) (h : mm_st1 T ini oc pool scr (.iastore) nx L st S = some k) (kk : mm_At p l e R s m args below meth c Q D cl tys (mm_phi B ex) B S0 nL k) : mm_At p l e R s m args below meth c Q D cl tys (mm_phi B ex) B S0 nL (pc, L, st, S) := by
  obtain ⟨⟨len, hd, rfl, hl⟩, -⟩ := ho
  have hl : len = 1 := hl (fun _ _ _ _ q => by cases q)
  subst hl
  obtain ⟨⟨hx, hb, hml, hown, hlk, hini⟩, ⟨hts, hK, hcl, hpl⟩, ⟨haT, ⟨hAn, hCn, hA0, hA1, hA2⟩, hA3⟩, hAC, ⟨hB, hRc, hRs, hlcb⟩, hX, hX0, hXs⟩ := F
  replace h : mm_is _ L st S = some k := h
  unfold mm_is at h
  split at h
  · rename_i x j a r
    split at h
    · rename_i n f hE
      split at h
      · rename_i hc
        cases h
        intro ls H locs h1 h0 h2 h3 h4 h5
        have hat : (mm_ws (mm_phi B ex) tys S)[a]? = some (mm_phi B ex a, .inl (mm_aC tys 0, n, .inl f)) := by
          rw [mm_ws_at hc.1, hE]; rfl
        have hD := mm_ws_D (B := B) (ex := ex) (tys := tys) h4.2
        refine va_iast hx hb hK h2 hD h3 a 0 hat (haT _ _ hA0) (mm_inb_ok hc.2) hd (fun H1 locs1 hP1 _ hS1 => kk ls H1 locs1 h1 h0 ?_ hS1 h4 h5)
        rw [← mm_ws_up _ hc.1]
        exact hP1
      · cases h
    · cases h
  · cases h
set_option maxHeartbeats 1000000 in
theorem mt_bastore (F : mm_Fix p R s m args meth c D cl tys B ex S0 nL cc Ts aT T own oc pool ini scr) {pc nx tg : Nat} {L : mm_L} {st : List Value} {S : mm_S} {k : mm_Kf} (ho : mm_ok cc pc (.bastore) nx tg) (h : mm_st1 T ini oc pool scr (.bastore) nx L st S = some k) (kk : mm_At p l e R s m args below meth c Q D cl tys (mm_phi B ex) B S0 nL k) : mm_At p l e R s m args below meth c Q D cl tys (mm_phi B ex) B S0 nL (pc, L, st, S) := by
  obtain ⟨⟨len, hd, rfl, hl⟩, -⟩ := ho
  have hl : len = 1 := hl (fun _ _ _ _ q => by cases q)
  subst hl
  obtain ⟨⟨hx, hb, hml, hown, hlk, hini⟩, ⟨hts, hK, hcl, hpl⟩, ⟨haT, ⟨hAn, hCn, hA0, hA1, hA2⟩, hA3⟩, hAC, ⟨hB, hRc, hRs, hlcb⟩, hX, hX0, hXs⟩ := F
  replace h : mm_zs _ L st S = some k := h
  unfold mm_zs at h
  split at h
  · rename_i x j a r
    split at h
    · rename_i n f hE
      split at h
      · rename_i hc
        cases h
        intro ls H locs h1 h0 h2 h3 h4 h5
        have hat : (mm_ws (mm_phi B ex) tys S)[a]? = some (mm_phi B ex a, .inl (mm_aC tys 2, n, .inl f)) := by
          rw [mm_ws_at hc.1, hE]; rfl
        have hD := mm_ws_D (B := B) (ex := ex) (tys := tys) h4.2
        refine va_zast hx hb hK h2 hD h3 a 2 hat (haT _ _ hA2) (mm_inb_ok hc.2) hd (fun H1 locs1 hP1 _ hS1 => kk ls H1 locs1 h1 h0 ?_ hS1 h4 h5)
        rw [← mm_ws_up _ hc.1]
        exact hP1
      · cases h
    · cases h
  · cases h
set_option maxHeartbeats 1000000 in
theorem mt_lastore (F : mm_Fix p R s m args meth c D cl tys B ex S0 nL cc Ts aT T own oc pool ini scr) {pc nx tg : Nat} {L : mm_L} {st : List Value} {S : mm_S} {k : mm_Kf} (ho : mm_ok cc pc (.lastore) nx tg) (h : mm_st1 T ini oc pool scr (.lastore) nx L st S = some k) (kk : mm_At p l e R s m args below meth c Q D cl tys (mm_phi B ex) B S0 nL k) : mm_At p l e R s m args below meth c Q D cl tys (mm_phi B ex) B S0 nL (pc, L, st, S) := by
  obtain ⟨⟨len, hd, rfl, hl⟩, -⟩ := ho
  have hl : len = 1 := hl (fun _ _ _ _ q => by cases q)
  subst hl
  obtain ⟨⟨hx, hb, hml, hown, hlk, hini⟩, ⟨hts, hK, hcl, hpl⟩, ⟨haT, ⟨hAn, hCn, hA0, hA1, hA2⟩, hA3⟩, hAC, ⟨hB, hRc, hRs, hlcb⟩, hX, hX0, hXs⟩ := F
  replace h : mm_js _ L st S = some k := h
  unfold mm_js at h
  split at h
  · rename_i x j a r
    split at h
    · rename_i n f hE
      split at h
      · rename_i hc
        cases h
        intro ls H locs h1 h0 h2 h3 h4 h5
        have hat : (mm_ws (mm_phi B ex) tys S)[a]? = some (mm_phi B ex a, .inl (mm_aC tys 1, n, .inr (.inl f))) := by
          rw [mm_ws_at hc.1, hE]; rfl
        have hD := mm_ws_D (B := B) (ex := ex) (tys := tys) h4.2
        refine va_last hx hb hK h2 hD h3 a 1 hat (haT _ _ hA1) (mm_inb_ok hc.2) hd (fun H1 locs1 hP1 _ hS1 => kk ls H1 locs1 h1 h0 ?_ hS1 h4 h5)
        rw [← mm_ws_up _ hc.1]
        exact hP1
      · cases h
    · cases h
  · cases h
set_option maxHeartbeats 1000000 in
theorem mt_aastore (F : mm_Fix p R s m args meth c D cl tys B ex S0 nL cc Ts aT T own oc pool ini scr) {pc nx tg : Nat} {L : mm_L} {st : List Value} {S : mm_S} {k : mm_Kf} (ho : mm_ok cc pc (.aastore) nx tg) (h : mm_st1 T ini oc pool scr (.aastore) nx L st S = some k) (kk : mm_At p l e R s m args below meth c Q D cl tys (mm_phi B ex) B S0 nL k) : mm_At p l e R s m args below meth c Q D cl tys (mm_phi B ex) B S0 nL (pc, L, st, S) := by
  obtain ⟨⟨len, hd, rfl, hl⟩, -⟩ := ho
  have hl : len = 1 := hl (fun _ _ _ _ q => by cases q)
  subst hl
  obtain ⟨⟨hx, hb, hml, hown, hlk, hini⟩, ⟨hts, hK, hcl, hpl⟩, ⟨haT, ⟨hAn, hCn, hA0, hA1, hA2⟩, hA3⟩, hAC, ⟨hB, hRc, hRs, hlcb⟩, hX, hX0, hXs⟩ := F
  replace h : mm_as T _ L st S = some k := h
  unfold mm_as at h
  split at h
  · rename_i b j a r
    split at h
    · rename_i k0 n f hE
      split at h
      · rename_i hc
        obtain ⟨ha, hj, ⟨hk3, hkn⟩⟩ := hc
        have hk0 : aT[k0]? = some (aT[k0]'(by rw [hAn]; exact hkn)) := List.getElem?_eq_getElem _
        generalize aT[k0]'(by rw [hAn]; exact hkn) = ty at hk0
        obtain ⟨CC, rfl, -, hr1⟩ := hA3 k0 hk3 ty hk0
        have e1 : mm_te (mm_phi B ex) tys (.inl (k0, n, .inr (.inr (.inr (.inr (va_up f j.toNatClampNeg (some b))))))) = .inl (mm_aC tys k0, n, .inr (.inr (.inr (.inr (va_up (fun j => (f j).map (mm_phi B ex)) j.toNatClampNeg (some (mm_phi B ex b))))))) := by
          have e2 : (fun q => (va_up f j.toNatClampNeg (some b) q).map (mm_phi B ex)) = va_up (fun j => (f j).map (mm_phi B ex)) j.toNatClampNeg (some (mm_phi B ex b)) := by
            funext q
            unfold va_up
            split <;> rfl
          simp only [mm_te, e2]
        have hat : (mm_ws (mm_phi B ex) tys S)[a]? = some (mm_phi B ex a, .inl (mm_aC tys k0, n, .inr (.inr (.inr (.inr (fun j => (f j).map (mm_phi B ex))))))) := by
          rw [mm_ws_at ha, hE]; rfl
        split at h
        · rename_i hbv
          split at h
          · rename_i ci vs hV
            split at h
            · rename_i hci
              cases h
              intro ls H locs h1 h0 h2 h3 h4 h5
              have hbt : (mm_ws (mm_phi B ex) tys S)[b]? = some (mm_phi B ex b, .inr (ci, vs.map (mm_tv (mm_phi B ex)))) := by
                rw [mm_ws_at hbv, hV]; rfl
              have hD := mm_ws_D (B := B) (ex := ex) (tys := tys) h4.2
              have hP2 : va_P D cl (mm_ws (mm_phi B ex) tys S) H := h2
              obtain ⟨rr, hrr, -⟩ := hP2 b _ hbt
              have hrr : cl[ci]? = some rr := hrr
              have hnm := hr1 rr (by rw [hci]; exact hrr)
              subst hnm
              refine va_astq hx hb hK h2 hD h3 a k0 b ci hat (haT _ _ hk0) hbt hrr (mm_inb_ok hj) hd (fun H1 locs1 hP1 _ hS1 => kk ls H1 locs1 h1 h0 ?_ hS1 h4 h5)
              rw [← mm_ws_up _ ha, e1]
              exact hP1
            · cases h
          · cases h
        · split at h
          · rename_i hq
            obtain ⟨hk5, hb1, hb2⟩ := hq
            replace hb1 : @LT.lt Nat _ mm_big b := hb1
            replace hb2 : @LE.le Nat _ b (mm_big + mm_nx T) := hb2
            cases h
            subst hk5
            intro ls H locs h1 h0 h2 h3 h4 h5
            have hD := mm_ws_D (B := B) (ex := ex) (tys := tys) h4.2
            have h8 : ¬ (b < mm_big) := Nat.not_lt.mpr (Nat.le_of_lt hb1)
            have h9 : mm_phi B ex b = ex (b - mm_big) := by simp [mm_phi, h8]
            obtain ⟨⟨cellS, o1, o2, o3, o4⟩, o6⟩ := hXs CC hk0 (b - mm_big) (by omega) (by omega)
            have o5 : H[ex (b - mm_big)]? = some cellS := by
              have h4' : S0.1 ≤ S.1 := h4.1
              rw [h3.2.1 _ (Array.getElem?_eq_some_iff.mp o1).1 o4]
              exact o1
            obtain ⟨kS, hkS, -⟩ := Vm.findClass_spec o3
            refine va_astqM (v := mm_phi B ex b) hx hb hK h2 hD h3 a 5 hat (haT _ _ hk0) ⟨cellS, by rw [h9]; exact o5, o2, ⟨kS, hkS⟩, fun comp hcomp => ?_⟩ (mm_inb_ok hj) hd (fun H1 locs1 hP1 _ hS1 => kk ls H1 locs1 h1 h0 ?_ hS1 h4 h5)
            · cases hcomp.symm.trans o3
              exact o6 _ o3
            · rw [← mm_ws_up _ ha, e1]
              exact hP1
          · cases h
      · cases h
    · cases h
  · cases h
set_option maxHeartbeats 1000000 in
theorem mt_arraylength (F : mm_Fix p R s m args meth c D cl tys B ex S0 nL cc Ts aT T own oc pool ini scr) {pc nx tg : Nat} {L : mm_L} {st : List Value} {S : mm_S} {k : mm_Kf} (ho : mm_ok cc pc (.arraylength) nx tg) (h : mm_st1 T ini oc pool scr (.arraylength) nx L st S = some k) (kk : mm_At p l e R s m args below meth c Q D cl tys (mm_phi B ex) B S0 nL k) : mm_At p l e R s m args below meth c Q D cl tys (mm_phi B ex) B S0 nL (pc, L, st, S) := by
  obtain ⟨⟨len, hd, rfl, hl⟩, -⟩ := ho
  have hl : len = 1 := hl (fun _ _ _ _ q => by cases q)
  subst hl
  obtain ⟨⟨hx, hb, hml, hown, hlk, hini⟩, ⟨hts, hK, hcl, hpl⟩, ⟨haT, ⟨hAn, hCn, hA0, hA1, hA2⟩, hA3⟩, hAC, ⟨hB, hRc, hRs, hlcb⟩, hX, hX0, hXs⟩ := F
  replace h : mm_al T scr _ L st S = some k := h
  unfold mm_al at h
  split at h
  · rename_i a r
    split at h
    · rename_i hab
      cases h
      subst hab
      intro ls H locs h1 h0 h2 h3 h4 h5
      have h9 : mm_phi B ex mm_big = ex 0 := by simp [mm_phi]
      have goal := va_slen (e := e) (l := l) (R := R) (below := below) (meth := meth) (Q := Q) (cells := S.1 - S0.1) (slots := S.2.1 - S0.2.1) (ls := ls) (rest := r.map (mm_tv (mm_phi B ex))) hx hb hX (by omega) (show ¬ (B ≤ ex 0) by omega) h3 hd (kk ls H locs h1 h0 h2 h3 h4 h5)
      simpa [mm_tv, h9] using goal
    · split at h
      · rename_i k0 n en hE
        split at h
        · rename_i hc
          cases h
          intro ls H locs h1 h0 h2 h3 h4 h5
          have hk0 : aT[k0]? = some (aT[k0]'(by rw [hAn]; exact hc.2)) := List.getElem?_eq_getElem _
          generalize aT[k0]'(by rw [hAn]; exact hc.2) = ty at hk0
          have hat := mm_ws_at (φ := mm_phi B ex) (tys := tys) hc.1
          rw [hE] at hat
          rcases en with f | f | f | f | f
          · exact va_alen hx hb hK h2 a k0 (x := (n, .inl f)) hat (haT _ _ hk0) rfl hd (kk ls H locs h1 h0 h2 h3 h4 h5)
          · exact va_alen hx hb hK h2 a k0 (x := (n, .inr (.inl f))) hat (haT _ _ hk0) rfl hd (kk ls H locs h1 h0 h2 h3 h4 h5)
          · exact va_alen hx hb hK h2 a k0 (x := (n, .inr (.inr (.inl f)))) hat (haT _ _ hk0) rfl hd (kk ls H locs h1 h0 h2 h3 h4 h5)
          · exact va_alen hx hb hK h2 a k0 (x := (n, .inr (.inr (.inr (.inl f))))) hat (haT _ _ hk0) rfl hd (kk ls H locs h1 h0 h2 h3 h4 h5)
          · exact va_alen hx hb hK h2 a k0 (x := (n, .inr (.inr (.inr (.inr (fun j => (f j).map (mm_phi B ex))))))) hat (haT _ _ hk0) rfl hd (kk ls H locs h1 h0 h2 h3 h4 h5)
        · cases h
      · cases h
  · cases h
set_option maxHeartbeats 1000000 in
theorem mt_new (F : mm_Fix p R s m args meth c D cl tys B ex S0 nL cc Ts aT T own oc pool ini scr) {pc nx tg : Nat} {L : mm_L} {st : List Value} {S : mm_S} {k : mm_Kf} {x : Nat} (ho : mm_ok cc pc (.new x) nx tg) (h : mm_st1 T ini oc pool scr (.new x) nx L st S = some k) (kk : mm_At p l e R s m args below meth c Q D cl tys (mm_phi B ex) B S0 nL k) : mm_At p l e R s m args below meth c Q D cl tys (mm_phi B ex) B S0 nL (pc, L, st, S) := by
  obtain ⟨⟨len, hd, rfl, hl⟩, -⟩ := ho
  have hl : len = 3 := hl (fun _ _ _ _ q => by cases q)
  subst hl
  obtain ⟨⟨hx, hb, hml, hown, hlk, hini⟩, ⟨hts, hK, hcl, hpl⟩, ⟨haT, ⟨hAn, hCn, hA0, hA1, hA2⟩, hA3⟩, hAC, ⟨hB, hRc, hRs, hlcb⟩, hX, hX0, hXs⟩ := F
  replace h : mm_nw T pool x _ L st S = some k := h
  unfold mm_nw at h
  split at h
  · rename_i ci hp
    split at h
    · rename_i hc
      cases h
      obtain ⟨⟨hcA, hcB⟩, hcn⟩ := hc
      have hcC : cl[ci]? = some (cl[ci]'(by rw [hCn]; exact hcn)) := List.getElem?_eq_getElem _
      generalize cl[ci]'(by rw [hCn]; exact hcn) = rr at hcC
      obtain ⟨C0, hl1, hl23, -⟩ := hpl.2.1 _ _ hp
      obtain ⟨hnm, hl2, hl3⟩ := hl23 rr hcC
      subst hnm
      obtain ⟨C, F, N⟩ := rr
      obtain ⟨c1, c2, c3, c4, c5, c6⟩ := hcl _ _ hcC
      intro ls H locs h1 h0 h2 h3 h4 h5
      dsimp only at h4 h5 ⊢
      have hD := mm_ws_D (B := B) (ex := ex) (tys := tys) h4.2
      have hN : (mm_fd T ci).length = N := c5
      have hfd : ∀ j, j < N → defaultValue (mm_ft T ci j) = vp_V ((mm_fd T ci).map (mm_tv (mm_phi B ex))) j := by
        intro j hj
        have h6 := c6 j hj
        unfold vp_V at h6 ⊢
        rw [List.getD_eq_getElem?_getD] at h6 ⊢
        rw [List.getElem?_map]
        cases hq : (mm_fd T ci)[j]? with
        | none =>
          rw [List.getElem?_eq_none_iff] at hq
          omega
        | some v =>
          rw [hq] at h6
          simp only [Option.getD_some, Option.map_some] at h6 ⊢
          rw [h6]
          cases mm_ft T ci j <;> rfl
      have h40 : S0.1 ≤ S.1 := h4.1
      have h50 : S0.2.1 ≤ S.2.1 := h5
      refine va_new (ci := ci) (fs := (mm_fd T ci).map (mm_tv (mm_phi B ex))) hx hb hts c1 (mm_ft T ci) c2 hown (hts _ hl1) (hts _ hl2) (hts _ hl3) hK h2 hD h3 (fun q hq => (show B ≤ q by omega)) hcC hfd (by omega) (by omega) hd (fun q H1 hP1 hD1 hS1 => ?_)
      refine mm_sz fun hz => ?_
      have hq := mm_newq (S := S) (by omega) hP1 hD1 (by omega)
      subst hq
      have hw : mm_ws (mm_phi B ex) tys S ++ [(mm_phi B ex S.1, .inr (ci, (mm_fd T ci).map (mm_tv (mm_phi B ex))))] = mm_ws (mm_phi B ex) tys (mm_add S (mm_fd T ci).length (.inr (ci, mm_fd T ci))) := mm_ws_add _ (.inr (ci, mm_fd T ci))
      rw [hw] at hP1
      have g1 : (mm_add S (mm_fd T ci).length (.inr (ci, mm_fd T ci))).1 = S.1 + 1 := rfl
      have g2 : (mm_add S (mm_fd T ci).length (.inr (ci, mm_fd T ci))).2.1 = S.2.1 + (mm_fd T ci).length := rfl
      refine W.cs (cells' := (S.1 + 1) - S0.1) (slots' := (S.2.1 + (mm_fd T ci).length) - S0.2.1) (by omega) (by omega) ?_
      exact kk ls H1 locs h1 h0 hP1 hS1 ⟨by show S0.1 ≤ S.1 + 1; omega, by show S.1 + 1 ≤ mm_big; omega⟩ (by show S0.2.1 ≤ S.2.1 + (mm_fd T ci).length; omega)
    · cases h
  · cases h
end MC7
end
section
section MD8
variable {p : Program} {l : Launch} {e : Env} {R : Room} {s : State} {m : MethodId} {args : Array Value} {below : List Frame} {meth : Method} {c : Code} {Q : State → Prop}
variable {D : va_G} {cl : List vw_C} {tys : List (ClassId × FieldType)} {B : Nat} {ex : Nat → Nat} {S0 : mm_S} {nL : Nat} {cc : ByteArray} {Ts : List Jvm.Cond} {aT : List FieldType} {T : mm_T} {own : String} {oc : Nat} {pool : Nat → Option mm_P} {ini : Bool} {scr : Nat × (Nat → Int32)}
theorem mm_same_arr {ty : FieldType} {k0 : Nat} {cA : ClassId} (h1 : tys[k0]? = some (mm_aC tys k0, ty)) (hK : va_K D cl (tys ++ [(cA, ty)]) s) : cA = mm_aC tys k0 := by
  have h2 : (tys ++ [(cA, ty)])[k0]? = some (mm_aC tys k0, ty) := by
    rw [List.getElem?_append_left (List.getElem?_eq_some_iff.mp h1).1]
    exact h1
  have h3 : (tys ++ [(cA, ty)])[tys.length]? = some (cA, ty) := by
    rw [List.getElem?_append_right (Nat.le_refl _)]
    simp
  have r1 := (hK.2 _ _ h2).2
  have r2 := (hK.2 _ _ h3).2
  unfold va_RA at r1 r2
  cases ty with
  | object C =>
    obtain ⟨_, _, -, -, -, q1⟩ := r1
    obtain ⟨_, _, -, -, -, q2⟩ := r2
    exact Option.some.inj (q2.symm.trans q1)
  | _ => exact Option.some.inj (Eq.trans (Eq.symm r2) r1)
set_option maxHeartbeats 1000000 in
theorem mt_newarray (F : mm_Fix p R s m args meth c D cl tys B ex S0 nL cc Ts aT T own oc pool ini scr) {pc nx tg : Nat} {L : mm_L} {st : List Value} {S : mm_S} {k : mm_Kf} {t : ArrayType} (ho : mm_ok cc pc (.newarray t) nx tg) (h : mm_st1 T ini oc pool scr (.newarray t) nx L st S = some k) (kk : mm_At p l e R s m args below meth c Q D cl tys (mm_phi B ex) B S0 nL k) : mm_At p l e R s m args below meth c Q D cl tys (mm_phi B ex) B S0 nL (pc, L, st, S) := by
  obtain ⟨⟨len, hd, rfl, hl⟩, -⟩ := ho
  have hl : len = 2 := hl (fun _ _ _ _ q => by cases q)
  subst hl
  obtain ⟨⟨hx, hb, hml, hown, hlk, hini⟩, ⟨hts, hK, hcl, hpl⟩, ⟨haT, ⟨hAn, hCn, hA0, hA1, hA2⟩, hA3⟩, hAC, ⟨hB, hRc, hRs, hlcb⟩, hX, hX0, hXs⟩ := F
  replace h : mm_na T t _ L st S = some k := h
  unfold mm_na at h
  split at h
  · rename_i x r
    split at h
    rotate_left
    · cases h
    rename_i hc
    obtain ⟨hc1, hc2, hc3, hc4⟩ := hc
    split at h
    · cases h
      intro ls H locs h1 h0 h2 h3 h4 h5
      dsimp only at h4 h5 ⊢
      have hD := mm_ws_D (B := B) (ex := ex) (tys := tys) h4.2
      have h40 : S0.1 ≤ S.1 := h4.1
      have h50 : S0.2.1 ≤ S.2.1 := h5
      have hby : x.toNatClampNeg * componentBytes .int ≤ 536870912 := Nat.le_trans (Nat.mul_le_mul hc2 (show componentBytes .int ≤ 8 by decide)) (by decide)
      refine va_newa (atype := .int) (ty := .int) (N' := x.toNatClampNeg) (a0 := (x.toNatClampNeg, .inl (fun _ => 0))) hx hb (hAC .int (Or.inl rfl)) rfl hK h2 hD h3 (fun q hq => (show B ≤ q by omega)) (fun cA => rfl) (by rw [Int32.lt_iff_toInt_lt, Int32.toInt_zero]; omega) rfl hby (by omega) (by omega) hd (fun q cA H1 hK1 hP1 hD1 hS1 => ?_)
      have hcA := mm_same_arr (haT _ _ hA0) hK1
      subst hcA
      refine mm_sz fun hz => ?_
      have hq := mm_newq (S := S) (by omega) hP1 hD1 (by omega)
      subst hq
      have hw : mm_ws (mm_phi B ex) tys S ++ [(mm_phi B ex S.1, .inl (mm_aC tys 0, (x.toNatClampNeg, .inl (fun _ => 0))))] = mm_ws (mm_phi B ex) tys (mm_add S x.toNatClampNeg (.inl (0, (x.toNatClampNeg, .inl (fun _ => 0))))) := mm_ws_add _ (.inl (0, (x.toNatClampNeg, .inl (fun _ => 0))))
      rw [hw] at hP1
      refine W.cs (cells' := (S.1 + 1) - S0.1) (slots' := (S.2.1 + x.toNatClampNeg) - S0.2.1) (by omega) (by omega) ?_
      exact kk ls H1 locs h1 h0 hP1 hS1 ⟨by show S0.1 ≤ S.1 + 1; omega, by show S.1 + 1 ≤ mm_big; omega⟩ (by show S0.2.1 ≤ S.2.1 + x.toNatClampNeg; omega)
    · cases h
      intro ls H locs h1 h0 h2 h3 h4 h5
      dsimp only at h4 h5 ⊢
      have hD := mm_ws_D (B := B) (ex := ex) (tys := tys) h4.2
      have h40 : S0.1 ≤ S.1 := h4.1
      have h50 : S0.2.1 ≤ S.2.1 := h5
      have hby : x.toNatClampNeg * componentBytes .long ≤ 536870912 := Nat.le_trans (Nat.mul_le_mul hc2 (show componentBytes .long ≤ 8 by decide)) (by decide)
      refine va_newa (atype := .long) (ty := .long) (N' := x.toNatClampNeg) (a0 := (x.toNatClampNeg, .inr (.inl (fun _ => 0)))) hx hb (hAC .long (Or.inr (Or.inl rfl))) rfl hK h2 hD h3 (fun q hq => (show B ≤ q by omega)) (fun cA => rfl) (by rw [Int32.lt_iff_toInt_lt, Int32.toInt_zero]; omega) rfl hby (by omega) (by omega) hd (fun q cA H1 hK1 hP1 hD1 hS1 => ?_)
      have hcA := mm_same_arr (haT _ _ hA1) hK1
      subst hcA
      refine mm_sz fun hz => ?_
      have hq := mm_newq (S := S) (by omega) hP1 hD1 (by omega)
      subst hq
      have hw : mm_ws (mm_phi B ex) tys S ++ [(mm_phi B ex S.1, .inl (mm_aC tys 1, (x.toNatClampNeg, .inr (.inl (fun _ => 0)))))] = mm_ws (mm_phi B ex) tys (mm_add S x.toNatClampNeg (.inl (1, (x.toNatClampNeg, .inr (.inl (fun _ => 0)))))) := mm_ws_add _ (.inl (1, (x.toNatClampNeg, .inr (.inl (fun _ => 0)))))
      rw [hw] at hP1
      refine W.cs (cells' := (S.1 + 1) - S0.1) (slots' := (S.2.1 + x.toNatClampNeg) - S0.2.1) (by omega) (by omega) ?_
      exact kk ls H1 locs h1 h0 hP1 hS1 ⟨by show S0.1 ≤ S.1 + 1; omega, by show S.1 + 1 ≤ mm_big; omega⟩ (by show S0.2.1 ≤ S.2.1 + x.toNatClampNeg; omega)
    · cases h
      intro ls H locs h1 h0 h2 h3 h4 h5
      dsimp only at h4 h5 ⊢
      have hD := mm_ws_D (B := B) (ex := ex) (tys := tys) h4.2
      have h40 : S0.1 ≤ S.1 := h4.1
      have h50 : S0.2.1 ≤ S.2.1 := h5
      have hby : x.toNatClampNeg * componentBytes .boolean ≤ 536870912 := Nat.le_trans (Nat.mul_le_mul hc2 (show componentBytes .boolean ≤ 8 by decide)) (by decide)
      refine va_newa (atype := .boolean) (ty := .boolean) (N' := x.toNatClampNeg) (a0 := (x.toNatClampNeg, .inl (fun _ => 0))) hx hb (hAC .boolean (Or.inr (Or.inr rfl))) rfl hK h2 hD h3 (fun q hq => (show B ≤ q by omega)) (fun cA => rfl) (by rw [Int32.lt_iff_toInt_lt, Int32.toInt_zero]; omega) rfl hby (by omega) (by omega) hd (fun q cA H1 hK1 hP1 hD1 hS1 => ?_)
      have hcA := mm_same_arr (haT _ _ hA2) hK1
      subst hcA
      refine mm_sz fun hz => ?_
      have hq := mm_newq (S := S) (by omega) hP1 hD1 (by omega)
      subst hq
      have hw : mm_ws (mm_phi B ex) tys S ++ [(mm_phi B ex S.1, .inl (mm_aC tys 2, (x.toNatClampNeg, .inl (fun _ => 0))))] = mm_ws (mm_phi B ex) tys (mm_add S x.toNatClampNeg (.inl (2, (x.toNatClampNeg, .inl (fun _ => 0))))) := mm_ws_add _ (.inl (2, (x.toNatClampNeg, .inl (fun _ => 0))))
      rw [hw] at hP1
      refine W.cs (cells' := (S.1 + 1) - S0.1) (slots' := (S.2.1 + x.toNatClampNeg) - S0.2.1) (by omega) (by omega) ?_
      exact kk ls H1 locs h1 h0 hP1 hS1 ⟨by show S0.1 ≤ S.1 + 1; omega, by show S.1 + 1 ≤ mm_big; omega⟩ (by show S0.2.1 ≤ S.2.1 + x.toNatClampNeg; omega)
    · cases h
  · cases h
set_option maxHeartbeats 1000000 in
theorem mt_anewarray (F : mm_Fix p R s m args meth c D cl tys B ex S0 nL cc Ts aT T own oc pool ini scr) {pc nx tg : Nat} {L : mm_L} {st : List Value} {S : mm_S} {k : mm_Kf} {x : Nat} (ho : mm_ok cc pc (.anewarray x) nx tg) (h : mm_st1 T ini oc pool scr (.anewarray x) nx L st S = some k) (kk : mm_At p l e R s m args below meth c Q D cl tys (mm_phi B ex) B S0 nL k) : mm_At p l e R s m args below meth c Q D cl tys (mm_phi B ex) B S0 nL (pc, L, st, S) := by
  obtain ⟨⟨len, hd, rfl, hl⟩, -⟩ := ho
  have hl : len = 3 := hl (fun _ _ _ _ q => by cases q)
  subst hl
  obtain ⟨⟨hx, hb, hml, hown, hlk, hini⟩, ⟨hts, hK, hcl, hpl⟩, ⟨haT, ⟨hAn, hCn, hA0, hA1, hA2⟩, hA3⟩, hAC, ⟨hB, hRc, hRs, hlcb⟩, hX, hX0, hXs⟩ := F
  replace h : mm_nq T pool x _ L st S = some k := h
  unfold mm_nq at h
  split at h
  · rename_i ci n r hp
    split at h
    · rename_i hc
      obtain ⟨hc1, hc2, hc3, hc4, ⟨hc5, hc6⟩⟩ := hc
      cases h
      obtain ⟨CC, hl1, -, hka⟩ := hpl.2.1 _ _ hp
      have hk0 := hka hc5 hc6
      obtain ⟨C2, hC2, hov, -⟩ := hA3 _ hc5 _ hk0
      cases hC2
      intro ls H locs h1 h0 h2 h3 h4 h5
      dsimp only at h4 h5 ⊢
      have hD := mm_ws_D (B := B) (ex := ex) (tys := tys) h4.2
      have h40 : S0.1 ≤ S.1 := h4.1
      have h50 : S0.2.1 ≤ S.2.1 := h5
      refine va_newq (N' := n.toNatClampNeg) hx hb hown (hts _ hl1) (va_AO.of hov) hK h2 hD h3 (fun q hq => (show B ≤ q by omega)) (by rw [Int32.lt_iff_toInt_lt, Int32.toInt_zero]; omega) rfl (by omega) (by omega) (by omega) hd (fun q cA H1 hK1 hP1 hD1 hS1 => ?_)
      have hcA := mm_same_arr (haT _ _ hk0) hK1
      subst hcA
      refine mm_sz fun hz => ?_
      have hq := mm_newq (S := S) (by omega) hP1 hD1 (by omega)
      subst hq
      have hw : mm_ws (mm_phi B ex) tys S ++ [(mm_phi B ex S.1, .inl (mm_aC tys (mm_ka T ci), n.toNatClampNeg, .inr (.inr (.inr (.inr (fun _ => none))))))] = mm_ws (mm_phi B ex) tys (mm_add S n.toNatClampNeg (.inl (mm_ka T ci, n.toNatClampNeg, .inr (.inr (.inr (.inr (fun _ => none))))))) := mm_ws_add _ (.inl (mm_ka T ci, n.toNatClampNeg, .inr (.inr (.inr (.inr (fun _ => none))))))
      rw [hw] at hP1
      refine W.cs (cells' := (S.1 + 1) - S0.1) (slots' := (S.2.1 + n.toNatClampNeg) - S0.2.1) (by omega) (by omega) ?_
      exact kk ls H1 locs h1 h0 hP1 hS1 ⟨by show S0.1 ≤ S.1 + 1; omega, by show S.1 + 1 ≤ mm_big; omega⟩ (by show S0.2.1 ≤ S.2.1 + n.toNatClampNeg; omega)
    · cases h
  · cases h
set_option maxHeartbeats 1000000 in
theorem mt_ldc2_w (F : mm_Fix p R s m args meth c D cl tys B ex S0 nL cc Ts aT T own oc pool ini scr) {pc nx tg : Nat} {L : mm_L} {st : List Value} {S : mm_S} {k : mm_Kf} {x : Nat} (ho : mm_ok cc pc (.ldc2_w x) nx tg) (h : mm_st1 T ini oc pool scr (.ldc2_w x) nx L st S = some k) (kk : mm_At p l e R s m args below meth c Q D cl tys (mm_phi B ex) B S0 nL k) : mm_At p l e R s m args below meth c Q D cl tys (mm_phi B ex) B S0 nL (pc, L, st, S) := by
  obtain ⟨⟨len, hd, rfl, hl⟩, -⟩ := ho
  have hl : len = 3 := hl (fun _ _ _ _ q => by cases q)
  subst hl
  obtain ⟨⟨hx, hb, hml, hown, hlk, hini⟩, ⟨hts, hK, hcl, hpl⟩, ⟨haT, ⟨hAn, hCn, hA0, hA1, hA2⟩, hA3⟩, hAC, ⟨hB, hRc, hRs, hlcb⟩, hX, hX0, hXs⟩ := F
  replace h : mm_lc2 pool x _ L st S = some k := h
  unfold mm_lc2 at h
  split at h
  · rename_i v hp
    cases h
    intro ls H locs h1 h0 h2 h3 h4 h5
    exact lv_ldc2 hx hb hown (hts _ (hpl.2.2.2 _ _ hp)) hd (kk ls H locs h1 h0 h2 h3 h4 h5)
  · cases h
theorem mt_ldc (F : mm_Fix p R s m args meth c D cl tys B ex S0 nL cc Ts aT T own oc pool ini scr) (hst : ∀ x k, pool x = some (.inr (.inr (.inr (.inr (.inr k))))) → ∃ tx, vk_R own x tx (ex k) s) {pc nx tg : Nat} {L : mm_L} {st : List Value} {S : mm_S} {k : mm_Kf} {x : Nat} (ho : mm_ok cc pc (.ldc x) nx tg) (h : mm_st1 T ini oc pool scr (.ldc x) nx L st S = some k) (kk : mm_At p l e R s m args below meth c Q D cl tys (mm_phi B ex) B S0 nL k) : mm_At p l e R s m args below meth c Q D cl tys (mm_phi B ex) B S0 nL (pc, L, st, S) := by
  obtain ⟨⟨len, hd, rfl, hl⟩, -⟩ := ho
  have hl : len = 2 := hl (fun _ _ _ _ q => by cases q)
  subst hl
  obtain ⟨⟨hx, hb, hml, hown, hlk, hini⟩, ⟨hts, hK, hcl, hpl⟩, -⟩ := F
  replace h : mm_lc1 pool x _ L st S = some k := h
  unfold mm_lc1 at h
  split at h
  · rename_i v hp
    cases h
    intro ls H locs h1 h0 h2 h3 h4 h5
    exact lv_ldc hx hb hown (hts _ (hpl.2.2.1 _ _ hp)) hd (kk ls H locs h1 h0 h2 h3 h4 h5)
  · rename_i j hp
    cases h
    obtain ⟨tx, hZ⟩ := hst _ _ hp
    intro ls H locs h1 h0 h2 h3 h4 h5
    have h8 : ¬ (mm_big + j < mm_big) := by omega
    have h9 : mm_phi B ex (mm_big + j) = ex j := by simp [mm_phi, h8]
    have kk := kk ls H locs h1 h0 h2 h3 h4 h5
    refine va_ldcS hx hb hown hZ hd ?_
    simpa [mm_tv, h9] using kk
  · cases h
set_option maxHeartbeats 1000000 in
theorem mt_ldc_w (F : mm_Fix p R s m args meth c D cl tys B ex S0 nL cc Ts aT T own oc pool ini scr) {pc nx tg : Nat} {L : mm_L} {st : List Value} {S : mm_S} {k : mm_Kf} {x : Nat} (ho : mm_ok cc pc (.ldc_w x) nx tg) (h : mm_st1 T ini oc pool scr (.ldc_w x) nx L st S = some k) (kk : mm_At p l e R s m args below meth c Q D cl tys (mm_phi B ex) B S0 nL k) : mm_At p l e R s m args below meth c Q D cl tys (mm_phi B ex) B S0 nL (pc, L, st, S) := by
  obtain ⟨⟨len, hd, rfl, hl⟩, -⟩ := ho
  have hl : len = 3 := hl (fun _ _ _ _ q => by cases q)
  subst hl
  obtain ⟨⟨hx, hb, hml, hown, hlk, hini⟩, ⟨hts, hK, hcl, hpl⟩, ⟨haT, ⟨hAn, hCn, hA0, hA1, hA2⟩, hA3⟩, hAC, ⟨hB, hRc, hRs, hlcb⟩, hX, hX0, hXs⟩ := F
  replace h : mm_lcw pool x _ L st S = some k := h
  unfold mm_lcw at h
  split at h
  · rename_i v hp
    cases h
    intro ls H locs h1 h0 h2 h3 h4 h5
    exact lv_ldcw hx hb hown (hts _ (hpl.2.2.1 _ _ hp)) hd (kk ls H locs h1 h0 h2 h3 h4 h5)
  · cases h
set_option maxHeartbeats 4000000 in
theorem mt_all (F : mm_Fix p R s m args meth c D cl tys B ex S0 nL cc Ts aT T own oc pool ini scr) (hst : ∀ x k, pool x = some (.inr (.inr (.inr (.inr (.inr k))))) → ∃ tx, vk_R own x tx (ex k) s) {i : Instr} {pc nx tg : Nat} {L : mm_L} {st : List Value} {S : mm_S} {k : mm_Kf} (ho : mm_ok cc pc i nx tg) (h : mm_st1 T ini oc pool scr i nx L st S = some k) (kk : mm_At p l e R s m args below meth c Q D cl tys (mm_phi B ex) B S0 nL k) : mm_At p l e R s m args below meth c Q D cl tys (mm_phi B ex) B S0 nL (pc, L, st, S) := by
  cases i

  case getfield => exact mt_getfield F ho h kk
  case putfield => exact mt_putfield F ho h kk
  case iaload => exact mt_iaload F ho h kk
  case baload => exact mt_baload F ho h kk
  case laload => exact mt_laload F ho h kk
  case aaload => exact mt_aaload F ho h kk
  case iastore => exact mt_iastore F ho h kk
  case bastore => exact mt_bastore F ho h kk
  case lastore => exact mt_lastore F ho h kk
  case aastore => exact mt_aastore F ho h kk
  case arraylength => exact mt_arraylength F ho h kk
  case new => exact mt_new F ho h kk
  case newarray => exact mt_newarray F ho h kk
  case anewarray => exact mt_anewarray F ho h kk
  case ldc2_w => exact mt_ldc2_w F ho h kk
  case ldc_w => exact mt_ldc_w F ho h kk
  case ldc => exact mt_ldc F hst ho h kk
  all_goals (cases h)
end MD8
end
section
/-! how a walk of the small machine ends: its returns -/
section ME9
variable {p : Program} {l : Launch} {e : Env} {R : Room} {s : State} {m : MethodId} {args : Array Value} {below : List Frame} {meth : Method} {c : Code}
variable {D : va_G} {cl : List vw_C} {tys : List (ClassId × FieldType)} {B : Nat} {φ : Nat → Nat} {S0 : mm_S} {nL : Nat} {cc : ByteArray}
/-- what the small machine's end says of the real one's -/
def mm_out (φ : Nat → Nat) : mm_O → Outcome
  | .inl v => .returned (v.map (mm_tv φ))
  | .inr (_, a) => .threw (φ a)
def mm_fin (D : va_G) (cl : List vw_C) (tys : List (ClassId × FieldType)) (φ : Nat → Nat) (B : Nat) (S0 : mm_S) (s : State) (below : List Frame) (Q : mm_O → mm_S → Prop) (t : State) : Prop :=
  ∃ (o : mm_O) (S : mm_S), Q o S ∧ t.status = .running ∧ Ended t below (mm_out φ o) ∧ s.WarmedH t.vm ∧ va_P D cl (mm_ws φ tys S) t.heap ∧ (S0.1 ≤ S.1 ∧ S.1 ≤ mm_big) ∧ S0.2.1 ≤ S.2.1 ∧
    (∀ q, q < B → t.heap[q]? = s.heap[q]?) ∧ ∃ L : List Loc, s.sameButNew ({ t with vm := s.vm } : State) L (S.1 - S0.1) (S.2.1 - S0.2.1) ∧ ∀ q ∈ L, B ≤ q.base
theorem mm_mono {H : Heap} {locs : List Loc} {cells slots : Nat} {Q Q' : State → Prop} {g : JFrame} (h : ∀ t, Q t → Q' t) (w : W p l e R s m args below meth c H locs cells slots Q g) : W p l e R s m args below meth c H locs cells slots Q' g := by
  intro U hU X
  obtain ⟨t, a, b⟩ := w U hU X
  exact ⟨t, a, h t b⟩
/-- the common end of all returns -/
theorem mm_ret_end {Q : mm_O → mm_S → Prop} {S : mm_S} {v : Option Value} {H : Heap} {locs : List Loc} {g : JFrame} (hB : B ≤ s.heap.size) (hQ : Q (.inl v) S) (h2 : va_P D cl (mm_ws φ tys S) H) (h3 : va_S (fun q => B ≤ q) s.heap H locs) (h4 : S0.1 ≤ S.1 ∧ S.1 ≤ mm_big) (h5 : S0.2.1 ≤ S.2.1)
    (w : W p l e R s m args below meth c H locs (S.1 - S0.1) (S.2.1 - S0.2.1) (MQ below (fun _ _ o t => o = .returned (v.map (mm_tv φ)) ∧ t.heap = H) args s (S.1 - S0.1) (S.2.1 - S0.2.1) (fun q => B ≤ q)) g) :
    W p l e R s m args below meth c H locs (S.1 - S0.1) (S.2.1 - S0.2.1) (mm_fin D cl tys φ B S0 s below Q) g := by
  refine mm_mono (fun t ht => ?_) w
  obtain ⟨o, hrun, hend, ⟨rfl, hH⟩, L, ⟨-, hW, hsame⟩, hL⟩ := ht
  exact ⟨.inl v, S, hQ, hrun, hend, hW, by rw [hH]; exact h2, h4, h5, fun q hq => by rw [hH]; exact h3.2.1 q (by omega) (by show ¬ B ≤ q; omega), L, hsame, hL⟩
theorem mr_return {Q : mm_O → mm_S → Prop} (hx : p.tables.exec = Jvm.exec) (hb : c.code = cc) (hlk : meth.locks = false) (hr : meth.sig.returnType = none) (hB : B ≤ s.heap.size) {pc : Nat} {L : mm_L} {S : mm_S} (hd : decode cc pc = .ok (.return_, 1)) (hQ : Q (.inl none) S) :
    mm_At p l e R s m args below meth c (mm_fin D cl tys φ B S0 s below Q) D cl tys φ B S0 nL (pc, L, [], S) := by
  intro ls H locs h1 h0 h2 h3 h4 h5
  exact mm_ret_end (v := none) hB hQ h2 h3 h4 h5 (W.vret hx hb hr (fun t ht _ => ⟨rfl, ht⟩) h3.2.2 hd)
theorem mr_ireturn {Q : mm_O → mm_S → Prop} (hx : p.tables.exec = Jvm.exec) (hb : c.code = cc) (hlk : meth.locks = false) (hr : meth.sig.returnType = some .int) (hB : B ≤ s.heap.size) {pc : Nat} {L : mm_L} {S : mm_S} {v : Int32} (hd : decode cc pc = .ok (.ireturn, 1)) (hQ : Q (.inl (some (.int v))) S) :
    mm_At p l e R s m args below meth c (mm_fin D cl tys φ B S0 s below Q) D cl tys φ B S0 nL (pc, L, [.int v], S) := by
  intro ls H locs h1 h0 h2 h3 h4 h5
  exact mm_ret_end (v := some (.int v)) hB hQ h2 h3 h4 h5 (W.iret hx hb hr (fun t ht _ => ⟨rfl, ht⟩) h3.2.2 hd)
theorem mr_zreturn {Q : mm_O → mm_S → Prop} (hx : p.tables.exec = Jvm.exec) (hb : c.code = cc) (hlk : meth.locks = false) (hr : meth.sig.returnType = some .boolean) (hB : B ≤ s.heap.size) {pc : Nat} {L : mm_L} {S : mm_S} {v : Int32} (hv : v = 0 ∨ v = 1) (hd : decode cc pc = .ok (.ireturn, 1)) (hQ : Q (.inl (some (.int v))) S) :
    mm_At p l e R s m args below meth c (mm_fin D cl tys φ B S0 s below Q) D cl tys φ B S0 nL (pc, L, [.int v], S) := by
  intro ls H locs h1 h0 h2 h3 h4 h5
  have hn : narrow .boolean (.int v) = .int v := by rcases hv with rfl | rfl <;> decide +kernel
  exact mm_ret_end (v := some (.int v)) hB hQ h2 h3 h4 h5 (W.zret hx hb hr hn (fun t ht _ => ⟨rfl, ht⟩) h3.2.2 hd)
theorem mr_lreturn {Q : mm_O → mm_S → Prop} (hx : p.tables.exec = Jvm.exec) (hb : c.code = cc) (hlk : meth.locks = false) (hr : meth.sig.returnType = some .long) (hB : B ≤ s.heap.size) {pc : Nat} {L : mm_L} {S : mm_S} {v : Int64} (hd : decode cc pc = .ok (.lreturn, 1)) (hQ : Q (.inl (some (.long v))) S) :
    mm_At p l e R s m args below meth c (mm_fin D cl tys φ B S0 s below Q) D cl tys φ B S0 nL (pc, L, [.long v], S) := by
  intro ls H locs h1 h0 h2 h3 h4 h5
  exact mm_ret_end (v := some (.long v)) hB hQ h2 h3 h4 h5 (W.lret hx hb hr (fun t ht _ => ⟨rfl, ht⟩) h3.2.2 hd)
theorem mr_areturn {Q : mm_O → mm_S → Prop} (hx : p.tables.exec = Jvm.exec) (hb : c.code = cc) (hlk : meth.locks = false) {rt : FieldType} (hr : meth.sig.returnType = some rt) (hrt : (∃ n, rt = .object n) ∨ ∃ t, rt = .array t) (hB : B ≤ s.heap.size) {pc : Nat} {L : mm_L} {S : mm_S} {a : Nat} (hd : decode cc pc = .ok (.areturn, 1)) (hQ : Q (.inl (some (.ref a))) S) :
    mm_At p l e R s m args below meth c (mm_fin D cl tys φ B S0 s below Q) D cl tys φ B S0 nL (pc, L, [.ref a], S) := by
  intro ls H locs h1 h0 h2 h3 h4 h5
  exact mm_ret_end (v := some (.ref a)) hB hQ h2 h3 h4 h5 (W.aret (v := .ref (φ a)) hx hb hr hrt (Or.inr ⟨_, rfl⟩) (fun t ht _ => ⟨rfl, ht⟩) h3.2.2 hd)
end ME9
end
section
/-! from a call's instruction to the callee's entry -/
section MI10
variable {p : Program} {l : Launch} {e : Env} {R : Room} {s : State} {m : MethodId} {args : Array Value} {below : List Frame} {meth : Method} {c : Code} {T : State} {locs : List Loc} {cells slots : Nat}
/-- the call of y with the arguments a from the frame g, the operands 'rest' left on it -/
def mm_Inv (p : Program) (l : Launch) (e : Env) (R : Room) (s : State) (m : MethodId) (args : Array Value) (below : List Frame) (meth : Method) (c : Code) (T : State) (locs : List Loc) (cells slots : Nat) (g : JFrame) (rest : List Value) (y : MethodName) (a : Array Value) : Prop :=
  ∃ (vm₁ : Vm) (mk : MethodId), Stand p l e R s m args below meth c (T.setVm vm₁) locs cells slots ∧ (T.setVm vm₁).methodNamed? y = some mk ∧
    ∀ target, Steps p.tables e below (doInvoke e ((T.setVm vm₁).setTop { g with stack := rest }) [] mk a).1 target → Steps p.tables e below (T.setTop g) target
variable {own C : String} {index : Nat} {host : String} {y : MethodName} {bytes : ByteArray} {maxL : Nat} {ret : Option FieldType} {g : JFrame} {argsL rest : List Value}
theorem mm_invV (X : Stand p l e R s m args below meth c T locs cells slots) (hexec : p.tables.exec = Jvm.exec) (hown : s.vm.findClass own = some m.cls)
    (hlink : (Jvm.Cond.methodLink own index y).before args s = true ∨ (Jvm.Cond.methodLinkNest own index y host).before args s = true) (hinst : (Jvm.Cond.instanceMethod y).before args s = true) (hsel : (Jvm.Cond.selects C y y).before args s = true)
    (hcode : (Jvm.Cond.code y bytes maxL ret).before args s = true) (hy : y.cls ≠ "java/lang/invoke/MethodHandle" ∧ y.cls ≠ "java/lang/invoke/VarHandle")
    {b : Addr} {cellB : Cell} (hcell : T.heap[b]? = some cellB) (hobj : cellB.vm.isStatics = false) (hcls : s.vm.findClass C = some cellB.cls)
    (hg : g.method = m) (hlen : ∀ sig, parseMethodDescriptor y.desc = some sig → argsL.length = sig.parameters.length) (hstack : g.stack = argsL.reverse ++ .ref b :: rest) (hdg : decode c.code g.pc = .ok (.invokevirtual index, 3)) :
    mm_Inv p l e R s m args below meth c T locs cells slots g rest y (Value.ref b :: argsL).toArray := by
  obtain ⟨mk, mt, h1, h2, h3, h4⟩ := Cond.instanceMethod_spec hinst
  obtain ⟨mt', cM, h5, -, -, -, -, -, -, h6⟩ := Cond.code_spec h1 hcode
  cases h2.symm.trans h5
  obtain ⟨c2, r2, m2, q1, q2, q3, q4, kP, q5, q6⟩ := Cond.selects_spec hsel
  cases hcls.symm.trans q1
  cases (State.methodFound?_of_named h1 hy).symm.trans q2
  cases h1.symm.trans q3
  have hselP : selectMethod e.platform s.vm cellB.cls mk = .method mk := by rw [Launch.admits_selectMethod X.admits]; exact q4
  have hns : ∀ z, cellB.vm ≠ .statics z := fun z h => by rw [h] at hobj; cases hobj
  rcases hlink with hlink | hlink
  · obtain ⟨vm₁, X₁, st⟩ := X.invokevirtual hexec hown hlink h1 h2 h3 q5 q6 hy (a := b) (cell := cellB) hcell hns hselP h2 h4 q5 q6 (g := g) hg (argsL := argsL) (rest := rest) (hlen _ h6) hstack hdg
    exact ⟨vm₁, mk, X₁, X₁.named h1, fun target h => st _ fun acts => by rw [doInvoke_state]; exact h⟩
  · obtain ⟨vm₁, X₁, st⟩ := X.invokevirtualNest hexec hown hlink h1 h2 h3 q5 q6 hy (a := b) (cell := cellB) hcell hns hselP h2 h4 q5 q6 (g := g) hg (argsL := argsL) (rest := rest) (hlen _ h6) hstack hdg
    exact ⟨vm₁, mk, X₁, X₁.named h1, fun target h => st _ fun acts => by rw [doInvoke_state]; exact h⟩
/-- a static method, its code with an exception table or not -/
theorem mm_invS (X : Stand p l e R s m args below meth c T locs cells slots) (hexec : p.tables.exec = Jvm.exec) (hown : s.vm.findClass own = some m.cls)
    (hlink : (Jvm.Cond.methodLink own index y).before args s = true ∨ (Jvm.Cond.methodLinkNest own index y host).before args s = true) (hstat : (Jvm.Cond.static y).before args s = true) (hinit : (Jvm.Cond.initialized y.cls).before args s = true)
    {mk : MethodId} {mt : Method} (h1 : s.methodNamed? y = some mk) (h2 : s.vm.method? mk = some mt) (h6 : parseMethodDescriptor y.desc = some mt.sig) (hy : y.cls ≠ "java/lang/invoke/MethodHandle" ∧ y.cls ≠ "java/lang/invoke/VarHandle")
    (hg : g.method = m) (hlen : ∀ sig, parseMethodDescriptor y.desc = some sig → argsL.length = sig.parameters.length) (hstack : g.stack = argsL.reverse ++ rest) (hdg : decode c.code g.pc = .ok (.invokestatic index, 3)) :
    mm_Inv p l e R s m args below meth c T locs cells slots g rest y argsL.toArray := by
  have h3 : mt.isStatic = true := Cond.static_spec h1 h2 hstat
  obtain ⟨kP, q5, -⟩ := className_of_methodNamed h1
  have q6 : kP.init = .initialized := Cond.initialized_spec (findClass_of_methodNamed h1) q5 hinit
  rcases hlink with hlink | hlink
  · obtain ⟨vm₁, X₁, st⟩ := X.invokestatic hexec hown hlink h1 h2 h3 q5 q6 hy (g := g) hg (argsL := argsL) (rest := rest) (hlen _ h6) hstack hdg
    exact ⟨vm₁, mk, X₁, X₁.named h1, fun target h => st _ fun acts => by rw [doInvoke_state]; exact h⟩
  · obtain ⟨vm₁, X₁, st⟩ := X.invokestaticNest hexec hown hlink h1 h2 h3 q5 q6 hy (g := g) hg (argsL := argsL) (rest := rest) (hlen _ h6) hstack hdg
    exact ⟨vm₁, mk, X₁, X₁.named h1, fun target h => st _ fun acts => by rw [doInvoke_state]; exact h⟩
theorem mm_invI (X : Stand p l e R s m args below meth c T locs cells slots) (hexec : p.tables.exec = Jvm.exec) (hown : s.vm.findClass own = some m.cls) (hy1 : y.name = "<init>")
    (hlink : (Jvm.Cond.methodLink own index y).before args s = true ∨ (Jvm.Cond.methodLinkNest own index y host).before args s = true) (hinst : (Jvm.Cond.instanceMethod y).before args s = true)
    (hcode : (Jvm.Cond.code y bytes maxL none).before args s = true) (hy : y.cls ≠ "java/lang/invoke/MethodHandle" ∧ y.cls ≠ "java/lang/invoke/VarHandle")
    (hg : g.method = m) {b : Addr} (hlen : ∀ sig, parseMethodDescriptor y.desc = some sig → argsL.length = sig.parameters.length) (hstack : g.stack = argsL.reverse ++ .ref b :: rest) (hdg : decode c.code g.pc = .ok (.invokespecial index, 3)) :
    mm_Inv p l e R s m args below meth c T locs cells slots g rest y (Value.ref b :: argsL).toArray := by
  subst hg
  have hpl : e.platform.magicAccessors = ({} : Platform).magicAccessors := by rw [X.admits.platform]
  rcases hlink with hlink | hlink
  · obtain ⟨mk, mt, cM, kP, vm₁, h1, -, -, -, -, -, -, -, hW₁, st⟩ := Steps.initColdArgs (e := e) X.here hexec X.warmed hpl hown hy1 hy hlink hinst hcode (f := g) rfl hlen hstack hdg
    have X₁ := X.noted hW₁
    exact ⟨vm₁, mk, X₁, X₁.named h1, fun target h => st _ fun acts => by rw [doInvoke_state]; exact h⟩
  · obtain ⟨mk, mt, cM, kP, vm₁, h1, -, -, -, -, -, -, -, hW₁, st⟩ := Steps.initColdArgsNest (e := e) X.here hexec X.warmed hpl hown hy1 hy hlink hinst hcode (f := g) rfl hlen hstack hdg
    have X₁ := X.noted hW₁
    exact ⟨vm₁, mk, X₁, X₁.named h1, fun target h => st _ fun acts => by rw [doInvoke_state]; exact h⟩
end MI10
end
section
/-! the small machine's runs: a method's walk, its calls by what they promise -/
abbrev mm_G : Type := (Nat → Nat → Option (Instr × Nat × Nat)) × (Nat → Nat → Option mm_P) × (Nat → Nat × Nat × Nat × Bool × Bool) × (Nat → Option FieldType) × (Nat → Nat → Option Nat) × (Nat → Nat → Nat → Option (Option Nat))
abbrev mm_code (G : mm_G) := G.1
abbrev mm_pool (G : mm_G) := G.2.1
abbrev mm_oc (G : mm_G) (f : Nat) : Nat := (G.2.2.1 f).1
abbrev mm_nl (G : mm_G) (f : Nat) : Nat := (G.2.2.1 f).2.1
abbrev mm_na' (G : mm_G) (f : Nat) : Nat := (G.2.2.1 f).2.2.1
abbrev mm_ini (G : mm_G) (f : Nat) : Bool := (G.2.2.1 f).2.2.2.1
abbrev mm_stc (G : mm_G) (f : Nat) : Bool := (G.2.2.1 f).2.2.2.2
abbrev mm_rt (G : mm_G) := G.2.2.2.1
abbrev mm_thr (G : mm_G) := G.2.2.2.2.1
abbrev mm_hnd (G : mm_G) := G.2.2.2.2.2
def mm_entry (nL : Nat) (vs : List Value) : mm_L :=
  let l := vs.flatMap (fun v => if v.category = 2 then [some v, none] else [some v])
  l ++ List.replicate (nL - l.length) none
/-- a receiver of the right class, or none wanted -/
def mm_rok (stc : Bool) (oc : Nat) (as : List Value) (S : mm_S) : Bool := stc || (match as with
  | .ref b :: _ => decide (b < S.1) && (match S.2.2 b with
    | .inr (c, _) => decide (c = oc)
    | _ => false)
  | _ => false)
abbrev mm_XR : Type := Nat → List Value → mm_S → (mm_O → mm_S → Prop) → Prop
def mm_cl (G : mm_G) (T : mm_T) (X : mm_XR) (f g : Nat) (w : mm_Kf → Prop) (Q : mm_O → mm_S → Prop) (pc nx : Nat) (L : mm_L) (st : List Value) (S : mm_S) : Prop :=
  (S.1 ≤ mm_lc T ∧ S.2.1 ≤ mm_lsl T) ∧ mm_na' G g ≤ st.length ∧ ((st.drop (mm_na' G g)).map Value.category).sum ≤ 8 ∧ mm_rok (mm_stc G g) (mm_oc G g) (st.take (mm_na' G g)).reverse S = true ∧
    X g (st.take (mm_na' G g)).reverse S (fun o S' => match o with
      | .inl v => w (nx, L, v.toList ++ st.drop (mm_na' G g), S')
      | .inr (ec, a) => match mm_hnd G f pc ec with
        | some (some h) => (a < S'.1 ∧ ∃ vs, S'.2.2 a = .inr (ec, vs)) ∧ w (h, L, [.ref a], S')
        | some none => Q (.inr (ec, a)) S'
        | none => False)
def mm_body (G : mm_G) (T : mm_T) (scr : Nat × (Nat → Int32)) (X : mm_XR) (f : Nat) (Q : mm_O → mm_S → Prop) (w : mm_Kf → Prop) (pc : Nat) (L : mm_L) (st : List Value) (S : mm_S) : Option (Instr × Nat × Nat) → Prop
  | none => False
  | some (i, nx, tg) => match i with
    | .return_ => st = [] ∧ mm_rt G f = none ∧ Q (.inl none) S
    | .ireturn => ∃ v, st = [.int v] ∧ (mm_rt G f = some .int ∨ (mm_rt G f = some .boolean ∧ (v = 0 ∨ v = 1))) ∧ Q (.inl (some (.int v))) S
    | .lreturn => ∃ v, st = [.long v] ∧ mm_rt G f = some .long ∧ Q (.inl (some (.long v))) S
    | .areturn => ∃ a, st = [.ref a] ∧ (∃ nm, mm_rt G f = some (.object nm)) ∧ Q (.inl (some (.ref a))) S
    | .invokespecial x => match mm_pool G f x with
      | some (.inr (.inl 0)) => ∃ a r, st = .ref a :: r ∧ (r.map Value.category).sum ≤ 8 ∧ w (nx, L, r, S)
      | some (.inr (.inl (g + 1))) => mm_stc G (g + 1) = false ∧ mm_ini G (g + 1) = true ∧ mm_cl G T X f (g + 1) w Q pc nx L st S
      | _ => False
    | .invokevirtual x => match mm_pool G f x with
      | some (.inr (.inl (g + 1))) => mm_stc G (g + 1) = false ∧ mm_ini G (g + 1) = false ∧ mm_cl G T X f (g + 1) w Q pc nx L st S
      | _ => False
    | .invokestatic x => match mm_pool G f x with
      | some (.inr (.inl (g + 1))) => mm_stc G (g + 1) = true ∧ mm_cl G T X f (g + 1) w Q pc nx L st S
      | _ => False
    | i => match mm_thr G f pc with
      | some ec => S.1 + 1 ≤ mm_lc T ∧ S.2.1 + 6 ≤ mm_lsl T ∧ (st.map Value.category).sum ≤ 8 ∧ Q (.inr (ec, S.1)) (mm_add S 6 (.inr (ec, [])))
      | none => match mm_st0 i pc nx tg L st S with
        | some k => w k
        | none => match mm_st1 T (mm_ini G f) (mm_oc G f) (mm_pool G f) scr i nx L st S with
          | some k => w k
          | none => False
def mm_wp (G : mm_G) (T : mm_T) (scr : Nat × (Nat → Int32)) (X : mm_XR) (f : Nat) (Q : mm_O → mm_S → Prop) : Nat → mm_Kf → Prop
  | 0, _ => False
  | n + 1, k => mm_body G T scr X f Q (mm_wp G T scr X f Q n) k.1 k.2.1 k.2.2.1 k.2.2.2 (mm_code G f k.1)
/-- a method's promise, its calls nested at most d deep -/
def mm_ex (G : mm_G) (T : mm_T) (scr : Nat × (Nat → Int32)) : Nat → mm_XR
  | 0 => fun _ _ _ _ => False
  | d + 1 => fun g as S Q => (mm_entry (mm_nl G g) as).length = mm_nl G g ∧ ∃ n, mm_wp G T scr (mm_ex G T scr d) g Q n (0, mm_entry (mm_nl G g) as, [], S)
theorem mm_body_mono {G : mm_G} {T : mm_T} {scr : Nat × (Nat → Int32)} {X X' : mm_XR} {f : Nat} {Q Q' : mm_O → mm_S → Prop} {w w' : mm_Kf → Prop} (hX : ∀ g as S (P P' : mm_O → mm_S → Prop), (∀ o S', P o S' → P' o S') → X g as S P → X' g as S P') (hQ : ∀ o S, Q o S → Q' o S) (hw : ∀ k, w k → w' k)
    {pc : Nat} {L : mm_L} {st : List Value} {S : mm_S} {en : Option (Instr × Nat × Nat)} (h : mm_body G T scr X f Q w pc L st S en) : mm_body G T scr X' f Q' w' pc L st S en := by
  have hcl : ∀ g nx, mm_cl G T X f g w Q pc nx L st S → mm_cl G T X' f g w' Q' pc nx L st S := by
    intro g nx ⟨h0, h1, h2, h3, h4⟩
    refine ⟨h0, h1, h2, h3, hX _ _ _ _ _ (fun o S' h => ?_) h4⟩
    rcases o with v | ⟨ec, a⟩
    · exact hw _ h
    · dsimp only at h ⊢
      cases hh : mm_hnd G f pc ec with
      | none => rw [hh] at h; exact h
      | some q =>
        rw [hh] at h
        cases q with
        | none => exact hQ _ _ h
        | some q => exact ⟨h.1, hw _ h.2⟩
  rcases en with _ | ⟨i, nx, tg⟩
  · exact h
  have key : (match mm_thr G f pc with
      | some ec => S.1 + 1 ≤ mm_lc T ∧ S.2.1 + 6 ≤ mm_lsl T ∧ (st.map Value.category).sum ≤ 8 ∧ Q (.inr (ec, S.1)) (mm_add S 6 (.inr (ec, [])))
      | none => match mm_st0 i pc nx tg L st S with
        | some k => w k
        | none => match mm_st1 T (mm_ini G f) (mm_oc G f) (mm_pool G f) scr i nx L st S with
          | some k => w k
          | none => False) → (match mm_thr G f pc with
      | some ec => S.1 + 1 ≤ mm_lc T ∧ S.2.1 + 6 ≤ mm_lsl T ∧ (st.map Value.category).sum ≤ 8 ∧ Q' (.inr (ec, S.1)) (mm_add S 6 (.inr (ec, [])))
      | none => match mm_st0 i pc nx tg L st S with
        | some k => w' k
        | none => match mm_st1 T (mm_ini G f) (mm_oc G f) (mm_pool G f) scr i nx L st S with
          | some k => w' k
          | none => False) := by
    generalize mm_thr G f pc = o1
    generalize mm_st0 i pc nx tg L st S = o2
    generalize mm_st1 T (mm_ini G f) (mm_oc G f) (mm_pool G f) scr i nx L st S = o3
    intro h
    rcases o1 with _ | ec
    · rcases o2 with _ | k
      · rcases o3 with _ | k
        · exact h
        · exact hw _ h
      · exact hw _ h
    · exact ⟨h.1, h.2.1, h.2.2.1, hQ _ _ h.2.2.2⟩
  cases i
  case return_ => exact ⟨h.1, h.2.1, hQ _ _ h.2.2⟩
  case ireturn => obtain ⟨v, a, b, q⟩ := h; exact ⟨v, a, b, hQ _ _ q⟩
  case lreturn => obtain ⟨v, a, b, q⟩ := h; exact ⟨v, a, b, hQ _ _ q⟩
  case areturn => obtain ⟨v, a, b, q⟩ := h; exact ⟨v, a, b, hQ _ _ q⟩
  case invokespecial x =>
    unfold mm_body at h ⊢
    dsimp only at h ⊢
    split at h
    · obtain ⟨a, r, b, q, z⟩ := h
      exact ⟨a, r, b, q, hw _ z⟩
    · exact ⟨h.1, h.2.1, hcl _ _ h.2.2⟩
    · exact h
  case invokevirtual x =>
    unfold mm_body at h ⊢
    dsimp only at h ⊢
    split at h
    · exact ⟨h.1, h.2.1, hcl _ _ h.2.2⟩
    · exact h
  case invokestatic x =>
    unfold mm_body at h ⊢
    dsimp only at h ⊢
    split at h
    · exact ⟨h.1, hcl _ _ h.2⟩
    · exact h
  all_goals exact key h
theorem mm_wp_mono {G : mm_G} {T : mm_T} {scr : Nat × (Nat → Int32)} {X X' : mm_XR} {f : Nat} {Q Q' : mm_O → mm_S → Prop} (hX : ∀ g as S (P P' : mm_O → mm_S → Prop), (∀ o S', P o S' → P' o S') → X g as S P → X' g as S P') (hQ : ∀ o S, Q o S → Q' o S) :
    ∀ (n : Nat) (k : mm_Kf), mm_wp G T scr X f Q n k → mm_wp G T scr X' f Q' n k := by
  intro n
  induction n with
  | zero => intro k h; exact h
  | succ n ih =>
    intro k h
    exact mm_body_mono hX hQ ih h
theorem mm_ex_mono {G : mm_G} {T : mm_T} {scr : Nat × (Nat → Int32)} : ∀ (d : Nat) (g : Nat) (as : List Value) (S : mm_S) (P P' : mm_O → mm_S → Prop), (∀ o S', P o S' → P' o S') → mm_ex G T scr d g as S P → mm_ex G T scr d g as S P' := by
  intro d
  induction d with
  | zero => intro g as S P P' _ h; exact h
  | succ d ih =>
    intro g as S P P' hP ⟨hl, n, h⟩
    exact ⟨hl, n, mm_wp_mono ih hP n _ h⟩
theorem mm_ex_succ {G : mm_G} {T : mm_T} {scr : Nat × (Nat → Int32)} : ∀ (d : Nat) (g : Nat) (as : List Value) (S : mm_S) (P : mm_O → mm_S → Prop), mm_ex G T scr d g as S P → mm_ex G T scr (d + 1) g as S P := by
  intro d
  induction d with
  | zero => intro g as S P h; exact h.elim
  | succ d ih =>
    intro g as S P ⟨hl, n, h⟩
    exact ⟨hl, n, mm_wp_mono (X := mm_ex G T scr d) (X' := mm_ex G T scr (d + 1)) (fun g as S P P' hP h => mm_ex_mono (d + 1) g as S P P' hP (ih g as S P h)) (fun _ _ h => h) n _ h⟩
end
section
/-! contracts of the small machine's methods over the real one -/
section MN12
variable {p : Program} {l : Launch} {e : Env} {R : Room} {s : State} {m : MethodId} {args : Array Value} {below : List Frame} {meth : Method} {c : Code} {T : State} {locs : List Loc} {cells slots : Nat}
def mm_cw (yn : Nat → MethodName) (cc : Nat → ByteArray) (hh : Nat → List (Nat × Nat × Nat × Nat)) (G : mm_G) (g : Nat) : Jvm.Cond := if hh g = [] then .code (yn g) (cc g) (mm_nl G g) (mm_rt G g) else .codeWith (yn g) (cc g) (mm_nl G g) (mm_rt G g) (hh g)
theorem mm_cw_spec {yn : Nat → MethodName} {cc : Nat → ByteArray} {hh : Nat → List (Nat × Nat × Nat × Nat)} {G : mm_G} {g : Nat} {a : Array Value} {U : State} (h : (mm_cw yn cc hh G g).before a U = true) :
    ∃ mk mt cM, U.methodNamed? (yn g) = some mk ∧ U.vm.method? mk = some mt ∧ mt.code = some cM ∧ cM.code = cc g ∧ cM.maxLocals = mm_nl G g ∧ cM.exceptionTable.toList.map (fun h => (h.startPc, h.endPc, h.handlerPc, h.catchType)) = hh g ∧ mt.sig.returnType = mm_rt G g ∧ mt.locks = false ∧ parseMethodDescriptor (yn g).desc = some mt.sig := by
  unfold mm_cw at h
  split at h
  · rename_i he
    obtain ⟨mk, hn⟩ := Cond.code_named h
    obtain ⟨mt, cM, h1, h2, h3, h4, h5, h6, h7, h8⟩ := Cond.code_spec hn h
    refine ⟨mk, mt, cM, hn, h1, h2, h3, h4, ?_, h5, h6, h8⟩
    rw [he]
    have : cM.exceptionTable = #[] := by simpa using h7
    rw [this]
    rfl
  · obtain ⟨mk, mt, cM, h1, h2, h3, h4, h5, h6, h7, h8, h9⟩ := Cond.codeWith_spec h
    exact ⟨mk, mt, cM, h1, h2, h3, h4, h5, h6, h7, h8, h9⟩
def mm_rm (T : mm_T) (d : Nat) (S : mm_S) : Room := { frames := d + 8, cells := mm_lc T - S.1, slots := mm_lsl T - S.2.1, locals := d * 60 + 200 }
def mm_Pre (D : va_G) (cl : List vw_C) (tys : List (ClassId × FieldType)) (φ : Nat → Nat) (B : Nat) (E : State → Prop) (as : List Value) (S : mm_S) : Array Value → State → Prop := fun a U => a = (as.map (mm_tv φ)).toArray ∧ E U ∧ va_P D cl (mm_ws φ tys S) U.heap ∧ U.heap.size = B + S.1 ∧ S.1 ≤ mm_big
def mm_Pst (D : va_G) (cl : List vw_C) (tys : List (ClassId × FieldType)) (φ : Nat → Nat) (B : Nat) (S : mm_S) (Q : mm_O → mm_S → Prop) : Array Value → State → Outcome → State → List Loc → Nat → Nat → Prop := fun _ st o t L k n =>
  ∃ (o' : mm_O) (S' : mm_S), Q o' S' ∧ o = mm_out φ o' ∧ va_P D cl (mm_ws φ tys S') t.heap ∧ (S.1 ≤ S'.1 ∧ S'.1 ≤ mm_big) ∧ S.2.1 ≤ S'.2.1 ∧ k = S'.1 - S.1 ∧ n = S'.2.1 - S.2.1 ∧ (∀ q, q < B → t.heap[q]? = st.heap[q]?) ∧ ∀ q ∈ L, B ≤ q.base
def mm_Con (l : Launch) (yn : Nat → MethodName) (cc : Nat → ByteArray) (hh : Nat → List (Nat × Nat × Nat × Nat)) (G : mm_G) (T : mm_T) (D : va_G) (cl : List vw_C) (tys : List (ClassId × FieldType)) (φ : Nat → Nat) (B : Nat) (E : State → Prop) (d g : Nat) (as : List Value) (S : mm_S) (Q : mm_O → mm_S → Prop) : Prop :=
  mm_C l (yn g) [mm_cw yn cc hh G g] (mm_rm T d S) (mm_Pre D cl tys φ B E as S) (mm_Pst D cl tys φ B S Q)
variable {yn : Nat → MethodName} {cc : Nat → ByteArray} {hh : Nat → List (Nat × Nat × Nat × Nat)} {G : mm_G} {TT : mm_T} {D : va_G} {cl : List vw_C} {tys : List (ClassId × FieldType)} {B : Nat} {ex : Nat → Nat} {E : State → Prop} {Ts : List Jvm.Cond} {S0 : mm_S}
/-- what the world outside the small machine's cells needs: it stays when the tables warm and the cells below B stay; it gives the words -/
def mm_EE (B : Nat) (Ts : List Jvm.Cond) (E : State → Prop) : Prop := (∀ u U : State, E u → u.WarmedH U.vm → (∀ q, q < B → U.heap[q]? = u.heap[q]?) → E U) ∧ ∀ U, E U → ∀ w ∈ Ts, ∀ a, w.before a U = true
theorem mm_va_S {H H' : Heap} {L : List Loc} (h3 : va_S (fun q => B ≤ q) s.heap H locs) (hB : B ≤ s.heap.size) (hz : H.size ≤ H'.size) (hq : ∀ q, q < B → H'[q]? = H[q]?) (hL : ∀ q ∈ L, B ≤ q.base) : va_S (fun q => B ≤ q) s.heap H' (locs ++ L) := by
  refine ⟨Nat.le_trans h3.1 hz, fun q h1 h2 => ?_, fun q hq' => ?_⟩
  · have h2 : ¬ B ≤ q := h2
    rw [hq q (by omega)]
    exact h3.2.1 q h1 h2
  · rcases List.mem_append.mp hq' with h | h
    · exact h3.2.2 q h
    · exact hL q h
set_option maxHeartbeats 4000000 in
/-- A CALL: from the callee's entry by its contract to the frame behind the call, or to its exception -/
theorem mm_called {d g : Nat} {as : List Value} {S : mm_S} {Q : mm_O → mm_S → Prop} (hE : mm_EE B Ts E) (hEs : E s) (hM : mm_Con l yn cc hh G TT D cl tys (mm_phi B ex) B E d g as S Q)
    (X : Stand p l e R s m args below meth c T locs (S.1 - S0.1) (S.2.1 - S0.2.1)) (hR : R = mm_rm TT (d + 1) S0) (hcw : mm_cw yn cc hh G g ∈ Ts) (hini : Jvm.Cond.initialized (yn g).cls ∈ Ts) (hnl : mm_nl G g ≤ 40)
    {g0 : JFrame} {rest : List Value} {ig : Instr} {len : Nat} (hg : g0.method = m) (hsize : g0.locals.size = c.maxLocals) (hdg : decode c.code g0.pc = .ok (ig, len)) (hmr : 2 * g0.monitorRoom + (rest.map fun v => v.category).sum ≤ 8)
    (hI : mm_Inv p l e R s m args below meth c T locs (S.1 - S0.1) (S.2.1 - S0.2.1) g0 rest (yn g) (as.map (mm_tv (mm_phi B ex))).toArray)
    (h2 : va_P D cl (mm_ws (mm_phi B ex) tys S) T.heap) (h3 : va_S (fun q => B ≤ q) s.heap T.heap locs) (h4 : S0.1 ≤ S.1 ∧ S.1 ≤ mm_big) (h5 : S0.2.1 ≤ S.2.1) (hB : s.heap.size = B + S0.1) (hlc : S.1 ≤ mm_lc TT) (hls : S.2.1 ≤ mm_lsl TT) :
    ∃ (o : mm_O) (S' : mm_S) (T' : State) (L : List Loc), Q o S' ∧ Stand p l e R s m args below meth c T' (locs ++ L) (S'.1 - S0.1) (S'.2.1 - S0.2.1) ∧ va_P D cl (mm_ws (mm_phi B ex) tys S') T'.heap ∧ va_S (fun q => B ≤ q) s.heap T'.heap (locs ++ L) ∧ (S0.1 ≤ S'.1 ∧ S'.1 ≤ mm_big) ∧ S0.2.1 ≤ S'.2.1 ∧
      (∀ v, o = .inl v → ∀ tg, Steps p.tables e below (T'.setTop { g0 with pc := g0.pc + len, stack := (v.map (mm_tv (mm_phi B ex))).toList ++ rest }) tg → Steps p.tables e below (T.setTop g0) tg) ∧
      (∀ ec a, o = .inr (ec, a) → ∀ tg, Steps p.tables e below ((T'.setTop { g0 with stack := rest }).pushFrame (.throwing (mm_phi B ex a))) tg → Steps p.tables e below (T.setTop g0) tg) := by
  obtain ⟨vm₁, mk, X₁, hn, hst⟩ := hI
  have hheap : (T.setVm vm₁).heap = T.heap := rfl
  have hBs : B ≤ s.heap.size := by omega
  have hEU : E (T.setVm vm₁) := hE.1 s _ hEs X₁.warmed (fun q hq => by
    have : ¬ B ≤ q := by omega
    exact h3.2.1 q (by omega) this)
  have hwU := hE.2 _ hEU
  obtain ⟨mk', mt, cM, c1, c2, c3, c4, c5, -⟩ := mm_cw_spec (hwU _ hcw #[])
  cases hn.symm.trans c1
  obtain ⟨kY, k1, -⟩ := className_of_methodNamed hn
  have k2 : kY.init = .initialized := Cond.initialized_spec (findClass_of_methodNamed hn) k1 (hwU _ hini #[])
  have hszle : T.heap.size ≤ s.heap.size + (S.1 - S0.1) := X.heapSize
  have hszge : B + S.1 ≤ T.heap.size := by
    rcases Nat.eq_zero_or_pos S.1 with h | h
    · have := h3.1
      omega
    · have hl := (h2 (S.1 - 1) _ (mm_ws_at (φ := mm_phi B ex) (tys := tys) (S := S) (k := S.1 - 1) (by omega))).lt
      have hl' : mm_phi B ex (S.1 - 1) < T.heap.size := hl
      rw [mm_phi_lt (by omega)] at hl'
      omega
  have hsz : T.heap.size = B + S.1 := by omega
  have r1 : R.frames = d + 1 + 8 := by rw [hR]; rfl
  have r2 : R.cells = mm_lc TT - S0.1 := by rw [hR]; rfl
  have r3 : R.slots = mm_lsl TT - S0.2.1 := by rw [hR]; rfl
  have r4 : R.locals = (d + 1) * 60 + 200 := by rw [hR]; rfl
  have m1 : (mm_rm TT d S).frames = d + 8 := rfl
  have m2 : (mm_rm TT d S).cells = mm_lc TT - S.1 := rfl
  have m3 : (mm_rm TT d S).slots = mm_lsl TT - S.2.1 := rfl
  have m4 : (mm_rm TT d S).locals = d * 60 + 200 := rfl
  obtain ⟨o, T', t, L, k, n, X', e1, e2, hWT, ⟨o', S', hQ, rfl, hP', hS', hS2', hk, hnn, hlow, hL⟩, hret, hthr⟩ := mm_back (g := { g0 with stack := rest }) (ig := ig) (len := len) (maxL := mm_nl G g) X₁ hM hg hsize hdg hn c2 c3 c5 k1 k2 (by rw [r1, m1]; omega)
    (by
      have : 2 * JFrame.monitorRoom { g0 with stack := rest } + (rest.map fun v => v.category).sum ≤ 8 := hmr
      rw [r4, m4]
      have h9 : (({ g0 with stack := rest } : JFrame).stack.map fun v => v.category).sum = (rest.map fun v => v.category).sum := rfl
      rw [h9]
      omega)
    (by rw [r2, m2]; omega) (by rw [r3, m3]; omega) (fun w hw => by rw [List.mem_singleton] at hw; rw [hw]; exact hwU _ hcw _)
    ⟨rfl, hE.1 _ _ hEU (State.WarmedH.refl (T.setVm vm₁)) (fun _ _ => rfl), h2, hsz, h4.2⟩
  subst hk
  subst hnn
  have hcc : S.1 - S0.1 + (S'.1 - S.1) = S'.1 - S0.1 := by omega
  have hss : S.2.1 - S0.2.1 + (S'.2.1 - S.2.1) = S'.2.1 - S0.2.1 := by omega
  rw [hcc, hss] at X'
  have hlow' : ∀ q, q < B → T'.heap[q]? = T.heap[q]? := fun q hq => by rw [e1]; exact hlow q hq
  have hz' : T.heap.size ≤ T'.heap.size := by
    rcases Nat.eq_zero_or_pos S'.1 with h | h
    · have h6 : S.1 = 0 := by omega
      have h7 : s.heap.size ≤ T'.heap.size := X'.same.2.1
      omega
    · have hP2 : va_P D cl (mm_ws (mm_phi B ex) tys S') T'.heap := by rw [e1]; exact hP'
      have hl := (hP2 (S'.1 - 1) _ (mm_ws_at (φ := mm_phi B ex) (tys := tys) (S := S') (k := S'.1 - 1) (by omega))).lt
      have hl' : mm_phi B ex (S'.1 - 1) < T'.heap.size := hl
      rw [mm_phi_lt (by omega)] at hl'
      omega
  refine ⟨o', S', T', L, hQ, X', by rw [e1]; exact hP', mm_va_S h3 hBs hz' hlow' hL, ⟨by omega, hS'.2⟩, by omega, fun v hv tg h => ?_, fun ec a hv tg h => ?_⟩
  · subst hv
    exact hst tg (Steps.trans (hret _ rfl) h)
  · subst hv
    exact hst tg (Steps.trans (hthr _ rfl) h)
end MN12
end
section
/-! every run of the small machine is a run of the real one -/
section MS13
variable {p : Program} {l : Launch} {e : Env} {R : Room} {s : State} {m : MethodId} {args : Array Value} {below : List Frame} {meth : Method} {c : Code}
variable {yn : Nat → MethodName} {cc : Nat → ByteArray} {hh : Nat → List (Nat × Nat × Nat × Nat)} {G : mm_G} {TT : mm_T} {D : va_G} {cl : List vw_C} {tys : List (ClassId × FieldType)} {B : Nat} {ex : Nat → Nat} {E : State → Prop} {Ts : List Jvm.Cond} {S0 : mm_S} {aT : List FieldType} {own : Nat → String} {scr : Nat × (Nat → Int32)}
/-- a method's pool, where it names methods: Object's constructor is 0 -/
def mm_mpOK (Ts : List Jvm.Cond) (G : mm_G) (yn : Nat → MethodName) (cc : Nat → ByteArray) (hh : Nat → List (Nat × Nat × Nat × Nat)) (cl : List vw_C) (own : Nat → String) (f : Nat) : Prop :=
  ∀ x g, mm_pool G f x = some (.inr (.inl g)) → (g = 0 ∧ Jvm.Cond.methodLink (own f) x Lib.objectInit ∈ Ts ∧ Jvm.Cond.instanceMethod Lib.objectInit ∈ Ts ∧ Jvm.Cond.code Lib.objectInit ⟨#[0xb1]⟩ 1 none ∈ Ts) ∨
    (0 < g ∧ (Jvm.Cond.methodLink (own f) x (yn g) ∈ Ts ∨ ∃ host, Jvm.Cond.methodLinkNest (own f) x (yn g) host ∈ Ts) ∧ mm_cw yn cc hh G g ∈ Ts ∧ Jvm.Cond.initialized (yn g).cls ∈ Ts ∧ mm_nl G g ≤ 40 ∧ ((yn g).cls ≠ "java/lang/invoke/MethodHandle" ∧ (yn g).cls ≠ "java/lang/invoke/VarHandle") ∧
      (mm_stc G g = true → Jvm.Cond.static (yn g) ∈ Ts ∧ (parseMethodDescriptor (yn g).desc).map (fun d => d.parameters.length) = some (mm_na' G g)) ∧
      (mm_stc G g = false → hh g = [] ∧ Jvm.Cond.instanceMethod (yn g) ∈ Ts ∧ (parseMethodDescriptor (yn g).desc).map (fun d => d.parameters.length + 1) = some (mm_na' G g) ∧ (mm_ini G g = true → (yn g).name = "<init>" ∧ mm_rt G g = none) ∧ (mm_ini G g = false → ∃ r : vw_C, cl[mm_oc G g]? = some r ∧ Jvm.Cond.selects r.1 (yn g) (yn g) ∈ Ts)))
/-- where the small machine throws -/
def mm_Thr (p : Program) (l : Launch) (e : Env) (R : Room) (s : State) (m : MethodId) (args : Array Value) (below : List Frame) (meth : Method) (c : Code) (G : mm_G) (T : mm_T) (D : va_G) (cl : List vw_C) (tys : List (ClassId × FieldType)) (φ : Nat → Nat) (B : Nat) (S0 : mm_S) (f : Nat) : Prop :=
  ∀ (Q : mm_O → mm_S → Prop) (pc ec : Nat) (L : mm_L) (st : List Value) (S : mm_S), mm_thr G f pc = some ec → S.1 + 1 ≤ mm_lc T → S.2.1 + 6 ≤ mm_lsl T → (st.map Value.category).sum ≤ 8 → Q (.inr (ec, S.1)) (mm_add S 6 (.inr (ec, []))) →
    mm_At p l e R s m args below meth c (mm_fin D cl tys φ B S0 s below Q) D cl tys φ B S0 (mm_nl G f) (pc, L, st, S)
/-- where it catches what a call throws -/
def mm_Cat (p : Program) (l : Launch) (e : Env) (R : Room) (s : State) (m : MethodId) (args : Array Value) (below : List Frame) (meth : Method) (c : Code) (G : mm_G) (D : va_G) (cl : List vw_C) (f : Nat) : Prop :=
  (∀ pc ec, mm_hnd G f pc ec = some none → ∀ x ∈ c.exceptionTable.toList, covers x pc = false) ∧
  ∀ (T : State) (locs : List Loc) (cells slots pc ec h : Nat) (a : Addr) (g : JFrame), mm_hnd G f pc ec = some (some h) → Stand p l e R s m args below meth c T locs cells slots → g.method = m → g.pc = pc →
    (∃ vs, va_at D cl (a, .inr (ec, vs)) T.heap) → ∃ vm', Stand p l e R s m args below meth c (T.setVm vm') locs cells slots ∧ ∀ tg, Steps p.tables e below ((T.setVm vm').setTop { g with pc := h, stack := [.ref a] }) tg → Steps p.tables e below ((T.setTop g).pushFrame (.throwing a)) tg
theorem mm_sum_tv (φ : Nat → Nat) (l : List Value) : ((l.map (mm_tv φ)).map fun v => v.category).sum = (l.map Value.category).sum := by
  induction l with
  | nil => rfl
  | cons a l ih => simp only [List.map_cons, List.sum_cons, mm_tv_cat, ih]
set_option maxHeartbeats 8000000 in
/-- a call in a walk -/
theorem mm_cl_sound {f g d : Nat} {Q : mm_O → mm_S → Prop} {w : mm_Kf → Prop} {pc nx x : Nat} {L : mm_L} {st : List Value} {S : mm_S} {i : Instr} {tg : Nat}
    (F : mm_Fix p R s m args meth c D cl tys B ex S0 (mm_nl G f) (cc f) Ts aT TT (own f) (mm_oc G f) (mm_pool G f) (mm_ini G f) scr) (hE : mm_EE B Ts E) (hEs : E s) (hR : R = mm_rm TT (d + 1) S0)
    (hcon : ∀ g as S Q, mm_ex G TT scr d g as S Q → mm_Con l yn cc hh G TT D cl tys (mm_phi B ex) B E d g as S Q) (hcat : mm_Cat p l e R s m args below meth c G D cl f)
    (hw : ∀ k, w k → mm_At p l e R s m args below meth c (mm_fin D cl tys (mm_phi B ex) B S0 s below Q) D cl tys (mm_phi B ex) B S0 (mm_nl G f) k)
    (ho : mm_ok (cc f) pc i nx tg) (hmp : mm_mpOK Ts G yn cc hh cl own f) (hp : mm_pool G f x = some (.inr (.inl g))) (hg0 : g ≠ 0)
    (hi : (i = .invokevirtual x ∧ mm_stc G g = false ∧ mm_ini G g = false) ∨ (i = .invokestatic x ∧ mm_stc G g = true) ∨ (i = .invokespecial x ∧ mm_stc G g = false ∧ mm_ini G g = true))
    (h : mm_cl G TT (mm_ex G TT scr d) f g w Q pc nx L st S) : mm_At p l e R s m args below meth c (mm_fin D cl tys (mm_phi B ex) B S0 s below Q) D cl tys (mm_phi B ex) B S0 (mm_nl G f) (pc, L, st, S) := by
  obtain ⟨⟨len, hd, rfl, hl⟩, -⟩ := ho
  have hl : len = 3 := by
    have := hl (fun a b c d q => by rcases hi with ⟨rfl, -⟩ | ⟨rfl, -⟩ | ⟨rfl, -⟩ <;> cases q)
    rcases hi with ⟨rfl, -⟩ | ⟨rfl, -⟩ | ⟨rfl, -⟩ <;> exact this
  subst hl
  obtain ⟨⟨hx, hb, hml, hown, hlk, hini⟩, ⟨hts, hK, hcl, hpl⟩, -, -, ⟨hB, hRc, hRs, hlcb⟩, -⟩ := F
  obtain ⟨⟨hc1, hc2⟩, hlen, hsum, hrok, hX⟩ := h
  rcases hmp x g hp with ⟨h0, -⟩ | ⟨-, hlink, hcw, hinit, hnl, hyy, hS1, hS2⟩
  · exact absurd h0 hg0
  have hM := hcon _ _ _ _ hX
  intro ls H locs h1 h0 h2 h3 h4 h5
  dsimp only at h1 h0 h2 h3 h4 h5 ⊢
  intro T hT X
  subst hT
  have hsplit : st.map (mm_tv (mm_phi B ex)) = (((st.take (mm_na' G g)).reverse).map (mm_tv (mm_phi B ex))).reverse ++ (st.drop (mm_na' G g)).map (mm_tv (mm_phi B ex)) := by
    rw [← List.map_reverse, List.reverse_reverse, ← List.map_append, List.take_append_drop]
  have hlenT : (st.take (mm_na' G g)).reverse.length = mm_na' G g := by rw [List.length_reverse, List.length_take]; omega
  have hdc : decode c.code pc = .ok (i, 3) := by rw [hb]; exact hd
  have hlsz : ls.size = c.maxLocals := by rw [hml]; exact h1.1
  have hI : mm_Inv p l e R s m args below meth c T locs (S.1 - S0.1) (S.2.1 - S0.2.1) (F0 m pc ls (st.map (mm_tv (mm_phi B ex)))) ((st.drop (mm_na' G g)).map (mm_tv (mm_phi B ex))) (yn g) (((st.take (mm_na' G g)).reverse).map (mm_tv (mm_phi B ex))).toArray := by
    have hlk2 : ∃ host, (Jvm.Cond.methodLink (own f) x (yn g)).before args s = true ∨ (Jvm.Cond.methodLinkNest (own f) x (yn g) host).before args s = true := by
      rcases hlink with h | ⟨host, h⟩
      · exact ⟨"", Or.inl (hts _ h)⟩
      · exact ⟨host, Or.inr (hts _ h)⟩
    obtain ⟨host, hlk2⟩ := hlk2
    rcases hi with ⟨rfl, hs1, hs2⟩ | ⟨rfl, hs1⟩ | ⟨rfl, hs1, hs2⟩
    · obtain ⟨hhh, hinst, hpar, -, hsel⟩ := hS2 hs1
      obtain ⟨rr, hrc, hsl⟩ := hsel hs2
      have hcw2 : (Jvm.Cond.code (yn g) (cc g) (mm_nl G g) (mm_rt G g)).before args s = true := by
        have := hts _ hcw
        unfold mm_cw at this
        rw [if_pos hhh] at this
        exact this
      rw [hs1] at hrok
      unfold mm_rok at hrok
      rw [Bool.false_or] at hrok
      generalize hAs : (st.take (mm_na' G g)).reverse = As at hrok hsplit hlenT ⊢
      rcases As with _ | ⟨v, As⟩
      · cases hrok
      · cases v with
        | ref b =>
          simp only [Bool.and_eq_true, decide_eq_true_eq] at hrok
          obtain ⟨hbS, hcls⟩ := hrok
          cases hcell : S.2.2 b with
          | inl z => rw [hcell] at hcls; cases hcls
          | inr z =>
            obtain ⟨ci, vs⟩ := z
            rw [hcell] at hcls
            have hcls : ci = mm_oc G g := by simpa using hcls
            subst hcls
            have hat := h2 b _ (mm_ws_at (φ := mm_phi B ex) (tys := tys) hbS)
            rw [hcell] at hat
            obtain ⟨r2, hr2, cellB, q1, q2, q3, -⟩ := hat
            cases hrc.symm.trans hr2
            refine mm_invV (C := rr.1) (bytes := cc g) (maxL := mm_nl G g) (ret := mm_rt G g) (host := host) X hx hown hlk2 (hts _ hinst) (hts _ hsl) hcw2 hyy (b := mm_phi B ex b) (cellB := cellB) q1 (by rw [q3]; rfl) (by rw [q2]; exact (hK.1 _ _ hrc).2.1) rfl (argsL := As.map (mm_tv (mm_phi B ex))) (fun sig hsig => ?_) ?_ hdc
            · rw [hsig] at hpar
              have : sig.parameters.length + 1 = mm_na' G g := by simpa using hpar
              rw [List.length_map]
              simp only [List.length_cons] at hlenT
              omega
            · show st.map (mm_tv (mm_phi B ex)) = _
              rw [hsplit]
              simp [mm_tv]
        | _ => cases hrok
    · obtain ⟨hstat, hpar⟩ := hS1 hs1
      obtain ⟨mk, mt, cM, c1, c2, -, -, -, -, -, -, c8⟩ := mm_cw_spec (hts _ hcw)
      refine mm_invS (host := host) X hx hown hlk2 (hts _ hstat) (hts _ hinit) c1 c2 c8 hyy rfl (argsL := ((st.take (mm_na' G g)).reverse).map (mm_tv (mm_phi B ex))) (fun sig hsig => ?_) hsplit hdc
      rw [hsig] at hpar
      have : sig.parameters.length = mm_na' G g := by simpa using hpar
      rw [List.length_map, hlenT]
      exact this.symm
    · obtain ⟨hhh, hinst, hpar, hin2, -⟩ := hS2 hs1
      obtain ⟨hnm, hrt0⟩ := hin2 hs2
      have hcw2 : (Jvm.Cond.code (yn g) (cc g) (mm_nl G g) none).before args s = true := by
        have := hts _ hcw
        unfold mm_cw at this
        rw [if_pos hhh, hrt0] at this
        exact this
      rw [hs1] at hrok
      unfold mm_rok at hrok
      rw [Bool.false_or] at hrok
      generalize hAs : (st.take (mm_na' G g)).reverse = As at hrok hsplit hlenT ⊢
      rcases As with _ | ⟨v, As⟩
      · cases hrok
      · cases v with
        | ref b =>
          refine mm_invI (bytes := cc g) (maxL := mm_nl G g) (host := host) X hx hown hnm hlk2 (hts _ hinst) hcw2 hyy rfl (b := mm_phi B ex b) (argsL := As.map (mm_tv (mm_phi B ex))) (fun sig hsig => ?_) ?_ hdc
          · rw [hsig] at hpar
            have : sig.parameters.length + 1 = mm_na' G g := by simpa using hpar
            rw [List.length_map]
            simp only [List.length_cons] at hlenT
            omega
          · show st.map (mm_tv (mm_phi B ex)) = _
            rw [hsplit]
            simp [mm_tv]
        | _ => cases hrok
  obtain ⟨o, S', T', L', hQ, X', hP', hS', h4', h5', hret, hthr⟩ := mm_called (g0 := F0 m pc ls (st.map (mm_tv (mm_phi B ex)))) (ig := i) (len := 3) hE hEs hM X hR hcw hinit hnl rfl hlsz hdc
    (by
      refine lv_room (m := m) (pc := pc) (ls := ls) (rest := st.map (mm_tv (mm_phi B ex))) ?_
      rw [mm_sum_tv]
      exact hsum) hI h2 h3 h4 h5 hB hc1 hc2
  rcases o with v | ⟨ec, a⟩
  · have hk := hw _ hQ ls T'.heap (locs ++ L') h1 h0 hP' hS' h4' h5'
    obtain ⟨t, a1, b1⟩ := hk T' rfl X'
    refine ⟨t, hret v rfl t ?_, b1⟩
    have e1 : (v.toList ++ st.drop (mm_na' G g)).map (mm_tv (mm_phi B ex)) = (v.map (mm_tv (mm_phi B ex))).toList ++ (st.drop (mm_na' G g)).map (mm_tv (mm_phi B ex)) := by
      cases v <;> simp
    dsimp only at a1
    rw [e1] at a1
    exact a1
  · dsimp only at hQ
    have hex : ∃ hnd, mm_hnd G f pc ec = some hnd := by
      cases hq : mm_hnd G f pc ec with
      | none => rw [hq] at hQ; exact hQ.elim
      | some hnd => exact ⟨hnd, rfl⟩
    obtain ⟨hnd, hq⟩ := hex
    rw [hq] at hQ
    rcases hnd with _ | hnd
    · dsimp only at hQ
      obtain ⟨st1, hrun, hend, hWm, hsame⟩ := X'.leaveThrown (mm_phi B ex a) (g := { F0 m pc ls (st.map (mm_tv (mm_phi B ex))) with stack := (st.drop (mm_na' G g)).map (mm_tv (mm_phi B ex)) }) rfl rfl rfl (hcat.1 pc ec hq) hlk
      have hh0 : (T'.setFrames (.throwing (mm_phi B ex a) :: below)).heap = T'.heap := rfl
      refine ⟨_, hthr ec a rfl _ st1, .inr (ec, a), S', hQ, hrun, hend, hWm, by rw [hh0]; exact hP', h4', h5', fun q hq' => ?_, locs ++ L', hsame, hS'.2.2⟩
      rw [hh0]
      exact hS'.2.1 q (by omega) (by show ¬ B ≤ q; omega)
    · dsimp only at hQ
      obtain ⟨⟨ha, vs, hvs⟩, hwk⟩ := hQ
      have hat := hP' a _ (mm_ws_at (φ := mm_phi B ex) (tys := tys) ha)
      rw [hvs] at hat
      obtain ⟨vm', X2, hst2⟩ := hcat.2 T' (locs ++ L') _ _ pc ec hnd (mm_phi B ex a) { F0 m pc ls (st.map (mm_tv (mm_phi B ex))) with stack := (st.drop (mm_na' G g)).map (mm_tv (mm_phi B ex)) } hq X' rfl rfl ⟨_, hat⟩
      obtain ⟨t, a1, b1⟩ := hw _ hwk ls T'.heap (locs ++ L') h1 h0 hP' hS' h4' h5' (T'.setVm vm') rfl X2
      exact ⟨t, hthr ec a rfl t (hst2 t a1), b1⟩
set_option maxHeartbeats 8000000 in
/-- A METHOD's WALK -/
theorem mm_wp_sound {f d : Nat} {Q : mm_O → mm_S → Prop}
    (F : mm_Fix p R s m args meth c D cl tys B ex S0 (mm_nl G f) (cc f) Ts aT TT (own f) (mm_oc G f) (mm_pool G f) (mm_ini G f) scr) (hstr : ∀ x k, mm_pool G f x = some (.inr (.inr (.inr (.inr (.inr k))))) → ∃ tx, vk_R (own f) x tx (ex k) s)
    (hE : mm_EE B Ts E) (hEs : E s) (hR : R = mm_rm TT (d + 1) S0) (hrt : meth.sig.returnType = mm_rt G f)
    (hcode : ∀ pc i nx tg, mm_code G f pc = some (i, nx, tg) → mm_ok (cc f) pc i nx tg) (hmp : mm_mpOK Ts G yn cc hh cl own f)
    (hcon : ∀ g as S Q, mm_ex G TT scr d g as S Q → mm_Con l yn cc hh G TT D cl tys (mm_phi B ex) B E d g as S Q) (hcat : mm_Cat p l e R s m args below meth c G D cl f)
    (hthr : mm_Thr p l e R s m args below meth c G TT D cl tys (mm_phi B ex) B S0 f) :
    ∀ (n : Nat) (k : mm_Kf), mm_wp G TT scr (mm_ex G TT scr d) f Q n k → mm_At p l e R s m args below meth c (mm_fin D cl tys (mm_phi B ex) B S0 s below Q) D cl tys (mm_phi B ex) B S0 (mm_nl G f) k := by
  intro n
  induction n with
  | zero => intro k h; exact h.elim
  | succ n ih =>
    intro k h
    obtain ⟨pc, L, st, S⟩ := k
    replace h : mm_body G TT scr (mm_ex G TT scr d) f Q (mm_wp G TT scr (mm_ex G TT scr d) f Q n) pc L st S (mm_code G f pc) := h
    have ⟨⟨hx, hb, hml, hown, hlk, hini⟩, ⟨hts, hK, hcl, hpl⟩, _, _, ⟨hB, hRc, hRs, hlcb⟩, _⟩ := F
    have hBs : B ≤ s.heap.size := by omega
    cases hc : mm_code G f pc with
    | none => rw [hc] at h; exact h.elim
    | some en =>
      obtain ⟨i, nx, tg⟩ := en
      rw [hc] at h
      have ho := hcode _ _ _ _ hc
      have key : (match mm_thr G f pc with
          | some ec => S.1 + 1 ≤ mm_lc TT ∧ S.2.1 + 6 ≤ mm_lsl TT ∧ (st.map Value.category).sum ≤ 8 ∧ Q (.inr (ec, S.1)) (mm_add S 6 (.inr (ec, [])))
          | none => match mm_st0 i pc nx tg L st S with
            | some k => mm_wp G TT scr (mm_ex G TT scr d) f Q n k
            | none => match mm_st1 TT (mm_ini G f) (mm_oc G f) (mm_pool G f) scr i nx L st S with
              | some k => mm_wp G TT scr (mm_ex G TT scr d) f Q n k
              | none => False) → mm_At p l e R s m args below meth c (mm_fin D cl tys (mm_phi B ex) B S0 s below Q) D cl tys (mm_phi B ex) B S0 (mm_nl G f) (pc, L, st, S) := by
        cases h1 : mm_thr G f pc with
        | some ec => exact fun h => hthr Q pc ec L st S h1 h.1 h.2.1 h.2.2.1 h.2.2.2
        | none =>
          cases h2 : mm_st0 i pc nx tg L st S with
          | some k => exact fun h => ms_all hx hb ho h2 (ih _ h)
          | none =>
            cases h3 : mm_st1 TT (mm_ini G f) (mm_oc G f) (mm_pool G f) scr i nx L st S with
            | some k => exact fun h => mt_all F hstr ho h3 (ih _ h)
            | none => exact fun h => h.elim
      cases i
      case return_ =>
        obtain ⟨rfl, h1, h2⟩ := h
        obtain ⟨⟨len, hd, -, hl⟩, -⟩ := ho
        have hl : len = 1 := hl (fun _ _ _ _ q => by cases q)
        subst hl
        exact mr_return hx hb hlk (hrt.trans h1) hBs hd h2
      case ireturn =>
        obtain ⟨v, rfl, h1, h2⟩ := h
        obtain ⟨⟨len, hd, -, hl⟩, -⟩ := ho
        have hl : len = 1 := hl (fun _ _ _ _ q => by cases q)
        subst hl
        rcases h1 with h1 | ⟨h1, h3⟩
        · exact mr_ireturn hx hb hlk (hrt.trans h1) hBs hd h2
        · exact mr_zreturn hx hb hlk (hrt.trans h1) hBs h3 hd h2
      case lreturn =>
        obtain ⟨v, rfl, h1, h2⟩ := h
        obtain ⟨⟨len, hd, -, hl⟩, -⟩ := ho
        have hl : len = 1 := hl (fun _ _ _ _ q => by cases q)
        subst hl
        exact mr_lreturn hx hb hlk (hrt.trans h1) hBs hd h2
      case areturn =>
        obtain ⟨v, rfl, ⟨nm, h1⟩, h2⟩ := h
        obtain ⟨⟨len, hd, -, hl⟩, -⟩ := ho
        have hl : len = 1 := hl (fun _ _ _ _ q => by cases q)
        subst hl
        exact mr_areturn hx hb hlk (hrt.trans h1) (Or.inl ⟨nm, rfl⟩) hBs hd h2
      case invokespecial x =>
        unfold mm_body at h
        dsimp only at h
        split at h
        · rename_i hp
          obtain ⟨a, r, rfl, hsum, hk⟩ := h
          rcases hmp x 0 hp with ⟨-, o1, o2, o3⟩ | ⟨h0, -⟩
          · obtain ⟨⟨len, hd, rfl, hl⟩, -⟩ := ho
            have hl : len = 3 := hl (fun _ _ _ _ q => by cases q)
            subst hl
            intro ls H locs h1 h0 h2 h3 h4 h5
            have kk := ih _ hk ls H locs h1 h0 h2 h3 h4 h5
            have hlsz : ls.size = c.maxLocals := by rw [hml]; exact h1.1
            refine W.objInit hx hb hown (hts _ o1) (hts _ o2) (hts _ o3) rfl hlsz (a := mm_phi B ex a) (rest := r.map (mm_tv (mm_phi B ex))) rfl hd (by rw [hR]; show 1 ≤ d + 1 + 8; omega) ?_ kk
            have h8 := lv_room (m := m) (pc := pc) (ls := ls) (rest := (Value.ref a :: r).map (mm_tv (mm_phi B ex))) (st := r.map (mm_tv (mm_phi B ex))) (by rw [mm_sum_tv]; exact hsum)
            rw [hR]
            show _ ≤ (d + 1) * 60 + 200
            dsimp only at h8 ⊢
            omega
          · omega
        · rename_i g hp
          exact mm_cl_sound (tg := tg) F hE hEs hR hcon hcat ih ho hmp hp (by omega) (Or.inr (Or.inr ⟨rfl, h.1, h.2.1⟩)) h.2.2
        · exact h.elim
      case invokevirtual x =>
        unfold mm_body at h
        dsimp only at h
        split at h
        · rename_i g hp
          exact mm_cl_sound (tg := tg) F hE hEs hR hcon hcat ih ho hmp hp (by omega) (Or.inl ⟨rfl, h.1, h.2.1⟩) h.2.2
        · exact h.elim
      case invokestatic x =>
        unfold mm_body at h
        dsimp only at h
        split at h
        · rename_i g hp
          exact mm_cl_sound (tg := tg) F hE hEs hR hcon hcat ih ho hmp hp (by omega) (Or.inr (Or.inl ⟨rfl, h.1⟩)) h.2
        · exact h.elim
      all_goals exact key h
end MS13
end
section
/-! the small machine's promises are the real one's contracts -/
theorem mm_entry_ld {φ : Nat → Nat} : ∀ (as : List Value) (n base k : Nat) (v : Value), mm_ld (as.flatMap (fun v => if v.category = 2 then [some v, none] else [some v]) ++ List.replicate n none) k = some v → (base + k, mm_tv φ v) ∈ lv_args base (as.map (mm_tv φ)) := by
  intro as
  induction as with
  | nil =>
    intro n base k v h
    exfalso
    unfold mm_ld at h
    simp only [List.flatMap_nil, List.nil_append] at h
    rw [List.getElem?_replicate] at h
    split at h <;> cases h
  | cons a as ih =>
    intro n base k v h
    rw [List.flatMap_cons] at h
    rw [List.map_cons, lv_args]
    by_cases hc : a.category = 2
    · rw [if_pos hc] at h
      rw [mm_tv_cat, if_pos hc]
      match k, h with
      | 0, h =>
        have : a = v := by simpa [mm_ld] using h
        subst this
        exact List.mem_cons_self
      | 1, h =>
        exfalso
        simp [mm_ld] at h
      | k + 2, h =>
        have h2 := ih n (base + 2) k v (by simpa [mm_ld] using h)
        have e : base + (k + 2) = base + 2 + k := by omega
        rw [e]
        exact List.mem_cons_of_mem _ h2
    · rw [if_neg hc] at h
      rw [mm_tv_cat, if_neg hc]
      match k, h with
      | 0, h =>
        have : a = v := by simpa [mm_ld] using h
        subst this
        exact List.mem_cons_self
      | k + 1, h =>
        have h2 := ih n (base + 1) k v (by simpa [mm_ld] using h)
        have e : base + (k + 1) = base + 1 + k := by omega
        rw [e]
        exact List.mem_cons_of_mem _ h2
theorem mm_sl_len (φ : Nat → Nat) (as : List Value) : (lg_sl (as.map (mm_tv φ))).length = (as.flatMap (fun v => if v.category = 2 then [some v, none] else [some v])).length := by
  induction as with
  | nil => rfl
  | cons a as ih =>
    unfold lg_sl at ih ⊢
    rw [List.map_cons, List.flatMap_cons, List.flatMap_cons, List.length_append, List.length_append, ih, mm_tv_cat]
    by_cases hc : a.category = 2
    · rw [if_pos hc, if_pos hc]; rfl
    · rw [if_neg hc, if_neg hc]; rfl
theorem mm_entry_has {φ : Nat → Nat} {nL : Nat} {as : List Value} (hl : (mm_entry nL as).length = nL) : lv_has ((lg_sl (as.map (mm_tv φ)) ++ List.replicate (nL - (lg_sl (as.map (mm_tv φ))).length) Slot.unset).toArray) nL (mm_prs φ (mm_entry nL as)) := by
  have hle : (lg_sl (as.map (mm_tv φ))).length ≤ nL := by
    rw [mm_sl_len]
    unfold mm_entry at hl
    dsimp only at hl
    rw [List.length_append, List.length_replicate] at hl
    omega
  refine mm_lv_mono (lv_entry (as.map (mm_tv φ)) hle) fun q hq => ?_
  obtain ⟨v, hv, hq2⟩ := mm_prs_of hq
  obtain ⟨j, x⟩ := q
  dsimp only at hv hq2
  subst hq2
  have := mm_entry_ld (φ := φ) as _ 0 j v hv
  rwa [Nat.zero_add] at this
section MM14
variable {l : Launch} {yn : Nat → MethodName} {cc : Nat → ByteArray} {hh : Nat → List (Nat × Nat × Nat × Nat)} {G : mm_G} {TT : mm_T} {D : va_G} {cl : List vw_C} {tys : List (ClassId × FieldType)} {B : Nat} {ex : Nat → Nat} {E : State → Prop} {Ts : List Jvm.Cond} {aT : List FieldType} {own : Nat → String} {scr : Nat × (Nat → Int32)}
/-- what the program's data must say of a method -/
def mm_MOK (Ts : List Jvm.Cond) (cl : List vw_C) (aT : List FieldType) (T : mm_T) (G : mm_G) (yn : Nat → MethodName) (cc : Nat → ByteArray) (hh : Nat → List (Nat × Nat × Nat × Nat)) (own : Nat → String) (g : Nat) : Prop :=
  (∀ pc i nx tg, mm_code G g pc = some (i, nx, tg) → mm_ok (cc g) pc i nx tg) ∧ mm_plOK Ts cl aT T (own g) (mm_oc G g) (mm_pool G g) ∧ mm_mpOK Ts G yn cc hh cl own g ∧ plainFor (yn g) = true ∧ own g = (yn g).cls ∧ (mm_ini G g = true → (yn g).name = "<init>")
/-- what the world gives at a method's entry -/
def mm_EF (Ts : List Jvm.Cond) (cl : List vw_C) (aT : List FieldType) (T : mm_T) (G : mm_G) (D : va_G) (tys : List (ClassId × FieldType)) (B : Nat) (ex : Nat → Nat) (own : Nat → String) (scr : Nat × (Nat → Int32)) (E : State → Prop) : Prop :=
  ∀ U, E U → va_K D cl tys U ∧ (∀ k, 3 ≤ k → ∀ ty, aT[k]? = some ty → ∃ C : String, ty = .object C ∧ (∀ a, (Jvm.Cond.arrayOver (.object C)).before a U = true) ∧ ∀ r : vw_C, cl[mm_kc T k]? = some r → r.1 = C) ∧ (∀ ty, ty = .int ∨ ty = .long ∨ ty = .boolean → ∀ a, (Jvm.Cond.arrayClass ty).before a U = true) ∧
    va_X (ex 0) scr.1 scr.2 U U.heap ∧ (∀ C, aT[5]? = some (.object C) → ∀ j, 1 ≤ j → j ≤ mm_nx T → va_O C (ex j) (fun q => B ≤ q) U U.heap ∧ ∀ cC, U.vm.findClass C = some cC → U.vm.assignable cC cC = true) ∧ ∀ g x k, mm_pool G g x = some (.inr (.inr (.inr (.inr (.inr k))))) → ∃ tx, vk_R (own g) x tx (ex k) U
set_option maxHeartbeats 8000000 in
theorem mm_sound (hE : mm_EE B Ts E) (hEF : mm_EF Ts cl aT TT G D tys B ex own scr E) (hcl : mm_clOK Ts cl TT) (haT : ∀ k ty, aT[k]? = some ty → tys[k]? = some (mm_aC tys k, ty)) (hA : aT.length = mm_nk TT ∧ cl.length = mm_nc TT ∧ aT[0]? = some .int ∧ aT[1]? = some .long ∧ aT[2]? = some .boolean) (hlc : mm_lc TT ≤ mm_big) (hX0 : ex 0 < B)
    (hG : ∀ g en, mm_code G g 0 = some en → mm_MOK Ts cl aT TT G yn cc hh own g)
    (hthr : ∀ (d g : Nat) (en : Instr × Nat × Nat), mm_code G g 0 = some en → ∀ (p : Program) (e : Env) (s : State) (m : MethodId) (args : Array Value) (below : List Frame) (meth : Method) (c : Code) (S0 : mm_S), E s → mm_Fix p (mm_rm TT (d + 1) S0) s m args meth c D cl tys B ex S0 (mm_nl G g) (cc g) Ts aT TT (own g) (mm_oc G g) (mm_pool G g) (mm_ini G g) scr → (c.exceptionTable.toList.map (fun h => (h.startPc, h.endPc, h.handlerPc, h.catchType)) = hh g) →
      mm_Thr p l e (mm_rm TT (d + 1) S0) s m args below meth c G TT D cl tys (mm_phi B ex) B S0 g ∧ mm_Cat p l e (mm_rm TT (d + 1) S0) s m args below meth c G D cl g) :
    ∀ (d g : Nat) (as : List Value) (S : mm_S) (Q : mm_O → mm_S → Prop), mm_ex G TT scr d g as S Q → mm_Con l yn cc hh G TT D cl tys (mm_phi B ex) B E d g as S Q := by
  intro d
  induction d with
  | zero => intro g as S Q h; exact h.elim
  | succ d ih =>
    intro g as S0 Q ⟨hlen, n, hw⟩
    have hen : ∃ en, mm_code G g 0 = some en := by
      cases n with
      | zero => exact hw.elim
      | succ n =>
        replace hw : mm_body G TT scr (mm_ex G TT scr d) g Q _ 0 _ [] S0 (mm_code G g 0) := hw
        cases hq : mm_code G g 0 with
        | none => rw [hq] at hw; exact hw.elim
        | some en => exact ⟨en, rfl⟩
    obtain ⟨en, hen⟩ := hen
    obtain ⟨o1, o2, o3, o4, o5, o6⟩ := hG g en hen
    unfold mm_Con mm_C
    refine MetFree.of_bodySF (code := cc g) (maxLocals := mm_nl G g) (ret := mm_rt G g) o4 ?_ ?_
    · intro args s m h hn
      obtain ⟨mk, mt, cM, c1, c2, c3, c4, c5, -, c7, c8, -⟩ := mm_cw_spec (atoms_spec (ws := [mm_cw yn cc hh G g]) h _ List.mem_cons_self)
      cases hn.symm.trans c1
      exact ⟨mt, cM, c2, c3, c4, c5, c7, c8⟩
    · intro p e s m args below meth c s₁ Bd hml hP _
      obtain ⟨rfl, hEs, hPs, hsz, hbig⟩ := hP
      have hh0 : s₁.heap = s.heap := by rw [Bd.state]; rfl
      obtain ⟨f1, f2, f3, f4, f6, f5⟩ := hEF s hEs
      have hwords := hE.2 s hEs
      have X := Stand.of_body Bd
      obtain ⟨mk, mt, cM, c1, c2, c3, c4, c5, c6, c7, c8, -⟩ := mm_cw_spec (atoms_spec (ws := [mm_cw yn cc hh G g]) Bd.pre _ List.mem_cons_self)
      cases Bd.named.symm.trans c1
      cases Bd.method.symm.trans c2
      cases X.code.symm.trans c3
      have F : mm_Fix p (mm_rm TT (d + 1) S0) s m (as.map (mm_tv (mm_phi B ex))).toArray meth c D cl tys B ex S0 (mm_nl G g) (cc g) Ts aT TT (own g) (mm_oc G g) (mm_pool G g) (mm_ini G g) scr :=
        ⟨⟨Bd.exec, Bd.bytes, hml, by rw [o5]; exact findClass_of_methodNamed Bd.named, Bd.notSynchronized, fun hi => (name_of_methodNamed Bd.named Bd.method).1.trans (o6 hi)⟩, ⟨fun w hw => hwords w hw _, f1, hcl, o2⟩,
          ⟨haT, hA, fun k hk ty ht => by obtain ⟨C, h1, h2, h3⟩ := f2 k hk ty ht; exact ⟨C, h1, h2 _, h3⟩⟩, fun ty ht => f3 ty ht _, ⟨hsz, rfl, rfl, hlc⟩, f4, hX0, f6⟩
      obtain ⟨t1, t2⟩ := hthr d g en hen p e s m _ below meth c S0 hEs F c6
      have key := mm_wp_sound F (fun x k h => f5 g x k h) hE hEs rfl Bd.returns o1 o3 ih t2 t1 n _ hw
      have key2 := key _ s.heap [] (mm_entry_has hlen) hlen hPs va_S.rf ⟨Nat.le_refl _, hbig⟩ (Nat.le_refl _)
      dsimp only at key2
      rw [Nat.sub_self, Nat.sub_self] at key2
      obtain ⟨t, a1, o, S', hQ, hrun, hend, hW, hPt, hS1, hS2, hlow, L, hsame, hL⟩ := key2 s₁ hh0 X
      refine ⟨t, mm_out (mm_phi B ex) o, ?_, hrun, hend, L, S'.1 - S0.1, S'.2.1 - S0.2.1, ⟨hW, hsame⟩, o, S', hQ, rfl, hPt, hS1, hS2, rfl, rfl, hlow, hL⟩
      rw [lg_entry_eq]
      exact a1
end MM14
end
section
/-! an exception made and thrown: its own cell alone changes -/
section MT15
variable {p : Program} {l : Launch} {e : Env} {R : Room} {s : State} {m : MethodId} {args : Array Value} {below : List Frame} {meth : Method} {c : Code} {V : State} {locs : List Loc} {cells slots : Nat}
set_option maxHeartbeats 4000000 in
theorem mm_ctor0 (X : Stand p l e R s m args below meth c V locs cells slots) (hx : p.tables.exec = Jvm.exec) (hoff : e.platform.stackTraces = false) {own cls : String} {names : List String} {ic : Nat}
    (hown : s.vm.findClass own = some m.cls) (hfc : Bundle.fit cls = true) (hfn : ∀ n ∈ names, Bundle.fit n = true) (hw : ∀ w ∈ Bundle.ownAtoms0 own ic cls names, w.before args s = true)
    (hlo : ∀ x ∈ locs, ∀ cell, s.heap[x.base]? = some cell → cell.vm.isStatics = false)
    {a : Addr} {cX : ClassId} {kX : Class} (hcX : s.vm.findClass cls = some cX) (hkX : s.vm.classes[cX]? = some kX) (hcell : V.heap[a]? = some (freshCell cX kX)) (hnew : s.heap.size ≤ a)
    {g : JFrame} (hg : g.method = m) (hsize : g.locals.size = c.maxLocals) (hlocked : g.locked = none) (hentered : g.entered = []) {rest : List Value} (hstack : g.stack = .ref a :: .ref a :: rest)
    (hd1 : decode c.code g.pc = .ok (.invokespecial ic, 3)) (hd2 : decode c.code (g.pc + 3) = .ok (.athrow, 1)) (hout : ∀ x ∈ c.exceptionTable.toList, covers x (g.pc + 3) = false)
    (hRf : names.length + 3 < R.frames) (hRl : 2 * g.monitorRoom + ((Value.ref a :: rest).map fun v => v.category).sum + (13 * (names.length + 1) + 41) ≤ R.locals) (hlk : meth.locks = false) :
    ∃ U : State, Steps p.tables e below (V.setTop g) U ∧ U.status = .running ∧ Ended U below (.threw a) ∧ s.WarmedH U.vm ∧ s.sameButNew ({ U with vm := s.vm } : State) locs cells slots ∧ U.heap.size = V.heap.size ∧ (∀ q, q ≠ a → U.heap[q]? = V.heap[q]?) ∧ ∃ ce : Cell, U.heap[a]? = some ce ∧ ce.cls = cX ∧ ce.vm = .none := by
  have p1 : e.platform.frameOwnsMonitors = true := by rw [X.admits.platform]
  have p2 : e.platform.finalization = false := by rw [X.admits.platform]
  have p3 : e.platform.magicAccessors = ({} : Platform).magicAccessors := by rw [X.admits.platform]
  have wd : ∀ x, x ∈ Bundle.ownAtoms0 own ic cls names → x.holds args s none s [] = true := fun x hx => hw x hx
  obtain ⟨T, Z, L, LZ, Y⟩ := ThrowableC.of_atoms (args := args) p1 p2 p3 (fun x hx => hw x (by simp [Bundle.ownAtoms0, hx]))
  obtain ⟨P1, Ps, hlen, L1, hL, hPm, hk1, hk2⟩ := Bundle.chain0 (args := args) p3 Y.init0 names cls hfc hfn (fun x hx => hw x (by simp [Bundle.ownAtoms0, hx]))
  have hfd : s.vm.findClass cls = some P1.m.cls := findClass_of_methodNamed hPm
  cases Option.some.inj (hcX.symm.trans hfd)
  obtain ⟨c1, kX', hc1, hk, hord, -, -, -⟩ := Cond.instantiable_spec (wd (.instantiable cls 6) (by simp [Bundle.ownAtoms0]))
  cases Option.some.inj (hc1.symm.trans hfd)
  cases Option.some.inj (hkX.symm.trans hk)
  have sel : ∀ {y : MethodName} {mi : MethodId}, s.methodNamed? y = some mi → y.cls ≠ "java/lang/invoke/MethodHandle" ∧ y.cls ≠ "java/lang/invoke/VarHandle" → (Jvm.Cond.selects cls y y).holds args s none s [] = true → selectMethod e.platform s.vm P1.m.cls mi = .method mi := by
    intro y mi hmi hno hq
    obtain ⟨c2, r2, m2, q1, q2, q3, q4, -⟩ := Cond.selects_spec hq
    cases Option.some.inj (q1.symm.trans hfd)
    cases Option.some.inj (q2.symm.trans (State.methodFound?_of_named hmi hno))
    cases Option.some.inj (q3.symm.trans hmi)
    rw [Launch.admits_selectMethod X.admits]; exact q4
  have s0 := sel Y.fill0 (by decide) (wd (.selects cls Bundle.tFill0 Bundle.tFill0) (by simp [Bundle.ownAtoms0]))
  have s1 := sel Y.fill (by decide) (wd (.selects cls Bundle.tFill Bundle.tFill) (by simp [Bundle.ownAtoms0]))
  obtain ⟨cS0, hcS0, hiss⟩ := Y.statics
  obtain ⟨u0, hu0⟩ := Cond.staticRefV Y.unassigned L.unassignedStatic L.statics hcS0 hiss (wd (.isRef (.static Bundle.tN "UNASSIGNED_STACK" Bundle.steD)) (by simp [Bundle.ownAtoms0]))
  obtain ⟨sn, hsn⟩ := Cond.staticRefV Y.sentinel L.sentinelStatic L.statics hcS0 hiss (wd (.isRef (.static Bundle.tN "SUPPRESSED_SENTINEL" Bundle.listD)) (by simp [Bundle.ownAtoms0]))
  obtain ⟨ci, i1, fB, hb1, hb2, hb3, hb4, -, hnB, htB, hfB⟩ := Cond.ownField (t := .object "java/lang/Object") Y.found L.cls (by decide +kernel) (wd (.fieldLink Bundle.tN 198 Bundle.tN "backtrace" "Ljava/lang/Object;") (by simp [Bundle.ownAtoms0])) (wd (.lays Bundle.tN Bundle.tN "backtrace" "Ljava/lang/Object;") (by simp [Bundle.ownAtoms0])) e.platform p3
  obtain ⟨cS, hcS, heS, -, hkeep⟩ := X.same.2.2.2.2.2 T.aS cS0 hcS0
  have hcS : V.heap[T.aS]? = some cS := hcS
  have nol : ∀ i, (⟨T.aS, i⟩ : Loc) ∉ locs := fun i hm => by
    have := hlo _ hm cS0 hcS0
    rw [hiss] at this; cases this
  have hknS : cS.vm ≠ .unknown := by
    rw [heS]; intro hu
    rw [show cS0.vm = .unknown from hu] at hiss
    cases hiss
  have hneS : T.aS ≠ a := Nat.ne_of_lt (Nat.lt_of_lt_of_le (Array.getElem?_eq_some_iff.mp hcS0).1 hnew)
  obtain ⟨tyC, dC, eC, nC⟩ := Cond.laysAt hfd hk Y.cause (wd (.lays cls Bundle.tN "cause" "Ljava/lang/Throwable;") (by simp [Bundle.ownAtoms0]))
  obtain ⟨tyS, dS, eS, nS⟩ := Cond.laysAt hfd hk Y.stack (wd (.lays cls Bundle.tN "stackTrace" Bundle.steD) (by simp [Bundle.ownAtoms0]))
  obtain ⟨tyP, dP, eP, nP⟩ := Cond.laysAt hfd hk Y.supp (wd (.lays cls Bundle.tN "suppressedExceptions" Bundle.listD) (by simp [Bundle.ownAtoms0]))
  obtain ⟨tyB, dB, eB, nB⟩ := Cond.laysAt hfd hk hfB (wd (.lays cls Bundle.tN "backtrace" "Ljava/lang/Object;") (by simp [Bundle.ownAtoms0]))
  have bC := Cond.laysApart eB eC nB nC (by rw [hnB, Y.causeName]; decide)
  have bS := Cond.laysApart eB eS nB nS (by rw [hnB, Y.stackName]; decide)
  have bP := Cond.laysApart eB eP nB nP (by rw [hnB, Y.suppName]; decide)
  have hskip : SkipFacts T e.platform s (fun u => u) u0 ((preparedCellV T.toThrowableT (freshCell P1.m.cls kX) a u0 sn).withEntry V.cur) :=
    ⟨{ ci198 := ci, i198 := i1, fBack := fB }, ⟨hb1, hb2, hb3, hb4⟩, by
      have := fresh_default (c := P1.m.cls) tyB
      rw [htB] at this
      simpa [preparedCellV, Cell.setSlot, Cell.withEntry, Array.getElem?_setIfInBounds, bC, bS, bP, bC.symm, bS.symm, bP.symm, defaultValue] using this, fun _ _ => rfl⟩
  obtain ⟨tm, mC, cdC, kC, vm₁, hnC, -, -, -, -, -, -, -, hW₁, st1⟩ := Steps.initCold (tb := p.tables) (e := e) (below := below) (s := s) (U := V) X.here hx X.warmed p3 hown (t := Bundle.init0 cls) rfl rfl (Bundle.fit_spec hfc).2
    (wd (.methodLink own ic (Bundle.init0 cls)) (by simp [Bundle.ownAtoms0])) (hw (.instanceMethod (Bundle.init0 cls)) (by cases names <;> simp [Bundle.ownAtoms0, Bundle.chain0Atoms, Bundle.passAtoms])) (bytes := Bundle.five) (maxL := 1) (hw (.code (Bundle.init0 cls) Bundle.five 1 none) (by cases names <;> simp [Bundle.ownAtoms0, Bundle.chain0Atoms, Bundle.passAtoms]))
    (f := g) hg (a := a) (rest := .ref a :: rest) hstack hd1
  cases Option.some.inj (hnC.symm.trans hPm)
  have X1 := X.noted hW₁
  obtain ⟨vm₂, X2, st2⟩ := X1.ctorPlainOffV hx (g := { g with stack := .ref a :: rest }) hg hsize T L Z LZ (P1 :: Ps)
    (fun P hP => by rcases List.mem_cons.mp hP with rfl | hP; exact L1; exact hL P hP) ⟨hk1, hk2⟩ (u0 := u0) (sen := sn) (self := a) (cell := freshCell P1.m.cls kX) (cellS := cS)
    hcell (fun _ => by simp) (by simp) rfl rfl s0 s1 hcS hneS hknS (by rw [hkeep _ (nol _)]; exact hu0) (by rw [hkeep _ (nol _)]; exact hsn)
    (Takes.of_laid hk hord tyC (by rw [Y.causeType]; rfl)) (Takes.of_laid hk hord tyS (by rw [Y.stackType]; exact fits_refV_array _ u0)) (Takes.of_laid hk hord tyP (by rw [Y.suppType]; exact fits_refV_object _ sn)) Y.objLocals hskip hoff [] hd1
    (by simp only [List.length_cons, hlen]; omega) (by simp only [List.length_cons, hlen]; exact hRl)
  obtain ⟨hwalk, hrun, hended, hWU, hsame⟩ := X2.athrowLeaves hx (g := { g with stack := .ref a :: rest, pc := g.pc + 3 }) hg hlocked hentered hout (a := a) (rest := rest) rfl hd2
  have hlt : a < ((V.setVm vm₁).setVm vm₂).heap.size := (Array.getElem?_eq_some_iff.mp hcell).1
  have hU := heapAt_setCell_self (s := (V.setVm vm₁).setVm vm₂) ((preparedCellV T.toThrowableT (freshCell P1.m.cls kX) a u0 sn).setSlot T.fStack.slot u0.v) hlt
  refine ⟨_, st1 _ (fun acts => ?_), hrun, hended, hWU, hsame.weaken (fun y hy hlt' => ?_) (Nat.le_refl _) (Nat.le_refl _), ?_, fun q hq => ?_, _, hU, rfl, rfl⟩
  · rw [doInvoke_state]
    exact st2 _ hwalk
  · rcases List.mem_append.mp hy with h1 | h1
    · exact h1
    · exfalso
      simp only [List.mem_cons, List.not_mem_nil, or_false] at h1
      rcases h1 with rfl | rfl | rfl | rfl <;> exact absurd hlt' (by simpa using hnew)
  · exact size_setCell _ _ _
  · exact heapAt_setCell_ne _ (Ne.symm hq)
end MT15
end
section
/-! the small machine's throws -/
section MT16
variable {p : Program} {l : Launch} {e : Env} {R : Room} {s : State} {m : MethodId} {args : Array Value} {below : List Frame} {meth : Method} {c : Code}
variable {cc : Nat → ByteArray} {G : mm_G} {TT : mm_T} {D : va_G} {cl : List vw_C} {tys : List (ClassId × FieldType)} {B : Nat} {ex : Nat → Nat} {Ts : List Jvm.Cond} {S0 : mm_S} {aT : List FieldType} {own : Nat → String} {scr : Nat × (Nat → Int32)}
/-- the words of Throwable's statics -/
def mm_zw : List Jvm.Cond := [.isRef (.static Bundle.tN "UNASSIGNED_STACK" Bundle.steD), .isRef (.static Bundle.tN "SUPPRESSED_SENTINEL" Bundle.listD), .laysStatic Bundle.tN "UNASSIGNED_STACK" Bundle.steD, .laysStatic Bundle.tN "SUPPRESSED_SENTINEL" Bundle.listD]
/-- what the program's data must say where the small machine throws -/
def mm_thOK (Ts : List Jvm.Cond) (cl : List vw_C) (G : mm_G) (cc : Nat → ByteArray) (own : Nat → String) (f : Nat) : Prop :=
  ∀ pc ec, mm_thr G f pc = some ec → ∃ (x ic : Nat) (r : vw_C) (names : List String), (decode (cc f) pc = .ok (.new x, 3) ∧ decode (cc f) (pc + 3) = .ok (.dup, 1) ∧ decode (cc f) (pc + 4) = .ok (.invokespecial ic, 3) ∧ decode (cc f) (pc + 7) = .ok (.athrow, 1)) ∧
    (cl[ec]? = some r ∧ r.2.2 = 0) ∧ (Jvm.Cond.classLink (own f) x r.1 ∈ Ts ∧ Jvm.Cond.instantiable r.1 6 ∈ Ts ∧ Jvm.Cond.initialized r.1 ∈ Ts) ∧ (Bundle.fit r.1 = true ∧ (∀ n ∈ names, Bundle.fit n = true) ∧ names.length ≤ 3) ∧
    ∀ w ∈ Bundle.ownAtoms0 (own f) ic r.1 names, w ∈ Ts ∨ w ∈ mm_zw
theorem mm_ws_vm {φ : Nat → Nat} {S : mm_S} {H : Heap} {k : Nat} {cell : Cell} (h2 : va_P D cl (mm_ws φ tys S) H) (hk : k < S.1) (hc : H[φ k]? = some cell) : cell.vm = .none := by
  have hat := h2 k _ (mm_ws_at (φ := φ) (tys := tys) hk)
  cases hE : S.2.2 k with
  | inl z =>
    rw [hE] at hat
    obtain ⟨k0, n, en⟩ := z
    rcases en with f | f | f | f | f <;> (have h9 : H[φ k]? = some _ := hat; rw [hc] at h9; cases h9; rfl)
  | inr z =>
    obtain ⟨ci, vs⟩ := z
    rw [hE] at hat
    obtain ⟨r2, hr2, cellB, q1, q2, q3, -⟩ := hat
    have q1 : H[φ k]? = some cellB := q1
    rw [hc] at q1
    cases q1
    exact q3
set_option maxHeartbeats 8000000 in
theorem mm_thr_sound {f d : Nat} (F : mm_Fix p (mm_rm TT (d + 1) S0) s m args meth c D cl tys B ex S0 (mm_nl G f) (cc f) Ts aT TT (own f) (mm_oc G f) (mm_pool G f) (mm_ini G f) scr) (hth : mm_thOK Ts cl G cc own f) (hoff : l.admits e → e.platform.stackTraces = false)
    (hz : ∀ w ∈ mm_zw, w.before args s = true) (hex : (∃ pc ec, mm_thr G f pc = some ec) → c.exceptionTable.toList = []) :
    mm_Thr p l e (mm_rm TT (d + 1) S0) s m args below meth c G TT D cl tys (mm_phi B ex) B S0 f := by
  intro Q pc ec L st S hthr hlc hls hsum hQ
  obtain ⟨x, ic, r, names, ⟨d1, d2, d3, d4⟩, ⟨hr, hr0⟩, ⟨l1, l2, l3⟩, ⟨f1, f2, f3⟩, hat⟩ := hth pc ec hthr
  obtain ⟨⟨hx, hb, hml, hown, hlk, hini⟩, ⟨hts, hK, hcl, hpl⟩, -, -, ⟨hB, hRc, hRs, hlcb⟩, -⟩ := F
  have hex := hex ⟨pc, ec, hthr⟩
  intro ls H locs h1 h0 h2 h3 h4 h5
  dsimp only at h1 h0 h2 h3 h4 h5 ⊢
  have h40 : S0.1 ≤ S.1 := h4.1
  have h50 : S0.2.1 ≤ S.2.1 := h5
  refine mm_sz fun hsz => ?_
  have hszge : B + S.1 ≤ H.size := by
    rcases Nat.eq_zero_or_pos S.1 with h | h
    · have := h3.1
      omega
    · have hl := (h2 (S.1 - 1) _ (mm_ws_at (φ := mm_phi B ex) (tys := tys) (S := S) (k := S.1 - 1) (by omega))).lt
      have hl' : mm_phi B ex (S.1 - 1) < H.size := hl
      rw [mm_phi_lt (by omega)] at hl'
      omega
  have hH : H.size = mm_phi B ex S.1 := by rw [mm_phi_lt (by omega)]; omega
  have hfc : s.vm.findClass r.1 = some (D.1 ec) := (hK.1 _ _ hr).2.1
  refine W.newcK (h := mm_phi B ex S.1) hx hb hown (hts _ l1) (hts _ l2) (hts _ l3) rfl d1 (by rw [hRc]; omega) (by rw [hRs]; omega) hfc hH (fun H' kC hkC hcell hsz' hold => ?_)
  refine lv_dup hx hb d2 rfl ?_
  intro T hT X
  have hlsz : ls.size = c.maxLocals := by rw [hml]; exact h1.1
  subst hT
  have hold2 : ∀ q, q < mm_phi B ex S.1 → T.heap[q]? = H[q]? := hold
  have hwords : ∀ w ∈ Bundle.ownAtoms0 (own f) ic r.1 names, w.before args s = true := by
    intro w hw
    rcases hat w hw with h | h
    · exact hts _ h
    · exact hz w h
  have hB1 : mm_phi B ex S.1 = B + S.1 := mm_phi_lt (by omega)
  have hlo : ∀ y ∈ locs, ∀ cell, s.heap[y.base]? = some cell → cell.vm.isStatics = false := by
    intro y hy cell hcy
    have key : ∀ yb : Nat, yb = y.base → B ≤ yb → yb < s.heap.size → cell.vm = .none := by
      intro yb hyb hyB hys
      obtain ⟨c', e1, e2, -⟩ := X.same.2.2.2.2.2 y.base cell hcy
      have e1 : T.heap[yb]? = some c' := by rw [hyb]; exact e1
      rw [hold2 _ (by omega)] at e1
      have hk : yb - B < S.1 := by omega
      have hph : mm_phi B ex (yb - B) = yb := by rw [mm_phi_lt (by omega)]; omega
      have hvm := mm_ws_vm h2 hk (by rw [hph]; exact e1)
      rw [e2] at hvm
      exact hvm
    rw [key y.base rfl (h3.2.2 y hy) (Array.getElem?_eq_some_iff.mp hcy).1]
    rfl
  have hmr := lv_room (m := m) (pc := pc) (ls := ls) (rest := st.map (mm_tv (mm_phi B ex))) (st := st.map (mm_tv (mm_phi B ex))) (by rw [mm_sum_tv]; exact hsum)
  obtain ⟨U, hst, hrun, hend, hWU, hsame, hszU, hoth, ce, hce, hcls, hvmc⟩ := mm_ctor0 (names := names) (ic := ic) (own := own f) (cls := r.1) (a := mm_phi B ex S.1) (rest := st.map (mm_tv (mm_phi B ex))) (g := F0 m (pc + 3 + 1) ls (Value.ref (mm_phi B ex S.1) :: Value.ref (mm_phi B ex S.1) :: st.map (mm_tv (mm_phi B ex)))) X hx (hoff X.admits) hown f1 f2 hwords hlo hfc hkC hcell (by omega) rfl hlsz rfl rfl rfl
    (by rw [hb]; exact d3) (by rw [hb]; exact d4) (fun y hy => by rw [hex] at hy; cases hy) (by show names.length + 3 < d + 1 + 8; omega) (by
      show 2 * JFrame.monitorRoom _ + _ + _ ≤ (d + 1) * 60 + 200
      simp only [List.map_cons, List.sum_cons]
      have h7 : (Value.ref (mm_phi B ex S.1)).category = 1 := rfl
      rw [h7]
      have h9 : ((st.map (mm_tv (mm_phi B ex))).map fun v => v.category).sum ≤ 8 := by rw [mm_sum_tv]; exact hsum
      omega) hlk
  have hS' : va_P D cl (mm_ws (mm_phi B ex) tys (mm_add S 6 (.inr (ec, [])))) U.heap := by
    intro k q hq
    have hkl : k < S.1 + 1 := by
      have := (List.getElem?_eq_some_iff.mp hq).1
      rwa [mm_ws_len] at this
    rw [mm_ws_at (S := mm_add S 6 (.inr (ec, []))) hkl] at hq
    cases hq
    rcases Nat.lt_or_ge k S.1 with hk | hk
    · have hne : k ≠ S.1 := by omega
      have e1 : (mm_add S 6 (.inr (ec, []))).2.2 k = S.2.2 k := by simp [mm_add, va_up, hne]
      rw [e1]
      have hat2 := h2 k _ (mm_ws_at (φ := mm_phi B ex) (tys := tys) hk)
      refine hat2.kept ?_
      show U.heap[mm_phi B ex k]? = H[mm_phi B ex k]?
      have n1 : mm_phi B ex k ≠ mm_phi B ex S.1 := by
        rw [hB1, mm_phi_lt (by omega)]
        intro h
        exact hne (Nat.add_left_cancel h)
      have n2 : mm_phi B ex k < mm_phi B ex S.1 := by
        rw [hB1, mm_phi_lt (by omega)]
        exact Nat.add_lt_add_left hk B
      rw [hoth _ n1, hold2 _ n2]
    · have hk : k = S.1 := by omega
      subst hk
      have e1 : (mm_add S 6 (.inr (ec, []))).2.2 S.1 = .inr (ec, []) := by simp [mm_add, va_up]
      rw [e1]
      exact ⟨r, hr, ce, hce, hcls, hvmc, fun k hk => by rw [hr0] at hk; omega⟩
  have g1 : S.1 - S0.1 + 1 = S.1 + 1 - S0.1 := by omega
  have g2 : S.2.1 - S0.2.1 + 6 = S.2.1 + 6 - S0.2.1 := by omega
  rw [g1, g2] at hsame
  refine ⟨U, hst, .inr (ec, S.1), mm_add S 6 (.inr (ec, [])), hQ, hrun, hend, hWU, hS', ⟨by show S0.1 ≤ S.1 + 1; omega, by show S.1 + 1 ≤ mm_big; omega⟩, by show S0.2.1 ≤ S.2.1 + 6; omega, fun q hq => ?_, locs, hsame, h3.2.2⟩
  have n1 : q ≠ mm_phi B ex S.1 := by
    intro h
    rw [h, hB1] at hq
    exact absurd hq (by omega)
  rw [hoth _ n1, hold2 _ (by rw [hB1]; exact Nat.lt_of_lt_of_le hq (Nat.le_add_right _ _))]
  exact h3.2.1 q (by omega) (by show ¬ B ≤ q; omega)
end MT16
end
section
/-! an exception caught: rows of the table are passed or take it, their classes being linked on the way -/
section MK17
variable {e : Env} {s0 S : State} {f : JFrame} {a : Addr} {cell : Cell}
/-- the row is passed: it doesn't cover the place, or its class doesn't take the thrown one's -/
def mk_no (pl : Platform) (s0 : State) (d : ClassId) (pc : Nat) (th : ClassId) (y : ExceptionTableEntry) : Prop := covers y pc = false ∨ (y.catchType ≠ 0 ∧ ∃ c, s0.vm.ClassLinks pl d y.catchType c ∧ s0.vm.assignable th c = false)
/-- the row takes it -/
def mk_yes (pl : Platform) (s0 : State) (d : ClassId) (th : ClassId) (x : ExceptionTableEntry) : Prop := x.catchType ≠ 0 ∧ ∃ c, s0.vm.ClassLinks pl d x.catchType c ∧ s0.vm.assignable th c = true
theorem mk_link {Q : Handler → Pre} {E : CtlPost} {b : Bool} {acts : List Action} {x : ExceptionTableEntry} {t : List ExceptionTableEntry} {c : ClassId} (hx : covers x f.pc = true) (h0 : x.catchType ≠ 0) (hl : S.vm.ClassLinks e.platform f.method.cls x.catchType c) (hcell : S.heap[a]? = some cell) (hobj : ∀ k, cell.vm ≠ .statics k)
    (hk : ∃ k, S.vm.classes[cell.cls]? = some k) (hc : ∃ k, S.vm.classes[c]? = some k) :
    wp (findHandler.go f a (x :: t)) Q E e b acts S ↔ if S.vm.assignable cell.cls c = true then Q (.found x.handlerPc) b acts (S.setVm (S.vm.noted f.method.cls x.catchType (.cls c))) else wp (findHandler.go f a t) Q E e b acts (S.setVm (S.vm.noted f.method.cls x.catchType (.cls c))) := by
  simp only [covers] at hx
  obtain ⟨r1, r2⟩ := (resolveClass_links e.toSetting hl).op (op := VmOp.resolveClass f.method.cls x.catchType) rfl
  have hal : S.vm.Alike (S.vm.noted f.method.cls x.catchType (.cls c)) := (Vm.Alike.refl S.vm).noted _ _ _
  obtain ⟨k1, hk1⟩ := hk
  obtain ⟨k2, hk2⟩ := hc
  obtain ⟨k1', hk1', -⟩ := hal.2.2 _ _ hk1
  obtain ⟨k2', hk2', -⟩ := hal.2.2 _ _ hk2
  have e1 : (S.vm.noted f.method.cls x.catchType (.cls c)).assignable cell.cls c = S.vm.assignable cell.cls c := hal.assignable _ _
  cases hq : S.vm.assignable cell.cls c with
  | true => simp [findHandler.go, hx, h0, r1, r2, hcell, hobj, hk1', hk2', e1, hq, VmOp.dirties, VmOp.acts]
  | false => simp [findHandler.go, hx, h0, r1, r2, hcell, hobj, hk1', hk2', e1, hq, VmOp.dirties, VmOp.acts]
theorem mk_go (hobj : ∀ k, cell.vm ≠ .statics k) (hk0 : ∃ k, s0.vm.classes[cell.cls]? = some k) (x : ExceptionTableEntry) (rest : List ExceptionTableEntry) (hx : covers x f.pc = true) (hy : mk_yes e.platform s0 f.method.cls cell.cls x) :
    ∀ (pre : List ExceptionTableEntry) (S : State), s0.WarmedH S.vm → S.heap[a]? = some cell → (∀ y ∈ pre, mk_no e.platform s0 f.method.cls f.pc cell.cls y) →
      ∃ vm', s0.WarmedH vm' ∧ ∀ (Q : Handler → Pre) (E : CtlPost) (b : Bool) (acts : List Action), wp (findHandler.go f a (pre ++ x :: rest)) Q E e b acts S ↔ Q (.found x.handlerPc) b acts (S.setVm vm') := by
  obtain ⟨k0, hk0⟩ := hk0
  intro pre
  induction pre with
  | nil =>
    intro S hW hcell _
    obtain ⟨k0', hk0', -⟩ := hW.alike.2.2 _ _ hk0
    obtain ⟨h0, c, hl, hfit⟩ := hy
    obtain ⟨dk, _, _, kt, hd, _, _, _, _, hkt, _, hopen⟩ := hl.here
    obtain ⟨kt', hkt', -⟩ := hW.alike.2.2 _ _ hkt
    refine ⟨_, hW.noted hd hopen (State.rightAt_cls hl), fun Q E b acts => ?_⟩
    rw [List.nil_append, mk_link hx h0 (hW.classLinks hl) hcell hobj ⟨k0', hk0'⟩ ⟨kt', hkt'⟩, hW.alike.assignable, if_pos hfit]
  | cons y ys ih =>
    intro S hW hcell hpass
    obtain ⟨k0', hk0', -⟩ := hW.alike.2.2 _ _ hk0
    have hrest : ∀ z ∈ ys, mk_no e.platform s0 f.method.cls f.pc cell.cls z := fun z hz => hpass z (List.mem_cons_of_mem _ hz)
    cases hcov : covers y f.pc with
    | true =>
      rcases hpass y List.mem_cons_self with h | ⟨h0, c, hl, hno⟩
      · rw [h] at hcov; cases hcov
      · obtain ⟨dk, _, _, kt, hd, _, _, _, _, hkt, _, hopen⟩ := hl.here
        obtain ⟨kt', hkt', -⟩ := hW.alike.2.2 _ _ hkt
        obtain ⟨vm', hW', hq⟩ := ih (S.setVm (S.vm.noted f.method.cls y.catchType (.cls c))) (hW.noted hd hopen (State.rightAt_cls hl)) hcell hrest
        refine ⟨vm', hW', fun Q E b acts => ?_⟩
        rw [List.cons_append, mk_link hcov h0 (hW.classLinks hl) hcell hobj ⟨k0', hk0'⟩ ⟨kt', hkt'⟩, hW.alike.assignable, if_neg (by rw [hno]; decide)]
        exact hq Q E b acts
    | false =>
      obtain ⟨vm', hW', hq⟩ := ih S hW hcell hrest
      refine ⟨vm', hW', fun Q E b acts => ?_⟩
      rw [List.cons_append, W.findHandler_go_skip hcov]
      exact hq Q E b acts
theorem mk_step {r : List Frame} {pc : Nat} {vm' : Vm} (hfind : ∀ (Q : Handler → Pre) (E : CtlPost) (b : Bool) (acts : List Action), wp (findHandler f a) Q E e b acts S ↔ Q (.found pc) b acts (S.setVm vm')) :
    (stepThrowing e S a (.java f :: r)).Is ((S.setVm vm').setFrames (.java { f with pc := pc, stack := [.ref a] } :: r)) [] := by
  simp only [stepThrowing, searchFrame, vmDo]
  generalize hr : Sem.go _ e false [] S = res
  obtain ⟨as, rfl, ha⟩ := Sem.eq_ok_of hr (a := Handler.found pc) (s' := S.setVm vm') (acts' := []) (by simp [hfind _ _ _ _])
  exact ⟨rfl, ha⟩
variable {p : Program} {l : Launch} {R : Room} {s : State} {m : MethodId} {args : Array Value} {below : List Frame} {meth : Method} {c : Code} {T : State} {locs : List Loc} {cells slots : Nat}
theorem mk_caught (X : Stand p l e R s m args below meth c T locs cells slots) {g : JFrame} (hg : g.method = m) (hcell : T.heap[a]? = some cell) (hobj : ∀ k, cell.vm ≠ .statics k) (hk0 : ∃ k, s.vm.classes[cell.cls]? = some k)
    (pre : List ExceptionTableEntry) (x : ExceptionTableEntry) (rest : List ExceptionTableEntry) (hsplit : c.exceptionTable.toList = pre ++ x :: rest) (hpass : ∀ y ∈ pre, mk_no e.platform s m.cls g.pc cell.cls y) (hx : covers x g.pc = true) (hend : mk_yes e.platform s m.cls cell.cls x) :
    ∃ vm', Stand p l e R s m args below meth c (T.setVm vm') locs cells slots ∧ ∀ tg, Steps p.tables e below ((T.setVm vm').setTop { g with pc := x.handlerPc, stack := [.ref a] }) tg → Steps p.tables e below ((T.setTop g).pushFrame (.throwing a)) tg := by
  subst hg
  have hh : ((T.setTop g).pushFrame (.throwing a)).heap[a]? = some cell := by rw [Stand.throwing_heap]; exact hcell
  have hv : s.WarmedH ((T.setTop g).pushFrame (.throwing a)).vm := by rw [Stand.throwing_vm]; exact X.warmed
  have hm : ((T.setTop g).pushFrame (.throwing a)).vm.method? g.method = some meth := by rw [Stand.throwing_vm]; exact X.method'
  obtain ⟨vm', hW', hq⟩ := mk_go (e := e) (s0 := s) (f := g) (a := a) hobj hk0 x rest hx hend pre _ hv hh hpass
  refine ⟨vm', X.noted hW', fun tg hrest => ?_⟩
  have hfind : ∀ (Q : Handler → Pre) (E : CtlPost) (b : Bool) (acts : List Action), wp (findHandler g a) Q E e b acts ((T.setTop g).pushFrame (.throwing a)) ↔ Q (.found x.handlerPc) b acts (((T.setTop g).pushFrame (.throwing a)).setVm vm') := fun Q E b acts => by
    rw [W.findHandler_eq hm X.code, hsplit]
    exact hq Q E b acts
  have h := X.here
  obtain ⟨hgo, hw⟩ := h.throwing a
  refine Steps.head hgo hw ?_
  rw [stepThread_throwing (frames_entered h.top _), (mk_step (S := (T.setTop g).pushFrame (.throwing a)) hfind).1]
  obtain ⟨g₀, hg0⟩ := Option.isSome_iff_exists.mp h.top
  obtain ⟨r, hr⟩ := State.topJava?_eq_some.mp hg0
  have hr' : (T.setVm vm').frames = .java g₀ :: r := hr
  rw [State.setTop_of_frames _ hr'] at hrest
  have hsf : ∀ (u : State) (F1 F2 : List Frame), ((u.setFrames F1).setVm vm').setFrames F2 = (u.setVm vm').setFrames F2 := by
    intro u F1 F2
    have h1 : (u.setFrames F1).setVm vm' = (u.setVm vm').setFrames F1 := rfl
    rw [h1, State.setFrames_setFrames]
  rw [hr, List.tail_cons, State.pushFrame, hsf, State.setTop_of_frames _ hr, hsf]
  exact hrest
end MK17
section MK17b
variable {p : Program} {l : Launch} {e : Env} {R : Room} {s : State} {m : MethodId} {args : Array Value} {below : List Frame} {meth : Method} {c : Code}
variable {cc : Nat → ByteArray} {hh : Nat → List (Nat × Nat × Nat × Nat)} {G : mm_G} {TT : mm_T} {D : va_G} {cl : List vw_C} {tys : List (ClassId × FieldType)} {B : Nat} {ex : Nat → Nat} {Ts : List Jvm.Cond} {S0 : mm_S} {aT : List FieldType} {own : Nat → String} {scr : Nat × (Nat → Int32)}
def mk_cov (y : Nat × Nat × Nat × Nat) (pc : Nat) : Bool := covers { startPc := y.1, endPc := y.2.1, handlerPc := y.2.2.1, catchType := y.2.2.2 } pc
/-- what the program's data must say where a method catches: no row covers the place; or the first row that takes the class, behind rows that don't -/
def mm_ctOK (Ts : List Jvm.Cond) (cl : List vw_C) (NC : String → String → Prop) (G : mm_G) (hh : Nat → List (Nat × Nat × Nat × Nat)) (own : Nat → String) (f : Nat) : Prop :=
  (∀ pc ec, mm_hnd G f pc ec = some none → ∀ y ∈ hh f, mk_cov y pc = false) ∧
  ∀ pc ec h, mm_hnd G f pc ec = some (some h) → ∃ (pre : List (Nat × Nat × Nat × Nat)) (y : Nat × Nat × Nat × Nat) (post : List (Nat × Nat × Nat × Nat)) (r : vw_C), hh f = pre ++ y :: post ∧ cl[ec]? = some r ∧ (mk_cov y pc = true ∧ y.2.2.1 = h ∧ y.2.2.2 ≠ 0 ∧ ∃ nm, Jvm.Cond.classLink (own f) y.2.2.2 nm ∈ Ts ∧ Jvm.Cond.castable r.1 nm ∈ Ts) ∧
    ∀ z ∈ pre, mk_cov z pc = false ∨ (z.2.2.2 ≠ 0 ∧ ∃ nm, Jvm.Cond.classLink (own f) z.2.2.2 nm ∈ Ts ∧ NC r.1 nm)
set_option maxHeartbeats 4000000 in
theorem mm_cat_sound {f : Nat} {NC : String → String → Prop} (F : mm_Fix p R s m args meth c D cl tys B ex S0 (mm_nl G f) (cc f) Ts aT TT (own f) (mm_oc G f) (mm_pool G f) (mm_ini G f) scr) (hct : mm_ctOK Ts cl NC G hh own f) (hNC : ∀ x y, NC x y → va_Nc x y s)
    (htab : c.exceptionTable.toList.map (fun h => (h.startPc, h.endPc, h.handlerPc, h.catchType)) = hh f) (hpl : l.admits e → e.platform.magicAccessors = ({} : Platform).magicAccessors) : mm_Cat p l e R s m args below meth c G D cl f := by
  obtain ⟨⟨hx, hb, hml, hown, hlk, hini⟩, ⟨hts, hK, hcl, hplo⟩, -⟩ := F
  refine ⟨fun pc ec hn x hxm => ?_, fun T locs cells slots pc ec h a g hn X hg hpc hat => ?_⟩
  · have := hct.1 pc ec hn (x.startPc, x.endPc, x.handlerPc, x.catchType) (by rw [← htab]; exact List.mem_map.mpr ⟨x, hxm, rfl⟩)
    exact this
  · obtain ⟨pre, y, post, r, hsp, hr, ⟨hy1, hy2, hy3, nm, hy4, hy5⟩, hpre⟩ := hct.2 pc ec h hn
    obtain ⟨vs, r2, hr2, cell, q1, q2, q3, -⟩ := hat
    cases hr.symm.trans hr2
    have q1 : T.heap[a]? = some cell := q1
    rw [hsp] at htab
    obtain ⟨tp, t2, e1, e2, e3⟩ := List.map_eq_append_iff.mp htab
    obtain ⟨x, tq, e4, e5, e6⟩ := List.map_eq_cons_iff.mp e3
    have hfc : s.vm.findClass r.1 = some (D.1 ec) := (hK.1 _ _ hr).2.1
    have hpl' := hpl X.admits
    have hlinks : ∀ (t : Nat) (nm : String), Jvm.Cond.classLink (own f) t nm ∈ Ts → ∃ c', s.vm.findClass nm = some c' ∧ s.vm.ClassLinks e.platform m.cls t c' := by
      intro t nm ht
      obtain ⟨c', hc', hl⟩ := Cond.classLink_spec hown (hts _ ht) e.platform hpl'
      exact ⟨c', hc', hl⟩
    obtain ⟨c', hc', hl'⟩ := hlinks _ _ hy4
    obtain ⟨k1, k2, hk1, hk2, hasg⟩ := Cond.castable_spec (hts _ hy5)
    cases hfc.symm.trans hk1
    cases hc'.symm.trans hk2
    have hxe : (x.startPc, x.endPc, x.handlerPc, x.catchType) = y := e5
    have hxc : x.catchType = y.2.2.2 := by rw [← hxe]
    have hxh : x.handlerPc = h := by rw [← hy2, ← hxe]
    obtain ⟨hSK, hcf, kC, hkC, -⟩ := hK.1 _ _ hr
    have := mk_caught (a := a) (cell := cell) X hg q1 (fun k hk => by rw [q3] at hk; cases hk) ⟨kC, by rw [q2]; exact hkC⟩ tp x tq (by rw [e1, e4]) (fun z hz => ?_) (by
      have : mk_cov (x.startPc, x.endPc, x.handlerPc, x.catchType) pc = true := by rw [hxe]; exact hy1
      rw [hpc]
      exact this) ⟨by rw [hxc]; exact hy3, c', by rw [hxc]; exact hl', by rw [q2]; exact hasg⟩
    · rw [hxh] at this
      exact this
    · have hzm : (z.startPc, z.endPc, z.handlerPc, z.catchType) ∈ pre := by rw [← e2]; exact List.mem_map.mpr ⟨z, hz, rfl⟩
      rcases hpre _ hzm with h1 | ⟨h1, nm2, h2, h3⟩
      · exact Or.inl (by rw [hpc]; exact h1)
      · obtain ⟨c2, hc2, hl2⟩ := hlinks _ _ h2
        obtain ⟨u1, u2, hu1, hu2, hu3⟩ := hNC _ _ h3
        cases hfc.symm.trans hu1
        cases hc2.symm.trans hu2
        exact Or.inr ⟨h1, c2, hl2, by rw [q2]; exact hu3⟩
end MK17b
end
section
/-! the program's data, checked by places in the tables of words -/
def pg_gd (w : Jvm.Cond) : Bool := w.onTables && (w.keepsH || w.faceAtom)
def pg_Ts : List Jvm.Cond := lw_tbl.filter pg_gd
def pg_has (i : Nat) (w : Jvm.Cond) : Bool := decide (lw_tbl[i]? = some w) && pg_gd w
theorem pg_has_in {i : Nat} {w : Jvm.Cond} (h : pg_has i w = true) : w ∈ pg_Ts := by
  unfold pg_has at h
  rw [Bool.and_eq_true, decide_eq_true_eq] at h
  exact List.mem_filter.mpr ⟨List.mem_of_getElem? h.1, h.2⟩
theorem pg_look {α : Type} {x : Nat} {b : α} : ∀ {l : List (Nat × α)}, l.lookup x = some b → (x, b) ∈ l := by
  intro l
  induction l with
  | nil => intro h; cases h
  | cons q l ih =>
    intro h
    obtain ⟨y, c⟩ := q
    rw [List.lookup_cons] at h
    by_cases he : x = y
    · subst he
      simp at h
      subst h
      exact List.mem_cons_self
    · have : (x == y) = false := by simpa using he
      rw [this] at h
      exact List.mem_cons_of_mem _ (ih h)
abbrev pg_Row : Type := Nat × (mm_P × Nat × String)
/-- tables of places: of a class its name, 'instantiable', 'initialized'; of a method its code, 'initialized', 'static' or 'instanceMethod', 'selects' -/
abbrev pg_Wc : Type := Nat → String × Nat × Nat
abbrev pg_Wm : Type := Nat → Nat × Nat × Nat × Nat
def pg_row (cl : List vw_C) (aT : List FieldType) (T : mm_T) (yn : Nat → MethodName) (wc : pg_Wc) (own : String) (oc : Nat) (q : pg_Row) : Bool := match q.2.1 with
  | .inl (ci, k) => match cl[ci]? with
    | some r => decide (k < r.2.2) && (if q.2.2.2 = "" then pg_has q.2.2.1 (.fieldLink own q.1 (r.2.1 k).1 (r.2.1 k).2.1 (r.2.1 k).2.2.1) else decide (ci ≠ oc) && pg_has q.2.2.1 (.fieldLinkNest own q.1 (r.2.1 k).1 (r.2.1 k).2.1 (r.2.1 k).2.2.1 q.2.2.2)) && (decide (ci ≠ oc) || decide ((r.2.1 k).1 = own))
    | none => false
  | .inr (.inl 0) => pg_has q.2.2.1 (.methodLink own q.1 Lib.objectInit)
  | .inr (.inl (g + 1)) => if q.2.2.2 = "" then pg_has q.2.2.1 (.methodLink own q.1 (yn (g + 1))) else pg_has q.2.2.1 (.methodLinkNest own q.1 (yn (g + 1)) q.2.2.2)
  | .inr (.inr (.inl ci)) => pg_has q.2.2.1 (.classLink own q.1 (wc ci).1) && (match cl[ci]? with
    | some r => decide (r.1 = (wc ci).1) && pg_has (wc ci).2.1 (.instantiable (wc ci).1 r.2.2) && pg_has (wc ci).2.2 (.initialized (wc ci).1)
    | none => true) && (!(decide (3 ≤ mm_ka T ci) && decide (mm_ka T ci < mm_nk T)) || decide (aT[mm_ka T ci]? = some (.object (wc ci).1)))
  | .inr (.inr (.inr (.inl v))) => pg_has q.2.2.1 (.constant own q.1 v)
  | .inr (.inr (.inr (.inr (.inl v)))) => pg_has q.2.2.1 (.constantLong own q.1 v)
  | .inr (.inr (.inr (.inr (.inr _)))) => true
def pg_pool (pl : List pg_Row) (x : Nat) : Option mm_P := (pl.lookup x).map Prod.fst
theorem pg_pool_in {pl : List pg_Row} {x : Nat} {e : mm_P} (h : pg_pool pl x = some e) : ∃ w, (x, e, w) ∈ pl := by
  unfold pg_pool at h
  cases hq : pl.lookup x with
  | none => rw [hq] at h; cases h
  | some b =>
    rw [hq] at h
    obtain ⟨e', w⟩ := b
    cases h
    exact ⟨w, pg_look hq⟩
set_option maxHeartbeats 1000000 in
theorem pg_pl {cl : List vw_C} {aT : List FieldType} {T : mm_T} {yn : Nat → MethodName} {wc : pg_Wc} {own : String} {oc : Nat} {pl : List pg_Row} (h : pl.all (pg_row cl aT T yn wc own oc) = true) : mm_plOK pg_Ts cl aT T own oc (pg_pool pl) := by
  have key : ∀ {x e}, pg_pool pl x = some e → ∃ w, pg_row cl aT T yn wc own oc (x, e, w) = true := by
    intro x e hq
    obtain ⟨w, hw⟩ := pg_pool_in hq
    exact ⟨w, List.all_eq_true.mp h _ hw⟩
  refine ⟨fun x ci k hq => ?_, fun x ci hq => ?_, fun x v hq => ?_, fun x v hq => ?_⟩
  · obtain ⟨w, hr⟩ := key hq
    unfold pg_row at hr
    dsimp only at hr
    cases hc : cl[ci]? with
    | none => rw [hc] at hr; cases hr
    | some r =>
      rw [hc] at hr
      dsimp only at hr
      rw [Bool.and_eq_true, Bool.and_eq_true, decide_eq_true_eq] at hr
      obtain ⟨⟨h1, h2⟩, h3⟩ := hr
      refine ⟨r, rfl, h1, ?_, fun e => ?_⟩
      · split at h2
        · exact Or.inl (pg_has_in h2)
        · rw [Bool.and_eq_true, decide_eq_true_eq] at h2
          exact Or.inr ⟨h2.1, _, pg_has_in h2.2⟩
      · rw [Bool.or_eq_true, decide_eq_true_eq, decide_eq_true_eq] at h3
        rcases h3 with h3 | h3
        · exact absurd e h3
        · exact h3
  · obtain ⟨w, hr⟩ := key hq
    unfold pg_row at hr
    dsimp only at hr
    rw [Bool.and_eq_true, Bool.and_eq_true] at hr
    obtain ⟨⟨h1, h2⟩, h3⟩ := hr
    refine ⟨(wc ci).1, pg_has_in h1, fun r hc => ?_, fun a b => ?_⟩
    · rw [hc] at h2
      dsimp only at h2
      rw [Bool.and_eq_true, Bool.and_eq_true, decide_eq_true_eq] at h2
      exact ⟨h2.1.1, pg_has_in h2.1.2, pg_has_in h2.2⟩
    · rw [Bool.or_eq_true, decide_eq_true_eq] at h3
      rcases h3 with h3 | h3
      · simp [a, b] at h3
      · exact h3
  · obtain ⟨w, hr⟩ := key hq
    exact pg_has_in hr
  · obtain ⟨w, hr⟩ := key hq
    exact pg_has_in hr
/-- a method's own words -/
def pg_mok (cl : List vw_C) (G : mm_G) (yn : Nat → MethodName) (cc : Nat → ByteArray) (hh : Nat → List (Nat × Nat × Nat × Nat)) (wm : pg_Wm) (g : Nat) : Bool :=
  pg_has (wm g).1 (mm_cw yn cc hh G g) && pg_has (wm g).2.1 (.initialized (yn g).cls) && decide (mm_nl G g ≤ 40) && decide ((yn g).cls ≠ "java/lang/invoke/MethodHandle") && decide ((yn g).cls ≠ "java/lang/invoke/VarHandle") &&
    (if mm_stc G g = true then pg_has (wm g).2.2.1 (.static (yn g)) && decide ((parseMethodDescriptor (yn g).desc).map (fun d => d.parameters.length) = some (mm_na' G g))
     else decide (hh g = []) && pg_has (wm g).2.2.1 (.instanceMethod (yn g)) && decide ((parseMethodDescriptor (yn g).desc).map (fun d => d.parameters.length + 1) = some (mm_na' G g)) &&
       (if mm_ini G g = true then decide ((yn g).name = "<init>") && decide (mm_rt G g = none) else match cl[mm_oc G g]? with
         | some r => pg_has (wm g).2.2.2 (.selects r.1 (yn g) (yn g))
         | none => false))
set_option maxHeartbeats 1000000 in
theorem pg_mp {cl : List vw_C} {aT : List FieldType} {T : mm_T} {G : mm_G} {yn : Nat → MethodName} {cc : Nat → ByteArray} {hh : Nat → List (Nat × Nat × Nat × Nat)} {wc : pg_Wc} {wm : pg_Wm} {own : Nat → String} {oc f : Nat} {pl : List pg_Row}
    (hpl : mm_pool G f = pg_pool pl) (h : pl.all (pg_row cl aT T yn wc (own f) oc) = true) (ho : Jvm.Cond.instanceMethod Lib.objectInit ∈ pg_Ts ∧ Jvm.Cond.code Lib.objectInit ⟨#[0xb1]⟩ 1 none ∈ pg_Ts)
    (hm : ∀ g w x, (x, (.inr (.inl (g + 1)) : mm_P), w) ∈ pl → pg_mok cl G yn cc hh wm (g + 1) = true) : mm_mpOK pg_Ts G yn cc hh cl own f := by
  intro x g hq
  rw [hpl] at hq
  obtain ⟨w, hw⟩ := pg_pool_in hq
  have hr := List.all_eq_true.mp h _ hw
  cases g with
  | zero =>
    exact Or.inl ⟨rfl, pg_has_in hr, ho.1, ho.2⟩
  | succ g =>
    refine Or.inr ⟨Nat.succ_pos _, ?_, ?_⟩
    · unfold pg_row at hr
      dsimp only at hr
      split at hr
      · exact Or.inl (pg_has_in hr)
      · exact Or.inr ⟨_, pg_has_in hr⟩
    · have hk := hm g w x hw
      unfold pg_mok at hk
      simp only [Bool.and_eq_true, decide_eq_true_eq] at hk
      obtain ⟨⟨⟨⟨⟨h1, h2⟩, h3⟩, h4⟩, h5⟩, h6⟩ := hk
      refine ⟨pg_has_in h1, pg_has_in h2, h3, ⟨h4, h5⟩, fun hs => ?_, fun hs => ?_⟩
      · rw [if_pos hs] at h6
        rw [Bool.and_eq_true, decide_eq_true_eq] at h6
        exact ⟨pg_has_in h6.1, h6.2⟩
      · rw [if_neg (by rw [hs]; decide)] at h6
        simp only [Bool.and_eq_true, decide_eq_true_eq] at h6
        obtain ⟨⟨⟨a1, a2⟩, a3⟩, a4⟩ := h6
        refine ⟨a1, pg_has_in a2, a3, fun hi => ?_, fun hi => ?_⟩
        · rw [if_pos hi] at a4
          rw [Bool.and_eq_true, decide_eq_true_eq, decide_eq_true_eq] at a4
          exact a4
        · rw [if_neg (by rw [hi]; decide)] at a4
          cases hc : cl[mm_oc G (g + 1)]? with
          | none => rw [hc] at a4; cases a4
          | some r =>
            rw [hc] at a4
            exact ⟨r, rfl, pg_has_in a4⟩
/-- a row of code -/
def pg_sw : Instr → Bool
  | .tableswitch _ _ _ _ => true
  | _ => false
def pg_tg (pc tg : Nat) : Instr → Bool
  | .ifCond _ o => decide ((pc : Int) + o = (tg : Int))
  | .if_icmp _ o => decide ((pc : Int) + o = (tg : Int))
  | .goto o => decide ((pc : Int) + o = (tg : Int))
  | _ => true
def pg_ok (cc : ByteArray) (q : Nat × Instr × Nat × Nat) : Bool := decide (decode cc q.1 = .ok (q.2.1, q.2.2.1 - q.1)) && decide (q.1 < q.2.2.1) && (pg_sw q.2.1 || decide (q.2.2.1 - q.1 = mm_len q.2.1)) && pg_tg q.1 q.2.2.2 q.2.1
theorem pg_code_ok {cc : ByteArray} {l : List (Nat × Instr × Nat × Nat)} (h : l.all (pg_ok cc) = true) : ∀ pc i nx tg, l.lookup pc = some (i, nx, tg) → mm_ok cc pc i nx tg := by
  intro pc i nx tg hq
  have hk := List.all_eq_true.mp h _ (pg_look hq)
  unfold pg_ok at hk
  simp only [Bool.and_eq_true, decide_eq_true_eq, Bool.or_eq_true] at hk
  obtain ⟨⟨⟨h1, h2⟩, h3⟩, h4⟩ := hk
  refine ⟨⟨nx - pc, h1, by omega, fun hn => ?_⟩, ?_⟩
  · rcases h3 with h3 | h3
    · exfalso
      cases i <;> first | (cases h3; done) | exact hn _ _ _ _ rfl
    · exact h3
  · unfold mm_tgt
    unfold pg_tg at h4
    cases i <;> first | trivial | (dsimp only at h4 ⊢; exact of_decide_eq_true h4)
end
section
/-! the classes: names, fields in the order of the small machine, their types, a fresh object -/
def pgF_0 : u_T := fun k => match k with
  | 0 => ("MarkovDesk", "tokens", "LMarkovDesk$Tokens;", true)
  | 1 => ("MarkovDesk", "model", "LMarkovDesk$Model;", true)
  | 2 => ("MarkovDesk", "reader", "LMarkovDesk$Reader;", true)
  | 3 => ("MarkovDesk", "space", "LMarkovDesk$Space;", true)
  | 4 => ("MarkovDesk", "planner", "LMarkovDesk$Planner;", true)
  | 5 => ("MarkovDesk", "greatest", "LMarkovDesk$Answer;", true)
  | 6 => ("MarkovDesk", "smallest", "LMarkovDesk$Answer;", true)
  | 7 => ("MarkovDesk", "walk", "LMarkovDesk$Walk;", true)
  | 8 => ("MarkovDesk", "result", "LMarkovDesk$Ratio;", true)
  | 9 => ("MarkovDesk", "claimTop", "[LMarkovDesk$Nat;", true)
  | 10 => ("MarkovDesk", "claimBelow", "[LMarkovDesk$Nat;", true)
  | 11 => ("MarkovDesk", "left", "LMarkovDesk$Nat;", true)
  | _ => ("MarkovDesk", "right", "LMarkovDesk$Nat;", true)
def pgY_0 : Nat → FieldType := fun k => match k with
  | 0 => .object "MarkovDesk$Tokens"
  | 1 => .object "MarkovDesk$Model"
  | 2 => .object "MarkovDesk$Reader"
  | 3 => .object "MarkovDesk$Space"
  | 4 => .object "MarkovDesk$Planner"
  | 5 => .object "MarkovDesk$Answer"
  | 6 => .object "MarkovDesk$Answer"
  | 7 => .object "MarkovDesk$Walk"
  | 8 => .object "MarkovDesk$Ratio"
  | 9 => .array (.object "MarkovDesk$Nat")
  | 10 => .array (.object "MarkovDesk$Nat")
  | 11 => .object "MarkovDesk$Nat"
  | _ => .object "MarkovDesk$Nat"
def pgI_0 : Nat → Bool := fun k => match k with
  | 0 => true
  | 1 => true
  | 2 => true
  | 3 => true
  | 4 => true
  | 5 => true
  | 6 => true
  | 7 => true
  | 8 => true
  | 9 => true
  | 10 => true
  | 11 => true
  | _ => true
def pgD_0 : List Value := [.null, .null, .null, .null, .null, .null, .null, .null, .null, .null, .null, .null, .null]
def pgF_1 : u_T := fun k => match k with
  | 0 => ("MarkovDesk$Answer", "least", "Z", true)
  | 1 => ("MarkovDesk$Answer", "policy", "[I", true)
  | 2 => ("MarkovDesk$Answer", "open", "[Z", true)
  | 3 => ("MarkovDesk$Answer", "top", "[LMarkovDesk$Nat;", true)
  | 4 => ("MarkovDesk$Answer", "below", "LMarkovDesk$Nat;", true)
  | 5 => ("MarkovDesk$Answer", "policies", "I", false)
  | 6 => ("MarkovDesk$Answer", "found", "Z", false)
  | _ => ("MarkovDesk$Answer", "told", "Z", false)
def pgY_1 : Nat → FieldType := fun k => match k with
  | 0 => .boolean
  | 1 => .array .int
  | 2 => .array .boolean
  | 3 => .array (.object "MarkovDesk$Nat")
  | 4 => .object "MarkovDesk$Nat"
  | 5 => .int
  | 6 => .boolean
  | _ => .boolean
def pgI_1 : Nat → Bool := fun k => match k with
  | 0 => true
  | 1 => true
  | 2 => true
  | 3 => true
  | 4 => true
  | 5 => false
  | 6 => false
  | _ => false
def pgD_1 : List Value := [.int 0, .null, .null, .null, .null, .int 0, .int 0, .int 0]
def pgF_2 : u_T := fun k => match k with
  | 0 => ("MarkovDesk$Equations", "cells", "[LMarkovDesk$Nat;", true)
  | 1 => ("MarkovDesk$Equations", "solution", "[LMarkovDesk$Nat;", true)
  | 2 => ("MarkovDesk$Equations", "level", "[I", true)
  | 3 => ("MarkovDesk$Equations", "one", "LMarkovDesk$Nat;", true)
  | 4 => ("MarkovDesk$Equations", "nowhere", "LMarkovDesk$Nat;", true)
  | 5 => ("MarkovDesk$Equations", "wide", "LMarkovDesk$Nat;", true)
  | 6 => ("MarkovDesk$Equations", "away", "LMarkovDesk$Nat;", true)
  | _ => ("MarkovDesk$Equations", "many", "I", false)
def pgY_2 : Nat → FieldType := fun k => match k with
  | 0 => .array (.object "MarkovDesk$Nat")
  | 1 => .array (.object "MarkovDesk$Nat")
  | 2 => .array .int
  | 3 => .object "MarkovDesk$Nat"
  | 4 => .object "MarkovDesk$Nat"
  | 5 => .object "MarkovDesk$Nat"
  | 6 => .object "MarkovDesk$Nat"
  | _ => .int
def pgI_2 : Nat → Bool := fun k => match k with
  | 0 => true
  | 1 => true
  | 2 => true
  | 3 => true
  | 4 => true
  | 5 => true
  | 6 => true
  | _ => false
def pgD_2 : List Value := [.null, .null, .null, .null, .null, .null, .null, .int 0]
def pgF_3 : u_T := fun k => match k with
  | 0 => ("MarkovDesk$Machine", "op", "[I", true)
  | 1 => ("MarkovDesk$Machine", "with", "[I", true)
  | 2 => ("MarkovDesk$Machine", "stack", "[I", true)
  | 3 => ("MarkovDesk$Machine", "used", "I", false)
  | _ => ("MarkovDesk$Machine", "broken", "Z", false)
def pgY_3 : Nat → FieldType := fun k => match k with
  | 0 => .array .int
  | 1 => .array .int
  | 2 => .array .int
  | 3 => .int
  | _ => .boolean
def pgI_3 : Nat → Bool := fun k => match k with
  | 0 => true
  | 1 => true
  | 2 => true
  | 3 => false
  | _ => false
def pgD_3 : List Value := [.null, .null, .null, .int 0, .int 0]
def pgF_4 : u_T := fun k => match k with
  | 0 => ("MarkovDesk$Model", "ready", "Z", false)
  | 1 => ("MarkovDesk$Model", "modules", "I", false)
  | 2 => ("MarkovDesk$Model", "actions", "I", false)
  | 3 => ("MarkovDesk$Model", "target", "I", false)
  | 4 => ("MarkovDesk$Model", "variables", "I", false)
  | 5 => ("MarkovDesk$Model", "type", "[I", true)
  | 6 => ("MarkovDesk$Model", "low", "[I", true)
  | 7 => ("MarkovDesk$Model", "high", "[I", true)
  | 8 => ("MarkovDesk$Model", "begin", "[I", true)
  | 9 => ("MarkovDesk$Model", "commands", "I", false)
  | 10 => ("MarkovDesk$Model", "guard", "[I", true)
  | 11 => ("MarkovDesk$Model", "home", "[I", true)
  | 12 => ("MarkovDesk$Model", "action", "[I", true)
  | 13 => ("MarkovDesk$Model", "below", "[J", true)
  | 14 => ("MarkovDesk$Model", "firstUpdate", "[I", true)
  | 15 => ("MarkovDesk$Model", "updates", "I", false)
  | 16 => ("MarkovDesk$Model", "top", "[J", true)
  | 17 => ("MarkovDesk$Model", "firstStep", "[I", true)
  | 18 => ("MarkovDesk$Model", "steps", "I", false)
  | 19 => ("MarkovDesk$Model", "stepVariable", "[I", true)
  | _ => ("MarkovDesk$Model", "stepCode", "[I", true)
def pgY_4 : Nat → FieldType := fun k => match k with
  | 0 => .boolean
  | 1 => .int
  | 2 => .int
  | 3 => .int
  | 4 => .int
  | 5 => .array .int
  | 6 => .array .int
  | 7 => .array .int
  | 8 => .array .int
  | 9 => .int
  | 10 => .array .int
  | 11 => .array .int
  | 12 => .array .int
  | 13 => .array .long
  | 14 => .array .int
  | 15 => .int
  | 16 => .array .long
  | 17 => .array .int
  | 18 => .int
  | 19 => .array .int
  | _ => .array .int
def pgI_4 : Nat → Bool := fun k => match k with
  | 0 => false
  | 1 => false
  | 2 => false
  | 3 => false
  | 4 => false
  | 5 => true
  | 6 => true
  | 7 => true
  | 8 => true
  | 9 => false
  | 10 => true
  | 11 => true
  | 12 => true
  | 13 => true
  | 14 => true
  | 15 => false
  | 16 => true
  | 17 => true
  | 18 => false
  | 19 => true
  | _ => true
def pgD_4 : List Value := [.int 0, .int 0, .int 0, .int 0, .int 0, .null, .null, .null, .null, .int 0, .null, .null, .null, .null, .null, .int 0, .null, .null, .int 0, .null, .null]
def pgF_5 : u_T := fun k => match k with
  | 0 => ("MarkovDesk$Nat", "limb", "[I", true)
  | _ => ("MarkovDesk$Nat", "size", "I", false)
def pgY_5 : Nat → FieldType := fun k => match k with
  | 0 => .array .int
  | _ => .int
def pgI_5 : Nat → Bool := fun k => match k with
  | 0 => true
  | _ => false
def pgD_5 : List Value := [.null, .int 0]
def pgF_6 : u_T := fun k => match k with
  | 0 => ("MarkovDesk$Planner", "space", "LMarkovDesk$Space;", true)
  | 1 => ("MarkovDesk$Planner", "equations", "LMarkovDesk$Equations;", true)
  | 2 => ("MarkovDesk$Planner", "row", "[I", true)
  | 3 => ("MarkovDesk$Planner", "factor", "LMarkovDesk$Nat;", true)
  | 4 => ("MarkovDesk$Planner", "sum", "LMarkovDesk$Nat;", true)
  | 5 => ("MarkovDesk$Planner", "best", "LMarkovDesk$Nat;", true)
  | 6 => ("MarkovDesk$Planner", "left", "LMarkovDesk$Nat;", true)
  | _ => ("MarkovDesk$Planner", "right", "LMarkovDesk$Nat;", true)
def pgY_6 : Nat → FieldType := fun k => match k with
  | 0 => .object "MarkovDesk$Space"
  | 1 => .object "MarkovDesk$Equations"
  | 2 => .array .int
  | 3 => .object "MarkovDesk$Nat"
  | 4 => .object "MarkovDesk$Nat"
  | 5 => .object "MarkovDesk$Nat"
  | 6 => .object "MarkovDesk$Nat"
  | _ => .object "MarkovDesk$Nat"
def pgI_6 : Nat → Bool := fun k => match k with
  | 0 => true
  | 1 => true
  | 2 => true
  | 3 => true
  | 4 => true
  | 5 => true
  | 6 => true
  | _ => true
def pgD_6 : List Value := [.null, .null, .null, .null, .null, .null, .null, .null]
def pgF_7 : u_T := fun k => match k with
  | 0 => ("MarkovDesk$Ratio", "top", "LMarkovDesk$Nat;", true)
  | 1 => ("MarkovDesk$Ratio", "below", "LMarkovDesk$Nat;", true)
  | 2 => ("MarkovDesk$Ratio", "first", "LMarkovDesk$Nat;", true)
  | 3 => ("MarkovDesk$Ratio", "second", "LMarkovDesk$Nat;", true)
  | _ => ("MarkovDesk$Ratio", "quotient", "LMarkovDesk$Nat;", true)
def pgY_7 : Nat → FieldType := fun k => match k with
  | 0 => .object "MarkovDesk$Nat"
  | 1 => .object "MarkovDesk$Nat"
  | 2 => .object "MarkovDesk$Nat"
  | 3 => .object "MarkovDesk$Nat"
  | _ => .object "MarkovDesk$Nat"
def pgI_7 : Nat → Bool := fun k => match k with
  | 0 => true
  | 1 => true
  | 2 => true
  | 3 => true
  | _ => true
def pgD_7 : List Value := [.null, .null, .null, .null, .null]
def pgF_8 : u_T := fun k => match k with
  | 0 => ("MarkovDesk$Reader", "tokens", "LMarkovDesk$Tokens;", true)
  | 1 => ("MarkovDesk$Reader", "machine", "LMarkovDesk$Machine;", true)
  | 2 => ("MarkovDesk$Reader", "model", "LMarkovDesk$Model;", true)
  | 3 => ("MarkovDesk$Reader", "nameToken", "[I", true)
  | 4 => ("MarkovDesk$Reader", "nameRole", "[I", true)
  | 5 => ("MarkovDesk$Reader", "nameHolds", "[I", true)
  | 6 => ("MarkovDesk$Reader", "actionToken", "[I", true)
  | 7 => ("MarkovDesk$Reader", "waitKind", "[I", true)
  | 8 => ("MarkovDesk$Reader", "waitRank", "[I", true)
  | 9 => ("MarkovDesk$Reader", "waitPlace", "[I", true)
  | 10 => ("MarkovDesk$Reader", "waitType", "[I", true)
  | 11 => ("MarkovDesk$Reader", "waitJump", "[I", true)
  | 12 => ("MarkovDesk$Reader", "waiting", "I", false)
  | 13 => ("MarkovDesk$Reader", "nested", "I", false)
  | 14 => ("MarkovDesk$Reader", "type", "I", false)
  | 15 => ("MarkovDesk$Reader", "wantsOperand", "Z", false)
  | 16 => ("MarkovDesk$Reader", "variablesKnown", "Z", false)
  | 17 => ("MarkovDesk$Reader", "names", "I", false)
  | 18 => ("MarkovDesk$Reader", "ownFrom", "I", false)
  | 19 => ("MarkovDesk$Reader", "at", "I", false)
  | _ => ("MarkovDesk$Reader", "wrongAt", "I", false)
def pgY_8 : Nat → FieldType := fun k => match k with
  | 0 => .object "MarkovDesk$Tokens"
  | 1 => .object "MarkovDesk$Machine"
  | 2 => .object "MarkovDesk$Model"
  | 3 => .array .int
  | 4 => .array .int
  | 5 => .array .int
  | 6 => .array .int
  | 7 => .array .int
  | 8 => .array .int
  | 9 => .array .int
  | 10 => .array .int
  | 11 => .array .int
  | 12 => .int
  | 13 => .int
  | 14 => .int
  | 15 => .boolean
  | 16 => .boolean
  | 17 => .int
  | 18 => .int
  | 19 => .int
  | _ => .int
def pgI_8 : Nat → Bool := fun k => match k with
  | 0 => true
  | 1 => true
  | 2 => true
  | 3 => true
  | 4 => true
  | 5 => true
  | 6 => true
  | 7 => true
  | 8 => true
  | 9 => true
  | 10 => true
  | 11 => true
  | 12 => false
  | 13 => false
  | 14 => false
  | 15 => false
  | 16 => false
  | 17 => false
  | 18 => false
  | 19 => false
  | _ => false
def pgD_8 : List Value := [.null, .null, .null, .null, .null, .null, .null, .null, .null, .null, .null, .null, .int 0, .int 0, .int 0, .int 0, .int 0, .int 0, .int 0, .int 0, .int 0]
def pgF_9 : u_T := fun k => match k with
  | 0 => ("MarkovDesk$Space", "machine", "LMarkovDesk$Machine;", true)
  | 1 => ("MarkovDesk$Space", "model", "LMarkovDesk$Model;", true)
  | 2 => ("MarkovDesk$Space", "rows", "[I", true)
  | 3 => ("MarkovDesk$Space", "next", "[I", true)
  | 4 => ("MarkovDesk$Space", "target", "[Z", true)
  | 5 => ("MarkovDesk$Space", "firstChoice", "[I", true)
  | 6 => ("MarkovDesk$Space", "firstOutcome", "[I", true)
  | 7 => ("MarkovDesk$Space", "below", "[J", true)
  | 8 => ("MarkovDesk$Space", "reached", "[I", true)
  | 9 => ("MarkovDesk$Space", "top", "[J", true)
  | 10 => ("MarkovDesk$Space", "enabled", "[Z", true)
  | 11 => ("MarkovDesk$Space", "offer", "[I", true)
  | 12 => ("MarkovDesk$Space", "firstOffer", "[I", true)
  | 13 => ("MarkovDesk$Space", "taken", "[I", true)
  | 14 => ("MarkovDesk$Space", "parties", "I", false)
  | 15 => ("MarkovDesk$Space", "states", "I", false)
  | 16 => ("MarkovDesk$Space", "choices", "I", false)
  | 17 => ("MarkovDesk$Space", "outcomes", "I", false)
  | _ => ("MarkovDesk$Space", "ready", "Z", false)
def pgY_9 : Nat → FieldType := fun k => match k with
  | 0 => .object "MarkovDesk$Machine"
  | 1 => .object "MarkovDesk$Model"
  | 2 => .array .int
  | 3 => .array .int
  | 4 => .array .boolean
  | 5 => .array .int
  | 6 => .array .int
  | 7 => .array .long
  | 8 => .array .int
  | 9 => .array .long
  | 10 => .array .boolean
  | 11 => .array .int
  | 12 => .array .int
  | 13 => .array .int
  | 14 => .int
  | 15 => .int
  | 16 => .int
  | 17 => .int
  | _ => .boolean
def pgI_9 : Nat → Bool := fun k => match k with
  | 0 => true
  | 1 => true
  | 2 => true
  | 3 => true
  | 4 => true
  | 5 => true
  | 6 => true
  | 7 => true
  | 8 => true
  | 9 => true
  | 10 => true
  | 11 => true
  | 12 => true
  | 13 => true
  | 14 => false
  | 15 => false
  | 16 => false
  | 17 => false
  | _ => false
def pgD_9 : List Value := [.null, .null, .null, .null, .null, .null, .null, .null, .null, .null, .null, .null, .null, .null, .int 0, .int 0, .int 0, .int 0, .int 0]
def pgF_10 : u_T := fun k => match k with
  | 0 => ("MarkovDesk$Tokens", "octet", "[I", true)
  | 1 => ("MarkovDesk$Tokens", "kind", "[I", true)
  | 2 => ("MarkovDesk$Tokens", "place", "[I", true)
  | 3 => ("MarkovDesk$Tokens", "length", "[I", true)
  | 4 => ("MarkovDesk$Tokens", "number", "[I", true)
  | 5 => ("MarkovDesk$Tokens", "fed", "I", false)
  | 6 => ("MarkovDesk$Tokens", "textEnd", "I", false)
  | _ => ("MarkovDesk$Tokens", "made", "I", false)
def pgY_10 : Nat → FieldType := fun k => match k with
  | 0 => .array .int
  | 1 => .array .int
  | 2 => .array .int
  | 3 => .array .int
  | 4 => .array .int
  | 5 => .int
  | 6 => .int
  | _ => .int
def pgI_10 : Nat → Bool := fun k => match k with
  | 0 => true
  | 1 => true
  | 2 => true
  | 3 => true
  | 4 => true
  | 5 => false
  | 6 => false
  | _ => false
def pgD_10 : List Value := [.null, .null, .null, .null, .null, .int 0, .int 0, .int 0]
def pgF_11 : u_T := fun k => match k with
  | 0 => ("MarkovDesk$Walk", "space", "LMarkovDesk$Space;", true)
  | 1 => ("MarkovDesk$Walk", "mass", "[LMarkovDesk$Nat;", true)
  | 2 => ("MarkovDesk$Walk", "moved", "[LMarkovDesk$Nat;", true)
  | 3 => ("MarkovDesk$Walk", "below", "LMarkovDesk$Nat;", true)
  | 4 => ("MarkovDesk$Walk", "arrived", "LMarkovDesk$Nat;", true)
  | 5 => ("MarkovDesk$Walk", "portion", "LMarkovDesk$Nat;", true)
  | 6 => ("MarkovDesk$Walk", "common", "LMarkovDesk$Nat;", true)
  | 7 => ("MarkovDesk$Walk", "rest", "LMarkovDesk$Nat;", true)
  | 8 => ("MarkovDesk$Walk", "factor", "LMarkovDesk$Nat;", true)
  | _ => ("MarkovDesk$Walk", "quotient", "LMarkovDesk$Nat;", true)
def pgY_11 : Nat → FieldType := fun k => match k with
  | 0 => .object "MarkovDesk$Space"
  | 1 => .array (.object "MarkovDesk$Nat")
  | 2 => .array (.object "MarkovDesk$Nat")
  | 3 => .object "MarkovDesk$Nat"
  | 4 => .object "MarkovDesk$Nat"
  | 5 => .object "MarkovDesk$Nat"
  | 6 => .object "MarkovDesk$Nat"
  | 7 => .object "MarkovDesk$Nat"
  | 8 => .object "MarkovDesk$Nat"
  | _ => .object "MarkovDesk$Nat"
def pgI_11 : Nat → Bool := fun k => match k with
  | 0 => true
  | 1 => true
  | 2 => true
  | 3 => true
  | 4 => true
  | 5 => true
  | 6 => true
  | 7 => true
  | 8 => true
  | _ => true
def pgD_11 : List Value := [.null, .null, .null, .null, .null, .null, .null, .null, .null, .null]
def pgF_12 : u_T := fun k => match k with
  | 0 => ("MarkovDeskModel", "words", "[Ljava/lang/String;", true)
  | 1 => ("MarkovDeskModel", "signs", "[Ljava/lang/String;", true)
  | 2 => ("MarkovDeskModel", "err", "I", false)
  | 3 => ("MarkovDeskModel", "fed", "I", false)
  | 4 => ("MarkovDeskModel", "wrong", "I", false)
  | 5 => ("MarkovDeskModel", "letters", "I", false)
  | 6 => ("MarkovDeskModel", "there", "Z", false)
  | 7 => ("MarkovDeskModel", "octets", "[I", true)
  | 8 => ("MarkovDeskModel", "text", "[I", true)
  | 9 => ("MarkovDeskModel", "kind", "I", false)
  | 10 => ("MarkovDeskModel", "word", "I", false)
  | 11 => ("MarkovDeskModel", "from", "I", false)
  | 12 => ("MarkovDeskModel", "to", "I", false)
  | 13 => ("MarkovDeskModel", "tokens", "I", false)
  | 14 => ("MarkovDeskModel", "names", "I", false)
  | 15 => ("MarkovDeskModel", "vars", "I", false)
  | 16 => ("MarkovDeskModel", "modules", "I", false)
  | 17 => ("MarkovDeskModel", "commands", "I", false)
  | 18 => ("MarkovDeskModel", "actions", "I", false)
  | 19 => ("MarkovDeskModel", "nameFrom", "[I", true)
  | 20 => ("MarkovDeskModel", "nameSize", "[I", true)
  | 21 => ("MarkovDeskModel", "nameKind", "[I", true)
  | 22 => ("MarkovDeskModel", "nameValue", "[I", true)
  | 23 => ("MarkovDeskModel", "actionFrom", "[I", true)
  | 24 => ("MarkovDeskModel", "actionSize", "[I", true)
  | 25 => ("MarkovDeskModel", "varModule", "[I", true)
  | 26 => ("MarkovDeskModel", "low", "[I", true)
  | 27 => ("MarkovDeskModel", "high", "[I", true)
  | 28 => ("MarkovDeskModel", "first", "[I", true)
  | 29 => ("MarkovDeskModel", "commandModule", "[I", true)
  | 30 => ("MarkovDeskModel", "commandAction", "[I", true)
  | 31 => ("MarkovDeskModel", "guard", "[I", true)
  | 32 => ("MarkovDeskModel", "updates", "[I", true)
  | 33 => ("MarkovDeskModel", "over", "[I", true)
  | 34 => ("MarkovDeskModel", "under", "[I", true)
  | 35 => ("MarkovDeskModel", "setTo", "[I", true)
  | 36 => ("MarkovDeskModel", "isBool", "[Z", true)
  | 37 => ("MarkovDeskModel", "target", "I", false)
  | 38 => ("MarkovDeskModel", "phase", "I", false)
  | 39 => ("MarkovDeskModel", "code", "[I", true)
  | 40 => ("MarkovDeskModel", "codes", "I", false)
  | 41 => ("MarkovDeskModel", "deep", "I", false)
  | 42 => ("MarkovDeskModel", "bool", "Z", false)
  | 43 => ("MarkovDeskModel", "broken", "Z", false)
  | 44 => ("MarkovDeskModel", "stack", "[I", true)
  | 45 => ("MarkovDeskModel", "now", "[I", true)
  | 46 => ("MarkovDeskModel", "explored", "Z", false)
  | 47 => ("MarkovDeskModel", "states", "I", false)
  | 48 => ("MarkovDeskModel", "choices", "I", false)
  | 49 => ("MarkovDeskModel", "outcomes", "I", false)
  | 50 => ("MarkovDeskModel", "value", "[I", true)
  | 51 => ("MarkovDeskModel", "firstChoice", "[I", true)
  | 52 => ("MarkovDeskModel", "firstOutcome", "[I", true)
  | 53 => ("MarkovDeskModel", "goesTo", "[I", true)
  | 54 => ("MarkovDeskModel", "next", "[I", true)
  | 55 => ("MarkovDeskModel", "taken", "[I", true)
  | 56 => ("MarkovDeskModel", "step", "[I", true)
  | 57 => ("MarkovDeskModel", "chosen", "[I", true)
  | 58 => ("MarkovDeskModel", "isTarget", "[Z", true)
  | 59 => ("MarkovDeskModel", "holds", "[Z", true)
  | 60 => ("MarkovDeskModel", "above", "[I", true)
  | 61 => ("MarkovDeskModel", "below", "[I", true)
  | 62 => ("MarkovDeskModel", "problem", "I", false)
  | 63 => ("MarkovDeskModel", "product", "LMarkovDeskModel$Whole;", true)
  | 64 => ("MarkovDeskModel", "factor", "LMarkovDeskModel$Whole;", true)
  | 65 => ("MarkovDeskModel", "sumOver", "LMarkovDeskModel$Whole;", true)
  | 66 => ("MarkovDeskModel", "sumUnder", "LMarkovDeskModel$Whole;", true)
  | 67 => ("MarkovDeskModel", "extra", "LMarkovDeskModel$Whole;", true)
  | 68 => ("MarkovDeskModel", "left", "LMarkovDeskModel$Whole;", true)
  | 69 => ("MarkovDeskModel", "right", "LMarkovDeskModel$Whole;", true)
  | 70 => ("MarkovDeskModel", "part1", "LMarkovDeskModel$Whole;", true)
  | 71 => ("MarkovDeskModel", "part2", "LMarkovDeskModel$Whole;", true)
  | 72 => ("MarkovDeskModel", "part3", "LMarkovDeskModel$Whole;", true)
  | 73 => ("MarkovDeskModel", "solved", "[Z", true)
  | 74 => ("MarkovDeskModel", "known", "[Z", true)
  | 75 => ("MarkovDeskModel", "zero", "[Z", true)
  | 76 => ("MarkovDeskModel", "policy", "[I", true)
  | 77 => ("MarkovDeskModel", "looked", "[I", true)
  | 78 => ("MarkovDeskModel", "unknown", "[I", true)
  | 79 => ("MarkovDeskModel", "index", "[I", true)
  | 80 => ("MarkovDeskModel", "got", "[I", true)
  | 81 => ("MarkovDeskModel", "value0", "[LMarkovDeskModel$Whole;", true)
  | 82 => ("MarkovDeskModel", "det", "[LMarkovDeskModel$Whole;", true)
  | 83 => ("MarkovDeskModel", "w", "[LMarkovDeskModel$Whole;", true)
  | 84 => ("MarkovDeskModel", "toTarget", "[LMarkovDeskModel$Whole;", true)
  | 85 => ("MarkovDeskModel", "diagonal", "[LMarkovDeskModel$Whole;", true)
  | 86 => ("MarkovDeskModel", "claimOver", "[LMarkovDeskModel$Whole;", true)
  | 87 => ("MarkovDeskModel", "claimUnder", "[LMarkovDeskModel$Whole;", true)
  | 88 => ("MarkovDeskModel", "now1", "[LMarkovDeskModel$Whole;", true)
  | 89 => ("MarkovDeskModel", "next1", "[LMarkovDeskModel$Whole;", true)
  | 90 => ("MarkovDeskModel", "over1", "LMarkovDeskModel$Whole;", true)
  | 91 => ("MarkovDeskModel", "under1", "LMarkovDeskModel$Whole;", true)
  | 92 => ("MarkovDeskModel", "base", "LMarkovDeskModel$Whole;", true)
  | 93 => ("MarkovDeskModel", "bestOver", "LMarkovDeskModel$Whole;", true)
  | 94 => ("MarkovDeskModel", "bestUnder", "LMarkovDeskModel$Whole;", true)
  | 95 => ("MarkovDeskModel", "thisOver", "LMarkovDeskModel$Whole;", true)
  | 96 => ("MarkovDeskModel", "thisUnder", "LMarkovDeskModel$Whole;", true)
  | 97 => ("MarkovDeskModel", "product1", "LMarkovDeskModel$Whole;", true)
  | 98 => ("MarkovDeskModel", "product2", "LMarkovDeskModel$Whole;", true)
  | 99 => ("MarkovDeskModel", "previous", "LMarkovDeskModel$Whole;", true)
  | 100 => ("MarkovDeskModel", "resultOver", "LMarkovDeskModel$Whole;", true)
  | 101 => ("MarkovDeskModel", "resultUnder", "LMarkovDeskModel$Whole;", true)
  | 102 => ("MarkovDeskModel", "all", "LMarkovDeskModel$Whole;", true)
  | _ => ("MarkovDeskModel", "set", "[Z", true)
def pgY_12 : Nat → FieldType := fun k => match k with
  | 0 => .array (.object "java/lang/String")
  | 1 => .array (.object "java/lang/String")
  | 2 => .int
  | 3 => .int
  | 4 => .int
  | 5 => .int
  | 6 => .boolean
  | 7 => .array .int
  | 8 => .array .int
  | 9 => .int
  | 10 => .int
  | 11 => .int
  | 12 => .int
  | 13 => .int
  | 14 => .int
  | 15 => .int
  | 16 => .int
  | 17 => .int
  | 18 => .int
  | 19 => .array .int
  | 20 => .array .int
  | 21 => .array .int
  | 22 => .array .int
  | 23 => .array .int
  | 24 => .array .int
  | 25 => .array .int
  | 26 => .array .int
  | 27 => .array .int
  | 28 => .array .int
  | 29 => .array .int
  | 30 => .array .int
  | 31 => .array .int
  | 32 => .array .int
  | 33 => .array .int
  | 34 => .array .int
  | 35 => .array .int
  | 36 => .array .boolean
  | 37 => .int
  | 38 => .int
  | 39 => .array .int
  | 40 => .int
  | 41 => .int
  | 42 => .boolean
  | 43 => .boolean
  | 44 => .array .int
  | 45 => .array .int
  | 46 => .boolean
  | 47 => .int
  | 48 => .int
  | 49 => .int
  | 50 => .array .int
  | 51 => .array .int
  | 52 => .array .int
  | 53 => .array .int
  | 54 => .array .int
  | 55 => .array .int
  | 56 => .array .int
  | 57 => .array .int
  | 58 => .array .boolean
  | 59 => .array .boolean
  | 60 => .array .int
  | 61 => .array .int
  | 62 => .int
  | 63 => .object "MarkovDeskModel$Whole"
  | 64 => .object "MarkovDeskModel$Whole"
  | 65 => .object "MarkovDeskModel$Whole"
  | 66 => .object "MarkovDeskModel$Whole"
  | 67 => .object "MarkovDeskModel$Whole"
  | 68 => .object "MarkovDeskModel$Whole"
  | 69 => .object "MarkovDeskModel$Whole"
  | 70 => .object "MarkovDeskModel$Whole"
  | 71 => .object "MarkovDeskModel$Whole"
  | 72 => .object "MarkovDeskModel$Whole"
  | 73 => .array .boolean
  | 74 => .array .boolean
  | 75 => .array .boolean
  | 76 => .array .int
  | 77 => .array .int
  | 78 => .array .int
  | 79 => .array .int
  | 80 => .array .int
  | 81 => .array (.object "MarkovDeskModel$Whole")
  | 82 => .array (.object "MarkovDeskModel$Whole")
  | 83 => .array (.object "MarkovDeskModel$Whole")
  | 84 => .array (.object "MarkovDeskModel$Whole")
  | 85 => .array (.object "MarkovDeskModel$Whole")
  | 86 => .array (.object "MarkovDeskModel$Whole")
  | 87 => .array (.object "MarkovDeskModel$Whole")
  | 88 => .array (.object "MarkovDeskModel$Whole")
  | 89 => .array (.object "MarkovDeskModel$Whole")
  | 90 => .object "MarkovDeskModel$Whole"
  | 91 => .object "MarkovDeskModel$Whole"
  | 92 => .object "MarkovDeskModel$Whole"
  | 93 => .object "MarkovDeskModel$Whole"
  | 94 => .object "MarkovDeskModel$Whole"
  | 95 => .object "MarkovDeskModel$Whole"
  | 96 => .object "MarkovDeskModel$Whole"
  | 97 => .object "MarkovDeskModel$Whole"
  | 98 => .object "MarkovDeskModel$Whole"
  | 99 => .object "MarkovDeskModel$Whole"
  | 100 => .object "MarkovDeskModel$Whole"
  | 101 => .object "MarkovDeskModel$Whole"
  | 102 => .object "MarkovDeskModel$Whole"
  | _ => .array .boolean
def pgI_12 : Nat → Bool := fun k => match k with
  | 0 => true
  | 1 => true
  | 2 => false
  | 3 => false
  | 4 => false
  | 5 => false
  | 6 => false
  | 7 => true
  | 8 => true
  | 9 => false
  | 10 => false
  | 11 => false
  | 12 => false
  | 13 => false
  | 14 => false
  | 15 => false
  | 16 => false
  | 17 => false
  | 18 => false
  | 19 => true
  | 20 => true
  | 21 => true
  | 22 => true
  | 23 => true
  | 24 => true
  | 25 => true
  | 26 => true
  | 27 => true
  | 28 => true
  | 29 => true
  | 30 => true
  | 31 => true
  | 32 => true
  | 33 => true
  | 34 => true
  | 35 => true
  | 36 => true
  | 37 => false
  | 38 => false
  | 39 => true
  | 40 => false
  | 41 => false
  | 42 => false
  | 43 => false
  | 44 => true
  | 45 => true
  | 46 => false
  | 47 => false
  | 48 => false
  | 49 => false
  | 50 => true
  | 51 => true
  | 52 => true
  | 53 => true
  | 54 => true
  | 55 => true
  | 56 => true
  | 57 => true
  | 58 => true
  | 59 => true
  | 60 => true
  | 61 => true
  | 62 => false
  | 63 => true
  | 64 => true
  | 65 => true
  | 66 => true
  | 67 => true
  | 68 => true
  | 69 => true
  | 70 => true
  | 71 => true
  | 72 => true
  | 73 => true
  | 74 => true
  | 75 => true
  | 76 => true
  | 77 => true
  | 78 => true
  | 79 => true
  | 80 => true
  | 81 => true
  | 82 => true
  | 83 => true
  | 84 => true
  | 85 => true
  | 86 => true
  | 87 => true
  | 88 => true
  | 89 => true
  | 90 => true
  | 91 => true
  | 92 => true
  | 93 => true
  | 94 => true
  | 95 => true
  | 96 => true
  | 97 => true
  | 98 => true
  | 99 => true
  | 100 => true
  | 101 => true
  | 102 => true
  | _ => true
def pgD_12 : List Value := [.null, .null, .int 0, .int 0, .int 0, .int 0, .int 0, .null, .null, .int 0, .int 0, .int 0, .int 0, .int 0, .int 0, .int 0, .int 0, .int 0, .int 0, .null, .null, .null, .null, .null, .null, .null, .null, .null, .null, .null, .null, .null, .null, .null, .null, .null, .null, .int 0, .int 0, .null, .int 0, .int 0, .int 0, .int 0, .null, .null, .int 0, .int 0, .int 0, .int 0, .null, .null, .null, .null, .null, .null, .null, .null, .null, .null, .null, .null, .int 0, .null, .null, .null, .null, .null, .null, .null, .null, .null, .null, .null, .null, .null, .null, .null, .null, .null, .null, .null, .null, .null, .null, .null, .null, .null, .null, .null, .null, .null, .null, .null, .null, .null, .null, .null, .null, .null, .null, .null, .null, .null]
def pgF_13 : u_T := fun k => match k with
  | 0 => ("MarkovDeskModel$Whole", "d", "[I", true)
  | _ => ("MarkovDeskModel$Whole", "n", "I", false)
def pgY_13 : Nat → FieldType := fun k => match k with
  | 0 => .array .int
  | _ => .int
def pgI_13 : Nat → Bool := fun k => match k with
  | 0 => true
  | _ => false
def pgD_13 : List Value := [.null, .int 0]
def pgF_14 : u_T := fun k => match k with
  | _ => ("", "", "", false)
def pgY_14 : Nat → FieldType := fun k => match k with
  | _ => .int
def pgI_14 : Nat → Bool := fun k => match k with
  | _ => false
def pgD_14 : List Value := []
def pgF_15 : u_T := fun k => match k with
  | _ => ("", "", "", false)
def pgY_15 : Nat → FieldType := fun k => match k with
  | _ => .int
def pgI_15 : Nat → Bool := fun k => match k with
  | _ => false
def pgD_15 : List Value := []
def pgF_16 : u_T := fun k => match k with
  | _ => ("", "", "", false)
def pgY_16 : Nat → FieldType := fun k => match k with
  | _ => .int
def pgI_16 : Nat → Bool := fun k => match k with
  | _ => false
def pgD_16 : List Value := []
def pgF_17 : u_T := fun k => match k with
  | _ => ("", "", "", false)
def pgY_17 : Nat → FieldType := fun k => match k with
  | _ => .int
def pgI_17 : Nat → Bool := fun k => match k with
  | _ => false
def pgD_17 : List Value := []
def pgF_18 : u_T := fun k => match k with
  | _ => ("", "", "", false)
def pgY_18 : Nat → FieldType := fun k => match k with
  | _ => .int
def pgI_18 : Nat → Bool := fun k => match k with
  | _ => false
def pgD_18 : List Value := []
def pg_cl : List vw_C := [("MarkovDesk", pgF_0, 13), ("MarkovDesk$Answer", pgF_1, 8), ("MarkovDesk$Equations", pgF_2, 8), ("MarkovDesk$Machine", pgF_3, 5), ("MarkovDesk$Model", pgF_4, 21), ("MarkovDesk$Nat", pgF_5, 2), ("MarkovDesk$Planner", pgF_6, 8), ("MarkovDesk$Ratio", pgF_7, 5), ("MarkovDesk$Reader", pgF_8, 21), ("MarkovDesk$Space", pgF_9, 19), ("MarkovDesk$Tokens", pgF_10, 8), ("MarkovDesk$Walk", pgF_11, 10), ("MarkovDeskModel", pgF_12, 104), ("MarkovDeskModel$Whole", pgF_13, 2), ("java/lang/ArithmeticException", pgF_14, 0), ("java/lang/IllegalArgumentException", pgF_15, 0), ("java/lang/IllegalStateException", pgF_16, 0), ("java/lang/IndexOutOfBoundsException", pgF_17, 0), ("java/lang/UnsupportedOperationException", pgF_18, 0)]
def pg_ft : Nat → Nat → FieldType := fun c => match c with
  | 0 => pgY_0
  | 1 => pgY_1
  | 2 => pgY_2
  | 3 => pgY_3
  | 4 => pgY_4
  | 5 => pgY_5
  | 6 => pgY_6
  | 7 => pgY_7
  | 8 => pgY_8
  | 9 => pgY_9
  | 10 => pgY_10
  | 11 => pgY_11
  | 12 => pgY_12
  | 13 => pgY_13
  | 14 => pgY_14
  | 15 => pgY_15
  | 16 => pgY_16
  | 17 => pgY_17
  | 18 => pgY_18
  | _ => fun _ => .int
def pg_fi : Nat → Nat → Bool := fun c => match c with
  | 0 => pgI_0
  | 1 => pgI_1
  | 2 => pgI_2
  | 3 => pgI_3
  | 4 => pgI_4
  | 5 => pgI_5
  | 6 => pgI_6
  | 7 => pgI_7
  | 8 => pgI_8
  | 9 => pgI_9
  | 10 => pgI_10
  | 11 => pgI_11
  | 12 => pgI_12
  | 13 => pgI_13
  | 14 => pgI_14
  | 15 => pgI_15
  | 16 => pgI_16
  | 17 => pgI_17
  | 18 => pgI_18
  | _ => fun _ => false
def pg_fd : Nat → List Value := fun c => match c with
  | 0 => pgD_0
  | 1 => pgD_1
  | 2 => pgD_2
  | 3 => pgD_3
  | 4 => pgD_4
  | 5 => pgD_5
  | 6 => pgD_6
  | 7 => pgD_7
  | 8 => pgD_8
  | 9 => pgD_9
  | 10 => pgD_10
  | 11 => pgD_11
  | 12 => pgD_12
  | 13 => pgD_13
  | 14 => pgD_14
  | 15 => pgD_15
  | 16 => pgD_16
  | 17 => pgD_17
  | 18 => pgD_18
  | _ => []
def pg_ka : Nat → Nat := fun c => match c with
  | 5 => 3
  | 13 => 4
  | 20 => 5
  | _ => 0
def pg_kc : Nat → Nat := fun k => match k with
  | 3 => 5
  | 4 => 13
  | _ => 20
def pg_TT : mm_T := (pg_ft, pg_fi, pg_fd, pg_ka, pg_kc, (601024, 7293034, 6, 19, 41))
def pg_aT : List FieldType := [.int, .long, .boolean, .object "MarkovDesk$Nat", .object "MarkovDeskModel$Whole", .object "java/lang/String"]
def pg_wc : pg_Wc := fun c => match c with
  | 0 => ("MarkovDesk", 208, 177)
  | 1 => ("MarkovDesk$Answer", 643, 187)
  | 2 => ("MarkovDesk$Equations", 557, 184)
  | 3 => ("MarkovDesk$Machine", 216, 178)
  | 4 => ("MarkovDesk$Model", 280, 180)
  | 5 => ("MarkovDesk$Nat", 564, 185)
  | 6 => ("MarkovDesk$Planner", 551, 183)
  | 7 => ("MarkovDesk$Ratio", 730, 189)
  | 8 => ("MarkovDesk$Reader", 391, 181)
  | 9 => ("MarkovDesk$Space", 462, 182)
  | 10 => ("MarkovDesk$Tokens", 242, 179)
  | 11 => ("MarkovDesk$Walk", 689, 188)
  | 12 => ("MarkovDeskModel", 1664, 190)
  | 13 => ("MarkovDeskModel$Whole", 1711, 191)
  | 14 => ("java/lang/ArithmeticException", 1299, 204)
  | 15 => ("java/lang/IllegalArgumentException", 929, 196)
  | 16 => ("java/lang/IllegalStateException", 1268, 202)
  | 17 => ("java/lang/IndexOutOfBoundsException", 827, 195)
  | 18 => ("java/lang/UnsupportedOperationException", 1326, 205)
  | _ => ("java/lang/String", 0, 0)
/-- the class words of a row -/
def pg_cok (i : Nat) (r : vw_C) (ps : List Nat) : Bool := decide (ps.length = r.2.2) && (List.range r.2.2).all (fun k => pg_has (ps.getD k 0) (u_lay r.1 r.2.1 k)) && (List.range r.2.2).all (fun k => decide (parseFieldDescriptor (r.2.1 k).2.2.1 = some (pg_ft i k)) && decide (pg_fi i k = (r.2.1 k).2.2.2) && decide (vp_V (pg_fd i) k = defaultValue (pg_ft i k)) && (List.range k).all (fun j => decide ((r.2.1 k).2.1 ≠ (r.2.1 j).2.1))) && decide ((pg_fd i).length = r.2.2)
theorem pgk_0 : pg_cok 0 ("MarkovDesk", pgF_0, 13) [771, 773, 775, 777, 779, 781, 783, 785, 787, 789, 791, 793, 795] = true := by decide +kernel
theorem pgk_1 : pg_cok 1 ("MarkovDesk$Answer", pgF_1, 8) [671, 673, 675, 677, 679, 681, 683, 685] = true := by decide +kernel
theorem pgk_2 : pg_cok 2 ("MarkovDesk$Equations", pgF_2, 8) [598, 600, 602, 604, 606, 608, 610, 612] = true := by decide +kernel
theorem pgk_3 : pg_cok 3 ("MarkovDesk$Machine", pgF_3, 5) [229, 231, 233, 235, 237] = true := by decide +kernel
theorem pgk_4 : pg_cok 4 ("MarkovDesk$Model", pgF_4, 21) [346, 348, 350, 352, 354, 356, 358, 360, 362, 364, 366, 368, 370, 372, 374, 376, 378, 380, 382, 384, 386] = true := by decide +kernel
theorem pgk_5 : pg_cok 5 ("MarkovDesk$Nat", pgF_5, 2) [579, 581] = true := by decide +kernel
theorem pgk_6 : pg_cok 6 ("MarkovDesk$Planner", pgF_6, 8) [625, 627, 629, 631, 633, 635, 637, 639] = true := by decide +kernel
theorem pgk_7 : pg_cok 7 ("MarkovDesk$Ratio", pgF_7, 5) [745, 747, 749, 751, 753] = true := by decide +kernel
theorem pgk_8 : pg_cok 8 ("MarkovDesk$Reader", pgF_8, 21) [418, 420, 422, 424, 426, 428, 430, 432, 434, 436, 438, 440, 442, 444, 446, 448, 450, 452, 454, 456, 458] = true := by decide +kernel
theorem pgk_9 : pg_cok 9 ("MarkovDesk$Space", pgF_9, 19) [510, 512, 514, 516, 518, 520, 522, 524, 526, 528, 530, 532, 534, 536, 538, 540, 542, 544, 546] = true := by decide +kernel
theorem pgk_10 : pg_cok 10 ("MarkovDesk$Tokens", pgF_10, 8) [262, 264, 266, 268, 270, 272, 274, 276] = true := by decide +kernel
theorem pgk_11 : pg_cok 11 ("MarkovDesk$Walk", pgF_11, 10) [708, 710, 712, 714, 716, 718, 720, 722, 724, 726] = true := by decide +kernel
theorem pgk_12 : pg_cok 12 ("MarkovDeskModel", pgF_12, 104) [1842, 1844, 1846, 1848, 1850, 1852, 1854, 1856, 1858, 1860, 1862, 1864, 1866, 1868, 1870, 1872, 1874, 1876, 1878, 1880, 1882, 1884, 1886, 1888, 1890, 1892, 1894, 1896, 1898, 1900, 1902, 1904, 1906, 1908, 1910, 1912, 1914, 1916, 1918, 1920, 1922, 1924, 1926, 1928, 1930, 1932, 1934, 1936, 1938, 1940, 1942, 1944, 1946, 1948, 1950, 1952, 1954, 1956, 1958, 1960, 1962, 1964, 1966, 1968, 1970, 1972, 1974, 1976, 1978, 1980, 1982, 1984, 1986, 1988, 1990, 1992, 1994, 1996, 1998, 2000, 2002, 2004, 2006, 2008, 2010, 2012, 2014, 2016, 2018, 2020, 2022, 2024, 2026, 2028, 2030, 2032, 2034, 2036, 2038, 2040, 2042, 2044, 2046, 2048] = true := by decide +kernel
theorem pgk_13 : pg_cok 13 ("MarkovDeskModel$Whole", pgF_13, 2) [1719, 1721] = true := by decide +kernel
theorem pgk_14 : pg_cok 14 ("java/lang/ArithmeticException", pgF_14, 0) [] = true := by decide +kernel
theorem pgk_15 : pg_cok 15 ("java/lang/IllegalArgumentException", pgF_15, 0) [] = true := by decide +kernel
theorem pgk_16 : pg_cok 16 ("java/lang/IllegalStateException", pgF_16, 0) [] = true := by decide +kernel
theorem pgk_17 : pg_cok 17 ("java/lang/IndexOutOfBoundsException", pgF_17, 0) [] = true := by decide +kernel
theorem pgk_18 : pg_cok 18 ("java/lang/UnsupportedOperationException", pgF_18, 0) [] = true := by decide +kernel
theorem pg_cok_use {i : Nat} {r : vw_C} {ps : List Nat} (h : pg_cok i r ps = true) : (∀ w ∈ u_ws r.1 r.2.1 r.2.2, w ∈ pg_Ts) ∧ (∀ k, k < r.2.2 → parseFieldDescriptor (r.2.1 k).2.2.1 = some (mm_ft pg_TT i k)) ∧ (∀ a, a < r.2.2 → ∀ b, b < r.2.2 → a ≠ b → (r.2.1 a).2.1 ≠ (r.2.1 b).2.1) ∧ (∀ k, k < r.2.2 → mm_fi pg_TT i k = (r.2.1 k).2.2.2) ∧ ((mm_fd pg_TT i).length = r.2.2 ∧ ∀ j, j < r.2.2 → vp_V (mm_fd pg_TT i) j = defaultValue (mm_ft pg_TT i j)) := by
  unfold pg_cok at h
  simp only [Bool.and_eq_true, decide_eq_true_eq, List.all_eq_true, List.mem_range] at h
  obtain ⟨⟨⟨h1, h2⟩, h3⟩, h4⟩ := h
  refine ⟨fun w hw => ?_, fun k hk => (h3 k hk).1.1.1, fun a ha b hb hne => ?_, fun k hk => (h3 k hk).1.1.2, h4, fun j hj => (h3 j hj).1.2⟩
  · obtain ⟨k, hk, rfl⟩ := List.mem_map.mp hw
    exact pg_has_in (h2 k (List.mem_range.mp hk))
  · rcases Nat.lt_or_gt_of_ne hne with q | q
    · exact fun e => (h3 b hb).2 a q e.symm
    · exact (h3 a ha).2 b q
theorem pg_clOK : mm_clOK pg_Ts pg_cl pg_TT := by
  intro i r hr
  match i, hr with
  | 0, hr => cases hr; exact pg_cok_use pgk_0
  | 1, hr => cases hr; exact pg_cok_use pgk_1
  | 2, hr => cases hr; exact pg_cok_use pgk_2
  | 3, hr => cases hr; exact pg_cok_use pgk_3
  | 4, hr => cases hr; exact pg_cok_use pgk_4
  | 5, hr => cases hr; exact pg_cok_use pgk_5
  | 6, hr => cases hr; exact pg_cok_use pgk_6
  | 7, hr => cases hr; exact pg_cok_use pgk_7
  | 8, hr => cases hr; exact pg_cok_use pgk_8
  | 9, hr => cases hr; exact pg_cok_use pgk_9
  | 10, hr => cases hr; exact pg_cok_use pgk_10
  | 11, hr => cases hr; exact pg_cok_use pgk_11
  | 12, hr => cases hr; exact pg_cok_use pgk_12
  | 13, hr => cases hr; exact pg_cok_use pgk_13
  | 14, hr => cases hr; exact pg_cok_use pgk_14
  | 15, hr => cases hr; exact pg_cok_use pgk_15
  | 16, hr => cases hr; exact pg_cok_use pgk_16
  | 17, hr => cases hr; exact pg_cok_use pgk_17
  | 18, hr => cases hr; exact pg_cok_use pgk_18
  | i + 19, hr => simp [pg_cl] at hr
end
section
/-! the methods: 96 of them; 97 is the law -/
def pg_yn : Nat → MethodName := fun f => match f with
  | 1 => ⟨"MarkovDesk", "<init>", "()V"⟩
  | 2 => ⟨"MarkovDesk$Machine", "<init>", "()V"⟩
  | 3 => ⟨"MarkovDesk$Tokens", "<init>", "()V"⟩
  | 4 => ⟨"MarkovDesk$Model", "<init>", "()V"⟩
  | 5 => ⟨"MarkovDesk$Reader", "<init>", "(LMarkovDesk$Tokens;LMarkovDesk$Machine;LMarkovDesk$Model;)V"⟩
  | 6 => ⟨"MarkovDesk$Space", "<init>", "(LMarkovDesk$Machine;LMarkovDesk$Model;)V"⟩
  | 7 => ⟨"MarkovDesk$Planner", "<init>", "(LMarkovDesk$Space;)V"⟩
  | 8 => ⟨"MarkovDesk$Equations", "<init>", "()V"⟩
  | 9 => ⟨"MarkovDesk$Nat", "<init>", "(I)V"⟩
  | 10 => ⟨"java/lang/Math", "max", "(II)I"⟩
  | 11 => ⟨"MarkovDesk$Nat", "put", "(J)V"⟩
  | 12 => ⟨"MarkovDesk$Answer", "<init>", "(Z)V"⟩
  | 13 => ⟨"MarkovDesk$Walk", "<init>", "(LMarkovDesk$Space;)V"⟩
  | 14 => ⟨"MarkovDesk$Ratio", "<init>", "()V"⟩
  | 15 => ⟨"MarkovDesk", "wrong", "()I"⟩
  | 16 => ⟨"MarkovDesk", "bits", "(Z)I"⟩
  | 17 => ⟨"MarkovDesk$Nat", "bitLength", "()I"⟩
  | 18 => ⟨"MarkovDesk$Nat", "digit", "(I)I"⟩
  | 19 => ⟨"java/lang/Integer", "numberOfLeadingZeros", "(I)I"⟩
  | 20 => ⟨"MarkovDeskLaw", "feed", "(LMarkovDesk;IIIII[J)I"⟩
  | 21 => ⟨"MarkovDesk", "feed", "(IIIII)I"⟩
  | 22 => ⟨"MarkovDesk$Tokens", "push", "(I)V"⟩
  | 23 => ⟨"MarkovDeskLaw", "end", "(LMarkovDesk;I[J)I"⟩
  | 24 => ⟨"MarkovDesk", "end", "(I)I"⟩
  | 25 => ⟨"MarkovDesk", "forget", "()V"⟩
  | 26 => ⟨"MarkovDesk$Answer", "clear", "()V"⟩
  | 27 => ⟨"MarkovDesk$Reader", "startOn", "(I)V"⟩
  | 28 => ⟨"MarkovDesk$Model", "clear", "()V"⟩
  | 29 => ⟨"MarkovDesk$Tokens", "foreignOctet", "(I)I"⟩
  | 30 => ⟨"MarkovDesk$Reader", "fail", "(I)V"⟩
  | 31 => ⟨"MarkovDesk$Tokens", "scan", "(I)V"⟩
  | 32 => ⟨"java/lang/Math", "min", "(II)I"⟩
  | 33 => ⟨"MarkovDesk$Tokens", "afterBlanks", "(I)I"⟩
  | 34 => ⟨"MarkovDesk$Tokens", "octetAt", "(I)I"⟩
  | 35 => ⟨"MarkovDesk$Tokens", "scanToken", "(II)V"⟩
  | 36 => ⟨"MarkovDesk$Reader", "advance", "()V"⟩
  | 37 => ⟨"MarkovDesk$Reader", "kind", "()I"⟩
  | 38 => ⟨"MarkovDesk$Reader", "place", "()I"⟩
  | 39 => ⟨"MarkovDesk$Reader", "take", "(I)V"⟩
  | 40 => ⟨"MarkovDeskLaw", "explore", "(LMarkovDesk;[J)I"⟩
  | 41 => ⟨"MarkovDesk", "explore", "()I"⟩
  | 42 => ⟨"MarkovDeskLaw", "state", "(LMarkovDesk;III[J)I"⟩
  | 43 => ⟨"MarkovDesk", "state", "(III)I"⟩
  | 44 => ⟨"MarkovDeskLaw", "outcome", "(LMarkovDesk;III[J)I"⟩
  | 45 => ⟨"MarkovDesk", "outcome", "(III)I"⟩
  | 46 => ⟨"MarkovDesk", "requireExplored", "()V"⟩
  | 47 => ⟨"MarkovDeskLaw", "solve", "(LMarkovDesk;Z[J)I"⟩
  | 48 => ⟨"MarkovDesk", "solve", "(Z)I"⟩
  | 49 => ⟨"MarkovDeskLaw", "value", "(LMarkovDesk;ZI[J)I"⟩
  | 50 => ⟨"MarkovDesk", "value", "(ZI)Z"⟩
  | 51 => ⟨"MarkovDesk", "requireTold", "(LMarkovDesk$Answer;)V"⟩
  | 52 => ⟨"MarkovDeskLaw", "within", "(LMarkovDesk;ZII[J)I"⟩
  | 53 => ⟨"MarkovDesk", "within", "(ZII)Z"⟩
  | 54 => ⟨"MarkovDeskLaw", "claim", "(LMarkovDesk;IJJ)I"⟩
  | 55 => ⟨"MarkovDesk", "claim", "(IJJ)V"⟩
  | 56 => ⟨"MarkovDeskLaw", "claimResult", "(LMarkovDesk;I)I"⟩
  | 57 => ⟨"MarkovDesk", "claimResult", "(I)V"⟩
  | 58 => ⟨"MarkovDeskLaw", "check", "(LMarkovDesk;Z[J)I"⟩
  | 59 => ⟨"MarkovDesk", "check", "(Z)Z"⟩
  | 60 => ⟨"MarkovDeskLaw", "part", "(LMarkovDesk;ZI[J)I"⟩
  | 61 => ⟨"MarkovDesk", "part", "(ZI)I"⟩
  | 62 => ⟨"MarkovDeskLaw", "count", "(LMarkovDesk;I[J)I"⟩
  | 63 => ⟨"MarkovDesk", "count", "(I)I"⟩
  | 64 => ⟨"MarkovDeskModel", "<init>", "()V"⟩
  | 65 => ⟨"MarkovDeskModel$Whole", "<init>", "(I)V"⟩
  | 66 => ⟨"MarkovDeskModel", "rooms", "()V"⟩
  | 67 => ⟨"MarkovDeskModel$Whole", "one", "()V"⟩
  | 68 => ⟨"MarkovDeskModel$Whole", "set", "(J)V"⟩
  | 69 => ⟨"MarkovDeskModel", "thrown", "()I"⟩
  | 70 => ⟨"MarkovDeskModel", "feed", "(IIIII)I"⟩
  | 71 => ⟨"MarkovDeskModel", "fails", "(ZI)Z"⟩
  | 72 => ⟨"MarkovDeskModel", "wrong", "()I"⟩
  | 73 => ⟨"MarkovDeskModel", "end", "(I)I"⟩
  | 74 => ⟨"MarkovDeskModel", "in", "(III)Z"⟩
  | 75 => ⟨"MarkovDeskModel", "bad", "(I)Z"⟩
  | 76 => ⟨"MarkovDeskModel", "model", "()Z"⟩
  | 77 => ⟨"MarkovDeskModel", "begin", "()Z"⟩
  | 78 => ⟨"MarkovDeskModel", "next", "()Z"⟩
  | 79 => ⟨"MarkovDeskModel", "need", "(Ljava/lang/String;)Z"⟩
  | 80 => ⟨"MarkovDeskModel", "is", "(Ljava/lang/String;)Z"⟩
  | 81 => ⟨"MarkovDeskModel", "explore", "()I"⟩
  | 82 => ⟨"MarkovDeskModel", "outcome", "(II)V"⟩
  | 83 => ⟨"MarkovDeskModel", "solve", "(Z)I"⟩
  | 84 => ⟨"MarkovDeskModel", "begin", "(I)V"⟩
  | 85 => ⟨"MarkovDeskModel", "value", "(ZI)Z"⟩
  | 86 => ⟨"MarkovDeskModel", "within", "(ZII)Z"⟩
  | 87 => ⟨"MarkovDeskModel", "claim", "(IJJ)V"⟩
  | 88 => ⟨"MarkovDeskModel", "claimResult", "(I)V"⟩
  | 89 => ⟨"MarkovDeskModel$Whole", "bits", "()I"⟩
  | 90 => ⟨"MarkovDeskModel", "check", "(Z)Z"⟩
  | 91 => ⟨"MarkovDeskModel", "state", "(III)I"⟩
  | 92 => ⟨"MarkovDeskModel", "outcome", "(III)I"⟩
  | 93 => ⟨"MarkovDeskModel", "bits", "(Z)I"⟩
  | 94 => ⟨"MarkovDeskModel", "part", "(ZI)I"⟩
  | 95 => ⟨"MarkovDeskModel$Whole", "bit", "(J)I"⟩
  | 96 => ⟨"MarkovDeskModel", "count", "(I)I"⟩
  | _ => ⟨"MarkovDeskLaw", "law", "([I)Z"⟩
def pg_own : Nat → String := fun f => match f with
  | 1 => "MarkovDesk"
  | 2 => "MarkovDesk$Machine"
  | 3 => "MarkovDesk$Tokens"
  | 4 => "MarkovDesk$Model"
  | 5 => "MarkovDesk$Reader"
  | 6 => "MarkovDesk$Space"
  | 7 => "MarkovDesk$Planner"
  | 8 => "MarkovDesk$Equations"
  | 9 => "MarkovDesk$Nat"
  | 10 => "java/lang/Math"
  | 11 => "MarkovDesk$Nat"
  | 12 => "MarkovDesk$Answer"
  | 13 => "MarkovDesk$Walk"
  | 14 => "MarkovDesk$Ratio"
  | 15 => "MarkovDesk"
  | 16 => "MarkovDesk"
  | 17 => "MarkovDesk$Nat"
  | 18 => "MarkovDesk$Nat"
  | 19 => "java/lang/Integer"
  | 20 => "MarkovDeskLaw"
  | 21 => "MarkovDesk"
  | 22 => "MarkovDesk$Tokens"
  | 23 => "MarkovDeskLaw"
  | 24 => "MarkovDesk"
  | 25 => "MarkovDesk"
  | 26 => "MarkovDesk$Answer"
  | 27 => "MarkovDesk$Reader"
  | 28 => "MarkovDesk$Model"
  | 29 => "MarkovDesk$Tokens"
  | 30 => "MarkovDesk$Reader"
  | 31 => "MarkovDesk$Tokens"
  | 32 => "java/lang/Math"
  | 33 => "MarkovDesk$Tokens"
  | 34 => "MarkovDesk$Tokens"
  | 35 => "MarkovDesk$Tokens"
  | 36 => "MarkovDesk$Reader"
  | 37 => "MarkovDesk$Reader"
  | 38 => "MarkovDesk$Reader"
  | 39 => "MarkovDesk$Reader"
  | 40 => "MarkovDeskLaw"
  | 41 => "MarkovDesk"
  | 42 => "MarkovDeskLaw"
  | 43 => "MarkovDesk"
  | 44 => "MarkovDeskLaw"
  | 45 => "MarkovDesk"
  | 46 => "MarkovDesk"
  | 47 => "MarkovDeskLaw"
  | 48 => "MarkovDesk"
  | 49 => "MarkovDeskLaw"
  | 50 => "MarkovDesk"
  | 51 => "MarkovDesk"
  | 52 => "MarkovDeskLaw"
  | 53 => "MarkovDesk"
  | 54 => "MarkovDeskLaw"
  | 55 => "MarkovDesk"
  | 56 => "MarkovDeskLaw"
  | 57 => "MarkovDesk"
  | 58 => "MarkovDeskLaw"
  | 59 => "MarkovDesk"
  | 60 => "MarkovDeskLaw"
  | 61 => "MarkovDesk"
  | 62 => "MarkovDeskLaw"
  | 63 => "MarkovDesk"
  | 64 => "MarkovDeskModel"
  | 65 => "MarkovDeskModel$Whole"
  | 66 => "MarkovDeskModel"
  | 67 => "MarkovDeskModel$Whole"
  | 68 => "MarkovDeskModel$Whole"
  | 69 => "MarkovDeskModel"
  | 70 => "MarkovDeskModel"
  | 71 => "MarkovDeskModel"
  | 72 => "MarkovDeskModel"
  | 73 => "MarkovDeskModel"
  | 74 => "MarkovDeskModel"
  | 75 => "MarkovDeskModel"
  | 76 => "MarkovDeskModel"
  | 77 => "MarkovDeskModel"
  | 78 => "MarkovDeskModel"
  | 79 => "MarkovDeskModel"
  | 80 => "MarkovDeskModel"
  | 81 => "MarkovDeskModel"
  | 82 => "MarkovDeskModel"
  | 83 => "MarkovDeskModel"
  | 84 => "MarkovDeskModel"
  | 85 => "MarkovDeskModel"
  | 86 => "MarkovDeskModel"
  | 87 => "MarkovDeskModel"
  | 88 => "MarkovDeskModel"
  | 89 => "MarkovDeskModel$Whole"
  | 90 => "MarkovDeskModel"
  | 91 => "MarkovDeskModel"
  | 92 => "MarkovDeskModel"
  | 93 => "MarkovDeskModel"
  | 94 => "MarkovDeskModel"
  | 95 => "MarkovDeskModel$Whole"
  | 96 => "MarkovDeskModel"
  | _ => "MarkovDeskLaw"
def pg_cc : Nat → ByteArray := fun f => match f with
  | 1 => prog_1_method_1_code
  | 2 => prog_4_method_1_code
  | 3 => prog_11_method_1_code
  | 4 => prog_5_method_1_code
  | 5 => prog_9_method_1_code
  | 6 => prog_10_method_1_code
  | 7 => prog_7_method_1_code
  | 8 => prog_3_method_1_code
  | 9 => prog_6_method_1_code
  | 10 => prog_23_method_65_code
  | 11 => prog_6_method_2_code
  | 12 => prog_2_method_1_code
  | 13 => prog_12_method_1_code
  | 14 => prog_8_method_1_code
  | 15 => prog_1_method_4_code
  | 16 => prog_1_method_14_code
  | 17 => prog_6_method_6_code
  | 18 => prog_6_method_4_code
  | 19 => prog_22_method_47_code
  | 20 => method_3_code
  | 21 => prog_1_method_2_code
  | 22 => prog_11_method_2_code
  | 23 => method_4_code
  | 24 => prog_1_method_3_code
  | 25 => prog_1_method_17_code
  | 26 => prog_2_method_2_code
  | 27 => prog_9_method_2_code
  | 28 => prog_5_method_2_code
  | 29 => prog_11_method_3_code
  | 30 => prog_9_method_34_code
  | 31 => prog_11_method_4_code
  | 32 => prog_23_method_69_code
  | 33 => prog_11_method_6_code
  | 34 => prog_11_method_5_code
  | 35 => prog_11_method_7_code
  | 36 => prog_9_method_29_code
  | 37 => prog_9_method_26_code
  | 38 => prog_9_method_27_code
  | 39 => prog_9_method_30_code
  | 40 => method_5_code
  | 41 => prog_1_method_5_code
  | 42 => method_6_code
  | 43 => prog_1_method_6_code
  | 44 => method_7_code
  | 45 => prog_1_method_7_code
  | 46 => prog_1_method_18_code
  | 47 => method_8_code
  | 48 => prog_1_method_8_code
  | 49 => method_9_code
  | 50 => prog_1_method_9_code
  | 51 => prog_1_method_19_code
  | 52 => method_10_code
  | 53 => prog_1_method_10_code
  | 54 => method_11_code
  | 55 => prog_1_method_11_code
  | 56 => method_12_code
  | 57 => prog_1_method_12_code
  | 58 => method_13_code
  | 59 => prog_1_method_13_code
  | 60 => method_14_code
  | 61 => prog_1_method_15_code
  | 62 => method_15_code
  | 63 => prog_1_method_16_code
  | 64 => prog_14_method_1_code
  | 65 => prog_15_method_1_code
  | 66 => prog_14_method_61_code
  | 67 => prog_15_method_3_code
  | 68 => prog_15_method_2_code
  | 69 => prog_14_method_2_code
  | 70 => prog_14_method_5_code
  | 71 => prog_14_method_3_code
  | 72 => prog_14_method_6_code
  | 73 => prog_14_method_8_code
  | 74 => prog_14_method_4_code
  | 75 => prog_14_method_7_code
  | 76 => prog_14_method_38_code
  | 77 => prog_14_method_12_code
  | 78 => prog_14_method_13_code
  | 79 => prog_14_method_17_code
  | 80 => prog_14_method_16_code
  | 81 => prog_14_method_50_code
  | 82 => prog_14_method_56_code
  | 83 => prog_14_method_71_code
  | 84 => prog_14_method_64_code
  | 85 => prog_14_method_72_code
  | 86 => prog_14_method_73_code
  | 87 => prog_14_method_74_code
  | 88 => prog_14_method_75_code
  | 89 => prog_15_method_12_code
  | 90 => prog_14_method_76_code
  | 91 => prog_14_method_77_code
  | 92 => prog_14_method_78_code
  | 93 => prog_14_method_79_code
  | 94 => prog_14_method_80_code
  | 95 => prog_15_method_13_code
  | 96 => prog_14_method_81_code
  | _ => code
def pg_hh : Nat → List (Nat × Nat × Nat × Nat) := fun f => match f with
  | 20 => [(0, 16, 19, 13)]
  | 23 => [(0, 9, 12, 13), (0, 9, 15, 19)]
  | 40 => [(0, 8, 11, 25), (0, 8, 14, 27), (0, 8, 17, 29)]
  | 42 => [(0, 12, 15, 19), (0, 12, 19, 25), (0, 12, 23, 13)]
  | 44 => [(0, 12, 15, 25), (0, 12, 19, 13)]
  | 47 => [(0, 9, 12, 25)]
  | 49 => [(0, 17, 20, 25), (0, 17, 24, 13)]
  | 52 => [(0, 19, 22, 19), (0, 19, 26, 25), (0, 19, 30, 13)]
  | 54 => [(0, 8, 11, 19), (0, 8, 15, 25), (0, 8, 19, 13)]
  | 56 => [(0, 5, 8, 25), (0, 5, 11, 13), (0, 5, 14, 29)]
  | 58 => [(0, 16, 19, 25)]
  | 60 => [(0, 10, 13, 13)]
  | 62 => [(0, 9, 12, 19)]
  | _ => []
def pg_rt : Nat → Option FieldType := fun f => match f with
  | 1 => none
  | 2 => none
  | 3 => none
  | 4 => none
  | 5 => none
  | 6 => none
  | 7 => none
  | 8 => none
  | 9 => none
  | 10 => some (.int)
  | 11 => none
  | 12 => none
  | 13 => none
  | 14 => none
  | 15 => some (.int)
  | 16 => some (.int)
  | 17 => some (.int)
  | 18 => some (.int)
  | 19 => some (.int)
  | 20 => some (.int)
  | 21 => some (.int)
  | 22 => none
  | 23 => some (.int)
  | 24 => some (.int)
  | 25 => none
  | 26 => none
  | 27 => none
  | 28 => none
  | 29 => some (.int)
  | 30 => none
  | 31 => none
  | 32 => some (.int)
  | 33 => some (.int)
  | 34 => some (.int)
  | 35 => none
  | 36 => none
  | 37 => some (.int)
  | 38 => some (.int)
  | 39 => none
  | 40 => some (.int)
  | 41 => some (.int)
  | 42 => some (.int)
  | 43 => some (.int)
  | 44 => some (.int)
  | 45 => some (.int)
  | 46 => none
  | 47 => some (.int)
  | 48 => some (.int)
  | 49 => some (.int)
  | 50 => some (.boolean)
  | 51 => none
  | 52 => some (.int)
  | 53 => some (.boolean)
  | 54 => some (.int)
  | 55 => none
  | 56 => some (.int)
  | 57 => none
  | 58 => some (.int)
  | 59 => some (.boolean)
  | 60 => some (.int)
  | 61 => some (.int)
  | 62 => some (.int)
  | 63 => some (.int)
  | 64 => none
  | 65 => none
  | 66 => none
  | 67 => none
  | 68 => none
  | 69 => some (.int)
  | 70 => some (.int)
  | 71 => some (.boolean)
  | 72 => some (.int)
  | 73 => some (.int)
  | 74 => some (.boolean)
  | 75 => some (.boolean)
  | 76 => some (.boolean)
  | 77 => some (.boolean)
  | 78 => some (.boolean)
  | 79 => some (.boolean)
  | 80 => some (.boolean)
  | 81 => some (.int)
  | 82 => none
  | 83 => some (.int)
  | 84 => none
  | 85 => some (.boolean)
  | 86 => some (.boolean)
  | 87 => none
  | 88 => none
  | 89 => some (.int)
  | 90 => some (.boolean)
  | 91 => some (.int)
  | 92 => some (.int)
  | 93 => some (.int)
  | 94 => some (.int)
  | 95 => some (.int)
  | 96 => some (.int)
  | _ => some (.boolean)
def pg_inf : Nat → Nat × Nat × Nat × Bool × Bool := fun f => match f with
  | 1 => (0, 3, 1, true, false)
  | 2 => (3, 1, 1, true, false)
  | 3 => (10, 1, 1, true, false)
  | 4 => (4, 1, 1, true, false)
  | 5 => (8, 4, 4, true, false)
  | 6 => (9, 3, 3, true, false)
  | 7 => (6, 2, 2, true, false)
  | 8 => (2, 2, 1, true, false)
  | 9 => (5, 2, 2, true, false)
  | 10 => (999, 2, 2, false, true)
  | 11 => (5, 6, 2, false, false)
  | 12 => (1, 3, 2, true, false)
  | 13 => (11, 3, 2, true, false)
  | 14 => (7, 1, 1, true, false)
  | 15 => (0, 1, 1, false, false)
  | 16 => (0, 2, 2, false, false)
  | 17 => (5, 1, 1, false, false)
  | 18 => (5, 2, 2, false, false)
  | 19 => (999, 2, 1, false, true)
  | 20 => (999, 8, 7, false, true)
  | 21 => (0, 6, 6, false, false)
  | 22 => (10, 3, 2, false, false)
  | 23 => (999, 4, 3, false, true)
  | 24 => (0, 5, 2, false, false)
  | 25 => (0, 2, 1, false, false)
  | 26 => (1, 1, 1, false, false)
  | 27 => (8, 3, 2, false, false)
  | 28 => (4, 1, 1, false, false)
  | 29 => (10, 3, 2, false, false)
  | 30 => (8, 2, 2, false, false)
  | 31 => (10, 5, 2, false, false)
  | 32 => (999, 2, 2, false, true)
  | 33 => (10, 5, 2, false, false)
  | 34 => (10, 2, 2, false, false)
  | 35 => (10, 4, 3, false, false)
  | 36 => (8, 1, 1, false, false)
  | 37 => (8, 1, 1, false, false)
  | 38 => (8, 1, 1, false, false)
  | 39 => (8, 2, 2, false, false)
  | 40 => (999, 3, 2, false, true)
  | 41 => (0, 1, 1, false, false)
  | 42 => (999, 6, 5, false, true)
  | 43 => (0, 5, 4, false, false)
  | 44 => (999, 6, 5, false, true)
  | 45 => (0, 6, 4, false, false)
  | 46 => (0, 1, 1, false, false)
  | 47 => (999, 4, 3, false, true)
  | 48 => (0, 3, 2, false, false)
  | 49 => (999, 5, 4, false, true)
  | 50 => (0, 4, 3, false, false)
  | 51 => (0, 1, 1, false, true)
  | 52 => (999, 6, 5, false, true)
  | 53 => (0, 5, 4, false, false)
  | 54 => (999, 7, 4, false, true)
  | 55 => (0, 6, 4, false, false)
  | 56 => (999, 3, 2, false, true)
  | 57 => (0, 2, 2, false, false)
  | 58 => (999, 4, 3, false, true)
  | 59 => (0, 5, 2, false, false)
  | 60 => (999, 5, 4, false, true)
  | 61 => (0, 3, 3, false, false)
  | 62 => (999, 4, 3, false, true)
  | 63 => (0, 2, 2, false, false)
  | 64 => (12, 1, 1, true, false)
  | 65 => (13, 2, 2, true, false)
  | 66 => (12, 2, 1, false, false)
  | 67 => (13, 1, 1, false, false)
  | 68 => (13, 5, 2, false, false)
  | 69 => (12, 1, 1, false, false)
  | 70 => (12, 8, 6, false, false)
  | 71 => (12, 3, 3, false, false)
  | 72 => (12, 1, 1, false, false)
  | 73 => (12, 3, 2, false, false)
  | 74 => (12, 3, 3, false, true)
  | 75 => (12, 2, 2, false, false)
  | 76 => (12, 1, 1, false, false)
  | 77 => (12, 1, 1, false, false)
  | 78 => (12, 3, 1, false, false)
  | 79 => (12, 2, 2, false, false)
  | 80 => (12, 2, 2, false, false)
  | 81 => (12, 2, 1, false, false)
  | 82 => (12, 12, 3, false, false)
  | 83 => (12, 3, 2, false, false)
  | 84 => (12, 8, 2, false, false)
  | 85 => (12, 4, 3, false, false)
  | 86 => (12, 9, 4, false, false)
  | 87 => (12, 6, 4, false, false)
  | 88 => (12, 2, 2, false, false)
  | 89 => (13, 3, 1, false, false)
  | 90 => (12, 4, 2, false, false)
  | 91 => (12, 5, 4, false, false)
  | 92 => (12, 5, 4, false, false)
  | 93 => (12, 2, 2, false, false)
  | 94 => (12, 6, 3, false, false)
  | 95 => (13, 3, 2, false, false)
  | 96 => (12, 4, 2, false, false)
  | _ => (999, 7, 1, false, true)
def pg_pc : Nat → Nat := fun f => match f with
  | 1 => 0
  | 2 => 3
  | 3 => 10
  | 4 => 4
  | 5 => 8
  | 6 => 9
  | 7 => 6
  | 8 => 2
  | 9 => 5
  | 10 => 16
  | 11 => 5
  | 12 => 1
  | 13 => 11
  | 14 => 7
  | 15 => 0
  | 16 => 0
  | 17 => 5
  | 18 => 5
  | 19 => 15
  | 20 => 12
  | 21 => 0
  | 22 => 10
  | 23 => 12
  | 24 => 0
  | 25 => 0
  | 26 => 1
  | 27 => 8
  | 28 => 4
  | 29 => 10
  | 30 => 8
  | 31 => 10
  | 32 => 16
  | 33 => 10
  | 34 => 10
  | 35 => 10
  | 36 => 8
  | 37 => 8
  | 38 => 8
  | 39 => 8
  | 40 => 12
  | 41 => 0
  | 42 => 12
  | 43 => 0
  | 44 => 12
  | 45 => 0
  | 46 => 0
  | 47 => 12
  | 48 => 0
  | 49 => 12
  | 50 => 0
  | 51 => 0
  | 52 => 12
  | 53 => 0
  | 54 => 12
  | 55 => 0
  | 56 => 12
  | 57 => 0
  | 58 => 12
  | 59 => 0
  | 60 => 12
  | 61 => 0
  | 62 => 12
  | 63 => 0
  | 64 => 13
  | 65 => 14
  | 66 => 13
  | 67 => 14
  | 68 => 14
  | 69 => 13
  | 70 => 13
  | 71 => 13
  | 72 => 13
  | 73 => 13
  | 74 => 13
  | 75 => 13
  | 76 => 13
  | 77 => 13
  | 78 => 13
  | 79 => 13
  | 80 => 13
  | 81 => 13
  | 82 => 13
  | 83 => 13
  | 84 => 13
  | 85 => 13
  | 86 => 13
  | 87 => 13
  | 88 => 13
  | 89 => 14
  | 90 => 13
  | 91 => 13
  | 92 => 13
  | 93 => 13
  | 94 => 13
  | 95 => 14
  | 96 => 13
  | _ => 12
def pg_wm : pg_Wm := fun f => match f with
  | 1 => (211, 177, 210, 0)
  | 2 => (219, 178, 218, 0)
  | 3 => (245, 179, 244, 0)
  | 4 => (283, 180, 282, 0)
  | 5 => (394, 181, 393, 0)
  | 6 => (465, 182, 464, 0)
  | 7 => (554, 183, 553, 0)
  | 8 => (560, 184, 559, 0)
  | 9 => (567, 185, 566, 0)
  | 10 => (571, 186, 570, 0)
  | 11 => (587, 185, 586, 0)
  | 12 => (646, 187, 645, 0)
  | 13 => (692, 188, 691, 0)
  | 14 => (733, 189, 732, 0)
  | 15 => (801, 177, 799, 800)
  | 16 => (805, 177, 803, 804)
  | 17 => (809, 185, 808, 1)
  | 18 => (813, 185, 812, 2)
  | 19 => (816, 206, 815, 0)
  | 20 => (820, 176, 819, 0)
  | 21 => (825, 177, 823, 824)
  | 22 => (894, 179, 893, 4)
  | 23 => (897, 176, 896, 0)
  | 24 => (902, 177, 900, 901)
  | 25 => (906, 177, 905, 5)
  | 26 => (910, 187, 909, 6)
  | 27 => (915, 181, 914, 7)
  | 28 => (919, 180, 918, 8)
  | 29 => (923, 179, 922, 9)
  | 30 => (927, 181, 926, 10)
  | 31 => (946, 179, 945, 11)
  | 32 => (949, 186, 948, 0)
  | 33 => (953, 179, 952, 12)
  | 34 => (957, 179, 956, 13)
  | 35 => (961, 179, 960, 14)
  | 36 => (1105, 181, 1104, 22)
  | 37 => (1109, 181, 1108, 23)
  | 38 => (1113, 181, 1112, 24)
  | 39 => (1117, 181, 1116, 25)
  | 40 => (1259, 176, 1258, 0)
  | 41 => (1266, 177, 1264, 1265)
  | 42 => (1364, 176, 1363, 0)
  | 43 => (1368, 177, 1366, 1367)
  | 44 => (1389, 176, 1388, 0)
  | 45 => (1393, 177, 1391, 1392)
  | 46 => (1397, 177, 1396, 72)
  | 47 => (1471, 176, 1470, 0)
  | 48 => (1475, 177, 1473, 1474)
  | 49 => (1576, 176, 1575, 0)
  | 50 => (1580, 177, 1578, 1579)
  | 51 => (1583, 177, 1582, 0)
  | 52 => (1591, 176, 1590, 0)
  | 53 => (1595, 177, 1593, 1594)
  | 54 => (1621, 176, 1620, 0)
  | 55 => (1625, 177, 1623, 1624)
  | 56 => (1628, 176, 1627, 0)
  | 57 => (1632, 177, 1630, 1631)
  | 58 => (1638, 176, 1637, 0)
  | 59 => (1642, 177, 1640, 1641)
  | 60 => (1646, 176, 1645, 0)
  | 61 => (1650, 177, 1648, 1649)
  | 62 => (1654, 176, 1653, 0)
  | 63 => (1658, 177, 1656, 1657)
  | 64 => (1667, 190, 1666, 0)
  | 65 => (1714, 191, 1713, 0)
  | 66 => (1728, 190, 1727, 113)
  | 67 => (1732, 191, 1730, 1731)
  | 68 => (1736, 191, 1734, 1735)
  | 69 => (2054, 190, 2052, 2053)
  | 70 => (2058, 190, 2056, 2057)
  | 71 => (2062, 190, 2061, 114)
  | 72 => (2066, 190, 2064, 2065)
  | 73 => (2070, 190, 2068, 2069)
  | 74 => (2073, 190, 2072, 0)
  | 75 => (2077, 190, 2076, 115)
  | 76 => (2081, 190, 2080, 116)
  | 77 => (2085, 190, 2084, 117)
  | 78 => (2089, 190, 2088, 118)
  | 79 => (2113, 190, 2112, 122)
  | 80 => (2117, 190, 2116, 123)
  | 81 => (2253, 190, 2251, 2252)
  | 82 => (2269, 190, 2268, 157)
  | 83 => (2339, 190, 2337, 2338)
  | 84 => (2347, 190, 2346, 168)
  | 85 => (2384, 190, 2382, 2383)
  | 86 => (2388, 190, 2386, 2387)
  | 87 => (2392, 190, 2390, 2391)
  | 88 => (2396, 190, 2394, 2395)
  | 89 => (2400, 191, 2398, 2399)
  | 90 => (2404, 190, 2402, 2403)
  | 91 => (2408, 190, 2406, 2407)
  | 92 => (2412, 190, 2410, 2411)
  | 93 => (2416, 190, 2414, 2415)
  | 94 => (2420, 190, 2418, 2419)
  | 95 => (2425, 191, 2423, 2424)
  | 96 => (2431, 190, 2429, 2430)
  | _ => (0, 0, 0, 0)
theorem pg_all2 {a b : List (Nat × Instr × Nat × Nat)} {P : Nat × Instr × Nat × Nat → Bool} (h1 : a.all P = true) (h2 : b.all P = true) : (a ++ b).all P = true := by rw [List.all_append, h1, h2]; rfl
/-- the pool of MarkovDesk -/
def pgP_0 : List pg_Row := [(15, mm_pF 0 0, 758, ""), (22, mm_pF 0 1, 759, ""), (31, mm_pF 0 2, 760, ""), (40, mm_pF 0 3, 761, ""), (49, mm_pF 0 4, 762, ""), (58, mm_pF 0 5, 763, ""), (62, mm_pF 0 6, 764, ""), (68, mm_pF 0 7, 765, ""), (75, mm_pF 0 8, 766, ""), (81, mm_pF 0 9, 767, ""), (85, mm_pF 0 10, 768, ""), (91, mm_pF 0 11, 769, ""), (95, mm_pF 0 12, 770, ""), (98, mm_pF 10 5, 255, "MarkovDesk"), (108, mm_pF 4 0, 285, "MarkovDesk"), (141, mm_pF 10 7, 259, "MarkovDesk"), (144, mm_pF 8 20, 417, "MarkovDesk"), (153, mm_pF 9 15, 503, "MarkovDesk"), (159, mm_pF 9 18, 508, "MarkovDesk"), (160, mm_pF 1 7, 670, "MarkovDesk"), (167, mm_pF 4 4, 298, "MarkovDesk"), (174, mm_pF 9 4, 474, "MarkovDesk"), (178, mm_pF 1 1, 655, "MarkovDesk"), (192, mm_pF 9 5, 478, "MarkovDesk"), (195, mm_pF 9 6, 482, "MarkovDesk"), (198, mm_pF 9 9, 493, "MarkovDesk"), (206, mm_pF 9 7, 485, "MarkovDesk"), (213, mm_pF 9 8, 490, "MarkovDesk"), (220, mm_pF 1 5, 666, "MarkovDesk"), (229, mm_pF 1 3, 660, "MarkovDesk"), (231, mm_pF 1 4, 664, "MarkovDesk"), (233, mm_pF 7 0, 739, "MarkovDesk"), (235, mm_pF 7 1, 741, "MarkovDesk"), (244, mm_pF 11 4, 702, "MarkovDesk"), (247, mm_pF 11 3, 700, "MarkovDesk"), (248, mm_pF 5 1, 578, "MarkovDesk"), (267, mm_pF 4 1, 289, "MarkovDesk"), (270, mm_pF 4 9, 314, "MarkovDesk"), (273, mm_pF 4 2, 293, "MarkovDesk"), (276, mm_pF 9 16, 505, "MarkovDesk"), (279, mm_pF 9 17, 507, "MarkovDesk"), (3, mm_pM 0, 212, ""), (11, mm_pM 2, 217, "MarkovDesk"), (14, mm_pM 3, 243, "MarkovDesk"), (21, mm_pM 4, 281, "MarkovDesk"), (28, mm_pM 5, 392, "MarkovDesk"), (37, mm_pM 6, 463, "MarkovDesk"), (46, mm_pM 7, 552, "MarkovDesk"), (55, mm_pM 12, 644, "MarkovDesk"), (67, mm_pM 13, 690, "MarkovDesk"), (74, mm_pM 14, 731, "MarkovDesk"), (88, mm_pM 9, 757, "MarkovDesk"), (105, mm_pM 22, 891, "MarkovDesk"), (112, mm_pM 25, 903, ""), (115, mm_pM 27, 912, "MarkovDesk"), (118, mm_pM 37, 1118, "MarkovDesk"), (189, mm_pM 46, 1394, ""), (202, mm_pM 11, 911, "MarkovDesk"), (223, mm_pM 51, 1581, ""), (251, mm_pM 17, 806, "MarkovDesk"), (264, mm_pM 18, 1651, "MarkovDesk"), (285, mm_pM 26, 907, "MarkovDesk"), (9, mm_pC 3, 215, ""), (12, mm_pC 10, 241, ""), (19, mm_pC 4, 279, ""), (26, mm_pC 8, 390, ""), (35, mm_pC 9, 461, ""), (44, mm_pC 6, 550, ""), (53, mm_pC 1, 642, ""), (65, mm_pC 11, 688, ""), (72, mm_pC 7, 729, ""), (79, mm_pC 5, 756, "")]
/-- the pool of MarkovDesk$Answer -/
def pgP_1 : List pg_Row := [(9, mm_pF 1 1, 652, ""), (15, mm_pF 1 2, 656, ""), (21, mm_pF 1 3, 659, ""), (28, mm_pF 1 4, 662, ""), (32, mm_pF 1 0, 650, ""), (36, mm_pF 1 6, 668, ""), (39, mm_pF 1 7, 669, ""), (3, mm_pM 0, 647, ""), (25, mm_pM 9, 649, "MarkovDesk"), (19, mm_pC 5, 648, "")]
/-- the pool of MarkovDesk$Equations -/
def pgP_2 : List pg_Row := [(13, mm_pF 2 0, 589, ""), (17, mm_pF 2 1, 590, ""), (20, mm_pF 2 2, 592, ""), (27, mm_pF 2 3, 593, ""), (31, mm_pF 2 4, 594, ""), (34, mm_pF 2 5, 595, ""), (37, mm_pF 2 6, 596, ""), (53, mm_pF 2 7, 597, ""), (68, mm_pF 5 1, 577, "MarkovDesk"), (3, mm_pM 0, 561, ""), (24, mm_pM 9, 565, "MarkovDesk"), (40, mm_pM 11, 584, "MarkovDesk"), (44, mm_pM 32, 1507, ""), (50, mm_pM 10, 1508, ""), (11, mm_pC 5, 562, "")]
/-- the pool of MarkovDesk$Machine -/
def pgP_3 : List pg_Row := [(9, mm_pF 3 0, 221, ""), (15, mm_pF 3 1, 222, ""), (18, mm_pF 3 2, 223, ""), (21, mm_pF 3 3, 224, ""), (25, mm_pF 3 4, 226, ""), (3, mm_pM 0, 220, ""), (33, mm_pM 32, 1198, ""), (39, mm_pM 10, 1199, ""), (47, mm_pJ 9223372036854775807, 1203, "")]
/-- the pool of MarkovDesk$Model -/
def pgP_4 : List pg_Row := [(9, mm_pF 4 5, 300, ""), (15, mm_pF 4 6, 302, ""), (18, mm_pF 4 7, 305, ""), (21, mm_pF 4 8, 308, ""), (24, mm_pF 4 10, 315, ""), (27, mm_pF 4 11, 318, ""), (30, mm_pF 4 12, 321, ""), (33, mm_pF 4 13, 324, ""), (37, mm_pF 4 14, 327, ""), (40, mm_pF 4 16, 332, ""), (43, mm_pF 4 17, 335, ""), (46, mm_pF 4 19, 340, ""), (49, mm_pF 4 20, 343, ""), (52, mm_pF 4 1, 286, ""), (56, mm_pF 4 2, 290, ""), (59, mm_pF 4 4, 296, ""), (62, mm_pF 4 9, 311, ""), (65, mm_pF 4 15, 330, ""), (68, mm_pF 4 18, 338, ""), (3, mm_pM 0, 284, "")]
/-- the pool of MarkovDesk$Nat -/
def pgP_5 : List pg_Row := [(15, mm_pF 5 0, 572, ""), (21, mm_pF 5 1, 574, ""), (3, mm_pM 0, 568, ""), (9, mm_pM 10, 569, ""), (27, mm_pM 32, 1406, ""), (36, mm_pM 18, 810, ""), (40, mm_pM 19, 814, ""), (25, mm_pJ 2147483647, 588, "")]
/-- the pool of MarkovDesk$Planner -/
def pgP_6 : List pg_Row := [(12, mm_pF 6 1, 618, ""), (18, mm_pF 6 2, 619, ""), (27, mm_pF 6 3, 620, ""), (31, mm_pF 6 4, 621, ""), (34, mm_pF 6 5, 622, ""), (37, mm_pF 6 6, 623, ""), (40, mm_pF 6 7, 624, ""), (43, mm_pF 6 0, 617, ""), (47, mm_pF 1 6, 667, "MarkovDesk"), (53, mm_pF 1 0, 651, "MarkovDesk"), (73, mm_pF 1 5, 665, "MarkovDesk"), (81, mm_pF 9 15, 502, "MarkovDesk"), (86, mm_pF 1 1, 653, "MarkovDesk"), (89, mm_pF 1 2, 657, "MarkovDesk"), (93, mm_pF 9 4, 473, "MarkovDesk"), (104, mm_pF 9 5, 477, "MarkovDesk"), (107, mm_pF 9 6, 480, "MarkovDesk"), (110, mm_pF 9 8, 488, "MarkovDesk"), (129, mm_pF 9 7, 486, "MarkovDesk"), (133, mm_pF 9 9, 494, "MarkovDesk"), (144, mm_pF 1 4, 663, "MarkovDesk"), (154, mm_pF 1 3, 661, "MarkovDesk"), (157, mm_pF 2 1, 591, "MarkovDesk"), (3, mm_pM 0, 555, ""), (11, mm_pM 8, 558, "MarkovDesk"), (24, mm_pM 9, 616, "MarkovDesk"), (116, mm_pM 10, 1489, ""), (140, mm_pM 11, 1518, "MarkovDesk"), (9, mm_pC 2, 556, ""), (22, mm_pC 5, 615, ""), (63, mm_pI 1000000, 1498, "")]
/-- the pool of MarkovDesk$Ratio -/
def pgP_7 : List pg_Row := [(14, mm_pF 7 0, 738, ""), (20, mm_pF 7 1, 740, ""), (23, mm_pF 7 2, 742, ""), (26, mm_pF 7 3, 743, ""), (29, mm_pF 7 4, 744, ""), (49, mm_pF 5 1, 575, "MarkovDesk"), (98, mm_pF 5 0, 573, "MarkovDesk"), (3, mm_pM 0, 734, ""), (11, mm_pM 9, 736, "MarkovDesk"), (32, mm_pM 11, 737, "MarkovDesk"), (69, mm_pM 18, 1425, "MarkovDesk"), (73, mm_pM 19, 1426, ""), (9, mm_pC 5, 735, ""), (48, mm_pI 1000000, 1412, ""), (82, mm_pJ 2147483647, 1431, "")]
/-- the pool of MarkovDesk$Reader -/
def pgP_8 : List pg_Row := [(9, mm_pF 8 3, 399, ""), (15, mm_pF 8 4, 400, ""), (18, mm_pF 8 5, 401, ""), (21, mm_pF 8 6, 402, ""), (24, mm_pF 8 7, 403, ""), (27, mm_pF 8 8, 404, ""), (30, mm_pF 8 9, 405, ""), (33, mm_pF 8 10, 406, ""), (36, mm_pF 8 11, 407, ""), (39, mm_pF 8 20, 416, ""), (43, mm_pF 8 0, 396, ""), (47, mm_pF 8 1, 397, ""), (51, mm_pF 8 2, 398, ""), (60, mm_pF 3 3, 225, "MarkovDesk"), (65, mm_pF 8 17, 413, ""), (81, mm_pF 8 19, 415, ""), (109, mm_pF 4 1, 287, "MarkovDesk"), (112, mm_pF 4 4, 297, "MarkovDesk"), (115, mm_pF 8 18, 414, ""), (121, mm_pF 4 3, 294, "MarkovDesk"), (124, mm_pF 4 5, 301, "MarkovDesk"), (127, mm_pF 4 6, 303, "MarkovDesk"), (130, mm_pF 4 7, 306, "MarkovDesk"), (136, mm_pF 4 8, 310, "MarkovDesk"), (145, mm_pF 3 4, 227, "MarkovDesk"), (149, mm_pF 4 9, 313, "MarkovDesk"), (152, mm_pF 4 11, 319, "MarkovDesk"), (155, mm_pF 4 12, 323, "MarkovDesk"), (161, mm_pF 4 10, 317, "MarkovDesk"), (164, mm_pF 4 13, 325, "MarkovDesk"), (168, mm_pF 4 14, 328, "MarkovDesk"), (171, mm_pF 4 15, 331, "MarkovDesk"), (184, mm_pF 4 16, 333, "MarkovDesk"), (187, mm_pF 4 2, 291, "MarkovDesk"), (201, mm_pF 4 17, 336, "MarkovDesk"), (204, mm_pF 4 18, 339, "MarkovDesk"), (210, mm_pF 4 19, 341, "MarkovDesk"), (213, mm_pF 4 20, 344, "MarkovDesk"), (219, mm_pF 8 12, 408, ""), (222, mm_pF 8 13, 409, ""), (225, mm_pF 8 15, 411, ""), (228, mm_pF 8 16, 412, ""), (238, mm_pF 8 14, 410, ""), (270, mm_pF 10 7, 261, "MarkovDesk"), (273, mm_pF 10 1, 249, "MarkovDesk"), (275, mm_pF 10 2, 251, "MarkovDesk"), (277, mm_pF 10 6, 258, "MarkovDesk"), (280, mm_pF 10 4, 254, "MarkovDesk"), (3, mm_pM 0, 395, ""), (55, mm_pM 28, 916, "MarkovDesk"), (68, mm_pM 29, 920, "MarkovDesk"), (74, mm_pM 30, 924, ""), (78, mm_pM 31, 943, "MarkovDesk"), (84, mm_pM 36, 1102, ""), (87, mm_pM 39, 1114, ""), (98, mm_pM 38, 1110, ""), (118, mm_pM 37, 1106, ""), (139, mm_pJ 1000, 1220, "")]
/-- the pool of MarkovDesk$Space -/
def pgP_9 : List pg_Row := [(9, mm_pF 9 2, 469, ""), (15, mm_pF 9 3, 470, ""), (18, mm_pF 9 4, 471, ""), (22, mm_pF 9 5, 475, ""), (25, mm_pF 9 6, 479, ""), (28, mm_pF 9 7, 483, ""), (32, mm_pF 9 8, 487, ""), (35, mm_pF 9 9, 491, ""), (38, mm_pF 9 10, 495, ""), (41, mm_pF 9 11, 496, ""), (44, mm_pF 9 12, 497, ""), (47, mm_pF 9 13, 498, ""), (50, mm_pF 9 0, 467, ""), (54, mm_pF 9 1, 468, ""), (58, mm_pF 9 15, 500, ""), (62, mm_pF 9 18, 509, ""), (66, mm_pF 9 16, 504, ""), (69, mm_pF 9 17, 506, ""), (72, mm_pF 4 8, 309, "MarkovDesk"), (93, mm_pF 9 14, 499, ""), (99, mm_pF 4 9, 312, "MarkovDesk"), (102, mm_pF 4 10, 316, "MarkovDesk"), (109, mm_pF 4 3, 295, "MarkovDesk"), (117, mm_pF 3 4, 228, "MarkovDesk"), (123, mm_pF 4 12, 322, "MarkovDesk"), (126, mm_pF 4 2, 292, "MarkovDesk"), (136, mm_pF 4 1, 288, "MarkovDesk"), (139, mm_pF 4 11, 320, "MarkovDesk"), (151, mm_pF 4 13, 326, "MarkovDesk"), (163, mm_pF 4 14, 329, "MarkovDesk"), (166, mm_pF 4 16, 334, "MarkovDesk"), (167, mm_pF 4 17, 337, "MarkovDesk"), (170, mm_pF 4 19, 342, "MarkovDesk"), (173, mm_pF 4 20, 345, "MarkovDesk"), (176, mm_pF 4 6, 304, "MarkovDesk"), (179, mm_pF 4 7, 307, "MarkovDesk"), (186, mm_pF 4 4, 299, "MarkovDesk"), (3, mm_pM 0, 466, ""), (142, mm_pM 10, 1344, "")]
/-- the pool of MarkovDesk$Tokens -/
def pgP_10 : List pg_Row := [(9, mm_pF 10 0, 247, ""), (15, mm_pF 10 1, 248, ""), (18, mm_pF 10 2, 250, ""), (21, mm_pF 10 3, 252, ""), (24, mm_pF 10 4, 253, ""), (27, mm_pF 10 5, 256, ""), (37, mm_pF 10 6, 257, ""), (40, mm_pF 10 7, 260, ""), (3, mm_pM 0, 246, ""), (31, mm_pM 32, 947, ""), (43, mm_pM 33, 950, ""), (47, mm_pM 35, 958, ""), (51, mm_pM 34, 954, ""), (74, mm_pX 1, 976, ""), (95, mm_pX 2, 1045, ""), (97, mm_pX 3, 1046, "")]
/-- the pool of MarkovDesk$Walk -/
def pgP_11 : List pg_Row := [(11, mm_pF 11 1, 697, ""), (17, mm_pF 11 2, 698, ""), (23, mm_pF 11 3, 699, ""), (27, mm_pF 11 4, 701, ""), (30, mm_pF 11 5, 703, ""), (33, mm_pF 11 6, 704, ""), (36, mm_pF 11 7, 705, ""), (39, mm_pF 11 8, 706, ""), (42, mm_pF 11 9, 707, ""), (45, mm_pF 11 0, 696, ""), (49, mm_pF 9 15, 501, "MarkovDesk"), (63, mm_pF 9 4, 472, "MarkovDesk"), (74, mm_pF 1 2, 658, "MarkovDesk"), (79, mm_pF 5 1, 576, "MarkovDesk"), (82, mm_pF 9 5, 476, "MarkovDesk"), (86, mm_pF 1 1, 654, "MarkovDesk"), (100, mm_pF 9 7, 484, "MarkovDesk"), (114, mm_pF 9 6, 481, "MarkovDesk"), (117, mm_pF 9 9, 492, "MarkovDesk"), (120, mm_pF 9 8, 489, "MarkovDesk"), (3, mm_pM 0, 693, ""), (20, mm_pM 9, 695, "MarkovDesk"), (55, mm_pM 11, 1600, "MarkovDesk"), (9, mm_pC 5, 694, "")]
/-- the pool of MarkovDeskLaw -/
def pgP_12 : List pg_Row := [(7, mm_pM 21, 822, ""), (15, mm_pM 24, 899, ""), (21, mm_pM 41, 1263, ""), (31, mm_pM 43, 1365, ""), (35, mm_pM 45, 1390, ""), (38, mm_pM 48, 1472, ""), (42, mm_pM 50, 1577, ""), (46, mm_pM 53, 1592, ""), (50, mm_pM 55, 1622, ""), (54, mm_pM 57, 1629, ""), (58, mm_pM 59, 1639, ""), (62, mm_pM 61, 1647, ""), (66, mm_pM 63, 1655, ""), (69, mm_pM 1, 209, ""), (72, mm_pM 64, 1665, ""), (73, mm_pM 20, 818, ""), (78, mm_pM 70, 2055, ""), (79, mm_pM 69, 2051, ""), (82, mm_pM 23, 895, ""), (85, mm_pM 73, 2067, ""), (86, mm_pM 15, 798, ""), (89, mm_pM 72, 2063, ""), (90, mm_pM 40, 1257, ""), (93, mm_pM 81, 2250, ""), (94, mm_pM 42, 1362, ""), (97, mm_pM 91, 2405, ""), (98, mm_pM 44, 1387, ""), (100, mm_pM 92, 2409, ""), (101, mm_pM 47, 1469, ""), (104, mm_pM 83, 2336, ""), (105, mm_pM 49, 1574, ""), (108, mm_pM 85, 2381, ""), (109, mm_pM 52, 1589, ""), (112, mm_pM 86, 2385, ""), (115, mm_pM 54, 1619, ""), (118, mm_pM 87, 2389, ""), (119, mm_pM 56, 1626, ""), (122, mm_pM 88, 2393, ""), (123, mm_pM 58, 1636, ""), (125, mm_pM 90, 2401, ""), (126, mm_pM 16, 802, ""), (129, mm_pM 93, 2413, ""), (130, mm_pM 60, 1644, ""), (132, mm_pM 94, 2417, ""), (133, mm_pM 62, 1652, ""), (135, mm_pM 96, 2428, ""), (8, mm_pC 0, 207, ""), (70, mm_pC 12, 1663, ""), (113, mm_pJ 4294967295, 2432, "")]
/-- the pool of MarkovDeskModel -/
def pgP_13 : List pg_Row := [(35, mm_pF 12 0, 1738, ""), (91, mm_pF 12 1, 1739, ""), (94, mm_pF 12 4, 1742, ""), (98, mm_pF 12 7, 1745, ""), (102, mm_pF 12 8, 1746, ""), (105, mm_pF 12 19, 1757, ""), (108, mm_pF 12 20, 1758, ""), (111, mm_pF 12 21, 1759, ""), (114, mm_pF 12 22, 1760, ""), (117, mm_pF 12 23, 1761, ""), (120, mm_pF 12 24, 1762, ""), (123, mm_pF 12 25, 1763, ""), (126, mm_pF 12 26, 1764, ""), (129, mm_pF 12 27, 1765, ""), (132, mm_pF 12 28, 1766, ""), (135, mm_pF 12 29, 1767, ""), (138, mm_pF 12 30, 1768, ""), (141, mm_pF 12 31, 1769, ""), (144, mm_pF 12 32, 1770, ""), (147, mm_pF 12 33, 1771, ""), (150, mm_pF 12 34, 1772, ""), (153, mm_pF 12 35, 1773, ""), (156, mm_pF 12 36, 1774, ""), (160, mm_pF 12 39, 1777, ""), (163, mm_pF 12 44, 1782, ""), (166, mm_pF 12 45, 1783, ""), (169, mm_pF 12 50, 1788, ""), (172, mm_pF 12 51, 1789, ""), (175, mm_pF 12 52, 1790, ""), (178, mm_pF 12 53, 1791, ""), (181, mm_pF 12 54, 1792, ""), (184, mm_pF 12 55, 1793, ""), (187, mm_pF 12 56, 1794, ""), (190, mm_pF 12 57, 1795, ""), (193, mm_pF 12 58, 1796, ""), (196, mm_pF 12 59, 1797, ""), (200, mm_pF 12 60, 1798, ""), (203, mm_pF 12 61, 1799, ""), (211, mm_pF 12 63, 1801, ""), (215, mm_pF 12 64, 1802, ""), (218, mm_pF 12 65, 1803, ""), (221, mm_pF 12 66, 1804, ""), (224, mm_pF 12 67, 1805, ""), (227, mm_pF 12 68, 1806, ""), (230, mm_pF 12 69, 1807, ""), (233, mm_pF 12 70, 1808, ""), (236, mm_pF 12 71, 1809, ""), (239, mm_pF 12 72, 1810, ""), (242, mm_pF 12 73, 1811, ""), (245, mm_pF 12 74, 1812, ""), (248, mm_pF 12 75, 1813, ""), (251, mm_pF 12 76, 1814, ""), (254, mm_pF 12 77, 1815, ""), (257, mm_pF 12 78, 1816, ""), (260, mm_pF 12 79, 1817, ""), (263, mm_pF 12 80, 1818, ""), (266, mm_pF 12 81, 1819, ""), (270, mm_pF 12 82, 1820, ""), (273, mm_pF 12 83, 1821, ""), (276, mm_pF 12 84, 1822, ""), (279, mm_pF 12 85, 1823, ""), (282, mm_pF 12 86, 1824, ""), (285, mm_pF 12 87, 1825, ""), (288, mm_pF 12 88, 1826, ""), (291, mm_pF 12 89, 1827, ""), (294, mm_pF 12 90, 1828, ""), (297, mm_pF 12 91, 1829, ""), (300, mm_pF 12 92, 1830, ""), (303, mm_pF 12 93, 1831, ""), (306, mm_pF 12 94, 1832, ""), (309, mm_pF 12 95, 1833, ""), (312, mm_pF 12 96, 1834, ""), (315, mm_pF 12 97, 1835, ""), (318, mm_pF 12 98, 1836, ""), (321, mm_pF 12 99, 1837, ""), (324, mm_pF 12 100, 1838, ""), (327, mm_pF 12 101, 1839, ""), (330, mm_pF 12 102, 1840, ""), (333, mm_pF 12 103, 1841, ""), (339, mm_pF 12 2, 1740, ""), (342, mm_pF 12 3, 1741, ""), (349, mm_pF 12 6, 1744, ""), (353, mm_pF 12 46, 1784, ""), (356, mm_pF 12 5, 1743, ""), (371, mm_pF 12 13, 1751, ""), (374, mm_pF 12 12, 1750, ""), (383, mm_pF 12 11, 1749, ""), (386, mm_pF 12 9, 1747, ""), (403, mm_pF 12 10, 1748, ""), (420, mm_pF 12 14, 1752, ""), (427, mm_pF 12 40, 1778, ""), (430, mm_pF 12 41, 1779, ""), (436, mm_pF 12 42, 1780, ""), (479, mm_pF 12 38, 1776, ""), (482, mm_pF 12 43, 1781, ""), (493, mm_pF 12 15, 1753, ""), (496, mm_pF 12 16, 1754, ""), (499, mm_pF 12 17, 1755, ""), (502, mm_pF 12 18, 1756, ""), (517, mm_pF 12 37, 1775, ""), (555, mm_pF 12 47, 1785, ""), (558, mm_pF 12 48, 1786, ""), (561, mm_pF 12 49, 1787, ""), (564, mm_pF 12 62, 1800, ""), (570, mm_pF 13 1, 1718, ""), (1, mm_pM 0, 1668, ""), (208, mm_pM 65, 1712, ""), (336, mm_pM 66, 1725, ""), (345, mm_pM 71, 2059, ""), (359, mm_pM 74, 2071, ""), (363, mm_pM 75, 2074, ""), (367, mm_pM 76, 2078, ""), (377, mm_pM 78, 2086, ""), (417, mm_pM 80, 2114, ""), (448, mm_pM 79, 2110, ""), (505, mm_pM 77, 2082, ""), (573, mm_pM 67, 1729, ""), (588, mm_pM 82, 2266, ""), (597, mm_pM 68, 2278, ""), (648, mm_pM 84, 2344, ""), (663, mm_pM 89, 2397, ""), (668, mm_pM 95, 2422, ""), (7, mm_pC 20, 1669, ""), (206, mm_pC 13, 1710, ""), (199, mm_pI 64000, 1709, ""), (538, mm_pJ 1000, 2226, ""), (666, mm_pJ 31, 2421, ""), (9, mm_pX 4, 1671, ""), (11, mm_pX 5, 1672, ""), (13, mm_pX 6, 1673, ""), (15, mm_pX 7, 1674, ""), (17, mm_pX 8, 1675, ""), (19, mm_pX 9, 1676, ""), (21, mm_pX 10, 1677, ""), (23, mm_pX 11, 1678, ""), (25, mm_pX 12, 1679, ""), (27, mm_pX 13, 1680, ""), (29, mm_pX 14, 1681, ""), (31, mm_pX 15, 1682, ""), (33, mm_pX 16, 1683, ""), (41, mm_pX 17, 1684, ""), (43, mm_pX 18, 1685, ""), (45, mm_pX 19, 1686, ""), (47, mm_pX 20, 1687, ""), (49, mm_pX 21, 1688, ""), (51, mm_pX 22, 1689, ""), (53, mm_pX 23, 1690, ""), (55, mm_pX 24, 1691, ""), (57, mm_pX 25, 1692, ""), (59, mm_pX 26, 1693, ""), (61, mm_pX 27, 1694, ""), (63, mm_pX 28, 1695, ""), (65, mm_pX 29, 1696, ""), (67, mm_pX 30, 1697, ""), (69, mm_pX 31, 1698, ""), (71, mm_pX 32, 1699, ""), (73, mm_pX 33, 1700, ""), (75, mm_pX 34, 1701, ""), (77, mm_pX 35, 1702, ""), (79, mm_pX 36, 1703, ""), (81, mm_pX 37, 1704, ""), (83, mm_pX 38, 1705, ""), (85, mm_pX 39, 1706, ""), (87, mm_pX 40, 1707, ""), (89, mm_pX 41, 1708, "")]
/-- the pool of MarkovDeskModel$Whole -/
def pgP_14 : List pg_Row := [(7, mm_pF 13 0, 1716, ""), (13, mm_pF 13 1, 1717, ""), (1, mm_pM 0, 1715, ""), (19, mm_pM 68, 1733, ""), (26, mm_pI 65535, 2299, ""), (17, mm_pJ 65535, 1737, ""), (27, mm_pJ 16, 2426, ""), (29, mm_pJ 15, 2427, "")]
/-- the pool of java/lang/Integer -/
def pgP_15 : List pg_Row := [(264, mm_pI 65536, 817, "")]
/-- the pool of java/lang/Math -/
def pgP_16 : List pg_Row := []
def pg_plr : Nat → List pg_Row := fun f => match f with
  | 0 => pgP_0
  | 1 => pgP_1
  | 2 => pgP_2
  | 3 => pgP_3
  | 4 => pgP_4
  | 5 => pgP_5
  | 6 => pgP_6
  | 7 => pgP_7
  | 8 => pgP_8
  | 9 => pgP_9
  | 10 => pgP_10
  | 11 => pgP_11
  | 12 => pgP_12
  | 13 => pgP_13
  | 14 => pgP_14
  | 15 => pgP_15
  | 16 => pgP_16
  | _ => []
end
section
/-- MarkovDesk.<init>()V -/
def pgC_1_0 : List (Nat × Instr × Nat × Nat) := [(0, .aload_n 0, 1, 0), (1, .invokespecial 3, 4, 0), (4, .new 9, 7, 0), (7, .dup, 8, 0), (8, .invokespecial 11, 11, 0), (11, .astore_n 1, 12, 0), (12, .aload_n 0, 13, 0), (13, .new 12, 16, 0), (16, .dup, 17, 0), (17, .invokespecial 14, 20, 0), (20, .putfield 15, 23, 0), (23, .aload_n 0, 24, 0), (24, .new 19, 27, 0), (27, .dup, 28, 0), (28, .invokespecial 21, 31, 0), (31, .putfield 22, 34, 0), (34, .aload_n 0, 35, 0), (35, .new 26, 38, 0), (38, .dup, 39, 0), (39, .aload_n 0, 40, 0), (40, .getfield 15, 43, 0), (43, .aload_n 1, 44, 0), (44, .aload_n 0, 45, 0), (45, .getfield 22, 48, 0), (48, .invokespecial 28, 51, 0), (51, .putfield 31, 54, 0), (54, .aload_n 0, 55, 0), (55, .new 35, 58, 0), (58, .dup, 59, 0), (59, .aload_n 1, 60, 0), (60, .aload_n 0, 61, 0), (61, .getfield 22, 64, 0), (64, .invokespecial 37, 67, 0), (67, .putfield 40, 70, 0), (70, .aload_n 0, 71, 0), (71, .new 44, 74, 0), (74, .dup, 75, 0), (75, .aload_n 0, 76, 0), (76, .getfield 40, 79, 0), (79, .invokespecial 46, 82, 0), (82, .putfield 49, 85, 0), (85, .aload_n 0, 86, 0), (86, .new 53, 89, 0), (89, .dup, 90, 0), (90, .iconst 0, 91, 0), (91, .invokespecial 55, 94, 0), (94, .putfield 58, 97, 0), (97, .aload_n 0, 98, 0), (98, .new 53, 101, 0), (101, .dup, 102, 0), (102, .iconst 1, 103, 0), (103, .invokespecial 55, 106, 0), (106, .putfield 62, 109, 0), (109, .aload_n 0, 110, 0), (110, .new 65, 113, 0), (113, .dup, 114, 0), (114, .aload_n 0, 115, 0), (115, .getfield 40, 118, 0), (118, .invokespecial 67, 121, 0), (121, .putfield 68, 124, 0)]
set_option maxRecDepth 20000 in
theorem pgc_1_0 : pgC_1_0.all (pg_ok (pg_cc 1)) = true := by decide +kernel
/-- MarkovDesk.<init>()V -/
def pgC_1_1 : List (Nat × Instr × Nat × Nat) := [(124, .aload_n 0, 125, 0), (125, .new 72, 128, 0), (128, .dup, 129, 0), (129, .invokespecial 74, 132, 0), (132, .putfield 75, 135, 0), (135, .aload_n 0, 136, 0), (136, .bipush 24, 138, 0), (138, .anewarray 79, 141, 0), (141, .putfield 81, 144, 0), (144, .aload_n 0, 145, 0), (145, .bipush 24, 147, 0), (147, .anewarray 79, 150, 0), (150, .putfield 85, 153, 0), (153, .iconst 0, 154, 0), (154, .istore_n 2, 155, 0), (155, .iload_n 2, 156, 0), (156, .bipush 24, 158, 0), (158, .if_icmp .ge 41, 161, 199), (161, .aload_n 0, 162, 0), (162, .getfield 81, 165, 0), (165, .iload_n 2, 166, 0), (166, .new 79, 169, 0), (169, .dup, 170, 0), (170, .sipush 163, 173, 0), (173, .invokespecial 88, 176, 0), (176, .aastore, 177, 0), (177, .aload_n 0, 178, 0), (178, .getfield 85, 181, 0), (181, .iload_n 2, 182, 0), (182, .new 79, 185, 0), (185, .dup, 186, 0), (186, .sipush 163, 189, 0), (189, .invokespecial 88, 192, 0), (192, .aastore, 193, 0), (193, .iinc 2 1, 196, 0), (196, .goto (-41), 199, 155), (199, .aload_n 0, 200, 0), (200, .new 79, 203, 0), (203, .dup, 204, 0), (204, .sipush 199, 207, 0), (207, .invokespecial 88, 210, 0), (210, .putfield 91, 213, 0), (213, .aload_n 0, 214, 0), (214, .new 79, 217, 0), (217, .dup, 218, 0), (218, .sipush 199, 221, 0), (221, .invokespecial 88, 224, 0), (224, .putfield 95, 227, 0), (227, .return_, 228, 0)]
set_option maxRecDepth 20000 in
theorem pgc_1_1 : pgC_1_1.all (pg_ok (pg_cc 1)) = true := by decide +kernel
def pgC_1 : List (Nat × Instr × Nat × Nat) := pgC_1_0 ++ (pgC_1_1)
theorem pgc_1 : pgC_1.all (pg_ok (pg_cc 1)) = true := pg_all2 pgc_1_0 (pgc_1_1)
/-- MarkovDesk$Machine.<init>()V -/
def pgC_2 : List (Nat × Instr × Nat × Nat) := [(0, .aload_n 0, 1, 0), (1, .invokespecial 3, 4, 0), (4, .aload_n 0, 5, 0), (5, .sipush 1501, 8, 0), (8, .newarray .int, 10, 0), (10, .putfield 9, 13, 0), (13, .aload_n 0, 14, 0), (14, .sipush 1501, 17, 0), (17, .newarray .int, 19, 0), (19, .putfield 15, 22, 0), (22, .aload_n 0, 23, 0), (23, .sipush 248, 26, 0), (26, .newarray .int, 28, 0), (28, .putfield 18, 31, 0), (31, .return_, 32, 0)]
set_option maxRecDepth 20000 in
theorem pgc_2 : pgC_2.all (pg_ok (pg_cc 2)) = true := by decide +kernel
/-- MarkovDesk$Tokens.<init>()V -/
def pgC_3 : List (Nat × Instr × Nat × Nat) := [(0, .aload_n 0, 1, 0), (1, .invokespecial 3, 4, 0), (4, .aload_n 0, 5, 0), (5, .sipush 8200, 8, 0), (8, .newarray .int, 10, 0), (10, .putfield 9, 13, 0), (13, .aload_n 0, 14, 0), (14, .sipush 1501, 17, 0), (17, .newarray .int, 19, 0), (19, .putfield 15, 22, 0), (22, .aload_n 0, 23, 0), (23, .sipush 1501, 26, 0), (26, .newarray .int, 28, 0), (28, .putfield 18, 31, 0), (31, .aload_n 0, 32, 0), (32, .sipush 1501, 35, 0), (35, .newarray .int, 37, 0), (37, .putfield 21, 40, 0), (40, .aload_n 0, 41, 0), (41, .sipush 1501, 44, 0), (44, .newarray .int, 46, 0), (46, .putfield 24, 49, 0), (49, .return_, 50, 0)]
set_option maxRecDepth 20000 in
theorem pgc_3 : pgC_3.all (pg_ok (pg_cc 3)) = true := by decide +kernel
/-- MarkovDesk$Model.<init>()V -/
def pgC_4 : List (Nat × Instr × Nat × Nat) := [(0, .aload_n 0, 1, 0), (1, .invokespecial 3, 4, 0), (4, .aload_n 0, 5, 0), (5, .bipush 8, 7, 0), (7, .newarray .int, 9, 0), (9, .putfield 9, 12, 0), (12, .aload_n 0, 13, 0), (13, .bipush 8, 15, 0), (15, .newarray .int, 17, 0), (17, .putfield 15, 20, 0), (20, .aload_n 0, 21, 0), (21, .bipush 8, 23, 0), (23, .newarray .int, 25, 0), (25, .putfield 18, 28, 0), (28, .aload_n 0, 29, 0), (29, .bipush 8, 31, 0), (31, .newarray .int, 33, 0), (33, .putfield 21, 36, 0), (36, .aload_n 0, 37, 0), (37, .bipush 40, 39, 0), (39, .newarray .int, 41, 0), (41, .putfield 24, 44, 0), (44, .aload_n 0, 45, 0), (45, .bipush 40, 47, 0), (47, .newarray .int, 49, 0), (49, .putfield 27, 52, 0), (52, .aload_n 0, 53, 0), (53, .bipush 40, 55, 0), (55, .newarray .int, 57, 0), (57, .putfield 30, 60, 0), (60, .aload_n 0, 61, 0), (61, .bipush 40, 63, 0), (63, .newarray .long, 65, 0), (65, .putfield 33, 68, 0), (68, .aload_n 0, 69, 0), (69, .bipush 41, 71, 0), (71, .newarray .int, 73, 0), (73, .putfield 37, 76, 0), (76, .aload_n 0, 77, 0), (77, .sipush 240, 80, 0), (80, .newarray .long, 82, 0), (82, .putfield 40, 85, 0), (85, .aload_n 0, 86, 0), (86, .sipush 241, 89, 0), (89, .newarray .int, 91, 0), (91, .putfield 43, 94, 0), (94, .aload_n 0, 95, 0), (95, .sipush 250, 98, 0), (98, .newarray .int, 100, 0), (100, .putfield 46, 103, 0), (103, .aload_n 0, 104, 0), (104, .sipush 250, 107, 0), (107, .newarray .int, 109, 0), (109, .putfield 49, 112, 0), (112, .return_, 113, 0)]
set_option maxRecDepth 20000 in
theorem pgc_4 : pgC_4.all (pg_ok (pg_cc 4)) = true := by decide +kernel
/-- MarkovDesk$Reader.<init>(LMarkovDesk$Tokens;LMarkovDesk$Machine;LMarkovDesk$Model;)V -/
def pgC_5 : List (Nat × Instr × Nat × Nat) := [(0, .aload_n 0, 1, 0), (1, .invokespecial 3, 4, 0), (4, .aload_n 0, 5, 0), (5, .sipush 261, 8, 0), (8, .newarray .int, 10, 0), (10, .putfield 9, 13, 0), (13, .aload_n 0, 14, 0), (14, .sipush 261, 17, 0), (17, .newarray .int, 19, 0), (19, .putfield 15, 22, 0), (22, .aload_n 0, 23, 0), (23, .sipush 261, 26, 0), (26, .newarray .int, 28, 0), (28, .putfield 18, 31, 0), (31, .aload_n 0, 32, 0), (32, .bipush 40, 34, 0), (34, .newarray .int, 36, 0), (36, .putfield 21, 39, 0), (39, .aload_n 0, 40, 0), (40, .sipush 248, 43, 0), (43, .newarray .int, 45, 0), (45, .putfield 24, 48, 0), (48, .aload_n 0, 49, 0), (49, .sipush 248, 52, 0), (52, .newarray .int, 54, 0), (54, .putfield 27, 57, 0), (57, .aload_n 0, 58, 0), (58, .sipush 248, 61, 0), (61, .newarray .int, 63, 0), (63, .putfield 30, 66, 0), (66, .aload_n 0, 67, 0), (67, .sipush 248, 70, 0), (70, .newarray .int, 72, 0), (72, .putfield 33, 75, 0), (75, .aload_n 0, 76, 0), (76, .sipush 248, 79, 0), (79, .newarray .int, 81, 0), (81, .putfield 36, 84, 0), (84, .aload_n 0, 85, 0), (85, .iconst (-1), 86, 0), (86, .putfield 39, 89, 0), (89, .aload_n 0, 90, 0), (90, .aload_n 1, 91, 0), (91, .putfield 43, 94, 0), (94, .aload_n 0, 95, 0), (95, .aload_n 2, 96, 0), (96, .putfield 47, 99, 0), (99, .aload_n 0, 100, 0), (100, .aload_n 3, 101, 0), (101, .putfield 51, 104, 0), (104, .return_, 105, 0)]
set_option maxRecDepth 20000 in
theorem pgc_5 : pgC_5.all (pg_ok (pg_cc 5)) = true := by decide +kernel
/-- MarkovDesk$Space.<init>(LMarkovDesk$Machine;LMarkovDesk$Model;)V -/
def pgC_6 : List (Nat × Instr × Nat × Nat) := [(0, .aload_n 0, 1, 0), (1, .invokespecial 3, 4, 0), (4, .aload_n 0, 5, 0), (5, .sipush 192, 8, 0), (8, .newarray .int, 10, 0), (10, .putfield 9, 13, 0), (13, .aload_n 0, 14, 0), (14, .bipush 8, 16, 0), (16, .newarray .int, 18, 0), (18, .putfield 15, 21, 0), (21, .aload_n 0, 22, 0), (22, .bipush 24, 24, 0), (24, .newarray .boolean, 26, 0), (26, .putfield 18, 29, 0), (29, .aload_n 0, 30, 0), (30, .bipush 25, 32, 0), (32, .newarray .int, 34, 0), (34, .putfield 22, 37, 0), (37, .aload_n 0, 38, 0), (38, .sipush 201, 41, 0), (41, .newarray .int, 43, 0), (43, .putfield 25, 46, 0), (46, .aload_n 0, 47, 0), (47, .sipush 200, 50, 0), (50, .newarray .long, 52, 0), (52, .putfield 28, 55, 0), (55, .aload_n 0, 56, 0), (56, .sipush 3200, 59, 0), (59, .newarray .int, 61, 0), (61, .putfield 32, 64, 0), (64, .aload_n 0, 65, 0), (65, .sipush 3200, 68, 0), (68, .newarray .long, 70, 0), (70, .putfield 35, 73, 0), (73, .aload_n 0, 74, 0), (74, .bipush 40, 76, 0), (76, .newarray .boolean, 78, 0), (78, .putfield 38, 81, 0), (81, .aload_n 0, 82, 0), (82, .bipush 40, 84, 0), (84, .newarray .int, 86, 0), (86, .putfield 41, 89, 0), (89, .aload_n 0, 90, 0), (90, .iconst 4, 91, 0), (91, .newarray .int, 93, 0), (93, .putfield 44, 96, 0), (96, .aload_n 0, 97, 0), (97, .iconst 3, 98, 0), (98, .newarray .int, 100, 0), (100, .putfield 47, 103, 0), (103, .aload_n 0, 104, 0), (104, .aload_n 1, 105, 0), (105, .putfield 50, 108, 0), (108, .aload_n 0, 109, 0), (109, .aload_n 2, 110, 0), (110, .putfield 54, 113, 0), (113, .return_, 114, 0)]
set_option maxRecDepth 20000 in
theorem pgc_6 : pgC_6.all (pg_ok (pg_cc 6)) = true := by decide +kernel
/-- MarkovDesk$Planner.<init>(LMarkovDesk$Space;)V -/
def pgC_7 : List (Nat × Instr × Nat × Nat) := [(0, .aload_n 0, 1, 0), (1, .invokespecial 3, 4, 0), (4, .aload_n 0, 5, 0), (5, .new 9, 8, 0), (8, .dup, 9, 0), (9, .invokespecial 11, 12, 0), (12, .putfield 12, 15, 0), (15, .aload_n 0, 16, 0), (16, .bipush 24, 18, 0), (18, .newarray .int, 20, 0), (20, .putfield 18, 23, 0), (23, .aload_n 0, 24, 0), (24, .new 22, 27, 0), (27, .dup, 28, 0), (28, .bipush 34, 30, 0), (30, .invokespecial 24, 33, 0), (33, .putfield 27, 36, 0), (36, .aload_n 0, 37, 0), (37, .new 22, 40, 0), (40, .dup, 41, 0), (41, .bipush 68, 43, 0), (43, .invokespecial 24, 46, 0), (46, .putfield 31, 49, 0), (49, .aload_n 0, 50, 0), (50, .new 22, 53, 0), (53, .dup, 54, 0), (54, .bipush 68, 56, 0), (56, .invokespecial 24, 59, 0), (59, .putfield 34, 62, 0), (62, .aload_n 0, 63, 0), (63, .new 22, 66, 0), (66, .dup, 67, 0), (67, .bipush 68, 69, 0), (69, .invokespecial 24, 72, 0), (72, .putfield 37, 75, 0), (75, .aload_n 0, 76, 0), (76, .new 22, 79, 0), (79, .dup, 80, 0), (80, .bipush 68, 82, 0), (82, .invokespecial 24, 85, 0), (85, .putfield 40, 88, 0), (88, .aload_n 0, 89, 0), (89, .aload_n 1, 90, 0), (90, .putfield 43, 93, 0), (93, .return_, 94, 0)]
set_option maxRecDepth 20000 in
theorem pgc_7 : pgC_7.all (pg_ok (pg_cc 7)) = true := by decide +kernel
/-- MarkovDesk$Equations.<init>()V -/
def pgC_8_0 : List (Nat × Instr × Nat × Nat) := [(0, .aload_n 0, 1, 0), (1, .invokespecial 3, 4, 0), (4, .aload_n 0, 5, 0), (5, .sipush 600, 8, 0), (8, .anewarray 11, 11, 0), (11, .putfield 13, 14, 0), (14, .aload_n 0, 15, 0), (15, .bipush 24, 17, 0), (17, .anewarray 11, 20, 0), (20, .putfield 17, 23, 0), (23, .aload_n 0, 24, 0), (24, .bipush 24, 26, 0), (26, .newarray .int, 28, 0), (28, .putfield 20, 31, 0), (31, .aload_n 0, 32, 0), (32, .new 11, 35, 0), (35, .dup, 36, 0), (36, .bipush 34, 38, 0), (38, .invokespecial 24, 41, 0), (41, .putfield 27, 44, 0), (44, .aload_n 0, 45, 0), (45, .new 11, 48, 0), (48, .dup, 49, 0), (49, .bipush 34, 51, 0), (51, .invokespecial 24, 54, 0), (54, .putfield 31, 57, 0), (57, .aload_n 0, 58, 0), (58, .new 11, 61, 0), (61, .dup, 62, 0), (62, .bipush 68, 64, 0), (64, .invokespecial 24, 67, 0), (67, .putfield 34, 70, 0), (70, .aload_n 0, 71, 0), (71, .new 11, 74, 0), (74, .dup, 75, 0), (75, .bipush 68, 77, 0), (77, .invokespecial 24, 80, 0), (80, .putfield 37, 83, 0), (83, .aload_n 0, 84, 0), (84, .getfield 27, 87, 0), (87, .lconst 1, 88, 0), (88, .invokevirtual 40, 91, 0), (91, .iconst 0, 92, 0), (92, .istore_n 1, 93, 0), (93, .iload_n 1, 94, 0), (94, .aload_n 0, 95, 0), (95, .getfield 13, 98, 0), (98, .arraylength, 99, 0), (99, .if_icmp .ge 24, 102, 123), (102, .aload_n 0, 103, 0), (103, .getfield 13, 106, 0), (106, .iload_n 1, 107, 0), (107, .new 11, 110, 0), (110, .dup, 111, 0), (111, .bipush 34, 113, 0), (113, .invokespecial 24, 116, 0), (116, .aastore, 117, 0), (117, .iinc 1 1, 120, 0), (120, .goto (-27), 123, 93), (123, .iconst 0, 124, 0)]
set_option maxRecDepth 20000 in
theorem pgc_8_0 : pgC_8_0.all (pg_ok (pg_cc 8)) = true := by decide +kernel
/-- MarkovDesk$Equations.<init>()V -/
def pgC_8_1 : List (Nat × Instr × Nat × Nat) := [(124, .istore_n 1, 125, 0), (125, .iload_n 1, 126, 0), (126, .aload_n 0, 127, 0), (127, .getfield 17, 130, 0), (130, .arraylength, 131, 0), (131, .if_icmp .ge 24, 134, 155), (134, .aload_n 0, 135, 0), (135, .getfield 17, 138, 0), (138, .iload_n 1, 139, 0), (139, .new 11, 142, 0), (142, .dup, 143, 0), (143, .bipush 34, 145, 0), (145, .invokespecial 24, 148, 0), (148, .aastore, 149, 0), (149, .iinc 1 1, 152, 0), (152, .goto (-27), 155, 125), (155, .return_, 156, 0)]
set_option maxRecDepth 20000 in
theorem pgc_8_1 : pgC_8_1.all (pg_ok (pg_cc 8)) = true := by decide +kernel
def pgC_8 : List (Nat × Instr × Nat × Nat) := pgC_8_0 ++ (pgC_8_1)
theorem pgc_8 : pgC_8.all (pg_ok (pg_cc 8)) = true := pg_all2 pgc_8_0 (pgc_8_1)
/-- MarkovDesk$Nat.<init>(I)V -/
def pgC_9 : List (Nat × Instr × Nat × Nat) := [(0, .aload_n 0, 1, 0), (1, .invokespecial 3, 4, 0), (4, .aload_n 0, 5, 0), (5, .iload_n 1, 6, 0), (6, .iconst 1, 7, 0), (7, .invokestatic 9, 10, 0), (10, .newarray .int, 12, 0), (12, .putfield 15, 15, 0), (15, .return_, 16, 0)]
set_option maxRecDepth 20000 in
theorem pgc_9 : pgC_9.all (pg_ok (pg_cc 9)) = true := by decide +kernel
/-- java/lang/Math.max(II)I -/
def pgC_10 : List (Nat × Instr × Nat × Nat) := [(0, .iload_n 0, 1, 0), (1, .iload_n 1, 2, 0), (2, .if_icmp .lt 7, 5, 9), (5, .iload_n 0, 6, 0), (6, .goto 4, 9, 10), (9, .iload_n 1, 10, 0), (10, .ireturn, 11, 0)]
set_option maxRecDepth 20000 in
theorem pgc_10 : pgC_10.all (pg_ok (pg_cc 10)) = true := by decide +kernel
/-- MarkovDesk$Nat.put(J)V -/
def pgC_11 : List (Nat × Instr × Nat × Nat) := [(0, .lload_n 1, 1, 0), (1, .lstore_n 3, 2, 0), (2, .aload_n 0, 3, 0), (3, .iconst 0, 4, 0), (4, .putfield 21, 7, 0), (7, .iconst 0, 8, 0), (8, .istore 5, 10, 0), (10, .iload 5, 12, 0), (12, .aload_n 0, 13, 0), (13, .getfield 15, 16, 0), (16, .arraylength, 17, 0), (17, .if_icmp .ge 41, 20, 58), (20, .lload_n 3, 21, 0), (21, .lconst 0, 22, 0), (22, .lcmp, 23, 0), (23, .ifCond .le 35, 26, 58), (26, .aload_n 0, 27, 0), (27, .getfield 15, 30, 0), (30, .iload 5, 32, 0), (32, .lload_n 3, 33, 0), (33, .ldc2_w 25, 36, 0), (36, .land, 37, 0), (37, .l2i, 38, 0), (38, .iastore, 39, 0), (39, .lload_n 3, 40, 0), (40, .bipush 31, 42, 0), (42, .lushr, 43, 0), (43, .lstore_n 3, 44, 0), (44, .aload_n 0, 45, 0), (45, .iload 5, 47, 0), (47, .iconst 1, 48, 0), (48, .iadd, 49, 0), (49, .putfield 21, 52, 0), (52, .iinc 5 1, 55, 0), (55, .goto (-45), 58, 10), (58, .return_, 59, 0)]
set_option maxRecDepth 20000 in
theorem pgc_11 : pgC_11.all (pg_ok (pg_cc 11)) = true := by decide +kernel
/-- MarkovDesk$Answer.<init>(Z)V -/
def pgC_12 : List (Nat × Instr × Nat × Nat) := [(0, .aload_n 0, 1, 0), (1, .invokespecial 3, 4, 0), (4, .aload_n 0, 5, 0), (5, .bipush 24, 7, 0), (7, .newarray .int, 9, 0), (9, .putfield 9, 12, 0), (12, .aload_n 0, 13, 0), (13, .bipush 24, 15, 0), (15, .newarray .boolean, 17, 0), (17, .putfield 15, 20, 0), (20, .aload_n 0, 21, 0), (21, .bipush 24, 23, 0), (23, .anewarray 19, 26, 0), (26, .putfield 21, 29, 0), (29, .aload_n 0, 30, 0), (30, .new 19, 33, 0), (33, .dup, 34, 0), (34, .bipush 34, 36, 0), (36, .invokespecial 25, 39, 0), (39, .putfield 28, 42, 0), (42, .aload_n 0, 43, 0), (43, .iload_n 1, 44, 0), (44, .putfield 32, 47, 0), (47, .iconst 0, 48, 0), (48, .istore_n 2, 49, 0), (49, .iload_n 2, 50, 0), (50, .aload_n 0, 51, 0), (51, .getfield 21, 54, 0), (54, .arraylength, 55, 0), (55, .if_icmp .ge 24, 58, 79), (58, .aload_n 0, 59, 0), (59, .getfield 21, 62, 0), (62, .iload_n 2, 63, 0), (63, .new 19, 66, 0), (66, .dup, 67, 0), (67, .bipush 34, 69, 0), (69, .invokespecial 25, 72, 0), (72, .aastore, 73, 0), (73, .iinc 2 1, 76, 0), (76, .goto (-27), 79, 49), (79, .return_, 80, 0)]
set_option maxRecDepth 20000 in
theorem pgc_12 : pgC_12.all (pg_ok (pg_cc 12)) = true := by decide +kernel
/-- MarkovDesk$Walk.<init>(LMarkovDesk$Space;)V -/
def pgC_13_0 : List (Nat × Instr × Nat × Nat) := [(0, .aload_n 0, 1, 0), (1, .invokespecial 3, 4, 0), (4, .aload_n 0, 5, 0), (5, .bipush 24, 7, 0), (7, .anewarray 9, 10, 0), (10, .putfield 11, 13, 0), (13, .aload_n 0, 14, 0), (14, .bipush 24, 16, 0), (16, .anewarray 9, 19, 0), (19, .putfield 17, 22, 0), (22, .aload_n 0, 23, 0), (23, .new 9, 26, 0), (26, .dup, 27, 0), (27, .sipush 380, 30, 0), (30, .invokespecial 20, 33, 0), (33, .putfield 23, 36, 0), (36, .aload_n 0, 37, 0), (37, .new 9, 40, 0), (40, .dup, 41, 0), (41, .sipush 380, 44, 0), (44, .invokespecial 20, 47, 0), (47, .putfield 27, 50, 0), (50, .aload_n 0, 51, 0), (51, .new 9, 54, 0), (54, .dup, 55, 0), (55, .sipush 380, 58, 0), (58, .invokespecial 20, 61, 0), (61, .putfield 30, 64, 0), (64, .aload_n 0, 65, 0), (65, .new 9, 68, 0), (68, .dup, 69, 0), (69, .bipush 34, 71, 0), (71, .invokespecial 20, 74, 0), (74, .putfield 33, 77, 0), (77, .aload_n 0, 78, 0), (78, .new 9, 81, 0), (81, .dup, 82, 0), (82, .bipush 34, 84, 0), (84, .invokespecial 20, 87, 0), (87, .putfield 36, 90, 0), (90, .aload_n 0, 91, 0), (91, .new 9, 94, 0), (94, .dup, 95, 0), (95, .bipush 34, 97, 0), (97, .invokespecial 20, 100, 0), (100, .putfield 39, 103, 0), (103, .aload_n 0, 104, 0), (104, .new 9, 107, 0), (107, .dup, 108, 0), (108, .bipush 34, 110, 0), (110, .invokespecial 20, 113, 0), (113, .putfield 42, 116, 0), (116, .aload_n 0, 117, 0), (117, .aload_n 1, 118, 0), (118, .putfield 45, 121, 0), (121, .iconst 0, 122, 0), (122, .istore_n 2, 123, 0), (123, .iload_n 2, 124, 0), (124, .bipush 24, 126, 0), (126, .if_icmp .ge 41, 129, 167)]
set_option maxRecDepth 20000 in
theorem pgc_13_0 : pgC_13_0.all (pg_ok (pg_cc 13)) = true := by decide +kernel
/-- MarkovDesk$Walk.<init>(LMarkovDesk$Space;)V -/
def pgC_13_1 : List (Nat × Instr × Nat × Nat) := [(129, .aload_n 0, 130, 0), (130, .getfield 11, 133, 0), (133, .iload_n 2, 134, 0), (134, .new 9, 137, 0), (137, .dup, 138, 0), (138, .sipush 380, 141, 0), (141, .invokespecial 20, 144, 0), (144, .aastore, 145, 0), (145, .aload_n 0, 146, 0), (146, .getfield 17, 149, 0), (149, .iload_n 2, 150, 0), (150, .new 9, 153, 0), (153, .dup, 154, 0), (154, .sipush 380, 157, 0), (157, .invokespecial 20, 160, 0), (160, .aastore, 161, 0), (161, .iinc 2 1, 164, 0), (164, .goto (-41), 167, 123), (167, .return_, 168, 0)]
set_option maxRecDepth 20000 in
theorem pgc_13_1 : pgC_13_1.all (pg_ok (pg_cc 13)) = true := by decide +kernel
def pgC_13 : List (Nat × Instr × Nat × Nat) := pgC_13_0 ++ (pgC_13_1)
theorem pgc_13 : pgC_13.all (pg_ok (pg_cc 13)) = true := pg_all2 pgc_13_0 (pgc_13_1)
/-- MarkovDesk$Ratio.<init>()V -/
def pgC_14 : List (Nat × Instr × Nat × Nat) := [(0, .aload_n 0, 1, 0), (1, .invokespecial 3, 4, 0), (4, .aload_n 0, 5, 0), (5, .new 9, 8, 0), (8, .dup, 9, 0), (9, .sipush 380, 12, 0), (12, .invokespecial 11, 15, 0), (15, .putfield 14, 18, 0), (18, .aload_n 0, 19, 0), (19, .new 9, 22, 0), (22, .dup, 23, 0), (23, .sipush 380, 26, 0), (26, .invokespecial 11, 29, 0), (29, .putfield 20, 32, 0), (32, .aload_n 0, 33, 0), (33, .new 9, 36, 0), (36, .dup, 37, 0), (37, .sipush 380, 40, 0), (40, .invokespecial 11, 43, 0), (43, .putfield 23, 46, 0), (46, .aload_n 0, 47, 0), (47, .new 9, 50, 0), (50, .dup, 51, 0), (51, .sipush 380, 54, 0), (54, .invokespecial 11, 57, 0), (57, .putfield 26, 60, 0), (60, .aload_n 0, 61, 0), (61, .new 9, 64, 0), (64, .dup, 65, 0), (65, .sipush 380, 68, 0), (68, .invokespecial 11, 71, 0), (71, .putfield 29, 74, 0), (74, .aload_n 0, 75, 0), (75, .getfield 20, 78, 0), (78, .lconst 1, 79, 0), (79, .invokevirtual 32, 82, 0), (82, .return_, 83, 0)]
set_option maxRecDepth 20000 in
theorem pgc_14 : pgC_14.all (pg_ok (pg_cc 14)) = true := by decide +kernel
/-- MarkovDesk.wrong()I -/
def pgC_15 : List (Nat × Instr × Nat × Nat) := [(0, .aload_n 0, 1, 0), (1, .getfield 31, 4, 0), (4, .getfield 144, 7, 0), (7, .ireturn, 8, 0)]
set_option maxRecDepth 20000 in
theorem pgc_15 : pgC_15.all (pg_ok (pg_cc 15)) = true := by decide +kernel
/-- MarkovDesk.bits(Z)I -/
def pgC_16 : List (Nat × Instr × Nat × Nat) := [(0, .iload_n 1, 1, 0), (1, .ifCond .eq 16, 4, 17), (4, .aload_n 0, 5, 0), (5, .getfield 75, 8, 0), (8, .getfield 235, 11, 0), (11, .invokevirtual 251, 14, 0), (14, .goto 13, 17, 27), (17, .aload_n 0, 18, 0), (18, .getfield 75, 21, 0), (21, .getfield 233, 24, 0), (24, .invokevirtual 251, 27, 0), (27, .ireturn, 28, 0)]
set_option maxRecDepth 20000 in
theorem pgc_16 : pgC_16.all (pg_ok (pg_cc 16)) = true := by decide +kernel
/-- MarkovDesk$Nat.bitLength()I -/
def pgC_17 : List (Nat × Instr × Nat × Nat) := [(0, .aload_n 0, 1, 0), (1, .getfield 21, 4, 0), (4, .ifCond .ne 7, 7, 11), (7, .iconst 0, 8, 0), (8, .goto 26, 11, 34), (11, .aload_n 0, 12, 0), (12, .getfield 21, 15, 0), (15, .bipush 31, 17, 0), (17, .imul, 18, 0), (18, .iconst 1, 19, 0), (19, .iadd, 20, 0), (20, .aload_n 0, 21, 0), (21, .aload_n 0, 22, 0), (22, .getfield 21, 25, 0), (25, .iconst 1, 26, 0), (26, .isub, 27, 0), (27, .invokevirtual 36, 30, 0), (30, .invokestatic 40, 33, 0), (33, .isub, 34, 0), (34, .ireturn, 35, 0)]
set_option maxRecDepth 20000 in
theorem pgc_17 : pgC_17.all (pg_ok (pg_cc 17)) = true := by decide +kernel
/-- MarkovDesk$Nat.digit(I)I -/
def pgC_18 : List (Nat × Instr × Nat × Nat) := [(0, .iload_n 1, 1, 0), (1, .ifCond .lt 29, 4, 30), (4, .iload_n 1, 5, 0), (5, .aload_n 0, 6, 0), (6, .getfield 21, 9, 0), (9, .if_icmp .ge 21, 12, 30), (12, .iload_n 1, 13, 0), (13, .aload_n 0, 14, 0), (14, .getfield 15, 17, 0), (17, .arraylength, 18, 0), (18, .if_icmp .ge 12, 21, 30), (21, .aload_n 0, 22, 0), (22, .getfield 15, 25, 0), (25, .iload_n 1, 26, 0), (26, .iaload, 27, 0), (27, .goto 4, 30, 31), (30, .iconst 0, 31, 0), (31, .ireturn, 32, 0)]
set_option maxRecDepth 20000 in
theorem pgc_18 : pgC_18.all (pg_ok (pg_cc 18)) = true := by decide +kernel
/-- java/lang/Integer.numberOfLeadingZeros(I)I -/
def pgC_19 : List (Nat × Instr × Nat × Nat) := [(0, .iload_n 0, 1, 0), (1, .ifCond .gt 14, 4, 15), (4, .iload_n 0, 5, 0), (5, .ifCond .ne 8, 8, 13), (8, .bipush 32, 10, 0), (10, .goto 4, 13, 14), (13, .iconst 0, 14, 0), (14, .ireturn, 15, 0), (15, .bipush 31, 17, 0), (17, .istore_n 1, 18, 0), (18, .iload_n 0, 19, 0), (19, .ldc_w 264, 22, 0), (22, .if_icmp .lt 11, 25, 33), (25, .iinc 1 (-16), 28, 0), (28, .iload_n 0, 29, 0), (29, .bipush 16, 31, 0), (31, .iushr, 32, 0), (32, .istore_n 0, 33, 0), (33, .iload_n 0, 34, 0), (34, .sipush 256, 37, 0), (37, .if_icmp .lt 11, 40, 48), (40, .iinc 1 (-8), 43, 0), (43, .iload_n 0, 44, 0), (44, .bipush 8, 46, 0), (46, .iushr, 47, 0), (47, .istore_n 0, 48, 0), (48, .iload_n 0, 49, 0), (49, .bipush 16, 51, 0), (51, .if_icmp .lt 10, 54, 61), (54, .iinc 1 (-4), 57, 0), (57, .iload_n 0, 58, 0), (58, .iconst 4, 59, 0), (59, .iushr, 60, 0), (60, .istore_n 0, 61, 0), (61, .iload_n 0, 62, 0), (62, .iconst 4, 63, 0), (63, .if_icmp .lt 10, 66, 73), (66, .iinc 1 (-2), 69, 0), (69, .iload_n 0, 70, 0), (70, .iconst 2, 71, 0), (71, .iushr, 72, 0), (72, .istore_n 0, 73, 0), (73, .iload_n 1, 74, 0), (74, .iload_n 0, 75, 0), (75, .iconst 1, 76, 0), (76, .iushr, 77, 0), (77, .isub, 78, 0), (78, .ireturn, 79, 0)]
set_option maxRecDepth 20000 in
theorem pgc_19 : pgC_19.all (pg_ok (pg_cc 19)) = true := by decide +kernel
/-- MarkovDeskLaw.feed(LMarkovDesk;IIIII[J)I -/
def pgC_20 : List (Nat × Instr × Nat × Nat) := [(0, .aload 6, 2, 0), (2, .iconst 0, 3, 0), (3, .aload_n 0, 4, 0), (4, .iload_n 1, 5, 0), (5, .iload_n 2, 6, 0), (6, .iload_n 3, 7, 0), (7, .iload 4, 9, 0), (9, .iload 5, 11, 0), (11, .invokevirtual 7, 14, 0), (14, .i2l, 15, 0), (15, .lastore, 16, 0), (16, .goto 7, 19, 23), (19, .astore 7, 21, 0), (21, .iconst 1, 22, 0), (22, .ireturn, 23, 0), (23, .iconst 0, 24, 0), (24, .ireturn, 25, 0)]
set_option maxRecDepth 20000 in
theorem pgc_20 : pgC_20.all (pg_ok (pg_cc 20)) = true := by decide +kernel
/-- MarkovDesk.feed(IIIII)I -/
def pgC_21 : List (Nat × Instr × Nat × Nat) := [(0, .aload_n 0, 1, 0), (1, .getfield 15, 4, 0), (4, .getfield 98, 7, 0), (7, .sipush 8180, 10, 0), (10, .if_icmp .le 11, 13, 21), (13, .new 102, 16, 0), (16, .dup, 17, 0), (17, .invokespecial 104, 20, 0), (20, .athrow, 21, 0), (21, .aload_n 0, 22, 0), (22, .getfield 15, 25, 0), (25, .iload_n 1, 26, 0), (26, .invokevirtual 105, 29, 0), (29, .aload_n 0, 30, 0), (30, .getfield 15, 33, 0), (33, .iload_n 2, 34, 0), (34, .invokevirtual 105, 37, 0), (37, .aload_n 0, 38, 0), (38, .getfield 15, 41, 0), (41, .iload_n 3, 42, 0), (42, .invokevirtual 105, 45, 0), (45, .aload_n 0, 46, 0), (46, .getfield 15, 49, 0), (49, .iload 4, 51, 0), (51, .invokevirtual 105, 54, 0), (54, .aload_n 0, 55, 0), (55, .getfield 15, 58, 0), (58, .iload 5, 60, 0), (60, .invokevirtual 105, 63, 0), (63, .aload_n 0, 64, 0), (64, .getfield 15, 67, 0), (67, .getfield 98, 70, 0), (70, .ireturn, 71, 0)]
set_option maxRecDepth 20000 in
theorem pgc_21 : pgC_21.all (pg_ok (pg_cc 21)) = true := by decide +kernel
/-- MarkovDesk$Tokens.push(I)V -/
def pgC_22 : List (Nat × Instr × Nat × Nat) := [(0, .bipush 24, 2, 0), (2, .istore_n 2, 3, 0), (3, .iload_n 2, 4, 0), (4, .ifCond .lt 47, 7, 51), (7, .aload_n 0, 8, 0), (8, .getfield 27, 11, 0), (11, .aload_n 0, 12, 0), (12, .getfield 9, 15, 0), (15, .arraylength, 16, 0), (16, .if_icmp .ge 35, 19, 51), (19, .aload_n 0, 20, 0), (20, .getfield 9, 23, 0), (23, .aload_n 0, 24, 0), (24, .getfield 27, 27, 0), (27, .iload_n 1, 28, 0), (28, .iload_n 2, 29, 0), (29, .iushr, 30, 0), (30, .sipush 255, 33, 0), (33, .iand, 34, 0), (34, .iastore, 35, 0), (35, .aload_n 0, 36, 0), (36, .dup, 37, 0), (37, .getfield 27, 40, 0), (40, .iconst 1, 41, 0), (41, .iadd, 42, 0), (42, .putfield 27, 45, 0), (45, .iinc 2 (-8), 48, 0), (48, .goto (-45), 51, 3), (51, .return_, 52, 0)]
set_option maxRecDepth 20000 in
theorem pgc_22 : pgC_22.all (pg_ok (pg_cc 22)) = true := by decide +kernel
/-- MarkovDeskLaw.end(LMarkovDesk;I[J)I -/
def pgC_23 : List (Nat × Instr × Nat × Nat) := [(0, .aload_n 2, 1, 0), (1, .iconst 0, 2, 0), (2, .aload_n 0, 3, 0), (3, .iload_n 1, 4, 0), (4, .invokevirtual 15, 7, 0), (7, .i2l, 8, 0), (8, .lastore, 9, 0), (9, .goto 9, 12, 18), (12, .astore_n 3, 13, 0), (13, .iconst 1, 14, 0), (14, .ireturn, 15, 0), (15, .astore_n 3, 16, 0), (16, .iconst 2, 17, 0), (17, .ireturn, 18, 0), (18, .iconst 0, 19, 0), (19, .ireturn, 20, 0)]
set_option maxRecDepth 20000 in
theorem pgc_23 : pgC_23.all (pg_ok (pg_cc 23)) = true := by decide +kernel
/-- MarkovDesk.end(I)I -/
def pgC_24_0 : List (Nat × Instr × Nat × Nat) := [(0, .iload_n 1, 1, 0), (1, .ifCond .lt 21, 4, 22), (4, .iload_n 1, 5, 0), (5, .sipush 8192, 8, 0), (8, .if_icmp .gt 14, 11, 22), (11, .iload_n 1, 12, 0), (12, .aload_n 0, 13, 0), (13, .getfield 15, 16, 0), (16, .getfield 98, 19, 0), (19, .if_icmp .le 11, 22, 30), (22, .new 102, 25, 0), (25, .dup, 26, 0), (26, .invokespecial 104, 29, 0), (29, .athrow, 30, 0), (30, .aload_n 0, 31, 0), (31, .getfield 15, 34, 0), (34, .iconst 0, 35, 0), (35, .putfield 98, 38, 0), (38, .aload_n 0, 39, 0), (39, .getfield 22, 42, 0), (42, .iconst 0, 43, 0), (43, .putfield 108, 46, 0), (46, .aload_n 0, 47, 0), (47, .invokevirtual 112, 50, 0), (50, .aload_n 0, 51, 0), (51, .getfield 31, 54, 0), (54, .iload_n 1, 55, 0), (55, .invokevirtual 115, 58, 0), (58, .iconst 0, 59, 0), (59, .istore_n 2, 60, 0), (60, .iload_n 2, 61, 0), (61, .sipush 1500, 64, 0), (64, .if_icmp .ge 28, 67, 92), (67, .aload_n 0, 68, 0), (68, .getfield 31, 71, 0), (71, .invokevirtual 118, 74, 0), (74, .bipush 6, 76, 0), (76, .if_icmp .ne 16, 79, 92), (79, .aload_n 0, 80, 0), (80, .getfield 31, 83, 0), (83, .invokevirtual 122, 86, 0), (86, .iinc 2 1, 89, 0), (89, .goto (-29), 92, 60), (92, .iconst 1, 93, 0), (93, .istore_n 2, 94, 0), (94, .iconst 0, 95, 0), (95, .istore_n 3, 96, 0), (96, .iload_n 3, 97, 0), (97, .iconst 3, 98, 0), (98, .if_icmp .gt 99, 101, 197), (101, .iload_n 2, 102, 0), (102, .ifCond .eq 95, 105, 197), (105, .aload_n 0, 106, 0), (106, .getfield 31, 109, 0), (109, .invokevirtual 125, 112, 0), (112, .iconst 0, 113, 0), (113, .istore 4, 115, 0), (115, .iload 4, 117, 0), (117, .sipush 1500, 120, 0), (120, .if_icmp .ge 27, 123, 147)]
set_option maxRecDepth 20000 in
theorem pgc_24_0 : pgC_24_0.all (pg_ok (pg_cc 24)) = true := by decide +kernel
/-- MarkovDesk.end(I)I -/
def pgC_24_1 : List (Nat × Instr × Nat × Nat) := [(123, .aload_n 0, 124, 0), (124, .getfield 31, 127, 0), (127, .invokevirtual 118, 130, 0), (130, .iconst 2, 131, 0), (131, .if_icmp .ne 16, 134, 147), (134, .aload_n 0, 135, 0), (135, .getfield 31, 138, 0), (138, .invokevirtual 128, 141, 0), (141, .iinc 4 1, 144, 0), (144, .goto (-29), 147, 115), (147, .iconst 0, 148, 0), (148, .istore 4, 150, 0), (150, .iload 4, 152, 0), (152, .sipush 1500, 155, 0), (155, .if_icmp .ge 28, 158, 183), (158, .aload_n 0, 159, 0), (159, .getfield 31, 162, 0), (162, .invokevirtual 118, 165, 0), (165, .bipush 41, 167, 0), (167, .if_icmp .ne 16, 170, 183), (170, .aload_n 0, 171, 0), (171, .getfield 31, 174, 0), (174, .invokevirtual 131, 177, 0), (177, .iinc 4 1, 180, 0), (180, .goto (-30), 183, 150), (183, .aload_n 0, 184, 0), (184, .getfield 31, 187, 0), (187, .invokevirtual 134, 190, 0), (190, .istore_n 2, 191, 0), (191, .iinc 3 1, 194, 0), (194, .goto (-98), 197, 96), (197, .aload_n 0, 198, 0), (198, .getfield 31, 201, 0), (201, .invokevirtual 138, 204, 0), (204, .aload_n 0, 205, 0), (205, .getfield 22, 208, 0), (208, .iconst 1, 209, 0), (209, .putfield 108, 212, 0), (212, .aload_n 0, 213, 0), (213, .getfield 15, 216, 0), (216, .getfield 141, 219, 0), (219, .ireturn, 220, 0)]
set_option maxRecDepth 20000 in
theorem pgc_24_1 : pgC_24_1.all (pg_ok (pg_cc 24)) = true := by decide +kernel
def pgC_24 : List (Nat × Instr × Nat × Nat) := pgC_24_0 ++ (pgC_24_1)
theorem pgc_24 : pgC_24.all (pg_ok (pg_cc 24)) = true := pg_all2 pgc_24_0 (pgc_24_1)
end
section
/-- MarkovDesk.forget()V -/
def pgC_25 : List (Nat × Instr × Nat × Nat) := [(0, .aload_n 0, 1, 0), (1, .getfield 40, 4, 0), (4, .iconst 0, 5, 0), (5, .putfield 159, 8, 0), (8, .aload_n 0, 9, 0), (9, .getfield 58, 12, 0), (12, .invokevirtual 285, 15, 0), (15, .aload_n 0, 16, 0), (16, .getfield 62, 19, 0), (19, .invokevirtual 285, 22, 0), (22, .iconst 0, 23, 0), (23, .istore_n 1, 24, 0), (24, .iload_n 1, 25, 0), (25, .bipush 24, 27, 0), (27, .if_icmp .ge 29, 30, 56), (30, .aload_n 0, 31, 0), (31, .getfield 81, 34, 0), (34, .iload_n 1, 35, 0), (35, .aaload, 36, 0), (36, .lconst 0, 37, 0), (37, .invokevirtual 202, 40, 0), (40, .aload_n 0, 41, 0), (41, .getfield 85, 44, 0), (44, .iload_n 1, 45, 0), (45, .aaload, 46, 0), (46, .lconst 1, 47, 0), (47, .invokevirtual 202, 50, 0), (50, .iinc 1 1, 53, 0), (53, .goto (-29), 56, 24), (56, .return_, 57, 0)]
set_option maxRecDepth 20000 in
theorem pgc_25 : pgC_25.all (pg_ok (pg_cc 25)) = true := by decide +kernel
/-- MarkovDesk$Answer.clear()V -/
def pgC_26 : List (Nat × Instr × Nat × Nat) := [(0, .aload_n 0, 1, 0), (1, .iconst 0, 2, 0), (2, .putfield 36, 5, 0), (5, .aload_n 0, 6, 0), (6, .iconst 0, 7, 0), (7, .putfield 39, 10, 0), (10, .return_, 11, 0)]
set_option maxRecDepth 20000 in
theorem pgc_26 : pgC_26.all (pg_ok (pg_cc 26)) = true := by decide +kernel
/-- MarkovDesk$Reader.startOn(I)V -/
def pgC_27 : List (Nat × Instr × Nat × Nat) := [(0, .aload_n 0, 1, 0), (1, .iconst (-1), 2, 0), (2, .putfield 39, 5, 0), (5, .aload_n 0, 6, 0), (6, .getfield 51, 9, 0), (9, .invokevirtual 55, 12, 0), (12, .aload_n 0, 13, 0), (13, .getfield 47, 16, 0), (16, .iconst 0, 17, 0), (17, .putfield 60, 20, 0), (20, .aload_n 0, 21, 0), (21, .iconst 0, 22, 0), (22, .putfield 65, 25, 0), (25, .aload_n 0, 26, 0), (26, .getfield 43, 29, 0), (29, .iload_n 1, 30, 0), (30, .invokevirtual 68, 33, 0), (33, .istore_n 2, 34, 0), (34, .iload_n 2, 35, 0), (35, .ifCond .lt 8, 38, 43), (38, .aload_n 0, 39, 0), (39, .iload_n 2, 40, 0), (40, .invokevirtual 74, 43, 0), (43, .aload_n 0, 44, 0), (44, .getfield 43, 47, 0), (47, .iload_n 1, 48, 0), (48, .invokevirtual 78, 51, 0), (51, .aload_n 0, 52, 0), (52, .iconst (-1), 53, 0), (53, .putfield 81, 56, 0), (56, .aload_n 0, 57, 0), (57, .invokevirtual 84, 60, 0), (60, .aload_n 0, 61, 0), (61, .iconst 5, 62, 0), (62, .invokevirtual 87, 65, 0), (65, .return_, 66, 0)]
set_option maxRecDepth 20000 in
theorem pgc_27 : pgC_27.all (pg_ok (pg_cc 27)) = true := by decide +kernel
/-- MarkovDesk$Model.clear()V -/
def pgC_28 : List (Nat × Instr × Nat × Nat) := [(0, .aload_n 0, 1, 0), (1, .iconst 0, 2, 0), (2, .putfield 52, 5, 0), (5, .aload_n 0, 6, 0), (6, .iconst 0, 7, 0), (7, .putfield 56, 10, 0), (10, .aload_n 0, 11, 0), (11, .iconst 0, 12, 0), (12, .putfield 59, 15, 0), (15, .aload_n 0, 16, 0), (16, .iconst 0, 17, 0), (17, .putfield 62, 20, 0), (20, .aload_n 0, 21, 0), (21, .iconst 0, 22, 0), (22, .putfield 65, 25, 0), (25, .aload_n 0, 26, 0), (26, .iconst 0, 27, 0), (27, .putfield 68, 30, 0), (30, .return_, 31, 0)]
set_option maxRecDepth 20000 in
theorem pgc_28 : pgC_28.all (pg_ok (pg_cc 28)) = true := by decide +kernel
/-- MarkovDesk$Tokens.foreignOctet(I)I -/
def pgC_29 : List (Nat × Instr × Nat × Nat) := [(0, .iconst 0, 1, 0), (1, .istore_n 2, 2, 0), (2, .iload_n 2, 3, 0), (3, .iload_n 1, 4, 0), (4, .if_icmp .ge 53, 7, 57), (7, .iload_n 2, 8, 0), (8, .aload_n 0, 9, 0), (9, .getfield 9, 12, 0), (12, .arraylength, 13, 0), (13, .if_icmp .ge 44, 16, 57), (16, .aload_n 0, 17, 0), (17, .getfield 9, 20, 0), (20, .iload_n 2, 21, 0), (21, .iaload, 22, 0), (22, .bipush 10, 24, 0), (24, .if_icmp .eq 27, 27, 51), (27, .aload_n 0, 28, 0), (28, .getfield 9, 31, 0), (31, .iload_n 2, 32, 0), (32, .iaload, 33, 0), (33, .bipush 32, 35, 0), (35, .if_icmp .lt 14, 38, 49), (38, .aload_n 0, 39, 0), (39, .getfield 9, 42, 0), (42, .iload_n 2, 43, 0), (43, .iaload, 44, 0), (44, .bipush 126, 46, 0), (46, .if_icmp .le 5, 49, 51), (49, .iload_n 2, 50, 0), (50, .ireturn, 51, 0), (51, .iinc 2 1, 54, 0), (54, .goto (-52), 57, 2), (57, .iconst (-1), 58, 0), (58, .ireturn, 59, 0)]
set_option maxRecDepth 20000 in
theorem pgc_29 : pgC_29.all (pg_ok (pg_cc 29)) = true := by decide +kernel
/-- MarkovDesk$Reader.fail(I)V -/
def pgC_30 : List (Nat × Instr × Nat × Nat) := [(0, .aload_n 0, 1, 0), (1, .iload_n 1, 2, 0), (2, .putfield 39, 5, 0), (5, .new 282, 8, 0), (8, .dup, 9, 0), (9, .invokespecial 284, 12, 0), (12, .athrow, 13, 0)]
set_option maxRecDepth 20000 in
theorem pgc_30 : pgC_30.all (pg_ok (pg_cc 30)) = true := by decide +kernel
/-- MarkovDesk$Tokens.scan(I)V -/
def pgC_31_0 : List (Nat × Instr × Nat × Nat) := [(0, .aload_n 0, 1, 0), (1, .iload_n 1, 2, 0), (2, .aload_n 0, 3, 0), (3, .getfield 9, 6, 0), (6, .arraylength, 7, 0), (7, .invokestatic 31, 10, 0), (10, .putfield 37, 13, 0), (13, .aload_n 0, 14, 0), (14, .iconst 0, 15, 0), (15, .putfield 40, 18, 0), (18, .iconst 0, 19, 0), (19, .istore_n 2, 20, 0), (20, .iconst 1, 21, 0), (21, .istore_n 3, 22, 0), (22, .iconst 0, 23, 0), (23, .istore 4, 25, 0), (25, .iload 4, 27, 0), (27, .aload_n 0, 28, 0), (28, .getfield 15, 31, 0), (31, .arraylength, 32, 0), (32, .if_icmp .ge 87, 35, 119), (35, .iload_n 3, 36, 0), (36, .ifCond .eq 83, 39, 119), (39, .aload_n 0, 40, 0), (40, .iload_n 2, 41, 0), (41, .invokevirtual 43, 44, 0), (44, .istore_n 2, 45, 0), (45, .aload_n 0, 46, 0), (46, .iload 4, 48, 0), (48, .iload_n 2, 49, 0), (49, .invokevirtual 47, 52, 0), (52, .iload 4, 54, 0), (54, .sipush 1500, 57, 0), (57, .if_icmp .ne 11, 60, 68), (60, .aload_n 0, 61, 0), (61, .getfield 15, 64, 0), (64, .iload 4, 66, 0), (66, .iconst 1, 67, 0), (67, .iastore, 68, 0), (68, .aload_n 0, 69, 0), (69, .iload 4, 71, 0), (71, .iconst 1, 72, 0), (72, .iadd, 73, 0), (73, .putfield 40, 76, 0), (76, .aload_n 0, 77, 0), (77, .getfield 15, 80, 0), (80, .iload 4, 82, 0), (82, .iaload, 83, 0), (83, .ifCond .eq 18, 86, 101), (86, .aload_n 0, 87, 0), (87, .getfield 15, 90, 0), (90, .iload 4, 92, 0), (92, .iaload, 93, 0), (93, .iconst 1, 94, 0), (94, .if_icmp .eq 7, 97, 101), (97, .iconst 1, 98, 0), (98, .goto 4, 101, 102), (101, .iconst 0, 102, 0), (102, .istore_n 3, 103, 0), (103, .iload_n 2, 104, 0)]
set_option maxRecDepth 20000 in
theorem pgc_31_0 : pgC_31_0.all (pg_ok (pg_cc 31)) = true := by decide +kernel
/-- MarkovDesk$Tokens.scan(I)V -/
def pgC_31_1 : List (Nat × Instr × Nat × Nat) := [(104, .aload_n 0, 105, 0), (105, .getfield 21, 108, 0), (108, .iload 4, 110, 0), (110, .iaload, 111, 0), (111, .iadd, 112, 0), (112, .istore_n 2, 113, 0), (113, .iinc 4 1, 116, 0), (116, .goto (-91), 119, 25), (119, .return_, 120, 0)]
set_option maxRecDepth 20000 in
theorem pgc_31_1 : pgC_31_1.all (pg_ok (pg_cc 31)) = true := by decide +kernel
def pgC_31 : List (Nat × Instr × Nat × Nat) := pgC_31_0 ++ (pgC_31_1)
theorem pgc_31 : pgC_31.all (pg_ok (pg_cc 31)) = true := pg_all2 pgc_31_0 (pgc_31_1)
/-- java/lang/Math.min(II)I -/
def pgC_32 : List (Nat × Instr × Nat × Nat) := [(0, .iload_n 0, 1, 0), (1, .iload_n 1, 2, 0), (2, .if_icmp .gt 7, 5, 9), (5, .iload_n 0, 6, 0), (6, .goto 4, 9, 10), (9, .iload_n 1, 10, 0), (10, .ireturn, 11, 0)]
set_option maxRecDepth 20000 in
theorem pgc_32 : pgC_32.all (pg_ok (pg_cc 32)) = true := by decide +kernel
/-- MarkovDesk$Tokens.afterBlanks(I)I -/
def pgC_33 : List (Nat × Instr × Nat × Nat) := [(0, .iconst 0, 1, 0), (1, .istore_n 2, 2, 0), (2, .iload_n 1, 3, 0), (3, .istore_n 3, 4, 0), (4, .iload_n 3, 5, 0), (5, .aload_n 0, 6, 0), (6, .getfield 37, 9, 0), (9, .if_icmp .ge 76, 12, 85), (12, .aload_n 0, 13, 0), (13, .iload_n 3, 14, 0), (14, .invokevirtual 51, 17, 0), (17, .istore 4, 19, 0), (19, .iload_n 2, 20, 0), (20, .ifCond .eq 19, 23, 39), (23, .iload 4, 25, 0), (25, .bipush 10, 27, 0), (27, .if_icmp .eq 7, 30, 34), (30, .iconst 1, 31, 0), (31, .goto 4, 34, 35), (34, .iconst 0, 35, 0), (35, .istore_n 2, 36, 0), (36, .goto 43, 39, 79), (39, .iload 4, 41, 0), (41, .bipush 47, 43, 0), (43, .if_icmp .ne 20, 46, 63), (46, .aload_n 0, 47, 0), (47, .iload_n 3, 48, 0), (48, .iconst 1, 49, 0), (49, .iadd, 50, 0), (50, .invokevirtual 51, 53, 0), (53, .bipush 47, 55, 0), (55, .if_icmp .ne 8, 58, 63), (58, .iconst 1, 59, 0), (59, .istore_n 2, 60, 0), (60, .goto 19, 63, 79), (63, .iload 4, 65, 0), (65, .bipush 10, 67, 0), (67, .if_icmp .eq 12, 70, 79), (70, .iload 4, 72, 0), (72, .bipush 32, 74, 0), (74, .if_icmp .eq 5, 77, 79), (77, .iload_n 3, 78, 0), (78, .ireturn, 79, 0), (79, .iinc 3 1, 82, 0), (82, .goto (-78), 85, 4), (85, .aload_n 0, 86, 0), (86, .getfield 37, 89, 0), (89, .ireturn, 90, 0)]
set_option maxRecDepth 20000 in
theorem pgc_33 : pgC_33.all (pg_ok (pg_cc 33)) = true := by decide +kernel
/-- MarkovDesk$Tokens.octetAt(I)I -/
def pgC_34 : List (Nat × Instr × Nat × Nat) := [(0, .iload_n 1, 1, 0), (1, .ifCond .lt 20, 4, 21), (4, .iload_n 1, 5, 0), (5, .aload_n 0, 6, 0), (6, .getfield 37, 9, 0), (9, .if_icmp .ge 12, 12, 21), (12, .aload_n 0, 13, 0), (13, .getfield 9, 16, 0), (16, .iload_n 1, 17, 0), (17, .iaload, 18, 0), (18, .goto 4, 21, 22), (21, .iconst 0, 22, 0), (22, .ireturn, 23, 0)]
set_option maxRecDepth 20000 in
theorem pgc_34 : pgC_34.all (pg_ok (pg_cc 34)) = true := by decide +kernel
/-- MarkovDesk$Tokens.scanToken(II)V -/
def pgC_35 : List (Nat × Instr × Nat × Nat) := [(0, .aload_n 0, 1, 0), (1, .getfield 18, 4, 0), (4, .iload_n 1, 5, 0), (5, .iload_n 2, 6, 0), (6, .iastore, 7, 0), (7, .aload_n 0, 8, 0), (8, .getfield 24, 11, 0), (11, .iload_n 1, 12, 0), (12, .iconst 0, 13, 0), (13, .iastore, 14, 0), (14, .aload_n 0, 15, 0), (15, .iload_n 2, 16, 0), (16, .invokevirtual 51, 19, 0), (19, .istore_n 3, 20, 0), (20, .iload_n 2, 21, 0), (21, .aload_n 0, 22, 0), (22, .getfield 37, 25, 0), (25, .if_icmp .lt 20, 28, 45), (28, .aload_n 0, 29, 0), (29, .getfield 15, 32, 0), (32, .iload_n 1, 33, 0), (33, .iconst 0, 34, 0), (34, .iastore, 35, 0), (35, .aload_n 0, 36, 0), (36, .getfield 21, 39, 0), (39, .iload_n 1, 40, 0), (40, .iconst 0, 41, 0), (41, .iastore, 42, 0), (42, .goto 48, 45, 90), (45, .iload_n 3, 46, 0), (46, .invokestatic 54, 49, 0), (49, .ifCond .eq 12, 52, 61), (52, .aload_n 0, 53, 0), (53, .iload_n 1, 54, 0), (54, .iload_n 2, 55, 0), (55, .invokevirtual 58, 58, 0), (58, .goto 32, 61, 90), (61, .iload_n 3, 62, 0), (62, .invokestatic 61, 65, 0), (65, .ifCond .eq 12, 68, 77), (68, .aload_n 0, 69, 0), (69, .iload_n 1, 70, 0), (70, .iload_n 2, 71, 0), (71, .invokevirtual 64, 74, 0), (74, .goto 16, 77, 90), (77, .aload_n 0, 78, 0), (78, .iload_n 1, 79, 0), (79, .iload_n 3, 80, 0), (80, .aload_n 0, 81, 0), (81, .iload_n 2, 82, 0), (82, .iconst 1, 83, 0), (83, .iadd, 84, 0), (84, .invokevirtual 51, 87, 0), (87, .invokevirtual 67, 90, 0), (90, .return_, 91, 0)]
set_option maxRecDepth 20000 in
theorem pgc_35 : pgC_35.all (pg_ok (pg_cc 35)) = true := by decide +kernel
/-- MarkovDesk$Reader.advance()V -/
def pgC_36 : List (Nat × Instr × Nat × Nat) := [(0, .aload_n 0, 1, 0), (1, .getfield 81, 4, 0), (4, .iconst 1, 5, 0), (5, .iadd, 6, 0), (6, .aload_n 0, 7, 0), (7, .getfield 43, 10, 0), (10, .getfield 270, 13, 0), (13, .if_icmp .ge 13, 16, 26), (16, .aload_n 0, 17, 0), (17, .dup, 18, 0), (18, .getfield 81, 21, 0), (21, .iconst 1, 22, 0), (22, .iadd, 23, 0), (23, .putfield 81, 26, 0), (26, .aload_n 0, 27, 0), (27, .invokevirtual 118, 30, 0), (30, .iconst 1, 31, 0), (31, .if_icmp .ne 11, 34, 42), (34, .aload_n 0, 35, 0), (35, .aload_n 0, 36, 0), (36, .invokevirtual 98, 39, 0), (39, .invokevirtual 74, 42, 0), (42, .return_, 43, 0)]
set_option maxRecDepth 20000 in
theorem pgc_36 : pgC_36.all (pg_ok (pg_cc 36)) = true := by decide +kernel
/-- MarkovDesk$Reader.kind()I -/
def pgC_37 : List (Nat × Instr × Nat × Nat) := [(0, .aload_n 0, 1, 0), (1, .getfield 81, 4, 0), (4, .ifCond .lt 32, 7, 36), (7, .aload_n 0, 8, 0), (8, .getfield 81, 11, 0), (11, .aload_n 0, 12, 0), (12, .getfield 43, 15, 0), (15, .getfield 270, 18, 0), (18, .if_icmp .ge 18, 21, 36), (21, .aload_n 0, 22, 0), (22, .getfield 43, 25, 0), (25, .getfield 273, 28, 0), (28, .aload_n 0, 29, 0), (29, .getfield 81, 32, 0), (32, .iaload, 33, 0), (33, .goto 4, 36, 37), (36, .iconst 0, 37, 0), (37, .ireturn, 38, 0)]
set_option maxRecDepth 20000 in
theorem pgc_37 : pgC_37.all (pg_ok (pg_cc 37)) = true := by decide +kernel
/-- MarkovDesk$Reader.place()I -/
def pgC_38 : List (Nat × Instr × Nat × Nat) := [(0, .aload_n 0, 1, 0), (1, .getfield 81, 4, 0), (4, .ifCond .lt 32, 7, 36), (7, .aload_n 0, 8, 0), (8, .getfield 81, 11, 0), (11, .aload_n 0, 12, 0), (12, .getfield 43, 15, 0), (15, .getfield 270, 18, 0), (18, .if_icmp .ge 18, 21, 36), (21, .aload_n 0, 22, 0), (22, .getfield 43, 25, 0), (25, .getfield 275, 28, 0), (28, .aload_n 0, 29, 0), (29, .getfield 81, 32, 0), (32, .iaload, 33, 0), (33, .goto 10, 36, 43), (36, .aload_n 0, 37, 0), (37, .getfield 43, 40, 0), (40, .getfield 277, 43, 0), (43, .ireturn, 44, 0)]
set_option maxRecDepth 20000 in
theorem pgc_38 : pgC_38.all (pg_ok (pg_cc 38)) = true := by decide +kernel
/-- MarkovDesk$Reader.take(I)V -/
def pgC_39 : List (Nat × Instr × Nat × Nat) := [(0, .aload_n 0, 1, 0), (1, .invokevirtual 118, 4, 0), (4, .iload_n 1, 5, 0), (5, .if_icmp .eq 11, 8, 16), (8, .aload_n 0, 9, 0), (9, .aload_n 0, 10, 0), (10, .invokevirtual 98, 13, 0), (13, .invokevirtual 74, 16, 0), (16, .aload_n 0, 17, 0), (17, .invokevirtual 84, 20, 0), (20, .return_, 21, 0)]
set_option maxRecDepth 20000 in
theorem pgc_39 : pgC_39.all (pg_ok (pg_cc 39)) = true := by decide +kernel
/-- MarkovDeskLaw.explore(LMarkovDesk;[J)I -/
def pgC_40 : List (Nat × Instr × Nat × Nat) := [(0, .aload_n 1, 1, 0), (1, .iconst 0, 2, 0), (2, .aload_n 0, 3, 0), (3, .invokevirtual 21, 6, 0), (6, .i2l, 7, 0), (7, .lastore, 8, 0), (8, .goto 12, 11, 20), (11, .astore_n 2, 12, 0), (12, .iconst 1, 13, 0), (13, .ireturn, 14, 0), (14, .astore_n 2, 15, 0), (15, .iconst 2, 16, 0), (16, .ireturn, 17, 0), (17, .astore_n 2, 18, 0), (18, .iconst 3, 19, 0), (19, .ireturn, 20, 0), (20, .iconst 0, 21, 0), (21, .ireturn, 22, 0)]
set_option maxRecDepth 20000 in
theorem pgc_40 : pgC_40.all (pg_ok (pg_cc 40)) = true := by decide +kernel
/-- MarkovDesk.explore()I -/
def pgC_41 : List (Nat × Instr × Nat × Nat) := [(0, .aload_n 0, 1, 0), (1, .getfield 22, 4, 0), (4, .getfield 108, 7, 0), (7, .ifCond .ne 11, 10, 18), (10, .new 147, 13, 0), (13, .dup, 14, 0), (14, .invokespecial 149, 17, 0), (17, .athrow, 18, 0), (18, .aload_n 0, 19, 0), (19, .invokevirtual 112, 22, 0), (22, .aload_n 0, 23, 0), (23, .getfield 40, 26, 0), (26, .invokevirtual 150, 29, 0), (29, .aload_n 0, 30, 0), (30, .getfield 40, 33, 0), (33, .getfield 153, 36, 0), (36, .ireturn, 37, 0)]
set_option maxRecDepth 20000 in
theorem pgc_41 : pgC_41.all (pg_ok (pg_cc 41)) = true := by decide +kernel
/-- MarkovDeskLaw.state(LMarkovDesk;III[J)I -/
def pgC_42 : List (Nat × Instr × Nat × Nat) := [(0, .aload 4, 2, 0), (2, .iconst 0, 3, 0), (3, .aload_n 0, 4, 0), (4, .iload_n 1, 5, 0), (5, .iload_n 2, 6, 0), (6, .iload_n 3, 7, 0), (7, .invokevirtual 31, 10, 0), (10, .i2l, 11, 0), (11, .lastore, 12, 0), (12, .goto 15, 15, 27), (15, .astore 5, 17, 0), (17, .iconst 1, 18, 0), (18, .ireturn, 19, 0), (19, .astore 5, 21, 0), (21, .iconst 2, 22, 0), (22, .ireturn, 23, 0), (23, .astore 5, 25, 0), (25, .iconst 3, 26, 0), (26, .ireturn, 27, 0), (27, .iconst 0, 28, 0), (28, .ireturn, 29, 0)]
set_option maxRecDepth 20000 in
theorem pgc_42 : pgC_42.all (pg_ok (pg_cc 42)) = true := by decide +kernel
/-- MarkovDesk.state(III)I -/
def pgC_43_0 : List (Nat × Instr × Nat × Nat) := [(0, .iload_n 2, 1, 0), (1, .ifCond .lt 8, 4, 9), (4, .iload_n 2, 5, 0), (5, .iconst 5, 6, 0), (6, .if_icmp .le 11, 9, 17), (9, .new 156, 12, 0), (12, .dup, 13, 0), (13, .invokespecial 158, 16, 0), (16, .athrow, 17, 0), (17, .aload_n 0, 18, 0), (18, .getfield 40, 21, 0), (21, .getfield 159, 24, 0), (24, .ifCond .eq 33, 27, 57), (27, .iload_n 2, 28, 0), (28, .iconst 2, 29, 0), (29, .if_icmp .ne 13, 32, 42), (32, .aload_n 0, 33, 0), (33, .getfield 58, 36, 0), (36, .getfield 160, 39, 0), (39, .ifCond .eq 18, 42, 57), (42, .iload_n 2, 43, 0), (43, .iconst 3, 44, 0), (44, .if_icmp .ne 21, 47, 65), (47, .aload_n 0, 48, 0), (48, .getfield 62, 51, 0), (51, .getfield 160, 54, 0), (54, .ifCond .ne 11, 57, 65), (57, .new 147, 60, 0), (60, .dup, 61, 0), (61, .invokespecial 149, 64, 0), (64, .athrow, 65, 0), (65, .aload_n 0, 66, 0), (66, .getfield 40, 69, 0), (69, .iload_n 1, 70, 0), (70, .invokevirtual 163, 73, 0), (73, .ifCond .ne 11, 76, 84), (76, .new 102, 79, 0), (79, .dup, 80, 0), (80, .invokespecial 104, 83, 0), (83, .athrow, 84, 0), (84, .iload_n 2, 85, 0), (85, .iconst 4, 86, 0), (86, .if_icmp .ne 13, 89, 99), (89, .aload_n 0, 90, 0), (90, .getfield 22, 93, 0), (93, .getfield 167, 96, 0), (96, .goto 20, 99, 116), (99, .iload_n 2, 100, 0), (100, .iconst 5, 101, 0), (101, .if_icmp .ne 14, 104, 115), (104, .aload_n 0, 105, 0), (105, .getfield 40, 108, 0), (108, .iload_n 1, 109, 0), (109, .invokevirtual 170, 112, 0), (112, .goto 4, 115, 116), (115, .iconst 1, 116, 0), (116, .istore 4, 118, 0), (118, .iload_n 3, 119, 0), (119, .ifCond .lt 9, 122, 128), (122, .iload_n 3, 123, 0)]
set_option maxRecDepth 20000 in
theorem pgc_43_0 : pgC_43_0.all (pg_ok (pg_cc 43)) = true := by decide +kernel
/-- MarkovDesk.state(III)I -/
def pgC_43_1 : List (Nat × Instr × Nat × Nat) := [(123, .iload 4, 125, 0), (125, .if_icmp .lt 11, 128, 136), (128, .new 102, 131, 0), (131, .dup, 132, 0), (132, .invokespecial 104, 135, 0), (135, .athrow, 136, 0), (136, .iload_n 2, 137, 0), (137, .tableswitch 92 0 4 #[35, 44, 62, 72, 82], 172, 0), (172, .aload_n 0, 173, 0), (173, .getfield 40, 176, 0), (176, .iload_n 1, 177, 0), (177, .invokevirtual 170, 180, 0), (180, .ireturn, 181, 0), (181, .aload_n 0, 182, 0), (182, .getfield 40, 185, 0), (185, .getfield 174, 188, 0), (188, .iload_n 1, 189, 0), (189, .baload, 190, 0), (190, .ifCond .eq 7, 193, 197), (193, .iconst 1, 194, 0), (194, .goto 4, 197, 198), (197, .iconst 0, 198, 0), (198, .ireturn, 199, 0), (199, .aload_n 0, 200, 0), (200, .getfield 58, 203, 0), (203, .getfield 178, 206, 0), (206, .iload_n 1, 207, 0), (207, .iaload, 208, 0), (208, .ireturn, 209, 0), (209, .aload_n 0, 210, 0), (210, .getfield 62, 213, 0), (213, .getfield 178, 216, 0), (216, .iload_n 1, 217, 0), (217, .iaload, 218, 0), (218, .ireturn, 219, 0), (219, .aload_n 0, 220, 0), (220, .getfield 40, 223, 0), (223, .iload_n 1, 224, 0), (224, .iload_n 3, 225, 0), (225, .invokevirtual 182, 228, 0), (228, .ireturn, 229, 0), (229, .aload_n 0, 230, 0), (230, .getfield 40, 233, 0), (233, .iload_n 1, 234, 0), (234, .iload_n 3, 235, 0), (235, .invokevirtual 186, 238, 0), (238, .ireturn, 239, 0)]
set_option maxRecDepth 20000 in
theorem pgc_43_1 : pgC_43_1.all (pg_ok (pg_cc 43)) = true := by decide +kernel
def pgC_43 : List (Nat × Instr × Nat × Nat) := pgC_43_0 ++ (pgC_43_1)
theorem pgc_43 : pgC_43.all (pg_ok (pg_cc 43)) = true := pg_all2 pgc_43_0 (pgc_43_1)
/-- MarkovDeskLaw.outcome(LMarkovDesk;III[J)I -/
def pgC_44 : List (Nat × Instr × Nat × Nat) := [(0, .aload 4, 2, 0), (2, .iconst 0, 3, 0), (3, .aload_n 0, 4, 0), (4, .iload_n 1, 5, 0), (5, .iload_n 2, 6, 0), (6, .iload_n 3, 7, 0), (7, .invokevirtual 35, 10, 0), (10, .i2l, 11, 0), (11, .lastore, 12, 0), (12, .goto 11, 15, 23), (15, .astore 5, 17, 0), (17, .iconst 1, 18, 0), (18, .ireturn, 19, 0), (19, .astore 5, 21, 0), (21, .iconst 2, 22, 0), (22, .ireturn, 23, 0), (23, .iconst 0, 24, 0), (24, .ireturn, 25, 0)]
set_option maxRecDepth 20000 in
theorem pgc_44 : pgC_44.all (pg_ok (pg_cc 44)) = true := by decide +kernel
/-- MarkovDesk.outcome(III)I -/
def pgC_45_0 : List (Nat × Instr × Nat × Nat) := [(0, .aload_n 0, 1, 0), (1, .invokevirtual 189, 4, 0), (4, .aload_n 0, 5, 0), (5, .getfield 40, 8, 0), (8, .iload_n 1, 9, 0), (9, .invokevirtual 163, 12, 0), (12, .ifCond .eq 36, 15, 48), (15, .iload_n 2, 16, 0), (16, .ifCond .lt 32, 19, 48), (19, .iload_n 2, 20, 0), (20, .aload_n 0, 21, 0), (21, .getfield 40, 24, 0), (24, .iload_n 1, 25, 0), (25, .invokevirtual 170, 28, 0), (28, .if_icmp .ge 20, 31, 48), (31, .iload_n 3, 32, 0), (32, .ifCond .lt 16, 35, 48), (35, .iload_n 3, 36, 0), (36, .aload_n 0, 37, 0), (37, .getfield 40, 40, 0), (40, .iload_n 1, 41, 0), (41, .iload_n 2, 42, 0), (42, .invokevirtual 186, 45, 0), (45, .if_icmp .lt 11, 48, 56), (48, .new 102, 51, 0), (51, .dup, 52, 0), (52, .invokespecial 104, 55, 0), (55, .athrow, 56, 0), (56, .aload_n 0, 57, 0), (57, .getfield 40, 60, 0), (60, .getfield 192, 63, 0), (63, .iload_n 1, 64, 0), (64, .iaload, 65, 0), (65, .iload_n 2, 66, 0), (66, .iadd, 67, 0), (67, .istore 4, 69, 0), (69, .aload_n 0, 70, 0), (70, .getfield 40, 73, 0), (73, .getfield 195, 76, 0), (76, .iload 4, 78, 0), (78, .iaload, 79, 0), (79, .iload_n 3, 80, 0), (80, .iadd, 81, 0), (81, .istore 5, 83, 0), (83, .aload_n 0, 84, 0), (84, .getfield 91, 87, 0), (87, .aload_n 0, 88, 0), (88, .getfield 40, 91, 0), (91, .getfield 198, 94, 0), (94, .iload 5, 96, 0), (96, .laload, 97, 0), (97, .invokevirtual 202, 100, 0), (100, .aload_n 0, 101, 0), (101, .getfield 95, 104, 0), (104, .aload_n 0, 105, 0), (105, .getfield 40, 108, 0), (108, .getfield 206, 111, 0), (111, .iload 4, 113, 0), (113, .laload, 114, 0), (114, .invokevirtual 202, 117, 0)]
set_option maxRecDepth 20000 in
theorem pgc_45_0 : pgC_45_0.all (pg_ok (pg_cc 45)) = true := by decide +kernel
/-- MarkovDesk.outcome(III)I -/
def pgC_45_1 : List (Nat × Instr × Nat × Nat) := [(117, .aload_n 0, 118, 0), (118, .getfield 75, 121, 0), (121, .aload_n 0, 122, 0), (122, .getfield 91, 125, 0), (125, .aload_n 0, 126, 0), (126, .getfield 95, 129, 0), (129, .invokevirtual 209, 132, 0), (132, .aload_n 0, 133, 0), (133, .getfield 40, 136, 0), (136, .getfield 213, 139, 0), (139, .iload 5, 141, 0), (141, .iaload, 142, 0), (142, .ireturn, 143, 0)]
set_option maxRecDepth 20000 in
theorem pgc_45_1 : pgC_45_1.all (pg_ok (pg_cc 45)) = true := by decide +kernel
def pgC_45 : List (Nat × Instr × Nat × Nat) := pgC_45_0 ++ (pgC_45_1)
theorem pgc_45 : pgC_45.all (pg_ok (pg_cc 45)) = true := pg_all2 pgc_45_0 (pgc_45_1)
/-- MarkovDesk.requireExplored()V -/
def pgC_46 : List (Nat × Instr × Nat × Nat) := [(0, .aload_n 0, 1, 0), (1, .getfield 40, 4, 0), (4, .getfield 159, 7, 0), (7, .ifCond .ne 11, 10, 18), (10, .new 147, 13, 0), (13, .dup, 14, 0), (14, .invokespecial 149, 17, 0), (17, .athrow, 18, 0), (18, .return_, 19, 0)]
set_option maxRecDepth 20000 in
theorem pgc_46 : pgC_46.all (pg_ok (pg_cc 46)) = true := by decide +kernel
/-- MarkovDeskLaw.solve(LMarkovDesk;Z[J)I -/
def pgC_47 : List (Nat × Instr × Nat × Nat) := [(0, .aload_n 2, 1, 0), (1, .iconst 0, 2, 0), (2, .aload_n 0, 3, 0), (3, .iload_n 1, 4, 0), (4, .invokevirtual 38, 7, 0), (7, .i2l, 8, 0), (8, .lastore, 9, 0), (9, .goto 6, 12, 15), (12, .astore_n 3, 13, 0), (13, .iconst 1, 14, 0), (14, .ireturn, 15, 0), (15, .iconst 0, 16, 0), (16, .ireturn, 17, 0)]
set_option maxRecDepth 20000 in
theorem pgc_47 : pgC_47.all (pg_ok (pg_cc 47)) = true := by decide +kernel
/-- MarkovDesk.solve(Z)I -/
def pgC_48 : List (Nat × Instr × Nat × Nat) := [(0, .aload_n 0, 1, 0), (1, .invokevirtual 189, 4, 0), (4, .iload_n 1, 5, 0), (5, .ifCond .eq 10, 8, 15), (8, .aload_n 0, 9, 0), (9, .getfield 62, 12, 0), (12, .goto 7, 15, 19), (15, .aload_n 0, 16, 0), (16, .getfield 58, 19, 0), (19, .astore_n 2, 20, 0), (20, .aload_n 0, 21, 0), (21, .getfield 49, 24, 0), (24, .aload_n 2, 25, 0), (25, .invokevirtual 216, 28, 0), (28, .aload_n 2, 29, 0), (29, .iconst 1, 30, 0), (30, .putfield 160, 33, 0), (33, .aload_n 2, 34, 0), (34, .getfield 220, 37, 0), (37, .ireturn, 38, 0)]
set_option maxRecDepth 20000 in
theorem pgc_48 : pgC_48.all (pg_ok (pg_cc 48)) = true := by decide +kernel
/-- MarkovDeskLaw.value(LMarkovDesk;ZI[J)I -/
def pgC_49 : List (Nat × Instr × Nat × Nat) := [(0, .aload_n 3, 1, 0), (1, .iconst 0, 2, 0), (2, .aload_n 0, 3, 0), (3, .iload_n 1, 4, 0), (4, .iload_n 2, 5, 0), (5, .invokevirtual 42, 8, 0), (8, .ifCond .eq 7, 11, 15), (11, .lconst 1, 12, 0), (12, .goto 4, 15, 16), (15, .lconst 0, 16, 0), (16, .lastore, 17, 0), (17, .goto 11, 20, 28), (20, .astore 4, 22, 0), (22, .iconst 1, 23, 0), (23, .ireturn, 24, 0), (24, .astore 4, 26, 0), (26, .iconst 2, 27, 0), (27, .ireturn, 28, 0), (28, .iconst 0, 29, 0), (29, .ireturn, 30, 0)]
set_option maxRecDepth 20000 in
theorem pgc_49 : pgC_49.all (pg_ok (pg_cc 49)) = true := by decide +kernel
/-- MarkovDesk.value(ZI)Z -/
def pgC_50 : List (Nat × Instr × Nat × Nat) := [(0, .iload_n 1, 1, 0), (1, .ifCond .eq 10, 4, 11), (4, .aload_n 0, 5, 0), (5, .getfield 62, 8, 0), (8, .goto 7, 11, 15), (11, .aload_n 0, 12, 0), (12, .getfield 58, 15, 0), (15, .astore_n 3, 16, 0), (16, .aload_n 3, 17, 0), (17, .invokestatic 223, 20, 0), (20, .aload_n 0, 21, 0), (21, .iload_n 2, 22, 0), (22, .invokevirtual 226, 25, 0), (25, .aload_n 0, 26, 0), (26, .getfield 75, 29, 0), (29, .aload_n 3, 30, 0), (30, .getfield 229, 33, 0), (33, .iload_n 2, 34, 0), (34, .aaload, 35, 0), (35, .aload_n 3, 36, 0), (36, .getfield 231, 39, 0), (39, .invokevirtual 209, 42, 0), (42, .aload_n 0, 43, 0), (43, .getfield 75, 46, 0), (46, .getfield 233, 49, 0), (49, .aload_n 0, 50, 0), (50, .getfield 75, 53, 0), (53, .getfield 235, 56, 0), (56, .invokevirtual 236, 59, 0), (59, .ifCond .ne 7, 62, 66), (62, .iconst 1, 63, 0), (63, .goto 4, 66, 67), (66, .iconst 0, 67, 0), (67, .ireturn, 68, 0)]
set_option maxRecDepth 20000 in
theorem pgc_50 : pgC_50.all (pg_ok (pg_cc 50)) = true := by decide +kernel
/-- MarkovDesk.requireTold(LMarkovDesk$Answer;)V -/
def pgC_51 : List (Nat × Instr × Nat × Nat) := [(0, .aload_n 0, 1, 0), (1, .getfield 160, 4, 0), (4, .ifCond .ne 11, 7, 15), (7, .new 147, 10, 0), (10, .dup, 11, 0), (11, .invokespecial 149, 14, 0), (14, .athrow, 15, 0), (15, .return_, 16, 0)]
set_option maxRecDepth 20000 in
theorem pgc_51 : pgC_51.all (pg_ok (pg_cc 51)) = true := by decide +kernel
/-- MarkovDeskLaw.within(LMarkovDesk;ZII[J)I -/
def pgC_52 : List (Nat × Instr × Nat × Nat) := [(0, .aload 4, 2, 0), (2, .iconst 0, 3, 0), (3, .aload_n 0, 4, 0), (4, .iload_n 1, 5, 0), (5, .iload_n 2, 6, 0), (6, .iload_n 3, 7, 0), (7, .invokevirtual 46, 10, 0), (10, .ifCond .eq 7, 13, 17), (13, .lconst 1, 14, 0), (14, .goto 4, 17, 18), (17, .lconst 0, 18, 0), (18, .lastore, 19, 0), (19, .goto 15, 22, 34), (22, .astore 5, 24, 0), (24, .iconst 1, 25, 0), (25, .ireturn, 26, 0), (26, .astore 5, 28, 0), (28, .iconst 2, 29, 0), (29, .ireturn, 30, 0), (30, .astore 5, 32, 0), (32, .iconst 3, 33, 0), (33, .ireturn, 34, 0), (34, .iconst 0, 35, 0), (35, .ireturn, 36, 0)]
set_option maxRecDepth 20000 in
theorem pgc_52 : pgC_52.all (pg_ok (pg_cc 52)) = true := by decide +kernel
/-- MarkovDesk.within(ZII)Z -/
def pgC_53 : List (Nat × Instr × Nat × Nat) := [(0, .iload_n 3, 1, 0), (1, .ifCond .lt 9, 4, 10), (4, .iload_n 3, 5, 0), (5, .bipush 12, 7, 0), (7, .if_icmp .le 11, 10, 18), (10, .new 156, 13, 0), (13, .dup, 14, 0), (14, .invokespecial 158, 17, 0), (17, .athrow, 18, 0), (18, .iload_n 1, 19, 0), (19, .ifCond .eq 10, 22, 29), (22, .aload_n 0, 23, 0), (23, .getfield 62, 26, 0), (26, .goto 7, 29, 33), (29, .aload_n 0, 30, 0), (30, .getfield 58, 33, 0), (33, .astore 4, 35, 0), (35, .aload 4, 37, 0), (37, .invokestatic 223, 40, 0), (40, .aload_n 0, 41, 0), (41, .iload_n 2, 42, 0), (42, .invokevirtual 226, 45, 0), (45, .aload_n 0, 46, 0), (46, .getfield 68, 49, 0), (49, .aload 4, 51, 0), (51, .iload_n 2, 52, 0), (52, .iload_n 3, 53, 0), (53, .invokevirtual 240, 56, 0), (56, .aload_n 0, 57, 0), (57, .getfield 75, 60, 0), (60, .aload_n 0, 61, 0), (61, .getfield 68, 64, 0), (64, .getfield 244, 67, 0), (67, .aload_n 0, 68, 0), (68, .getfield 68, 71, 0), (71, .getfield 247, 74, 0), (74, .invokevirtual 209, 77, 0), (77, .aload_n 0, 78, 0), (78, .getfield 75, 81, 0), (81, .getfield 233, 84, 0), (84, .getfield 248, 87, 0), (87, .ifCond .ne 7, 90, 94), (90, .iconst 1, 91, 0), (91, .goto 4, 94, 95), (94, .iconst 0, 95, 0), (95, .ireturn, 96, 0)]
set_option maxRecDepth 20000 in
theorem pgc_53 : pgC_53.all (pg_ok (pg_cc 53)) = true := by decide +kernel
/-- MarkovDeskLaw.claim(LMarkovDesk;IJJ)I -/
def pgC_54 : List (Nat × Instr × Nat × Nat) := [(0, .aload_n 0, 1, 0), (1, .iload_n 1, 2, 0), (2, .lload_n 2, 3, 0), (3, .lload 4, 5, 0), (5, .invokevirtual 50, 8, 0), (8, .goto 15, 11, 23), (11, .astore 6, 13, 0), (13, .iconst 1, 14, 0), (14, .ireturn, 15, 0), (15, .astore 6, 17, 0), (17, .iconst 2, 18, 0), (18, .ireturn, 19, 0), (19, .astore 6, 21, 0), (21, .iconst 3, 22, 0), (22, .ireturn, 23, 0), (23, .iconst 0, 24, 0), (24, .ireturn, 25, 0)]
set_option maxRecDepth 20000 in
theorem pgc_54 : pgC_54.all (pg_ok (pg_cc 54)) = true := by decide +kernel
/-- MarkovDesk.claim(IJJ)V -/
def pgC_55 : List (Nat × Instr × Nat × Nat) := [(0, .lload 4, 2, 0), (2, .lconst 0, 3, 0), (3, .lcmp, 4, 0), (4, .ifCond .le 9, 7, 13), (7, .lload_n 2, 8, 0), (8, .lconst 0, 9, 0), (9, .lcmp, 10, 0), (10, .ifCond .ge 11, 13, 21), (13, .new 156, 16, 0), (16, .dup, 17, 0), (17, .invokespecial 158, 20, 0), (20, .athrow, 21, 0), (21, .aload_n 0, 22, 0), (22, .invokevirtual 189, 25, 0), (25, .aload_n 0, 26, 0), (26, .iload_n 1, 27, 0), (27, .invokevirtual 226, 30, 0), (30, .aload_n 0, 31, 0), (31, .getfield 81, 34, 0), (34, .iload_n 1, 35, 0), (35, .aaload, 36, 0), (36, .lload_n 2, 37, 0), (37, .invokevirtual 202, 40, 0), (40, .aload_n 0, 41, 0), (41, .getfield 85, 44, 0), (44, .iload_n 1, 45, 0), (45, .aaload, 46, 0), (46, .lload 4, 48, 0), (48, .invokevirtual 202, 51, 0), (51, .return_, 52, 0)]
set_option maxRecDepth 20000 in
theorem pgc_55 : pgC_55.all (pg_ok (pg_cc 55)) = true := by decide +kernel
/-- MarkovDeskLaw.claimResult(LMarkovDesk;I)I -/
def pgC_56 : List (Nat × Instr × Nat × Nat) := [(0, .aload_n 0, 1, 0), (1, .iload_n 1, 2, 0), (2, .invokevirtual 54, 5, 0), (5, .goto 12, 8, 17), (8, .astore_n 2, 9, 0), (9, .iconst 1, 10, 0), (10, .ireturn, 11, 0), (11, .astore_n 2, 12, 0), (12, .iconst 2, 13, 0), (13, .ireturn, 14, 0), (14, .astore_n 2, 15, 0), (15, .iconst 3, 16, 0), (16, .ireturn, 17, 0), (17, .iconst 0, 18, 0), (18, .ireturn, 19, 0)]
set_option maxRecDepth 20000 in
theorem pgc_56 : pgC_56.all (pg_ok (pg_cc 56)) = true := by decide +kernel
/-- MarkovDesk.claimResult(I)V -/
def pgC_57 : List (Nat × Instr × Nat × Nat) := [(0, .aload_n 0, 1, 0), (1, .invokevirtual 189, 4, 0), (4, .aload_n 0, 5, 0), (5, .iload_n 1, 6, 0), (6, .invokevirtual 226, 9, 0), (9, .aload_n 0, 10, 0), (10, .getfield 75, 13, 0), (13, .getfield 235, 16, 0), (16, .invokevirtual 251, 19, 0), (19, .sipush 5000, 22, 0), (22, .if_icmp .le 11, 25, 33), (25, .new 254, 28, 0), (28, .dup, 29, 0), (29, .invokespecial 256, 32, 0), (32, .athrow, 33, 0), (33, .aload_n 0, 34, 0), (34, .getfield 81, 37, 0), (37, .iload_n 1, 38, 0), (38, .aaload, 39, 0), (39, .aload_n 0, 40, 0), (40, .getfield 75, 43, 0), (43, .getfield 233, 46, 0), (46, .invokevirtual 257, 49, 0), (49, .aload_n 0, 50, 0), (50, .getfield 85, 53, 0), (53, .iload_n 1, 54, 0), (54, .aaload, 55, 0), (55, .aload_n 0, 56, 0), (56, .getfield 75, 59, 0), (59, .getfield 235, 62, 0), (62, .invokevirtual 257, 65, 0), (65, .return_, 66, 0)]
set_option maxRecDepth 20000 in
theorem pgc_57 : pgC_57.all (pg_ok (pg_cc 57)) = true := by decide +kernel
end
section
/-- MarkovDeskLaw.check(LMarkovDesk;Z[J)I -/
def pgC_58 : List (Nat × Instr × Nat × Nat) := [(0, .aload_n 2, 1, 0), (1, .iconst 0, 2, 0), (2, .aload_n 0, 3, 0), (3, .iload_n 1, 4, 0), (4, .invokevirtual 58, 7, 0), (7, .ifCond .eq 7, 10, 14), (10, .lconst 1, 11, 0), (11, .goto 4, 14, 15), (14, .lconst 0, 15, 0), (15, .lastore, 16, 0), (16, .goto 6, 19, 22), (19, .astore_n 3, 20, 0), (20, .iconst 1, 21, 0), (21, .ireturn, 22, 0), (22, .iconst 0, 23, 0), (23, .ireturn, 24, 0)]
set_option maxRecDepth 20000 in
theorem pgc_58 : pgC_58.all (pg_ok (pg_cc 58)) = true := by decide +kernel
/-- MarkovDesk.check(Z)Z -/
def pgC_59 : List (Nat × Instr × Nat × Nat) := [(0, .aload_n 0, 1, 0), (1, .invokevirtual 189, 4, 0), (4, .iload_n 1, 5, 0), (5, .ifCond .eq 10, 8, 15), (8, .aload_n 0, 9, 0), (9, .getfield 62, 12, 0), (12, .goto 7, 15, 19), (15, .aload_n 0, 16, 0), (16, .getfield 58, 19, 0), (19, .astore_n 2, 20, 0), (20, .aload_n 0, 21, 0), (21, .getfield 49, 24, 0), (24, .aload_n 2, 25, 0), (25, .invokevirtual 216, 28, 0), (28, .iconst 1, 29, 0), (29, .istore_n 3, 30, 0), (30, .iconst 0, 31, 0), (31, .istore 4, 33, 0), (33, .iload 4, 35, 0), (35, .aload_n 0, 36, 0), (36, .getfield 40, 39, 0), (39, .getfield 153, 42, 0), (42, .if_icmp .ge 72, 45, 114), (45, .iload_n 3, 46, 0), (46, .ifCond .eq 68, 49, 114), (49, .aload_n 0, 50, 0), (50, .getfield 91, 53, 0), (53, .aload_n 0, 54, 0), (54, .getfield 81, 57, 0), (57, .iload 4, 59, 0), (59, .aaload, 60, 0), (60, .aload_n 2, 61, 0), (61, .getfield 231, 64, 0), (64, .invokevirtual 261, 67, 0), (67, .aload_n 0, 68, 0), (68, .getfield 95, 71, 0), (71, .aload_n 2, 72, 0), (72, .getfield 229, 75, 0), (75, .iload 4, 77, 0), (77, .aaload, 78, 0), (78, .aload_n 0, 79, 0), (79, .getfield 85, 82, 0), (82, .iload 4, 84, 0), (84, .aaload, 85, 0), (85, .invokevirtual 261, 88, 0), (88, .aload_n 0, 89, 0), (89, .getfield 91, 92, 0), (92, .aload_n 0, 93, 0), (93, .getfield 95, 96, 0), (96, .invokevirtual 236, 99, 0), (99, .ifCond .ne 7, 102, 106), (102, .iconst 1, 103, 0), (103, .goto 4, 106, 107), (106, .iconst 0, 107, 0), (107, .istore_n 3, 108, 0), (108, .iinc 4 1, 111, 0), (111, .goto (-78), 114, 33), (114, .iload_n 3, 115, 0), (115, .ireturn, 116, 0)]
set_option maxRecDepth 20000 in
theorem pgc_59 : pgC_59.all (pg_ok (pg_cc 59)) = true := by decide +kernel
/-- MarkovDeskLaw.part(LMarkovDesk;ZI[J)I -/
def pgC_60 : List (Nat × Instr × Nat × Nat) := [(0, .aload_n 3, 1, 0), (1, .iconst 0, 2, 0), (2, .aload_n 0, 3, 0), (3, .iload_n 1, 4, 0), (4, .iload_n 2, 5, 0), (5, .invokevirtual 62, 8, 0), (8, .i2l, 9, 0), (9, .lastore, 10, 0), (10, .goto 7, 13, 17), (13, .astore 4, 15, 0), (15, .iconst 1, 16, 0), (16, .ireturn, 17, 0), (17, .iconst 0, 18, 0), (18, .ireturn, 19, 0)]
set_option maxRecDepth 20000 in
theorem pgc_60 : pgC_60.all (pg_ok (pg_cc 60)) = true := by decide +kernel
/-- MarkovDesk.part(ZI)I -/
def pgC_61 : List (Nat × Instr × Nat × Nat) := [(0, .iload_n 2, 1, 0), (1, .ifCond .ge 11, 4, 12), (4, .new 102, 7, 0), (7, .dup, 8, 0), (8, .invokespecial 104, 11, 0), (11, .athrow, 12, 0), (12, .iload_n 1, 13, 0), (13, .ifCond .eq 17, 16, 30), (16, .aload_n 0, 17, 0), (17, .getfield 75, 20, 0), (20, .getfield 235, 23, 0), (23, .iload_n 2, 24, 0), (24, .invokevirtual 264, 27, 0), (27, .goto 14, 30, 41), (30, .aload_n 0, 31, 0), (31, .getfield 75, 34, 0), (34, .getfield 233, 37, 0), (37, .iload_n 2, 38, 0), (38, .invokevirtual 264, 41, 0), (41, .ireturn, 42, 0)]
set_option maxRecDepth 20000 in
theorem pgc_61 : pgC_61.all (pg_ok (pg_cc 61)) = true := by decide +kernel
/-- MarkovDeskLaw.count(LMarkovDesk;I[J)I -/
def pgC_62 : List (Nat × Instr × Nat × Nat) := [(0, .aload_n 2, 1, 0), (1, .iconst 0, 2, 0), (2, .aload_n 0, 3, 0), (3, .iload_n 1, 4, 0), (4, .invokevirtual 66, 7, 0), (7, .i2l, 8, 0), (8, .lastore, 9, 0), (9, .goto 6, 12, 15), (12, .astore_n 3, 13, 0), (13, .iconst 1, 14, 0), (14, .ireturn, 15, 0), (15, .iconst 0, 16, 0), (16, .ireturn, 17, 0)]
set_option maxRecDepth 20000 in
theorem pgc_62 : pgC_62.all (pg_ok (pg_cc 62)) = true := by decide +kernel
/-- MarkovDesk.count(I)I -/
def pgC_63 : List (Nat × Instr × Nat × Nat) := [(0, .iload_n 1, 1, 0), (1, .ifCond .lt 9, 4, 10), (4, .iload_n 1, 5, 0), (5, .bipush 7, 7, 0), (7, .if_icmp .le 11, 10, 18), (10, .new 156, 13, 0), (13, .dup, 14, 0), (14, .invokespecial 158, 17, 0), (17, .athrow, 18, 0), (18, .iload_n 1, 19, 0), (19, .iconst 4, 20, 0), (20, .if_icmp .ge 16, 23, 36), (23, .aload_n 0, 24, 0), (24, .getfield 22, 27, 0), (27, .getfield 108, 30, 0), (30, .ifCond .ne 18, 33, 48), (33, .goto 13, 36, 46), (36, .aload_n 0, 37, 0), (37, .getfield 40, 40, 0), (40, .getfield 159, 43, 0), (43, .ifCond .ne 5, 46, 48), (46, .iconst 0, 47, 0), (47, .ireturn, 48, 0), (48, .iload_n 1, 49, 0), (49, .tableswitch 99 0 6 #[43, 51, 59, 67, 75, 83, 91], 92, 0), (92, .aload_n 0, 93, 0), (93, .getfield 22, 96, 0), (96, .getfield 167, 99, 0), (99, .ireturn, 100, 0), (100, .aload_n 0, 101, 0), (101, .getfield 22, 104, 0), (104, .getfield 267, 107, 0), (107, .ireturn, 108, 0), (108, .aload_n 0, 109, 0), (109, .getfield 22, 112, 0), (112, .getfield 270, 115, 0), (115, .ireturn, 116, 0), (116, .aload_n 0, 117, 0), (117, .getfield 22, 120, 0), (120, .getfield 273, 123, 0), (123, .ireturn, 124, 0), (124, .aload_n 0, 125, 0), (125, .getfield 40, 128, 0), (128, .getfield 153, 131, 0), (131, .ireturn, 132, 0), (132, .aload_n 0, 133, 0), (133, .getfield 40, 136, 0), (136, .getfield 276, 139, 0), (139, .ireturn, 140, 0), (140, .aload_n 0, 141, 0), (141, .getfield 40, 144, 0), (144, .getfield 279, 147, 0), (147, .ireturn, 148, 0), (148, .aload_n 0, 149, 0), (149, .getfield 40, 152, 0), (152, .invokevirtual 282, 155, 0), (155, .ireturn, 156, 0)]
set_option maxRecDepth 20000 in
theorem pgc_63 : pgC_63.all (pg_ok (pg_cc 63)) = true := by decide +kernel
/-- MarkovDeskModel.<init>()V -/
def pgC_64_0 : List (Nat × Instr × Nat × Nat) := [(0, .aload_n 0, 1, 0), (1, .invokespecial 1, 4, 0), (4, .aload_n 0, 5, 0), (5, .bipush 13, 7, 0), (7, .anewarray 7, 10, 0), (10, .dup, 11, 0), (11, .iconst 0, 12, 0), (12, .ldc 9, 14, 0), (14, .aastore, 15, 0), (15, .dup, 16, 0), (16, .iconst 1, 17, 0), (17, .ldc 11, 19, 0), (19, .aastore, 20, 0), (20, .dup, 21, 0), (21, .iconst 2, 22, 0), (22, .ldc 13, 24, 0), (24, .aastore, 25, 0), (25, .dup, 26, 0), (26, .iconst 3, 27, 0), (27, .ldc 15, 29, 0), (29, .aastore, 30, 0), (30, .dup, 31, 0), (31, .iconst 4, 32, 0), (32, .ldc 17, 34, 0), (34, .aastore, 35, 0), (35, .dup, 36, 0), (36, .iconst 5, 37, 0), (37, .ldc 19, 39, 0), (39, .aastore, 40, 0), (40, .dup, 41, 0), (41, .bipush 6, 43, 0), (43, .ldc 21, 45, 0), (45, .aastore, 46, 0), (46, .dup, 47, 0), (47, .bipush 7, 49, 0), (49, .ldc 23, 51, 0), (51, .aastore, 52, 0), (52, .dup, 53, 0), (53, .bipush 8, 55, 0), (55, .ldc 25, 57, 0)]
set_option maxRecDepth 20000 in
theorem pgc_64_0 : pgC_64_0.all (pg_ok (pg_cc 64)) = true := by decide +kernel
/-- MarkovDeskModel.<init>()V -/
def pgC_64_1 : List (Nat × Instr × Nat × Nat) := [(57, .aastore, 58, 0), (58, .dup, 59, 0), (59, .bipush 9, 61, 0), (61, .ldc 27, 63, 0), (63, .aastore, 64, 0), (64, .dup, 65, 0), (65, .bipush 10, 67, 0), (67, .ldc 29, 69, 0), (69, .aastore, 70, 0), (70, .dup, 71, 0), (71, .bipush 11, 73, 0), (73, .ldc 31, 75, 0), (75, .aastore, 76, 0), (76, .dup, 77, 0), (77, .bipush 12, 79, 0), (79, .ldc 33, 81, 0), (81, .aastore, 82, 0), (82, .putfield 35, 85, 0), (85, .aload_n 0, 86, 0), (86, .bipush 25, 88, 0), (88, .anewarray 7, 91, 0), (91, .dup, 92, 0), (92, .iconst 0, 93, 0), (93, .ldc 41, 95, 0), (95, .aastore, 96, 0), (96, .dup, 97, 0), (97, .iconst 1, 98, 0), (98, .ldc 43, 100, 0), (100, .aastore, 101, 0), (101, .dup, 102, 0), (102, .iconst 2, 103, 0), (103, .ldc 45, 105, 0), (105, .aastore, 106, 0), (106, .dup, 107, 0), (107, .iconst 3, 108, 0), (108, .ldc 47, 110, 0), (110, .aastore, 111, 0), (111, .dup, 112, 0), (112, .iconst 4, 113, 0), (113, .ldc 49, 115, 0)]
set_option maxRecDepth 20000 in
theorem pgc_64_1 : pgC_64_1.all (pg_ok (pg_cc 64)) = true := by decide +kernel
/-- MarkovDeskModel.<init>()V -/
def pgC_64_2 : List (Nat × Instr × Nat × Nat) := [(115, .aastore, 116, 0), (116, .dup, 117, 0), (117, .iconst 5, 118, 0), (118, .ldc 51, 120, 0), (120, .aastore, 121, 0), (121, .dup, 122, 0), (122, .bipush 6, 124, 0), (124, .ldc 53, 126, 0), (126, .aastore, 127, 0), (127, .dup, 128, 0), (128, .bipush 7, 130, 0), (130, .ldc 55, 132, 0), (132, .aastore, 133, 0), (133, .dup, 134, 0), (134, .bipush 8, 136, 0), (136, .ldc 57, 138, 0), (138, .aastore, 139, 0), (139, .dup, 140, 0), (140, .bipush 9, 142, 0), (142, .ldc 59, 144, 0), (144, .aastore, 145, 0), (145, .dup, 146, 0), (146, .bipush 10, 148, 0), (148, .ldc 61, 150, 0), (150, .aastore, 151, 0), (151, .dup, 152, 0), (152, .bipush 11, 154, 0), (154, .ldc 63, 156, 0), (156, .aastore, 157, 0), (157, .dup, 158, 0), (158, .bipush 12, 160, 0), (160, .ldc 65, 162, 0), (162, .aastore, 163, 0), (163, .dup, 164, 0), (164, .bipush 13, 166, 0), (166, .ldc 67, 168, 0), (168, .aastore, 169, 0), (169, .dup, 170, 0), (170, .bipush 14, 172, 0), (172, .ldc 69, 174, 0)]
set_option maxRecDepth 20000 in
theorem pgc_64_2 : pgC_64_2.all (pg_ok (pg_cc 64)) = true := by decide +kernel
/-- MarkovDeskModel.<init>()V -/
def pgC_64_3 : List (Nat × Instr × Nat × Nat) := [(174, .aastore, 175, 0), (175, .dup, 176, 0), (176, .bipush 15, 178, 0), (178, .ldc 71, 180, 0), (180, .aastore, 181, 0), (181, .dup, 182, 0), (182, .bipush 16, 184, 0), (184, .ldc 73, 186, 0), (186, .aastore, 187, 0), (187, .dup, 188, 0), (188, .bipush 17, 190, 0), (190, .ldc 75, 192, 0), (192, .aastore, 193, 0), (193, .dup, 194, 0), (194, .bipush 18, 196, 0), (196, .ldc 77, 198, 0), (198, .aastore, 199, 0), (199, .dup, 200, 0), (200, .bipush 19, 202, 0), (202, .ldc 79, 204, 0), (204, .aastore, 205, 0), (205, .dup, 206, 0), (206, .bipush 20, 208, 0), (208, .ldc 81, 210, 0), (210, .aastore, 211, 0), (211, .dup, 212, 0), (212, .bipush 21, 214, 0), (214, .ldc 83, 216, 0), (216, .aastore, 217, 0), (217, .dup, 218, 0), (218, .bipush 22, 220, 0), (220, .ldc 85, 222, 0), (222, .aastore, 223, 0), (223, .dup, 224, 0), (224, .bipush 23, 226, 0), (226, .ldc 87, 228, 0), (228, .aastore, 229, 0), (229, .dup, 230, 0), (230, .bipush 24, 232, 0), (232, .ldc 89, 234, 0)]
set_option maxRecDepth 20000 in
theorem pgc_64_3 : pgC_64_3.all (pg_ok (pg_cc 64)) = true := by decide +kernel
/-- MarkovDeskModel.<init>()V -/
def pgC_64_4 : List (Nat × Instr × Nat × Nat) := [(234, .aastore, 235, 0), (235, .putfield 91, 238, 0), (238, .aload_n 0, 239, 0), (239, .iconst (-1), 240, 0), (240, .putfield 94, 243, 0), (243, .aload_n 0, 244, 0), (244, .sipush 8200, 247, 0), (247, .newarray .int, 249, 0), (249, .putfield 98, 252, 0), (252, .aload_n 0, 253, 0), (253, .sipush 8192, 256, 0), (256, .newarray .int, 258, 0), (258, .putfield 102, 261, 0), (261, .aload_n 0, 262, 0), (262, .sipush 600, 265, 0), (265, .newarray .int, 267, 0), (267, .putfield 105, 270, 0), (270, .aload_n 0, 271, 0), (271, .sipush 600, 274, 0), (274, .newarray .int, 276, 0), (276, .putfield 108, 279, 0), (279, .aload_n 0, 280, 0), (280, .sipush 600, 283, 0), (283, .newarray .int, 285, 0), (285, .putfield 111, 288, 0), (288, .aload_n 0, 289, 0), (289, .sipush 600, 292, 0), (292, .newarray .int, 294, 0), (294, .putfield 114, 297, 0), (297, .aload_n 0, 298, 0), (298, .bipush 40, 300, 0), (300, .newarray .int, 302, 0), (302, .putfield 117, 305, 0), (305, .aload_n 0, 306, 0), (306, .bipush 40, 308, 0), (308, .newarray .int, 310, 0), (310, .putfield 120, 313, 0), (313, .aload_n 0, 314, 0), (314, .bipush 8, 316, 0), (316, .newarray .int, 318, 0)]
set_option maxRecDepth 20000 in
theorem pgc_64_4 : pgC_64_4.all (pg_ok (pg_cc 64)) = true := by decide +kernel
/-- MarkovDeskModel.<init>()V -/
def pgC_64_5 : List (Nat × Instr × Nat × Nat) := [(318, .putfield 123, 321, 0), (321, .aload_n 0, 322, 0), (322, .bipush 8, 324, 0), (324, .newarray .int, 326, 0), (326, .putfield 126, 329, 0), (329, .aload_n 0, 330, 0), (330, .bipush 8, 332, 0), (332, .newarray .int, 334, 0), (334, .putfield 129, 337, 0), (337, .aload_n 0, 338, 0), (338, .bipush 8, 340, 0), (340, .newarray .int, 342, 0), (342, .putfield 132, 345, 0), (345, .aload_n 0, 346, 0), (346, .bipush 40, 348, 0), (348, .newarray .int, 350, 0), (350, .putfield 135, 353, 0), (353, .aload_n 0, 354, 0), (354, .bipush 40, 356, 0), (356, .newarray .int, 358, 0), (358, .putfield 138, 361, 0), (361, .aload_n 0, 362, 0), (362, .bipush 40, 364, 0), (364, .newarray .int, 366, 0), (366, .putfield 141, 369, 0), (369, .aload_n 0, 370, 0), (370, .bipush 40, 372, 0), (372, .newarray .int, 374, 0), (374, .putfield 144, 377, 0), (377, .aload_n 0, 378, 0), (378, .sipush 240, 381, 0), (381, .newarray .int, 383, 0), (383, .putfield 147, 386, 0), (386, .aload_n 0, 387, 0), (387, .sipush 240, 390, 0), (390, .newarray .int, 392, 0), (392, .putfield 150, 395, 0), (395, .aload_n 0, 396, 0), (396, .sipush 1920, 399, 0), (399, .newarray .int, 401, 0)]
set_option maxRecDepth 20000 in
theorem pgc_64_5 : pgC_64_5.all (pg_ok (pg_cc 64)) = true := by decide +kernel
/-- MarkovDeskModel.<init>()V -/
def pgC_64_6 : List (Nat × Instr × Nat × Nat) := [(401, .putfield 153, 404, 0), (404, .aload_n 0, 405, 0), (405, .bipush 8, 407, 0), (407, .newarray .boolean, 409, 0), (409, .putfield 156, 412, 0), (412, .aload_n 0, 413, 0), (413, .sipush 8000, 416, 0), (416, .newarray .int, 418, 0), (418, .putfield 160, 421, 0), (421, .aload_n 0, 422, 0), (422, .sipush 2000, 425, 0), (425, .newarray .int, 427, 0), (427, .putfield 163, 430, 0), (430, .aload_n 0, 431, 0), (431, .bipush 8, 433, 0), (433, .newarray .int, 435, 0), (435, .putfield 166, 438, 0), (438, .aload_n 0, 439, 0), (439, .sipush 192, 442, 0), (442, .newarray .int, 444, 0), (444, .putfield 169, 447, 0), (447, .aload_n 0, 448, 0), (448, .bipush 25, 450, 0), (450, .newarray .int, 452, 0), (452, .putfield 172, 455, 0), (455, .aload_n 0, 456, 0), (456, .sipush 201, 459, 0), (459, .newarray .int, 461, 0), (461, .putfield 175, 464, 0), (464, .aload_n 0, 465, 0), (465, .sipush 3200, 468, 0), (468, .newarray .int, 470, 0), (470, .putfield 178, 473, 0), (473, .aload_n 0, 474, 0), (474, .bipush 8, 476, 0), (476, .newarray .int, 478, 0), (478, .putfield 181, 481, 0), (481, .aload_n 0, 482, 0), (482, .iconst 3, 483, 0), (483, .newarray .int, 485, 0)]
set_option maxRecDepth 20000 in
theorem pgc_64_6 : pgC_64_6.all (pg_ok (pg_cc 64)) = true := by decide +kernel
/-- MarkovDeskModel.<init>()V -/
def pgC_64_7 : List (Nat × Instr × Nat × Nat) := [(485, .putfield 184, 488, 0), (488, .aload_n 0, 489, 0), (489, .iconst 3, 490, 0), (490, .newarray .int, 492, 0), (492, .putfield 187, 495, 0), (495, .aload_n 0, 496, 0), (496, .iconst 3, 497, 0), (497, .newarray .int, 499, 0), (499, .putfield 190, 502, 0), (502, .aload_n 0, 503, 0), (503, .bipush 24, 505, 0), (505, .newarray .boolean, 507, 0), (507, .putfield 193, 510, 0), (510, .aload_n 0, 511, 0), (511, .bipush 40, 513, 0), (513, .newarray .boolean, 515, 0), (515, .putfield 196, 518, 0), (518, .aload_n 0, 519, 0), (519, .ldc 199, 521, 0), (521, .newarray .int, 523, 0), (523, .putfield 200, 526, 0), (526, .aload_n 0, 527, 0), (527, .ldc 199, 529, 0), (529, .newarray .int, 531, 0), (531, .putfield 203, 534, 0), (534, .aload_n 0, 535, 0), (535, .new 206, 538, 0), (538, .dup, 539, 0), (539, .bipush 24, 541, 0), (541, .invokespecial 208, 544, 0), (544, .putfield 211, 547, 0), (547, .aload_n 0, 548, 0), (548, .new 206, 551, 0), (551, .dup, 552, 0), (552, .bipush 24, 554, 0), (554, .invokespecial 208, 557, 0), (557, .putfield 215, 560, 0), (560, .aload_n 0, 561, 0), (561, .new 206, 564, 0), (564, .dup, 565, 0)]
set_option maxRecDepth 20000 in
theorem pgc_64_7 : pgC_64_7.all (pg_ok (pg_cc 64)) = true := by decide +kernel
/-- MarkovDeskModel.<init>()V -/
def pgC_64_8 : List (Nat × Instr × Nat × Nat) := [(565, .bipush 48, 567, 0), (567, .invokespecial 208, 570, 0), (570, .putfield 218, 573, 0), (573, .aload_n 0, 574, 0), (574, .new 206, 577, 0), (577, .dup, 578, 0), (578, .bipush 48, 580, 0), (580, .invokespecial 208, 583, 0), (583, .putfield 221, 586, 0), (586, .aload_n 0, 587, 0), (587, .new 206, 590, 0), (590, .dup, 591, 0), (591, .bipush 48, 593, 0), (593, .invokespecial 208, 596, 0), (596, .putfield 224, 599, 0), (599, .aload_n 0, 600, 0), (600, .new 206, 603, 0), (603, .dup, 604, 0), (604, .sipush 1300, 607, 0), (607, .invokespecial 208, 610, 0), (610, .putfield 227, 613, 0), (613, .aload_n 0, 614, 0), (614, .new 206, 617, 0), (617, .dup, 618, 0), (618, .sipush 1300, 621, 0), (621, .invokespecial 208, 624, 0), (624, .putfield 230, 627, 0), (627, .aload_n 0, 628, 0), (628, .new 206, 631, 0), (631, .dup, 632, 0), (632, .sipush 1300, 635, 0), (635, .invokespecial 208, 638, 0), (638, .putfield 233, 641, 0), (641, .aload_n 0, 642, 0), (642, .new 206, 645, 0), (645, .dup, 646, 0), (646, .sipush 1300, 649, 0), (649, .invokespecial 208, 652, 0), (652, .putfield 236, 655, 0), (655, .aload_n 0, 656, 0)]
set_option maxRecDepth 20000 in
theorem pgc_64_8 : pgC_64_8.all (pg_ok (pg_cc 64)) = true := by decide +kernel
/-- MarkovDeskModel.<init>()V -/
def pgC_64_9 : List (Nat × Instr × Nat × Nat) := [(656, .new 206, 659, 0), (659, .dup, 660, 0), (660, .sipush 1300, 663, 0), (663, .invokespecial 208, 666, 0), (666, .putfield 239, 669, 0), (669, .aload_n 0, 670, 0), (670, .iconst 2, 671, 0), (671, .newarray .boolean, 673, 0), (673, .putfield 242, 676, 0), (676, .aload_n 0, 677, 0), (677, .iconst 2, 678, 0), (678, .newarray .boolean, 680, 0), (680, .putfield 245, 683, 0), (683, .aload_n 0, 684, 0), (684, .bipush 48, 686, 0), (686, .newarray .boolean, 688, 0), (688, .putfield 248, 691, 0), (691, .aload_n 0, 692, 0), (692, .bipush 48, 694, 0), (694, .newarray .int, 696, 0), (696, .putfield 251, 699, 0), (699, .aload_n 0, 700, 0), (700, .iconst 2, 701, 0), (701, .newarray .int, 703, 0), (703, .putfield 254, 706, 0), (706, .aload_n 0, 707, 0), (707, .bipush 24, 709, 0), (709, .newarray .int, 711, 0), (711, .putfield 257, 714, 0), (714, .aload_n 0, 715, 0), (715, .bipush 24, 717, 0), (717, .newarray .int, 719, 0), (719, .putfield 260, 722, 0), (722, .aload_n 0, 723, 0), (723, .bipush 24, 725, 0), (725, .newarray .int, 727, 0), (727, .putfield 263, 730, 0), (730, .aload_n 0, 731, 0), (731, .bipush 48, 733, 0), (733, .anewarray 206, 736, 0)]
set_option maxRecDepth 20000 in
theorem pgc_64_9 : pgC_64_9.all (pg_ok (pg_cc 64)) = true := by decide +kernel
/-- MarkovDeskModel.<init>()V -/
def pgC_64_10 : List (Nat × Instr × Nat × Nat) := [(736, .putfield 266, 739, 0), (739, .aload_n 0, 740, 0), (740, .iconst 2, 741, 0), (741, .anewarray 206, 744, 0), (744, .putfield 270, 747, 0), (747, .aload_n 0, 748, 0), (748, .sipush 576, 751, 0), (751, .anewarray 206, 754, 0), (754, .putfield 273, 757, 0), (757, .aload_n 0, 758, 0), (758, .bipush 24, 760, 0), (760, .anewarray 206, 763, 0), (763, .putfield 276, 766, 0), (766, .aload_n 0, 767, 0), (767, .bipush 24, 769, 0), (769, .anewarray 206, 772, 0), (772, .putfield 279, 775, 0), (775, .aload_n 0, 776, 0), (776, .bipush 24, 778, 0), (778, .anewarray 206, 781, 0), (781, .putfield 282, 784, 0), (784, .aload_n 0, 785, 0), (785, .bipush 24, 787, 0), (787, .anewarray 206, 790, 0), (790, .putfield 285, 793, 0), (793, .aload_n 0, 794, 0), (794, .bipush 24, 796, 0), (796, .anewarray 206, 799, 0), (799, .putfield 288, 802, 0), (802, .aload_n 0, 803, 0), (803, .bipush 24, 805, 0), (805, .anewarray 206, 808, 0), (808, .putfield 291, 811, 0), (811, .aload_n 0, 812, 0), (812, .new 206, 815, 0), (815, .dup, 816, 0), (816, .sipush 300, 819, 0), (819, .invokespecial 208, 822, 0), (822, .putfield 294, 825, 0), (825, .aload_n 0, 826, 0)]
set_option maxRecDepth 20000 in
theorem pgc_64_10 : pgC_64_10.all (pg_ok (pg_cc 64)) = true := by decide +kernel
/-- MarkovDeskModel.<init>()V -/
def pgC_64_11 : List (Nat × Instr × Nat × Nat) := [(826, .new 206, 829, 0), (829, .dup, 830, 0), (830, .sipush 300, 833, 0), (833, .invokespecial 208, 836, 0), (836, .putfield 297, 839, 0), (839, .aload_n 0, 840, 0), (840, .new 206, 843, 0), (843, .dup, 844, 0), (844, .sipush 300, 847, 0), (847, .invokespecial 208, 850, 0), (850, .putfield 300, 853, 0), (853, .aload_n 0, 854, 0), (854, .new 206, 857, 0), (857, .dup, 858, 0), (858, .sipush 600, 861, 0), (861, .invokespecial 208, 864, 0), (864, .putfield 303, 867, 0), (867, .aload_n 0, 868, 0), (868, .new 206, 871, 0), (871, .dup, 872, 0), (872, .sipush 300, 875, 0), (875, .invokespecial 208, 878, 0), (878, .putfield 306, 881, 0), (881, .aload_n 0, 882, 0), (882, .new 206, 885, 0), (885, .dup, 886, 0), (886, .sipush 600, 889, 0), (889, .invokespecial 208, 892, 0), (892, .putfield 309, 895, 0), (895, .aload_n 0, 896, 0), (896, .new 206, 899, 0), (899, .dup, 900, 0), (900, .sipush 300, 903, 0), (903, .invokespecial 208, 906, 0), (906, .putfield 312, 909, 0), (909, .aload_n 0, 910, 0), (910, .new 206, 913, 0), (913, .dup, 914, 0), (914, .sipush 900, 917, 0), (917, .invokespecial 208, 920, 0)]
set_option maxRecDepth 20000 in
theorem pgc_64_11 : pgC_64_11.all (pg_ok (pg_cc 64)) = true := by decide +kernel
/-- MarkovDeskModel.<init>()V -/
def pgC_64_12 : List (Nat × Instr × Nat × Nat) := [(920, .putfield 315, 923, 0), (923, .aload_n 0, 924, 0), (924, .new 206, 927, 0), (927, .dup, 928, 0), (928, .sipush 900, 931, 0), (931, .invokespecial 208, 934, 0), (934, .putfield 318, 937, 0), (937, .aload_n 0, 938, 0), (938, .new 206, 941, 0), (941, .dup, 942, 0), (942, .sipush 300, 945, 0), (945, .invokespecial 208, 948, 0), (948, .putfield 321, 951, 0), (951, .aload_n 0, 952, 0), (952, .new 206, 955, 0), (955, .dup, 956, 0), (956, .sipush 1300, 959, 0), (959, .invokespecial 208, 962, 0), (962, .putfield 324, 965, 0), (965, .aload_n 0, 966, 0), (966, .new 206, 969, 0), (969, .dup, 970, 0), (970, .sipush 1300, 973, 0), (973, .invokespecial 208, 976, 0), (976, .putfield 327, 979, 0), (979, .aload_n 0, 980, 0), (980, .new 206, 983, 0), (983, .dup, 984, 0), (984, .sipush 1300, 987, 0), (987, .invokespecial 208, 990, 0), (990, .putfield 330, 993, 0), (993, .aload_n 0, 994, 0), (994, .bipush 24, 996, 0), (996, .newarray .boolean, 998, 0), (998, .putfield 333, 1001, 0), (1001, .aload_n 0, 1002, 0), (1002, .invokevirtual 336, 1005, 0), (1005, .return_, 1006, 0)]
set_option maxRecDepth 20000 in
theorem pgc_64_12 : pgC_64_12.all (pg_ok (pg_cc 64)) = true := by decide +kernel
def pgC_64 : List (Nat × Instr × Nat × Nat) := pgC_64_0 ++ (pgC_64_1 ++ (pgC_64_2 ++ (pgC_64_3 ++ (pgC_64_4 ++ (pgC_64_5 ++ (pgC_64_6 ++ (pgC_64_7 ++ (pgC_64_8 ++ (pgC_64_9 ++ (pgC_64_10 ++ (pgC_64_11 ++ (pgC_64_12))))))))))))
theorem pgc_64 : pgC_64.all (pg_ok (pg_cc 64)) = true := pg_all2 pgc_64_0 (pg_all2 pgc_64_1 (pg_all2 pgc_64_2 (pg_all2 pgc_64_3 (pg_all2 pgc_64_4 (pg_all2 pgc_64_5 (pg_all2 pgc_64_6 (pg_all2 pgc_64_7 (pg_all2 pgc_64_8 (pg_all2 pgc_64_9 (pg_all2 pgc_64_10 (pg_all2 pgc_64_11 (pgc_64_12))))))))))))
end
section
/-- MarkovDeskModel$Whole.<init>(I)V -/
def pgC_65 : List (Nat × Instr × Nat × Nat) := [(0, .aload_n 0, 1, 0), (1, .invokespecial 1, 4, 0), (4, .aload_n 0, 5, 0), (5, .iload_n 1, 6, 0), (6, .newarray .int, 8, 0), (8, .putfield 7, 11, 0), (11, .return_, 12, 0)]
set_option maxRecDepth 20000 in
theorem pgc_65 : pgC_65.all (pg_ok (pg_cc 65)) = true := by decide +kernel
/-- MarkovDeskModel.rooms()V -/
def pgC_66_0 : List (Nat × Instr × Nat × Nat) := [(0, .iconst 0, 1, 0), (1, .istore_n 1, 2, 0), (2, .iload_n 1, 3, 0), (3, .bipush 48, 5, 0), (5, .if_icmp .ge 25, 8, 30), (8, .aload_n 0, 9, 0), (9, .getfield 266, 12, 0), (12, .iload_n 1, 13, 0), (13, .new 206, 16, 0), (16, .dup, 17, 0), (17, .sipush 300, 20, 0), (20, .invokespecial 208, 23, 0), (23, .aastore, 24, 0), (24, .iinc 1 1, 27, 0), (27, .goto (-25), 30, 2), (30, .iconst 0, 31, 0), (31, .istore_n 1, 32, 0), (32, .iload_n 1, 33, 0), (33, .iconst 2, 34, 0), (34, .if_icmp .ge 25, 37, 59), (37, .aload_n 0, 38, 0), (38, .getfield 270, 41, 0), (41, .iload_n 1, 42, 0), (42, .new 206, 45, 0), (45, .dup, 46, 0), (46, .sipush 300, 49, 0), (49, .invokespecial 208, 52, 0), (52, .aastore, 53, 0), (53, .iinc 1 1, 56, 0), (56, .goto (-24), 59, 32), (59, .iconst 0, 60, 0), (60, .istore_n 1, 61, 0), (61, .iload_n 1, 62, 0), (62, .sipush 576, 65, 0), (65, .if_icmp .ge 25, 68, 90), (68, .aload_n 0, 69, 0), (69, .getfield 273, 72, 0), (72, .iload_n 1, 73, 0), (73, .new 206, 76, 0), (76, .dup, 77, 0), (77, .sipush 300, 80, 0), (80, .invokespecial 208, 83, 0), (83, .aastore, 84, 0), (84, .iinc 1 1, 87, 0), (87, .goto (-26), 90, 61), (90, .iconst 0, 91, 0), (91, .istore_n 1, 92, 0), (92, .iload_n 1, 93, 0), (93, .bipush 24, 95, 0), (95, .if_icmp .ge 114, 98, 209), (98, .aload_n 0, 99, 0), (99, .getfield 276, 102, 0), (102, .iload_n 1, 103, 0), (103, .new 206, 106, 0), (106, .dup, 107, 0), (107, .sipush 300, 110, 0), (110, .invokespecial 208, 113, 0), (113, .aastore, 114, 0), (114, .aload_n 0, 115, 0), (115, .getfield 279, 118, 0)]
set_option maxRecDepth 20000 in
theorem pgc_66_0 : pgC_66_0.all (pg_ok (pg_cc 66)) = true := by decide +kernel
/-- MarkovDeskModel.rooms()V -/
def pgC_66_1 : List (Nat × Instr × Nat × Nat) := [(118, .iload_n 1, 119, 0), (119, .new 206, 122, 0), (122, .dup, 123, 0), (123, .sipush 300, 126, 0), (126, .invokespecial 208, 129, 0), (129, .aastore, 130, 0), (130, .aload_n 0, 131, 0), (131, .getfield 282, 134, 0), (134, .iload_n 1, 135, 0), (135, .new 206, 138, 0), (138, .dup, 139, 0), (139, .sipush 700, 142, 0), (142, .invokespecial 208, 145, 0), (145, .aastore, 146, 0), (146, .aload_n 0, 147, 0), (147, .getfield 285, 150, 0), (150, .iload_n 1, 151, 0), (151, .new 206, 154, 0), (154, .dup, 155, 0), (155, .sipush 700, 158, 0), (158, .invokespecial 208, 161, 0), (161, .aastore, 162, 0), (162, .aload_n 0, 163, 0), (163, .getfield 285, 166, 0), (166, .iload_n 1, 167, 0), (167, .aaload, 168, 0), (168, .invokevirtual 573, 171, 0), (171, .aload_n 0, 172, 0), (172, .getfield 288, 175, 0), (175, .iload_n 1, 176, 0), (176, .new 206, 179, 0), (179, .dup, 180, 0), (180, .sipush 600, 183, 0), (183, .invokespecial 208, 186, 0), (186, .aastore, 187, 0), (187, .aload_n 0, 188, 0), (188, .getfield 291, 191, 0), (191, .iload_n 1, 192, 0), (192, .new 206, 195, 0), (195, .dup, 196, 0), (196, .sipush 600, 199, 0), (199, .invokespecial 208, 202, 0), (202, .aastore, 203, 0), (203, .iinc 1 1, 206, 0), (206, .goto (-114), 209, 92), (209, .aload_n 0, 210, 0), (210, .getfield 327, 213, 0), (213, .invokevirtual 573, 216, 0), (216, .return_, 217, 0)]
set_option maxRecDepth 20000 in
theorem pgc_66_1 : pgC_66_1.all (pg_ok (pg_cc 66)) = true := by decide +kernel
def pgC_66 : List (Nat × Instr × Nat × Nat) := pgC_66_0 ++ (pgC_66_1)
theorem pgc_66 : pgC_66.all (pg_ok (pg_cc 66)) = true := pg_all2 pgc_66_0 (pgc_66_1)
/-- MarkovDeskModel$Whole.one()V -/
def pgC_67 : List (Nat × Instr × Nat × Nat) := [(0, .aload_n 0, 1, 0), (1, .lconst 1, 2, 0), (2, .invokevirtual 19, 5, 0), (5, .return_, 6, 0)]
set_option maxRecDepth 20000 in
theorem pgc_67 : pgC_67.all (pg_ok (pg_cc 67)) = true := by decide +kernel
/-- MarkovDeskModel$Whole.set(J)V -/
def pgC_68 : List (Nat × Instr × Nat × Nat) := [(0, .aload_n 0, 1, 0), (1, .iconst 0, 2, 0), (2, .putfield 13, 5, 0), (5, .lload_n 1, 6, 0), (6, .lstore_n 3, 7, 0), (7, .lload_n 3, 8, 0), (8, .lconst 0, 9, 0), (9, .lcmp, 10, 0), (10, .ifCond .eq 33, 13, 43), (13, .aload_n 0, 14, 0), (14, .getfield 7, 17, 0), (17, .aload_n 0, 18, 0), (18, .dup, 19, 0), (19, .getfield 13, 22, 0), (22, .dup_x1, 23, 0), (23, .iconst 1, 24, 0), (24, .iadd, 25, 0), (25, .putfield 13, 28, 0), (28, .lload_n 3, 29, 0), (29, .ldc2_w 17, 32, 0), (32, .land, 33, 0), (33, .l2i, 34, 0), (34, .iastore, 35, 0), (35, .lload_n 3, 36, 0), (36, .bipush 16, 38, 0), (38, .lushr, 39, 0), (39, .lstore_n 3, 40, 0), (40, .goto (-33), 43, 7), (43, .return_, 44, 0)]
set_option maxRecDepth 20000 in
theorem pgc_68 : pgC_68.all (pg_ok (pg_cc 68)) = true := by decide +kernel
/-- MarkovDeskModel.thrown()I -/
def pgC_69 : List (Nat × Instr × Nat × Nat) := [(0, .aload_n 0, 1, 0), (1, .getfield 339, 4, 0), (4, .ireturn, 5, 0)]
set_option maxRecDepth 20000 in
theorem pgc_69 : pgC_69.all (pg_ok (pg_cc 69)) = true := by decide +kernel
/-- MarkovDeskModel.feed(IIIII)I -/
def pgC_70_0 : List (Nat × Instr × Nat × Nat) := [(0, .aload_n 0, 1, 0), (1, .iconst 0, 2, 0), (2, .putfield 339, 5, 0), (5, .aload_n 0, 6, 0), (6, .aload_n 0, 7, 0), (7, .getfield 342, 10, 0), (10, .bipush 20, 12, 0), (12, .iadd, 13, 0), (13, .sipush 8200, 16, 0), (16, .if_icmp .le 7, 19, 23), (19, .iconst 1, 20, 0), (20, .goto 4, 23, 24), (23, .iconst 0, 24, 0), (24, .iconst 1, 25, 0), (25, .invokevirtual 345, 28, 0), (28, .ifCond .eq 5, 31, 33), (31, .iconst 0, 32, 0), (32, .ireturn, 33, 0), (33, .iconst 0, 34, 0), (34, .istore 6, 36, 0), (36, .iload 6, 38, 0), (38, .bipush 20, 40, 0), (40, .if_icmp .ge 90, 43, 130), (43, .iload 6, 45, 0), (45, .iconst 4, 46, 0), (46, .if_icmp .ge 7, 49, 53), (49, .iload_n 1, 50, 0), (50, .goto 39, 53, 89), (53, .iload 6, 55, 0), (55, .bipush 8, 57, 0), (57, .if_icmp .ge 7, 60, 64), (60, .iload_n 2, 61, 0), (61, .goto 28, 64, 89), (64, .iload 6, 66, 0), (66, .bipush 12, 68, 0), (68, .if_icmp .ge 7, 71, 75), (71, .iload_n 3, 72, 0), (72, .goto 17, 75, 89), (75, .iload 6, 77, 0), (77, .bipush 16, 79, 0), (79, .if_icmp .ge 8, 82, 87), (82, .iload 4, 84, 0), (84, .goto 5, 87, 89), (87, .iload 5, 89, 0), (89, .istore 7, 91, 0), (91, .aload_n 0, 92, 0), (92, .getfield 98, 95, 0), (95, .aload_n 0, 96, 0), (96, .dup, 97, 0), (97, .getfield 342, 100, 0), (100, .dup_x1, 101, 0), (101, .iconst 1, 102, 0), (102, .iadd, 103, 0), (103, .putfield 342, 106, 0), (106, .iload 7, 108, 0), (108, .bipush 24, 110, 0), (110, .bipush 8, 112, 0), (112, .iload 6, 114, 0), (114, .iconst 3, 115, 0), (115, .iand, 116, 0)]
set_option maxRecDepth 20000 in
theorem pgc_70_0 : pgC_70_0.all (pg_ok (pg_cc 70)) = true := by decide +kernel
/-- MarkovDeskModel.feed(IIIII)I -/
def pgC_70_1 : List (Nat × Instr × Nat × Nat) := [(116, .imul, 117, 0), (117, .isub, 118, 0), (118, .iushr, 119, 0), (119, .sipush 255, 122, 0), (122, .iand, 123, 0), (123, .iastore, 124, 0), (124, .iinc 6 1, 127, 0), (127, .goto (-91), 130, 36), (130, .aload_n 0, 131, 0), (131, .getfield 342, 134, 0), (134, .ireturn, 135, 0)]
set_option maxRecDepth 20000 in
theorem pgc_70_1 : pgC_70_1.all (pg_ok (pg_cc 70)) = true := by decide +kernel
def pgC_70 : List (Nat × Instr × Nat × Nat) := pgC_70_0 ++ (pgC_70_1)
theorem pgc_70 : pgC_70.all (pg_ok (pg_cc 70)) = true := pg_all2 pgc_70_0 (pgc_70_1)
/-- MarkovDeskModel.fails(ZI)Z -/
def pgC_71 : List (Nat × Instr × Nat × Nat) := [(0, .iload_n 1, 1, 0), (1, .ifCond .eq 15, 4, 16), (4, .aload_n 0, 5, 0), (5, .getfield 339, 8, 0), (8, .ifCond .ne 8, 11, 16), (11, .aload_n 0, 12, 0), (12, .iload_n 2, 13, 0), (13, .putfield 339, 16, 0), (16, .aload_n 0, 17, 0), (17, .getfield 339, 20, 0), (20, .ifCond .eq 7, 23, 27), (23, .iconst 1, 24, 0), (24, .goto 4, 27, 28), (27, .iconst 0, 28, 0), (28, .ireturn, 29, 0)]
set_option maxRecDepth 20000 in
theorem pgc_71 : pgC_71.all (pg_ok (pg_cc 71)) = true := by decide +kernel
/-- MarkovDeskModel.wrong()I -/
def pgC_72 : List (Nat × Instr × Nat × Nat) := [(0, .aload_n 0, 1, 0), (1, .iconst 0, 2, 0), (2, .putfield 339, 5, 0), (5, .aload_n 0, 6, 0), (6, .getfield 94, 9, 0), (9, .ireturn, 10, 0)]
set_option maxRecDepth 20000 in
theorem pgc_72 : pgC_72.all (pg_ok (pg_cc 72)) = true := by decide +kernel
/-- MarkovDeskModel.end(I)I -/
def pgC_73_0 : List (Nat × Instr × Nat × Nat) := [(0, .aload_n 0, 1, 0), (1, .iconst 0, 2, 0), (2, .putfield 339, 5, 0), (5, .aload_n 0, 6, 0), (6, .iload_n 1, 7, 0), (7, .ifCond .lt 18, 10, 25), (10, .iload_n 1, 11, 0), (11, .sipush 8192, 14, 0), (14, .if_icmp .gt 11, 17, 25), (17, .iload_n 1, 18, 0), (18, .aload_n 0, 19, 0), (19, .getfield 342, 22, 0), (22, .if_icmp .le 7, 25, 29), (25, .iconst 1, 26, 0), (26, .goto 4, 29, 30), (29, .iconst 0, 30, 0), (30, .iconst 1, 31, 0), (31, .invokevirtual 345, 34, 0), (34, .ifCond .eq 5, 37, 39), (37, .iconst 0, 38, 0), (38, .ireturn, 39, 0), (39, .aload_n 0, 40, 0), (40, .iconst 0, 41, 0), (41, .putfield 342, 44, 0), (44, .aload_n 0, 45, 0), (45, .iconst 0, 46, 0), (46, .putfield 349, 49, 0), (49, .aload_n 0, 50, 0), (50, .iconst 0, 51, 0), (51, .putfield 353, 54, 0), (54, .aload_n 0, 55, 0), (55, .iconst (-1), 56, 0), (56, .putfield 94, 59, 0), (59, .aload_n 0, 60, 0), (60, .iload_n 1, 61, 0), (61, .putfield 356, 64, 0), (64, .iconst 0, 65, 0), (65, .istore_n 2, 66, 0), (66, .iload_n 2, 67, 0), (67, .iload_n 1, 68, 0), (68, .if_icmp .ge 54, 71, 122), (71, .aload_n 0, 72, 0), (72, .getfield 102, 75, 0), (75, .iload_n 2, 76, 0), (76, .aload_n 0, 77, 0), (77, .getfield 98, 80, 0), (80, .iload_n 2, 81, 0), (81, .iaload, 82, 0), (82, .iastore, 83, 0), (83, .aload_n 0, 84, 0), (84, .getfield 102, 87, 0), (87, .iload_n 2, 88, 0), (88, .iaload, 89, 0), (89, .bipush 10, 91, 0), (91, .if_icmp .eq 25, 94, 116), (94, .aload_n 0, 95, 0), (95, .getfield 102, 98, 0), (98, .iload_n 2, 99, 0), (99, .iaload, 100, 0), (100, .bipush 32, 102, 0)]
set_option maxRecDepth 20000 in
theorem pgc_73_0 : pgC_73_0.all (pg_ok (pg_cc 73)) = true := by decide +kernel
/-- MarkovDeskModel.end(I)I -/
def pgC_73_1 : List (Nat × Instr × Nat × Nat) := [(102, .bipush 126, 104, 0), (104, .invokestatic 359, 107, 0), (107, .ifCond .ne 9, 110, 116), (110, .aload_n 0, 111, 0), (111, .iload_n 2, 112, 0), (112, .invokevirtual 363, 115, 0), (115, .pop, 116, 0), (116, .iinc 2 1, 119, 0), (119, .goto (-53), 122, 66), (122, .aload_n 0, 123, 0), (123, .getfield 94, 126, 0), (126, .ifCond .ge 14, 129, 140), (129, .aload_n 0, 130, 0), (130, .invokevirtual 367, 133, 0), (133, .ifCond .eq 7, 136, 140), (136, .iconst 1, 137, 0), (137, .goto 4, 140, 141), (140, .iconst 0, 141, 0), (141, .istore_n 2, 142, 0), (142, .aload_n 0, 143, 0), (143, .iload_n 2, 144, 0), (144, .ifCond .ne 7, 147, 151), (147, .iconst 1, 148, 0), (148, .goto 4, 151, 152), (151, .iconst 0, 152, 0), (152, .iconst 2, 153, 0), (153, .invokevirtual 345, 156, 0), (156, .ifCond .eq 5, 159, 161), (159, .iconst 0, 160, 0), (160, .ireturn, 161, 0), (161, .aload_n 0, 162, 0), (162, .iconst 1, 163, 0), (163, .putfield 349, 166, 0), (166, .aload_n 0, 167, 0), (167, .getfield 371, 170, 0), (170, .ireturn, 171, 0)]
set_option maxRecDepth 20000 in
theorem pgc_73_1 : pgC_73_1.all (pg_ok (pg_cc 73)) = true := by decide +kernel
def pgC_73 : List (Nat × Instr × Nat × Nat) := pgC_73_0 ++ (pgC_73_1)
theorem pgc_73 : pgC_73.all (pg_ok (pg_cc 73)) = true := pg_all2 pgc_73_0 (pgc_73_1)
/-- MarkovDeskModel.in(III)Z -/
def pgC_74 : List (Nat × Instr × Nat × Nat) := [(0, .iload_n 0, 1, 0), (1, .iload_n 1, 2, 0), (2, .if_icmp .lt 12, 5, 14), (5, .iload_n 0, 6, 0), (6, .iload_n 2, 7, 0), (7, .if_icmp .gt 7, 10, 14), (10, .iconst 1, 11, 0), (11, .goto 4, 14, 15), (14, .iconst 0, 15, 0), (15, .ireturn, 16, 0)]
set_option maxRecDepth 20000 in
theorem pgc_74 : pgC_74.all (pg_ok (pg_cc 74)) = true := by decide +kernel
/-- MarkovDeskModel.bad(I)Z -/
def pgC_75 : List (Nat × Instr × Nat × Nat) := [(0, .aload_n 0, 1, 0), (1, .getfield 94, 4, 0), (4, .ifCond .ge 8, 7, 12), (7, .aload_n 0, 8, 0), (8, .iload_n 1, 9, 0), (9, .putfield 94, 12, 0), (12, .iconst 0, 13, 0), (13, .ireturn, 14, 0)]
set_option maxRecDepth 20000 in
theorem pgc_75 : pgC_75.all (pg_ok (pg_cc 75)) = true := by decide +kernel
/-- MarkovDeskModel.model()Z -/
def pgC_76_0 : List (Nat × Instr × Nat × Nat) := [(0, .aload_n 0, 1, 0), (1, .iconst 0, 2, 0), (2, .putfield 420, 5, 0), (5, .aload_n 0, 6, 0), (6, .iconst 0, 7, 0), (7, .putfield 493, 10, 0), (10, .aload_n 0, 11, 0), (11, .iconst 0, 12, 0), (12, .putfield 496, 15, 0), (15, .aload_n 0, 16, 0), (16, .iconst 0, 17, 0), (17, .putfield 499, 20, 0), (20, .aload_n 0, 21, 0), (21, .iconst 0, 22, 0), (22, .putfield 502, 25, 0), (25, .aload_n 0, 26, 0), (26, .iconst 0, 27, 0), (27, .putfield 427, 30, 0), (30, .aload_n 0, 31, 0), (31, .iconst 0, 32, 0), (32, .putfield 479, 35, 0), (35, .aload_n 0, 36, 0), (36, .invokevirtual 505, 39, 0), (39, .ifCond .eq 12, 42, 51), (42, .aload_n 0, 43, 0), (43, .ldc 9, 45, 0), (45, .invokevirtual 448, 48, 0), (48, .ifCond .ne 5, 51, 53), (51, .iconst 0, 52, 0), (52, .ireturn, 53, 0), (53, .aload_n 0, 54, 0), (54, .ldc 11, 56, 0), (56, .invokevirtual 417, 59, 0), (59, .ifCond .eq 12, 62, 71), (62, .aload_n 0, 63, 0), (63, .invokevirtual 508, 66, 0), (66, .ifCond .ne (-13), 69, 53), (69, .iconst 0, 70, 0), (70, .ireturn, 71, 0), (71, .aload_n 0, 72, 0), (72, .ldc 17, 74, 0), (74, .invokevirtual 417, 77, 0), (77, .ifCond .eq 11, 80, 88), (80, .aload_n 0, 81, 0), (81, .getfield 496, 84, 0), (84, .iconst 3, 85, 0), (85, .if_icmp .ne 12, 88, 97), (88, .aload_n 0, 89, 0), (89, .aload_n 0, 90, 0), (90, .getfield 383, 93, 0), (93, .invokevirtual 363, 96, 0), (96, .ireturn, 97, 0), (97, .aload_n 0, 98, 0), (98, .invokevirtual 511, 101, 0), (101, .ifCond .ne 5, 104, 106), (104, .iconst 0, 105, 0), (105, .ireturn, 106, 0), (106, .aload_n 0, 107, 0), (107, .ldc 17, 109, 0), (109, .invokevirtual 417, 112, 0)]
set_option maxRecDepth 20000 in
theorem pgc_76_0 : pgC_76_0.all (pg_ok (pg_cc 76)) = true := by decide +kernel
/-- MarkovDeskModel.model()Z -/
def pgC_76_1 : List (Nat × Instr × Nat × Nat) := [(112, .ifCond .ne (-41), 115, 71), (115, .aload_n 0, 116, 0), (116, .ldc 23, 118, 0), (118, .invokevirtual 448, 121, 0), (121, .ifCond .ne 5, 124, 126), (124, .iconst 0, 125, 0), (125, .ireturn, 126, 0), (126, .aload_n 0, 127, 0), (127, .iconst 1, 128, 0), (128, .putfield 479, 131, 0), (131, .aload_n 0, 132, 0), (132, .aload_n 0, 133, 0), (133, .iconst 1, 134, 0), (134, .invokevirtual 513, 137, 0), (137, .putfield 517, 140, 0), (140, .aload_n 0, 141, 0), (141, .getfield 517, 144, 0), (144, .ifCond .lt 12, 147, 156), (147, .aload_n 0, 148, 0), (148, .ldc 77, 150, 0), (150, .invokevirtual 448, 153, 0), (153, .ifCond .ne 5, 156, 158), (156, .iconst 0, 157, 0), (157, .ireturn, 158, 0), (158, .aload_n 0, 159, 0), (159, .getfield 386, 162, 0), (162, .iconst 5, 163, 0), (163, .if_icmp .eq 14, 166, 177), (166, .aload_n 0, 167, 0), (167, .aload_n 0, 168, 0), (168, .getfield 383, 171, 0), (171, .invokevirtual 363, 174, 0), (174, .ifCond .eq 7, 177, 181), (177, .iconst 1, 178, 0), (178, .goto 4, 181, 182), (181, .iconst 0, 182, 0), (182, .ireturn, 183, 0)]
set_option maxRecDepth 20000 in
theorem pgc_76_1 : pgC_76_1.all (pg_ok (pg_cc 76)) = true := by decide +kernel
def pgC_76 : List (Nat × Instr × Nat × Nat) := pgC_76_0 ++ (pgC_76_1)
theorem pgc_76 : pgC_76.all (pg_ok (pg_cc 76)) = true := pg_all2 pgc_76_0 (pgc_76_1)
/-- MarkovDeskModel.begin()Z -/
def pgC_77 : List (Nat × Instr × Nat × Nat) := [(0, .aload_n 0, 1, 0), (1, .iconst 0, 2, 0), (2, .putfield 374, 5, 0), (5, .aload_n 0, 6, 0), (6, .iconst 0, 7, 0), (7, .putfield 371, 10, 0), (10, .aload_n 0, 11, 0), (11, .invokevirtual 377, 14, 0), (14, .ireturn, 15, 0)]
set_option maxRecDepth 20000 in
theorem pgc_77 : pgC_77.all (pg_ok (pg_cc 77)) = true := by decide +kernel
/-- MarkovDeskModel.next()Z -/
def pgC_78_0 : List (Nat × Instr × Nat × Nat) := [(0, .aload_n 0, 1, 0), (1, .getfield 374, 4, 0), (4, .istore_n 1, 5, 0), (5, .iload_n 1, 6, 0), (6, .aload_n 0, 7, 0), (7, .getfield 356, 10, 0), (10, .if_icmp .ge 79, 13, 89), (13, .aload_n 0, 14, 0), (14, .getfield 102, 17, 0), (17, .iload_n 1, 18, 0), (18, .iaload, 19, 0), (19, .bipush 10, 21, 0), (21, .if_icmp .eq 14, 24, 35), (24, .aload_n 0, 25, 0), (25, .getfield 102, 28, 0), (28, .iload_n 1, 29, 0), (29, .iaload, 30, 0), (30, .bipush 32, 32, 0), (32, .if_icmp .ne 9, 35, 41), (35, .iinc 1 1, 38, 0), (38, .goto (-33), 41, 5), (41, .aload_n 0, 42, 0), (42, .getfield 102, 45, 0), (45, .iload_n 1, 46, 0), (46, .iaload, 47, 0), (47, .bipush 47, 49, 0), (49, .if_icmp .ne 40, 52, 89), (52, .aload_n 0, 53, 0), (53, .iload_n 1, 54, 0), (54, .iconst 1, 55, 0), (55, .iadd, 56, 0), (56, .invokevirtual 379, 59, 0), (59, .bipush 47, 61, 0), (61, .if_icmp .ne 28, 64, 89), (64, .iload_n 1, 65, 0), (65, .aload_n 0, 66, 0), (66, .getfield 356, 69, 0), (69, .if_icmp .ge (-64), 72, 5), (72, .aload_n 0, 73, 0), (73, .getfield 102, 76, 0), (76, .iload_n 1, 77, 0), (77, .iaload, 78, 0), (78, .bipush 10, 80, 0), (80, .if_icmp .eq (-75), 83, 5), (83, .iinc 1 1, 86, 0), (86, .goto (-22), 89, 64), (89, .aload_n 0, 90, 0), (90, .iload_n 1, 91, 0), (91, .putfield 383, 94, 0), (94, .aload_n 0, 95, 0), (95, .iload_n 1, 96, 0), (96, .putfield 374, 99, 0), (99, .aload_n 0, 100, 0), (100, .dup, 101, 0), (101, .getfield 371, 104, 0), (104, .iconst 1, 105, 0), (105, .iadd, 106, 0), (106, .dup_x1, 107, 0), (107, .putfield 371, 110, 0), (110, .sipush 1500, 113, 0)]
set_option maxRecDepth 20000 in
theorem pgc_78_0 : pgC_78_0.all (pg_ok (pg_cc 78)) = true := by decide +kernel
/-- MarkovDeskModel.next()Z -/
def pgC_78_1 : List (Nat × Instr × Nat × Nat) := [(113, .if_icmp .le 9, 116, 122), (116, .aload_n 0, 117, 0), (117, .iload_n 1, 118, 0), (118, .invokevirtual 363, 121, 0), (121, .ireturn, 122, 0), (122, .iload_n 1, 123, 0), (123, .aload_n 0, 124, 0), (124, .getfield 356, 127, 0), (127, .if_icmp .lt 10, 130, 137), (130, .aload_n 0, 131, 0), (131, .iconst 5, 132, 0), (132, .putfield 386, 135, 0), (135, .iconst 1, 136, 0), (136, .ireturn, 137, 0), (137, .aload_n 0, 138, 0), (138, .getfield 102, 141, 0), (141, .iload_n 1, 142, 0), (142, .iaload, 143, 0), (143, .invokestatic 389, 146, 0), (146, .ifCond .eq 126, 149, 272), (149, .aload_n 0, 150, 0), (150, .getfield 374, 153, 0), (153, .aload_n 0, 154, 0), (154, .getfield 383, 157, 0), (157, .isub, 158, 0), (158, .bipush 20, 160, 0), (160, .if_icmp .ge 44, 163, 204), (163, .aload_n 0, 164, 0), (164, .aload_n 0, 165, 0), (165, .getfield 374, 168, 0), (168, .invokevirtual 379, 171, 0), (171, .invokestatic 389, 174, 0), (174, .ifCond .ne 17, 177, 191), (177, .aload_n 0, 178, 0), (178, .aload_n 0, 179, 0), (179, .getfield 374, 182, 0), (182, .invokevirtual 379, 185, 0), (185, .invokestatic 392, 188, 0), (188, .ifCond .eq 16, 191, 204), (191, .aload_n 0, 192, 0), (192, .dup, 193, 0), (193, .getfield 374, 196, 0), (196, .iconst 1, 197, 0), (197, .iadd, 198, 0), (198, .putfield 374, 201, 0), (201, .goto (-52), 204, 149), (204, .aload_n 0, 205, 0), (205, .iconst 0, 206, 0), (206, .putfield 386, 209, 0), (209, .iconst 0, 210, 0), (210, .istore_n 2, 211, 0), (211, .iload_n 2, 212, 0), (212, .aload_n 0, 213, 0), (213, .getfield 35, 216, 0), (216, .arraylength, 217, 0), (217, .if_icmp .ge 53, 220, 270), (220, .aload_n 0, 221, 0), (221, .aload_n 0, 222, 0), (222, .getfield 35, 225, 0), (225, .iload_n 2, 226, 0)]
set_option maxRecDepth 20000 in
theorem pgc_78_1 : pgC_78_1.all (pg_ok (pg_cc 78)) = true := by decide +kernel
/-- MarkovDeskModel.next()Z -/
def pgC_78_2 : List (Nat × Instr × Nat × Nat) := [(226, .aaload, 227, 0), (227, .invokevirtual 395, 230, 0), (230, .ifCond .eq 34, 233, 264), (233, .aload_n 0, 234, 0), (234, .getfield 374, 237, 0), (237, .aload_n 0, 238, 0), (238, .getfield 383, 241, 0), (241, .isub, 242, 0), (242, .aload_n 0, 243, 0), (243, .getfield 35, 246, 0), (246, .iload_n 2, 247, 0), (247, .aaload, 248, 0), (248, .invokevirtual 399, 251, 0), (251, .if_icmp .ne 13, 254, 264), (254, .aload_n 0, 255, 0), (255, .iconst 4, 256, 0), (256, .putfield 386, 259, 0), (259, .aload_n 0, 260, 0), (260, .iload_n 2, 261, 0), (261, .putfield 403, 264, 0), (264, .iinc 2 1, 267, 0), (267, .goto (-56), 270, 211), (270, .iconst 1, 271, 0), (271, .ireturn, 272, 0), (272, .aload_n 0, 273, 0), (273, .getfield 102, 276, 0), (276, .iload_n 1, 277, 0), (277, .iaload, 278, 0), (278, .invokestatic 392, 281, 0), (281, .ifCond .eq 8, 284, 289), (284, .aload_n 0, 285, 0), (285, .invokevirtual 406, 288, 0), (288, .ireturn, 289, 0), (289, .aload_n 0, 290, 0), (290, .iconst 3, 291, 0), (291, .putfield 386, 294, 0), (294, .aload_n 0, 295, 0), (295, .iconst (-1), 296, 0), (296, .putfield 403, 299, 0), (299, .iconst 0, 300, 0), (300, .istore_n 2, 301, 0), (301, .iload_n 2, 302, 0), (302, .aload_n 0, 303, 0), (303, .getfield 91, 306, 0), (306, .arraylength, 307, 0), (307, .if_icmp .ge 58, 310, 365), (310, .aload_n 0, 311, 0), (311, .aload_n 0, 312, 0), (312, .getfield 91, 315, 0), (315, .iload_n 2, 316, 0), (316, .aaload, 317, 0), (317, .invokevirtual 395, 320, 0), (320, .ifCond .eq 39, 323, 359), (323, .aload_n 0, 324, 0), (324, .getfield 403, 327, 0), (327, .ifCond .lt 27, 330, 354), (330, .aload_n 0, 331, 0), (331, .getfield 91, 334, 0), (334, .iload_n 2, 335, 0), (335, .aaload, 336, 0)]
set_option maxRecDepth 20000 in
theorem pgc_78_2 : pgC_78_2.all (pg_ok (pg_cc 78)) = true := by decide +kernel
/-- MarkovDeskModel.next()Z -/
def pgC_78_3 : List (Nat × Instr × Nat × Nat) := [(336, .invokevirtual 399, 339, 0), (339, .aload_n 0, 340, 0), (340, .getfield 91, 343, 0), (343, .aload_n 0, 344, 0), (344, .getfield 403, 347, 0), (347, .aaload, 348, 0), (348, .invokevirtual 399, 351, 0), (351, .if_icmp .le 8, 354, 359), (354, .aload_n 0, 355, 0), (355, .iload_n 2, 356, 0), (356, .putfield 403, 359, 0), (359, .iinc 2 1, 362, 0), (362, .goto (-61), 365, 301), (365, .aload_n 0, 366, 0), (366, .getfield 403, 369, 0), (369, .ifCond .ge 9, 372, 378), (372, .aload_n 0, 373, 0), (373, .iload_n 1, 374, 0), (374, .invokevirtual 363, 377, 0), (377, .ireturn, 378, 0), (378, .aload_n 0, 379, 0), (379, .iload_n 1, 380, 0), (380, .aload_n 0, 381, 0), (381, .getfield 91, 384, 0), (384, .aload_n 0, 385, 0), (385, .getfield 403, 388, 0), (388, .aaload, 389, 0), (389, .invokevirtual 399, 392, 0), (392, .iadd, 393, 0), (393, .putfield 374, 396, 0), (396, .iconst 1, 397, 0), (397, .ireturn, 398, 0)]
set_option maxRecDepth 20000 in
theorem pgc_78_3 : pgC_78_3.all (pg_ok (pg_cc 78)) = true := by decide +kernel
def pgC_78 : List (Nat × Instr × Nat × Nat) := pgC_78_0 ++ (pgC_78_1 ++ (pgC_78_2 ++ (pgC_78_3)))
theorem pgc_78 : pgC_78.all (pg_ok (pg_cc 78)) = true := pg_all2 pgc_78_0 (pg_all2 pgc_78_1 (pg_all2 pgc_78_2 (pgc_78_3)))
/-- MarkovDeskModel.need(Ljava/lang/String;)Z -/
def pgC_79 : List (Nat × Instr × Nat × Nat) := [(0, .aload_n 0, 1, 0), (1, .aload_n 1, 2, 0), (2, .invokevirtual 417, 5, 0), (5, .ifCond .eq 10, 8, 15), (8, .aload_n 0, 9, 0), (9, .invokevirtual 377, 12, 0), (12, .goto 11, 15, 23), (15, .aload_n 0, 16, 0), (16, .aload_n 0, 17, 0), (17, .getfield 383, 20, 0), (20, .invokevirtual 363, 23, 0), (23, .ireturn, 24, 0)]
set_option maxRecDepth 20000 in
theorem pgc_79 : pgC_79.all (pg_ok (pg_cc 79)) = true := by decide +kernel
/-- MarkovDeskModel.is(Ljava/lang/String;)Z -/
def pgC_80 : List (Nat × Instr × Nat × Nat) := [(0, .aload_n 0, 1, 0), (1, .getfield 386, 4, 0), (4, .iconst 3, 5, 0), (5, .if_icmp .eq 13, 8, 18), (8, .aload_n 0, 9, 0), (9, .getfield 386, 12, 0), (12, .iconst 4, 13, 0), (13, .if_icmp .eq 5, 16, 18), (16, .iconst 0, 17, 0), (17, .ireturn, 18, 0), (18, .aload_n 0, 19, 0), (19, .getfield 386, 22, 0), (22, .iconst 3, 23, 0), (23, .if_icmp .ne 19, 26, 42), (26, .aload_n 0, 27, 0), (27, .getfield 91, 30, 0), (30, .aload_n 0, 31, 0), (31, .getfield 403, 34, 0), (34, .aaload, 35, 0), (35, .aload_n 1, 36, 0), (36, .invokevirtual 413, 39, 0), (39, .goto 16, 42, 55), (42, .aload_n 0, 43, 0), (43, .getfield 35, 46, 0), (46, .aload_n 0, 47, 0), (47, .getfield 403, 50, 0), (50, .aaload, 51, 0), (51, .aload_n 1, 52, 0), (52, .invokevirtual 413, 55, 0), (55, .ireturn, 56, 0)]
set_option maxRecDepth 20000 in
theorem pgc_80 : pgC_80.all (pg_ok (pg_cc 80)) = true := by decide +kernel
/-- MarkovDeskModel.explore()I -/
def pgC_81_0 : List (Nat × Instr × Nat × Nat) := [(0, .aload_n 0, 1, 0), (1, .iconst 0, 2, 0), (2, .putfield 339, 5, 0), (5, .aload_n 0, 6, 0), (6, .aload_n 0, 7, 0), (7, .getfield 349, 10, 0), (10, .ifCond .ne 7, 13, 17), (13, .iconst 1, 14, 0), (14, .goto 4, 17, 18), (17, .iconst 0, 18, 0), (18, .iconst 1, 19, 0), (19, .invokevirtual 345, 22, 0), (22, .ifCond .eq 5, 25, 27), (25, .iconst 0, 26, 0), (26, .ireturn, 27, 0), (27, .aload_n 0, 28, 0), (28, .iconst 0, 29, 0), (29, .putfield 353, 32, 0), (32, .aload_n 0, 33, 0), (33, .iconst 1, 34, 0), (34, .putfield 555, 37, 0), (37, .aload_n 0, 38, 0), (38, .iconst 0, 39, 0), (39, .putfield 558, 42, 0), (42, .aload_n 0, 43, 0), (43, .iconst 0, 44, 0), (44, .putfield 561, 47, 0), (47, .aload_n 0, 48, 0), (48, .iconst 0, 49, 0), (49, .putfield 564, 52, 0), (52, .iconst 0, 53, 0), (53, .istore_n 1, 54, 0), (54, .iload_n 1, 55, 0), (55, .aload_n 0, 56, 0), (56, .getfield 493, 59, 0), (59, .if_icmp .ge 21, 62, 80), (62, .aload_n 0, 63, 0), (63, .getfield 169, 66, 0), (66, .iload_n 1, 67, 0), (67, .aload_n 0, 68, 0), (68, .getfield 132, 71, 0), (71, .iload_n 1, 72, 0), (72, .iaload, 73, 0), (73, .iastore, 74, 0), (74, .iinc 1 1, 77, 0), (77, .goto (-23), 80, 54), (80, .iconst 0, 81, 0), (81, .istore_n 1, 82, 0), (82, .iload_n 1, 83, 0), (83, .aload_n 0, 84, 0), (84, .getfield 555, 87, 0), (87, .if_icmp .ge 21, 90, 108), (90, .aload_n 0, 91, 0), (91, .getfield 564, 94, 0), (94, .ifCond .ne 14, 97, 108), (97, .aload_n 0, 98, 0), (98, .iload_n 1, 99, 0), (99, .invokevirtual 567, 102, 0), (102, .iinc 1 1, 105, 0), (105, .goto (-23), 108, 82)]
set_option maxRecDepth 20000 in
theorem pgc_81_0 : pgC_81_0.all (pg_ok (pg_cc 81)) = true := by decide +kernel
/-- MarkovDeskModel.explore()I -/
def pgC_81_1 : List (Nat × Instr × Nat × Nat) := [(108, .aload_n 0, 109, 0), (109, .aload_n 0, 110, 0), (110, .getfield 564, 113, 0), (113, .ifCond .le 7, 116, 120), (116, .iconst 1, 117, 0), (117, .goto 4, 120, 121), (120, .iconst 0, 121, 0), (121, .aload_n 0, 122, 0), (122, .getfield 564, 125, 0), (125, .invokevirtual 345, 128, 0), (128, .ifCond .eq 5, 131, 133), (131, .iconst 0, 132, 0), (132, .ireturn, 133, 0), (133, .aload_n 0, 134, 0), (134, .getfield 172, 137, 0), (137, .aload_n 0, 138, 0), (138, .getfield 555, 141, 0), (141, .aload_n 0, 142, 0), (142, .getfield 558, 145, 0), (145, .iastore, 146, 0), (146, .aload_n 0, 147, 0), (147, .getfield 175, 150, 0), (150, .aload_n 0, 151, 0), (151, .getfield 558, 154, 0), (154, .aload_n 0, 155, 0), (155, .getfield 561, 158, 0), (158, .iastore, 159, 0), (159, .aload_n 0, 160, 0), (160, .iconst 1, 161, 0), (161, .putfield 353, 164, 0), (164, .iconst 0, 165, 0), (165, .istore_n 1, 166, 0), (166, .iload_n 1, 167, 0), (167, .iconst 2, 168, 0), (168, .if_icmp .ge 23, 171, 191), (171, .aload_n 0, 172, 0), (172, .getfield 242, 175, 0), (175, .iload_n 1, 176, 0), (176, .iconst 0, 177, 0), (177, .bastore, 178, 0), (178, .aload_n 0, 179, 0), (179, .getfield 245, 182, 0), (182, .iload_n 1, 183, 0), (183, .iconst 0, 184, 0), (184, .bastore, 185, 0), (185, .iinc 1 1, 188, 0), (188, .goto (-22), 191, 166), (191, .iconst 0, 192, 0), (192, .istore_n 1, 193, 0), (193, .iload_n 1, 194, 0), (194, .bipush 24, 196, 0), (196, .if_icmp .ge 28, 199, 224), (199, .aload_n 0, 200, 0), (200, .getfield 282, 203, 0), (203, .iload_n 1, 204, 0), (204, .aaload, 205, 0), (205, .iconst 0, 206, 0), (206, .putfield 570, 209, 0), (209, .aload_n 0, 210, 0), (210, .getfield 285, 213, 0)]
set_option maxRecDepth 20000 in
theorem pgc_81_1 : pgC_81_1.all (pg_ok (pg_cc 81)) = true := by decide +kernel
/-- MarkovDeskModel.explore()I -/
def pgC_81_2 : List (Nat × Instr × Nat × Nat) := [(213, .iload_n 1, 214, 0), (214, .aaload, 215, 0), (215, .invokevirtual 573, 218, 0), (218, .iinc 1 1, 221, 0), (221, .goto (-28), 224, 193), (224, .aload_n 0, 225, 0), (225, .getfield 555, 228, 0), (228, .ireturn, 229, 0)]
set_option maxRecDepth 20000 in
theorem pgc_81_2 : pgC_81_2.all (pg_ok (pg_cc 81)) = true := by decide +kernel
def pgC_81 : List (Nat × Instr × Nat × Nat) := pgC_81_0 ++ (pgC_81_1 ++ (pgC_81_2))
theorem pgc_81 : pgC_81.all (pg_ok (pg_cc 81)) = true := pg_all2 pgc_81_0 (pg_all2 pgc_81_1 (pgc_81_2))
/-- MarkovDeskModel.outcome(II)V -/
def pgC_82_0 : List (Nat × Instr × Nat × Nat) := [(0, .iconst 0, 1, 0), (1, .istore_n 3, 2, 0), (2, .iload_n 3, 3, 0), (3, .aload_n 0, 4, 0), (4, .getfield 493, 7, 0), (7, .if_icmp .ge 21, 10, 28), (10, .aload_n 0, 11, 0), (11, .getfield 181, 14, 0), (14, .iload_n 3, 15, 0), (15, .aload_n 0, 16, 0), (16, .getfield 166, 19, 0), (19, .iload_n 3, 20, 0), (20, .iaload, 21, 0), (21, .iastore, 22, 0), (22, .iinc 3 1, 25, 0), (25, .goto (-23), 28, 2), (28, .lconst 1, 29, 0), (29, .lstore_n 3, 30, 0), (30, .lconst 1, 31, 0), (31, .lstore 5, 33, 0), (33, .iconst 0, 34, 0), (34, .istore 7, 36, 0), (36, .iload 7, 38, 0), (38, .iload_n 1, 39, 0), (39, .if_icmp .ge 154, 42, 193), (42, .aload_n 0, 43, 0), (43, .getfield 184, 46, 0), (46, .iload 7, 48, 0), (48, .iaload, 49, 0), (49, .bipush 6, 51, 0), (51, .imul, 52, 0), (52, .aload_n 0, 53, 0), (53, .getfield 190, 56, 0), (56, .iload 7, 58, 0), (58, .iaload, 59, 0), (59, .iadd, 60, 0), (60, .istore 8, 62, 0), (62, .lload_n 3, 63, 0), (63, .aload_n 0, 64, 0), (64, .getfield 147, 67, 0), (67, .iload 8, 69, 0), (69, .iaload, 70, 0), (70, .i2l, 71, 0), (71, .lmul, 72, 0), (72, .lstore_n 3, 73, 0), (73, .lload 5, 75, 0), (75, .aload_n 0, 76, 0), (76, .getfield 150, 79, 0), (79, .iload 8, 81, 0), (81, .iaload, 82, 0), (82, .i2l, 83, 0), (83, .lmul, 84, 0), (84, .lstore 5, 86, 0), (86, .iconst 0, 87, 0), (87, .istore 9, 89, 0), (89, .iload 9, 91, 0), (91, .aload_n 0, 92, 0), (92, .getfield 493, 95, 0), (95, .if_icmp .ge 92, 98, 187), (98, .aload_n 0, 99, 0)]
set_option maxRecDepth 20000 in
theorem pgc_82_0 : pgC_82_0.all (pg_ok (pg_cc 82)) = true := by decide +kernel
/-- MarkovDeskModel.outcome(II)V -/
def pgC_82_1 : List (Nat × Instr × Nat × Nat) := [(99, .iload 8, 101, 0), (101, .iload 9, 103, 0), (103, .invokevirtual 591, 106, 0), (106, .istore 10, 108, 0), (108, .iload 10, 110, 0), (110, .ifCond .ge 6, 113, 116), (113, .goto 74, 116, 187), (116, .aload_n 0, 117, 0), (117, .aload_n 0, 118, 0), (118, .getfield 153, 121, 0), (121, .iload 8, 123, 0), (123, .bipush 8, 125, 0), (125, .imul, 126, 0), (126, .iload 10, 128, 0), (128, .iadd, 129, 0), (129, .iaload, 130, 0), (130, .invokevirtual 522, 133, 0), (133, .istore 11, 135, 0), (135, .aload_n 0, 136, 0), (136, .getfield 482, 139, 0), (139, .ifCond .ne 27, 142, 166), (142, .iload 11, 144, 0), (144, .aload_n 0, 145, 0), (145, .getfield 126, 148, 0), (148, .iload 10, 150, 0), (150, .iaload, 151, 0), (151, .if_icmp .lt 15, 154, 166), (154, .iload 11, 156, 0), (156, .aload_n 0, 157, 0), (157, .getfield 129, 160, 0), (160, .iload 10, 162, 0), (162, .iaload, 163, 0), (163, .if_icmp .le 9, 166, 172), (166, .aload_n 0, 167, 0), (167, .iconst 2, 168, 0), (168, .putfield 564, 171, 0), (171, .return_, 172, 0), (172, .aload_n 0, 173, 0), (173, .getfield 181, 176, 0), (176, .iload 10, 178, 0), (178, .iload 11, 180, 0), (180, .iastore, 181, 0), (181, .iinc 9 1, 184, 0), (184, .goto (-95), 187, 89), (187, .iinc 7 1, 190, 0), (190, .goto (-154), 193, 36), (193, .iconst 0, 194, 0), (194, .istore 7, 196, 0), (196, .iload 7, 198, 0), (198, .aload_n 0, 199, 0), (199, .getfield 555, 202, 0), (202, .if_icmp .ge 18, 205, 220), (205, .aload_n 0, 206, 0), (206, .iload 7, 208, 0), (208, .invokevirtual 594, 211, 0), (211, .ifCond .ne 9, 214, 220), (214, .iinc 7 1, 217, 0), (217, .goto (-21), 220, 196), (220, .iload 7, 222, 0), (222, .bipush 24, 224, 0)]
set_option maxRecDepth 20000 in
theorem pgc_82_1 : pgC_82_1.all (pg_ok (pg_cc 82)) = true := by decide +kernel
/-- MarkovDeskModel.outcome(II)V -/
def pgC_82_2 : List (Nat × Instr × Nat × Nat) := [(224, .if_icmp .ne 9, 227, 233), (227, .aload_n 0, 228, 0), (228, .iconst 3, 229, 0), (229, .putfield 564, 232, 0), (232, .return_, 233, 0), (233, .iload 7, 235, 0), (235, .aload_n 0, 236, 0), (236, .getfield 555, 239, 0), (239, .if_icmp .ne 51, 242, 290), (242, .iconst 0, 243, 0), (243, .istore 8, 245, 0), (245, .iload 8, 247, 0), (247, .aload_n 0, 248, 0), (248, .getfield 493, 251, 0), (251, .if_icmp .ge 29, 254, 280), (254, .aload_n 0, 255, 0), (255, .getfield 169, 258, 0), (258, .bipush 8, 260, 0), (260, .iload 7, 262, 0), (262, .imul, 263, 0), (263, .iload 8, 265, 0), (265, .iadd, 266, 0), (266, .aload_n 0, 267, 0), (267, .getfield 181, 270, 0), (270, .iload 8, 272, 0), (272, .iaload, 273, 0), (273, .iastore, 274, 0), (274, .iinc 8 1, 277, 0), (277, .goto (-32), 280, 245), (280, .aload_n 0, 281, 0), (281, .dup, 282, 0), (282, .getfield 555, 285, 0), (285, .iconst 1, 286, 0), (286, .iadd, 287, 0), (287, .putfield 555, 290, 0), (290, .iload_n 2, 291, 0), (291, .istore 8, 293, 0), (293, .iload 8, 295, 0), (295, .aload_n 0, 296, 0), (296, .getfield 561, 299, 0), (299, .if_icmp .ge 21, 302, 320), (302, .aload_n 0, 303, 0), (303, .getfield 178, 306, 0), (306, .iload 8, 308, 0), (308, .iaload, 309, 0), (309, .iload 7, 311, 0), (311, .if_icmp .eq 9, 314, 320), (314, .iinc 8 1, 317, 0), (317, .goto (-24), 320, 293), (320, .aload_n 0, 321, 0), (321, .getfield 211, 324, 0), (324, .lload_n 3, 325, 0), (325, .invokevirtual 597, 328, 0), (328, .aload_n 0, 329, 0), (329, .getfield 215, 332, 0), (332, .lload 5, 334, 0), (334, .invokevirtual 597, 337, 0), (337, .iload 8, 339, 0), (339, .aload_n 0, 340, 0), (340, .getfield 561, 343, 0)]
set_option maxRecDepth 20000 in
theorem pgc_82_2 : pgC_82_2.all (pg_ok (pg_cc 82)) = true := by decide +kernel
/-- MarkovDeskModel.outcome(II)V -/
def pgC_82_3 : List (Nat × Instr × Nat × Nat) := [(343, .if_icmp .ne 60, 346, 403), (346, .aload_n 0, 347, 0), (347, .getfield 178, 350, 0), (350, .aload_n 0, 351, 0), (351, .dup, 352, 0), (352, .getfield 561, 355, 0), (355, .dup_x1, 356, 0), (356, .iconst 1, 357, 0), (357, .iadd, 358, 0), (358, .putfield 561, 361, 0), (361, .iload 7, 363, 0), (363, .iastore, 364, 0), (364, .aload_n 0, 365, 0), (365, .getfield 211, 368, 0), (368, .aload_n 0, 369, 0), (369, .getfield 200, 372, 0), (372, .iload 8, 374, 0), (374, .bipush 20, 376, 0), (376, .imul, 377, 0), (377, .bipush 20, 379, 0), (379, .invokevirtual 600, 382, 0), (382, .aload_n 0, 383, 0), (383, .getfield 215, 386, 0), (386, .aload_n 0, 387, 0), (387, .getfield 203, 390, 0), (390, .iload 8, 392, 0), (392, .bipush 20, 394, 0), (394, .imul, 395, 0), (395, .bipush 20, 397, 0), (397, .invokevirtual 600, 400, 0), (400, .goto 155, 403, 555), (403, .aload_n 0, 404, 0), (404, .getfield 224, 407, 0), (407, .aload_n 0, 408, 0), (408, .getfield 200, 411, 0), (411, .iload 8, 413, 0), (413, .bipush 20, 415, 0), (415, .imul, 416, 0), (416, .bipush 20, 418, 0), (418, .invokevirtual 604, 421, 0), (421, .aload_n 0, 422, 0), (422, .getfield 218, 425, 0), (425, .aload_n 0, 426, 0), (426, .getfield 224, 429, 0), (429, .aload_n 0, 430, 0), (430, .getfield 215, 433, 0), (433, .invokevirtual 607, 436, 0), (436, .aload_n 0, 437, 0), (437, .getfield 221, 440, 0), (440, .aload_n 0, 441, 0), (441, .getfield 203, 444, 0), (444, .iload 8, 446, 0), (446, .bipush 20, 448, 0), (448, .imul, 449, 0), (449, .bipush 20, 451, 0), (451, .invokevirtual 604, 454, 0), (454, .aload_n 0, 455, 0), (455, .getfield 224, 458, 0), (458, .aload_n 0, 459, 0), (459, .getfield 221, 462, 0)]
set_option maxRecDepth 20000 in
theorem pgc_82_3 : pgC_82_3.all (pg_ok (pg_cc 82)) = true := by decide +kernel
/-- MarkovDeskModel.outcome(II)V -/
def pgC_82_4 : List (Nat × Instr × Nat × Nat) := [(462, .aload_n 0, 463, 0), (463, .getfield 211, 466, 0), (466, .invokevirtual 607, 469, 0), (469, .aload_n 0, 470, 0), (470, .getfield 218, 473, 0), (473, .aload_n 0, 474, 0), (474, .getfield 224, 477, 0), (477, .invokevirtual 611, 480, 0), (480, .aload_n 0, 481, 0), (481, .getfield 224, 484, 0), (484, .aload_n 0, 485, 0), (485, .getfield 221, 488, 0), (488, .aload_n 0, 489, 0), (489, .getfield 215, 492, 0), (492, .invokevirtual 607, 495, 0), (495, .aload_n 0, 496, 0), (496, .getfield 221, 499, 0), (499, .aload_n 0, 500, 0), (500, .getfield 224, 503, 0), (503, .invokevirtual 615, 506, 0), (506, .aload_n 0, 507, 0), (507, .aload_n 0, 508, 0), (508, .getfield 218, 511, 0), (511, .aload_n 0, 512, 0), (512, .getfield 221, 515, 0), (515, .invokevirtual 618, 518, 0), (518, .aload_n 0, 519, 0), (519, .getfield 218, 522, 0), (522, .aload_n 0, 523, 0), (523, .getfield 200, 526, 0), (526, .iload 8, 528, 0), (528, .bipush 20, 530, 0), (530, .imul, 531, 0), (531, .bipush 20, 533, 0), (533, .invokevirtual 600, 536, 0), (536, .aload_n 0, 537, 0), (537, .getfield 221, 540, 0), (540, .aload_n 0, 541, 0), (541, .getfield 203, 544, 0), (544, .iload 8, 546, 0), (546, .bipush 20, 548, 0), (548, .imul, 549, 0), (549, .bipush 20, 551, 0), (551, .invokevirtual 600, 554, 0), (554, .return_, 555, 0), (555, .aload_n 0, 556, 0), (556, .getfield 218, 559, 0), (559, .aload_n 0, 560, 0), (560, .getfield 211, 563, 0), (563, .invokevirtual 615, 566, 0), (566, .aload_n 0, 567, 0), (567, .getfield 221, 570, 0), (570, .aload_n 0, 571, 0), (571, .getfield 215, 574, 0), (574, .invokevirtual 615, 577, 0), (577, .aload_n 0, 578, 0), (578, .aload_n 0, 579, 0), (579, .getfield 218, 582, 0), (582, .aload_n 0, 583, 0), (583, .getfield 221, 586, 0)]
set_option maxRecDepth 20000 in
theorem pgc_82_4 : pgC_82_4.all (pg_ok (pg_cc 82)) = true := by decide +kernel
/-- MarkovDeskModel.outcome(II)V -/
def pgC_82_5 : List (Nat × Instr × Nat × Nat) := [(586, .invokevirtual 618, 589, 0), (589, .aload_n 0, 590, 0), (590, .getfield 218, 593, 0), (593, .aload_n 0, 594, 0), (594, .getfield 200, 597, 0), (597, .iload 8, 599, 0), (599, .bipush 20, 601, 0), (601, .imul, 602, 0), (602, .bipush 20, 604, 0), (604, .invokevirtual 600, 607, 0), (607, .aload_n 0, 608, 0), (608, .getfield 221, 611, 0), (611, .aload_n 0, 612, 0), (612, .getfield 203, 615, 0), (615, .iload 8, 617, 0), (617, .bipush 20, 619, 0), (619, .imul, 620, 0), (620, .bipush 20, 622, 0), (622, .invokevirtual 600, 625, 0), (625, .return_, 626, 0)]
set_option maxRecDepth 20000 in
theorem pgc_82_5 : pgC_82_5.all (pg_ok (pg_cc 82)) = true := by decide +kernel
def pgC_82 : List (Nat × Instr × Nat × Nat) := pgC_82_0 ++ (pgC_82_1 ++ (pgC_82_2 ++ (pgC_82_3 ++ (pgC_82_4 ++ (pgC_82_5)))))
theorem pgc_82 : pgC_82.all (pg_ok (pg_cc 82)) = true := pg_all2 pgc_82_0 (pg_all2 pgc_82_1 (pg_all2 pgc_82_2 (pg_all2 pgc_82_3 (pg_all2 pgc_82_4 (pgc_82_5)))))
end
section
/-- MarkovDeskModel.solve(Z)I -/
def pgC_83 : List (Nat × Instr × Nat × Nat) := [(0, .aload_n 0, 1, 0), (1, .iconst 0, 2, 0), (2, .putfield 339, 5, 0), (5, .aload_n 0, 6, 0), (6, .aload_n 0, 7, 0), (7, .getfield 353, 10, 0), (10, .ifCond .ne 7, 13, 17), (13, .iconst 1, 14, 0), (14, .goto 4, 17, 18), (17, .iconst 0, 18, 0), (18, .iconst 1, 19, 0), (19, .invokevirtual 345, 22, 0), (22, .ifCond .eq 5, 25, 27), (25, .iconst 0, 26, 0), (26, .ireturn, 27, 0), (27, .iload_n 1, 28, 0), (28, .ifCond .eq 7, 31, 35), (31, .iconst 1, 32, 0), (32, .goto 4, 35, 36), (35, .iconst 0, 36, 0), (36, .istore_n 2, 37, 0), (37, .aload_n 0, 38, 0), (38, .iload_n 2, 39, 0), (39, .invokevirtual 660, 42, 0), (42, .aload_n 0, 43, 0), (43, .getfield 242, 46, 0), (46, .iload_n 2, 47, 0), (47, .iconst 1, 48, 0), (48, .bastore, 49, 0), (49, .aload_n 0, 50, 0), (50, .getfield 254, 53, 0), (53, .iload_n 2, 54, 0), (54, .iaload, 55, 0), (55, .ireturn, 56, 0)]
set_option maxRecDepth 20000 in
theorem pgc_83 : pgC_83.all (pg_ok (pg_cc 83)) = true := by decide +kernel
/-- MarkovDeskModel.begin(I)V -/
def pgC_84_0 : List (Nat × Instr × Nat × Nat) := [(0, .iconst 1, 1, 0), (1, .istore_n 2, 2, 0), (2, .iconst 0, 3, 0), (3, .istore_n 3, 4, 0), (4, .iload_n 3, 5, 0), (5, .aload_n 0, 6, 0), (6, .getfield 555, 9, 0), (9, .if_icmp .ge 57, 12, 66), (12, .aload_n 0, 13, 0), (13, .getfield 333, 16, 0), (16, .iload_n 3, 17, 0), (17, .iload_n 1, 18, 0), (18, .ifCond .ne 7, 21, 25), (21, .iconst 1, 22, 0), (22, .goto 4, 25, 26), (25, .iconst 0, 26, 0), (26, .aload_n 0, 27, 0), (27, .getfield 193, 30, 0), (30, .iload_n 3, 31, 0), (31, .baload, 32, 0), (32, .if_icmp .ne 7, 35, 39), (35, .iconst 1, 36, 0), (36, .goto 4, 39, 40), (39, .iconst 0, 40, 0), (40, .bastore, 41, 0), (41, .aload_n 0, 42, 0), (42, .getfield 251, 45, 0), (45, .iload_n 1, 46, 0), (46, .bipush 24, 48, 0), (48, .imul, 49, 0), (49, .iload_n 3, 50, 0), (50, .iadd, 51, 0), (51, .iconst 0, 52, 0), (52, .iastore, 53, 0), (53, .aload_n 0, 54, 0), (54, .getfield 263, 57, 0), (57, .iload_n 3, 58, 0), (58, .iconst 0, 59, 0), (59, .iastore, 60, 0), (60, .iinc 3 1, 63, 0), (63, .goto (-59), 66, 4), (66, .iload_n 2, 67, 0), (67, .ifCond .eq 137, 70, 204), (70, .iconst 0, 71, 0), (71, .istore_n 2, 72, 0), (72, .iconst 0, 73, 0), (73, .istore_n 3, 74, 0), (74, .iload_n 3, 75, 0), (75, .aload_n 0, 76, 0), (76, .getfield 555, 79, 0), (79, .if_icmp .ge 122, 82, 201), (82, .aload_n 0, 83, 0), (83, .getfield 193, 86, 0), (86, .iload_n 3, 87, 0), (87, .baload, 88, 0), (88, .ifCond .ne 107, 91, 195), (91, .aload_n 0, 92, 0), (92, .getfield 333, 95, 0), (95, .iload_n 3, 96, 0), (96, .baload, 97, 0)]
set_option maxRecDepth 20000 in
theorem pgc_84_0 : pgC_84_0.all (pg_ok (pg_cc 84)) = true := by decide +kernel
/-- MarkovDeskModel.begin(I)V -/
def pgC_84_1 : List (Nat × Instr × Nat × Nat) := [(97, .iload_n 1, 98, 0), (98, .ifCond .ne 7, 101, 105), (101, .iconst 1, 102, 0), (102, .goto 4, 105, 106), (105, .iconst 0, 106, 0), (106, .if_icmp .ne 6, 109, 112), (109, .goto 86, 112, 195), (112, .iconst 0, 113, 0), (113, .istore 4, 115, 0), (115, .aload_n 0, 116, 0), (116, .getfield 172, 119, 0), (119, .iload_n 3, 120, 0), (120, .iaload, 121, 0), (121, .istore 5, 123, 0), (123, .iload 5, 125, 0), (125, .aload_n 0, 126, 0), (126, .iload_n 3, 127, 0), (127, .invokevirtual 628, 130, 0), (130, .if_icmp .ge 34, 133, 164), (133, .iload 4, 135, 0), (135, .aload_n 0, 136, 0), (136, .iload 5, 138, 0), (138, .aload_n 0, 139, 0), (139, .getfield 333, 142, 0), (142, .iload_n 1, 143, 0), (143, .iconst 1, 144, 0), (144, .if_icmp .ne 7, 147, 151), (147, .iconst 1, 148, 0), (148, .goto 4, 151, 152), (151, .iconst 0, 152, 0), (152, .invokevirtual 631, 155, 0), (155, .ior, 156, 0), (156, .istore 4, 158, 0), (158, .iinc 5 1, 161, 0), (161, .goto (-38), 164, 123), (164, .iload 4, 166, 0), (166, .iload_n 1, 167, 0), (167, .ifCond .ne 7, 170, 174), (170, .iconst 1, 171, 0), (171, .goto 4, 174, 175), (174, .iconst 0, 175, 0), (175, .if_icmp .ne 20, 178, 195), (178, .aload_n 0, 179, 0), (179, .getfield 333, 182, 0), (182, .iload_n 3, 183, 0), (183, .iload_n 1, 184, 0), (184, .ifCond .ne 7, 187, 191), (187, .iconst 1, 188, 0), (188, .goto 4, 191, 192), (191, .iconst 0, 192, 0), (192, .bastore, 193, 0), (193, .iconst 1, 194, 0), (194, .istore_n 2, 195, 0), (195, .iinc 3 1, 198, 0), (198, .goto (-124), 201, 74), (201, .goto (-135), 204, 66), (204, .iconst 0, 205, 0), (205, .istore_n 3, 206, 0), (206, .iload_n 3, 207, 0), (207, .aload_n 0, 208, 0)]
set_option maxRecDepth 20000 in
theorem pgc_84_1 : pgC_84_1.all (pg_ok (pg_cc 84)) = true := by decide +kernel
/-- MarkovDeskModel.begin(I)V -/
def pgC_84_2 : List (Nat × Instr × Nat × Nat) := [(208, .getfield 555, 211, 0), (211, .if_icmp .ge 53, 214, 264), (214, .aload_n 0, 215, 0), (215, .getfield 248, 218, 0), (218, .iload_n 1, 219, 0), (219, .bipush 24, 221, 0), (221, .imul, 222, 0), (222, .iload_n 3, 223, 0), (223, .iadd, 224, 0), (224, .aload_n 0, 225, 0), (225, .getfield 193, 228, 0), (228, .iload_n 3, 229, 0), (229, .baload, 230, 0), (230, .ifCond .ne 26, 233, 256), (233, .aload_n 0, 234, 0), (234, .getfield 333, 237, 0), (237, .iload_n 3, 238, 0), (238, .baload, 239, 0), (239, .iload_n 1, 240, 0), (240, .iconst 1, 241, 0), (241, .if_icmp .ne 7, 244, 248), (244, .iconst 1, 245, 0), (245, .goto 4, 248, 249), (248, .iconst 0, 249, 0), (249, .if_icmp .ne 7, 252, 256), (252, .iconst 1, 253, 0), (253, .goto 4, 256, 257), (256, .iconst 0, 257, 0), (257, .bastore, 258, 0), (258, .iinc 3 1, 261, 0), (261, .goto (-55), 264, 206), (264, .iload_n 1, 265, 0), (265, .iconst 1, 266, 0), (266, .if_icmp .ne 81, 269, 347), (269, .iconst 0, 270, 0), (270, .istore_n 3, 271, 0), (271, .iload_n 3, 272, 0), (272, .aload_n 0, 273, 0), (273, .getfield 555, 276, 0), (276, .if_icmp .ge 70, 279, 346), (279, .aload_n 0, 280, 0), (280, .getfield 248, 283, 0), (283, .bipush 24, 285, 0), (285, .iload_n 3, 286, 0), (286, .iadd, 287, 0), (287, .baload, 288, 0), (288, .ifCond .ne 6, 291, 294), (291, .goto 49, 294, 340), (294, .aload_n 0, 295, 0), (295, .getfield 172, 298, 0), (298, .iload_n 3, 299, 0), (299, .iaload, 300, 0), (300, .istore 4, 302, 0), (302, .aload_n 0, 303, 0), (303, .iload 4, 305, 0), (305, .aload_n 0, 306, 0), (306, .getfield 333, 309, 0), (309, .iconst 1, 310, 0), (310, .invokevirtual 631, 313, 0), (313, .ifCond .ne 9, 316, 322)]
set_option maxRecDepth 20000 in
theorem pgc_84_2 : pgC_84_2.all (pg_ok (pg_cc 84)) = true := by decide +kernel
/-- MarkovDeskModel.begin(I)V -/
def pgC_84_3 : List (Nat × Instr × Nat × Nat) := [(316, .iinc 4 1, 319, 0), (319, .goto (-17), 322, 302), (322, .aload_n 0, 323, 0), (323, .getfield 251, 326, 0), (326, .bipush 24, 328, 0), (328, .iload_n 3, 329, 0), (329, .iadd, 330, 0), (330, .iload 4, 332, 0), (332, .aload_n 0, 333, 0), (333, .getfield 172, 336, 0), (336, .iload_n 3, 337, 0), (337, .iaload, 338, 0), (338, .isub, 339, 0), (339, .iastore, 340, 0), (340, .iinc 3 1, 343, 0), (343, .goto (-72), 346, 271), (346, .return_, 347, 0), (347, .iconst 1, 348, 0), (348, .istore_n 2, 349, 0), (349, .iconst 1, 350, 0), (350, .istore_n 3, 351, 0), (351, .iload_n 2, 352, 0), (352, .ifCond .eq 197, 355, 549), (355, .iconst 0, 356, 0), (356, .istore_n 2, 357, 0), (357, .iconst 0, 358, 0), (358, .istore 4, 360, 0), (360, .iload 4, 362, 0), (362, .aload_n 0, 363, 0), (363, .getfield 555, 366, 0), (366, .if_icmp .ge 177, 369, 543), (369, .aload_n 0, 370, 0), (370, .getfield 263, 373, 0), (373, .iload 4, 375, 0), (375, .iaload, 376, 0), (376, .ifCond .gt 161, 379, 537), (379, .aload_n 0, 380, 0), (380, .getfield 193, 383, 0), (383, .iload 4, 385, 0), (385, .baload, 386, 0), (386, .ifCond .eq 6, 389, 392), (389, .goto 148, 392, 537), (392, .aload_n 0, 393, 0), (393, .getfield 172, 396, 0), (396, .iload 4, 398, 0), (398, .iaload, 399, 0), (399, .istore 5, 401, 0), (401, .iload 5, 403, 0), (403, .aload_n 0, 404, 0), (404, .iload 4, 406, 0), (406, .invokevirtual 628, 409, 0), (409, .if_icmp .ge 128, 412, 537), (412, .aload_n 0, 413, 0), (413, .getfield 263, 416, 0), (416, .iload 4, 418, 0), (418, .iaload, 419, 0), (419, .ifCond .ne 118, 422, 537), (422, .aload_n 0, 423, 0), (423, .getfield 175, 426, 0), (426, .iload 5, 428, 0)]
set_option maxRecDepth 20000 in
theorem pgc_84_3 : pgC_84_3.all (pg_ok (pg_cc 84)) = true := by decide +kernel
/-- MarkovDeskModel.begin(I)V -/
def pgC_84_4 : List (Nat × Instr × Nat × Nat) := [(428, .iaload, 429, 0), (429, .istore 6, 431, 0), (431, .iload 6, 433, 0), (433, .aload_n 0, 434, 0), (434, .getfield 175, 437, 0), (437, .iload 5, 439, 0), (439, .iconst 1, 440, 0), (440, .iadd, 441, 0), (441, .iaload, 442, 0), (442, .if_icmp .ge 89, 445, 531), (445, .aload_n 0, 446, 0), (446, .getfield 178, 449, 0), (449, .iload 6, 451, 0), (451, .iaload, 452, 0), (452, .istore 7, 454, 0), (454, .aload_n 0, 455, 0), (455, .getfield 263, 458, 0), (458, .iload 4, 460, 0), (460, .iaload, 461, 0), (461, .ifCond .gt 64, 464, 525), (464, .aload_n 0, 465, 0), (465, .getfield 193, 468, 0), (468, .iload 7, 470, 0), (470, .baload, 471, 0), (471, .ifCond .ne 27, 474, 498), (474, .aload_n 0, 475, 0), (475, .getfield 263, 478, 0), (478, .iload 7, 480, 0), (480, .iaload, 481, 0), (481, .ifCond .eq 44, 484, 525), (484, .aload_n 0, 485, 0), (485, .getfield 263, 488, 0), (488, .iload 7, 490, 0), (490, .iaload, 491, 0), (491, .iload_n 3, 492, 0), (492, .if_icmp .lt 6, 495, 498), (495, .goto 30, 498, 525), (498, .aload_n 0, 499, 0), (499, .getfield 263, 502, 0), (502, .iload 4, 504, 0), (504, .iload_n 3, 505, 0), (505, .iastore, 506, 0), (506, .aload_n 0, 507, 0), (507, .getfield 251, 510, 0), (510, .iload 4, 512, 0), (512, .iload 5, 514, 0), (514, .aload_n 0, 515, 0), (515, .getfield 172, 518, 0), (518, .iload 4, 520, 0), (520, .iaload, 521, 0), (521, .isub, 522, 0), (522, .iastore, 523, 0), (523, .iconst 1, 524, 0), (524, .istore_n 2, 525, 0), (525, .iinc 6 1, 528, 0), (528, .goto (-97), 531, 431), (531, .iinc 5 1, 534, 0), (534, .goto (-133), 537, 401), (537, .iinc 4 1, 540, 0), (540, .goto (-180), 543, 360)]
set_option maxRecDepth 20000 in
theorem pgc_84_4 : pgC_84_4.all (pg_ok (pg_cc 84)) = true := by decide +kernel
/-- MarkovDeskModel.begin(I)V -/
def pgC_84_5 : List (Nat × Instr × Nat × Nat) := [(543, .iinc 3 1, 546, 0), (546, .goto (-195), 549, 351), (549, .return_, 550, 0)]
set_option maxRecDepth 20000 in
theorem pgc_84_5 : pgC_84_5.all (pg_ok (pg_cc 84)) = true := by decide +kernel
def pgC_84 : List (Nat × Instr × Nat × Nat) := pgC_84_0 ++ (pgC_84_1 ++ (pgC_84_2 ++ (pgC_84_3 ++ (pgC_84_4 ++ (pgC_84_5)))))
theorem pgc_84 : pgC_84.all (pg_ok (pg_cc 84)) = true := pg_all2 pgc_84_0 (pg_all2 pgc_84_1 (pg_all2 pgc_84_2 (pg_all2 pgc_84_3 (pg_all2 pgc_84_4 (pgc_84_5)))))
/-- MarkovDeskModel.value(ZI)Z -/
def pgC_85_0 : List (Nat × Instr × Nat × Nat) := [(0, .aload_n 0, 1, 0), (1, .iconst 0, 2, 0), (2, .putfield 339, 5, 0), (5, .iload_n 1, 6, 0), (6, .ifCond .eq 7, 9, 13), (9, .iconst 1, 10, 0), (10, .goto 4, 13, 14), (13, .iconst 0, 14, 0), (14, .istore_n 3, 15, 0), (15, .aload_n 0, 16, 0), (16, .aload_n 0, 17, 0), (17, .getfield 353, 20, 0), (20, .ifCond .eq 12, 23, 32), (23, .aload_n 0, 24, 0), (24, .getfield 242, 27, 0), (27, .iload_n 3, 28, 0), (28, .baload, 29, 0), (29, .ifCond .ne 7, 32, 36), (32, .iconst 1, 33, 0), (33, .goto 4, 36, 37), (36, .iconst 0, 37, 0), (37, .iconst 1, 38, 0), (38, .invokevirtual 345, 41, 0), (41, .ifCond .ne 30, 44, 71), (44, .aload_n 0, 45, 0), (45, .iload_n 2, 46, 0), (46, .iconst 0, 47, 0), (47, .aload_n 0, 48, 0), (48, .getfield 555, 51, 0), (51, .iconst 1, 52, 0), (52, .isub, 53, 0), (53, .invokestatic 359, 56, 0), (56, .ifCond .ne 7, 59, 63), (59, .iconst 1, 60, 0), (60, .goto 4, 63, 64), (63, .iconst 0, 64, 0), (64, .iconst 2, 65, 0), (65, .invokevirtual 345, 68, 0), (68, .ifCond .eq 5, 71, 73), (71, .iconst 0, 72, 0), (72, .ireturn, 73, 0), (73, .aload_n 0, 74, 0), (74, .getfield 324, 77, 0), (77, .aload_n 0, 78, 0), (78, .getfield 266, 81, 0), (81, .iload_n 3, 82, 0), (82, .bipush 24, 84, 0), (84, .imul, 85, 0), (85, .iload_n 2, 86, 0), (86, .iadd, 87, 0), (87, .aaload, 88, 0), (88, .invokevirtual 615, 91, 0), (91, .aload_n 0, 92, 0), (92, .getfield 327, 95, 0), (95, .aload_n 0, 96, 0), (96, .getfield 270, 99, 0), (99, .iload_n 3, 100, 0), (100, .aaload, 101, 0), (101, .invokevirtual 615, 104, 0), (104, .aload_n 0, 105, 0)]
set_option maxRecDepth 20000 in
theorem pgc_85_0 : pgC_85_0.all (pg_ok (pg_cc 85)) = true := by decide +kernel
/-- MarkovDeskModel.value(ZI)Z -/
def pgC_85_1 : List (Nat × Instr × Nat × Nat) := [(105, .aload_n 0, 106, 0), (106, .getfield 324, 109, 0), (109, .aload_n 0, 110, 0), (110, .getfield 327, 113, 0), (113, .invokevirtual 618, 116, 0), (116, .aload_n 0, 117, 0), (117, .getfield 324, 120, 0), (120, .aload_n 0, 121, 0), (121, .getfield 327, 124, 0), (124, .invokevirtual 656, 127, 0), (127, .ifCond .ne 7, 130, 134), (130, .iconst 1, 131, 0), (131, .goto 4, 134, 135), (134, .iconst 0, 135, 0), (135, .ireturn, 136, 0)]
set_option maxRecDepth 20000 in
theorem pgc_85_1 : pgC_85_1.all (pg_ok (pg_cc 85)) = true := by decide +kernel
def pgC_85 : List (Nat × Instr × Nat × Nat) := pgC_85_0 ++ (pgC_85_1)
theorem pgc_85 : pgC_85.all (pg_ok (pg_cc 85)) = true := pg_all2 pgc_85_0 (pgc_85_1)
/-- MarkovDeskModel.within(ZII)Z -/
def pgC_86_0 : List (Nat × Instr × Nat × Nat) := [(0, .aload_n 0, 1, 0), (1, .iconst 0, 2, 0), (2, .putfield 339, 5, 0), (5, .iload_n 1, 6, 0), (6, .ifCond .eq 7, 9, 13), (9, .iconst 1, 10, 0), (10, .goto 4, 13, 14), (13, .iconst 0, 14, 0), (14, .istore 4, 16, 0), (16, .aload_n 0, 17, 0), (17, .iload_n 3, 18, 0), (18, .iconst 0, 19, 0), (19, .bipush 12, 21, 0), (21, .invokestatic 359, 24, 0), (24, .ifCond .ne 7, 27, 31), (27, .iconst 1, 28, 0), (28, .goto 4, 31, 32), (31, .iconst 0, 32, 0), (32, .iconst 1, 33, 0), (33, .invokevirtual 345, 36, 0), (36, .ifCond .ne 60, 39, 96), (39, .aload_n 0, 40, 0), (40, .aload_n 0, 41, 0), (41, .getfield 353, 44, 0), (44, .ifCond .eq 13, 47, 57), (47, .aload_n 0, 48, 0), (48, .getfield 242, 51, 0), (51, .iload 4, 53, 0), (53, .baload, 54, 0), (54, .ifCond .ne 7, 57, 61), (57, .iconst 1, 58, 0), (58, .goto 4, 61, 62), (61, .iconst 0, 62, 0), (62, .iconst 2, 63, 0), (63, .invokevirtual 345, 66, 0), (66, .ifCond .ne 30, 69, 96), (69, .aload_n 0, 70, 0), (70, .iload_n 2, 71, 0), (71, .iconst 0, 72, 0), (72, .aload_n 0, 73, 0), (73, .getfield 555, 76, 0), (76, .iconst 1, 77, 0), (77, .isub, 78, 0), (78, .invokestatic 359, 81, 0), (81, .ifCond .ne 7, 84, 88), (84, .iconst 1, 85, 0), (85, .goto 4, 88, 89), (88, .iconst 0, 89, 0), (89, .iconst 3, 90, 0), (90, .invokevirtual 345, 93, 0), (93, .ifCond .eq 5, 96, 98), (96, .iconst 0, 97, 0), (97, .ireturn, 98, 0), (98, .aload_n 0, 99, 0), (99, .getfield 330, 102, 0), (102, .invokevirtual 573, 105, 0), (105, .iconst 0, 106, 0), (106, .istore 5, 108, 0), (108, .iload 5, 110, 0), (110, .aload_n 0, 111, 0)]
set_option maxRecDepth 20000 in
theorem pgc_86_0 : pgC_86_0.all (pg_ok (pg_cc 86)) = true := by decide +kernel
/-- MarkovDeskModel.within(ZII)Z -/
def pgC_86_1 : List (Nat × Instr × Nat × Nat) := [(111, .getfield 555, 114, 0), (114, .if_icmp .ge 102, 117, 216), (117, .aload_n 0, 118, 0), (118, .aload_n 0, 119, 0), (119, .getfield 172, 122, 0), (122, .iload 5, 124, 0), (124, .iaload, 125, 0), (125, .aload_n 0, 126, 0), (126, .getfield 251, 129, 0), (129, .iload 4, 131, 0), (131, .bipush 24, 133, 0), (133, .imul, 134, 0), (134, .iload 5, 136, 0), (136, .iadd, 137, 0), (137, .iaload, 138, 0), (138, .iadd, 139, 0), (139, .invokevirtual 635, 142, 0), (142, .aload_n 0, 143, 0), (143, .aload_n 0, 144, 0), (144, .getfield 330, 147, 0), (147, .aload_n 0, 148, 0), (148, .getfield 300, 151, 0), (151, .invokevirtual 625, 154, 0), (154, .aload_n 0, 155, 0), (155, .getfield 239, 158, 0), (158, .aload_n 0, 159, 0), (159, .getfield 227, 162, 0), (162, .invokevirtual 615, 165, 0), (165, .aload_n 0, 166, 0), (166, .getfield 233, 169, 0), (169, .aload_n 0, 170, 0), (170, .getfield 300, 173, 0), (173, .aload_n 0, 174, 0), (174, .getfield 239, 177, 0), (177, .aload_n 0, 178, 0), (178, .getfield 236, 181, 0), (181, .invokevirtual 621, 184, 0), (184, .aload_n 0, 185, 0), (185, .getfield 239, 188, 0), (188, .aload_n 0, 189, 0), (189, .getfield 330, 192, 0), (192, .aload_n 0, 193, 0), (193, .getfield 233, 196, 0), (196, .invokevirtual 607, 199, 0), (199, .aload_n 0, 200, 0), (200, .getfield 330, 203, 0), (203, .aload_n 0, 204, 0), (204, .getfield 239, 207, 0), (207, .invokevirtual 615, 210, 0), (210, .iinc 5 1, 213, 0), (213, .goto (-105), 216, 108), (216, .aload_n 0, 217, 0), (217, .getfield 327, 220, 0), (220, .invokevirtual 573, 223, 0), (223, .iconst 0, 224, 0), (224, .istore 5, 226, 0), (226, .iload 5, 228, 0), (228, .aload_n 0, 229, 0), (229, .getfield 555, 232, 0), (232, .if_icmp .ge 40, 235, 272)]
set_option maxRecDepth 20000 in
theorem pgc_86_1 : pgC_86_1.all (pg_ok (pg_cc 86)) = true := by decide +kernel
/-- MarkovDeskModel.within(ZII)Z -/
def pgC_86_2 : List (Nat × Instr × Nat × Nat) := [(235, .aload_n 0, 236, 0), (236, .getfield 288, 239, 0), (239, .iload 5, 241, 0), (241, .aaload, 242, 0), (242, .iconst 0, 243, 0), (243, .putfield 570, 246, 0), (246, .aload_n 0, 247, 0), (247, .getfield 193, 250, 0), (250, .iload 5, 252, 0), (252, .baload, 253, 0), (253, .ifCond .eq 13, 256, 266), (256, .aload_n 0, 257, 0), (257, .getfield 288, 260, 0), (260, .iload 5, 262, 0), (262, .aaload, 263, 0), (263, .invokevirtual 573, 266, 0), (266, .iinc 5 1, 269, 0), (269, .goto (-43), 272, 226), (272, .iconst 0, 273, 0), (273, .istore 5, 275, 0), (275, .iload 5, 277, 0), (277, .iload_n 3, 278, 0), (278, .if_icmp .ge 292, 281, 570), (281, .iconst 0, 282, 0), (282, .istore 6, 284, 0), (284, .iload 6, 286, 0), (286, .aload_n 0, 287, 0), (287, .getfield 555, 290, 0), (290, .if_icmp .ge 213, 293, 503), (293, .aload_n 0, 294, 0), (294, .getfield 291, 297, 0), (297, .iload 6, 299, 0), (299, .aaload, 300, 0), (300, .iconst 0, 301, 0), (301, .putfield 570, 304, 0), (304, .aload_n 0, 305, 0), (305, .getfield 193, 308, 0), (308, .iload 6, 310, 0), (310, .baload, 311, 0), (311, .ifCond .eq 27, 314, 338), (314, .aload_n 0, 315, 0), (315, .getfield 291, 318, 0), (318, .iload 6, 320, 0), (320, .aaload, 321, 0), (321, .aload_n 0, 322, 0), (322, .getfield 288, 325, 0), (325, .iload 6, 327, 0), (327, .aaload, 328, 0), (328, .aload_n 0, 329, 0), (329, .getfield 330, 332, 0), (332, .invokevirtual 607, 335, 0), (335, .goto 162, 338, 497), (338, .aload_n 0, 339, 0), (339, .getfield 172, 342, 0), (342, .iload 6, 344, 0), (344, .iaload, 345, 0), (345, .aload_n 0, 346, 0), (346, .getfield 251, 349, 0), (349, .iload 4, 351, 0), (351, .bipush 24, 353, 0)]
set_option maxRecDepth 20000 in
theorem pgc_86_2 : pgC_86_2.all (pg_ok (pg_cc 86)) = true := by decide +kernel
/-- MarkovDeskModel.within(ZII)Z -/
def pgC_86_3 : List (Nat × Instr × Nat × Nat) := [(353, .imul, 354, 0), (354, .iload 6, 356, 0), (356, .iadd, 357, 0), (357, .iaload, 358, 0), (358, .iadd, 359, 0), (359, .istore 7, 361, 0), (361, .aload_n 0, 362, 0), (362, .getfield 175, 365, 0), (365, .iload 7, 367, 0), (367, .iaload, 368, 0), (368, .istore 8, 370, 0), (370, .iload 8, 372, 0), (372, .aload_n 0, 373, 0), (373, .getfield 175, 376, 0), (376, .iload 7, 378, 0), (378, .iconst 1, 379, 0), (379, .iadd, 380, 0), (380, .iaload, 381, 0), (381, .if_icmp .ge 116, 384, 497), (384, .aload_n 0, 385, 0), (385, .getfield 297, 388, 0), (388, .aload_n 0, 389, 0), (389, .getfield 203, 392, 0), (392, .iload 8, 394, 0), (394, .bipush 20, 396, 0), (396, .imul, 397, 0), (397, .bipush 20, 399, 0), (399, .invokevirtual 604, 402, 0), (402, .aload_n 0, 403, 0), (403, .getfield 233, 406, 0), (406, .aload_n 0, 407, 0), (407, .getfield 330, 410, 0), (410, .aload_n 0, 411, 0), (411, .getfield 297, 414, 0), (414, .aload_n 0, 415, 0), (415, .getfield 236, 418, 0), (418, .invokevirtual 621, 421, 0), (421, .aload_n 0, 422, 0), (422, .getfield 294, 425, 0), (425, .aload_n 0, 426, 0), (426, .getfield 200, 429, 0), (429, .iload 8, 431, 0), (431, .bipush 20, 433, 0), (433, .imul, 434, 0), (434, .bipush 20, 436, 0), (436, .invokevirtual 604, 439, 0), (439, .aload_n 0, 440, 0), (440, .getfield 239, 443, 0), (443, .aload_n 0, 444, 0), (444, .getfield 233, 447, 0), (447, .aload_n 0, 448, 0), (448, .getfield 294, 451, 0), (451, .invokevirtual 607, 454, 0), (454, .aload_n 0, 455, 0), (455, .getfield 233, 458, 0), (458, .aload_n 0, 459, 0), (459, .getfield 239, 462, 0), (462, .aload_n 0, 463, 0), (463, .getfield 288, 466, 0), (466, .aload_n 0, 467, 0)]
set_option maxRecDepth 20000 in
theorem pgc_86_3 : pgC_86_3.all (pg_ok (pg_cc 86)) = true := by decide +kernel
/-- MarkovDeskModel.within(ZII)Z -/
def pgC_86_4 : List (Nat × Instr × Nat × Nat) := [(467, .getfield 178, 470, 0), (470, .iload 8, 472, 0), (472, .iaload, 473, 0), (473, .aaload, 474, 0), (474, .invokevirtual 607, 477, 0), (477, .aload_n 0, 478, 0), (478, .getfield 291, 481, 0), (481, .iload 6, 483, 0), (483, .aaload, 484, 0), (484, .aload_n 0, 485, 0), (485, .getfield 233, 488, 0), (488, .invokevirtual 611, 491, 0), (491, .iinc 8 1, 494, 0), (494, .goto (-124), 497, 370), (497, .iinc 6 1, 500, 0), (500, .goto (-216), 503, 284), (503, .iconst 0, 504, 0), (504, .istore 6, 506, 0), (506, .iload 6, 508, 0), (508, .aload_n 0, 509, 0), (509, .getfield 555, 512, 0), (512, .if_icmp .ge 26, 515, 538), (515, .aload_n 0, 516, 0), (516, .getfield 288, 519, 0), (519, .iload 6, 521, 0), (521, .aaload, 522, 0), (522, .aload_n 0, 523, 0), (523, .getfield 291, 526, 0), (526, .iload 6, 528, 0), (528, .aaload, 529, 0), (529, .invokevirtual 615, 532, 0), (532, .iinc 6 1, 535, 0), (535, .goto (-29), 538, 506), (538, .aload_n 0, 539, 0), (539, .getfield 239, 542, 0), (542, .aload_n 0, 543, 0), (543, .getfield 327, 546, 0), (546, .aload_n 0, 547, 0), (547, .getfield 330, 550, 0), (550, .invokevirtual 607, 553, 0), (553, .aload_n 0, 554, 0), (554, .getfield 327, 557, 0), (557, .aload_n 0, 558, 0), (558, .getfield 239, 561, 0), (561, .invokevirtual 615, 564, 0), (564, .iinc 5 1, 567, 0), (567, .goto (-292), 570, 275), (570, .aload_n 0, 571, 0), (571, .getfield 324, 574, 0), (574, .aload_n 0, 575, 0), (575, .getfield 288, 578, 0), (578, .iload_n 2, 579, 0), (579, .aaload, 580, 0), (580, .invokevirtual 615, 583, 0), (583, .aload_n 0, 584, 0), (584, .aload_n 0, 585, 0), (585, .getfield 324, 588, 0), (588, .aload_n 0, 589, 0), (589, .getfield 327, 592, 0), (592, .invokevirtual 618, 595, 0)]
set_option maxRecDepth 20000 in
theorem pgc_86_4 : pgC_86_4.all (pg_ok (pg_cc 86)) = true := by decide +kernel
/-- MarkovDeskModel.within(ZII)Z -/
def pgC_86_5 : List (Nat × Instr × Nat × Nat) := [(595, .aload_n 0, 596, 0), (596, .getfield 324, 599, 0), (599, .getfield 570, 602, 0), (602, .ifCond .ne 7, 605, 609), (605, .iconst 1, 606, 0), (606, .goto 4, 609, 610), (609, .iconst 0, 610, 0), (610, .ireturn, 611, 0)]
set_option maxRecDepth 20000 in
theorem pgc_86_5 : pgC_86_5.all (pg_ok (pg_cc 86)) = true := by decide +kernel
def pgC_86 : List (Nat × Instr × Nat × Nat) := pgC_86_0 ++ (pgC_86_1 ++ (pgC_86_2 ++ (pgC_86_3 ++ (pgC_86_4 ++ (pgC_86_5)))))
theorem pgc_86 : pgC_86.all (pg_ok (pg_cc 86)) = true := pg_all2 pgc_86_0 (pg_all2 pgc_86_1 (pg_all2 pgc_86_2 (pg_all2 pgc_86_3 (pg_all2 pgc_86_4 (pgc_86_5)))))
/-- MarkovDeskModel.claim(IJJ)V -/
def pgC_87 : List (Nat × Instr × Nat × Nat) := [(0, .aload_n 0, 1, 0), (1, .iconst 0, 2, 0), (2, .putfield 339, 5, 0), (5, .aload_n 0, 6, 0), (6, .lload 4, 8, 0), (8, .lconst 0, 9, 0), (9, .lcmp, 10, 0), (10, .ifCond .le 9, 13, 19), (13, .lload_n 2, 14, 0), (14, .lconst 0, 15, 0), (15, .lcmp, 16, 0), (16, .ifCond .ge 7, 19, 23), (19, .iconst 1, 20, 0), (20, .goto 4, 23, 24), (23, .iconst 0, 24, 0), (24, .iconst 1, 25, 0), (25, .invokevirtual 345, 28, 0), (28, .ifCond .ne 50, 31, 78), (31, .aload_n 0, 32, 0), (32, .aload_n 0, 33, 0), (33, .getfield 353, 36, 0), (36, .ifCond .ne 7, 39, 43), (39, .iconst 1, 40, 0), (40, .goto 4, 43, 44), (43, .iconst 0, 44, 0), (44, .iconst 2, 45, 0), (45, .invokevirtual 345, 48, 0), (48, .ifCond .ne 30, 51, 78), (51, .aload_n 0, 52, 0), (52, .iload_n 1, 53, 0), (53, .iconst 0, 54, 0), (54, .aload_n 0, 55, 0), (55, .getfield 555, 58, 0), (58, .iconst 1, 59, 0), (59, .isub, 60, 0), (60, .invokestatic 359, 63, 0), (63, .ifCond .ne 7, 66, 70), (66, .iconst 1, 67, 0), (67, .goto 4, 70, 71), (70, .iconst 0, 71, 0), (71, .iconst 3, 72, 0), (72, .invokevirtual 345, 75, 0), (75, .ifCond .eq 4, 78, 79), (78, .return_, 79, 0), (79, .aload_n 0, 80, 0), (80, .getfield 282, 83, 0), (83, .iload_n 1, 84, 0), (84, .aaload, 85, 0), (85, .lload_n 2, 86, 0), (86, .invokevirtual 597, 89, 0), (89, .aload_n 0, 90, 0), (90, .getfield 285, 93, 0), (93, .iload_n 1, 94, 0), (94, .aaload, 95, 0), (95, .lload 4, 97, 0), (97, .invokevirtual 597, 100, 0), (100, .return_, 101, 0)]
set_option maxRecDepth 20000 in
theorem pgc_87 : pgC_87.all (pg_ok (pg_cc 87)) = true := by decide +kernel
/-- MarkovDeskModel.claimResult(I)V -/
def pgC_88 : List (Nat × Instr × Nat × Nat) := [(0, .aload_n 0, 1, 0), (1, .iconst 0, 2, 0), (2, .putfield 339, 5, 0), (5, .aload_n 0, 6, 0), (6, .aload_n 0, 7, 0), (7, .getfield 353, 10, 0), (10, .ifCond .ne 7, 13, 17), (13, .iconst 1, 14, 0), (14, .goto 4, 17, 18), (17, .iconst 0, 18, 0), (18, .iconst 1, 19, 0), (19, .invokevirtual 345, 22, 0), (22, .ifCond .ne 56, 25, 78), (25, .aload_n 0, 26, 0), (26, .iload_n 1, 27, 0), (27, .iconst 0, 28, 0), (28, .aload_n 0, 29, 0), (29, .getfield 555, 32, 0), (32, .iconst 1, 33, 0), (33, .isub, 34, 0), (34, .invokestatic 359, 37, 0), (37, .ifCond .ne 7, 40, 44), (40, .iconst 1, 41, 0), (41, .goto 4, 44, 45), (44, .iconst 0, 45, 0), (45, .iconst 2, 46, 0), (46, .invokevirtual 345, 49, 0), (49, .ifCond .ne 29, 52, 78), (52, .aload_n 0, 53, 0), (53, .aload_n 0, 54, 0), (54, .getfield 327, 57, 0), (57, .invokevirtual 663, 60, 0), (60, .sipush 5000, 63, 0), (63, .if_icmp .le 7, 66, 70), (66, .iconst 1, 67, 0), (67, .goto 4, 70, 71), (70, .iconst 0, 71, 0), (71, .iconst 3, 72, 0), (72, .invokevirtual 345, 75, 0), (75, .ifCond .eq 4, 78, 79), (78, .return_, 79, 0), (79, .aload_n 0, 80, 0), (80, .getfield 282, 83, 0), (83, .iload_n 1, 84, 0), (84, .aaload, 85, 0), (85, .aload_n 0, 86, 0), (86, .getfield 324, 89, 0), (89, .invokevirtual 615, 92, 0), (92, .aload_n 0, 93, 0), (93, .getfield 285, 96, 0), (96, .iload_n 1, 97, 0), (97, .aaload, 98, 0), (98, .aload_n 0, 99, 0), (99, .getfield 327, 102, 0), (102, .invokevirtual 615, 105, 0), (105, .return_, 106, 0)]
set_option maxRecDepth 20000 in
theorem pgc_88 : pgC_88.all (pg_ok (pg_cc 88)) = true := by decide +kernel
/-- MarkovDeskModel$Whole.bits()I -/
def pgC_89 : List (Nat × Instr × Nat × Nat) := [(0, .aload_n 0, 1, 0), (1, .getfield 13, 4, 0), (4, .ifCond .ne 7, 7, 11), (7, .iconst 0, 8, 0), (8, .goto 12, 11, 20), (11, .bipush 16, 13, 0), (13, .aload_n 0, 14, 0), (14, .getfield 13, 17, 0), (17, .iconst 1, 18, 0), (18, .isub, 19, 0), (19, .imul, 20, 0), (20, .istore_n 1, 21, 0), (21, .aload_n 0, 22, 0), (22, .getfield 13, 25, 0), (25, .ifCond .ne 7, 28, 32), (28, .iconst 0, 29, 0), (29, .goto 14, 32, 43), (32, .aload_n 0, 33, 0), (33, .getfield 7, 36, 0), (36, .aload_n 0, 37, 0), (37, .getfield 13, 40, 0), (40, .iconst 1, 41, 0), (41, .isub, 42, 0), (42, .iaload, 43, 0), (43, .istore_n 2, 44, 0), (44, .iload_n 2, 45, 0), (45, .ifCond .eq 13, 48, 58), (48, .iinc 1 1, 51, 0), (51, .iload_n 2, 52, 0), (52, .iconst 1, 53, 0), (53, .ishr, 54, 0), (54, .istore_n 2, 55, 0), (55, .goto (-11), 58, 44), (58, .iload_n 1, 59, 0), (59, .ireturn, 60, 0)]
set_option maxRecDepth 20000 in
theorem pgc_89 : pgC_89.all (pg_ok (pg_cc 89)) = true := by decide +kernel
/-- MarkovDeskModel.check(Z)Z -/
def pgC_90_0 : List (Nat × Instr × Nat × Nat) := [(0, .aload_n 0, 1, 0), (1, .iconst 0, 2, 0), (2, .putfield 339, 5, 0), (5, .aload_n 0, 6, 0), (6, .aload_n 0, 7, 0), (7, .getfield 353, 10, 0), (10, .ifCond .ne 7, 13, 17), (13, .iconst 1, 14, 0), (14, .goto 4, 17, 18), (17, .iconst 0, 18, 0), (18, .iconst 1, 19, 0), (19, .invokevirtual 345, 22, 0), (22, .ifCond .eq 5, 25, 27), (25, .iconst 0, 26, 0), (26, .ireturn, 27, 0), (27, .iload_n 1, 28, 0), (28, .ifCond .eq 7, 31, 35), (31, .iconst 1, 32, 0), (32, .goto 4, 35, 36), (35, .iconst 0, 36, 0), (36, .istore_n 2, 37, 0), (37, .aload_n 0, 38, 0), (38, .iload_n 2, 39, 0), (39, .invokevirtual 660, 42, 0), (42, .iconst 0, 43, 0), (43, .istore_n 3, 44, 0), (44, .iload_n 3, 45, 0), (45, .aload_n 0, 46, 0), (46, .getfield 555, 49, 0), (49, .if_icmp .ge 68, 52, 117), (52, .aload_n 0, 53, 0), (53, .getfield 233, 56, 0), (56, .aload_n 0, 57, 0), (57, .getfield 282, 60, 0), (60, .iload_n 3, 61, 0), (61, .aaload, 62, 0), (62, .aload_n 0, 63, 0), (63, .getfield 270, 66, 0), (66, .iload_n 2, 67, 0), (67, .aaload, 68, 0), (68, .invokevirtual 607, 71, 0), (71, .aload_n 0, 72, 0), (72, .getfield 236, 75, 0), (75, .aload_n 0, 76, 0), (76, .getfield 285, 79, 0), (79, .iload_n 3, 80, 0), (80, .aaload, 81, 0), (81, .aload_n 0, 82, 0), (82, .getfield 266, 85, 0), (85, .iload_n 2, 86, 0), (86, .bipush 24, 88, 0), (88, .imul, 89, 0), (89, .iload_n 3, 90, 0), (90, .iadd, 91, 0), (91, .aaload, 92, 0), (92, .invokevirtual 607, 95, 0), (95, .aload_n 0, 96, 0), (96, .getfield 233, 99, 0), (99, .aload_n 0, 100, 0), (100, .getfield 236, 103, 0)]
set_option maxRecDepth 20000 in
theorem pgc_90_0 : pgC_90_0.all (pg_ok (pg_cc 90)) = true := by decide +kernel
/-- MarkovDeskModel.check(Z)Z -/
def pgC_90_1 : List (Nat × Instr × Nat × Nat) := [(103, .invokevirtual 656, 106, 0), (106, .ifCond .eq 5, 109, 111), (109, .iconst 0, 110, 0), (110, .ireturn, 111, 0), (111, .iinc 3 1, 114, 0), (114, .goto (-70), 117, 44), (117, .iconst 1, 118, 0), (118, .ireturn, 119, 0)]
set_option maxRecDepth 20000 in
theorem pgc_90_1 : pgC_90_1.all (pg_ok (pg_cc 90)) = true := by decide +kernel
def pgC_90 : List (Nat × Instr × Nat × Nat) := pgC_90_0 ++ (pgC_90_1)
theorem pgc_90 : pgC_90.all (pg_ok (pg_cc 90)) = true := pg_all2 pgc_90_0 (pgc_90_1)
end
section
/-- MarkovDeskModel.state(III)I -/
def pgC_91_0 : List (Nat × Instr × Nat × Nat) := [(0, .aload_n 0, 1, 0), (1, .iconst 0, 2, 0), (2, .putfield 339, 5, 0), (5, .aload_n 0, 6, 0), (6, .iload_n 2, 7, 0), (7, .iconst 0, 8, 0), (8, .iconst 5, 9, 0), (9, .invokestatic 359, 12, 0), (12, .ifCond .ne 7, 15, 19), (15, .iconst 1, 16, 0), (16, .goto 4, 19, 20), (19, .iconst 0, 20, 0), (20, .iconst 1, 21, 0), (21, .invokevirtual 345, 24, 0), (24, .ifCond .ne 70, 27, 94), (27, .aload_n 0, 28, 0), (28, .aload_n 0, 29, 0), (29, .getfield 353, 32, 0), (32, .ifCond .eq 23, 35, 55), (35, .iload_n 2, 36, 0), (36, .iconst 2, 37, 0), (37, .iconst 3, 38, 0), (38, .invokestatic 359, 41, 0), (41, .ifCond .eq 18, 44, 59), (44, .aload_n 0, 45, 0), (45, .getfield 242, 48, 0), (48, .iload_n 2, 49, 0), (49, .iconst 2, 50, 0), (50, .isub, 51, 0), (51, .baload, 52, 0), (52, .ifCond .ne 7, 55, 59), (55, .iconst 1, 56, 0), (56, .goto 4, 59, 60), (59, .iconst 0, 60, 0), (60, .iconst 2, 61, 0), (61, .invokevirtual 345, 64, 0), (64, .ifCond .ne 30, 67, 94), (67, .aload_n 0, 68, 0), (68, .iload_n 1, 69, 0), (69, .iconst 0, 70, 0), (70, .aload_n 0, 71, 0), (71, .getfield 555, 74, 0), (74, .iconst 1, 75, 0), (75, .isub, 76, 0), (76, .invokestatic 359, 79, 0), (79, .ifCond .ne 7, 82, 86), (82, .iconst 1, 83, 0), (83, .goto 4, 86, 87), (86, .iconst 0, 87, 0), (87, .iconst 3, 88, 0), (88, .invokevirtual 345, 91, 0), (91, .ifCond .eq 5, 94, 96), (94, .iconst 0, 95, 0), (95, .ireturn, 96, 0), (96, .aload_n 0, 97, 0), (97, .iload_n 1, 98, 0), (98, .invokevirtual 628, 101, 0), (101, .aload_n 0, 102, 0), (102, .getfield 172, 105, 0), (105, .iload_n 1, 106, 0)]
set_option maxRecDepth 20000 in
theorem pgc_91_0 : pgC_91_0.all (pg_ok (pg_cc 91)) = true := by decide +kernel
/-- MarkovDeskModel.state(III)I -/
def pgC_91_1 : List (Nat × Instr × Nat × Nat) := [(106, .iaload, 107, 0), (107, .isub, 108, 0), (108, .istore 4, 110, 0), (110, .aload_n 0, 111, 0), (111, .iload_n 3, 112, 0), (112, .iconst 0, 113, 0), (113, .iload_n 2, 114, 0), (114, .iconst 4, 115, 0), (115, .if_icmp .ge 7, 118, 122), (118, .iconst 0, 119, 0), (119, .goto 21, 122, 140), (122, .iload_n 2, 123, 0), (123, .iconst 4, 124, 0), (124, .if_icmp .ne 12, 127, 136), (127, .aload_n 0, 128, 0), (128, .getfield 493, 131, 0), (131, .iconst 1, 132, 0), (132, .isub, 133, 0), (133, .goto 7, 136, 140), (136, .iload 4, 138, 0), (138, .iconst 1, 139, 0), (139, .isub, 140, 0), (140, .invokestatic 359, 143, 0), (143, .ifCond .ne 7, 146, 150), (146, .iconst 1, 147, 0), (147, .goto 4, 150, 151), (150, .iconst 0, 151, 0), (151, .iconst 3, 152, 0), (152, .invokevirtual 345, 155, 0), (155, .ifCond .eq 5, 158, 160), (158, .iconst 0, 159, 0), (159, .ireturn, 160, 0), (160, .iload_n 2, 161, 0), (161, .tableswitch 82 0 4 #[35, 38, 53, 60, 70], 196, 0), (196, .iload 4, 198, 0), (198, .ireturn, 199, 0), (199, .aload_n 0, 200, 0), (200, .getfield 193, 203, 0), (203, .iload_n 1, 204, 0), (204, .baload, 205, 0), (205, .ifCond .eq 7, 208, 212), (208, .iconst 1, 209, 0), (209, .goto 4, 212, 213), (212, .iconst 0, 213, 0), (213, .ireturn, 214, 0), (214, .aload_n 0, 215, 0), (215, .getfield 251, 218, 0), (218, .iload_n 1, 219, 0), (219, .iaload, 220, 0), (220, .ireturn, 221, 0), (221, .aload_n 0, 222, 0), (222, .getfield 251, 225, 0), (225, .bipush 24, 227, 0), (227, .iload_n 1, 228, 0), (228, .iadd, 229, 0), (229, .iaload, 230, 0), (230, .ireturn, 231, 0), (231, .aload_n 0, 232, 0), (232, .getfield 169, 235, 0), (235, .bipush 8, 237, 0)]
set_option maxRecDepth 20000 in
theorem pgc_91_1 : pgC_91_1.all (pg_ok (pg_cc 91)) = true := by decide +kernel
/-- MarkovDeskModel.state(III)I -/
def pgC_91_2 : List (Nat × Instr × Nat × Nat) := [(237, .iload_n 1, 238, 0), (238, .imul, 239, 0), (239, .iload_n 3, 240, 0), (240, .iadd, 241, 0), (241, .iaload, 242, 0), (242, .ireturn, 243, 0), (243, .aload_n 0, 244, 0), (244, .getfield 175, 247, 0), (247, .aload_n 0, 248, 0), (248, .getfield 172, 251, 0), (251, .iload_n 1, 252, 0), (252, .iaload, 253, 0), (253, .iload_n 3, 254, 0), (254, .iadd, 255, 0), (255, .iconst 1, 256, 0), (256, .iadd, 257, 0), (257, .iaload, 258, 0), (258, .aload_n 0, 259, 0), (259, .getfield 175, 262, 0), (262, .aload_n 0, 263, 0), (263, .getfield 172, 266, 0), (266, .iload_n 1, 267, 0), (267, .iaload, 268, 0), (268, .iload_n 3, 269, 0), (269, .iadd, 270, 0), (270, .iaload, 271, 0), (271, .isub, 272, 0), (272, .ireturn, 273, 0)]
set_option maxRecDepth 20000 in
theorem pgc_91_2 : pgC_91_2.all (pg_ok (pg_cc 91)) = true := by decide +kernel
def pgC_91 : List (Nat × Instr × Nat × Nat) := pgC_91_0 ++ (pgC_91_1 ++ (pgC_91_2))
theorem pgc_91 : pgC_91.all (pg_ok (pg_cc 91)) = true := pg_all2 pgc_91_0 (pg_all2 pgc_91_1 (pgc_91_2))
/-- MarkovDeskModel.outcome(III)I -/
def pgC_92_0 : List (Nat × Instr × Nat × Nat) := [(0, .aload_n 0, 1, 0), (1, .iconst 0, 2, 0), (2, .putfield 339, 5, 0), (5, .aload_n 0, 6, 0), (6, .aload_n 0, 7, 0), (7, .getfield 353, 10, 0), (10, .ifCond .ne 7, 13, 17), (13, .iconst 1, 14, 0), (14, .goto 4, 17, 18), (17, .iconst 0, 18, 0), (18, .iconst 1, 19, 0), (19, .invokevirtual 345, 22, 0), (22, .ifCond .ne 65, 25, 87), (25, .aload_n 0, 26, 0), (26, .iload_n 1, 27, 0), (27, .iconst 0, 28, 0), (28, .aload_n 0, 29, 0), (29, .getfield 555, 32, 0), (32, .iconst 1, 33, 0), (33, .isub, 34, 0), (34, .invokestatic 359, 37, 0), (37, .ifCond .ne 7, 40, 44), (40, .iconst 1, 41, 0), (41, .goto 4, 44, 45), (44, .iconst 0, 45, 0), (45, .iconst 2, 46, 0), (46, .invokevirtual 345, 49, 0), (49, .ifCond .ne 38, 52, 87), (52, .aload_n 0, 53, 0), (53, .iload_n 2, 54, 0), (54, .iconst 0, 55, 0), (55, .aload_n 0, 56, 0), (56, .iload_n 1, 57, 0), (57, .invokevirtual 628, 60, 0), (60, .aload_n 0, 61, 0), (61, .getfield 172, 64, 0), (64, .iload_n 1, 65, 0), (65, .iaload, 66, 0), (66, .isub, 67, 0), (67, .iconst 1, 68, 0), (68, .isub, 69, 0), (69, .invokestatic 359, 72, 0), (72, .ifCond .ne 7, 75, 79), (75, .iconst 1, 76, 0), (76, .goto 4, 79, 80), (79, .iconst 0, 80, 0), (80, .iconst 2, 81, 0), (81, .invokevirtual 345, 84, 0), (84, .ifCond .eq 5, 87, 89), (87, .iconst 0, 88, 0), (88, .ireturn, 89, 0), (89, .aload_n 0, 90, 0), (90, .getfield 175, 93, 0), (93, .aload_n 0, 94, 0), (94, .getfield 172, 97, 0), (97, .iload_n 1, 98, 0), (98, .iaload, 99, 0), (99, .iload_n 2, 100, 0), (100, .iadd, 101, 0), (101, .iaload, 102, 0)]
set_option maxRecDepth 20000 in
theorem pgc_92_0 : pgC_92_0.all (pg_ok (pg_cc 92)) = true := by decide +kernel
/-- MarkovDeskModel.outcome(III)I -/
def pgC_92_1 : List (Nat × Instr × Nat × Nat) := [(102, .iload_n 3, 103, 0), (103, .iadd, 104, 0), (104, .istore 4, 106, 0), (106, .aload_n 0, 107, 0), (107, .iload_n 3, 108, 0), (108, .ifCond .lt 28, 111, 136), (111, .iload 4, 113, 0), (113, .ifCond .lt 23, 116, 136), (116, .iload 4, 118, 0), (118, .aload_n 0, 119, 0), (119, .getfield 175, 122, 0), (122, .aload_n 0, 123, 0), (123, .getfield 172, 126, 0), (126, .iload_n 1, 127, 0), (127, .iaload, 128, 0), (128, .iload_n 2, 129, 0), (129, .iadd, 130, 0), (130, .iconst 1, 131, 0), (131, .iadd, 132, 0), (132, .iaload, 133, 0), (133, .if_icmp .lt 7, 136, 140), (136, .iconst 1, 137, 0), (137, .goto 4, 140, 141), (140, .iconst 0, 141, 0), (141, .iconst 2, 142, 0), (142, .invokevirtual 345, 145, 0), (145, .ifCond .eq 5, 148, 150), (148, .iconst 0, 149, 0), (149, .ireturn, 150, 0), (150, .aload_n 0, 151, 0), (151, .getfield 324, 154, 0), (154, .aload_n 0, 155, 0), (155, .getfield 200, 158, 0), (158, .iload 4, 160, 0), (160, .bipush 20, 162, 0), (162, .imul, 163, 0), (163, .bipush 20, 165, 0), (165, .invokevirtual 604, 168, 0), (168, .aload_n 0, 169, 0), (169, .getfield 327, 172, 0), (172, .aload_n 0, 173, 0), (173, .getfield 203, 176, 0), (176, .iload 4, 178, 0), (178, .bipush 20, 180, 0), (180, .imul, 181, 0), (181, .bipush 20, 183, 0), (183, .invokevirtual 604, 186, 0), (186, .aload_n 0, 187, 0), (187, .getfield 178, 190, 0), (190, .iload 4, 192, 0), (192, .iaload, 193, 0), (193, .ireturn, 194, 0)]
set_option maxRecDepth 20000 in
theorem pgc_92_1 : pgC_92_1.all (pg_ok (pg_cc 92)) = true := by decide +kernel
def pgC_92 : List (Nat × Instr × Nat × Nat) := pgC_92_0 ++ (pgC_92_1)
theorem pgc_92 : pgC_92.all (pg_ok (pg_cc 92)) = true := pg_all2 pgc_92_0 (pgc_92_1)
/-- MarkovDeskModel.bits(Z)I -/
def pgC_93 : List (Nat × Instr × Nat × Nat) := [(0, .aload_n 0, 1, 0), (1, .iconst 0, 2, 0), (2, .putfield 339, 5, 0), (5, .iload_n 1, 6, 0), (6, .ifCond .eq 10, 9, 16), (9, .aload_n 0, 10, 0), (10, .getfield 327, 13, 0), (13, .goto 7, 16, 20), (16, .aload_n 0, 17, 0), (17, .getfield 324, 20, 0), (20, .invokevirtual 663, 23, 0), (23, .ireturn, 24, 0)]
set_option maxRecDepth 20000 in
theorem pgc_93 : pgC_93.all (pg_ok (pg_cc 93)) = true := by decide +kernel
/-- MarkovDeskModel.part(ZI)I -/
def pgC_94 : List (Nat × Instr × Nat × Nat) := [(0, .aload_n 0, 1, 0), (1, .iconst 0, 2, 0), (2, .putfield 339, 5, 0), (5, .aload_n 0, 6, 0), (6, .iload_n 2, 7, 0), (7, .ifCond .ge 7, 10, 14), (10, .iconst 1, 11, 0), (11, .goto 4, 14, 15), (14, .iconst 0, 15, 0), (15, .iconst 1, 16, 0), (16, .invokevirtual 345, 19, 0), (19, .ifCond .eq 5, 22, 24), (22, .iconst 0, 23, 0), (23, .ireturn, 24, 0), (24, .iload_n 1, 25, 0), (25, .ifCond .eq 10, 28, 35), (28, .aload_n 0, 29, 0), (29, .getfield 327, 32, 0), (32, .goto 7, 35, 39), (35, .aload_n 0, 36, 0), (36, .getfield 324, 39, 0), (39, .astore_n 3, 40, 0), (40, .iconst 0, 41, 0), (41, .istore 4, 43, 0), (43, .bipush 30, 45, 0), (45, .istore 5, 47, 0), (47, .iload 5, 49, 0), (49, .ifCond .lt 30, 52, 79), (52, .iload 4, 54, 0), (54, .iconst 1, 55, 0), (55, .ishl, 56, 0), (56, .aload_n 3, 57, 0), (57, .ldc2_w 666, 60, 0), (60, .iload_n 2, 61, 0), (61, .i2l, 62, 0), (62, .lmul, 63, 0), (63, .iload 5, 65, 0), (65, .i2l, 66, 0), (66, .ladd, 67, 0), (67, .invokevirtual 668, 70, 0), (70, .ior, 71, 0), (71, .istore 4, 73, 0), (73, .iinc 5 (-1), 76, 0), (76, .goto (-29), 79, 47), (79, .iload 4, 81, 0), (81, .ireturn, 82, 0)]
set_option maxRecDepth 20000 in
theorem pgc_94 : pgC_94.all (pg_ok (pg_cc 94)) = true := by decide +kernel
/-- MarkovDeskModel$Whole.bit(J)I -/
def pgC_95 : List (Nat × Instr × Nat × Nat) := [(0, .lload_n 1, 1, 0), (1, .ldc2_w 27, 4, 0), (4, .aload_n 0, 5, 0), (5, .getfield 13, 8, 0), (8, .i2l, 9, 0), (9, .lmul, 10, 0), (10, .lcmp, 11, 0), (11, .ifCond .lt 7, 14, 18), (14, .iconst 0, 15, 0), (15, .goto 21, 18, 36), (18, .aload_n 0, 19, 0), (19, .getfield 7, 22, 0), (22, .lload_n 1, 23, 0), (23, .iconst 4, 24, 0), (24, .lshr, 25, 0), (25, .l2i, 26, 0), (26, .iaload, 27, 0), (27, .lload_n 1, 28, 0), (28, .ldc2_w 29, 31, 0), (31, .land, 32, 0), (32, .l2i, 33, 0), (33, .ishr, 34, 0), (34, .iconst 1, 35, 0), (35, .iand, 36, 0), (36, .ireturn, 37, 0)]
set_option maxRecDepth 20000 in
theorem pgc_95 : pgC_95.all (pg_ok (pg_cc 95)) = true := by decide +kernel
/-- MarkovDeskModel.count(I)I -/
def pgC_96_0 : List (Nat × Instr × Nat × Nat) := [(0, .aload_n 0, 1, 0), (1, .iconst 0, 2, 0), (2, .putfield 339, 5, 0), (5, .aload_n 0, 6, 0), (6, .iload_n 1, 7, 0), (7, .iconst 0, 8, 0), (8, .bipush 7, 10, 0), (10, .invokestatic 359, 13, 0), (13, .ifCond .ne 7, 16, 20), (16, .iconst 1, 17, 0), (17, .goto 4, 20, 21), (20, .iconst 0, 21, 0), (21, .iconst 1, 22, 0), (22, .invokevirtual 345, 25, 0), (25, .ifCond .eq 5, 28, 30), (28, .iconst 0, 29, 0), (29, .ireturn, 30, 0), (30, .iload_n 1, 31, 0), (31, .iconst 4, 32, 0), (32, .if_icmp .ge 54, 35, 86), (35, .aload_n 0, 36, 0), (36, .getfield 349, 39, 0), (39, .ifCond .ne 7, 42, 46), (42, .iconst 0, 43, 0), (43, .goto 42, 46, 85), (46, .iload_n 1, 47, 0), (47, .ifCond .ne 10, 50, 57), (50, .aload_n 0, 51, 0), (51, .getfield 493, 54, 0), (54, .goto 31, 57, 85), (57, .iload_n 1, 58, 0), (58, .iconst 1, 59, 0), (59, .if_icmp .ne 10, 62, 69), (62, .aload_n 0, 63, 0), (63, .getfield 496, 66, 0), (66, .goto 19, 69, 85), (69, .iload_n 1, 70, 0), (70, .iconst 2, 71, 0), (71, .if_icmp .ne 10, 74, 81), (74, .aload_n 0, 75, 0), (75, .getfield 499, 78, 0), (78, .goto 7, 81, 85), (81, .aload_n 0, 82, 0), (82, .getfield 502, 85, 0), (85, .ireturn, 86, 0), (86, .aload_n 0, 87, 0), (87, .getfield 353, 90, 0), (90, .ifCond .ne 5, 93, 95), (93, .iconst 0, 94, 0), (94, .ireturn, 95, 0), (95, .iconst 0, 96, 0), (96, .istore_n 2, 97, 0), (97, .iconst 0, 98, 0), (98, .istore_n 3, 99, 0), (99, .iload_n 3, 100, 0), (100, .aload_n 0, 101, 0), (101, .getfield 555, 104, 0), (104, .if_icmp .ge 21, 107, 125), (107, .aload_n 0, 108, 0), (108, .getfield 193, 111, 0)]
set_option maxRecDepth 20000 in
theorem pgc_96_0 : pgC_96_0.all (pg_ok (pg_cc 96)) = true := by decide +kernel
/-- MarkovDeskModel.count(I)I -/
def pgC_96_1 : List (Nat × Instr × Nat × Nat) := [(111, .iload_n 3, 112, 0), (112, .baload, 113, 0), (113, .ifCond .eq 6, 116, 119), (116, .iinc 2 1, 119, 0), (119, .iinc 3 1, 122, 0), (122, .goto (-23), 125, 99), (125, .iload_n 1, 126, 0), (126, .iconst 4, 127, 0), (127, .if_icmp .ne 10, 130, 137), (130, .aload_n 0, 131, 0), (131, .getfield 555, 134, 0), (134, .goto 29, 137, 163), (137, .iload_n 1, 138, 0), (138, .iconst 5, 139, 0), (139, .if_icmp .ne 10, 142, 149), (142, .aload_n 0, 143, 0), (143, .getfield 558, 146, 0), (146, .goto 17, 149, 163), (149, .iload_n 1, 150, 0), (150, .bipush 6, 152, 0), (152, .if_icmp .ne 10, 155, 162), (155, .aload_n 0, 156, 0), (156, .getfield 561, 159, 0), (159, .goto 4, 162, 163), (162, .iload_n 2, 163, 0), (163, .ireturn, 164, 0)]
set_option maxRecDepth 20000 in
theorem pgc_96_1 : pgC_96_1.all (pg_ok (pg_cc 96)) = true := by decide +kernel
def pgC_96 : List (Nat × Instr × Nat × Nat) := pgC_96_0 ++ (pgC_96_1)
theorem pgc_96 : pgC_96.all (pg_ok (pg_cc 96)) = true := pg_all2 pgc_96_0 (pgc_96_1)
/-- MarkovDeskLaw.law([I)Z -/
def pgC_97_0 : List (Nat × Instr × Nat × Nat) := [(0, .new 8, 3, 0), (3, .dup, 4, 0), (4, .invokespecial 69, 7, 0), (7, .astore_n 1, 8, 0), (8, .new 70, 11, 0), (11, .dup, 12, 0), (12, .invokespecial 72, 15, 0), (15, .astore_n 2, 16, 0), (16, .iconst 1, 17, 0), (17, .newarray .long, 19, 0), (19, .astore_n 3, 20, 0), (20, .iconst 0, 21, 0), (21, .istore 4, 23, 0), (23, .iload 4, 25, 0), (25, .aload_n 0, 26, 0), (26, .arraylength, 27, 0), (27, .bipush 6, 29, 0), (29, .isub, 30, 0), (30, .if_icmp .gt 1155, 33, 1185), (33, .aload_n 0, 34, 0), (34, .iload 4, 36, 0), (36, .iaload, 37, 0), (37, .bipush 15, 39, 0), (39, .iand, 40, 0), (40, .tableswitch 1139 0 14 #[76, 180, 236, 249, 293, 373, 453, 525, 616, 719, 843, 879, 958, 999, 1083], 116, 0), (116, .aload_n 1, 117, 0), (117, .aload_n 0, 118, 0), (118, .iload 4, 120, 0), (120, .iconst 1, 121, 0), (121, .iadd, 122, 0), (122, .iaload, 123, 0), (123, .aload_n 0, 124, 0), (124, .iload 4, 126, 0), (126, .iconst 2, 127, 0), (127, .iadd, 128, 0), (128, .iaload, 129, 0), (129, .aload_n 0, 130, 0), (130, .iload 4, 132, 0), (132, .iconst 3, 133, 0), (133, .iadd, 134, 0)]
set_option maxRecDepth 20000 in
theorem pgc_97_0 : pgC_97_0.all (pg_ok (pg_cc 97)) = true := by decide +kernel
/-- MarkovDeskLaw.law([I)Z -/
def pgC_97_1 : List (Nat × Instr × Nat × Nat) := [(134, .iaload, 135, 0), (135, .aload_n 0, 136, 0), (136, .iload 4, 138, 0), (138, .iconst 4, 139, 0), (139, .iadd, 140, 0), (140, .iaload, 141, 0), (141, .aload_n 0, 142, 0), (142, .iload 4, 144, 0), (144, .iconst 5, 145, 0), (145, .iadd, 146, 0), (146, .iaload, 147, 0), (147, .aload_n 3, 148, 0), (148, .invokestatic 73, 151, 0), (151, .istore 5, 153, 0), (153, .aload_n 2, 154, 0), (154, .aload_n 0, 155, 0), (155, .iload 4, 157, 0), (157, .iconst 1, 158, 0), (158, .iadd, 159, 0), (159, .iaload, 160, 0), (160, .aload_n 0, 161, 0), (161, .iload 4, 163, 0), (163, .iconst 2, 164, 0), (164, .iadd, 165, 0), (165, .iaload, 166, 0), (166, .aload_n 0, 167, 0), (167, .iload 4, 169, 0), (169, .iconst 3, 170, 0), (170, .iadd, 171, 0), (171, .iaload, 172, 0), (172, .aload_n 0, 173, 0), (173, .iload 4, 175, 0), (175, .iconst 4, 176, 0), (176, .iadd, 177, 0), (177, .iaload, 178, 0), (178, .aload_n 0, 179, 0), (179, .iload 4, 181, 0), (181, .iconst 5, 182, 0), (182, .iadd, 183, 0), (183, .iaload, 184, 0)]
set_option maxRecDepth 20000 in
theorem pgc_97_1 : pgC_97_1.all (pg_ok (pg_cc 97)) = true := by decide +kernel
/-- MarkovDeskLaw.law([I)Z -/
def pgC_97_2 : List (Nat × Instr × Nat × Nat) := [(184, .invokevirtual 78, 187, 0), (187, .istore 6, 189, 0), (189, .aload_n 2, 190, 0), (190, .invokevirtual 79, 193, 0), (193, .iload 5, 195, 0), (195, .if_icmp .eq 5, 198, 200), (198, .iconst 0, 199, 0), (199, .ireturn, 200, 0), (200, .iload 5, 202, 0), (202, .ifCond .ne 15, 205, 217), (205, .aload_n 3, 206, 0), (206, .iconst 0, 207, 0), (207, .laload, 208, 0), (208, .iload 6, 210, 0), (210, .i2l, 211, 0), (211, .lcmp, 212, 0), (212, .ifCond .eq 5, 215, 217), (215, .iconst 0, 216, 0), (216, .ireturn, 217, 0), (217, .goto 962, 220, 1179), (220, .aload_n 1, 221, 0), (221, .aload_n 0, 222, 0), (222, .iload 4, 224, 0), (224, .iconst 1, 225, 0), (225, .iadd, 226, 0), (226, .iaload, 227, 0), (227, .aload_n 3, 228, 0), (228, .invokestatic 82, 231, 0), (231, .istore 5, 233, 0), (233, .aload_n 2, 234, 0), (234, .aload_n 0, 235, 0), (235, .iload 4, 237, 0), (237, .iconst 1, 238, 0), (238, .iadd, 239, 0), (239, .iaload, 240, 0), (240, .invokevirtual 85, 243, 0), (243, .istore 6, 245, 0), (245, .aload_n 2, 246, 0), (246, .invokevirtual 79, 249, 0), (249, .iload 5, 251, 0)]
set_option maxRecDepth 20000 in
theorem pgc_97_2 : pgC_97_2.all (pg_ok (pg_cc 97)) = true := by decide +kernel
/-- MarkovDeskLaw.law([I)Z -/
def pgC_97_3 : List (Nat × Instr × Nat × Nat) := [(251, .if_icmp .eq 5, 254, 256), (254, .iconst 0, 255, 0), (255, .ireturn, 256, 0), (256, .iload 5, 258, 0), (258, .ifCond .ne 15, 261, 273), (261, .aload_n 3, 262, 0), (262, .iconst 0, 263, 0), (263, .laload, 264, 0), (264, .iload 6, 266, 0), (266, .i2l, 267, 0), (267, .lcmp, 268, 0), (268, .ifCond .eq 5, 271, 273), (271, .iconst 0, 272, 0), (272, .ireturn, 273, 0), (273, .goto 906, 276, 1179), (276, .aload_n 1, 277, 0), (277, .invokevirtual 86, 280, 0), (280, .aload_n 2, 281, 0), (281, .invokevirtual 89, 284, 0), (284, .if_icmp .eq 895, 287, 1179), (287, .iconst 0, 288, 0), (288, .ireturn, 289, 0), (289, .aload_n 1, 290, 0), (290, .aload_n 3, 291, 0), (291, .invokestatic 90, 294, 0), (294, .istore 5, 296, 0), (296, .aload_n 2, 297, 0), (297, .invokevirtual 93, 300, 0), (300, .istore 6, 302, 0), (302, .aload_n 2, 303, 0), (303, .invokevirtual 79, 306, 0), (306, .iload 5, 308, 0), (308, .if_icmp .eq 5, 311, 313), (311, .iconst 0, 312, 0), (312, .ireturn, 313, 0), (313, .iload 5, 315, 0), (315, .ifCond .ne 15, 318, 330), (318, .aload_n 3, 319, 0), (319, .iconst 0, 320, 0), (320, .laload, 321, 0)]
set_option maxRecDepth 20000 in
theorem pgc_97_3 : pgC_97_3.all (pg_ok (pg_cc 97)) = true := by decide +kernel
/-- MarkovDeskLaw.law([I)Z -/
def pgC_97_4 : List (Nat × Instr × Nat × Nat) := [(321, .iload 6, 323, 0), (323, .i2l, 324, 0), (324, .lcmp, 325, 0), (325, .ifCond .eq 5, 328, 330), (328, .iconst 0, 329, 0), (329, .ireturn, 330, 0), (330, .goto 849, 333, 1179), (333, .aload_n 1, 334, 0), (334, .aload_n 0, 335, 0), (335, .iload 4, 337, 0), (337, .iconst 1, 338, 0), (338, .iadd, 339, 0), (339, .iaload, 340, 0), (340, .aload_n 0, 341, 0), (341, .iload 4, 343, 0), (343, .iconst 2, 344, 0), (344, .iadd, 345, 0), (345, .iaload, 346, 0), (346, .aload_n 0, 347, 0), (347, .iload 4, 349, 0), (349, .iconst 3, 350, 0), (350, .iadd, 351, 0), (351, .iaload, 352, 0), (352, .aload_n 3, 353, 0), (353, .invokestatic 94, 356, 0), (356, .istore 5, 358, 0), (358, .aload_n 2, 359, 0), (359, .aload_n 0, 360, 0), (360, .iload 4, 362, 0), (362, .iconst 1, 363, 0), (363, .iadd, 364, 0), (364, .iaload, 365, 0), (365, .aload_n 0, 366, 0), (366, .iload 4, 368, 0), (368, .iconst 2, 369, 0), (369, .iadd, 370, 0), (370, .iaload, 371, 0), (371, .aload_n 0, 372, 0), (372, .iload 4, 374, 0), (374, .iconst 3, 375, 0)]
set_option maxRecDepth 20000 in
theorem pgc_97_4 : pgC_97_4.all (pg_ok (pg_cc 97)) = true := by decide +kernel
/-- MarkovDeskLaw.law([I)Z -/
def pgC_97_5 : List (Nat × Instr × Nat × Nat) := [(375, .iadd, 376, 0), (376, .iaload, 377, 0), (377, .invokevirtual 97, 380, 0), (380, .istore 6, 382, 0), (382, .aload_n 2, 383, 0), (383, .invokevirtual 79, 386, 0), (386, .iload 5, 388, 0), (388, .if_icmp .eq 5, 391, 393), (391, .iconst 0, 392, 0), (392, .ireturn, 393, 0), (393, .iload 5, 395, 0), (395, .ifCond .ne 15, 398, 410), (398, .aload_n 3, 399, 0), (399, .iconst 0, 400, 0), (400, .laload, 401, 0), (401, .iload 6, 403, 0), (403, .i2l, 404, 0), (404, .lcmp, 405, 0), (405, .ifCond .eq 5, 408, 410), (408, .iconst 0, 409, 0), (409, .ireturn, 410, 0), (410, .goto 769, 413, 1179), (413, .aload_n 1, 414, 0), (414, .aload_n 0, 415, 0), (415, .iload 4, 417, 0), (417, .iconst 1, 418, 0), (418, .iadd, 419, 0), (419, .iaload, 420, 0), (420, .aload_n 0, 421, 0), (421, .iload 4, 423, 0), (423, .iconst 2, 424, 0), (424, .iadd, 425, 0), (425, .iaload, 426, 0), (426, .aload_n 0, 427, 0), (427, .iload 4, 429, 0), (429, .iconst 3, 430, 0), (430, .iadd, 431, 0), (431, .iaload, 432, 0), (432, .aload_n 3, 433, 0), (433, .invokestatic 98, 436, 0)]
set_option maxRecDepth 20000 in
theorem pgc_97_5 : pgC_97_5.all (pg_ok (pg_cc 97)) = true := by decide +kernel
/-- MarkovDeskLaw.law([I)Z -/
def pgC_97_6 : List (Nat × Instr × Nat × Nat) := [(436, .istore 5, 438, 0), (438, .aload_n 2, 439, 0), (439, .aload_n 0, 440, 0), (440, .iload 4, 442, 0), (442, .iconst 1, 443, 0), (443, .iadd, 444, 0), (444, .iaload, 445, 0), (445, .aload_n 0, 446, 0), (446, .iload 4, 448, 0), (448, .iconst 2, 449, 0), (449, .iadd, 450, 0), (450, .iaload, 451, 0), (451, .aload_n 0, 452, 0), (452, .iload 4, 454, 0), (454, .iconst 3, 455, 0), (455, .iadd, 456, 0), (456, .iaload, 457, 0), (457, .invokevirtual 100, 460, 0), (460, .istore 6, 462, 0), (462, .aload_n 2, 463, 0), (463, .invokevirtual 79, 466, 0), (466, .iload 5, 468, 0), (468, .if_icmp .eq 5, 471, 473), (471, .iconst 0, 472, 0), (472, .ireturn, 473, 0), (473, .iload 5, 475, 0), (475, .ifCond .ne 15, 478, 490), (478, .aload_n 3, 479, 0), (479, .iconst 0, 480, 0), (480, .laload, 481, 0), (481, .iload 6, 483, 0), (483, .i2l, 484, 0), (484, .lcmp, 485, 0), (485, .ifCond .eq 5, 488, 490), (488, .iconst 0, 489, 0), (489, .ireturn, 490, 0), (490, .goto 689, 493, 1179), (493, .aload_n 1, 494, 0), (494, .aload_n 0, 495, 0), (495, .iload 4, 497, 0)]
set_option maxRecDepth 20000 in
theorem pgc_97_6 : pgC_97_6.all (pg_ok (pg_cc 97)) = true := by decide +kernel
/-- MarkovDeskLaw.law([I)Z -/
def pgC_97_7 : List (Nat × Instr × Nat × Nat) := [(497, .iconst 1, 498, 0), (498, .iadd, 499, 0), (499, .iaload, 500, 0), (500, .ifCond .eq 7, 503, 507), (503, .iconst 1, 504, 0), (504, .goto 4, 507, 508), (507, .iconst 0, 508, 0), (508, .aload_n 3, 509, 0), (509, .invokestatic 101, 512, 0), (512, .istore 5, 514, 0), (514, .aload_n 2, 515, 0), (515, .aload_n 0, 516, 0), (516, .iload 4, 518, 0), (518, .iconst 1, 519, 0), (519, .iadd, 520, 0), (520, .iaload, 521, 0), (521, .ifCond .eq 7, 524, 528), (524, .iconst 1, 525, 0), (525, .goto 4, 528, 529), (528, .iconst 0, 529, 0), (529, .invokevirtual 104, 532, 0), (532, .istore 6, 534, 0), (534, .aload_n 2, 535, 0), (535, .invokevirtual 79, 538, 0), (538, .iload 5, 540, 0), (540, .if_icmp .eq 5, 543, 545), (543, .iconst 0, 544, 0), (544, .ireturn, 545, 0), (545, .iload 5, 547, 0), (547, .ifCond .ne 15, 550, 562), (550, .aload_n 3, 551, 0), (551, .iconst 0, 552, 0), (552, .laload, 553, 0), (553, .iload 6, 555, 0), (555, .i2l, 556, 0), (556, .lcmp, 557, 0), (557, .ifCond .eq 5, 560, 562), (560, .iconst 0, 561, 0), (561, .ireturn, 562, 0), (562, .goto 617, 565, 1179)]
set_option maxRecDepth 20000 in
theorem pgc_97_7 : pgC_97_7.all (pg_ok (pg_cc 97)) = true := by decide +kernel
/-- MarkovDeskLaw.law([I)Z -/
def pgC_97_8 : List (Nat × Instr × Nat × Nat) := [(565, .aload_n 1, 566, 0), (566, .aload_n 0, 567, 0), (567, .iload 4, 569, 0), (569, .iconst 1, 570, 0), (570, .iadd, 571, 0), (571, .iaload, 572, 0), (572, .ifCond .eq 7, 575, 579), (575, .iconst 1, 576, 0), (576, .goto 4, 579, 580), (579, .iconst 0, 580, 0), (580, .aload_n 0, 581, 0), (581, .iload 4, 583, 0), (583, .iconst 2, 584, 0), (584, .iadd, 585, 0), (585, .iaload, 586, 0), (586, .aload_n 3, 587, 0), (587, .invokestatic 105, 590, 0), (590, .istore 5, 592, 0), (592, .aload_n 2, 593, 0), (593, .aload_n 0, 594, 0), (594, .iload 4, 596, 0), (596, .iconst 1, 597, 0), (597, .iadd, 598, 0), (598, .iaload, 599, 0), (599, .ifCond .eq 7, 602, 606), (602, .iconst 1, 603, 0), (603, .goto 4, 606, 607), (606, .iconst 0, 607, 0), (607, .aload_n 0, 608, 0), (608, .iload 4, 610, 0), (610, .iconst 2, 611, 0), (611, .iadd, 612, 0), (612, .iaload, 613, 0), (613, .invokevirtual 108, 616, 0), (616, .istore 6, 618, 0), (618, .aload_n 2, 619, 0), (619, .invokevirtual 79, 622, 0), (622, .iload 5, 624, 0), (624, .if_icmp .eq 5, 627, 629), (627, .iconst 0, 628, 0)]
set_option maxRecDepth 20000 in
theorem pgc_97_8 : pgC_97_8.all (pg_ok (pg_cc 97)) = true := by decide +kernel
/-- MarkovDeskLaw.law([I)Z -/
def pgC_97_9 : List (Nat × Instr × Nat × Nat) := [(628, .ireturn, 629, 0), (629, .iload 5, 631, 0), (631, .ifCond .ne 22, 634, 653), (634, .aload_n 3, 635, 0), (635, .iconst 0, 636, 0), (636, .laload, 637, 0), (637, .iload 6, 639, 0), (639, .ifCond .eq 7, 642, 646), (642, .lconst 1, 643, 0), (643, .goto 4, 646, 647), (646, .lconst 0, 647, 0), (647, .lcmp, 648, 0), (648, .ifCond .eq 5, 651, 653), (651, .iconst 0, 652, 0), (652, .ireturn, 653, 0), (653, .goto 526, 656, 1179), (656, .aload_n 1, 657, 0), (657, .aload_n 0, 658, 0), (658, .iload 4, 660, 0), (660, .iconst 1, 661, 0), (661, .iadd, 662, 0), (662, .iaload, 663, 0), (663, .ifCond .eq 7, 666, 670), (666, .iconst 1, 667, 0), (667, .goto 4, 670, 671), (670, .iconst 0, 671, 0), (671, .aload_n 0, 672, 0), (672, .iload 4, 674, 0), (674, .iconst 2, 675, 0), (675, .iadd, 676, 0), (676, .iaload, 677, 0), (677, .aload_n 0, 678, 0), (678, .iload 4, 680, 0), (680, .iconst 3, 681, 0), (681, .iadd, 682, 0), (682, .iaload, 683, 0), (683, .aload_n 3, 684, 0), (684, .invokestatic 109, 687, 0), (687, .istore 5, 689, 0), (689, .aload_n 2, 690, 0)]
set_option maxRecDepth 20000 in
theorem pgc_97_9 : pgC_97_9.all (pg_ok (pg_cc 97)) = true := by decide +kernel
/-- MarkovDeskLaw.law([I)Z -/
def pgC_97_10 : List (Nat × Instr × Nat × Nat) := [(690, .aload_n 0, 691, 0), (691, .iload 4, 693, 0), (693, .iconst 1, 694, 0), (694, .iadd, 695, 0), (695, .iaload, 696, 0), (696, .ifCond .eq 7, 699, 703), (699, .iconst 1, 700, 0), (700, .goto 4, 703, 704), (703, .iconst 0, 704, 0), (704, .aload_n 0, 705, 0), (705, .iload 4, 707, 0), (707, .iconst 2, 708, 0), (708, .iadd, 709, 0), (709, .iaload, 710, 0), (710, .aload_n 0, 711, 0), (711, .iload 4, 713, 0), (713, .iconst 3, 714, 0), (714, .iadd, 715, 0), (715, .iaload, 716, 0), (716, .invokevirtual 112, 719, 0), (719, .istore 6, 721, 0), (721, .aload_n 2, 722, 0), (722, .invokevirtual 79, 725, 0), (725, .iload 5, 727, 0), (727, .if_icmp .eq 5, 730, 732), (730, .iconst 0, 731, 0), (731, .ireturn, 732, 0), (732, .iload 5, 734, 0), (734, .ifCond .ne 22, 737, 756), (737, .aload_n 3, 738, 0), (738, .iconst 0, 739, 0), (739, .laload, 740, 0), (740, .iload 6, 742, 0), (742, .ifCond .eq 7, 745, 749), (745, .lconst 1, 746, 0), (746, .goto 4, 749, 750), (749, .lconst 0, 750, 0), (750, .lcmp, 751, 0), (751, .ifCond .eq 5, 754, 756), (754, .iconst 0, 755, 0)]
set_option maxRecDepth 20000 in
theorem pgc_97_10 : pgC_97_10.all (pg_ok (pg_cc 97)) = true := by decide +kernel
/-- MarkovDeskLaw.law([I)Z -/
def pgC_97_11 : List (Nat × Instr × Nat × Nat) := [(755, .ireturn, 756, 0), (756, .goto 423, 759, 1179), (759, .aload_n 1, 760, 0), (760, .aload_n 0, 761, 0), (761, .iload 4, 763, 0), (763, .iconst 1, 764, 0), (764, .iadd, 765, 0), (765, .iaload, 766, 0), (766, .aload_n 0, 767, 0), (767, .iload 4, 769, 0), (769, .iconst 2, 770, 0), (770, .iadd, 771, 0), (771, .iaload, 772, 0), (772, .i2l, 773, 0), (773, .bipush 32, 775, 0), (775, .lshl, 776, 0), (776, .aload_n 0, 777, 0), (777, .iload 4, 779, 0), (779, .iconst 3, 780, 0), (780, .iadd, 781, 0), (781, .iaload, 782, 0), (782, .i2l, 783, 0), (783, .ldc2_w 113, 786, 0), (786, .land, 787, 0), (787, .lor, 788, 0), (788, .aload_n 0, 789, 0), (789, .iload 4, 791, 0), (791, .iconst 4, 792, 0), (792, .iadd, 793, 0), (793, .iaload, 794, 0), (794, .i2l, 795, 0), (795, .bipush 32, 797, 0), (797, .lshl, 798, 0), (798, .aload_n 0, 799, 0), (799, .iload 4, 801, 0), (801, .iconst 5, 802, 0), (802, .iadd, 803, 0), (803, .iaload, 804, 0), (804, .i2l, 805, 0), (805, .ldc2_w 113, 808, 0)]
set_option maxRecDepth 20000 in
theorem pgc_97_11 : pgC_97_11.all (pg_ok (pg_cc 97)) = true := by decide +kernel
/-- MarkovDeskLaw.law([I)Z -/
def pgC_97_12 : List (Nat × Instr × Nat × Nat) := [(808, .land, 809, 0), (809, .lor, 810, 0), (810, .invokestatic 115, 813, 0), (813, .istore 5, 815, 0), (815, .aload_n 2, 816, 0), (816, .aload_n 0, 817, 0), (817, .iload 4, 819, 0), (819, .iconst 1, 820, 0), (820, .iadd, 821, 0), (821, .iaload, 822, 0), (822, .aload_n 0, 823, 0), (823, .iload 4, 825, 0), (825, .iconst 2, 826, 0), (826, .iadd, 827, 0), (827, .iaload, 828, 0), (828, .i2l, 829, 0), (829, .bipush 32, 831, 0), (831, .lshl, 832, 0), (832, .aload_n 0, 833, 0), (833, .iload 4, 835, 0), (835, .iconst 3, 836, 0), (836, .iadd, 837, 0), (837, .iaload, 838, 0), (838, .i2l, 839, 0), (839, .ldc2_w 113, 842, 0), (842, .land, 843, 0), (843, .lor, 844, 0), (844, .aload_n 0, 845, 0), (845, .iload 4, 847, 0), (847, .iconst 4, 848, 0), (848, .iadd, 849, 0), (849, .iaload, 850, 0), (850, .i2l, 851, 0), (851, .bipush 32, 853, 0), (853, .lshl, 854, 0), (854, .aload_n 0, 855, 0), (855, .iload 4, 857, 0), (857, .iconst 5, 858, 0), (858, .iadd, 859, 0), (859, .iaload, 860, 0)]
set_option maxRecDepth 20000 in
theorem pgc_97_12 : pgC_97_12.all (pg_ok (pg_cc 97)) = true := by decide +kernel
/-- MarkovDeskLaw.law([I)Z -/
def pgC_97_13 : List (Nat × Instr × Nat × Nat) := [(860, .i2l, 861, 0), (861, .ldc2_w 113, 864, 0), (864, .land, 865, 0), (865, .lor, 866, 0), (866, .invokevirtual 118, 869, 0), (869, .aload_n 2, 870, 0), (870, .invokevirtual 79, 873, 0), (873, .iload 5, 875, 0), (875, .if_icmp .eq 5, 878, 880), (878, .iconst 0, 879, 0), (879, .ireturn, 880, 0), (880, .goto 299, 883, 1179), (883, .aload_n 1, 884, 0), (884, .aload_n 0, 885, 0), (885, .iload 4, 887, 0), (887, .iconst 1, 888, 0), (888, .iadd, 889, 0), (889, .iaload, 890, 0), (890, .invokestatic 119, 893, 0), (893, .istore 5, 895, 0), (895, .aload_n 2, 896, 0), (896, .aload_n 0, 897, 0), (897, .iload 4, 899, 0), (899, .iconst 1, 900, 0), (900, .iadd, 901, 0), (901, .iaload, 902, 0), (902, .invokevirtual 122, 905, 0), (905, .aload_n 2, 906, 0), (906, .invokevirtual 79, 909, 0), (909, .iload 5, 911, 0), (911, .if_icmp .eq 5, 914, 916), (914, .iconst 0, 915, 0), (915, .ireturn, 916, 0), (916, .goto 263, 919, 1179), (919, .aload_n 1, 920, 0), (920, .aload_n 0, 921, 0), (921, .iload 4, 923, 0), (923, .iconst 1, 924, 0), (924, .iadd, 925, 0), (925, .iaload, 926, 0)]
set_option maxRecDepth 20000 in
theorem pgc_97_13 : pgC_97_13.all (pg_ok (pg_cc 97)) = true := by decide +kernel
/-- MarkovDeskLaw.law([I)Z -/
def pgC_97_14 : List (Nat × Instr × Nat × Nat) := [(926, .ifCond .eq 7, 929, 933), (929, .iconst 1, 930, 0), (930, .goto 4, 933, 934), (933, .iconst 0, 934, 0), (934, .aload_n 3, 935, 0), (935, .invokestatic 123, 938, 0), (938, .istore 5, 940, 0), (940, .aload_n 2, 941, 0), (941, .aload_n 0, 942, 0), (942, .iload 4, 944, 0), (944, .iconst 1, 945, 0), (945, .iadd, 946, 0), (946, .iaload, 947, 0), (947, .ifCond .eq 7, 950, 954), (950, .iconst 1, 951, 0), (951, .goto 4, 954, 955), (954, .iconst 0, 955, 0), (955, .invokevirtual 125, 958, 0), (958, .istore 6, 960, 0), (960, .aload_n 2, 961, 0), (961, .invokevirtual 79, 964, 0), (964, .iload 5, 966, 0), (966, .if_icmp .eq 5, 969, 971), (969, .iconst 0, 970, 0), (970, .ireturn, 971, 0), (971, .iload 5, 973, 0), (973, .ifCond .ne 22, 976, 995), (976, .aload_n 3, 977, 0), (977, .iconst 0, 978, 0), (978, .laload, 979, 0), (979, .iload 6, 981, 0), (981, .ifCond .eq 7, 984, 988), (984, .lconst 1, 985, 0), (985, .goto 4, 988, 989), (988, .lconst 0, 989, 0), (989, .lcmp, 990, 0), (990, .ifCond .eq 5, 993, 995), (993, .iconst 0, 994, 0), (994, .ireturn, 995, 0), (995, .goto 184, 998, 1179)]
set_option maxRecDepth 20000 in
theorem pgc_97_14 : pgC_97_14.all (pg_ok (pg_cc 97)) = true := by decide +kernel
/-- MarkovDeskLaw.law([I)Z -/
def pgC_97_15 : List (Nat × Instr × Nat × Nat) := [(998, .aload_n 1, 999, 0), (999, .aload_n 0, 1000, 0), (1000, .iload 4, 1002, 0), (1002, .iconst 1, 1003, 0), (1003, .iadd, 1004, 0), (1004, .iaload, 1005, 0), (1005, .ifCond .eq 7, 1008, 1012), (1008, .iconst 1, 1009, 0), (1009, .goto 4, 1012, 1013), (1012, .iconst 0, 1013, 0), (1013, .invokevirtual 126, 1016, 0), (1016, .aload_n 2, 1017, 0), (1017, .aload_n 0, 1018, 0), (1018, .iload 4, 1020, 0), (1020, .iconst 1, 1021, 0), (1021, .iadd, 1022, 0), (1022, .iaload, 1023, 0), (1023, .ifCond .eq 7, 1026, 1030), (1026, .iconst 1, 1027, 0), (1027, .goto 4, 1030, 1031), (1030, .iconst 0, 1031, 0), (1031, .invokevirtual 129, 1034, 0), (1034, .if_icmp .eq 145, 1037, 1179), (1037, .iconst 0, 1038, 0), (1038, .ireturn, 1039, 0), (1039, .aload_n 1, 1040, 0), (1040, .aload_n 0, 1041, 0), (1041, .iload 4, 1043, 0), (1043, .iconst 1, 1044, 0), (1044, .iadd, 1045, 0), (1045, .iaload, 1046, 0), (1046, .ifCond .eq 7, 1049, 1053), (1049, .iconst 1, 1050, 0), (1050, .goto 4, 1053, 1054), (1053, .iconst 0, 1054, 0), (1054, .aload_n 0, 1055, 0), (1055, .iload 4, 1057, 0), (1057, .iconst 2, 1058, 0), (1058, .iadd, 1059, 0), (1059, .iaload, 1060, 0)]
set_option maxRecDepth 20000 in
theorem pgc_97_15 : pgC_97_15.all (pg_ok (pg_cc 97)) = true := by decide +kernel
/-- MarkovDeskLaw.law([I)Z -/
def pgC_97_16 : List (Nat × Instr × Nat × Nat) := [(1060, .aload_n 3, 1061, 0), (1061, .invokestatic 130, 1064, 0), (1064, .istore 5, 1066, 0), (1066, .aload_n 2, 1067, 0), (1067, .aload_n 0, 1068, 0), (1068, .iload 4, 1070, 0), (1070, .iconst 1, 1071, 0), (1071, .iadd, 1072, 0), (1072, .iaload, 1073, 0), (1073, .ifCond .eq 7, 1076, 1080), (1076, .iconst 1, 1077, 0), (1077, .goto 4, 1080, 1081), (1080, .iconst 0, 1081, 0), (1081, .aload_n 0, 1082, 0), (1082, .iload 4, 1084, 0), (1084, .iconst 2, 1085, 0), (1085, .iadd, 1086, 0), (1086, .iaload, 1087, 0), (1087, .invokevirtual 132, 1090, 0), (1090, .istore 6, 1092, 0), (1092, .aload_n 2, 1093, 0), (1093, .invokevirtual 79, 1096, 0), (1096, .iload 5, 1098, 0), (1098, .if_icmp .eq 5, 1101, 1103), (1101, .iconst 0, 1102, 0), (1102, .ireturn, 1103, 0), (1103, .iload 5, 1105, 0), (1105, .ifCond .ne 15, 1108, 1120), (1108, .aload_n 3, 1109, 0), (1109, .iconst 0, 1110, 0), (1110, .laload, 1111, 0), (1111, .iload 6, 1113, 0), (1113, .i2l, 1114, 0), (1114, .lcmp, 1115, 0), (1115, .ifCond .eq 5, 1118, 1120), (1118, .iconst 0, 1119, 0), (1119, .ireturn, 1120, 0), (1120, .goto 59, 1123, 1179), (1123, .aload_n 1, 1124, 0), (1124, .aload_n 0, 1125, 0)]
set_option maxRecDepth 20000 in
theorem pgc_97_16 : pgC_97_16.all (pg_ok (pg_cc 97)) = true := by decide +kernel
/-- MarkovDeskLaw.law([I)Z -/
def pgC_97_17 : List (Nat × Instr × Nat × Nat) := [(1125, .iload 4, 1127, 0), (1127, .iconst 1, 1128, 0), (1128, .iadd, 1129, 0), (1129, .iaload, 1130, 0), (1130, .aload_n 3, 1131, 0), (1131, .invokestatic 133, 1134, 0), (1134, .istore 5, 1136, 0), (1136, .aload_n 2, 1137, 0), (1137, .aload_n 0, 1138, 0), (1138, .iload 4, 1140, 0), (1140, .iconst 1, 1141, 0), (1141, .iadd, 1142, 0), (1142, .iaload, 1143, 0), (1143, .invokevirtual 135, 1146, 0), (1146, .istore 6, 1148, 0), (1148, .aload_n 2, 1149, 0), (1149, .invokevirtual 79, 1152, 0), (1152, .iload 5, 1154, 0), (1154, .if_icmp .eq 5, 1157, 1159), (1157, .iconst 0, 1158, 0), (1158, .ireturn, 1159, 0), (1159, .iload 5, 1161, 0), (1161, .ifCond .ne 15, 1164, 1176), (1164, .aload_n 3, 1165, 0), (1165, .iconst 0, 1166, 0), (1166, .laload, 1167, 0), (1167, .iload 6, 1169, 0), (1169, .i2l, 1170, 0), (1170, .lcmp, 1171, 0), (1171, .ifCond .eq 5, 1174, 1176), (1174, .iconst 0, 1175, 0), (1175, .ireturn, 1176, 0), (1176, .goto 3, 1179, 1179), (1179, .iinc 4 6, 1182, 0), (1182, .goto (-1159), 1185, 23), (1185, .iconst 1, 1186, 0), (1186, .ireturn, 1187, 0)]
set_option maxRecDepth 20000 in
theorem pgc_97_17 : pgC_97_17.all (pg_ok (pg_cc 97)) = true := by decide +kernel
def pgC_97 : List (Nat × Instr × Nat × Nat) := pgC_97_0 ++ (pgC_97_1 ++ (pgC_97_2 ++ (pgC_97_3 ++ (pgC_97_4 ++ (pgC_97_5 ++ (pgC_97_6 ++ (pgC_97_7 ++ (pgC_97_8 ++ (pgC_97_9 ++ (pgC_97_10 ++ (pgC_97_11 ++ (pgC_97_12 ++ (pgC_97_13 ++ (pgC_97_14 ++ (pgC_97_15 ++ (pgC_97_16 ++ (pgC_97_17)))))))))))))))))
theorem pgc_97 : pgC_97.all (pg_ok (pg_cc 97)) = true := pg_all2 pgc_97_0 (pg_all2 pgc_97_1 (pg_all2 pgc_97_2 (pg_all2 pgc_97_3 (pg_all2 pgc_97_4 (pg_all2 pgc_97_5 (pg_all2 pgc_97_6 (pg_all2 pgc_97_7 (pg_all2 pgc_97_8 (pg_all2 pgc_97_9 (pg_all2 pgc_97_10 (pg_all2 pgc_97_11 (pg_all2 pgc_97_12 (pg_all2 pgc_97_13 (pg_all2 pgc_97_14 (pg_all2 pgc_97_15 (pg_all2 pgc_97_16 (pgc_97_17)))))))))))))))))
end
section
def pg_code : Nat → List (Nat × Instr × Nat × Nat) := fun f => match f with
  | 1 => pgC_1
  | 2 => pgC_2
  | 3 => pgC_3
  | 4 => pgC_4
  | 5 => pgC_5
  | 6 => pgC_6
  | 7 => pgC_7
  | 8 => pgC_8
  | 9 => pgC_9
  | 10 => pgC_10
  | 11 => pgC_11
  | 12 => pgC_12
  | 13 => pgC_13
  | 14 => pgC_14
  | 15 => pgC_15
  | 16 => pgC_16
  | 17 => pgC_17
  | 18 => pgC_18
  | 19 => pgC_19
  | 20 => pgC_20
  | 21 => pgC_21
  | 22 => pgC_22
  | 23 => pgC_23
  | 24 => pgC_24
  | 25 => pgC_25
  | 26 => pgC_26
  | 27 => pgC_27
  | 28 => pgC_28
  | 29 => pgC_29
  | 30 => pgC_30
  | 31 => pgC_31
  | 32 => pgC_32
  | 33 => pgC_33
  | 34 => pgC_34
  | 35 => pgC_35
  | 36 => pgC_36
  | 37 => pgC_37
  | 38 => pgC_38
  | 39 => pgC_39
  | 40 => pgC_40
  | 41 => pgC_41
  | 42 => pgC_42
  | 43 => pgC_43
  | 44 => pgC_44
  | 45 => pgC_45
  | 46 => pgC_46
  | 47 => pgC_47
  | 48 => pgC_48
  | 49 => pgC_49
  | 50 => pgC_50
  | 51 => pgC_51
  | 52 => pgC_52
  | 53 => pgC_53
  | 54 => pgC_54
  | 55 => pgC_55
  | 56 => pgC_56
  | 57 => pgC_57
  | 58 => pgC_58
  | 59 => pgC_59
  | 60 => pgC_60
  | 61 => pgC_61
  | 62 => pgC_62
  | 63 => pgC_63
  | 64 => pgC_64
  | 65 => pgC_65
  | 66 => pgC_66
  | 67 => pgC_67
  | 68 => pgC_68
  | 69 => pgC_69
  | 70 => pgC_70
  | 71 => pgC_71
  | 72 => pgC_72
  | 73 => pgC_73
  | 74 => pgC_74
  | 75 => pgC_75
  | 76 => pgC_76
  | 77 => pgC_77
  | 78 => pgC_78
  | 79 => pgC_79
  | 80 => pgC_80
  | 81 => pgC_81
  | 82 => pgC_82
  | 83 => pgC_83
  | 84 => pgC_84
  | 85 => pgC_85
  | 86 => pgC_86
  | 87 => pgC_87
  | 88 => pgC_88
  | 89 => pgC_89
  | 90 => pgC_90
  | 91 => pgC_91
  | 92 => pgC_92
  | 93 => pgC_93
  | 94 => pgC_94
  | 95 => pgC_95
  | 96 => pgC_96
  | 97 => pgC_97
  | _ => []
def pg_thr : Nat → List (Nat × Nat) := fun f => match f with
  | 21 => [(13, 17)]
  | 24 => [(22, 17)]
  | 30 => [(5, 15)]
  | 41 => [(10, 16)]
  | 43 => [(9, 15), (57, 16), (76, 17), (128, 17)]
  | 45 => [(48, 17)]
  | 46 => [(10, 16)]
  | 51 => [(7, 16)]
  | 53 => [(10, 15)]
  | 55 => [(13, 15)]
  | 57 => [(25, 18)]
  | 61 => [(4, 17)]
  | 63 => [(10, 15)]
  | _ => []
def pg_hn : Nat → List ((Nat × Nat) × Nat) := fun f => match f with
  | 20 => [((11, 17), 19)]
  | 23 => [((4, 15), 15), ((4, 17), 12)]
  | 40 => [((3, 14), 14), ((3, 16), 11), ((3, 18), 17)]
  | 42 => [((7, 15), 15), ((7, 16), 19), ((7, 17), 23)]
  | 44 => [((7, 16), 15), ((7, 17), 19)]
  | 47 => [((4, 16), 12)]
  | 49 => [((5, 16), 20), ((5, 17), 24)]
  | 52 => [((7, 15), 22), ((7, 16), 26), ((7, 17), 30)]
  | 54 => [((5, 15), 11), ((5, 16), 15), ((5, 17), 19)]
  | 56 => [((2, 16), 8), ((2, 17), 11), ((2, 18), 14)]
  | 58 => [((4, 16), 19)]
  | 60 => [((5, 17), 13)]
  | 62 => [((4, 15), 12)]
  | _ => []
def pg_hnd (f pc ec : Nat) : Option (Option Nat) := if pg_hh f = [] then some none else ((pg_hn f).lookup (pc, ec)).map some
def pg_G : mm_G := (fun f pc => (pg_code f).lookup pc, fun f => pg_pool (pg_plr (pg_pc f)), pg_inf, pg_rt, fun f pc => (pg_thr f).lookup pc, pg_hnd)
theorem pg_oi : Jvm.Cond.instanceMethod Lib.objectInit ∈ pg_Ts ∧ Jvm.Cond.code Lib.objectInit ⟨#[0xb1]⟩ 1 none ∈ pg_Ts := ⟨pg_has_in (i := 213) (by decide +kernel), pg_has_in (i := 214) (by decide +kernel)⟩
end
section
/-! each method keeps what the small machine asks -/
theorem pgm_1 : pg_mok pg_cl pg_G pg_yn pg_cc pg_hh pg_wm 1 = true := by decide +kernel
theorem pgm_2 : pg_mok pg_cl pg_G pg_yn pg_cc pg_hh pg_wm 2 = true := by decide +kernel
theorem pgm_3 : pg_mok pg_cl pg_G pg_yn pg_cc pg_hh pg_wm 3 = true := by decide +kernel
theorem pgm_4 : pg_mok pg_cl pg_G pg_yn pg_cc pg_hh pg_wm 4 = true := by decide +kernel
theorem pgm_5 : pg_mok pg_cl pg_G pg_yn pg_cc pg_hh pg_wm 5 = true := by decide +kernel
theorem pgm_6 : pg_mok pg_cl pg_G pg_yn pg_cc pg_hh pg_wm 6 = true := by decide +kernel
theorem pgm_7 : pg_mok pg_cl pg_G pg_yn pg_cc pg_hh pg_wm 7 = true := by decide +kernel
theorem pgm_8 : pg_mok pg_cl pg_G pg_yn pg_cc pg_hh pg_wm 8 = true := by decide +kernel
theorem pgm_9 : pg_mok pg_cl pg_G pg_yn pg_cc pg_hh pg_wm 9 = true := by decide +kernel
theorem pgm_10 : pg_mok pg_cl pg_G pg_yn pg_cc pg_hh pg_wm 10 = true := by decide +kernel
theorem pgm_11 : pg_mok pg_cl pg_G pg_yn pg_cc pg_hh pg_wm 11 = true := by decide +kernel
theorem pgm_12 : pg_mok pg_cl pg_G pg_yn pg_cc pg_hh pg_wm 12 = true := by decide +kernel
theorem pgm_13 : pg_mok pg_cl pg_G pg_yn pg_cc pg_hh pg_wm 13 = true := by decide +kernel
theorem pgm_14 : pg_mok pg_cl pg_G pg_yn pg_cc pg_hh pg_wm 14 = true := by decide +kernel
theorem pgm_15 : pg_mok pg_cl pg_G pg_yn pg_cc pg_hh pg_wm 15 = true := by decide +kernel
theorem pgm_16 : pg_mok pg_cl pg_G pg_yn pg_cc pg_hh pg_wm 16 = true := by decide +kernel
theorem pgm_17 : pg_mok pg_cl pg_G pg_yn pg_cc pg_hh pg_wm 17 = true := by decide +kernel
theorem pgm_18 : pg_mok pg_cl pg_G pg_yn pg_cc pg_hh pg_wm 18 = true := by decide +kernel
theorem pgm_19 : pg_mok pg_cl pg_G pg_yn pg_cc pg_hh pg_wm 19 = true := by decide +kernel
theorem pgm_20 : pg_mok pg_cl pg_G pg_yn pg_cc pg_hh pg_wm 20 = true := by decide +kernel
theorem pgm_21 : pg_mok pg_cl pg_G pg_yn pg_cc pg_hh pg_wm 21 = true := by decide +kernel
theorem pgm_22 : pg_mok pg_cl pg_G pg_yn pg_cc pg_hh pg_wm 22 = true := by decide +kernel
theorem pgm_23 : pg_mok pg_cl pg_G pg_yn pg_cc pg_hh pg_wm 23 = true := by decide +kernel
theorem pgm_24 : pg_mok pg_cl pg_G pg_yn pg_cc pg_hh pg_wm 24 = true := by decide +kernel
theorem pgm_25 : pg_mok pg_cl pg_G pg_yn pg_cc pg_hh pg_wm 25 = true := by decide +kernel
theorem pgm_26 : pg_mok pg_cl pg_G pg_yn pg_cc pg_hh pg_wm 26 = true := by decide +kernel
theorem pgm_27 : pg_mok pg_cl pg_G pg_yn pg_cc pg_hh pg_wm 27 = true := by decide +kernel
theorem pgm_28 : pg_mok pg_cl pg_G pg_yn pg_cc pg_hh pg_wm 28 = true := by decide +kernel
theorem pgm_29 : pg_mok pg_cl pg_G pg_yn pg_cc pg_hh pg_wm 29 = true := by decide +kernel
theorem pgm_30 : pg_mok pg_cl pg_G pg_yn pg_cc pg_hh pg_wm 30 = true := by decide +kernel
theorem pgm_31 : pg_mok pg_cl pg_G pg_yn pg_cc pg_hh pg_wm 31 = true := by decide +kernel
theorem pgm_32 : pg_mok pg_cl pg_G pg_yn pg_cc pg_hh pg_wm 32 = true := by decide +kernel
theorem pgm_33 : pg_mok pg_cl pg_G pg_yn pg_cc pg_hh pg_wm 33 = true := by decide +kernel
theorem pgm_34 : pg_mok pg_cl pg_G pg_yn pg_cc pg_hh pg_wm 34 = true := by decide +kernel
theorem pgm_35 : pg_mok pg_cl pg_G pg_yn pg_cc pg_hh pg_wm 35 = true := by decide +kernel
theorem pgm_36 : pg_mok pg_cl pg_G pg_yn pg_cc pg_hh pg_wm 36 = true := by decide +kernel
theorem pgm_37 : pg_mok pg_cl pg_G pg_yn pg_cc pg_hh pg_wm 37 = true := by decide +kernel
theorem pgm_38 : pg_mok pg_cl pg_G pg_yn pg_cc pg_hh pg_wm 38 = true := by decide +kernel
theorem pgm_39 : pg_mok pg_cl pg_G pg_yn pg_cc pg_hh pg_wm 39 = true := by decide +kernel
theorem pgm_40 : pg_mok pg_cl pg_G pg_yn pg_cc pg_hh pg_wm 40 = true := by decide +kernel
theorem pgm_41 : pg_mok pg_cl pg_G pg_yn pg_cc pg_hh pg_wm 41 = true := by decide +kernel
theorem pgm_42 : pg_mok pg_cl pg_G pg_yn pg_cc pg_hh pg_wm 42 = true := by decide +kernel
theorem pgm_43 : pg_mok pg_cl pg_G pg_yn pg_cc pg_hh pg_wm 43 = true := by decide +kernel
theorem pgm_44 : pg_mok pg_cl pg_G pg_yn pg_cc pg_hh pg_wm 44 = true := by decide +kernel
theorem pgm_45 : pg_mok pg_cl pg_G pg_yn pg_cc pg_hh pg_wm 45 = true := by decide +kernel
theorem pgm_46 : pg_mok pg_cl pg_G pg_yn pg_cc pg_hh pg_wm 46 = true := by decide +kernel
theorem pgm_47 : pg_mok pg_cl pg_G pg_yn pg_cc pg_hh pg_wm 47 = true := by decide +kernel
theorem pgm_48 : pg_mok pg_cl pg_G pg_yn pg_cc pg_hh pg_wm 48 = true := by decide +kernel
theorem pgm_49 : pg_mok pg_cl pg_G pg_yn pg_cc pg_hh pg_wm 49 = true := by decide +kernel
theorem pgm_50 : pg_mok pg_cl pg_G pg_yn pg_cc pg_hh pg_wm 50 = true := by decide +kernel
theorem pgm_51 : pg_mok pg_cl pg_G pg_yn pg_cc pg_hh pg_wm 51 = true := by decide +kernel
theorem pgm_52 : pg_mok pg_cl pg_G pg_yn pg_cc pg_hh pg_wm 52 = true := by decide +kernel
theorem pgm_53 : pg_mok pg_cl pg_G pg_yn pg_cc pg_hh pg_wm 53 = true := by decide +kernel
theorem pgm_54 : pg_mok pg_cl pg_G pg_yn pg_cc pg_hh pg_wm 54 = true := by decide +kernel
theorem pgm_55 : pg_mok pg_cl pg_G pg_yn pg_cc pg_hh pg_wm 55 = true := by decide +kernel
theorem pgm_56 : pg_mok pg_cl pg_G pg_yn pg_cc pg_hh pg_wm 56 = true := by decide +kernel
theorem pgm_57 : pg_mok pg_cl pg_G pg_yn pg_cc pg_hh pg_wm 57 = true := by decide +kernel
theorem pgm_58 : pg_mok pg_cl pg_G pg_yn pg_cc pg_hh pg_wm 58 = true := by decide +kernel
theorem pgm_59 : pg_mok pg_cl pg_G pg_yn pg_cc pg_hh pg_wm 59 = true := by decide +kernel
theorem pgm_60 : pg_mok pg_cl pg_G pg_yn pg_cc pg_hh pg_wm 60 = true := by decide +kernel
theorem pgm_61 : pg_mok pg_cl pg_G pg_yn pg_cc pg_hh pg_wm 61 = true := by decide +kernel
theorem pgm_62 : pg_mok pg_cl pg_G pg_yn pg_cc pg_hh pg_wm 62 = true := by decide +kernel
theorem pgm_63 : pg_mok pg_cl pg_G pg_yn pg_cc pg_hh pg_wm 63 = true := by decide +kernel
theorem pgm_65 : pg_mok pg_cl pg_G pg_yn pg_cc pg_hh pg_wm 65 = true := by decide +kernel
theorem pgm_66 : pg_mok pg_cl pg_G pg_yn pg_cc pg_hh pg_wm 66 = true := by decide +kernel
theorem pgm_67 : pg_mok pg_cl pg_G pg_yn pg_cc pg_hh pg_wm 67 = true := by decide +kernel
theorem pgm_68 : pg_mok pg_cl pg_G pg_yn pg_cc pg_hh pg_wm 68 = true := by decide +kernel
theorem pgm_69 : pg_mok pg_cl pg_G pg_yn pg_cc pg_hh pg_wm 69 = true := by decide +kernel
theorem pgm_70 : pg_mok pg_cl pg_G pg_yn pg_cc pg_hh pg_wm 70 = true := by decide +kernel
theorem pgm_71 : pg_mok pg_cl pg_G pg_yn pg_cc pg_hh pg_wm 71 = true := by decide +kernel
theorem pgm_72 : pg_mok pg_cl pg_G pg_yn pg_cc pg_hh pg_wm 72 = true := by decide +kernel
theorem pgm_73 : pg_mok pg_cl pg_G pg_yn pg_cc pg_hh pg_wm 73 = true := by decide +kernel
theorem pgm_74 : pg_mok pg_cl pg_G pg_yn pg_cc pg_hh pg_wm 74 = true := by decide +kernel
theorem pgm_75 : pg_mok pg_cl pg_G pg_yn pg_cc pg_hh pg_wm 75 = true := by decide +kernel
theorem pgm_76 : pg_mok pg_cl pg_G pg_yn pg_cc pg_hh pg_wm 76 = true := by decide +kernel
theorem pgm_77 : pg_mok pg_cl pg_G pg_yn pg_cc pg_hh pg_wm 77 = true := by decide +kernel
theorem pgm_78 : pg_mok pg_cl pg_G pg_yn pg_cc pg_hh pg_wm 78 = true := by decide +kernel
theorem pgm_79 : pg_mok pg_cl pg_G pg_yn pg_cc pg_hh pg_wm 79 = true := by decide +kernel
theorem pgm_80 : pg_mok pg_cl pg_G pg_yn pg_cc pg_hh pg_wm 80 = true := by decide +kernel
theorem pgm_81 : pg_mok pg_cl pg_G pg_yn pg_cc pg_hh pg_wm 81 = true := by decide +kernel
theorem pgm_83 : pg_mok pg_cl pg_G pg_yn pg_cc pg_hh pg_wm 83 = true := by decide +kernel
theorem pgm_84 : pg_mok pg_cl pg_G pg_yn pg_cc pg_hh pg_wm 84 = true := by decide +kernel
theorem pgm_85 : pg_mok pg_cl pg_G pg_yn pg_cc pg_hh pg_wm 85 = true := by decide +kernel
theorem pgm_87 : pg_mok pg_cl pg_G pg_yn pg_cc pg_hh pg_wm 87 = true := by decide +kernel
theorem pgm_88 : pg_mok pg_cl pg_G pg_yn pg_cc pg_hh pg_wm 88 = true := by decide +kernel
theorem pgm_89 : pg_mok pg_cl pg_G pg_yn pg_cc pg_hh pg_wm 89 = true := by decide +kernel
theorem pgm_90 : pg_mok pg_cl pg_G pg_yn pg_cc pg_hh pg_wm 90 = true := by decide +kernel
theorem pgm_91 : pg_mok pg_cl pg_G pg_yn pg_cc pg_hh pg_wm 91 = true := by decide +kernel
theorem pgm_92 : pg_mok pg_cl pg_G pg_yn pg_cc pg_hh pg_wm 92 = true := by decide +kernel
theorem pgm_93 : pg_mok pg_cl pg_G pg_yn pg_cc pg_hh pg_wm 93 = true := by decide +kernel
theorem pgm_94 : pg_mok pg_cl pg_G pg_yn pg_cc pg_hh pg_wm 94 = true := by decide +kernel
theorem pgm_95 : pg_mok pg_cl pg_G pg_yn pg_cc pg_hh pg_wm 95 = true := by decide +kernel
theorem pgm_96 : pg_mok pg_cl pg_G pg_yn pg_cc pg_hh pg_wm 96 = true := by decide +kernel
end
section
/-! the longest methods: their codes compared byte by byte -/
def pg_mokr (cl : List vw_C) (G : mm_G) (yn : Nat → MethodName) (hh : Nat → List (Nat × Nat × Nat × Nat)) (wm : pg_Wm) (g : Nat) : Bool :=
  pg_has (wm g).2.1 (.initialized (yn g).cls) && decide (mm_nl G g ≤ 40) && decide ((yn g).cls ≠ "java/lang/invoke/MethodHandle") && decide ((yn g).cls ≠ "java/lang/invoke/VarHandle") &&
    (if mm_stc G g = true then pg_has (wm g).2.2.1 (.static (yn g)) && decide ((parseMethodDescriptor (yn g).desc).map (fun d => d.parameters.length) = some (mm_na' G g))
     else decide (hh g = []) && pg_has (wm g).2.2.1 (.instanceMethod (yn g)) && decide ((parseMethodDescriptor (yn g).desc).map (fun d => d.parameters.length + 1) = some (mm_na' G g)) &&
       (if mm_ini G g = true then decide ((yn g).name = "<init>") && decide (mm_rt G g = none) else match cl[mm_oc G g]? with
         | some r => pg_has (wm g).2.2.2 (.selects r.1 (yn g) (yn g))
         | none => false))
def pg_same : List UInt8 → List UInt8 → Bool
  | [], [] => true
  | a :: x, b :: y => Nat.beq a.toNat b.toNat && pg_same x y
  | _, _ => false
theorem pg_same_ok : ∀ {x y : List UInt8}, pg_same x y = true → x = y
  | [], [], _ => rfl
  | a :: x, b :: y, h => by
    have h : (Nat.beq a.toNat b.toNat && pg_same x y) = true := h
    rw [Bool.and_eq_true] at h
    rw [UInt8.toNat_inj.mp (Nat.eq_of_beq_eq_true h.1), pg_same_ok h.2]
  | [], _ :: _, h => by cases h
  | _ :: _, [], h => by cases h
def pg_eqc (o : Option Jvm.Cond) (w : Jvm.Cond) : Bool := match o, w with
  | some (.code n c l r), .code n' c' l' r' => decide (n = n') && pg_same c.data.toList c'.data.toList && decide (l = l') && decide (r = r')
  | _, _ => false
theorem pg_eqc_ok {o : Option Jvm.Cond} {w : Jvm.Cond} (h : pg_eqc o w = true) : o = some w := by
  unfold pg_eqc at h
  split at h
  · rw [Bool.and_eq_true, Bool.and_eq_true, Bool.and_eq_true, decide_eq_true_eq, decide_eq_true_eq, decide_eq_true_eq] at h
    obtain ⟨⟨⟨h1, h2⟩, h3⟩, h4⟩ := h
    rw [h1, ByteArray.ext (Array.ext' (pg_same_ok h2)), h3, h4]
  · cases h
theorem pg_mok_i {cl : List vw_C} {G : mm_G} {yn : Nat → MethodName} {cc : Nat → ByteArray} {hh : Nat → List (Nat × Nat × Nat × Nat)} {wm : pg_Wm} {g : Nat} (h : (pg_eqc lw_tbl[(wm g).1]? (mm_cw yn cc hh G g) && pg_gd (mm_cw yn cc hh G g) && pg_mokr cl G yn hh wm g) = true) : pg_mok cl G yn cc hh wm g = true := by
  rw [Bool.and_eq_true, Bool.and_eq_true] at h
  obtain ⟨⟨h1, h2⟩, h3⟩ := h
  unfold pg_mokr at h3
  unfold pg_mok
  have h : pg_has (wm g).1 (mm_cw yn cc hh G g) = true := by
    unfold pg_has
    rw [Bool.and_eq_true]
    exact ⟨decide_eq_true (pg_eqc_ok h1), h2⟩
  rw [h, Bool.true_and]
  exact h3
theorem pgm_64 : pg_mok pg_cl pg_G pg_yn pg_cc pg_hh pg_wm 64 = true := pg_mok_i (by decide +kernel)
theorem pgm_82 : pg_mok pg_cl pg_G pg_yn pg_cc pg_hh pg_wm 82 = true := pg_mok_i (by decide +kernel)
theorem pgm_86 : pg_mok pg_cl pg_G pg_yn pg_cc pg_hh pg_wm 86 = true := pg_mok_i (by decide +kernel)
end
section
/-! the program keeps what the small machine asks -/
theorem pg_mall : ∀ g, 1 ≤ g → g ≤ 96 → pg_mok pg_cl pg_G pg_yn pg_cc pg_hh pg_wm g = true := by
  intro g h1 h2
  match g, h1, h2 with
  | 1, _, _ => exact pgm_1
  | 2, _, _ => exact pgm_2
  | 3, _, _ => exact pgm_3
  | 4, _, _ => exact pgm_4
  | 5, _, _ => exact pgm_5
  | 6, _, _ => exact pgm_6
  | 7, _, _ => exact pgm_7
  | 8, _, _ => exact pgm_8
  | 9, _, _ => exact pgm_9
  | 10, _, _ => exact pgm_10
  | 11, _, _ => exact pgm_11
  | 12, _, _ => exact pgm_12
  | 13, _, _ => exact pgm_13
  | 14, _, _ => exact pgm_14
  | 15, _, _ => exact pgm_15
  | 16, _, _ => exact pgm_16
  | 17, _, _ => exact pgm_17
  | 18, _, _ => exact pgm_18
  | 19, _, _ => exact pgm_19
  | 20, _, _ => exact pgm_20
  | 21, _, _ => exact pgm_21
  | 22, _, _ => exact pgm_22
  | 23, _, _ => exact pgm_23
  | 24, _, _ => exact pgm_24
  | 25, _, _ => exact pgm_25
  | 26, _, _ => exact pgm_26
  | 27, _, _ => exact pgm_27
  | 28, _, _ => exact pgm_28
  | 29, _, _ => exact pgm_29
  | 30, _, _ => exact pgm_30
  | 31, _, _ => exact pgm_31
  | 32, _, _ => exact pgm_32
  | 33, _, _ => exact pgm_33
  | 34, _, _ => exact pgm_34
  | 35, _, _ => exact pgm_35
  | 36, _, _ => exact pgm_36
  | 37, _, _ => exact pgm_37
  | 38, _, _ => exact pgm_38
  | 39, _, _ => exact pgm_39
  | 40, _, _ => exact pgm_40
  | 41, _, _ => exact pgm_41
  | 42, _, _ => exact pgm_42
  | 43, _, _ => exact pgm_43
  | 44, _, _ => exact pgm_44
  | 45, _, _ => exact pgm_45
  | 46, _, _ => exact pgm_46
  | 47, _, _ => exact pgm_47
  | 48, _, _ => exact pgm_48
  | 49, _, _ => exact pgm_49
  | 50, _, _ => exact pgm_50
  | 51, _, _ => exact pgm_51
  | 52, _, _ => exact pgm_52
  | 53, _, _ => exact pgm_53
  | 54, _, _ => exact pgm_54
  | 55, _, _ => exact pgm_55
  | 56, _, _ => exact pgm_56
  | 57, _, _ => exact pgm_57
  | 58, _, _ => exact pgm_58
  | 59, _, _ => exact pgm_59
  | 60, _, _ => exact pgm_60
  | 61, _, _ => exact pgm_61
  | 62, _, _ => exact pgm_62
  | 63, _, _ => exact pgm_63
  | 64, _, _ => exact pgm_64
  | 65, _, _ => exact pgm_65
  | 66, _, _ => exact pgm_66
  | 67, _, _ => exact pgm_67
  | 68, _, _ => exact pgm_68
  | 69, _, _ => exact pgm_69
  | 70, _, _ => exact pgm_70
  | 71, _, _ => exact pgm_71
  | 72, _, _ => exact pgm_72
  | 73, _, _ => exact pgm_73
  | 74, _, _ => exact pgm_74
  | 75, _, _ => exact pgm_75
  | 76, _, _ => exact pgm_76
  | 77, _, _ => exact pgm_77
  | 78, _, _ => exact pgm_78
  | 79, _, _ => exact pgm_79
  | 80, _, _ => exact pgm_80
  | 81, _, _ => exact pgm_81
  | 82, _, _ => exact pgm_82
  | 83, _, _ => exact pgm_83
  | 84, _, _ => exact pgm_84
  | 85, _, _ => exact pgm_85
  | 86, _, _ => exact pgm_86
  | 87, _, _ => exact pgm_87
  | 88, _, _ => exact pgm_88
  | 89, _, _ => exact pgm_89
  | 90, _, _ => exact pgm_90
  | 91, _, _ => exact pgm_91
  | 92, _, _ => exact pgm_92
  | 93, _, _ => exact pgm_93
  | 94, _, _ => exact pgm_94
  | 95, _, _ => exact pgm_95
  | 96, _, _ => exact pgm_96
  | g + 97, _, h2 => exact absurd h2 (by omega)
def pg_ml (pl : List pg_Row) : Bool := pl.all (fun q => match q.2.1 with | .inr (.inl g) => decide (g ≤ 96) | _ => true)
theorem pg_mle {pl : List pg_Row} (h : pg_ml pl = true) : ∀ g w x, (x, (.inr (.inl (g + 1)) : mm_P), w) ∈ pl → pg_mok pg_cl pg_G pg_yn pg_cc pg_hh pg_wm (g + 1) = true := by
  intro g w x hm
  have h1 := List.all_eq_true.mp h _ hm
  dsimp only at h1
  rw [decide_eq_true_eq] at h1
  exact pg_mall _ (Nat.succ_le_succ (Nat.zero_le _)) h1
theorem pgp_0 : pgP_0.all (pg_row pg_cl pg_aT pg_TT pg_yn pg_wc "MarkovDesk" 0) = true := by decide +kernel
theorem pgq_0 : pg_ml pgP_0 = true := by decide +kernel
theorem pgp_1 : pgP_1.all (pg_row pg_cl pg_aT pg_TT pg_yn pg_wc "MarkovDesk$Answer" 1) = true := by decide +kernel
theorem pgq_1 : pg_ml pgP_1 = true := by decide +kernel
theorem pgp_2 : pgP_2.all (pg_row pg_cl pg_aT pg_TT pg_yn pg_wc "MarkovDesk$Equations" 2) = true := by decide +kernel
theorem pgq_2 : pg_ml pgP_2 = true := by decide +kernel
theorem pgp_3 : pgP_3.all (pg_row pg_cl pg_aT pg_TT pg_yn pg_wc "MarkovDesk$Machine" 3) = true := by decide +kernel
theorem pgq_3 : pg_ml pgP_3 = true := by decide +kernel
theorem pgp_4 : pgP_4.all (pg_row pg_cl pg_aT pg_TT pg_yn pg_wc "MarkovDesk$Model" 4) = true := by decide +kernel
theorem pgq_4 : pg_ml pgP_4 = true := by decide +kernel
theorem pgp_5 : pgP_5.all (pg_row pg_cl pg_aT pg_TT pg_yn pg_wc "MarkovDesk$Nat" 5) = true := by decide +kernel
theorem pgq_5 : pg_ml pgP_5 = true := by decide +kernel
theorem pgp_6 : pgP_6.all (pg_row pg_cl pg_aT pg_TT pg_yn pg_wc "MarkovDesk$Planner" 6) = true := by decide +kernel
theorem pgq_6 : pg_ml pgP_6 = true := by decide +kernel
theorem pgp_7 : pgP_7.all (pg_row pg_cl pg_aT pg_TT pg_yn pg_wc "MarkovDesk$Ratio" 7) = true := by decide +kernel
theorem pgq_7 : pg_ml pgP_7 = true := by decide +kernel
theorem pgp_8 : pgP_8.all (pg_row pg_cl pg_aT pg_TT pg_yn pg_wc "MarkovDesk$Reader" 8) = true := by decide +kernel
theorem pgq_8 : pg_ml pgP_8 = true := by decide +kernel
theorem pgp_9 : pgP_9.all (pg_row pg_cl pg_aT pg_TT pg_yn pg_wc "MarkovDesk$Space" 9) = true := by decide +kernel
theorem pgq_9 : pg_ml pgP_9 = true := by decide +kernel
theorem pgp_10 : pgP_10.all (pg_row pg_cl pg_aT pg_TT pg_yn pg_wc "MarkovDesk$Tokens" 10) = true := by decide +kernel
theorem pgq_10 : pg_ml pgP_10 = true := by decide +kernel
theorem pgp_11 : pgP_11.all (pg_row pg_cl pg_aT pg_TT pg_yn pg_wc "MarkovDesk$Walk" 11) = true := by decide +kernel
theorem pgq_11 : pg_ml pgP_11 = true := by decide +kernel
theorem pgp_12 : pgP_12.all (pg_row pg_cl pg_aT pg_TT pg_yn pg_wc "MarkovDeskLaw" 999) = true := by decide +kernel
theorem pgq_12 : pg_ml pgP_12 = true := by decide +kernel
theorem pgp_13 : pgP_13.all (pg_row pg_cl pg_aT pg_TT pg_yn pg_wc "MarkovDeskModel" 12) = true := by decide +kernel
theorem pgq_13 : pg_ml pgP_13 = true := by decide +kernel
theorem pgp_14 : pgP_14.all (pg_row pg_cl pg_aT pg_TT pg_yn pg_wc "MarkovDeskModel$Whole" 13) = true := by decide +kernel
theorem pgq_14 : pg_ml pgP_14 = true := by decide +kernel
theorem pgp_15 : pgP_15.all (pg_row pg_cl pg_aT pg_TT pg_yn pg_wc "java/lang/Integer" 999) = true := by decide +kernel
theorem pgq_15 : pg_ml pgP_15 = true := by decide +kernel
theorem pgp_16 : pgP_16.all (pg_row pg_cl pg_aT pg_TT pg_yn pg_wc "java/lang/Math" 999) = true := by decide +kernel
theorem pgq_16 : pg_ml pgP_16 = true := by decide +kernel
theorem pg_MOK : ∀ g en, mm_code pg_G g 0 = some en → mm_MOK pg_Ts pg_cl pg_aT pg_TT pg_G pg_yn pg_cc pg_hh pg_own g := by
  intro g en hen
  match g, hen with
  | 0, hen => cases hen
  | 1, _ => exact ⟨pg_code_ok pgc_1, pg_pl pgp_0, pg_mp (f := 1) (oc := 0) rfl pgp_0 pg_oi (pg_mle pgq_0), by decide +kernel, rfl, by decide +kernel⟩
  | 2, _ => exact ⟨pg_code_ok pgc_2, pg_pl pgp_3, pg_mp (f := 2) (oc := 3) rfl pgp_3 pg_oi (pg_mle pgq_3), by decide +kernel, rfl, by decide +kernel⟩
  | 3, _ => exact ⟨pg_code_ok pgc_3, pg_pl pgp_10, pg_mp (f := 3) (oc := 10) rfl pgp_10 pg_oi (pg_mle pgq_10), by decide +kernel, rfl, by decide +kernel⟩
  | 4, _ => exact ⟨pg_code_ok pgc_4, pg_pl pgp_4, pg_mp (f := 4) (oc := 4) rfl pgp_4 pg_oi (pg_mle pgq_4), by decide +kernel, rfl, by decide +kernel⟩
  | 5, _ => exact ⟨pg_code_ok pgc_5, pg_pl pgp_8, pg_mp (f := 5) (oc := 8) rfl pgp_8 pg_oi (pg_mle pgq_8), by decide +kernel, rfl, by decide +kernel⟩
  | 6, _ => exact ⟨pg_code_ok pgc_6, pg_pl pgp_9, pg_mp (f := 6) (oc := 9) rfl pgp_9 pg_oi (pg_mle pgq_9), by decide +kernel, rfl, by decide +kernel⟩
  | 7, _ => exact ⟨pg_code_ok pgc_7, pg_pl pgp_6, pg_mp (f := 7) (oc := 6) rfl pgp_6 pg_oi (pg_mle pgq_6), by decide +kernel, rfl, by decide +kernel⟩
  | 8, _ => exact ⟨pg_code_ok pgc_8, pg_pl pgp_2, pg_mp (f := 8) (oc := 2) rfl pgp_2 pg_oi (pg_mle pgq_2), by decide +kernel, rfl, by decide +kernel⟩
  | 9, _ => exact ⟨pg_code_ok pgc_9, pg_pl pgp_5, pg_mp (f := 9) (oc := 5) rfl pgp_5 pg_oi (pg_mle pgq_5), by decide +kernel, rfl, by decide +kernel⟩
  | 10, _ => exact ⟨pg_code_ok pgc_10, pg_pl pgp_16, pg_mp (f := 10) (oc := 999) rfl pgp_16 pg_oi (pg_mle pgq_16), by decide +kernel, rfl, by decide +kernel⟩
  | 11, _ => exact ⟨pg_code_ok pgc_11, pg_pl pgp_5, pg_mp (f := 11) (oc := 5) rfl pgp_5 pg_oi (pg_mle pgq_5), by decide +kernel, rfl, by decide +kernel⟩
  | 12, _ => exact ⟨pg_code_ok pgc_12, pg_pl pgp_1, pg_mp (f := 12) (oc := 1) rfl pgp_1 pg_oi (pg_mle pgq_1), by decide +kernel, rfl, by decide +kernel⟩
  | 13, _ => exact ⟨pg_code_ok pgc_13, pg_pl pgp_11, pg_mp (f := 13) (oc := 11) rfl pgp_11 pg_oi (pg_mle pgq_11), by decide +kernel, rfl, by decide +kernel⟩
  | 14, _ => exact ⟨pg_code_ok pgc_14, pg_pl pgp_7, pg_mp (f := 14) (oc := 7) rfl pgp_7 pg_oi (pg_mle pgq_7), by decide +kernel, rfl, by decide +kernel⟩
  | 15, _ => exact ⟨pg_code_ok pgc_15, pg_pl pgp_0, pg_mp (f := 15) (oc := 0) rfl pgp_0 pg_oi (pg_mle pgq_0), by decide +kernel, rfl, by decide +kernel⟩
  | 16, _ => exact ⟨pg_code_ok pgc_16, pg_pl pgp_0, pg_mp (f := 16) (oc := 0) rfl pgp_0 pg_oi (pg_mle pgq_0), by decide +kernel, rfl, by decide +kernel⟩
  | 17, _ => exact ⟨pg_code_ok pgc_17, pg_pl pgp_5, pg_mp (f := 17) (oc := 5) rfl pgp_5 pg_oi (pg_mle pgq_5), by decide +kernel, rfl, by decide +kernel⟩
  | 18, _ => exact ⟨pg_code_ok pgc_18, pg_pl pgp_5, pg_mp (f := 18) (oc := 5) rfl pgp_5 pg_oi (pg_mle pgq_5), by decide +kernel, rfl, by decide +kernel⟩
  | 19, _ => exact ⟨pg_code_ok pgc_19, pg_pl pgp_15, pg_mp (f := 19) (oc := 999) rfl pgp_15 pg_oi (pg_mle pgq_15), by decide +kernel, rfl, by decide +kernel⟩
  | 20, _ => exact ⟨pg_code_ok pgc_20, pg_pl pgp_12, pg_mp (f := 20) (oc := 999) rfl pgp_12 pg_oi (pg_mle pgq_12), by decide +kernel, rfl, by decide +kernel⟩
  | 21, _ => exact ⟨pg_code_ok pgc_21, pg_pl pgp_0, pg_mp (f := 21) (oc := 0) rfl pgp_0 pg_oi (pg_mle pgq_0), by decide +kernel, rfl, by decide +kernel⟩
  | 22, _ => exact ⟨pg_code_ok pgc_22, pg_pl pgp_10, pg_mp (f := 22) (oc := 10) rfl pgp_10 pg_oi (pg_mle pgq_10), by decide +kernel, rfl, by decide +kernel⟩
  | 23, _ => exact ⟨pg_code_ok pgc_23, pg_pl pgp_12, pg_mp (f := 23) (oc := 999) rfl pgp_12 pg_oi (pg_mle pgq_12), by decide +kernel, rfl, by decide +kernel⟩
  | 24, _ => exact ⟨pg_code_ok pgc_24, pg_pl pgp_0, pg_mp (f := 24) (oc := 0) rfl pgp_0 pg_oi (pg_mle pgq_0), by decide +kernel, rfl, by decide +kernel⟩
  | 25, _ => exact ⟨pg_code_ok pgc_25, pg_pl pgp_0, pg_mp (f := 25) (oc := 0) rfl pgp_0 pg_oi (pg_mle pgq_0), by decide +kernel, rfl, by decide +kernel⟩
  | 26, _ => exact ⟨pg_code_ok pgc_26, pg_pl pgp_1, pg_mp (f := 26) (oc := 1) rfl pgp_1 pg_oi (pg_mle pgq_1), by decide +kernel, rfl, by decide +kernel⟩
  | 27, _ => exact ⟨pg_code_ok pgc_27, pg_pl pgp_8, pg_mp (f := 27) (oc := 8) rfl pgp_8 pg_oi (pg_mle pgq_8), by decide +kernel, rfl, by decide +kernel⟩
  | 28, _ => exact ⟨pg_code_ok pgc_28, pg_pl pgp_4, pg_mp (f := 28) (oc := 4) rfl pgp_4 pg_oi (pg_mle pgq_4), by decide +kernel, rfl, by decide +kernel⟩
  | 29, _ => exact ⟨pg_code_ok pgc_29, pg_pl pgp_10, pg_mp (f := 29) (oc := 10) rfl pgp_10 pg_oi (pg_mle pgq_10), by decide +kernel, rfl, by decide +kernel⟩
  | 30, _ => exact ⟨pg_code_ok pgc_30, pg_pl pgp_8, pg_mp (f := 30) (oc := 8) rfl pgp_8 pg_oi (pg_mle pgq_8), by decide +kernel, rfl, by decide +kernel⟩
  | 31, _ => exact ⟨pg_code_ok pgc_31, pg_pl pgp_10, pg_mp (f := 31) (oc := 10) rfl pgp_10 pg_oi (pg_mle pgq_10), by decide +kernel, rfl, by decide +kernel⟩
  | 32, _ => exact ⟨pg_code_ok pgc_32, pg_pl pgp_16, pg_mp (f := 32) (oc := 999) rfl pgp_16 pg_oi (pg_mle pgq_16), by decide +kernel, rfl, by decide +kernel⟩
  | 33, _ => exact ⟨pg_code_ok pgc_33, pg_pl pgp_10, pg_mp (f := 33) (oc := 10) rfl pgp_10 pg_oi (pg_mle pgq_10), by decide +kernel, rfl, by decide +kernel⟩
  | 34, _ => exact ⟨pg_code_ok pgc_34, pg_pl pgp_10, pg_mp (f := 34) (oc := 10) rfl pgp_10 pg_oi (pg_mle pgq_10), by decide +kernel, rfl, by decide +kernel⟩
  | 35, _ => exact ⟨pg_code_ok pgc_35, pg_pl pgp_10, pg_mp (f := 35) (oc := 10) rfl pgp_10 pg_oi (pg_mle pgq_10), by decide +kernel, rfl, by decide +kernel⟩
  | 36, _ => exact ⟨pg_code_ok pgc_36, pg_pl pgp_8, pg_mp (f := 36) (oc := 8) rfl pgp_8 pg_oi (pg_mle pgq_8), by decide +kernel, rfl, by decide +kernel⟩
  | 37, _ => exact ⟨pg_code_ok pgc_37, pg_pl pgp_8, pg_mp (f := 37) (oc := 8) rfl pgp_8 pg_oi (pg_mle pgq_8), by decide +kernel, rfl, by decide +kernel⟩
  | 38, _ => exact ⟨pg_code_ok pgc_38, pg_pl pgp_8, pg_mp (f := 38) (oc := 8) rfl pgp_8 pg_oi (pg_mle pgq_8), by decide +kernel, rfl, by decide +kernel⟩
  | 39, _ => exact ⟨pg_code_ok pgc_39, pg_pl pgp_8, pg_mp (f := 39) (oc := 8) rfl pgp_8 pg_oi (pg_mle pgq_8), by decide +kernel, rfl, by decide +kernel⟩
  | 40, _ => exact ⟨pg_code_ok pgc_40, pg_pl pgp_12, pg_mp (f := 40) (oc := 999) rfl pgp_12 pg_oi (pg_mle pgq_12), by decide +kernel, rfl, by decide +kernel⟩
  | 41, _ => exact ⟨pg_code_ok pgc_41, pg_pl pgp_0, pg_mp (f := 41) (oc := 0) rfl pgp_0 pg_oi (pg_mle pgq_0), by decide +kernel, rfl, by decide +kernel⟩
  | 42, _ => exact ⟨pg_code_ok pgc_42, pg_pl pgp_12, pg_mp (f := 42) (oc := 999) rfl pgp_12 pg_oi (pg_mle pgq_12), by decide +kernel, rfl, by decide +kernel⟩
  | 43, _ => exact ⟨pg_code_ok pgc_43, pg_pl pgp_0, pg_mp (f := 43) (oc := 0) rfl pgp_0 pg_oi (pg_mle pgq_0), by decide +kernel, rfl, by decide +kernel⟩
  | 44, _ => exact ⟨pg_code_ok pgc_44, pg_pl pgp_12, pg_mp (f := 44) (oc := 999) rfl pgp_12 pg_oi (pg_mle pgq_12), by decide +kernel, rfl, by decide +kernel⟩
  | 45, _ => exact ⟨pg_code_ok pgc_45, pg_pl pgp_0, pg_mp (f := 45) (oc := 0) rfl pgp_0 pg_oi (pg_mle pgq_0), by decide +kernel, rfl, by decide +kernel⟩
  | 46, _ => exact ⟨pg_code_ok pgc_46, pg_pl pgp_0, pg_mp (f := 46) (oc := 0) rfl pgp_0 pg_oi (pg_mle pgq_0), by decide +kernel, rfl, by decide +kernel⟩
  | 47, _ => exact ⟨pg_code_ok pgc_47, pg_pl pgp_12, pg_mp (f := 47) (oc := 999) rfl pgp_12 pg_oi (pg_mle pgq_12), by decide +kernel, rfl, by decide +kernel⟩
  | 48, _ => exact ⟨pg_code_ok pgc_48, pg_pl pgp_0, pg_mp (f := 48) (oc := 0) rfl pgp_0 pg_oi (pg_mle pgq_0), by decide +kernel, rfl, by decide +kernel⟩
  | 49, _ => exact ⟨pg_code_ok pgc_49, pg_pl pgp_12, pg_mp (f := 49) (oc := 999) rfl pgp_12 pg_oi (pg_mle pgq_12), by decide +kernel, rfl, by decide +kernel⟩
  | 50, _ => exact ⟨pg_code_ok pgc_50, pg_pl pgp_0, pg_mp (f := 50) (oc := 0) rfl pgp_0 pg_oi (pg_mle pgq_0), by decide +kernel, rfl, by decide +kernel⟩
  | 51, _ => exact ⟨pg_code_ok pgc_51, pg_pl pgp_0, pg_mp (f := 51) (oc := 0) rfl pgp_0 pg_oi (pg_mle pgq_0), by decide +kernel, rfl, by decide +kernel⟩
  | 52, _ => exact ⟨pg_code_ok pgc_52, pg_pl pgp_12, pg_mp (f := 52) (oc := 999) rfl pgp_12 pg_oi (pg_mle pgq_12), by decide +kernel, rfl, by decide +kernel⟩
  | 53, _ => exact ⟨pg_code_ok pgc_53, pg_pl pgp_0, pg_mp (f := 53) (oc := 0) rfl pgp_0 pg_oi (pg_mle pgq_0), by decide +kernel, rfl, by decide +kernel⟩
  | 54, _ => exact ⟨pg_code_ok pgc_54, pg_pl pgp_12, pg_mp (f := 54) (oc := 999) rfl pgp_12 pg_oi (pg_mle pgq_12), by decide +kernel, rfl, by decide +kernel⟩
  | 55, _ => exact ⟨pg_code_ok pgc_55, pg_pl pgp_0, pg_mp (f := 55) (oc := 0) rfl pgp_0 pg_oi (pg_mle pgq_0), by decide +kernel, rfl, by decide +kernel⟩
  | 56, _ => exact ⟨pg_code_ok pgc_56, pg_pl pgp_12, pg_mp (f := 56) (oc := 999) rfl pgp_12 pg_oi (pg_mle pgq_12), by decide +kernel, rfl, by decide +kernel⟩
  | 57, _ => exact ⟨pg_code_ok pgc_57, pg_pl pgp_0, pg_mp (f := 57) (oc := 0) rfl pgp_0 pg_oi (pg_mle pgq_0), by decide +kernel, rfl, by decide +kernel⟩
  | 58, _ => exact ⟨pg_code_ok pgc_58, pg_pl pgp_12, pg_mp (f := 58) (oc := 999) rfl pgp_12 pg_oi (pg_mle pgq_12), by decide +kernel, rfl, by decide +kernel⟩
  | 59, _ => exact ⟨pg_code_ok pgc_59, pg_pl pgp_0, pg_mp (f := 59) (oc := 0) rfl pgp_0 pg_oi (pg_mle pgq_0), by decide +kernel, rfl, by decide +kernel⟩
  | 60, _ => exact ⟨pg_code_ok pgc_60, pg_pl pgp_12, pg_mp (f := 60) (oc := 999) rfl pgp_12 pg_oi (pg_mle pgq_12), by decide +kernel, rfl, by decide +kernel⟩
  | 61, _ => exact ⟨pg_code_ok pgc_61, pg_pl pgp_0, pg_mp (f := 61) (oc := 0) rfl pgp_0 pg_oi (pg_mle pgq_0), by decide +kernel, rfl, by decide +kernel⟩
  | 62, _ => exact ⟨pg_code_ok pgc_62, pg_pl pgp_12, pg_mp (f := 62) (oc := 999) rfl pgp_12 pg_oi (pg_mle pgq_12), by decide +kernel, rfl, by decide +kernel⟩
  | 63, _ => exact ⟨pg_code_ok pgc_63, pg_pl pgp_0, pg_mp (f := 63) (oc := 0) rfl pgp_0 pg_oi (pg_mle pgq_0), by decide +kernel, rfl, by decide +kernel⟩
  | 64, _ => exact ⟨pg_code_ok pgc_64, pg_pl pgp_13, pg_mp (f := 64) (oc := 12) rfl pgp_13 pg_oi (pg_mle pgq_13), by decide +kernel, rfl, by decide +kernel⟩
  | 65, _ => exact ⟨pg_code_ok pgc_65, pg_pl pgp_14, pg_mp (f := 65) (oc := 13) rfl pgp_14 pg_oi (pg_mle pgq_14), by decide +kernel, rfl, by decide +kernel⟩
  | 66, _ => exact ⟨pg_code_ok pgc_66, pg_pl pgp_13, pg_mp (f := 66) (oc := 12) rfl pgp_13 pg_oi (pg_mle pgq_13), by decide +kernel, rfl, by decide +kernel⟩
  | 67, _ => exact ⟨pg_code_ok pgc_67, pg_pl pgp_14, pg_mp (f := 67) (oc := 13) rfl pgp_14 pg_oi (pg_mle pgq_14), by decide +kernel, rfl, by decide +kernel⟩
  | 68, _ => exact ⟨pg_code_ok pgc_68, pg_pl pgp_14, pg_mp (f := 68) (oc := 13) rfl pgp_14 pg_oi (pg_mle pgq_14), by decide +kernel, rfl, by decide +kernel⟩
  | 69, _ => exact ⟨pg_code_ok pgc_69, pg_pl pgp_13, pg_mp (f := 69) (oc := 12) rfl pgp_13 pg_oi (pg_mle pgq_13), by decide +kernel, rfl, by decide +kernel⟩
  | 70, _ => exact ⟨pg_code_ok pgc_70, pg_pl pgp_13, pg_mp (f := 70) (oc := 12) rfl pgp_13 pg_oi (pg_mle pgq_13), by decide +kernel, rfl, by decide +kernel⟩
  | 71, _ => exact ⟨pg_code_ok pgc_71, pg_pl pgp_13, pg_mp (f := 71) (oc := 12) rfl pgp_13 pg_oi (pg_mle pgq_13), by decide +kernel, rfl, by decide +kernel⟩
  | 72, _ => exact ⟨pg_code_ok pgc_72, pg_pl pgp_13, pg_mp (f := 72) (oc := 12) rfl pgp_13 pg_oi (pg_mle pgq_13), by decide +kernel, rfl, by decide +kernel⟩
  | 73, _ => exact ⟨pg_code_ok pgc_73, pg_pl pgp_13, pg_mp (f := 73) (oc := 12) rfl pgp_13 pg_oi (pg_mle pgq_13), by decide +kernel, rfl, by decide +kernel⟩
  | 74, _ => exact ⟨pg_code_ok pgc_74, pg_pl pgp_13, pg_mp (f := 74) (oc := 12) rfl pgp_13 pg_oi (pg_mle pgq_13), by decide +kernel, rfl, by decide +kernel⟩
  | 75, _ => exact ⟨pg_code_ok pgc_75, pg_pl pgp_13, pg_mp (f := 75) (oc := 12) rfl pgp_13 pg_oi (pg_mle pgq_13), by decide +kernel, rfl, by decide +kernel⟩
  | 76, _ => exact ⟨pg_code_ok pgc_76, pg_pl pgp_13, pg_mp (f := 76) (oc := 12) rfl pgp_13 pg_oi (pg_mle pgq_13), by decide +kernel, rfl, by decide +kernel⟩
  | 77, _ => exact ⟨pg_code_ok pgc_77, pg_pl pgp_13, pg_mp (f := 77) (oc := 12) rfl pgp_13 pg_oi (pg_mle pgq_13), by decide +kernel, rfl, by decide +kernel⟩
  | 78, _ => exact ⟨pg_code_ok pgc_78, pg_pl pgp_13, pg_mp (f := 78) (oc := 12) rfl pgp_13 pg_oi (pg_mle pgq_13), by decide +kernel, rfl, by decide +kernel⟩
  | 79, _ => exact ⟨pg_code_ok pgc_79, pg_pl pgp_13, pg_mp (f := 79) (oc := 12) rfl pgp_13 pg_oi (pg_mle pgq_13), by decide +kernel, rfl, by decide +kernel⟩
  | 80, _ => exact ⟨pg_code_ok pgc_80, pg_pl pgp_13, pg_mp (f := 80) (oc := 12) rfl pgp_13 pg_oi (pg_mle pgq_13), by decide +kernel, rfl, by decide +kernel⟩
  | 81, _ => exact ⟨pg_code_ok pgc_81, pg_pl pgp_13, pg_mp (f := 81) (oc := 12) rfl pgp_13 pg_oi (pg_mle pgq_13), by decide +kernel, rfl, by decide +kernel⟩
  | 82, _ => exact ⟨pg_code_ok pgc_82, pg_pl pgp_13, pg_mp (f := 82) (oc := 12) rfl pgp_13 pg_oi (pg_mle pgq_13), by decide +kernel, rfl, by decide +kernel⟩
  | 83, _ => exact ⟨pg_code_ok pgc_83, pg_pl pgp_13, pg_mp (f := 83) (oc := 12) rfl pgp_13 pg_oi (pg_mle pgq_13), by decide +kernel, rfl, by decide +kernel⟩
  | 84, _ => exact ⟨pg_code_ok pgc_84, pg_pl pgp_13, pg_mp (f := 84) (oc := 12) rfl pgp_13 pg_oi (pg_mle pgq_13), by decide +kernel, rfl, by decide +kernel⟩
  | 85, _ => exact ⟨pg_code_ok pgc_85, pg_pl pgp_13, pg_mp (f := 85) (oc := 12) rfl pgp_13 pg_oi (pg_mle pgq_13), by decide +kernel, rfl, by decide +kernel⟩
  | 86, _ => exact ⟨pg_code_ok pgc_86, pg_pl pgp_13, pg_mp (f := 86) (oc := 12) rfl pgp_13 pg_oi (pg_mle pgq_13), by decide +kernel, rfl, by decide +kernel⟩
  | 87, _ => exact ⟨pg_code_ok pgc_87, pg_pl pgp_13, pg_mp (f := 87) (oc := 12) rfl pgp_13 pg_oi (pg_mle pgq_13), by decide +kernel, rfl, by decide +kernel⟩
  | 88, _ => exact ⟨pg_code_ok pgc_88, pg_pl pgp_13, pg_mp (f := 88) (oc := 12) rfl pgp_13 pg_oi (pg_mle pgq_13), by decide +kernel, rfl, by decide +kernel⟩
  | 89, _ => exact ⟨pg_code_ok pgc_89, pg_pl pgp_14, pg_mp (f := 89) (oc := 13) rfl pgp_14 pg_oi (pg_mle pgq_14), by decide +kernel, rfl, by decide +kernel⟩
  | 90, _ => exact ⟨pg_code_ok pgc_90, pg_pl pgp_13, pg_mp (f := 90) (oc := 12) rfl pgp_13 pg_oi (pg_mle pgq_13), by decide +kernel, rfl, by decide +kernel⟩
  | 91, _ => exact ⟨pg_code_ok pgc_91, pg_pl pgp_13, pg_mp (f := 91) (oc := 12) rfl pgp_13 pg_oi (pg_mle pgq_13), by decide +kernel, rfl, by decide +kernel⟩
  | 92, _ => exact ⟨pg_code_ok pgc_92, pg_pl pgp_13, pg_mp (f := 92) (oc := 12) rfl pgp_13 pg_oi (pg_mle pgq_13), by decide +kernel, rfl, by decide +kernel⟩
  | 93, _ => exact ⟨pg_code_ok pgc_93, pg_pl pgp_13, pg_mp (f := 93) (oc := 12) rfl pgp_13 pg_oi (pg_mle pgq_13), by decide +kernel, rfl, by decide +kernel⟩
  | 94, _ => exact ⟨pg_code_ok pgc_94, pg_pl pgp_13, pg_mp (f := 94) (oc := 12) rfl pgp_13 pg_oi (pg_mle pgq_13), by decide +kernel, rfl, by decide +kernel⟩
  | 95, _ => exact ⟨pg_code_ok pgc_95, pg_pl pgp_14, pg_mp (f := 95) (oc := 13) rfl pgp_14 pg_oi (pg_mle pgq_14), by decide +kernel, rfl, by decide +kernel⟩
  | 96, _ => exact ⟨pg_code_ok pgc_96, pg_pl pgp_13, pg_mp (f := 96) (oc := 12) rfl pgp_13 pg_oi (pg_mle pgq_13), by decide +kernel, rfl, by decide +kernel⟩
  | 97, _ => exact ⟨pg_code_ok pgc_97, pg_pl pgp_12, pg_mp (f := 97) (oc := 999) rfl pgp_12 pg_oi (pg_mle pgq_12), by decide +kernel, rfl, by decide +kernel⟩
  | g + 98, hen => exact absurd hen (by intro h; cases h)
end
section
/-! the world around the small machine's cells -/
section PE25
variable {D : va_G} {tys : List (ClassId × FieldType)} {B : Nat} {ex : Nat → Nat} {scr : Nat × (Nat → Int32)}
/-- a static of Throwable, laid below B -/
def pg_ls (n d : String) (B : Nat) (U : State) : Prop := ∃ (c : ClassId) (k : Class) (i : Nat) (f : Field) (a : Nat) (cell : Cell), U.vm.findClass Bundle.tN = some c ∧ U.fieldFound? Bundle.tN n d = some (c, k, i, f) ∧ f.isStatic = true ∧ k.statics = some a ∧ U.heap[a]? = some cell ∧ cell.vm.isStatics = true ∧ cell.cls = c ∧ f.slot < cell.slots.size ∧ k.staticTypes[f.slot]? = some f.type ∧ a < B
theorem pg_ls.moved {n d : String} {B : Nat} {u U : State} (hal : u.vm.Alike U.vm) (hq : ∀ a : Nat, a < B → U.heap[a]? = u.heap[a]?) (h : pg_ls n d B u) : pg_ls n d B U := by
  obtain ⟨c, k, i, f, a, cell, h1, h2, h3, h4, h5, h6, h7, h8, h9, h10⟩ := h
  obtain ⟨k', hi', he⟩ := State.fieldFound?_setVm hal h2
  exact ⟨c, k', i, f, a, cell, by rw [hal.findClass]; exact h1, hi', h3, by rw [he]; exact h4, by rw [hq a h10]; exact h5, h6, h7, h8, by rw [he]; exact h9, h10⟩
theorem pg_ls.use {n d : String} {B : Nat} {U : State} {a : Array Value} (h : pg_ls n d B U) : (Jvm.Cond.laysStatic Bundle.tN n d).before a U = true := by
  obtain ⟨c, k, i, f, a, cell, h1, h2, h3, h4, h5, h6, h7, h8, h9, h10⟩ := h
  exact Cond.laysStatic_of h1 h2 h3 h4 h5 h6 h7 h8 h9
theorem pg_ls.of {n d : String} {U : State} {a : Array Value} (h : (Jvm.Cond.laysStatic Bundle.tN n d).before a U = true) : pg_ls n d U.heap.size U := by
  obtain ⟨c, k, i, f, a, cell, h1, h2, h3, h4, h5, h6⟩ := Cond.laysStatic_spec h
  exact ⟨c, k, i, f, a, cell, h1, h2, h3, h4, h5, h6.1, h6.2.1, h6.2.2.1, h6.2.2.2, (Array.getElem?_eq_some_iff.mp h5).1⟩
def pg_E (D : va_G) (cl : List vw_C) (tys : List (ClassId × FieldType)) (B : Nat) (ex : Nat → Nat) (scr : Nat × (Nat → Int32)) (AO : List String) (SR : List (String × Nat × Nat)) (nx : Nat) (NC : String → String → Prop) (U : State) : Prop :=
  (∀ w ∈ pg_Ts, va_Nw w U) ∧ va_K D cl tys U ∧ (∀ ty, ty = .int ∨ ty = .long ∨ ty = .boolean → (Jvm.Cond.arrayClass ty).before #[] U = true) ∧ (∀ C ∈ AO, va_AO C U) ∧ va_X (ex 0) scr.1 scr.2 U U.heap ∧ (∀ q ∈ SR, ∃ tx, vk_R q.1 q.2.1 tx (ex q.2.2) U) ∧
    ((∀ j, 1 ≤ j → j ≤ nx → va_O "java/lang/String" (ex j) (fun q => B ≤ q) U U.heap) ∧ ∀ cC, U.vm.findClass "java/lang/String" = some cC → U.vm.assignable cC cC = true) ∧
    (va_Zq Bundle.tN "UNASSIGNED_STACK" Bundle.steD (fun q => B ≤ q) U U.heap ∧ va_Zq Bundle.tN "SUPPRESSED_SENTINEL" Bundle.listD (fun q => B ≤ q) U U.heap ∧ pg_ls "UNASSIGNED_STACK" Bundle.steD B U ∧ pg_ls "SUPPRESSED_SENTINEL" Bundle.listD B U) ∧ ∀ x y, NC x y → va_Nc x y U
theorem pg_zq {C n d : String} {A : Nat → Prop} {U : State} {a : Array Value} (h : va_Zq C n d A U U.heap) : (Jvm.Cond.isRef (.static C n d)).before a U = true := by
  rcases h with h | ⟨t, h⟩
  · obtain ⟨cf, kf, fi, f, x, cell, h1, h2, h3, h4, h5, h6, h7, h8⟩ := h
    simp [Cond.before, Cond.holds, Cond.value, Term.eval, State.fieldNamed?, h1, h2, h4, h5, h6, h7]
  · obtain ⟨cf, kf, fi, f, x, cell, h1, h2, h3, h4, h5, h6, h7, h8⟩ := h
    simp [Cond.before, Cond.holds, Cond.value, Term.eval, State.fieldNamed?, h1, h2, h4, h5, h6, h7]
theorem pg_ts_gd {w : Jvm.Cond} (h : w ∈ pg_Ts) : w.onTables = true ∧ (w.keepsH = true ∨ w.faceAtom = true) := by
  have := (List.mem_filter.mp h).2
  unfold pg_gd at this
  rw [Bool.and_eq_true, Bool.or_eq_true] at this
  exact this
theorem pg_EE {cl : List vw_C} {AO : List String} {SR : List (String × Nat × Nat)} {nx : Nat} {NC : String → String → Prop} (h0 : ex 0 < B) : mm_EE B pg_Ts (pg_E D cl tys B ex scr AO SR nx NC) := by
  refine ⟨fun u U h hW hq => ?_, fun U h w hw a => va_Nw.use (pg_ts_gd hw).1 (h.1 w hw)⟩
  obtain ⟨h1, h2, h3, h4, h5, h6, ⟨h7, h8⟩, ⟨h9, h10, h12, h13⟩, h11⟩ := h
  have hal := hW.alike
  have hk : ∀ a : Nat, a < u.heap.size → ¬ (fun q => B ≤ q) a → U.heap[a]? = u.heap[a]? := fun a _ hn => hq a (by have hn : ¬ B ≤ a := hn; omega)
  refine ⟨fun w hw => ?_, va_K.moved hal h2, fun ty ht => word_at hW (Or.inr ⟨ty, rfl⟩) (h3 ty ht), fun C hC => ?_, ?_, fun q hm => ?_, ⟨fun j a b => (va_O.moved hal (h7 j a b)).kept hk, fun cC hc => ?_⟩, ⟨(va_Zq.moved hal h9).kept hk, (va_Zq.moved hal h10).kept hk, h12.moved hal hq, h13.moved hal hq⟩, fun x y hn => va_Nc.moved hal (h11 x y hn)⟩
  · rcases (pg_ts_gd hw).2 with hk | hk
    · have := Cond.onTables_warmH (args := #[]) (args' := #[]) (T := U) hW (pg_ts_gd hw).1 hk (h1 w hw)
      rw [State.setVm_self] at this
      exact this
    · have h0 := Cond.faceAtom_setVm (args := #[]) hal w hk (h1 w hw)
      rw [Cond.onTables_vm (A' := #[]) (U' := U) U.vm w (pg_ts_gd hw).1, State.setVm_self] at h0
      exact h0
  · exact va_AO.moved hal (h4 C hC)
  · exact (va_X.moved hal h5).kept (hq _ h0)
  · obtain ⟨tx, ht⟩ := h6 q hm
    exact ⟨tx, vk_R.warm hW ht⟩
  · rw [hal.assignable]
    rw [hal.findClass] at hc
    exact h8 cC hc
theorem pg_zw {cl : List vw_C} {AO : List String} {SR : List (String × Nat × Nat)} {nx : Nat} {NC : String → String → Prop} {U : State} {a : Array Value} (h : pg_E D cl tys B ex scr AO SR nx NC U) : ∀ w ∈ mm_zw, w.before a U = true := by
  obtain ⟨-, -, -, -, -, -, -, ⟨h9, h10, h12, h13⟩, -⟩ := h
  intro w hw
  simp only [mm_zw, List.mem_cons, List.not_mem_nil, or_false] at hw
  rcases hw with rfl | rfl | rfl | rfl
  · exact pg_zq h9
  · exact pg_zq h10
  · exact h12.use
  · exact h13.use
end PE25
end
section
/-! where the program throws and where it catches -/
def pg_nms : List String := ["java/lang/RuntimeException", "java/lang/Exception"]
def pg_hasL : List Nat → List Jvm.Cond → Bool
  | _, [] => true
  | i :: is, w :: ws => (if i = 99999 then decide (w ∈ mm_zw) else pg_has i w) && pg_hasL is ws
  | [], _ :: _ => false
theorem pg_hasL_ok : ∀ {is : List Nat} {ws : List Jvm.Cond}, pg_hasL is ws = true → ∀ w ∈ ws, w ∈ pg_Ts ∨ w ∈ mm_zw := by
  intro is ws
  induction ws generalizing is with
  | nil => intro _ w hw; cases hw
  | cons v ws ih =>
    intro h w hw
    cases is with
    | nil => cases h
    | cons i is =>
      replace h : ((if i = 99999 then decide (v ∈ mm_zw) else pg_has i v) && pg_hasL is ws) = true := h
      rw [Bool.and_eq_true] at h
      rcases List.mem_cons.mp hw with rfl | hw
      · have h1 := h.1
        split at h1
        · exact Or.inr (of_decide_eq_true h1)
        · exact Or.inl (pg_has_in h1)
      · exact ih h.2 w hw
def pg_tok (own : String) (x ic : Nat) (X : String) (wx w6 wi : Nat) (is : List Nat) : Bool :=
  pg_has wx (.classLink own x X) && pg_has w6 (.instantiable X 6) && pg_has wi (.initialized X) && Bundle.fit X && pg_nms.all Bundle.fit && pg_hasL is (Bundle.ownAtoms0 own ic X pg_nms)
def pg_td (cc : ByteArray) (pc x ic : Nat) : Bool := decide (decode cc pc = .ok (.new x, 3)) && decide (decode cc (pc + 3) = .ok (.dup, 1)) && decide (decode cc (pc + 4) = .ok (.invokespecial ic, 3)) && decide (decode cc (pc + 7) = .ok (.athrow, 1))
theorem pg_th1 {cl : List vw_C} {cc : ByteArray} {own : String} {pc ec x ic wx w6 wi : Nat} {is : List Nat} {r : vw_C} (hr : cl[ec]? = some r) (h0 : r.2.2 = 0) (hd : pg_td cc pc x ic = true) (ht : pg_tok own x ic r.1 wx w6 wi is = true) :
    ∃ (x ic : Nat) (r : vw_C) (names : List String), (decode cc pc = .ok (.new x, 3) ∧ decode cc (pc + 3) = .ok (.dup, 1) ∧ decode cc (pc + 4) = .ok (.invokespecial ic, 3) ∧ decode cc (pc + 7) = .ok (.athrow, 1)) ∧
    (cl[ec]? = some r ∧ r.2.2 = 0) ∧ (Jvm.Cond.classLink own x r.1 ∈ pg_Ts ∧ Jvm.Cond.instantiable r.1 6 ∈ pg_Ts ∧ Jvm.Cond.initialized r.1 ∈ pg_Ts) ∧ (Bundle.fit r.1 = true ∧ (∀ n ∈ names, Bundle.fit n = true) ∧ names.length ≤ 3) ∧
    ∀ w ∈ Bundle.ownAtoms0 own ic r.1 names, w ∈ pg_Ts ∨ w ∈ mm_zw := by
  unfold pg_td at hd
  unfold pg_tok at ht
  simp only [Bool.and_eq_true, decide_eq_true_eq] at hd ht
  obtain ⟨⟨⟨d1, d2⟩, d3⟩, d4⟩ := hd
  obtain ⟨⟨⟨⟨⟨t1, t2⟩, t3⟩, t4⟩, t5⟩, t6⟩ := ht
  exact ⟨x, ic, r, pg_nms, ⟨d1, d2, d3, d4⟩, ⟨hr, h0⟩, ⟨pg_has_in t1, pg_has_in t2, pg_has_in t3⟩, ⟨t4, fun n hn => List.all_eq_true.mp t5 n hn, by decide⟩, pg_hasL_ok t6⟩
theorem pgt_0 : pg_tok "MarkovDesk" 102 104 "java/lang/IndexOutOfBoundsException" 826 827 195 [192, 848, 857, 863, 866, 868, 849, 850, 213, 214, 851, 856, 864, 880, 838, 881, 840, 882, 842, 852, 99999, 854, 99999, 844, 870, 871, 872, 873, 829, 873, 874, 875, 876, 831, 876, 877, 878, 849, 833, 869, 827, 828, 835, 836, 837, 839, 841, 843, 99999, 99999, 847, 846, 845] = true := by decide +kernel
theorem pgt_1 : pg_tok "MarkovDesk$Reader" 282 284 "java/lang/IllegalArgumentException" 928 929 196 [192, 848, 857, 863, 866, 868, 849, 850, 213, 214, 851, 856, 864, 880, 838, 881, 840, 882, 842, 852, 99999, 854, 99999, 844, 938, 939, 940, 873, 829, 873, 874, 875, 876, 831, 876, 877, 878, 849, 833, 937, 929, 930, 931, 860, 932, 933, 934, 935, 99999, 99999, 847, 846, 936] = true := by decide +kernel
theorem pgt_2 : pg_tok "MarkovDesk" 147 149 "java/lang/IllegalStateException" 1267 1268 202 [192, 848, 857, 863, 866, 868, 849, 850, 213, 214, 851, 856, 864, 880, 838, 881, 840, 882, 842, 852, 99999, 854, 99999, 844, 1277, 1278, 1279, 873, 829, 873, 874, 875, 876, 831, 876, 877, 878, 849, 833, 1276, 1268, 1269, 1270, 861, 1271, 1272, 1273, 1274, 99999, 99999, 847, 846, 1275] = true := by decide +kernel
theorem pgt_3 : pg_tok "MarkovDesk" 156 158 "java/lang/IllegalArgumentException" 1369 929 196 [192, 848, 857, 863, 866, 868, 849, 850, 213, 214, 851, 856, 864, 880, 838, 881, 840, 882, 842, 852, 99999, 854, 99999, 844, 938, 939, 940, 873, 829, 873, 874, 875, 876, 831, 876, 877, 878, 849, 833, 1370, 929, 930, 931, 860, 932, 933, 934, 935, 99999, 99999, 847, 846, 936] = true := by decide +kernel
theorem pgt_4 : pg_tok "MarkovDesk" 254 256 "java/lang/UnsupportedOperationException" 1633 1326 205 [192, 848, 857, 863, 866, 868, 849, 850, 213, 214, 851, 856, 864, 880, 838, 881, 840, 882, 842, 852, 99999, 854, 99999, 844, 1335, 1336, 1337, 873, 829, 873, 874, 875, 876, 831, 876, 877, 878, 849, 833, 1634, 1326, 1327, 1328, 862, 1329, 1330, 1331, 1332, 99999, 99999, 847, 846, 1333] = true := by decide +kernel
theorem pg_th : ∀ f, mm_thOK pg_Ts pg_cl pg_G pg_cc pg_own f := by
  intro f pc ec h
  replace h : (pg_thr f).lookup pc = some ec := h
  unfold pg_thr at h
  split at h
  · have hm := pg_look h
    simp only [List.mem_cons, Prod.mk.injEq, List.not_mem_nil, or_false] at hm
    obtain ⟨rfl, rfl⟩ := hm
    · exact pg_th1 (r := ("java/lang/IndexOutOfBoundsException", pgF_17, 0)) rfl rfl (by decide +kernel) pgt_0
  · have hm := pg_look h
    simp only [List.mem_cons, Prod.mk.injEq, List.not_mem_nil, or_false] at hm
    obtain ⟨rfl, rfl⟩ := hm
    · exact pg_th1 (r := ("java/lang/IndexOutOfBoundsException", pgF_17, 0)) rfl rfl (by decide +kernel) pgt_0
  · have hm := pg_look h
    simp only [List.mem_cons, Prod.mk.injEq, List.not_mem_nil, or_false] at hm
    obtain ⟨rfl, rfl⟩ := hm
    · exact pg_th1 (r := ("java/lang/IllegalArgumentException", pgF_15, 0)) rfl rfl (by decide +kernel) pgt_1
  · have hm := pg_look h
    simp only [List.mem_cons, Prod.mk.injEq, List.not_mem_nil, or_false] at hm
    obtain ⟨rfl, rfl⟩ := hm
    · exact pg_th1 (r := ("java/lang/IllegalStateException", pgF_16, 0)) rfl rfl (by decide +kernel) pgt_2
  · have hm := pg_look h
    simp only [List.mem_cons, Prod.mk.injEq, List.not_mem_nil, or_false] at hm
    rcases hm with ⟨rfl, rfl⟩ | ⟨rfl, rfl⟩ | ⟨rfl, rfl⟩ | ⟨rfl, rfl⟩
    · exact pg_th1 (r := ("java/lang/IllegalArgumentException", pgF_15, 0)) rfl rfl (by decide +kernel) pgt_3
    · exact pg_th1 (r := ("java/lang/IllegalStateException", pgF_16, 0)) rfl rfl (by decide +kernel) pgt_2
    · exact pg_th1 (r := ("java/lang/IndexOutOfBoundsException", pgF_17, 0)) rfl rfl (by decide +kernel) pgt_0
    · exact pg_th1 (r := ("java/lang/IndexOutOfBoundsException", pgF_17, 0)) rfl rfl (by decide +kernel) pgt_0
  · have hm := pg_look h
    simp only [List.mem_cons, Prod.mk.injEq, List.not_mem_nil, or_false] at hm
    obtain ⟨rfl, rfl⟩ := hm
    · exact pg_th1 (r := ("java/lang/IndexOutOfBoundsException", pgF_17, 0)) rfl rfl (by decide +kernel) pgt_0
  · have hm := pg_look h
    simp only [List.mem_cons, Prod.mk.injEq, List.not_mem_nil, or_false] at hm
    obtain ⟨rfl, rfl⟩ := hm
    · exact pg_th1 (r := ("java/lang/IllegalStateException", pgF_16, 0)) rfl rfl (by decide +kernel) pgt_2
  · have hm := pg_look h
    simp only [List.mem_cons, Prod.mk.injEq, List.not_mem_nil, or_false] at hm
    obtain ⟨rfl, rfl⟩ := hm
    · exact pg_th1 (r := ("java/lang/IllegalStateException", pgF_16, 0)) rfl rfl (by decide +kernel) pgt_2
  · have hm := pg_look h
    simp only [List.mem_cons, Prod.mk.injEq, List.not_mem_nil, or_false] at hm
    obtain ⟨rfl, rfl⟩ := hm
    · exact pg_th1 (r := ("java/lang/IllegalArgumentException", pgF_15, 0)) rfl rfl (by decide +kernel) pgt_3
  · have hm := pg_look h
    simp only [List.mem_cons, Prod.mk.injEq, List.not_mem_nil, or_false] at hm
    obtain ⟨rfl, rfl⟩ := hm
    · exact pg_th1 (r := ("java/lang/IllegalArgumentException", pgF_15, 0)) rfl rfl (by decide +kernel) pgt_3
  · have hm := pg_look h
    simp only [List.mem_cons, Prod.mk.injEq, List.not_mem_nil, or_false] at hm
    obtain ⟨rfl, rfl⟩ := hm
    · exact pg_th1 (r := ("java/lang/UnsupportedOperationException", pgF_18, 0)) rfl rfl (by decide +kernel) pgt_4
  · have hm := pg_look h
    simp only [List.mem_cons, Prod.mk.injEq, List.not_mem_nil, or_false] at hm
    obtain ⟨rfl, rfl⟩ := hm
    · exact pg_th1 (r := ("java/lang/IndexOutOfBoundsException", pgF_17, 0)) rfl rfl (by decide +kernel) pgt_0
  · have hm := pg_look h
    simp only [List.mem_cons, Prod.mk.injEq, List.not_mem_nil, or_false] at hm
    obtain ⟨rfl, rfl⟩ := hm
    · exact pg_th1 (r := ("java/lang/IllegalArgumentException", pgF_15, 0)) rfl rfl (by decide +kernel) pgt_3
  · cases h
def pg_ncs : List (String × String) := [("java/lang/ArithmeticException", "java/lang/IndexOutOfBoundsException"), ("java/lang/ArithmeticException", "java/lang/IllegalArgumentException"), ("java/lang/ArithmeticException", "java/lang/IllegalStateException"), ("java/lang/ArithmeticException", "java/lang/UnsupportedOperationException"), ("java/lang/IndexOutOfBoundsException", "java/lang/ArithmeticException"), ("java/lang/IndexOutOfBoundsException", "java/lang/IllegalArgumentException"), ("java/lang/IndexOutOfBoundsException", "java/lang/IllegalStateException"), ("java/lang/IndexOutOfBoundsException", "java/lang/UnsupportedOperationException"), ("java/lang/IllegalArgumentException", "java/lang/ArithmeticException"), ("java/lang/IllegalArgumentException", "java/lang/IndexOutOfBoundsException"), ("java/lang/IllegalArgumentException", "java/lang/IllegalStateException"), ("java/lang/IllegalArgumentException", "java/lang/UnsupportedOperationException"), ("java/lang/IllegalStateException", "java/lang/ArithmeticException"), ("java/lang/IllegalStateException", "java/lang/IndexOutOfBoundsException"), ("java/lang/IllegalStateException", "java/lang/IllegalArgumentException"), ("java/lang/IllegalStateException", "java/lang/UnsupportedOperationException"), ("java/lang/UnsupportedOperationException", "java/lang/ArithmeticException"), ("java/lang/UnsupportedOperationException", "java/lang/IndexOutOfBoundsException"), ("java/lang/UnsupportedOperationException", "java/lang/IllegalArgumentException"), ("java/lang/UnsupportedOperationException", "java/lang/IllegalStateException")]
def pg_nc (x y : String) : Prop := (x, y) ∈ pg_ncs
def pg_hrow (own X : String) (pc h : Nat) (pre : List ((Nat × Nat × Nat × Nat) × String × Nat)) (y : Nat × Nat × Nat × Nat) (nm : String) (wl wc : Nat) : Bool :=
  mk_cov y pc && decide (y.2.2.1 = h) && decide (y.2.2.2 ≠ 0) && pg_has wl (.classLink own y.2.2.2 nm) && pg_has wc (.castable X nm) && pre.all (fun z => decide (z.1.2.2.2 ≠ 0) && pg_has z.2.2 (.classLink own z.1.2.2.2 z.2.1) && decide ((X, z.2.1) ∈ pg_ncs))
theorem pg_ct1 {cl : List vw_C} {own nm : String} {hh post : List (Nat × Nat × Nat × Nat)} {pc ec h wl wc : Nat} {y : Nat × Nat × Nat × Nat} {r : vw_C} (pre : List ((Nat × Nat × Nat × Nat) × String × Nat)) (he : hh = pre.map Prod.fst ++ y :: post) (hr : cl[ec]? = some r) (hd : pg_hrow own r.1 pc h pre y nm wl wc = true) :
    ∃ (pre : List (Nat × Nat × Nat × Nat)) (y : Nat × Nat × Nat × Nat) (post : List (Nat × Nat × Nat × Nat)) (r : vw_C), hh = pre ++ y :: post ∧ cl[ec]? = some r ∧ (mk_cov y pc = true ∧ y.2.2.1 = h ∧ y.2.2.2 ≠ 0 ∧ ∃ nm, Jvm.Cond.classLink own y.2.2.2 nm ∈ pg_Ts ∧ Jvm.Cond.castable r.1 nm ∈ pg_Ts) ∧
    ∀ z ∈ pre, mk_cov z pc = false ∨ (z.2.2.2 ≠ 0 ∧ ∃ nm, Jvm.Cond.classLink own z.2.2.2 nm ∈ pg_Ts ∧ pg_nc r.1 nm) := by
  unfold pg_hrow at hd
  simp only [Bool.and_eq_true, decide_eq_true_eq] at hd
  obtain ⟨⟨⟨⟨⟨d1, d2⟩, d3⟩, d4⟩, d5⟩, d6⟩ := hd
  refine ⟨pre.map Prod.fst, y, post, r, he, hr, ⟨d1, d2, d3, nm, pg_has_in d4, pg_has_in d5⟩, fun z hz => Or.inr ?_⟩
  obtain ⟨zz, hzz, rfl⟩ := List.mem_map.mp hz
  have := List.all_eq_true.mp d6 zz hzz
  simp only [Bool.and_eq_true, decide_eq_true_eq] at this
  exact ⟨this.1.1, zz.2.1, pg_has_in this.1.2, this.2⟩
theorem pg_look2 {α : Type} {x : Nat × Nat} {b : α} : ∀ {l : List ((Nat × Nat) × α)}, l.lookup x = some b → (x, b) ∈ l := by
  intro l
  induction l with
  | nil => intro h; cases h
  | cons q l ih =>
    intro h
    obtain ⟨y, c⟩ := q
    rw [List.lookup_cons] at h
    by_cases he : x = y
    · subst he
      simp at h
      subst h
      exact List.mem_cons_self
    · have : (x == y) = false := by simpa using he
      rw [this] at h
      exact List.mem_cons_of_mem _ (ih h)
theorem pg_ct : ∀ f, mm_ctOK pg_Ts pg_cl pg_nc pg_G pg_hh pg_own f := by
  intro f
  refine ⟨fun pc ec h => ?_, fun pc ec h hq => ?_⟩
  · replace h : pg_hnd f pc ec = some none := h
    unfold pg_hnd at h
    split at h
    · rename_i he
      rw [he]
      intro y hy
      cases hy
    · cases hq : (pg_hn f).lookup (pc, ec) with
      | none => rw [hq] at h; cases h
      | some v => rw [hq] at h; cases h
  · replace hq : pg_hnd f pc ec = some (some h) := hq
    unfold pg_hnd at hq
    split at hq
    · cases hq
    · have hl : (pg_hn f).lookup (pc, ec) = some h := by
        cases hl : (pg_hn f).lookup (pc, ec) with
        | none => rw [hl] at hq; cases hq
        | some v => rw [hl] at hq; cases hq; rfl
      unfold pg_hn at hl
      split at hl
      · have hm := pg_look2 hl
        simp only [List.mem_cons, Prod.mk.injEq, List.not_mem_nil, or_false] at hm
        obtain ⟨⟨rfl, rfl⟩, rfl⟩ := hm
        · exact pg_ct1 (r := ("java/lang/IndexOutOfBoundsException", pgF_17, 0)) (y := (0, 16, 19, 13)) (post := []) (nm := "java/lang/IndexOutOfBoundsException") (wl := 821) (wc := 828) [] rfl rfl (by decide +kernel)
      · have hm := pg_look2 hl
        simp only [List.mem_cons, Prod.mk.injEq, List.not_mem_nil, or_false] at hm
        rcases hm with ⟨⟨rfl, rfl⟩, rfl⟩ | ⟨⟨rfl, rfl⟩, rfl⟩
        · exact pg_ct1 (r := ("java/lang/IllegalArgumentException", pgF_15, 0)) (y := (0, 9, 15, 19)) (post := []) (nm := "java/lang/IllegalArgumentException") (wl := 898) (wc := 930) [((0, 9, 12, 13), "java/lang/IndexOutOfBoundsException", 821)] rfl rfl (by decide +kernel)
        · exact pg_ct1 (r := ("java/lang/IndexOutOfBoundsException", pgF_17, 0)) (y := (0, 9, 12, 13)) (post := [(0, 9, 15, 19)]) (nm := "java/lang/IndexOutOfBoundsException") (wl := 821) (wc := 828) [] rfl rfl (by decide +kernel)
      · have hm := pg_look2 hl
        simp only [List.mem_cons, Prod.mk.injEq, List.not_mem_nil, or_false] at hm
        rcases hm with ⟨⟨rfl, rfl⟩, rfl⟩ | ⟨⟨rfl, rfl⟩, rfl⟩ | ⟨⟨rfl, rfl⟩, rfl⟩
        · exact pg_ct1 (r := ("java/lang/ArithmeticException", pgF_14, 0)) (y := (0, 8, 14, 27)) (post := [(0, 8, 17, 29)]) (nm := "java/lang/ArithmeticException") (wl := 1261) (wc := 1300) [((0, 8, 11, 25), "java/lang/IllegalStateException", 1260)] rfl rfl (by decide +kernel)
        · exact pg_ct1 (r := ("java/lang/IllegalStateException", pgF_16, 0)) (y := (0, 8, 11, 25)) (post := [(0, 8, 14, 27), (0, 8, 17, 29)]) (nm := "java/lang/IllegalStateException") (wl := 1260) (wc := 1269) [] rfl rfl (by decide +kernel)
        · exact pg_ct1 (r := ("java/lang/UnsupportedOperationException", pgF_18, 0)) (y := (0, 8, 17, 29)) (post := []) (nm := "java/lang/UnsupportedOperationException") (wl := 1262) (wc := 1327) [((0, 8, 11, 25), "java/lang/IllegalStateException", 1260), ((0, 8, 14, 27), "java/lang/ArithmeticException", 1261)] rfl rfl (by decide +kernel)
      · have hm := pg_look2 hl
        simp only [List.mem_cons, Prod.mk.injEq, List.not_mem_nil, or_false] at hm
        rcases hm with ⟨⟨rfl, rfl⟩, rfl⟩ | ⟨⟨rfl, rfl⟩, rfl⟩ | ⟨⟨rfl, rfl⟩, rfl⟩
        · exact pg_ct1 (r := ("java/lang/IllegalArgumentException", pgF_15, 0)) (y := (0, 12, 15, 19)) (post := [(0, 12, 19, 25), (0, 12, 23, 13)]) (nm := "java/lang/IllegalArgumentException") (wl := 898) (wc := 930) [] rfl rfl (by decide +kernel)
        · exact pg_ct1 (r := ("java/lang/IllegalStateException", pgF_16, 0)) (y := (0, 12, 19, 25)) (post := [(0, 12, 23, 13)]) (nm := "java/lang/IllegalStateException") (wl := 1260) (wc := 1269) [((0, 12, 15, 19), "java/lang/IllegalArgumentException", 898)] rfl rfl (by decide +kernel)
        · exact pg_ct1 (r := ("java/lang/IndexOutOfBoundsException", pgF_17, 0)) (y := (0, 12, 23, 13)) (post := []) (nm := "java/lang/IndexOutOfBoundsException") (wl := 821) (wc := 828) [((0, 12, 15, 19), "java/lang/IllegalArgumentException", 898), ((0, 12, 19, 25), "java/lang/IllegalStateException", 1260)] rfl rfl (by decide +kernel)
      · have hm := pg_look2 hl
        simp only [List.mem_cons, Prod.mk.injEq, List.not_mem_nil, or_false] at hm
        rcases hm with ⟨⟨rfl, rfl⟩, rfl⟩ | ⟨⟨rfl, rfl⟩, rfl⟩
        · exact pg_ct1 (r := ("java/lang/IllegalStateException", pgF_16, 0)) (y := (0, 12, 15, 25)) (post := [(0, 12, 19, 13)]) (nm := "java/lang/IllegalStateException") (wl := 1260) (wc := 1269) [] rfl rfl (by decide +kernel)
        · exact pg_ct1 (r := ("java/lang/IndexOutOfBoundsException", pgF_17, 0)) (y := (0, 12, 19, 13)) (post := []) (nm := "java/lang/IndexOutOfBoundsException") (wl := 821) (wc := 828) [((0, 12, 15, 25), "java/lang/IllegalStateException", 1260)] rfl rfl (by decide +kernel)
      · have hm := pg_look2 hl
        simp only [List.mem_cons, Prod.mk.injEq, List.not_mem_nil, or_false] at hm
        obtain ⟨⟨rfl, rfl⟩, rfl⟩ := hm
        · exact pg_ct1 (r := ("java/lang/IllegalStateException", pgF_16, 0)) (y := (0, 9, 12, 25)) (post := []) (nm := "java/lang/IllegalStateException") (wl := 1260) (wc := 1269) [] rfl rfl (by decide +kernel)
      · have hm := pg_look2 hl
        simp only [List.mem_cons, Prod.mk.injEq, List.not_mem_nil, or_false] at hm
        rcases hm with ⟨⟨rfl, rfl⟩, rfl⟩ | ⟨⟨rfl, rfl⟩, rfl⟩
        · exact pg_ct1 (r := ("java/lang/IllegalStateException", pgF_16, 0)) (y := (0, 17, 20, 25)) (post := [(0, 17, 24, 13)]) (nm := "java/lang/IllegalStateException") (wl := 1260) (wc := 1269) [] rfl rfl (by decide +kernel)
        · exact pg_ct1 (r := ("java/lang/IndexOutOfBoundsException", pgF_17, 0)) (y := (0, 17, 24, 13)) (post := []) (nm := "java/lang/IndexOutOfBoundsException") (wl := 821) (wc := 828) [((0, 17, 20, 25), "java/lang/IllegalStateException", 1260)] rfl rfl (by decide +kernel)
      · have hm := pg_look2 hl
        simp only [List.mem_cons, Prod.mk.injEq, List.not_mem_nil, or_false] at hm
        rcases hm with ⟨⟨rfl, rfl⟩, rfl⟩ | ⟨⟨rfl, rfl⟩, rfl⟩ | ⟨⟨rfl, rfl⟩, rfl⟩
        · exact pg_ct1 (r := ("java/lang/IllegalArgumentException", pgF_15, 0)) (y := (0, 19, 22, 19)) (post := [(0, 19, 26, 25), (0, 19, 30, 13)]) (nm := "java/lang/IllegalArgumentException") (wl := 898) (wc := 930) [] rfl rfl (by decide +kernel)
        · exact pg_ct1 (r := ("java/lang/IllegalStateException", pgF_16, 0)) (y := (0, 19, 26, 25)) (post := [(0, 19, 30, 13)]) (nm := "java/lang/IllegalStateException") (wl := 1260) (wc := 1269) [((0, 19, 22, 19), "java/lang/IllegalArgumentException", 898)] rfl rfl (by decide +kernel)
        · exact pg_ct1 (r := ("java/lang/IndexOutOfBoundsException", pgF_17, 0)) (y := (0, 19, 30, 13)) (post := []) (nm := "java/lang/IndexOutOfBoundsException") (wl := 821) (wc := 828) [((0, 19, 22, 19), "java/lang/IllegalArgumentException", 898), ((0, 19, 26, 25), "java/lang/IllegalStateException", 1260)] rfl rfl (by decide +kernel)
      · have hm := pg_look2 hl
        simp only [List.mem_cons, Prod.mk.injEq, List.not_mem_nil, or_false] at hm
        rcases hm with ⟨⟨rfl, rfl⟩, rfl⟩ | ⟨⟨rfl, rfl⟩, rfl⟩ | ⟨⟨rfl, rfl⟩, rfl⟩
        · exact pg_ct1 (r := ("java/lang/IllegalArgumentException", pgF_15, 0)) (y := (0, 8, 11, 19)) (post := [(0, 8, 15, 25), (0, 8, 19, 13)]) (nm := "java/lang/IllegalArgumentException") (wl := 898) (wc := 930) [] rfl rfl (by decide +kernel)
        · exact pg_ct1 (r := ("java/lang/IllegalStateException", pgF_16, 0)) (y := (0, 8, 15, 25)) (post := [(0, 8, 19, 13)]) (nm := "java/lang/IllegalStateException") (wl := 1260) (wc := 1269) [((0, 8, 11, 19), "java/lang/IllegalArgumentException", 898)] rfl rfl (by decide +kernel)
        · exact pg_ct1 (r := ("java/lang/IndexOutOfBoundsException", pgF_17, 0)) (y := (0, 8, 19, 13)) (post := []) (nm := "java/lang/IndexOutOfBoundsException") (wl := 821) (wc := 828) [((0, 8, 11, 19), "java/lang/IllegalArgumentException", 898), ((0, 8, 15, 25), "java/lang/IllegalStateException", 1260)] rfl rfl (by decide +kernel)
      · have hm := pg_look2 hl
        simp only [List.mem_cons, Prod.mk.injEq, List.not_mem_nil, or_false] at hm
        rcases hm with ⟨⟨rfl, rfl⟩, rfl⟩ | ⟨⟨rfl, rfl⟩, rfl⟩ | ⟨⟨rfl, rfl⟩, rfl⟩
        · exact pg_ct1 (r := ("java/lang/IllegalStateException", pgF_16, 0)) (y := (0, 5, 8, 25)) (post := [(0, 5, 11, 13), (0, 5, 14, 29)]) (nm := "java/lang/IllegalStateException") (wl := 1260) (wc := 1269) [] rfl rfl (by decide +kernel)
        · exact pg_ct1 (r := ("java/lang/IndexOutOfBoundsException", pgF_17, 0)) (y := (0, 5, 11, 13)) (post := [(0, 5, 14, 29)]) (nm := "java/lang/IndexOutOfBoundsException") (wl := 821) (wc := 828) [((0, 5, 8, 25), "java/lang/IllegalStateException", 1260)] rfl rfl (by decide +kernel)
        · exact pg_ct1 (r := ("java/lang/UnsupportedOperationException", pgF_18, 0)) (y := (0, 5, 14, 29)) (post := []) (nm := "java/lang/UnsupportedOperationException") (wl := 1262) (wc := 1327) [((0, 5, 8, 25), "java/lang/IllegalStateException", 1260), ((0, 5, 11, 13), "java/lang/IndexOutOfBoundsException", 821)] rfl rfl (by decide +kernel)
      · have hm := pg_look2 hl
        simp only [List.mem_cons, Prod.mk.injEq, List.not_mem_nil, or_false] at hm
        obtain ⟨⟨rfl, rfl⟩, rfl⟩ := hm
        · exact pg_ct1 (r := ("java/lang/IllegalStateException", pgF_16, 0)) (y := (0, 16, 19, 25)) (post := []) (nm := "java/lang/IllegalStateException") (wl := 1260) (wc := 1269) [] rfl rfl (by decide +kernel)
      · have hm := pg_look2 hl
        simp only [List.mem_cons, Prod.mk.injEq, List.not_mem_nil, or_false] at hm
        obtain ⟨⟨rfl, rfl⟩, rfl⟩ := hm
        · exact pg_ct1 (r := ("java/lang/IndexOutOfBoundsException", pgF_17, 0)) (y := (0, 10, 13, 13)) (post := []) (nm := "java/lang/IndexOutOfBoundsException") (wl := 821) (wc := 828) [] rfl rfl (by decide +kernel)
      · have hm := pg_look2 hl
        simp only [List.mem_cons, Prod.mk.injEq, List.not_mem_nil, or_false] at hm
        obtain ⟨⟨rfl, rfl⟩, rfl⟩ := hm
        · exact pg_ct1 (r := ("java/lang/IllegalArgumentException", pgF_15, 0)) (y := (0, 9, 12, 19)) (post := []) (nm := "java/lang/IllegalArgumentException") (wl := 898) (wc := 930) [] rfl rfl (by decide +kernel)
      · cases hl
end
section
/-! the world at the law's entry -/
def pg_gv : List Jvm.Cond := flatC (Jvm.Cond.and given_1 narrow_1)
def pg_ghas (i : Nat) (w : Jvm.Cond) : Bool := decide (pg_gv[i]? = some w)
theorem pg_ghas_in {i : Nat} {w : Jvm.Cond} (h : pg_ghas i w = true) : w ∈ pg_gv := List.mem_of_getElem? (of_decide_eq_true h)
def pg_thas (i : Nat) (w : Jvm.Cond) : Bool := decide (lw_tbl[i]? = some w)
theorem pg_thas_in {i : Nat} {w : Jvm.Cond} (h : pg_thas i w = true) : w ∈ lw_tbl := List.mem_of_getElem? (of_decide_eq_true h)
/-- a String constant: class, index, number, text, the places of its words -/
abbrev pg_Q : Type := String × Nat × Nat × String × Nat × Nat
def pg_st : List pg_Q := [("MarkovDesk$Tokens", 74, 1, "mdp const int bool module endmodule init target true false min max mod ", 976, 121), ("MarkovDesk$Tokens", 95, 2, "->..=>!=<=>=", 1045, 196), ("MarkovDesk$Tokens", 97, 3, "=<>+-*/!&|?:;,'()[]", 1046, 212), ("MarkovDeskModel", 9, 4, "mdp", 1671, 235), ("MarkovDeskModel", 11, 5, "const", 1672, 242), ("MarkovDeskModel", 13, 6, "int", 1673, 251), ("MarkovDeskModel", 15, 7, "bool", 1674, 258), ("MarkovDeskModel", 17, 8, "module", 1675, 266), ("MarkovDeskModel", 19, 9, "endmodule", 1676, 276), ("MarkovDeskModel", 21, 10, "init", 1677, 289), ("MarkovDeskModel", 23, 11, "target", 1678, 297), ("MarkovDeskModel", 25, 12, "true", 1679, 307), ("MarkovDeskModel", 27, 13, "false", 1680, 315), ("MarkovDeskModel", 29, 14, "min", 1681, 324), ("MarkovDeskModel", 31, 15, "max", 1682, 331), ("MarkovDeskModel", 33, 16, "mod", 1683, 338), ("MarkovDeskModel", 41, 17, "->", 1684, 345), ("MarkovDeskModel", 43, 18, "..", 1685, 351), ("MarkovDeskModel", 45, 19, "=>", 1686, 357), ("MarkovDeskModel", 47, 20, "!=", 1687, 363), ("MarkovDeskModel", 49, 21, "<=", 1688, 369), ("MarkovDeskModel", 51, 22, ">=", 1689, 375), ("MarkovDeskModel", 53, 23, "=", 1690, 381), ("MarkovDeskModel", 55, 24, "<", 1691, 386), ("MarkovDeskModel", 57, 25, ">", 1692, 391), ("MarkovDeskModel", 59, 26, "+", 1693, 396), ("MarkovDeskModel", 61, 27, "-", 1694, 401), ("MarkovDeskModel", 63, 28, "*", 1695, 406), ("MarkovDeskModel", 65, 29, "/", 1696, 411), ("MarkovDeskModel", 67, 30, "!", 1697, 416), ("MarkovDeskModel", 69, 31, "&", 1698, 421), ("MarkovDeskModel", 71, 32, "|", 1699, 426), ("MarkovDeskModel", 73, 33, "?", 1700, 431), ("MarkovDeskModel", 75, 34, ":", 1701, 436), ("MarkovDeskModel", 77, 35, ";", 1702, 441), ("MarkovDeskModel", 79, 36, ",", 1703, 446), ("MarkovDeskModel", 81, 37, "'", 1704, 451), ("MarkovDeskModel", 83, 38, "(", 1705, 456), ("MarkovDeskModel", 85, 39, ")", 1706, 461), ("MarkovDeskModel", 87, 40, "[", 1707, 466), ("MarkovDeskModel", 89, 41, "]", 1708, 471)]
def pg_sr : List (String × Nat × Nat) := pg_st.map (fun q => (q.1, q.2.1, q.2.2.1))
def pg_sok (q : pg_Q) : Bool := pg_thas q.2.2.2.2.1 (.stringRef q.1 q.2.1 q.2.2.2.1) && pg_ghas q.2.2.2.2.2 (.exactly (.string q.1 q.2.1) "java/lang/String")
theorem pg_sts : pg_st.all pg_sok = true := by decide +kernel
theorem pg_sti : pg_st.all (fun q => decide (pg_st[q.2.2.1 - 1]? = some q) && decide (1 ≤ q.2.2.1) && decide (q.2.2.1 ≤ 41)) = true := by decide +kernel
theorem pg_stn : pg_st.length = 41 := by decide +kernel
theorem pg_exs {s : State} {b : Nat} (hts : ∀ w ∈ lw_tbl, w.before #[Value.ref b] s = true) (hgv : ∀ w ∈ pg_gv, w.before #[Value.ref b] s = true) (j : Nat) :
    ∃ a : Nat, (j = 0 → a = b) ∧ (1 ≤ j → j ≤ 41 → va_O "java/lang/String" a (fun q => s.heap.size ≤ q) s s.heap) ∧ ∀ q ∈ pg_st, q.2.2.1 = j → ∃ tx, vk_R q.1 q.2.1 tx a s := by
  have key : ∀ q ∈ pg_st, pg_st[q.2.2.1 - 1]? = some q ∧ 1 ≤ q.2.2.1 ∧ q.2.2.1 ≤ 41 := fun q hq => by
    have := List.all_eq_true.mp pg_sti q hq
    simp only [Bool.and_eq_true, decide_eq_true_eq] at this
    exact ⟨this.1.1, this.1.2, this.2⟩
  by_cases hj : 1 ≤ j ∧ j ≤ 41
  · have hlt : j - 1 < pg_st.length := by rw [pg_stn]; omega
    have hq : pg_st[j - 1]? = some pg_st[j - 1] := List.getElem?_eq_getElem hlt
    generalize pg_st[j - 1] = q at hq
    have hm : q ∈ pg_st := List.mem_of_getElem? hq
    have hs := List.all_eq_true.mp pg_sts q hm
    unfold pg_sok at hs
    rw [Bool.and_eq_true] at hs
    have h1 := hts _ (pg_thas_in hs.1)
    obtain ⟨a, c, cell, k, e1, e2, e3, e4, e5, e6, -⟩ := Cond.exactly_spec (hgv _ (pg_ghas_in hs.2))
    refine ⟨a, fun h => by omega, fun _ _ => ⟨cell, e3, e5, by rw [e6]; exact e2, ?_⟩, fun q' hq' he => ⟨q.2.2.2.1, ?_⟩⟩
    · have : a < s.heap.size := (Array.getElem?_eq_some_iff.mp e3).1
      exact Nat.not_le_of_lt this
    · have := (key q' hq').1
      rw [he, hq] at this
      cases this
      exact vk_R.of h1 e1
  · refine ⟨b, fun _ => rfl, fun h1 h2 => absurd ⟨h1, h2⟩ hj, fun q hq he => ?_⟩
    have := (key q hq).2
    rw [he] at this
    exact absurd this hj
theorem pg_arrP {s : State} {ty : FieldType} (hty : ty = .int ∨ ty = .long ∨ ty = .boolean) {a : Array Value} (h : (Jvm.Cond.arrayClass ty).before a s = true) : ∃ cA : ClassId, ArrOfT s cA ty ∧ va_RA s cA ty := by
  obtain ⟨c, k, comp, h1, h2, h3⟩ := Cond.arrayClass_spec h
  refine ⟨c, fun n z => ⟨fun k hk => (by cases hk), k, h2, comp, h3⟩, ?_⟩
  rcases hty with rfl | rfl | rfl <;> exact h1
theorem pg_arrO {s : State} {C : String} {a : Array Value} (h : (Jvm.Cond.arrayOver (.object C)).before a s = true) : ∃ cA : ClassId, ArrOfT s cA (.object C) ∧ va_RA s cA (.object C) := by
  obtain ⟨comp, c, k, h1, h2, h3, h4, h5⟩ := Cond.arrayOver_spec h
  exact ⟨c, fun n z => ⟨fun k hk => (by cases hk), k, h3, comp, h4⟩, k, comp, h3, h4, h1, h5⟩
def pg_AO : List String := ["MarkovDesk$Nat", "MarkovDeskModel$Whole", "java/lang/String"]
def pg_ik (i : Nat) : Bool := match pg_cl[i]? with
  | some r => pg_has (pg_wc i).2.1 (.instantiable r.1 (if r.2.2 = 0 then 6 else r.2.2))
  | none => true
theorem pg_iks : (List.range 19).all pg_ik = true := by decide +kernel
theorem pg_cll : pg_cl.length = 19 := by decide +kernel
theorem pg_cls {s : State} {a : Array Value} (hts : ∀ w ∈ pg_Ts, w.before a s = true) (c : Nat) : ∃ x : ClassId × (Nat → Nat), ∀ q, pg_cl[c]? = some q → u_Kn s q.1 q.2.1 q.2.2 x.1 x.2 := by
  cases hc : pg_cl[c]? with
  | none => exact ⟨(0, fun _ => 0), fun q hq => by cases hq⟩
  | some r =>
    have hlt : c < 19 := by rw [← pg_cll]; exact (List.getElem?_eq_some_iff.mp hc).1
    have hi := List.all_eq_true.mp pg_iks c (List.mem_range.mpr hlt)
    unfold pg_ik at hi
    rw [hc] at hi
    obtain ⟨cC, iS, h⟩ := u_known hts (pg_clOK c r hc).1 (hts _ (pg_has_in hi))
    exact ⟨(cC, iS), fun q hq => by cases hq; exact h⟩
def pg_ncp : List (Nat × String × String) := [(27, "java/lang/ArithmeticException", "java/lang/IndexOutOfBoundsException"), (45, "java/lang/ArithmeticException", "java/lang/IllegalArgumentException"), (63, "java/lang/ArithmeticException", "java/lang/IllegalStateException"), (100, "java/lang/ArithmeticException", "java/lang/UnsupportedOperationException"), (79, "java/lang/IndexOutOfBoundsException", "java/lang/ArithmeticException"), (43, "java/lang/IndexOutOfBoundsException", "java/lang/IllegalArgumentException"), (61, "java/lang/IndexOutOfBoundsException", "java/lang/IllegalStateException"), (97, "java/lang/IndexOutOfBoundsException", "java/lang/UnsupportedOperationException"), (80, "java/lang/IllegalArgumentException", "java/lang/ArithmeticException"), (25, "java/lang/IllegalArgumentException", "java/lang/IndexOutOfBoundsException"), (62, "java/lang/IllegalArgumentException", "java/lang/IllegalStateException"), (98, "java/lang/IllegalArgumentException", "java/lang/UnsupportedOperationException"), (81, "java/lang/IllegalStateException", "java/lang/ArithmeticException"), (26, "java/lang/IllegalStateException", "java/lang/IndexOutOfBoundsException"), (44, "java/lang/IllegalStateException", "java/lang/IllegalArgumentException"), (99, "java/lang/IllegalStateException", "java/lang/UnsupportedOperationException"), (82, "java/lang/UnsupportedOperationException", "java/lang/ArithmeticException"), (28, "java/lang/UnsupportedOperationException", "java/lang/IndexOutOfBoundsException"), (46, "java/lang/UnsupportedOperationException", "java/lang/IllegalArgumentException"), (64, "java/lang/UnsupportedOperationException", "java/lang/IllegalStateException")]
theorem pg_ncpo : pg_ncp.all (fun q => pg_ghas q.1 (.not (.castable q.2.1 q.2.2))) = true := by decide +kernel
theorem pg_ncs_in : pg_ncs.all (fun p => pg_ncp.any (fun q => decide (q.2 = p))) = true := by decide +kernel
set_option maxHeartbeats 4000000 in
theorem pg_start {s : State} {b L : Nat} {xs : Nat → Int32} (hts : ∀ w ∈ lw_tbl, w.before #[Value.ref b] s = true) (hgv : (Jvm.Cond.and given_1 narrow_1).before #[Value.ref b] s = true) (hX : va_X b L xs s s.heap) :
    ∃ (D : va_G) (tys : List (ClassId × FieldType)) (ex : Nat → Nat), ex 0 = b ∧ (∀ k ty, pg_aT[k]? = some ty → tys[k]? = some (mm_aC tys k, ty)) ∧ pg_E D pg_cl tys s.heap.size ex (L, xs) pg_AO pg_sr 41 pg_nc s := by
  have hg : ∀ w ∈ pg_gv, w.before #[Value.ref b] s = true := flat_of_before _ hgv
  have hT : ∀ w ∈ pg_Ts, w.before #[Value.ref b] s = true := fun w hw => hts w (List.mem_filter.mp hw).1
  obtain ⟨gD, hD⟩ := Classical.axiomOfChoice (pg_cls hT)
  obtain ⟨ex, hex⟩ := Classical.axiomOfChoice (pg_exs hts hg)
  have a0 := hts (.arrayClass .int) (pg_thas_in (i := 240) (by decide +kernel))
  have a1 := hts (.arrayClass .long) (pg_thas_in (i := 389) (by decide +kernel))
  have a2 := hts (.arrayClass .boolean) (pg_thas_in (i := 549) (by decide +kernel))
  have a3 := hts (.arrayOver (.object "MarkovDesk$Nat")) (pg_thas_in (i := 563) (by decide +kernel))
  have a4 := hts (.arrayOver (.object "MarkovDeskModel$Whole")) (pg_thas_in (i := 1724) (by decide +kernel))
  have a5 := hts (.arrayOver (.object "java/lang/String")) (pg_thas_in (i := 1670) (by decide +kernel))
  have z1 := hg _ (pg_ghas_in (i := 4) (w := .isRef (.static Bundle.tN "UNASSIGNED_STACK" Bundle.steD)) (by decide +kernel))
  have z2 := hg _ (pg_ghas_in (i := 5) (w := .isRef (.static Bundle.tN "SUPPRESSED_SENTINEL" Bundle.listD)) (by decide +kernel))
  have z3 := hts _ (pg_thas_in (i := 853) (w := .laysStatic Bundle.tN "UNASSIGNED_STACK" Bundle.steD) (by decide +kernel))
  have z4 := hts _ (pg_thas_in (i := 855) (w := .laysStatic Bundle.tN "SUPPRESSED_SENTINEL" Bundle.listD) (by decide +kernel))
  have z5 := hts _ (pg_thas_in (i := 192) (w := .initialized Bundle.tN) (by decide +kernel))
  obtain ⟨c0, p0⟩ := pg_arrP (Or.inl rfl) a0
  obtain ⟨c1, p1⟩ := pg_arrP (Or.inr (Or.inl rfl)) a1
  obtain ⟨c2, p2⟩ := pg_arrP (Or.inr (Or.inr rfl)) a2
  obtain ⟨c3, p3⟩ := pg_arrO a3
  obtain ⟨c4, p4⟩ := pg_arrO a4
  obtain ⟨c5, p5⟩ := pg_arrO a5
  have hA : ∀ a : Nat, a < s.heap.size → ¬ (fun q => s.heap.size ≤ q) a := fun a h => Nat.not_le_of_lt h
  refine ⟨(fun c => (gD c).1, fun c => (gD c).2), [(c0, .int), (c1, .long), (c2, .boolean), (c3, .object "MarkovDesk$Nat"), (c4, .object "MarkovDeskModel$Whole"), (c5, .object "java/lang/String")], ex, (hex 0).1 rfl, ?_, ?_⟩
  · intro k ty hk
    match k, hk with
    | 0, hk => cases hk; rfl
    | 1, hk => cases hk; rfl
    | 2, hk => cases hk; rfl
    | 3, hk => cases hk; rfl
    | 4, hk => cases hk; rfl
    | 5, hk => cases hk; rfl
    | k + 6, hk => cases hk
  · refine ⟨fun w hw => va_Nw.of (pg_ts_gd hw).1 (hT w hw), ⟨fun c q hq => hD c q hq, ?_⟩, ?_, ?_, ?_, ?_, ⟨fun j h1 h2 => (hex j).2.1 h1 h2, fun cC _ => Vm.assignable_self _ _⟩, ⟨va_Zqof z3 z5 z1 hA, va_Zqof z4 z5 z2 hA, pg_ls.of z3, pg_ls.of z4⟩, ?_⟩
    · intro k q hk
      match k, hk with
      | 0, hk => cases hk; exact p0
      | 1, hk => cases hk; exact p1
      | 2, hk => cases hk; exact p2
      | 3, hk => cases hk; exact p3
      | 4, hk => cases hk; exact p4
      | 5, hk => cases hk; exact p5
      | k + 6, hk => cases hk
    · intro ty ht
      rcases ht with rfl | rfl | rfl
      · exact a0
      · exact a1
      · exact a2
    · intro C hC
      simp only [pg_AO, List.mem_cons, List.not_mem_nil, or_false] at hC
      rcases hC with rfl | rfl | rfl
      · exact va_AO.of a3
      · exact va_AO.of a4
      · exact va_AO.of a5
    · show va_X (ex 0) L xs s s.heap
      rw [(hex 0).1 rfl]
      exact hX
    · intro q hq
      obtain ⟨q, hm, rfl⟩ := List.mem_map.mp hq
      exact (hex _).2.2 q hm rfl
    · intro x y hn
      have h1 := List.all_eq_true.mp pg_ncs_in _ hn
      obtain ⟨q, hq, he⟩ := List.any_eq_true.mp h1
      have he := of_decide_eq_true he
      have h2 := hg _ (pg_ghas_in (List.all_eq_true.mp pg_ncpo q hq))
      rw [he] at h2
      exact va_Nc.of h2
end
section
/-! the law out of the small machine -/
def pg_sq (g : Nat) : Bool := (pg_plr (pg_pc g)).all (fun q => match q.2.1 with
  | .inr (.inr (.inr (.inr (.inr k)))) => decide ((pg_own g, q.1, k) ∈ pg_sr)
  | _ => true)
theorem pg_sqs : (List.range 98).all pg_sq = true := by decide +kernel
theorem pg_sqa (g : Nat) : pg_sq g = true := by
  by_cases h : g < 98
  · exact List.all_eq_true.mp pg_sqs g (List.mem_range.mpr h)
  · obtain ⟨k, rfl⟩ : ∃ k, g = k + 97 := ⟨g - 97, by omega⟩
    have e1 : pg_pc (k + 97) = pg_pc 97 := rfl
    have e2 : pg_own (k + 97) = pg_own 97 := rfl
    have h := List.all_eq_true.mp pg_sqs 97 (List.mem_range.mpr (by decide))
    unfold pg_sq at h ⊢
    rw [e1, e2]
    exact h
section PL28
variable {D : va_G} {tys : List (ClassId × FieldType)} {B : Nat} {ex : Nat → Nat} {scr : Nat × (Nat → Int32)}
theorem pg_EF : mm_EF pg_Ts pg_cl pg_aT pg_TT pg_G D tys B ex pg_own scr (pg_E D pg_cl tys B ex scr pg_AO pg_sr 41 pg_nc) := by
  intro U h
  obtain ⟨h1, h2, h3, h4, h5, h6, ⟨h7, h8⟩, h9, h10⟩ := h
  refine ⟨h2, fun k hk ty ht => ?_, fun ty ht a => h3 ty ht, h5, fun C hC j j1 j2 => ?_, fun g x k hp => ?_⟩
  · match k, hk, ht with
    | 0, hk, _ => omega
    | 1, hk, _ => omega
    | 2, hk, _ => omega
    | 3, _, ht => cases ht; exact ⟨_, rfl, fun a => va_AO.use (h4 _ (by simp [pg_AO])), fun r hr => by cases hr; rfl⟩
    | 4, _, ht => cases ht; exact ⟨_, rfl, fun a => va_AO.use (h4 _ (by simp [pg_AO])), fun r hr => by cases hr; rfl⟩
    | 5, _, ht => cases ht; exact ⟨_, rfl, fun a => va_AO.use (h4 _ (by simp [pg_AO])), fun r hr => by cases hr⟩
    | k + 6, _, ht => cases ht
  · cases hC
    exact ⟨h7 j j1 j2, h8⟩
  · replace hp : pg_pool (pg_plr (pg_pc g)) x = some _ := hp
    obtain ⟨w, hw⟩ := pg_pool_in hp
    have hq := List.all_eq_true.mp (pg_sqa g) _ hw
    exact h6 (pg_own g, x, k) (of_decide_eq_true hq)
theorem pg_tx (g : Nat) (h : ∃ pc ec, mm_thr pg_G g pc = some ec) : pg_hh g = [] := by
  obtain ⟨pc, ec, h⟩ := h
  replace h : (pg_thr g).lookup pc = some ec := h
  unfold pg_thr at h
  split at h
  all_goals first | rfl | (cases h)
theorem pg_thct {l : Launch} (hoff : ∀ e, l.admits e → e.platform.stackTraces = false) (d g : Nat) (p : Program) (e : Env) (s : State) (m : MethodId) (args : Array Value) (below : List Frame) (meth : Method) (c : Code) (S0 : mm_S) (hE : pg_E D pg_cl tys B ex scr pg_AO pg_sr 41 pg_nc s)
    (F : mm_Fix p (mm_rm pg_TT (d + 1) S0) s m args meth c D pg_cl tys B ex S0 (mm_nl pg_G g) (pg_cc g) pg_Ts pg_aT pg_TT (pg_own g) (mm_oc pg_G g) (mm_pool pg_G g) (mm_ini pg_G g) scr) (htab : c.exceptionTable.toList.map (fun h => (h.startPc, h.endPc, h.handlerPc, h.catchType)) = pg_hh g) :
    mm_Thr p l e (mm_rm pg_TT (d + 1) S0) s m args below meth c pg_G pg_TT D pg_cl tys (mm_phi B ex) B S0 g ∧ mm_Cat p l e (mm_rm pg_TT (d + 1) S0) s m args below meth c pg_G D pg_cl g := by
  refine ⟨mm_thr_sound F (pg_th g) (hoff e) (pg_zw hE) (fun hq => ?_), mm_cat_sound F (pg_ct g) hE.2.2.2.2.2.2.2.2 htab (fun ha => by rw [ha.platform])⟩
  rw [pg_tx g hq] at htab
  exact List.map_eq_nil_iff.mp htab
theorem pg_sound {l : Launch} (hoff : ∀ e, l.admits e → e.platform.stackTraces = false) (haT : ∀ k ty, pg_aT[k]? = some ty → tys[k]? = some (mm_aC tys k, ty)) (hX0 : ex 0 < B) :
    ∀ (d g : Nat) (as : List Value) (S : mm_S) (Q : mm_O → mm_S → Prop), mm_ex pg_G pg_TT scr d g as S Q → mm_Con l pg_yn pg_cc pg_hh pg_G pg_TT D pg_cl tys (mm_phi B ex) B (pg_E D pg_cl tys B ex scr pg_AO pg_sr 41 pg_nc) d g as S Q :=
  mm_sound (pg_EE hX0) pg_EF pg_clOK haT ⟨rfl, rfl, rfl, rfl, rfl⟩ (by decide) hX0 pg_MOK (fun d g en hen p e s m args below meth c S0 hE F htab => pg_thct hoff d g p e s m args below meth c S0 hE F htab)
end PL28
theorem pg_less {R R' : Room} (h1 : R'.frames ≤ R.frames) (h2 : R'.cells ≤ R.cells) (h3 : R'.slots ≤ R.slots) (h4 : R'.locals ≤ R.locals) {s : State} {pl : Platform} (h : s.hasRoom pl R = true) : s.hasRoom pl R' = true := by
  unfold State.hasRoom at h ⊢
  simp only [Bool.and_eq_true, decide_eq_true_eq] at h ⊢
  obtain ⟨⟨⟨⟨a1, a2, a3, a4, a5, a6⟩, a7⟩, a8⟩, a9⟩ := h
  exact ⟨⟨⟨⟨by omega, by omega, by omega, by omega, by omega, a6⟩, by omega⟩, by omega⟩, a9⟩
theorem pg_fr {s t : State} {L : List Loc} {k n k' n' : Nat} (h : s.sameButNew t L k n) (hL : ∀ q ∈ L, s.heap.size ≤ q.base) (hk : k ≤ k') (hn : n ≤ n') : s.sameButNew t [] k' n' := by
  obtain ⟨h1, h2, h3, h4, h5, h6⟩ := h
  refine ⟨h1, h2, Nat.le_trans h3 (by omega), h4, Nat.le_trans h5 hn, fun a c hc => ?_⟩
  obtain ⟨c', q1, q2, q3, q4⟩ := h6 a c hc
  refine ⟨c', q1, q2, q3, fun i _ => q4 i (fun hm => ?_)⟩
  have hb := hL _ hm
  have hlt : a < s.heap.size := (Array.getElem?_eq_some_iff.mp hc).1
  exact absurd hb (Nat.not_le_of_lt hlt)
def pg_S0 : mm_S := (0, 0, fun _ => .inr (0, []))
set_option maxHeartbeats 4000000 in
/-- the law's walk out of a run of the small machine -/
theorem pg_law {p : Program} {e : Env} {s : State} {m : MethodId} {below : List Frame} {meth : Method} {c : Code} (l : Launch) (hoff : ∀ e, l.admits e → e.platform.stackTraces = false) {b L : Nat} {xs : Nat → Int32}
    (hx : p.tables.exec = Jvm.exec) (hb : c.code = code) (hr : meth.sig.returnType = ret) (hml : c.maxLocals = 7) (hown : s.vm.findClass "MarkovDeskLaw" = some m.cls) (hts : ∀ w ∈ lw_tbl, w.before #[Value.ref b] s = true) (hX : va_X b L xs s s.heap) (hbl : b < s.heap.size) (hlk : meth.locks = false) (hgv : (Jvm.Cond.and given_1 narrow_1).before #[Value.ref b] s = true)
    (htab : c.exceptionTable.toList = [])
    (hrun : mm_ex pg_G pg_TT (L, xs) 1001 97 [.ref mm_big] pg_S0 (fun o S => o = .inl (some (.int 1)) ∧ S.1 ≤ 601024 ∧ S.2.1 ≤ 7293034)) :
    W p l e room_1 s m #[Value.ref b] below meth c s.heap [] 0 0 (fun t => ∃ o, t.status = .running ∧ Ended t below o ∧ o = .returned (some (.int 1)) ∧ Framed s o t [] 601024 7293034) (entryFrame m ([Value.ref b] : List Value).toArray 7) := by
  obtain ⟨D, tys, ex, h0, haT, hE⟩ := pg_start hts hgv hX
  have hX0 : ex 0 < s.heap.size := by rw [h0]; exact hbl
  obtain ⟨hlen, n, hw⟩ := hrun
  have hphi : mm_phi s.heap.size ex mm_big = b := by
    unfold mm_phi
    rw [if_neg (Nat.lt_irrefl _), Nat.sub_self]
    exact h0
  have hargs : (([.ref mm_big] : List Value).map (mm_tv (mm_phi s.heap.size ex))) = [Value.ref b] := by
    show [Value.ref (mm_phi s.heap.size ex mm_big)] = _
    rw [hphi]
  obtain ⟨f1, f2, f3, f4, f6, f5⟩ := pg_EF s hE
  obtain ⟨o1, o2, o3, o4, o5, o6⟩ := pg_MOK 97 _ rfl
  have hT : ∀ w ∈ pg_Ts, w.before #[Value.ref b] s = true := fun w hw => hts w (List.mem_filter.mp hw).1
  have F : mm_Fix p (mm_rm pg_TT (1000 + 1) pg_S0) s m #[Value.ref b] meth c D pg_cl tys s.heap.size ex pg_S0 (mm_nl pg_G 97) (pg_cc 97) pg_Ts pg_aT pg_TT (pg_own 97) (mm_oc pg_G 97) (mm_pool pg_G 97) (mm_ini pg_G 97) (L, xs) :=
    ⟨⟨hx, hb, hml, hown, hlk, fun hi => by cases hi⟩, ⟨hT, f1, pg_clOK, o2⟩, ⟨haT, ⟨rfl, rfl, rfl, rfl, rfl⟩, fun k hk ty ht => by obtain ⟨C, h1, h2, h3⟩ := f2 k hk ty ht; exact ⟨C, h1, h2 _, h3⟩⟩, fun ty ht => f3 ty ht _, ⟨rfl, rfl, rfl, by decide⟩, f4, hX0, f6⟩
  obtain ⟨t1, t2⟩ := pg_thct (below := below) hoff 1000 97 p e s m #[Value.ref b] meth c pg_S0 hE F (by rw [htab]; rfl)
  have key := mm_wp_sound F (fun x k h => f5 97 x k h) (pg_EE hX0) hE rfl hr o1 o3 (pg_sound hoff haT hX0 1000) t2 t1 n _ hw
  have key2 := key _ s.heap [] (mm_entry_has hlen) hlen (fun k q hq => by cases hq) va_S.rf ⟨Nat.le_refl _, Nat.zero_le _⟩ (Nat.le_refl _)
  intro T hT0 X
  have X' : Stand p l e (mm_rm pg_TT (1000 + 1) pg_S0) s m #[Value.ref b] below meth c T [] 0 0 := { X with room := pg_less (by decide) (by decide) (by decide) (by decide) X.room }
  obtain ⟨t, a1, o, S', hQ, hrn, hend, hW, hPt, hS1, hS2, hlow, Lc, hsame, hL⟩ := key2 T hT0 X'
  obtain ⟨rfl, hk, hn⟩ := hQ
  refine ⟨t, ?_, .returned (some (.int 1)), hrn, hend, rfl, ⟨_, rfl⟩, hW, pg_fr hsame hL (by show S'.1 - 0 ≤ _; omega) (by show S'.2.1 - 0 ≤ _; omega)⟩
  rw [← hargs, lg_entry_eq]
  exact a1
end
section
/-! the claim out of runs of the small machine; the numbers N, cells, slots as the statement has them -/
def lw_N : Nat := 3072
def lw_P (b : Addr) (xs : List Int32) (args : Array Value) (s : State) : Prop := args = #[.ref b] ∧ s.IntsAt b xs ∧ xs.length ≤ lw_N ∧ (Jvm.Cond.and given_1 narrow_1).before args s = true
def lw_Q (_ : Array Value) (s : State) (o : Outcome) (t : State) : Prop := o = .returned (some (.int 1)) ∧ Framed s o t [] 601024 7293034
/-- a run of the small machine for every script of at most lw_N ints -/
def pg_Runs : Prop := ∀ (L : Nat) (xs : Nat → Int32), L ≤ lw_N → mm_ex pg_G pg_TT (L, xs) 1001 97 [.ref mm_big] pg_S0 (fun o S => o = .inl (some (.int 1)) ∧ S.1 ≤ 601024 ∧ S.2.1 ≤ 7293034)
set_option maxHeartbeats 4000000 in
theorem pg_walk (hrun : pg_Runs) (l : Launch) (hoff : ∀ e, l.admits e → e.platform.stackTraces = false) (b : Addr) (xs : List Int32) : MetFree l x (headSpec (Jvm.Cond.code x code maxLocals ret :: tables_1) room_1) (lw_P b xs) (fun _ _ _ _ _ => True) lw_Q := by
  refine MetFree.of_bodyS (code := code) (maxLocals := maxLocals) (ret := ret) (by decide) ?_ ?_
  · intro args s m h hn
    obtain ⟨meth, c, h1, h2, h3, h4, h5, h6, -, -⟩ := Cond.code_spec hn (atoms_spec (ws := Jvm.Cond.code x code maxLocals ret :: tables_1) h _ List.mem_cons_self)
    exact ⟨meth, c, h1, h2, h3, h4, h5, h6⟩
  · intro p e s m args below meth c s₁ B hml0 hP _
    obtain ⟨rfl, hx, hbd, hgv⟩ := hP
    obtain ⟨scr, harrAt, hlist, hof, hsmall⟩ := hx
    obtain ⟨hcb, hkn, -, -⟩ := State.arrayAt?_spec harrAt
    have hown : s.vm.findClass "MarkovDeskLaw" = some m.cls := findClass_of_methodNamed B.named
    have hts0 : ∀ c ∈ (Jvm.Cond.code x code maxLocals ret :: tables_1), c.before #[Value.ref b] s = true := atoms_spec (ws := Jvm.Cond.code x code maxLocals ret :: tables_1) B.pre
    have hts : ∀ w ∈ lw_tbl, w.before #[Value.ref b] s = true := k2_hts_sels lw_privs (fun w hw => hts0 w (List.mem_cons_of_mem _ hw)) lw_privs_ok
    have hml : c.maxLocals = 7 := B.maxLocals_eq (hts0 _ List.mem_cons_self)
    have X₀ : Stand p l e room_1 s m #[Value.ref b] below meth c s₁ [] 0 0 := Stand.of_body B
    have htab : c.exceptionTable.toList = [] := by
      obtain ⟨mt, cM, h1, h2, -, -, -, -, h7, -⟩ := Cond.code_spec B.named (hts0 _ List.mem_cons_self)
      cases B.method.symm.trans h1
      cases X₀.code.symm.trans h2
      simpa [Array.isEmpty_iff] using h7
    have hh0 : s₁.heap = s.heap := by rw [B.state]; rfl
    have hsz : scr.slots.size = xs.length := by rw [← Array.length_toList, hlist, List.length_map]
    have hval : ∀ j : Nat, j < xs.length → scr.slots[j]? = some (.int (xs.getD j 0)) := fun j hj => by
      rw [← Array.getElem?_toList, hlist]
      simp [hj]
    have hbl : b < s.heap.size := (Array.getElem?_eq_some_iff.mp hcb).1
    have hX : va_X b xs.length (fun j => xs.getD j 0) s s.heap := ⟨scr, hcb, hof, hkn, hsz, hval⟩
    have K := pg_law (e := e) (below := below) l hoff B.exec B.bytes B.returns hml hown hts hX hbl B.notSynchronized hgv htab (hrun _ _ hbd)
    obtain ⟨t, a1, o, b1, b2, b3⟩ := K s₁ hh0 X₀
    exact ⟨t, o, a1, b1, b2, b3⟩
theorem lw_pre_spec {args : Array Value} {s : State} (h : (Jvm.Cond.and given_1 narrow_1).before args s = true) (hr : rest_1_c.before args s = true) : ∃ (b : Addr) (xs : List Int32), lw_P b xs args s := by
  have hs := flat_of_before _ h
  have hq := flat_of_before _ hr
  have hc : (Cond.count 1).before args s = true := hs _ (by decide +kernel)
  have harr : (Cond.arrayOf (.arg 0) .int).before args s = true := hs _ (by decide +kernel)
  have hle : (Cond.le (.length (.arg 0)) (.int 3072)).before args s = true := hs _ (by decide +kernel)
  have hlen : (Cond.isInt (.length (.arg 0))).before args s = true := hq _ (by decide +kernel)
  have hall : (Cond.all (.arg 0) (.isInt (.elem (.arg 0) (.index 0)))).before args s = true := hq _ (by decide +kernel)
  obtain ⟨b, xs, hb, hx⟩ := State.ints_of_pre rfl harr hlen hall
  have hsm : xs.length < 2 ^ 31 := hx.choose_spec.2.2.2
  have hev : (Term.length (.arg 0)).eval args s none [] s = some (.int xs.length.toInt32) := hx.length_eval hb
  have hv := Cond.le_ints hev (show (Term.int 3072).eval args s none [] s = some (.int 3072) from rfl)
  have hd : xs.length.toInt32 ≤ 3072 := by
    simpa [Cond.before, Cond.holds, hv] using hle
  have hN : xs.length ≤ 3072 := (Int32.ofNat_le_ofNat hsm (by decide)).mp (show Int32.ofNat xs.length ≤ Int32.ofNat 3072 from hd)
  exact ⟨b, xs, Cond.one_arg hc (show args[0]? = some (.ref b) from hb), hx, hN, h⟩
theorem lw_comes (hrun : pg_Runs) (l : Launch) (hoff : ∀ e, l.admits e → e.platform.stackTraces = false) : Comes l x (Jvm.Cond.code x code maxLocals ret :: tables_1) room_1 (fun tb e args s => Calls_1 tb e args s ∧ rest_1 tb e args s ∧ Pre_1 tb e args s)
    (fun _ _ args s o t => lw_Q args s o t) := by
  intro p e ha hc hk s m args below hf hfit hheap happ hpre
  obtain ⟨b, xs, hP⟩ := lw_pre_spec hpre.2.2 hpre.2.1
  obtain ⟨k, o, h1, h2, h3, hQ⟩ := pg_walk hrun l hoff b xs p e ha hc hk s m args below hf ((Spec.applies_iff_loose hf).mp happ).1 hP trivial
  exact ⟨k, o, h1, h2, h3, hQ⟩
theorem lw_limb (hrun : pg_Runs) (L : Cond) (hL : ∀ (args : Array Value) (s t : State), L.after args s (.returned (some (.int 1))) t = true) :
    ArmFor flags0 classFile x code maxLocals ret World_1 tables_1 room_1 Calls_1 rest_1 Pre_1
      (fun tb e a s o t => postC L tb e a s o t ∧ Framed s o t (fieldLocs frame_1_writes a s ++ arrayLocs frame_1_arrays a s ++ staticLocs frame_1_statics s) 601024 7293034) := by
  intro l hfl _ _ p e ha hc hk s m args below hf hfit hheap happ hpre
  obtain ⟨k, o, h1, h2, h3, rfl, hF⟩ := lw_comes hrun l (fun e ha => Launch.traces_off hfl ha) p e ha hc hk s m args below hf hfit hheap happ hpre
  exact ⟨k, _, h1, h2, h3, hL args s _, hF⟩
theorem pg_claim (hrun : pg_Runs) : Claimed_1_1 ∧ Claimed_1_2 := ⟨lw_limb hrun limb_1_1 (fun args s t => by simp [limb_1_1, Cond.after, Cond.holds, Cond.value]), lw_limb hrun limb_1_2 (fun args s t => Cond.after_iff.mpr (by
  first | (rw [show limb_1_2 = Cond.eq .result (.int 1) from rfl, Cond.eq_ints (x := 1) (y := 1) rfl rfl]; simp; done) | (simp [limb_1_2, Cond.value, Term.eval]; done)))⟩
end
section
/-! running the small machine: plain steps in a row -/
def mr_pl : Instr → Bool
  | .return_ | .ireturn | .lreturn | .areturn | .invokespecial _ | .invokevirtual _ | .invokestatic _ => false
  | _ => true
section MR30
variable {G : mm_G} {T : mm_T} {scr : Nat × (Nat → Int32)} {X : mm_XR} {f : Nat} {Q : mm_O → mm_S → Prop}
def mr_row (G : mm_G) (T : mm_T) (scr : Nat × (Nat → Int32)) (f : Nat) (k : mm_Kf) : Option (Instr × Nat × Nat) → Option mm_Kf
  | none => none
  | some (i, nx, tg) => if mr_pl i = true then (match mm_thr G f k.1 with
    | some _ => none
    | none => match mm_st0 i k.1 nx tg k.2.1 k.2.2.1 k.2.2.2 with
      | some k' => some k'
      | none => mm_st1 T (mm_ini G f) (mm_oc G f) (mm_pool G f) scr i nx k.2.1 k.2.2.1 k.2.2.2) else none
def mr_one (G : mm_G) (T : mm_T) (scr : Nat × (Nat → Int32)) (f : Nat) (k : mm_Kf) : Option mm_Kf := mr_row G T scr f k (mm_code G f k.1)
def mr_run (G : mm_G) (T : mm_T) (scr : Nat × (Nat → Int32)) (f : Nat) : Nat → mm_Kf → Option mm_Kf
  | 0, k => some k
  | n + 1, k => match mr_one G T scr f k with
    | some k' => mr_run G T scr f n k'
    | none => none
theorem mr_one_ok {m : Nat} {k k' : mm_Kf} (h : mr_one G T scr f k = some k') (hw : mm_wp G T scr X f Q m k') : mm_wp G T scr X f Q (m + 1) k := by
  show mm_body G T scr X f Q (mm_wp G T scr X f Q m) k.1 k.2.1 k.2.2.1 k.2.2.2 (mm_code G f k.1)
  unfold mr_one at h
  cases hc : mm_code G f k.1 with
  | none => rw [hc] at h; cases h
  | some en =>
    obtain ⟨i, nx, tg⟩ := en
    rw [hc] at h
    replace h : (if mr_pl i = true then (match mm_thr G f k.1 with
      | some _ => none
      | none => match mm_st0 i k.1 nx tg k.2.1 k.2.2.1 k.2.2.2 with
        | some k' => some k'
        | none => mm_st1 T (mm_ini G f) (mm_oc G f) (mm_pool G f) scr i nx k.2.1 k.2.2.1 k.2.2.2) else none) = some k' := h
    split at h
    · rename_i hp
      have key : (match mm_thr G f k.1 with
          | some ec => k.2.2.2.1 + 1 ≤ mm_lc T ∧ k.2.2.2.2.1 + 6 ≤ mm_lsl T ∧ (k.2.2.1.map Value.category).sum ≤ 8 ∧ Q (.inr (ec, k.2.2.2.1)) (mm_add k.2.2.2 6 (.inr (ec, [])))
          | none => match mm_st0 i k.1 nx tg k.2.1 k.2.2.1 k.2.2.2 with
            | some k => mm_wp G T scr X f Q m k
            | none => match mm_st1 T (mm_ini G f) (mm_oc G f) (mm_pool G f) scr i nx k.2.1 k.2.2.1 k.2.2.2 with
              | some k => mm_wp G T scr X f Q m k
              | none => False) := by
        cases ht : mm_thr G f k.1 with
        | some ec => rw [ht] at h; cases h
        | none =>
          rw [ht] at h
          dsimp only at h ⊢
          cases h0 : mm_st0 i k.1 nx tg k.2.1 k.2.2.1 k.2.2.2 with
          | some k2 => rw [h0] at h; cases h; exact hw
          | none =>
            rw [h0] at h
            dsimp only at h ⊢
            rw [h]
            exact hw
      cases i <;> first | (cases hp; done) | exact key
    · cases h
theorem mr_run_ok {n m : Nat} {k k' : mm_Kf} (h : mr_run G T scr f n k = some k') (hw : mm_wp G T scr X f Q m k') : mm_wp G T scr X f Q (m + n) k := by
  induction n generalizing k with
  | zero => cases h; exact hw
  | succ n ih =>
    replace h : (match mr_one G T scr f k with
      | some k' => mr_run G T scr f n k'
      | none => none) = some k' := h
    cases hs : mr_one G T scr f k with
    | none => rw [hs] at h; cases h
    | some k2 =>
      rw [hs] at h
      exact mr_one_ok hs (ih h)
end MR30
section MP30
variable {G : mm_G} {T : mm_T} {scr : Nat × (Nat → Int32)} {f pc nx tg x : Nat} {L : mm_L} {r : List Value} {S : mm_S}
theorem mr_pf {ci k a : Nat} {v : Value} {vs : List Value} (hc : mm_code G f pc = some (.putfield x, nx, tg)) (ht : mm_thr G f pc = none) (hp : mm_pool G f x = some (.inl (ci, k))) (ha : a < S.1) (hS : S.2.2 a = .inr (ci, vs)) (hk : k < vs.length) (hf : mm_fit (mm_ft T ci k) v = true) (hfi : mm_fi T ci k = false ∨ (mm_ini G f = true ∧ ci = mm_oc G f)) :
    mr_one G T scr f (pc, L, v :: .ref a :: r, S) = some (nx, L, r, mm_up S a (.inr (ci, vs.set k v))) := by
  unfold mr_one
  dsimp only
  rw [hc]
  unfold mr_row
  dsimp only
  rw [if_pos (show mr_pl (.putfield x) = true from rfl), ht]
  dsimp only
  have h0 : mm_st0 (.putfield x) pc nx tg L (v :: .ref a :: r) S = none := rfl
  rw [h0]
  dsimp only
  show mm_pf T (mm_ini G f) (mm_oc G f) (mm_pool G f) x nx L (v :: .ref a :: r) S = _
  unfold mm_pf
  rw [hp]
  dsimp only
  rw [hS]
  dsimp only
  rw [if_pos ⟨ha, rfl, hk, hf, hfi⟩]
theorem mr_gf {ci k a : Nat} {v : Value} {vs : List Value} (hc : mm_code G f pc = some (.getfield x, nx, tg)) (ht : mm_thr G f pc = none) (hp : mm_pool G f x = some (.inl (ci, k))) (ha : a < S.1) (hS : S.2.2 a = .inr (ci, vs)) (hk : vs[k]? = some v) :
    mr_one G T scr f (pc, L, .ref a :: r, S) = some (nx, L, v :: r, S) := by
  unfold mr_one
  dsimp only
  rw [hc]
  unfold mr_row
  dsimp only
  rw [if_pos (show mr_pl (.getfield x) = true from rfl), ht]
  dsimp only
  have h0 : mm_st0 (.getfield x) pc nx tg L (.ref a :: r) S = none := rfl
  rw [h0]
  dsimp only
  show mm_gf (mm_pool G f) x nx L (.ref a :: r) S = _
  unfold mm_gf
  rw [hp]
  dsimp only
  rw [hS]
  dsimp only
  rw [if_pos ⟨ha, rfl⟩, hk]
end MP30
/-- Math.max -/
theorem r_max {scr : Nat × (Nat → Int32)} {d : Nat} {S : mm_S} {Q : mm_O → mm_S → Prop} {x y : Int32} (h : Q (.inl (some (.int (if x < y then y else x)))) S) : mm_ex pg_G pg_TT scr (d + 1) 10 [.int x, .int y] S Q := by
  by_cases hxy : x < y
  · rw [if_pos hxy] at h
    refine ⟨rfl, 1 + 1 + 3, mr_run_ok (n := 3) rfl ?_⟩
    rw [if_pos (show mm_icmp .lt x y = true from decide_eq_true hxy)]
    exact mr_run_ok (n := 1) rfl ⟨_, rfl, Or.inl rfl, h⟩
  · rw [if_neg hxy] at h
    refine ⟨rfl, 1 + 2 + 3, mr_run_ok (n := 3) rfl ?_⟩
    rw [if_neg (show ¬ mm_icmp .lt x y = true from fun q => hxy (of_decide_eq_true q))]
    exact mr_run_ok (n := 2) rfl ⟨_, rfl, Or.inl rfl, h⟩
/-- new Nat(n): an array of max(n, 1) zeros -/
theorem r_Nat {scr : Nat × (Nat → Int32)} {d : Nat} {S : mm_S} {Q : mm_O → mm_S → Prop} {a : Nat} {x y : Int32} {vs : List Value} (ha : a < S.1) (hS : S.2.2 a = .inr (5, vs)) (hvs : vs.length = 2) (hy : y = if x < Int32.ofInt 1 then Int32.ofInt 1 else x) (hr : 0 ≤ y.toInt ∧ y.toNatClampNeg ≤ 60000000 ∧ S.1 + 1 ≤ 601024 ∧ S.2.1 + y.toNatClampNeg ≤ 7293034)
    (h : Q (.inl none) (mm_up (mm_add S y.toNatClampNeg (.inl (0, y.toNatClampNeg, .inl (fun _ => 0)))) a (.inr (5, vs.set 0 (.ref S.1))))) : mm_ex pg_G pg_TT scr (d + 2) 9 [.ref a, .int x] S Q := by
  refine ⟨rfl, 1 + 1 + 1 + 1 + 3 + 1 + 1, ?_⟩
  refine mr_run_ok (n := 1) rfl ?_
  dsimp only
  refine ⟨_, _, rfl, by decide, ?_⟩
  refine mr_run_ok (n := 3) rfl ?_
  dsimp only
  refine ⟨rfl, ⟨?_, ?_⟩, Nat.le_of_ble_eq_true rfl, Nat.le_of_ble_eq_true rfl, rfl, r_max ?_⟩
  · show S.1 ≤ 601024
    omega
  · show S.2.1 ≤ 7293034
    omega
  · rw [← hy]
    refine mr_one_ok (k' := (12, mm_entry (mm_nl pg_G 9) [Value.ref a, Value.int x], [.ref S.1, .ref a], mm_add S y.toNatClampNeg (.inl (0, y.toNatClampNeg, .inl (fun _ => 0))))) (if_pos hr) ?_
    refine mr_one_ok (mr_pf rfl rfl rfl (Nat.lt_succ_of_lt ha) (vs := vs) (by show va_up S.2.2 S.1 _ a = _; rw [← hS]; exact if_neg (Nat.ne_of_lt ha)) (by rw [hvs]; decide) rfl (Or.inr ⟨rfl, rfl⟩)) ?_
    exact ⟨rfl, rfl, h⟩
end
