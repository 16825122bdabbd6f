/-! every run of the small machine is a run of the real one -/
section MS13
variable {p : Program} {l : Launch} {e : Env} {R : Room} {s : State} {m : MethodId} {args : Array Value} {below : List Frame} {meth : Method} {c : Code}
variable {yn : Nat → MethodName} {cc : Nat → ByteArray} {hh : Nat → List (Nat × Nat × Nat × Nat)} {G : mm_G} {TT : mm_T} {D : va_G} {cl : List vw_C} {tys : List (ClassId × FieldType)} {B : Nat} {ex : Nat → Nat} {E : State → Prop} {Ts : List Jvm.Cond} {S0 : mm_S} {aT : List FieldType} {own : Nat → String} {scr : Nat × (Nat → Int32)}
/-- a method's pool, where it names methods: Object's constructor is 0 -/
def mm_mpOK (Ts : List Jvm.Cond) (G : mm_G) (yn : Nat → MethodName) (cc : Nat → ByteArray) (hh : Nat → List (Nat × Nat × Nat × Nat)) (cl : List vw_C) (own : Nat → String) (f : Nat) : Prop :=
  ∀ x g, mm_pool G f x = some (.inr (.inl g)) → (g = 0 ∧ Jvm.Cond.methodLink (own f) x Lib.objectInit ∈ Ts ∧ Jvm.Cond.instanceMethod Lib.objectInit ∈ Ts ∧ Jvm.Cond.code Lib.objectInit ⟨#[0xb1]⟩ 1 none ∈ Ts) ∨
    (0 < g ∧ (Jvm.Cond.methodLink (own f) x (yn g) ∈ Ts ∨ ∃ host, Jvm.Cond.methodLinkNest (own f) x (yn g) host ∈ Ts) ∧ mm_cw yn cc hh G g ∈ Ts ∧ Jvm.Cond.initialized (yn g).cls ∈ Ts ∧ mm_nl G g ≤ 40 ∧ ((yn g).cls ≠ "java/lang/invoke/MethodHandle" ∧ (yn g).cls ≠ "java/lang/invoke/VarHandle") ∧
      (mm_stc G g = true → Jvm.Cond.static (yn g) ∈ Ts ∧ (parseMethodDescriptor (yn g).desc).map (fun d => d.parameters.length) = some (mm_na' G g)) ∧
      (mm_stc G g = false → hh g = [] ∧ Jvm.Cond.instanceMethod (yn g) ∈ Ts ∧ (parseMethodDescriptor (yn g).desc).map (fun d => d.parameters.length + 1) = some (mm_na' G g) ∧ (mm_ini G g = true → (yn g).name = "<init>" ∧ mm_rt G g = none) ∧ (mm_ini G g = false → (mm_oc G g ≠ 998 ∧ ∃ r : vw_C, cl[mm_oc G g]? = some r ∧ Jvm.Cond.selects r.1 (yn g) (yn g) ∈ Ts) ∨ (mm_oc G g = 998 ∧ Jvm.Cond.selects "java/lang/String" (yn g) (yn g) ∈ Ts))))
/-- where the small machine throws -/
def mm_Thr (p : Program) (l : Launch) (e : Env) (R : Room) (s : State) (m : MethodId) (args : Array Value) (below : List Frame) (meth : Method) (c : Code) (G : mm_G) (T : mm_T) (D : va_G) (cl : List vw_C) (tys : List (ClassId × FieldType)) (φ : Nat → Nat) (B : Nat) (S0 : mm_S) (f : Nat) : Prop :=
  ∀ (Q : mm_O → mm_S → Prop) (pc ec : Nat) (L : mm_L) (st : List Value) (S : mm_S), mm_thr G f pc = some ec → S.1 + 1 ≤ mm_lc T → S.2.1 + 6 ≤ mm_lsl T → (st.map Value.category).sum ≤ 8 → Q (.inr (ec, S.1)) (mm_add S 6 (.inr (ec, []))) →
    mm_At p l e R s m args below meth c (mm_fin D cl tys φ B S0 s below Q) D cl tys φ B S0 (mm_nl G f) (pc, L, st, S)
/-- where it catches what a call throws -/
def mm_Cat (p : Program) (l : Launch) (e : Env) (R : Room) (s : State) (m : MethodId) (args : Array Value) (below : List Frame) (meth : Method) (c : Code) (G : mm_G) (D : va_G) (cl : List vw_C) (f : Nat) : Prop :=
  (∀ pc ec, mm_hnd G f pc ec = some none → ∀ x ∈ c.exceptionTable.toList, covers x pc = false) ∧
  ∀ (T : State) (locs : List Loc) (cells slots pc ec h : Nat) (a : Addr) (g : JFrame), mm_hnd G f pc ec = some (some h) → Stand p l e R s m args below meth c T locs cells slots → g.method = m → g.pc = pc →
    (∃ vs, va_at D cl (a, .inr (ec, vs)) T.heap) → ∃ vm', Stand p l e R s m args below meth c (T.setVm vm') locs cells slots ∧ ∀ tg, Steps p.tables e below ((T.setVm vm').setTop { g with pc := h, stack := [.ref a] }) tg → Steps p.tables e below ((T.setTop g).pushFrame (.throwing a)) tg
set_option maxHeartbeats 8000000 in
/-- a call in a walk -/
theorem mm_cl_sound {f g d : Nat} {Q : mm_O → mm_S → Prop} {w : mm_Kf → Prop} {pc nx x : Nat} {L : mm_L} {st : List Value} {S : mm_S} {i : Instr} {tg : Nat}
    (F : mm_Fix p R s m args meth c D cl tys B ex S0 (mm_nl G f) (cc f) Ts aT TT (own f) (mm_oc G f) (mm_pool G f) (mm_ini G f) scr) (hE : mm_EE B Ts E) (hEs : E s) (hR : R = mm_rm TT (d + 1) S0)
    (hcon : ∀ g as S Q, mm_ex G TT scr d g as S Q → mm_Con l yn cc hh G TT D cl tys (mm_phi B ex) B E d g as S Q) (hcat : mm_Cat p l e R s m args below meth c G D cl f)
    (hw : ∀ k, w k → mm_At p l e R s m args below meth c (mm_fin D cl tys (mm_phi B ex) B S0 s below Q) D cl tys (mm_phi B ex) B S0 (mm_nl G f) k)
    (ho : mm_ok (cc f) pc i nx tg) (hmp : mm_mpOK Ts G yn cc hh cl own f) (hStr : mm_Str TT B ex scr s) (hp : mm_pool G f x = some (.inr (.inl g))) (hg0 : g ≠ 0)
    (hi : (i = .invokevirtual x ∧ mm_stc G g = false ∧ mm_ini G g = false) ∨ (i = .invokestatic x ∧ mm_stc G g = true) ∨ (i = .invokespecial x ∧ mm_stc G g = false ∧ mm_ini G g = true))
    (h : mm_cl G TT (mm_ex G TT scr d) f g w Q pc nx L st S) : mm_At p l e R s m args below meth c (mm_fin D cl tys (mm_phi B ex) B S0 s below Q) D cl tys (mm_phi B ex) B S0 (mm_nl G f) (pc, L, st, S) := by
  obtain ⟨⟨len, hd, rfl, hl⟩, -⟩ := ho
  have hl : len = 3 := by
    have := hl (fun a b c d q => by rcases hi with ⟨rfl, -⟩ | ⟨rfl, -⟩ | ⟨rfl, -⟩ <;> cases q)
    rcases hi with ⟨rfl, -⟩ | ⟨rfl, -⟩ | ⟨rfl, -⟩ <;> exact this (fun _ _ q => by cases q)
  subst hl
  obtain ⟨⟨hx, hb, hml, hown, hlk, hini⟩, ⟨hts, hK, hcl, hpl⟩, -, -, ⟨hB, hRc, hRs, hlcb⟩, -⟩ := F
  obtain ⟨⟨hc1, hc2⟩, hlen, hsum, hrok, hX⟩ := h
  rcases hmp x g hp with ⟨h0, -⟩ | ⟨-, hlink, hcw, hinit, hnl, hyy, hS1, hS2⟩
  · exact absurd h0 hg0
  have hM := hcon _ _ _ _ hX
  intro ls H locs h1 h0 h2 h3 h4 h5
  dsimp only at h1 h0 h2 h3 h4 h5 ⊢
  intro T hT X
  subst hT
  have hsplit : st.map (mm_tv (mm_phi B ex)) = (((st.take (mm_na' G g)).reverse).map (mm_tv (mm_phi B ex))).reverse ++ (st.drop (mm_na' G g)).map (mm_tv (mm_phi B ex)) := by
    rw [← List.map_reverse, List.reverse_reverse, ← List.map_append, List.take_append_drop]
  have hlenT : (st.take (mm_na' G g)).reverse.length = mm_na' G g := by rw [List.length_reverse, List.length_take]; omega
  have hdc : decode c.code pc = .ok (i, 3) := by rw [hb]; exact hd
  have hlsz : ls.size = c.maxLocals := by rw [hml]; exact h1.1
  have hI : mm_Inv p l e R s m args below meth c T locs (S.1 - S0.1) (S.2.1 - S0.2.1) (F0 m pc ls (st.map (mm_tv (mm_phi B ex)))) ((st.drop (mm_na' G g)).map (mm_tv (mm_phi B ex))) (yn g) (((st.take (mm_na' G g)).reverse).map (mm_tv (mm_phi B ex))).toArray := by
    have hlk2 : ∃ host, (Jvm.Cond.methodLink (own f) x (yn g)).before args s = true ∨ (Jvm.Cond.methodLinkNest (own f) x (yn g) host).before args s = true := by
      rcases hlink with h | ⟨host, h⟩
      · exact ⟨"", Or.inl (hts _ h)⟩
      · exact ⟨host, Or.inr (hts _ h)⟩
    obtain ⟨host, hlk2⟩ := hlk2
    rcases hi with ⟨rfl, hs1, hs2⟩ | ⟨rfl, hs1⟩ | ⟨rfl, hs1, hs2⟩
    · obtain ⟨hhh, hinst, hpar, -, hsel⟩ := hS2 hs1
      have hsel := hsel hs2
      have hcw2 : (Jvm.Cond.code (yn g) (cc g) (mm_nl G g) (mm_rt G g)).before args s = true := by
        have := hts _ hcw
        unfold mm_cw at this
        rw [if_pos hhh] at this
        exact this
      rw [hs1] at hrok
      unfold mm_rok at hrok
      rw [Bool.false_or] at hrok
      generalize hAs : (st.take (mm_na' G g)).reverse = As at hrok hsplit hlenT ⊢
      rcases As with _ | ⟨v, As⟩
      · cases hrok
      · cases v with
        | ref b =>
          rw [Bool.or_eq_true] at hrok
          rcases hrok with hrok | hrok
          case inr =>
            rw [Bool.and_eq_true, decide_eq_true_eq] at hrok
            obtain ⟨ho8, hob⟩ := hrok
            rcases hsel with ⟨q8, -⟩ | ⟨-, hsl⟩
            · exact absurd ho8 q8
            obtain ⟨⟨j1, j2⟩, e1, -⟩ := mm_ost_at (B := B) (ex := ex) hob
            obtain ⟨f0, -⟩ := hStr.1 _ j1 j2
            obtain ⟨cellB, q1, q2, q3, -⟩ := f0.kept h3.2.1
            refine mm_invV (C := "java/lang/String") (bytes := cc g) (maxL := mm_nl G g) (ret := mm_rt G g) (host := host) X hx hown hlk2 (hts _ hinst) (hts _ hsl) hcw2 hyy (b := mm_phi B ex b) (cellB := cellB) (by rw [e1]; exact q1) q2 q3 rfl (argsL := As.map (mm_tv (mm_phi B ex))) (fun sig hsig => ?_) ?_ hdc
            · rw [hsig] at hpar
              have : sig.parameters.length + 1 = mm_na' G g := by simpa using hpar
              rw [List.length_map]
              simp only [List.length_cons] at hlenT
              omega
            · show st.map (mm_tv (mm_phi B ex)) = _
              rw [hsplit]
              simp [mm_tv]
          simp only [Bool.and_eq_true, decide_eq_true_eq] at hrok
          obtain ⟨hbS, hcls⟩ := hrok
          cases hcell : S.2.2 b with
          | inl z => rw [hcell] at hcls; cases hcls
          | inr z =>
            obtain ⟨ci, vs⟩ := z
            rw [hcell] at hcls
            have hcls : ci = mm_oc G g ∧ mm_oc G g ≠ 998 := by simpa using hcls
            obtain ⟨hcls, hn8⟩ := hcls
            rcases hsel with ⟨-, rr, hrc, hsl⟩ | ⟨q8, -⟩
            case inr => exact absurd q8 hn8
            subst hcls
            have hat := h2 b _ (mm_ws_at (φ := mm_phi B ex) (tys := tys) hbS)
            rw [hcell] at hat
            obtain ⟨r2, hr2, cellB, q1, q2, q3, -⟩ := hat
            cases hrc.symm.trans hr2
            refine mm_invV (C := rr.1) (bytes := cc g) (maxL := mm_nl G g) (ret := mm_rt G g) (host := host) X hx hown hlk2 (hts _ hinst) (hts _ hsl) hcw2 hyy (b := mm_phi B ex b) (cellB := cellB) q1 (by rw [q3]; rfl) (by rw [q2]; exact (hK.1 _ _ hrc).2.1) rfl (argsL := As.map (mm_tv (mm_phi B ex))) (fun sig hsig => ?_) ?_ hdc
            · rw [hsig] at hpar
              have : sig.parameters.length + 1 = mm_na' G g := by simpa using hpar
              rw [List.length_map]
              simp only [List.length_cons] at hlenT
              omega
            · show st.map (mm_tv (mm_phi B ex)) = _
              rw [hsplit]
              simp [mm_tv]
        | _ => cases hrok
    · obtain ⟨hstat, hpar⟩ := hS1 hs1
      obtain ⟨mk, mt, cM, c1, c2, -, -, -, -, -, -, c8⟩ := mm_cw_spec (hts _ hcw)
      refine mm_invS (host := host) X hx hown hlk2 (hts _ hstat) (hts _ hinit) c1 c2 c8 hyy rfl (argsL := ((st.take (mm_na' G g)).reverse).map (mm_tv (mm_phi B ex))) (fun sig hsig => ?_) hsplit hdc
      rw [hsig] at hpar
      have : sig.parameters.length = mm_na' G g := by simpa using hpar
      rw [List.length_map, hlenT]
      exact this.symm
    · obtain ⟨hhh, hinst, hpar, hin2, -⟩ := hS2 hs1
      obtain ⟨hnm, hrt0⟩ := hin2 hs2
      have hcw2 : (Jvm.Cond.code (yn g) (cc g) (mm_nl G g) none).before args s = true := by
        have := hts _ hcw
        unfold mm_cw at this
        rw [if_pos hhh, hrt0] at this
        exact this
      rw [hs1] at hrok
      unfold mm_rok at hrok
      rw [Bool.false_or] at hrok
      generalize hAs : (st.take (mm_na' G g)).reverse = As at hrok hsplit hlenT ⊢
      rcases As with _ | ⟨v, As⟩
      · cases hrok
      · cases v with
        | ref b =>
          refine mm_invI (bytes := cc g) (maxL := mm_nl G g) (host := host) X hx hown hnm hlk2 (hts _ hinst) hcw2 hyy rfl (b := mm_phi B ex b) (argsL := As.map (mm_tv (mm_phi B ex))) (fun sig hsig => ?_) ?_ hdc
          · rw [hsig] at hpar
            have : sig.parameters.length + 1 = mm_na' G g := by simpa using hpar
            rw [List.length_map]
            simp only [List.length_cons] at hlenT
            omega
          · show st.map (mm_tv (mm_phi B ex)) = _
            rw [hsplit]
            simp [mm_tv]
        | _ => cases hrok
  obtain ⟨o, S', T', L', hQ, X', hP', hS', h4', h5', hret, hthr⟩ := mm_called (g0 := F0 m pc ls (st.map (mm_tv (mm_phi B ex)))) (ig := i) (len := 3) hE hEs hM X hR hcw hinit hnl rfl hlsz hdc
    (by
      refine lv_room (m := m) (pc := pc) (ls := ls) (rest := st.map (mm_tv (mm_phi B ex))) ?_
      rw [mm_sum_tv]
      exact hsum) hI h2 h3 h4 h5 hB hc1 hc2
  rcases o with v | ⟨ec, a⟩
  · have hk := hw _ hQ ls T'.heap (locs ++ L') h1 h0 hP' hS' h4' h5'
    obtain ⟨t, a1, b1⟩ := hk T' rfl X'
    refine ⟨t, hret v rfl t ?_, b1⟩
    have e1 : (v.toList ++ st.drop (mm_na' G g)).map (mm_tv (mm_phi B ex)) = (v.map (mm_tv (mm_phi B ex))).toList ++ (st.drop (mm_na' G g)).map (mm_tv (mm_phi B ex)) := by
      cases v <;> simp
    dsimp only at a1
    rw [e1] at a1
    exact a1
  · dsimp only at hQ
    have hex : ∃ hnd, mm_hnd G f pc ec = some hnd := by
      cases hq : mm_hnd G f pc ec with
      | none => rw [hq] at hQ; exact hQ.elim
      | some hnd => exact ⟨hnd, rfl⟩
    obtain ⟨hnd, hq⟩ := hex
    rw [hq] at hQ
    rcases hnd with _ | hnd
    · dsimp only at hQ
      obtain ⟨st1, hrun, hend, hWm, hsame⟩ := X'.leaveThrown (mm_phi B ex a) (g := { F0 m pc ls (st.map (mm_tv (mm_phi B ex))) with stack := (st.drop (mm_na' G g)).map (mm_tv (mm_phi B ex)) }) rfl rfl rfl (hcat.1 pc ec hq) hlk
      have hh0 : (T'.setFrames (.throwing (mm_phi B ex a) :: below)).heap = T'.heap := rfl
      refine ⟨_, hthr ec a rfl _ st1, .inr (ec, a), S', hQ, hrun, hend, hWm, by rw [hh0]; exact hP', h4', h5', fun q hq' => ?_, locs ++ L', hsame, hS'.2.2⟩
      rw [hh0]
      exact hS'.2.1 q (by omega) (by show ¬ B ≤ q; omega)
    · dsimp only at hQ
      obtain ⟨⟨ha, vs, hvs⟩, hwk⟩ := hQ
      have hat := hP' a _ (mm_ws_at (φ := mm_phi B ex) (tys := tys) ha)
      rw [hvs] at hat
      obtain ⟨vm', X2, hst2⟩ := hcat.2 T' (locs ++ L') _ _ pc ec hnd (mm_phi B ex a) { F0 m pc ls (st.map (mm_tv (mm_phi B ex))) with stack := (st.drop (mm_na' G g)).map (mm_tv (mm_phi B ex)) } hq X' rfl rfl ⟨_, hat⟩
      obtain ⟨t, a1, b1⟩ := hw _ hwk ls T'.heap (locs ++ L') h1 h0 hP' hS' h4' h5' (T'.setVm vm') rfl X2
      exact ⟨t, hthr ec a rfl t (hst2 t a1), b1⟩
set_option maxHeartbeats 8000000 in
/-- A METHOD's WALK -/
theorem mm_wp_sound {f d : Nat} {Q : mm_O → mm_S → Prop}
    (F : mm_Fix p R s m args meth c D cl tys B ex S0 (mm_nl G f) (cc f) Ts aT TT (own f) (mm_oc G f) (mm_pool G f) (mm_ini G f) scr) (hstr : ∀ x k, mm_pool G f x = some (.inr (.inr (.inr (.inr (.inr k))))) → 0 < k → k < 2000 → ∃ tx, vk_R (own f) x tx (ex k) s) (hS2 : mm_Str TT B ex scr s) (hP2 : mm_pk2 Ts (own f) (mm_pool G f))
    (hE : mm_EE B Ts E) (hEs : E s) (hR : R = mm_rm TT (d + 1) S0) (hrt : meth.sig.returnType = mm_rt G f)
    (hcode : ∀ pc i nx tg, mm_code G f pc = some (i, nx, tg) → mm_ok (cc f) pc i nx tg) (hmp : mm_mpOK Ts G yn cc hh cl own f)
    (hcon : ∀ g as S Q, mm_ex G TT scr d g as S Q → mm_Con l yn cc hh G TT D cl tys (mm_phi B ex) B E d g as S Q) (hcat : mm_Cat p l e R s m args below meth c G D cl f)
    (hthr : mm_Thr p l e R s m args below meth c G TT D cl tys (mm_phi B ex) B S0 f) :
    ∀ (n : Nat) (k : mm_Kf), mm_wp G TT scr (mm_ex G TT scr d) f Q n k → mm_At p l e R s m args below meth c (mm_fin D cl tys (mm_phi B ex) B S0 s below Q) D cl tys (mm_phi B ex) B S0 (mm_nl G f) k := by
  intro n
  induction n with
  | zero => intro k h; exact h.elim
  | succ n ih =>
    intro k h
    obtain ⟨pc, L, st, S⟩ := k
    replace h : mm_body G TT scr (mm_ex G TT scr d) f Q (mm_wp G TT scr (mm_ex G TT scr d) f Q n) pc L st S (mm_code G f pc) := h
    have ⟨⟨hx, hb, hml, hown, hlk, hini⟩, ⟨hts, hK, hcl, hpl⟩, _, _, ⟨hB, hRc, hRs, hlcb⟩, _⟩ := F
    have hBs : B ≤ s.heap.size := by omega
    have hfr : 1 ≤ R.frames := by rw [hR]; show 1 ≤ d + 1 + 8; omega
    have hlo : 100 ≤ R.locals := by rw [hR]; show 100 ≤ (d + 1) * 60 + 200; omega
    cases hc : mm_code G f pc with
    | none => rw [hc] at h; exact h.elim
    | some en =>
      obtain ⟨i, nx, tg⟩ := en
      rw [hc] at h
      have ho := hcode _ _ _ _ hc
      have key : (match mm_thr G f pc with
          | some ec => S.1 + 1 ≤ mm_lc TT ∧ S.2.1 + 6 ≤ mm_lsl TT ∧ (st.map Value.category).sum ≤ 8 ∧ Q (.inr (ec, S.1)) (mm_add S 6 (.inr (ec, [])))
          | none => match mm_st0 i pc nx tg L st S with
            | some k => mm_wp G TT scr (mm_ex G TT scr d) f Q n k
            | none => match mm_st1 TT (mm_ini G f) (mm_oc G f) (mm_pool G f) scr i nx L st S with
              | some k => mm_wp G TT scr (mm_ex G TT scr d) f Q n k
              | none => match mm_st2 TT (mm_pool G f) scr i nx tg L st S with
                | some k => mm_wp G TT scr (mm_ex G TT scr d) f Q n k
                | none => False) → mm_At p l e R s m args below meth c (mm_fin D cl tys (mm_phi B ex) B S0 s below Q) D cl tys (mm_phi B ex) B S0 (mm_nl G f) (pc, L, st, S) := by
        cases h1 : mm_thr G f pc with
        | some ec => exact fun h => hthr Q pc ec L st S h1 h.1 h.2.1 h.2.2.1 h.2.2.2
        | none =>
          cases h2 : mm_st0 i pc nx tg L st S with
          | some k => exact fun h => ms_all (fun a b ha hb hq => by rw [mm_phi_lt ha, mm_phi_lt hb] at hq; omega) hx hb ho h2 (ih _ h)
          | none =>
            cases h3 : mm_st1 TT (mm_ini G f) (mm_oc G f) (mm_pool G f) scr i nx L st S with
            | some k => exact fun h => mt_all F hstr ho h3 (ih _ h)
            | none =>
              cases h4 : mm_st2 TT (mm_pool G f) scr i nx tg L st S with
              | some k => exact fun h => mt2_all F hS2 hP2 hfr hlo ho h4 (ih _ h)
              | none => exact fun h => h.elim
      cases i
      case return_ =>
        obtain ⟨rfl, h1, h2⟩ := h
        obtain ⟨⟨len, hd, -, hl⟩, -⟩ := ho
        have hl : len = 1 := hl (fun _ _ _ _ q => by cases q) (fun _ _ q => by cases q)
        subst hl
        exact mr_return hx hb hlk (hrt.trans h1) hBs hd h2
      case ireturn =>
        obtain ⟨v, rfl, h1, h2⟩ := h
        obtain ⟨⟨len, hd, -, hl⟩, -⟩ := ho
        have hl : len = 1 := hl (fun _ _ _ _ q => by cases q) (fun _ _ q => by cases q)
        subst hl
        obtain ⟨ty, h1, h3⟩ := h1
        exact mr_zreturn hx hb hlk (hrt.trans h1) hBs h3 hd h2
      case lreturn =>
        obtain ⟨v, rfl, h1, h2⟩ := h
        obtain ⟨⟨len, hd, -, hl⟩, -⟩ := ho
        have hl : len = 1 := hl (fun _ _ _ _ q => by cases q) (fun _ _ q => by cases q)
        subst hl
        exact mr_lreturn hx hb hlk (hrt.trans h1) hBs hd h2
      case areturn =>
        obtain ⟨v, rfl, ⟨nm, h1⟩, h2⟩ := h
        obtain ⟨⟨len, hd, -, hl⟩, -⟩ := ho
        have hl : len = 1 := hl (fun _ _ _ _ q => by cases q) (fun _ _ q => by cases q)
        subst hl
        exact mr_areturn hx hb hlk (hrt.trans h1) (Or.inl ⟨nm, rfl⟩) hBs hd h2
      case invokespecial x =>
        unfold mm_body at h
        dsimp only at h
        split at h
        · rename_i hp
          obtain ⟨a, r, rfl, hsum, hk⟩ := h
          rcases hmp x 0 hp with ⟨-, o1, o2, o3⟩ | ⟨h0, -⟩
          · obtain ⟨⟨len, hd, rfl, hl⟩, -⟩ := ho
            have hl : len = 3 := hl (fun _ _ _ _ q => by cases q) (fun _ _ q => by cases q)
            subst hl
            intro ls H locs h1 h0 h2 h3 h4 h5
            have kk := ih _ hk ls H locs h1 h0 h2 h3 h4 h5
            have hlsz : ls.size = c.maxLocals := by rw [hml]; exact h1.1
            refine W.objInit hx hb hown (hts _ o1) (hts _ o2) (hts _ o3) rfl hlsz (a := mm_phi B ex a) (rest := r.map (mm_tv (mm_phi B ex))) rfl hd (by rw [hR]; show 1 ≤ d + 1 + 8; omega) ?_ kk
            have h8 := lv_room (m := m) (pc := pc) (ls := ls) (rest := (Value.ref a :: r).map (mm_tv (mm_phi B ex))) (st := r.map (mm_tv (mm_phi B ex))) (by rw [mm_sum_tv]; exact hsum)
            rw [hR]
            show _ ≤ (d + 1) * 60 + 200
            dsimp only at h8 ⊢
            omega
          · omega
        · rename_i g hp
          exact mm_cl_sound (tg := tg) F hE hEs hR hcon hcat ih ho hmp hS2 hp (by omega) (Or.inr (Or.inr ⟨rfl, h.1, h.2.1⟩)) h.2.2
        · exact h.elim
      case invokevirtual x =>
        unfold mm_body at h
        dsimp only at h
        split at h
        · rename_i g hp
          exact mm_cl_sound (tg := tg) F hE hEs hR hcon hcat ih ho hmp hS2 hp (by omega) (Or.inl ⟨rfl, h.1, h.2.1⟩) h.2.2
        · exact h.elim
      case invokestatic x =>
        unfold mm_body at h
        dsimp only at h
        split at h
        · rename_i g hp
          exact mm_cl_sound (tg := tg) F hE hEs hR hcon hcat ih ho hmp hS2 hp (by omega) (Or.inr (Or.inl ⟨rfl, h.1⟩)) h.2
        · split at h
          · rename_i k hk
            exact mt2_all F hS2 hP2 hfr hlo ho hk (ih _ h)
          · exact h.elim
      all_goals exact key h
end MS13
