/-! the longest methods: their codes compared byte by byte -/
def pg_mokr (cl : List vw_C) (G : mm_G) (yn : Nat → MethodName) (hh : Nat → List (Nat × Nat × Nat × Nat)) (wm : pg_Wm) (g : Nat) : Bool :=
  pg_has (wm g).2.1 (.initialized (yn g).cls) && decide (mm_nl G g ≤ 40) && decide ((yn g).cls ≠ "java/lang/invoke/MethodHandle") && decide ((yn g).cls ≠ "java/lang/invoke/VarHandle") &&
    (if mm_stc G g = true then pg_has (wm g).2.2.1 (.static (yn g)) && decide ((parseMethodDescriptor (yn g).desc).map (fun d => d.parameters.length) = some (mm_na' G g))
     else decide (hh g = []) && pg_has (wm g).2.2.1 (.instanceMethod (yn g)) && decide ((parseMethodDescriptor (yn g).desc).map (fun d => d.parameters.length + 1) = some (mm_na' G g)) &&
       (if mm_ini G g = true then decide ((yn g).name = "<init>") && decide (mm_rt G g = none) else if mm_oc G g = 998 then pg_has (wm g).2.2.2 (.selects "java/lang/String" (yn g) (yn g)) else match cl[mm_oc G g]? with
         | some r => pg_has (wm g).2.2.2 (.selects r.1 (yn g) (yn g))
         | none => false))
def pg_same : List UInt8 → List UInt8 → Bool
  | [], [] => true
  | a :: x, b :: y => Nat.beq a.toNat b.toNat && pg_same x y
  | _, _ => false
theorem pg_same_ok : ∀ {x y : List UInt8}, pg_same x y = true → x = y
  | [], [], _ => rfl
  | a :: x, b :: y, h => by
    have h : (Nat.beq a.toNat b.toNat && pg_same x y) = true := h
    rw [Bool.and_eq_true] at h
    rw [UInt8.toNat_inj.mp (Nat.eq_of_beq_eq_true h.1), pg_same_ok h.2]
  | [], _ :: _, h => by cases h
  | _ :: _, [], h => by cases h
def pg_eqc (o : Option Jvm.Cond) (w : Jvm.Cond) : Bool := match o, w with
  | some (.code n c l r), .code n' c' l' r' => decide (n = n') && pg_same c.data.toList c'.data.toList && decide (l = l') && decide (r = r')
  | _, _ => false
theorem pg_eqc_ok {o : Option Jvm.Cond} {w : Jvm.Cond} (h : pg_eqc o w = true) : o = some w := by
  unfold pg_eqc at h
  split at h
  · rw [Bool.and_eq_true, Bool.and_eq_true, Bool.and_eq_true, decide_eq_true_eq, decide_eq_true_eq, decide_eq_true_eq] at h
    obtain ⟨⟨⟨h1, h2⟩, h3⟩, h4⟩ := h
    rw [h1, ByteArray.ext (Array.ext' (pg_same_ok h2)), h3, h4]
  · cases h
theorem pg_mok_i {cl : List vw_C} {G : mm_G} {yn : Nat → MethodName} {cc : Nat → ByteArray} {hh : Nat → List (Nat × Nat × Nat × Nat)} {wm : pg_Wm} {g : Nat} (h : (pg_eqc lw_tbl[(wm g).1]? (mm_cw yn cc hh G g) && pg_gd (mm_cw yn cc hh G g) && pg_mokr cl G yn hh wm g) = true) : pg_mok cl G yn cc hh wm g = true := by
  rw [Bool.and_eq_true, Bool.and_eq_true] at h
  obtain ⟨⟨h1, h2⟩, h3⟩ := h
  unfold pg_mokr at h3
  unfold pg_mok
  have h : pg_has (wm g).1 (mm_cw yn cc hh G g) = true := by
    unfold pg_has
    rw [Bool.and_eq_true]
    exact ⟨decide_eq_true (pg_eqc_ok h1), h2⟩
  rw [h, Bool.true_and]
  exact h3
