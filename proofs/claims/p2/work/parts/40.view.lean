/-! the program for the abstract machine -/
def hv_cil (n : Nat) : List (Nat × Int) := match n with
  | 6 => [(63, 1000000)]
  | 7 => [(48, 1000000)]
  | 13 => [(199, 64000)]
  | 14 => [(26, 65535)]
  | 19 => [(264, 65536)]
  | _ => []
def hv_cjl (n : Nat) : List (Nat × Int) := match n with
  | 3 => [(47, 9223372036854775807)]
  | 5 => [(25, 2147483647)]
  | 7 => [(82, 2147483647)]
  | 8 => [(139, 1000)]
  | 12 => [(113, 4294967295)]
  | 13 => [(538, 1000), (666, 31)]
  | 14 => [(17, 65535), (27, 16), (29, 15)]
  | _ => []
def hv_D : hw_D := hw_og pg_G (fun f => (pg_hh f).isEmpty) (fun f x => (hv_cil (pg_pc f)).lookup x) (fun f x => (hv_cjl (pg_pc f)).lookup x)
def hv_ti (n : Nat) : Bool := (hv_cil n).all (fun q => match pg_pool (pg_plr n) q.1 with
  | some (.inr (.inr (.inr (.inl v)))) => decide (v.toInt = q.2)
  | _ => false)
def hv_tj (n : Nat) : Bool := (hv_cjl n).all (fun q => match pg_pool (pg_plr n) q.1 with
  | some (.inr (.inr (.inr (.inr (.inl v))))) => decide (v.toInt = q.2)
  | _ => false)
theorem hv_tia : (List.range 22).all hv_ti = true := by decide +kernel
theorem hv_tja : (List.range 22).all hv_tj = true := by decide +kernel
theorem hv_ti_all (n : Nat) : hv_ti n = true := by
  rcases Nat.lt_or_ge n 22 with h | h
  · exact List.all_eq_true.mp hv_tia n (List.mem_range.mpr h)
  · unfold hv_ti hv_cil
    split
    all_goals first | rfl | (exfalso; omega)
theorem hv_tj_all (n : Nat) : hv_tj n = true := by
  rcases Nat.lt_or_ge n 22 with h | h
  · exact List.all_eq_true.mp hv_tja n (List.mem_range.mpr h)
  · unfold hv_tj hv_cjl
    split
    all_goals first | rfl | (exfalso; omega)
theorem hv_DG : hw_DG hv_D pg_G := by
  refine hw_og_ok (fun f hf pc ec => ?_) (fun f x c h => ?_) (fun f x c h => ?_)
  · show (if pg_hh f = [] then some none else _) = _
    rw [if_pos (List.isEmpty_iff.mp hf)]
  · have hq := List.all_eq_true.mp (hv_ti_all (pg_pc f)) _ (pg_look h)
    dsimp only at hq
    split at hq
    · rename_i v hv
      exact ⟨v, hv, of_decide_eq_true hq⟩
    · cases hq
  · have hq := List.all_eq_true.mp (hv_tj_all (pg_pc f)) _ (pg_look h)
    dsimp only at hq
    split at hq
    · rename_i v hv
      exact ⟨v, hv, of_decide_eq_true hq⟩
    · cases hq
section HVR
variable {G : mm_G} {TT : mm_T} {scr : Nat × (Nat → Int32)} {T : hw_T} {D : hw_D} {d f : Nat} {K : Option hw_V → hw_Z → Prop} {E : Nat → hw_Z → Prop}
/-- locals may be forgotten -/
def hw_le : hw_L → hw_L → Prop
  | [], [] => True
  | none :: r, _ :: r' => hw_le r r'
  | some v :: r, some v' :: r' => v = v' ∧ hw_le r r'
  | _, _ => False
theorem hw_le_ok : ∀ {L' L : hw_L}, hw_le L' L → L'.length = L.length ∧ ∀ i v, hw_ld L' i = some v → hw_ld L i = some v
  | [], [], _ => ⟨rfl, fun _ _ h => h⟩
  | none :: r, x :: r', h => by
    have h : hw_le r r' := h
    obtain ⟨h1, h2⟩ := hw_le_ok h
    refine ⟨by rw [List.length_cons, List.length_cons, h1], fun i v hv => ?_⟩
    cases i with
    | zero => cases hv
    | succ i => exact h2 i v hv
  | some a :: r, some b :: r', h => by
    have h : a = b ∧ hw_le r r' := h
    obtain ⟨h0, h⟩ := h
    obtain ⟨h1, h2⟩ := hw_le_ok h
    refine ⟨by rw [List.length_cons, List.length_cons, h1], fun i v hv => ?_⟩
    cases i with
    | zero => rw [h0] at hv; exact hv
    | succ i => exact h2 i v hv
  | some _ :: _, none :: _, h => h.elim
  | [], _ :: _, h => h.elim
  | none :: _, [], h => h.elim
  | some _ :: _, [], h => h.elim
theorem hw_W_le {pc : Nat} {L L' : hw_L} {st : List hw_V} {Z : hw_Z} (hl : hw_le L' L) (h : hw_W G TT scr T d f K E (pc, L', st, Z)) : hw_W G TT scr T d f K E (pc, L, st, Z) := by
  intro M us S Q hL hs hR hroom hK hE
  obtain ⟨h1, h2⟩ := hw_le_ok hl
  have hL : hw_ls T L M := hL
  exact h M us S Q ⟨by rw [hL.1]; exact h1.symm, fun i v hv => hL.2 i v (h2 i v hv)⟩ hs hR hroom hK hE
/-- a walk with an unknown goal and unknown calls -/
theorem hw_run (hU : hw_U T) (hD : hw_DG D G) {k : hw_K} (h : ∀ (w : hw_K → Prop) (X : hw_X), (∀ k, hw_body D TT T X f K E w k → w k) → (∀ g as Z K E, hw_C G TT scr T d g as Z K E → X g as Z K E) → (∀ {pc L L' st Z}, hw_le L' L → w (pc, L', st, Z) → w (pc, L, st, Z)) → w k) : hw_W G TT scr T d f K E k :=
  h (hw_W G TT scr T d f K E) (fun g as Z K E => hw_C G TT scr T d g as Z K E) (fun _ => hw_step hU hD) (fun _ _ _ _ _ h => h) hw_W_le
theorem hw_meth (hU : hw_U T) (hD : hw_DG D G) {g : Nat} {args : List hw_V} {Z : hw_Z} {L : hw_L} (he : hw_nl (hw_entry (D.2.2.2 g).2.1 args) (fun l => L = l ∧ Nat.beq l.length (D.2.2.2 g).2.1 = true)) (h : ∀ (w : hw_K → Prop) (X : hw_X), (∀ k, hw_body D TT T X g K E w k → w k) → (∀ g as Z K E, hw_C G TT scr T d g as Z K E → X g as Z K E) → (∀ {pc L L' st Z}, hw_le L' L → w (pc, L', st, Z) → w (pc, L, st, Z)) → w (0, L, [], Z)) : hw_C G TT scr T (d + 1) g args Z K E :=
  hw_enter hD he (hw_run hU hD h)
end HVR
/-! the class: kinds of its cells -/
def hv_KT (k : Nat) : hw_S := match k with
  | 0 => .inl (5, [.inr (.inr (.inr 1)), .inr (.inl (0, 34))])
  | 1 => .inr (0, 34, .inl (0, 2147483647, 0))
  | 2 => .inl (5, [.inr (.inr (.inr 3)), .inr (.inl (0, 68))])
  | 3 => .inr (0, 68, .inl (0, 2147483647, 0))
  | 4 => .inl (5, [.inr (.inr (.inr 5)), .inr (.inl (0, 163))])
  | 5 => .inr (0, 163, .inl (0, 2147483647, 0))
  | 6 => .inl (5, [.inr (.inr (.inr 7)), .inr (.inl (0, 199))])
  | 7 => .inr (0, 199, .inl (0, 2147483647, 0))
  | 8 => .inl (5, [.inr (.inr (.inr 9)), .inr (.inl (0, 380))])
  | 9 => .inr (0, 380, .inl (0, 2147483647, 0))
  | 10 => .inl (0, [.inr (.inr (.inr 15)), .inr (.inr (.inr 21)), .inr (.inr (.inr 35)), .inr (.inr (.inr 45)), .inr (.inr (.inr 58)), .inr (.inr (.inr 64)), .inr (.inr (.inr 68)), .inr (.inr (.inr 72)), .inr (.inr (.inr 75)), .inr (.inr (.inr 76)), .inr (.inr (.inr 77)), .inr (.inr (.inr 6)), .inr (.inr (.inr 6))])
  | 11 => .inl (3, [.inr (.inr (.inr 12)), .inr (.inr (.inr 13)), .inr (.inr (.inr 14)), .inl (0, false), .inl (1, true)])
  | 12 => .inr (0, 1501, .inl ((-2147483648), 2147483647, 0))
  | 13 => .inr (0, 1501, .inl ((-2147483648), 2147483647, 0))
  | 14 => .inr (0, 248, .inl ((-2147483648), 2147483647, 0))
  | 15 => .inl (10, [.inr (.inr (.inr 16)), .inr (.inr (.inr 17)), .inr (.inr (.inr 18)), .inr (.inr (.inr 19)), .inr (.inr (.inr 20)), .inl (2, false), .inl (3, false), .inl (4, false)])
  | 16 => .inr (0, 8200, .inl (0, 255, 0))
  | 17 => .inr (0, 1501, .inl ((-2147483648), 2147483647, 0))
  | 18 => .inr (0, 1501, .inl (0, 8200, 0))
  | 19 => .inr (0, 1501, .inl (0, 16401, 0))
  | 20 => .inr (0, 1501, .inl ((-2147483648), 2147483647, 0))
  | 21 => .inl (4, [.inl (5, true), .inl (6, false), .inl (7, false), .inl (8, false), .inl (9, false), .inr (.inr (.inr 22)), .inr (.inr (.inr 23)), .inr (.inr (.inr 24)), .inr (.inr (.inr 25)), .inl (10, false), .inr (.inr (.inr 26)), .inr (.inr (.inr 27)), .inr (.inr (.inr 28)), .inr (.inr (.inr 29)), .inr (.inr (.inr 30)), .inl (11, false), .inr (.inr (.inr 31)), .inr (.inr (.inr 32)), .inl (12, false), .inr (.inr (.inr 33)), .inr (.inr (.inr 34))])
  | 22 => .inr (0, 8, .inl ((-2147483648), 2147483647, 0))
  | 23 => .inr (0, 8, .inl ((-2147483648), 2147483647, 0))
  | 24 => .inr (0, 8, .inl ((-2147483648), 2147483647, 0))
  | 25 => .inr (0, 8, .inl ((-2147483648), 2147483647, 0))
  | 26 => .inr (0, 40, .inl ((-2147483648), 2147483647, 0))
  | 27 => .inr (0, 40, .inl ((-2147483648), 2147483647, 0))
  | 28 => .inr (0, 40, .inl ((-2147483648), 2147483647, 0))
  | 29 => .inr (1, 40, .inl ((-9223372036854775808), 9223372036854775807, 0))
  | 30 => .inr (0, 41, .inl (0, 0, 6))
  | 31 => .inr (1, 240, .inl ((-9223372036854775808), 9223372036854775807, 0))
  | 32 => .inr (0, 241, .inl (0, 250, 0))
  | 33 => .inr (0, 250, .inl (0, 7, 0))
  | 34 => .inr (0, 250, .inl ((-2147483648), 2147483647, 0))
  | 35 => .inl (8, [.inr (.inr (.inr 15)), .inr (.inr (.inr 11)), .inr (.inr (.inr 21)), .inr (.inr (.inr 36)), .inr (.inr (.inr 37)), .inr (.inr (.inr 38)), .inr (.inr (.inr 39)), .inr (.inr (.inr 40)), .inr (.inr (.inr 41)), .inr (.inr (.inr 42)), .inr (.inr (.inr 43)), .inr (.inr (.inr 44)), .inl (13, false), .inl (14, false), .inl (15, false), .inl (16, true), .inl (17, true), .inl (18, false), .inl (19, false), .inl (20, false), .inl (21, false)])
  | 36 => .inr (0, 261, .inl ((-2147483648), 2147483647, 0))
  | 37 => .inr (0, 261, .inr (.inr 3))
  | 38 => .inr (0, 261, .inr (.inr 4))
  | 39 => .inr (0, 40, .inl ((-2147483648), 2147483647, 0))
  | 40 => .inr (0, 248, .inl ((-2147483648), 2147483647, 0))
  | 41 => .inr (0, 248, .inl ((-2147483648), 2147483647, 0))
  | 42 => .inr (0, 248, .inl ((-2147483648), 2147483647, 0))
  | 43 => .inr (0, 248, .inl ((-2147483648), 2147483647, 0))
  | 44 => .inr (0, 248, .inl ((-2147483648), 2147483647, 0))
  | 45 => .inl (9, [.inr (.inr (.inr 11)), .inr (.inr (.inr 21)), .inr (.inr (.inr 46)), .inr (.inr (.inr 47)), .inr (.inr (.inr 48)), .inr (.inr (.inr 49)), .inr (.inr (.inr 50)), .inr (.inr (.inr 51)), .inr (.inr (.inr 52)), .inr (.inr (.inr 53)), .inr (.inr (.inr 54)), .inr (.inr (.inr 55)), .inr (.inr (.inr 56)), .inr (.inr (.inr 57)), .inl (22, false), .inl (23, false), .inl (24, false), .inl (25, false), .inl (26, true)])
  | 46 => .inr (0, 192, .inl ((-2147483648), 2147483647, 0))
  | 47 => .inr (0, 8, .inl ((-2147483648), 2147483647, 0))
  | 48 => .inr (2, 24, .inl (0, 1, 0))
  | 49 => .inr (0, 25, .inr (.inr 0))
  | 50 => .inr (0, 201, .inl (0, 3200, 0))
  | 51 => .inr (1, 200, .inl ((-9223372036854775808), 9223372036854775807, 0))
  | 52 => .inr (0, 3200, .inl (0, 23, 0))
  | 53 => .inr (1, 3200, .inl ((-9223372036854775808), 9223372036854775807, 0))
  | 54 => .inr (2, 40, .inl (0, 1, 0))
  | 55 => .inr (0, 40, .inl (0, 39, 0))
  | 56 => .inr (0, 4, .inl (0, 40, 0))
  | 57 => .inr (0, 3, .inl (0, 39, 0))
  | 58 => .inl (6, [.inr (.inr (.inr 45)), .inr (.inr (.inr 59)), .inr (.inr (.inr 63)), .inr (.inr (.inr 0)), .inr (.inr (.inr 2)), .inr (.inr (.inr 2)), .inr (.inr (.inr 2)), .inr (.inr (.inr 2))])
  | 59 => .inl (2, [.inr (.inr (.inr 60)), .inr (.inr (.inr 61)), .inr (.inr (.inr 62)), .inr (.inr (.inr 0)), .inr (.inr (.inr 0)), .inr (.inr (.inr 2)), .inr (.inr (.inr 2)), .inl (27, false)])
  | 60 => .inr (3, 600, .inr (.inl 0))
  | 61 => .inr (3, 24, .inr (.inl 0))
  | 62 => .inr (0, 24, .inl ((-2147483648), 2147483647, 0))
  | 63 => .inr (0, 24, .inl ((-2147483648), 2147483647, 0))
  | 64 => .inl (1, [.inr (.inl (0, 1)), .inr (.inr (.inr 65)), .inr (.inr (.inr 66)), .inr (.inr (.inr 67)), .inr (.inr (.inr 0)), .inl (28, false), .inl (29, true), .inl (30, true)])
  | 65 => .inr (0, 24, .inr (.inr 1))
  | 66 => .inr (2, 24, .inl (0, 1, 0))
  | 67 => .inr (3, 24, .inr (.inl 0))
  | 68 => .inl (1, [.inr (.inl (0, 1)), .inr (.inr (.inr 69)), .inr (.inr (.inr 70)), .inr (.inr (.inr 71)), .inr (.inr (.inr 0)), .inl (31, false), .inl (32, true), .inl (33, true)])
  | 69 => .inr (0, 24, .inr (.inr 2))
  | 70 => .inr (2, 24, .inl (0, 1, 0))
  | 71 => .inr (3, 24, .inr (.inl 0))
  | 72 => .inl (11, [.inr (.inr (.inr 45)), .inr (.inr (.inr 73)), .inr (.inr (.inr 74)), .inr (.inr (.inr 8)), .inr (.inr (.inr 8)), .inr (.inr (.inr 8)), .inr (.inr (.inr 0)), .inr (.inr (.inr 0)), .inr (.inr (.inr 0)), .inr (.inr (.inr 0))])
  | 73 => .inr (3, 24, .inr (.inl 8))
  | 74 => .inr (3, 24, .inr (.inl 8))
  | 75 => .inl (7, [.inr (.inr (.inr 8)), .inr (.inr (.inr 8)), .inr (.inr (.inr 8)), .inr (.inr (.inr 8)), .inr (.inr (.inr 8))])
  | 76 => .inr (3, 24, .inr (.inl 4))
  | 77 => .inr (3, 24, .inr (.inl 4))
  | _ => .inl (999, [])
def hv_T (kof : Nat → Nat) (own : Nat → Prop) : hw_T := (hv_KT, kof, own)
