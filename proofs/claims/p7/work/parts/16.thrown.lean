/-! the small machine's throws -/
section MT16
variable {p : Program} {l : Launch} {e : Env} {R : Room} {s : State} {m : MethodId} {args : Array Value} {below : List Frame} {meth : Method} {c : Code}
variable {cc : Nat → ByteArray} {G : mm_G} {TT : mm_T} {D : va_G} {cl : List vw_C} {tys : List (ClassId × FieldType)} {B : Nat} {ex : Nat → Nat} {Ts : List Jvm.Cond} {S0 : mm_S} {aT : List FieldType} {own : Nat → String} {scr : Nat × (Nat → Int32)}
/-- the words of Throwable's statics -/
def mm_zw : List Jvm.Cond := [.isRef (.static Bundle.tN "UNASSIGNED_STACK" Bundle.steD), .isRef (.static Bundle.tN "SUPPRESSED_SENTINEL" Bundle.listD), .laysStatic Bundle.tN "UNASSIGNED_STACK" Bundle.steD, .laysStatic Bundle.tN "SUPPRESSED_SENTINEL" Bundle.listD]
/-- what the program's data must say where the small machine throws -/
def mm_thOK (Ts : List Jvm.Cond) (cl : List vw_C) (G : mm_G) (cc : Nat → ByteArray) (own : Nat → String) (f : Nat) : Prop :=
  ∀ pc ec, mm_thr G f pc = some ec → ∃ (x ic : Nat) (r : vw_C) (names : List String), (decode (cc f) pc = .ok (.new x, 3) ∧ decode (cc f) (pc + 3) = .ok (.dup, 1) ∧ decode (cc f) (pc + 4) = .ok (.invokespecial ic, 3) ∧ decode (cc f) (pc + 7) = .ok (.athrow, 1)) ∧
    (cl[ec]? = some r ∧ r.2.2 = 0) ∧ (Jvm.Cond.classLink (own f) x r.1 ∈ Ts ∧ Jvm.Cond.instantiable r.1 6 ∈ Ts ∧ Jvm.Cond.initialized r.1 ∈ Ts) ∧ (Bundle.fit r.1 = true ∧ (∀ n ∈ names, Bundle.fit n = true) ∧ names.length ≤ 3) ∧
    ∀ w ∈ Bundle.ownAtoms0 (own f) ic r.1 names, w ∈ Ts ∨ w ∈ mm_zw
theorem mm_ws_vm {φ : Nat → Nat} {S : mm_S} {H : Heap} {k : Nat} {cell : Cell} (h2 : va_P D cl (mm_ws φ tys S) H) (hk : k < S.1) (hc : H[φ k]? = some cell) : cell.vm = .none := by
  have hat := h2 k _ (mm_ws_at (φ := φ) (tys := tys) hk)
  cases hE : S.2.2 k with
  | inl z =>
    rw [hE] at hat
    obtain ⟨k0, n, en⟩ := z
    rcases en with f | f | f | f | f <;> (have h9 : H[φ k]? = some _ := hat; rw [hc] at h9; cases h9; rfl)
  | inr z =>
    obtain ⟨ci, vs⟩ := z
    rw [hE] at hat
    obtain ⟨r2, hr2, cellB, q1, q2, q3, -⟩ := hat
    have q1 : H[φ k]? = some cellB := q1
    rw [hc] at q1
    cases q1
    exact q3
set_option maxHeartbeats 8000000 in
theorem mm_thr_sound {f d : Nat} (F : mm_Fix p (mm_rm TT (d + 1) S0) s m args meth c D cl tys B ex S0 (mm_nl G f) (cc f) Ts aT TT (own f) (mm_oc G f) (mm_pool G f) (mm_ini G f) scr) (hth : mm_thOK Ts cl G cc own f) (hoff : l.admits e → e.platform.stackTraces = false)
    (hz : ∀ w ∈ mm_zw, w.before args s = true) (hex : (∃ pc ec, mm_thr G f pc = some ec) → c.exceptionTable.toList = []) :
    mm_Thr p l e (mm_rm TT (d + 1) S0) s m args below meth c G TT D cl tys (mm_phi B ex) B S0 f := by
  intro Q pc ec L st S hthr hlc hls hsum hQ
  obtain ⟨x, ic, r, names, ⟨d1, d2, d3, d4⟩, ⟨hr, hr0⟩, ⟨l1, l2, l3⟩, ⟨f1, f2, f3⟩, hat⟩ := hth pc ec hthr
  obtain ⟨⟨hx, hb, hml, hown, hlk, hini⟩, ⟨hts, hK, hcl, hpl⟩, -, -, ⟨hB, hRc, hRs, hlcb⟩, -⟩ := F
  have hex := hex ⟨pc, ec, hthr⟩
  intro ls H locs h1 h0 h2 h3 h4 h5
  dsimp only at h1 h0 h2 h3 h4 h5 ⊢
  have h40 : S0.1 ≤ S.1 := h4.1
  have h50 : S0.2.1 ≤ S.2.1 := h5
  refine mm_sz fun hsz => ?_
  have hszge : B + S.1 ≤ H.size := by
    rcases Nat.eq_zero_or_pos S.1 with h | h
    · have := h3.1
      omega
    · have hl := (h2 (S.1 - 1) _ (mm_ws_at (φ := mm_phi B ex) (tys := tys) (S := S) (k := S.1 - 1) (by omega))).lt
      have hl' : mm_phi B ex (S.1 - 1) < H.size := hl
      rw [mm_phi_lt (by omega)] at hl'
      omega
  have hH : H.size = mm_phi B ex S.1 := by rw [mm_phi_lt (by omega)]; omega
  have hfc : s.vm.findClass r.1 = some (D.1 ec) := (hK.1 _ _ hr).2.1
  refine W.newcK (h := mm_phi B ex S.1) hx hb hown (hts _ l1) (hts _ l2) (hts _ l3) rfl d1 (by rw [hRc]; omega) (by rw [hRs]; omega) hfc hH (fun H' kC hkC hcell hsz' hold => ?_)
  refine lv_dup hx hb d2 rfl ?_
  intro T hT X
  have hlsz : ls.size = c.maxLocals := by rw [hml]; exact h1.1
  subst hT
  have hold2 : ∀ q, q < mm_phi B ex S.1 → T.heap[q]? = H[q]? := hold
  have hwords : ∀ w ∈ Bundle.ownAtoms0 (own f) ic r.1 names, w.before args s = true := by
    intro w hw
    rcases hat w hw with h | h
    · exact hts _ h
    · exact hz w h
  have hB1 : mm_phi B ex S.1 = B + S.1 := mm_phi_lt (by omega)
  have hlo : ∀ y ∈ locs, ∀ cell, s.heap[y.base]? = some cell → cell.vm.isStatics = false := by
    intro y hy cell hcy
    have key : ∀ yb : Nat, yb = y.base → B ≤ yb → yb < s.heap.size → cell.vm = .none := by
      intro yb hyb hyB hys
      obtain ⟨c', e1, e2, -⟩ := X.same.2.2.2.2.2 y.base cell hcy
      have e1 : T.heap[yb]? = some c' := by rw [hyb]; exact e1
      rw [hold2 _ (by omega)] at e1
      have hk : yb - B < S.1 := by omega
      have hph : mm_phi B ex (yb - B) = yb := by rw [mm_phi_lt (by omega)]; omega
      have hvm := mm_ws_vm h2 hk (by rw [hph]; exact e1)
      rw [e2] at hvm
      exact hvm
    rw [key y.base rfl (h3.2.2 y hy) (Array.getElem?_eq_some_iff.mp hcy).1]
    rfl
  have hmr := lv_room (m := m) (pc := pc) (ls := ls) (rest := st.map (mm_tv (mm_phi B ex))) (st := st.map (mm_tv (mm_phi B ex))) (by rw [mm_sum_tv]; exact hsum)
  obtain ⟨U, hst, hrun, hend, hWU, hsame, hszU, hoth, ce, hce, hcls, hvmc⟩ := mm_ctor0 (names := names) (ic := ic) (own := own f) (cls := r.1) (a := mm_phi B ex S.1) (rest := st.map (mm_tv (mm_phi B ex))) (g := F0 m (pc + 3 + 1) ls (Value.ref (mm_phi B ex S.1) :: Value.ref (mm_phi B ex S.1) :: st.map (mm_tv (mm_phi B ex)))) X hx (hoff X.admits) hown f1 f2 hwords hlo hfc hkC hcell (by omega) rfl hlsz rfl rfl rfl
    (by rw [hb]; exact d3) (by rw [hb]; exact d4) (fun y hy => by rw [hex] at hy; cases hy) (by show names.length + 3 < d + 1 + 8; omega) (by
      show 2 * JFrame.monitorRoom _ + _ + _ ≤ (d + 1) * 60 + 200
      simp only [List.map_cons, List.sum_cons]
      have h7 : (Value.ref (mm_phi B ex S.1)).category = 1 := rfl
      rw [h7]
      have h9 : ((st.map (mm_tv (mm_phi B ex))).map fun v => v.category).sum ≤ 8 := by rw [mm_sum_tv]; exact hsum
      omega) hlk
  have hS' : va_P D cl (mm_ws (mm_phi B ex) tys (mm_add S 6 (.inr (ec, [])))) U.heap := by
    intro k q hq
    have hkl : k < S.1 + 1 := by
      have := (List.getElem?_eq_some_iff.mp hq).1
      rwa [mm_ws_len] at this
    rw [mm_ws_at (S := mm_add S 6 (.inr (ec, []))) hkl] at hq
    cases hq
    rcases Nat.lt_or_ge k S.1 with hk | hk
    · have hne : k ≠ S.1 := by omega
      have e1 : (mm_add S 6 (.inr (ec, []))).2.2 k = S.2.2 k := by simp [mm_add, va_up, hne]
      rw [e1]
      have hat2 := h2 k _ (mm_ws_at (φ := mm_phi B ex) (tys := tys) hk)
      refine hat2.kept ?_
      show U.heap[mm_phi B ex k]? = H[mm_phi B ex k]?
      have n1 : mm_phi B ex k ≠ mm_phi B ex S.1 := by
        rw [hB1, mm_phi_lt (by omega)]
        intro h
        exact hne (Nat.add_left_cancel h)
      have n2 : mm_phi B ex k < mm_phi B ex S.1 := by
        rw [hB1, mm_phi_lt (by omega)]
        exact Nat.add_lt_add_left hk B
      rw [hoth _ n1, hold2 _ n2]
    · have hk : k = S.1 := by omega
      subst hk
      have e1 : (mm_add S 6 (.inr (ec, []))).2.2 S.1 = .inr (ec, []) := by simp [mm_add, va_up]
      rw [e1]
      exact ⟨r, hr, ce, hce, hcls, hvmc, fun k hk => by rw [hr0] at hk; omega⟩
  have g1 : S.1 - S0.1 + 1 = S.1 + 1 - S0.1 := by omega
  have g2 : S.2.1 - S0.2.1 + 6 = S.2.1 + 6 - S0.2.1 := by omega
  rw [g1, g2] at hsame
  refine ⟨U, hst, .inr (ec, S.1), mm_add S 6 (.inr (ec, [])), hQ, hrun, hend, hWU, hS', ⟨by show S0.1 ≤ S.1 + 1; omega, by show S.1 + 1 ≤ mm_big; omega⟩, by show S0.2.1 ≤ S.2.1 + 6; omega, fun q hq => ?_, locs, hsame, h3.2.2⟩
  have n1 : q ≠ mm_phi B ex S.1 := by
    intro h
    rw [h, hB1] at hq
    exact absurd hq (by omega)
  rw [hoth _ n1, hold2 _ (by rw [hB1]; exact Nat.lt_of_lt_of_le hq (Nat.le_add_right _ _))]
  exact h3.2.1 q (by omega) (by show ¬ B ≤ q; omega)
end MT16
