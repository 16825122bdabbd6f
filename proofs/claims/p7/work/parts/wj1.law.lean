/-! the law out of the small machine -/
def pg_sq (g : Nat) : Bool := (pg_plr (pg_pc g)).all (fun q => match q.2.1 with
  | .inr (.inr (.inr (.inr (.inr k)))) => !(decide (0 < k ∧ k < 2000)) || decide ((pg_own g, q.1, k) ∈ pg_sr)
  | _ => true)
theorem pg_sqs : (List.range 282).all pg_sq = true := by decide +kernel
set_option maxRecDepth 20000 in
theorem pg_sqa (g : Nat) : pg_sq g = true := by
  by_cases h : g < 282
  · exact List.all_eq_true.mp pg_sqs g (List.mem_range.mpr h)
  · obtain ⟨k, rfl⟩ : ∃ k, g = k + 281 := ⟨g - 281, by omega⟩
    have e1 : pg_pc (k + 281) = pg_pc 281 := rfl
    have e2 : pg_own (k + 281) = pg_own 281 := rfl
    have h := List.all_eq_true.mp pg_sqs 281 (List.mem_range.mpr (by decide))
    unfold pg_sq at h ⊢
    rw [e1, e2]
    exact h
section PL28
variable {D : va_G} {tys : List (ClassId × FieldType)} {B : Nat} {ex : Nat → Nat} {scr : Nat × (Nat → Int32)}
theorem pg_EF : mm_EF pg_Ts pg_cl pg_aT pg_TT pg_G D tys B ex pg_own scr (pg_E D pg_cl tys B ex scr pg_AO pg_sr 41 pg_nc) := by
  intro U h
  obtain ⟨h1, h2, h3, h4, h5, h6, ⟨h7, h8⟩, h9, h10, h11⟩ := h
  refine ⟨h2, fun k hk ty ht => ?_, fun ty ht a => h3 ty ht, h5, fun C hC j j1 j2 => ?_, fun g x k hp k0 k1 => ?_, h11⟩
  · match k, hk, ht with
    | 0, hk, _ => omega
    | 1, hk, _ => omega
    | 2, hk, _ => omega
    | 3, _, ht => cases ht; exact ⟨_, rfl, fun a => va_AO.use (h4 _ (by simp [pg_AO])), fun r hr => by cases hr; rfl⟩
    | 4, _, ht => cases ht; exact ⟨_, rfl, fun a => va_AO.use (h4 _ (by simp [pg_AO])), fun r hr => by cases hr; rfl⟩
    | 5, _, ht => cases ht; exact ⟨_, rfl, fun a => va_AO.use (h4 _ (by simp [pg_AO])), fun r hr => by cases hr⟩
    | k + 6, _, ht => cases ht
  · cases hC
    exact ⟨h7 j j1 j2, h8⟩
  · replace hp : pg_pool (pg_plr (pg_pc g)) x = some _ := hp
    obtain ⟨w, hw⟩ := pg_pool_in hp
    have hq := List.all_eq_true.mp (pg_sqa g) _ hw
    exact h6 (pg_own g, x, k) (im_b hq ⟨k0, k1⟩)
theorem pg_tx (g : Nat) (h : ∃ pc ec, mm_thr pg_G g pc = some ec) : pg_hh g = [] := by
  obtain ⟨pc, ec, h⟩ := h
  replace h : (pg_thr g).lookup pc = some ec := h
  unfold pg_thr at h
  split at h
  all_goals first | rfl | (cases h)
theorem pg_thct {l : Launch} (hoff : ∀ e, l.admits e → e.platform.stackTraces = false) (d g : Nat) (p : Program) (e : Env) (s : State) (m : MethodId) (args : Array Value) (below : List Frame) (meth : Method) (c : Code) (S0 : mm_S) (hE : pg_E D pg_cl tys B ex scr pg_AO pg_sr 41 pg_nc s)
    (F : mm_Fix p (mm_rm pg_TT (d + 1) S0) s m args meth c D pg_cl tys B ex S0 (mm_nl pg_G g) (pg_cc g) pg_Ts pg_aT pg_TT (pg_own g) (mm_oc pg_G g) (mm_pool pg_G g) (mm_ini pg_G g) scr) (htab : c.exceptionTable.toList.map (fun h => (h.startPc, h.endPc, h.handlerPc, h.catchType)) = pg_hh g) :
    mm_Thr p l e (mm_rm pg_TT (d + 1) S0) s m args below meth c pg_G pg_TT D pg_cl tys (mm_phi B ex) B S0 g ∧ mm_Cat p l e (mm_rm pg_TT (d + 1) S0) s m args below meth c pg_G D pg_cl g := by
  refine ⟨mm_thr_sound F (pg_th g) (hoff e) (pg_zw hE) (fun hq => ?_), mm_cat_sound F (pg_ct g) hE.2.2.2.2.2.2.2.2.1 htab (fun ha => by rw [ha.platform])⟩
  rw [pg_tx g hq] at htab
  exact List.map_eq_nil_iff.mp htab
theorem pg_sound {l : Launch} (hoff : ∀ e, l.admits e → e.platform.stackTraces = false) (haT : ∀ k ty, pg_aT[k]? = some ty → tys[k]? = some (mm_aC tys k, ty)) (hX0 : ex 0 < B) :
    ∀ (d g : Nat) (as : List Value) (S : mm_S) (Q : mm_O → mm_S → Prop), mm_ex pg_G pg_TT scr d g as S Q → mm_Con l pg_yn pg_cc pg_hh pg_G pg_TT D pg_cl tys (mm_phi B ex) B (pg_E D pg_cl tys B ex scr pg_AO pg_sr 41 pg_nc) d g as S Q :=
  mm_sound (pg_EE hX0) pg_EF pg_clOK haT ⟨rfl, rfl, rfl, rfl, rfl⟩ (by decide) hX0 pg_MOK (fun d g en hen p e s m args below meth c S0 hE F htab => pg_thct hoff d g p e s m args below meth c S0 hE F htab)
end PL28
theorem pg_less {R R' : Room} (h1 : R'.frames ≤ R.frames) (h2 : R'.cells ≤ R.cells) (h3 : R'.slots ≤ R.slots) (h4 : R'.locals ≤ R.locals) {s : State} {pl : Platform} (h : s.hasRoom pl R = true) : s.hasRoom pl R' = true := by
  unfold State.hasRoom at h ⊢
  simp only [Bool.and_eq_true, decide_eq_true_eq] at h ⊢
  obtain ⟨⟨⟨⟨a1, a2, a3, a4, a5, a6⟩, a7⟩, a8⟩, a9⟩ := h
  exact ⟨⟨⟨⟨by omega, by omega, by omega, by omega, by omega, a6⟩, by omega⟩, by omega⟩, a9⟩
theorem pg_fr {s t : State} {L : List Loc} {k n k' n' : Nat} (h : s.sameButNew t L k n) (hL : ∀ q ∈ L, s.heap.size ≤ q.base) (hk : k ≤ k') (hn : n ≤ n') : s.sameButNew t [] k' n' := by
  obtain ⟨h1, h2, h3, h4, h5, h6⟩ := h
  refine ⟨h1, h2, Nat.le_trans h3 (by omega), h4, Nat.le_trans h5 hn, fun a c hc => ?_⟩
  obtain ⟨c', q1, q2, q3, q4⟩ := h6 a c hc
  refine ⟨c', q1, q2, q3, fun i _ => q4 i (fun hm => ?_)⟩
  have hb := hL _ hm
  have hlt : a < s.heap.size := (Array.getElem?_eq_some_iff.mp hc).1
  exact absurd hb (Nat.not_le_of_lt hlt)
set_option maxHeartbeats 4000000 in
/-- the law's walk out of a run of the small machine -/
theorem pg_law {p : Program} {e : Env} {s : State} {m : MethodId} {below : List Frame} {meth : Method} {c : Code} (l : Launch) (hoff : ∀ e, l.admits e → e.platform.stackTraces = false) {b L : Nat} {xs : Nat → Int32}
    (hx : p.tables.exec = Jvm.exec) (hb : c.code = code) (hr : meth.sig.returnType = ret) (hml : c.maxLocals = 7) (hown : s.vm.findClass "MarkovDeskLaw" = some m.cls) (hts : ∀ w ∈ lw_tbl, w.before #[Value.ref b] s = true) (hX : va_X b L xs s s.heap) (hL : L ≤ 3072) (hbl : b < s.heap.size) (hlk : meth.locks = false) (hgv : (Jvm.Cond.and given_1 narrow_1).before #[Value.ref b] s = true)
    (htab : c.exceptionTable.toList = [])
    (hrun : ∀ ys : Nat → Int32, (∀ j, j < L → ys j = xs j) → mm_ex pg_G pg_TT (L, ys) 1001 281 [.ref mm_big] pg_S0 (fun o S => o = .inl (some (.int 1)) ∧ S.1 ≤ 601024 ∧ S.2.1 ≤ 7293034)) :
    W p l e room_1 s m #[Value.ref b] below meth c s.heap [] 0 0 (fun t => ∃ o, t.status = .running ∧ Ended t below o ∧ o = .returned (some (.int 1)) ∧ Framed s o t [] 601024 7293034) (entryFrame m ([Value.ref b] : List Value).toArray 7) := by
  obtain ⟨D, tys, ex, fm, h0, haT, hE⟩ := pg_start hts hgv hX hL
  have hX0 : ex 0 < s.heap.size := by rw [h0]; exact hbl
  obtain ⟨hlen, n, hw⟩ := hrun (fun j => if j = mm_big then fm else xs j) (fun j hj => by
    have : ¬ j = mm_big := by
      unfold mm_big
      omega
    (try dsimp only)
    rw [if_neg this])
  have hphi : mm_phi s.heap.size ex mm_big = b := by
    unfold mm_phi
    rw [if_neg (Nat.lt_irrefl _), Nat.sub_self]
    exact h0
  have hargs : (([.ref mm_big] : List Value).map (mm_tv (mm_phi s.heap.size ex))) = [Value.ref b] := by
    show [Value.ref (mm_phi s.heap.size ex mm_big)] = _
    rw [hphi]
  obtain ⟨f1, f2, f3, f4, f6, f5, f7⟩ := pg_EF s hE
  obtain ⟨o1, o2, o3, op2, o4, o5, o6⟩ := pg_MOK 281 _ rfl
  have hT : ∀ w ∈ pg_Ts, w.before #[Value.ref b] s = true := fun w hw => hts w (List.mem_filter.mp hw).1
  have F : mm_Fix p (mm_rm pg_TT (1000 + 1) pg_S0) s m #[Value.ref b] meth c D pg_cl tys s.heap.size ex pg_S0 (mm_nl pg_G 281) (pg_cc 281) pg_Ts pg_aT pg_TT (pg_own 281) (mm_oc pg_G 281) (mm_pool pg_G 281) (mm_ini pg_G 281) (L, fun j => if j = mm_big then fm else xs j) :=
    ⟨⟨hx, hb, hml, hown, hlk, fun hi => by cases hi⟩, ⟨hT, f1, pg_clOK, o2⟩, ⟨haT, ⟨rfl, rfl, rfl, rfl, rfl⟩, fun k hk ty ht => by obtain ⟨C, h1, h2, h3⟩ := f2 k hk ty ht; exact ⟨C, h1, h2 _, h3⟩⟩, fun ty ht => f3 ty ht _, ⟨rfl, rfl, rfl, by decide⟩, f4, hX0, f6⟩
  obtain ⟨t1, t2⟩ := pg_thct (below := below) hoff 1000 281 p e s m #[Value.ref b] meth c pg_S0 hE F (by rw [htab]; rfl)
  have key := mm_wp_sound F (fun x k h k0 k1 => f5 281 x k h k0 k1) f7 op2 (pg_EE hX0) hE rfl hr o1 o3 (pg_sound hoff haT hX0 1000) t2 t1 n _ hw
  have key2 := key _ s.heap [] (mm_entry_has hlen) hlen (fun k q hq => by cases hq) va_S.rf ⟨Nat.le_refl _, Nat.zero_le _⟩ (Nat.le_refl _)
  intro T hT0 X
  have X' : Stand p l e (mm_rm pg_TT (1000 + 1) pg_S0) s m #[Value.ref b] below meth c T [] 0 0 := { X with room := pg_less (by decide) (by decide) (by decide) (by decide) X.room }
  obtain ⟨t, a1, o, S', hQ, hrn, hend, hW, hPt, hS1, hS2, hlow, Lc, hsame, hL⟩ := key2 T hT0 X'
  obtain ⟨rfl, hk, hn⟩ := hQ
  refine ⟨t, ?_, .returned (some (.int 1)), hrn, hend, rfl, ⟨_, rfl⟩, hW, pg_fr hsame hL (by show S'.1 - 0 ≤ _; omega) (by show S'.2.1 - 0 ≤ _; omega)⟩
  rw [← hargs, lg_entry_eq]
  exact a1
