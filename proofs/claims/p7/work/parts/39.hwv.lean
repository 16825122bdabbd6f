/-! the abstract machine's walks are the small machine's -/
section HWV
variable {TT : mm_T} {T : hw_T} {P : Nat → Option hw_P} {pool : Nat → Option mm_P} {ini : Bool} {oc : Nat} {scr : Nat × (Nat → Int32)} {pc nx tg : Nat} {L : hw_L} {st : List hw_V} {Z : hw_Z} {w : hw_K → Prop} {M : mm_L} {us : List Value} {S : mm_S}
theorem hw_to_t1 {i : Instr} (hR : hw_RS T Z S) (h : hw_to T S Z w (mm_st0 i pc nx tg M us S)) : hw_t1 T S w (mm_stp TT ini oc pool scr i pc nx tg M us S) := by
  obtain ⟨pc', M', us', L', st', e, h1, h2, h3⟩ := h
  refine ⟨pc', M', us', S, L', st', Z, ?_, h1, h2, hR, hw_el_rf _ _, h3⟩
  unfold mm_stp
  rw [e]
theorem hw_m_ok (hU : hw_U T) (hR : hw_RS T Z S) (hP : hw_pk P pool) {i : Instr} (h : hw_m TT T P i pc nx tg L st Z w) (hL : hw_ls T L M) (hs : hw_st T st us) : hw_t1 T S w (mm_stp TT ini oc pool scr i pc nx tg M us S) := by
  cases i
  case getfield x =>
    unfold hw_m at h
    dsimp only at h
    split at h
    · rename_i ci p hx
      exact hw_stp1 rfl (hw1_getfield (pool := pool) (ini := ini) (oc := oc) (scr := scr) hU hR hP hx h hL hs)
    · rename_i k hx
      exact hw2_getfield (TT := TT) (pool := pool) (ini := ini) (oc := oc) (scr := scr) hP hR hx h hL hs
    · exact h.elim
  case getstatic x => exact hw2_getstatic (pool := pool) (ini := ini) (oc := oc) (scr := scr) hP hR h hL hs
  case instanceof x => exact hw2_instanceof (pool := pool) (ini := ini) (oc := oc) (scr := scr) hP hR h hL hs
  case checkcast x => exact hw2_checkcast (pool := pool) (ini := ini) (oc := oc) (scr := scr) hP hR h hL hs
  case putfield x => exact hw_stp1 rfl (hw1_putfield (pool := pool) (ini := ini) (oc := oc) (scr := scr) hU hR hP h hL hs)
  case iaload => exact hw_stp1 rfl (hw1_iaload (pool := pool) (ini := ini) (oc := oc) (scr := scr) hR h hL hs)
  case baload => exact hw2_baload (pool := pool) (ini := ini) (oc := oc) (scr := scr) hR h hL hs
  case laload => exact hw_stp1 rfl (hw1_laload (pool := pool) (ini := ini) (oc := oc) (scr := scr) hR h hL hs)
  case aaload => exact hw_stp1 rfl (hw1_aaload (pool := pool) (ini := ini) (oc := oc) (scr := scr) hR h hL hs)
  case iastore => exact hw_stp1 rfl (hw1_iastore (pool := pool) (ini := ini) (oc := oc) (scr := scr) hU hR h hL hs)
  case bastore => exact hw_stp1 rfl (hw1_bastore (pool := pool) (ini := ini) (oc := oc) (scr := scr) hU hR h hL hs)
  case lastore => exact hw_stp1 rfl (hw1_lastore (pool := pool) (ini := ini) (oc := oc) (scr := scr) hU hR h hL hs)
  case arraylength => exact hw2_arraylength (pool := pool) (ini := ini) (oc := oc) (scr := scr) hU hR h hL hs
  case ldc x => exact hw_stp1 rfl (hw1_ldc (pool := pool) (ini := ini) (oc := oc) (scr := scr) hR hP h hL hs)
  case ldc_w x => exact hw_stp1 rfl (hw1_ldc_w (pool := pool) (ini := ini) (oc := oc) (scr := scr) hR hP h hL hs)
  case ldc2_w x => exact hw_stp1 rfl (hw1_ldc2_w (pool := pool) (ini := ini) (oc := oc) (scr := scr) hR hP h hL hs)
  case if_acmp o off =>
    replace h : hw_acs TT T o st (fun st => w (tg, L, st, Z)) (fun st => w (nx, L, st, Z)) := h
    unfold hw_acs at h
    split at h
    · rename_i k i k' i' r
      cases hk : Nat.beq k 1000000 && Nat.beq k' 1000000 with
      | false =>
        rw [hk, cond_false] at h
        exact hw_to_t1 hR (hw1_if_acmp hU hR h hL hs)
      | true =>
        rw [hk, cond_true] at h
        rw [Bool.and_eq_true] at hk
        exact hw2_if_acmp (pool := pool) (ini := ini) (oc := oc) (scr := scr) hR rfl hk h hL hs
    · exact h.elim
  case tableswitch => exact hw_to_t1 hR (hw1_tableswitch h hL hs)
  case lookupswitch => exact hw_to_t1 hR (hw1_lookupswitch h hL hs)
  all_goals exact h.elim
end HWV
theorem mm_body_lcmp {G : mm_G} {TT : mm_T} {scr : Nat × (Nat → Int32)} {X : mm_XR} {f : Nat} {Q : mm_O → mm_S → Prop} {w : mm_Kf → Prop} {pc nx tg : Nat} {M : mm_L} {us : List Value} {S : mm_S} {k : mm_Kf} (h : mm_thr G f pc = none) (hk : mm_st0 .lcmp pc nx tg M us S = some k) (hw : w k) : mm_body G TT scr X f Q w pc M us S (some (.lcmp, nx, tg)) := by
  unfold mm_body
  dsimp only
  rw [h]
  dsimp only
  rw [hk]
  exact hw
theorem mm_body_if {G : mm_G} {TT : mm_T} {scr : Nat × (Nat → Int32)} {X : mm_XR} {f : Nat} {Q : mm_O → mm_S → Prop} {w : mm_Kf → Prop} {pc nx tg : Nat} {M : mm_L} {us : List Value} {S : mm_S} {k : mm_Kf} {o : ClassFile.Cond} {off : Int} (h : mm_thr G f pc = none) (hk : mm_st0 (.ifCond o off) pc nx tg M us S = some k) (hw : w k) : mm_body G TT scr X f Q w pc M us S (some (.ifCond o off, nx, tg)) := by
  unfold mm_body
  dsimp only
  rw [h]
  dsimp only
  rw [hk]
  exact hw
section HWW
variable {G : mm_G} {TT : mm_T} {scr : Nat × (Nat → Int32)} {T : hw_T} {D : hw_D} {d f : Nat} {K : Option hw_V → hw_Z → Prop} {E : Nat → hw_Z → Prop}
theorem hw_W_go {S : mm_S} {Q : mm_O → mm_S → Prop} (hroom : hw_room TT S) (hK : ∀ r v Z' S', K r Z' → hw_vo T r v → hw_RS T Z' S' → hw_el T S S' → Q (.inl v) S') (hE : ∀ ec Z' S', E ec Z' → hw_RS T Z' S' → hw_el T S S' → Q (.inr (ec, S'.1)) (mm_add S' 6 (.inr (ec, []))))
    {pc : Nat} {L : hw_L} {st : List hw_V} {Z : hw_Z} {M : mm_L} {us : List Value} {S' : mm_S} (h : hw_W G TT scr T d f K E (pc, L, st, Z)) (hL : hw_ls T L M) (hs : hw_st T st us) (hR : hw_RS T Z S') (he : hw_el T S S') : ∃ n, mm_wp G TT scr (mm_ex G TT scr d) f Q n (pc, M, us, S') :=
  h M us S' Q hL hs hR (by unfold hw_room; rw [he.1, he.2.1]; exact hroom) (fun r v Z' S'' h1 h2 h3 h4 => hK r v Z' S'' h1 h2 h3 (hw_el_tr he h4)) (fun ec Z' S'' h1 h2 h3 => hE ec Z' S'' h1 h2 (hw_el_tr he h3))
set_option maxHeartbeats 4000000 in
theorem hw_step (hU : hw_U T) (hD : hw_DG D G) {k : hw_K} (h : hw_body D TT T (fun g as Z K E => hw_C G TT scr T d g as Z K E) f K E (hw_W G TT scr T d f K E) k) : hw_W G TT scr T d f K E k := by
  obtain ⟨pc, L, st, Z⟩ := k
  intro M us S Q hL hs hR hroom hK hE
  replace hL : hw_ls T L M := hL
  replace hs : hw_st T st us := hs
  replace hR : hw_RS T Z S := hR
  unfold hw_body at h
  dsimp only at h
  cases hc : D.1 f pc with
  | none => rw [hc] at h; exact h.elim
  | some e =>
    obtain ⟨i, nx, tg⟩ := e
    rw [hc] at h
    obtain ⟨hcode, hthr, hhnd⟩ := hD.1 f pc _ hc
    have hinf := hD.2.2.1
    have hrt := hD.2.2.2 f
    have go : ∀ {n : Nat}, mm_body G TT scr (mm_ex G TT scr d) f Q (mm_wp G TT scr (mm_ex G TT scr d) f Q n) pc M us S (some (i, nx, tg)) → ∃ n, mm_wp G TT scr (mm_ex G TT scr d) f Q n (pc, M, us, S) := by
      intro n hn
      refine ⟨n + 1, ?_⟩
      show mm_body G TT scr (mm_ex G TT scr d) f Q (mm_wp G TT scr (mm_ex G TT scr d) f Q n) pc M us S (mm_code G f pc)
      rw [hcode]
      exact hn
    have call : ∀ g, hw_cl D TT T (fun g as Z K E => hw_C G TT scr T d g as Z K E) g nx L st Z (hw_W G TT scr T d f K E) E → ∃ n, mm_cl G TT (mm_ex G TT scr d) f g (mm_wp G TT scr (mm_ex G TT scr d) f Q n) Q pc nx M us S := by
      intro g hg
      have hi := hinf g
      simp only [Prod.mk.injEq] at hi
      obtain ⟨i1, i2, i3, i4, i5⟩ := hi
      unfold hw_cl at hg
      obtain ⟨b1, hg⟩ := hw_bif hg
      simp only [Bool.and_eq_true] at b1
      obtain ⟨b1, b2⟩ := b1
      replace hg := hw_nl_of hg
      rw [← i3] at b1 b2 hg
      obtain ⟨c3, hg⟩ := hw_rk_ok hR (hw_st_rev (hw_st_take (mm_na' G g) hs)) hg
      rw [← i1, ← i5] at c3
      replace hg := hw_nl_of hg
      have b1 := Nat.le_of_ble_eq_true b1
      have b2 := Nat.le_of_ble_eq_true b2
      have hx := hg _ S (fun o S' => match o with
        | .inl v => ∃ n, mm_wp G TT scr (mm_ex G TT scr d) f Q n (nx, M, v.toList ++ us.drop (mm_na' G g), S')
        | .inr (ec, a) => Q (.inr (ec, a)) S') (hw_st_rev (hw_st_take (mm_na' G g) hs)) hR hroom
        (fun r v Z' S' h1 h2 h3 h4 => by
          refine hw_W_go hroom hK hE h1 hL ?_ h3 h4
          cases r with
          | none =>
            have h2 : v = none := h2
            subst h2
            exact hw_st_drop _ hs
          | some a =>
            obtain ⟨u, rfl, hu⟩ := h2
            exact hw_st_v hu (hw_st_drop _ hs))
        (fun ec Z' S' h1 h2 h3 => hE ec Z' S' h1 h2 h3)
      obtain ⟨o, S', hq, hx'⟩ := mm_ex_det _ _ _ _ _ hx
      have c0 : S.1 ≤ mm_lc TT ∧ S.2.1 ≤ mm_lsl TT := ⟨Nat.le_of_succ_le hroom.1, Nat.le_trans (Nat.le_add_right _ _) hroom.2⟩
      have c1 : mm_na' G g ≤ us.length := by rw [hw_st_len hs]; exact b1
      have c2 : ((us.drop (mm_na' G g)).map Value.category).sum ≤ 8 := by rw [hw_st_cat (hw_st_drop _ hs)]; exact b2
      rcases o with v | ⟨ec, a⟩
      · obtain ⟨n, hn⟩ := hq
        refine ⟨n, c0, c1, c2, c3, mm_ex_mono _ _ _ _ _ _ (fun o2 S2 e => ?_) hx'⟩
        obtain ⟨rfl, rfl⟩ := e
        exact hn
      · refine ⟨0, c0, c1, c2, c3, mm_ex_mono _ _ _ _ _ _ (fun o2 S2 e => ?_) hx'⟩
        obtain ⟨rfl, rfl⟩ := e
        dsimp only
        rw [hhnd ec]
        exact hq
    have key : (match D.2.2.1 f pc with
        | some ec => bif Nat.ble (st.map hw_cat).sum 8 then E ec Z else False
        | none => bif hw_im i then hw_m TT T (D.2.1 f) i pc nx tg L st Z (hw_W G TT scr T d f K E) else hw_i0 i pc nx tg L st Z (hw_W G TT scr T d f K E)) → ∃ n, (match mm_thr G f pc with
        | some ec => S.1 + 1 ≤ mm_lc TT ∧ S.2.1 + 6 ≤ mm_lsl TT ∧ (us.map Value.category).sum ≤ 8 ∧ Q (.inr (ec, S.1)) (mm_add S 6 (.inr (ec, [])))
        | none => match mm_st0 i pc nx tg M us S with
          | some k => mm_wp G TT scr (mm_ex G TT scr d) f Q n k
          | none => match mm_st1 TT (mm_ini G f) (mm_oc G f) (mm_pool G f) scr i nx M us S with
            | some k => mm_wp G TT scr (mm_ex G TT scr d) f Q n k
            | none => match mm_st2 TT (mm_pool G f) scr i nx tg M us S with
              | some k => mm_wp G TT scr (mm_ex G TT scr d) f Q n k
              | none => False) := by
      intro h
      rw [hthr]
      cases ht : D.2.2.1 f pc with
      | some ec =>
        rw [ht] at h
        obtain ⟨b1, h⟩ := hw_bif h
        exact ⟨0, hroom.1, hroom.2, by rw [hw_st_cat hs]; exact Nat.le_of_ble_eq_true b1, hE ec Z S h hR (hw_el_rf _ _)⟩
      | none =>
        rw [ht] at h
        have h1 : hw_t1 T S (hw_W G TT scr T d f K E) (mm_stp TT (mm_ini G f) (mm_oc G f) (mm_pool G f) scr i pc nx tg M us S) := by
          cases hi : hw_im i with
          | true =>
            rw [hi] at h
            exact hw_m_ok hU hR (hD.2.1 f) h hL hs
          | false =>
            rw [hi] at h
            exact hw_to_t1 hR (hw_i0_ok h hL hs)
        obtain ⟨pc', M', us', S', L', st', Z', e, g1, g2, g3, g4, g5⟩ := h1
        obtain ⟨n, hn⟩ := hw_W_go hroom hK hE g5 g1 g2 g3 g4
        refine ⟨n, ?_⟩
        unfold mm_stp at e
        dsimp only
        cases h0 : mm_st0 i pc nx tg M us S with
        | some k' =>
          rw [h0] at e
          cases e
          exact hn
        | none =>
          rw [h0] at e
          dsimp only at e ⊢
          cases h1 : mm_st1 TT (mm_ini G f) (mm_oc G f) (mm_pool G f) scr i nx M us S with
          | some k' =>
            rw [h1] at e
            cases e
            exact hn
          | none =>
            rw [h1] at e
            dsimp only at e ⊢
            rw [e]
            exact hn
    cases i
    case return_ =>
      dsimp only at h
      split at h
      · rename_i hr
        have hs : us = [] := hs
        exact go (n := 0) ⟨hs, hrt.1 hr, hK none none Z S h rfl hR (hw_el_rf _ _)⟩
      · exact h.elim
    case ireturn =>
      dsimp only at h
      split at h
      · rename_i x hr
        obtain ⟨_, _, rfl, ⟨a, rfl, rfl⟩, hn⟩ := hs
        have hn : _ = [] := hn
        subst hn
        exact go (n := 0) ⟨a, rfl, ⟨_, hrt.2.1 hr, rfl⟩, hK _ _ Z S h ⟨_, rfl, a, rfl, rfl⟩ hR (hw_el_rf _ _)⟩
      · rename_i x hr
        obtain ⟨_, _, rfl, ⟨a, rfl, rfl⟩, hn⟩ := hs
        have hn : _ = [] := hn
        subst hn
        exact go (n := 0) ⟨a, rfl, ⟨_, hrt.2.2.1 hr, hw_nz h.1⟩, hK _ _ Z S h.2 ⟨_, rfl, a, rfl, rfl⟩ hR (hw_el_rf _ _)⟩
      · rename_i x hr
        obtain ⟨_, _, rfl, ⟨a, rfl, rfl⟩, hn⟩ := hs
        have hn : _ = [] := hn
        subst hn
        exact go (n := 0) ⟨a, rfl, ⟨_, hrt.2.2.2.2.2.1 hr, hw_nb h.1⟩, hK _ _ Z S h.2 ⟨_, rfl, a, rfl, rfl⟩ hR (hw_el_rf _ _)⟩
      · rename_i x hr
        obtain ⟨_, _, rfl, ⟨a, rfl, rfl⟩, hn⟩ := hs
        have hn : _ = [] := hn
        subst hn
        exact go (n := 0) ⟨a, rfl, ⟨_, hrt.2.2.2.2.2.2 hr, hw_nc h.1⟩, hK _ _ Z S h.2 ⟨_, rfl, a, rfl, rfl⟩ hR (hw_el_rf _ _)⟩
      · exact h.elim
    case lreturn =>
      dsimp only at h
      split at h
      · rename_i x hr
        obtain ⟨_, _, rfl, ⟨a, rfl, rfl⟩, hn⟩ := hs
        have hn : _ = [] := hn
        subst hn
        exact go (n := 0) ⟨a, rfl, hrt.2.2.2.1 hr, hK _ _ Z S h ⟨_, rfl, a, rfl, rfl⟩ hR (hw_el_rf _ _)⟩
      · exact h.elim
    case areturn =>
      dsimp only at h
      split at h
      · rename_i x hr
        obtain ⟨_, _, rfl, hv, hn⟩ := hs
        have hv0 := hv
        obtain ⟨a, rfl, -⟩ := hv0
        have hn : _ = [] := hn
        subst hn
        exact go (n := 0) ⟨a, rfl, hrt.2.2.2.2.1 hr, hK _ _ Z S h ⟨_, rfl, hv⟩ hR (hw_el_rf _ _)⟩
      · exact h.elim
    case invokespecial x => exact h.elim
    case lcmp =>
      dsimp only at h
      split at h
      · rename_i o off nx' tg' hc2 ht1 ht2
        obtain ⟨x, y, r, rfl, h⟩ := hw_j2_inv h
        obtain ⟨_, _, rfl, ⟨b, rfl, rfl⟩, _, us', rfl, ⟨a, rfl, rfl⟩, hr⟩ := hs
        obtain ⟨hcode2, hthr2, -⟩ := hD.1 f nx _ hc2
        have hz := hw_cmp a b
        have h2 : ∃ n, mm_wp G TT scr (mm_ex G TT scr d) f Q n (if mm_icmp o (lg_cmp a b) 0 = true then tg' else nx', M, us', S) := by
          have hb := hw_cb_br h
          have hi := hw_cn_ok o (lg_cmp a b) 0
          have h0 : (0 : Int32).toInt = 0 := rfl
          rw [h0] at hi
          have hxy : hw_cn o (lg_cmp a b).toInt 0 ↔ hw_cn o a.toInt b.toInt := by
            unfold hw_fm at hz
            generalize (lg_cmp a b).toInt = z at hz
            cases o <;> (dsimp only [hw_cn]; omega)
          by_cases e : mm_icmp o (lg_cmp a b) 0 = true
          · rw [if_pos e]
            exact hw_W_go hroom hK hE (hb.1 (hxy.mp (hi.mp e))) hL hr hR (hw_el_rf _ _)
          · rw [if_neg e]
            exact hw_W_go hroom hK hE (hb.2 (fun q => e (hi.mpr (hxy.mpr q)))) hL hr hR (hw_el_rf _ _)
        obtain ⟨n, hn⟩ := h2
        refine ⟨n + 2, ?_⟩
        show mm_body G TT scr (mm_ex G TT scr d) f Q (mm_wp G TT scr (mm_ex G TT scr d) f Q (n + 1)) pc M (.long b :: .long a :: us') S (mm_code G f pc)
        rw [hcode]
        refine mm_body_lcmp (hthr.trans ht1) (k := (nx, M, .int (lg_cmp a b) :: us', S)) rfl ?_
        show mm_body G TT scr (mm_ex G TT scr d) f Q (mm_wp G TT scr (mm_ex G TT scr d) f Q n) nx M (.int (lg_cmp a b) :: us') S (mm_code G f nx)
        rw [hcode2]
        refine mm_body_if (hthr2.trans ht2) ?_ hn
        rfl
      · exact h.elim
    case invokevirtual x =>
      dsimp only at h
      split at h
      · rename_i g hp
        obtain ⟨b1, h⟩ := hw_bif h
        rw [Bool.and_eq_true] at b1
        have hi := hinf (g + 1)
        simp only [Prod.mk.injEq] at hi
        obtain ⟨i1, i2, i3, i4, i5⟩ := hi
        rw [← i4, ← i5] at b1
        have hp : mm_pool G f x = some (.inr (.inl (g + 1))) := hD.2.1 f _ _ hp
        obtain ⟨n, hn⟩ := call (g + 1) h
        refine go (n := n) ?_
        unfold mm_body
        dsimp only
        rw [hp]
        exact ⟨by simpa using b1.1, by simpa using b1.2, hn⟩
      · exact h.elim
    case invokestatic x =>
      dsimp only at h
      split at h
      · rename_i g hp
        obtain ⟨b1, h⟩ := hw_bif h
        have hi := hinf (g + 1)
        simp only [Prod.mk.injEq] at hi
        obtain ⟨i1, i2, i3, i4, i5⟩ := hi
        rw [← i5] at b1
        have hp : mm_pool G f x = some (.inr (.inl (g + 1))) := hD.2.1 f _ _ hp
        obtain ⟨n, hn⟩ := call (g + 1) h
        refine go (n := n) ?_
        unfold mm_body
        dsimp only
        rw [hp]
        exact ⟨b1, hn⟩
      · rename_i hp
        obtain ⟨pc', M', us', S', L', st', Z', e, g1, g2, g3, g4, g5⟩ := hw2_copy (TT := TT) (tg := tg) hU hR (hD.2.1 f) hp h hL hs
        have hp : mm_pool G f x = some (.inr (.inr (.inr (.inr (.inr 0))))) := hD.2.1 f _ _ hp
        obtain ⟨n, hn⟩ := hw_W_go hroom hK hE g5 g1 g2 g3 g4
        refine go (n := n) ?_
        unfold mm_body
        dsimp only
        rw [hp]
        dsimp only
        rw [e]
        exact hn
      · exact h.elim
    all_goals (obtain ⟨n, hn⟩ := key h; exact go (n := n) hn)
end HWW
