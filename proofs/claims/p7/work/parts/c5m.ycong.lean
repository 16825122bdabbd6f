/-! what a text says hangs on its octets alone -/
section YCG
variable {t t' : Int → Int} {n : Int}
def uqx (t t' : Int → Int) (n : Int) : Prop := 0 ≤ n ∧ ∀ i, 0 ≤ i → i < n → t i = t' i
theorem cg_cO (H : uqx t t' n) : cO t n = cO t' n := by
  funext i
  unfold cO
  by_cases h : 0 ≤ i ∧ i < n
  · rw [if_pos h, if_pos h]; exact H.2 i h.1 h.2
  · rw [if_neg h, if_neg h]
theorem cg_skf (H : uqx t t' n) : skf t n = skf t' n := by
  funext k
  induction k with
  | zero => rfl
  | succ k ih =>
    funext p r
    show skf t n (k + 1) p r = skf t' n (k + 1) p r
    unfold skf
    simp only [cg_cO H, ih]
theorem cg_sk (H : uqx t t' n) : sk t n = sk t' n := by
  funext p r
  unfold sk
  simp only [cg_cO H, cg_skf H]
theorem cg_nlf (H : uqx t t' n) : nlf t n = nlf t' n := by
  funext p k
  induction k with
  | zero => rfl
  | succ k ih =>
    funext j
    show nlf t n p (k + 1) j = nlf t' n p (k + 1) j
    unfold nlf
    simp only [cg_cO H, cg_skf H, cg_sk H, ih]
theorem cg_nli (H : uqx t t' n) : nli t n = nli t' n := by
  funext p k
  unfold nli
  simp only [cg_cO H, cg_skf H, cg_sk H, cg_nlf H]
theorem cg_nl (H : uqx t t' n) : nl t n = nl t' n := by
  funext p
  unfold nl
  simp only [cg_cO H, cg_skf H, cg_sk H, cg_nlf H, cg_nli H]
theorem cg_dgf (H : uqx t t' n) : dgf t n = dgf t' n := by
  funext k
  induction k with
  | zero => rfl
  | succ k ih =>
    funext q
    show dgf t n (k + 1) q = dgf t' n (k + 1) q
    unfold dgf
    simp only [cg_cO H, cg_skf H, cg_sk H, cg_nlf H, cg_nli H, cg_nl H, ih]
theorem cg_dg (H : uqx t t' n) : dg t n = dg t' n := by
  funext q
  unfold dg
  simp only [cg_cO H, cg_skf H, cg_sk H, cg_nlf H, cg_nli H, cg_nl H, cg_dgf H]
theorem cg_dvf (H : uqx t t' n) : dvf t n = dvf t' n := by
  funext p k
  induction k with
  | zero => rfl
  | succ k ih =>
    show dvf t n p (k + 1)  = dvf t' n p (k + 1) 
    unfold dvf
    simp only [cg_cO H, cg_skf H, cg_sk H, cg_nlf H, cg_nli H, cg_nl H, cg_dgf H, cg_dg H, ih]
theorem cg_dv (H : uqx t t' n) : dv t n = dv t' n := by
  funext p k
  unfold dv
  simp only [cg_cO H, cg_skf H, cg_sk H, cg_nlf H, cg_nli H, cg_nl H, cg_dgf H, cg_dg H, cg_dvf H]
theorem cg_nw (H : uqx t t' n) : nw t n = nw t' n := by
  funext p
  unfold nw
  simp only [cg_cO H, cg_skf H, cg_sk H, cg_nlf H, cg_nli H, cg_nl H, cg_dgf H, cg_dg H, cg_dvf H, cg_dv H]
theorem cg_nf (H : uqx t t' n) : nf t n = nf t' n := by
  funext p
  unfold nf
  simp only [cg_cO H, cg_skf H, cg_sk H, cg_nlf H, cg_nli H, cg_nl H, cg_dgf H, cg_dg H, cg_dvf H, cg_dv H, cg_nw H]
theorem cg_nsz (H : uqx t t' n) : nsz t n = nsz t' n := by
  funext p
  unfold nsz
  simp only [cg_cO H, cg_skf H, cg_sk H, cg_nlf H, cg_nli H, cg_nl H, cg_dgf H, cg_dg H, cg_dvf H, cg_dv H, cg_nw H, cg_nf H]
theorem cg_nkd (H : uqx t t' n) : nkd t n = nkd t' n := by
  funext p
  unfold nkd
  simp only [cg_cO H, cg_skf H, cg_sk H, cg_nlf H, cg_nli H, cg_nl H, cg_dgf H, cg_dg H, cg_dvf H, cg_dv H, cg_nw H, cg_nf H, cg_nsz H]
theorem cg_nvl (H : uqx t t' n) : nvl t n = nvl t' n := by
  funext p
  unfold nvl
  simp only [cg_cO H, cg_skf H, cg_sk H, cg_nlf H, cg_nli H, cg_nl H, cg_dgf H, cg_dg H, cg_dvf H, cg_dv H, cg_nw H, cg_nf H, cg_nsz H, cg_nkd H]
theorem cg_wm (H : uqx t t' n) : wm t n = wm t' n := by
  funext p s w
  unfold wm
  simp only [cg_cO H, cg_skf H, cg_sk H, cg_nlf H, cg_nli H, cg_nl H, cg_dgf H, cg_dg H, cg_dvf H, cg_dv H, cg_nw H, cg_nf H, cg_nsz H, cg_nkd H, cg_nvl H]
theorem cg_wkf (H : uqx t t' n) : wkf t n = wkf t' n := by
  funext p s k
  induction k with
  | zero => rfl
  | succ k ih =>
    funext w
    show wkf t n p s (k + 1) w = wkf t' n p s (k + 1) w
    unfold wkf
    rw [cg_wm H, ih]
theorem cg_wki (H : uqx t t' n) : wki t n = wki t' n := by
  funext p s w
  unfold wki
  simp only [cg_cO H, cg_skf H, cg_sk H, cg_nlf H, cg_nli H, cg_nl H, cg_dgf H, cg_dg H, cg_dvf H, cg_dv H, cg_nw H, cg_nf H, cg_nsz H, cg_nkd H, cg_nvl H, cg_wm H, cg_wkf H]
theorem cg_wk (H : uqx t t' n) : wk t n = wk t' n := by
  funext p s
  unfold wk
  simp only [cg_cO H, cg_skf H, cg_sk H, cg_nlf H, cg_nli H, cg_nl H, cg_dgf H, cg_dg H, cg_dvf H, cg_dv H, cg_nw H, cg_nf H, cg_nsz H, cg_nkd H, cg_nvl H, cg_wm H, cg_wkf H, cg_wki H]
theorem cg_tkd (H : uqx t t' n) : tkd t n = tkd t' n := by
  funext p
  unfold tkd
  simp only [cg_cO H, cg_skf H, cg_sk H, cg_nlf H, cg_nli H, cg_nl H, cg_dgf H, cg_dg H, cg_dvf H, cg_dv H, cg_nw H, cg_nf H, cg_nsz H, cg_nkd H, cg_nvl H, cg_wm H, cg_wkf H, cg_wki H, cg_wk H]
theorem cg_tln (H : uqx t t' n) : tln t n = tln t' n := by
  funext p
  unfold tln
  simp only [cg_cO H, cg_skf H, cg_sk H, cg_nlf H, cg_nli H, cg_nl H, cg_dgf H, cg_dg H, cg_dvf H, cg_dv H, cg_nw H, cg_nf H, cg_nsz H, cg_nkd H, cg_nvl H, cg_wm H, cg_wkf H, cg_wki H, cg_wk H, cg_tkd H]
theorem cg_plf (H : uqx t t' n) : plf t n = plf t' n := by
  funext k
  induction k with
  | zero => unfold plf; rw [cg_sk H]
  | succ k ih => unfold plf; rw [cg_sk H, cg_tln H, ih]
theorem cg_pli (H : uqx t t' n) : pli t n = pli t' n := by
  funext j
  unfold pli
  simp only [cg_cO H, cg_skf H, cg_sk H, cg_nlf H, cg_nli H, cg_nl H, cg_dgf H, cg_dg H, cg_dvf H, cg_dv H, cg_nw H, cg_nf H, cg_nsz H, cg_nkd H, cg_nvl H, cg_wm H, cg_wkf H, cg_wki H, cg_wk H, cg_tkd H, cg_tln H, cg_plf H]
theorem cg_kd (H : uqx t t' n) : kd t n = kd t' n := by
  funext j
  unfold kd
  simp only [cg_cO H, cg_skf H, cg_sk H, cg_nlf H, cg_nli H, cg_nl H, cg_dgf H, cg_dg H, cg_dvf H, cg_dv H, cg_nw H, cg_nf H, cg_nsz H, cg_nkd H, cg_nvl H, cg_wm H, cg_wkf H, cg_wki H, cg_wk H, cg_tkd H, cg_tln H, cg_plf H, cg_pli H]
theorem cg_ln (H : uqx t t' n) : ln t n = ln t' n := by
  funext j
  unfold ln
  simp only [cg_cO H, cg_skf H, cg_sk H, cg_nlf H, cg_nli H, cg_nl H, cg_dgf H, cg_dg H, cg_dvf H, cg_dv H, cg_nw H, cg_nf H, cg_nsz H, cg_nkd H, cg_nvl H, cg_wm H, cg_wkf H, cg_wki H, cg_wk H, cg_tkd H, cg_tln H, cg_plf H, cg_pli H, cg_kd H]
theorem cg_nu (H : uqx t t' n) : nu t n = nu t' n := by
  funext j
  unfold nu
  simp only [cg_cO H, cg_skf H, cg_sk H, cg_nlf H, cg_nli H, cg_nl H, cg_dgf H, cg_dg H, cg_dvf H, cg_dv H, cg_nw H, cg_nf H, cg_nsz H, cg_nkd H, cg_nvl H, cg_wm H, cg_wkf H, cg_wki H, cg_wk H, cg_tkd H, cg_tln H, cg_plf H, cg_pli H, cg_kd H, cg_ln H]
theorem tln_g {p : Int} (h0 : 0 ≤ p) (hp : p ≤ n) : 0 ≤ tln t n p ∧ p + tln t n p ≤ n := by
  unfold tln
  by_cases h : n ≤ p
  · rw [if_pos h]; omega
  · rw [if_neg h]
    have hc : cO t n p = t p := cO_in h0 (by omega)
    split
    · have := nl_b (t := t) h0 (show p < n by omega)
      omega
    · split
      · rename_i q
        rw [hc] at q
        have := nsz_b h0 (show p < n by omega) q
        omega
      · rename_i q1 q2
        unfold sgl
        split
        · rename_i q
          unfold sgk at q
          have hd : ¬ cO t n (p + 1) = 0 := by
            intro e
            rw [e] at q
            repeat' split at q
            all_goals omega
          have := cO_ne hd
          omega
        · omega
theorem pli_g (hn : 0 ≤ n) (j : Int) : 0 ≤ pli t n j ∧ pli t n j ≤ n := by
  unfold pli
  generalize j.toNat = k
  induction k with
  | zero =>
    unfold plf
    have := sk_le (t := t) (n := n) (p := 0) (r := 0) hn
    omega
  | succ k ih =>
    unfold plf
    have z := tln_g (t := t) ih.1 ih.2
    have := sk_le (t := t) (n := n) (p := plf t n k + tln t n (plf t n k)) (r := 0) z.2
    omega
theorem ln_g (hn : 0 ≤ n) (j : Int) : 0 ≤ ln t n j ∧ pli t n j + ln t n j ≤ n := by
  have z := pli_g (t := t) hn j
  exact tln_g z.1 z.2
theorem cg_smt1 (H : uqx t t' n) {i j : Int} (h : smt t n i j) : smt t' n i j := by
  obtain ⟨_, h1, h2⟩ := h
  have a := pli_g (t := t) H.1 i
  have b := pli_g (t := t) H.1 j
  have c := ln_g (t := t) H.1 i
  have e := ln_g (t := t) H.1 j
  refine ⟨(), ?_, fun k k1 k2 => ?_⟩
  · rw [← cg_ln H]; exact h1
  · rw [← cg_ln H] at k2
    have z := h2 k k1 k2
    rw [← cg_pli H, ← H.2 _ (by omega) (by omega), ← H.2 _ (by omega) (by omega)]
    exact z
theorem uqx_s (H : uqx t t' n) : uqx t' t n := ⟨H.1, fun i h1 h2 => (H.2 i h1 h2).symm⟩
theorem cg_smt (H : uqx t t' n) : smt t n = smt t' n := by
  funext i j
  exact propext ⟨cg_smt1 H, cg_smt1 (uqx_s H)⟩
theorem cg_fnd (H : uqx t t' n) : fnd t n = fnd t' n := by
  funext j L
  induction L with
  | nil => rfl
  | cons e L ih =>
    obtain ⟨tok, r, h, v⟩ := e
    unfold fnd
    rw [ih, cg_smt H]
theorem cg_tx1 (H : uqx t t' n) (h : tx_ok t n) : tx_ok t' n := by
  obtain ⟨_, h⟩ := h
  refine ⟨(), fun i h1 h2 => ?_⟩
  rw [← H.2 i h1 h2]
  exact h i h1 h2
theorem cg_tx (H : uqx t t' n) : tx_ok t n = tx_ok t' n := propext ⟨cg_tx1 H, cg_tx1 (uqx_s H)⟩
theorem cg_odl (H : uqx t t' n) : odl t n = odl t' n := by
  funext L vk j
  unfold odl
  simp only [cg_kd H, cg_ln H, cg_nu H, cg_pli H, cg_smt H, cg_fnd H]
theorem cg_nwn (H : uqx t t' n) : nwn t n = nwn t' n := by
  funext L j
  unfold nwn
  simp only [cg_kd H, cg_ln H, cg_nu H, cg_pli H, cg_smt H, cg_fnd H, cg_odl H]
theorem cg_yex (H : uqx t t' n) : yex t n = yex t' n := by
  funext L vk x j
  unfold yex
  simp only [cg_kd H, cg_ln H, cg_nu H, cg_pli H, cg_smt H, cg_fnd H, cg_odl H, cg_nwn H]
theorem cg_pConst (H : uqx t t' n) : pConst t n = pConst t' n := by
  funext L j
  unfold pConst
  simp only [cg_kd H, cg_ln H, cg_nu H, cg_pli H, cg_smt H, cg_fnd H, cg_odl H, cg_nwn H, cg_yex H]
theorem cg_pOpen (H : uqx t t' n) : pOpen t n = pOpen t' n := by
  funext L M j
  unfold pOpen
  simp only [cg_kd H, cg_ln H, cg_nu H, cg_pli H, cg_smt H, cg_fnd H, cg_odl H, cg_nwn H, cg_yex H, cg_pConst H]
theorem cg_pTarget (H : uqx t t' n) : pTarget t n = pTarget t' n := by
  funext L j
  unfold pTarget
  simp only [cg_kd H, cg_ln H, cg_nu H, cg_pli H, cg_smt H, cg_fnd H, cg_odl H, cg_nwn H, cg_yex H, cg_pConst H, cg_pOpen H]
theorem cg_pBounds (H : uqx t t' n) : pBounds t n = pBounds t' n := by
  funext L j
  unfold pBounds
  simp only [cg_kd H, cg_ln H, cg_nu H, cg_pli H, cg_smt H, cg_fnd H, cg_odl H, cg_nwn H, cg_yex H, cg_pConst H, cg_pOpen H, cg_pTarget H]
theorem cg_pType (H : uqx t t' n) : pType t n = pType t' n := by
  funext L j
  unfold pType
  simp only [cg_kd H, cg_ln H, cg_nu H, cg_pli H, cg_smt H, cg_fnd H, cg_odl H, cg_nwn H, cg_yex H, cg_pConst H, cg_pOpen H, cg_pTarget H, cg_pBounds H]
theorem cg_pvA (H : uqx t t' n) : pvA t n = pvA t' n := by
  funext L V j
  unfold pvA
  simp only [cg_kd H, cg_ln H, cg_nu H, cg_pli H, cg_smt H, cg_fnd H, cg_odl H, cg_nwn H, cg_yex H, cg_pConst H, cg_pOpen H, cg_pTarget H, cg_pBounds H, cg_pType H]
theorem cg_pvI (H : uqx t t' n) : pvI t n = pvI t' n := by
  funext L ty lo hi j
  unfold pvI
  simp only [cg_kd H, cg_ln H, cg_nu H, cg_pli H, cg_smt H, cg_fnd H, cg_odl H, cg_nwn H, cg_yex H, cg_pConst H, cg_pOpen H, cg_pTarget H, cg_pBounds H, cg_pType H, cg_pvA H]
theorem cg_pInit (H : uqx t t' n) : pInit t n = pInit t' n := by
  funext L ty lo hi j
  unfold pInit
  simp only [cg_kd H, cg_ln H, cg_nu H, cg_pli H, cg_smt H, cg_fnd H, cg_odl H, cg_nwn H, cg_yex H, cg_pConst H, cg_pOpen H, cg_pTarget H, cg_pBounds H, cg_pType H, cg_pvA H, cg_pvI H]
theorem cg_pVar (H : uqx t t' n) : pVar t n = pVar t' n := by
  funext L V j
  unfold pVar
  simp only [cg_kd H, cg_ln H, cg_nu H, cg_pli H, cg_smt H, cg_fnd H, cg_odl H, cg_nwn H, cg_yex H, cg_pConst H, cg_pOpen H, cg_pTarget H, cg_pBounds H, cg_pType H, cg_pvA H, cg_pvI H, cg_pInit H]
theorem cg_pShR (H : uqx t t' n) : pShR t n = pShR t' n := by
  funext j
  unfold pShR
  simp only [cg_kd H, cg_ln H, cg_nu H, cg_pli H, cg_smt H, cg_fnd H, cg_odl H, cg_nwn H, cg_yex H, cg_pConst H, cg_pOpen H, cg_pTarget H, cg_pBounds H, cg_pType H, cg_pvA H, cg_pvI H, cg_pInit H, cg_pVar H]
theorem cg_pShF (H : uqx t t' n) : pShF t n = pShF t' n := by
  funext j
  unfold pShF
  simp only [cg_kd H, cg_ln H, cg_nu H, cg_pli H, cg_smt H, cg_fnd H, cg_odl H, cg_nwn H, cg_yex H, cg_pConst H, cg_pOpen H, cg_pTarget H, cg_pBounds H, cg_pType H, cg_pvA H, cg_pvI H, cg_pInit H, cg_pVar H, cg_pShR H]
theorem cg_pShI (H : uqx t t' n) : pShI t n = pShI t' n := by
  funext j
  unfold pShI
  simp only [cg_kd H, cg_ln H, cg_nu H, cg_pli H, cg_smt H, cg_fnd H, cg_odl H, cg_nwn H, cg_yex H, cg_pConst H, cg_pOpen H, cg_pTarget H, cg_pBounds H, cg_pType H, cg_pvA H, cg_pvI H, cg_pInit H, cg_pVar H, cg_pShR H, cg_pShF H]
theorem cg_pShare (H : uqx t t' n) : pShare t n = pShare t' n := by
  funext j
  unfold pShare
  simp only [cg_kd H, cg_ln H, cg_nu H, cg_pli H, cg_smt H, cg_fnd H, cg_odl H, cg_nwn H, cg_yex H, cg_pConst H, cg_pOpen H, cg_pTarget H, cg_pBounds H, cg_pType H, cg_pvA H, cg_pvI H, cg_pInit H, cg_pVar H, cg_pShR H, cg_pShF H, cg_pShI H]
theorem cg_pChg (H : uqx t t' n) : pChg t n = pChg t' n := by
  funext L own S j
  unfold pChg
  simp only [cg_kd H, cg_ln H, cg_nu H, cg_pli H, cg_smt H, cg_fnd H, cg_odl H, cg_nwn H, cg_yex H, cg_pConst H, cg_pOpen H, cg_pTarget H, cg_pBounds H, cg_pType H, cg_pvA H, cg_pvI H, cg_pInit H, cg_pVar H, cg_pShR H, cg_pShF H, cg_pShI H, cg_pShare H]
theorem cg_pAsg (H : uqx t t' n) : pAsg t n = pAsg t' n := by
  funext L own S j
  unfold pAsg
  simp only [cg_kd H, cg_ln H, cg_nu H, cg_pli H, cg_smt H, cg_fnd H, cg_odl H, cg_nwn H, cg_yex H, cg_pConst H, cg_pOpen H, cg_pTarget H, cg_pBounds H, cg_pType H, cg_pvA H, cg_pvI H, cg_pInit H, cg_pVar H, cg_pShR H, cg_pShF H, cg_pShI H, cg_pShare H, cg_pChg H]
theorem cg_pAsF (H : uqx t t' n) : pAsF t n = pAsF t' n := by
  funext L own k
  induction k with
  | zero => rfl
  | succ k ih =>
    funext S j
    show pAsF t n L own (k + 1) S j = pAsF t' n L own (k + 1) S j
    unfold pAsF
    simp only [cg_kd H, cg_ln H, cg_nu H, cg_pli H, cg_smt H, cg_fnd H, cg_odl H, cg_nwn H, cg_yex H, cg_pConst H, cg_pOpen H, cg_pTarget H, cg_pBounds H, cg_pType H, cg_pvA H, cg_pvI H, cg_pInit H, cg_pVar H, cg_pShR H, cg_pShF H, cg_pShI H, cg_pShare H, cg_pChg H, cg_pAsg H, ih]
theorem cg_pAs (H : uqx t t' n) : pAs t n = pAs t' n := by
  funext L own S j
  unfold pAs
  simp only [cg_kd H, cg_ln H, cg_nu H, cg_pli H, cg_smt H, cg_fnd H, cg_odl H, cg_nwn H, cg_yex H, cg_pConst H, cg_pOpen H, cg_pTarget H, cg_pBounds H, cg_pType H, cg_pvA H, cg_pvI H, cg_pInit H, cg_pVar H, cg_pShR H, cg_pShF H, cg_pShI H, cg_pShare H, cg_pChg H, cg_pAsg H, cg_pAsF H]
theorem cg_pUpdate (H : uqx t t' n) : pUpdate t n = pUpdate t' n := by
  funext L own j
  unfold pUpdate
  simp only [cg_kd H, cg_ln H, cg_nu H, cg_pli H, cg_smt H, cg_fnd H, cg_odl H, cg_nwn H, cg_yex H, cg_pConst H, cg_pOpen H, cg_pTarget H, cg_pBounds H, cg_pType H, cg_pvA H, cg_pvI H, cg_pInit H, cg_pVar H, cg_pShR H, cg_pShF H, cg_pShI H, cg_pShare H, cg_pChg H, cg_pAsg H, cg_pAsF H, cg_pAs H]
theorem cg_aix (H : uqx t t' n) : aix t n = aix t' n := by
  funext j A
  induction A with
  | nil => rfl
  | cons a A ih =>
    show @ite _ (smt t n a j) (Classical.propDecidable _) 0 (1 + aix t n j A) = @ite _ (smt t' n a j) (Classical.propDecidable _) 0 (1 + aix t' n j A)
    rw [ih, cg_smt H]
theorem cg_pAct (H : uqx t t' n) : pAct t n = pAct t' n := by
  funext A j
  unfold pAct
  simp only [cg_kd H, cg_ln H, cg_nu H, cg_pli H, cg_smt H, cg_fnd H, cg_odl H, cg_nwn H, cg_yex H, cg_pConst H, cg_pOpen H, cg_pTarget H, cg_pBounds H, cg_pType H, cg_pvA H, cg_pvI H, cg_pInit H, cg_pVar H, cg_pShR H, cg_pShF H, cg_pShI H, cg_pShare H, cg_pChg H, cg_pAsg H, cg_pAsF H, cg_pAs H, cg_pUpdate H, cg_aix H]
theorem cg_pHead (H : uqx t t' n) : pHead t n = pHead t' n := by
  funext L N A j
  unfold pHead
  simp only [cg_kd H, cg_ln H, cg_nu H, cg_pli H, cg_smt H, cg_fnd H, cg_odl H, cg_nwn H, cg_yex H, cg_pConst H, cg_pOpen H, cg_pTarget H, cg_pBounds H, cg_pType H, cg_pvA H, cg_pvI H, cg_pInit H, cg_pVar H, cg_pShR H, cg_pShF H, cg_pShI H, cg_pShare H, cg_pChg H, cg_pAsg H, cg_pAsF H, cg_pAs H, cg_pUpdate H, cg_aix H, cg_pAct H]
theorem cg_pStep (H : uqx t t' n) : pStep t n = pStep t' n := by
  funext L own Q j
  unfold pStep
  simp only [cg_kd H, cg_ln H, cg_nu H, cg_pli H, cg_smt H, cg_fnd H, cg_odl H, cg_nwn H, cg_yex H, cg_pConst H, cg_pOpen H, cg_pTarget H, cg_pBounds H, cg_pType H, cg_pvA H, cg_pvI H, cg_pInit H, cg_pVar H, cg_pShR H, cg_pShF H, cg_pShI H, cg_pShare H, cg_pChg H, cg_pAsg H, cg_pAsF H, cg_pAs H, cg_pUpdate H, cg_aix H, cg_pAct H, cg_pHead H]
theorem cg_pShF7 (H : uqx t t' n) : pShF7 t n = pShF7 t' n := by
  funext L own k
  induction k with
  | zero => rfl
  | succ k ih =>
    funext Q G j
    show pShF7 t n L own (k + 1) Q G j = pShF7 t' n L own (k + 1) Q G j
    unfold pShF7
    simp only [cg_kd H, cg_ln H, cg_nu H, cg_pli H, cg_smt H, cg_fnd H, cg_odl H, cg_nwn H, cg_yex H, cg_pConst H, cg_pOpen H, cg_pTarget H, cg_pBounds H, cg_pType H, cg_pvA H, cg_pvI H, cg_pInit H, cg_pVar H, cg_pShR H, cg_pShF H, cg_pShI H, cg_pShare H, cg_pChg H, cg_pAsg H, cg_pAsF H, cg_pAs H, cg_pUpdate H, cg_aix H, cg_pAct H, cg_pHead H, cg_pStep H, ih]
theorem cg_pShs (H : uqx t t' n) : pShs t n = pShs t' n := by
  funext L own Q G j
  unfold pShs
  simp only [cg_kd H, cg_ln H, cg_nu H, cg_pli H, cg_smt H, cg_fnd H, cg_odl H, cg_nwn H, cg_yex H, cg_pConst H, cg_pOpen H, cg_pTarget H, cg_pBounds H, cg_pType H, cg_pvA H, cg_pvI H, cg_pInit H, cg_pVar H, cg_pShR H, cg_pShF H, cg_pShI H, cg_pShare H, cg_pChg H, cg_pAsg H, cg_pAsF H, cg_pAs H, cg_pUpdate H, cg_aix H, cg_pAct H, cg_pHead H, cg_pStep H, cg_pShF7 H]
theorem cg_pBody (H : uqx t t' n) : pBody t n = pBody t' n := by
  funext L own j
  unfold pBody
  simp only [cg_kd H, cg_ln H, cg_nu H, cg_pli H, cg_smt H, cg_fnd H, cg_odl H, cg_nwn H, cg_yex H, cg_pConst H, cg_pOpen H, cg_pTarget H, cg_pBounds H, cg_pType H, cg_pvA H, cg_pvI H, cg_pInit H, cg_pVar H, cg_pShR H, cg_pShF H, cg_pShI H, cg_pShare H, cg_pChg H, cg_pAsg H, cg_pAsF H, cg_pAs H, cg_pUpdate H, cg_aix H, cg_pAct H, cg_pHead H, cg_pStep H, cg_pShF7 H, cg_pShs H]
theorem cg_pCmd (H : uqx t t' n) : pCmd t n = pCmd t' n := by
  funext L own N M A j
  unfold pCmd
  simp only [cg_kd H, cg_ln H, cg_nu H, cg_pli H, cg_smt H, cg_fnd H, cg_odl H, cg_nwn H, cg_yex H, cg_pConst H, cg_pOpen H, cg_pTarget H, cg_pBounds H, cg_pType H, cg_pvA H, cg_pvI H, cg_pInit H, cg_pVar H, cg_pShR H, cg_pShF H, cg_pShI H, cg_pShare H, cg_pChg H, cg_pAsg H, cg_pAsF H, cg_pAs H, cg_pUpdate H, cg_aix H, cg_pAct H, cg_pHead H, cg_pStep H, cg_pShF7 H, cg_pShs H, cg_pBody H]
theorem cg_pkS (H : uqx t t' n) : pkS t n = pkS t' n := by
  funext c
  obtain ⟨m, L, M, O, V, N, j⟩ := c
  unfold pkS
  simp only [cg_kd H, cg_ln H, cg_nu H, cg_pli H, cg_smt H, cg_fnd H, cg_odl H, cg_nwn H, cg_yex H, cg_pConst H, cg_pOpen H, cg_pTarget H, cg_pBounds H, cg_pType H, cg_pvA H, cg_pvI H, cg_pInit H, cg_pVar H, cg_pShR H, cg_pShF H, cg_pShI H, cg_pShare H, cg_pChg H, cg_pAsg H, cg_pAsF H, cg_pAs H, cg_pUpdate H, cg_aix H, cg_pAct H, cg_pHead H, cg_pStep H, cg_pShF7 H, cg_pShs H, cg_pBody H, cg_pCmd H]
theorem cg_pkF (H : uqx t t' n) : pkF t n = pkF t' n := by
  funext k
  induction k with
  | zero => rfl
  | succ k ih =>
    funext c
    unfold pkF
    rw [cg_pkS H, ih]
theorem cg_pk (H : uqx t t' n) : pk t n = pk t' n := by
  funext c
  unfold pk
  rw [cg_pkF H]
theorem cg_pText (H : uqx t t' n) : pText t n = pText t' n := by
  unfold pText
  rw [cg_tx H, cg_kd H, cg_pk H]
end YCG
