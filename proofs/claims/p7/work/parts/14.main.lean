/-! the small machine's promises are the real one's contracts -/
theorem mm_entry_ld {φ : Nat → Nat} : ∀ (as : List Value) (n base k : Nat) (v : Value), mm_ld (as.flatMap (fun v => if v.category = 2 then [some v, none] else [some v]) ++ List.replicate n none) k = some v → (base + k, mm_tv φ v) ∈ lv_args base (as.map (mm_tv φ)) := by
  intro as
  induction as with
  | nil =>
    intro n base k v h
    exfalso
    unfold mm_ld at h
    simp only [List.flatMap_nil, List.nil_append] at h
    rw [List.getElem?_replicate] at h
    split at h <;> cases h
  | cons a as ih =>
    intro n base k v h
    rw [List.flatMap_cons] at h
    rw [List.map_cons, lv_args]
    by_cases hc : a.category = 2
    · rw [if_pos hc] at h
      rw [mm_tv_cat, if_pos hc]
      match k, h with
      | 0, h =>
        have : a = v := by simpa [mm_ld] using h
        subst this
        exact List.mem_cons_self
      | 1, h =>
        exfalso
        simp [mm_ld] at h
      | k + 2, h =>
        have h2 := ih n (base + 2) k v (by simpa [mm_ld] using h)
        have e : base + (k + 2) = base + 2 + k := by omega
        rw [e]
        exact List.mem_cons_of_mem _ h2
    · rw [if_neg hc] at h
      rw [mm_tv_cat, if_neg hc]
      match k, h with
      | 0, h =>
        have : a = v := by simpa [mm_ld] using h
        subst this
        exact List.mem_cons_self
      | k + 1, h =>
        have h2 := ih n (base + 1) k v (by simpa [mm_ld] using h)
        have e : base + (k + 1) = base + 1 + k := by omega
        rw [e]
        exact List.mem_cons_of_mem _ h2
theorem mm_sl_len (φ : Nat → Nat) (as : List Value) : (lg_sl (as.map (mm_tv φ))).length = (as.flatMap (fun v => if v.category = 2 then [some v, none] else [some v])).length := by
  induction as with
  | nil => rfl
  | cons a as ih =>
    unfold lg_sl at ih ⊢
    rw [List.map_cons, List.flatMap_cons, List.flatMap_cons, List.length_append, List.length_append, ih, mm_tv_cat]
    by_cases hc : a.category = 2
    · rw [if_pos hc, if_pos hc]; rfl
    · rw [if_neg hc, if_neg hc]; rfl
theorem mm_entry_has {φ : Nat → Nat} {nL : Nat} {as : List Value} (hl : (mm_entry nL as).length = nL) : lv_has ((lg_sl (as.map (mm_tv φ)) ++ List.replicate (nL - (lg_sl (as.map (mm_tv φ))).length) Slot.unset).toArray) nL (mm_prs φ (mm_entry nL as)) := by
  have hle : (lg_sl (as.map (mm_tv φ))).length ≤ nL := by
    rw [mm_sl_len]
    unfold mm_entry at hl
    dsimp only at hl
    rw [List.length_append, List.length_replicate] at hl
    omega
  refine mm_lv_mono (lv_entry (as.map (mm_tv φ)) hle) fun q hq => ?_
  obtain ⟨v, hv, hq2⟩ := mm_prs_of hq
  obtain ⟨j, x⟩ := q
  dsimp only at hv hq2
  subst hq2
  have := mm_entry_ld (φ := φ) as _ 0 j v hv
  rwa [Nat.zero_add] at this
section MM14
variable {l : Launch} {yn : Nat → MethodName} {cc : Nat → ByteArray} {hh : Nat → List (Nat × Nat × Nat × Nat)} {G : mm_G} {TT : mm_T} {D : va_G} {cl : List vw_C} {tys : List (ClassId × FieldType)} {B : Nat} {ex : Nat → Nat} {E : State → Prop} {Ts : List Jvm.Cond} {aT : List FieldType} {own : Nat → String} {scr : Nat × (Nat → Int32)}
/-- what the program's data must say of a method -/
def mm_MOK (Ts : List Jvm.Cond) (cl : List vw_C) (aT : List FieldType) (T : mm_T) (G : mm_G) (yn : Nat → MethodName) (cc : Nat → ByteArray) (hh : Nat → List (Nat × Nat × Nat × Nat)) (own : Nat → String) (g : Nat) : Prop :=
  (∀ pc i nx tg, mm_code G g pc = some (i, nx, tg) → mm_ok (cc g) pc i nx tg) ∧ mm_plOK Ts cl aT T (own g) (mm_oc G g) (mm_pool G g) ∧ mm_mpOK Ts G yn cc hh cl own g ∧ mm_pk2 Ts (own g) (mm_pool G g) ∧ plainFor (yn g) = true ∧ own g = (yn g).cls ∧ (mm_ini G g = true → (yn g).name = "<init>")
/-- what the world gives at a method's entry -/
def mm_EF (Ts : List Jvm.Cond) (cl : List vw_C) (aT : List FieldType) (T : mm_T) (G : mm_G) (D : va_G) (tys : List (ClassId × FieldType)) (B : Nat) (ex : Nat → Nat) (own : Nat → String) (scr : Nat × (Nat → Int32)) (E : State → Prop) : Prop :=
  ∀ U, E U → va_K D cl tys U ∧ (∀ k, 3 ≤ k → ∀ ty, aT[k]? = some ty → ∃ C : String, ty = .object C ∧ (∀ a, (Jvm.Cond.arrayOver (.object C)).before a U = true) ∧ ∀ r : vw_C, cl[mm_kc T k]? = some r → r.1 = C) ∧ (∀ ty, ty = .int ∨ ty = .long ∨ ty = .boolean → ∀ a, (Jvm.Cond.arrayClass ty).before a U = true) ∧
    va_X (ex 0) scr.1 scr.2 U U.heap ∧ (∀ C, aT[5]? = some (.object C) → ∀ j, 1 ≤ j → j ≤ mm_nx T → va_O C (ex j) (fun q => B ≤ q) U U.heap ∧ ∀ cC, U.vm.findClass C = some cC → U.vm.assignable cC cC = true) ∧ (∀ g x k, mm_pool G g x = some (.inr (.inr (.inr (.inr (.inr k))))) → 0 < k → k < 2000 → ∃ tx, vk_R (own g) x tx (ex k) U) ∧ mm_Str T B ex scr U
set_option maxHeartbeats 8000000 in
theorem mm_sound (hE : mm_EE B Ts E) (hEF : mm_EF Ts cl aT TT G D tys B ex own scr E) (hcl : mm_clOK Ts cl TT) (haT : ∀ k ty, aT[k]? = some ty → tys[k]? = some (mm_aC tys k, ty)) (hA : aT.length = mm_nk TT ∧ cl.length = mm_nc TT ∧ aT[0]? = some .int ∧ aT[1]? = some .long ∧ aT[2]? = some .boolean) (hlc : mm_lc TT ≤ mm_big) (hX0 : ex 0 < B)
    (hG : ∀ g en, mm_code G g 0 = some en → mm_MOK Ts cl aT TT G yn cc hh own g)
    (hthr : ∀ (d g : Nat) (en : Instr × Nat × Nat), mm_code G g 0 = some en → ∀ (p : Program) (e : Env) (s : State) (m : MethodId) (args : Array Value) (below : List Frame) (meth : Method) (c : Code) (S0 : mm_S), E s → mm_Fix p (mm_rm TT (d + 1) S0) s m args meth c D cl tys B ex S0 (mm_nl G g) (cc g) Ts aT TT (own g) (mm_oc G g) (mm_pool G g) (mm_ini G g) scr → (c.exceptionTable.toList.map (fun h => (h.startPc, h.endPc, h.handlerPc, h.catchType)) = hh g) →
      mm_Thr p l e (mm_rm TT (d + 1) S0) s m args below meth c G TT D cl tys (mm_phi B ex) B S0 g ∧ mm_Cat p l e (mm_rm TT (d + 1) S0) s m args below meth c G D cl g) :
    ∀ (d g : Nat) (as : List Value) (S : mm_S) (Q : mm_O → mm_S → Prop), mm_ex G TT scr d g as S Q → mm_Con l yn cc hh G TT D cl tys (mm_phi B ex) B E d g as S Q := by
  intro d
  induction d with
  | zero => intro g as S Q h; exact h.elim
  | succ d ih =>
    intro g as S0 Q ⟨hlen, n, hw⟩
    have hen : ∃ en, mm_code G g 0 = some en := by
      cases n with
      | zero => exact hw.elim
      | succ n =>
        replace hw : mm_body G TT scr (mm_ex G TT scr d) g Q _ 0 _ [] S0 (mm_code G g 0) := hw
        cases hq : mm_code G g 0 with
        | none => rw [hq] at hw; exact hw.elim
        | some en => exact ⟨en, rfl⟩
    obtain ⟨en, hen⟩ := hen
    obtain ⟨o1, o2, o3, o7, o4, o5, o6⟩ := hG g en hen
    unfold mm_Con mm_C
    refine MetFree.of_bodySF (code := cc g) (maxLocals := mm_nl G g) (ret := mm_rt G g) o4 ?_ ?_
    · intro args s m h hn
      obtain ⟨mk, mt, cM, c1, c2, c3, c4, c5, -, c7, c8, -⟩ := mm_cw_spec (atoms_spec (ws := [mm_cw yn cc hh G g]) h _ List.mem_cons_self)
      cases hn.symm.trans c1
      exact ⟨mt, cM, c2, c3, c4, c5, c7, c8⟩
    · intro p e s m args below meth c s₁ Bd hml hP _
      obtain ⟨rfl, hEs, hPs, hsz, hbig⟩ := hP
      have hh0 : s₁.heap = s.heap := by rw [Bd.state]; rfl
      obtain ⟨f1, f2, f3, f4, f6, f5, f7⟩ := hEF s hEs
      have hwords := hE.2 s hEs
      have X := Stand.of_body Bd
      obtain ⟨mk, mt, cM, c1, c2, c3, c4, c5, c6, c7, c8, -⟩ := mm_cw_spec (atoms_spec (ws := [mm_cw yn cc hh G g]) Bd.pre _ List.mem_cons_self)
      cases Bd.named.symm.trans c1
      cases Bd.method.symm.trans c2
      cases X.code.symm.trans c3
      have F : mm_Fix p (mm_rm TT (d + 1) S0) s m (as.map (mm_tv (mm_phi B ex))).toArray meth c D cl tys B ex S0 (mm_nl G g) (cc g) Ts aT TT (own g) (mm_oc G g) (mm_pool G g) (mm_ini G g) scr :=
        ⟨⟨Bd.exec, Bd.bytes, hml, by rw [o5]; exact findClass_of_methodNamed Bd.named, Bd.notSynchronized, fun hi => (name_of_methodNamed Bd.named Bd.method).1.trans (o6 hi)⟩, ⟨fun w hw => hwords w hw _, f1, hcl, o2⟩,
          ⟨haT, hA, fun k hk ty ht => by obtain ⟨C, h1, h2, h3⟩ := f2 k hk ty ht; exact ⟨C, h1, h2 _, h3⟩⟩, fun ty ht => f3 ty ht _, ⟨hsz, rfl, rfl, hlc⟩, f4, hX0, f6⟩
      obtain ⟨t1, t2⟩ := hthr d g en hen p e s m _ below meth c S0 hEs F c6
      have key := mm_wp_sound F (fun x k h => f5 g x k h) f7 o7 hE hEs rfl Bd.returns o1 o3 ih t2 t1 n _ hw
      have key2 := key _ s.heap [] (mm_entry_has hlen) hlen hPs va_S.rf ⟨Nat.le_refl _, hbig⟩ (Nat.le_refl _)
      dsimp only at key2
      rw [Nat.sub_self, Nat.sub_self] at key2
      obtain ⟨t, a1, o, S', hQ, hrun, hend, hW, hPt, hS1, hS2, hlow, L, hsame, hL⟩ := key2 s₁ hh0 X
      refine ⟨t, mm_out (mm_phi B ex) o, ?_, hrun, hend, L, S'.1 - S0.1, S'.2.1 - S0.2.1, ⟨hW, hsame⟩, o, S', hQ, rfl, hPt, hS1, hS2, rfl, rfl, hlow, hL⟩
      rw [lg_entry_eq]
      exact a1
end MM14
