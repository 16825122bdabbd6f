section FXM
variable {G : mm_G} {T : mm_T} {sc : fx_sc} {scr : Nat × (Nat → Int32)} {os : fx_O} {X : fx_X} {X' : mm_XR} {f : Nat} {Q : mm_O → mm_S → Prop}
/-- what a step leaves to be shown -/
def fx_Left (G : mm_G) (T : mm_T) (scr : Nat × (Nat → Int32)) (X' : mm_XR) (f : Nat) (Q : mm_O → mm_S → Prop) (m : Nat) (r : fx_K ⊕ (mm_O × fx_S)) : Prop := match r with
  | .inl k => mm_wp G T scr X' f Q m (fx_mK k)
  | .inr q => Q q.1 (fx_mS q.2)
def fx_Snd (X : fx_X) (X' : mm_XR) : Prop := ∀ g as S o S' cs, X g as S = some ((o, S'), cs) → (∀ b ∈ cs, b = true) → ∀ Q : mm_O → mm_S → Prop, Q o (fx_mS S') → X' g as (fx_mS S) Q
theorem fx_rok_ok {stc : Bool} {oc : Nat} {as : List Value} {c s : Nat} {M : fx_T} (h : fx_rok stc oc as c M = true) : mm_rok T stc oc as (fx_mS (c, s, M)) = true := by
  unfold fx_rok at h
  unfold mm_rok fx_mS
  cases stc with
  | true => rfl
  | false =>
    rw [Bool.false_or] at h ⊢
    split at h
    · rename_i b r
      rw [Bool.and_eq_true] at h
      dsimp only
      rw [Bool.or_eq_true, Bool.and_eq_true]
      refine Or.inl ⟨h.1, ?_⟩
      replace h := h.2
      split at h
      · rename_i c' vs hl
        rw [fx_mem_at hl]
        exact h
      · cases h
    · cases h
theorem fx_cl_ok (hX : fx_Snd X X') {g pc nx m : Nat} {L : mm_L} {st : List Value} {S : fx_S} {r : fx_K ⊕ (mm_O × fx_S)} {cs : List Bool} (h : fx_cl G T X f g pc nx L st S = some (r, cs)) (hcs : ∀ b ∈ cs, b = true) (hl : fx_Left G T scr X' f Q m r) :
    mm_cl G T X' f g (mm_wp G T scr X' f Q m) Q pc nx L st (fx_mS S) := by
  obtain ⟨c, s, M⟩ := S
  unfold fx_cl at h
  dsimp only at h
  split at h
  · rename_i hc
    obtain ⟨h1, h2, h3, h4⟩ := hc
    refine ⟨h1, h2, h3, fx_rok_ok h4, ?_⟩
    split at h
    · cases h
    · rename_i v S' cs' hx
      cases h
      exact hX _ _ _ _ _ _ hx hcs _ hl
    · rename_i ec a c2 s2 M2 cs' hx
      split at h
      · rename_i hd hh
        split at h
        · rename_i ha
          split at h
          · rename_i c' vs hlk
            split at h
            · rename_i hce
              cases h
              refine hX _ _ _ _ _ _ hx hcs _ ?_
              dsimp only
              rw [hh]
              exact ⟨⟨ha, vs, by rw [← hce]; exact fx_mem_at hlk⟩, hl⟩
            · cases h
          · cases h
        · cases h
      · rename_i hh
        cases h
        refine hX _ _ _ _ _ _ hx hcs _ ?_
        dsimp only
        rw [hh]
        exact hl
      · cases h
  · cases h
theorem fx_thr_ok (hsc : fx_Scr sc scr) {i : Instr} {pc nx tg m : Nat} {L : mm_L} {st : List Value} {S : fx_S} {r : fx_K ⊕ (mm_O × fx_S)} {cs : List Bool} (h : fx_thr G T sc os f i pc nx tg L st S = some (r, cs)) (hcs : ∀ b ∈ cs, b = true) (hl : fx_Left G T scr X' f Q m r) :
    (match mm_thr G f pc with
      | some ec => (fx_mS S).1 + 1 ≤ mm_lc T ∧ (fx_mS S).2.1 + 6 ≤ mm_lsl T ∧ (st.map Value.category).sum ≤ 8 ∧ Q (.inr (ec, (fx_mS S).1)) (mm_add (fx_mS S) 6 (.inr (ec, [])))
      | none => match mm_st0 i pc nx tg L st (fx_mS S) with
        | some k => mm_wp G T scr X' f Q m k
        | none => match mm_st1 T (mm_ini G f) (mm_oc G f) (mm_pool G f) scr i nx L st (fx_mS S) with
          | some k => mm_wp G T scr X' f Q m k
          | none => False) := by
  unfold fx_thr at h
  split at h
  · rename_i ec he
    rw [he]
    obtain ⟨c, s, M⟩ := S
    dsimp only at h ⊢
    split at h
    · rename_i hc
      rw [fx_sk_eq] at h
      cases h
      refine ⟨hc.1.1, hc.1.2.1, hc.1.2.2, ?_⟩
      have hl' : Q (.inr (ec, c)) (c + 1, s + 6, fx_mem (fx_set M c (.inr (ec, [])))) := hl
      rw [fx_mem_set _ hc.2] at hl'
      exact hl'
    · cases h
  · rename_i he
    rw [he]
    dsimp only
    split at h
    · rename_i k cs' hp
      cases h
      rcases fx_pl_ok hsc hp hcs with h0 | ⟨h0, h1⟩
      · rw [h0]; exact hl
      · rw [h0]; dsimp only; rw [h1]; exact hl
    · cases h
theorem fx_one_ok (hsc : fx_Scr sc scr) (hX : fx_Snd X X') {pc m : Nat} {L : mm_L} {st : List Value} {S : fx_S} {en : Option (Instr × Nat × Nat)} {r : fx_K ⊕ (mm_O × fx_S)} {cs : List Bool}
    (h : fx_one G T sc os X f pc L st S en = some (r, cs)) (hcs : ∀ b ∈ cs, b = true) (hl : fx_Left G T scr X' f Q m r) : mm_body G T scr X' f Q (mm_wp G T scr X' f Q m) pc L st (fx_mS S) en := by
  unfold fx_one at h
  split at h
  · cases h
  · rename_i i nx tg
    split at h
    · split at h
      · rename_i hr
        cases h
        exact ⟨rfl, hr, hl⟩
      · cases h
    · split at h
      · rename_i v hr
        cases h
        exact ⟨v, rfl, ⟨.int, hr, rfl⟩, hl⟩
      · rename_i v hr
        split at h
        · rename_i hv
          cases h
          exact ⟨v, rfl, ⟨.boolean, hr, by rcases hv with rfl | rfl <;> rfl⟩, hl⟩
        · cases h
      · cases h
    · split at h
      · rename_i v hr
        cases h
        exact ⟨v, rfl, hr, hl⟩
      · cases h
    · split at h
      · rename_i a nm hr
        cases h
        exact ⟨a, rfl, ⟨nm, hr⟩, hl⟩
      · cases h
    · unfold mm_body
      dsimp only
      split at h
      · rename_i hp
        rw [hp]
        dsimp only
        split at h
        · rename_i a r'
          split at h
          · rename_i hc
            cases h
            exact ⟨a, r', rfl, hc, hl⟩
          · cases h
        · cases h
      · rename_i g hp
        rw [hp]
        dsimp only
        split at h
        · rename_i hc
          exact ⟨hc.1, hc.2, fx_cl_ok hX h hcs hl⟩
        · cases h
      · cases h
    · unfold mm_body
      dsimp only
      split at h
      · rename_i g hp
        rw [hp]
        dsimp only
        split at h
        · rename_i hc
          exact ⟨hc.1, hc.2, fx_cl_ok hX h hcs hl⟩
        · cases h
      · cases h
    · unfold mm_body
      dsimp only
      split at h
      · rename_i g hp
        rw [hp]
        dsimp only
        split at h
        · rename_i hc
          exact ⟨hc, fx_cl_ok hX h hcs hl⟩
        · cases h
      · cases h
    · rename_i h1 h2 h3 h4 h5 h6 h7
      have key := fx_thr_ok (X' := X') (Q := Q) hsc h hcs hl
      cases i
      case return_ => exact (h1 rfl).elim
      case ireturn => exact (h2 rfl).elim
      case lreturn => exact (h3 rfl).elim
      case areturn => exact (h4 rfl).elim
      case invokespecial x => exact (h5 x rfl).elim
      case invokevirtual x => exact (h6 x rfl).elim
      case invokestatic x => exact (h7 x rfl).elim
      all_goals first
        | exact key
        | (unfold mm_body
           dsimp only
           cases h8 : mm_thr G f pc with
           | some ec => rw [h8] at key; exact key
           | none =>
             rw [h8] at key
             dsimp only at key ⊢
             split
             · rename_i k hk
               rw [hk] at key
               exact key
             · rename_i hk
               rw [hk] at key
               dsimp only at key
               split
               · rename_i k hk2
                 rw [hk2] at key
                 exact key
               · rename_i hk2
                 rw [hk2] at key
                 exact key.elim)
end FXM
