/-! determinants, as far as an elimination without fractions needs them -/
section C4p
/-- a row, expanded: its entries, the signs in turn, by what is left of the columns -/
def dE (x : Nat → Int) : List Nat → (List Nat → Int) → Int
  | [], _ => 0
  | c :: cs, g => x c * g cs - dE x cs (fun l => g (c :: l))
theorem dE_c {x : Nat → Int} {c : Nat} {cs : List Nat} {g : List Nat → Int} : dE x (c :: cs) g = x c * g cs - dE x cs (fun l => g (c :: l)) := rfl
theorem dE_lin {x : Nat → Int} {p : Int} {cs : List Nat} : ∀ {g h : List Nat → Int}, dE x cs (fun l => p * g l - h l) = p * dE x cs g - dE x cs h := by
  induction cs with
  | nil => intro g h; show (0 : Int) = p * 0 - 0; omega
  | cons c cs ih =>
    intro g h
    have e := ih (g := fun l => g (c :: l)) (h := fun l => h (c :: l))
    rw [dE_c, dE_c, dE_c, e]
    grind
theorem dE_ax {x y : Nat → Int} {cs : List Nat} : ∀ {g : List Nat → Int}, dE x cs (fun l => dE y l g) + dE y cs (fun l => dE x l g) = 0 := by
  induction cs with
  | nil => intro g; rfl
  | cons c cs ih =>
    intro g
    have e := ih (g := fun l => g (c :: l))
    have e1 := dE_lin (x := x) (p := y c) (cs := cs) (g := g) (h := fun l => dE y l (fun l => g (c :: l)))
    have e2 := dE_lin (x := y) (p := x c) (cs := cs) (g := g) (h := fun l => dE x l (fun l => g (c :: l)))
    have e3 : (fun l => dE y (c :: l) g) = (fun l => y c * g l - dE y l (fun l => g (c :: l))) := rfl
    have e4 : (fun l => dE x (c :: l) g) = (fun l => x c * g l - dE x l (fun l => g (c :: l))) := rfl
    rw [dE_c, dE_c, e3, e4, e1, e2]
    omega
theorem dE_0 {x : Nat → Int} {cs : List Nat} : ∀ {g : List Nat → Int}, (∀ l, g l = 0) → dE x cs g = 0 := by
  induction cs with
  | nil => intro g _; rfl
  | cons c cs ih =>
    intro g h
    rw [dE_c, h, ih (fun l => h (c :: l))]
    omega
/-- the determinant of rows (the last one first) over columns (the last one first) -/
def dt : List (Nat → Int) → List Nat → Int
  | [], _ => 1
  | r :: rs, cs => dE r cs (dt rs)
theorem dt_eq {r : Nat → Int} {rs : List (Nat → Int)} : ∀ {cs : List Nat}, r ∈ rs → dt (r :: rs) cs = 0 := by
  induction rs with
  | nil => intro cs h; exact absurd h (List.not_mem_nil)
  | cons y ys ih =>
    intro cs h
    have h1 := dE_ax (x := r) (y := y) (g := dt ys) (cs := cs)
    show dE r cs (fun l => dE y l (dt ys)) = 0
    rcases List.mem_cons.mp h with e | e
    · subst e
      omega
    · have h2 : dE y cs (fun l => dE r l (dt ys)) = 0 := dE_0 (fun l => ih e (cs := l))
      omega
/-- a sum -/
def sm : Nat → (Nat → Int) → Int
  | 0, _ => 0
  | n + 1, f => sm n f + f n
theorem sm_s {n : Nat} {f : Nat → Int} : sm (n + 1) f = sm n f + f n := rfl
theorem sm_eq {n : Nat} {f g : Nat → Int} (h : ∀ i, i < n → f i = g i) : sm n f = sm n g := by
  induction n with
  | zero => rfl
  | succ n ih => rw [sm_s, sm_s, ih (fun i hi => h i (Nat.lt_succ_of_lt hi)), h n (Nat.lt_succ_self n)]
theorem sm_0 {n : Nat} {f : Nat → Int} (h : ∀ i, i < n → f i = 0) : sm n f = 0 := by
  induction n with
  | zero => rfl
  | succ n ih => rw [sm_s, ih (fun i hi => h i (Nat.lt_succ_of_lt hi)), h n (Nat.lt_succ_self n)]; rfl
theorem sm_3 {n : Nat} {p q s : Int} {f g h r : Nat → Int} : sm n (fun c => (p * f c - q * g c - s * h c) * r c) = p * sm n (fun c => f c * r c) - q * sm n (fun c => g c * r c) - s * sm n (fun c => h c * r c) := by
  induction n with
  | zero => show (0 : Int) = p * 0 - q * 0 - s * 0; omega
  | succ n ih =>
    rw [sm_s, sm_s, sm_s, sm_s, ih]
    grind
theorem sm_m {n : Nat} {p : Int} {f : Nat → Int} : sm n (fun c => p * f c) = p * sm n f := by
  induction n with
  | zero => show (0 : Int) = p * 0; omega
  | succ n ih => rw [sm_s, sm_s, ih, Int.mul_add]
theorem sm_1 {n i : Nat} {f : Nat → Int} (hi : i < n) (h : ∀ c, c < n → ¬ c = i → f c = 0) : sm n f = f i := by
  induction n with
  | zero => exact absurd hi (Nat.not_lt_zero i)
  | succ n ih =>
    rw [sm_s]
    by_cases e : i = n
    · subst e
      rw [sm_0 (fun c hc => h c (by omega) (by omega))]
      omega
    · rw [ih (by omega) (fun c hc hn => h c (by omega) hn), h n (by omega) (by omega)]
      omega
/-- columns and rows up to e, the last one first -/
def cols : Nat → List Nat
  | 0 => []
  | n + 1 => n :: cols n
def rws (a : Nat → Nat → Int) : Nat → List (Nat → Int)
  | 0 => []
  | e + 1 => a e :: rws a e
theorem rws_m {a : Nat → Nat → Int} {e k : Nat} (h : k < e) : a k ∈ rws a e := by
  induction e with
  | zero => exact absurd h (Nat.not_lt_zero k)
  | succ e ih =>
    by_cases q : k = e
    · subst q; exact List.mem_cons_self
    · exact List.mem_cons_of_mem _ (ih (by omega))
theorem dE_cf {e : Nat} : ∀ {h : List Nat → Int}, ∃ κ : Nat → Int, ∀ r : Nat → Int, dE r (cols e) h = sm e (fun c => κ c * r c) := by
  induction e with
  | zero => intro h; exact ⟨fun _ => 0, fun r => rfl⟩
  | succ e ih =>
    intro h
    obtain ⟨κ, hκ⟩ := ih (h := fun l => h (e :: l))
    refine ⟨fun c => if c = e then h (cols e) else -κ c, fun r => ?_⟩
    show r e * h (cols e) - dE r (cols e) (fun l => h (e :: l)) = sm (e + 1) (fun c => (if c = e then h (cols e) else -κ c) * r c)
    rw [hκ, sm_s, if_pos rfl]
    have e1 : sm e (fun c => (if c = e then h (cols e) else -κ c) * r c) = sm e (fun c => (-1) * (κ c * r c)) := sm_eq (fun i hi => by
      rw [if_neg (by omega)]
      grind)
    rw [e1, sm_m]
    grind
/-- the leading determinants; those with one row and one column more -/
def dl (a : Nat → Nat → Int) (e : Nat) : Int := dt (rws a e) (cols e)
def Dl (a : Nat → Nat → Int) (e : Nat) (r : Nat → Int) (j : Nat) : Int := dt (r :: rws a e) (j :: cols e)
theorem dl_0 {a : Nat → Nat → Int} : dl a 0 = 1 := rfl
theorem dl_s {a : Nat → Nat → Int} {e : Nat} : dl a (e + 1) = Dl a e (a e) e := rfl
theorem Dl_cf {a : Nat → Nat → Int} {e j : Nat} : ∃ κ : Nat → Int, ∀ r : Nat → Int, Dl a e r j = dl a e * r j + sm e (fun c => κ c * r c) := by
  obtain ⟨κ, hκ⟩ := dE_cf (e := e) (h := fun l => dt (rws a e) (j :: l))
  refine ⟨fun c => -κ c, fun r => ?_⟩
  show r j * dt (rws a e) (cols e) - dE r (cols e) (fun l => dt (rws a e) (j :: l)) = dl a e * r j + sm e (fun c => -κ c * r c)
  have e1 : sm e (fun c => -κ c * r c) = sm e (fun c => (-1) * (κ c * r c)) := sm_eq (fun i hi => by grind)
  rw [hκ, e1, sm_m]
  show r j * dl a e - sm e (fun c => κ c * r c) = dl a e * r j + (-1) * sm e (fun c => κ c * r c)
  grind
theorem Dl_row {a : Nat → Nat → Int} {e j k : Nat} (h : k < e) : Dl a e (a k) j = 0 := dt_eq (rws_m h)
/-- what is 0 at all rows is 0 -/
theorem dl_uni {a : Nat → Nat → Int} {e : Nat} : ∀ {g : Nat → Int}, (∀ k, k ≤ e → ¬ dl a k = 0) → (∀ k, k < e → sm e (fun c => g c * a k c) = 0) → ∀ c, c < e → g c = 0 := by
  induction e with
  | zero => intro g _ _ c hc; exact absurd hc (Nat.not_lt_zero c)
  | succ e ih =>
    intro g hd hg
    obtain ⟨κ, hκ⟩ := Dl_cf (a := a) (e := e) (j := e)
    have h1 : ∀ c, c < e → dl a e * g c - g e * κ c - 0 * 0 = 0 := by
      refine ih (g := fun c => dl a e * g c - g e * κ c - 0 * 0) (fun k hk => hd k (by omega)) (fun k hk => ?_)
      have e1 := sm_3 (n := e) (p := dl a e) (q := g e) (s := 0) (f := g) (g := κ) (h := fun _ => 0) (r := a k)
      have e2 := hg k (by omega)
      have e3 := hκ (a k)
      rw [Dl_row hk] at e3
      rw [sm_s] at e2
      refine e1.trans ?_
      generalize sm e (fun c => g c * a k c) = A at *
      generalize sm e (fun c => κ c * a k c) = B at *
      grind
    have h2 : g e = 0 := by
      have e2 := hg e (by omega)
      have e3 := hκ (a e)
      rw [← dl_s] at e3
      rw [sm_s] at e2
      have e4 : dl a e * sm e (fun c => g c * a e c) = g e * sm e (fun c => κ c * a e c) := by
        rw [← sm_m, ← sm_m]
        refine sm_eq (fun c hc => ?_)
        have := h1 c hc
        grind
      have e5 : g e * dl a (e + 1) = 0 := by
        rw [e3]
        generalize sm e (fun c => g c * a e c) = A at *
        generalize sm e (fun c => κ c * a e c) = B at *
        grind
      rcases Int.mul_eq_zero.mp e5 with q | q
      · exact q
      · exact absurd q (hd (e + 1) (Nat.le_refl _))
    intro c hc
    by_cases q : c = e
    · rw [q]; exact h2
    · have e1 := h1 c (by omega)
      rw [h2] at e1
      have e2 : dl a e * g c = 0 := by omega
      rcases Int.mul_eq_zero.mp e2 with q | q
      · exact absurd q (hd e (by omega))
      · exact q
/-- the step of an elimination comes out even -/
theorem dl_jac {a : Nat → Nat → Int} {e j : Nat} {r : Nat → Int} (hd : ∀ k, k ≤ e + 1 → ¬ dl a k = 0) : dl a e * Dl a (e + 1) r j = dl a (e + 1) * Dl a e r j - Dl a e r e * Dl a e (a e) j := by
  obtain ⟨κ, hκ⟩ := Dl_cf (a := a) (e := e) (j := j)
  obtain ⟨η, hη⟩ := Dl_cf (a := a) (e := e) (j := e)
  obtain ⟨μ, hμ⟩ := Dl_cf (a := a) (e := e + 1) (j := j)
  have hG : ∀ r : Nat → Int, dl a (e + 1) * Dl a e r j - Dl a e r e * Dl a e (a e) j - dl a e * Dl a (e + 1) r j = sm (e + 1) (fun c => (if c = e then -(dl a e * Dl a e (a e) j) - dl a e * μ e else dl a (e + 1) * κ c - Dl a e (a e) j * η c - dl a e * μ c) * r c) := by
    intro r
    have e1 : sm e (fun c => (if c = e then -(dl a e * Dl a e (a e) j) - dl a e * μ e else dl a (e + 1) * κ c - Dl a e (a e) j * η c - dl a e * μ c) * r c) = sm e (fun c => (dl a (e + 1) * κ c - Dl a e (a e) j * η c - dl a e * μ c) * r c) := sm_eq (fun c hc => by rw [if_neg (by omega)])
    rw [sm_s, e1, sm_3, if_pos rfl]
    have e2 := hκ r
    have e3 := hη r
    have e4 := hμ r
    rw [sm_s] at e4
    generalize sm e (fun c => κ c * r c) = A at *
    generalize sm e (fun c => η c * r c) = B at *
    generalize sm e (fun c => μ c * r c) = C at *
    generalize Dl a e r j = D1 at *
    generalize Dl a e r e = D2 at *
    generalize Dl a (e + 1) r j = D3 at *
    generalize Dl a e (a e) j = D4 at *
    subst e2
    subst e3
    subst e4
    grind
  have h0 := dl_uni (e := e + 1) hd (fun k hk => by
    rw [← hG]
    rw [Dl_row hk]
    by_cases q : k = e
    · rw [q, ← dl_s]
      grind
    · rw [Dl_row (by omega : k < e), Dl_row (by omega : k < e)]
      grind)
  have h1 := hG r
  rw [sm_0 (fun c hc => by rw [h0 c hc, Int.zero_mul])] at h1
  omega
/-- a row that is 1 at one column -/
def un (i : Nat) : Nat → Int := fun c => if c = i then 1 else 0
theorem un_s {i : Nat} : un i i = 1 := if_pos rfl
theorem un_n {i c : Nat} (h : ¬ c = i) : un i c = 0 := if_neg h
theorem Dl_un {a : Nat → Nat → Int} {e i j : Nat} (hi : e ≤ i) : Dl a e (un i) j = dl a e * un i j := by
  obtain ⟨κ, hκ⟩ := Dl_cf (a := a) (e := e) (j := j)
  rw [hκ, sm_0 (fun c hc => by rw [un_n (by omega), Int.mul_zero]), Int.add_zero]
theorem Dl_lin {a : Nat → Nat → Int} {e j : Nat} {r : Nat → Int} (hj : e ≤ j) : Dl a e r j = dl a e * r j + sm e (fun c => Dl a e (un c) j * r c) := by
  obtain ⟨κ, hκ⟩ := Dl_cf (a := a) (e := e) (j := j)
  rw [hκ]
  congr 1
  refine sm_eq (fun c hc => ?_)
  have e1 : Dl a e (un c) j = κ c := by
    rw [hκ, un_n (by omega), Int.mul_zero, Int.zero_add, sm_1 hc (fun i hi hn => by rw [un_n hn, Int.mul_zero]), un_s, Int.mul_one]
  rw [e1]
end C4p
