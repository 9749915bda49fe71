/-! bits on which pieces agree -/
def cnb (f : Nat → Bool) : Nat → Nat
  | 0 => 0
  | n + 1 => cnb f n + (if f n then 1 else 0)
theorem cnb_le {f : Nat → Bool} : ∀ n, cnb f n ≤ n
  | 0 => Nat.le_refl _
  | n + 1 => by
    have := cnb_le (f := f) n
    rw [cnb]
    split <;> omega
theorem cnb_mono {f g : Nat → Bool} (h : ∀ i, f i = true → g i = true) : ∀ n, cnb f n ≤ cnb g n
  | 0 => Nat.le_refl _
  | n + 1 => by
    have := cnb_mono h n
    rw [cnb, cnb]
    by_cases w : f n = true
    · rw [if_pos w, if_pos (h n w)]; omega
    · rw [if_neg w]; split <;> omega
theorem cnb_lt {f g : Nat → Bool} (h : ∀ i, f i = true → g i = true) {k : Nat} (h1 : f k = false) (h2 : g k = true) : ∀ n, k < n → cnb f n + 1 ≤ cnb g n
  | 0, hk => absurd hk (Nat.not_lt_zero _)
  | n + 1, hk => by
    rw [cnb, cnb]
    by_cases w : k = n
    · subst w
      have := cnb_mono h k
      rw [h1, h2]
      simp
      omega
    · have := cnb_lt h h1 h2 n (by omega)
      by_cases v : f n = true
      · rw [if_pos v, if_pos (h n v)]; omega
      · rw [if_neg v]; split <;> omega
def gb (i : Nat) (x : pc) : Bool := decide (i < x.2.1) && bt i x
def agB (P : List pc) (i : Nat) : Bool := P.all (fun x => P.all (fun y => gb i x == gb i y))
theorem agB_iff {P : List pc} {i : Nat} : agB P i = true ↔ ∀ x ∈ P, ∀ y ∈ P, gb i x = gb i y := by
  unfold agB
  rw [List.all_eq_true]
  constructor
  · intro h x hx y hy
    have := List.all_eq_true.mp (h x hx) y hy
    simpa using this
  · intro h x hx
    rw [List.all_eq_true]
    intro y hy
    simpa using h x hx y hy
def agc (P : List pc) : Nat := cnb (agB P) 32
theorem agc_split {P Z : List pc} {k : Nat} (hk : k < 32) (hle : ∀ x ∈ P, k < x.2.1) (hsub : ∀ x ∈ Z, x ∈ P) (hz : ∀ x ∈ Z, ∀ y ∈ Z, bt k x = bt k y) (hn : ∃ x ∈ P, ∃ y ∈ P, bt k x ≠ bt k y) : agc P + 1 ≤ agc Z := by
  have hg : ∀ x ∈ P, gb k x = bt k x := fun x hx => by unfold gb; rw [decide_eq_true (hle x hx), Bool.true_and]
  have c1 : ∀ i, agB P i = true → agB Z i = true := by
    intro i hi
    rw [agB_iff] at hi ⊢
    exact fun x hx y hy => hi x (hsub x hx) y (hsub y hy)
  have c2 : agB P k = false := by
    rw [Bool.eq_false_iff]
    intro q
    rw [agB_iff] at q
    obtain ⟨x, hx, y, hy, e⟩ := hn
    exact e (by rw [← hg x hx, ← hg y hy]; exact q x hx y hy)
  have c3 : agB Z k = true := by
    rw [agB_iff]
    intro x hx y hy
    rw [hg x (hsub x hx), hg y (hsub y hy)]
    exact hz x hx y hy
  unfold agc
  exact cnb_lt c1 c2 c3 32 hk
theorem agc_32 {P : List pc} : agc P ≤ 32 := by
  unfold agc
  exact cnb_le 32
