/-! the grammar as the class's table has it -/
section
variable (B : Int → Int) (n : Int) (one : Bool)
def gon (k : Nat) (q : Int) : Bool := if one = true ∧ q = 0 then decide (tk B n k = (if k = 0 then 7 else 10)) else decide (NXT (q * 12 + tk B n k) ≠ -1)
def aut : Nat → Nat → Int → Int → Int → Int → Int → Int → Int × Int × Nat
  | 0, k, _, _, _, _, _, _ => (0, -1, k)
  | c + 1, k, q, f, o, a, r, m =>
    if ¬ gon B n one k q then (1, tb B n k, k)
    else if tk B n k = 10 then (0, -1, k)
    else if k = 600 then (2, tb B n k, k)
    else if q = 0 then
      (if tk B n k = 6 then (if f + 1 ≤ 12 then aut c (k + 1) 1 (f + 1) o a r 0 else (2, tb B n k, k))
       else if tk B n k = 7 then (if o + 1 ≤ (if one then 40 else 24) then aut c (k + 1) 4 f (o + 1) a r 0 else (2, tb B n k, k))
       else if tk B n k = 8 then (if a + 1 ≤ 16 then aut c (k + 1) 9 f o (a + 1) r 0 else (2, tb B n k, k))
       else (if r + 1 ≤ 4 then aut c (k + 1) 15 f o a (r + 1) 0 else (2, tb B n k, k)))
    else if (if q = 7 ∨ q = 13 then m + 1 else m) ≤ 6 then aut c (k + 1) (NXT (q * 12 + tk B n k)) f o a r (if q = 7 ∨ q = 13 then m + 1 else m)
    else (2, tb B n k, k)
end
/-- a state that wants one kind -/
def wnt (q : Int) : Int × Int := if q = 1 then (0, 2) else if q = 2 then (1, 3) else if q = 3 then (3, 0) else if q = 4 then (0, 5) else if q = 5 then (1, 6) else if q = 9 then (0, 10) else if q = 10 then (5, 11) else if q = 11 then (0, 12) else if q = 14 then (1, 12) else if q = 15 then (1, 16) else (1, 3)
theorem NXT_wnt0 : ∀ q : Nat, q < 17 → ∀ t : Nat, t < 12 → (q = 0 ∨ q = 6 ∨ q = 7 ∨ q = 8 ∨ q = 12 ∨ q = 13) ∨ NXT ((q : Int) * 12 + t) = if (t : Int) = (wnt q).1 then (wnt q).2 else -1 := by decide +kernel
theorem NXT_wnt (q : Nat) (h1 : q < 17) (h2 : q ≠ 0) (h3 : q ≠ 6) (h4 : q ≠ 7) (h5 : q ≠ 8) (h6 : q ≠ 12) (h7 : q ≠ 13) (t : Nat) (ht : t < 12) : NXT ((q : Int) * 12 + t) = if (t : Int) = (wnt q).1 then (wnt q).2 else -1 := by
  rcases NXT_wnt0 q h1 t ht with h | h
  · omega
  · exact h
theorem NXT_0 : ∀ t : Nat, t < 12 → NXT (0 * 12 + t) = if (t : Int) = 6 then 1 else if (t : Int) = 7 then 4 else if (t : Int) = 8 then 9 else if (t : Int) = 9 then 15 else if (t : Int) = 10 then 0 else -1 := by decide +kernel
theorem NXT_6 : ∀ t : Nat, t < 12 → NXT (6 * 12 + t) = if (t : Int) = 2 then 7 else if (t : Int) = 3 then 0 else -1 := by decide +kernel
theorem NXT_7 : ∀ t : Nat, t < 12 → NXT (7 * 12 + t) = if (t : Int) = 0 then 8 else -1 := by decide +kernel
theorem NXT_8 : ∀ t : Nat, t < 12 → NXT (8 * 12 + t) = if (t : Int) = 3 then 0 else if (t : Int) = 4 then 7 else -1 := by decide +kernel
theorem NXT_12 : ∀ t : Nat, t < 12 → NXT (12 * 12 + t) = if (t : Int) = 3 then 0 else if (t : Int) = 4 then 13 else -1 := by decide +kernel
theorem NXT_13 : ∀ t : Nat, t < 12 → NXT (13 * 12 + t) = if (t : Int) = 0 then 14 else -1 := by decide +kernel
section
variable {B : Int → Int} {n : Int} {one : Bool} {c k : Nat} {f o a r m : Int}
theorem tk_nat (B : Int → Int) (n : Int) (k : Nat) : ∃ t : Nat, t < 12 ∧ tk B n k = t := by
  have h := tk_in (B := B) (n := n) (k := k)
  exact ⟨(tk B n k).toNat, by omega, by omega⟩
theorem aut_n {q : Int} (h : ¬ gon B n one k q) : aut B n one (c + 1) k q f o a r m = (1, tb B n k, k) := by
  rw [aut, if_pos h]
theorem aut_e {q : Int} (h : gon B n one k q) (h1 : tk B n k = 10) : aut B n one (c + 1) k q f o a r m = (0, -1, k) := by
  rw [aut, if_neg (fun x => x h), if_pos h1]
theorem aut_f {q : Int} (h : gon B n one k q) (h1 : tk B n k ≠ 10) (h2 : k = 600) : aut B n one (c + 1) k q f o a r m = (2, tb B n k, k) := by
  rw [aut, if_neg (fun x => x h), if_neg h1, if_pos h2]
theorem aut_q {q : Int} (h : gon B n one k q) (h1 : tk B n k ≠ 10) (h2 : k ≠ 600) (hq : q ≠ 0) (hq7 : q ≠ 7) (hq13 : q ≠ 13) (hm : m ≤ 6) : aut B n one (c + 1) k q f o a r m = aut B n one c (k + 1) (NXT (q * 12 + tk B n k)) f o a r m := by
  rw [aut, if_neg (fun x => x h), if_neg h1, if_neg h2, if_neg hq, if_neg (by omega : ¬ (q = 7 ∨ q = 13)), if_pos hm]
theorem aut_q7 {q : Int} (h : gon B n one k q) (h1 : tk B n k ≠ 10) (h2 : k ≠ 600) (hq7 : q = 7 ∨ q = 13) : aut B n one (c + 1) k q f o a r m = if m + 1 ≤ 6 then aut B n one c (k + 1) (NXT (q * 12 + tk B n k)) f o a r (m + 1) else (2, tb B n k, k) := by
  rw [aut, if_neg (fun x => x h), if_neg h1, if_neg h2, if_neg (by omega), if_pos hq7]
theorem gon_n {q : Int} (hq : q ≠ 0) : gon B n one k q ↔ NXT (q * 12 + tk B n k) ≠ -1 := by
  unfold gon
  rw [if_neg (fun x => hq x.2), decide_eq_true_eq]
theorem gon_f : gon B n false k 0 ↔ NXT (0 * 12 + tk B n k) ≠ -1 := by
  unfold gon
  rw [if_neg (fun x => by cases x.1), decide_eq_true_eq]
theorem gon_t : gon B n true k 0 ↔ tk B n k = (if k = 0 then 7 else 10) := by
  unfold gon
  rw [if_pos ⟨rfl, rfl⟩, decide_eq_true_eq]
theorem aut_w {q : Nat} (h1 : q < 17) (h2 : q ≠ 0) (h3 : q ≠ 6) (h4 : q ≠ 7) (h5 : q ≠ 8) (h6 : q ≠ 12) (h7 : q ≠ 13) (hm : m ≤ 6) : aut B n one (c + 1) k q f o a r m = if tk B n k = (wnt q).1 then (if k = 600 then (2, tb B n k, k) else aut B n one c (k + 1) (wnt q).2 f o a r m) else (1, tb B n k, k) := by
  obtain ⟨t, ht, e⟩ := tk_nat B n k
  have e2 := NXT_wnt q h1 h2 h3 h4 h5 h6 h7 t ht
  rw [← e] at e2
  have g := gon_n (B := B) (n := n) (one := one) (k := k) (q := q) (by omega)
  rw [e2] at g
  have w1 : (wnt q).1 ≠ 10 := by
    unfold wnt
    (repeat' split) <;> omega
  have w2 : (wnt q).2 ≠ -1 := by
    unfold wnt
    (repeat' split) <;> omega
  by_cases w : tk B n k = (wnt q).1
  · rw [if_pos w] at g e2
    rw [if_pos w]
    by_cases v : k = 600
    · rw [if_pos v, aut_f (g.mpr w2) (by omega) v]
    · rw [if_neg v, aut_q (g.mpr w2) (by omega) v (by omega) (by omega) (by omega) hm, e2]
  · rw [if_neg w] at g
    rw [if_neg w, aut_n (fun x => g.mp x rfl)]
theorem aut_7 (hm : m ≤ 6) : aut B n one (c + 1) k 7 f o a r m = if tk B n k = 0 then (if k = 600 ∨ m = 6 then (2, tb B n k, k) else aut B n one c (k + 1) 8 f o a r (m + 1)) else (1, tb B n k, k) := by
  obtain ⟨t, ht, e⟩ := tk_nat B n k
  have e2 := NXT_7 t ht
  rw [← e] at e2
  have g := gon_n (B := B) (n := n) (one := one) (k := k) (q := 7) (by decide)
  rw [e2] at g
  by_cases w : tk B n k = 0
  · rw [if_pos w] at g e2
    rw [if_pos w]
    by_cases v : k = 600
    · rw [if_pos (Or.inl v), aut_f (g.mpr (by decide)) (by omega) v]
    · rw [aut_q7 (g.mpr (by decide)) (by omega) v (by decide), e2]
      by_cases u : m = 6
      · rw [if_pos (Or.inr u), if_neg (by omega)]
      · rw [if_pos (by omega : m + 1 ≤ 6), if_neg (by omega : ¬ (k = 600 ∨ m = 6))]
  · rw [if_neg w] at g
    rw [if_neg w, aut_n (fun x => g.mp x rfl)]
theorem aut_13 (hm : m ≤ 6) : aut B n one (c + 1) k 13 f o a r m = if tk B n k = 0 then (if k = 600 ∨ m = 6 then (2, tb B n k, k) else aut B n one c (k + 1) 14 f o a r (m + 1)) else (1, tb B n k, k) := by
  obtain ⟨t, ht, e⟩ := tk_nat B n k
  have e2 := NXT_13 t ht
  rw [← e] at e2
  have g := gon_n (B := B) (n := n) (one := one) (k := k) (q := 13) (by decide)
  rw [e2] at g
  by_cases w : tk B n k = 0
  · rw [if_pos w] at g e2
    rw [if_pos w]
    by_cases v : k = 600
    · rw [if_pos (Or.inl v), aut_f (g.mpr (by decide)) (by omega) v]
    · rw [aut_q7 (g.mpr (by decide)) (by omega) v (by decide), e2]
      by_cases u : m = 6
      · rw [if_pos (Or.inr u), if_neg (by omega)]
      · rw [if_pos (by omega : m + 1 ≤ 6), if_neg (by omega : ¬ (k = 600 ∨ m = 6))]
  · rw [if_neg w] at g
    rw [if_neg w, aut_n (fun x => g.mp x rfl)]
theorem aut_6 (hm : m ≤ 6) : aut B n one (c + 1) k 6 f o a r m = if tk B n k = 2 ∨ tk B n k = 3 then (if k = 600 then (2, tb B n k, k) else aut B n one c (k + 1) (if tk B n k = 2 then 7 else 0) f o a r m) else (1, tb B n k, k) := by
  obtain ⟨t, ht, e⟩ := tk_nat B n k
  have e2 := NXT_6 t ht
  rw [← e] at e2
  have g := gon_n (B := B) (n := n) (one := one) (k := k) (q := 6) (by decide)
  rw [e2] at g
  by_cases w : tk B n k = 2 ∨ tk B n k = 3
  · have g2 : gon B n one k 6 := g.mpr (by (repeat' split) <;> omega)
    rw [if_pos w]
    by_cases v : k = 600
    · rw [if_pos v, aut_f g2 (by omega) v]
    · rw [if_neg v, aut_q g2 (by omega) v (by decide) (by decide) (by decide) hm, e2]
      congr 1
      (repeat' split) <;> omega
  · rw [if_neg (by omega), if_neg (by omega)] at g
    rw [if_neg w, aut_n (fun x => g.mp x rfl)]
theorem aut_8 (hm : m ≤ 6) : aut B n one (c + 1) k 8 f o a r m = if tk B n k = 3 ∨ tk B n k = 4 then (if k = 600 then (2, tb B n k, k) else aut B n one c (k + 1) (if tk B n k = 3 then 0 else 7) f o a r m) else (1, tb B n k, k) := by
  obtain ⟨t, ht, e⟩ := tk_nat B n k
  have e2 := NXT_8 t ht
  rw [← e] at e2
  have g := gon_n (B := B) (n := n) (one := one) (k := k) (q := 8) (by decide)
  rw [e2] at g
  by_cases w : tk B n k = 3 ∨ tk B n k = 4
  · have g2 : gon B n one k 8 := g.mpr (by (repeat' split) <;> omega)
    rw [if_pos w]
    by_cases v : k = 600
    · rw [if_pos v, aut_f g2 (by omega) v]
    · rw [if_neg v, aut_q g2 (by omega) v (by decide) (by decide) (by decide) hm, e2]
      congr 1
      (repeat' split) <;> omega
  · rw [if_neg (by omega), if_neg (by omega)] at g
    rw [if_neg w, aut_n (fun x => g.mp x rfl)]
theorem aut_12 (hm : m ≤ 6) : aut B n one (c + 1) k 12 f o a r m = if tk B n k = 3 ∨ tk B n k = 4 then (if k = 600 then (2, tb B n k, k) else aut B n one c (k + 1) (if tk B n k = 3 then 0 else 13) f o a r m) else (1, tb B n k, k) := by
  obtain ⟨t, ht, e⟩ := tk_nat B n k
  have e2 := NXT_12 t ht
  rw [← e] at e2
  have g := gon_n (B := B) (n := n) (one := one) (k := k) (q := 12) (by decide)
  rw [e2] at g
  by_cases w : tk B n k = 3 ∨ tk B n k = 4
  · have g2 : gon B n one k 12 := g.mpr (by (repeat' split) <;> omega)
    rw [if_pos w]
    by_cases v : k = 600
    · rw [if_pos v, aut_f g2 (by omega) v]
    · rw [if_neg v, aut_q g2 (by omega) v (by decide) (by decide) (by decide) hm, e2]
      congr 1
      (repeat' split) <;> omega
  · rw [if_neg (by omega), if_neg (by omega)] at g
    rw [if_neg w, aut_n (fun x => g.mp x rfl)]
/-- at the beginning of a TELL, of a whole text -/
theorem aut_0 : aut B n false (c + 1) k 0 f o a r m = if tk B n k = 10 then (0, -1, k) else if 6 ≤ tk B n k ∧ tk B n k ≤ 9 then (if k = 600 then (2, tb B n k, k) else
    if tk B n k = 6 then (if f + 1 ≤ 12 then aut B n false c (k + 1) 1 (f + 1) o a r 0 else (2, tb B n k, k))
    else if tk B n k = 7 then (if o + 1 ≤ 24 then aut B n false c (k + 1) 4 f (o + 1) a r 0 else (2, tb B n k, k))
    else if tk B n k = 8 then (if a + 1 ≤ 16 then aut B n false c (k + 1) 9 f o (a + 1) r 0 else (2, tb B n k, k))
    else (if r + 1 ≤ 4 then aut B n false c (k + 1) 15 f o a (r + 1) 0 else (2, tb B n k, k))) else (1, tb B n k, k) := by
  obtain ⟨t, ht, e⟩ := tk_nat B n k
  have e2 := NXT_0 t ht
  rw [← e] at e2
  have g := gon_f (B := B) (n := n) (k := k)
  rw [e2] at g
  by_cases w : tk B n k = 10
  · rw [if_pos w, aut_e (g.mpr (by (repeat' split) <;> omega)) w]
  · rw [if_neg w]
    by_cases w2 : 6 ≤ tk B n k ∧ tk B n k ≤ 9
    · rw [if_pos w2, aut, if_neg (fun x => x (g.mpr (by (repeat' split) <;> omega))), if_neg w]
      rfl
    · rw [if_neg (by omega), if_neg (by omega), if_neg (by omega), if_neg (by omega), if_neg w] at g
      rw [if_neg w2, aut_n (fun x => g.mp x rfl)]
/-- one ORDER alone: its first token, and what is behind it -/
theorem aut_10 : aut B n true (c + 1) 0 0 f o a r m = if tk B n 0 = 7 then (if o + 1 ≤ 40 then aut B n true c 1 4 f (o + 1) a r 0 else (2, tb B n 0, 0)) else (1, tb B n 0, 0) := by
  have g := gon_t (B := B) (n := n) (k := 0)
  rw [if_pos rfl] at g
  by_cases w : tk B n 0 = 7
  · rw [if_pos w, aut, if_neg (fun x => x (g.mpr w)), if_neg (by omega), if_neg (by omega), if_pos rfl, if_neg (by omega), if_pos w]
    rfl
  · rw [if_neg w, aut_n (fun x => w (g.mp x))]
theorem aut_1e (hk : k ≠ 0) : aut B n true (c + 1) k 0 f o a r m = if tk B n k = 10 then (0, -1, k) else (1, tb B n k, k) := by
  have g := gon_t (B := B) (n := n) (k := k)
  rw [if_neg hk] at g
  by_cases w : tk B n k = 10
  · rw [if_pos w, aut_e (g.mpr w) w]
  · rw [if_neg w, aut_n (fun x => w (g.mp x))]
end
