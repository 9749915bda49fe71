/-! the model's way to pack: from the last thing back -/
section
variable (wt : Nat → Nat) (us : Nat → Int)
def mvs : Nat → Nat → Nat → Int
  | 0, _, _ => 0
  | c + 1, k, r => if wt k ≤ r ∧ mvs c (k + 1) r ≤ mvs c (k + 1) (r - wt k) + us k then mvs c (k + 1) (r - wt k) + us k else mvs c (k + 1) r
def lo : Nat → Nat → Nat → Int
  | 0, _, _ => 0
  | c + 1, k, r => if wt k ≤ r ∧ mvs wt us c (k + 1) r ≤ mvs wt us c (k + 1) (r - wt k) + us k then 2 ^ (39 - k) + lo c (k + 1) (r - wt k) else lo c (k + 1) r
def lst : Nat → Nat → List (Nat × Int)
  | 0, _ => []
  | c + 1, k => (wt k, us k * 2 ^ 40 + 2 ^ (39 - k)) :: lst c (k + 1)
/-- what is left at thing k; n things -/
def pth (n room : Nat) : Nat → Nat
  | 0 => room
  | k + 1 => if wt k ≤ pth n room k ∧ mvs wt us (n - 1 - k) (k + 1) (pth n room k) ≤ mvs wt us (n - 1 - k) (k + 1) (pth n room k - wt k) + us k then pth n room k - wt k else pth n room k
end
section
variable {wt : Nat → Nat} {us : Nat → Int}
theorem p2_s {k : Nat} (h : k ≤ 39) : (2 : Int) ^ (40 - k) = 2 * 2 ^ (39 - k) := by
  rw [show 40 - k = (39 - k) + 1 by omega, Int.pow_succ, Int.mul_comm]
theorem p2_0 (k : Nat) : (0 : Int) < 2 ^ k := Int.pow_pos (by decide)
theorem p2_40 (k : Nat) : (2 : Int) ^ (40 - k) ≤ 2 ^ 40 := by
  have : (2 : Nat) ^ (40 - k) ≤ 2 ^ 40 := Nat.pow_le_pow_right (by decide) (by omega)
  exact_mod_cast this
theorem emod_ediv2 {x P : Int} (h : 0 < P) : x % (P * 2) / P = x / P % 2 := by
  have e1 : x = P * (x / P) + x % P := (Int.mul_ediv_add_emod x P).symm
  have e2 : x / P = 2 * (x / P / 2) + x / P % 2 := (Int.mul_ediv_add_emod (x / P) 2).symm
  have b1 := Int.emod_nonneg x (show P ≠ 0 by omega)
  have b2 := Int.emod_lt_of_pos x h
  generalize x / P / 2 = q at e2
  have b3 : x / P % 2 = 0 ∨ x / P % 2 = 1 := by omega
  generalize x / P % 2 = s at e2 b3
  generalize x % P = m at e1 b1 b2
  have e3 : x = (P * s + m) + (P * 2) * q := by
    rw [e1, e2, Int.mul_add, Int.mul_assoc]
    omega
  rw [e3, Int.add_mul_emod_self_left]
  rcases b3 with rfl | rfl
  · rw [Int.mul_zero, Int.zero_add, Int.emod_eq_of_lt b1 (by omega), Int.ediv_eq_zero_of_lt b1 b2]
  · rw [Int.mul_one, Int.emod_eq_of_lt (by omega) (by omega), Int.add_comm, Int.add_ediv_of_dvd_right (Int.dvd_refl P), Int.ediv_self (by omega), Int.ediv_eq_zero_of_lt b1 b2]
    rfl
theorem lo_b : ∀ (c k r : Nat), k + c ≤ 40 → 0 ≤ lo wt us c k r ∧ lo wt us c k r < 2 ^ (40 - k)
  | 0, k, r, h => ⟨Int.le_refl 0, p2_0 _⟩
  | c + 1, k, r, h => by
    have h1 := lo_b c (k + 1) (r - wt k) (by omega)
    have h2 := lo_b c (k + 1) r (by omega)
    rw [show 40 - (k + 1) = 39 - k by omega] at h1 h2
    have h3 := p2_s (k := k) (by omega)
    have h4 := p2_0 (39 - k)
    rw [lo, h3]
    split <;> omega
theorem kn_dp : ∀ (c k r : Nat), k + c ≤ 40 → kn (lst wt us c k) r = mvs wt us c k r * 2 ^ 40 + lo wt us c k r
  | 0, k, r, h => rfl
  | c + 1, k, r, h => by
    have h1 := lo_b (wt := wt) (us := us) c (k + 1) (r - wt k) (by omega)
    have h2 := lo_b (wt := wt) (us := us) c (k + 1) r (by omega)
    rw [show 40 - (k + 1) = 39 - k by omega] at h1 h2
    have h3 := p2_s (k := k) (by omega)
    have h4 := p2_0 (39 - k)
    have h5 := p2_40 k
    have i1 := kn_dp c (k + 1) (r - wt k) (by omega)
    have i2 := kn_dp c (k + 1) r (by omega)
    rw [lst, kn]
    show (if wt k ≤ r then max (us k * 2 ^ 40 + 2 ^ (39 - k) + kn (lst wt us c (k + 1)) (r - wt k)) (kn (lst wt us c (k + 1)) r) else kn (lst wt us c (k + 1)) r) = _
    rw [i1, i2, mvs, lo]
    generalize (2 : Int) ^ (39 - k) = P at *
    generalize mvs wt us c (k + 1) (r - wt k) = A
    generalize mvs wt us c (k + 1) r = B
    generalize lo wt us c (k + 1) (r - wt k) = a at *
    generalize lo wt us c (k + 1) r = b at *
    have e40 : (2 : Int) ^ 40 = 1099511627776 := by decide
    rw [h3, e40] at h5
    rw [e40]
    by_cases w : wt k ≤ r
    · rw [if_pos w]
      by_cases w2 : B ≤ A + us k
      · rw [if_pos ⟨w, w2⟩, if_pos ⟨w, w2⟩]
        omega
      · rw [if_neg (fun q => w2 q.2), if_neg (fun q => w2 q.2)]
        omega
    · rw [if_neg w, if_neg (fun q => w q.1), if_neg (fun q => w q.1)]
theorem lo_path {n room : Nat} (hn : n ≤ 40) : ∀ k, k ≤ n → lo wt us n 0 room % 2 ^ (40 - k) = lo wt us (n - k) k (pth wt us n room k)
  | 0, h => by
    have := lo_b (wt := wt) (us := us) n 0 room (by omega)
    exact Int.emod_eq_of_lt this.1 this.2
  | k + 1, h => by
    have ih := lo_path (room := room) hn k (by omega)
    have h3 := p2_s (k := k) (by omega)
    have h4 := p2_0 (39 - k)
    have e1 : lo wt us n 0 room % 2 ^ (40 - (k + 1)) = (lo wt us n 0 room % 2 ^ (40 - k)) % 2 ^ (39 - k) := by
      rw [show 40 - (k + 1) = 39 - k by omega]
      rw [Int.emod_emod_of_dvd _ ⟨2, by rw [h3, Int.mul_comm]⟩]
    rw [e1, ih, show n - k = (n - 1 - k) + 1 by omega, lo, pth, show n - (k + 1) = n - 1 - k by omega]
    have b1 := lo_b (wt := wt) (us := us) (n - 1 - k) (k + 1) (pth wt us n room k - wt k) (by omega)
    have b2 := lo_b (wt := wt) (us := us) (n - 1 - k) (k + 1) (pth wt us n room k) (by omega)
    rw [show 40 - (k + 1) = 39 - k by omega] at b1 b2
    split
    · rw [Int.add_comm, Int.add_emod_right]
      exact Int.emod_eq_of_lt b1.1 b1.2
    · exact Int.emod_eq_of_lt b2.1 b2.2
/-- the bit of a thing tells whether the model takes it -/
theorem lo_bit {n room k : Nat} (hn : n ≤ 40) (hk : k < n) : lo wt us n 0 room / 2 ^ (39 - k) % 2 = if wt k ≤ pth wt us n room k ∧ mvs wt us (n - 1 - k) (k + 1) (pth wt us n room k) ≤ mvs wt us (n - 1 - k) (k + 1) (pth wt us n room k - wt k) + us k then 1 else 0 := by
  have ih := lo_path (wt := wt) (us := us) (room := room) hn k (by omega)
  have h3 := p2_s (k := k) (by omega)
  have h4 := p2_0 (39 - k)
  have b1 := lo_b (wt := wt) (us := us) (n - 1 - k) (k + 1) (pth wt us n room k - wt k) (by omega)
  have b2 := lo_b (wt := wt) (us := us) (n - 1 - k) (k + 1) (pth wt us n room k) (by omega)
  rw [show 40 - (k + 1) = 39 - k by omega] at b1 b2
  have e1 : lo wt us n 0 room / 2 ^ (39 - k) % 2 = (lo wt us n 0 room % 2 ^ (40 - k)) / 2 ^ (39 - k) := by
    rw [h3, Int.mul_comm]
    generalize lo wt us n 0 room = x
    generalize (2 : Int) ^ (39 - k) = P at h4
    exact (emod_ediv2 h4).symm
  rw [e1, ih, show n - k = (n - 1 - k) + 1 by omega, lo]
  split
  · rw [show (2 : Int) ^ (39 - k) + lo wt us (n - 1 - k) (k + 1) (pth wt us n room k - wt k) = lo wt us (n - 1 - k) (k + 1) (pth wt us n room k - wt k) + 1 * 2 ^ (39 - k) by rw [Int.one_mul, Int.add_comm], Int.add_mul_ediv_right _ _ (by omega), Int.ediv_eq_zero_of_lt b1.1 b1.2]
    rfl
  · exact Int.ediv_eq_zero_of_lt b2.1 b2.2
end
