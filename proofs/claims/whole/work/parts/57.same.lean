/-! class and model choose the same -/
theorem lst_map {wt : Nat → Nat} {us : Nat → Int} : ∀ (c k : Nat), lst wt us c k = (List.range' k c).map (fun i => (wt i, us i * 2 ^ 40 + 2 ^ (39 - i)))
  | 0, k => rfl
  | c + 1, k => by rw [lst, List.range'_succ, List.map_cons, lst_map c (k + 1)]
section
variable {t : Nat} {u : Int} {M : Nat → Int → Int}
theorem pkw_lo {n C : Nat} (hu : u = 8 ∨ u = 16) (hc : ctd t M) (hn : M t 3 = n) (hC : C ≤ 65537) (hC2 : C < 2 ^ (u.toNat + 1)) : pkw (cLv t u M) (u.toNat + 1) 0 C [] % 2 ^ 40 = lo (cWt t u M) (cUs t M) n 0 C := by
  obtain ⟨c1, c2, c3, c4⟩ := hc
  have hn40 : n ≤ 40 := by omega
  have hnn : (M t 3).toNat = n := by omega
  have hb : ∀ k ∈ List.range' 0 n, (0 ≤ M (t + 6) k ∧ M (t + 6) k ≤ 24) ∧ (0 ≤ M (t + 4) k ∧ M (t + 4) k ≤ 10000) := by
    intro k hk
    have := List.mem_range'.mp hk
    exact c2 k (by omega) (by omega)
  have e1 := pkw_kn (lv := cLv t u M) (u.toNat + 1) 0 C [] 10995666033573888 hC2 (by show (0 : Int) ≤ 10995666033573888; decide) (fun j v hv => by
    unfold cLv at hv
    obtain ⟨k, hk, rfl⟩ := List.mem_map.mp hv
    rw [hnn] at hk
    have := hb k (List.mem_filter.mp hk).1
    exact cWo_b this.2.1 this.2.2)
  have e2 : cLv t u M = fun j => ((List.range' 0 n).filter (fun k => cBt t u M k == j)).map (cWo t M) := by
    funext j
    unfold cLv
    rw [hnn]
  have e3 := kn_perm (its_perm (List.range' 0 n) (cBt t u M) (cWo t M) (u.toNat + 1) 0) C
  have e4 : ((List.range' 0 n).filter (fun k => decide (0 ≤ cBt t u M k ∧ cBt t u M k < 0 + (u.toNat + 1)))).map (fun k => (2 ^ (cBt t u M k - 0), cWo t M k)) = (lst (cWt t u M) (cUs t M) n 0).filter (fun q => decide (q.1 < 65540)) := by
    rw [lst_map, List.filter_map]
    have e5 : (List.range' 0 n).filter ((fun q : Nat × Int => decide (q.1 < 65540)) ∘ fun i => (cWt t u M i, cUs t M i * 2 ^ 40 + 2 ^ (39 - i))) = (List.range' 0 n).filter (fun k => decide (0 ≤ cBt t u M k ∧ cBt t u M k < 0 + (u.toNat + 1))) := by
      apply List.filter_congr
      intro k hk
      have h1 := (hb k hk).1
      show decide (cWt t u M k < 65540) = decide (0 ≤ cBt t u M k ∧ cBt t u M k < 0 + (u.toNat + 1))
      unfold cWt cBt
      by_cases w : M (t + 6) k < u
      · rw [if_pos w, if_pos w]
        have hp : (2 : Nat) ^ (M (t + 6) k).toNat ≤ 2 ^ 16 := Nat.pow_le_pow_right (by decide) (by omega)
        rw [decide_eq_true (by omega), decide_eq_true (by omega)]
      · rw [if_neg w, if_neg w, decide_eq_false (by omega), decide_eq_false (by omega)]
    rw [e5]
    apply List.map_congr_left
    intro k hk
    have h1 := (hb k (List.mem_filter.mp hk).1).1
    have h2 : 0 ≤ cBt t u M k ∧ cBt t u M k < 0 + (u.toNat + 1) := by simpa using (List.mem_filter.mp hk).2
    show (2 ^ (cBt t u M k - 0), cWo t M k) = (cWt t u M k, cWo t M k)
    congr 1
    unfold cBt at h2 ⊢
    unfold cWt
    by_cases w : M (t + 6) k < u
    · rw [if_pos w, if_pos w]
      rfl
    · rw [if_neg w] at h2
      omega
  have e5 : kn ((lst (cWt t u M) (cUs t M) n 0).filter (fun q => decide (q.1 < 65540))) C = kn (lst (cWt t u M) (cUs t M) n 0) C := by
    apply kn_filter
    intro q hq hp
    have : ¬ q.1 < 65540 := by simpa using hp
    omega
  have e6 := kn_dp (wt := cWt t u M) (us := cUs t M) n 0 C (by omega)
  have hlo := lo_b (wt := cWt t u M) (us := cUs t M) n 0 C (by omega)
  rw [e1, show ones [] ++ its (cLv t u M) (u.toNat + 1) 0 = its (cLv t u M) (u.toNat + 1) 0 from rfl, e2, e3, e4, e5, e6, Int.add_comm, Int.add_mul_emod_self_right]
  exact Int.emod_eq_of_lt hlo.1 hlo.2
theorem and_p2 {s i : Nat} : s &&& 2 ^ i = 0 ↔ s.testBit i = false := by
  constructor
  · intro h
    have := congrArg (fun x => x.testBit i) h
    simp only [Nat.testBit_and, Nat.testBit_two_pow_self, Bool.and_true, Nat.zero_testBit] at this
    exact this
  · intro h
    apply Nat.eq_of_testBit_eq
    intro j
    rw [Nat.testBit_and, Nat.testBit_two_pow, Nat.zero_testBit]
    by_cases w : i = j
    · subst w; rw [h]; rfl
    · simp [w]
theorem lo_and {wt : Nat → Nat} {us : Nat → Int} {n room k : Nat} (hn : n ≤ 40) (hk : k < n) : lAnd (lo wt us n 0 room) (2 ^ (39 - k)) = 0 ↔ ¬ cnd wt us n k (pth wt us n room k) := by
  have hb := lo_b (wt := wt) (us := us) n 0 room (by omega)
  have hbit := lo_bit (wt := wt) (us := us) (room := room) hn hk
  obtain ⟨s, hs⟩ : ∃ s : Nat, lo wt us n 0 room = s := ⟨(lo wt us n 0 room).toNat, by omega⟩
  rw [hs] at hb hbit ⊢
  have hp : (2 : Nat) ^ (39 - k) ≤ 2 ^ 39 := Nat.pow_le_pow_right (by decide) (by omega)
  have e1 : (2 : Int) ^ (39 - k) = ((2 ^ (39 - k) : Nat) : Int) := by push_cast; rfl
  have hs40 : s < 2 ^ 40 := by
    have : ((s : Nat) : Int) < 2 ^ 40 := hb.2
    exact_mod_cast this
  have e2 : ((s : Int) / 2 ^ (39 - k)) % 2 = ((s / 2 ^ (39 - k) % 2 : Nat) : Int) := by push_cast; rfl
  rw [e2] at hbit
  rw [e1, lAnd_n (by omega) (by omega)]
  have e3 : ((s &&& 2 ^ (39 - k) : Nat) : Int) = 0 ↔ s.testBit (39 - k) = false := by
    rw [← and_p2]
    omega
  rw [e3, Nat.testBit_eq_decide_div_mod_eq, decide_eq_false_iff_not]
  by_cases w : cnd wt us n k (pth wt us n room k)
  · rw [if_pos w] at hbit
    constructor
    · intro q; omega
    · intro q; exact absurd w q
  · rw [if_neg w] at hbit
    exact ⟨fun _ => w, fun _ => by omega⟩
/-- what is taken fits -/
theorem pth_sum {wt : Nat → Nat} {us : Nat → Int} {n room : Nat} : ∀ k, (pth wt us n room k : Int) + smw (fun i => if cnd wt us n i.toNat (pth wt us n room i.toNat) then (wt i.toNat : Int) else 0) k = room
  | 0 => by show (room : Int) + 0 = room; omega
  | k + 1 => by
    have ih := pth_sum (wt := wt) (us := us) (n := n) (room := room) k
    rw [smw, pth, show ((k : Nat) : Int).toNat = k by omega]
    by_cases w : cnd wt us n k (pth wt us n room k)
    · rw [if_pos w, if_pos w]
      have := w.1
      omega
    · rw [if_neg w, if_neg w]
      omega
end
/-! marks, one behind the other -/
def asg : List (Nat × Nat × Nat) → Nat → Nat → Nat → Nat
  | [], _, _, _ => 0
  | p :: R, len, nx, x => if x = p.1 then nx * 2 ^ (p.2.1 - len) else asg R p.2.1 (nx * 2 ^ (p.2.1 - len) + p.2.2) x
def msr (W : Nat) : List (Nat × Nat × Nat) → Nat
  | [] => 0
  | p :: R => p.2.2 * 2 ^ (W - p.2.1) + msr W R
/-- lengths grow, no name twice -/
def srt (W : Nat) : Nat → List (Nat × Nat × Nat) → Prop
  | _, [] => True
  | len, p :: R => len ≤ p.2.1 ∧ p.2.1 ≤ W ∧ (∀ q ∈ R, q.1 ≠ p.1) ∧ srt W p.2.1 R
theorem pw_sub {W l len : Nat} (h1 : len ≤ l) (h2 : l ≤ W) (nx : Nat) : nx * 2 ^ (l - len) * 2 ^ (W - l) = nx * 2 ^ (W - len) := by
  rw [Nat.mul_assoc, ← Nat.pow_add]
  congr 2
  omega
theorem asg_in {W : Nat} : ∀ (R : List (Nat × Nat × Nat)) (len nx : Nat), srt W len R → ∀ q ∈ R, nx * 2 ^ (W - len) ≤ asg R len nx q.1 * 2 ^ (W - q.2.1) ∧ asg R len nx q.1 * 2 ^ (W - q.2.1) + q.2.2 * 2 ^ (W - q.2.1) ≤ nx * 2 ^ (W - len) + msr W R
  | [], _, _, _, q, hq => by cases hq
  | p :: R, len, nx, h, q, hq => by
    obtain ⟨h1, h2, h3, h4⟩ := h
    have e := pw_sub h1 h2 nx
    rw [asg, msr]
    by_cases w : q = p
    · subst w
      rw [if_pos rfl, e]
      omega
    · have hq' : q ∈ R := by
        rcases List.mem_cons.mp hq with v | v
        · exact absurd v w
        · exact v
      have ih := asg_in R p.2.1 (nx * 2 ^ (p.2.1 - len) + p.2.2) h4 q hq'
      rw [Nat.add_mul, e] at ih
      rw [if_neg (h3 q hq')]
      omega
theorem asg_dis {W : Nat} : ∀ (R : List (Nat × Nat × Nat)) (len nx : Nat), srt W len R → ∀ q ∈ R, ∀ s ∈ R, q ≠ s → asg R len nx q.1 * 2 ^ (W - q.2.1) + q.2.2 * 2 ^ (W - q.2.1) ≤ asg R len nx s.1 * 2 ^ (W - s.2.1) ∨ asg R len nx s.1 * 2 ^ (W - s.2.1) + s.2.2 * 2 ^ (W - s.2.1) ≤ asg R len nx q.1 * 2 ^ (W - q.2.1)
  | [], _, _, _, q, hq, _, _, _ => by cases hq
  | p :: R, len, nx, h, q, hq, s, hs, hne => by
    obtain ⟨h1, h2, h3, h4⟩ := h
    have e := pw_sub h1 h2 nx
    rw [asg, asg]
    by_cases w : q = p
    · subst w
      have hs' : s ∈ R := by
        rcases List.mem_cons.mp hs with v | v
        · exact absurd v.symm hne
        · exact v
      have ih := (asg_in R q.2.1 (nx * 2 ^ (q.2.1 - len) + q.2.2) h4 s hs').1
      rw [Nat.add_mul] at ih
      rw [if_pos rfl, if_neg (h3 s hs')]
      exact Or.inl ih
    · have hq' : q ∈ R := by
        rcases List.mem_cons.mp hq with v | v
        · exact absurd v w
        · exact v
      by_cases w2 : s = p
      · subst w2
        have ih := (asg_in R s.2.1 (nx * 2 ^ (s.2.1 - len) + s.2.2) h4 q hq').1
        rw [Nat.add_mul] at ih
        rw [if_pos rfl, if_neg (h3 q hq')]
        exact Or.inr ih
      · have hs' : s ∈ R := by
          rcases List.mem_cons.mp hs with v | v
          · exact absurd v w2
          · exact v
        rw [if_neg (h3 q hq'), if_neg (h3 s hs')]
        exact asg_dis R p.2.1 (nx * 2 ^ (p.2.1 - len) + p.2.2) h4 q hq' s hs' hne
theorem asg_sh {R : List (Nat × Nat × Nat)} {len nx x : Nat} (h : ∀ q ∈ R, len + 1 ≤ q.2.1) : asg R len nx x = asg R (len + 1) (nx * 2) x := by
  cases R with
  | nil => rfl
  | cons p R =>
    have := h p List.mem_cons_self
    have e : nx * 2 ^ (p.2.1 - len) = nx * 2 * 2 ^ (p.2.1 - (len + 1)) := by
      rw [show p.2.1 - len = (p.2.1 - (len + 1)) + 1 by omega, Nat.pow_succ, Nat.mul_assoc, Nat.mul_comm 2]
    rw [asg, asg, e]
section
variable (n nr : Nat) (mb rb rm : Nat → Nat)
/-- ORDERS from k on, c of them, with MARKS of m bits; rooms likewise; all levels -/
def oL (m c k : Nat) : List (Nat × Nat × Nat) := ((List.range' k c).filter (fun i => mb i == m)).map (fun i => (i, m, 1))
def rL (m c k : Nat) : List (Nat × Nat × Nat) := ((List.range' k c).filter (fun i => rb i == m)).map (fun i => (40 + i, m, rm i))
def aL : Nat → Nat → List (Nat × Nat × Nat)
  | 0, _ => []
  | c + 1, m => oL mb m n 0 ++ (rL rb rm m nr 0 ++ aL c (m + 1))
end
