/-! MARKS that lie apart, as a memory has them -/
section
variable {W n nr : Nat} {mk mb rk rb tk rm mk' mb' rk' rb' tk' rm' : Nat → Nat}
theorem dsj_c (h : dsj W n nr mk mb rk rb tk rm) (h1 : ∀ k, k < n → mk' k = mk k ∧ mb' k = mb k) (h2 : ∀ r, r < nr → rk' r = rk r ∧ rb' r = rb r ∧ tk' r = tk r ∧ rm' r = rm r) : dsj W n nr mk' mb' rk' rb' tk' rm' := by
  obtain ⟨a0, a1, a2, a3, a4, a5⟩ := h
  refine ⟨a0, fun k hk => ?_, fun r hr => ?_, fun k k' hk hk' hn => ?_, fun k r hk hr => ?_, fun r r' hr hr' hn => ?_⟩
  · rw [(h1 k hk).1, (h1 k hk).2]
    exact a1 k hk
  · obtain ⟨e1, e2, e3, e4⟩ := h2 r hr
    rw [e1, e2, e3, e4]
    exact a2 r hr
  · rw [(h1 k hk).1, (h1 k hk).2, (h1 k' hk').1, (h1 k' hk').2]
    exact a3 k k' hk hk' hn
  · obtain ⟨e1, e2, e3, e4⟩ := h2 r hr
    rw [e1, e2, e3, e4, (h1 k hk).1, (h1 k hk).2]
    exact a4 k r hk hr
  · obtain ⟨e1, e2, e3, e4⟩ := h2 r hr
    obtain ⟨f1, f2, f3, f4⟩ := h2 r' hr'
    rw [e1, e2, e3, e4, f1, f2, f3, f4]
    exact a5 r r' hr hr' hn
theorem rPc_c : ∀ (c r : Nat), (∀ q, r ≤ q → q < r + c → rk' q = rk q ∧ rb' q = rb q ∧ tk' q = tk q ∧ rm' q = rm q) → rPc rk' rb' tk' rm' c r = rPc rk rb tk rm c r
  | 0, r, _ => rfl
  | c + 1, r, h => by
    obtain ⟨e1, e2, e3, e4⟩ := h r (by omega) (by omega)
    rw [rPc, rPc, rPc_c c (r + 1) (fun q q1 q2 => h q (by omega) (by omega)), e3, e4]
    unfold fPc
    rw [e1, e2]
theorem pcs_c (h1 : ∀ k, k < n → mk' k = mk k ∧ mb' k = mb k) (h2 : ∀ r, r < nr → rk' r = rk r ∧ rb' r = rb r ∧ tk' r = tk r ∧ rm' r = rm r) : pcs n mk' mb' rk' rb' tk' rm' nr = pcs n mk mb rk rb tk rm nr := by
  unfold pcs
  rw [rPc_c nr 0 (fun q _ q2 => h2 q (by omega))]
  congr 1
  unfold oPc
  apply List.map_congr_left
  intro k hk
  have := List.mem_range'.mp hk
  have e := h1 k (by omega)
  rw [e.1, e.2]
theorem dis_s {s z s' z' a c : Nat} (h : dis s z s' z') (h1 : s' ≤ a) (h2 : a + c ≤ s' + z') : dis s z a c := by
  unfold dis at h ⊢
  omega
theorem dis_y {s z s' z' : Nat} (h : dis s z s' z') : dis s' z' s z := by
  unfold dis at h ⊢
  omega
/-- an ORDER that comes takes the first free MARK of room r -/
theorem dsj_come {r : Nat} {bt0 rbt : Nat} (h : dsj W n nr mk mb rk rb tk rm) (hr : r < nr) (hf : tk r < rm r) (hb : bt0 ≤ rbt) (hrb : rb r + rbt = W)
    (g1 : ∀ k, k < n → mk' k = mk k ∧ mb' k = mb k) (g2 : mk' n = (rk r + tk r) * 2 ^ (rbt - bt0)) (g3 : mb' n + bt0 = W)
    (g4 : ∀ q, q < nr → q ≠ r → tk' q = tk q) (g5 : tk' r = tk r + 1) : dsj W (n + 1) nr mk' mb' rk rb tk' rm := by
  obtain ⟨a0, a1, a2, a3, a4, a5⟩ := h
  obtain ⟨b1, b2, b3, b4⟩ := a2 r hr
  have eW : W - mb' n = bt0 := by omega
  have eR : W - rb r = rbt := by omega
  have eM : mk' n * 2 ^ (W - mb' n) = (rk r + tk r) * 2 ^ rbt := by
    rw [g2, eW, Nat.mul_assoc, ← Nat.pow_add]
    congr 2
    omega
  have hp0 : 0 < (2 : Nat) ^ rbt := Nat.two_pow_pos rbt
  have ep : (2 : Nat) ^ bt0 ≤ 2 ^ rbt := Nat.pow_le_pow_right (by decide) hb
  have e1 : (rk r + tk r) * 2 ^ rbt + 2 ^ rbt = (rk r + (tk r + 1)) * 2 ^ rbt := by rw [← Nat.add_assoc, Nat.add_mul (rk r + tk r) 1, Nat.one_mul]
  have e2 : (rm r - tk r) * 2 ^ rbt = 2 ^ rbt + (rm r - (tk r + 1)) * 2 ^ rbt := by
    rw [show rm r - tk r = 1 + (rm r - (tk r + 1)) by omega, Nat.add_mul, Nat.one_mul]
  have ends : (rk r + (tk r + 1)) * 2 ^ rbt + (rm r - (tk r + 1)) * 2 ^ rbt = (rk r + tk r) * 2 ^ rbt + (rm r - tk r) * 2 ^ rbt := by omega
  have tq : ∀ q, q < nr → tk q ≤ tk' q ∧ tk' q ≤ rm q ∧ (rk q + tk q) * 2 ^ (W - rb q) ≤ (rk q + tk' q) * 2 ^ (W - rb q) ∧ (rk q + tk' q) * 2 ^ (W - rb q) + (rm q - tk' q) * 2 ^ (W - rb q) ≤ (rk q + tk q) * 2 ^ (W - rb q) + (rm q - tk q) * 2 ^ (W - rb q) := by
    intro q hq
    by_cases w : q = r
    · subst w
      rw [g5, eR]
      exact ⟨by omega, by omega, by omega, by omega⟩
    · rw [g4 q hq w]
      exact ⟨Nat.le_refl _, (a2 q hq).2.2.1, Nat.le_refl _, Nat.le_refl _⟩
  have nin : ∀ q, q < nr → dis (mk' n * 2 ^ (W - mb' n)) (2 ^ (W - mb' n)) ((rk q + tk' q) * 2 ^ (W - rb q)) ((rm q - tk' q) * 2 ^ (W - rb q)) := by
    intro q hq
    by_cases w : q = r
    · subst w
      rw [g5, eM, eW, eR]
      unfold dis
      omega
    · refine dis_s ?_ (tq q hq).2.2.1 (tq q hq).2.2.2
      have d := a5 q r hq hr w
      rw [eR] at d
      apply dis_y
      refine dis_s d ?_ ?_
      · rw [eM]; exact Nat.le_refl _
      · rw [eM, eW]; omega
  have nok : ∀ k, k < n → dis (mk' k * 2 ^ (W - mb' k)) (2 ^ (W - mb' k)) (mk' n * 2 ^ (W - mb' n)) (2 ^ (W - mb' n)) := by
    intro k hk
    have d := a4 k r hk hr
    rw [(g1 k hk).1, (g1 k hk).2]
    rw [eR] at d
    refine dis_s d ?_ ?_
    · rw [eM]; exact Nat.le_refl _
    · rw [eM, eW]; omega
  refine ⟨a0, fun k hk => ?_, fun q hq => ?_, fun k k' hk hk' hn => ?_, fun k q hk hq => ?_, fun q q' hq hq' hn => ?_⟩
  · by_cases w : k = n
    · subst w
      refine ⟨by omega, by omega, ?_⟩
      rw [g2, show mb' k = rb r + (rbt - bt0) by omega, Nat.pow_add]
      exact Nat.mul_lt_mul_of_pos_right (by omega) (Nat.two_pow_pos _)
    · rw [(g1 k (by omega)).1, (g1 k (by omega)).2]
      exact a1 k (by omega)
  · obtain ⟨c1, c2, c3, c4⟩ := a2 q hq
    exact ⟨c1, c2, (tq q hq).2.1, c4⟩
  · by_cases w : k = n
    · subst w
      exact dis_y (nok k' (by omega))
    · by_cases w' : k' = n
      · subst w'
        exact nok k (by omega)
      · rw [(g1 k (by omega)).1, (g1 k (by omega)).2, (g1 k' (by omega)).1, (g1 k' (by omega)).2]
        exact a3 k k' (by omega) (by omega) hn
  · by_cases w : k = n
    · subst w
      exact nin q hq
    · rw [(g1 k (by omega)).1, (g1 k (by omega)).2]
      exact dis_s (a4 k q (by omega) hq) (tq q hq).2.2.1 (tq q hq).2.2.2
  · refine dis_s ?_ (tq q' hq').2.2.1 (tq q' hq').2.2.2
    apply dis_y
    refine dis_s ?_ (tq q hq).2.2.1 (tq q hq).2.2.2
    exact dis_y (a5 q q' hq hq' hn)
end
