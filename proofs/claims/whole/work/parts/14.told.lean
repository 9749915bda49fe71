/-! rows for numbers -/
theorem lCmp_eq0 {x y : Int} : (lCmp x y = 0) = (x = y) := by
  unfold lCmp
  apply propext
  split
  · constructor <;> intro h <;> omega
  · split <;> constructor <;> intro h <;> omega
theorem lCmp_ne0 {x y : Int} : (lCmp x y ≠ 0) = (x ≠ y) := by rw [ne_eq, lCmp_eq0]
theorem lCmp_lt0 {x y : Int} : (lCmp x y < 0) = (x < y) := by
  unfold lCmp
  apply propext
  split
  · constructor <;> intro h <;> omega
  · split <;> constructor <;> intro h <;> omega
theorem lCmp_ge0 {x y : Int} : (lCmp x y ≥ 0) = (x ≥ y) := by
  unfold lCmp
  apply propext
  split
  · constructor <;> intro h <;> omega
  · split <;> constructor <;> intro h <;> omega
theorem lCmp_gt0 {x y : Int} : (lCmp x y > 0) = (x > y) := by
  unfold lCmp
  apply propext
  split
  · constructor <;> intro h <;> omega
  · split <;> constructor <;> intro h <;> omega
theorem lCmp_le0 {x y : Int} : (lCmp x y ≤ 0) = (x ≤ y) := by
  unfold lCmp
  apply propext
  split
  · constructor <;> intro h <;> omega
  · split <;> constructor <;> intro h <;> omega
theorem i2B_r {x : Int} (h0 : -128 ≤ x) (h1 : x < 128) : i2B x = x := by
  unfold i2B
  rw [Int32.toInt_toInt8, inI_r ⟨by omega, by omega⟩]
  exact Int.bmod_eq_of_le (by omega) (by omega)
theorem i2B_b (x : Int) : -128 ≤ i2B x ∧ i2B x < 128 := by
  have h1 := (Int32.ofInt x).toInt8.le_toInt
  have h2 := (Int32.ofInt x).toInt8.toInt_lt
  unfold i2B
  omega
theorem i2B_i2B {x : Int} : i2B (i2B x) = i2B x := i2B_r (i2B_b x).1 (i2B_b x).2
/-! Told -/
/-- the first i from i0 on, of n, for which p holds; -1 without -/
def fnd (p : Int → Bool) : Nat → Int → Int
  | 0, _ => -1
  | n + 1, i => if p i = true then i else fnd p n (i + 1)
/-- how many i from i0 on, of n -/
def cntp (p : Int → Bool) : Nat → Int → Int
  | 0, _ => 0
  | n + 1, i => (if p i = true then 1 else 0) + cntp p n (i + 1)
theorem fnd_ge {p : Int → Bool} : ∀ (n : Nat) (i : Int), fnd p n i = -1 ∨ (i ≤ fnd p n i ∧ fnd p n i < i + n)
  | 0, i => Or.inl rfl
  | n + 1, i => by
    unfold fnd
    split
    · right; omega
    · rcases fnd_ge n (i + 1) with h | h
      · exact Or.inl h
      · right; omega
theorem fnd_congr {p q : Int → Bool} : ∀ (n : Nat) (i : Int), (∀ j, i ≤ j → j < i + n → p j = q j) → fnd p n i = fnd q n i
  | 0, i, h => rfl
  | n + 1, i, h => by
    unfold fnd
    rw [h i (by omega) (by omega), fnd_congr n (i + 1) (fun j h1 h2 => h j (by omega) (by omega))]
theorem cntp_congr {p q : Int → Bool} : ∀ (n : Nat) (i : Int), (∀ j, i ≤ j → j < i + n → p j = q j) → cntp p n i = cntp q n i
  | 0, i, h => rfl
  | n + 1, i, h => by
    unfold cntp
    rw [h i (by omega) (by omega), cntp_congr n (i + 1) (fun j h1 h2 => h j (by omega) (by omega))]
theorem cntp_in {p : Int → Bool} : ∀ (n : Nat) (i : Int), 0 ≤ cntp p n i ∧ cntp p n i ≤ n
  | 0, i => ⟨Int.le_refl _, Int.le_refl _⟩
  | n + 1, i => by
    have := cntp_in (p := p) n (i + 1)
    unfold cntp
    split <;> omega
theorem To_memberOf_sp {L : Nat} {b : Bool} {M : Nat → Int → Int} {t : Nat} {k f : Int} {Q : Option mV → mM → Prop} (ht : isT t) (hk0 : 0 ≤ k) (hk : k < 40) (hs0 : 0 ≤ M (t + 5) k) (hs : M (t + 5) k ≤ 6) (h : Q (some (.inl (fnd (fun i => M (t + 7) (k * 6 + i) == f) (M (t + 5) k).toNat 0))) (mS L b M)) : Cl i_To_memberOf [.inr (.inr t), .inl k, .inl f] (mS L b M) Q := by
  have h16 := isT_16 ht
  apply E_To_memberOf
  apply B_To_memberOf_0
  simp only [mwp, mst, mii, mll, mli, mi1, ml1, mr1, mir, mlr, mrr, miir, mlir, mget, mgi, mgl, mgr, mset, mset2, mkill, mput_t, mputr_t, mpop, mpsh, mrcv, mcnd, mtsw, mlsw, List.set_cons_zero, b_To_memberOf_0]
  suffices loop : ∀ (n : Nat) (i : Int), 0 ≤ i → i + n = M (t + 5) k → Q (some (.inl (fnd (fun i => M (t + 7) (k * 6 + i) == f) n i))) (mS L b M) → Jd i_To_memberOf Q (0, 0) 2 [some (.inr (.inr t)), some (.inl k), some (.inl f), some (.inl i)] [] (mS L b M) by
    exact loop _ 0 (by omega) (by omega) h
  intro n
  induction n with
  | zero =>
    intro i h0 h1 h2
    apply B_To_memberOf_2
    simp only [mwp, mst, mii, mll, mli, mi1, ml1, mr1, mir, mlr, mrr, miir, mlir, mget, mgi, mgl, mgr, mset, mset2, mkill, mput_t, mputr_t, mpop, mpsh, mrcv, mcnd, mtsw, mlsw, List.set_cons_zero, b_To_memberOf_2, SHt_0 ht, SHt_1 ht, SHt_2 ht, SHt_3 ht, SHt_4 ht, SHt_5 ht, SHt_6 ht, SHt_7 ht, SHt_8 ht, SHt_9 ht, SHt_10 ht, SHt_11 ht, SHt_12 ht, SHt_13 ht, SHt_14 ht, RFt_1 ht, RFt_2 ht, RFt_4 ht, RFt_5 ht, RFt_6 ht, RFt_7 ht, RFt_8 ht, RFt_10 ht, RFt_11 ht, RFt_12 ht, RFt_13 ht, RFt_14 ht, RFt_16 ht, RFt_17 ht]
    (with_reducible repeat' (first | apply And.intro | intro _)) <;> try (first | omega | trivial)
    apply B_To_memberOf_35
    simp only [mwp, mst, mii, mll, mli, mi1, ml1, mr1, mir, mlr, mrr, miir, mlir, mget, mgi, mgl, mgr, mset, mset2, mkill, mput_t, mputr_t, mpop, mpsh, mrcv, mcnd, mtsw, mlsw, List.set_cons_zero, b_To_memberOf_35]
    exact h2
  | succ n ih =>
    intro i h0 h1 h2
    apply B_To_memberOf_2
    simp only [mwp, mst, mii, mll, mli, mi1, ml1, mr1, mir, mlr, mrr, miir, mlir, mget, mgi, mgl, mgr, mset, mset2, mkill, mput_t, mputr_t, mpop, mpsh, mrcv, mcnd, mtsw, mlsw, List.set_cons_zero, b_To_memberOf_2, SHt_0 ht, SHt_1 ht, SHt_2 ht, SHt_3 ht, SHt_4 ht, SHt_5 ht, SHt_6 ht, SHt_7 ht, SHt_8 ht, SHt_9 ht, SHt_10 ht, SHt_11 ht, SHt_12 ht, SHt_13 ht, SHt_14 ht, RFt_1 ht, RFt_2 ht, RFt_4 ht, RFt_5 ht, RFt_6 ht, RFt_7 ht, RFt_8 ht, RFt_10 ht, RFt_11 ht, RFt_12 ht, RFt_13 ht, RFt_14 ht, RFt_16 ht, RFt_17 ht]
    (with_reducible repeat' (first | apply And.intro | intro _)) <;> try (first | omega | trivial)
    · rename_i q
      apply B_To_memberOf_29
      simp only [mwp, mst, mii, mll, mli, mi1, ml1, mr1, mir, mlr, mrr, miir, mlir, mget, mgi, mgl, mgr, mset, mset2, mkill, mput_t, mputr_t, mpop, mpsh, mrcv, mcnd, mtsw, mlsw, List.set_cons_zero, b_To_memberOf_29]
      (with_reducible repeat' (first | apply And.intro | intro _)) <;> try (first | omega | trivial)
      refine ih _ (by omega) (by omega) ?_
      rw [fnd, if_neg (by simpa using q)] at h2
      exact h2
    · rename_i q
      rw [fnd, if_pos (by simpa using q)] at h2
      exact h2
theorem To_indexOf_sp {L : Nat} {b : Bool} {M : Nat → Int → Int} {r len : Nat} {n x : Int} {Q : Option mV → mM → Prop} (hr : SH L r = (101, len)) (hn0 : 0 ≤ n) (hn : n ≤ len) (hl : len < 1000000) (h : Q (some (.inl (fnd (fun i => M r i == x) n.toNat 0))) (mS L b M)) : Cl i_To_indexOf [.inr (.inr r), .inl n, .inr (.inl x)] (mS L b M) Q := by
  apply E_To_indexOf
  apply B_To_indexOf_0
  simp only [mwp, mst, mii, mll, mli, mi1, ml1, mr1, mir, mlr, mrr, miir, mlir, mget, mgi, mgl, mgr, mset, mset2, mkill, mput_t, mputr_t, mpop, mpsh, mrcv, mcnd, mtsw, mlsw, List.set_cons_zero, b_To_indexOf_0]
  suffices loop : ∀ (c : Nat) (i : Int), 0 ≤ i → i + c = n → Q (some (.inl (fnd (fun i => M r i == x) c i))) (mS L b M) → Jd i_To_indexOf Q (0, 0) 3 [some (.inr (.inr r)), some (.inl n), some (.inr (.inl x)), none, some (.inl i)] [] (mS L b M) by
    exact loop _ 0 (by omega) (by omega) h
  intro c
  induction c with
  | zero =>
    intro i h0 h1 h2
    apply B_To_indexOf_3
    simp only [mwp, mst, mii, mll, mli, mi1, ml1, mr1, mir, mlr, mrr, miir, mlir, mget, mgi, mgl, mgr, mset, mset2, mkill, mput_t, mputr_t, mpop, mpsh, mrcv, mcnd, mtsw, mlsw, List.set_cons_zero, b_To_indexOf_3, hr, lCmp_eq0, lCmp_ne0, lCmp_lt0, lCmp_ge0, lCmp_gt0, lCmp_le0]
    (with_reducible repeat' (first | apply And.intro | intro _)) <;> try (first | omega | trivial)
    apply B_To_indexOf_34
    simp only [mwp, mst, mii, mll, mli, mi1, ml1, mr1, mir, mlr, mrr, miir, mlir, mget, mgi, mgl, mgr, mset, mset2, mkill, mput_t, mputr_t, mpop, mpsh, mrcv, mcnd, mtsw, mlsw, List.set_cons_zero, b_To_indexOf_34]
    exact h2
  | succ c ih =>
    intro i h0 h1 h2
    apply B_To_indexOf_3
    simp only [mwp, mst, mii, mll, mli, mi1, ml1, mr1, mir, mlr, mrr, miir, mlir, mget, mgi, mgl, mgr, mset, mset2, mkill, mput_t, mputr_t, mpop, mpsh, mrcv, mcnd, mtsw, mlsw, List.set_cons_zero, b_To_indexOf_3, hr, lCmp_eq0, lCmp_ne0, lCmp_lt0, lCmp_ge0, lCmp_gt0, lCmp_le0]
    (with_reducible repeat' (first | apply And.intro | intro _)) <;> try (first | omega | trivial)
    · rename_i q
      apply B_To_indexOf_28
      simp only [mwp, mst, mii, mll, mli, mi1, ml1, mr1, mir, mlr, mrr, miir, mlir, mget, mgi, mgl, mgr, mset, mset2, mkill, mput_t, mputr_t, mpop, mpsh, mrcv, mcnd, mtsw, mlsw, List.set_cons_zero, b_To_indexOf_28]
      (with_reducible repeat' (first | apply And.intro | intro _)) <;> try (first | omega | trivial)
      refine ih _ (by omega) (by omega) ?_
      rw [fnd, if_neg (by simpa using q)] at h2
      exact h2
    · rename_i q
      rw [fnd, if_pos (by simpa using q)] at h2
      exact h2
