/-! an ALIAS told: FAULTS and held FIELDS, without the machine -/
theorem shl_w {w : Int} (h0 : 0 ≤ w) (h1 : w ≤ 16) : iShl 1 w = 2 ^ w.toNat := by
  obtain ⟨k, rfl⟩ : ∃ k : Nat, w = k := ⟨w.toNat, by omega⟩
  have hp : (2 : Nat) ^ k ≤ 2 ^ 16 := Nat.pow_le_pow_right (by decide) (by omega)
  have e : (2 : Int) ^ k = ((2 ^ k : Nat) : Int) := by push_cast; rfl
  rw [iShl_e (by omega) (by decide) (by rw [Int.one_mul]; omega), Int.one_mul, Int.toNat_natCast]
/-- the class's way to see whether a number fits is the model's -/
theorem holds_e {x w : Int} (x0 : 0 ≤ x) (x1 : x ≤ 99999) (h0 : 0 ≤ w) (h1 : w ≤ 16) : lShr x w = 0 ↔ ¬ iShl 1 w ≤ x := by
  rw [shl_w h0 h1]
  obtain ⟨k, rfl⟩ : ∃ k : Nat, w = k := ⟨w.toNat, by omega⟩
  rw [lShr_e ⟨by omega, by omega⟩ (by omega), Int.toNat_natCast]
  have hp : (0 : Int) < 2 ^ k := Int.pow_pos (by decide)
  constructor
  · intro w2 w3
    have := Int.le_ediv_of_mul_le hp (a := 1) (b := x) (by omega)
    omega
  · intro w2
    exact Int.ediv_eq_zero_of_lt x0 (by omega)
section
variable {B : Int → Int} {n K o : Int} {N : Nat}
theorem helS_fk {D : Nat → Int → Int} {s : Nat} : fkp (helS B n K o D s) = fkp (fltI (0 ≤ helG B n o D s ∧ iShl 1 (D 84 (12 + helG B n o D s)) ≤ tv B n (s + 2)) (helX B n K o D s) 5 (tb B n (s + 2))) := by
  unfold helS
  rw [fkp_mup (by decide), fkp_mup (by decide), fkp_mup (by decide)]
theorem helX_k {D : Nat → Int → Int} {s : Nat} (h0 : (fkp D).1 ≠ 0) (h1 : (fkp D).2 < tb B n (s + 1)) : helX B n K o D s = D := by
  unfold helX
  split
  · rfl
  · split
    · exact flt_k h0 (Or.inl h1)
    · exact fltI_k h0 (Or.inl h1)
theorem helS_holds {D : Nat → Int → Int} {s : Nat} : helS B n K o D s 93 K = D 93 K + 1 := by
  unfold helS
  rw [mup_s]
theorem helS_fk0 {D : Nat → Int → Int} {s : Nat} (o0 : 0 ≤ o) (hlt : tb B n (s + 1) < tb B n (s + 2)) (hz : (fkp D).1 = 0) : fkp (helS B n K o D s) = if helF B n D s = -1 ∨ helH B n o D s = -1 then (4, tb B n (s + 1)) else if helE B n K D s ≠ -1 then (3, tb B n (s + 1)) else if iShl 1 (D 84 (12 + helF B n D s)) ≤ tv B n (s + 2) then (5, tb B n (s + 2)) else fkp D := by
  have hX : helX B n K o D s = if helF B n D s = -1 ∨ helH B n o D s = -1 then flt D 4 (tb B n (s + 1)) else fltI (helE B n K D s ≠ -1) D 3 (tb B n (s + 1)) := by
    unfold helX
    rw [if_neg (by omega : ¬ o < 0)]
  have hG : helG B n o D s = if helF B n D s = -1 ∨ helH B n o D s = -1 then -1 else helF B n D s := by
    unfold helG
    rw [if_neg (by omega : ¬ o < 0)]
  have hF := (fnd_1 (show fnd _ _ 0 = helF B n D s from rfl)).1
  rw [helS_fk]
  by_cases w : helF B n D s = -1 ∨ helH B n o D s = -1
  · rw [if_pos w] at hX hG ⊢
    rw [hX, fltI_q (fun q => by have := q.1; omega), fkp_flt_w (Or.inl hz)]
  · rw [if_neg w] at hX hG ⊢
    rw [hX]
    by_cases w2 : helE B n K D s ≠ -1
    · have e := fkp_fltI_w (D := D) (f := 3) (p := tb B n (s + 1)) w2 (Or.inl hz)
      rw [if_pos w2, fltI_k (by rw [e]; exact (by decide : (3 : Int) ≠ 0)) (by rw [e]; exact Or.inl hlt), e]
    · rw [if_neg w2, fltI_q w2]
      by_cases w3 : iShl 1 (D 84 (12 + helF B n D s)) ≤ tv B n (s + 2)
      · rw [if_pos w3]
        exact fkp_fltI_w ⟨by omega, by rw [hG]; exact w3⟩ (Or.inl hz)
      · rw [if_neg w3, fltI_q (fun q => w3 (by rw [← hG]; exact q.2))]
theorem mHel_keep (hT : tks B n N) : ∀ (c : Nat) (D : Nat → Int → Int) (s : Nat), shp B n N 3 c s → (fkp D).1 ≠ 0 → (fkp D).2 < tb B n (s + 1) → fkp (mHel B n K o c D s) = fkp D
  | 0, D, s, _, _, _ => rfl
  | c + 1, D, s, h, h0, h1 => by
    rw [mHel]
    split
    · rfl
    · rename_i w
      rcases h.2 with h2 | ⟨_, h3, _, h5, h4⟩
      · exact absurd h2 w
      have h6 := (h5 rfl).1
      have hs : s + 3 < N := by
        cases c with
        | zero => exact h4.1
        | succ c => exact h4.1
      have l1 : tb B n (s + 1) < tb B n (s + 2) := tb_lt hT (by omega) (by omega)
      have l2 : tb B n (s + 1) < tb B n (s + 3 + 1) := tb_lt hT (by omega) (by omega)
      have e : fkp (helS B n K o D s) = fkp D := by
        rw [helS_fk, helX_k h0 h1, fltI_k h0 (Or.inl (by omega))]
      rw [mHel_keep hT c _ _ h4 (by rw [e]; exact h0) (by rw [e]; omega), e]
theorem helS_kp {D : Nat → Int → Int} {s : Nat} (h0 : 0 ≤ D 93 K) (h1 : D 93 K < 6) : kp (alP K) D (helS B n K o D s) := by
  unfold helS
  refine kp_m ?_ (kp_m ?_ (kp_m ?_ (kp_i (helX_kp kp_r))))
  · unfold alP; omega
  · unfold alP; omega
  · unfold alP; omega
theorem mHel_kp : ∀ (c : Nat) (D : Nat → Int → Int) (s : Nat), 0 ≤ D 93 K → D 93 K + c ≤ 6 → kp (alP K) D (mHel B n K o c D s)
  | 0, D, s, _, _ => kp_r
  | c + 1, D, s, h0, h1 => by
    rw [mHel]
    split
    · exact kp_r
    · refine kp_t (helS_kp h0 (by omega)) (mHel_kp c _ _ ?_ ?_)
      · rw [helS_holds]; omega
      · rw [helS_holds]; omega
variable {D : Nat → Int → Int} {k : Nat}
theorem mAl_f1 (hT : tks B n N) (hs : shp B n N 3 6 (k + 4)) (hk : k + 4 < N) (hz : (fkp D).1 = 0) (hu : mAlU B n D k = true) : fkp (mAl B n D k) = (3, tb B n (k + 1)) := by
  have l1 := tb_lt hT (i := k + 1) (j := k + 3) (by omega) (by omega)
  have l2 := tb_lt hT (i := k + 1) (j := k + 5) (by omega) (by omega)
  have eA : fkp (mAlA B n D k) = (3, tb B n (k + 1)) := by
    unfold mAlA
    rw [fkp_mup (by decide), fkp_mup (by decide), fkp_fltI_w hu (Or.inl hz)]
  have eB : fkp (mAlB B n D k) = (3, tb B n (k + 1)) := by
    unfold mAlB
    rw [fkp_mup (by decide), fltI_k (by rw [eA]; exact (by decide : (3 : Int) ≠ 0)) (by rw [eA]; exact Or.inl l1), eA]
  unfold mAl mAlC
  rw [fkp_mup (by decide), mHel_keep hT 6 _ _ hs (by rw [eB]; exact (by decide : (3 : Int) ≠ 0)) (by rw [eB]; exact l2), eB]
theorem mAlB_f0 (hz : (fkp D).1 = 0) (hu : ¬ mAlU B n D k = true) : fkp (mAlB B n D k) = if mAlO B n D k = -1 then (4, tb B n (k + 3)) else fkp D := by
  unfold mAlB mAlA
  rw [fkp_mup (by decide), fltI_q hu]
  split
  · rename_i w
    rw [fkp_fltI_w w]
    rw [fkp_mup (by decide), fkp_mup (by decide)]
    exact Or.inl hz
  · rename_i w
    rw [fltI_q w, fkp_mup (by decide), fkp_mup (by decide)]
theorem mAl_f2 (hT : tks B n N) (hs : shp B n N 3 6 (k + 4)) (hk : k + 4 < N) (hz : (fkp D).1 = 0) (hu : ¬ mAlU B n D k = true) (ho : mAlO B n D k = -1) : fkp (mAl B n D k) = (4, tb B n (k + 3)) := by
  have l2 := tb_lt hT (i := k + 3) (j := k + 5) (by omega) (by omega)
  have eB := mAlB_f0 (B := B) (n := n) (k := k) hz hu
  rw [if_pos ho] at eB
  unfold mAl mAlC
  rw [fkp_mup (by decide), mHel_keep hT 6 _ _ hs (by rw [eB]; exact (by decide : (4 : Int) ≠ 0)) (by rw [eB]; exact l2), eB]
theorem mAlB_kp : kp (alP (16 + D 90 1)) D (mAlB B n D k) := by
  unfold mAlB mAlA
  refine kp_m ?_ (kp_i (kp_m ?_ (kp_m ?_ (kp_i kp_r))))
  · unfold alP; omega
  · unfold alP; omega
  · unfold alP; omega
theorem mAlB_holds : mAlB B n D k 93 (16 + D 90 1) = 0 := by
  unfold mAlB mAlA
  rw [mup_n (by decide), fltI_n (by decide), mup_s]
theorem mAlC_kp : kp (alP (16 + D 90 1)) D (mAlC B n D k) := by
  unfold mAlC
  refine kp_t mAlB_kp (mHel_kp 6 _ _ ?_ ?_)
  · rw [mAlB_holds]; decide
  · rw [mAlB_holds]; decide
theorem mAl_kp : kp (alP (16 + D 90 1)) D (mAl B n D k) := by
  unfold mAl
  refine kp_m ?_ mAlC_kp
  unfold alP
  omega
/-- held FIELDS of the last ALIAS so far -/
def HBr (t : Nat) (K o q : Int) (M D : Nat → Int → Int) (i : Int) : Prop :=
  M (t + 10) q = i ∧ D 93 K = i ∧ (∀ x, 0 ≤ x → x < i → M (t + 11) (q * 6 + x) = D 94 (K * 6 + x) ∧ M (t + 12) (q * 6 + x) = D 95 (K * 6 + x) ∧
    fnd (fun j => D 89 ((40 + o) * 6 + j) == D 94 (K * 6 + x)) (D 88 (40 + o)).toNat 0 ≠ -1)
theorem HBr_s {t : Nat} {M : Nat → Int → Int} {i q : Int} {s : Nat} (h : HBr t K o q M D i) (i0 : 0 ≤ i) (o0 : 0 ≤ o) (h1 : helF B n D s ≠ -1) (h2 : helH B n o D s ≠ -1) : HBr t K o q (mup (mup (mup M (t + 11) (q * 6 + i) (helF B n D s)) (t + 12) (q * 6 + i) (tv B n (s + 2))) (t + 10) q (i + 1)) (helS B n K o D s) (i + 1) := by
  obtain ⟨a1, a2, a3⟩ := h
  have hG : helG B n o D s = helF B n D s := by
    unfold helG
    rw [if_neg (by omega), if_neg (by omega)]
  have e1 : ∀ j, helS B n K o D s 94 j = if j = K * 6 + D 93 K then helF B n D s else D 94 j := by
    intro j
    unfold helS
    rw [mup_n (by decide), mup_n (by decide), mup_ap, fltI_n (by decide), helX_n (by decide), hG]
    simp only [true_and, and_true, Nat.reduceEqDiff, Nat.reduceLeDiff, Nat.reduceAdd, Nat.reduceLT, Int.reduceAdd, Int.reduceSub, Int.reduceMul, Int.reduceNeg, Int.reduceLT, Int.reduceLE, Int.reduceEq, reduceIte, false_and, and_false, Int.add_zero, Int.zero_add]
  have e2 : ∀ j, helS B n K o D s 95 j = if j = K * 6 + D 93 K then tv B n (s + 2) else D 95 j := by
    intro j
    unfold helS
    rw [mup_n (by decide), mup_ap, mup_n (by decide), fltI_n (by decide), helX_n (by decide)]
    simp only [true_and, and_true, Nat.reduceEqDiff, Nat.reduceLeDiff, Nat.reduceAdd, Nat.reduceLT, Int.reduceAdd, Int.reduceSub, Int.reduceMul, Int.reduceNeg, Int.reduceLT, Int.reduceLE, Int.reduceEq, reduceIte, false_and, and_false, Int.add_zero, Int.zero_add]
  have e3 : helS B n K o D s 89 = D 89 := by
    unfold helS
    rw [mup_n (by decide), mup_n (by decide), mup_n (by decide), fltI_n (by decide), helX_n (by decide)]
  have e4 : helS B n K o D s 88 = D 88 := by
    unfold helS
    rw [mup_n (by decide), mup_n (by decide), mup_n (by decide), fltI_n (by decide), helX_n (by decide)]
  refine ⟨by rw [mup_s], by rw [helS_holds, a2], fun x x0 x1 => ?_⟩
  rw [mup_n (show t + 11 ≠ t + 10 by omega), mup_n (show t + 11 ≠ t + 12 by omega), mup_n (show t + 12 ≠ t + 10 by omega), mup_ap, mup_ap, mup_n (show t + 12 ≠ t + 11 by omega), e1, e2, e3, e4, a2]
  by_cases w : x = i
  · subst w
    rw [if_pos ⟨rfl, rfl⟩, if_pos rfl, if_pos ⟨rfl, rfl⟩, if_pos rfl]
    exact ⟨rfl, rfl, h2⟩
  · rw [if_neg (by omega), if_neg (by omega), if_neg (by omega), if_neg (by omega)]
    exact a3 x x0 (by omega)
end
/-- what an ALIAS's tell may change in the class -/
def afr (t : Nat) (k : Int) (M M' : Nat → Int → Int) : Prop := ∀ r j, ¬ ((r = t + 8 ∨ r = t + 9 ∨ r = t + 10) ∧ j = k) → ¬ ((r = t + 11 ∨ r = t + 12) ∧ k * 6 ≤ j ∧ j < k * 6 + 6) → ¬ (r = 24 ∧ j = 1) → ¬ (r = 19 ∧ j = 5) → M' r j = M r j
theorem afr_tfr {t : Nat} {k : Int} {M M' : Nat → Int → Int} (h : afr t k M M') : tfr t M M' := by
  intro r j q1 q2 q3
  exact h r j (by omega) (by omega) q2 q3
theorem afr_m {t : Nat} {q j x : Int} {a : Nat} {M M' : Nat → Int → Int} (h : afr t q M M') (ha : ((a = t + 8 ∨ a = t + 9 ∨ a = t + 10) ∧ j = q) ∨ ((a = t + 11 ∨ a = t + 12) ∧ q * 6 ≤ j ∧ j < q * 6 + 6) ∨ (a = 24 ∧ j = 1) ∨ (a = 19 ∧ j = 5)) : afr t q M (mup M' a j x) := by
  intro r i q1 q2 q3 q4
  rw [mup_ap, if_neg (by omega), h r i q1 q2 q3 q4]
theorem TR_al {t : Nat} {B : Int → Int} {n : Int} {k : Nat} {M M' D : Nat → Int → Int} (ht : isT t) (hTR : TR t 1 M D) (hc : D 90 1 + 1 ≤ 16) (h1 : tk B n (k + 1) = 0) (ho : mAlO B n D k ≠ -1)
    (hfr : afr t (D 90 1) M M') (e1 : M' (t + 8) (D 90 1) = tv B n (k + 1)) (e2 : M' (t + 9) (D 90 1) = mAlO B n D k)
    {i : Int} (i0 : 0 ≤ i) (i1 : i ≤ 6) (hm : HBr t (16 + D 90 1) (mAlO B n D k) (D 90 1) M' (mAlC B n D k) i) : TR t 1 (mup M' t 9 (D 90 1 + 1)) (mAl B n D k) := by
  have ht' : t = 25 ∨ t = 40 := ht
  obtain ⟨hF, hO, hA, hR⟩ := hTR
  obtain ⟨a1, a2, a3, a4⟩ := hA
  have kpC := mAlC_kp (B := B) (n := n) (D := D) (k := k)
  have kpD := mAl_kp (B := B) (n := n) (D := D) (k := k)
  have hO1 := fnd_1 (show fnd _ _ 0 = mAlO B n D k from rfl)
  have hoo := hO.2.1
  obtain ⟨q, hq⟩ : ∃ q, D 90 1 = q := ⟨_, rfl⟩
  obtain ⟨o, hod⟩ : ∃ o, mAlO B n D k = o := ⟨_, rfl⟩
  have uA : mAl B n D k 90 1 = D 90 1 + 1 := by unfold mAl; rw [mup_s]
  have uC : ∀ r, r ≠ 90 → mAl B n D k r = mAlC B n D k r := by
    intro r b
    unfold mAl
    rw [mup_n b]
  rw [hq] at kpC kpD hm hfr e1 e2 hc uA ⊢
  rw [hod] at hm ho e2 hO1
  have rn : ∀ r, r ≠ 80 → (r < 90 ∨ 95 < r) → mAl B n D k r = D r := fun r a b => kpa_n kpD a b
  have rC : ∀ r, r ≠ 80 → (r < 90 ∨ 95 < r) → mAlC B n D k r = D r := fun r a b => kpa_n kpC a b
  have hq' : ∀ (c : Nat) (D : Nat → Int → Int) (s : Nat), mHel B n (16 + q) o c D s 91 = D 91 ∧ mHel B n (16 + q) o c D s 92 = D 92 := by
    intro c
    induction c with
    | zero => intro D s; exact ⟨rfl, rfl⟩
    | succ c ih =>
      intro D s
      rw [mHel]
      split
      · exact ⟨rfl, rfl⟩
      · rw [(ih _ _).1, (ih _ _).2]
        unfold helS
        rw [mup_n (by decide), mup_n (by decide), mup_n (by decide), fltI_n (by decide), helX_n (by decide), mup_n (by decide), mup_n (by decide), mup_n (by decide), fltI_n (by decide), helX_n (by decide)]
        exact ⟨rfl, rfl⟩
  have cN : mAlC B n D k 91 (16 + q) = e256 (tl B n (k + 1)) := by
    unfold mAlC
    rw [hq, hod, (hq' _ _ _).1]
    unfold mAlB mAlA
    rw [mup_n (by decide), fltI_n (by decide), mup_n (by decide), hq, mup_s]
  have cO : mAlC B n D k 92 (16 + q) = o := by
    unfold mAlC
    rw [hq, hod, (hq' _ _ _).2]
    unfold mAlB
    rw [hq, hod, mup_s]
  have mo : ∀ r, t + 1 ≤ r → r ≤ t + 14 → mup M' t 9 (q + 1) r = M' r := fun r a b => mup_n (by omega)
  have ml : ∀ j, j ≠ 9 → mup M' t 9 (q + 1) t j = M t j := by
    intro j hj
    rw [mup_ap, if_neg (fun q => hj q.2), hfr t j (by omega) (by omega) (by omega) (by omega)]
  have mr : ∀ r, t + 1 ≤ r → (r < t + 8 ∨ t + 12 < r) → M' r = M r := by
    intro r hr hr2
    funext j
    exact hfr r j (by omega) (by omega) (by omega) (by omega)
  have oo := hO.2.2.2
  refine ⟨?_, ?_, ⟨?_, ?_, ?_, fun p p0 p1 => ?_⟩, ?_⟩
  · refine TRf_mono hF (ml _ (by decide)) (fun r r0 r1 => ?_) (fun r r0 r1 => ?_)
    · rw [mo r (by omega) (by omega), mr r (by omega) (by omega)]
    · exact rn r (by omega) (by omega)
  · refine TRo_mono hO hF (by rw [rn _ (by decide) (by decide)]; exact Int.le_refl _) (fun i _ _ => by rw [rn _ (by decide) (by decide)]) (ml _ (by decide)) (fun r r0 r1 => ?_) (fun r r0 r1 => ?_)
    · rw [mo r (by omega) (by omega), mr r (by omega) (by omega)]
    · exact rn r (by omega) (by omega)
  · rw [mup_s, uA]
  · rw [uA]; omega
  · rw [uA]; omega
  · rw [uA] at p1
    by_cases w : p = q
    · subst w
      obtain ⟨b1, b2, b3⟩ := hm
      unfold ALr
      rw [show (1 : Int) * 16 + p = 16 + p by omega, show (1 : Int) * 40 = 40 by omega, mo _ (by omega) (by omega), mo _ (by omega) (by omega), mo _ (by omega) (by omega), mo _ (by omega) (by omega), mo _ (by omega) (by omega), uC 91 (by decide), uC 92 (by decide), uC 93 (by decide), uC 94 (by decide), uC 95 (by decide), uC 89 (by decide), uC 88 (by decide), rn 85 (by decide) (by decide), cN, cO, e1, e2, b1, b2]
      exact ⟨tk_name h1, ⟨rfl, by omega, by omega⟩, ⟨rfl, i0, i1⟩, b3⟩
    · obtain ⟨b1, b2, b3, b4⟩ := a4 p p0 (by omega)
      have s1 : ∀ r, (r = 91 ∨ r = 92 ∨ r = 93) → mAl B n D k r (1 * 16 + p) = D r (1 * 16 + p) := fun r hr => kpD _ _ (by unfold alP; omega) (by omega)
      have s2 : ∀ r x, (r = 94 ∨ r = 95) → 0 ≤ x → x < 6 → mAl B n D k r ((1 * 16 + p) * 6 + x) = D r ((1 * 16 + p) * 6 + x) := fun r x hr x0 x1 => kpD _ _ (by unfold alP; omega) (by omega)
      have s3 : ∀ r, (r = t + 8 ∨ r = t + 9 ∨ r = t + 10) → mup M' t 9 (q + 1) r p = M r p := fun r hr => by rw [mo r (by omega) (by omega), hfr _ _ (by omega) (by omega) (by omega) (by omega)]
      have s4 : ∀ r x, (r = t + 11 ∨ r = t + 12) → 0 ≤ x → x < 6 → mup M' t 9 (q + 1) r (p * 6 + x) = M r (p * 6 + x) := fun r x hr x0 x1 => by rw [mo r (by omega) (by omega), hfr _ _ (by omega) (by omega) (by omega) (by omega)]
      unfold ALr
      rw [s1 91 (by decide), s1 92 (by decide), s1 93 (by decide), s3 _ (by omega), s3 _ (by omega), s3 _ (by omega), rn 85 (by decide) (by decide), rn 89 (by decide) (by decide), rn 88 (by decide) (by decide)]
      refine ⟨b1, b2, b3, fun x x0 x1 => ?_⟩
      rw [s2 94 x (by decide) x0 (by omega), s2 95 x (by decide) x0 (by omega), s4 _ x (by omega) x0 (by omega), s4 _ x (by omega) x0 (by omega)]
      exact b4 x x0 x1
  · refine TRr_mono hR (ml _ (by decide)) (fun r r0 r1 => ?_) (fun r r0 r1 => ?_)
    · rw [mo r (by omega) (by omega), mr r (by omega) (by omega)]
    · exact rn r (by omega) (by omega)
