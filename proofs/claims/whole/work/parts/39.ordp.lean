/-! an ORDER told: FAULTS and members, without the machine -/
theorem fnd_ex {p : Int → Bool} : ∀ (n : Nat) (i : Int), 0 ≤ i → (fnd p n i ≠ -1 ↔ ∃ j, i ≤ j ∧ j < i + n ∧ p j = true)
  | 0, i, h => by
    constructor
    · intro w; exact absurd rfl w
    · rintro ⟨j, h1, h2, _⟩; omega
  | n + 1, i, h => by
    have ih := fnd_ex (p := p) n (i + 1) (by omega)
    unfold fnd
    split
    · rename_i w
      constructor
      · intro _; exact ⟨i, by omega, by omega, w⟩
      · intro _; omega
    · rename_i w
      rw [ih]
      constructor
      · rintro ⟨j, h1, h2, h3⟩; exact ⟨j, by omega, by omega, h3⟩
      · rintro ⟨j, h1, h2, h3⟩
        have : j ≠ i := fun e => w (by rw [← e]; exact h3)
        exact ⟨j, by omega, by omega, h3⟩
section
variable {B : Int → Int} {n hf K : Int} {N : Nat}
theorem memS_fk {D : Nat → Int → Int} {s : Nat} : fkp (memS B n hf K D s) = fkp (fltI (memF B n hf D s ≠ -1 ∧ memE B n hf K D s ≠ -1) (fltI (memF B n hf D s = -1) D 4 (tb B n (s + 1))) 3 (tb B n (s + 1))) := by
  unfold memS
  rw [fkp_mup (by decide), fkp_mup (by decide)]
theorem memS_fk0 {D : Nat → Int → Int} {s : Nat} (hz : (fkp D).1 = 0) : fkp (memS B n hf K D s) = if memF B n hf D s = -1 then (4, tb B n (s + 1)) else if memE B n hf K D s ≠ -1 then (3, tb B n (s + 1)) else fkp D := by
  rw [memS_fk]
  split
  · rename_i w
    rw [fltI_q (fun q => q.1 w), fkp_fltI_w w (Or.inl hz)]
  · rename_i w
    rw [fltI_q w]
    split
    · rename_i w2
      rw [fkp_fltI_w ⟨w, w2⟩ (Or.inl hz)]
    · rename_i w2
      rw [fltI_q (fun q => w2 q.2)]
theorem memS_kp {D : Nat → Int → Int} {s : Nat} (h0 : 0 ≤ D 88 K) (h1 : D 88 K < 6) : kp (ordP hf K) D (memS B n hf K D s) := by
  unfold memS
  refine kp_m ?_ (kp_m ?_ (kp_i (kp_i kp_r)))
  · unfold ordP; omega
  · unfold ordP; omega
theorem mMem_kp : ∀ (c : Nat) (D : Nat → Int → Int) (v : Int) (s : Nat), 0 ≤ D 88 K → D 88 K + c ≤ 6 → kp (ordP hf K) D (mMem B n hf K c D v s).1
  | 0, D, v, s, _, _ => kp_r
  | c + 1, D, v, s, h0, h1 => by
    rw [mMem]
    split
    · exact kp_r
    · refine kp_t (memS_kp h0 (by omega)) (mMem_kp c _ _ _ ?_ ?_)
      · rw [memS_many]; omega
      · rw [memS_many]; omega
theorem mMem_keep (hT : tks B n N) : ∀ (c : Nat) (D : Nat → Int → Int) (v : Int) (s : Nat), shp B n N 2 c s → (fkp D).1 ≠ 0 → (fkp D).2 < tb B n (s + 1) → fkp (mMem B n hf K c D v s).1 = fkp D
  | 0, D, v, s, _, _, _ => rfl
  | c + 1, D, v, s, h, h0, h1 => by
    rw [mMem]
    split
    · rfl
    · rename_i w
      rcases h.2 with h2 | ⟨_, h3, _, _, h4⟩
      · exact absurd h2 w
      have e : fkp (memS B n hf K D s) = fkp D := by
        rw [memS_fk]
        have e1 : fltI (memF B n hf D s = -1) D 4 (tb B n (s + 1)) = D := fltI_k h0 (Or.inl h1)
        rw [e1, fltI_k h0 (Or.inl h1)]
      have hlt : tb B n (s + 1) < tb B n (s + 2 + 1) := by
        have hs : s + 2 < N := by
          cases c with
          | zero => exact h4.1
          | succ c => exact h4.1
        exact tb_lt hT (by omega) (by omega)
      rw [mMem_keep hT c _ _ _ h4 (by rw [e]; exact h0) (by rw [e]; omega), e]
/-- no FAULT comes at or ahead of p -/
theorem mMem_place (hT : tks B n N) {p : Int} : ∀ (c : Nat) (D : Nat → Int → Int) (v : Int) (s : Nat), shp B n N 2 c s → ((fkp D).1 = 0 ∨ p < (fkp D).2) → p < tb B n (s + 1) → (fkp (mMem B n hf K c D v s).1).1 = 0 ∨ p < (fkp (mMem B n hf K c D v s).1).2
  | 0, D, v, s, _, h, _ => h
  | c + 1, D, v, s, h, h0, h1 => by
    rw [mMem]
    split
    · exact h0
    · rename_i w
      rcases h.2 with h2 | ⟨_, h3, _, _, h4⟩
      · exact absurd h2 w
      have hlt : tb B n (s + 1) < tb B n (s + 2 + 1) := by
        have hs : s + 2 < N := by
          cases c with
          | zero => exact h4.1
          | succ c => exact h4.1
        exact tb_lt hT (by omega) (by omega)
      refine mMem_place hT c _ _ _ h4 ?_ (by omega)
      rw [memS_fk]
      have st : ∀ (D : Nat → Int → Int) (c : Prop) [Decidable c] (f : Int), ((fkp D).1 = 0 ∨ p < (fkp D).2) → (fkp (fltI c D f (tb B n (s + 1)))).1 = 0 ∨ p < (fkp (fltI c D f (tb B n (s + 1)))).2 := by
        intro D c _ f hD
        unfold fltI
        split
        · unfold flt
          split
          · rw [fkp_stp]; exact Or.inr h1
          · exact hD
        · exact hD
      exact st _ _ _ (st _ _ _ h0)
variable {D : Nat → Int → Int} {k : Nat}
theorem mOrd_f1 (hT : tks B n N) (hs : shp B n N 2 6 (k + 3)) (hk : k + 3 < N) (hz : (fkp D).1 = 0) (hu : mOrU B n hf D k = true) : fkp (mOrd B n hf D k) = (3, tb B n (k + 1)) := by
  have l1 := tb_lt hT (i := k + 1) (j := k + 2) (by omega) (by omega)
  have l2 := tb_lt hT (i := k + 1) (j := k + 4) (by omega) (by omega)
  have eA : fkp (mOrA B n hf D k) = (3, tb B n (k + 1)) := by
    unfold mOrA
    rw [fkp_mup (by decide), fkp_mup (by decide), fkp_fltI_w hu (Or.inl hz)]
  have eB : fkp (mOrB B n hf D k) = (3, tb B n (k + 1)) := by
    unfold mOrB
    rw [fkp_mup (by decide), fltI_k (by rw [eA]; exact (by decide : (3 : Int) ≠ 0)) (by rw [eA]; exact Or.inl l1), eA]
  have eC : fkp (mOrC B n hf D k).1 = (3, tb B n (k + 1)) := by
    unfold mOrC
    rw [mMem_keep hT 6 _ _ _ hs (by rw [eB]; exact (by decide : (3 : Int) ≠ 0)) (by rw [eB]; exact l2), eB]
  unfold mOrd
  rw [fkp_mup (by decide), fltI_k (by rw [eC]; exact (by decide : (3 : Int) ≠ 0)) (by rw [eC]; exact Or.inr ⟨rfl, (by decide : (3 : Int) ≤ 5)⟩), eC]
theorem mOrB_f0 (hz : (fkp D).1 = 0) (hu : ¬ mOrU B n hf D k = true) : fkp (mOrB B n hf D k) = if 10000 < tv B n (k + 2) then (5, tb B n (k + 2)) else fkp D := by
  unfold mOrB mOrA
  rw [fkp_mup (by decide), fltI_q hu]
  split
  · rename_i w
    rw [fkp_fltI_w w]
    rw [fkp_mup (by decide), fkp_mup (by decide)]
    exact Or.inl hz
  · rename_i w
    rw [fltI_q w, fkp_mup (by decide), fkp_mup (by decide)]
theorem mOrd_f2 (hT : tks B n N) (hs : shp B n N 2 6 (k + 3)) (hk : k + 3 < N) (hz : (fkp D).1 = 0) (hu : ¬ mOrU B n hf D k = true) (hv : 24 < (mOrC B n hf D k).2) : fkp (mOrd B n hf D k) = (5, tb B n (k + 1)) := by
  have l1 := tb_lt hT (i := k + 1) (j := k + 2) (by omega) (by omega)
  have l2 := tb_lt hT (i := k + 1) (j := k + 4) (by omega) (by omega)
  have eB := mOrB_f0 (B := B) (n := n) (hf := hf) (k := k) hz hu
  have eC : (fkp (mOrC B n hf D k).1).1 = 0 ∨ tb B n (k + 1) < (fkp (mOrC B n hf D k).1).2 := by
    unfold mOrC
    refine mMem_place hT 6 _ _ _ hs ?_ l2
    rw [eB]
    split
    · exact Or.inr l1
    · exact Or.inl hz
  unfold mOrd
  rw [fkp_mup (by decide), fkp_fltI_w hv eC]
theorem mOrd_f3 (hT : tks B n N) (hs : shp B n N 2 6 (k + 3)) (hk : k + 3 < N) (hz : (fkp D).1 = 0) (hu : ¬ mOrU B n hf D k = true) (hv : ¬ 24 < (mOrC B n hf D k).2) (hn : 10000 < tv B n (k + 2)) : fkp (mOrd B n hf D k) = (5, tb B n (k + 2)) := by
  have l2 := tb_lt hT (i := k + 2) (j := k + 4) (by omega) (by omega)
  have eB := mOrB_f0 (B := B) (n := n) (hf := hf) (k := k) hz hu
  rw [if_pos hn] at eB
  unfold mOrd
  rw [fkp_mup (by decide), fltI_q hv]
  unfold mOrC
  rw [mMem_keep hT 6 _ _ _ hs (by rw [eB]; exact (by decide : (5 : Int) ≠ 0)) (by rw [eB]; exact l2), eB]
theorem mOrd_f4 (hv : ¬ 24 < (mOrC B n hf D k).2) : fkp (mOrd B n hf D k) = fkp (mOrC B n hf D k).1 := by
  unfold mOrd
  rw [fkp_mup (by decide), fltI_q hv]
theorem mOrB_kp (h0 : K = hf * 40 + D 85 hf) : kp (ordP hf K) D (mOrB B n hf D k) := by
  subst h0
  unfold mOrB mOrA
  refine kp_m ?_ (kp_i (kp_m ?_ (kp_m ?_ (kp_i kp_r))))
  · unfold ordP; omega
  · unfold ordP; omega
  · unfold ordP; omega
theorem mOrB_many : mOrB B n hf D k 88 (hf * 40 + D 85 hf) = 0 := by
  unfold mOrB mOrA
  rw [mup_n (by decide), fltI_n (by decide), mup_s]
theorem mOrC_kp : kp (ordP hf (hf * 40 + D 85 hf)) D (mOrC B n hf D k).1 := by
  unfold mOrC
  refine kp_t (mOrB_kp rfl) (mMem_kp 6 _ _ _ ?_ ?_)
  · rw [mOrB_many]; decide
  · rw [mOrB_many]; decide
theorem mOrd_kp : kp (ordP hf (hf * 40 + D 85 hf)) D (mOrd B n hf D k) := by
  unfold mOrd
  refine kp_m ?_ (kp_i mOrC_kp)
  unfold ordP
  omega
/-- a step that has no FAULT -/
theorem memS_ok {s : Nat} (h1 : memF B n hf D s ≠ -1) (h2 : memE B n hf K D s = -1) : memG B n hf K D s = memF B n hf D s := by
  unfold memG
  rw [if_neg (fun q => q.2 h2)]
theorem memS_has {s : Nat} {j : Int} : memS B n hf K D s 89 j = if j = K * 6 + D 88 K then memG B n hf K D s else D 89 j := by
  unfold memS
  rw [mup_n (by decide), mup_ap, fltI_n (by decide), fltI_n (by decide)]
  simp only [true_and, and_true, Nat.reduceEqDiff, Nat.reduceLeDiff, Nat.reduceAdd, Nat.reduceLT, Int.reduceAdd, Int.reduceSub, Int.reduceMul, Int.reduceNeg, Int.reduceLT, Int.reduceLE, Int.reduceEq, reduceIte, false_and, and_false, Int.add_zero, Int.zero_add]
/-- members of the last ORDER so far: class and model -/
def MBr (t : Nat) (hf K k : Int) (M D : Nat → Int → Int) (i v : Int) : Prop :=
  M (t + 5) k = i ∧ D 88 K = i ∧ (∀ x, 0 ≤ x → x < i → M (t + 7) (k * 6 + x) = D 89 (K * 6 + x) ∧ 0 ≤ D 89 (K * 6 + x) ∧ D 89 (K * 6 + x) < D 82 hf) ∧
  (∀ x y, 0 ≤ x → x < y → y < i → D 89 (K * 6 + x) ≠ D 89 (K * 6 + y)) ∧ v = smw (fun x => D 84 (hf * 12 + D 89 (K * 6 + x))) i.toNat
theorem MBr_s {t : Nat} {M : Nat → Int → Int} {i v q : Int} {s : Nat} (hq0 : 0 ≤ q) (h : MBr t hf K q M D i v) (i0 : 0 ≤ i) (h1 : memF B n hf D s ≠ -1) (h2 : memE B n hf K D s = -1) (hF : 0 ≤ D 82 hf) : MBr t hf K q (mup (mup M (t + 7) (q * 6 + i) (memF B n hf D s)) (t + 5) q (i + 1)) (memS B n hf K D s) (i + 1) (memB B n hf K D v s) := by
  obtain ⟨a1, a2, a3, a4, a5⟩ := h
  have hF2 : 0 ≤ memF B n hf D s ∧ memF B n hf D s < D 82 hf := by
    have := fnd_1 (show fnd _ _ 0 = memF B n hf D s from rfl)
    omega
  have hG := memS_ok h1 h2
  have hE : ∀ x, 0 ≤ x → x < i → D 89 (K * 6 + x) ≠ memF B n hf D s := by
    intro x x0 x1 e
    have := (fnd_ex (p := fun i => D 89 (K * 6 + i) == memF B n hf D s) (D 88 K).toNat 0 (by decide)).mpr ⟨x, x0, by omega, by simpa using e⟩
    exact this h2
  have eh : ∀ x, 0 ≤ x → x < i → memS B n hf K D s 89 (K * 6 + x) = D 89 (K * 6 + x) := by
    intro x x0 x1
    rw [memS_has, if_neg (by omega)]
  have ei : memS B n hf K D s 89 (K * 6 + i) = memF B n hf D s := by
    rw [memS_has, if_pos (by omega), hG]
  have ef : memS B n hf K D s 82 = D 82 := by
    unfold memS
    rw [mup_n (by decide), mup_n (by decide), fltI_n (by decide), fltI_n (by decide)]
  have ew : memS B n hf K D s 84 = D 84 := by
    unfold memS
    rw [mup_n (by decide), mup_n (by decide), fltI_n (by decide), fltI_n (by decide)]
  refine ⟨by rw [mup_s], by rw [memS_many, a2], fun x x0 x1 => ?_, fun x y x0 xy y1 => ?_, ?_⟩
  · rw [mup_n (by omega), mup_ap, ef]
    by_cases w : x = i
    · rw [if_pos ⟨rfl, by omega⟩, w, ei]
      exact ⟨rfl, hF2.1, hF2.2⟩
    · rw [if_neg (by omega), eh x x0 (by omega)]
      exact a3 x x0 (by omega)
  · by_cases w : y = i
    · rw [w, ei, eh x x0 (by omega)]
      exact hE x x0 (by omega)
    · rw [eh x x0 (by omega), eh y (by omega) (by omega)]
      exact a4 x y x0 xy (by omega)
  · rw [show (i + 1).toNat = i.toNat + 1 by omega, smw, show ((i.toNat : Nat) : Int) = i by omega, ei, ew]
    unfold memB
    rw [hG, if_neg (by omega), a5]
    congr 1
    apply smw_congr
    intro x x0 x1
    show D 84 (hf * 12 + D 89 (K * 6 + x)) = D 84 (hf * 12 + memS B n hf K D s 89 (K * 6 + x))
    rw [eh x x0 (by omega)]
end
/-- what an ORDER's tell may change in the class -/
def ofr (t : Nat) (k : Int) (M M' : Nat → Int → Int) : Prop := ∀ r j, ¬ ((r = t + 3 ∨ r = t + 4 ∨ r = t + 5 ∨ r = t + 6) ∧ j = k) → ¬ (r = t + 7 ∧ k * 6 ≤ j ∧ j < k * 6 + 6) → ¬ (r = 24 ∧ j = 1) → ¬ (r = 19 ∧ j = 5) → M' r j = M r j
theorem ofr_tfr {t : Nat} {k : Int} {M M' : Nat → Int → Int} (h : ofr t k M M') : tfr t M M' := by
  intro r j q1 q2 q3
  exact h r j (by omega) (by omega) q2 q3
theorem TR_ord {t : Nat} {B : Int → Int} {n hf : Int} {k : Nat} {M M' D : Nat → Int → Int} (ht : isT t) (hhf : hf = 0 ∨ hf = 1) (hTR : TR t hf M D) (hc : D 85 hf + 1 ≤ 40) (h1 : tk B n (k + 1) = 0) (h2 : 0 ≤ tv B n (k + 2)) (h3 : tv B n (k + 2) ≤ 10000) (hv : ¬ 24 < (mOrC B n hf D k).2)
    (hfr : ofr t (D 85 hf) M M') (e1 : M' (t + 3) (D 85 hf) = tv B n (k + 1)) (e2 : M' (t + 4) (D 85 hf) = tv B n (k + 2)) (e3 : M' (t + 6) (D 85 hf) = (mOrC B n hf D k).2)
    {i : Int} (i0 : 0 ≤ i) (i1 : i ≤ 6) (hm : MBr t hf (hf * 40 + D 85 hf) (D 85 hf) M' (mOrC B n hf D k).1 i (mOrC B n hf D k).2) : TR t hf (mup M' t 3 (D 85 hf + 1)) (mOrd B n hf D k) := by
  have ht' : t = 25 ∨ t = 40 := ht
  obtain ⟨hF, hO, hA, hR⟩ := hTR
  obtain ⟨o1, o2, o3, o4⟩ := hO
  have kpC := mOrC_kp (B := B) (n := n) (hf := hf) (D := D) (k := k)
  have kpD := mOrd_kp (B := B) (n := n) (hf := hf) (D := D) (k := k)
  obtain ⟨K, hK⟩ : ∃ K, hf * 40 + D 85 hf = K := ⟨_, rfl⟩
  rw [hK] at kpC kpD hm
  have rn : ∀ r, r ≠ 80 → r ≠ 85 → r ≠ 86 → r ≠ 87 → r ≠ 88 → r ≠ 89 → mOrd B n hf D k r = D r := fun r a b c d e f => kp_n kpD a b c d e f
  have uO : mOrd B n hf D k 85 hf = D 85 hf + 1 := by unfold mOrd; rw [mup_s]
  have uC : ∀ r, r ≠ 80 → r ≠ 85 → mOrd B n hf D k r = (mOrC B n hf D k).1 r := by
    intro r a b
    unfold mOrd
    rw [mup_n b, fltI_n a]
  have cN : (mOrC B n hf D k).1 86 K = e256 (tl B n (k + 1)) := by
    have q : ∀ (c : Nat) (D : Nat → Int → Int) (v : Int) (s : Nat), (mMem B n hf K c D v s).1 86 = D 86 := by
      intro c
      induction c with
      | zero => intro D v s; rfl
      | succ c ih =>
        intro D v s
        rw [mMem]
        split
        · rfl
        · rw [ih]
          unfold memS
          rw [mup_n (by decide), mup_n (by decide), fltI_n (by decide), fltI_n (by decide)]
    unfold mOrC
    rw [hK, q]
    unfold mOrB mOrA
    rw [mup_n (by decide), fltI_n (by decide), mup_n (by decide), hK, mup_s]
  have cU : (mOrC B n hf D k).1 87 K = tv B n (k + 2) := by
    have q : ∀ (c : Nat) (D : Nat → Int → Int) (v : Int) (s : Nat), (mMem B n hf K c D v s).1 87 = D 87 := by
      intro c
      induction c with
      | zero => intro D v s; rfl
      | succ c ih =>
        intro D v s
        rw [mMem]
        split
        · rfl
        · rw [ih]
          unfold memS
          rw [mup_n (by decide), mup_n (by decide), fltI_n (by decide), fltI_n (by decide)]
    unfold mOrC
    rw [hK, q]
    unfold mOrB
    rw [hK, mup_s]
  have mo : ∀ r, t + 1 ≤ r → r ≤ t + 14 → mup M' t 3 (D 85 hf + 1) r = M' r := fun r a b => mup_n (by omega)
  have ml : ∀ j, j ≠ 3 → mup M' t 3 (D 85 hf + 1) t j = M t j := by
    intro j hj
    rw [mup_ap, if_neg (fun q => hj q.2), hfr t j (by omega) (by omega) (by omega) (by omega)]
  have mr : ∀ r, (r = t + 1 ∨ r = t + 2 ∨ (t + 8 ≤ r ∧ r ≤ t + 14)) → M' r = M r := by
    intro r hr
    funext j
    exact hfr r j (by omega) (by omega) (by omega) (by omega)
  have eF : mOrd B n hf D k 82 = D 82 := rn _ (by decide) (by decide) (by decide) (by decide) (by decide) (by decide)
  have eW : mOrd B n hf D k 84 = D 84 := rn _ (by decide) (by decide) (by decide) (by decide) (by decide) (by decide)
  refine ⟨?_, ⟨?_, ?_, ?_, fun q q0 q1 => ?_⟩, ?_, ?_⟩
  · refine TRf_mono hF (ml _ (by decide)) (fun r r0 r1 => ?_) (fun r r0 r1 => ?_)
    · rw [mo r (by omega) (by omega), mr r (by omega)]
    · exact rn r (by omega) (by omega) (by omega) (by omega) (by omega) (by omega)
  · rw [mup_s, uO]
  · rw [uO]; omega
  · rw [uO]; omega
  · rw [uO] at q1
    by_cases w : q = D 85 hf
    · subst w
      obtain ⟨b1, b2, b3, b4, b5⟩ := hm
      unfold ORr
      rw [mo _ (by omega) (by omega), mo _ (by omega) (by omega), mo _ (by omega) (by omega), mo _ (by omega) (by omega), mo _ (by omega) (by omega), uC 86 (by decide) (by decide), uC 87 (by decide) (by decide), uC 88 (by decide) (by decide), uC 89 (by decide) (by decide), uC 82 (by decide) (by decide), uC 84 (by decide) (by decide), hK, cN, cU, e1, e2, e3, b1, b2]
      exact ⟨tk_name h1, ⟨rfl, h2, h3⟩, ⟨rfl, i0, i1⟩, b3, b4, b5, by omega⟩
    · have k6 : q * 6 + 6 ≤ D 85 hf * 6 := by omega
      refine ORr_mono (o4 q q0 (by omega)) hF (by rw [eF]; exact Int.le_refl _) (fun i _ _ => by rw [eW]) ?_ ?_ ?_ ?_ ?_ ?_ (fun x x0 x1 => ?_) (fun x x0 x1 => ?_) ?_
      · rw [mo _ (by omega) (by omega), hfr _ _ (by omega) (by omega) (by omega) (by omega)]
      · exact kpD _ _ (by unfold ordP; omega) (by omega)
      · rw [mo _ (by omega) (by omega), hfr _ _ (by omega) (by omega) (by omega) (by omega)]
      · exact kpD _ _ (by unfold ordP; omega) (by omega)
      · rw [mo _ (by omega) (by omega), hfr _ _ (by omega) (by omega) (by omega) (by omega)]
      · exact kpD _ _ (by unfold ordP; omega) (by omega)
      · rw [mo _ (by omega) (by omega), hfr _ _ (by omega) (by omega) (by omega) (by omega)]
      · exact kpD _ _ (by unfold ordP; omega) (by omega)
      · rw [mo _ (by omega) (by omega), hfr _ _ (by omega) (by omega) (by omega) (by omega)]
  · refine TRa_mono hA (by rw [uO]; omega) (fun q q0 q1 => ?_) (ml _ (by decide)) (fun r r0 r1 => ?_) (fun r r0 r1 => ?_)
    · refine ⟨kpD _ _ (by unfold ordP; omega) (by omega), (o4 q q0 q1).2.2.1.2.2, fun x x0 x1 => kpD _ _ (by unfold ordP; omega) (by omega)⟩
    · rw [mo r (by omega) (by omega), mr r (by omega)]
    · exact rn r (by omega) (by omega) (by omega) (by omega) (by omega) (by omega)
  · refine TRr_mono hR (ml _ (by decide)) (fun r r0 r1 => ?_) (fun r r0 r1 => ?_)
    · rw [mo r (by omega) (by omega), mr r (by omega)]
    · exact rn r (by omega) (by omega) (by omega) (by omega) (by omega) (by omega)
