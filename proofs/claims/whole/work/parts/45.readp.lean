/-! memories that agree on the model's cells -/
def ag (D D' : Nat → Int → Int) : Prop := ∀ r, 80 ≤ r → D r = D' r
section
variable {D D' : Nat → Int → Int} {B : Int → Int} {n : Int}
theorem ag_m {r : Nat} {j x : Int} (h : ag D D') : ag (mup D r j x) (mup D' r j x) := by
  intro a ha
  funext i
  rw [mup_ap, mup_ap, h a ha]
theorem ag_s {f p : Int} (h : ag D D') : ag (stp D f p) (stp D' f p) := ag_m (ag_m h)
theorem ag_f {f p : Int} (h : ag D D') : ag (flt D f p) (flt D' f p) := by
  unfold flt
  rw [h 80 (by decide)]
  split
  · exact ag_s h
  · exact h
theorem ag_i {c : Prop} [Decidable c] {f p : Int} (h : ag D D') : ag (fltI c D f p) (fltI c D' f p) := by
  unfold fltI
  split
  · exact ag_f h
  · exact h
theorem ag_fkp (h : ag D D') : fkp D = fkp D' := by
  unfold fkp
  rw [h 80 (by decide)]
theorem ag_fld {k : Nat} (h : ag D D') : ag (mFld B n D k) (mFld B n D' k) := by
  unfold mFld mFldB mFldA
  rw [h 82 (by decide), h 83 (by decide)]
  exact ag_m (ag_m (ag_i (ag_m (ag_i h))))
theorem ag_roo {k : Nat} (h : ag D D') : ag (mRoo B n D k) (mRoo B n D' k) := by
  unfold mRoo mRmB mRmA
  rw [h 96 (by decide)]
  exact ag_m (ag_m (ag_i (ag_m (ag_i h))))
theorem ag_memF {hf : Int} {s : Nat} (h : ag D D') : memF B n hf D s = memF B n hf D' s := by
  unfold memF
  rw [h 82 (by decide), h 83 (by decide)]
theorem ag_memE {hf K : Int} {s : Nat} (h : ag D D') : memE B n hf K D s = memE B n hf K D' s := by
  unfold memE
  rw [ag_memF h, h 89 (by decide), h 88 (by decide)]
theorem ag_memG {hf K : Int} {s : Nat} (h : ag D D') : memG B n hf K D s = memG B n hf K D' s := by
  unfold memG
  rw [ag_memF h, ag_memE h]
theorem ag_memS {hf K : Int} {s : Nat} (h : ag D D') : ag (memS B n hf K D s) (memS B n hf K D' s) := by
  unfold memS
  rw [ag_memF h, ag_memE h, ag_memG h, h 88 (by decide)]
  exact ag_m (ag_m (ag_i (ag_i h)))
theorem ag_memB {hf K v : Int} {s : Nat} (h : ag D D') : memB B n hf K D v s = memB B n hf K D' v s := by
  unfold memB
  rw [ag_memG h, h 84 (by decide)]
end
section
variable {B : Int → Int} {n : Int}
theorem ag_mem {hf K : Int} : ∀ (c : Nat) (D D' : Nat → Int → Int) (v : Int) (s : Nat), ag D D' → ag (mMem B n hf K c D v s).1 (mMem B n hf K c D' v s).1 ∧ (mMem B n hf K c D v s).2 = (mMem B n hf K c D' v s).2
  | 0, D, D', v, s, h => ⟨h, rfl⟩
  | c + 1, D, D', v, s, h => by
    rw [mMem, mMem]
    split
    · exact ⟨h, rfl⟩
    · rw [ag_memB h]
      exact ag_mem c _ _ _ _ (ag_memS h)
theorem ag_hel {K o : Int} : ∀ (c : Nat) (D D' : Nat → Int → Int) (s : Nat), ag D D' → ag (mHel B n K o c D s) (mHel B n K o c D' s)
  | 0, D, D', s, h => h
  | c + 1, D, D', s, h => by
    rw [mHel, mHel]
    split
    · exact h
    · apply ag_hel c
      have e1 : helF B n D s = helF B n D' s := by
        unfold helF
        rw [h 82 (by decide), h 83 (by decide)]
      have e2 : helH B n o D s = helH B n o D' s := by
        unfold helH
        rw [e1, h 89 (by decide), h 88 (by decide)]
      have e3 : helE B n K D s = helE B n K D' s := by
        unfold helE
        rw [e1, h 94 (by decide), h 93 (by decide)]
      have e4 : helG B n o D s = helG B n o D' s := by
        unfold helG
        rw [e1, e2]
      have e5 : ag (helX B n K o D s) (helX B n K o D' s) := by
        unfold helX
        rw [e1, e2, e3]
        split
        · exact h
        · split
          · exact ag_f h
          · exact ag_i h
      unfold helS
      rw [e4, h 93 (by decide), h 84 (by decide)]
      exact ag_m (ag_m (ag_m (ag_i e5)))
variable {D D' : Nat → Int → Int} {k : Nat}
theorem ag_ord {hf : Int} (h : ag D D') : ag (mOrd B n hf D k) (mOrd B n hf D' k) := by
  have eU : mOrU B n hf D k = mOrU B n hf D' k := by
    unfold mOrU
    rw [h 86 (by decide), h 85 (by decide), h 91 (by decide), h 90 (by decide)]
  have eA : ag (mOrA B n hf D k) (mOrA B n hf D' k) := by
    unfold mOrA
    rw [eU, h 85 (by decide)]
    exact ag_m (ag_m (ag_i h))
  have eB : ag (mOrB B n hf D k) (mOrB B n hf D' k) := by
    unfold mOrB
    rw [h 85 (by decide)]
    exact ag_m (ag_i eA)
  have eC := ag_mem (B := B) (n := n) (hf := hf) (K := hf * 40 + D 85 hf) 6 _ _ 0 (k + 3) eB
  have eD : mOrC B n hf D' k = mMem B n hf (hf * 40 + D 85 hf) 6 (mOrB B n hf D' k) 0 (k + 3) := by
    unfold mOrC
    rw [h 85 (by decide)]
  unfold mOrd
  rw [eD]
  unfold mOrC
  rw [eC.2, ← h 85 (by decide)]
  exact ag_m (ag_i eC.1)
theorem ag_al (h : ag D D') : ag (mAl B n D k) (mAl B n D' k) := by
  have eU : mAlU B n D k = mAlU B n D' k := by
    unfold mAlU
    rw [h 86 (by decide), h 85 (by decide), h 91 (by decide), h 90 (by decide)]
  have eO : mAlO B n D k = mAlO B n D' k := by
    unfold mAlO
    rw [h 86 (by decide), h 85 (by decide)]
  have eA : ag (mAlA B n D k) (mAlA B n D' k) := by
    unfold mAlA
    rw [eU, h 90 (by decide)]
    exact ag_m (ag_m (ag_i h))
  have eB : ag (mAlB B n D k) (mAlB B n D' k) := by
    unfold mAlB
    rw [eO, h 90 (by decide)]
    exact ag_m (ag_i eA)
  unfold mAl mAlC
  rw [eO, h 90 (by decide)]
  exact ag_m (ag_hel 6 _ _ _ eB)
theorem ag_tell (h : ag D D') : ag (mTell B n D k) (mTell B n D' k) := by
  unfold mTell
  split
  · exact ag_fld h
  · split
    · exact ag_ord h
    · split
      · exact ag_al h
      · exact ag_roo h
end
theorem ag_it {B : Int → Int} {n : Int} : ∀ (j : Nat) (D D' : Nat → Int → Int) (k : Nat), ag D D' → ag (mIt B n j D k) (mIt B n j D' k)
  | 0, D, D', k, h => h
  | j + 1, D, D', k, h => ag_it j _ _ _ (ag_tell h)
theorem TR_congr {t : Nat} {hf : Int} {M M' D D' : Nat → Int → Int} (h : TR t hf M D) (hM : ∀ r, t ≤ r → r ≤ t + 14 → M' r = M r) (hD : ∀ r, 82 ≤ r → r ≤ 98 → D' r = D r) : TR t hf M' D' := by
  unfold TR TRf TRo TRa TRr ORr ALr
  rw [hM t (by omega) (by omega), hM _ (by omega) (by omega), hM _ (by omega) (by omega), hM _ (by omega) (by omega), hM _ (by omega) (by omega), hM _ (by omega) (by omega), hM _ (by omega) (by omega), hM _ (by omega) (by omega), hM _ (by omega) (by omega), hM _ (by omega) (by omega), hM _ (by omega) (by omega), hM _ (by omega) (by omega), hM _ (by omega) (by omega), hM _ (by omega) (by omega), hM _ (by omega) (by omega),
    hD 82 (by decide) (by decide), hD 83 (by decide) (by decide), hD 84 (by decide) (by decide), hD 85 (by decide) (by decide), hD 86 (by decide) (by decide), hD 87 (by decide) (by decide), hD 88 (by decide) (by decide), hD 89 (by decide) (by decide), hD 90 (by decide) (by decide), hD 91 (by decide) (by decide), hD 92 (by decide) (by decide), hD 93 (by decide) (by decide), hD 94 (by decide) (by decide), hD 95 (by decide) (by decide), hD 96 (by decide) (by decide), hD 97 (by decide) (by decide), hD 98 (by decide) (by decide)]
  exact h
/-- a text that is accepted has its TELLS -/
theorem acc_j {B : Int → Int} {n : Int} {N : Nat} (hT : tks B n N) : ∀ (m k : Nat) (f o a r : Int), N ≤ k + m → acc B n N k f o a r → ∃ j, nki B n j k = N ∧ ∀ i, i < j → tk B n (nki B n i k) ≠ 10 := by
  intro m
  induction m with
  | zero =>
    intro k f o a r h ha
    have := acc_le ha
    exact ⟨0, by show k = N; omega, fun i hi => by omega⟩
  | succ m ih =>
    intro k f o a r h ha
    have hle := acc_le ha
    rcases Nat.lt_or_eq_of_le hle with w | w
    · have h10 := hT.2.2.1 k w
      have st : ∀ f o a r, acc B n N (nxk B n k) f o a r → k < nxk B n k → ∃ j, nki B n j k = N ∧ ∀ i, i < j → tk B n (nki B n i k) ≠ 10 := by
        intro f o a r ha' hlt
        obtain ⟨j, hj, hjs⟩ := ih _ f o a r (by omega) ha'
        refine ⟨j + 1, hj, fun i hi => ?_⟩
        cases i with
        | zero => exact h10
        | succ i => exact hjs i (by omega)
      rcases acc_step ha h10 with ⟨_, _, _, _, k3, e, ha⟩ | ⟨_, _, _, _, k3, hs, e, ha⟩ | ⟨_, _, _, _, k3, hs, e, ha⟩ | ⟨_, _, _, _, k3, e, ha⟩
      · exact st _ _ _ _ (by rw [e]; exact ha) (by omega)
      · have sg := semi_ge (B := B) (n := n) (st := 2) 6 (k + 3)
        exact st _ _ _ _ (by rw [e]; exact ha) (by omega)
      · have sg := semi_ge (B := B) (n := n) (st := 3) 6 (k + 4)
        exact st _ _ _ _ (by rw [e]; exact ha) (by omega)
      · exact st _ _ _ _ (by rw [e]; exact ha) (by omega)
    · exact ⟨0, w, fun i hi => by omega⟩
theorem aut_0r {B : Int → Int} {n : Int} {one : Bool} : ∀ (c k : Nat) (q f o a r m : Int), (aut B n one c k q f o a r m).1 = 0 → (aut B n one c k q f o a r m).2.1 = -1 := by
  intro c
  induction c with
  | zero => intro k q f o a r m _; rfl
  | succ c ih =>
    intro k q f o a r m h
    rw [aut] at h ⊢
    (repeat' split at h) <;> first | (exact absurd h (by decide)) | skip
    all_goals simp_all
/-! the model's copies -/
def cp (P : Nat → Bool) (w c : Int) (M : Nat → Int → Int) : Nat → Int → Int := fun a j => if P a = true ∧ 0 ≤ j ∧ j < c then M a (w + j) else M a j
theorem cp_n {P : Nat → Bool} {w c : Int} {M : Nat → Int → Int} {a : Nat} (h : P a = false) : cp P w c M a = M a := by
  funext j
  unfold cp
  rw [if_neg (fun q => by rw [h] at q; exact absurd q.1 (by decide))]
theorem cp_y {P : Nat → Bool} {w c : Int} {M : Nat → Int → Int} {a : Nat} {j : Int} (h : P a = true) (h0 : 0 ≤ j) (h1 : j < c) : cp P w c M a j = M a (w + j) := by
  unfold cp
  rw [if_pos ⟨h, h0, h1⟩]
theorem cp_0 {P : Nat → Bool} {w : Int} {M : Nat → Int → Int} : cp P w 0 M = M := by
  funext a j
  unfold cp
  rw [if_neg (by omega)]
def P1 (a : Nat) : Bool := a == 83 || a == 84
def P2 (a : Nat) : Bool := a == 86 || a == 87 || a == 88
def P3 (a : Nat) : Bool := a == 89
def P4 (a : Nat) : Bool := a == 91 || a == 92 || a == 93
def P5 (a : Nat) : Bool := a == 94 || a == 95
def P6 (a : Nat) : Bool := a == 97 || a == 98
def cpn (M : Nat → Int → Int) : Nat → Int → Int := mup (mup (mup (mup M 82 0 (M 82 1)) 85 0 (M 85 1)) 90 0 (M 90 1)) 96 0 (M 96 1)
def tko (M : Nat → Int → Int) : Nat → Int → Int := cp P6 4 4 (cp P5 96 96 (cp P4 16 16 (cp P3 240 240 (cp P2 40 40 (cp P1 12 12 (cpn M))))))
theorem tko_o {M : Nat → Int → Int} {r : Nat} (h : r < 82 ∨ 98 < r) : tko M r = M r := by
  have e : ∀ x, x = 82 ∨ x = 85 ∨ x = 90 ∨ x = 96 → r ≠ x := by omega
  unfold tko cpn
  have b1 : ∀ x, 82 ≤ x → x ≤ 98 → (r == x) = false := fun x h1 h2 => beq_eq_false_iff_ne.mpr (by omega)
  rw [cp_n (by unfold P6; rw [b1 _ (by decide) (by decide), b1 _ (by decide) (by decide)]; rfl), cp_n (by unfold P5; rw [b1 _ (by decide) (by decide), b1 _ (by decide) (by decide)]; rfl), cp_n (by unfold P4; rw [b1 _ (by decide) (by decide), b1 _ (by decide) (by decide), b1 _ (by decide) (by decide)]; rfl), cp_n (by unfold P3; rw [b1 _ (by decide) (by decide)]), cp_n (by unfold P2; rw [b1 _ (by decide) (by decide), b1 _ (by decide) (by decide), b1 _ (by decide) (by decide)]; rfl), cp_n (by unfold P1; rw [b1 _ (by decide) (by decide), b1 _ (by decide) (by decide)]; rfl), mup_n (by omega), mup_n (by omega), mup_n (by omega), mup_n (by omega)]
/-- what was told in the second half stands in the first -/
theorem TR_tko {t : Nat} {M D : Nat → Int → Int} (h : TR t 1 M D) : TR t 0 M (tko D) := by
  have c82 : tko D 82 0 = D 82 1 := by
    unfold tko cpn
    rw [cp_n rfl, cp_n rfl, cp_n rfl, cp_n rfl, cp_n rfl, cp_n rfl, mup_n (by decide), mup_n (by decide), mup_n (by decide), mup_s]
  have c85 : tko D 85 0 = D 85 1 := by
    unfold tko cpn
    rw [cp_n rfl, cp_n rfl, cp_n rfl, cp_n rfl, cp_n rfl, cp_n rfl, mup_n (by decide), mup_n (by decide), mup_s]
  have c90 : tko D 90 0 = D 90 1 := by
    unfold tko cpn
    rw [cp_n rfl, cp_n rfl, cp_n rfl, cp_n rfl, cp_n rfl, cp_n rfl, mup_n (by decide), mup_s]
  have c96 : tko D 96 0 = D 96 1 := by
    unfold tko cpn
    rw [cp_n rfl, cp_n rfl, cp_n rfl, cp_n rfl, cp_n rfl, cp_n rfl, mup_s]
  have n4 : ∀ r, r ≠ 82 → r ≠ 85 → r ≠ 90 → r ≠ 96 → cpn D r = D r := fun r h1 h2 h3 h4 => by
    unfold cpn
    rw [mup_n h4, mup_n h3, mup_n h2, mup_n h1]
  have c1 : ∀ r j, (r = 83 ∨ r = 84) → 0 ≤ j → j < 12 → tko D r (0 * 12 + j) = D r (1 * 12 + j) := by
    intro r j hr j0 j1
    unfold tko
    rcases hr with rfl | rfl
    · rw [cp_n rfl, cp_n rfl, cp_n rfl, cp_n rfl, cp_n rfl, cp_y rfl (by omega) (by omega), n4 _ (by decide) (by decide) (by decide) (by decide)]
      congr 1; omega
    · rw [cp_n rfl, cp_n rfl, cp_n rfl, cp_n rfl, cp_n rfl, cp_y rfl (by omega) (by omega), n4 _ (by decide) (by decide) (by decide) (by decide)]
      congr 1; omega
  have c2 : ∀ r j, (r = 86 ∨ r = 87 ∨ r = 88) → 0 ≤ j → j < 40 → tko D r (0 * 40 + j) = D r (1 * 40 + j) := by
    intro r j hr j0 j1
    unfold tko
    rcases hr with rfl | rfl | rfl
    · rw [cp_n rfl, cp_n rfl, cp_n rfl, cp_n rfl, cp_y rfl (by omega) (by omega), cp_n rfl, n4 _ (by decide) (by decide) (by decide) (by decide)]
      congr 1; omega
    · rw [cp_n rfl, cp_n rfl, cp_n rfl, cp_n rfl, cp_y rfl (by omega) (by omega), cp_n rfl, n4 _ (by decide) (by decide) (by decide) (by decide)]
      congr 1; omega
    · rw [cp_n rfl, cp_n rfl, cp_n rfl, cp_n rfl, cp_y rfl (by omega) (by omega), cp_n rfl, n4 _ (by decide) (by decide) (by decide) (by decide)]
      congr 1; omega
  have c3 : ∀ k x, 0 ≤ k → k < 40 → 0 ≤ x → x < 6 → tko D 89 ((0 * 40 + k) * 6 + x) = D 89 ((1 * 40 + k) * 6 + x) := by
    intro k x k0 k1 x0 x1
    unfold tko
    rw [cp_n rfl, cp_n rfl, cp_n rfl, cp_y rfl (by omega) (by omega), cp_n rfl, cp_n rfl, n4 _ (by decide) (by decide) (by decide) (by decide)]
    congr 1; omega
  have c4 : ∀ r j, (r = 91 ∨ r = 92 ∨ r = 93) → 0 ≤ j → j < 16 → tko D r (0 * 16 + j) = D r (1 * 16 + j) := by
    intro r j hr j0 j1
    unfold tko
    rcases hr with rfl | rfl | rfl
    · rw [cp_n rfl, cp_n rfl, cp_y rfl (by omega) (by omega), cp_n rfl, cp_n rfl, cp_n rfl, n4 _ (by decide) (by decide) (by decide) (by decide)]
      congr 1; omega
    · rw [cp_n rfl, cp_n rfl, cp_y rfl (by omega) (by omega), cp_n rfl, cp_n rfl, cp_n rfl, n4 _ (by decide) (by decide) (by decide) (by decide)]
      congr 1; omega
    · rw [cp_n rfl, cp_n rfl, cp_y rfl (by omega) (by omega), cp_n rfl, cp_n rfl, cp_n rfl, n4 _ (by decide) (by decide) (by decide) (by decide)]
      congr 1; omega
  have c5 : ∀ r k x, (r = 94 ∨ r = 95) → 0 ≤ k → k < 16 → 0 ≤ x → x < 6 → tko D r ((0 * 16 + k) * 6 + x) = D r ((1 * 16 + k) * 6 + x) := by
    intro r k x hr k0 k1 x0 x1
    unfold tko
    rcases hr with rfl | rfl
    · rw [cp_n rfl, cp_y rfl (by omega) (by omega), cp_n rfl, cp_n rfl, cp_n rfl, cp_n rfl, n4 _ (by decide) (by decide) (by decide) (by decide)]
      congr 1; omega
    · rw [cp_n rfl, cp_y rfl (by omega) (by omega), cp_n rfl, cp_n rfl, cp_n rfl, cp_n rfl, n4 _ (by decide) (by decide) (by decide) (by decide)]
      congr 1; omega
  have c6 : ∀ r j, (r = 97 ∨ r = 98) → 0 ≤ j → j < 4 → tko D r (0 * 4 + j) = D r (1 * 4 + j) := by
    intro r j hr j0 j1
    unfold tko
    rcases hr with rfl | rfl
    · rw [cp_y rfl (by omega) (by omega), cp_n rfl, cp_n rfl, cp_n rfl, cp_n rfl, cp_n rfl, n4 _ (by decide) (by decide) (by decide) (by decide)]
      congr 1; omega
    · rw [cp_y rfl (by omega) (by omega), cp_n rfl, cp_n rfl, cp_n rfl, cp_n rfl, cp_n rfl, n4 _ (by decide) (by decide) (by decide) (by decide)]
      congr 1; omega
  obtain ⟨⟨f1, f2, f3, f4⟩, ⟨o1, o2, o3, o4⟩, ⟨a1, a2, a3, a4⟩, ⟨r1, r2, r3, r4⟩⟩ := h
  refine ⟨⟨?_, ?_, ?_, fun i i0 i1 => ?_⟩, ⟨?_, ?_, ?_, fun k k0 k1 => ?_⟩, ⟨?_, ?_, ?_, fun k k0 k1 => ?_⟩, ⟨?_, ?_, ?_, fun i i0 i1 => ?_⟩⟩
  · rw [c82]; exact f1
  · rw [c82]; exact f2
  · rw [c82]; exact f3
  · rw [c82] at i1
    rw [c1 _ i (by decide) i0 (by omega), c1 _ i (by decide) i0 (by omega)]
    exact f4 i i0 i1
  · rw [c85]; exact o1
  · rw [c85]; exact o2
  · rw [c85]; exact o3
  · rw [c85] at k1
    obtain ⟨b1, b2, b3, b4, b5, b6, b7⟩ := o4 k k0 k1
    unfold ORr
    rw [c2 _ k (by decide) k0 (by omega), c2 _ k (by decide) k0 (by omega), c2 _ k (by decide) k0 (by omega), c82]
    refine ⟨b1, b2, b3, fun x x0 x1 => ?_, fun x y x0 xy y1 => ?_, ?_, b7⟩
    · rw [c3 k x k0 (by omega) x0 (by omega)]
      exact b4 x x0 x1
    · rw [c3 k x k0 (by omega) x0 (by omega), c3 k y k0 (by omega) (by omega) (by omega)]
      exact b5 x y x0 xy y1
    · rw [b6]
      apply smw_congr
      intro x x0 x1
      have := b4 x x0 (by omega)
      show D 84 (1 * 12 + D 89 ((1 * 40 + k) * 6 + x)) = tko D 84 (0 * 12 + tko D 89 ((0 * 40 + k) * 6 + x))
      rw [c3 k x k0 (by omega) x0 (by omega), c1 _ _ (by decide) this.2.1 (by omega)]
  · rw [c90]; exact a1
  · rw [c90]; exact a2
  · rw [c90]; exact a3
  · rw [c90] at k1
    obtain ⟨b1, b2, b3, b4⟩ := a4 k k0 k1
    unfold ALr
    rw [c4 _ k (by decide) k0 (by omega), c4 _ k (by decide) k0 (by omega), c4 _ k (by decide) k0 (by omega), c85, c2 _ _ (by decide) b2.2.1 (by omega)]
    refine ⟨b1, b2, b3, fun x x0 x1 => ?_⟩
    rw [c5 _ k x (by decide) k0 (by omega) x0 (by omega), c5 _ k x (by decide) k0 (by omega) x0 (by omega)]
    obtain ⟨d1, d2, d3⟩ := b4 x x0 x1
    refine ⟨d1, d2, ?_⟩
    have hm := (o4 _ b2.2.1 b2.2.2).2.2.1
    rw [fnd_congr (q := fun i => D 89 ((1 * 40 + D 92 (1 * 16 + k)) * 6 + i) == D 94 ((1 * 16 + k) * 6 + x))]
    · exact d3
    · intro j j0 j1
      show (tko D 89 _ == _) = (D 89 _ == _)
      rw [c3 _ j b2.2.1 (by omega) j0 (by omega)]
  · rw [c96]; exact r1
  · rw [c96]; exact r2
  · rw [c96]; exact r3
  · rw [c96] at i1
    rw [c6 _ i (by decide) i0 (by omega), c6 _ i (by decide) i0 (by omega)]
    exact r4 i i0 i1
