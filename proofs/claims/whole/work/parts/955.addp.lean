/-! adding: what both sides make of it -/
theorem find_c {α : Type} {p q : α → Bool} : ∀ (l : List α), (∀ i ∈ l, p i = q i) → l.find? p = l.find? q
  | [], _ => rfl
  | a :: l, h => by
    rw [List.find?_cons, List.find?_cons, h a List.mem_cons_self, find_c l (fun i hi => h i (List.mem_cons_of_mem _ hi))]
theorem fwl_c {nw nw' : Nat → List Nat → Nat} : ∀ (n : Nat) (l : List Nat), (∀ i ∈ l, ∀ p, nw i p = nw' i p) → fwl nw n l = fwl nw' n l
  | 0, l, _ => rfl
  | n + 1, l, h => by
    rw [fwl, fwl]
    congr 1
    apply List.map_congr_left
    intro i hi
    rw [h i hi, fwl_c n (l.erase i) (fun j hj => h j (List.mem_of_mem_erase hj))]
theorem grd_c {nw nw' : Nat → List Nat → Nat} : ∀ (n : Nat) (l : List Nat), (∀ i ∈ l, ∀ p, nw i p = nw' i p) → grd nw n l = grd nw' n l
  | 0, l, _ => rfl
  | n + 1, l, h => by
    rw [grd, grd]
    have e : l.find? (fun i => nw i (l.erase i) + fwl nw n (l.erase i) == fwl nw (n + 1) l) = l.find? (fun i => nw' i (l.erase i) + fwl nw' n (l.erase i) == fwl nw' (n + 1) l) := by
      apply find_c
      intro i hi
      rw [h i hi, fwl_c n (l.erase i) (fun j hj => h j (List.mem_of_mem_erase hj)), fwl_c (n + 1) l h]
    rw [e]
    cases l.find? (fun i => nw' i (l.erase i) + fwl nw' n (l.erase i) == fwl nw' (n + 1) l) with
    | none => rfl
    | some i => exact congrArg (i :: ·) (grd_c n (l.erase i) (fun j hj => h j (List.mem_of_mem_erase hj)))
section
variable {t : Nat} {M : Nat → Int → Int} {S S' : Int → Nat} {k : Nat}
theorem oP_s (h : ∀ i : Nat, i < oN t M k → S (oF t M k i) = S' (oF t M k i)) : oP t M S k = oP t M S' k := by
  funext i
  unfold oP oG
  rw [grd_c (nw := nwf (oW t M k) (fun i => S (oF t M k i))) (nw' := nwf (oW t M k) (fun i => S' (oF t M k i))) _ _ (fun j hj p => ?_)]
  unfold nwf
  show (if S (oF t M k j) / _ % 2 = 0 then 1 else 0) = if S' (oF t M k j) / _ % 2 = 0 then 1 else 0
  rw [h j (List.mem_range.mp hj)]
theorem sN1_s (h : ∀ i : Nat, i < oN t M k → S (oF t M k i) = S' (oF t M k i)) {f : Int} (hf : S f = S' f) : sN1 t M S k f = sN1 t M S' k f := by
  unfold sN1
  rw [oP_s h, hf]
end
section
variable {t : Nat} {u : Int} {n nr : Nat} {M M' : Nat → Int → Int}
theorem lyI_keep (h : lyI t u n nr M) (hr : M' t = M t) (hro : M' (t + 13) = M (t + 13)) (hrb : M' (t + 14) = M (t + 14)) (hb : ∀ k : Nat, k < n → M' (t + 6) k = M (t + 6) k) (hN : ∀ k : Nat, k < n → oN t M' k = oN t M k) (hW : ∀ k i : Nat, k < n → i < oN t M k → oW t M' k i = oW t M k i) (hL : ∀ r, 57 ≤ r → r ≤ 66 → M' r = M r) (hO : ∀ r, 99 ≤ r → r ≤ 106 → M' r = M r) (hm : ∀ j, j = 21 ∨ j = 22 ∨ j = 54 ∨ j = 55 ∨ j = 56 → M' 80 j = M 80 j) (hd : M' 119 = M 119) (hdc : M' 70 0 = 0 → dcC n (ldP t n nr M) M') : lyI t u n nr M' := by
  obtain ⟨a1, a2, a3, a4, a5, a6, a7, a8⟩ := h
  have erm : rmN t M' = rmN t M := by funext k; unfold rmN; rw [hro]
  have eP : ldP t n nr M' = ldP t n nr M := by
    unfold ldP mkO mbO rkO rbO tkO
    rw [erm, hL 60 (by decide) (by decide), hL 59 (by decide) (by decide), hL 64 (by decide) (by decide), hL 63 (by decide) (by decide), hL 65 (by decide) (by decide)]
  refine ⟨?_, fun k hk => ?_, fun k i hk hi => ?_, ?_, ?_, ?_, ?_, ?_⟩
  · unfold lyH
    rw [hL _ (by decide) (by decide), hm _ (by decide), hm _ (by decide), hr]
    exact a1
  · unfold mkO mbO
    rw [hb k hk, hL 58 (by decide) (by decide), hL 59 (by decide) (by decide), hL 60 (by decide) (by decide), hL 61 (by decide) (by decide), hO 99 (by decide) (by decide), hO 100 (by decide) (by decide), hO 101 (by decide) (by decide), hO 102 (by decide) (by decide)]
    exact a2 k hk
  · rw [hN k hk] at hi
    rw [hW k i hk hi, hL 62 (by decide) (by decide), hO 103 (by decide) (by decide)]
    exact a3 k i hk hi
  · unfold lyR rbO rkO tkO
    rw [hrb, hL 63 (by decide) (by decide), hL 64 (by decide) (by decide), hL 65 (by decide) (by decide), hO 105 (by decide) (by decide), hO 106 (by decide) (by decide)]
    exact a4
  · unfold lyS
    rw [hr, hL 66 (by decide) (by decide), hO 104 (by decide) (by decide)]
    exact a5
  · unfold mkO mbO rkO rbO tkO
    rw [erm, hL 60 (by decide) (by decide), hL 59 (by decide) (by decide), hL 64 (by decide) (by decide), hL 63 (by decide) (by decide), hL 65 (by decide) (by decide)]
    exact a6
  · rw [eP]
    unfold dcR
    rw [hm _ (by decide), hm _ (by decide), hm _ (by decide), hd]
    exact a7
  · rw [eP]
    exact hdc
end
section
variable {X : Int → Int} {b : Bool} {M : Nat → Int → Int}
/-- an add that fails leaves all but the tape and the fault's place -/
theorem Inv_ab {M1 M2 : Nat → Int → Int} {K : Nat} (hI : Inv X b M) (hK : M (tO b) 3 = (K : Nat)) (h1 : acf (tO b) K M M1) (h2 : maf K M1 M2) (g1 : M1 17 1 = 0) (g2 : M2 80 1 = 0) (g3 : M2 80 3 = M1 16 10) : Inv X b M2 := by
  have hs := tO_rng b
  obtain ⟨a1, a2, a3, a4, a5, a6, a7, a8, a9, a10, a11, a12, a13⟩ := id hI
  obtain ⟨t, htd⟩ : ∃ t, tO b = t := ⟨_, rfl⟩
  have hT := tO_T b
  obtain ⟨o1, o2, o3, o4⟩ := TR_or a6
  rw [htd] at a6 a12 a13 hT hs hK h1 o1 o2 o3 o4
  have r1 : ∀ r, ¬ paC r → r ≠ 24 → (r < t + 1 ∨ t + 14 < r) → r ≠ 17 → r ≠ 16 → M1 r = M r := by
    intro r q1 q2 q3 q4 q5
    funext j
    exact h1 r j q1 q2 (by omega) (by omega) (by omega) (by omega)
  have r2 : ∀ r, r < 80 ∨ r = 81 ∨ 89 < r → M2 r = M1 r := by
    intro r q
    funext j
    exact h2 r j (by omega) (by omega) (by omega)
  have rr : ∀ r, r < 80 ∨ r = 81 ∨ 89 < r → ¬ paC r → r ≠ 24 → (r < t + 1 ∨ t + 14 < r) → r ≠ 17 → r ≠ 16 → M2 r = M r := fun r q q1 q2 q3 q4 q5 => by rw [r2 r q, r1 r q1 q2 q3 q4 q5]
  have m2 : ∀ j, ¬ (j = 1 ∨ j = 2 ∨ j = 3 ∨ (35 ≤ j ∧ j ≤ 42)) → M2 80 j = M 80 j := fun j q => by rw [h2 _ j (by omega) (by omega) (by omega), r1 _ (by unfold paC; omega) (by decide) (by omega) (by decide) (by decide)]
  have k2 : ∀ r, 55 ≤ r → r < 80 → M2 r = M r := fun r q1 q2 => rr r (by omega) (by unfold paC; omega) (by omega) (by omega) (by omega) (by omega)
  have k3 : ∀ r, 89 < r → M2 r = M r := fun r q1 => rr r (by omega) (by unfold paC; omega) (by omega) (by omega) (by omega) (by omega)
  have kt : M2 t = M t := rr t (by omega) (by unfold paC; omega) (by omega) (by omega) (by omega) (by omega)
  have tp : ∀ r j, t + 1 ≤ r → r ≤ t + 14 → ¬ ((r = t + 3 ∨ r = t + 4 ∨ r = t + 5 ∨ r = t + 6) ∧ j = (K : Int)) → ¬ (r = t + 7 ∧ (K : Int) * 6 ≤ j ∧ j < (K : Int) * 6 + 6) → M2 r j = M r j := by
    intro r j q1 q2 q3 q4
    rw [r2 r (by omega)]
    exact h1 r j (by unfold paC; omega) (by omega) q3 q4 (by omega) (by omega)
  have eF : ∀ k i : Nat, k < K → i < 6 → oF t M2 k i = oF t M k i := by
    intro k i hk hi
    unfold oF
    exact tp _ _ (by omega) (by omega) (by omega) (by omega)
  have eW2 : M2 (t + 2) = M (t + 2) := by
    funext j
    exact tp _ _ (by omega) (by omega) (by omega) (by omega)
  refine ⟨?_, ?_, ?_, ?_, ?_, ?_, ?_, ?_, ?_, ?_, ?_, ?_, ?_⟩
  · rw [rr _ (by decide) (by unfold paC; omega) (by decide) (by omega) (by decide) (by decide)]; exact a1
  · rw [rr _ (by decide) (by unfold paC; omega) (by decide) (by omega) (by decide) (by decide)]; exact a2
  · unfold okT
    rw [r2 _ (by decide), g1]
    exact ⟨by decide, by decide, fun j j0 j1 => by omega⟩
  · rw [rr 81 (by decide) (by unfold paC; omega) (by decide) (by omega) (by decide) (by decide), rr 18 (by decide) (by unfold paC; omega) (by decide) (by omega) (by decide) (by decide)]; exact a4
  · rw [g2, r2 _ (by decide), g1]
  · rw [htd]
    refine TR_keep hT a6 (fun r j q1 q2 => ?_)
    rw [hK] at q2
    unfold ucP at q2
    by_cases w : r < 80
    · by_cases wt : r = t
      · rw [wt, kt]
      · exact tp r j (by omega) (by omega) (by omega) (by omega)
    · rw [h2 r j (by omega) (by omega) (by omega), r1 r (by unfold paC; omega) (by omega) (by omega) (by omega) (by omega)]
  · rw [g3, r2 _ (by decide)]
  · unfold gvI
    rw [k3 _ (by decide), k2 _ (by decide) (by decide)]
    exact a8
  · rw [k2 _ (by decide) (by decide)]; exact a9
  · rw [k2 _ (by decide) (by decide)]; exact a10
  · rw [k2 _ (by decide) (by decide), m2 _ (by decide)]; exact a11
  · rw [htd, k2 _ (by decide) (by decide)]
    rcases a12 with w | ⟨u, n, nr, w⟩
    · exact Or.inl w
    · have hnK : n = K := by have := w.1.2.2.2.1; omega
      subst hnK
      have hN : ∀ k : Nat, k < n → oN t M k ≤ 6 := by
        intro k hk
        have := (o4 k (by omega) (by omega)).2.1
        unfold oN
        omega
      refine Or.inr ⟨u, n, nr, lyI_keep w kt ?_ ?_ (fun k hk => tp _ _ (by omega) (by omega) (by omega) (by omega)) (fun k hk => ?_) (fun k i hk hi => ?_) (fun r q1 q2 => k2 r (by omega) (by omega)) (fun r q1 q2 => k3 r (by omega)) (fun j q => m2 j (by omega)) (k3 _ (by decide)) (dcC_congr w.2.2.2.2.2.2.2 (fun j => by rw [k2 _ (by decide) (by decide)]) (k2 _ (by decide) (by decide)))⟩
      · funext j; exact tp _ _ (by omega) (by omega) (by omega) (by omega)
      · funext j; exact tp _ _ (by omega) (by omega) (by omega) (by omega)
      · unfold oN
        rw [tp _ _ (by omega) (by omega) (by omega) (by omega)]
      · have := hN k hk
        unfold oW
        rw [eF k i hk (by omega), eW2]
  · rw [htd]
    obtain ⟨b1, b2⟩ := a13
    unfold rdI
    rw [k2 77 (by decide) (by decide), k2 78 (by decide) (by decide), m2 _ (by decide), m2 _ (by decide), k3 108 (by decide), k2 57 (by decide) (by decide), kt]
    refine ⟨b1, ?_⟩
    rcases b2 with w | ⟨w1, w2, w3, w4, w5, w6⟩
    · exact Or.inl w
    · refine Or.inr ⟨w1, w2, w3, w4, ?_, w6⟩
      rw [tp _ _ (by omega) (by omega) (by omega) (by omega)]
      exact w5
end
