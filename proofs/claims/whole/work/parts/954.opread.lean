/-! reading a text, both sides -/
theorem TR_pt {t : Nat} {M M' : Nat → Int → Int} (h : TR t 0 M M) (hM : ∀ r, t ≤ r → r ≤ t + 14 → M' r = M r) (hD : ∀ r j, 82 ≤ r → r ≤ 98 → ¬ drf r j → M' r j = M r j) : TR t 0 M' M' := by
  obtain ⟨⟨f1, f2, f3, f4⟩, ⟨o1, o2, o3, o4⟩, ⟨p1, p2, p3, p4⟩, ⟨q1, q2, q3, q4⟩⟩ := h
  have e1 : M' 82 0 = M 82 0 := hD _ _ (by decide) (by decide) (by unfold drf; omega)
  have e2 : M' 85 0 = M 85 0 := hD _ _ (by decide) (by decide) (by unfold drf; omega)
  have e3 : M' 90 0 = M 90 0 := hD _ _ (by decide) (by decide) (by unfold drf; omega)
  have e4 : M' 96 0 = M 96 0 := hD _ _ (by decide) (by decide) (by unfold drf; omega)
  refine ⟨⟨by rw [hM t (by omega) (by omega), e1]; exact f1, by rw [e1]; exact f2, by rw [e1]; exact f3, fun k k0 k1 => ?_⟩, ⟨by rw [hM t (by omega) (by omega), e2]; exact o1, by rw [e2]; exact o2, by rw [e2]; exact o3, fun k k0 k1 => ?_⟩, ⟨by rw [hM t (by omega) (by omega), e3]; exact p1, by rw [e3]; exact p2, by rw [e3]; exact p3, fun k k0 k1 => ?_⟩, ⟨by rw [hM t (by omega) (by omega), e4]; exact q1, by rw [e4]; exact q2, by rw [e4]; exact q3, fun k k0 k1 => ?_⟩⟩
  · rw [e1] at k1
    rw [hM (t + 1) (by omega) (by omega), hM (t + 2) (by omega) (by omega), hD 83 _ (by decide) (by decide) (by unfold drf; omega), hD 84 _ (by decide) (by decide) (by unfold drf; omega)]
    exact f4 k k0 k1
  · rw [e2] at k1
    refine ORr_mono (o4 k k0 k1) ⟨f1, f2, f3, f4⟩ (by rw [e1]; exact Int.le_refl _) (fun j j0 j1 => hD _ _ (by decide) (by decide) (by unfold drf; omega)) (by rw [hM _ (by omega) (by omega)]) (hD _ _ (by decide) (by decide) (by unfold drf; omega)) (by rw [hM _ (by omega) (by omega)]) (hD _ _ (by decide) (by decide) (by unfold drf; omega)) (by rw [hM _ (by omega) (by omega)]) (hD _ _ (by decide) (by decide) (by unfold drf; omega)) (fun x x0 x1 => by rw [hM _ (by omega) (by omega)]) (fun x x0 x1 => hD _ _ (by decide) (by decide) (by unfold drf; omega)) (by rw [hM _ (by omega) (by omega)])
  · rw [e3] at k1
    obtain ⟨b1, b2, b3, b4⟩ := p4 k k0 k1
    have c1 : M' 92 (0 * 16 + k) = M 92 (0 * 16 + k) := hD _ _ (by decide) (by decide) (by unfold drf; omega)
    have c2 : M' 93 (0 * 16 + k) = M 93 (0 * 16 + k) := hD _ _ (by decide) (by decide) (by unfold drf; omega)
    have hob := (o4 _ b2.2.1 b2.2.2).2.2.1
    have c3 : M' 88 (0 * 40 + M 92 (0 * 16 + k)) = M 88 (0 * 40 + M 92 (0 * 16 + k)) := hD _ _ (by decide) (by decide) (by unfold drf; omega)
    unfold ALr
    rw [c1, c2, c3, e2, hM (t + 8) (by omega) (by omega), hM (t + 9) (by omega) (by omega), hM (t + 10) (by omega) (by omega), hM (t + 11) (by omega) (by omega), hM (t + 12) (by omega) (by omega), hD 91 _ (by decide) (by decide) (by unfold drf; omega)]
    refine ⟨b1, b2, b3, fun x x0 x1 => ?_⟩
    obtain ⟨d1, d2, d3⟩ := b4 x x0 x1
    rw [hD 94 _ (by decide) (by decide) (by unfold drf; omega), hD 95 _ (by decide) (by decide) (by unfold drf; omega)]
    refine ⟨d1, d2, ?_⟩
    rw [fnd_congr (q := fun i => M 89 ((0 * 40 + M 92 (0 * 16 + k)) * 6 + i) == M 94 ((0 * 16 + k) * 6 + x))]
    · exact d3
    · intro j j0 j1
      rw [hD 89 _ (by decide) (by decide) (by unfold drf; omega)]
  · rw [e4] at k1
    rw [hM (t + 13) (by omega) (by omega), hM (t + 14) (by omega) (by omega), hD 97 _ (by decide) (by decide) (by unfold drf; omega), hD 98 _ (by decide) (by decide) (by unfold drf; omega)]
    exact q4 k k0 k1
theorem ag_mD {D D' : Nat → Int → Int} (h : ag D D') : ag (mD0 D) (mD0 D') := by
  unfold mD0
  exact ag_m (ag_m (ag_m (ag_m (ag_m (ag_s h)))))
theorem cp_ag {P : Nat → Bool} {w c : Int} {D D' : Nat → Int → Int} (h : ag D D') : ag (cp P w c D) (cp P w c D') := by
  intro r hr
  funext j
  unfold cp
  rw [h r hr]
theorem ag_tko {D D' : Nat → Int → Int} (h : ag D D') : ag (tko D) (tko D') := by
  have h0 : ag (cpn D) (cpn D') := by
    unfold cpn
    rw [h 82 (by decide), h 85 (by decide), h 90 (by decide), h 96 (by decide)]
    exact ag_m (ag_m (ag_m (ag_m h)))
  unfold tko
  exact cp_ag (cp_ag (cp_ag (cp_ag (cp_ag (cp_ag h0)))))
theorem tO_n (b : Bool) : tD b = tO (!b) := by cases b <;> rfl
theorem tD_sep (b : Bool) : (tO b = 25 ∧ tD b = 40) ∨ (tO b = 40 ∧ tD b = 25) := by cases b <;> simp [tO, tD]
section
variable {L : Nat} {X : Int → Int} {b : Bool} {Q : Option mV → mM → Prop} {bd : Nat × Nat} {M : Nat → Int → Int} {i : Int}
/-- a text with a fault leaves all but the tape and the fault's place -/
theorem Inv_bad {M1 M2 : Nat → Int → Int} (hI : Inv X b M) (h1 : crf b false M M1) (h2 : rdf M1 M2) (g1 : M1 17 1 = 0) (g2 : M2 80 1 = 0) (g3 : M2 80 3 = M1 16 10) : Inv X b M2 := by
  have hs := tD_sep b
  obtain ⟨a1, a2, a3, a4, a5, a6, a7, a8, a9, a10, a11, a12, a13⟩ := id hI
  have r1 : ∀ r, ¬ paC r → r ≠ 24 → ¬ (tD b ≤ r ∧ r ≤ tD b + 14) → r ≠ 17 → r ≠ 16 → M1 r = M r := by
    intro r q1 q2 q3 q4 q5
    funext j
    exact h1 r j q1 q2 q3 (fun q => q4 q.1) (fun q => q5 q.1) (fun q => absurd q.1 (by decide))
  have r2 : ∀ r, r < 80 ∨ r = 81 ∨ 98 < r → M2 r = M1 r := by
    intro r q
    funext j
    exact h2 r j (by unfold drf; omega) (by omega)
  have rr : ∀ r, r < 80 ∨ r = 81 ∨ 98 < r → ¬ paC r → r ≠ 24 → ¬ (tD b ≤ r ∧ r ≤ tD b + 14) → r ≠ 17 → r ≠ 16 → M2 r = M r := fun r q q1 q2 q3 q4 q5 => by rw [r2 r q, r1 r q1 q2 q3 q4 q5]
  have m2 : ∀ j, ¬ (j = 1 ∨ j = 2 ∨ j = 3 ∨ (35 ≤ j ∧ j ≤ 42)) → M2 80 j = M 80 j := fun j q => by rw [h2 _ j (by unfold drf; omega) (by omega), r1 _ (by unfold paC; omega) (by decide) (by omega) (by decide) (by decide)]
  have k1 : ∀ r, tO b ≤ r → r ≤ tO b + 14 → M2 r = M r := fun r q1 q2 => rr r (by omega) (by unfold paC; omega) (by omega) (by omega) (by omega) (by omega)
  have k2 : ∀ r, 55 ≤ r → r < 80 → M2 r = M r := fun r q1 q2 => rr r (by omega) (by unfold paC; omega) (by omega) (by omega) (by omega) (by omega)
  have k3 : ∀ r, 98 < r → M2 r = M r := fun r q1 => rr r (by omega) (by unfold paC; omega) (by omega) (by omega) (by omega) (by omega)
  refine ⟨?_, ?_, ?_, ?_, ?_, ?_, ?_, ?_, ?_, ?_, ?_, ?_, ?_⟩
  · rw [rr _ (by decide) (by unfold paC; omega) (by decide) (by omega) (by decide) (by decide)]; exact a1
  · rw [rr _ (by decide) (by unfold paC; omega) (by decide) (by omega) (by decide) (by decide)]; exact a2
  · unfold okT
    rw [r2 _ (by decide), g1]
    exact ⟨by decide, by decide, fun j j0 j1 => by omega⟩
  · rw [rr 81 (by decide) (by unfold paC; omega) (by decide) (by omega) (by decide) (by decide), rr 18 (by decide) (by unfold paC; omega) (by decide) (by omega) (by decide) (by decide)]; exact a4
  · rw [g2, r2 _ (by decide), g1]
  · refine TR_pt a6 k1 (fun r j q1 q2 q3 => ?_)
    rw [h2 r j q3 (by omega), r1 r (by unfold paC; omega) (by omega) (by omega) (by omega) (by omega)]
  · rw [g3, r2 _ (by decide)]
  · unfold gvI
    rw [k3 _ (by decide), k2 _ (by decide) (by decide)]
    exact a8
  · rw [k2 _ (by decide) (by decide)]; exact a9
  · rw [k2 _ (by decide) (by decide)]; exact a10
  · rw [k2 _ (by decide) (by decide), m2 _ (by decide)]; exact a11
  · rw [k2 _ (by decide) (by decide)]
    rcases a12 with w | ⟨u, n, nr, w⟩
    · exact Or.inl w
    · exact Or.inr ⟨u, n, nr, lyI_congr w k1 (fun r q1 q2 => k2 r (by omega) (by omega)) (fun r q1 q2 => k3 r (by omega)) (fun j q => m2 j (by omega)) (k3 _ (by decide)) (dcC_congr w.2.2.2.2.2.2.2 (fun j => by rw [k2 _ (by decide) (by decide)]) (k2 _ (by decide) (by decide)))⟩
  · exact rdI_congr a13 (k2 _ (by decide) (by decide)) (k2 _ (by decide) (by decide)) (fun j q => m2 j (by omega)) (k3 _ (by decide)) (by rw [k2 _ (by decide) (by decide)]) (by rw [k1 _ (by omega) (by omega)]) (k1 _ (by omega) (by omega))
theorem nki_1 {B : Int → Int} {n : Int} {j j' : Nat} (h1 : tk B n (nki B n j 0) = 10) (h2 : ∀ i, i < j → tk B n (nki B n i 0) ≠ 10) (h3 : tk B n (nki B n j' 0) = 10) (h4 : ∀ i, i < j' → tk B n (nki B n i 0) ≠ 10) : j = j' := by
  rcases Nat.lt_trichotomy j j' with w | w | w
  · exact absurd h1 (h4 j w)
  · exact w
  · exact absurd h3 (h2 j' w)
set_option maxHeartbeats 1000000 in
theorem op_read (hL : L ≤ 3072) (hX : ∀ j, inI (X j)) (hI : Inv X b M) (i0 : 0 ≤ i) (i6 : i ≤ (L : Int) - 6) (nx : Nx L X Q bd i) : Jd i_Lw_law Q bd 198 (lwL i) [] (mS L b M) := by
  have ht : isT 25 := Or.inl rfl
  have hs := tD_sep b
  obtain ⟨a1, a2, a3, a4, a5, a6, a7, a8, a9, a10, a11, a12, a13⟩ := id hI
  obtain ⟨B, hB⟩ : ∃ B, M 18 = B := ⟨_, rfl⟩
  obtain ⟨n, hn⟩ : ∃ n, M 17 1 = n := ⟨_, rfl⟩
  obtain ⟨R, hR⟩ : ∃ R, R = aut B n false 601 0 0 0 0 0 0 0 := ⟨_, rfl⟩
  have n0 : 0 ≤ n := by rw [← hn]; exact a3.1
  have htp : ∀ s M1, crf b s M M1 → tpe B n M1 ∧ ag M1 M := by
    intro s M1 h1
    have r1 : ∀ r, 80 ≤ r → M1 r = M r := by
      intro r q
      funext j
      exact h1 r j (by unfold paC; omega) (by omega) (by omega) (by omega) (by omega) (by omega)
    refine ⟨⟨?_, ?_, ?_, ?_⟩, r1⟩
    · rw [r1 _ (by decide), a4]; exact hB
    · rw [r1 _ (by decide), a5]; exact hn
    · rw [← hn]; exact a3.2.1
    · rw [← hn, ← hB]; exact a3.2.2
  apply B_Lw_law_198
  simp only [mwp, mst, mii, mll, mli, mi1, ml1, mr1, mir, mlr, mrr, miir, mlir, mget, mgi, mgl, mgr, mset, mset2, mkill, mput_t, mputr_t, mpop, mpsh, mrcv, mcnd, mtsw, mlsw, List.set_cons_zero, SH_16, SH_17, SH_18, SH_19, SH_20, SH_21, SH_22, SH_23, SH_24, SH_25, SH_26, SH_27, SH_28, SH_29, SH_30, SH_31, SH_32, SH_33, SH_34, SH_35, SH_36, SH_37, SH_38, SH_39, SH_40, SH_41, SH_42, SH_43, SH_44, SH_45, SH_46, SH_47, SH_48, SH_49, SH_50, SH_51, SH_52, SH_53, SH_54, SH_55, SH_56, SH_57, SH_58, SH_59, SH_60, SH_61, SH_62, SH_63, SH_64, SH_65, SH_66, SH_67, SH_68, SH_69, SH_70, SH_71, SH_72, SH_73, SH_74, SH_75, SH_76, SH_77, SH_78, SH_79, SH_80, SH_81, SH_82, SH_83, SH_84, SH_85, SH_86, SH_87, SH_88, SH_89, SH_90, SH_91, SH_92, SH_93, SH_94, SH_95, SH_96, SH_97, SH_98, SH_99, SH_100, SH_101, SH_102, SH_103, SH_104, SH_105, SH_106, SH_107, SH_108, SH_109, SH_110, SH_111, SH_112, SH_113, SH_114, SH_115, SH_116, SH_117, SH_118, SH_119, RF_16_0, RF_16_1, RF_16_2, RF_16_5, RF_16_6, RF_16_7, RF_16_8, RF_16_9, RF_17_0, RF_19_0, RF_19_1, RF_19_2, RF_19_3, RF_24_0, RF_25_1, RF_25_2, RF_25_4, RF_25_5, RF_25_6, RF_25_7, RF_25_8, RF_25_10, RF_25_11, RF_25_12, RF_25_13, RF_25_14, RF_25_16, RF_25_17, RF_40_1, RF_40_2, RF_40_4, RF_40_5, RF_40_6, RF_40_7, RF_40_8, RF_40_10, RF_40_11, RF_40_12, RF_40_13, RF_40_14, RF_40_16, RF_40_17, RF_55_0, RF_57_2, RF_57_3, RF_57_4, RF_57_5, RF_57_6, RF_57_7, RF_57_8, RF_57_9, RF_57_10, RF_57_11, RF_67_0, RF_67_1, RF_70_4, RF_70_5, RF_70_6, RF_70_7, RF_70_9, RF_70_10, RF_77_3, RF_80_0, RF_80_4, RF_80_5, RF_80_6, RF_80_7, RF_80_8, RF_80_9, RF_80_10, RF_80_11, RF_80_12, RF_80_13, RF_80_14, RF_80_15, RF_80_16, RF_80_17, RF_80_18, RF_80_19, RF_80_20, RF_80_23, RF_80_24, RF_80_25, RF_80_26, RF_80_27, RF_80_28, RF_80_29, RF_80_30, RF_80_31, RF_80_34, RF_80_43, RF_80_44, RF_80_45, RF_80_46, RF_80_47, RF_80_48, RF_80_49, RF_80_50, RF_80_51, RF_80_52, RF_80_53, RF_told, RF_draft, true_and, and_true, ne_eq, not_false_eq_true, not_true_eq_false, lCmp_eq0, lCmp_ne0, lCmp_lt0, lCmp_ge0, lCmp_gt0, lCmp_le0, Nat.reduceEqDiff, Nat.reduceLeDiff, Nat.reduceAdd, Nat.reduceLT, Int.reduceAdd, Int.reduceSub, Int.reduceMul, Int.reduceNeg, Int.reduceLT, Int.reduceLE, Int.reduceGT, Int.reduceGE, Int.reduceEq, Int.reduceNe, Int.reduceNatCast, Int.reduceToNat, reduceIte, false_and, and_false, false_implies, forall_const, or_true, true_or, or_false, false_or, Int.add_zero, Int.zero_add, i2B_i2B, mup_ap, b_Lw_law_198]
  refine ⟨rfl, Wm_read_sp (R := R) a3 hB hn a2 hR (fun v1 M1 v2 v3 v4 => ?_) (fun N j v1 v2 v3 v4 ft M1 v5 v6 v7 v8 => ?_) (fun N j v1 v2 v3 v4 M1 v5 v6 v7 v8 v9 v10 v11 => ?_)⟩
  · obtain ⟨t1, t2⟩ := htp _ M1 v2
    apply B_Lw_law_202
    simp only [mwp, mst, mii, mll, mli, mi1, ml1, mr1, mir, mlr, mrr, miir, mlir, mget, mgi, mgl, mgr, mset, mset2, mkill, mput_t, mputr_t, mpop, mpsh, mrcv, mcnd, mtsw, mlsw, List.set_cons_zero, SH_16, SH_17, SH_18, SH_19, SH_20, SH_21, SH_22, SH_23, SH_24, SH_25, SH_26, SH_27, SH_28, SH_29, SH_30, SH_31, SH_32, SH_33, SH_34, SH_35, SH_36, SH_37, SH_38, SH_39, SH_40, SH_41, SH_42, SH_43, SH_44, SH_45, SH_46, SH_47, SH_48, SH_49, SH_50, SH_51, SH_52, SH_53, SH_54, SH_55, SH_56, SH_57, SH_58, SH_59, SH_60, SH_61, SH_62, SH_63, SH_64, SH_65, SH_66, SH_67, SH_68, SH_69, SH_70, SH_71, SH_72, SH_73, SH_74, SH_75, SH_76, SH_77, SH_78, SH_79, SH_80, SH_81, SH_82, SH_83, SH_84, SH_85, SH_86, SH_87, SH_88, SH_89, SH_90, SH_91, SH_92, SH_93, SH_94, SH_95, SH_96, SH_97, SH_98, SH_99, SH_100, SH_101, SH_102, SH_103, SH_104, SH_105, SH_106, SH_107, SH_108, SH_109, SH_110, SH_111, SH_112, SH_113, SH_114, SH_115, SH_116, SH_117, SH_118, SH_119, RF_16_0, RF_16_1, RF_16_2, RF_16_5, RF_16_6, RF_16_7, RF_16_8, RF_16_9, RF_17_0, RF_19_0, RF_19_1, RF_19_2, RF_19_3, RF_24_0, RF_25_1, RF_25_2, RF_25_4, RF_25_5, RF_25_6, RF_25_7, RF_25_8, RF_25_10, RF_25_11, RF_25_12, RF_25_13, RF_25_14, RF_25_16, RF_25_17, RF_40_1, RF_40_2, RF_40_4, RF_40_5, RF_40_6, RF_40_7, RF_40_8, RF_40_10, RF_40_11, RF_40_12, RF_40_13, RF_40_14, RF_40_16, RF_40_17, RF_55_0, RF_57_2, RF_57_3, RF_57_4, RF_57_5, RF_57_6, RF_57_7, RF_57_8, RF_57_9, RF_57_10, RF_57_11, RF_67_0, RF_67_1, RF_70_4, RF_70_5, RF_70_6, RF_70_7, RF_70_9, RF_70_10, RF_77_3, RF_80_0, RF_80_4, RF_80_5, RF_80_6, RF_80_7, RF_80_8, RF_80_9, RF_80_10, RF_80_11, RF_80_12, RF_80_13, RF_80_14, RF_80_15, RF_80_16, RF_80_17, RF_80_18, RF_80_19, RF_80_20, RF_80_23, RF_80_24, RF_80_25, RF_80_26, RF_80_27, RF_80_28, RF_80_29, RF_80_30, RF_80_31, RF_80_34, RF_80_43, RF_80_44, RF_80_45, RF_80_46, RF_80_47, RF_80_48, RF_80_49, RF_80_50, RF_80_51, RF_80_52, RF_80_53, RF_told, RF_draft, true_and, and_true, ne_eq, not_false_eq_true, not_true_eq_false, lCmp_eq0, lCmp_ne0, lCmp_lt0, lCmp_ge0, lCmp_gt0, lCmp_le0, Nat.reduceEqDiff, Nat.reduceLeDiff, Nat.reduceAdd, Nat.reduceLT, Int.reduceAdd, Int.reduceSub, Int.reduceMul, Int.reduceNeg, Int.reduceLT, Int.reduceLE, Int.reduceGT, Int.reduceGE, Int.reduceEq, Int.reduceNe, Int.reduceNatCast, Int.reduceToNat, reduceIte, false_and, and_false, false_implies, forall_const, or_true, true_or, or_false, false_or, Int.add_zero, Int.zero_add, i2B_i2B, mup_ap, b_Lw_law_202]
    refine ⟨rfl, Mo_read_sp t1 n0 hR (fun _ M2 q1 q2 q3 q4 => ?_) (fun j q => ?_) (fun j q => ?_)⟩
    · apply B_Lw_law_206
      simp only [mwp, mst, mii, mll, mli, mi1, ml1, mr1, mir, mlr, mrr, miir, mlir, mget, mgi, mgl, mgr, mset, mset2, mkill, mput_t, mputr_t, mpop, mpsh, mrcv, mcnd, mtsw, mlsw, List.set_cons_zero, SH_16, SH_17, SH_18, SH_19, SH_20, SH_21, SH_22, SH_23, SH_24, SH_25, SH_26, SH_27, SH_28, SH_29, SH_30, SH_31, SH_32, SH_33, SH_34, SH_35, SH_36, SH_37, SH_38, SH_39, SH_40, SH_41, SH_42, SH_43, SH_44, SH_45, SH_46, SH_47, SH_48, SH_49, SH_50, SH_51, SH_52, SH_53, SH_54, SH_55, SH_56, SH_57, SH_58, SH_59, SH_60, SH_61, SH_62, SH_63, SH_64, SH_65, SH_66, SH_67, SH_68, SH_69, SH_70, SH_71, SH_72, SH_73, SH_74, SH_75, SH_76, SH_77, SH_78, SH_79, SH_80, SH_81, SH_82, SH_83, SH_84, SH_85, SH_86, SH_87, SH_88, SH_89, SH_90, SH_91, SH_92, SH_93, SH_94, SH_95, SH_96, SH_97, SH_98, SH_99, SH_100, SH_101, SH_102, SH_103, SH_104, SH_105, SH_106, SH_107, SH_108, SH_109, SH_110, SH_111, SH_112, SH_113, SH_114, SH_115, SH_116, SH_117, SH_118, SH_119, RF_16_0, RF_16_1, RF_16_2, RF_16_5, RF_16_6, RF_16_7, RF_16_8, RF_16_9, RF_17_0, RF_19_0, RF_19_1, RF_19_2, RF_19_3, RF_24_0, RF_25_1, RF_25_2, RF_25_4, RF_25_5, RF_25_6, RF_25_7, RF_25_8, RF_25_10, RF_25_11, RF_25_12, RF_25_13, RF_25_14, RF_25_16, RF_25_17, RF_40_1, RF_40_2, RF_40_4, RF_40_5, RF_40_6, RF_40_7, RF_40_8, RF_40_10, RF_40_11, RF_40_12, RF_40_13, RF_40_14, RF_40_16, RF_40_17, RF_55_0, RF_57_2, RF_57_3, RF_57_4, RF_57_5, RF_57_6, RF_57_7, RF_57_8, RF_57_9, RF_57_10, RF_57_11, RF_67_0, RF_67_1, RF_70_4, RF_70_5, RF_70_6, RF_70_7, RF_70_9, RF_70_10, RF_77_3, RF_80_0, RF_80_4, RF_80_5, RF_80_6, RF_80_7, RF_80_8, RF_80_9, RF_80_10, RF_80_11, RF_80_12, RF_80_13, RF_80_14, RF_80_15, RF_80_16, RF_80_17, RF_80_18, RF_80_19, RF_80_20, RF_80_23, RF_80_24, RF_80_25, RF_80_26, RF_80_27, RF_80_28, RF_80_29, RF_80_30, RF_80_31, RF_80_34, RF_80_43, RF_80_44, RF_80_45, RF_80_46, RF_80_47, RF_80_48, RF_80_49, RF_80_50, RF_80_51, RF_80_52, RF_80_53, RF_told, RF_draft, true_and, and_true, ne_eq, not_false_eq_true, not_true_eq_false, lCmp_eq0, lCmp_ne0, lCmp_lt0, lCmp_ge0, lCmp_gt0, lCmp_le0, Nat.reduceEqDiff, Nat.reduceLeDiff, Nat.reduceAdd, Nat.reduceLT, Int.reduceAdd, Int.reduceSub, Int.reduceMul, Int.reduceNeg, Int.reduceLT, Int.reduceLE, Int.reduceGT, Int.reduceGE, Int.reduceEq, Int.reduceNe, Int.reduceNatCast, Int.reduceToNat, reduceIte, false_and, and_false, false_implies, forall_const, or_true, true_or, or_false, false_or, Int.add_zero, Int.zero_add, i2B_i2B, mup_ap, b_Lw_law_206]
      exact nx b M2 (Inv_bad hI v2 q1 v3 q2 (by rw [q4, v4]))
    · rw [q] at v1; exact absurd rfl v1
    · rw [q] at v1; exact absurd rfl v1
  · obtain ⟨t1, t2⟩ := htp _ M1 v6
    have hf : ∀ j, fkp (mIt B n j (mD0 M1) 0) = fkp (mIt B n j (mD0 M) 0) := fun j => ag_fkp (ag_it j _ _ _ (ag_mD t2))
    apply B_Lw_law_202
    simp only [mwp, mst, mii, mll, mli, mi1, ml1, mr1, mir, mlr, mrr, miir, mlir, mget, mgi, mgl, mgr, mset, mset2, mkill, mput_t, mputr_t, mpop, mpsh, mrcv, mcnd, mtsw, mlsw, List.set_cons_zero, SH_16, SH_17, SH_18, SH_19, SH_20, SH_21, SH_22, SH_23, SH_24, SH_25, SH_26, SH_27, SH_28, SH_29, SH_30, SH_31, SH_32, SH_33, SH_34, SH_35, SH_36, SH_37, SH_38, SH_39, SH_40, SH_41, SH_42, SH_43, SH_44, SH_45, SH_46, SH_47, SH_48, SH_49, SH_50, SH_51, SH_52, SH_53, SH_54, SH_55, SH_56, SH_57, SH_58, SH_59, SH_60, SH_61, SH_62, SH_63, SH_64, SH_65, SH_66, SH_67, SH_68, SH_69, SH_70, SH_71, SH_72, SH_73, SH_74, SH_75, SH_76, SH_77, SH_78, SH_79, SH_80, SH_81, SH_82, SH_83, SH_84, SH_85, SH_86, SH_87, SH_88, SH_89, SH_90, SH_91, SH_92, SH_93, SH_94, SH_95, SH_96, SH_97, SH_98, SH_99, SH_100, SH_101, SH_102, SH_103, SH_104, SH_105, SH_106, SH_107, SH_108, SH_109, SH_110, SH_111, SH_112, SH_113, SH_114, SH_115, SH_116, SH_117, SH_118, SH_119, RF_16_0, RF_16_1, RF_16_2, RF_16_5, RF_16_6, RF_16_7, RF_16_8, RF_16_9, RF_17_0, RF_19_0, RF_19_1, RF_19_2, RF_19_3, RF_24_0, RF_25_1, RF_25_2, RF_25_4, RF_25_5, RF_25_6, RF_25_7, RF_25_8, RF_25_10, RF_25_11, RF_25_12, RF_25_13, RF_25_14, RF_25_16, RF_25_17, RF_40_1, RF_40_2, RF_40_4, RF_40_5, RF_40_6, RF_40_7, RF_40_8, RF_40_10, RF_40_11, RF_40_12, RF_40_13, RF_40_14, RF_40_16, RF_40_17, RF_55_0, RF_57_2, RF_57_3, RF_57_4, RF_57_5, RF_57_6, RF_57_7, RF_57_8, RF_57_9, RF_57_10, RF_57_11, RF_67_0, RF_67_1, RF_70_4, RF_70_5, RF_70_6, RF_70_7, RF_70_9, RF_70_10, RF_77_3, RF_80_0, RF_80_4, RF_80_5, RF_80_6, RF_80_7, RF_80_8, RF_80_9, RF_80_10, RF_80_11, RF_80_12, RF_80_13, RF_80_14, RF_80_15, RF_80_16, RF_80_17, RF_80_18, RF_80_19, RF_80_20, RF_80_23, RF_80_24, RF_80_25, RF_80_26, RF_80_27, RF_80_28, RF_80_29, RF_80_30, RF_80_31, RF_80_34, RF_80_43, RF_80_44, RF_80_45, RF_80_46, RF_80_47, RF_80_48, RF_80_49, RF_80_50, RF_80_51, RF_80_52, RF_80_53, RF_told, RF_draft, true_and, and_true, ne_eq, not_false_eq_true, not_true_eq_false, lCmp_eq0, lCmp_ne0, lCmp_lt0, lCmp_ge0, lCmp_gt0, lCmp_le0, Nat.reduceEqDiff, Nat.reduceLeDiff, Nat.reduceAdd, Nat.reduceLT, Int.reduceAdd, Int.reduceSub, Int.reduceMul, Int.reduceNeg, Int.reduceLT, Int.reduceLE, Int.reduceGT, Int.reduceGE, Int.reduceEq, Int.reduceNe, Int.reduceNatCast, Int.reduceToNat, reduceIte, false_and, and_false, false_implies, forall_const, or_true, true_or, or_false, false_or, Int.add_zero, Int.zero_add, i2B_i2B, mup_ap, b_Lw_law_202]
    refine ⟨rfl, Mo_read_sp t1 n0 hR (fun q => ?_) (fun j' q1 q2 q3 q4 M2 q5 q6 q7 q8 => ?_) (fun j' q1 q2 q3 q4 => ?_)⟩
    · rw [v1] at q; exact absurd rfl q
    · have e : j = j' := nki_1 (by rw [v3]; exact v2.2.2.2) v4 q2 q3
      subst e
      rw [hf, v8] at q8 ⊢
      apply B_Lw_law_206
      simp only [mwp, mst, mii, mll, mli, mi1, ml1, mr1, mir, mlr, mrr, miir, mlir, mget, mgi, mgl, mgr, mset, mset2, mkill, mput_t, mputr_t, mpop, mpsh, mrcv, mcnd, mtsw, mlsw, List.set_cons_zero, SH_16, SH_17, SH_18, SH_19, SH_20, SH_21, SH_22, SH_23, SH_24, SH_25, SH_26, SH_27, SH_28, SH_29, SH_30, SH_31, SH_32, SH_33, SH_34, SH_35, SH_36, SH_37, SH_38, SH_39, SH_40, SH_41, SH_42, SH_43, SH_44, SH_45, SH_46, SH_47, SH_48, SH_49, SH_50, SH_51, SH_52, SH_53, SH_54, SH_55, SH_56, SH_57, SH_58, SH_59, SH_60, SH_61, SH_62, SH_63, SH_64, SH_65, SH_66, SH_67, SH_68, SH_69, SH_70, SH_71, SH_72, SH_73, SH_74, SH_75, SH_76, SH_77, SH_78, SH_79, SH_80, SH_81, SH_82, SH_83, SH_84, SH_85, SH_86, SH_87, SH_88, SH_89, SH_90, SH_91, SH_92, SH_93, SH_94, SH_95, SH_96, SH_97, SH_98, SH_99, SH_100, SH_101, SH_102, SH_103, SH_104, SH_105, SH_106, SH_107, SH_108, SH_109, SH_110, SH_111, SH_112, SH_113, SH_114, SH_115, SH_116, SH_117, SH_118, SH_119, RF_16_0, RF_16_1, RF_16_2, RF_16_5, RF_16_6, RF_16_7, RF_16_8, RF_16_9, RF_17_0, RF_19_0, RF_19_1, RF_19_2, RF_19_3, RF_24_0, RF_25_1, RF_25_2, RF_25_4, RF_25_5, RF_25_6, RF_25_7, RF_25_8, RF_25_10, RF_25_11, RF_25_12, RF_25_13, RF_25_14, RF_25_16, RF_25_17, RF_40_1, RF_40_2, RF_40_4, RF_40_5, RF_40_6, RF_40_7, RF_40_8, RF_40_10, RF_40_11, RF_40_12, RF_40_13, RF_40_14, RF_40_16, RF_40_17, RF_55_0, RF_57_2, RF_57_3, RF_57_4, RF_57_5, RF_57_6, RF_57_7, RF_57_8, RF_57_9, RF_57_10, RF_57_11, RF_67_0, RF_67_1, RF_70_4, RF_70_5, RF_70_6, RF_70_7, RF_70_9, RF_70_10, RF_77_3, RF_80_0, RF_80_4, RF_80_5, RF_80_6, RF_80_7, RF_80_8, RF_80_9, RF_80_10, RF_80_11, RF_80_12, RF_80_13, RF_80_14, RF_80_15, RF_80_16, RF_80_17, RF_80_18, RF_80_19, RF_80_20, RF_80_23, RF_80_24, RF_80_25, RF_80_26, RF_80_27, RF_80_28, RF_80_29, RF_80_30, RF_80_31, RF_80_34, RF_80_43, RF_80_44, RF_80_45, RF_80_46, RF_80_47, RF_80_48, RF_80_49, RF_80_50, RF_80_51, RF_80_52, RF_80_53, RF_told, RF_draft, true_and, and_true, ne_eq, not_false_eq_true, not_true_eq_false, lCmp_eq0, lCmp_ne0, lCmp_lt0, lCmp_ge0, lCmp_gt0, lCmp_le0, Nat.reduceEqDiff, Nat.reduceLeDiff, Nat.reduceAdd, Nat.reduceLT, Int.reduceAdd, Int.reduceSub, Int.reduceMul, Int.reduceNeg, Int.reduceLT, Int.reduceLE, Int.reduceGT, Int.reduceGE, Int.reduceEq, Int.reduceNe, Int.reduceNatCast, Int.reduceToNat, reduceIte, false_and, and_false, false_implies, forall_const, or_true, true_or, or_false, false_or, Int.add_zero, Int.zero_add, i2B_i2B, mup_ap, b_Lw_law_206]
      exact nx b M2 (Inv_bad hI v6 q5 v7 q6 q8)
    · have e : j = j' := nki_1 (by rw [v3]; exact v2.2.2.2) v4 q2 q3
      subst e
      rw [hf, v8] at q4
      exact absurd q4 v5
  · obtain ⟨t1, t2⟩ := htp _ M1 v5
    have hf : ∀ j, fkp (mIt B n j (mD0 M1) 0) = fkp (mIt B n j (mD0 M) 0) := fun j => ag_fkp (ag_it j _ _ _ (ag_mD t2))
    apply B_Lw_law_202
    simp only [mwp, mst, mii, mll, mli, mi1, ml1, mr1, mir, mlr, mrr, miir, mlir, mget, mgi, mgl, mgr, mset, mset2, mkill, mput_t, mputr_t, mpop, mpsh, mrcv, mcnd, mtsw, mlsw, List.set_cons_zero, SH_16, SH_17, SH_18, SH_19, SH_20, SH_21, SH_22, SH_23, SH_24, SH_25, SH_26, SH_27, SH_28, SH_29, SH_30, SH_31, SH_32, SH_33, SH_34, SH_35, SH_36, SH_37, SH_38, SH_39, SH_40, SH_41, SH_42, SH_43, SH_44, SH_45, SH_46, SH_47, SH_48, SH_49, SH_50, SH_51, SH_52, SH_53, SH_54, SH_55, SH_56, SH_57, SH_58, SH_59, SH_60, SH_61, SH_62, SH_63, SH_64, SH_65, SH_66, SH_67, SH_68, SH_69, SH_70, SH_71, SH_72, SH_73, SH_74, SH_75, SH_76, SH_77, SH_78, SH_79, SH_80, SH_81, SH_82, SH_83, SH_84, SH_85, SH_86, SH_87, SH_88, SH_89, SH_90, SH_91, SH_92, SH_93, SH_94, SH_95, SH_96, SH_97, SH_98, SH_99, SH_100, SH_101, SH_102, SH_103, SH_104, SH_105, SH_106, SH_107, SH_108, SH_109, SH_110, SH_111, SH_112, SH_113, SH_114, SH_115, SH_116, SH_117, SH_118, SH_119, RF_16_0, RF_16_1, RF_16_2, RF_16_5, RF_16_6, RF_16_7, RF_16_8, RF_16_9, RF_17_0, RF_19_0, RF_19_1, RF_19_2, RF_19_3, RF_24_0, RF_25_1, RF_25_2, RF_25_4, RF_25_5, RF_25_6, RF_25_7, RF_25_8, RF_25_10, RF_25_11, RF_25_12, RF_25_13, RF_25_14, RF_25_16, RF_25_17, RF_40_1, RF_40_2, RF_40_4, RF_40_5, RF_40_6, RF_40_7, RF_40_8, RF_40_10, RF_40_11, RF_40_12, RF_40_13, RF_40_14, RF_40_16, RF_40_17, RF_55_0, RF_57_2, RF_57_3, RF_57_4, RF_57_5, RF_57_6, RF_57_7, RF_57_8, RF_57_9, RF_57_10, RF_57_11, RF_67_0, RF_67_1, RF_70_4, RF_70_5, RF_70_6, RF_70_7, RF_70_9, RF_70_10, RF_77_3, RF_80_0, RF_80_4, RF_80_5, RF_80_6, RF_80_7, RF_80_8, RF_80_9, RF_80_10, RF_80_11, RF_80_12, RF_80_13, RF_80_14, RF_80_15, RF_80_16, RF_80_17, RF_80_18, RF_80_19, RF_80_20, RF_80_23, RF_80_24, RF_80_25, RF_80_26, RF_80_27, RF_80_28, RF_80_29, RF_80_30, RF_80_31, RF_80_34, RF_80_43, RF_80_44, RF_80_45, RF_80_46, RF_80_47, RF_80_48, RF_80_49, RF_80_50, RF_80_51, RF_80_52, RF_80_53, RF_told, RF_draft, true_and, and_true, ne_eq, not_false_eq_true, not_true_eq_false, lCmp_eq0, lCmp_ne0, lCmp_lt0, lCmp_ge0, lCmp_gt0, lCmp_le0, Nat.reduceEqDiff, Nat.reduceLeDiff, Nat.reduceAdd, Nat.reduceLT, Int.reduceAdd, Int.reduceSub, Int.reduceMul, Int.reduceNeg, Int.reduceLT, Int.reduceLE, Int.reduceGT, Int.reduceGE, Int.reduceEq, Int.reduceNe, Int.reduceNatCast, Int.reduceToNat, reduceIte, false_and, and_false, false_implies, forall_const, or_true, true_or, or_false, false_or, Int.add_zero, Int.zero_add, i2B_i2B, mup_ap, b_Lw_law_202]
    refine ⟨rfl, Mo_read_sp t1 n0 hR (fun q => ?_) (fun j' q1 q2 q3 q4 => ?_) (fun j' q1 q2 q3 q4 M2 q5 q6 q7 q8 q9 q10 q11 => ?_)⟩
    · rw [v1] at q; exact absurd rfl q
    · have e : j = j' := nki_1 (by rw [v3]; exact v2.2.2.2) v4 q2 q3
      subst e
      rw [hf, v7] at q4
      exact absurd rfl q4
    · have e : j = j' := nki_1 (by rw [v3]; exact v2.2.2.2) v4 q2 q3
      subst e
      apply B_Lw_law_206
      simp only [mwp, mst, mii, mll, mli, mi1, ml1, mr1, mir, mlr, mrr, miir, mlir, mget, mgi, mgl, mgr, mset, mset2, mkill, mput_t, mputr_t, mpop, mpsh, mrcv, mcnd, mtsw, mlsw, List.set_cons_zero, SH_16, SH_17, SH_18, SH_19, SH_20, SH_21, SH_22, SH_23, SH_24, SH_25, SH_26, SH_27, SH_28, SH_29, SH_30, SH_31, SH_32, SH_33, SH_34, SH_35, SH_36, SH_37, SH_38, SH_39, SH_40, SH_41, SH_42, SH_43, SH_44, SH_45, SH_46, SH_47, SH_48, SH_49, SH_50, SH_51, SH_52, SH_53, SH_54, SH_55, SH_56, SH_57, SH_58, SH_59, SH_60, SH_61, SH_62, SH_63, SH_64, SH_65, SH_66, SH_67, SH_68, SH_69, SH_70, SH_71, SH_72, SH_73, SH_74, SH_75, SH_76, SH_77, SH_78, SH_79, SH_80, SH_81, SH_82, SH_83, SH_84, SH_85, SH_86, SH_87, SH_88, SH_89, SH_90, SH_91, SH_92, SH_93, SH_94, SH_95, SH_96, SH_97, SH_98, SH_99, SH_100, SH_101, SH_102, SH_103, SH_104, SH_105, SH_106, SH_107, SH_108, SH_109, SH_110, SH_111, SH_112, SH_113, SH_114, SH_115, SH_116, SH_117, SH_118, SH_119, RF_16_0, RF_16_1, RF_16_2, RF_16_5, RF_16_6, RF_16_7, RF_16_8, RF_16_9, RF_17_0, RF_19_0, RF_19_1, RF_19_2, RF_19_3, RF_24_0, RF_25_1, RF_25_2, RF_25_4, RF_25_5, RF_25_6, RF_25_7, RF_25_8, RF_25_10, RF_25_11, RF_25_12, RF_25_13, RF_25_14, RF_25_16, RF_25_17, RF_40_1, RF_40_2, RF_40_4, RF_40_5, RF_40_6, RF_40_7, RF_40_8, RF_40_10, RF_40_11, RF_40_12, RF_40_13, RF_40_14, RF_40_16, RF_40_17, RF_55_0, RF_57_2, RF_57_3, RF_57_4, RF_57_5, RF_57_6, RF_57_7, RF_57_8, RF_57_9, RF_57_10, RF_57_11, RF_67_0, RF_67_1, RF_70_4, RF_70_5, RF_70_6, RF_70_7, RF_70_9, RF_70_10, RF_77_3, RF_80_0, RF_80_4, RF_80_5, RF_80_6, RF_80_7, RF_80_8, RF_80_9, RF_80_10, RF_80_11, RF_80_12, RF_80_13, RF_80_14, RF_80_15, RF_80_16, RF_80_17, RF_80_18, RF_80_19, RF_80_20, RF_80_23, RF_80_24, RF_80_25, RF_80_26, RF_80_27, RF_80_28, RF_80_29, RF_80_30, RF_80_31, RF_80_34, RF_80_43, RF_80_44, RF_80_45, RF_80_46, RF_80_47, RF_80_48, RF_80_49, RF_80_50, RF_80_51, RF_80_52, RF_80_53, RF_told, RF_draft, true_and, and_true, ne_eq, not_false_eq_true, not_true_eq_false, lCmp_eq0, lCmp_ne0, lCmp_lt0, lCmp_ge0, lCmp_gt0, lCmp_le0, Nat.reduceEqDiff, Nat.reduceLeDiff, Nat.reduceAdd, Nat.reduceLT, Int.reduceAdd, Int.reduceSub, Int.reduceMul, Int.reduceNeg, Int.reduceLT, Int.reduceLE, Int.reduceGT, Int.reduceGE, Int.reduceEq, Int.reduceNe, Int.reduceNatCast, Int.reduceToNat, reduceIte, false_and, and_false, false_implies, forall_const, or_true, true_or, or_false, false_or, Int.add_zero, Int.zero_add, i2B_i2B, mup_ap, b_Lw_law_206]
      have r2 : ∀ r, r < 80 ∨ r = 81 ∨ 98 < r → M2 r = M1 r := by
        intro r q
        funext j
        exact q5 r j (by omega) (by omega)
      have r1 : ∀ r, ¬ paC r → r ≠ 24 → ¬ (tD b ≤ r ∧ r ≤ tD b + 14) → r ≠ 17 → r ≠ 16 → r ≠ 57 → r ≠ 77 → M1 r = M r := by
        intro r x1 x2 x3 x4 x5 x6 x7
        funext j
        exact v5 r j x1 x2 x3 (fun q => x4 q.1) (fun q => x5 q.1) (fun q => by omega)
      refine nx (!b) M2 ⟨?_, ?_, ?_, ?_, ?_, ?_, ?_, ?_, ?_, ?_, ?_, ?_, ?_⟩
      · rw [r2 _ (by decide), r1 _ (by unfold paC; omega) (by decide) (by omega) (by decide) (by decide) (by decide) (by decide)]; exact a1
      · rw [r2 _ (by decide), r1 _ (by unfold paC; omega) (by decide) (by omega) (by decide) (by decide) (by decide) (by decide)]; exact a2
      · unfold okT
        rw [r2 _ (by decide), v6]
        exact ⟨by decide, by decide, fun j j0 j1 => by omega⟩
      · rw [r2 81 (by decide), r2 18 (by decide), r1 81 (by unfold paC; omega) (by decide) (by omega) (by decide) (by decide) (by decide) (by decide), r1 18 (by unfold paC; omega) (by decide) (by omega) (by decide) (by decide) (by decide) (by decide)]; exact a4
      · rw [q7, r2 _ (by decide), v6]
      · rw [← tO_n]
        refine TR_congr (TR_tko v11) (fun r x1 x2 => r2 r (by omega)) (fun r x1 x2 => ?_)
        rw [q6 r x1 x2]
        exact ag_tko (ag_it j _ _ _ (ag_mD t2)) r (by omega)
      · rw [q9, r2 _ (by decide), v8]
      · unfold gvI
        rw [r2 _ (by decide), r2 _ (by decide), r1 _ (by unfold paC; omega) (by decide) (by omega) (by decide) (by decide) (by decide) (by decide), r1 _ (by unfold paC; omega) (by decide) (by omega) (by decide) (by decide) (by decide) (by decide)]
        exact a8
      · rw [r2 _ (by decide), r1 _ (by unfold paC; omega) (by decide) (by omega) (by decide) (by decide) (by decide) (by decide)]; exact a9
      · rw [r2 _ (by decide), r1 _ (by unfold paC; omega) (by decide) (by omega) (by decide) (by decide) (by decide) (by decide)]; exact a10
      · rw [r2 _ (by decide), v9, q10]
      · exact Or.inl (by rw [r2 _ (by decide), v9])
      · exact ⟨by rw [q11, r2 _ (by decide), v10], Or.inl (by rw [r2 _ (by decide), v10])⟩
end
