/-! adding in the law -/
theorem pRm_q {t : Nat} {M1 M2 : Nat → Int → Int} {bs : Int} {nr : Nat} (h : ∀ r : Int, 0 ≤ r → r < nr → M1 65 r = M2 106 r ∧ M1 (t + 13) r = M2 97 r ∧ M1 (t + 14) r = M2 98 r) : fnd (pRq M2 bs) nr 0 = fnd (pRm t M1 bs) nr 0 := by
  apply fnd_congr
  intro j j0 j1
  obtain ⟨e1, e2, e3⟩ := h j j0 (by omega)
  unfold pRq pRm
  rw [e1, e2, e3]
theorem sN1_g {t : Nat} {M : Nat → Int → Int} {S : Int → Nat} {k : Nat} {f : Int} (hb : bol (oW t M k) (List.range (oN t M k)) ≤ 24) (hn : oN t M k ≤ 6) (hw : ∀ i : Nat, i < oN t M k → 1 ≤ oW t M k i ∧ oW t M k i ≤ 16) (hS : S f < 2 ^ 24) : sN1 t M S k f < 2 ^ 24 := by
  unfold sN1
  split
  · rename_i i hi
    have hi' : i < oN t M k := List.mem_range.mp (List.mem_of_find?_eq_some hi)
    have := oP_b (S := S) hb hn hw hi'
    have hw' := hw i hi'
    have hp : (2 : Nat) ^ oP t M S k i ≤ 2 ^ 23 := Nat.pow_le_pow_right (by decide) (by omega)
    exact Nat.or_lt_two_pow hS (by omega)
  · exact hS
theorem ag_aD {D D' : Nat → Int → Int} (h : ag D D') : ag (aD0 D) (aD0 D') := by
  unfold aD0
  exact ag_m (ag_s h)
section
variable {L : Nat} {X : Int → Int} {b : Bool} {Q : Option mV → mM → Prop} {bd : Nat × Nat} {M : Nat → Int → Int} {i : Int}
set_option maxHeartbeats 4000000 in
theorem op_add (hL : L ≤ 3072) (hX : ∀ j, inI (X j)) (hI : Inv X b M) (i0 : 0 ≤ i) (i6 : i ≤ (L : Int) - 6) (nx : Nx L X Q bd i) : Jd i_Lw_law Q bd 247 (lwL i) [] (mS L b M) := by
  have ht : isT 25 := Or.inl rfl
  have htr := tO_rng b
  obtain ⟨a1, a2, a3, a4, a5, a6, a7, a8, a9, a10, a11, a12, a13⟩ := id hI
  obtain ⟨t, htd⟩ : ∃ t, tO b = t := ⟨_, rfl⟩
  have hT := tO_T b
  rw [htd] at a6 a12 a13 hT htr
  obtain ⟨f1, f2, f3, f4⟩ := TR_fi a6
  obtain ⟨o1, o2, o3, o4⟩ := TR_or a6
  obtain ⟨l1, l2, l3, l4⟩ := TR_ax a6
  obtain ⟨p1, p2, p3, p4⟩ := TR_ro a6
  obtain ⟨K, hK⟩ : ∃ K : Nat, M t 3 = K := ⟨(M t 3).toNat, by omega⟩
  obtain ⟨nr, hnr⟩ : ∃ nr : Nat, M t 15 = nr := ⟨(M t 15).toNat, by omega⟩
  obtain ⟨B, hB⟩ : ∃ B, M 18 = B := ⟨_, rfl⟩
  obtain ⟨n, hn⟩ : ∃ n, M 17 1 = n := ⟨_, rfl⟩
  obtain ⟨R, hR⟩ : ∃ R, R = aut B n true 601 0 0 0 (K : Int) 0 0 0 := ⟨_, rfl⟩
  have n0 : 0 ≤ n := by rw [← hn]; exact a3.1
  have prem : ∀ M1 : Nat → Int → Int, (∀ r, 80 ≤ r → M1 r = M r) → tpe B n M1 ∧ M1 85 0 = (K : Nat) ∧ (0 ≤ M1 82 0 ∧ M1 82 0 ≤ 12) ∧ (0 ≤ M1 90 0 ∧ M1 90 0 ≤ 16) ∧ (∀ j, 0 ≤ j → j < M1 82 0 → 0 ≤ M1 84 j ∧ M1 84 j ≤ 99999) ∧ M1 96 0 = (nr : Nat) ∧ ag (mOrd B n 0 (aD0 M1) 0) (mOrd B n 0 (aD0 M) 0) := by
    intro M1 h1
    refine ⟨⟨?_, ?_, ?_, ?_⟩, ?_, ?_, ?_, fun j j0 j1 => ?_, ?_, ag_ord (ag_aD h1)⟩
    · rw [h1 _ (by decide), a4]; exact hB
    · rw [h1 _ (by decide), a5]; exact hn
    · rw [← hn]; exact a3.2.1
    · rw [← hn, ← hB]; exact a3.2.2
    · rw [h1 _ (by decide), o1]; exact hK
    · rw [h1 _ (by decide), f1]; exact ⟨f2, f3⟩
    · rw [h1 _ (by decide), l1]; exact ⟨l2, l3⟩
    · rw [h1 _ (by decide)] at j1 ⊢
      have := f4 j j0 (by omega)
      omega
    · rw [h1 _ (by decide), p1]; exact hnr
  have hK40 : K ≤ 40 := by omega
  have hnr4 : nr ≤ 4 := by omega
  have acr : ∀ M1, acf t K M M1 → ∀ r, 55 ≤ r → M1 r = M r := by
    intro M1 h1 r q
    funext j
    exact h1 r j (by unfold paC; omega) (by omega) (by omega) (by omega) (by omega) (by omega)
  apply B_Lw_law_247
  simp only [mwp, mst, mii, mll, mli, mi1, ml1, mr1, mir, mlr, mrr, miir, mlir, mget, mgi, mgl, mgr, mset, mset2, mkill, mput_t, mputr_t, mpop, mpsh, mrcv, mcnd, mtsw, mlsw, List.set_cons_zero, SH_16, SH_17, SH_18, SH_19, SH_20, SH_21, SH_22, SH_23, SH_24, SH_25, SH_26, SH_27, SH_28, SH_29, SH_30, SH_31, SH_32, SH_33, SH_34, SH_35, SH_36, SH_37, SH_38, SH_39, SH_40, SH_41, SH_42, SH_43, SH_44, SH_45, SH_46, SH_47, SH_48, SH_49, SH_50, SH_51, SH_52, SH_53, SH_54, SH_55, SH_56, SH_57, SH_58, SH_59, SH_60, SH_61, SH_62, SH_63, SH_64, SH_65, SH_66, SH_67, SH_68, SH_69, SH_70, SH_71, SH_72, SH_73, SH_74, SH_75, SH_76, SH_77, SH_78, SH_79, SH_80, SH_81, SH_82, SH_83, SH_84, SH_85, SH_86, SH_87, SH_88, SH_89, SH_90, SH_91, SH_92, SH_93, SH_94, SH_95, SH_96, SH_97, SH_98, SH_99, SH_100, SH_101, SH_102, SH_103, SH_104, SH_105, SH_106, SH_107, SH_108, SH_109, SH_110, SH_111, SH_112, SH_113, SH_114, SH_115, SH_116, SH_117, SH_118, SH_119, RF_16_0, RF_16_1, RF_16_2, RF_16_5, RF_16_6, RF_16_7, RF_16_8, RF_16_9, RF_17_0, RF_19_0, RF_19_1, RF_19_2, RF_19_3, RF_24_0, RF_25_1, RF_25_2, RF_25_4, RF_25_5, RF_25_6, RF_25_7, RF_25_8, RF_25_10, RF_25_11, RF_25_12, RF_25_13, RF_25_14, RF_25_16, RF_25_17, RF_40_1, RF_40_2, RF_40_4, RF_40_5, RF_40_6, RF_40_7, RF_40_8, RF_40_10, RF_40_11, RF_40_12, RF_40_13, RF_40_14, RF_40_16, RF_40_17, RF_55_0, RF_57_2, RF_57_3, RF_57_4, RF_57_5, RF_57_6, RF_57_7, RF_57_8, RF_57_9, RF_57_10, RF_57_11, RF_67_0, RF_67_1, RF_70_4, RF_70_5, RF_70_6, RF_70_7, RF_70_9, RF_70_10, RF_77_3, RF_80_0, RF_80_4, RF_80_5, RF_80_6, RF_80_7, RF_80_8, RF_80_9, RF_80_10, RF_80_11, RF_80_12, RF_80_13, RF_80_14, RF_80_15, RF_80_16, RF_80_17, RF_80_18, RF_80_19, RF_80_20, RF_80_23, RF_80_24, RF_80_25, RF_80_26, RF_80_27, RF_80_28, RF_80_29, RF_80_30, RF_80_31, RF_80_34, RF_80_43, RF_80_44, RF_80_45, RF_80_46, RF_80_47, RF_80_48, RF_80_49, RF_80_50, RF_80_51, RF_80_52, RF_80_53, RF_told, RF_draft, true_and, and_true, ne_eq, not_false_eq_true, not_true_eq_false, lCmp_eq0, lCmp_ne0, lCmp_lt0, lCmp_ge0, lCmp_gt0, lCmp_le0, Nat.reduceEqDiff, Nat.reduceLeDiff, Nat.reduceAdd, Nat.reduceLT, Int.reduceAdd, Int.reduceSub, Int.reduceMul, Int.reduceNeg, Int.reduceLT, Int.reduceLE, Int.reduceGT, Int.reduceGE, Int.reduceEq, Int.reduceNe, Int.reduceNatCast, Int.reduceToNat, reduceIte, false_and, and_false, false_implies, forall_const, or_true, true_or, or_false, false_or, Int.add_zero, Int.zero_add, i2B_i2B, mup_ap, b_Lw_law_247]
  refine ⟨rfl, Wm_add_sp (R := R) htd hT a3 hB hn a2 a6 hK hR a12 a9 a10 (fun v => ?_) (fun v1 v2 M1 v3 v4 v5 => ?_) (fun v1 v2 ft M1 v3 v4 v5 v6 => ?_) (fun v1 v2 v3 v4 M1 v5 v6 v7 v8 v9 => ?_) (fun v1 v2 v3 v4 r0 M1 r00 r01 v5 v6 v7 v8 v9 v10 v11 v12 v13 v14 => ?_)⟩
  · -- nothing is laid
    have h1 : ∀ r, 80 ≤ r → mup M 17 1 0 r = M r := fun r q => mup_n (by omega)
    obtain ⟨x1, x2, x3, x4, x5, x6, x7⟩ := prem _ h1
    have hu : mup M 17 1 0 80 21 = 0 := by rw [h1 _ (by decide), ← a11]; exact v
    apply B_Lw_law_251
    simp only [mwp, mst, mii, mll, mli, mi1, ml1, mr1, mir, mlr, mrr, miir, mlir, mget, mgi, mgl, mgr, mset, mset2, mkill, mput_t, mputr_t, mpop, mpsh, mrcv, mcnd, mtsw, mlsw, List.set_cons_zero, SH_16, SH_17, SH_18, SH_19, SH_20, SH_21, SH_22, SH_23, SH_24, SH_25, SH_26, SH_27, SH_28, SH_29, SH_30, SH_31, SH_32, SH_33, SH_34, SH_35, SH_36, SH_37, SH_38, SH_39, SH_40, SH_41, SH_42, SH_43, SH_44, SH_45, SH_46, SH_47, SH_48, SH_49, SH_50, SH_51, SH_52, SH_53, SH_54, SH_55, SH_56, SH_57, SH_58, SH_59, SH_60, SH_61, SH_62, SH_63, SH_64, SH_65, SH_66, SH_67, SH_68, SH_69, SH_70, SH_71, SH_72, SH_73, SH_74, SH_75, SH_76, SH_77, SH_78, SH_79, SH_80, SH_81, SH_82, SH_83, SH_84, SH_85, SH_86, SH_87, SH_88, SH_89, SH_90, SH_91, SH_92, SH_93, SH_94, SH_95, SH_96, SH_97, SH_98, SH_99, SH_100, SH_101, SH_102, SH_103, SH_104, SH_105, SH_106, SH_107, SH_108, SH_109, SH_110, SH_111, SH_112, SH_113, SH_114, SH_115, SH_116, SH_117, SH_118, SH_119, RF_16_0, RF_16_1, RF_16_2, RF_16_5, RF_16_6, RF_16_7, RF_16_8, RF_16_9, RF_17_0, RF_19_0, RF_19_1, RF_19_2, RF_19_3, RF_24_0, RF_25_1, RF_25_2, RF_25_4, RF_25_5, RF_25_6, RF_25_7, RF_25_8, RF_25_10, RF_25_11, RF_25_12, RF_25_13, RF_25_14, RF_25_16, RF_25_17, RF_40_1, RF_40_2, RF_40_4, RF_40_5, RF_40_6, RF_40_7, RF_40_8, RF_40_10, RF_40_11, RF_40_12, RF_40_13, RF_40_14, RF_40_16, RF_40_17, RF_55_0, RF_57_2, RF_57_3, RF_57_4, RF_57_5, RF_57_6, RF_57_7, RF_57_8, RF_57_9, RF_57_10, RF_57_11, RF_67_0, RF_67_1, RF_70_4, RF_70_5, RF_70_6, RF_70_7, RF_70_9, RF_70_10, RF_77_3, RF_80_0, RF_80_4, RF_80_5, RF_80_6, RF_80_7, RF_80_8, RF_80_9, RF_80_10, RF_80_11, RF_80_12, RF_80_13, RF_80_14, RF_80_15, RF_80_16, RF_80_17, RF_80_18, RF_80_19, RF_80_20, RF_80_23, RF_80_24, RF_80_25, RF_80_26, RF_80_27, RF_80_28, RF_80_29, RF_80_30, RF_80_31, RF_80_34, RF_80_43, RF_80_44, RF_80_45, RF_80_46, RF_80_47, RF_80_48, RF_80_49, RF_80_50, RF_80_51, RF_80_52, RF_80_53, RF_told, RF_draft, true_and, and_true, ne_eq, not_false_eq_true, not_true_eq_false, lCmp_eq0, lCmp_ne0, lCmp_lt0, lCmp_ge0, lCmp_gt0, lCmp_le0, Nat.reduceEqDiff, Nat.reduceLeDiff, Nat.reduceAdd, Nat.reduceLT, Int.reduceAdd, Int.reduceSub, Int.reduceMul, Int.reduceNeg, Int.reduceLT, Int.reduceLE, Int.reduceGT, Int.reduceGE, Int.reduceEq, Int.reduceNe, Int.reduceNatCast, Int.reduceToNat, reduceIte, false_and, and_false, false_implies, forall_const, or_true, true_or, or_false, false_or, Int.add_zero, Int.zero_add, i2B_i2B, mup_ap, b_Lw_law_251]
    refine ⟨rfl, Mo_add_sp (t := t) (Mc := M) (u := 0) (mk := fun _ => 0) (mb := fun _ => 0) (rk := fun _ => 0) (rb := fun _ => 0) (tq := fun _ => 0) (rm := fun _ => 0) x1 n0 x2 hK40 x3 x4 x5 hR rfl x6 hnr4 (fun _ => ?_) (fun q => absurd hu q) (fun q => absurd hu q) (fun q => absurd hu q) (fun q => absurd hu q) (fun q => absurd hu q)⟩
    apply B_Lw_law_255
    simp only [mwp, mst, mii, mll, mli, mi1, ml1, mr1, mir, mlr, mrr, miir, mlir, mget, mgi, mgl, mgr, mset, mset2, mkill, mput_t, mputr_t, mpop, mpsh, mrcv, mcnd, mtsw, mlsw, List.set_cons_zero, SH_16, SH_17, SH_18, SH_19, SH_20, SH_21, SH_22, SH_23, SH_24, SH_25, SH_26, SH_27, SH_28, SH_29, SH_30, SH_31, SH_32, SH_33, SH_34, SH_35, SH_36, SH_37, SH_38, SH_39, SH_40, SH_41, SH_42, SH_43, SH_44, SH_45, SH_46, SH_47, SH_48, SH_49, SH_50, SH_51, SH_52, SH_53, SH_54, SH_55, SH_56, SH_57, SH_58, SH_59, SH_60, SH_61, SH_62, SH_63, SH_64, SH_65, SH_66, SH_67, SH_68, SH_69, SH_70, SH_71, SH_72, SH_73, SH_74, SH_75, SH_76, SH_77, SH_78, SH_79, SH_80, SH_81, SH_82, SH_83, SH_84, SH_85, SH_86, SH_87, SH_88, SH_89, SH_90, SH_91, SH_92, SH_93, SH_94, SH_95, SH_96, SH_97, SH_98, SH_99, SH_100, SH_101, SH_102, SH_103, SH_104, SH_105, SH_106, SH_107, SH_108, SH_109, SH_110, SH_111, SH_112, SH_113, SH_114, SH_115, SH_116, SH_117, SH_118, SH_119, RF_16_0, RF_16_1, RF_16_2, RF_16_5, RF_16_6, RF_16_7, RF_16_8, RF_16_9, RF_17_0, RF_19_0, RF_19_1, RF_19_2, RF_19_3, RF_24_0, RF_25_1, RF_25_2, RF_25_4, RF_25_5, RF_25_6, RF_25_7, RF_25_8, RF_25_10, RF_25_11, RF_25_12, RF_25_13, RF_25_14, RF_25_16, RF_25_17, RF_40_1, RF_40_2, RF_40_4, RF_40_5, RF_40_6, RF_40_7, RF_40_8, RF_40_10, RF_40_11, RF_40_12, RF_40_13, RF_40_14, RF_40_16, RF_40_17, RF_55_0, RF_57_2, RF_57_3, RF_57_4, RF_57_5, RF_57_6, RF_57_7, RF_57_8, RF_57_9, RF_57_10, RF_57_11, RF_67_0, RF_67_1, RF_70_4, RF_70_5, RF_70_6, RF_70_7, RF_70_9, RF_70_10, RF_77_3, RF_80_0, RF_80_4, RF_80_5, RF_80_6, RF_80_7, RF_80_8, RF_80_9, RF_80_10, RF_80_11, RF_80_12, RF_80_13, RF_80_14, RF_80_15, RF_80_16, RF_80_17, RF_80_18, RF_80_19, RF_80_20, RF_80_23, RF_80_24, RF_80_25, RF_80_26, RF_80_27, RF_80_28, RF_80_29, RF_80_30, RF_80_31, RF_80_34, RF_80_43, RF_80_44, RF_80_45, RF_80_46, RF_80_47, RF_80_48, RF_80_49, RF_80_50, RF_80_51, RF_80_52, RF_80_53, RF_told, RF_draft, true_and, and_true, ne_eq, not_false_eq_true, not_true_eq_false, lCmp_eq0, lCmp_ne0, lCmp_lt0, lCmp_ge0, lCmp_gt0, lCmp_le0, Nat.reduceEqDiff, Nat.reduceLeDiff, Nat.reduceAdd, Nat.reduceLT, Int.reduceAdd, Int.reduceSub, Int.reduceMul, Int.reduceNeg, Int.reduceLT, Int.reduceLE, Int.reduceGT, Int.reduceGE, Int.reduceEq, Int.reduceNe, Int.reduceNatCast, Int.reduceToNat, reduceIte, false_and, and_false, false_implies, forall_const, or_true, true_or, or_false, false_or, Int.add_zero, Int.zero_add, i2B_i2B, mup_ap, b_Lw_law_255]
    refine nx b _ (Inv_tape hI (fun r j q1 q2 q3 q4 => by rw [mup_ap, if_neg q4, mup_ap, if_neg q3]) ?_ ?_ ?_)
    · unfold okT
      rw [mup_n (by decide), mup_s]
      exact ⟨by decide, by decide, fun j j0 j1 => by omega⟩
    · rw [mup_n (by decide), mup_n (by decide), mup_n (by decide), mup_n (by decide)]; exact a4
    · rw [mup_s, mup_n (by decide), mup_s]
  · -- a fault of the text
    have h1 := acr M1 v3
    obtain ⟨x1, x2, x3, x4, x5, x6, x7⟩ := prem M1 (fun r q => h1 r (by omega))
    have hu : M1 80 21 ≠ 0 := by rw [h1 _ (by decide), ← a11]; exact v1
    apply B_Lw_law_251
    simp only [mwp, mst, mii, mll, mli, mi1, ml1, mr1, mir, mlr, mrr, miir, mlir, mget, mgi, mgl, mgr, mset, mset2, mkill, mput_t, mputr_t, mpop, mpsh, mrcv, mcnd, mtsw, mlsw, List.set_cons_zero, SH_16, SH_17, SH_18, SH_19, SH_20, SH_21, SH_22, SH_23, SH_24, SH_25, SH_26, SH_27, SH_28, SH_29, SH_30, SH_31, SH_32, SH_33, SH_34, SH_35, SH_36, SH_37, SH_38, SH_39, SH_40, SH_41, SH_42, SH_43, SH_44, SH_45, SH_46, SH_47, SH_48, SH_49, SH_50, SH_51, SH_52, SH_53, SH_54, SH_55, SH_56, SH_57, SH_58, SH_59, SH_60, SH_61, SH_62, SH_63, SH_64, SH_65, SH_66, SH_67, SH_68, SH_69, SH_70, SH_71, SH_72, SH_73, SH_74, SH_75, SH_76, SH_77, SH_78, SH_79, SH_80, SH_81, SH_82, SH_83, SH_84, SH_85, SH_86, SH_87, SH_88, SH_89, SH_90, SH_91, SH_92, SH_93, SH_94, SH_95, SH_96, SH_97, SH_98, SH_99, SH_100, SH_101, SH_102, SH_103, SH_104, SH_105, SH_106, SH_107, SH_108, SH_109, SH_110, SH_111, SH_112, SH_113, SH_114, SH_115, SH_116, SH_117, SH_118, SH_119, RF_16_0, RF_16_1, RF_16_2, RF_16_5, RF_16_6, RF_16_7, RF_16_8, RF_16_9, RF_17_0, RF_19_0, RF_19_1, RF_19_2, RF_19_3, RF_24_0, RF_25_1, RF_25_2, RF_25_4, RF_25_5, RF_25_6, RF_25_7, RF_25_8, RF_25_10, RF_25_11, RF_25_12, RF_25_13, RF_25_14, RF_25_16, RF_25_17, RF_40_1, RF_40_2, RF_40_4, RF_40_5, RF_40_6, RF_40_7, RF_40_8, RF_40_10, RF_40_11, RF_40_12, RF_40_13, RF_40_14, RF_40_16, RF_40_17, RF_55_0, RF_57_2, RF_57_3, RF_57_4, RF_57_5, RF_57_6, RF_57_7, RF_57_8, RF_57_9, RF_57_10, RF_57_11, RF_67_0, RF_67_1, RF_70_4, RF_70_5, RF_70_6, RF_70_7, RF_70_9, RF_70_10, RF_77_3, RF_80_0, RF_80_4, RF_80_5, RF_80_6, RF_80_7, RF_80_8, RF_80_9, RF_80_10, RF_80_11, RF_80_12, RF_80_13, RF_80_14, RF_80_15, RF_80_16, RF_80_17, RF_80_18, RF_80_19, RF_80_20, RF_80_23, RF_80_24, RF_80_25, RF_80_26, RF_80_27, RF_80_28, RF_80_29, RF_80_30, RF_80_31, RF_80_34, RF_80_43, RF_80_44, RF_80_45, RF_80_46, RF_80_47, RF_80_48, RF_80_49, RF_80_50, RF_80_51, RF_80_52, RF_80_53, RF_told, RF_draft, true_and, and_true, ne_eq, not_false_eq_true, not_true_eq_false, lCmp_eq0, lCmp_ne0, lCmp_lt0, lCmp_ge0, lCmp_gt0, lCmp_le0, Nat.reduceEqDiff, Nat.reduceLeDiff, Nat.reduceAdd, Nat.reduceLT, Int.reduceAdd, Int.reduceSub, Int.reduceMul, Int.reduceNeg, Int.reduceLT, Int.reduceLE, Int.reduceGT, Int.reduceGE, Int.reduceEq, Int.reduceNe, Int.reduceNatCast, Int.reduceToNat, reduceIte, false_and, and_false, false_implies, forall_const, or_true, true_or, or_false, false_or, Int.add_zero, Int.zero_add, i2B_i2B, mup_ap, b_Lw_law_251]
    refine ⟨rfl, Mo_add_sp (t := t) (Mc := M) (u := 0) (mk := fun _ => 0) (mb := fun _ => 0) (rk := fun _ => 0) (rb := fun _ => 0) (tq := fun _ => 0) (rm := fun _ => 0) x1 n0 x2 hK40 x3 x4 x5 hR rfl x6 hnr4 (fun q => absurd q hu) (fun _ _ M2 q1 q2 q3 => ?_) (fun _ q => absurd q v2) (fun _ q => absurd q v2) (fun _ q => absurd q v2) (fun _ q => absurd q v2)⟩
    apply B_Lw_law_255
    simp only [mwp, mst, mii, mll, mli, mi1, ml1, mr1, mir, mlr, mrr, miir, mlir, mget, mgi, mgl, mgr, mset, mset2, mkill, mput_t, mputr_t, mpop, mpsh, mrcv, mcnd, mtsw, mlsw, List.set_cons_zero, SH_16, SH_17, SH_18, SH_19, SH_20, SH_21, SH_22, SH_23, SH_24, SH_25, SH_26, SH_27, SH_28, SH_29, SH_30, SH_31, SH_32, SH_33, SH_34, SH_35, SH_36, SH_37, SH_38, SH_39, SH_40, SH_41, SH_42, SH_43, SH_44, SH_45, SH_46, SH_47, SH_48, SH_49, SH_50, SH_51, SH_52, SH_53, SH_54, SH_55, SH_56, SH_57, SH_58, SH_59, SH_60, SH_61, SH_62, SH_63, SH_64, SH_65, SH_66, SH_67, SH_68, SH_69, SH_70, SH_71, SH_72, SH_73, SH_74, SH_75, SH_76, SH_77, SH_78, SH_79, SH_80, SH_81, SH_82, SH_83, SH_84, SH_85, SH_86, SH_87, SH_88, SH_89, SH_90, SH_91, SH_92, SH_93, SH_94, SH_95, SH_96, SH_97, SH_98, SH_99, SH_100, SH_101, SH_102, SH_103, SH_104, SH_105, SH_106, SH_107, SH_108, SH_109, SH_110, SH_111, SH_112, SH_113, SH_114, SH_115, SH_116, SH_117, SH_118, SH_119, RF_16_0, RF_16_1, RF_16_2, RF_16_5, RF_16_6, RF_16_7, RF_16_8, RF_16_9, RF_17_0, RF_19_0, RF_19_1, RF_19_2, RF_19_3, RF_24_0, RF_25_1, RF_25_2, RF_25_4, RF_25_5, RF_25_6, RF_25_7, RF_25_8, RF_25_10, RF_25_11, RF_25_12, RF_25_13, RF_25_14, RF_25_16, RF_25_17, RF_40_1, RF_40_2, RF_40_4, RF_40_5, RF_40_6, RF_40_7, RF_40_8, RF_40_10, RF_40_11, RF_40_12, RF_40_13, RF_40_14, RF_40_16, RF_40_17, RF_55_0, RF_57_2, RF_57_3, RF_57_4, RF_57_5, RF_57_6, RF_57_7, RF_57_8, RF_57_9, RF_57_10, RF_57_11, RF_67_0, RF_67_1, RF_70_4, RF_70_5, RF_70_6, RF_70_7, RF_70_9, RF_70_10, RF_77_3, RF_80_0, RF_80_4, RF_80_5, RF_80_6, RF_80_7, RF_80_8, RF_80_9, RF_80_10, RF_80_11, RF_80_12, RF_80_13, RF_80_14, RF_80_15, RF_80_16, RF_80_17, RF_80_18, RF_80_19, RF_80_20, RF_80_23, RF_80_24, RF_80_25, RF_80_26, RF_80_27, RF_80_28, RF_80_29, RF_80_30, RF_80_31, RF_80_34, RF_80_43, RF_80_44, RF_80_45, RF_80_46, RF_80_47, RF_80_48, RF_80_49, RF_80_50, RF_80_51, RF_80_52, RF_80_53, RF_told, RF_draft, true_and, and_true, ne_eq, not_false_eq_true, not_true_eq_false, lCmp_eq0, lCmp_ne0, lCmp_lt0, lCmp_ge0, lCmp_gt0, lCmp_le0, Nat.reduceEqDiff, Nat.reduceLeDiff, Nat.reduceAdd, Nat.reduceLT, Int.reduceAdd, Int.reduceSub, Int.reduceMul, Int.reduceNeg, Int.reduceLT, Int.reduceLE, Int.reduceGT, Int.reduceGE, Int.reduceEq, Int.reduceNe, Int.reduceNatCast, Int.reduceToNat, reduceIte, false_and, and_false, false_implies, forall_const, or_true, true_or, or_false, false_or, Int.add_zero, Int.zero_add, i2B_i2B, mup_ap, b_Lw_law_255]
    exact nx b M2 (Inv_ab hI (by rw [htd]; exact hK) (by rw [htd]; exact v3) q1 v4 q2 (by rw [q3, v5]))
  · -- a fault of what it tells
    have h1 := acr M1 v4
    obtain ⟨x1, x2, x3, x4, x5, x6, x7⟩ := prem M1 (fun r q => h1 r (by omega))
    have hu : M1 80 21 ≠ 0 := by rw [h1 _ (by decide), ← a11]; exact v1
    have hfk := ag_fkp x7
    rw [v6] at hfk
    have hf1 : (fkp (mOrd B n 0 (aD0 M1) 0)).1 ≠ 0 := by rw [hfk]; exact v3
    apply B_Lw_law_251
    simp only [mwp, mst, mii, mll, mli, mi1, ml1, mr1, mir, mlr, mrr, miir, mlir, mget, mgi, mgl, mgr, mset, mset2, mkill, mput_t, mputr_t, mpop, mpsh, mrcv, mcnd, mtsw, mlsw, List.set_cons_zero, SH_16, SH_17, SH_18, SH_19, SH_20, SH_21, SH_22, SH_23, SH_24, SH_25, SH_26, SH_27, SH_28, SH_29, SH_30, SH_31, SH_32, SH_33, SH_34, SH_35, SH_36, SH_37, SH_38, SH_39, SH_40, SH_41, SH_42, SH_43, SH_44, SH_45, SH_46, SH_47, SH_48, SH_49, SH_50, SH_51, SH_52, SH_53, SH_54, SH_55, SH_56, SH_57, SH_58, SH_59, SH_60, SH_61, SH_62, SH_63, SH_64, SH_65, SH_66, SH_67, SH_68, SH_69, SH_70, SH_71, SH_72, SH_73, SH_74, SH_75, SH_76, SH_77, SH_78, SH_79, SH_80, SH_81, SH_82, SH_83, SH_84, SH_85, SH_86, SH_87, SH_88, SH_89, SH_90, SH_91, SH_92, SH_93, SH_94, SH_95, SH_96, SH_97, SH_98, SH_99, SH_100, SH_101, SH_102, SH_103, SH_104, SH_105, SH_106, SH_107, SH_108, SH_109, SH_110, SH_111, SH_112, SH_113, SH_114, SH_115, SH_116, SH_117, SH_118, SH_119, RF_16_0, RF_16_1, RF_16_2, RF_16_5, RF_16_6, RF_16_7, RF_16_8, RF_16_9, RF_17_0, RF_19_0, RF_19_1, RF_19_2, RF_19_3, RF_24_0, RF_25_1, RF_25_2, RF_25_4, RF_25_5, RF_25_6, RF_25_7, RF_25_8, RF_25_10, RF_25_11, RF_25_12, RF_25_13, RF_25_14, RF_25_16, RF_25_17, RF_40_1, RF_40_2, RF_40_4, RF_40_5, RF_40_6, RF_40_7, RF_40_8, RF_40_10, RF_40_11, RF_40_12, RF_40_13, RF_40_14, RF_40_16, RF_40_17, RF_55_0, RF_57_2, RF_57_3, RF_57_4, RF_57_5, RF_57_6, RF_57_7, RF_57_8, RF_57_9, RF_57_10, RF_57_11, RF_67_0, RF_67_1, RF_70_4, RF_70_5, RF_70_6, RF_70_7, RF_70_9, RF_70_10, RF_77_3, RF_80_0, RF_80_4, RF_80_5, RF_80_6, RF_80_7, RF_80_8, RF_80_9, RF_80_10, RF_80_11, RF_80_12, RF_80_13, RF_80_14, RF_80_15, RF_80_16, RF_80_17, RF_80_18, RF_80_19, RF_80_20, RF_80_23, RF_80_24, RF_80_25, RF_80_26, RF_80_27, RF_80_28, RF_80_29, RF_80_30, RF_80_31, RF_80_34, RF_80_43, RF_80_44, RF_80_45, RF_80_46, RF_80_47, RF_80_48, RF_80_49, RF_80_50, RF_80_51, RF_80_52, RF_80_53, RF_told, RF_draft, true_and, and_true, ne_eq, not_false_eq_true, not_true_eq_false, lCmp_eq0, lCmp_ne0, lCmp_lt0, lCmp_ge0, lCmp_gt0, lCmp_le0, Nat.reduceEqDiff, Nat.reduceLeDiff, Nat.reduceAdd, Nat.reduceLT, Int.reduceAdd, Int.reduceSub, Int.reduceMul, Int.reduceNeg, Int.reduceLT, Int.reduceLE, Int.reduceGT, Int.reduceGE, Int.reduceEq, Int.reduceNe, Int.reduceNatCast, Int.reduceToNat, reduceIte, false_and, and_false, false_implies, forall_const, or_true, true_or, or_false, false_or, Int.add_zero, Int.zero_add, i2B_i2B, mup_ap, b_Lw_law_251]
    refine ⟨rfl, Mo_add_sp (t := t) (Mc := M) (u := 0) (mk := fun _ => 0) (mb := fun _ => 0) (rk := fun _ => 0) (rb := fun _ => 0) (tq := fun _ => 0) (rm := fun _ => 0) x1 n0 x2 hK40 x3 x4 x5 hR rfl x6 hnr4 (fun q => absurd q hu) (fun _ q => absurd v2 q) (fun _ _ _ M2 q1 q2 q3 => ?_) (fun _ _ q => absurd q hf1) (fun _ _ q => absurd q hf1) (fun _ _ q => absurd q hf1)⟩
    apply B_Lw_law_255
    simp only [mwp, mst, mii, mll, mli, mi1, ml1, mr1, mir, mlr, mrr, miir, mlir, mget, mgi, mgl, mgr, mset, mset2, mkill, mput_t, mputr_t, mpop, mpsh, mrcv, mcnd, mtsw, mlsw, List.set_cons_zero, SH_16, SH_17, SH_18, SH_19, SH_20, SH_21, SH_22, SH_23, SH_24, SH_25, SH_26, SH_27, SH_28, SH_29, SH_30, SH_31, SH_32, SH_33, SH_34, SH_35, SH_36, SH_37, SH_38, SH_39, SH_40, SH_41, SH_42, SH_43, SH_44, SH_45, SH_46, SH_47, SH_48, SH_49, SH_50, SH_51, SH_52, SH_53, SH_54, SH_55, SH_56, SH_57, SH_58, SH_59, SH_60, SH_61, SH_62, SH_63, SH_64, SH_65, SH_66, SH_67, SH_68, SH_69, SH_70, SH_71, SH_72, SH_73, SH_74, SH_75, SH_76, SH_77, SH_78, SH_79, SH_80, SH_81, SH_82, SH_83, SH_84, SH_85, SH_86, SH_87, SH_88, SH_89, SH_90, SH_91, SH_92, SH_93, SH_94, SH_95, SH_96, SH_97, SH_98, SH_99, SH_100, SH_101, SH_102, SH_103, SH_104, SH_105, SH_106, SH_107, SH_108, SH_109, SH_110, SH_111, SH_112, SH_113, SH_114, SH_115, SH_116, SH_117, SH_118, SH_119, RF_16_0, RF_16_1, RF_16_2, RF_16_5, RF_16_6, RF_16_7, RF_16_8, RF_16_9, RF_17_0, RF_19_0, RF_19_1, RF_19_2, RF_19_3, RF_24_0, RF_25_1, RF_25_2, RF_25_4, RF_25_5, RF_25_6, RF_25_7, RF_25_8, RF_25_10, RF_25_11, RF_25_12, RF_25_13, RF_25_14, RF_25_16, RF_25_17, RF_40_1, RF_40_2, RF_40_4, RF_40_5, RF_40_6, RF_40_7, RF_40_8, RF_40_10, RF_40_11, RF_40_12, RF_40_13, RF_40_14, RF_40_16, RF_40_17, RF_55_0, RF_57_2, RF_57_3, RF_57_4, RF_57_5, RF_57_6, RF_57_7, RF_57_8, RF_57_9, RF_57_10, RF_57_11, RF_67_0, RF_67_1, RF_70_4, RF_70_5, RF_70_6, RF_70_7, RF_70_9, RF_70_10, RF_77_3, RF_80_0, RF_80_4, RF_80_5, RF_80_6, RF_80_7, RF_80_8, RF_80_9, RF_80_10, RF_80_11, RF_80_12, RF_80_13, RF_80_14, RF_80_15, RF_80_16, RF_80_17, RF_80_18, RF_80_19, RF_80_20, RF_80_23, RF_80_24, RF_80_25, RF_80_26, RF_80_27, RF_80_28, RF_80_29, RF_80_30, RF_80_31, RF_80_34, RF_80_43, RF_80_44, RF_80_45, RF_80_46, RF_80_47, RF_80_48, RF_80_49, RF_80_50, RF_80_51, RF_80_52, RF_80_53, RF_told, RF_draft, true_and, and_true, ne_eq, not_false_eq_true, not_true_eq_false, lCmp_eq0, lCmp_ne0, lCmp_lt0, lCmp_ge0, lCmp_gt0, lCmp_le0, Nat.reduceEqDiff, Nat.reduceLeDiff, Nat.reduceAdd, Nat.reduceLT, Int.reduceAdd, Int.reduceSub, Int.reduceMul, Int.reduceNeg, Int.reduceLT, Int.reduceLE, Int.reduceGT, Int.reduceGE, Int.reduceEq, Int.reduceNe, Int.reduceNatCast, Int.reduceToNat, reduceIte, false_and, and_false, false_implies, forall_const, or_true, true_or, or_false, false_or, Int.add_zero, Int.zero_add, i2B_i2B, mup_ap, b_Lw_law_255]
    exact nx b M2 (Inv_ab hI (by rw [htd]; exact hK) (by rw [htd]; exact v4) q1 v5 q2 (by rw [q3, hfk]))
  · -- no room
    have h1 := acr M1 v5
    obtain ⟨x1, x2, x3, x4, x5, x6, x7⟩ := prem M1 (fun r q => h1 r (by omega))
    have hu : M1 80 21 ≠ 0 := by rw [h1 _ (by decide), ← a11]; exact v1
    have hf0 : (fkp (mOrd B n 0 (aD0 M1) 0)).1 = 0 := by rw [ag_fkp x7]; exact v4
    rcases a12 with w | ⟨u, n', nr', w⟩
    · exact absurd w v1
    have enr : nr' = nr := by have := w.1.2.2.2.2.1; omega
    subst enr
    have hTc : TR t 0 (mup M1 t 3 ((K : Int) + 1)) (mOrd B n 0 (aD0 M1) 0) := TR_congr v8 (fun _ _ _ => rfl) (fun r q1 q2 => x7 r (by omega))
    have hbits : mup M1 t 3 ((K : Int) + 1) (t + 6) K = M1 (t + 6) K := by rw [mup_n (by omega)]
    have hfn : fnd (pRq M1 (mup M1 t 3 ((K : Int) + 1) (t + 6) K)) nr' 0 = -1 := by
      rw [hbits, pRm_q (t := t) (M1 := M1) (M2 := M1)]
      · rw [hnr, show ((nr' : Int)).toNat = nr' by omega] at v9
        exact v9
      · intro r r0 r1
        have hq := (w.2.2.2.1 r.toNat (by omega)).2.2.2.2.2
        rw [show ((r.toNat : Nat) : Int) = r by omega] at hq
        obtain ⟨y1, y2, y3⟩ := p4 r r0 (by omega)
        have e13 : M1 (t + 13) r = M (t + 13) r := v5 _ _ (by unfold paC; omega) (by omega) (by omega) (by omega) (by omega) (by omega)
        have e14 : M1 (t + 14) r = M (t + 14) r := v5 _ _ (by unfold paC; omega) (by omega) (by omega) (by omega) (by omega) (by omega)
        rw [e13, e14, h1 65 (by decide), h1 106 (by decide), h1 97 (by decide), h1 98 (by decide)]
        exact ⟨hq.symm, y1.symm, y2.symm⟩
    apply B_Lw_law_251
    simp only [mwp, mst, mii, mll, mli, mi1, ml1, mr1, mir, mlr, mrr, miir, mlir, mget, mgi, mgl, mgr, mset, mset2, mkill, mput_t, mputr_t, mpop, mpsh, mrcv, mcnd, mtsw, mlsw, List.set_cons_zero, SH_16, SH_17, SH_18, SH_19, SH_20, SH_21, SH_22, SH_23, SH_24, SH_25, SH_26, SH_27, SH_28, SH_29, SH_30, SH_31, SH_32, SH_33, SH_34, SH_35, SH_36, SH_37, SH_38, SH_39, SH_40, SH_41, SH_42, SH_43, SH_44, SH_45, SH_46, SH_47, SH_48, SH_49, SH_50, SH_51, SH_52, SH_53, SH_54, SH_55, SH_56, SH_57, SH_58, SH_59, SH_60, SH_61, SH_62, SH_63, SH_64, SH_65, SH_66, SH_67, SH_68, SH_69, SH_70, SH_71, SH_72, SH_73, SH_74, SH_75, SH_76, SH_77, SH_78, SH_79, SH_80, SH_81, SH_82, SH_83, SH_84, SH_85, SH_86, SH_87, SH_88, SH_89, SH_90, SH_91, SH_92, SH_93, SH_94, SH_95, SH_96, SH_97, SH_98, SH_99, SH_100, SH_101, SH_102, SH_103, SH_104, SH_105, SH_106, SH_107, SH_108, SH_109, SH_110, SH_111, SH_112, SH_113, SH_114, SH_115, SH_116, SH_117, SH_118, SH_119, RF_16_0, RF_16_1, RF_16_2, RF_16_5, RF_16_6, RF_16_7, RF_16_8, RF_16_9, RF_17_0, RF_19_0, RF_19_1, RF_19_2, RF_19_3, RF_24_0, RF_25_1, RF_25_2, RF_25_4, RF_25_5, RF_25_6, RF_25_7, RF_25_8, RF_25_10, RF_25_11, RF_25_12, RF_25_13, RF_25_14, RF_25_16, RF_25_17, RF_40_1, RF_40_2, RF_40_4, RF_40_5, RF_40_6, RF_40_7, RF_40_8, RF_40_10, RF_40_11, RF_40_12, RF_40_13, RF_40_14, RF_40_16, RF_40_17, RF_55_0, RF_57_2, RF_57_3, RF_57_4, RF_57_5, RF_57_6, RF_57_7, RF_57_8, RF_57_9, RF_57_10, RF_57_11, RF_67_0, RF_67_1, RF_70_4, RF_70_5, RF_70_6, RF_70_7, RF_70_9, RF_70_10, RF_77_3, RF_80_0, RF_80_4, RF_80_5, RF_80_6, RF_80_7, RF_80_8, RF_80_9, RF_80_10, RF_80_11, RF_80_12, RF_80_13, RF_80_14, RF_80_15, RF_80_16, RF_80_17, RF_80_18, RF_80_19, RF_80_20, RF_80_23, RF_80_24, RF_80_25, RF_80_26, RF_80_27, RF_80_28, RF_80_29, RF_80_30, RF_80_31, RF_80_34, RF_80_43, RF_80_44, RF_80_45, RF_80_46, RF_80_47, RF_80_48, RF_80_49, RF_80_50, RF_80_51, RF_80_52, RF_80_53, RF_told, RF_draft, true_and, and_true, ne_eq, not_false_eq_true, not_true_eq_false, lCmp_eq0, lCmp_ne0, lCmp_lt0, lCmp_ge0, lCmp_gt0, lCmp_le0, Nat.reduceEqDiff, Nat.reduceLeDiff, Nat.reduceAdd, Nat.reduceLT, Int.reduceAdd, Int.reduceSub, Int.reduceMul, Int.reduceNeg, Int.reduceLT, Int.reduceLE, Int.reduceGT, Int.reduceGE, Int.reduceEq, Int.reduceNe, Int.reduceNatCast, Int.reduceToNat, reduceIte, false_and, and_false, false_implies, forall_const, or_true, true_or, or_false, false_or, Int.add_zero, Int.zero_add, i2B_i2B, mup_ap, b_Lw_law_251]
    refine ⟨rfl, Mo_add_sp (t := t) (Mc := mup M1 t 3 ((K : Int) + 1)) (u := 0) (mk := fun _ => 0) (mb := fun _ => 0) (rk := fun _ => 0) (rb := fun _ => 0) (tq := fun _ => 0) (rm := fun _ => 0) x1 n0 x2 hK40 x3 x4 x5 hR rfl x6 hnr4 (fun q => absurd q hu) (fun _ q => absurd v2 q) (fun _ _ q => absurd hf0 q) (fun _ _ _ => hTc) (fun _ _ _ _ M2 q1 q2 q3 => ?_) (fun _ _ _ r0 q q0 => by omega)⟩
    apply B_Lw_law_255
    simp only [mwp, mst, mii, mll, mli, mi1, ml1, mr1, mir, mlr, mrr, miir, mlir, mget, mgi, mgl, mgr, mset, mset2, mkill, mput_t, mputr_t, mpop, mpsh, mrcv, mcnd, mtsw, mlsw, List.set_cons_zero, SH_16, SH_17, SH_18, SH_19, SH_20, SH_21, SH_22, SH_23, SH_24, SH_25, SH_26, SH_27, SH_28, SH_29, SH_30, SH_31, SH_32, SH_33, SH_34, SH_35, SH_36, SH_37, SH_38, SH_39, SH_40, SH_41, SH_42, SH_43, SH_44, SH_45, SH_46, SH_47, SH_48, SH_49, SH_50, SH_51, SH_52, SH_53, SH_54, SH_55, SH_56, SH_57, SH_58, SH_59, SH_60, SH_61, SH_62, SH_63, SH_64, SH_65, SH_66, SH_67, SH_68, SH_69, SH_70, SH_71, SH_72, SH_73, SH_74, SH_75, SH_76, SH_77, SH_78, SH_79, SH_80, SH_81, SH_82, SH_83, SH_84, SH_85, SH_86, SH_87, SH_88, SH_89, SH_90, SH_91, SH_92, SH_93, SH_94, SH_95, SH_96, SH_97, SH_98, SH_99, SH_100, SH_101, SH_102, SH_103, SH_104, SH_105, SH_106, SH_107, SH_108, SH_109, SH_110, SH_111, SH_112, SH_113, SH_114, SH_115, SH_116, SH_117, SH_118, SH_119, RF_16_0, RF_16_1, RF_16_2, RF_16_5, RF_16_6, RF_16_7, RF_16_8, RF_16_9, RF_17_0, RF_19_0, RF_19_1, RF_19_2, RF_19_3, RF_24_0, RF_25_1, RF_25_2, RF_25_4, RF_25_5, RF_25_6, RF_25_7, RF_25_8, RF_25_10, RF_25_11, RF_25_12, RF_25_13, RF_25_14, RF_25_16, RF_25_17, RF_40_1, RF_40_2, RF_40_4, RF_40_5, RF_40_6, RF_40_7, RF_40_8, RF_40_10, RF_40_11, RF_40_12, RF_40_13, RF_40_14, RF_40_16, RF_40_17, RF_55_0, RF_57_2, RF_57_3, RF_57_4, RF_57_5, RF_57_6, RF_57_7, RF_57_8, RF_57_9, RF_57_10, RF_57_11, RF_67_0, RF_67_1, RF_70_4, RF_70_5, RF_70_6, RF_70_7, RF_70_9, RF_70_10, RF_77_3, RF_80_0, RF_80_4, RF_80_5, RF_80_6, RF_80_7, RF_80_8, RF_80_9, RF_80_10, RF_80_11, RF_80_12, RF_80_13, RF_80_14, RF_80_15, RF_80_16, RF_80_17, RF_80_18, RF_80_19, RF_80_20, RF_80_23, RF_80_24, RF_80_25, RF_80_26, RF_80_27, RF_80_28, RF_80_29, RF_80_30, RF_80_31, RF_80_34, RF_80_43, RF_80_44, RF_80_45, RF_80_46, RF_80_47, RF_80_48, RF_80_49, RF_80_50, RF_80_51, RF_80_52, RF_80_53, RF_told, RF_draft, true_and, and_true, ne_eq, not_false_eq_true, not_true_eq_false, lCmp_eq0, lCmp_ne0, lCmp_lt0, lCmp_ge0, lCmp_gt0, lCmp_le0, Nat.reduceEqDiff, Nat.reduceLeDiff, Nat.reduceAdd, Nat.reduceLT, Int.reduceAdd, Int.reduceSub, Int.reduceMul, Int.reduceNeg, Int.reduceLT, Int.reduceLE, Int.reduceGT, Int.reduceGE, Int.reduceEq, Int.reduceNe, Int.reduceNatCast, Int.reduceToNat, reduceIte, false_and, and_false, false_implies, forall_const, or_true, true_or, or_false, false_or, Int.add_zero, Int.zero_add, i2B_i2B, mup_ap, b_Lw_law_255]
    refine nx b M2 (Inv_ab hI (by rw [htd]; exact hK) (by rw [htd]; exact v5) q1 v6 q2 ?_)
    rw [q3, v7, h1 _ (by decide)]
    exact a7
  · -- an ORDER comes
    rcases a12 with w | ⟨u, n', nr', w⟩
    · exact absurd w v1
    have enr : nr = nr' := by have := w.1.2.2.2.2.1; omega
    subst enr
    have enK : K = n' := by have := w.1.2.2.2.1; omega
    subst enK
    obtain ⟨⟨u1, u2, u3, u4, u5, u6, u7, u8⟩, w2, w3, w4, w5, w6, w7, w8⟩ := id w
    rw [u2] at v14
    have v14' := v14
    obtain ⟨c1, c2, c3, c4, c5, c6, c7, c8⟩ := v14
    obtain ⟨M4, m41, m42, m43, m44⟩ := v13
    have h80 : ∀ r, 80 ≤ r → M1 r = M r := by
      intro r q
      funext j
      exact v5 r j (by unfold paC; omega) (by omega) (by omega) (by omega) (by omega) (by omega) (by omega) (by omega) (by omega) (by omega) (by omega) (by omega) (by omega) (by omega) (by omega)
    obtain ⟨x1, x2, x3, x4, x5, x6, x7⟩ := prem M1 h80
    have hu : M1 80 21 ≠ 0 := by rw [h80 _ (by decide), ← a11]; exact v1
    have hf0 : (fkp (mOrd B n 0 (aD0 M1) 0)).1 = 0 := by rw [ag_fkp x7]; exact v4
    have hTc : TR t 0 M1 (mOrd B n 0 (aD0 M1) 0) := TR_congr v12 (fun _ _ _ => rfl) (fun r q1 q2 => x7 r (by omega))
    have e13 : M1 (t + 13) = M (t + 13) := by
      funext j
      exact v5 _ j (by unfold paC; omega) (by omega) (by omega) (by omega) (by omega) (by omega) (by omega) (by omega) (by omega) (by omega) (by omega) (by omega) (by omega) (by omega) (by omega)
    have e14 : M1 (t + 14) = M (t + 14) := by
      funext j
      exact v5 _ j (by unfold paC; omega) (by omega) (by omega) (by omega) (by omega) (by omega) (by omega) (by omega) (by omega) (by omega) (by omega) (by omega) (by omega) (by omega) (by omega)
    have eRM : M1 64 = M 64 := by
      funext j
      exact v5 _ j (by unfold paC; omega) (by omega) (by omega) (by omega) (by omega) (by omega) (by omega) (by omega) (by omega) (by omega) (by omega) (by omega) (by omega) (by omega) (by omega)
    have eRB : M1 63 = M 63 := by
      funext j
      exact v5 _ j (by unfold paC; omega) (by omega) (by omega) (by omega) (by omega) (by omega) (by omega) (by omega) (by omega) (by omega) (by omega) (by omega) (by omega) (by omega) (by omega)
    have eTk : ∀ j, j ≠ r0 → M1 65 j = M 65 j := fun j q => v5 _ j (by unfold paC; omega) (by omega) (by omega) (by omega) (by omega) (by omega) (by omega) (by omega) (by omega) (by omega) (by omega) (by omega) (by omega) (by omega) (by omega)
    have eT : ∀ j, j ≠ 3 → M1 t j = M t j := fun j q => v5 _ j (by unfold paC; omega) (by omega) (by omega) (by omega) (by omega) (by omega) (by omega) (by omega) (by omega) (by omega) (by omega) (by omega) (by omega) (by omega) (by omega)
    have eK : ∀ (r : Nat) (j : Int), (r = 58 ∨ r = 59 ∨ r = 60 ∨ r = 61 ∨ r = t + 6 ∨ r = t + 5) → j ≠ (K : Int) → M1 r j = M r j := fun r j q1 q2 => v5 r j (by unfold paC; omega) (by omega) (by omega) (by omega) (by omega) (by omega) (by omega) (by omega) (by omega) (by omega) (by omega) (by omega) (by omega) (by omega) (by omega)
    have hO := hTc.2.1.2.2.2 K (by omega) (by rw [← hTc.2.1.1, v8]; omega)
    obtain ⟨⟨d1, d2, d3⟩, d4, d5, d6, d7, d8⟩ := TR_data hTc.1 hO (by omega)
    have hus := hO.2.1
    have hF1 := hTc.1.1
    have hbt : 0 ≤ M1 (t + 6) K ∧ M1 (t + 6) K ≤ 24 := by omega
    obtain ⟨rn, hrn⟩ : ∃ rn : Nat, r0 = rn := ⟨r0.toNat, by omega⟩
    subst hrn
    obtain ⟨y1, y2, y3, y4, y5, y6, y7, y8⟩ := (lyI_rf a6 w).2.2.2 rn (by omega)
    obtain ⟨z1, z2, z3, z4, z5, z6⟩ := p4 rn (by omega) (by omega)
    have hp : M 65 rn < M (t + 13) rn ∧ M1 (t + 6) K ≤ M (t + 14) rn := by
      have := of_decide_eq_true (show decide (M4 65 rn < M4 (t + 13) rn ∧ M4 (t + 6) K ≤ M4 (t + 14) rn) = true from m44)
      rw [m42, m41 _ (by omega), m41 _ (by omega), m41 _ (by omega), e13, e14] at this
      exact this
    have hdr := w6.2.2.1 rn (by omega)
    have hrb0 := (w4 rn (by omega)).1
    have hW : (((2 * u).toNat : Nat) : Int) = 2 * u := by omega
    have emk : M1 60 K = (((rkO M rn + tkO M rn) * 2 ^ ((M (t + 14) rn).toNat - (M1 (t + 6) K).toNat) : Nat) : Int) := by
      rw [c5, e14, y1, y3, show (M (t + 14) rn - M1 (t + 6) K).toNat = (M (t + 14) rn).toNat - (M1 (t + 6) K).toNat by omega]
      push_cast
      rfl
    have erk : rkO M1 = rkO M := by funext r; unfold rkO; rw [eRM]
    have erb : rbO M1 = rbO M := by funext r; unfold rbO; rw [eRB]
    have erm : rmN t M1 = rmN t M := by funext r; unfold rmN; rw [e13]
    have hdj : dsj (2 * u).toNat (K + 1) nr (mkO M1) (mbO M1) (rkO M1) (rbO M1) (tkO M1) (rmN t M1) := by
      rw [erk, erb, erm]
      refine dsj_come (r := rn) (bt0 := (M1 (t + 6) K).toNat) (rbt := (M (t + 14) rn).toNat) w6 (by omega) ?_ ?_ ?_ (fun k hk => ?_) ?_ ?_ (fun q hq hq2 => ?_) ?_
      · omega
      · omega
      · omega
      · unfold mkO mbO
        rw [eK _ _ (by omega) (by omega), eK _ _ (by omega) (by omega)]
        exact ⟨rfl, rfl⟩
      · unfold mkO
        rw [emk]
        rfl
      · unfold mbO
        rw [c3]
        omega
      · unfold tkO
        rw [eTk _ (by omega)]
      · have h1 : tkO M1 rn = (M 65 rn + 1).toNat := by unfold tkO; rw [c6]
        rw [h1, y3]
        omega
    have hok := okP_dsj (by omega) hdj
    have hfn : fnd (pRq M1 (M1 (t + 6) K)) nr 0 = rn := by
      rw [pRm_q (t := t) (M1 := M4) (M2 := M1)]
      · rw [hnr, show ((nr : Int)).toNat = nr by omega, m41 _ (by omega)] at m43
        exact m43
      · intro r r0 r1
        have hq := (w4 r.toNat (by omega)).2.2.2.2.2
        rw [show ((r.toNat : Nat) : Int) = r by omega] at hq
        obtain ⟨y1, y2, y3⟩ := p4 r r0 (by omega)
        rw [m42, m41 _ (by omega), m41 _ (by omega), e13, e14, h80 106 (by decide), h80 97 (by decide), h80 98 (by decide)]
        exact ⟨hq.symm, y1.symm, y2.symm⟩
    have hspm : ∀ f : Int, 0 ≤ f → f < M t 0 → sPm M1 f = sPl M f ∧ sPl M f < 2 ^ 24 := by
      intro f q0 q1
      obtain ⟨g1, g2, g3⟩ := w5 f q0 q1
      unfold sPm sPl
      rw [h80 _ (by decide), g1]
      refine ⟨rfl, ?_⟩
      omega
    have hfld : M1 t 0 = M t 0 := eT _ (by decide)
    have hoF : ∀ j : Nat, j < oN t M1 K → 0 ≤ oF t M1 K j ∧ oF t M1 K j < M t 0 := by
      intro j hj
      have := d8 j hj
      omega
    apply B_Lw_law_251
    simp only [mwp, mst, mii, mll, mli, mi1, ml1, mr1, mir, mlr, mrr, miir, mlir, mget, mgi, mgl, mgr, mset, mset2, mkill, mput_t, mputr_t, mpop, mpsh, mrcv, mcnd, mtsw, mlsw, List.set_cons_zero, SH_16, SH_17, SH_18, SH_19, SH_20, SH_21, SH_22, SH_23, SH_24, SH_25, SH_26, SH_27, SH_28, SH_29, SH_30, SH_31, SH_32, SH_33, SH_34, SH_35, SH_36, SH_37, SH_38, SH_39, SH_40, SH_41, SH_42, SH_43, SH_44, SH_45, SH_46, SH_47, SH_48, SH_49, SH_50, SH_51, SH_52, SH_53, SH_54, SH_55, SH_56, SH_57, SH_58, SH_59, SH_60, SH_61, SH_62, SH_63, SH_64, SH_65, SH_66, SH_67, SH_68, SH_69, SH_70, SH_71, SH_72, SH_73, SH_74, SH_75, SH_76, SH_77, SH_78, SH_79, SH_80, SH_81, SH_82, SH_83, SH_84, SH_85, SH_86, SH_87, SH_88, SH_89, SH_90, SH_91, SH_92, SH_93, SH_94, SH_95, SH_96, SH_97, SH_98, SH_99, SH_100, SH_101, SH_102, SH_103, SH_104, SH_105, SH_106, SH_107, SH_108, SH_109, SH_110, SH_111, SH_112, SH_113, SH_114, SH_115, SH_116, SH_117, SH_118, SH_119, RF_16_0, RF_16_1, RF_16_2, RF_16_5, RF_16_6, RF_16_7, RF_16_8, RF_16_9, RF_17_0, RF_19_0, RF_19_1, RF_19_2, RF_19_3, RF_24_0, RF_25_1, RF_25_2, RF_25_4, RF_25_5, RF_25_6, RF_25_7, RF_25_8, RF_25_10, RF_25_11, RF_25_12, RF_25_13, RF_25_14, RF_25_16, RF_25_17, RF_40_1, RF_40_2, RF_40_4, RF_40_5, RF_40_6, RF_40_7, RF_40_8, RF_40_10, RF_40_11, RF_40_12, RF_40_13, RF_40_14, RF_40_16, RF_40_17, RF_55_0, RF_57_2, RF_57_3, RF_57_4, RF_57_5, RF_57_6, RF_57_7, RF_57_8, RF_57_9, RF_57_10, RF_57_11, RF_67_0, RF_67_1, RF_70_4, RF_70_5, RF_70_6, RF_70_7, RF_70_9, RF_70_10, RF_77_3, RF_80_0, RF_80_4, RF_80_5, RF_80_6, RF_80_7, RF_80_8, RF_80_9, RF_80_10, RF_80_11, RF_80_12, RF_80_13, RF_80_14, RF_80_15, RF_80_16, RF_80_17, RF_80_18, RF_80_19, RF_80_20, RF_80_23, RF_80_24, RF_80_25, RF_80_26, RF_80_27, RF_80_28, RF_80_29, RF_80_30, RF_80_31, RF_80_34, RF_80_43, RF_80_44, RF_80_45, RF_80_46, RF_80_47, RF_80_48, RF_80_49, RF_80_50, RF_80_51, RF_80_52, RF_80_53, RF_told, RF_draft, true_and, and_true, ne_eq, not_false_eq_true, not_true_eq_false, lCmp_eq0, lCmp_ne0, lCmp_lt0, lCmp_ge0, lCmp_gt0, lCmp_le0, Nat.reduceEqDiff, Nat.reduceLeDiff, Nat.reduceAdd, Nat.reduceLT, Int.reduceAdd, Int.reduceSub, Int.reduceMul, Int.reduceNeg, Int.reduceLT, Int.reduceLE, Int.reduceGT, Int.reduceGE, Int.reduceEq, Int.reduceNe, Int.reduceNatCast, Int.reduceToNat, reduceIte, false_and, and_false, false_implies, forall_const, or_true, true_or, or_false, false_or, Int.add_zero, Int.zero_add, i2B_i2B, mup_ap, b_Lw_law_251]
    refine ⟨rfl, Mo_add_sp (t := t) (Mc := M1) (u := u) (mk := mkO M1) (mb := mbO M1) (rk := rkO M1) (rb := rbO M1) (tq := tkO M1) (rm := rmN t M1) x1 n0 x2 hK40 x3 x4 x5 hR rfl x6 hnr4 (fun q => absurd q hu) (fun _ q => absurd v2 q) (fun _ _ q => absurd hf0 q) (fun _ _ _ => hTc) (fun _ _ _ q => by omega) (fun _ _ _ r1 q q0 q1 qp => ?_)⟩
    rw [hfn] at q
    subst q
    refine ⟨⟨u1, by rw [h80 _ (by decide)]; exact u3, by rw [h80 _ (by decide)]; omega, by rw [h80 _ (by decide), z2]; exact z6, ?_, ?_, fun f f0 f1 => ?_, fun j hj => ?_, ?_, ?_, fun r hr => ?_, hok⟩, fun M2 s1 s2 s3 s4 s5 s6 => ?_⟩
    · have hpw : (2 : Nat) ^ rbO M rn ≤ 2 ^ 32 := Nat.pow_le_pow_right (by decide) y8
      rw [h80 _ (by decide), (w4 rn (by omega)).2.2.2.1, y1]
      refine ⟨by omega, ?_⟩
      have : rkO M rn ≤ 2 ^ 32 := by omega
      exact_mod_cast this
    · rw [h80 _ (by decide), (w4 rn (by omega)).2.2.2.2.2, y3]
      omega
    · rw [h80 _ (by decide)]
      obtain ⟨g1, g2, g3⟩ := w5 f f0 (by omega)
      rw [g1]
      exact ⟨g2, g3⟩
    · obtain ⟨g1, g2, g3, g4, g5, g6, g7, g8, g9⟩ := w2 j hj
      rw [h80 _ (by decide), h80 _ (by decide), g6, g4]
      unfold mkO at g5
      unfold mbO at g9
      unfold mkO mbO
      rw [eK _ _ (by omega) (by omega), eK _ _ (by omega) (by omega)]
      exact ⟨g5, g9⟩
    · rw [h80 _ (by decide), h80 _ (by decide), h80 _ (by decide), (w4 rn (by omega)).2.2.2.1, (w4 rn (by omega)).2.2.2.2.2, z2, ← e14, ← c5]
      unfold mkO
      rw [emk]
      rfl
    · unfold mbO
      rw [c3]
      omega
    · obtain ⟨g1, g2, g3, g4, g5, g6, g7, g8⟩ := (lyI_rf a6 w).2.2.2 r hr
      obtain ⟨k1, k2, k3, k4, k5, k6⟩ := p4 r (by omega) (by omega)
      have hq := w4 r hr
      rw [h80 _ (by decide), h80 _ (by decide), h80 _ (by decide), h80 _ (by decide), hq.2.2.2.1, hq.2.2.2.2.2, k2, k1, erk, erb, erm]
      refine ⟨g1, by rw [← hq.1]; exact g2, ?_, g4, ?_, g6, g7, k5⟩
      · unfold tkO
        by_cases wr : (r : Int) = rn
        · rw [if_pos wr, wr, c6, y3]
          omega
        · rw [if_neg wr, eTk _ wr, g3]
          omega
      · unfold tkO
        by_cases wr : (r : Int) = rn
        · have : r = rn := by omega
          subst this
          rw [c6, y3]
          omega
        · rw [eTk _ wr]
          unfold tkO at g5
          exact g5
    · apply B_Lw_law_255
      simp only [mwp, mst, mii, mll, mli, mi1, ml1, mr1, mir, mlr, mrr, miir, mlir, mget, mgi, mgl, mgr, mset, mset2, mkill, mput_t, mputr_t, mpop, mpsh, mrcv, mcnd, mtsw, mlsw, List.set_cons_zero, SH_16, SH_17, SH_18, SH_19, SH_20, SH_21, SH_22, SH_23, SH_24, SH_25, SH_26, SH_27, SH_28, SH_29, SH_30, SH_31, SH_32, SH_33, SH_34, SH_35, SH_36, SH_37, SH_38, SH_39, SH_40, SH_41, SH_42, SH_43, SH_44, SH_45, SH_46, SH_47, SH_48, SH_49, SH_50, SH_51, SH_52, SH_53, SH_54, SH_55, SH_56, SH_57, SH_58, SH_59, SH_60, SH_61, SH_62, SH_63, SH_64, SH_65, SH_66, SH_67, SH_68, SH_69, SH_70, SH_71, SH_72, SH_73, SH_74, SH_75, SH_76, SH_77, SH_78, SH_79, SH_80, SH_81, SH_82, SH_83, SH_84, SH_85, SH_86, SH_87, SH_88, SH_89, SH_90, SH_91, SH_92, SH_93, SH_94, SH_95, SH_96, SH_97, SH_98, SH_99, SH_100, SH_101, SH_102, SH_103, SH_104, SH_105, SH_106, SH_107, SH_108, SH_109, SH_110, SH_111, SH_112, SH_113, SH_114, SH_115, SH_116, SH_117, SH_118, SH_119, RF_16_0, RF_16_1, RF_16_2, RF_16_5, RF_16_6, RF_16_7, RF_16_8, RF_16_9, RF_17_0, RF_19_0, RF_19_1, RF_19_2, RF_19_3, RF_24_0, RF_25_1, RF_25_2, RF_25_4, RF_25_5, RF_25_6, RF_25_7, RF_25_8, RF_25_10, RF_25_11, RF_25_12, RF_25_13, RF_25_14, RF_25_16, RF_25_17, RF_40_1, RF_40_2, RF_40_4, RF_40_5, RF_40_6, RF_40_7, RF_40_8, RF_40_10, RF_40_11, RF_40_12, RF_40_13, RF_40_14, RF_40_16, RF_40_17, RF_55_0, RF_57_2, RF_57_3, RF_57_4, RF_57_5, RF_57_6, RF_57_7, RF_57_8, RF_57_9, RF_57_10, RF_57_11, RF_67_0, RF_67_1, RF_70_4, RF_70_5, RF_70_6, RF_70_7, RF_70_9, RF_70_10, RF_77_3, RF_80_0, RF_80_4, RF_80_5, RF_80_6, RF_80_7, RF_80_8, RF_80_9, RF_80_10, RF_80_11, RF_80_12, RF_80_13, RF_80_14, RF_80_15, RF_80_16, RF_80_17, RF_80_18, RF_80_19, RF_80_20, RF_80_23, RF_80_24, RF_80_25, RF_80_26, RF_80_27, RF_80_28, RF_80_29, RF_80_30, RF_80_31, RF_80_34, RF_80_43, RF_80_44, RF_80_45, RF_80_46, RF_80_47, RF_80_48, RF_80_49, RF_80_50, RF_80_51, RF_80_52, RF_80_53, RF_told, RF_draft, true_and, and_true, ne_eq, not_false_eq_true, not_true_eq_false, lCmp_eq0, lCmp_ne0, lCmp_lt0, lCmp_ge0, lCmp_gt0, lCmp_le0, Nat.reduceEqDiff, Nat.reduceLeDiff, Nat.reduceAdd, Nat.reduceLT, Int.reduceAdd, Int.reduceSub, Int.reduceMul, Int.reduceNeg, Int.reduceLT, Int.reduceLE, Int.reduceGT, Int.reduceGE, Int.reduceEq, Int.reduceNe, Int.reduceNatCast, Int.reduceToNat, reduceIte, false_and, and_false, false_implies, forall_const, or_true, true_or, or_false, false_or, Int.add_zero, Int.zero_add, i2B_i2B, mup_ap, b_Lw_law_255]
      have k80 : ∀ r, r < 80 → M2 r = M1 r := by
        intro r q
        funext j
        exact s1 r j (by omega) (by omega) (by omega) (by omega) (by omega) (by omega) (by omega) (by omega) (by omega)
      have khi : ∀ r, r = 81 ∨ r = 107 ∨ r = 108 ∨ r = 105 → M2 r = M r := by
        intro r q
        funext j
        rw [s1 r j (by omega) (by omega) (by omega) (by omega) (by omega) (by omega) (by omega) (by omega) (by omega), h80 r (by omega)]
      have kmo : ∀ j, j ≠ 1 → j ≠ 2 → j ≠ 3 → ¬ (35 ≤ j ∧ j ≤ 42) → j ≠ 22 → j ≠ 54 → j ≠ 55 → j ≠ 56 → M2 80 j = M 80 j := by
        intro j q1 q2 q3 q4 q5 q6 q7 q8
        rw [s1 _ j (by omega) (by omega) (by omega) (by omega) (by omega) (by omega) (by omega) (by omega) (by omega), h80 _ (by decide)]
      have kco : ∀ (r : Nat) (j : Int), (r = 99 ∨ r = 100 ∨ r = 101 ∨ r = 102) → j ≠ (K : Int) → M2 r j = M r j := by
        intro r j q1 q2
        rw [s1 r j (by omega) (by omega) (by omega) (by omega) (by omega) (by omega) (by omega) (by omega) (by omega), h80 r (by omega)]
      have kcl : ∀ (r : Nat) (j : Int), (r = 58 ∨ r = 59 ∨ r = 60 ∨ r = 61 ∨ r = t + 6 ∨ r = t + 5) → j ≠ (K : Int) → M2 r j = M r j := by
        intro r j q1 q2
        rw [k80 r (by omega)]
        exact eK r j q1 q2
      have k1r : ∀ r, r < 80 → ¬ paC r → r ≠ 24 → (r < t ∨ t + 14 < r) → r ≠ 17 → r ≠ 16 → r ≠ 70 → (r < 57 ∨ 69 < r) → M2 r = M r := by
        intro r q0 q1 q2 q3 q4 q5 q6 q7
        rw [k80 r q0]
        funext j
        exact v5 r j q1 q2 (by omega) (by omega) (by omega) (by omega) (by omega) (by omega) (by omega) (by omega) (by omega) (by omega) (by omega) (by omega) (by omega)
      obtain ⟨b1, b2, b3, b4, b5, b6, b7, b8⟩ := s5
      have eLu : M2 57 0 = u := by
        rw [k80 _ (by decide), v5 _ _ (by unfold paC; omega) (by omega) (by omega) (by omega) (by omega) (by omega) (by omega) (by omega) (by omega) (by omega) (by omega) (by omega) (by omega) (by omega) (by omega)]
        exact u2
      have eN2 : oN t M2 = oN t M1 := oN_c (fun r q1 q2 => k80 r (by omega))
      have eW2 : oW t M2 = oW t M1 := oW_c (fun r q1 q2 => k80 r (by omega))
      have eP1 : oP t M1 (sPm M1) K = oP t M1 (sPl M) K := oP_s (fun j hj => (hspm _ (hoF j hj).1 (hoF j hj).2).1)
      have emk2 : mkO M2 = mkO M1 := by funext j; unfold mkO; rw [k80 _ (by decide)]
      have emb2 : mbO M2 = mbO M1 := by funext j; unfold mbO; rw [k80 _ (by decide)]
      have erk2 : rkO M2 = rkO M1 := by funext j; unfold rkO; rw [k80 _ (by decide)]
      have erb2 : rbO M2 = rbO M1 := by funext j; unfold rbO; rw [k80 _ (by decide)]
      have etk2 : tkO M2 = tkO M1 := by funext j; unfold tkO; rw [k80 _ (by decide)]
      have erm2 : rmN t M2 = rmN t M1 := rmN_c (fun r q1 q2 => k80 r (by omega))
      have hly : lyI t u (K + 1) nr M2 := by
        refine ⟨⟨u1, eLu, ?_, ?_, ?_, ?_, ?_, ?_⟩, fun k hk => ?_, fun k j hk hj => ?_, fun r hr => ?_, fun f f0 f1 => ?_, ?_, ?_, ?_⟩
        · rw [kmo _ (by decide) (by decide) (by decide) (by decide) (by decide) (by decide) (by decide) (by decide)]; exact u3
        · rw [k80 t (by omega), v8]; rfl
        · rw [k80 t (by omega), eT _ (by decide)]; exact u5
        · rw [b1, k80 _ (by decide), c1, h80 _ (by decide), u6]
        · rw [k80 _ (by decide), c1]; omega
        · rw [k80 _ (by decide), c1]; omega
        · by_cases wk : k = K
          · subst wk
            have g3 : M2 60 k = M1 60 k := by rw [k80 _ (by decide)]
            have g4 : M2 (t + 6) k = M1 (t + 6) k := by rw [k80 _ (by omega)]
            have g1 : M2 58 k = 2 := by rw [k80 _ (by decide)]; exact c2
            have g2 : M2 59 k = 2 * u - M1 (t + 6) k := by rw [k80 _ (by decide)]; exact c3
            have g5 : M2 61 k = 1 := by rw [k80 _ (by decide)]; exact c4
            refine ⟨Or.inr g1, by rw [g1]; exact b2, by rw [g1, g2, g4], by rw [g2]; exact b3, ?_, ?_, by rw [g5]; exact b4, Or.inr g5, ?_⟩
            · rw [emk2, g3]
              unfold mkO
              rw [emk]
              rfl
            · rw [g3, b5, c5, h80 _ (by decide), h80 _ (by decide), h80 _ (by decide), (w4 rn (by omega)).2.2.2.1, (w4 rn (by omega)).2.2.2.2.2, z2, e14]
            · rw [emb2, g2]
              unfold mbO
              rw [c3]
              omega
          · obtain ⟨g1, g2, g3, g4, g5, g6, g7, g8, g9⟩ := w2 k (by omega)
            unfold mkO at g5
            unfold mbO at g9
            unfold mkO mbO
            rw [kcl 58 _ (by omega) (by omega), kcl 59 _ (by omega) (by omega), kcl 60 _ (by omega) (by omega), kcl 61 _ (by omega) (by omega), kcl (t + 6) _ (by omega) (by omega), kco 99 _ (by omega) (by omega), kco 100 _ (by omega) (by omega), kco 101 _ (by omega) (by omega), kco 102 _ (by omega) (by omega)]
            exact ⟨g1, g2, g3, g4, g5, g6, g7, g8, g9⟩
        · by_cases wk : k = K
          · subst wk
            rw [eN2] at hj
            rw [b7 j hj, k80 _ (by decide), c7 j hj, eP1, eW2]
            have hb := oP_b (S := sPl M) d5 d1 d6 hj
            exact ⟨rfl, by omega, by omega⟩
          · have hk' : k < K := by omega
            have hN6 : oN t M k ≤ 6 := by
              have := (o4 k (by omega) (by omega)).2.1
              unfold oN
              omega
            have eN : oN t M2 k = oN t M k := by unfold oN; rw [kcl _ _ (by omega) (by omega)]
            rw [eN] at hj
            have eFk : oF t M1 k j = oF t M k j := by
              unfold oF
              exact v5 _ _ (by unfold paC; omega) (by omega) (by omega) (by omega) (by omega) (by omega) (by omega) (by omega) (by omega) (by omega) (by omega) (by omega) (by omega) (by omega) (by omega)
            have eWd : M1 (t + 2) = M (t + 2) := by
              funext x
              exact v5 _ _ (by unfold paC; omega) (by omega) (by omega) (by omega) (by omega) (by omega) (by omega) (by omega) (by omega) (by omega) (by omega) (by omega) (by omega) (by omega) (by omega)
            have eWk : oW t M2 k j = oW t M k j := by
              rw [eW2]
              unfold oW
              rw [eFk, eWd]
            have ePl : M2 62 ((k : Int) * 6 + j) = M 62 ((k : Int) * 6 + j) := by
              rw [k80 _ (by decide)]
              exact v5 _ _ (by unfold paC; omega) (by omega) (by omega) (by omega) (by omega) (by omega) (by omega) (by omega) (by omega) (by omega) (by omega) (by omega) (by omega) (by omega) (by omega)
            have eSp : M2 103 ((k : Int) * 6 + j) = M 103 ((k : Int) * 6 + j) := by
              rw [s1 _ _ (by omega) (by omega) (by omega) (by omega) (by omega) (by omega) (by omega) (by omega) (by omega), h80 _ (by decide)]
            rw [ePl, eSp, eWk]
            exact w3 k j hk' hj
        · obtain ⟨g1, g2, g3, g4, g5, g6⟩ := w4 r hr
          have e1 : M2 63 = M 63 := by rw [k80 _ (by decide)]; exact eRB
          have e2 : M2 64 = M 64 := by rw [k80 _ (by decide)]; exact eRM
          have e3 : M2 (t + 14) = M (t + 14) := by rw [k80 _ (by omega)]; exact e14
          rw [e1, e2, e3, khi 105 (by decide), erb2, erb, erk2, erk]
          refine ⟨g1, g2, g3, g4, ?_, ?_⟩
          · rw [etk2, k80 _ (by decide)]
            unfold tkO
            by_cases wr : (r : Int) = rn
            · rw [wr, c6, y3]
              omega
            · rw [eTk _ wr, g5]
              omega
          · by_cases wr : (r : Int) = rn
            · rw [wr, b6, k80 _ (by decide), c6, h80 _ (by decide), (w4 rn (by omega)).2.2.2.2.2]
            · rw [s1 _ _ (by omega) (by omega) (by omega) (by omega) (by omega) (by omega) (by omega) (by omega) (by omega), h80 _ (by decide), k80 _ (by decide), eTk _ wr]
              exact g6
        · rw [k80 t (by omega), hfld] at f1
          have hsf := hspm f f0 f1
          rw [b8 f f0 (by rw [hfld]; exact f1), k80 _ (by decide), c8 f f0 (by rw [hfld]; exact f1), sN1_s (S := sPm M1) (S' := sPl M) (fun j hj => (hspm _ (hoF j hj).1 (hoF j hj).2).1) hsf.1]
          have hb := sN1_g (t := t) (M := M1) (S := sPl M) (k := K) (f := f) d5 d1 d6 hsf.2
          refine ⟨rfl, by omega, ?_⟩
          exact_mod_cast hb
        · rw [emk2, emb2, erk2, erb2, etk2, erm2]
          exact hdj
        · have eP : ldP t (K + 1) nr M2 = pcs (K + 1) (mkO M1) (mbO M1) (rkO M1) (rbO M1) (tkO M1) (rmN t M1) nr := by
            unfold ldP
            rw [emk2, emb2, erk2, erb2, etk2, erm2]
          rw [eP]
          exact s6
        · intro q
          rw [k80 _ (by decide), v9] at q
          exact absurd q (by decide)
      refine nx b M2 ⟨?_, ?_, ?_, ?_, ?_, ?_, ?_, ?_, ?_, ?_, ?_, ?_, ?_⟩
      · rw [k1r _ (by decide) (by unfold paC; omega) (by decide) (by omega) (by decide) (by decide) (by decide) (by decide)]; exact a1
      · rw [k1r _ (by decide) (by unfold paC; omega) (by decide) (by omega) (by decide) (by decide) (by decide) (by decide)]; exact a2
      · unfold okT
        rw [k80 _ (by decide), v6]
        exact ⟨by decide, by decide, fun j j0 j1 => by omega⟩
      · rw [khi _ (by decide), k1r 18 (by decide) (by unfold paC; omega) (by decide) (by omega) (by decide) (by decide) (by decide) (by decide)]; exact a4
      · rw [s2, k80 _ (by decide), v6]
      · rw [htd]
        exact TR_congr hTc (fun r q1 q2 => k80 r (by omega)) s4
      · rw [s3, k80 _ (by decide), v7]
      · unfold gvI
        rw [khi _ (by decide), k1r 79 (by decide) (by unfold paC; omega) (by decide) (by omega) (by decide) (by decide) (by decide) (by decide)]
        exact a8
      · rw [k80 _ (by decide)]; exact v10
      · rw [k80 _ (by decide)]; exact v11
      · rw [eLu, hly.1.2.2.1]
      · rw [htd]; exact Or.inr ⟨u, K + 1, nr, hly⟩
      · rw [htd]
        obtain ⟨g1, g2⟩ := a13
        unfold rdI
        rw [k1r 77 (by decide) (by unfold paC; omega) (by decide) (by omega) (by decide) (by decide) (by decide) (by decide), k1r 78 (by decide) (by unfold paC; omega) (by decide) (by omega) (by decide) (by decide) (by decide) (by decide), kmo _ (by decide) (by decide) (by decide) (by decide) (by decide) (by decide) (by decide) (by decide), kmo _ (by decide) (by decide) (by decide) (by decide) (by decide) (by decide) (by decide) (by decide), khi 108 (by decide), eLu, k80 t (by omega), v8]
        refine ⟨g1, ?_⟩
        rcases g2 with g2 | ⟨q1, q2, q3, q4, q5, q6⟩
        · exact Or.inl g2
        · refine Or.inr ⟨by omega, q2, by omega, q4, ?_, q6⟩
          rw [kcl _ _ (by omega) (by omega)]
          exact q5
end
