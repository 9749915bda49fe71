/-! the model adds -/
def sPm (M : Nat → Int → Int) : Int → Nat := fun f => (M 104 f).toNat
/-- what coming changes in the model -/
def cmM (k r0 : Int) (M M' : Nat → Int → Int) : Prop := ∀ r j, ¬ (r = 80 ∧ (j = 22 ∨ j = 54 ∨ j = 55 ∨ j = 56)) → ¬ ((r = 99 ∨ r = 100 ∨ r = 101 ∨ r = 102) ∧ j = k) → ¬ (r = 103 ∧ k * 6 ≤ j ∧ j < k * 6 + 6) → r ≠ 104 → ¬ (r = 106 ∧ j = r0) → ¬ (109 ≤ r ∧ r ≤ 119) → M' r j = M r j
def coM (t k : Nat) (r0 u : Int) (T M M' : Nat → Int → Int) : Prop :=
  M' 80 22 = M 80 22 + 2 * T (t + 4) k ∧ M' 99 k = 2 ∧ M' 100 k = 2 * u - T (t + 6) k ∧ M' 102 k = 1 ∧ M' 101 k = (M 105 r0 + M 106 r0) * 2 ^ (M 98 r0 - T (t + 6) k).toNat ∧ M' 106 r0 = M 106 r0 + 1 ∧
  (∀ i : Nat, i < oN t T k → M' 103 ((k : Int) * 6 + i) = (oP t T (sPm M) k i : Nat)) ∧ (∀ f : Int, 0 ≤ f → f < T t 0 → M' 104 f = (sN1 t T (sPm M) k f : Nat))
section
variable {L : Nat} {b : Bool} {Q : Option mV → mM → Prop} {M Mc : Nat → Int → Int} {t : Nat} {mk mb rk rb tk rm : Nat → Nat} {nr : Nat}
set_option maxHeartbeats 2000000 in
theorem Mo_come_sp {k : Nat} {r0 u : Int} (hk : k < 40) (hF : TRf t 0 Mc M) (hO : ORr t 0 Mc M k) (hn : M 85 0 = ((k + 1 : Nat) : Int)) (hr : M 96 0 = nr) (hnr : nr ≤ 4) (r00 : 0 ≤ r0) (r01 : r0 < nr) (hu : u = 8 ∨ u = 16) (hMu : M 80 21 = u) (hco : 0 ≤ M 80 22 ∧ M 80 22 ≤ 1000000)
    (hb0 : Mc (t + 6) k ≤ M 98 r0) (hb1 : M 98 r0 ≤ 24) (hr0 : 0 ≤ M 105 r0 ∧ M 105 r0 ≤ 2 ^ 32) (ht0 : 0 ≤ M 106 r0 ∧ M 106 r0 ≤ 64) (hS : ∀ f : Int, 0 ≤ f → f < Mc t 0 → 0 ≤ M 104 f ∧ M 104 f < 2 ^ 24)
    (hmk : ∀ j : Nat, j < k → M 101 j = mk j ∧ M 100 j = mb j) (hmk2 : (M 105 r0 + M 106 r0) * 2 ^ (M 98 r0 - Mc (t + 6) k).toNat = (mk k : Nat)) (hmk3 : 2 * u - Mc (t + 6) k = (mb k : Nat))
    (hrr : ∀ r : Nat, r < nr → M 105 r = rk r ∧ 2 * u - M 98 r = rb r ∧ (if (r : Int) = r0 then M 106 r + 1 else M 106 r) = tk r ∧ M 97 r = rm r ∧ tk r ≤ rm r ∧ rm r ≤ 64 ∧ rk r < 2 ^ 40 ∧ 0 ≤ M 98 r)
    (hok : okP (pcs (k + 1) mk mb rk rb tk rm nr))
    (h : ∀ M', cmM k r0 M M' → coM t k r0 u Mc M M' → dcR (k + 1) (pcs (k + 1) mk mb rk rb tk rm nr) M' → Q none (mS L b M')) : Cl i_Mo_come [.inr (.inr 80), .inl (k : Int), .inl r0] (mS L b M) Q := by
  have ht : isT 25 := Or.inl rfl
  obtain ⟨⟨a1, a2, a3⟩, a4, a5, a6, a7, a8⟩ := TR_data hF hO hk
  have hbt : 0 ≤ Mc (t + 6) k ∧ Mc (t + 6) k ≤ 24 := by omega
  have hus := hO.2.1
  simp only [Int.zero_mul, Int.zero_add] at hus
  have hf1 := hF.1
  have hf3 := hF.2.2.1
  have kF : ∀ M', M' 82 = M 82 → M' 83 = M 83 → M' 84 = M 84 → TRf t 0 Mc M' := by
    intro M' g1 g2 g3
    unfold TRf at hF ⊢
    rw [g1, g2, g3]
    exact hF
  have kO : ∀ M', (∀ r, 82 ≤ r → r ≤ 98 → M' r = M r) → ORr t 0 Mc M' k := by
    intro M' g
    unfold ORr at hO ⊢
    rw [g 82 (by decide) (by decide), g 86 (by decide) (by decide), g 87 (by decide) (by decide), g 88 (by decide) (by decide), g 89 (by decide) (by decide), g 84 (by decide) (by decide)]
    exact hO
  apply E_Mo_come
  apply B_Mo_come_0
  simp only [mwp, mst, mii, mll, mli, mi1, ml1, mr1, mir, mlr, mrr, miir, mlir, mget, mgi, mgl, mgr, mset, mset2, mkill, mput_t, mputr_t, mpop, mpsh, mrcv, mcnd, mtsw, mlsw, List.set_cons_zero, SH_16, SH_17, SH_18, SH_19, SH_20, SH_21, SH_22, SH_23, SH_24, SH_25, SH_26, SH_27, SH_28, SH_29, SH_30, SH_31, SH_32, SH_33, SH_34, SH_35, SH_36, SH_37, SH_38, SH_39, SH_40, SH_41, SH_42, SH_43, SH_44, SH_45, SH_46, SH_47, SH_48, SH_49, SH_50, SH_51, SH_52, SH_53, SH_54, SH_55, SH_56, SH_57, SH_58, SH_59, SH_60, SH_61, SH_62, SH_63, SH_64, SH_65, SH_66, SH_67, SH_68, SH_69, SH_70, SH_71, SH_72, SH_73, SH_74, SH_75, SH_76, SH_77, SH_78, SH_79, SH_80, SH_81, SH_82, SH_83, SH_84, SH_85, SH_86, SH_87, SH_88, SH_89, SH_90, SH_91, SH_92, SH_93, SH_94, SH_95, SH_96, SH_97, SH_98, SH_99, SH_100, SH_101, SH_102, SH_103, SH_104, SH_105, SH_106, SH_107, SH_108, SH_109, SH_110, SH_111, SH_112, SH_113, SH_114, SH_115, SH_116, SH_117, SH_118, SH_119, RF_16_0, RF_16_1, RF_16_2, RF_16_5, RF_16_6, RF_16_7, RF_16_8, RF_16_9, RF_17_0, RF_19_0, RF_19_1, RF_19_2, RF_19_3, RF_24_0, RF_25_1, RF_25_2, RF_25_4, RF_25_5, RF_25_6, RF_25_7, RF_25_8, RF_25_10, RF_25_11, RF_25_12, RF_25_13, RF_25_14, RF_25_16, RF_25_17, RF_40_1, RF_40_2, RF_40_4, RF_40_5, RF_40_6, RF_40_7, RF_40_8, RF_40_10, RF_40_11, RF_40_12, RF_40_13, RF_40_14, RF_40_16, RF_40_17, RF_55_0, RF_57_2, RF_57_3, RF_57_4, RF_57_5, RF_57_6, RF_57_7, RF_57_8, RF_57_9, RF_57_10, RF_57_11, RF_67_0, RF_67_1, RF_70_4, RF_70_5, RF_70_6, RF_70_7, RF_70_9, RF_70_10, RF_77_3, RF_80_0, RF_80_4, RF_80_5, RF_80_6, RF_80_7, RF_80_8, RF_80_9, RF_80_10, RF_80_11, RF_80_12, RF_80_13, RF_80_14, RF_80_15, RF_80_16, RF_80_17, RF_80_18, RF_80_19, RF_80_20, RF_80_23, RF_80_24, RF_80_25, RF_80_26, RF_80_27, RF_80_28, RF_80_29, RF_80_30, RF_80_31, RF_80_34, RF_80_43, RF_80_44, RF_80_45, RF_80_46, RF_80_47, RF_80_48, RF_80_49, RF_80_50, RF_80_51, RF_80_52, RF_80_53, RF_told, RF_draft, true_and, and_true, ne_eq, not_false_eq_true, not_true_eq_false, lCmp_eq0, lCmp_ne0, lCmp_lt0, lCmp_ge0, lCmp_gt0, lCmp_le0, Nat.reduceEqDiff, Nat.reduceLeDiff, Nat.reduceAdd, Nat.reduceLT, Int.reduceAdd, Int.reduceSub, Int.reduceMul, Int.reduceNeg, Int.reduceLT, Int.reduceLE, Int.reduceGT, Int.reduceGE, Int.reduceEq, Int.reduceNe, Int.reduceNatCast, Int.reduceToNat, reduceIte, false_and, and_false, false_implies, forall_const, or_true, true_or, or_false, false_or, Int.add_zero, Int.zero_add, i2B_i2B, mup_ap, b_Mo_come_0, hMu]
  repeat (refine ⟨(by first | omega | (exact isT_16 ht) | rfl | decide), ?_⟩)
  obtain ⟨M1, hM1⟩ : ∃ M1, mup (mup M 99 k 2) 102 k 1 = M1 := ⟨_, rfl⟩
  rw [hM1]
  have m1 : ∀ r, r ≠ 99 → r ≠ 102 → M1 r = M r := fun r z1 z2 => by rw [← hM1, mup_n z2, mup_n z1]
  refine Mo_bits_sp (kF M1 (m1 _ (by decide) (by decide)) (m1 _ (by decide) (by decide)) (m1 _ (by decide) (by decide))) (kO M1 (fun r z1 z2 => m1 r (by omega) (by omega))) (by omega) (by omega) ?_
  have y1 : ∀ v, mup M1 100 k v 105 = M 105 := fun v => by rw [mup_n (by decide)]; exact m1 _ (by decide) (by decide)
  have y2 : ∀ v, mup M1 100 k v 106 = M 106 := fun v => by rw [mup_n (by decide)]; exact m1 _ (by decide) (by decide)
  have y3 : ∀ v, mup M1 100 k v 98 = M 98 := fun v => by rw [mup_n (by decide)]; exact m1 _ (by decide) (by decide)
  have z1 : M1 105 = M 105 := m1 _ (by decide) (by decide)
  have z2 : M1 106 = M 106 := m1 _ (by decide) (by decide)
  have z3 : M1 98 = M 98 := m1 _ (by decide) (by decide)
  apply B_Mo_come_30
  simp only [mwp, mst, mii, mll, mli, mi1, ml1, mr1, mir, mlr, mrr, miir, mlir, mget, mgi, mgl, mgr, mset, mset2, mkill, mput_t, mputr_t, mpop, mpsh, mrcv, mcnd, mtsw, mlsw, List.set_cons_zero, SH_16, SH_17, SH_18, SH_19, SH_20, SH_21, SH_22, SH_23, SH_24, SH_25, SH_26, SH_27, SH_28, SH_29, SH_30, SH_31, SH_32, SH_33, SH_34, SH_35, SH_36, SH_37, SH_38, SH_39, SH_40, SH_41, SH_42, SH_43, SH_44, SH_45, SH_46, SH_47, SH_48, SH_49, SH_50, SH_51, SH_52, SH_53, SH_54, SH_55, SH_56, SH_57, SH_58, SH_59, SH_60, SH_61, SH_62, SH_63, SH_64, SH_65, SH_66, SH_67, SH_68, SH_69, SH_70, SH_71, SH_72, SH_73, SH_74, SH_75, SH_76, SH_77, SH_78, SH_79, SH_80, SH_81, SH_82, SH_83, SH_84, SH_85, SH_86, SH_87, SH_88, SH_89, SH_90, SH_91, SH_92, SH_93, SH_94, SH_95, SH_96, SH_97, SH_98, SH_99, SH_100, SH_101, SH_102, SH_103, SH_104, SH_105, SH_106, SH_107, SH_108, SH_109, SH_110, SH_111, SH_112, SH_113, SH_114, SH_115, SH_116, SH_117, SH_118, SH_119, RF_16_0, RF_16_1, RF_16_2, RF_16_5, RF_16_6, RF_16_7, RF_16_8, RF_16_9, RF_17_0, RF_19_0, RF_19_1, RF_19_2, RF_19_3, RF_24_0, RF_25_1, RF_25_2, RF_25_4, RF_25_5, RF_25_6, RF_25_7, RF_25_8, RF_25_10, RF_25_11, RF_25_12, RF_25_13, RF_25_14, RF_25_16, RF_25_17, RF_40_1, RF_40_2, RF_40_4, RF_40_5, RF_40_6, RF_40_7, RF_40_8, RF_40_10, RF_40_11, RF_40_12, RF_40_13, RF_40_14, RF_40_16, RF_40_17, RF_55_0, RF_57_2, RF_57_3, RF_57_4, RF_57_5, RF_57_6, RF_57_7, RF_57_8, RF_57_9, RF_57_10, RF_57_11, RF_67_0, RF_67_1, RF_70_4, RF_70_5, RF_70_6, RF_70_7, RF_70_9, RF_70_10, RF_77_3, RF_80_0, RF_80_4, RF_80_5, RF_80_6, RF_80_7, RF_80_8, RF_80_9, RF_80_10, RF_80_11, RF_80_12, RF_80_13, RF_80_14, RF_80_15, RF_80_16, RF_80_17, RF_80_18, RF_80_19, RF_80_20, RF_80_23, RF_80_24, RF_80_25, RF_80_26, RF_80_27, RF_80_28, RF_80_29, RF_80_30, RF_80_31, RF_80_34, RF_80_43, RF_80_44, RF_80_45, RF_80_46, RF_80_47, RF_80_48, RF_80_49, RF_80_50, RF_80_51, RF_80_52, RF_80_53, RF_told, RF_draft, true_and, and_true, ne_eq, not_false_eq_true, not_true_eq_false, lCmp_eq0, lCmp_ne0, lCmp_lt0, lCmp_ge0, lCmp_gt0, lCmp_le0, Nat.reduceEqDiff, Nat.reduceLeDiff, Nat.reduceAdd, Nat.reduceLT, Int.reduceAdd, Int.reduceSub, Int.reduceMul, Int.reduceNeg, Int.reduceLT, Int.reduceLE, Int.reduceGT, Int.reduceGE, Int.reduceEq, Int.reduceNe, Int.reduceNatCast, Int.reduceToNat, reduceIte, false_and, and_false, false_implies, forall_const, or_true, true_or, or_false, false_or, Int.add_zero, Int.zero_add, i2B_i2B, mup_ap, b_Mo_come_30, y1, y2, y3, z1, z2, z3]
  repeat (refine ⟨(by first | omega | (exact isT_16 ht) | rfl | decide), ?_⟩)
  obtain ⟨M2, hM2⟩ : ∃ M2, mup M1 100 k (2 * u - Mc (t + 6) k) = M2 := ⟨_, rfl⟩
  rw [hM2]
  have m2 : ∀ r, r ≠ 99 → r ≠ 102 → r ≠ 100 → M2 r = M r := fun r z1 z2 z3 => by rw [← hM2, mup_n z3, m1 r z1 z2]
  refine Mo_bits_sp (kF M2 (m2 _ (by decide) (by decide) (by decide)) (m2 _ (by decide) (by decide) (by decide)) (m2 _ (by decide) (by decide) (by decide))) (kO M2 (fun r z1 z2 => m2 r (by omega) (by omega) (by omega))) (by omega) (by omega) ?_
  have x6 : lShl (M 105 r0 + M 106 r0) (M 98 r0 - Mc (t + 6) k) = (mk k : Nat) := by
    rw [← hmk2]
    apply lShl_i (by omega) (by omega) (by omega)
    have hpw : (2 : Int) ^ (M 98 r0 - Mc (t + 6) k).toNat ≤ 2 ^ 24 := by exact_mod_cast Nat.pow_le_pow_right (by decide : 0 < 2) (show (M 98 r0 - Mc (t + 6) k).toNat ≤ 24 by omega)
    have hp0 : (0 : Int) < 2 ^ (M 98 r0 - Mc (t + 6) k).toNat := Int.pow_pos (by decide)
    have h3 := Int.mul_le_mul (show M 105 r0 + M 106 r0 ≤ 2 ^ 33 by omega) hpw (by omega) (by decide)
    have : (2 : Int) ^ 33 * 2 ^ 24 < 2 ^ 63 := by decide
    omega
  have x2 : M2 106 = M 106 := m2 _ (by decide) (by decide) (by decide)
  have x3 : M2 87 = M 87 := m2 _ (by decide) (by decide) (by decide)
  have x4 : M2 80 = M 80 := m2 _ (by decide) (by decide) (by decide)
  apply B_Mo_come_62
  simp only [mwp, mst, mii, mll, mli, mi1, ml1, mr1, mir, mlr, mrr, miir, mlir, mget, mgi, mgl, mgr, mset, mset2, mkill, mput_t, mputr_t, mpop, mpsh, mrcv, mcnd, mtsw, mlsw, List.set_cons_zero, SH_16, SH_17, SH_18, SH_19, SH_20, SH_21, SH_22, SH_23, SH_24, SH_25, SH_26, SH_27, SH_28, SH_29, SH_30, SH_31, SH_32, SH_33, SH_34, SH_35, SH_36, SH_37, SH_38, SH_39, SH_40, SH_41, SH_42, SH_43, SH_44, SH_45, SH_46, SH_47, SH_48, SH_49, SH_50, SH_51, SH_52, SH_53, SH_54, SH_55, SH_56, SH_57, SH_58, SH_59, SH_60, SH_61, SH_62, SH_63, SH_64, SH_65, SH_66, SH_67, SH_68, SH_69, SH_70, SH_71, SH_72, SH_73, SH_74, SH_75, SH_76, SH_77, SH_78, SH_79, SH_80, SH_81, SH_82, SH_83, SH_84, SH_85, SH_86, SH_87, SH_88, SH_89, SH_90, SH_91, SH_92, SH_93, SH_94, SH_95, SH_96, SH_97, SH_98, SH_99, SH_100, SH_101, SH_102, SH_103, SH_104, SH_105, SH_106, SH_107, SH_108, SH_109, SH_110, SH_111, SH_112, SH_113, SH_114, SH_115, SH_116, SH_117, SH_118, SH_119, RF_16_0, RF_16_1, RF_16_2, RF_16_5, RF_16_6, RF_16_7, RF_16_8, RF_16_9, RF_17_0, RF_19_0, RF_19_1, RF_19_2, RF_19_3, RF_24_0, RF_25_1, RF_25_2, RF_25_4, RF_25_5, RF_25_6, RF_25_7, RF_25_8, RF_25_10, RF_25_11, RF_25_12, RF_25_13, RF_25_14, RF_25_16, RF_25_17, RF_40_1, RF_40_2, RF_40_4, RF_40_5, RF_40_6, RF_40_7, RF_40_8, RF_40_10, RF_40_11, RF_40_12, RF_40_13, RF_40_14, RF_40_16, RF_40_17, RF_55_0, RF_57_2, RF_57_3, RF_57_4, RF_57_5, RF_57_6, RF_57_7, RF_57_8, RF_57_9, RF_57_10, RF_57_11, RF_67_0, RF_67_1, RF_70_4, RF_70_5, RF_70_6, RF_70_7, RF_70_9, RF_70_10, RF_77_3, RF_80_0, RF_80_4, RF_80_5, RF_80_6, RF_80_7, RF_80_8, RF_80_9, RF_80_10, RF_80_11, RF_80_12, RF_80_13, RF_80_14, RF_80_15, RF_80_16, RF_80_17, RF_80_18, RF_80_19, RF_80_20, RF_80_23, RF_80_24, RF_80_25, RF_80_26, RF_80_27, RF_80_28, RF_80_29, RF_80_30, RF_80_31, RF_80_34, RF_80_43, RF_80_44, RF_80_45, RF_80_46, RF_80_47, RF_80_48, RF_80_49, RF_80_50, RF_80_51, RF_80_52, RF_80_53, RF_told, RF_draft, true_and, and_true, ne_eq, not_false_eq_true, not_true_eq_false, lCmp_eq0, lCmp_ne0, lCmp_lt0, lCmp_ge0, lCmp_gt0, lCmp_le0, Nat.reduceEqDiff, Nat.reduceLeDiff, Nat.reduceAdd, Nat.reduceLT, Int.reduceAdd, Int.reduceSub, Int.reduceMul, Int.reduceNeg, Int.reduceLT, Int.reduceLE, Int.reduceGT, Int.reduceGE, Int.reduceEq, Int.reduceNe, Int.reduceNatCast, Int.reduceToNat, reduceIte, false_and, and_false, false_implies, forall_const, or_true, true_or, or_false, false_or, Int.add_zero, Int.zero_add, i2B_i2B, mup_ap, b_Mo_come_62, x6, x2, x3, x4]
  repeat (refine ⟨(by first | omega | (exact isT_16 ht) | rfl | decide), ?_⟩)
  obtain ⟨M3, hM3⟩ : ∃ M3, mup (mup (mup M2 101 k (mk k : Nat)) 106 r0 (M 106 r0 + 1)) 80 22 (M 80 22 + 2 * M 87 k) = M3 := ⟨_, rfl⟩
  rw [hM3]
  have m3 : ∀ r, r ≠ 80 → r ≠ 99 → r ≠ 102 → r ≠ 100 → r ≠ 101 → r ≠ 106 → M3 r = M r := fun r q1 q2 q3 q4 q5 q6 => by rw [← hM3, mup_n q1, mup_n q6, mup_n q5, m2 r q2 q3 q4]
  have hsn : ∀ f : Int, 0 ≤ f → f < Mc t 0 → M 104 f = sPm M f ∧ sPm M f < 2 ^ 24 := by
    intro f f0 f1
    have := hS f f0 f1
    unfold sPm
    omega
  have sd : sdt (oW t Mc k) (fun i => sPm M (oF t Mc k i)) (oF t Mc k) (oN t Mc k) k M3 := by
    refine ⟨a1, ?_, by omega, by omega, fun i hi => ?_⟩
    · rw [m3 _ (by decide) (by decide) (by decide) (by decide) (by decide) (by decide)]; exact a3
    · obtain ⟨q1, q2, q3, q4, q5⟩ := a8 i hi
      rw [m3 _ (by decide) (by decide) (by decide) (by decide) (by decide) (by decide), m3 _ (by decide) (by decide) (by decide) (by decide) (by decide) (by decide), m3 _ (by decide) (by decide) (by decide) (by decide) (by decide) (by decide)]
      have := hsn (oF t Mc k i) q2 (by omega)
      exact ⟨q1, q2, by omega, q5, this.1, this.2⟩
  refine Mo_stand_sp sd a5 (fun i hi => (a6 i hi).1) a7 (fun M4 g1 g4 => ?_)
  have g1' : ∀ r j, r ≠ 111 → r ≠ 112 → r ≠ 103 → r ≠ 104 → M4 r j = M3 r j := fun r j z1 z2 z3 z4 => g1 r j z1 z2 (fun q => z3 q.1) (fun q => z4 q.1)
  have m4 : ∀ r, r ≠ 80 → r ≠ 99 → r ≠ 102 → r ≠ 100 → r ≠ 101 → r ≠ 106 → r ≠ 111 → r ≠ 112 → r ≠ 103 → r ≠ 104 → M4 r = M r := by
    intro r q1 q2 q3 q4 q5 q6 q7 q8 q9 q10
    funext j
    rw [g1' r j q7 q8 q9 q10, m3 r q1 q2 q3 q4 q5 q6]
  have vmk : ∀ j, M4 101 j = if j = (k : Int) then ((mk k : Nat) : Int) else M 101 j := by
    intro j
    rw [g1' _ _ (by decide) (by decide) (by decide) (by decide), ← hM3, mup_n (by decide), mup_n (by decide), mup_ap, m2 _ (by decide) (by decide) (by decide)]
    simp
  have vmb : ∀ j, M4 100 j = if j = (k : Int) then 2 * u - Mc (t + 6) k else M 100 j := by
    intro j
    rw [g1' _ _ (by decide) (by decide) (by decide) (by decide), ← hM3, mup_n (by decide), mup_n (by decide), mup_n (by decide), ← hM2, mup_ap, m1 _ (by decide) (by decide)]
    simp
  have vtk : ∀ j, M4 106 j = if j = r0 then M 106 r0 + 1 else M 106 j := by
    intro j
    rw [g1' _ _ (by decide) (by decide) (by decide) (by decide), ← hM3, mup_n (by decide), mup_ap, mup_n (by decide), m2 _ (by decide) (by decide) (by decide)]
    simp
  have v80 : ∀ j, M4 80 j = if j = 22 then M 80 22 + 2 * M 87 k else M 80 j := by
    intro j
    rw [g1' _ _ (by decide) (by decide) (by decide) (by decide), ← hM3, mup_ap, mup_n (by decide), mup_n (by decide), m2 _ (by decide) (by decide) (by decide)]
    simp
  apply B_Mo_come_97
  simp only [mwp, mst, mii, mll, mli, mi1, ml1, mr1, mir, mlr, mrr, miir, mlir, mget, mgi, mgl, mgr, mset, mset2, mkill, mput_t, mputr_t, mpop, mpsh, mrcv, mcnd, mtsw, mlsw, List.set_cons_zero, SH_16, SH_17, SH_18, SH_19, SH_20, SH_21, SH_22, SH_23, SH_24, SH_25, SH_26, SH_27, SH_28, SH_29, SH_30, SH_31, SH_32, SH_33, SH_34, SH_35, SH_36, SH_37, SH_38, SH_39, SH_40, SH_41, SH_42, SH_43, SH_44, SH_45, SH_46, SH_47, SH_48, SH_49, SH_50, SH_51, SH_52, SH_53, SH_54, SH_55, SH_56, SH_57, SH_58, SH_59, SH_60, SH_61, SH_62, SH_63, SH_64, SH_65, SH_66, SH_67, SH_68, SH_69, SH_70, SH_71, SH_72, SH_73, SH_74, SH_75, SH_76, SH_77, SH_78, SH_79, SH_80, SH_81, SH_82, SH_83, SH_84, SH_85, SH_86, SH_87, SH_88, SH_89, SH_90, SH_91, SH_92, SH_93, SH_94, SH_95, SH_96, SH_97, SH_98, SH_99, SH_100, SH_101, SH_102, SH_103, SH_104, SH_105, SH_106, SH_107, SH_108, SH_109, SH_110, SH_111, SH_112, SH_113, SH_114, SH_115, SH_116, SH_117, SH_118, SH_119, RF_16_0, RF_16_1, RF_16_2, RF_16_5, RF_16_6, RF_16_7, RF_16_8, RF_16_9, RF_17_0, RF_19_0, RF_19_1, RF_19_2, RF_19_3, RF_24_0, RF_25_1, RF_25_2, RF_25_4, RF_25_5, RF_25_6, RF_25_7, RF_25_8, RF_25_10, RF_25_11, RF_25_12, RF_25_13, RF_25_14, RF_25_16, RF_25_17, RF_40_1, RF_40_2, RF_40_4, RF_40_5, RF_40_6, RF_40_7, RF_40_8, RF_40_10, RF_40_11, RF_40_12, RF_40_13, RF_40_14, RF_40_16, RF_40_17, RF_55_0, RF_57_2, RF_57_3, RF_57_4, RF_57_5, RF_57_6, RF_57_7, RF_57_8, RF_57_9, RF_57_10, RF_57_11, RF_67_0, RF_67_1, RF_70_4, RF_70_5, RF_70_6, RF_70_7, RF_70_9, RF_70_10, RF_77_3, RF_80_0, RF_80_4, RF_80_5, RF_80_6, RF_80_7, RF_80_8, RF_80_9, RF_80_10, RF_80_11, RF_80_12, RF_80_13, RF_80_14, RF_80_15, RF_80_16, RF_80_17, RF_80_18, RF_80_19, RF_80_20, RF_80_23, RF_80_24, RF_80_25, RF_80_26, RF_80_27, RF_80_28, RF_80_29, RF_80_30, RF_80_31, RF_80_34, RF_80_43, RF_80_44, RF_80_45, RF_80_46, RF_80_47, RF_80_48, RF_80_49, RF_80_50, RF_80_51, RF_80_52, RF_80_53, RF_told, RF_draft, true_and, and_true, ne_eq, not_false_eq_true, not_true_eq_false, lCmp_eq0, lCmp_ne0, lCmp_lt0, lCmp_ge0, lCmp_gt0, lCmp_le0, Nat.reduceEqDiff, Nat.reduceLeDiff, Nat.reduceAdd, Nat.reduceLT, Int.reduceAdd, Int.reduceSub, Int.reduceMul, Int.reduceNeg, Int.reduceLT, Int.reduceLE, Int.reduceGT, Int.reduceGE, Int.reduceEq, Int.reduceNe, Int.reduceNatCast, Int.reduceToNat, reduceIte, false_and, and_false, false_implies, forall_const, or_true, true_or, or_false, false_or, Int.add_zero, Int.zero_add, i2B_i2B, mup_ap, b_Mo_come_97]
  refine ⟨rfl, Mo_decode_sp (n := k + 1) (nr := nr) (mk := mk) (mb := mb) (rk := rk) (rb := rb) (tk := tk) (rm := rm) ?_ (by omega) ?_ hnr (fun j hj => ?_) ?_ (fun r hr2 => ?_) rfl hok (fun M5 f5 d1 d2 d3 d4 => ?_)⟩
  · rw [m4 _ (by decide) (by decide) (by decide) (by decide) (by decide) (by decide) (by decide) (by decide) (by decide) (by decide)]; exact hn
  · rw [m4 _ (by decide) (by decide) (by decide) (by decide) (by decide) (by decide) (by decide) (by decide) (by decide) (by decide)]; exact hr
  · rw [vmk, vmb]
    by_cases w : j = k
    · subst w
      rw [if_pos rfl, if_pos rfl]
      exact ⟨rfl, hmk3⟩
    · rw [if_neg (by omega), if_neg (by omega)]
      exact hmk j (by omega)
  · rw [v80, if_neg (by decide), hMu]
    omega
  · obtain ⟨q1, q2, q3, q4, q5, q6, q7, q8⟩ := hrr r hr2
    rw [v80, if_neg (by decide), hMu, vtk, m4 105 (by decide) (by decide) (by decide) (by decide) (by decide) (by decide) (by decide) (by decide) (by decide) (by decide), m4 98 (by decide) (by decide) (by decide) (by decide) (by decide) (by decide) (by decide) (by decide) (by decide) (by decide), m4 97 (by decide) (by decide) (by decide) (by decide) (by decide) (by decide) (by decide) (by decide) (by decide) (by decide)]
    refine ⟨q1, q2, ?_, q4, q5, q6, q7, q8⟩
    rw [← q3]
    by_cases w : (r : Int) = r0
    · rw [if_pos w, if_pos w, w]
    · rw [if_neg w, if_neg w]
  · apply B_Mo_come_101
    simp only [mwp, mst, mii, mll, mli, mi1, ml1, mr1, mir, mlr, mrr, miir, mlir, mget, mgi, mgl, mgr, mset, mset2, mkill, mput_t, mputr_t, mpop, mpsh, mrcv, mcnd, mtsw, mlsw, List.set_cons_zero, SH_16, SH_17, SH_18, SH_19, SH_20, SH_21, SH_22, SH_23, SH_24, SH_25, SH_26, SH_27, SH_28, SH_29, SH_30, SH_31, SH_32, SH_33, SH_34, SH_35, SH_36, SH_37, SH_38, SH_39, SH_40, SH_41, SH_42, SH_43, SH_44, SH_45, SH_46, SH_47, SH_48, SH_49, SH_50, SH_51, SH_52, SH_53, SH_54, SH_55, SH_56, SH_57, SH_58, SH_59, SH_60, SH_61, SH_62, SH_63, SH_64, SH_65, SH_66, SH_67, SH_68, SH_69, SH_70, SH_71, SH_72, SH_73, SH_74, SH_75, SH_76, SH_77, SH_78, SH_79, SH_80, SH_81, SH_82, SH_83, SH_84, SH_85, SH_86, SH_87, SH_88, SH_89, SH_90, SH_91, SH_92, SH_93, SH_94, SH_95, SH_96, SH_97, SH_98, SH_99, SH_100, SH_101, SH_102, SH_103, SH_104, SH_105, SH_106, SH_107, SH_108, SH_109, SH_110, SH_111, SH_112, SH_113, SH_114, SH_115, SH_116, SH_117, SH_118, SH_119, RF_16_0, RF_16_1, RF_16_2, RF_16_5, RF_16_6, RF_16_7, RF_16_8, RF_16_9, RF_17_0, RF_19_0, RF_19_1, RF_19_2, RF_19_3, RF_24_0, RF_25_1, RF_25_2, RF_25_4, RF_25_5, RF_25_6, RF_25_7, RF_25_8, RF_25_10, RF_25_11, RF_25_12, RF_25_13, RF_25_14, RF_25_16, RF_25_17, RF_40_1, RF_40_2, RF_40_4, RF_40_5, RF_40_6, RF_40_7, RF_40_8, RF_40_10, RF_40_11, RF_40_12, RF_40_13, RF_40_14, RF_40_16, RF_40_17, RF_55_0, RF_57_2, RF_57_3, RF_57_4, RF_57_5, RF_57_6, RF_57_7, RF_57_8, RF_57_9, RF_57_10, RF_57_11, RF_67_0, RF_67_1, RF_70_4, RF_70_5, RF_70_6, RF_70_7, RF_70_9, RF_70_10, RF_77_3, RF_80_0, RF_80_4, RF_80_5, RF_80_6, RF_80_7, RF_80_8, RF_80_9, RF_80_10, RF_80_11, RF_80_12, RF_80_13, RF_80_14, RF_80_15, RF_80_16, RF_80_17, RF_80_18, RF_80_19, RF_80_20, RF_80_23, RF_80_24, RF_80_25, RF_80_26, RF_80_27, RF_80_28, RF_80_29, RF_80_30, RF_80_31, RF_80_34, RF_80_43, RF_80_44, RF_80_45, RF_80_46, RF_80_47, RF_80_48, RF_80_49, RF_80_50, RF_80_51, RF_80_52, RF_80_53, RF_told, RF_draft, true_and, and_true, ne_eq, not_false_eq_true, not_true_eq_false, lCmp_eq0, lCmp_ne0, lCmp_lt0, lCmp_ge0, lCmp_gt0, lCmp_le0, Nat.reduceEqDiff, Nat.reduceLeDiff, Nat.reduceAdd, Nat.reduceLT, Int.reduceAdd, Int.reduceSub, Int.reduceMul, Int.reduceNeg, Int.reduceLT, Int.reduceLE, Int.reduceGT, Int.reduceGE, Int.reduceEq, Int.reduceNe, Int.reduceNatCast, Int.reduceToNat, reduceIte, false_and, and_false, false_implies, forall_const, or_true, true_or, or_false, false_or, Int.add_zero, Int.zero_add, i2B_i2B, mup_ap, b_Mo_come_101]
    have f5r : ∀ r, (r < 80 ∨ (80 < r ∧ r < 113)) → M5 r = M4 r := by
      intro r hr2
      funext j
      exact f5 r j (by omega) (by omega)
    have f80 : ∀ j, j ≠ 54 → j ≠ 55 → j ≠ 56 → M5 80 j = M4 80 j := fun j q1 q2 q3 => f5 _ j (by omega) (by omega)
    refine h M5 ?_ ⟨?_, ?_, ?_, ?_, ?_, ?_, fun i hi => ?_, fun f f0 f1 => ?_⟩ ⟨d1, d2, d3, d4⟩
    · intro r j q1 q2 q3 q4 q5 q6
      rw [f5 r j (by omega) (by omega)]
      by_cases w : r = 103
      · rw [g1 r j (by omega) (by omega) (fun q => by obtain ⟨_, i, hi, e⟩ := q; omega) (fun q => q4 q.1), m3 r (by omega) (by omega) (by omega) (by omega) (by omega) (by omega)]
      · rw [g1' r j (by omega) (by omega) w q4, ← hM3, mup_ap, if_neg (by omega), mup_ap, if_neg (by omega), mup_ap, if_neg (by omega), ← hM2, mup_ap, if_neg (by omega), ← hM1, mup_ap, if_neg (by omega), mup_ap, if_neg (by omega)]
    · rw [f80 _ (by decide) (by decide) (by decide), v80, if_pos rfl, hus.1]
    · rw [f5r _ (by decide), g1' _ _ (by decide) (by decide) (by decide) (by decide), ← hM3, mup_n (by decide), mup_n (by decide), mup_n (by decide), ← hM2, mup_n (by decide), ← hM1, mup_n (by decide), mup_s]
    · rw [f5r _ (by decide), vmb, if_pos rfl]
    · rw [f5r _ (by decide), g1' _ _ (by decide) (by decide) (by decide) (by decide), ← hM3, mup_n (by decide), mup_n (by decide), mup_n (by decide), ← hM2, mup_n (by decide), ← hM1, mup_s]
    · rw [f5r _ (by decide), vmk, if_pos rfl, hmk2]
    · rw [f5r _ (by decide), vtk, if_pos rfl]
    · rw [f5r _ (by decide)]
      exact (g4 i hi).1
    · rw [f5r _ (by decide)]
      by_cases w : ∃ i : Nat, i < oN t Mc k ∧ f = oF t Mc k i
      · obtain ⟨i, hi, rfl⟩ := w
        rw [sN1_y a7 hi]
        exact (g4 i hi).2
      · rw [sN1_n (fun i hi e => w ⟨i, hi, e⟩), g1 _ _ (by decide) (by decide) (fun q => absurd q.1 (by decide)) (fun q => w q.2), m3 _ (by decide) (by decide) (by decide) (by decide) (by decide) (by decide)]
        exact (hsn f f0 f1).1
end
