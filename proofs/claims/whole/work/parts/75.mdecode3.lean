section
variable {L : Nat} {b : Bool} {Q : Option mV → mM → Prop} {M : Nat → Int → Int} {mk mb : Nat → Nat} {rk rb tk rm : Nat → Nat} {n nr : Nat}
theorem Mo_decode_sp (hn : M 85 0 = n) (hn40 : n ≤ 40) (hr : M 96 0 = nr) (hnr : nr ≤ 4) (ho : ∀ k : Nat, k < n → M 101 k = mk k ∧ M 100 k = mb k) (hu : 0 ≤ M 80 21 ∧ M 80 21 ≤ 16)
    (hrr : ∀ r : Nat, r < nr → M 105 r = rk r ∧ 2 * M 80 21 - M 98 r = rb r ∧ M 106 r = tk r ∧ M 97 r = rm r ∧ tk r ≤ rm r ∧ rm r ≤ 64 ∧ rk r < 2 ^ 40 ∧ 0 ≤ M 98 r)
    {P0 : List pc} (hP0 : pcs n mk mb rk rb tk rm nr = P0) (hok : okP P0)
    (h : ∀ M', dcf M M' → M' 80 54 = (dT P0.length P0 : Nat) → M' 80 56 = (dE P0.length P0 : Nat) → M' 80 55 = (dM P0.length P0 0 : Nat) → (∀ k : Nat, k < n → M' 119 k = (dD P0.length P0 0 k : Nat)) → Q none (mS L b M')) : Cl i_Mo_decode [.inr (.inr 80)] (mS L b M) Q := by
  have ht : isT 25 := Or.inl rfl
  have hTl : P0.length ≤ 296 := by
    rw [← hP0]
    unfold pcs
    rw [List.length_append, oPc_len]
    have := rPc_len (rk := rk) (rb := rb) (tk := tk) (rm := rm) nr 0 (fun i _ h2 => (hrr i (by omega)).2.2.2.2.2.1)
    omega
  have hmemk : ∀ k : Nat, k < n → ∃ x ∈ P0, x.2.2 = (k : Int) := by
    intro k hk
    refine ⟨(mk k, mb k, (k : Int)), ?_, rfl⟩
    rw [← hP0]
    unfold pcs oPc
    exact List.mem_append_left _ (List.mem_map.mpr ⟨k, List.mem_range'.mpr ⟨k, hk, by omega⟩, rfl⟩)
  have hbnd : dT P0.length P0 ≤ 296 ∧ dE P0.length P0 ≤ 296 := by
    cases hq : P0 with
    | nil => exact ⟨Nat.zero_le _, Nat.zero_le _⟩
    | cons x R =>
      have := dT_b P0.length P0 hok (by rw [hq]; simp) (Nat.le_refl _) (by omega)
      rw [← hq]
      omega
  apply E_Mo_decode
  apply B_Mo_decode_0
  simp only [mwp, mst, mii, mll, mli, mi1, ml1, mr1, mir, mlr, mrr, miir, mlir, mget, mgi, mgl, mgr, mset, mset2, mkill, mput_t, mputr_t, mpop, mpsh, mrcv, mcnd, mtsw, mlsw, List.set_cons_zero, SH_16, SH_17, SH_18, SH_19, SH_20, SH_21, SH_22, SH_23, SH_24, SH_25, SH_26, SH_27, SH_28, SH_29, SH_30, SH_31, SH_32, SH_33, SH_34, SH_35, SH_36, SH_37, SH_38, SH_39, SH_40, SH_41, SH_42, SH_43, SH_44, SH_45, SH_46, SH_47, SH_48, SH_49, SH_50, SH_51, SH_52, SH_53, SH_54, SH_55, SH_56, SH_57, SH_58, SH_59, SH_60, SH_61, SH_62, SH_63, SH_64, SH_65, SH_66, SH_67, SH_68, SH_69, SH_70, SH_71, SH_72, SH_73, SH_74, SH_75, SH_76, SH_77, SH_78, SH_79, SH_80, SH_81, SH_82, SH_83, SH_84, SH_85, SH_86, SH_87, SH_88, SH_89, SH_90, SH_91, SH_92, SH_93, SH_94, SH_95, SH_96, SH_97, SH_98, SH_99, SH_100, SH_101, SH_102, SH_103, SH_104, SH_105, SH_106, SH_107, SH_108, SH_109, SH_110, SH_111, SH_112, SH_113, SH_114, SH_115, SH_116, SH_117, SH_118, SH_119, RF_16_0, RF_16_1, RF_16_2, RF_16_5, RF_16_6, RF_16_7, RF_16_8, RF_16_9, RF_17_0, RF_19_0, RF_19_1, RF_19_2, RF_19_3, RF_24_0, RF_25_1, RF_25_2, RF_25_4, RF_25_5, RF_25_6, RF_25_7, RF_25_8, RF_25_10, RF_25_11, RF_25_12, RF_25_13, RF_25_14, RF_25_16, RF_25_17, RF_40_1, RF_40_2, RF_40_4, RF_40_5, RF_40_6, RF_40_7, RF_40_8, RF_40_10, RF_40_11, RF_40_12, RF_40_13, RF_40_14, RF_40_16, RF_40_17, RF_55_0, RF_57_2, RF_57_3, RF_57_4, RF_57_5, RF_57_6, RF_57_7, RF_57_8, RF_57_9, RF_57_10, RF_57_11, RF_67_0, RF_67_1, RF_70_4, RF_70_5, RF_70_6, RF_70_7, RF_70_9, RF_70_10, RF_77_3, RF_80_0, RF_80_4, RF_80_5, RF_80_6, RF_80_7, RF_80_8, RF_80_9, RF_80_10, RF_80_11, RF_80_12, RF_80_13, RF_80_14, RF_80_15, RF_80_16, RF_80_17, RF_80_18, RF_80_19, RF_80_20, RF_80_23, RF_80_24, RF_80_25, RF_80_26, RF_80_27, RF_80_28, RF_80_29, RF_80_30, RF_80_31, RF_80_34, RF_80_43, RF_80_44, RF_80_45, RF_80_46, RF_80_47, RF_80_48, RF_80_49, RF_80_50, RF_80_51, RF_80_52, RF_80_53, RF_told, RF_draft, true_and, and_true, ne_eq, not_false_eq_true, not_true_eq_false, lCmp_eq0, lCmp_ne0, lCmp_lt0, lCmp_ge0, lCmp_gt0, lCmp_le0, Nat.reduceEqDiff, Nat.reduceLeDiff, Nat.reduceAdd, Nat.reduceLT, Int.reduceAdd, Int.reduceSub, Int.reduceMul, Int.reduceNeg, Int.reduceLT, Int.reduceLE, Int.reduceGT, Int.reduceGE, Int.reduceEq, Int.reduceNe, Int.reduceNatCast, Int.reduceToNat, reduceIte, false_and, and_false, false_implies, forall_const, or_true, true_or, or_false, false_or, Int.add_zero, Int.zero_add, i2B_i2B, mup_ap, b_Mo_decode_0]
  refine ⟨rfl, Mo_pieces_sp hn hn40 hr hnr ho hu hrr (fun M1 hf hS => ?_)⟩
  rw [hP0] at hS ⊢
  have key : ∀ (S : List wst) (M2 : Nat → Int → Int), WS M2 P0.length S P0.length → dcf M M2 → M2 80 54 = 0 → M2 80 56 = 0 → M2 80 55 = 0 → sT S = dT P0.length P0 → sE S = dE P0.length P0 → sM S = dM P0.length P0 0 → (∀ e ∈ S, ∀ x ∈ e.2.1, 0 ≤ x.2.2 → dD e.2.2.2 e.2.1 e.2.2.1 x.2.2 = dD P0.length P0 0 x.2.2) → (∀ x ∈ P0, 0 ≤ x.2.2 → ∃ e ∈ S, x ∈ e.2.1) → Jd i_Mo_decode Q (0, 0) 51 [some (.inr (.inr 80)), some (.inl ((P0.length : Nat) : Int)), some (.inl (S.length : Int)), none, none, none, none] [] (mS L b M2) := by
    intro S M2 hW hf2 g1 g2 g3 e1 e2 e3 e4 e5
    refine Mo_dec_loop (M := M) (P0 := P0) (T0 := dT P0.length P0) (E0 := dE P0.length P0) (X0 := dM P0.length P0 0) (DD := dD P0.length P0 0) hTl hbnd.1 hbnd.2 (fun M' v1 v2 v3 v4 v5 => h M' v1 v2 v3 v4 (fun k hk => ?_)) (smu S) S M2 _ _ _ _ _ 0 0 0 (Nat.le_refl _) hW hf2 g1 g2 g3 (by omega) (by omega) (by omega) e4 (fun x hx hx0 => Or.inl (e5 x hx hx0))
    obtain ⟨x, hx, hxk⟩ := hmemk k hk
    have := v5 x hx (by omega)
    rw [hxk] at this
    exact this
  obtain ⟨M2, hM2⟩ : ∃ M2, mup (mup (mup (mup (mup (mup M1 80 54 0) 80 55 0) 80 56 0) 116 0 0) 117 0 ((P0.length : Nat) : Int)) 118 0 0 = M2 := ⟨_, rfl⟩
  have f2 : dcf M M2 := by
    rw [← hM2]
    refine dcf_m (dcf_m (dcf_m (dcf_m (dcf_m (dcf_m (M' := M1) (fun r j q1 q2 => ?_) (by omega)) (by omega)) (by omega)) (by omega)) (by omega)) (by omega)
    rw [hf r (by omega) (by omega) (by omega)]
  have t1 : M2 80 54 = 0 := by rw [← hM2]; simp only [mup_ap, true_and, and_true, Nat.reduceEqDiff, Nat.reduceLeDiff, Nat.reduceAdd, Nat.reduceLT, Int.reduceAdd, Int.reduceSub, Int.reduceMul, Int.reduceNeg, Int.reduceLT, Int.reduceLE, Int.reduceEq, reduceIte, false_and, and_false, Int.add_zero, Int.zero_add]
  have t2 : M2 80 56 = 0 := by rw [← hM2]; simp only [mup_ap, true_and, and_true, Nat.reduceEqDiff, Nat.reduceLeDiff, Nat.reduceAdd, Nat.reduceLT, Int.reduceAdd, Int.reduceSub, Int.reduceMul, Int.reduceNeg, Int.reduceLT, Int.reduceLE, Int.reduceEq, reduceIte, false_and, and_false, Int.add_zero, Int.zero_add]
  have t3 : M2 80 55 = 0 := by rw [← hM2]; simp only [mup_ap, true_and, and_true, Nat.reduceEqDiff, Nat.reduceLeDiff, Nat.reduceAdd, Nat.reduceLT, Int.reduceAdd, Int.reduceSub, Int.reduceMul, Int.reduceNeg, Int.reduceLT, Int.reduceLE, Int.reduceEq, reduceIte, false_and, and_false, Int.add_zero, Int.zero_add]
  have hS2 : SG M2 0 P0 := fun i hi => by
    rw [← hM2]
    rw [mup_n (by decide), mup_n (by decide), mup_n (by decide), mup_n (by decide), mup_n (by decide), mup_n (by decide), mup_n (by decide), mup_n (by decide), mup_n (by decide), mup_n (by decide), mup_n (by decide), mup_n (by decide), mup_n (by decide), mup_n (by decide), mup_n (by decide), mup_n (by decide), mup_n (by decide), mup_n (by decide)]
    exact hS i hi
  apply B_Mo_decode_4
  simp only [mwp, mst, mii, mll, mli, mi1, ml1, mr1, mir, mlr, mrr, miir, mlir, mget, mgi, mgl, mgr, mset, mset2, mkill, mput_t, mputr_t, mpop, mpsh, mrcv, mcnd, mtsw, mlsw, List.set_cons_zero, SH_16, SH_17, SH_18, SH_19, SH_20, SH_21, SH_22, SH_23, SH_24, SH_25, SH_26, SH_27, SH_28, SH_29, SH_30, SH_31, SH_32, SH_33, SH_34, SH_35, SH_36, SH_37, SH_38, SH_39, SH_40, SH_41, SH_42, SH_43, SH_44, SH_45, SH_46, SH_47, SH_48, SH_49, SH_50, SH_51, SH_52, SH_53, SH_54, SH_55, SH_56, SH_57, SH_58, SH_59, SH_60, SH_61, SH_62, SH_63, SH_64, SH_65, SH_66, SH_67, SH_68, SH_69, SH_70, SH_71, SH_72, SH_73, SH_74, SH_75, SH_76, SH_77, SH_78, SH_79, SH_80, SH_81, SH_82, SH_83, SH_84, SH_85, SH_86, SH_87, SH_88, SH_89, SH_90, SH_91, SH_92, SH_93, SH_94, SH_95, SH_96, SH_97, SH_98, SH_99, SH_100, SH_101, SH_102, SH_103, SH_104, SH_105, SH_106, SH_107, SH_108, SH_109, SH_110, SH_111, SH_112, SH_113, SH_114, SH_115, SH_116, SH_117, SH_118, SH_119, RF_16_0, RF_16_1, RF_16_2, RF_16_5, RF_16_6, RF_16_7, RF_16_8, RF_16_9, RF_17_0, RF_19_0, RF_19_1, RF_19_2, RF_19_3, RF_24_0, RF_25_1, RF_25_2, RF_25_4, RF_25_5, RF_25_6, RF_25_7, RF_25_8, RF_25_10, RF_25_11, RF_25_12, RF_25_13, RF_25_14, RF_25_16, RF_25_17, RF_40_1, RF_40_2, RF_40_4, RF_40_5, RF_40_6, RF_40_7, RF_40_8, RF_40_10, RF_40_11, RF_40_12, RF_40_13, RF_40_14, RF_40_16, RF_40_17, RF_55_0, RF_57_2, RF_57_3, RF_57_4, RF_57_5, RF_57_6, RF_57_7, RF_57_8, RF_57_9, RF_57_10, RF_57_11, RF_67_0, RF_67_1, RF_70_4, RF_70_5, RF_70_6, RF_70_7, RF_70_9, RF_70_10, RF_77_3, RF_80_0, RF_80_4, RF_80_5, RF_80_6, RF_80_7, RF_80_8, RF_80_9, RF_80_10, RF_80_11, RF_80_12, RF_80_13, RF_80_14, RF_80_15, RF_80_16, RF_80_17, RF_80_18, RF_80_19, RF_80_20, RF_80_23, RF_80_24, RF_80_25, RF_80_26, RF_80_27, RF_80_28, RF_80_29, RF_80_30, RF_80_31, RF_80_34, RF_80_43, RF_80_44, RF_80_45, RF_80_46, RF_80_47, RF_80_48, RF_80_49, RF_80_50, RF_80_51, RF_80_52, RF_80_53, RF_told, RF_draft, true_and, and_true, ne_eq, not_false_eq_true, not_true_eq_false, lCmp_eq0, lCmp_ne0, lCmp_lt0, lCmp_ge0, lCmp_gt0, lCmp_le0, Nat.reduceEqDiff, Nat.reduceLeDiff, Nat.reduceAdd, Nat.reduceLT, Int.reduceAdd, Int.reduceSub, Int.reduceMul, Int.reduceNeg, Int.reduceLT, Int.reduceLE, Int.reduceGT, Int.reduceGE, Int.reduceEq, Int.reduceNe, Int.reduceNatCast, Int.reduceToNat, reduceIte, false_and, and_false, false_implies, forall_const, or_true, true_or, or_false, false_or, Int.add_zero, Int.zero_add, i2B_i2B, mup_ap, b_Mo_decode_4]
  refine ⟨fun v => ?_, fun v => ?_⟩
  · apply B_Mo_decode_28
    simp only [mwp, mst, mii, mll, mli, mi1, ml1, mr1, mir, mlr, mrr, miir, mlir, mget, mgi, mgl, mgr, mset, mset2, mkill, mput_t, mputr_t, mpop, mpsh, mrcv, mcnd, mtsw, mlsw, List.set_cons_zero, SH_16, SH_17, SH_18, SH_19, SH_20, SH_21, SH_22, SH_23, SH_24, SH_25, SH_26, SH_27, SH_28, SH_29, SH_30, SH_31, SH_32, SH_33, SH_34, SH_35, SH_36, SH_37, SH_38, SH_39, SH_40, SH_41, SH_42, SH_43, SH_44, SH_45, SH_46, SH_47, SH_48, SH_49, SH_50, SH_51, SH_52, SH_53, SH_54, SH_55, SH_56, SH_57, SH_58, SH_59, SH_60, SH_61, SH_62, SH_63, SH_64, SH_65, SH_66, SH_67, SH_68, SH_69, SH_70, SH_71, SH_72, SH_73, SH_74, SH_75, SH_76, SH_77, SH_78, SH_79, SH_80, SH_81, SH_82, SH_83, SH_84, SH_85, SH_86, SH_87, SH_88, SH_89, SH_90, SH_91, SH_92, SH_93, SH_94, SH_95, SH_96, SH_97, SH_98, SH_99, SH_100, SH_101, SH_102, SH_103, SH_104, SH_105, SH_106, SH_107, SH_108, SH_109, SH_110, SH_111, SH_112, SH_113, SH_114, SH_115, SH_116, SH_117, SH_118, SH_119, RF_16_0, RF_16_1, RF_16_2, RF_16_5, RF_16_6, RF_16_7, RF_16_8, RF_16_9, RF_17_0, RF_19_0, RF_19_1, RF_19_2, RF_19_3, RF_24_0, RF_25_1, RF_25_2, RF_25_4, RF_25_5, RF_25_6, RF_25_7, RF_25_8, RF_25_10, RF_25_11, RF_25_12, RF_25_13, RF_25_14, RF_25_16, RF_25_17, RF_40_1, RF_40_2, RF_40_4, RF_40_5, RF_40_6, RF_40_7, RF_40_8, RF_40_10, RF_40_11, RF_40_12, RF_40_13, RF_40_14, RF_40_16, RF_40_17, RF_55_0, RF_57_2, RF_57_3, RF_57_4, RF_57_5, RF_57_6, RF_57_7, RF_57_8, RF_57_9, RF_57_10, RF_57_11, RF_67_0, RF_67_1, RF_70_4, RF_70_5, RF_70_6, RF_70_7, RF_70_9, RF_70_10, RF_77_3, RF_80_0, RF_80_4, RF_80_5, RF_80_6, RF_80_7, RF_80_8, RF_80_9, RF_80_10, RF_80_11, RF_80_12, RF_80_13, RF_80_14, RF_80_15, RF_80_16, RF_80_17, RF_80_18, RF_80_19, RF_80_20, RF_80_23, RF_80_24, RF_80_25, RF_80_26, RF_80_27, RF_80_28, RF_80_29, RF_80_30, RF_80_31, RF_80_34, RF_80_43, RF_80_44, RF_80_45, RF_80_46, RF_80_47, RF_80_48, RF_80_49, RF_80_50, RF_80_51, RF_80_52, RF_80_53, RF_told, RF_draft, true_and, and_true, ne_eq, not_false_eq_true, not_true_eq_false, lCmp_eq0, lCmp_ne0, lCmp_lt0, lCmp_ge0, lCmp_gt0, lCmp_le0, Nat.reduceEqDiff, Nat.reduceLeDiff, Nat.reduceAdd, Nat.reduceLT, Int.reduceAdd, Int.reduceSub, Int.reduceMul, Int.reduceNeg, Int.reduceLT, Int.reduceLE, Int.reduceGT, Int.reduceGE, Int.reduceEq, Int.reduceNe, Int.reduceNatCast, Int.reduceToNat, reduceIte, false_and, and_false, false_implies, forall_const, or_true, true_or, or_false, false_or, Int.add_zero, Int.zero_add, i2B_i2B, mup_ap, b_Mo_decode_28]
    apply B_Mo_decode_29
    simp only [mwp, mst, mii, mll, mli, mi1, ml1, mr1, mir, mlr, mrr, miir, mlir, mget, mgi, mgl, mgr, mset, mset2, mkill, mput_t, mputr_t, mpop, mpsh, mrcv, mcnd, mtsw, mlsw, List.set_cons_zero, SH_16, SH_17, SH_18, SH_19, SH_20, SH_21, SH_22, SH_23, SH_24, SH_25, SH_26, SH_27, SH_28, SH_29, SH_30, SH_31, SH_32, SH_33, SH_34, SH_35, SH_36, SH_37, SH_38, SH_39, SH_40, SH_41, SH_42, SH_43, SH_44, SH_45, SH_46, SH_47, SH_48, SH_49, SH_50, SH_51, SH_52, SH_53, SH_54, SH_55, SH_56, SH_57, SH_58, SH_59, SH_60, SH_61, SH_62, SH_63, SH_64, SH_65, SH_66, SH_67, SH_68, SH_69, SH_70, SH_71, SH_72, SH_73, SH_74, SH_75, SH_76, SH_77, SH_78, SH_79, SH_80, SH_81, SH_82, SH_83, SH_84, SH_85, SH_86, SH_87, SH_88, SH_89, SH_90, SH_91, SH_92, SH_93, SH_94, SH_95, SH_96, SH_97, SH_98, SH_99, SH_100, SH_101, SH_102, SH_103, SH_104, SH_105, SH_106, SH_107, SH_108, SH_109, SH_110, SH_111, SH_112, SH_113, SH_114, SH_115, SH_116, SH_117, SH_118, SH_119, RF_16_0, RF_16_1, RF_16_2, RF_16_5, RF_16_6, RF_16_7, RF_16_8, RF_16_9, RF_17_0, RF_19_0, RF_19_1, RF_19_2, RF_19_3, RF_24_0, RF_25_1, RF_25_2, RF_25_4, RF_25_5, RF_25_6, RF_25_7, RF_25_8, RF_25_10, RF_25_11, RF_25_12, RF_25_13, RF_25_14, RF_25_16, RF_25_17, RF_40_1, RF_40_2, RF_40_4, RF_40_5, RF_40_6, RF_40_7, RF_40_8, RF_40_10, RF_40_11, RF_40_12, RF_40_13, RF_40_14, RF_40_16, RF_40_17, RF_55_0, RF_57_2, RF_57_3, RF_57_4, RF_57_5, RF_57_6, RF_57_7, RF_57_8, RF_57_9, RF_57_10, RF_57_11, RF_67_0, RF_67_1, RF_70_4, RF_70_5, RF_70_6, RF_70_7, RF_70_9, RF_70_10, RF_77_3, RF_80_0, RF_80_4, RF_80_5, RF_80_6, RF_80_7, RF_80_8, RF_80_9, RF_80_10, RF_80_11, RF_80_12, RF_80_13, RF_80_14, RF_80_15, RF_80_16, RF_80_17, RF_80_18, RF_80_19, RF_80_20, RF_80_23, RF_80_24, RF_80_25, RF_80_26, RF_80_27, RF_80_28, RF_80_29, RF_80_30, RF_80_31, RF_80_34, RF_80_43, RF_80_44, RF_80_45, RF_80_46, RF_80_47, RF_80_48, RF_80_49, RF_80_50, RF_80_51, RF_80_52, RF_80_53, RF_told, RF_draft, true_and, and_true, ne_eq, not_false_eq_true, not_true_eq_false, lCmp_eq0, lCmp_ne0, lCmp_lt0, lCmp_ge0, lCmp_gt0, lCmp_le0, Nat.reduceEqDiff, Nat.reduceLeDiff, Nat.reduceAdd, Nat.reduceLT, Int.reduceAdd, Int.reduceSub, Int.reduceMul, Int.reduceNeg, Int.reduceLT, Int.reduceLE, Int.reduceGT, Int.reduceGE, Int.reduceEq, Int.reduceNe, Int.reduceNatCast, Int.reduceToNat, reduceIte, false_and, and_false, false_implies, forall_const, or_true, true_or, or_false, false_or, Int.add_zero, Int.zero_add, i2B_i2B, mup_ap, b_Mo_decode_29]
    repeat (refine ⟨(by first | omega | (exact isT_16 ht) | rfl | decide), ?_⟩)
    have hnil : P0 = [] := List.length_eq_zero_iff.mp (by omega)
    refine Jd_eq (key [] M2 trivial f2 t1 t2 t3 (by rw [hnil]; rfl) (by rw [hnil]; rfl) (by rw [hnil]; rfl) (fun e he => by cases he) (fun x hx => by rw [hnil] at hx; cases hx)) hM2.symm
  · apply B_Mo_decode_29
    simp only [mwp, mst, mii, mll, mli, mi1, ml1, mr1, mir, mlr, mrr, miir, mlir, mget, mgi, mgl, mgr, mset, mset2, mkill, mput_t, mputr_t, mpop, mpsh, mrcv, mcnd, mtsw, mlsw, List.set_cons_zero, SH_16, SH_17, SH_18, SH_19, SH_20, SH_21, SH_22, SH_23, SH_24, SH_25, SH_26, SH_27, SH_28, SH_29, SH_30, SH_31, SH_32, SH_33, SH_34, SH_35, SH_36, SH_37, SH_38, SH_39, SH_40, SH_41, SH_42, SH_43, SH_44, SH_45, SH_46, SH_47, SH_48, SH_49, SH_50, SH_51, SH_52, SH_53, SH_54, SH_55, SH_56, SH_57, SH_58, SH_59, SH_60, SH_61, SH_62, SH_63, SH_64, SH_65, SH_66, SH_67, SH_68, SH_69, SH_70, SH_71, SH_72, SH_73, SH_74, SH_75, SH_76, SH_77, SH_78, SH_79, SH_80, SH_81, SH_82, SH_83, SH_84, SH_85, SH_86, SH_87, SH_88, SH_89, SH_90, SH_91, SH_92, SH_93, SH_94, SH_95, SH_96, SH_97, SH_98, SH_99, SH_100, SH_101, SH_102, SH_103, SH_104, SH_105, SH_106, SH_107, SH_108, SH_109, SH_110, SH_111, SH_112, SH_113, SH_114, SH_115, SH_116, SH_117, SH_118, SH_119, RF_16_0, RF_16_1, RF_16_2, RF_16_5, RF_16_6, RF_16_7, RF_16_8, RF_16_9, RF_17_0, RF_19_0, RF_19_1, RF_19_2, RF_19_3, RF_24_0, RF_25_1, RF_25_2, RF_25_4, RF_25_5, RF_25_6, RF_25_7, RF_25_8, RF_25_10, RF_25_11, RF_25_12, RF_25_13, RF_25_14, RF_25_16, RF_25_17, RF_40_1, RF_40_2, RF_40_4, RF_40_5, RF_40_6, RF_40_7, RF_40_8, RF_40_10, RF_40_11, RF_40_12, RF_40_13, RF_40_14, RF_40_16, RF_40_17, RF_55_0, RF_57_2, RF_57_3, RF_57_4, RF_57_5, RF_57_6, RF_57_7, RF_57_8, RF_57_9, RF_57_10, RF_57_11, RF_67_0, RF_67_1, RF_70_4, RF_70_5, RF_70_6, RF_70_7, RF_70_9, RF_70_10, RF_77_3, RF_80_0, RF_80_4, RF_80_5, RF_80_6, RF_80_7, RF_80_8, RF_80_9, RF_80_10, RF_80_11, RF_80_12, RF_80_13, RF_80_14, RF_80_15, RF_80_16, RF_80_17, RF_80_18, RF_80_19, RF_80_20, RF_80_23, RF_80_24, RF_80_25, RF_80_26, RF_80_27, RF_80_28, RF_80_29, RF_80_30, RF_80_31, RF_80_34, RF_80_43, RF_80_44, RF_80_45, RF_80_46, RF_80_47, RF_80_48, RF_80_49, RF_80_50, RF_80_51, RF_80_52, RF_80_53, RF_told, RF_draft, true_and, and_true, ne_eq, not_false_eq_true, not_true_eq_false, lCmp_eq0, lCmp_ne0, lCmp_lt0, lCmp_ge0, lCmp_gt0, lCmp_le0, Nat.reduceEqDiff, Nat.reduceLeDiff, Nat.reduceAdd, Nat.reduceLT, Int.reduceAdd, Int.reduceSub, Int.reduceMul, Int.reduceNeg, Int.reduceLT, Int.reduceLE, Int.reduceGT, Int.reduceGE, Int.reduceEq, Int.reduceNe, Int.reduceNatCast, Int.reduceToNat, reduceIte, false_and, and_false, false_implies, forall_const, or_true, true_or, or_false, false_or, Int.add_zero, Int.zero_add, i2B_i2B, mup_ap, b_Mo_decode_29]
    repeat (refine ⟨(by first | omega | (exact isT_16 ht) | rfl | decide), ?_⟩)
    have hne : P0 ≠ [] := fun q => v (by rw [q]; simp)
    refine Jd_eq (key [(0, P0, 0, P0.length)] M2 ⟨hne, by show 0 + P0.length ≤ P0.length; omega, Nat.le_refl _, by show 0 + P0.length = P0.length; omega, hok, ?_, ?_, ?_, hS2, trivial⟩ f2 t1 t2 t3 (by show dT P0.length P0 + 0 = _; omega) (by show dE P0.length P0 + 0 = _; omega) (by show max (dM P0.length P0 0) 0 = _; omega) (fun e he x hx hx0 => ?_) (fun x hx hx0 => ⟨_, List.mem_cons_self, hx⟩)) hM2.symm
    · rw [← hM2, mup_n (by decide), mup_n (by decide)]
      show mup _ _ 0 0 _ 0 = 0
      rw [mup_s]
    · rw [← hM2, mup_n (by decide)]
      show mup _ _ 0 _ _ 0 = ((0 + P0.length : Nat) : Int)
      rw [mup_s, Nat.zero_add]
    · rw [← hM2]
      show mup _ _ 0 0 _ 0 = 0
      rw [mup_s]
    · have : e = (0, P0, 0, P0.length) := by simpa using he
      subst this
      rfl
end
/-! MARKS that lie apart -/
def dis (s z s' z' : Nat) : Prop := s + z ≤ s' ∨ s' + z' ≤ s
def dsj (W n nr : Nat) (mk mb rk rb tk rm : Nat → Nat) : Prop := W ≤ 32 ∧
  (∀ k, k < n → 1 ≤ mb k ∧ mb k ≤ W ∧ mk k < 2 ^ mb k) ∧ (∀ r, r < nr → 1 ≤ rb r ∧ rb r ≤ W ∧ tk r ≤ rm r ∧ rk r + rm r ≤ 2 ^ rb r) ∧
  (∀ k k', k < n → k' < n → k ≠ k' → dis (mk k * 2 ^ (W - mb k)) (2 ^ (W - mb k)) (mk k' * 2 ^ (W - mb k')) (2 ^ (W - mb k'))) ∧
  (∀ k r, k < n → r < nr → dis (mk k * 2 ^ (W - mb k)) (2 ^ (W - mb k)) ((rk r + tk r) * 2 ^ (W - rb r)) ((rm r - tk r) * 2 ^ (W - rb r))) ∧
  (∀ r r', r < nr → r' < nr → r ≠ r' → dis ((rk r + tk r) * 2 ^ (W - rb r)) ((rm r - tk r) * 2 ^ (W - rb r)) ((rk r' + tk r') * 2 ^ (W - rb r')) ((rm r' - tk r') * 2 ^ (W - rb r')))
theorem pre_in {W l l' m m' : Nat} (h1 : l ≤ l') (h2 : l' ≤ W) (h : m' / 2 ^ (l' - l) = m) : m * 2 ^ (W - l) ≤ m' * 2 ^ (W - l') ∧ m' * 2 ^ (W - l') + 2 ^ (W - l') ≤ m * 2 ^ (W - l) + 2 ^ (W - l) := by
  have e : (2 : Nat) ^ (W - l) = 2 ^ (l' - l) * 2 ^ (W - l') := by rw [← Nat.pow_add]; congr 1; omega
  have hp := Nat.two_pow_pos (l' - l)
  have d1 : m * 2 ^ (l' - l) ≤ m' := by rw [← h]; exact Nat.div_mul_le_self _ _
  have d2 : m' + 1 ≤ (m + 1) * 2 ^ (l' - l) := by
    have := Nat.lt_mul_of_div_lt (show m' / 2 ^ (l' - l) < m + 1 by omega) hp
    omega
  rw [e, ← Nat.mul_assoc]
  constructor
  · exact Nat.mul_le_mul_right _ d1
  · have a := Nat.mul_le_mul_right (2 ^ (W - l')) d2
    rw [Nat.add_mul, Nat.one_mul, Nat.mul_assoc, Nat.add_mul, Nat.one_mul, ← Nat.mul_assoc] at a
    exact a
theorem nbg_of {W : Nat} {x y : pc} (hx : x.2.1 ≤ W) (hy : y.2.1 ≤ W) (h : dis (x.1 * 2 ^ (W - x.2.1)) (2 ^ (W - x.2.1)) (y.1 * 2 ^ (W - y.2.1)) (2 ^ (W - y.2.1))) : nbg x y := by
  have p1 := Nat.two_pow_pos (W - x.2.1)
  have p2 := Nat.two_pow_pos (W - y.2.1)
  unfold dis at h
  constructor
  · rintro ⟨h1, h2⟩
    have := pre_in (W := W) h1 hy h2
    omega
  · rintro ⟨h1, h2⟩
    have := pre_in (W := W) h1 hx h2
    omega
section
variable {W n nr : Nat} {mk mb rk rb tk rm : Nat → Nat}
theorem mem_fPc {r c i : Nat} {x : pc} : x ∈ fPc rk rb r c i ↔ ∃ j, i ≤ j ∧ j < i + c ∧ x = (rk r + j, rb r, -1) := by
  unfold fPc
  rw [List.mem_map]
  constructor
  · rintro ⟨j, hj, rfl⟩
    have := List.mem_range'.mp hj
    exact ⟨j, by omega, by omega, rfl⟩
  · rintro ⟨j, h1, h2, rfl⟩
    exact ⟨j, List.mem_range'.mpr ⟨j - i, by omega, by omega⟩, rfl⟩
theorem mem_rPc {x : pc} : ∀ (c r : Nat), x ∈ rPc rk rb tk rm c r ↔ ∃ q j, r ≤ q ∧ q < r + c ∧ tk q ≤ j ∧ j < tk q + (rm q - tk q) ∧ x = (rk q + j, rb q, -1)
  | 0, r => by
    constructor
    · intro h; cases h
    · rintro ⟨q, j, h1, h2, _⟩; omega
  | c + 1, r => by
    rw [rPc, List.mem_append, mem_fPc, mem_rPc c (r + 1)]
    constructor
    · rintro (⟨j, h1, h2, rfl⟩ | ⟨q, j, h1, h2, h3, h4, rfl⟩)
      · exact ⟨r, j, by omega, by omega, h1, h2, rfl⟩
      · exact ⟨q, j, by omega, by omega, h3, h4, rfl⟩
    · rintro ⟨q, j, h1, h2, h3, h4, rfl⟩
      by_cases w : q = r
      · subst w; exact Or.inl ⟨j, h3, h4, rfl⟩
      · exact Or.inr ⟨q, j, by omega, by omega, h3, h4, rfl⟩
theorem sub_in {a c i j z : Nat} (h1 : c ≤ j) (h2 : j < c + i) : (a + c) * z ≤ (a + j) * z ∧ (a + j) * z + z ≤ (a + c) * z + i * z := by
  constructor
  · exact Nat.mul_le_mul_right _ (by omega)
  · have : (a + j + 1) * z ≤ (a + c + i) * z := Nat.mul_le_mul_right _ (by omega)
    rw [Nat.add_mul (a + j), Nat.one_mul, Nat.add_mul (a + c)] at this
    exact this
theorem okP_dsj (hn : n ≤ 40) (h : dsj W n nr mk mb rk rb tk rm) : okP (pcs n mk mb rk rb tk rm nr) := by
  obtain ⟨hW, h1, h2, h3, h4, h5⟩ := h
  have ordp : ∀ (c k : Nat), k + c ≤ n → (oPc mk mb c k).Pairwise nbg ∧ (oPc mk mb c k).Pairwise (fun x y => x.2.2 = y.2.2 → x.2.2 < 0) := by
    intro c
    induction c with
    | zero => intro k _; exact ⟨List.Pairwise.nil, List.Pairwise.nil⟩
    | succ c ih =>
      intro k hk
      have e : oPc mk mb (c + 1) k = (mk k, mb k, (k : Int)) :: oPc mk mb c (k + 1) := by unfold oPc; rw [List.range'_succ]; rfl
      rw [e, List.pairwise_cons, List.pairwise_cons]
      have i := ih (k + 1) (by omega)
      refine ⟨⟨fun y hy => ?_, i.1⟩, ⟨fun y hy => ?_, i.2⟩⟩
      · unfold oPc at hy
        obtain ⟨j, hj, rfl⟩ := List.mem_map.mp hy
        have := List.mem_range'.mp hj
        exact nbg_of (W := W) (h1 k (by omega)).2.1 (h1 j (by omega)).2.1 (h3 k j (by omega) (by omega) (by omega))
      · unfold oPc at hy
        obtain ⟨j, hj, rfl⟩ := List.mem_map.mp hy
        have := List.mem_range'.mp hj
        intro e2
        have : (k : Int) = j := e2
        omega
  have frp : ∀ (c r i : Nat), r < nr → tk r ≤ i → i + c ≤ rm r → (fPc rk rb r c i).Pairwise nbg := by
    intro c
    induction c with
    | zero => intro r i _ _ _; exact List.Pairwise.nil
    | succ c ih =>
      intro r i hr hi hc
      rw [fPc_s, List.pairwise_cons]
      refine ⟨fun y hy => ?_, ih r (i + 1) hr (by omega) (by omega)⟩
      obtain ⟨j, j1, j2, rfl⟩ := mem_fPc.mp hy
      refine nbg_of (W := W) (h2 r hr).2.1 (h2 r hr).2.1 (Or.inl ?_)
      show (rk r + i) * 2 ^ (W - rb r) + 2 ^ (W - rb r) ≤ (rk r + j) * 2 ^ (W - rb r)
      have : (rk r + i + 1) * 2 ^ (W - rb r) ≤ (rk r + j) * 2 ^ (W - rb r) := Nat.mul_le_mul_right _ (by omega)
      rw [Nat.add_mul (rk r + i), Nat.one_mul] at this
      exact this
  have rmp : ∀ (c r : Nat), r + c = nr → (rPc rk rb tk rm c r).Pairwise nbg := by
    intro c
    induction c with
    | zero => intro r _; exact List.Pairwise.nil
    | succ c ih =>
      intro r hr
      have h2r := h2 r (by omega)
      rw [rPc, List.pairwise_append]
      refine ⟨frp _ r _ (by omega) (Nat.le_refl _) (by omega), ih (r + 1) (by omega), fun x hx y hy => ?_⟩
      obtain ⟨j, j1, j2, rfl⟩ := mem_fPc.mp hx
      obtain ⟨q, i, q1, q2, i1, i2, rfl⟩ := (mem_rPc c (r + 1)).mp hy
      refine nbg_of (W := W) h2r.2.1 (h2 q (by omega)).2.1 ?_
      have a := sub_in (a := rk r) (z := 2 ^ (W - rb r)) j1 j2
      have b := sub_in (a := rk q) (z := 2 ^ (W - rb q)) i1 i2
      have d := h5 r q (by omega) (by omega) (by omega)
      unfold dis at d ⊢
      show (rk r + j) * 2 ^ (W - rb r) + 2 ^ (W - rb r) ≤ (rk q + i) * 2 ^ (W - rb q) ∨ (rk q + i) * 2 ^ (W - rb q) + 2 ^ (W - rb q) ≤ (rk r + j) * 2 ^ (W - rb r)
      omega
  unfold pcs
  refine ⟨?_, ?_, fun x hx => ?_⟩
  · rw [List.pairwise_append]
    refine ⟨(ordp n 0 (by omega)).1, rmp nr 0 (by omega), fun x hx y hy => ?_⟩
    unfold oPc at hx
    obtain ⟨k, hk, rfl⟩ := List.mem_map.mp hx
    have := List.mem_range'.mp hk
    obtain ⟨q, i, q1, q2, i1, i2, rfl⟩ := (mem_rPc nr 0).mp hy
    refine nbg_of (W := W) (h1 k (by omega)).2.1 (h2 q (by omega)).2.1 ?_
    have b := sub_in (a := rk q) (z := 2 ^ (W - rb q)) i1 i2
    have d := h4 k q (by omega) (by omega)
    unfold dis at d ⊢
    show mk k * 2 ^ (W - mb k) + 2 ^ (W - mb k) ≤ (rk q + i) * 2 ^ (W - rb q) ∨ (rk q + i) * 2 ^ (W - rb q) + 2 ^ (W - rb q) ≤ mk k * 2 ^ (W - mb k)
    omega
  · rw [List.pairwise_append]
    refine ⟨(ordp n 0 (by omega)).2, ?_, fun x hx y hy e => ?_⟩
    · apply List.Pairwise.imp_of_mem (R := fun _ _ => True)
      · intro x y hx hy _ _
        obtain ⟨q, i, q1, q2, i1, i2, rfl⟩ := (mem_rPc nr 0).mp hx
        show (-1 : Int) < 0
        decide
      · exact List.pairwise_of_forall (fun _ _ => trivial)
    · obtain ⟨q, i, q1, q2, i1, i2, rfl⟩ := (mem_rPc nr 0).mp hy
      rw [e]
      show (-1 : Int) < 0
      decide
  · rcases List.mem_append.mp hx with hx | hx
    · unfold oPc at hx
      obtain ⟨k, hk, rfl⟩ := List.mem_map.mp hx
      have := List.mem_range'.mp hk
      have := h1 k (by omega)
      exact ⟨this.1, by show mb k ≤ 32; omega, this.2.2, by show (-1 : Int) ≤ k; omega, by show (k : Int) < 40; omega⟩
    · obtain ⟨q, i, q1, q2, i1, i2, rfl⟩ := (mem_rPc nr 0).mp hx
      have := h2 q (by omega)
      exact ⟨this.1, by show rb q ≤ 32; omega, by show rk q + i < 2 ^ rb q; omega, (by decide : (-1 : Int) ≤ -1), (by decide : (-1 : Int) < 40)⟩
end
