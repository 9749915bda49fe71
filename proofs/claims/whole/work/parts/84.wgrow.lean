/-! the class's decoder grows -/
def WC (M : Nat → Int → Int) (N : Nat) : List wst → Nat → Prop
  | [], _ => True
  | e :: S, bg => e.1 = bg ∧ e.2.1 ≠ [] ∧ bg + e.2.1.length ≤ N ∧ e.2.1.length ≤ e.2.2.2 ∧ e.2.2.1 + e.2.2.2 = N ∧ okP e.2.1 ∧ S.length ≤ e.2.2.1 ∧ e.2.2.1 ≤ agc e.2.1 ∧ M 75 S.length = ((bg + e.2.1.length : Nat) : Int) ∧ M 76 S.length = (e.2.2.1 : Nat) ∧ SC M bg e.2.1 ∧ WC M N S (bg + e.2.1.length)
theorem WC_f {M M' : Nat → Int → Int} {N : Nat} : ∀ (S : List wst) (bg : Nat), WC M N S bg → (∀ r j, (r = 72 ∨ r = 73 ∨ r = 74) → (bg : Int) ≤ j → M' r j = M r j) → (∀ r j, (r = 75 ∨ r = 76) → 0 ≤ j → j < (S.length : Int) → M' r j = M r j) → WC M' N S bg
  | [], bg, _, _, _ => trivial
  | e :: S, bg, h, h1, h2 => by
    obtain ⟨a0, a1, a2, a3, a4, a5, a5', a5'', a6, a7, a9, a10⟩ := h
    have hl : ((e :: S).length : Int) = (S.length : Int) + 1 := rfl
    refine ⟨a0, a1, a2, a3, a4, a5, a5', a5'', ?_, ?_, fun i hi' => ?_, WC_f S _ a10 (fun r j q q0 => h1 r j q (by omega)) (fun r j q q0 q1 => h2 r j q q0 (by omega))⟩
    · rw [h2 _ _ (by decide) (by omega) (by omega)]; exact a6
    · rw [h2 _ _ (by decide) (by omega) (by omega)]; exact a7
    · unfold at4
      rw [h1 _ _ (by decide) (by omega), h1 _ _ (by decide) (by omega), h1 _ _ (by decide) (by omega)]
      exact a9 i hi'
/-- what growing changes in the class -/
def gcf (M M' : Nat → Int → Int) : Prop := ∀ r j, ¬ (71 ≤ r ∧ r ≤ 76) → ¬ (r = 70 ∧ (j = 1 ∨ j = 2 ∨ j = 3)) → M' r j = M r j
section
variable {L : Nat} {b : Bool} {Q : Option mV → mM → Prop} {M : Nat → Int → Int}
set_option maxHeartbeats 4000000 in
theorem De_grow_loop {N : Nat} {P0 : List pc} {T0 E0 X0 : Nat} {DD : Int → Nat} (hN : N ≤ 296) (hT0 : T0 ≤ 296) (hE0 : E0 ≤ 296)
    (h : ∀ M', gcf M M' → M' 70 1 = T0 → M' 70 3 = E0 → M' 70 2 = X0 → (∀ x ∈ P0, 0 ≤ x.2.2 → M' 71 x.2.2 = DD x.2.2) → Q none (mS L b M')) :
    ∀ (μ : Nat) (S : List wst) (bg n : Nat) (M1 : Nat → Int → Int) (l4 l5 l6 : Option mV) (tm te tx : Nat), smu S ≤ μ → n + smu S ≤ 591 → bg ≤ N → WC M1 N S bg → gcf M M1 → M1 70 1 = tm → M1 70 3 = te → M1 70 2 = tx → tm + sT S = T0 → te + sE S = E0 → max tx (sM S) = X0 → (∀ e ∈ S, ∀ x ∈ e.2.1, 0 ≤ x.2.2 → dD e.2.2.2 e.2.1 e.2.2.1 x.2.2 = DD x.2.2) → (∀ x ∈ P0, 0 ≤ x.2.2 → (∃ e ∈ S, x ∈ e.2.1) ∨ M1 71 x.2.2 = DD x.2.2) →
      Jd i_De_grow Q (0, 0) 32 [some (.inr (.inr 70)), some (.inl (bg : Int)), some (.inl (S.length : Int)), some (.inl (n : Int)), l4, l5, l6] [] (mS L b M1) := by
  have ht : isT 25 := Or.inl rfl
  have done : ∀ (bg n : Nat) (M1 : Nat → Int → Int) (l4 l5 l6 : Option mV) (tm te tx : Nat), gcf M M1 → M1 70 1 = tm → M1 70 3 = te → M1 70 2 = tx → tm + sT [] = T0 → te + sE [] = E0 → max tx (sM []) = X0 → (∀ x ∈ P0, 0 ≤ x.2.2 → (∃ e ∈ ([] : List wst), x ∈ e.2.1) ∨ M1 71 x.2.2 = DD x.2.2) →
      Jd i_De_grow Q (0, 0) 32 [some (.inr (.inr 70)), some (.inl (bg : Int)), some (.inl ((([] : List wst).length : Nat) : Int)), some (.inl (n : Int)), l4, l5, l6] [] (mS L b M1) := by
    intro bg n M1 l4 l5 l6 tm te tx hf h1 h2 h3 hT hE hX hD2
    have fin : Jd i_De_grow Q (0, 0) 178 [some (.inr (.inr 70)), some (.inl (bg : Int)), some (.inl ((([] : List wst).length : Nat) : Int)), some (.inl (n : Int)), l4, l5, l6] [] (mS L b M1) := by
      apply B_De_grow_178
      simp only [mwp, mst, mii, mll, mli, mi1, ml1, mr1, mir, mlr, mrr, miir, mlir, mget, mgi, mgl, mgr, mset, mset2, mkill, mput_t, mputr_t, mpop, mpsh, mrcv, mcnd, mtsw, mlsw, List.set_cons_zero, SH_16, SH_17, SH_18, SH_19, SH_20, SH_21, SH_22, SH_23, SH_24, SH_25, SH_26, SH_27, SH_28, SH_29, SH_30, SH_31, SH_32, SH_33, SH_34, SH_35, SH_36, SH_37, SH_38, SH_39, SH_40, SH_41, SH_42, SH_43, SH_44, SH_45, SH_46, SH_47, SH_48, SH_49, SH_50, SH_51, SH_52, SH_53, SH_54, SH_55, SH_56, SH_57, SH_58, SH_59, SH_60, SH_61, SH_62, SH_63, SH_64, SH_65, SH_66, SH_67, SH_68, SH_69, SH_70, SH_71, SH_72, SH_73, SH_74, SH_75, SH_76, SH_77, SH_78, SH_79, SH_80, SH_81, SH_82, SH_83, SH_84, SH_85, SH_86, SH_87, SH_88, SH_89, SH_90, SH_91, SH_92, SH_93, SH_94, SH_95, SH_96, SH_97, SH_98, SH_99, SH_100, SH_101, SH_102, SH_103, SH_104, SH_105, SH_106, SH_107, SH_108, SH_109, SH_110, SH_111, SH_112, SH_113, SH_114, SH_115, SH_116, SH_117, SH_118, SH_119, RF_16_0, RF_16_1, RF_16_2, RF_16_5, RF_16_6, RF_16_7, RF_16_8, RF_16_9, RF_17_0, RF_19_0, RF_19_1, RF_19_2, RF_19_3, RF_24_0, RF_25_1, RF_25_2, RF_25_4, RF_25_5, RF_25_6, RF_25_7, RF_25_8, RF_25_10, RF_25_11, RF_25_12, RF_25_13, RF_25_14, RF_25_16, RF_25_17, RF_40_1, RF_40_2, RF_40_4, RF_40_5, RF_40_6, RF_40_7, RF_40_8, RF_40_10, RF_40_11, RF_40_12, RF_40_13, RF_40_14, RF_40_16, RF_40_17, RF_55_0, RF_57_2, RF_57_3, RF_57_4, RF_57_5, RF_57_6, RF_57_7, RF_57_8, RF_57_9, RF_57_10, RF_57_11, RF_67_0, RF_67_1, RF_70_4, RF_70_5, RF_70_6, RF_70_7, RF_70_9, RF_70_10, RF_77_3, RF_80_0, RF_80_4, RF_80_5, RF_80_6, RF_80_7, RF_80_8, RF_80_9, RF_80_10, RF_80_11, RF_80_12, RF_80_13, RF_80_14, RF_80_15, RF_80_16, RF_80_17, RF_80_18, RF_80_19, RF_80_20, RF_80_23, RF_80_24, RF_80_25, RF_80_26, RF_80_27, RF_80_28, RF_80_29, RF_80_30, RF_80_31, RF_80_34, RF_80_43, RF_80_44, RF_80_45, RF_80_46, RF_80_47, RF_80_48, RF_80_49, RF_80_50, RF_80_51, RF_80_52, RF_80_53, RF_told, RF_draft, true_and, and_true, ne_eq, not_false_eq_true, not_true_eq_false, lCmp_eq0, lCmp_ne0, lCmp_lt0, lCmp_ge0, lCmp_gt0, lCmp_le0, Nat.reduceEqDiff, Nat.reduceLeDiff, Nat.reduceAdd, Nat.reduceLT, Int.reduceAdd, Int.reduceSub, Int.reduceMul, Int.reduceNeg, Int.reduceLT, Int.reduceLE, Int.reduceGT, Int.reduceGE, Int.reduceEq, Int.reduceNe, Int.reduceNatCast, Int.reduceToNat, reduceIte, false_and, and_false, false_implies, forall_const, or_true, true_or, or_false, false_or, Int.add_zero, Int.zero_add, i2B_i2B, mup_ap, b_De_grow_178]
      refine h M1 hf (by rw [h1, ← hT]; rfl) (by rw [h2, ← hE]; rfl) (by rw [h3, ← hX]; show (tx : Int) = ((max tx 0 : Nat) : Int); omega) (fun x hx hx0 => ?_)
      rcases hD2 x hx hx0 with ⟨e, he, _⟩ | w
      · cases he
      · exact w
    apply B_De_grow_32
    simp only [mwp, mst, mii, mll, mli, mi1, ml1, mr1, mir, mlr, mrr, miir, mlir, mget, mgi, mgl, mgr, mset, mset2, mkill, mput_t, mputr_t, mpop, mpsh, mrcv, mcnd, mtsw, mlsw, List.set_cons_zero, SH_16, SH_17, SH_18, SH_19, SH_20, SH_21, SH_22, SH_23, SH_24, SH_25, SH_26, SH_27, SH_28, SH_29, SH_30, SH_31, SH_32, SH_33, SH_34, SH_35, SH_36, SH_37, SH_38, SH_39, SH_40, SH_41, SH_42, SH_43, SH_44, SH_45, SH_46, SH_47, SH_48, SH_49, SH_50, SH_51, SH_52, SH_53, SH_54, SH_55, SH_56, SH_57, SH_58, SH_59, SH_60, SH_61, SH_62, SH_63, SH_64, SH_65, SH_66, SH_67, SH_68, SH_69, SH_70, SH_71, SH_72, SH_73, SH_74, SH_75, SH_76, SH_77, SH_78, SH_79, SH_80, SH_81, SH_82, SH_83, SH_84, SH_85, SH_86, SH_87, SH_88, SH_89, SH_90, SH_91, SH_92, SH_93, SH_94, SH_95, SH_96, SH_97, SH_98, SH_99, SH_100, SH_101, SH_102, SH_103, SH_104, SH_105, SH_106, SH_107, SH_108, SH_109, SH_110, SH_111, SH_112, SH_113, SH_114, SH_115, SH_116, SH_117, SH_118, SH_119, RF_16_0, RF_16_1, RF_16_2, RF_16_5, RF_16_6, RF_16_7, RF_16_8, RF_16_9, RF_17_0, RF_19_0, RF_19_1, RF_19_2, RF_19_3, RF_24_0, RF_25_1, RF_25_2, RF_25_4, RF_25_5, RF_25_6, RF_25_7, RF_25_8, RF_25_10, RF_25_11, RF_25_12, RF_25_13, RF_25_14, RF_25_16, RF_25_17, RF_40_1, RF_40_2, RF_40_4, RF_40_5, RF_40_6, RF_40_7, RF_40_8, RF_40_10, RF_40_11, RF_40_12, RF_40_13, RF_40_14, RF_40_16, RF_40_17, RF_55_0, RF_57_2, RF_57_3, RF_57_4, RF_57_5, RF_57_6, RF_57_7, RF_57_8, RF_57_9, RF_57_10, RF_57_11, RF_67_0, RF_67_1, RF_70_4, RF_70_5, RF_70_6, RF_70_7, RF_70_9, RF_70_10, RF_77_3, RF_80_0, RF_80_4, RF_80_5, RF_80_6, RF_80_7, RF_80_8, RF_80_9, RF_80_10, RF_80_11, RF_80_12, RF_80_13, RF_80_14, RF_80_15, RF_80_16, RF_80_17, RF_80_18, RF_80_19, RF_80_20, RF_80_23, RF_80_24, RF_80_25, RF_80_26, RF_80_27, RF_80_28, RF_80_29, RF_80_30, RF_80_31, RF_80_34, RF_80_43, RF_80_44, RF_80_45, RF_80_46, RF_80_47, RF_80_48, RF_80_49, RF_80_50, RF_80_51, RF_80_52, RF_80_53, RF_told, RF_draft, true_and, and_true, ne_eq, not_false_eq_true, not_true_eq_false, lCmp_eq0, lCmp_ne0, lCmp_lt0, lCmp_ge0, lCmp_gt0, lCmp_le0, Nat.reduceEqDiff, Nat.reduceLeDiff, Nat.reduceAdd, Nat.reduceLT, Int.reduceAdd, Int.reduceSub, Int.reduceMul, Int.reduceNeg, Int.reduceLT, Int.reduceLE, Int.reduceGT, Int.reduceGE, Int.reduceEq, Int.reduceNe, Int.reduceNatCast, Int.reduceToNat, reduceIte, false_and, and_false, false_implies, forall_const, or_true, true_or, or_false, false_or, Int.add_zero, Int.zero_add, i2B_i2B, mup_ap, b_De_grow_32]
    refine ⟨fun _ => fin, fun _ => ⟨fun _ => fin, fun v => absurd v (by simp)⟩⟩
  intro μ
  induction μ with
  | zero =>
    intro S bg n M1 l4 l5 l6 tm te tx hmu hn hbg hW hf h1 h2 h3 hT hE hX hD1 hD2
    cases S with
    | cons e S =>
      have := List.length_pos_iff.mpr hW.2.1
      have hs : (2 * e.2.1.length - 1) + smu S ≤ 0 := hmu
      omega
    | nil => exact done bg n M1 l4 l5 l6 tm te tx hf h1 h2 h3 hT hE hX hD2
  | succ μ ih =>
    intro S bg n M1 l4 l5 l6 tm te tx hmu hn hbg hW hf h1 h2 h3 hT hE hX hD1 hD2
    cases S with
    | nil => exact done bg n M1 l4 l5 l6 tm te tx hf h1 h2 h3 hT hE hX hD2
    | cons e S =>
      obtain ⟨a, P, d, f⟩ := e
      obtain ⟨a0, a1, a2, a3, a4, a5, a5', a5'', a6, a7, a9, a10⟩ := hW
      have a0 : a = bg := a0
      subst a0
      have a1 : P ≠ [] := a1
      have a2 : a + P.length ≤ N := a2
      have a3 : P.length ≤ f := a3
      have a4 : d + f = N := a4
      have a5 : okP P := a5
      have a5' : S.length ≤ d := a5'
      have a5'' : d ≤ agc P := a5''
      have hag : agc P ≤ 32 := agc_32
      have a6 : M1 75 S.length = ((a + P.length : Nat) : Int) := a6
      have a7 : M1 76 S.length = (d : Nat) := a7
      have a9 : SC M1 a P := a9
      have a10 : WC M1 N S (a + P.length) := a10
      have hmu : (2 * P.length - 1) + smu S ≤ μ + 1 := hmu
      have hn : n + ((2 * P.length - 1) + smu S) ≤ 591 := hn
      have hT : tm + (dT f P + sT S) = T0 := hT
      have hE : te + (dE f P + sE S) = E0 := hE
      have hX : max tx (max (dM f P d) (sM S)) = X0 := hX
      have hpos := List.length_pos_iff.mpr a1
      have hok : ok1 P := a5.2.2
      have eS : ((((a, P, d, f) :: S : List wst).length : Nat) : Int) - 1 = S.length := by show ((S.length + 1 : Nat) : Int) - 1 = S.length; omega
      have eS1 : ((((a, P, d, f) :: S : List wst).length : Nat) : Int) = (S.length : Int) + 1 := rfl
      obtain ⟨f', rfl⟩ : ∃ f', f = f' + 1 := ⟨f - 1, by omega⟩
      have hD1P : ∀ x ∈ P, 0 ≤ x.2.2 → dD (f' + 1) P d x.2.2 = DD x.2.2 := hD1 (a, P, d, f' + 1) List.mem_cons_self
      have hD1S : ∀ e ∈ S, ∀ x ∈ e.2.1, 0 ≤ x.2.2 → dD e.2.2.2 e.2.1 e.2.2.1 x.2.2 = DD x.2.2 := fun e he => hD1 e (List.mem_cons_of_mem _ he)
      rw [eS1]
      have eS2 : (S.length : Int) + 1 - 1 = S.length := by omega
      have hsl : S.length ≤ 32 := by omega
      apply B_De_grow_32
      simp only [mwp, mst, mii, mll, mli, mi1, ml1, mr1, mir, mlr, mrr, miir, mlir, mget, mgi, mgl, mgr, mset, mset2, mkill, mput_t, mputr_t, mpop, mpsh, mrcv, mcnd, mtsw, mlsw, List.set_cons_zero, SH_16, SH_17, SH_18, SH_19, SH_20, SH_21, SH_22, SH_23, SH_24, SH_25, SH_26, SH_27, SH_28, SH_29, SH_30, SH_31, SH_32, SH_33, SH_34, SH_35, SH_36, SH_37, SH_38, SH_39, SH_40, SH_41, SH_42, SH_43, SH_44, SH_45, SH_46, SH_47, SH_48, SH_49, SH_50, SH_51, SH_52, SH_53, SH_54, SH_55, SH_56, SH_57, SH_58, SH_59, SH_60, SH_61, SH_62, SH_63, SH_64, SH_65, SH_66, SH_67, SH_68, SH_69, SH_70, SH_71, SH_72, SH_73, SH_74, SH_75, SH_76, SH_77, SH_78, SH_79, SH_80, SH_81, SH_82, SH_83, SH_84, SH_85, SH_86, SH_87, SH_88, SH_89, SH_90, SH_91, SH_92, SH_93, SH_94, SH_95, SH_96, SH_97, SH_98, SH_99, SH_100, SH_101, SH_102, SH_103, SH_104, SH_105, SH_106, SH_107, SH_108, SH_109, SH_110, SH_111, SH_112, SH_113, SH_114, SH_115, SH_116, SH_117, SH_118, SH_119, RF_16_0, RF_16_1, RF_16_2, RF_16_5, RF_16_6, RF_16_7, RF_16_8, RF_16_9, RF_17_0, RF_19_0, RF_19_1, RF_19_2, RF_19_3, RF_24_0, RF_25_1, RF_25_2, RF_25_4, RF_25_5, RF_25_6, RF_25_7, RF_25_8, RF_25_10, RF_25_11, RF_25_12, RF_25_13, RF_25_14, RF_25_16, RF_25_17, RF_40_1, RF_40_2, RF_40_4, RF_40_5, RF_40_6, RF_40_7, RF_40_8, RF_40_10, RF_40_11, RF_40_12, RF_40_13, RF_40_14, RF_40_16, RF_40_17, RF_55_0, RF_57_2, RF_57_3, RF_57_4, RF_57_5, RF_57_6, RF_57_7, RF_57_8, RF_57_9, RF_57_10, RF_57_11, RF_67_0, RF_67_1, RF_70_4, RF_70_5, RF_70_6, RF_70_7, RF_70_9, RF_70_10, RF_77_3, RF_80_0, RF_80_4, RF_80_5, RF_80_6, RF_80_7, RF_80_8, RF_80_9, RF_80_10, RF_80_11, RF_80_12, RF_80_13, RF_80_14, RF_80_15, RF_80_16, RF_80_17, RF_80_18, RF_80_19, RF_80_20, RF_80_23, RF_80_24, RF_80_25, RF_80_26, RF_80_27, RF_80_28, RF_80_29, RF_80_30, RF_80_31, RF_80_34, RF_80_43, RF_80_44, RF_80_45, RF_80_46, RF_80_47, RF_80_48, RF_80_49, RF_80_50, RF_80_51, RF_80_52, RF_80_53, RF_told, RF_draft, true_and, and_true, ne_eq, not_false_eq_true, not_true_eq_false, lCmp_eq0, lCmp_ne0, lCmp_lt0, lCmp_ge0, lCmp_gt0, lCmp_le0, Nat.reduceEqDiff, Nat.reduceLeDiff, Nat.reduceAdd, Nat.reduceLT, Int.reduceAdd, Int.reduceSub, Int.reduceMul, Int.reduceNeg, Int.reduceLT, Int.reduceLE, Int.reduceGT, Int.reduceGE, Int.reduceEq, Int.reduceNe, Int.reduceNatCast, Int.reduceToNat, reduceIte, false_and, and_false, false_implies, forall_const, or_true, true_or, or_false, false_or, Int.add_zero, Int.zero_add, i2B_i2B, mup_ap, b_De_grow_32, eS2, a6, a7]
      refine ⟨fun v => absurd v (by omega), fun _ => ⟨fun v => absurd v (by omega), fun _ => ?_⟩⟩
      repeat (refine ⟨(by first | omega | (exact isT_16 ht) | rfl | decide), ?_⟩)
      refine De_isEnd_sp a9 (by omega) hok (fun hEnd => ?_) (fun hEnd => ?_)
      · -- an end
        have eT : dT (f' + 1) P = 0 := by rw [dT, if_pos hEnd]
        have eE : dE (f' + 1) P = 1 := by rw [dE, if_pos hEnd]
        have eM : dM (f' + 1) P d = d := by rw [dM, if_pos hEnd]
        have eD : ∀ o, dD (f' + 1) P d o = d := fun o => by rw [dD, if_pos hEnd]
        obtain ⟨x0, R0, hP⟩ : ∃ x0 R0, P = x0 :: R0 := by
          cases hq : P with
          | nil => exact absurd hq a1
          | cons x0 R0 => exact ⟨x0, R0, rfl⟩
        have hx0m : x0 ∈ P := by rw [hP]; exact List.mem_cons_self
        have hx0 : M1 74 a = x0.2.2 := (SC_at (A := []) a9 hP).2.2
        have hx0b := (hok x0 hx0m).2.2.2
        have hdx : ∀ x ∈ P, 0 ≤ x.2.2 → (d : Int) = DD x.2.2 := fun x hx hx0 => by
          have := hD1P x hx hx0
          rw [eD] at this
          omega
        apply B_De_grow_70
        simp only [mwp, mst, mii, mll, mli, mi1, ml1, mr1, mir, mlr, mrr, miir, mlir, mget, mgi, mgl, mgr, mset, mset2, mkill, mput_t, mputr_t, mpop, mpsh, mrcv, mcnd, mtsw, mlsw, List.set_cons_zero, SH_16, SH_17, SH_18, SH_19, SH_20, SH_21, SH_22, SH_23, SH_24, SH_25, SH_26, SH_27, SH_28, SH_29, SH_30, SH_31, SH_32, SH_33, SH_34, SH_35, SH_36, SH_37, SH_38, SH_39, SH_40, SH_41, SH_42, SH_43, SH_44, SH_45, SH_46, SH_47, SH_48, SH_49, SH_50, SH_51, SH_52, SH_53, SH_54, SH_55, SH_56, SH_57, SH_58, SH_59, SH_60, SH_61, SH_62, SH_63, SH_64, SH_65, SH_66, SH_67, SH_68, SH_69, SH_70, SH_71, SH_72, SH_73, SH_74, SH_75, SH_76, SH_77, SH_78, SH_79, SH_80, SH_81, SH_82, SH_83, SH_84, SH_85, SH_86, SH_87, SH_88, SH_89, SH_90, SH_91, SH_92, SH_93, SH_94, SH_95, SH_96, SH_97, SH_98, SH_99, SH_100, SH_101, SH_102, SH_103, SH_104, SH_105, SH_106, SH_107, SH_108, SH_109, SH_110, SH_111, SH_112, SH_113, SH_114, SH_115, SH_116, SH_117, SH_118, SH_119, RF_16_0, RF_16_1, RF_16_2, RF_16_5, RF_16_6, RF_16_7, RF_16_8, RF_16_9, RF_17_0, RF_19_0, RF_19_1, RF_19_2, RF_19_3, RF_24_0, RF_25_1, RF_25_2, RF_25_4, RF_25_5, RF_25_6, RF_25_7, RF_25_8, RF_25_10, RF_25_11, RF_25_12, RF_25_13, RF_25_14, RF_25_16, RF_25_17, RF_40_1, RF_40_2, RF_40_4, RF_40_5, RF_40_6, RF_40_7, RF_40_8, RF_40_10, RF_40_11, RF_40_12, RF_40_13, RF_40_14, RF_40_16, RF_40_17, RF_55_0, RF_57_2, RF_57_3, RF_57_4, RF_57_5, RF_57_6, RF_57_7, RF_57_8, RF_57_9, RF_57_10, RF_57_11, RF_67_0, RF_67_1, RF_70_4, RF_70_5, RF_70_6, RF_70_7, RF_70_9, RF_70_10, RF_77_3, RF_80_0, RF_80_4, RF_80_5, RF_80_6, RF_80_7, RF_80_8, RF_80_9, RF_80_10, RF_80_11, RF_80_12, RF_80_13, RF_80_14, RF_80_15, RF_80_16, RF_80_17, RF_80_18, RF_80_19, RF_80_20, RF_80_23, RF_80_24, RF_80_25, RF_80_26, RF_80_27, RF_80_28, RF_80_29, RF_80_30, RF_80_31, RF_80_34, RF_80_43, RF_80_44, RF_80_45, RF_80_46, RF_80_47, RF_80_48, RF_80_49, RF_80_50, RF_80_51, RF_80_52, RF_80_53, RF_told, RF_draft, true_and, and_true, ne_eq, not_false_eq_true, not_true_eq_false, lCmp_eq0, lCmp_ne0, lCmp_lt0, lCmp_ge0, lCmp_gt0, lCmp_le0, Nat.reduceEqDiff, Nat.reduceLeDiff, Nat.reduceAdd, Nat.reduceLT, Int.reduceAdd, Int.reduceSub, Int.reduceMul, Int.reduceNeg, Int.reduceLT, Int.reduceLE, Int.reduceGT, Int.reduceGE, Int.reduceEq, Int.reduceNe, Int.reduceNatCast, Int.reduceToNat, reduceIte, false_and, and_false, false_implies, forall_const, or_true, true_or, or_false, false_or, Int.add_zero, Int.zero_add, i2B_i2B, mup_ap, b_De_grow_70]
        apply B_De_grow_84
        simp only [mwp, mst, mii, mll, mli, mi1, ml1, mr1, mir, mlr, mrr, miir, mlir, mget, mgi, mgl, mgr, mset, mset2, mkill, mput_t, mputr_t, mpop, mpsh, mrcv, mcnd, mtsw, mlsw, List.set_cons_zero, SH_16, SH_17, SH_18, SH_19, SH_20, SH_21, SH_22, SH_23, SH_24, SH_25, SH_26, SH_27, SH_28, SH_29, SH_30, SH_31, SH_32, SH_33, SH_34, SH_35, SH_36, SH_37, SH_38, SH_39, SH_40, SH_41, SH_42, SH_43, SH_44, SH_45, SH_46, SH_47, SH_48, SH_49, SH_50, SH_51, SH_52, SH_53, SH_54, SH_55, SH_56, SH_57, SH_58, SH_59, SH_60, SH_61, SH_62, SH_63, SH_64, SH_65, SH_66, SH_67, SH_68, SH_69, SH_70, SH_71, SH_72, SH_73, SH_74, SH_75, SH_76, SH_77, SH_78, SH_79, SH_80, SH_81, SH_82, SH_83, SH_84, SH_85, SH_86, SH_87, SH_88, SH_89, SH_90, SH_91, SH_92, SH_93, SH_94, SH_95, SH_96, SH_97, SH_98, SH_99, SH_100, SH_101, SH_102, SH_103, SH_104, SH_105, SH_106, SH_107, SH_108, SH_109, SH_110, SH_111, SH_112, SH_113, SH_114, SH_115, SH_116, SH_117, SH_118, SH_119, RF_16_0, RF_16_1, RF_16_2, RF_16_5, RF_16_6, RF_16_7, RF_16_8, RF_16_9, RF_17_0, RF_19_0, RF_19_1, RF_19_2, RF_19_3, RF_24_0, RF_25_1, RF_25_2, RF_25_4, RF_25_5, RF_25_6, RF_25_7, RF_25_8, RF_25_10, RF_25_11, RF_25_12, RF_25_13, RF_25_14, RF_25_16, RF_25_17, RF_40_1, RF_40_2, RF_40_4, RF_40_5, RF_40_6, RF_40_7, RF_40_8, RF_40_10, RF_40_11, RF_40_12, RF_40_13, RF_40_14, RF_40_16, RF_40_17, RF_55_0, RF_57_2, RF_57_3, RF_57_4, RF_57_5, RF_57_6, RF_57_7, RF_57_8, RF_57_9, RF_57_10, RF_57_11, RF_67_0, RF_67_1, RF_70_4, RF_70_5, RF_70_6, RF_70_7, RF_70_9, RF_70_10, RF_77_3, RF_80_0, RF_80_4, RF_80_5, RF_80_6, RF_80_7, RF_80_8, RF_80_9, RF_80_10, RF_80_11, RF_80_12, RF_80_13, RF_80_14, RF_80_15, RF_80_16, RF_80_17, RF_80_18, RF_80_19, RF_80_20, RF_80_23, RF_80_24, RF_80_25, RF_80_26, RF_80_27, RF_80_28, RF_80_29, RF_80_30, RF_80_31, RF_80_34, RF_80_43, RF_80_44, RF_80_45, RF_80_46, RF_80_47, RF_80_48, RF_80_49, RF_80_50, RF_80_51, RF_80_52, RF_80_53, RF_told, RF_draft, true_and, and_true, ne_eq, not_false_eq_true, not_true_eq_false, lCmp_eq0, lCmp_ne0, lCmp_lt0, lCmp_ge0, lCmp_gt0, lCmp_le0, Nat.reduceEqDiff, Nat.reduceLeDiff, Nat.reduceAdd, Nat.reduceLT, Int.reduceAdd, Int.reduceSub, Int.reduceMul, Int.reduceNeg, Int.reduceLT, Int.reduceLE, Int.reduceGT, Int.reduceGE, Int.reduceEq, Int.reduceNe, Int.reduceNatCast, Int.reduceToNat, reduceIte, false_and, and_false, false_implies, forall_const, or_true, true_or, or_false, false_or, Int.add_zero, Int.zero_add, i2B_i2B, mup_ap, b_De_grow_84]
        apply B_De_grow_101
        simp only [mwp, mst, mii, mll, mli, mi1, ml1, mr1, mir, mlr, mrr, miir, mlir, mget, mgi, mgl, mgr, mset, mset2, mkill, mput_t, mputr_t, mpop, mpsh, mrcv, mcnd, mtsw, mlsw, List.set_cons_zero, SH_16, SH_17, SH_18, SH_19, SH_20, SH_21, SH_22, SH_23, SH_24, SH_25, SH_26, SH_27, SH_28, SH_29, SH_30, SH_31, SH_32, SH_33, SH_34, SH_35, SH_36, SH_37, SH_38, SH_39, SH_40, SH_41, SH_42, SH_43, SH_44, SH_45, SH_46, SH_47, SH_48, SH_49, SH_50, SH_51, SH_52, SH_53, SH_54, SH_55, SH_56, SH_57, SH_58, SH_59, SH_60, SH_61, SH_62, SH_63, SH_64, SH_65, SH_66, SH_67, SH_68, SH_69, SH_70, SH_71, SH_72, SH_73, SH_74, SH_75, SH_76, SH_77, SH_78, SH_79, SH_80, SH_81, SH_82, SH_83, SH_84, SH_85, SH_86, SH_87, SH_88, SH_89, SH_90, SH_91, SH_92, SH_93, SH_94, SH_95, SH_96, SH_97, SH_98, SH_99, SH_100, SH_101, SH_102, SH_103, SH_104, SH_105, SH_106, SH_107, SH_108, SH_109, SH_110, SH_111, SH_112, SH_113, SH_114, SH_115, SH_116, SH_117, SH_118, SH_119, RF_16_0, RF_16_1, RF_16_2, RF_16_5, RF_16_6, RF_16_7, RF_16_8, RF_16_9, RF_17_0, RF_19_0, RF_19_1, RF_19_2, RF_19_3, RF_24_0, RF_25_1, RF_25_2, RF_25_4, RF_25_5, RF_25_6, RF_25_7, RF_25_8, RF_25_10, RF_25_11, RF_25_12, RF_25_13, RF_25_14, RF_25_16, RF_25_17, RF_40_1, RF_40_2, RF_40_4, RF_40_5, RF_40_6, RF_40_7, RF_40_8, RF_40_10, RF_40_11, RF_40_12, RF_40_13, RF_40_14, RF_40_16, RF_40_17, RF_55_0, RF_57_2, RF_57_3, RF_57_4, RF_57_5, RF_57_6, RF_57_7, RF_57_8, RF_57_9, RF_57_10, RF_57_11, RF_67_0, RF_67_1, RF_70_4, RF_70_5, RF_70_6, RF_70_7, RF_70_9, RF_70_10, RF_77_3, RF_80_0, RF_80_4, RF_80_5, RF_80_6, RF_80_7, RF_80_8, RF_80_9, RF_80_10, RF_80_11, RF_80_12, RF_80_13, RF_80_14, RF_80_15, RF_80_16, RF_80_17, RF_80_18, RF_80_19, RF_80_20, RF_80_23, RF_80_24, RF_80_25, RF_80_26, RF_80_27, RF_80_28, RF_80_29, RF_80_30, RF_80_31, RF_80_34, RF_80_43, RF_80_44, RF_80_45, RF_80_46, RF_80_47, RF_80_48, RF_80_49, RF_80_50, RF_80_51, RF_80_52, RF_80_53, RF_told, RF_draft, true_and, and_true, ne_eq, not_false_eq_true, not_true_eq_false, lCmp_eq0, lCmp_ne0, lCmp_lt0, lCmp_ge0, lCmp_gt0, lCmp_le0, Nat.reduceEqDiff, Nat.reduceLeDiff, Nat.reduceAdd, Nat.reduceLT, Int.reduceAdd, Int.reduceSub, Int.reduceMul, Int.reduceNeg, Int.reduceLT, Int.reduceLE, Int.reduceGT, Int.reduceGE, Int.reduceEq, Int.reduceNe, Int.reduceNatCast, Int.reduceToNat, reduceIte, false_and, and_false, false_implies, forall_const, or_true, true_or, or_false, false_or, Int.add_zero, Int.zero_add, i2B_i2B, mup_ap, b_De_grow_101, hx0]
        repeat (refine ⟨(by first | omega | (exact isT_16 ht) | rfl | decide), ?_⟩)
        refine De_setEnd_sp hx0b.1 hx0b.2 h2 h3 (by omega) (by omega) (fun M2 f2 g2 g3 g4 => ?_)
        apply B_De_grow_113
        simp only [mwp, mst, mii, mll, mli, mi1, ml1, mr1, mir, mlr, mrr, miir, mlir, mget, mgi, mgl, mgr, mset, mset2, mkill, mput_t, mputr_t, mpop, mpsh, mrcv, mcnd, mtsw, mlsw, List.set_cons_zero, SH_16, SH_17, SH_18, SH_19, SH_20, SH_21, SH_22, SH_23, SH_24, SH_25, SH_26, SH_27, SH_28, SH_29, SH_30, SH_31, SH_32, SH_33, SH_34, SH_35, SH_36, SH_37, SH_38, SH_39, SH_40, SH_41, SH_42, SH_43, SH_44, SH_45, SH_46, SH_47, SH_48, SH_49, SH_50, SH_51, SH_52, SH_53, SH_54, SH_55, SH_56, SH_57, SH_58, SH_59, SH_60, SH_61, SH_62, SH_63, SH_64, SH_65, SH_66, SH_67, SH_68, SH_69, SH_70, SH_71, SH_72, SH_73, SH_74, SH_75, SH_76, SH_77, SH_78, SH_79, SH_80, SH_81, SH_82, SH_83, SH_84, SH_85, SH_86, SH_87, SH_88, SH_89, SH_90, SH_91, SH_92, SH_93, SH_94, SH_95, SH_96, SH_97, SH_98, SH_99, SH_100, SH_101, SH_102, SH_103, SH_104, SH_105, SH_106, SH_107, SH_108, SH_109, SH_110, SH_111, SH_112, SH_113, SH_114, SH_115, SH_116, SH_117, SH_118, SH_119, RF_16_0, RF_16_1, RF_16_2, RF_16_5, RF_16_6, RF_16_7, RF_16_8, RF_16_9, RF_17_0, RF_19_0, RF_19_1, RF_19_2, RF_19_3, RF_24_0, RF_25_1, RF_25_2, RF_25_4, RF_25_5, RF_25_6, RF_25_7, RF_25_8, RF_25_10, RF_25_11, RF_25_12, RF_25_13, RF_25_14, RF_25_16, RF_25_17, RF_40_1, RF_40_2, RF_40_4, RF_40_5, RF_40_6, RF_40_7, RF_40_8, RF_40_10, RF_40_11, RF_40_12, RF_40_13, RF_40_14, RF_40_16, RF_40_17, RF_55_0, RF_57_2, RF_57_3, RF_57_4, RF_57_5, RF_57_6, RF_57_7, RF_57_8, RF_57_9, RF_57_10, RF_57_11, RF_67_0, RF_67_1, RF_70_4, RF_70_5, RF_70_6, RF_70_7, RF_70_9, RF_70_10, RF_77_3, RF_80_0, RF_80_4, RF_80_5, RF_80_6, RF_80_7, RF_80_8, RF_80_9, RF_80_10, RF_80_11, RF_80_12, RF_80_13, RF_80_14, RF_80_15, RF_80_16, RF_80_17, RF_80_18, RF_80_19, RF_80_20, RF_80_23, RF_80_24, RF_80_25, RF_80_26, RF_80_27, RF_80_28, RF_80_29, RF_80_30, RF_80_31, RF_80_34, RF_80_43, RF_80_44, RF_80_45, RF_80_46, RF_80_47, RF_80_48, RF_80_49, RF_80_50, RF_80_51, RF_80_52, RF_80_53, RF_told, RF_draft, true_and, and_true, ne_eq, not_false_eq_true, not_true_eq_false, lCmp_eq0, lCmp_ne0, lCmp_lt0, lCmp_ge0, lCmp_gt0, lCmp_le0, Nat.reduceEqDiff, Nat.reduceLeDiff, Nat.reduceAdd, Nat.reduceLT, Int.reduceAdd, Int.reduceSub, Int.reduceMul, Int.reduceNeg, Int.reduceLT, Int.reduceLE, Int.reduceGT, Int.reduceGE, Int.reduceEq, Int.reduceNe, Int.reduceNatCast, Int.reduceToNat, reduceIte, false_and, and_false, false_implies, forall_const, or_true, true_or, or_false, false_or, Int.add_zero, Int.zero_add, i2B_i2B, mup_ap, b_De_grow_113]
        repeat (refine ⟨(by first | omega | (exact isT_16 ht) | rfl | decide), ?_⟩)
        apply B_De_grow_172
        simp only [mwp, mst, mii, mll, mli, mi1, ml1, mr1, mir, mlr, mrr, miir, mlir, mget, mgi, mgl, mgr, mset, mset2, mkill, mput_t, mputr_t, mpop, mpsh, mrcv, mcnd, mtsw, mlsw, List.set_cons_zero, SH_16, SH_17, SH_18, SH_19, SH_20, SH_21, SH_22, SH_23, SH_24, SH_25, SH_26, SH_27, SH_28, SH_29, SH_30, SH_31, SH_32, SH_33, SH_34, SH_35, SH_36, SH_37, SH_38, SH_39, SH_40, SH_41, SH_42, SH_43, SH_44, SH_45, SH_46, SH_47, SH_48, SH_49, SH_50, SH_51, SH_52, SH_53, SH_54, SH_55, SH_56, SH_57, SH_58, SH_59, SH_60, SH_61, SH_62, SH_63, SH_64, SH_65, SH_66, SH_67, SH_68, SH_69, SH_70, SH_71, SH_72, SH_73, SH_74, SH_75, SH_76, SH_77, SH_78, SH_79, SH_80, SH_81, SH_82, SH_83, SH_84, SH_85, SH_86, SH_87, SH_88, SH_89, SH_90, SH_91, SH_92, SH_93, SH_94, SH_95, SH_96, SH_97, SH_98, SH_99, SH_100, SH_101, SH_102, SH_103, SH_104, SH_105, SH_106, SH_107, SH_108, SH_109, SH_110, SH_111, SH_112, SH_113, SH_114, SH_115, SH_116, SH_117, SH_118, SH_119, RF_16_0, RF_16_1, RF_16_2, RF_16_5, RF_16_6, RF_16_7, RF_16_8, RF_16_9, RF_17_0, RF_19_0, RF_19_1, RF_19_2, RF_19_3, RF_24_0, RF_25_1, RF_25_2, RF_25_4, RF_25_5, RF_25_6, RF_25_7, RF_25_8, RF_25_10, RF_25_11, RF_25_12, RF_25_13, RF_25_14, RF_25_16, RF_25_17, RF_40_1, RF_40_2, RF_40_4, RF_40_5, RF_40_6, RF_40_7, RF_40_8, RF_40_10, RF_40_11, RF_40_12, RF_40_13, RF_40_14, RF_40_16, RF_40_17, RF_55_0, RF_57_2, RF_57_3, RF_57_4, RF_57_5, RF_57_6, RF_57_7, RF_57_8, RF_57_9, RF_57_10, RF_57_11, RF_67_0, RF_67_1, RF_70_4, RF_70_5, RF_70_6, RF_70_7, RF_70_9, RF_70_10, RF_77_3, RF_80_0, RF_80_4, RF_80_5, RF_80_6, RF_80_7, RF_80_8, RF_80_9, RF_80_10, RF_80_11, RF_80_12, RF_80_13, RF_80_14, RF_80_15, RF_80_16, RF_80_17, RF_80_18, RF_80_19, RF_80_20, RF_80_23, RF_80_24, RF_80_25, RF_80_26, RF_80_27, RF_80_28, RF_80_29, RF_80_30, RF_80_31, RF_80_34, RF_80_43, RF_80_44, RF_80_45, RF_80_46, RF_80_47, RF_80_48, RF_80_49, RF_80_50, RF_80_51, RF_80_52, RF_80_53, RF_told, RF_draft, true_and, and_true, ne_eq, not_false_eq_true, not_true_eq_false, lCmp_eq0, lCmp_ne0, lCmp_lt0, lCmp_ge0, lCmp_gt0, lCmp_le0, Nat.reduceEqDiff, Nat.reduceLeDiff, Nat.reduceAdd, Nat.reduceLT, Int.reduceAdd, Int.reduceSub, Int.reduceMul, Int.reduceNeg, Int.reduceLT, Int.reduceLE, Int.reduceGT, Int.reduceGE, Int.reduceEq, Int.reduceNe, Int.reduceNatCast, Int.reduceToNat, reduceIte, false_and, and_false, false_implies, forall_const, or_true, true_or, or_false, false_or, Int.add_zero, Int.zero_add, i2B_i2B, mup_ap, b_De_grow_172]
        repeat (refine ⟨(by first | omega | (exact isT_16 ht) | rfl | decide), ?_⟩)
        have key := ih S (a + P.length) (n + 1) M2 (some (.inl ((a + P.length : Nat) : Int))) (some (.inl (d : Int))) (some (.inl (-1))) tm (te + 1) (max tx d) (by omega) (by omega) (by omega) (WC_f S _ a10 (fun r j q _ => f2 r j (by omega) (by omega)) (fun r j q _ _ => f2 r j (by omega) (by omega))) (fun r j q1 q2 => ?_) ?_ g2 g3 (by omega) (by omega) (by omega) hD1S (fun x hx hxp => ?_)
        · rw [show ((n + 1 : Nat) : Int) = (n : Int) + 1 by omega] at key
          rw [show (S.length : Int) + 1 + -1 = S.length by omega]
          exact key
        · rw [f2 r j (by omega) (by omega)]
          exact hf r j q1 q2
        · rw [f2 _ _ (by decide) (by omega)]
          exact h1
        · rcases hD2 x hx hxp with ⟨e, he, hxe⟩ | w
          · rcases List.mem_cons.mp he with rfl | he
            · have hPx := isE_1 hEnd hxe hxp
              have : x = x0 := by
                rw [hP] at hPx
                exact (List.cons.inj hPx).1.symm
              subst this
              exact Or.inr (by rw [g4 hxp]; exact hdx x hxe hxp)
            · exact Or.inl ⟨e, he, hxe⟩
          · right
            by_cases v : x.2.2 = x0.2.2
            · rw [v, g4 (by omega)]
              exact hdx x0 hx0m (by omega)
            · rw [f2 _ _ (by omega) (by omega)]
              exact w
      · -- a test
        obtain ⟨bb, hbb, hbl, hb32, hz0, ho0, hzo⟩ := ask_ok (P := P) a5 (by omega) hEnd
        have hlea : ∀ x ∈ P, bb < x.2.1 := fun x hx => by
          have : lea P ≤ x.2.1 := (lea_le P 64).2.1 x hx
          omega
        have hag1 : ∀ (Z : List pc) (v : Bool), (∀ x ∈ Z, x ∈ P ∧ bt bb x = v) → agc P + 1 ≤ agc Z := by
          intro Z v hz
          refine agc_split hb32 hlea (fun x hx => (hz x hx).1) (fun x hx y hy => by rw [(hz x hx).2, (hz y hy).2]) ?_
          obtain ⟨x, hx⟩ := List.exists_mem_of_length_pos hz0
          obtain ⟨y, hy⟩ := List.exists_mem_of_length_pos ho0
          unfold zro at hx
          unfold one at hy
          rw [hbb] at hx hy
          have hx2 := List.mem_filter.mp hx
          have hy2 := List.mem_filter.mp hy
          refine ⟨x, hx2.1, y, hy2.1, ?_⟩
          have e1 : bt bb x = false := by simpa using hx2.2
          have e2 : bt bb y = true := hy2.2
          rw [e1, e2]
          decide
        have hag0 := hag1 [] true (fun x hx => by cases hx)
        have hag2 := agc_32 (P := [])
        apply B_De_grow_70
        simp only [mwp, mst, mii, mll, mli, mi1, ml1, mr1, mir, mlr, mrr, miir, mlir, mget, mgi, mgl, mgr, mset, mset2, mkill, mput_t, mputr_t, mpop, mpsh, mrcv, mcnd, mtsw, mlsw, List.set_cons_zero, SH_16, SH_17, SH_18, SH_19, SH_20, SH_21, SH_22, SH_23, SH_24, SH_25, SH_26, SH_27, SH_28, SH_29, SH_30, SH_31, SH_32, SH_33, SH_34, SH_35, SH_36, SH_37, SH_38, SH_39, SH_40, SH_41, SH_42, SH_43, SH_44, SH_45, SH_46, SH_47, SH_48, SH_49, SH_50, SH_51, SH_52, SH_53, SH_54, SH_55, SH_56, SH_57, SH_58, SH_59, SH_60, SH_61, SH_62, SH_63, SH_64, SH_65, SH_66, SH_67, SH_68, SH_69, SH_70, SH_71, SH_72, SH_73, SH_74, SH_75, SH_76, SH_77, SH_78, SH_79, SH_80, SH_81, SH_82, SH_83, SH_84, SH_85, SH_86, SH_87, SH_88, SH_89, SH_90, SH_91, SH_92, SH_93, SH_94, SH_95, SH_96, SH_97, SH_98, SH_99, SH_100, SH_101, SH_102, SH_103, SH_104, SH_105, SH_106, SH_107, SH_108, SH_109, SH_110, SH_111, SH_112, SH_113, SH_114, SH_115, SH_116, SH_117, SH_118, SH_119, RF_16_0, RF_16_1, RF_16_2, RF_16_5, RF_16_6, RF_16_7, RF_16_8, RF_16_9, RF_17_0, RF_19_0, RF_19_1, RF_19_2, RF_19_3, RF_24_0, RF_25_1, RF_25_2, RF_25_4, RF_25_5, RF_25_6, RF_25_7, RF_25_8, RF_25_10, RF_25_11, RF_25_12, RF_25_13, RF_25_14, RF_25_16, RF_25_17, RF_40_1, RF_40_2, RF_40_4, RF_40_5, RF_40_6, RF_40_7, RF_40_8, RF_40_10, RF_40_11, RF_40_12, RF_40_13, RF_40_14, RF_40_16, RF_40_17, RF_55_0, RF_57_2, RF_57_3, RF_57_4, RF_57_5, RF_57_6, RF_57_7, RF_57_8, RF_57_9, RF_57_10, RF_57_11, RF_67_0, RF_67_1, RF_70_4, RF_70_5, RF_70_6, RF_70_7, RF_70_9, RF_70_10, RF_77_3, RF_80_0, RF_80_4, RF_80_5, RF_80_6, RF_80_7, RF_80_8, RF_80_9, RF_80_10, RF_80_11, RF_80_12, RF_80_13, RF_80_14, RF_80_15, RF_80_16, RF_80_17, RF_80_18, RF_80_19, RF_80_20, RF_80_23, RF_80_24, RF_80_25, RF_80_26, RF_80_27, RF_80_28, RF_80_29, RF_80_30, RF_80_31, RF_80_34, RF_80_43, RF_80_44, RF_80_45, RF_80_46, RF_80_47, RF_80_48, RF_80_49, RF_80_50, RF_80_51, RF_80_52, RF_80_53, RF_told, RF_draft, true_and, and_true, ne_eq, not_false_eq_true, not_true_eq_false, lCmp_eq0, lCmp_ne0, lCmp_lt0, lCmp_ge0, lCmp_gt0, lCmp_le0, Nat.reduceEqDiff, Nat.reduceLeDiff, Nat.reduceAdd, Nat.reduceLT, Int.reduceAdd, Int.reduceSub, Int.reduceMul, Int.reduceNeg, Int.reduceLT, Int.reduceLE, Int.reduceGT, Int.reduceGE, Int.reduceEq, Int.reduceNe, Int.reduceNatCast, Int.reduceToNat, reduceIte, false_and, and_false, false_implies, forall_const, or_true, true_or, or_false, false_or, Int.add_zero, Int.zero_add, i2B_i2B, mup_ap, b_De_grow_70]
        apply B_De_grow_77
        simp only [mwp, mst, mii, mll, mli, mi1, ml1, mr1, mir, mlr, mrr, miir, mlir, mget, mgi, mgl, mgr, mset, mset2, mkill, mput_t, mputr_t, mpop, mpsh, mrcv, mcnd, mtsw, mlsw, List.set_cons_zero, SH_16, SH_17, SH_18, SH_19, SH_20, SH_21, SH_22, SH_23, SH_24, SH_25, SH_26, SH_27, SH_28, SH_29, SH_30, SH_31, SH_32, SH_33, SH_34, SH_35, SH_36, SH_37, SH_38, SH_39, SH_40, SH_41, SH_42, SH_43, SH_44, SH_45, SH_46, SH_47, SH_48, SH_49, SH_50, SH_51, SH_52, SH_53, SH_54, SH_55, SH_56, SH_57, SH_58, SH_59, SH_60, SH_61, SH_62, SH_63, SH_64, SH_65, SH_66, SH_67, SH_68, SH_69, SH_70, SH_71, SH_72, SH_73, SH_74, SH_75, SH_76, SH_77, SH_78, SH_79, SH_80, SH_81, SH_82, SH_83, SH_84, SH_85, SH_86, SH_87, SH_88, SH_89, SH_90, SH_91, SH_92, SH_93, SH_94, SH_95, SH_96, SH_97, SH_98, SH_99, SH_100, SH_101, SH_102, SH_103, SH_104, SH_105, SH_106, SH_107, SH_108, SH_109, SH_110, SH_111, SH_112, SH_113, SH_114, SH_115, SH_116, SH_117, SH_118, SH_119, RF_16_0, RF_16_1, RF_16_2, RF_16_5, RF_16_6, RF_16_7, RF_16_8, RF_16_9, RF_17_0, RF_19_0, RF_19_1, RF_19_2, RF_19_3, RF_24_0, RF_25_1, RF_25_2, RF_25_4, RF_25_5, RF_25_6, RF_25_7, RF_25_8, RF_25_10, RF_25_11, RF_25_12, RF_25_13, RF_25_14, RF_25_16, RF_25_17, RF_40_1, RF_40_2, RF_40_4, RF_40_5, RF_40_6, RF_40_7, RF_40_8, RF_40_10, RF_40_11, RF_40_12, RF_40_13, RF_40_14, RF_40_16, RF_40_17, RF_55_0, RF_57_2, RF_57_3, RF_57_4, RF_57_5, RF_57_6, RF_57_7, RF_57_8, RF_57_9, RF_57_10, RF_57_11, RF_67_0, RF_67_1, RF_70_4, RF_70_5, RF_70_6, RF_70_7, RF_70_9, RF_70_10, RF_77_3, RF_80_0, RF_80_4, RF_80_5, RF_80_6, RF_80_7, RF_80_8, RF_80_9, RF_80_10, RF_80_11, RF_80_12, RF_80_13, RF_80_14, RF_80_15, RF_80_16, RF_80_17, RF_80_18, RF_80_19, RF_80_20, RF_80_23, RF_80_24, RF_80_25, RF_80_26, RF_80_27, RF_80_28, RF_80_29, RF_80_30, RF_80_31, RF_80_34, RF_80_43, RF_80_44, RF_80_45, RF_80_46, RF_80_47, RF_80_48, RF_80_49, RF_80_50, RF_80_51, RF_80_52, RF_80_53, RF_told, RF_draft, true_and, and_true, ne_eq, not_false_eq_true, not_true_eq_false, lCmp_eq0, lCmp_ne0, lCmp_lt0, lCmp_ge0, lCmp_gt0, lCmp_le0, Nat.reduceEqDiff, Nat.reduceLeDiff, Nat.reduceAdd, Nat.reduceLT, Int.reduceAdd, Int.reduceSub, Int.reduceMul, Int.reduceNeg, Int.reduceLT, Int.reduceLE, Int.reduceGT, Int.reduceGE, Int.reduceEq, Int.reduceNe, Int.reduceNatCast, Int.reduceToNat, reduceIte, false_and, and_false, false_implies, forall_const, or_true, true_or, or_false, false_or, Int.add_zero, Int.zero_add, i2B_i2B, mup_ap, b_De_grow_77]
        repeat (refine ⟨(by first | omega | (exact isT_16 ht) | rfl | decide), ?_⟩)
        refine De_bitToAsk_sp a9 (by omega) hok a1 ?_
        rw [hbb]
        apply B_De_grow_84
        simp only [mwp, mst, mii, mll, mli, mi1, ml1, mr1, mir, mlr, mrr, miir, mlir, mget, mgi, mgl, mgr, mset, mset2, mkill, mput_t, mputr_t, mpop, mpsh, mrcv, mcnd, mtsw, mlsw, List.set_cons_zero, SH_16, SH_17, SH_18, SH_19, SH_20, SH_21, SH_22, SH_23, SH_24, SH_25, SH_26, SH_27, SH_28, SH_29, SH_30, SH_31, SH_32, SH_33, SH_34, SH_35, SH_36, SH_37, SH_38, SH_39, SH_40, SH_41, SH_42, SH_43, SH_44, SH_45, SH_46, SH_47, SH_48, SH_49, SH_50, SH_51, SH_52, SH_53, SH_54, SH_55, SH_56, SH_57, SH_58, SH_59, SH_60, SH_61, SH_62, SH_63, SH_64, SH_65, SH_66, SH_67, SH_68, SH_69, SH_70, SH_71, SH_72, SH_73, SH_74, SH_75, SH_76, SH_77, SH_78, SH_79, SH_80, SH_81, SH_82, SH_83, SH_84, SH_85, SH_86, SH_87, SH_88, SH_89, SH_90, SH_91, SH_92, SH_93, SH_94, SH_95, SH_96, SH_97, SH_98, SH_99, SH_100, SH_101, SH_102, SH_103, SH_104, SH_105, SH_106, SH_107, SH_108, SH_109, SH_110, SH_111, SH_112, SH_113, SH_114, SH_115, SH_116, SH_117, SH_118, SH_119, RF_16_0, RF_16_1, RF_16_2, RF_16_5, RF_16_6, RF_16_7, RF_16_8, RF_16_9, RF_17_0, RF_19_0, RF_19_1, RF_19_2, RF_19_3, RF_24_0, RF_25_1, RF_25_2, RF_25_4, RF_25_5, RF_25_6, RF_25_7, RF_25_8, RF_25_10, RF_25_11, RF_25_12, RF_25_13, RF_25_14, RF_25_16, RF_25_17, RF_40_1, RF_40_2, RF_40_4, RF_40_5, RF_40_6, RF_40_7, RF_40_8, RF_40_10, RF_40_11, RF_40_12, RF_40_13, RF_40_14, RF_40_16, RF_40_17, RF_55_0, RF_57_2, RF_57_3, RF_57_4, RF_57_5, RF_57_6, RF_57_7, RF_57_8, RF_57_9, RF_57_10, RF_57_11, RF_67_0, RF_67_1, RF_70_4, RF_70_5, RF_70_6, RF_70_7, RF_70_9, RF_70_10, RF_77_3, RF_80_0, RF_80_4, RF_80_5, RF_80_6, RF_80_7, RF_80_8, RF_80_9, RF_80_10, RF_80_11, RF_80_12, RF_80_13, RF_80_14, RF_80_15, RF_80_16, RF_80_17, RF_80_18, RF_80_19, RF_80_20, RF_80_23, RF_80_24, RF_80_25, RF_80_26, RF_80_27, RF_80_28, RF_80_29, RF_80_30, RF_80_31, RF_80_34, RF_80_43, RF_80_44, RF_80_45, RF_80_46, RF_80_47, RF_80_48, RF_80_49, RF_80_50, RF_80_51, RF_80_52, RF_80_53, RF_told, RF_draft, true_and, and_true, ne_eq, not_false_eq_true, not_true_eq_false, lCmp_eq0, lCmp_ne0, lCmp_lt0, lCmp_ge0, lCmp_gt0, lCmp_le0, Nat.reduceEqDiff, Nat.reduceLeDiff, Nat.reduceAdd, Nat.reduceLT, Int.reduceAdd, Int.reduceSub, Int.reduceMul, Int.reduceNeg, Int.reduceLT, Int.reduceLE, Int.reduceGT, Int.reduceGE, Int.reduceEq, Int.reduceNe, Int.reduceNatCast, Int.reduceToNat, reduceIte, false_and, and_false, false_implies, forall_const, or_true, true_or, or_false, false_or, Int.add_zero, Int.zero_add, i2B_i2B, mup_ap, b_De_grow_84]
        refine ⟨fun v => absurd v (by omega), fun _ => ?_⟩
        repeat (refine ⟨(by first | omega | (exact isT_16 ht) | rfl | decide), ?_⟩)
        refine ⟨fun _ => ?_, fun v => absurd v (by omega)⟩
        apply B_De_grow_122
        simp only [mwp, mst, mii, mll, mli, mi1, ml1, mr1, mir, mlr, mrr, miir, mlir, mget, mgi, mgl, mgr, mset, mset2, mkill, mput_t, mputr_t, mpop, mpsh, mrcv, mcnd, mtsw, mlsw, List.set_cons_zero, SH_16, SH_17, SH_18, SH_19, SH_20, SH_21, SH_22, SH_23, SH_24, SH_25, SH_26, SH_27, SH_28, SH_29, SH_30, SH_31, SH_32, SH_33, SH_34, SH_35, SH_36, SH_37, SH_38, SH_39, SH_40, SH_41, SH_42, SH_43, SH_44, SH_45, SH_46, SH_47, SH_48, SH_49, SH_50, SH_51, SH_52, SH_53, SH_54, SH_55, SH_56, SH_57, SH_58, SH_59, SH_60, SH_61, SH_62, SH_63, SH_64, SH_65, SH_66, SH_67, SH_68, SH_69, SH_70, SH_71, SH_72, SH_73, SH_74, SH_75, SH_76, SH_77, SH_78, SH_79, SH_80, SH_81, SH_82, SH_83, SH_84, SH_85, SH_86, SH_87, SH_88, SH_89, SH_90, SH_91, SH_92, SH_93, SH_94, SH_95, SH_96, SH_97, SH_98, SH_99, SH_100, SH_101, SH_102, SH_103, SH_104, SH_105, SH_106, SH_107, SH_108, SH_109, SH_110, SH_111, SH_112, SH_113, SH_114, SH_115, SH_116, SH_117, SH_118, SH_119, RF_16_0, RF_16_1, RF_16_2, RF_16_5, RF_16_6, RF_16_7, RF_16_8, RF_16_9, RF_17_0, RF_19_0, RF_19_1, RF_19_2, RF_19_3, RF_24_0, RF_25_1, RF_25_2, RF_25_4, RF_25_5, RF_25_6, RF_25_7, RF_25_8, RF_25_10, RF_25_11, RF_25_12, RF_25_13, RF_25_14, RF_25_16, RF_25_17, RF_40_1, RF_40_2, RF_40_4, RF_40_5, RF_40_6, RF_40_7, RF_40_8, RF_40_10, RF_40_11, RF_40_12, RF_40_13, RF_40_14, RF_40_16, RF_40_17, RF_55_0, RF_57_2, RF_57_3, RF_57_4, RF_57_5, RF_57_6, RF_57_7, RF_57_8, RF_57_9, RF_57_10, RF_57_11, RF_67_0, RF_67_1, RF_70_4, RF_70_5, RF_70_6, RF_70_7, RF_70_9, RF_70_10, RF_77_3, RF_80_0, RF_80_4, RF_80_5, RF_80_6, RF_80_7, RF_80_8, RF_80_9, RF_80_10, RF_80_11, RF_80_12, RF_80_13, RF_80_14, RF_80_15, RF_80_16, RF_80_17, RF_80_18, RF_80_19, RF_80_20, RF_80_23, RF_80_24, RF_80_25, RF_80_26, RF_80_27, RF_80_28, RF_80_29, RF_80_30, RF_80_31, RF_80_34, RF_80_43, RF_80_44, RF_80_45, RF_80_46, RF_80_47, RF_80_48, RF_80_49, RF_80_50, RF_80_51, RF_80_52, RF_80_53, RF_told, RF_draft, true_and, and_true, ne_eq, not_false_eq_true, not_true_eq_false, lCmp_eq0, lCmp_ne0, lCmp_lt0, lCmp_ge0, lCmp_gt0, lCmp_le0, Nat.reduceEqDiff, Nat.reduceLeDiff, Nat.reduceAdd, Nat.reduceLT, Int.reduceAdd, Int.reduceSub, Int.reduceMul, Int.reduceNeg, Int.reduceLT, Int.reduceLE, Int.reduceGT, Int.reduceGE, Int.reduceEq, Int.reduceNe, Int.reduceNatCast, Int.reduceToNat, reduceIte, false_and, and_false, false_implies, forall_const, or_true, true_or, or_false, false_or, Int.add_zero, Int.zero_add, i2B_i2B, mup_ap, b_De_grow_122, h1, eS2]
        repeat (refine ⟨(by first | omega | (exact isT_16 ht) | rfl | decide), ?_⟩)
        obtain ⟨M2, hM2⟩ : ∃ M2, mup (mup M1 70 1 ((tm : Int) + 1)) 76 S.length ((d : Int) + 1) = M2 := ⟨_, rfl⟩
        rw [hM2]
        have m2r : ∀ (r : Nat) (j : Int), ¬ (r = 70 ∧ j = 1) → ¬ (r = 76 ∧ j = S.length) → M2 r j = M1 r j := fun r j q1 q2 => by rw [← hM2, mup_ap, if_neg q2, mup_ap, if_neg q1]
        have hS2 : SC M2 a P := fun i hi => by
          unfold at4
          rw [m2r _ _ (by omega) (by omega), m2r _ _ (by omega) (by omega), m2r _ _ (by omega) (by omega)]
          exact a9 i hi
        have x1 : M2 70 1 = ((tm + 1 : Nat) : Int) := by rw [← hM2, mup_n (by decide), mup_s]; omega
        have x2 : M2 76 S.length = ((d + 1 : Nat) : Int) := by rw [← hM2, mup_s]; omega
        refine De_part_sp hS2 (by omega) hb32 hok hlea (fun M3 Z O hZ hO hSC hpf => ?_)
        have hZ' : Z.Perm (zro P) := by unfold zro; rw [hbb]; exact hZ
        have hO' : O.Perm (one P) := by unfold one; rw [hbb]; exact hO
        obtain ⟨k1, k2, k3, k4, k5, k6, k7, k8, k9⟩ := spl_ok (P := P) a5 (by omega) hEnd hZ' hO'
        obtain ⟨s1, s2, s3, s4⟩ := dec_split (f := f') hEnd hZ' hO' d
        have pz := List.length_pos_iff.mpr k3
        have po := List.length_pos_iff.mpr k4
        have hagZ := hag1 Z false (fun x hx => ⟨k8 x hx, by have := (List.mem_filter.mp (hZ.mem_iff.mp hx)).2; simpa using this⟩)
        have hagO := hag1 O true (fun x hx => ⟨k9 x hx, (List.mem_filter.mp (hO.mem_iff.mp hx)).2⟩)
        obtain ⟨sz, so⟩ := SC_app.mp hSC
        apply B_De_grow_158
        simp only [mwp, mst, mii, mll, mli, mi1, ml1, mr1, mir, mlr, mrr, miir, mlir, mget, mgi, mgl, mgr, mset, mset2, mkill, mput_t, mputr_t, mpop, mpsh, mrcv, mcnd, mtsw, mlsw, List.set_cons_zero, SH_16, SH_17, SH_18, SH_19, SH_20, SH_21, SH_22, SH_23, SH_24, SH_25, SH_26, SH_27, SH_28, SH_29, SH_30, SH_31, SH_32, SH_33, SH_34, SH_35, SH_36, SH_37, SH_38, SH_39, SH_40, SH_41, SH_42, SH_43, SH_44, SH_45, SH_46, SH_47, SH_48, SH_49, SH_50, SH_51, SH_52, SH_53, SH_54, SH_55, SH_56, SH_57, SH_58, SH_59, SH_60, SH_61, SH_62, SH_63, SH_64, SH_65, SH_66, SH_67, SH_68, SH_69, SH_70, SH_71, SH_72, SH_73, SH_74, SH_75, SH_76, SH_77, SH_78, SH_79, SH_80, SH_81, SH_82, SH_83, SH_84, SH_85, SH_86, SH_87, SH_88, SH_89, SH_90, SH_91, SH_92, SH_93, SH_94, SH_95, SH_96, SH_97, SH_98, SH_99, SH_100, SH_101, SH_102, SH_103, SH_104, SH_105, SH_106, SH_107, SH_108, SH_109, SH_110, SH_111, SH_112, SH_113, SH_114, SH_115, SH_116, SH_117, SH_118, SH_119, RF_16_0, RF_16_1, RF_16_2, RF_16_5, RF_16_6, RF_16_7, RF_16_8, RF_16_9, RF_17_0, RF_19_0, RF_19_1, RF_19_2, RF_19_3, RF_24_0, RF_25_1, RF_25_2, RF_25_4, RF_25_5, RF_25_6, RF_25_7, RF_25_8, RF_25_10, RF_25_11, RF_25_12, RF_25_13, RF_25_14, RF_25_16, RF_25_17, RF_40_1, RF_40_2, RF_40_4, RF_40_5, RF_40_6, RF_40_7, RF_40_8, RF_40_10, RF_40_11, RF_40_12, RF_40_13, RF_40_14, RF_40_16, RF_40_17, RF_55_0, RF_57_2, RF_57_3, RF_57_4, RF_57_5, RF_57_6, RF_57_7, RF_57_8, RF_57_9, RF_57_10, RF_57_11, RF_67_0, RF_67_1, RF_70_4, RF_70_5, RF_70_6, RF_70_7, RF_70_9, RF_70_10, RF_77_3, RF_80_0, RF_80_4, RF_80_5, RF_80_6, RF_80_7, RF_80_8, RF_80_9, RF_80_10, RF_80_11, RF_80_12, RF_80_13, RF_80_14, RF_80_15, RF_80_16, RF_80_17, RF_80_18, RF_80_19, RF_80_20, RF_80_23, RF_80_24, RF_80_25, RF_80_26, RF_80_27, RF_80_28, RF_80_29, RF_80_30, RF_80_31, RF_80_34, RF_80_43, RF_80_44, RF_80_45, RF_80_46, RF_80_47, RF_80_48, RF_80_49, RF_80_50, RF_80_51, RF_80_52, RF_80_53, RF_told, RF_draft, true_and, and_true, ne_eq, not_false_eq_true, not_true_eq_false, lCmp_eq0, lCmp_ne0, lCmp_lt0, lCmp_ge0, lCmp_gt0, lCmp_le0, Nat.reduceEqDiff, Nat.reduceLeDiff, Nat.reduceAdd, Nat.reduceLT, Int.reduceAdd, Int.reduceSub, Int.reduceMul, Int.reduceNeg, Int.reduceLT, Int.reduceLE, Int.reduceGT, Int.reduceGE, Int.reduceEq, Int.reduceNe, Int.reduceNatCast, Int.reduceToNat, reduceIte, false_and, and_false, false_implies, forall_const, or_true, true_or, or_false, false_or, Int.add_zero, Int.zero_add, i2B_i2B, mup_ap, b_De_grow_158]
        repeat (refine ⟨(by first | omega | (exact isT_16 ht) | rfl | decide), ?_⟩)
        apply B_De_grow_172
        simp only [mwp, mst, mii, mll, mli, mi1, ml1, mr1, mir, mlr, mrr, miir, mlir, mget, mgi, mgl, mgr, mset, mset2, mkill, mput_t, mputr_t, mpop, mpsh, mrcv, mcnd, mtsw, mlsw, List.set_cons_zero, SH_16, SH_17, SH_18, SH_19, SH_20, SH_21, SH_22, SH_23, SH_24, SH_25, SH_26, SH_27, SH_28, SH_29, SH_30, SH_31, SH_32, SH_33, SH_34, SH_35, SH_36, SH_37, SH_38, SH_39, SH_40, SH_41, SH_42, SH_43, SH_44, SH_45, SH_46, SH_47, SH_48, SH_49, SH_50, SH_51, SH_52, SH_53, SH_54, SH_55, SH_56, SH_57, SH_58, SH_59, SH_60, SH_61, SH_62, SH_63, SH_64, SH_65, SH_66, SH_67, SH_68, SH_69, SH_70, SH_71, SH_72, SH_73, SH_74, SH_75, SH_76, SH_77, SH_78, SH_79, SH_80, SH_81, SH_82, SH_83, SH_84, SH_85, SH_86, SH_87, SH_88, SH_89, SH_90, SH_91, SH_92, SH_93, SH_94, SH_95, SH_96, SH_97, SH_98, SH_99, SH_100, SH_101, SH_102, SH_103, SH_104, SH_105, SH_106, SH_107, SH_108, SH_109, SH_110, SH_111, SH_112, SH_113, SH_114, SH_115, SH_116, SH_117, SH_118, SH_119, RF_16_0, RF_16_1, RF_16_2, RF_16_5, RF_16_6, RF_16_7, RF_16_8, RF_16_9, RF_17_0, RF_19_0, RF_19_1, RF_19_2, RF_19_3, RF_24_0, RF_25_1, RF_25_2, RF_25_4, RF_25_5, RF_25_6, RF_25_7, RF_25_8, RF_25_10, RF_25_11, RF_25_12, RF_25_13, RF_25_14, RF_25_16, RF_25_17, RF_40_1, RF_40_2, RF_40_4, RF_40_5, RF_40_6, RF_40_7, RF_40_8, RF_40_10, RF_40_11, RF_40_12, RF_40_13, RF_40_14, RF_40_16, RF_40_17, RF_55_0, RF_57_2, RF_57_3, RF_57_4, RF_57_5, RF_57_6, RF_57_7, RF_57_8, RF_57_9, RF_57_10, RF_57_11, RF_67_0, RF_67_1, RF_70_4, RF_70_5, RF_70_6, RF_70_7, RF_70_9, RF_70_10, RF_77_3, RF_80_0, RF_80_4, RF_80_5, RF_80_6, RF_80_7, RF_80_8, RF_80_9, RF_80_10, RF_80_11, RF_80_12, RF_80_13, RF_80_14, RF_80_15, RF_80_16, RF_80_17, RF_80_18, RF_80_19, RF_80_20, RF_80_23, RF_80_24, RF_80_25, RF_80_26, RF_80_27, RF_80_28, RF_80_29, RF_80_30, RF_80_31, RF_80_34, RF_80_43, RF_80_44, RF_80_45, RF_80_46, RF_80_47, RF_80_48, RF_80_49, RF_80_50, RF_80_51, RF_80_52, RF_80_53, RF_told, RF_draft, true_and, and_true, ne_eq, not_false_eq_true, not_true_eq_false, lCmp_eq0, lCmp_ne0, lCmp_lt0, lCmp_ge0, lCmp_gt0, lCmp_le0, Nat.reduceEqDiff, Nat.reduceLeDiff, Nat.reduceAdd, Nat.reduceLT, Int.reduceAdd, Int.reduceSub, Int.reduceMul, Int.reduceNeg, Int.reduceLT, Int.reduceLE, Int.reduceGT, Int.reduceGE, Int.reduceEq, Int.reduceNe, Int.reduceNatCast, Int.reduceToNat, reduceIte, false_and, and_false, false_implies, forall_const, or_true, true_or, or_false, false_or, Int.add_zero, Int.zero_add, i2B_i2B, mup_ap, b_De_grow_172]
        repeat (refine ⟨(by first | omega | (exact isT_16 ht) | rfl | decide), ?_⟩)
        obtain ⟨M4, hM4⟩ : ∃ M4, mup (mup M3 75 ((S.length : Int) + 1) ((a + Z.length : Nat) : Int)) 76 ((S.length : Int) + 1) ((d : Int) + 1) = M4 := ⟨_, rfl⟩
        rw [hM4]
        have m4r : ∀ (r : Nat) (j : Int), ¬ ((r = 75 ∨ r = 76) ∧ j = (S.length : Int) + 1) → M4 r j = M3 r j := fun r j q => by rw [← hM4, mup_ap, if_neg (by omega), mup_ap, if_neg (by omega)]
        have w1 : M4 75 S.length = ((a + P.length : Nat) : Int) := by
          rw [m4r _ _ (by omega), hpf _ _ (by omega), m2r _ _ (by omega) (by omega)]
          exact a6
        have w2 : M4 76 S.length = ((d + 1 : Nat) : Int) := by
          rw [m4r _ _ (by omega), hpf _ _ (by omega)]
          exact x2
        have w3 : M4 75 ((S.length : Int) + 1) = ((a + Z.length : Nat) : Int) := by
          rw [← hM4, mup_n (by decide), mup_s]
        have w4 : M4 76 ((S.length : Int) + 1) = ((d + 1 : Nat) : Int) := by
          rw [← hM4, mup_s]
          omega
        have hSz : SC M4 a Z := fun i hi => by
          unfold at4
          rw [m4r _ _ (by omega), m4r _ _ (by omega), m4r _ _ (by omega)]
          exact sz i hi
        have hSo : SC M4 (a + Z.length) O := fun i hi => by
          unfold at4
          rw [m4r _ _ (by omega), m4r _ _ (by omega), m4r _ _ (by omega)]
          exact so i hi
        have hf4 : gcf M M4 := by
          intro r j q1 q2
          rw [m4r r j (by omega), hpf r j (by omega), m2r r j (by omega) (by omega)]
          exact hf r j q1 q2
        have eZO : a + Z.length + O.length = a + P.length := by omega
        have hWo : WC M4 N ((a + Z.length, O, d + 1, f') :: S) (a + Z.length) := ⟨rfl, k4, by show a + Z.length + O.length ≤ N; omega, by show O.length ≤ f'; omega, by show d + 1 + f' = N; omega, k2, by show S.length ≤ d + 1; omega, by show d + 1 ≤ agc O; omega, by show M4 75 S.length = ((a + Z.length + O.length : Nat) : Int); rw [eZO]; exact w1, w2, hSo, by
          show WC M4 N S (a + Z.length + O.length)
          rw [eZO]
          refine WC_f S _ a10 (fun r j q q0 => ?_) (fun r j q q0 q1 => ?_)
          · rw [m4r r j (by omega), hpf r j (by omega), m2r r j (by omega) (by omega)]
          · rw [m4r r j (by omega), hpf r j (by omega), m2r r j (by omega) (by omega)]⟩
        have hWz : WC M4 N ((a, Z, d + 1, f') :: (a + Z.length, O, d + 1, f') :: S) a := ⟨rfl, k3, by show a + Z.length ≤ N; omega, by show Z.length ≤ f'; omega, by show d + 1 + f' = N; omega, k1, by show S.length + 1 ≤ d + 1; omega, by show d + 1 ≤ agc Z; omega, w3, w4, hSz, hWo⟩
        have key := ih ((a, Z, d + 1, f') :: (a + Z.length, O, d + 1, f') :: S) a (n + 1) M4 (some (.inl ((a + P.length : Nat) : Int))) (some (.inl (d : Int))) (some (.inl (bb : Int))) (tm + 1) te tx (by show (2 * Z.length - 1) + ((2 * O.length - 1) + smu S) ≤ μ; omega) (by show n + 1 + ((2 * Z.length - 1) + ((2 * O.length - 1) + smu S)) ≤ 591; omega) hbg hWz hf4 ?_ ?_ ?_ ?_ ?_ ?_ ?_ ?_
        · rw [show ((n + 1 : Nat) : Int) = (n : Int) + 1 by omega] at key
          exact key
        · rw [m4r _ _ (by omega), hpf _ _ (by omega)]; exact x1
        · rw [m4r _ _ (by omega), hpf _ _ (by omega), m2r _ _ (by omega) (by omega)]; exact h2
        · rw [m4r _ _ (by omega), hpf _ _ (by omega), m2r _ _ (by omega) (by omega)]; exact h3
        · show tm + 1 + (dT f' Z + (dT f' O + sT S)) = T0; omega
        · show te + (dE f' Z + (dE f' O + sE S)) = E0; omega
        · show max tx (max (dM f' Z (d + 1)) (max (dM f' O (d + 1)) (sM S))) = X0; omega
        · intro e he x hx hx0
          rcases List.mem_cons.mp he with rfl | he
          · have := hD1P x (k8 x hx) hx0
            rw [s4, if_pos (List.any_eq_true.mpr ⟨x, hx, by simp⟩)] at this
            exact this
          · rcases List.mem_cons.mp he with rfl | he
            · have := hD1P x (k9 x hx) hx0
              rw [s4, k6 x hx hx0] at this
              exact this
            · exact hD1S e he x hx hx0
        · intro x hx hx0
          rcases hD2 x hx hx0 with ⟨e, he, hxe⟩ | w
          · left
            rcases List.mem_cons.mp he with rfl | he
            · rcases k7 x hxe with v | v
              · exact ⟨_, List.mem_cons_self, v⟩
              · exact ⟨_, List.mem_cons_of_mem _ List.mem_cons_self, v⟩
            · exact ⟨e, List.mem_cons_of_mem _ (List.mem_cons_of_mem _ he), hxe⟩
          · right
            rw [m4r _ _ (by omega), hpf _ _ (by omega), m2r _ _ (by omega) (by omega)]
            exact w
end
