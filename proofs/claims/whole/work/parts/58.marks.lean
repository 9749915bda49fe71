/-! the row of MARKS -/
section
variable {n nr : Nat} {mb rb rm : Nat → Nat}
theorem oL_s {m c k : Nat} : oL mb m (c + 1) k = if mb k = m then (k, m, 1) :: oL mb m c (k + 1) else oL mb m c (k + 1) := by
  unfold oL
  rw [List.range'_succ]
  by_cases h : mb k = m
  · rw [List.filter_cons_of_pos (by simpa using h), if_pos h]
    rfl
  · rw [List.filter_cons_of_neg (by simpa using h), if_neg h]
theorem rL_s {m c k : Nat} : rL rb rm m (c + 1) k = if rb k = m then (40 + k, m, rm k) :: rL rb rm m c (k + 1) else rL rb rm m c (k + 1) := by
  unfold rL
  rw [List.range'_succ]
  by_cases h : rb k = m
  · rw [List.filter_cons_of_pos (by simpa using h), if_pos h]
    rfl
  · rw [List.filter_cons_of_neg (by simpa using h), if_neg h]
theorem mem_oL {m c k : Nat} {q : Nat × Nat × Nat} : q ∈ oL mb m c k ↔ ∃ i, k ≤ i ∧ i < k + c ∧ mb i = m ∧ q = (i, m, 1) := by
  unfold oL
  rw [List.mem_map]
  constructor
  · rintro ⟨i, hi, rfl⟩
    obtain ⟨h1, h2⟩ := List.mem_filter.mp hi
    obtain ⟨j, hj, rfl⟩ := List.mem_range'.mp h1
    exact ⟨_, by omega, by omega, by simpa using h2, rfl⟩
  · rintro ⟨i, h1, h2, h3, rfl⟩
    exact ⟨i, List.mem_filter.mpr ⟨List.mem_range'.mpr ⟨i - k, by omega, by omega⟩, by simpa using h3⟩, rfl⟩
theorem mem_rL {m c k : Nat} {q : Nat × Nat × Nat} : q ∈ rL rb rm m c k ↔ ∃ i, k ≤ i ∧ i < k + c ∧ rb i = m ∧ q = (40 + i, m, rm i) := by
  unfold rL
  rw [List.mem_map]
  constructor
  · rintro ⟨i, hi, rfl⟩
    obtain ⟨h1, h2⟩ := List.mem_filter.mp hi
    obtain ⟨j, hj, rfl⟩ := List.mem_range'.mp h1
    exact ⟨_, by omega, by omega, by simpa using h2, rfl⟩
  · rintro ⟨i, h1, h2, h3, rfl⟩
    exact ⟨i, List.mem_filter.mpr ⟨List.mem_range'.mpr ⟨i - k, by omega, by omega⟩, by simpa using h3⟩, rfl⟩
theorem mem_aL {q : Nat × Nat × Nat} : ∀ (c m : Nat), q ∈ aL n nr mb rb rm c m ↔ (∃ i, i < n ∧ m ≤ mb i ∧ mb i < m + c ∧ q = (i, mb i, 1)) ∨ (∃ i, i < nr ∧ m ≤ rb i ∧ rb i < m + c ∧ q = (40 + i, rb i, rm i))
  | 0, m => by
    constructor
    · intro h; cases h
    · rintro (⟨i, h1, h2, h3, _⟩ | ⟨i, h1, h2, h3, _⟩) <;> omega
  | c + 1, m => by
    rw [aL, List.mem_append, List.mem_append, mem_oL, mem_rL, mem_aL c (m + 1)]
    constructor
    · rintro (⟨i, h1, h2, h3, rfl⟩ | ⟨i, h1, h2, h3, rfl⟩ | ⟨i, h1, h2, h3, rfl⟩ | ⟨i, h1, h2, h3, rfl⟩)
      · exact Or.inl ⟨i, by omega, by omega, by omega, by rw [h3]⟩
      · exact Or.inr ⟨i, by omega, by omega, by omega, by rw [h3]⟩
      · exact Or.inl ⟨i, by omega, by omega, by omega, rfl⟩
      · exact Or.inr ⟨i, by omega, by omega, by omega, rfl⟩
    · rintro (⟨i, h1, h2, h3, rfl⟩ | ⟨i, h1, h2, h3, rfl⟩)
      · by_cases w : mb i = m
        · exact Or.inl ⟨i, by omega, by omega, w, by rw [w]⟩
        · exact Or.inr (Or.inr (Or.inl ⟨i, h1, by omega, by omega, rfl⟩))
      · by_cases w : rb i = m
        · exact Or.inr (Or.inl ⟨i, by omega, by omega, w, by rw [w]⟩)
        · exact Or.inr (Or.inr (Or.inr ⟨i, h1, by omega, by omega, rfl⟩))
theorem srt_mono {W len len' : Nat} {R : List (Nat × Nat × Nat)} (h : srt W len R) (hl : len' ≤ len) : srt W len' R := by
  cases R with
  | nil => trivial
  | cons p R => exact ⟨by have := h.1; omega, h.2⟩
theorem srt_oL {W m : Nat} {B : List (Nat × Nat × Nat)} (hm : m ≤ W) (hB : srt W m B) : ∀ (c k len : Nat), len ≤ m → (∀ q ∈ B, ∀ i, k ≤ i → i < k + c → mb i = m → q.1 ≠ i) → srt W len (oL mb m c k ++ B)
  | 0, k, len, hl, _ => srt_mono hB hl
  | c + 1, k, len, hl, h => by
    have h' : ∀ q ∈ B, ∀ i, k + 1 ≤ i → i < k + 1 + c → mb i = m → q.1 ≠ i := fun q hq i h1 h2 => h q hq i (by omega) (by omega)
    rw [oL_s]
    split
    · rename_i w
      refine ⟨hl, hm, fun q hq => ?_, srt_oL hm hB c (k + 1) m (Nat.le_refl _) h'⟩
      rcases List.mem_append.mp hq with hq | hq
      · obtain ⟨i, h1, _, _, rfl⟩ := mem_oL.mp hq
        show i ≠ k
        omega
      · exact h q hq k (by omega) (by omega) w
    · exact srt_oL hm hB c (k + 1) len hl h'
theorem srt_rL {W m : Nat} {B : List (Nat × Nat × Nat)} (hm : m ≤ W) (hB : srt W m B) : ∀ (c k len : Nat), len ≤ m → (∀ q ∈ B, ∀ i, k ≤ i → i < k + c → rb i = m → q.1 ≠ 40 + i) → srt W len (rL rb rm m c k ++ B)
  | 0, k, len, hl, _ => srt_mono hB hl
  | c + 1, k, len, hl, h => by
    have h' : ∀ q ∈ B, ∀ i, k + 1 ≤ i → i < k + 1 + c → rb i = m → q.1 ≠ 40 + i := fun q hq i h1 h2 => h q hq i (by omega) (by omega)
    rw [rL_s]
    split
    · rename_i w
      refine ⟨hl, hm, fun q hq => ?_, srt_rL hm hB c (k + 1) m (Nat.le_refl _) h'⟩
      rcases List.mem_append.mp hq with hq | hq
      · obtain ⟨i, h1, _, _, rfl⟩ := mem_rL.mp hq
        show 40 + i ≠ 40 + k
        omega
      · exact h q hq k (by omega) (by omega) w
    · exact srt_rL hm hB c (k + 1) len hl h'
theorem srt_aL {W : Nat} (hn : n ≤ 40) : ∀ (c m len : Nat), c + m ≤ W + 1 → len ≤ m → srt W len (aL n nr mb rb rm c m)
  | 0, m, len, _, _ => trivial
  | c + 1, m, len, h, hl => by
    rw [aL]
    have hA : srt W m (aL n nr mb rb rm c (m + 1)) := srt_aL hn c (m + 1) m (by omega) (by omega)
    refine srt_oL (by omega) (srt_rL (by omega) hA nr 0 m (Nat.le_refl _) (fun q hq i h1 h2 h3 => ?_)) n 0 len hl (fun q hq i h1 h2 h3 => ?_)
    · rcases (mem_aL c (m + 1)).mp hq with ⟨j, h4, h5, h6, rfl⟩ | ⟨j, h4, h5, h6, rfl⟩
      · show j ≠ 40 + i; omega
      · show 40 + j ≠ 40 + i
        intro e
        have : j = i := by omega
        subst this
        omega
    · rcases List.mem_append.mp hq with hq | hq
      · obtain ⟨j, h4, h5, h6, rfl⟩ := mem_rL.mp hq
        show 40 + j ≠ i; omega
      · rcases (mem_aL c (m + 1)).mp hq with ⟨j, h4, h5, h6, rfl⟩ | ⟨j, h4, h5, h6, rfl⟩
        · show j ≠ i
          intro e
          subst e
          omega
        · show 40 + j ≠ i; omega
end
/-- the MARK of an ORDER k, of a room r (as 40 + r) -/
def mkF (n nr : Nat) (mb rb rm : Nat → Nat) (W : Nat) (x : Nat) : Nat := asg (aL n nr mb rb rm W 1) 0 0 x
section
variable {L : Nat} {b : Bool} {Q : Option mV → mM → Prop} {t : Nat} {u : Int} {M : Nat → Int → Int} {n nr : Nat} {mb rb rm : Nat → Nat}
def mkf (a c : Nat) (M M' : Nat → Int → Int) : Prop := ∀ r, r ≠ a → r ≠ c → M' r = M r
theorem mkf_m {a c x : Nat} {i v : Int} {M M' : Nat → Int → Int} (h : mkf a c M M') (hx : x = a ∨ x = c) : mkf a c M (mup M' x i v) := by
  intro r h1 h2
  rw [mup_n (by omega), h r h1 h2]
set_option maxHeartbeats 2000000 in
theorem La_setMarks_sp {W : Nat} (ht : isT t) (hu : u = 8 ∨ u = 16) (hW : (W : Int) = 2 * u) (hun : M 57 0 = u) (ho : M t 3 = n) (hn : n ≤ 40) (hr : M t 15 = nr) (hnr : nr ≤ 4) (hmb : ∀ k : Nat, k < n → M 59 k = mb k) (hrb : ∀ k : Nat, k < nr → M 63 k = rb k) (hrm : ∀ k : Nat, k < nr → M (t + 13) k = rm k) (hrm2 : ∀ k : Nat, k < nr → rm k ≤ 64)
    (h : ∀ M', mkf 60 64 M M' → (∀ k : Nat, k < n → 1 ≤ mb k → mb k ≤ W → M' 60 k = mkF n nr mb rb rm W k) → (∀ k : Nat, k < nr → 1 ≤ rb k → rb k ≤ W → M' 64 k = mkF n nr mb rb rm W (40 + k)) → Q none (mS L b M')) : Cl i_La_setMarks [.inr (.inr 57), .inr (.inr t)] (mS L b M) Q := by
  have ht' : t = 25 ∨ t = 40 := ht
  have h51 : (t = 51) = False := eq_false (by omega)
  obtain ⟨F, hF⟩ : ∃ F, mkF n nr mb rb rm W = F := ⟨_, rfl⟩
  rw [hF] at h
  have fr : ∀ M1 : Nat → Int → Int, mkf 60 64 M M1 → M1 57 0 = u ∧ M1 t 3 = n ∧ M1 t 15 = nr ∧ (∀ k : Nat, k < n → M1 59 k = mb k) ∧ (∀ k : Nat, k < nr → M1 63 k = rb k) ∧ (∀ k : Nat, k < nr → M1 (t + 13) k = rm k) := by
    intro M1 hf
    rw [hf 57 (by decide) (by decide), hf t (by omega) (by omega), hf 59 (by decide) (by decide), hf 63 (by decide) (by decide), hf (t + 13) (by omega) (by omega)]
    exact ⟨hun, ho, hr, hmb, hrb, hrm⟩
  suffices lev : ∀ (c m nx : Nat) (M1 : Nat → Int → Int) (l5 : Option mV), c + m = W + 1 → 1 ≤ m → mkf 60 64 M M1 → (nx : Int) ≤ 296 * 2 ^ (m - 1) - 296 → (∀ x, (∃ q ∈ aL n nr mb rb rm c m, q.1 = x) → F x = asg (aL n nr mb rb rm c m) (m - 1) nx x) → (∀ k : Nat, k < n → 1 ≤ mb k → mb k < m → M1 60 k = F k) → (∀ k : Nat, k < nr → 1 ≤ rb k → rb k < m → M1 64 k = F (40 + k)) →
      Jd i_La_setMarks Q (0, 0) 5 [some (.inr (.inr 57)), some (.inr (.inr t)), some (.inr (.inl (nx : Int))), none, some (.inl (m : Int)), l5] [] (mS L b M1) by
    apply E_La_setMarks
    apply B_La_setMarks_0
    simp only [mwp, mst, mii, mll, mli, mi1, ml1, mr1, mir, mlr, mrr, miir, mlir, mget, mgi, mgl, mgr, mset, mset2, mkill, mput_t, mputr_t, mpop, mpsh, mrcv, mcnd, mtsw, mlsw, List.set_cons_zero, SH_16, SH_17, SH_18, SH_19, SH_20, SH_21, SH_22, SH_23, SH_24, SH_25, SH_26, SH_27, SH_28, SH_29, SH_30, SH_31, SH_32, SH_33, SH_34, SH_35, SH_36, SH_37, SH_38, SH_39, SH_40, SH_41, SH_42, SH_43, SH_44, SH_45, SH_46, SH_47, SH_48, SH_49, SH_50, SH_51, SH_52, SH_53, SH_54, SH_55, SH_56, SH_57, SH_58, SH_59, SH_60, SH_61, SH_62, SH_63, SH_64, SH_65, SH_66, SH_67, SH_68, SH_69, SH_70, SH_71, SH_72, SH_73, SH_74, SH_75, SH_76, SH_77, SH_78, SH_79, SH_80, SH_81, SH_82, SH_83, SH_84, SH_85, SH_86, SH_87, SH_88, SH_89, SH_90, SH_91, SH_92, SH_93, SH_94, SH_95, SH_96, SH_97, SH_98, SH_99, SH_100, SH_101, SH_102, SH_103, SH_104, SH_105, SH_106, SH_107, SH_108, SH_109, SH_110, SH_111, SH_112, SH_113, SH_114, SH_115, SH_116, SH_117, SH_118, SH_119, RF_16_0, RF_16_1, RF_16_2, RF_16_5, RF_16_6, RF_16_7, RF_16_8, RF_16_9, RF_17_0, RF_19_0, RF_19_1, RF_19_2, RF_19_3, RF_24_0, RF_25_1, RF_25_2, RF_25_4, RF_25_5, RF_25_6, RF_25_7, RF_25_8, RF_25_10, RF_25_11, RF_25_12, RF_25_13, RF_25_14, RF_25_16, RF_25_17, RF_40_1, RF_40_2, RF_40_4, RF_40_5, RF_40_6, RF_40_7, RF_40_8, RF_40_10, RF_40_11, RF_40_12, RF_40_13, RF_40_14, RF_40_16, RF_40_17, RF_55_0, RF_57_2, RF_57_3, RF_57_4, RF_57_5, RF_57_6, RF_57_7, RF_57_8, RF_57_9, RF_57_10, RF_57_11, RF_67_0, RF_67_1, RF_70_4, RF_70_5, RF_70_6, RF_70_7, RF_70_9, RF_70_10, RF_77_3, RF_80_0, RF_80_4, RF_80_5, RF_80_6, RF_80_7, RF_80_8, RF_80_9, RF_80_10, RF_80_11, RF_80_12, RF_80_13, RF_80_14, RF_80_15, RF_80_16, RF_80_17, RF_80_18, RF_80_19, RF_80_20, RF_80_23, RF_80_24, RF_80_25, RF_80_26, RF_80_27, RF_80_28, RF_80_29, RF_80_30, RF_80_31, RF_80_34, RF_80_43, RF_80_44, RF_80_45, RF_80_46, RF_80_47, RF_80_48, RF_80_49, RF_80_50, RF_80_51, RF_80_52, RF_80_53, RF_told, RF_draft, true_and, and_true, ne_eq, not_false_eq_true, not_true_eq_false, lCmp_eq0, lCmp_ne0, lCmp_lt0, lCmp_ge0, lCmp_gt0, lCmp_le0, Nat.reduceEqDiff, Nat.reduceLeDiff, Nat.reduceAdd, Nat.reduceLT, Int.reduceAdd, Int.reduceSub, Int.reduceMul, Int.reduceNeg, Int.reduceLT, Int.reduceLE, Int.reduceGT, Int.reduceGE, Int.reduceEq, Int.reduceNe, Int.reduceNatCast, Int.reduceToNat, reduceIte, false_and, and_false, false_implies, forall_const, or_true, true_or, or_false, false_or, Int.add_zero, Int.zero_add, i2B_i2B, mup_ap, b_La_setMarks_0]
    exact lev W 1 0 M none (by omega) (Nat.le_refl _) (fun _ _ _ => rfl) (by decide) (fun x _ => by rw [← hF]; rfl) (fun k _ _ _ => by omega) (fun k _ _ _ => by omega)
  intro c
  induction c with
  | zero =>
    intro m nx M1 l5 hc hm hf hnx hFx hok hrk
    obtain ⟨g1, g2, g3, g4, g5, g6⟩ := fr M1 hf
    apply B_La_setMarks_5
    simp only [mwp, mst, mii, mll, mli, mi1, ml1, mr1, mir, mlr, mrr, miir, mlir, mget, mgi, mgl, mgr, mset, mset2, mkill, mput_t, mputr_t, mpop, mpsh, mrcv, mcnd, mtsw, mlsw, List.set_cons_zero, SH_16, SH_17, SH_18, SH_19, SH_20, SH_21, SH_22, SH_23, SH_24, SH_25, SH_26, SH_27, SH_28, SH_29, SH_30, SH_31, SH_32, SH_33, SH_34, SH_35, SH_36, SH_37, SH_38, SH_39, SH_40, SH_41, SH_42, SH_43, SH_44, SH_45, SH_46, SH_47, SH_48, SH_49, SH_50, SH_51, SH_52, SH_53, SH_54, SH_55, SH_56, SH_57, SH_58, SH_59, SH_60, SH_61, SH_62, SH_63, SH_64, SH_65, SH_66, SH_67, SH_68, SH_69, SH_70, SH_71, SH_72, SH_73, SH_74, SH_75, SH_76, SH_77, SH_78, SH_79, SH_80, SH_81, SH_82, SH_83, SH_84, SH_85, SH_86, SH_87, SH_88, SH_89, SH_90, SH_91, SH_92, SH_93, SH_94, SH_95, SH_96, SH_97, SH_98, SH_99, SH_100, SH_101, SH_102, SH_103, SH_104, SH_105, SH_106, SH_107, SH_108, SH_109, SH_110, SH_111, SH_112, SH_113, SH_114, SH_115, SH_116, SH_117, SH_118, SH_119, RF_16_0, RF_16_1, RF_16_2, RF_16_5, RF_16_6, RF_16_7, RF_16_8, RF_16_9, RF_17_0, RF_19_0, RF_19_1, RF_19_2, RF_19_3, RF_24_0, RF_25_1, RF_25_2, RF_25_4, RF_25_5, RF_25_6, RF_25_7, RF_25_8, RF_25_10, RF_25_11, RF_25_12, RF_25_13, RF_25_14, RF_25_16, RF_25_17, RF_40_1, RF_40_2, RF_40_4, RF_40_5, RF_40_6, RF_40_7, RF_40_8, RF_40_10, RF_40_11, RF_40_12, RF_40_13, RF_40_14, RF_40_16, RF_40_17, RF_55_0, RF_57_2, RF_57_3, RF_57_4, RF_57_5, RF_57_6, RF_57_7, RF_57_8, RF_57_9, RF_57_10, RF_57_11, RF_67_0, RF_67_1, RF_70_4, RF_70_5, RF_70_6, RF_70_7, RF_70_9, RF_70_10, RF_77_3, RF_80_0, RF_80_4, RF_80_5, RF_80_6, RF_80_7, RF_80_8, RF_80_9, RF_80_10, RF_80_11, RF_80_12, RF_80_13, RF_80_14, RF_80_15, RF_80_16, RF_80_17, RF_80_18, RF_80_19, RF_80_20, RF_80_23, RF_80_24, RF_80_25, RF_80_26, RF_80_27, RF_80_28, RF_80_29, RF_80_30, RF_80_31, RF_80_34, RF_80_43, RF_80_44, RF_80_45, RF_80_46, RF_80_47, RF_80_48, RF_80_49, RF_80_50, RF_80_51, RF_80_52, RF_80_53, RF_told, RF_draft, true_and, and_true, ne_eq, not_false_eq_true, not_true_eq_false, lCmp_eq0, lCmp_ne0, lCmp_lt0, lCmp_ge0, lCmp_gt0, lCmp_le0, Nat.reduceEqDiff, Nat.reduceLeDiff, Nat.reduceAdd, Nat.reduceLT, Int.reduceAdd, Int.reduceSub, Int.reduceMul, Int.reduceNeg, Int.reduceLT, Int.reduceLE, Int.reduceGT, Int.reduceGE, Int.reduceEq, Int.reduceNe, Int.reduceNatCast, Int.reduceToNat, reduceIte, false_and, and_false, false_implies, forall_const, or_true, true_or, or_false, false_or, Int.add_zero, Int.zero_add, i2B_i2B, mup_ap, b_La_setMarks_5, g1]
    repeat (refine ⟨(by first | omega | (exact isT_16 ht) | rfl | decide), ?_⟩)
    refine ⟨fun _ => ?_, fun w => absurd w (by omega)⟩
    apply B_La_setMarks_117
    simp only [mwp, mst, mii, mll, mli, mi1, ml1, mr1, mir, mlr, mrr, miir, mlir, mget, mgi, mgl, mgr, mset, mset2, mkill, mput_t, mputr_t, mpop, mpsh, mrcv, mcnd, mtsw, mlsw, List.set_cons_zero, SH_16, SH_17, SH_18, SH_19, SH_20, SH_21, SH_22, SH_23, SH_24, SH_25, SH_26, SH_27, SH_28, SH_29, SH_30, SH_31, SH_32, SH_33, SH_34, SH_35, SH_36, SH_37, SH_38, SH_39, SH_40, SH_41, SH_42, SH_43, SH_44, SH_45, SH_46, SH_47, SH_48, SH_49, SH_50, SH_51, SH_52, SH_53, SH_54, SH_55, SH_56, SH_57, SH_58, SH_59, SH_60, SH_61, SH_62, SH_63, SH_64, SH_65, SH_66, SH_67, SH_68, SH_69, SH_70, SH_71, SH_72, SH_73, SH_74, SH_75, SH_76, SH_77, SH_78, SH_79, SH_80, SH_81, SH_82, SH_83, SH_84, SH_85, SH_86, SH_87, SH_88, SH_89, SH_90, SH_91, SH_92, SH_93, SH_94, SH_95, SH_96, SH_97, SH_98, SH_99, SH_100, SH_101, SH_102, SH_103, SH_104, SH_105, SH_106, SH_107, SH_108, SH_109, SH_110, SH_111, SH_112, SH_113, SH_114, SH_115, SH_116, SH_117, SH_118, SH_119, RF_16_0, RF_16_1, RF_16_2, RF_16_5, RF_16_6, RF_16_7, RF_16_8, RF_16_9, RF_17_0, RF_19_0, RF_19_1, RF_19_2, RF_19_3, RF_24_0, RF_25_1, RF_25_2, RF_25_4, RF_25_5, RF_25_6, RF_25_7, RF_25_8, RF_25_10, RF_25_11, RF_25_12, RF_25_13, RF_25_14, RF_25_16, RF_25_17, RF_40_1, RF_40_2, RF_40_4, RF_40_5, RF_40_6, RF_40_7, RF_40_8, RF_40_10, RF_40_11, RF_40_12, RF_40_13, RF_40_14, RF_40_16, RF_40_17, RF_55_0, RF_57_2, RF_57_3, RF_57_4, RF_57_5, RF_57_6, RF_57_7, RF_57_8, RF_57_9, RF_57_10, RF_57_11, RF_67_0, RF_67_1, RF_70_4, RF_70_5, RF_70_6, RF_70_7, RF_70_9, RF_70_10, RF_77_3, RF_80_0, RF_80_4, RF_80_5, RF_80_6, RF_80_7, RF_80_8, RF_80_9, RF_80_10, RF_80_11, RF_80_12, RF_80_13, RF_80_14, RF_80_15, RF_80_16, RF_80_17, RF_80_18, RF_80_19, RF_80_20, RF_80_23, RF_80_24, RF_80_25, RF_80_26, RF_80_27, RF_80_28, RF_80_29, RF_80_30, RF_80_31, RF_80_34, RF_80_43, RF_80_44, RF_80_45, RF_80_46, RF_80_47, RF_80_48, RF_80_49, RF_80_50, RF_80_51, RF_80_52, RF_80_53, RF_told, RF_draft, true_and, and_true, ne_eq, not_false_eq_true, not_true_eq_false, lCmp_eq0, lCmp_ne0, lCmp_lt0, lCmp_ge0, lCmp_gt0, lCmp_le0, Nat.reduceEqDiff, Nat.reduceLeDiff, Nat.reduceAdd, Nat.reduceLT, Int.reduceAdd, Int.reduceSub, Int.reduceMul, Int.reduceNeg, Int.reduceLT, Int.reduceLE, Int.reduceGT, Int.reduceGE, Int.reduceEq, Int.reduceNe, Int.reduceNatCast, Int.reduceToNat, reduceIte, false_and, and_false, false_implies, forall_const, or_true, true_or, or_false, false_or, Int.add_zero, Int.zero_add, i2B_i2B, mup_ap, b_La_setMarks_117]
    exact h M1 hf (fun k h1 h2 h3 => hok k h1 h2 (by omega)) (fun k h1 h2 h3 => hrk k h1 h2 (by omega))
  | succ c ih =>
    intro m nx M1 l5 hc hm hf hnx hFx hok hrk
    obtain ⟨g1, g2, g3, g4, g5, g6⟩ := fr M1 hf
    have hsrt := srt_aL (nr := nr) (mb := mb) (rb := rb) (rm := rm) (W := W) hn (c + 1) m m (by omega) (Nat.le_refl _)
    have hP : (2 : Int) ^ (m - 1) ≤ 2 ^ 31 := p2_le (by omega)
    have hP1 : (1 : Int) ≤ 2 ^ (m - 1) := p2_le (a := 0) (by omega)
    have hP2 : (2 : Int) ^ m = 2 * 2 ^ (m - 1) := by rw [show m = (m - 1) + 1 by omega, Int.pow_succ, Int.mul_comm]; rfl
    obtain ⟨P, hPd⟩ : ∃ P, (2 : Int) ^ (m - 1) = P := ⟨_, rfl⟩
    rw [hPd] at hP hP1 hP2 hnx
    have e31 : (2 : Int) ^ 31 = 2147483648 := by decide
    have esh : lShl (nx : Int) 1 = ((nx * 2 : Nat) : Int) := by
      rw [lShl_i (by decide) (by decide) (by omega) (by show (nx : Int) * 2 ^ 1 < 2 ^ 63; omega)]
      show (nx : Int) * 2 ^ 1 = _
      omega
    have hF2 : ∀ x, (∃ q ∈ aL n nr mb rb rm (c + 1) m, q.1 = x) → F x = asg (aL n nr mb rb rm (c + 1) m) m (nx * 2) x := by
      intro x hx
      rw [hFx x hx]
      have := asg_sh (R := aL n nr mb rb rm (c + 1) m) (len := m - 1) (nx := nx) (x := x) (fun q hq => by
        rcases (mem_aL (c + 1) m).mp hq with ⟨i, _, h5, _, rfl⟩ | ⟨i, _, h5, _, rfl⟩
        · show m - 1 + 1 ≤ mb i; omega
        · show m - 1 + 1 ≤ rb i; omega)
      rw [this, show m - 1 + 1 = m by omega]
    rw [aL] at hF2 hsrt
    -- rooms of this level
    have rooms : ∀ (d k nx : Nat) (M1 : Nat → Int → Int), k + d = nr → mkf 60 64 M M1 → (nx : Int) ≤ 592 * P - 592 + 40 + 64 * k → srt W m (rL rb rm m d k ++ aL n nr mb rb rm c (m + 1)) → (∀ x, (∃ q ∈ rL rb rm m d k ++ aL n nr mb rb rm c (m + 1), q.1 = x) → F x = asg (rL rb rm m d k ++ aL n nr mb rb rm c (m + 1)) m nx x) → (∀ k : Nat, k < n → 1 ≤ mb k → mb k < m + 1 → M1 60 k = F k) → (∀ i : Nat, i < nr → 1 ≤ rb i → (rb i < m ∨ (rb i = m ∧ i < k)) → M1 64 i = F (40 + i)) →
        Jd i_La_setMarks Q (0, 0) 65 [some (.inr (.inr 57)), some (.inr (.inr t)), some (.inr (.inl (nx : Int))), none, some (.inl (m : Int)), some (.inl (k : Int))] [] (mS L b M1) := by
      intro d
      induction d with
      | zero =>
        intro k nx M1 hk hf hnx hsrt hFx hok hrk
        obtain ⟨g1, g2, g3, g4, g5, g6⟩ := fr M1 hf
        apply B_La_setMarks_65
        simp only [mwp, mst, mii, mll, mli, mi1, ml1, mr1, mir, mlr, mrr, miir, mlir, mget, mgi, mgl, mgr, mset, mset2, mkill, mput_t, mputr_t, mpop, mpsh, mrcv, mcnd, mtsw, mlsw, List.set_cons_zero, SH_16, SH_17, SH_18, SH_19, SH_20, SH_21, SH_22, SH_23, SH_24, SH_25, SH_26, SH_27, SH_28, SH_29, SH_30, SH_31, SH_32, SH_33, SH_34, SH_35, SH_36, SH_37, SH_38, SH_39, SH_40, SH_41, SH_42, SH_43, SH_44, SH_45, SH_46, SH_47, SH_48, SH_49, SH_50, SH_51, SH_52, SH_53, SH_54, SH_55, SH_56, SH_57, SH_58, SH_59, SH_60, SH_61, SH_62, SH_63, SH_64, SH_65, SH_66, SH_67, SH_68, SH_69, SH_70, SH_71, SH_72, SH_73, SH_74, SH_75, SH_76, SH_77, SH_78, SH_79, SH_80, SH_81, SH_82, SH_83, SH_84, SH_85, SH_86, SH_87, SH_88, SH_89, SH_90, SH_91, SH_92, SH_93, SH_94, SH_95, SH_96, SH_97, SH_98, SH_99, SH_100, SH_101, SH_102, SH_103, SH_104, SH_105, SH_106, SH_107, SH_108, SH_109, SH_110, SH_111, SH_112, SH_113, SH_114, SH_115, SH_116, SH_117, SH_118, SH_119, RF_16_0, RF_16_1, RF_16_2, RF_16_5, RF_16_6, RF_16_7, RF_16_8, RF_16_9, RF_17_0, RF_19_0, RF_19_1, RF_19_2, RF_19_3, RF_24_0, RF_25_1, RF_25_2, RF_25_4, RF_25_5, RF_25_6, RF_25_7, RF_25_8, RF_25_10, RF_25_11, RF_25_12, RF_25_13, RF_25_14, RF_25_16, RF_25_17, RF_40_1, RF_40_2, RF_40_4, RF_40_5, RF_40_6, RF_40_7, RF_40_8, RF_40_10, RF_40_11, RF_40_12, RF_40_13, RF_40_14, RF_40_16, RF_40_17, RF_55_0, RF_57_2, RF_57_3, RF_57_4, RF_57_5, RF_57_6, RF_57_7, RF_57_8, RF_57_9, RF_57_10, RF_57_11, RF_67_0, RF_67_1, RF_70_4, RF_70_5, RF_70_6, RF_70_7, RF_70_9, RF_70_10, RF_77_3, RF_80_0, RF_80_4, RF_80_5, RF_80_6, RF_80_7, RF_80_8, RF_80_9, RF_80_10, RF_80_11, RF_80_12, RF_80_13, RF_80_14, RF_80_15, RF_80_16, RF_80_17, RF_80_18, RF_80_19, RF_80_20, RF_80_23, RF_80_24, RF_80_25, RF_80_26, RF_80_27, RF_80_28, RF_80_29, RF_80_30, RF_80_31, RF_80_34, RF_80_43, RF_80_44, RF_80_45, RF_80_46, RF_80_47, RF_80_48, RF_80_49, RF_80_50, RF_80_51, RF_80_52, RF_80_53, RF_told, RF_draft, true_and, and_true, ne_eq, not_false_eq_true, not_true_eq_false, lCmp_eq0, lCmp_ne0, lCmp_lt0, lCmp_ge0, lCmp_gt0, lCmp_le0, Nat.reduceEqDiff, Nat.reduceLeDiff, Nat.reduceAdd, Nat.reduceLT, Int.reduceAdd, Int.reduceSub, Int.reduceMul, Int.reduceNeg, Int.reduceLT, Int.reduceLE, Int.reduceGT, Int.reduceGE, Int.reduceEq, Int.reduceNe, Int.reduceNatCast, Int.reduceToNat, reduceIte, false_and, and_false, false_implies, forall_const, or_true, true_or, or_false, false_or, Int.add_zero, Int.zero_add, i2B_i2B, mup_ap, b_La_setMarks_65, SHt_0 ht, SHt_1 ht, SHt_2 ht, SHt_3 ht, SHt_4 ht, SHt_5 ht, SHt_6 ht, SHt_7 ht, SHt_8 ht, SHt_9 ht, SHt_10 ht, SHt_11 ht, SHt_12 ht, SHt_13 ht, SHt_14 ht, RFt_1 ht, RFt_2 ht, RFt_4 ht, RFt_5 ht, RFt_6 ht, RFt_7 ht, RFt_8 ht, RFt_10 ht, RFt_11 ht, RFt_12 ht, RFt_13 ht, RFt_14 ht, RFt_16 ht, RFt_17 ht, g3]
        repeat (refine ⟨(by first | omega | (exact isT_16 ht) | rfl | decide), ?_⟩)
        refine ⟨fun _ => ?_, fun w => absurd w (by omega)⟩
        apply B_La_setMarks_111
        simp only [mwp, mst, mii, mll, mli, mi1, ml1, mr1, mir, mlr, mrr, miir, mlir, mget, mgi, mgl, mgr, mset, mset2, mkill, mput_t, mputr_t, mpop, mpsh, mrcv, mcnd, mtsw, mlsw, List.set_cons_zero, SH_16, SH_17, SH_18, SH_19, SH_20, SH_21, SH_22, SH_23, SH_24, SH_25, SH_26, SH_27, SH_28, SH_29, SH_30, SH_31, SH_32, SH_33, SH_34, SH_35, SH_36, SH_37, SH_38, SH_39, SH_40, SH_41, SH_42, SH_43, SH_44, SH_45, SH_46, SH_47, SH_48, SH_49, SH_50, SH_51, SH_52, SH_53, SH_54, SH_55, SH_56, SH_57, SH_58, SH_59, SH_60, SH_61, SH_62, SH_63, SH_64, SH_65, SH_66, SH_67, SH_68, SH_69, SH_70, SH_71, SH_72, SH_73, SH_74, SH_75, SH_76, SH_77, SH_78, SH_79, SH_80, SH_81, SH_82, SH_83, SH_84, SH_85, SH_86, SH_87, SH_88, SH_89, SH_90, SH_91, SH_92, SH_93, SH_94, SH_95, SH_96, SH_97, SH_98, SH_99, SH_100, SH_101, SH_102, SH_103, SH_104, SH_105, SH_106, SH_107, SH_108, SH_109, SH_110, SH_111, SH_112, SH_113, SH_114, SH_115, SH_116, SH_117, SH_118, SH_119, RF_16_0, RF_16_1, RF_16_2, RF_16_5, RF_16_6, RF_16_7, RF_16_8, RF_16_9, RF_17_0, RF_19_0, RF_19_1, RF_19_2, RF_19_3, RF_24_0, RF_25_1, RF_25_2, RF_25_4, RF_25_5, RF_25_6, RF_25_7, RF_25_8, RF_25_10, RF_25_11, RF_25_12, RF_25_13, RF_25_14, RF_25_16, RF_25_17, RF_40_1, RF_40_2, RF_40_4, RF_40_5, RF_40_6, RF_40_7, RF_40_8, RF_40_10, RF_40_11, RF_40_12, RF_40_13, RF_40_14, RF_40_16, RF_40_17, RF_55_0, RF_57_2, RF_57_3, RF_57_4, RF_57_5, RF_57_6, RF_57_7, RF_57_8, RF_57_9, RF_57_10, RF_57_11, RF_67_0, RF_67_1, RF_70_4, RF_70_5, RF_70_6, RF_70_7, RF_70_9, RF_70_10, RF_77_3, RF_80_0, RF_80_4, RF_80_5, RF_80_6, RF_80_7, RF_80_8, RF_80_9, RF_80_10, RF_80_11, RF_80_12, RF_80_13, RF_80_14, RF_80_15, RF_80_16, RF_80_17, RF_80_18, RF_80_19, RF_80_20, RF_80_23, RF_80_24, RF_80_25, RF_80_26, RF_80_27, RF_80_28, RF_80_29, RF_80_30, RF_80_31, RF_80_34, RF_80_43, RF_80_44, RF_80_45, RF_80_46, RF_80_47, RF_80_48, RF_80_49, RF_80_50, RF_80_51, RF_80_52, RF_80_53, RF_told, RF_draft, true_and, and_true, ne_eq, not_false_eq_true, not_true_eq_false, lCmp_eq0, lCmp_ne0, lCmp_lt0, lCmp_ge0, lCmp_gt0, lCmp_le0, Nat.reduceEqDiff, Nat.reduceLeDiff, Nat.reduceAdd, Nat.reduceLT, Int.reduceAdd, Int.reduceSub, Int.reduceMul, Int.reduceNeg, Int.reduceLT, Int.reduceLE, Int.reduceGT, Int.reduceGE, Int.reduceEq, Int.reduceNe, Int.reduceNatCast, Int.reduceToNat, reduceIte, false_and, and_false, false_implies, forall_const, or_true, true_or, or_false, false_or, Int.add_zero, Int.zero_add, i2B_i2B, mup_ap, b_La_setMarks_111]
        repeat (refine ⟨(by first | omega | (exact isT_16 ht) | rfl | decide), ?_⟩)
        have := ih (m + 1) nx M1 (some (.inl (k : Int))) (by omega) (by omega) hf (by rw [show m + 1 - 1 = m from rfl, hP2]; omega) hFx hok (fun i h1 h2 h3 => hrk i h1 h2 (by omega))
        exact this
      | succ d ihd =>
        intro k nx M1 hk hf hnx hsrt hFx hok hrk
        obtain ⟨g1, g2, g3, g4, g5, g6⟩ := fr M1 hf
        have hk5 := g5 k (by omega)
        have hk6 := g6 k (by omega)
        have h64 := hrm2 k (by omega)
        rw [rL_s] at hsrt hFx
        by_cases w : rb k = m
        · rw [if_pos w] at hsrt hFx
          have hFk := hFx (40 + k) ⟨_, List.mem_cons_self, rfl⟩
          rw [List.cons_append, asg, if_pos rfl, Nat.sub_self, Nat.pow_zero, Nat.mul_one] at hFk
          apply B_La_setMarks_65
          simp only [mwp, mst, mii, mll, mli, mi1, ml1, mr1, mir, mlr, mrr, miir, mlir, mget, mgi, mgl, mgr, mset, mset2, mkill, mput_t, mputr_t, mpop, mpsh, mrcv, mcnd, mtsw, mlsw, List.set_cons_zero, SH_16, SH_17, SH_18, SH_19, SH_20, SH_21, SH_22, SH_23, SH_24, SH_25, SH_26, SH_27, SH_28, SH_29, SH_30, SH_31, SH_32, SH_33, SH_34, SH_35, SH_36, SH_37, SH_38, SH_39, SH_40, SH_41, SH_42, SH_43, SH_44, SH_45, SH_46, SH_47, SH_48, SH_49, SH_50, SH_51, SH_52, SH_53, SH_54, SH_55, SH_56, SH_57, SH_58, SH_59, SH_60, SH_61, SH_62, SH_63, SH_64, SH_65, SH_66, SH_67, SH_68, SH_69, SH_70, SH_71, SH_72, SH_73, SH_74, SH_75, SH_76, SH_77, SH_78, SH_79, SH_80, SH_81, SH_82, SH_83, SH_84, SH_85, SH_86, SH_87, SH_88, SH_89, SH_90, SH_91, SH_92, SH_93, SH_94, SH_95, SH_96, SH_97, SH_98, SH_99, SH_100, SH_101, SH_102, SH_103, SH_104, SH_105, SH_106, SH_107, SH_108, SH_109, SH_110, SH_111, SH_112, SH_113, SH_114, SH_115, SH_116, SH_117, SH_118, SH_119, RF_16_0, RF_16_1, RF_16_2, RF_16_5, RF_16_6, RF_16_7, RF_16_8, RF_16_9, RF_17_0, RF_19_0, RF_19_1, RF_19_2, RF_19_3, RF_24_0, RF_25_1, RF_25_2, RF_25_4, RF_25_5, RF_25_6, RF_25_7, RF_25_8, RF_25_10, RF_25_11, RF_25_12, RF_25_13, RF_25_14, RF_25_16, RF_25_17, RF_40_1, RF_40_2, RF_40_4, RF_40_5, RF_40_6, RF_40_7, RF_40_8, RF_40_10, RF_40_11, RF_40_12, RF_40_13, RF_40_14, RF_40_16, RF_40_17, RF_55_0, RF_57_2, RF_57_3, RF_57_4, RF_57_5, RF_57_6, RF_57_7, RF_57_8, RF_57_9, RF_57_10, RF_57_11, RF_67_0, RF_67_1, RF_70_4, RF_70_5, RF_70_6, RF_70_7, RF_70_9, RF_70_10, RF_77_3, RF_80_0, RF_80_4, RF_80_5, RF_80_6, RF_80_7, RF_80_8, RF_80_9, RF_80_10, RF_80_11, RF_80_12, RF_80_13, RF_80_14, RF_80_15, RF_80_16, RF_80_17, RF_80_18, RF_80_19, RF_80_20, RF_80_23, RF_80_24, RF_80_25, RF_80_26, RF_80_27, RF_80_28, RF_80_29, RF_80_30, RF_80_31, RF_80_34, RF_80_43, RF_80_44, RF_80_45, RF_80_46, RF_80_47, RF_80_48, RF_80_49, RF_80_50, RF_80_51, RF_80_52, RF_80_53, RF_told, RF_draft, true_and, and_true, ne_eq, not_false_eq_true, not_true_eq_false, lCmp_eq0, lCmp_ne0, lCmp_lt0, lCmp_ge0, lCmp_gt0, lCmp_le0, Nat.reduceEqDiff, Nat.reduceLeDiff, Nat.reduceAdd, Nat.reduceLT, Int.reduceAdd, Int.reduceSub, Int.reduceMul, Int.reduceNeg, Int.reduceLT, Int.reduceLE, Int.reduceGT, Int.reduceGE, Int.reduceEq, Int.reduceNe, Int.reduceNatCast, Int.reduceToNat, reduceIte, false_and, and_false, false_implies, forall_const, or_true, true_or, or_false, false_or, Int.add_zero, Int.zero_add, i2B_i2B, mup_ap, b_La_setMarks_65, SHt_0 ht, SHt_1 ht, SHt_2 ht, SHt_3 ht, SHt_4 ht, SHt_5 ht, SHt_6 ht, SHt_7 ht, SHt_8 ht, SHt_9 ht, SHt_10 ht, SHt_11 ht, SHt_12 ht, SHt_13 ht, SHt_14 ht, RFt_1 ht, RFt_2 ht, RFt_4 ht, RFt_5 ht, RFt_6 ht, RFt_7 ht, RFt_8 ht, RFt_10 ht, RFt_11 ht, RFt_12 ht, RFt_13 ht, RFt_14 ht, RFt_16 ht, RFt_17 ht, g3, hk5, hk6, h51]
          repeat (refine ⟨(by first | omega | (exact isT_16 ht) | rfl | decide), ?_⟩)
          intro _
          repeat (refine ⟨(by first | omega | (exact isT_16 ht) | rfl | decide), ?_⟩)
          intro _
          repeat (refine ⟨(by first | omega | (exact isT_16 ht) | rfl | decide), ?_⟩)
          apply B_La_setMarks_105
          simp only [mwp, mst, mii, mll, mli, mi1, ml1, mr1, mir, mlr, mrr, miir, mlir, mget, mgi, mgl, mgr, mset, mset2, mkill, mput_t, mputr_t, mpop, mpsh, mrcv, mcnd, mtsw, mlsw, List.set_cons_zero, SH_16, SH_17, SH_18, SH_19, SH_20, SH_21, SH_22, SH_23, SH_24, SH_25, SH_26, SH_27, SH_28, SH_29, SH_30, SH_31, SH_32, SH_33, SH_34, SH_35, SH_36, SH_37, SH_38, SH_39, SH_40, SH_41, SH_42, SH_43, SH_44, SH_45, SH_46, SH_47, SH_48, SH_49, SH_50, SH_51, SH_52, SH_53, SH_54, SH_55, SH_56, SH_57, SH_58, SH_59, SH_60, SH_61, SH_62, SH_63, SH_64, SH_65, SH_66, SH_67, SH_68, SH_69, SH_70, SH_71, SH_72, SH_73, SH_74, SH_75, SH_76, SH_77, SH_78, SH_79, SH_80, SH_81, SH_82, SH_83, SH_84, SH_85, SH_86, SH_87, SH_88, SH_89, SH_90, SH_91, SH_92, SH_93, SH_94, SH_95, SH_96, SH_97, SH_98, SH_99, SH_100, SH_101, SH_102, SH_103, SH_104, SH_105, SH_106, SH_107, SH_108, SH_109, SH_110, SH_111, SH_112, SH_113, SH_114, SH_115, SH_116, SH_117, SH_118, SH_119, RF_16_0, RF_16_1, RF_16_2, RF_16_5, RF_16_6, RF_16_7, RF_16_8, RF_16_9, RF_17_0, RF_19_0, RF_19_1, RF_19_2, RF_19_3, RF_24_0, RF_25_1, RF_25_2, RF_25_4, RF_25_5, RF_25_6, RF_25_7, RF_25_8, RF_25_10, RF_25_11, RF_25_12, RF_25_13, RF_25_14, RF_25_16, RF_25_17, RF_40_1, RF_40_2, RF_40_4, RF_40_5, RF_40_6, RF_40_7, RF_40_8, RF_40_10, RF_40_11, RF_40_12, RF_40_13, RF_40_14, RF_40_16, RF_40_17, RF_55_0, RF_57_2, RF_57_3, RF_57_4, RF_57_5, RF_57_6, RF_57_7, RF_57_8, RF_57_9, RF_57_10, RF_57_11, RF_67_0, RF_67_1, RF_70_4, RF_70_5, RF_70_6, RF_70_7, RF_70_9, RF_70_10, RF_77_3, RF_80_0, RF_80_4, RF_80_5, RF_80_6, RF_80_7, RF_80_8, RF_80_9, RF_80_10, RF_80_11, RF_80_12, RF_80_13, RF_80_14, RF_80_15, RF_80_16, RF_80_17, RF_80_18, RF_80_19, RF_80_20, RF_80_23, RF_80_24, RF_80_25, RF_80_26, RF_80_27, RF_80_28, RF_80_29, RF_80_30, RF_80_31, RF_80_34, RF_80_43, RF_80_44, RF_80_45, RF_80_46, RF_80_47, RF_80_48, RF_80_49, RF_80_50, RF_80_51, RF_80_52, RF_80_53, RF_told, RF_draft, true_and, and_true, ne_eq, not_false_eq_true, not_true_eq_false, lCmp_eq0, lCmp_ne0, lCmp_lt0, lCmp_ge0, lCmp_gt0, lCmp_le0, Nat.reduceEqDiff, Nat.reduceLeDiff, Nat.reduceAdd, Nat.reduceLT, Int.reduceAdd, Int.reduceSub, Int.reduceMul, Int.reduceNeg, Int.reduceLT, Int.reduceLE, Int.reduceGT, Int.reduceGE, Int.reduceEq, Int.reduceNe, Int.reduceNatCast, Int.reduceToNat, reduceIte, false_and, and_false, false_implies, forall_const, or_true, true_or, or_false, false_or, Int.add_zero, Int.zero_add, i2B_i2B, mup_ap, b_La_setMarks_105]
          repeat (refine ⟨(by first | omega | (exact isT_16 ht) | rfl | decide), ?_⟩)
          have := ihd (k + 1) (nx + rm k) (mup M1 64 k nx) (by omega) (mkf_m hf (Or.inr rfl)) (by omega) hsrt.2.2.2 (fun x hx => ?_) (fun i h1 h2 h3 => by rw [mup_n (by decide)]; exact hok i h1 h2 h3) (fun i h1 h2 h3 => ?_)
          · exact this
          · have hne : x ≠ 40 + k := by
              obtain ⟨q, hq, rfl⟩ := hx
              exact hsrt.2.2.1 q hq
            have h7 := hFx x (by obtain ⟨q, hq, rfl⟩ := hx; exact ⟨q, List.mem_cons_of_mem _ hq, rfl⟩)
            rw [List.cons_append, asg, if_neg hne, Nat.sub_self, Nat.pow_zero, Nat.mul_one] at h7
            exact h7
          · rw [mup_ap]
            by_cases v : i = k
            · subst v
              rw [if_pos ⟨rfl, rfl⟩, hFk]
            · rw [if_neg (by omega)]
              exact hrk i h1 h2 (by omega)
        · rw [if_neg w] at hsrt hFx
          apply B_La_setMarks_65
          simp only [mwp, mst, mii, mll, mli, mi1, ml1, mr1, mir, mlr, mrr, miir, mlir, mget, mgi, mgl, mgr, mset, mset2, mkill, mput_t, mputr_t, mpop, mpsh, mrcv, mcnd, mtsw, mlsw, List.set_cons_zero, SH_16, SH_17, SH_18, SH_19, SH_20, SH_21, SH_22, SH_23, SH_24, SH_25, SH_26, SH_27, SH_28, SH_29, SH_30, SH_31, SH_32, SH_33, SH_34, SH_35, SH_36, SH_37, SH_38, SH_39, SH_40, SH_41, SH_42, SH_43, SH_44, SH_45, SH_46, SH_47, SH_48, SH_49, SH_50, SH_51, SH_52, SH_53, SH_54, SH_55, SH_56, SH_57, SH_58, SH_59, SH_60, SH_61, SH_62, SH_63, SH_64, SH_65, SH_66, SH_67, SH_68, SH_69, SH_70, SH_71, SH_72, SH_73, SH_74, SH_75, SH_76, SH_77, SH_78, SH_79, SH_80, SH_81, SH_82, SH_83, SH_84, SH_85, SH_86, SH_87, SH_88, SH_89, SH_90, SH_91, SH_92, SH_93, SH_94, SH_95, SH_96, SH_97, SH_98, SH_99, SH_100, SH_101, SH_102, SH_103, SH_104, SH_105, SH_106, SH_107, SH_108, SH_109, SH_110, SH_111, SH_112, SH_113, SH_114, SH_115, SH_116, SH_117, SH_118, SH_119, RF_16_0, RF_16_1, RF_16_2, RF_16_5, RF_16_6, RF_16_7, RF_16_8, RF_16_9, RF_17_0, RF_19_0, RF_19_1, RF_19_2, RF_19_3, RF_24_0, RF_25_1, RF_25_2, RF_25_4, RF_25_5, RF_25_6, RF_25_7, RF_25_8, RF_25_10, RF_25_11, RF_25_12, RF_25_13, RF_25_14, RF_25_16, RF_25_17, RF_40_1, RF_40_2, RF_40_4, RF_40_5, RF_40_6, RF_40_7, RF_40_8, RF_40_10, RF_40_11, RF_40_12, RF_40_13, RF_40_14, RF_40_16, RF_40_17, RF_55_0, RF_57_2, RF_57_3, RF_57_4, RF_57_5, RF_57_6, RF_57_7, RF_57_8, RF_57_9, RF_57_10, RF_57_11, RF_67_0, RF_67_1, RF_70_4, RF_70_5, RF_70_6, RF_70_7, RF_70_9, RF_70_10, RF_77_3, RF_80_0, RF_80_4, RF_80_5, RF_80_6, RF_80_7, RF_80_8, RF_80_9, RF_80_10, RF_80_11, RF_80_12, RF_80_13, RF_80_14, RF_80_15, RF_80_16, RF_80_17, RF_80_18, RF_80_19, RF_80_20, RF_80_23, RF_80_24, RF_80_25, RF_80_26, RF_80_27, RF_80_28, RF_80_29, RF_80_30, RF_80_31, RF_80_34, RF_80_43, RF_80_44, RF_80_45, RF_80_46, RF_80_47, RF_80_48, RF_80_49, RF_80_50, RF_80_51, RF_80_52, RF_80_53, RF_told, RF_draft, true_and, and_true, ne_eq, not_false_eq_true, not_true_eq_false, lCmp_eq0, lCmp_ne0, lCmp_lt0, lCmp_ge0, lCmp_gt0, lCmp_le0, Nat.reduceEqDiff, Nat.reduceLeDiff, Nat.reduceAdd, Nat.reduceLT, Int.reduceAdd, Int.reduceSub, Int.reduceMul, Int.reduceNeg, Int.reduceLT, Int.reduceLE, Int.reduceGT, Int.reduceGE, Int.reduceEq, Int.reduceNe, Int.reduceNatCast, Int.reduceToNat, reduceIte, false_and, and_false, false_implies, forall_const, or_true, true_or, or_false, false_or, Int.add_zero, Int.zero_add, i2B_i2B, mup_ap, b_La_setMarks_65, SHt_0 ht, SHt_1 ht, SHt_2 ht, SHt_3 ht, SHt_4 ht, SHt_5 ht, SHt_6 ht, SHt_7 ht, SHt_8 ht, SHt_9 ht, SHt_10 ht, SHt_11 ht, SHt_12 ht, SHt_13 ht, SHt_14 ht, RFt_1 ht, RFt_2 ht, RFt_4 ht, RFt_5 ht, RFt_6 ht, RFt_7 ht, RFt_8 ht, RFt_10 ht, RFt_11 ht, RFt_12 ht, RFt_13 ht, RFt_14 ht, RFt_16 ht, RFt_17 ht, g3, hk5, hk6, h51]
          repeat (refine ⟨(by first | omega | (exact isT_16 ht) | rfl | decide), ?_⟩)
          intro _
          repeat (refine ⟨(by first | omega | (exact isT_16 ht) | rfl | decide), ?_⟩)
          refine ⟨fun _ => ?_, fun q => absurd q (by omega)⟩
          apply B_La_setMarks_105
          simp only [mwp, mst, mii, mll, mli, mi1, ml1, mr1, mir, mlr, mrr, miir, mlir, mget, mgi, mgl, mgr, mset, mset2, mkill, mput_t, mputr_t, mpop, mpsh, mrcv, mcnd, mtsw, mlsw, List.set_cons_zero, SH_16, SH_17, SH_18, SH_19, SH_20, SH_21, SH_22, SH_23, SH_24, SH_25, SH_26, SH_27, SH_28, SH_29, SH_30, SH_31, SH_32, SH_33, SH_34, SH_35, SH_36, SH_37, SH_38, SH_39, SH_40, SH_41, SH_42, SH_43, SH_44, SH_45, SH_46, SH_47, SH_48, SH_49, SH_50, SH_51, SH_52, SH_53, SH_54, SH_55, SH_56, SH_57, SH_58, SH_59, SH_60, SH_61, SH_62, SH_63, SH_64, SH_65, SH_66, SH_67, SH_68, SH_69, SH_70, SH_71, SH_72, SH_73, SH_74, SH_75, SH_76, SH_77, SH_78, SH_79, SH_80, SH_81, SH_82, SH_83, SH_84, SH_85, SH_86, SH_87, SH_88, SH_89, SH_90, SH_91, SH_92, SH_93, SH_94, SH_95, SH_96, SH_97, SH_98, SH_99, SH_100, SH_101, SH_102, SH_103, SH_104, SH_105, SH_106, SH_107, SH_108, SH_109, SH_110, SH_111, SH_112, SH_113, SH_114, SH_115, SH_116, SH_117, SH_118, SH_119, RF_16_0, RF_16_1, RF_16_2, RF_16_5, RF_16_6, RF_16_7, RF_16_8, RF_16_9, RF_17_0, RF_19_0, RF_19_1, RF_19_2, RF_19_3, RF_24_0, RF_25_1, RF_25_2, RF_25_4, RF_25_5, RF_25_6, RF_25_7, RF_25_8, RF_25_10, RF_25_11, RF_25_12, RF_25_13, RF_25_14, RF_25_16, RF_25_17, RF_40_1, RF_40_2, RF_40_4, RF_40_5, RF_40_6, RF_40_7, RF_40_8, RF_40_10, RF_40_11, RF_40_12, RF_40_13, RF_40_14, RF_40_16, RF_40_17, RF_55_0, RF_57_2, RF_57_3, RF_57_4, RF_57_5, RF_57_6, RF_57_7, RF_57_8, RF_57_9, RF_57_10, RF_57_11, RF_67_0, RF_67_1, RF_70_4, RF_70_5, RF_70_6, RF_70_7, RF_70_9, RF_70_10, RF_77_3, RF_80_0, RF_80_4, RF_80_5, RF_80_6, RF_80_7, RF_80_8, RF_80_9, RF_80_10, RF_80_11, RF_80_12, RF_80_13, RF_80_14, RF_80_15, RF_80_16, RF_80_17, RF_80_18, RF_80_19, RF_80_20, RF_80_23, RF_80_24, RF_80_25, RF_80_26, RF_80_27, RF_80_28, RF_80_29, RF_80_30, RF_80_31, RF_80_34, RF_80_43, RF_80_44, RF_80_45, RF_80_46, RF_80_47, RF_80_48, RF_80_49, RF_80_50, RF_80_51, RF_80_52, RF_80_53, RF_told, RF_draft, true_and, and_true, ne_eq, not_false_eq_true, not_true_eq_false, lCmp_eq0, lCmp_ne0, lCmp_lt0, lCmp_ge0, lCmp_gt0, lCmp_le0, Nat.reduceEqDiff, Nat.reduceLeDiff, Nat.reduceAdd, Nat.reduceLT, Int.reduceAdd, Int.reduceSub, Int.reduceMul, Int.reduceNeg, Int.reduceLT, Int.reduceLE, Int.reduceGT, Int.reduceGE, Int.reduceEq, Int.reduceNe, Int.reduceNatCast, Int.reduceToNat, reduceIte, false_and, and_false, false_implies, forall_const, or_true, true_or, or_false, false_or, Int.add_zero, Int.zero_add, i2B_i2B, mup_ap, b_La_setMarks_105]
          repeat (refine ⟨(by first | omega | (exact isT_16 ht) | rfl | decide), ?_⟩)
          exact ihd (k + 1) nx M1 (by omega) hf (by omega) hsrt hFx hok (fun i h1 h2 h3 => hrk i h1 h2 (h3.imp id (fun v => ⟨v.1, Nat.lt_of_le_of_ne (Nat.le_of_lt_succ v.2) (fun e => w (by rw [← e]; exact v.1))⟩)))
    have orders : ∀ (d k nx : Nat) (M1 : Nat → Int → Int), k + d = n → mkf 60 64 M M1 → (nx : Int) ≤ 592 * P - 592 + k → srt W m (oL mb m d k ++ (rL rb rm m nr 0 ++ aL n nr mb rb rm c (m + 1))) → (∀ x, (∃ q ∈ oL mb m d k ++ (rL rb rm m nr 0 ++ aL n nr mb rb rm c (m + 1)), q.1 = x) → F x = asg (oL mb m d k ++ (rL rb rm m nr 0 ++ aL n nr mb rb rm c (m + 1))) m nx x) → (∀ i : Nat, i < n → 1 ≤ mb i → (mb i < m ∨ (mb i = m ∧ i < k)) → M1 60 i = F i) → (∀ i : Nat, i < nr → 1 ≤ rb i → rb i < m → M1 64 i = F (40 + i)) →
        Jd i_La_setMarks Q (0, 0) 23 [some (.inr (.inr 57)), some (.inr (.inr t)), some (.inr (.inl (nx : Int))), none, some (.inl (m : Int)), some (.inl (k : Int))] [] (mS L b M1) := by
      intro d
      induction d with
      | zero =>
        intro k nx M1 hk hf hnx hsrt hFx hok hrk
        obtain ⟨g1, g2, g3, g4, g5, g6⟩ := fr M1 hf
        apply B_La_setMarks_23
        simp only [mwp, mst, mii, mll, mli, mi1, ml1, mr1, mir, mlr, mrr, miir, mlir, mget, mgi, mgl, mgr, mset, mset2, mkill, mput_t, mputr_t, mpop, mpsh, mrcv, mcnd, mtsw, mlsw, List.set_cons_zero, SH_16, SH_17, SH_18, SH_19, SH_20, SH_21, SH_22, SH_23, SH_24, SH_25, SH_26, SH_27, SH_28, SH_29, SH_30, SH_31, SH_32, SH_33, SH_34, SH_35, SH_36, SH_37, SH_38, SH_39, SH_40, SH_41, SH_42, SH_43, SH_44, SH_45, SH_46, SH_47, SH_48, SH_49, SH_50, SH_51, SH_52, SH_53, SH_54, SH_55, SH_56, SH_57, SH_58, SH_59, SH_60, SH_61, SH_62, SH_63, SH_64, SH_65, SH_66, SH_67, SH_68, SH_69, SH_70, SH_71, SH_72, SH_73, SH_74, SH_75, SH_76, SH_77, SH_78, SH_79, SH_80, SH_81, SH_82, SH_83, SH_84, SH_85, SH_86, SH_87, SH_88, SH_89, SH_90, SH_91, SH_92, SH_93, SH_94, SH_95, SH_96, SH_97, SH_98, SH_99, SH_100, SH_101, SH_102, SH_103, SH_104, SH_105, SH_106, SH_107, SH_108, SH_109, SH_110, SH_111, SH_112, SH_113, SH_114, SH_115, SH_116, SH_117, SH_118, SH_119, RF_16_0, RF_16_1, RF_16_2, RF_16_5, RF_16_6, RF_16_7, RF_16_8, RF_16_9, RF_17_0, RF_19_0, RF_19_1, RF_19_2, RF_19_3, RF_24_0, RF_25_1, RF_25_2, RF_25_4, RF_25_5, RF_25_6, RF_25_7, RF_25_8, RF_25_10, RF_25_11, RF_25_12, RF_25_13, RF_25_14, RF_25_16, RF_25_17, RF_40_1, RF_40_2, RF_40_4, RF_40_5, RF_40_6, RF_40_7, RF_40_8, RF_40_10, RF_40_11, RF_40_12, RF_40_13, RF_40_14, RF_40_16, RF_40_17, RF_55_0, RF_57_2, RF_57_3, RF_57_4, RF_57_5, RF_57_6, RF_57_7, RF_57_8, RF_57_9, RF_57_10, RF_57_11, RF_67_0, RF_67_1, RF_70_4, RF_70_5, RF_70_6, RF_70_7, RF_70_9, RF_70_10, RF_77_3, RF_80_0, RF_80_4, RF_80_5, RF_80_6, RF_80_7, RF_80_8, RF_80_9, RF_80_10, RF_80_11, RF_80_12, RF_80_13, RF_80_14, RF_80_15, RF_80_16, RF_80_17, RF_80_18, RF_80_19, RF_80_20, RF_80_23, RF_80_24, RF_80_25, RF_80_26, RF_80_27, RF_80_28, RF_80_29, RF_80_30, RF_80_31, RF_80_34, RF_80_43, RF_80_44, RF_80_45, RF_80_46, RF_80_47, RF_80_48, RF_80_49, RF_80_50, RF_80_51, RF_80_52, RF_80_53, RF_told, RF_draft, true_and, and_true, ne_eq, not_false_eq_true, not_true_eq_false, lCmp_eq0, lCmp_ne0, lCmp_lt0, lCmp_ge0, lCmp_gt0, lCmp_le0, Nat.reduceEqDiff, Nat.reduceLeDiff, Nat.reduceAdd, Nat.reduceLT, Int.reduceAdd, Int.reduceSub, Int.reduceMul, Int.reduceNeg, Int.reduceLT, Int.reduceLE, Int.reduceGT, Int.reduceGE, Int.reduceEq, Int.reduceNe, Int.reduceNatCast, Int.reduceToNat, reduceIte, false_and, and_false, false_implies, forall_const, or_true, true_or, or_false, false_or, Int.add_zero, Int.zero_add, i2B_i2B, mup_ap, b_La_setMarks_23, SHt_0 ht, SHt_1 ht, SHt_2 ht, SHt_3 ht, SHt_4 ht, SHt_5 ht, SHt_6 ht, SHt_7 ht, SHt_8 ht, SHt_9 ht, SHt_10 ht, SHt_11 ht, SHt_12 ht, SHt_13 ht, SHt_14 ht, RFt_1 ht, RFt_2 ht, RFt_4 ht, RFt_5 ht, RFt_6 ht, RFt_7 ht, RFt_8 ht, RFt_10 ht, RFt_11 ht, RFt_12 ht, RFt_13 ht, RFt_14 ht, RFt_16 ht, RFt_17 ht, g2]
        repeat (refine ⟨(by first | omega | (exact isT_16 ht) | rfl | decide), ?_⟩)
        refine ⟨fun _ => ?_, fun w => absurd w (by omega)⟩
        apply B_La_setMarks_62
        simp only [mwp, mst, mii, mll, mli, mi1, ml1, mr1, mir, mlr, mrr, miir, mlir, mget, mgi, mgl, mgr, mset, mset2, mkill, mput_t, mputr_t, mpop, mpsh, mrcv, mcnd, mtsw, mlsw, List.set_cons_zero, SH_16, SH_17, SH_18, SH_19, SH_20, SH_21, SH_22, SH_23, SH_24, SH_25, SH_26, SH_27, SH_28, SH_29, SH_30, SH_31, SH_32, SH_33, SH_34, SH_35, SH_36, SH_37, SH_38, SH_39, SH_40, SH_41, SH_42, SH_43, SH_44, SH_45, SH_46, SH_47, SH_48, SH_49, SH_50, SH_51, SH_52, SH_53, SH_54, SH_55, SH_56, SH_57, SH_58, SH_59, SH_60, SH_61, SH_62, SH_63, SH_64, SH_65, SH_66, SH_67, SH_68, SH_69, SH_70, SH_71, SH_72, SH_73, SH_74, SH_75, SH_76, SH_77, SH_78, SH_79, SH_80, SH_81, SH_82, SH_83, SH_84, SH_85, SH_86, SH_87, SH_88, SH_89, SH_90, SH_91, SH_92, SH_93, SH_94, SH_95, SH_96, SH_97, SH_98, SH_99, SH_100, SH_101, SH_102, SH_103, SH_104, SH_105, SH_106, SH_107, SH_108, SH_109, SH_110, SH_111, SH_112, SH_113, SH_114, SH_115, SH_116, SH_117, SH_118, SH_119, RF_16_0, RF_16_1, RF_16_2, RF_16_5, RF_16_6, RF_16_7, RF_16_8, RF_16_9, RF_17_0, RF_19_0, RF_19_1, RF_19_2, RF_19_3, RF_24_0, RF_25_1, RF_25_2, RF_25_4, RF_25_5, RF_25_6, RF_25_7, RF_25_8, RF_25_10, RF_25_11, RF_25_12, RF_25_13, RF_25_14, RF_25_16, RF_25_17, RF_40_1, RF_40_2, RF_40_4, RF_40_5, RF_40_6, RF_40_7, RF_40_8, RF_40_10, RF_40_11, RF_40_12, RF_40_13, RF_40_14, RF_40_16, RF_40_17, RF_55_0, RF_57_2, RF_57_3, RF_57_4, RF_57_5, RF_57_6, RF_57_7, RF_57_8, RF_57_9, RF_57_10, RF_57_11, RF_67_0, RF_67_1, RF_70_4, RF_70_5, RF_70_6, RF_70_7, RF_70_9, RF_70_10, RF_77_3, RF_80_0, RF_80_4, RF_80_5, RF_80_6, RF_80_7, RF_80_8, RF_80_9, RF_80_10, RF_80_11, RF_80_12, RF_80_13, RF_80_14, RF_80_15, RF_80_16, RF_80_17, RF_80_18, RF_80_19, RF_80_20, RF_80_23, RF_80_24, RF_80_25, RF_80_26, RF_80_27, RF_80_28, RF_80_29, RF_80_30, RF_80_31, RF_80_34, RF_80_43, RF_80_44, RF_80_45, RF_80_46, RF_80_47, RF_80_48, RF_80_49, RF_80_50, RF_80_51, RF_80_52, RF_80_53, RF_told, RF_draft, true_and, and_true, ne_eq, not_false_eq_true, not_true_eq_false, lCmp_eq0, lCmp_ne0, lCmp_lt0, lCmp_ge0, lCmp_gt0, lCmp_le0, Nat.reduceEqDiff, Nat.reduceLeDiff, Nat.reduceAdd, Nat.reduceLT, Int.reduceAdd, Int.reduceSub, Int.reduceMul, Int.reduceNeg, Int.reduceLT, Int.reduceLE, Int.reduceGT, Int.reduceGE, Int.reduceEq, Int.reduceNe, Int.reduceNatCast, Int.reduceToNat, reduceIte, false_and, and_false, false_implies, forall_const, or_true, true_or, or_false, false_or, Int.add_zero, Int.zero_add, i2B_i2B, mup_ap, b_La_setMarks_62]
        exact rooms nr 0 nx M1 (by omega) hf (by omega) hsrt hFx (fun i h1 h2 h3 => hok i h1 h2 (by omega)) (fun i h1 h2 h3 => hrk i h1 h2 (by omega))
      | succ d ihd =>
        intro k nx M1 hk hf hnx hsrt hFx hok hrk
        obtain ⟨g1, g2, g3, g4, g5, g6⟩ := fr M1 hf
        have hk5 := g4 k (by omega)
        rw [oL_s] at hsrt hFx
        by_cases w : mb k = m
        · rw [if_pos w] at hsrt hFx
          have hFk := hFx k ⟨_, List.mem_cons_self, rfl⟩
          rw [List.cons_append, asg, if_pos rfl, Nat.sub_self, Nat.pow_zero, Nat.mul_one] at hFk
          apply B_La_setMarks_23
          simp only [mwp, mst, mii, mll, mli, mi1, ml1, mr1, mir, mlr, mrr, miir, mlir, mget, mgi, mgl, mgr, mset, mset2, mkill, mput_t, mputr_t, mpop, mpsh, mrcv, mcnd, mtsw, mlsw, List.set_cons_zero, SH_16, SH_17, SH_18, SH_19, SH_20, SH_21, SH_22, SH_23, SH_24, SH_25, SH_26, SH_27, SH_28, SH_29, SH_30, SH_31, SH_32, SH_33, SH_34, SH_35, SH_36, SH_37, SH_38, SH_39, SH_40, SH_41, SH_42, SH_43, SH_44, SH_45, SH_46, SH_47, SH_48, SH_49, SH_50, SH_51, SH_52, SH_53, SH_54, SH_55, SH_56, SH_57, SH_58, SH_59, SH_60, SH_61, SH_62, SH_63, SH_64, SH_65, SH_66, SH_67, SH_68, SH_69, SH_70, SH_71, SH_72, SH_73, SH_74, SH_75, SH_76, SH_77, SH_78, SH_79, SH_80, SH_81, SH_82, SH_83, SH_84, SH_85, SH_86, SH_87, SH_88, SH_89, SH_90, SH_91, SH_92, SH_93, SH_94, SH_95, SH_96, SH_97, SH_98, SH_99, SH_100, SH_101, SH_102, SH_103, SH_104, SH_105, SH_106, SH_107, SH_108, SH_109, SH_110, SH_111, SH_112, SH_113, SH_114, SH_115, SH_116, SH_117, SH_118, SH_119, RF_16_0, RF_16_1, RF_16_2, RF_16_5, RF_16_6, RF_16_7, RF_16_8, RF_16_9, RF_17_0, RF_19_0, RF_19_1, RF_19_2, RF_19_3, RF_24_0, RF_25_1, RF_25_2, RF_25_4, RF_25_5, RF_25_6, RF_25_7, RF_25_8, RF_25_10, RF_25_11, RF_25_12, RF_25_13, RF_25_14, RF_25_16, RF_25_17, RF_40_1, RF_40_2, RF_40_4, RF_40_5, RF_40_6, RF_40_7, RF_40_8, RF_40_10, RF_40_11, RF_40_12, RF_40_13, RF_40_14, RF_40_16, RF_40_17, RF_55_0, RF_57_2, RF_57_3, RF_57_4, RF_57_5, RF_57_6, RF_57_7, RF_57_8, RF_57_9, RF_57_10, RF_57_11, RF_67_0, RF_67_1, RF_70_4, RF_70_5, RF_70_6, RF_70_7, RF_70_9, RF_70_10, RF_77_3, RF_80_0, RF_80_4, RF_80_5, RF_80_6, RF_80_7, RF_80_8, RF_80_9, RF_80_10, RF_80_11, RF_80_12, RF_80_13, RF_80_14, RF_80_15, RF_80_16, RF_80_17, RF_80_18, RF_80_19, RF_80_20, RF_80_23, RF_80_24, RF_80_25, RF_80_26, RF_80_27, RF_80_28, RF_80_29, RF_80_30, RF_80_31, RF_80_34, RF_80_43, RF_80_44, RF_80_45, RF_80_46, RF_80_47, RF_80_48, RF_80_49, RF_80_50, RF_80_51, RF_80_52, RF_80_53, RF_told, RF_draft, true_and, and_true, ne_eq, not_false_eq_true, not_true_eq_false, lCmp_eq0, lCmp_ne0, lCmp_lt0, lCmp_ge0, lCmp_gt0, lCmp_le0, Nat.reduceEqDiff, Nat.reduceLeDiff, Nat.reduceAdd, Nat.reduceLT, Int.reduceAdd, Int.reduceSub, Int.reduceMul, Int.reduceNeg, Int.reduceLT, Int.reduceLE, Int.reduceGT, Int.reduceGE, Int.reduceEq, Int.reduceNe, Int.reduceNatCast, Int.reduceToNat, reduceIte, false_and, and_false, false_implies, forall_const, or_true, true_or, or_false, false_or, Int.add_zero, Int.zero_add, i2B_i2B, mup_ap, b_La_setMarks_23, SHt_0 ht, SHt_1 ht, SHt_2 ht, SHt_3 ht, SHt_4 ht, SHt_5 ht, SHt_6 ht, SHt_7 ht, SHt_8 ht, SHt_9 ht, SHt_10 ht, SHt_11 ht, SHt_12 ht, SHt_13 ht, SHt_14 ht, RFt_1 ht, RFt_2 ht, RFt_4 ht, RFt_5 ht, RFt_6 ht, RFt_7 ht, RFt_8 ht, RFt_10 ht, RFt_11 ht, RFt_12 ht, RFt_13 ht, RFt_14 ht, RFt_16 ht, RFt_17 ht, g2, hk5]
          repeat (refine ⟨(by first | omega | (exact isT_16 ht) | rfl | decide), ?_⟩)
          intro _
          repeat (refine ⟨(by first | omega | (exact isT_16 ht) | rfl | decide), ?_⟩)
          intro _
          repeat (refine ⟨(by first | omega | (exact isT_16 ht) | rfl | decide), ?_⟩)
          apply B_La_setMarks_56
          simp only [mwp, mst, mii, mll, mli, mi1, ml1, mr1, mir, mlr, mrr, miir, mlir, mget, mgi, mgl, mgr, mset, mset2, mkill, mput_t, mputr_t, mpop, mpsh, mrcv, mcnd, mtsw, mlsw, List.set_cons_zero, SH_16, SH_17, SH_18, SH_19, SH_20, SH_21, SH_22, SH_23, SH_24, SH_25, SH_26, SH_27, SH_28, SH_29, SH_30, SH_31, SH_32, SH_33, SH_34, SH_35, SH_36, SH_37, SH_38, SH_39, SH_40, SH_41, SH_42, SH_43, SH_44, SH_45, SH_46, SH_47, SH_48, SH_49, SH_50, SH_51, SH_52, SH_53, SH_54, SH_55, SH_56, SH_57, SH_58, SH_59, SH_60, SH_61, SH_62, SH_63, SH_64, SH_65, SH_66, SH_67, SH_68, SH_69, SH_70, SH_71, SH_72, SH_73, SH_74, SH_75, SH_76, SH_77, SH_78, SH_79, SH_80, SH_81, SH_82, SH_83, SH_84, SH_85, SH_86, SH_87, SH_88, SH_89, SH_90, SH_91, SH_92, SH_93, SH_94, SH_95, SH_96, SH_97, SH_98, SH_99, SH_100, SH_101, SH_102, SH_103, SH_104, SH_105, SH_106, SH_107, SH_108, SH_109, SH_110, SH_111, SH_112, SH_113, SH_114, SH_115, SH_116, SH_117, SH_118, SH_119, RF_16_0, RF_16_1, RF_16_2, RF_16_5, RF_16_6, RF_16_7, RF_16_8, RF_16_9, RF_17_0, RF_19_0, RF_19_1, RF_19_2, RF_19_3, RF_24_0, RF_25_1, RF_25_2, RF_25_4, RF_25_5, RF_25_6, RF_25_7, RF_25_8, RF_25_10, RF_25_11, RF_25_12, RF_25_13, RF_25_14, RF_25_16, RF_25_17, RF_40_1, RF_40_2, RF_40_4, RF_40_5, RF_40_6, RF_40_7, RF_40_8, RF_40_10, RF_40_11, RF_40_12, RF_40_13, RF_40_14, RF_40_16, RF_40_17, RF_55_0, RF_57_2, RF_57_3, RF_57_4, RF_57_5, RF_57_6, RF_57_7, RF_57_8, RF_57_9, RF_57_10, RF_57_11, RF_67_0, RF_67_1, RF_70_4, RF_70_5, RF_70_6, RF_70_7, RF_70_9, RF_70_10, RF_77_3, RF_80_0, RF_80_4, RF_80_5, RF_80_6, RF_80_7, RF_80_8, RF_80_9, RF_80_10, RF_80_11, RF_80_12, RF_80_13, RF_80_14, RF_80_15, RF_80_16, RF_80_17, RF_80_18, RF_80_19, RF_80_20, RF_80_23, RF_80_24, RF_80_25, RF_80_26, RF_80_27, RF_80_28, RF_80_29, RF_80_30, RF_80_31, RF_80_34, RF_80_43, RF_80_44, RF_80_45, RF_80_46, RF_80_47, RF_80_48, RF_80_49, RF_80_50, RF_80_51, RF_80_52, RF_80_53, RF_told, RF_draft, true_and, and_true, ne_eq, not_false_eq_true, not_true_eq_false, lCmp_eq0, lCmp_ne0, lCmp_lt0, lCmp_ge0, lCmp_gt0, lCmp_le0, Nat.reduceEqDiff, Nat.reduceLeDiff, Nat.reduceAdd, Nat.reduceLT, Int.reduceAdd, Int.reduceSub, Int.reduceMul, Int.reduceNeg, Int.reduceLT, Int.reduceLE, Int.reduceGT, Int.reduceGE, Int.reduceEq, Int.reduceNe, Int.reduceNatCast, Int.reduceToNat, reduceIte, false_and, and_false, false_implies, forall_const, or_true, true_or, or_false, false_or, Int.add_zero, Int.zero_add, i2B_i2B, mup_ap, b_La_setMarks_56]
          repeat (refine ⟨(by first | omega | (exact isT_16 ht) | rfl | decide), ?_⟩)
          have := ihd (k + 1) (nx + 1) (mup M1 60 k nx) (by omega) (mkf_m hf (Or.inl rfl)) (by omega) hsrt.2.2.2 (fun x hx => ?_) (fun i h1 h2 h3 => ?_) (fun i h1 h2 h3 => by rw [mup_n (by decide)]; exact hrk i h1 h2 h3)
          · exact this
          · have hne : x ≠ k := by
              obtain ⟨q, hq, rfl⟩ := hx
              exact hsrt.2.2.1 q hq
            have h7 := hFx x (by obtain ⟨q, hq, rfl⟩ := hx; exact ⟨q, List.mem_cons_of_mem _ hq, rfl⟩)
            rw [List.cons_append, asg, if_neg hne, Nat.sub_self, Nat.pow_zero, Nat.mul_one] at h7
            exact h7
          · rw [mup_ap]
            by_cases v : i = k
            · subst v
              rw [if_pos ⟨rfl, rfl⟩, hFk]
            · rw [if_neg (by omega)]
              exact hok i h1 h2 (by omega)
        · rw [if_neg w] at hsrt hFx
          apply B_La_setMarks_23
          simp only [mwp, mst, mii, mll, mli, mi1, ml1, mr1, mir, mlr, mrr, miir, mlir, mget, mgi, mgl, mgr, mset, mset2, mkill, mput_t, mputr_t, mpop, mpsh, mrcv, mcnd, mtsw, mlsw, List.set_cons_zero, SH_16, SH_17, SH_18, SH_19, SH_20, SH_21, SH_22, SH_23, SH_24, SH_25, SH_26, SH_27, SH_28, SH_29, SH_30, SH_31, SH_32, SH_33, SH_34, SH_35, SH_36, SH_37, SH_38, SH_39, SH_40, SH_41, SH_42, SH_43, SH_44, SH_45, SH_46, SH_47, SH_48, SH_49, SH_50, SH_51, SH_52, SH_53, SH_54, SH_55, SH_56, SH_57, SH_58, SH_59, SH_60, SH_61, SH_62, SH_63, SH_64, SH_65, SH_66, SH_67, SH_68, SH_69, SH_70, SH_71, SH_72, SH_73, SH_74, SH_75, SH_76, SH_77, SH_78, SH_79, SH_80, SH_81, SH_82, SH_83, SH_84, SH_85, SH_86, SH_87, SH_88, SH_89, SH_90, SH_91, SH_92, SH_93, SH_94, SH_95, SH_96, SH_97, SH_98, SH_99, SH_100, SH_101, SH_102, SH_103, SH_104, SH_105, SH_106, SH_107, SH_108, SH_109, SH_110, SH_111, SH_112, SH_113, SH_114, SH_115, SH_116, SH_117, SH_118, SH_119, RF_16_0, RF_16_1, RF_16_2, RF_16_5, RF_16_6, RF_16_7, RF_16_8, RF_16_9, RF_17_0, RF_19_0, RF_19_1, RF_19_2, RF_19_3, RF_24_0, RF_25_1, RF_25_2, RF_25_4, RF_25_5, RF_25_6, RF_25_7, RF_25_8, RF_25_10, RF_25_11, RF_25_12, RF_25_13, RF_25_14, RF_25_16, RF_25_17, RF_40_1, RF_40_2, RF_40_4, RF_40_5, RF_40_6, RF_40_7, RF_40_8, RF_40_10, RF_40_11, RF_40_12, RF_40_13, RF_40_14, RF_40_16, RF_40_17, RF_55_0, RF_57_2, RF_57_3, RF_57_4, RF_57_5, RF_57_6, RF_57_7, RF_57_8, RF_57_9, RF_57_10, RF_57_11, RF_67_0, RF_67_1, RF_70_4, RF_70_5, RF_70_6, RF_70_7, RF_70_9, RF_70_10, RF_77_3, RF_80_0, RF_80_4, RF_80_5, RF_80_6, RF_80_7, RF_80_8, RF_80_9, RF_80_10, RF_80_11, RF_80_12, RF_80_13, RF_80_14, RF_80_15, RF_80_16, RF_80_17, RF_80_18, RF_80_19, RF_80_20, RF_80_23, RF_80_24, RF_80_25, RF_80_26, RF_80_27, RF_80_28, RF_80_29, RF_80_30, RF_80_31, RF_80_34, RF_80_43, RF_80_44, RF_80_45, RF_80_46, RF_80_47, RF_80_48, RF_80_49, RF_80_50, RF_80_51, RF_80_52, RF_80_53, RF_told, RF_draft, true_and, and_true, ne_eq, not_false_eq_true, not_true_eq_false, lCmp_eq0, lCmp_ne0, lCmp_lt0, lCmp_ge0, lCmp_gt0, lCmp_le0, Nat.reduceEqDiff, Nat.reduceLeDiff, Nat.reduceAdd, Nat.reduceLT, Int.reduceAdd, Int.reduceSub, Int.reduceMul, Int.reduceNeg, Int.reduceLT, Int.reduceLE, Int.reduceGT, Int.reduceGE, Int.reduceEq, Int.reduceNe, Int.reduceNatCast, Int.reduceToNat, reduceIte, false_and, and_false, false_implies, forall_const, or_true, true_or, or_false, false_or, Int.add_zero, Int.zero_add, i2B_i2B, mup_ap, b_La_setMarks_23, SHt_0 ht, SHt_1 ht, SHt_2 ht, SHt_3 ht, SHt_4 ht, SHt_5 ht, SHt_6 ht, SHt_7 ht, SHt_8 ht, SHt_9 ht, SHt_10 ht, SHt_11 ht, SHt_12 ht, SHt_13 ht, SHt_14 ht, RFt_1 ht, RFt_2 ht, RFt_4 ht, RFt_5 ht, RFt_6 ht, RFt_7 ht, RFt_8 ht, RFt_10 ht, RFt_11 ht, RFt_12 ht, RFt_13 ht, RFt_14 ht, RFt_16 ht, RFt_17 ht, g2, hk5]
          repeat (refine ⟨(by first | omega | (exact isT_16 ht) | rfl | decide), ?_⟩)
          intro _
          repeat (refine ⟨(by first | omega | (exact isT_16 ht) | rfl | decide), ?_⟩)
          refine ⟨fun _ => ?_, fun q => absurd q (by omega)⟩
          apply B_La_setMarks_56
          simp only [mwp, mst, mii, mll, mli, mi1, ml1, mr1, mir, mlr, mrr, miir, mlir, mget, mgi, mgl, mgr, mset, mset2, mkill, mput_t, mputr_t, mpop, mpsh, mrcv, mcnd, mtsw, mlsw, List.set_cons_zero, SH_16, SH_17, SH_18, SH_19, SH_20, SH_21, SH_22, SH_23, SH_24, SH_25, SH_26, SH_27, SH_28, SH_29, SH_30, SH_31, SH_32, SH_33, SH_34, SH_35, SH_36, SH_37, SH_38, SH_39, SH_40, SH_41, SH_42, SH_43, SH_44, SH_45, SH_46, SH_47, SH_48, SH_49, SH_50, SH_51, SH_52, SH_53, SH_54, SH_55, SH_56, SH_57, SH_58, SH_59, SH_60, SH_61, SH_62, SH_63, SH_64, SH_65, SH_66, SH_67, SH_68, SH_69, SH_70, SH_71, SH_72, SH_73, SH_74, SH_75, SH_76, SH_77, SH_78, SH_79, SH_80, SH_81, SH_82, SH_83, SH_84, SH_85, SH_86, SH_87, SH_88, SH_89, SH_90, SH_91, SH_92, SH_93, SH_94, SH_95, SH_96, SH_97, SH_98, SH_99, SH_100, SH_101, SH_102, SH_103, SH_104, SH_105, SH_106, SH_107, SH_108, SH_109, SH_110, SH_111, SH_112, SH_113, SH_114, SH_115, SH_116, SH_117, SH_118, SH_119, RF_16_0, RF_16_1, RF_16_2, RF_16_5, RF_16_6, RF_16_7, RF_16_8, RF_16_9, RF_17_0, RF_19_0, RF_19_1, RF_19_2, RF_19_3, RF_24_0, RF_25_1, RF_25_2, RF_25_4, RF_25_5, RF_25_6, RF_25_7, RF_25_8, RF_25_10, RF_25_11, RF_25_12, RF_25_13, RF_25_14, RF_25_16, RF_25_17, RF_40_1, RF_40_2, RF_40_4, RF_40_5, RF_40_6, RF_40_7, RF_40_8, RF_40_10, RF_40_11, RF_40_12, RF_40_13, RF_40_14, RF_40_16, RF_40_17, RF_55_0, RF_57_2, RF_57_3, RF_57_4, RF_57_5, RF_57_6, RF_57_7, RF_57_8, RF_57_9, RF_57_10, RF_57_11, RF_67_0, RF_67_1, RF_70_4, RF_70_5, RF_70_6, RF_70_7, RF_70_9, RF_70_10, RF_77_3, RF_80_0, RF_80_4, RF_80_5, RF_80_6, RF_80_7, RF_80_8, RF_80_9, RF_80_10, RF_80_11, RF_80_12, RF_80_13, RF_80_14, RF_80_15, RF_80_16, RF_80_17, RF_80_18, RF_80_19, RF_80_20, RF_80_23, RF_80_24, RF_80_25, RF_80_26, RF_80_27, RF_80_28, RF_80_29, RF_80_30, RF_80_31, RF_80_34, RF_80_43, RF_80_44, RF_80_45, RF_80_46, RF_80_47, RF_80_48, RF_80_49, RF_80_50, RF_80_51, RF_80_52, RF_80_53, RF_told, RF_draft, true_and, and_true, ne_eq, not_false_eq_true, not_true_eq_false, lCmp_eq0, lCmp_ne0, lCmp_lt0, lCmp_ge0, lCmp_gt0, lCmp_le0, Nat.reduceEqDiff, Nat.reduceLeDiff, Nat.reduceAdd, Nat.reduceLT, Int.reduceAdd, Int.reduceSub, Int.reduceMul, Int.reduceNeg, Int.reduceLT, Int.reduceLE, Int.reduceGT, Int.reduceGE, Int.reduceEq, Int.reduceNe, Int.reduceNatCast, Int.reduceToNat, reduceIte, false_and, and_false, false_implies, forall_const, or_true, true_or, or_false, false_or, Int.add_zero, Int.zero_add, i2B_i2B, mup_ap, b_La_setMarks_56]
          repeat (refine ⟨(by first | omega | (exact isT_16 ht) | rfl | decide), ?_⟩)
          exact ihd (k + 1) nx M1 (by omega) hf (by omega) hsrt hFx (fun i h1 h2 h3 => hok i h1 h2 (h3.imp id (fun v => ⟨v.1, Nat.lt_of_le_of_ne (Nat.le_of_lt_succ v.2) (fun e => w (by rw [← e]; exact v.1))⟩))) hrk
    apply B_La_setMarks_5
    simp only [mwp, mst, mii, mll, mli, mi1, ml1, mr1, mir, mlr, mrr, miir, mlir, mget, mgi, mgl, mgr, mset, mset2, mkill, mput_t, mputr_t, mpop, mpsh, mrcv, mcnd, mtsw, mlsw, List.set_cons_zero, SH_16, SH_17, SH_18, SH_19, SH_20, SH_21, SH_22, SH_23, SH_24, SH_25, SH_26, SH_27, SH_28, SH_29, SH_30, SH_31, SH_32, SH_33, SH_34, SH_35, SH_36, SH_37, SH_38, SH_39, SH_40, SH_41, SH_42, SH_43, SH_44, SH_45, SH_46, SH_47, SH_48, SH_49, SH_50, SH_51, SH_52, SH_53, SH_54, SH_55, SH_56, SH_57, SH_58, SH_59, SH_60, SH_61, SH_62, SH_63, SH_64, SH_65, SH_66, SH_67, SH_68, SH_69, SH_70, SH_71, SH_72, SH_73, SH_74, SH_75, SH_76, SH_77, SH_78, SH_79, SH_80, SH_81, SH_82, SH_83, SH_84, SH_85, SH_86, SH_87, SH_88, SH_89, SH_90, SH_91, SH_92, SH_93, SH_94, SH_95, SH_96, SH_97, SH_98, SH_99, SH_100, SH_101, SH_102, SH_103, SH_104, SH_105, SH_106, SH_107, SH_108, SH_109, SH_110, SH_111, SH_112, SH_113, SH_114, SH_115, SH_116, SH_117, SH_118, SH_119, RF_16_0, RF_16_1, RF_16_2, RF_16_5, RF_16_6, RF_16_7, RF_16_8, RF_16_9, RF_17_0, RF_19_0, RF_19_1, RF_19_2, RF_19_3, RF_24_0, RF_25_1, RF_25_2, RF_25_4, RF_25_5, RF_25_6, RF_25_7, RF_25_8, RF_25_10, RF_25_11, RF_25_12, RF_25_13, RF_25_14, RF_25_16, RF_25_17, RF_40_1, RF_40_2, RF_40_4, RF_40_5, RF_40_6, RF_40_7, RF_40_8, RF_40_10, RF_40_11, RF_40_12, RF_40_13, RF_40_14, RF_40_16, RF_40_17, RF_55_0, RF_57_2, RF_57_3, RF_57_4, RF_57_5, RF_57_6, RF_57_7, RF_57_8, RF_57_9, RF_57_10, RF_57_11, RF_67_0, RF_67_1, RF_70_4, RF_70_5, RF_70_6, RF_70_7, RF_70_9, RF_70_10, RF_77_3, RF_80_0, RF_80_4, RF_80_5, RF_80_6, RF_80_7, RF_80_8, RF_80_9, RF_80_10, RF_80_11, RF_80_12, RF_80_13, RF_80_14, RF_80_15, RF_80_16, RF_80_17, RF_80_18, RF_80_19, RF_80_20, RF_80_23, RF_80_24, RF_80_25, RF_80_26, RF_80_27, RF_80_28, RF_80_29, RF_80_30, RF_80_31, RF_80_34, RF_80_43, RF_80_44, RF_80_45, RF_80_46, RF_80_47, RF_80_48, RF_80_49, RF_80_50, RF_80_51, RF_80_52, RF_80_53, RF_told, RF_draft, true_and, and_true, ne_eq, not_false_eq_true, not_true_eq_false, lCmp_eq0, lCmp_ne0, lCmp_lt0, lCmp_ge0, lCmp_gt0, lCmp_le0, Nat.reduceEqDiff, Nat.reduceLeDiff, Nat.reduceAdd, Nat.reduceLT, Int.reduceAdd, Int.reduceSub, Int.reduceMul, Int.reduceNeg, Int.reduceLT, Int.reduceLE, Int.reduceGT, Int.reduceGE, Int.reduceEq, Int.reduceNe, Int.reduceNatCast, Int.reduceToNat, reduceIte, false_and, and_false, false_implies, forall_const, or_true, true_or, or_false, false_or, Int.add_zero, Int.zero_add, i2B_i2B, mup_ap, b_La_setMarks_5, g1, esh]
    repeat (refine ⟨(by first | omega | (exact isT_16 ht) | rfl | decide), ?_⟩)
    intro _
    exact orders n 0 (nx * 2) M1 (by omega) hf (by omega) hsrt hF2 (fun i h1 h2 h3 => hok i h1 h2 (by omega)) hrk
end
