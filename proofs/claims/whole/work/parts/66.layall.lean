/-! an ORDER's data, both sides -/
def oN (t : Nat) (M : Nat → Int → Int) (k : Nat) : Nat := (M (t + 5) k).toNat
def oF (t : Nat) (M : Nat → Int → Int) (k i : Nat) : Int := M (t + 7) ((k : Int) * 6 + i)
def oW (t : Nat) (M : Nat → Int → Int) (k i : Nat) : Nat := (M (t + 2) (oF t M k i)).toNat
theorem bol_app {wd : Nat → Nat} : ∀ (p q : List Nat), bol wd (p ++ q) = bol wd p + bol wd q
  | [], q => by show bol wd q = 0 + bol wd q; omega
  | a :: p, q => by show wd a + bol wd (p ++ q) = wd a + bol wd p + bol wd q; rw [bol_app p q]; omega
theorem bol_range {wd : Nat → Nat} {g : Int → Int} : ∀ (n : Nat), (∀ i : Nat, i < n → g i = wd i) → ((bol wd (List.range n) : Nat) : Int) = smw g n
  | 0, _ => rfl
  | n + 1, h => by
    have ih := bol_range n (fun i hi => h i (by omega))
    have h1 := h n (by omega)
    rw [List.range_succ, bol_app, smw, ← ih, h1]
    show ((bol wd (List.range n) + (wd n + 0) : Nat) : Int) = _
    omega
theorem TR_data {t : Nat} {M D : Nat → Int → Int} {k : Nat} (h1 : TRf t 0 M D) (h2 : ORr t 0 M D k) (hk : k < 40) : (oN t M k ≤ 6 ∧ M (t + 5) k = oN t M k ∧ D 88 k = oN t M k) ∧ ((bol (oW t M k) (List.range (oN t M k)) : Nat) : Int) = M (t + 6) k ∧ bol (oW t M k) (List.range (oN t M k)) ≤ 24 ∧ (∀ i : Nat, i < oN t M k → 1 ≤ oW t M k i ∧ oW t M k i ≤ 16) ∧ (∀ i j : Nat, i < oN t M k → j < oN t M k → i ≠ j → oF t M k i ≠ oF t M k j) ∧
    (∀ i : Nat, i < oN t M k → D 89 ((k : Int) * 6 + i) = oF t M k i ∧ 0 ≤ oF t M k i ∧ oF t M k i < D 82 0 ∧ M (t + 2) (oF t M k i) = oW t M k i ∧ D 84 (oF t M k i) = oW t M k i) := by
  obtain ⟨f1, f2, f3, f4⟩ := h1
  obtain ⟨b1, b2, b3, b4, b5, b6, b7⟩ := h2
  simp only [Int.zero_mul, Int.zero_add] at f4 b1 b2 b3 b4 b5 b6
  have hN : M (t + 5) k = oN t M k := by unfold oN; omega
  have hn : D 88 k = oN t M k := by rw [← hN]; exact b3.1.symm
  rw [hn] at b3 b4 b5 b6
  have hm : ∀ i : Nat, i < oN t M k → D 89 ((k : Int) * 6 + i) = oF t M k i ∧ 0 ≤ oF t M k i ∧ oF t M k i < D 82 0 ∧ M (t + 2) (oF t M k i) = oW t M k i ∧ D 84 (oF t M k i) = oW t M k i ∧ 1 ≤ oW t M k i ∧ oW t M k i ≤ 16 := by
    intro i hi
    have h := b4 i (by omega) (by omega)
    have e : oF t M k i = D 89 ((k : Int) * 6 + i) := by unfold oF; exact h.1
    have hf := f4 (D 89 ((k : Int) * 6 + i)) h.2.1 h.2.2
    have ew : M (t + 2) (oF t M k i) = oW t M k i := by
      unfold oW
      rw [e, hf.2.1]
      omega
    refine ⟨e.symm, by rw [e]; exact h.2.1, by rw [e]; exact h.2.2, ew, ?_, ?_, ?_⟩
    · rw [← ew, e, hf.2.1]
    · rw [e, hf.2.1] at ew; omega
    · rw [e, hf.2.1] at ew; omega
  have hb : ((bol (oW t M k) (List.range (oN t M k)) : Nat) : Int) = M (t + 6) k := by
    rw [b6, show ((oN t M k : Nat) : Int).toNat = oN t M k by omega]
    apply bol_range
    intro i hi
    have := hm i hi
    show D 84 (D 89 ((k : Int) * 6 + i)) = _
    rw [this.1, this.2.2.2.2.1]
  refine ⟨⟨by omega, hN, hn⟩, hb, by omega, fun i hi => (hm i hi).2.2.2.2.2, fun i j hi hj hij => ?_, fun i hi => ⟨(hm i hi).1, (hm i hi).2.1, (hm i hi).2.2.1, (hm i hi).2.2.2.1, (hm i hi).2.2.2.2.1⟩⟩
  rw [← (hm i hi).1, ← (hm j hj).1]
  rcases Nat.lt_or_ge i j with w | w
  · exact b5 i j (by omega) (by omega) (by omega)
  · exact fun e => b5 j i (by omega) (by omega) (by omega) e.symm
/-! PLACES, ORDER by ORDER -/
section
variable (t : Nat) (M : Nat → Int → Int)
/-- the row of ORDER k, where S are the PLACES seen -/
def oG (S : Int → Nat) (k : Nat) : List Nat := grd (nwf (oW t M k) (fun i => S (oF t M k i))) (oN t M k) (List.range (oN t M k))
def oP (S : Int → Nat) (k i : Nat) : Nat := plc (oW t M k) (oG t M S k) i
def sN1 (S : Int → Nat) (k : Nat) : Int → Nat := fun f => match (List.range (oN t M k)).find? (fun i => oF t M k i == f) with
  | some i => S f ||| 2 ^ oP t M S k i
  | none => S f
def sNs : Nat → Int → Nat
  | 0 => fun _ => 0
  | k + 1 => sN1 t M (sNs k) k
end
section
variable {t : Nat} {M : Nat → Int → Int} {S : Int → Nat} {k : Nat}
theorem sN1_y {i : Nat} (hd : ∀ i j : Nat, i < oN t M k → j < oN t M k → i ≠ j → oF t M k i ≠ oF t M k j) (hi : i < oN t M k) : sN1 t M S k (oF t M k i) = S (oF t M k i) ||| 2 ^ oP t M S k i := by
  unfold sN1
  have : (List.range (oN t M k)).find? (fun j => oF t M k j == oF t M k i) = some i := by
    rw [List.find?_range_eq_some]
    refine ⟨by simp, List.mem_range.mpr hi, fun j hj => ?_⟩
    have := hd j i (by omega) hi (by omega)
    simp [this]
  rw [this]
theorem sN1_n {f : Int} (h : ∀ i : Nat, i < oN t M k → f ≠ oF t M k i) : sN1 t M S k f = S f := by
  unfold sN1
  have : (List.range (oN t M k)).find? (fun j => oF t M k j == f) = none := by
    rw [List.find?_eq_none]
    intro j hj
    have := h j (List.mem_range.mp hj)
    simp only [beq_iff_eq]
    exact fun e => this e.symm
  rw [this]
theorem oP_b (hb : bol (oW t M k) (List.range (oN t M k)) ≤ 24) (hn : oN t M k ≤ 6) (hw : ∀ i : Nat, i < oN t M k → 1 ≤ oW t M k i ∧ oW t M k i ≤ 16) {i : Nat} (hi : i < oN t M k) : oP t M S k i + oW t M k i ≤ 24 := by
  have hm := grd_mem (nwf_P (wd := oW t M k) (sn := fun i => S (oF t M k i))) nwf_1 hn
  obtain ⟨g1, g2⟩ := PM_len _ _ hm
  obtain ⟨g3, g4⟩ := PM_nd hm
  obtain ⟨j, hj, e⟩ := g4 i hi
  have hpb := bol_perm (wd := oW t M k) (PM_perm _ _ _ List.length_range hm)
  have e2 : oP t M S k i = bol (oW t M k) ((oG t M S k).drop (j + 1)) := by
    unfold oP
    rw [← e]
    exact plc_gt _ g3 j (by rw [g1]; exact hj)
  have h1 := bol_drop (wd := oW t M k) (oG t M S k) j (by show j < (grd _ _ _).length; rw [g1]; exact hj)
  have h2 := bol_le (wd := oW t M k) (oG t M S k) j
  have e3 : gt (oG t M S k) j = i := e
  rw [e3] at h1
  have h3 : bol (oW t M k) (oG t M S k) ≤ 24 := by
    show bol (oW t M k) (grd _ _ _) ≤ 24
    rw [hpb]; exact hb
  rw [e2]
  omega
theorem sN1_b (hb : bol (oW t M k) (List.range (oN t M k)) ≤ 24) (hn : oN t M k ≤ 6) (hw : ∀ i : Nat, i < oN t M k → 1 ≤ oW t M k i ∧ oW t M k i ≤ 16) (hS : ∀ f, S f < 2 ^ 24) (f : Int) : sN1 t M S k f < 2 ^ 24 := by
  unfold sN1
  split
  · rename_i i hi
    have hi' : i < oN t M k := List.mem_range.mp (List.mem_of_find?_eq_some hi)
    have := oP_b (S := S) hb hn hw hi'
    have hw' := hw i hi'
    have hp : (2 : Nat) ^ oP t M S k i ≤ 2 ^ 23 := Nat.pow_le_pow_right (by decide) (by omega)
    exact Nat.or_lt_two_pow (hS f) (by omega)
  · exact hS f
end
section
variable {L : Nat} {b : Bool} {Q : Option mV → mM → Prop} {t : Nat} {u : Int} {M : Nat → Int → Int}
theorem La_setUnits_sp {k c un1 : Int} (ht : isT t) (k0 : 0 ≤ k) (k1 : k < 40) (hun : M 57 0 = un1) (u1 : 0 ≤ un1 ∧ un1 ≤ 16) (hc : c = 1 ∨ c = 2) (hb : 0 ≤ M (t + 6) k ∧ M (t + 6) k ≤ 24) (hus : 0 ≤ M (t + 4) k ∧ M (t + 4) k ≤ 10000) (hco : 0 ≤ M 57 1 ∧ M 57 1 ≤ 1000000)
    (h : Q none (mS L b (mup (mup (mup M 58 k c) 59 k (c * un1 - M (t + 6) k)) 57 1 (M 57 1 + c * M (t + 4) k)))) : Cl i_La_setUnits [.inr (.inr 57), .inr (.inr t), .inl k, .inl c] (mS L b M) Q := by
  have ht' : t = 25 ∨ t = 40 := ht
  have e : ∀ x y, mup M 58 x y (t + 6) = M (t + 6) := fun x y => mup_n (by omega)
  have e2 : ∀ x y z w, mup (mup M 58 x y) 59 z w (t + 4) = M (t + 4) := fun x y z w => by rw [mup_n (by omega), mup_n (by omega)]
  have e3 : ∀ x y, mup M 58 x y 57 = M 57 := fun x y => mup_n (by decide)
  have e4 : ∀ x y z w, mup (mup M 58 x y) 59 z w 57 = M 57 := fun x y z w => by rw [mup_n (by decide), mup_n (by decide)]
  have hcu : 0 ≤ c * un1 ∧ c * un1 ≤ 32 := by rcases hc with rfl | rfl <;> omega
  have hcs : 0 ≤ c * M (t + 4) k ∧ c * M (t + 4) k ≤ 20000 := by rcases hc with rfl | rfl <;> omega
  apply E_La_setUnits
  apply B_La_setUnits_0
  dsimp only [mwp, mst, mii, mll, mli, mi1, ml1, mr1, mir, mlr, mrr, miir, mlir, mget, mgi, mgl, mgr, mset, mset2, mkill, mput_t, mputr_t, mpop, mpsh, mrcv, mcnd, mtsw, mlsw, List.set_cons_zero, b_La_setUnits_0]
  simp only [mwp, mst, mii, mll, mli, mi1, ml1, mr1, mir, mlr, mrr, miir, mlir, mget, mgi, mgl, mgr, mset, mset2, mkill, mput_t, mputr_t, mpop, mpsh, mrcv, mcnd, mtsw, mlsw, List.set_cons_zero, SH_16, SH_17, SH_18, SH_19, SH_20, SH_21, SH_22, SH_23, SH_24, SH_25, SH_26, SH_27, SH_28, SH_29, SH_30, SH_31, SH_32, SH_33, SH_34, SH_35, SH_36, SH_37, SH_38, SH_39, SH_40, SH_41, SH_42, SH_43, SH_44, SH_45, SH_46, SH_47, SH_48, SH_49, SH_50, SH_51, SH_52, SH_53, SH_54, SH_55, SH_56, SH_57, SH_58, SH_59, SH_60, SH_61, SH_62, SH_63, SH_64, SH_65, SH_66, SH_67, SH_68, SH_69, SH_70, SH_71, SH_72, SH_73, SH_74, SH_75, SH_76, SH_77, SH_78, SH_79, SH_80, SH_81, SH_82, SH_83, SH_84, SH_85, SH_86, SH_87, SH_88, SH_89, SH_90, SH_91, SH_92, SH_93, SH_94, SH_95, SH_96, SH_97, SH_98, SH_99, SH_100, SH_101, SH_102, SH_103, SH_104, SH_105, SH_106, SH_107, SH_108, SH_109, SH_110, SH_111, SH_112, SH_113, SH_114, SH_115, SH_116, SH_117, SH_118, SH_119, RF_16_0, RF_16_1, RF_16_2, RF_16_5, RF_16_6, RF_16_7, RF_16_8, RF_16_9, RF_17_0, RF_19_0, RF_19_1, RF_19_2, RF_19_3, RF_24_0, RF_25_1, RF_25_2, RF_25_4, RF_25_5, RF_25_6, RF_25_7, RF_25_8, RF_25_10, RF_25_11, RF_25_12, RF_25_13, RF_25_14, RF_25_16, RF_25_17, RF_40_1, RF_40_2, RF_40_4, RF_40_5, RF_40_6, RF_40_7, RF_40_8, RF_40_10, RF_40_11, RF_40_12, RF_40_13, RF_40_14, RF_40_16, RF_40_17, RF_55_0, RF_57_2, RF_57_3, RF_57_4, RF_57_5, RF_57_6, RF_57_7, RF_57_8, RF_57_9, RF_57_10, RF_57_11, RF_67_0, RF_67_1, RF_70_4, RF_70_5, RF_70_6, RF_70_7, RF_70_9, RF_70_10, RF_77_3, RF_80_0, RF_80_4, RF_80_5, RF_80_6, RF_80_7, RF_80_8, RF_80_9, RF_80_10, RF_80_11, RF_80_12, RF_80_13, RF_80_14, RF_80_15, RF_80_16, RF_80_17, RF_80_18, RF_80_19, RF_80_20, RF_80_23, RF_80_24, RF_80_25, RF_80_26, RF_80_27, RF_80_28, RF_80_29, RF_80_30, RF_80_31, RF_80_34, RF_80_43, RF_80_44, RF_80_45, RF_80_46, RF_80_47, RF_80_48, RF_80_49, RF_80_50, RF_80_51, RF_80_52, RF_80_53, SHt_0 ht, SHt_1 ht, SHt_2 ht, SHt_3 ht, SHt_4 ht, SHt_5 ht, SHt_6 ht, SHt_7 ht, SHt_8 ht, SHt_9 ht, SHt_10 ht, SHt_11 ht, SHt_12 ht, SHt_13 ht, SHt_14 ht, RFt_1 ht, RFt_2 ht, RFt_4 ht, RFt_5 ht, RFt_6 ht, RFt_7 ht, RFt_8 ht, RFt_10 ht, RFt_11 ht, RFt_12 ht, RFt_13 ht, RFt_14 ht, RFt_16 ht, RFt_17 ht, true_and, and_true, ne_eq, not_false_eq_true, not_true_eq_false, Nat.reduceEqDiff, Nat.reduceLeDiff, Int.reduceAdd, Int.reduceMul, Int.reduceNeg, Int.reduceLT, Int.reduceLE, Int.reduceEq, reduceIte, e, e2, e3, e4, hun]
  repeat (refine ⟨(by first | omega | (exact isT_16 ht) | rfl | decide), ?_⟩)
  exact h
end
