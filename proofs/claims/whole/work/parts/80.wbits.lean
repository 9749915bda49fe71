/-! bits of an int -/
def ib (x : Int) (j : Nat) : Bool := (Int32.ofInt x).toBitVec.getLsbD j
theorem ib_or {x y : Int} {j : Nat} : ib (iOr x y) j = (ib x j || ib y j) := by
  unfold ib iOr
  rw [Int32.ofInt_toInt, Int32.toBitVec_or, BitVec.getLsbD_or]
theorem ib_xor {x y : Int} {j : Nat} : ib (iXor x y) j = (ib x j ^^ ib y j) := by
  unfold ib iXor
  rw [Int32.ofInt_toInt, Int32.toBitVec_xor, BitVec.getLsbD_xor]
theorem ib_and {x y : Int} {j : Nat} : ib (iAnd x y) j = (ib x j && ib y j) := by
  unfold ib iAnd
  rw [Int32.ofInt_toInt, Int32.toBitVec_and, BitVec.getLsbD_and]
theorem ib_n1 : ∀ j, j < 32 → ib (-1) j = true := by decide +kernel
theorem ib_0 {j : Nat} : ib 0 j = false := by
  unfold ib
  rw [show (Int32.ofInt 0).toBitVec = 0#32 from rfl, BitVec.getLsbD_zero]
theorem ib_32 {x : Int} {j : Nat} (h : 32 ≤ j) : ib x j = false := BitVec.getLsbD_of_ge _ _ h
theorem shu32 : ∀ k : Nat, k < 32 → (((Int32.ofInt (k : Int)).toUInt32 &&& Int32.toUInt32 31).toBitVec % 32#32).toNat = k := by decide +kernel
theorem ib_ush {x : Int} {k j : Nat} (hk : k < 32) : ib (iUsh x k) j = ib x (k + j) := by
  unfold ib iUsh
  rw [Int32.ofInt_toInt]
  show (((Int32.ofInt x).toUInt32 >>> ((Int32.ofInt (k : Int)).toUInt32 &&& Int32.toUInt32 31)).toBitVec).getLsbD j = _
  rw [UInt32.toBitVec_shiftRight]
  have := shu32 k hk
  rw [BitVec.ushiftRight_eq', show ((Int32.ofInt (k : Int)).toUInt32 &&& Int32.toUInt32 31).toBitVec % 32 = ((Int32.ofInt (k : Int)).toUInt32 &&& Int32.toUInt32 31).toBitVec % 32#32 from rfl, this, BitVec.getLsbD_ushiftRight]
  rfl
theorem ib_1 {y : Int} : iAnd y 1 = if ib y 0 then 1 else 0 := by
  unfold iAnd ib
  rw [i_nat (k := (Int32.ofInt y).toBitVec.toNat % 2) (by rw [Int32.toBitVec_and, BitVec.toNat_and, show (Int32.ofInt 1).toBitVec.toNat = 1 from rfl, Nat.and_one_is_mod]) (by omega)]
  rw [BitVec.getLsbD, Nat.testBit_zero]
  generalize (Int32.ofInt y).toBitVec.toNat = z
  by_cases w : z % 2 = 1
  · rw [w]; rfl
  · have : z % 2 = 0 := by omega
    rw [this]; rfl
theorem ib_l2I {y j : Nat} (h : y < 2 ^ 32) : ib (l2I y) j = y.testBit j := by
  unfold ib l2I
  rw [Int32.ofInt_toInt]
  by_cases w : j < 32
  · rw [Int64.toBitVec_toInt32, BitVec.getLsbD_signExtend, if_pos (by omega), show decide (j < 32) = true by simpa using w, Bool.true_and, BitVec.getLsbD, l_bv (by omega)]
  · rw [BitVec.getLsbD_of_ge _ _ (by omega), Nat.testBit_lt_two_pow (Nat.lt_of_lt_of_le h (Nat.pow_le_pow_right (by decide) (by omega)))]
/-- a piece's head -/
def hdv (x : pc) : Int := l2I (lShl (x.1 : Int) (32 - (x.2.1 : Int)))
theorem hdv_i (x : pc) : inI (hdv x) := by
  have a1 := (Int64.ofInt (lShl (x.1 : Int) (32 - (x.2.1 : Int)))).toInt32.le_toInt
  have a2 := (Int64.ofInt (lShl (x.1 : Int) (32 - (x.2.1 : Int)))).toInt32.toInt_lt
  unfold hdv l2I
  exact ⟨by omega, by omega⟩
theorem hdv_b {x : pc} {i : Nat} (hl : x.2.1 ≤ 32) (h1 : 1 ≤ x.2.1) (hm : x.1 < 2 ^ x.2.1) (hi : i < 32) : ib (hdv x) (31 - i) = (decide (i < x.2.1) && bt i x) := by
  have hlt : x.1 * 2 ^ (32 - x.2.1) < 2 ^ 32 := by
    have e : (2 : Nat) ^ 32 = 2 ^ x.2.1 * 2 ^ (32 - x.2.1) := by rw [← Nat.pow_add]; congr 1; omega
    rw [e]
    exact Nat.mul_lt_mul_of_pos_right hm (Nat.two_pow_pos _)
  have e1 : lShl (x.1 : Int) (32 - (x.2.1 : Int)) = ((x.1 * 2 ^ (32 - x.2.1) : Nat) : Int) := by
    rw [show (32 - (x.2.1 : Int)) = ((32 - x.2.1 : Nat) : Int) by omega, lShl_e (by omega) (by omega) (by exact_mod_cast Nat.lt_trans hlt (by decide : (2 : Nat) ^ 32 < 2 ^ 63))]
    push_cast
    rfl
  unfold hdv bt
  rw [e1, ib_l2I hlt, Nat.testBit_mul_two_pow]
  by_cases w : i < x.2.1
  · rw [show (decide (31 - i ≥ 32 - x.2.1)) = true by simp; omega, show decide (i < x.2.1) = true by simpa using w, show 31 - i - (32 - x.2.1) = x.2.1 - 1 - i by omega]
  · rw [show (decide (31 - i ≥ 32 - x.2.1)) = false by simp; omega, show decide (i < x.2.1) = false by simpa using w]
    simp
section
variable {L : Nat} {b : Bool} {Q : Option mV → mM → Prop} {M : Nat → Int → Int}
theorem De_bitOf_sp {x : Int} {i : Nat} (hi : i < 32) (h : Q (some (.inl (if ib x (31 - i) then 1 else 0))) (mS L b M)) : Cl i_De_bitOf [.inl x, .inl (i : Int)] (mS L b M) Q := by
  have ht : isT 25 := Or.inl rfl
  apply E_De_bitOf
  have e : iAnd (iUsh x (31 - (i : Int))) 1 = if ib x (31 - i) then 1 else 0 := by
    rw [show (31 - (i : Int)) = ((31 - i : Nat) : Int) by omega, ib_1, ib_ush (by omega)]
    rfl
  apply B_De_bitOf_0
  simp only [mwp, mst, mii, mll, mli, mi1, ml1, mr1, mir, mlr, mrr, miir, mlir, mget, mgi, mgl, mgr, mset, mset2, mkill, mput_t, mputr_t, mpop, mpsh, mrcv, mcnd, mtsw, mlsw, List.set_cons_zero, SH_16, SH_17, SH_18, SH_19, SH_20, SH_21, SH_22, SH_23, SH_24, SH_25, SH_26, SH_27, SH_28, SH_29, SH_30, SH_31, SH_32, SH_33, SH_34, SH_35, SH_36, SH_37, SH_38, SH_39, SH_40, SH_41, SH_42, SH_43, SH_44, SH_45, SH_46, SH_47, SH_48, SH_49, SH_50, SH_51, SH_52, SH_53, SH_54, SH_55, SH_56, SH_57, SH_58, SH_59, SH_60, SH_61, SH_62, SH_63, SH_64, SH_65, SH_66, SH_67, SH_68, SH_69, SH_70, SH_71, SH_72, SH_73, SH_74, SH_75, SH_76, SH_77, SH_78, SH_79, SH_80, SH_81, SH_82, SH_83, SH_84, SH_85, SH_86, SH_87, SH_88, SH_89, SH_90, SH_91, SH_92, SH_93, SH_94, SH_95, SH_96, SH_97, SH_98, SH_99, SH_100, SH_101, SH_102, SH_103, SH_104, SH_105, SH_106, SH_107, SH_108, SH_109, SH_110, SH_111, SH_112, SH_113, SH_114, SH_115, SH_116, SH_117, SH_118, SH_119, RF_16_0, RF_16_1, RF_16_2, RF_16_5, RF_16_6, RF_16_7, RF_16_8, RF_16_9, RF_17_0, RF_19_0, RF_19_1, RF_19_2, RF_19_3, RF_24_0, RF_25_1, RF_25_2, RF_25_4, RF_25_5, RF_25_6, RF_25_7, RF_25_8, RF_25_10, RF_25_11, RF_25_12, RF_25_13, RF_25_14, RF_25_16, RF_25_17, RF_40_1, RF_40_2, RF_40_4, RF_40_5, RF_40_6, RF_40_7, RF_40_8, RF_40_10, RF_40_11, RF_40_12, RF_40_13, RF_40_14, RF_40_16, RF_40_17, RF_55_0, RF_57_2, RF_57_3, RF_57_4, RF_57_5, RF_57_6, RF_57_7, RF_57_8, RF_57_9, RF_57_10, RF_57_11, RF_67_0, RF_67_1, RF_70_4, RF_70_5, RF_70_6, RF_70_7, RF_70_9, RF_70_10, RF_77_3, RF_80_0, RF_80_4, RF_80_5, RF_80_6, RF_80_7, RF_80_8, RF_80_9, RF_80_10, RF_80_11, RF_80_12, RF_80_13, RF_80_14, RF_80_15, RF_80_16, RF_80_17, RF_80_18, RF_80_19, RF_80_20, RF_80_23, RF_80_24, RF_80_25, RF_80_26, RF_80_27, RF_80_28, RF_80_29, RF_80_30, RF_80_31, RF_80_34, RF_80_43, RF_80_44, RF_80_45, RF_80_46, RF_80_47, RF_80_48, RF_80_49, RF_80_50, RF_80_51, RF_80_52, RF_80_53, RF_told, RF_draft, true_and, and_true, ne_eq, not_false_eq_true, not_true_eq_false, lCmp_eq0, lCmp_ne0, lCmp_lt0, lCmp_ge0, lCmp_gt0, lCmp_le0, Nat.reduceEqDiff, Nat.reduceLeDiff, Nat.reduceAdd, Nat.reduceLT, Int.reduceAdd, Int.reduceSub, Int.reduceMul, Int.reduceNeg, Int.reduceLT, Int.reduceLE, Int.reduceGT, Int.reduceGE, Int.reduceEq, Int.reduceNe, Int.reduceNatCast, Int.reduceToNat, reduceIte, false_and, and_false, false_implies, forall_const, or_true, true_or, or_false, false_or, Int.add_zero, Int.zero_add, i2B_i2B, mup_ap, b_De_bitOf_0, e]
  repeat (refine ⟨(by first | omega | (exact isT_16 ht) | rfl | decide), ?_⟩)
  exact h
end
