/-! ones in an int -/
theorem iUsh_n {x k : Nat} (hx : x < 2 ^ 31) (hk : k < 32) : iUsh x k = ((x / 2 ^ k : Nat) : Int) := by
  unfold iUsh
  refine i_nat ?_ (Nat.lt_of_le_of_lt (Nat.div_le_self _ _) hx)
  show (((Int32.ofInt (x : Int)).toUInt32 >>> ((Int32.ofInt (k : Int)).toUInt32 &&& Int32.toUInt32 31)).toBitVec).toNat = _
  rw [UInt32.toBitVec_shiftRight]
  have := shu32 k hk
  rw [BitVec.ushiftRight_eq', show ((Int32.ofInt (k : Int)).toUInt32 &&& Int32.toUInt32 31).toBitVec % 32 = ((Int32.ofInt (k : Int)).toUInt32 &&& Int32.toUInt32 31).toBitVec % 32#32 from rfl, this, BitVec.toNat_ushiftRight, Nat.shiftRight_eq_div_pow]
  show (Int32.ofInt (x : Int)).toBitVec.toNat / 2 ^ k = _
  rw [i_bv (by omega)]
theorem and8 {p y m0 m1 : Nat} (hp : p < 256) (hm : m0 < 256) : (p + 256 * y) &&& (m0 + 256 * m1) = (p &&& m0) + 256 * (y &&& m1) := by
  have h1 := Nat.and_mod_two_pow (a := p + 256 * y) (b := m0 + 256 * m1) (n := 8)
  have h2 := Nat.and_div_two_pow (a := p + 256 * y) (b := m0 + 256 * m1) (n := 8)
  have e1 : (p + 256 * y) % 2 ^ 8 = p := by omega
  have e2 : (m0 + 256 * m1) % 2 ^ 8 = m0 := by omega
  have e3 : (p + 256 * y) / 2 ^ 8 = y := by omega
  have e4 : (m0 + 256 * m1) / 2 ^ 8 = m1 := by omega
  rw [e1, e2] at h1
  rw [e3, e4] at h2
  omega
theorem and24 {p q r m : Nat} (hp : p < 256) (hq : q < 256) (hr : r < 256) (hm : m < 256) : (p + 256 * q + 65536 * r) &&& (m * 16843009) = (p &&& m) + 256 * (q &&& m) + 65536 * (r &&& m) := by
  have h1 := and8 (p := p) (y := q + 256 * r) (m0 := m) (m1 := m + 256 * (m + 256 * m)) hp hm
  have h2 := and8 (p := q) (y := r) (m0 := m) (m1 := m + 256 * m) hq hm
  have h3 := and8 (p := r) (y := 0) (m0 := m) (m1 := m) hr hm
  rw [Nat.zero_and] at h3
  rw [show p + 256 * q + 65536 * r = p + 256 * (q + 256 * r) by omega, show m * 16843009 = m + 256 * (m + 256 * (m + 256 * m)) by omega, h1, h2]
  have h4 : r &&& (m + 256 * m) = r &&& m := by simpa using h3
  rw [h4]
  omega
def bF1 (v : Nat) : Nat := v - (v / 2 &&& 85)
def bF2 (v : Nat) : Nat := (v &&& 51) + (v / 4 &&& 51)
def bF3 (v : Nat) : Nat := (v + v / 16) &&& 15
def sb (x : Nat) : Nat → Nat
  | 0 => 0
  | n + 1 => sb x n + x / 2 ^ n % 2
theorem bt1 : ∀ v, v < 256 → ∀ w, w < 2 → (v / 2 + 128 * w) &&& 85 = v / 2 &&& 85 := by decide +kernel
theorem bt2 : ∀ v, v < 256 → ∀ w, w < 4 → (v / 4 + 64 * w) &&& 51 = v / 4 &&& 51 := by decide +kernel
theorem bt3 : ∀ v, v < 69 → ∀ w, w < 5 → (v + v / 16 + 16 * w) &&& 15 = bF3 v := by decide +kernel
theorem btA : ∀ v, v < 256 → (v / 2 &&& 85) ≤ v ∧ bF1 v < 256 ∧ bF2 (bF1 v) < 69 ∧ bF2 (bF1 v) % 16 < 5 ∧ bF3 (bF2 (bF1 v)) = sb v 8 ∧ sb v 8 ≤ 8 := by decide +kernel
theorem sb_8 {x : Nat} : sb x 8 = sb (x % 256) 8 := by
  simp only [sb]
  omega
theorem sb_s {x : Nat} : ∀ m, sb x (8 + m) = sb (x % 256) 8 + sb (x / 256) m
  | 0 => by
    show sb x 8 = sb (x % 256) 8 + 0
    exact sb_8
  | m + 1 => by
    show sb x (8 + m) + x / 2 ^ (8 + m) % 2 = sb (x % 256) 8 + (sb (x / 256) m + x / 256 / 2 ^ m % 2)
    rw [sb_s m, Nat.pow_add, ← Nat.div_div_eq_div_mul]
    show sb (x % 256) 8 + sb (x / 256) m + x / 256 / 2 ^ m % 2 = _
    omega
theorem sb_le {x : Nat} : ∀ n, sb x n ≤ n
  | 0 => Nat.le_refl _
  | n + 1 => by
    have := sb_le (x := x) n
    rw [sb]
    omega
theorem bcN {x : Nat} (hx : x < 2 ^ 24) :
    let s1 := x - (x / 2 &&& 1431655765)
    let s2 := (s1 &&& 858993459) + (s1 / 4 &&& 858993459)
    let s3 := (s2 + s2 / 16) &&& 252645135
    (x / 2 &&& 1431655765) ≤ x ∧ s1 < 2 ^ 24 ∧ s2 < 2 ^ 24 ∧ s2 + s2 / 16 < 2 ^ 24 ∧ s3 + s3 / 256 < 2 ^ 24 ∧ (s3 + s3 / 256) + (s3 + s3 / 256) / 65536 < 2 ^ 24 ∧ ((s3 + s3 / 256) + (s3 + s3 / 256) / 65536) &&& 63 = sb x 24 := by
  intro s1 s2 s3
  obtain ⟨a, ha⟩ : ∃ a, x % 256 = a := ⟨_, rfl⟩
  obtain ⟨c, hc⟩ : ∃ c, x / 256 % 256 = c := ⟨_, rfl⟩
  obtain ⟨d, hd⟩ : ∃ d, x / 256 / 256 = d := ⟨_, rfl⟩
  have ex : x = a + 256 * c + 65536 * d := by omega
  have ha' : a < 256 := by omega
  have hc' : c < 256 := by omega
  have hd' : d < 256 := by omega
  obtain ⟨a1, a2, a3, a4, a5, a6⟩ := btA a ha'
  obtain ⟨c1, c2, c3, c4, c5, c6⟩ := btA c hc'
  obtain ⟨d1, d2, d3, d4, d5, d6⟩ := btA d hd'
  have e1 : x / 2 &&& 1431655765 = (a / 2 &&& 85) + 256 * (c / 2 &&& 85) + 65536 * (d / 2 &&& 85) := by
    have := and24 (p := a / 2 + 128 * (c % 2)) (q := c / 2 + 128 * (d % 2)) (r := d / 2 + 128 * 0) (m := 85) (by omega) (by omega) (by omega) (by decide)
    rw [bt1 a ha' (c % 2) (by omega), bt1 c hc' (d % 2) (by omega), bt1 d hd' 0 (by omega)] at this
    rw [← this]
    congr 1
    omega
  have es1 : s1 = bF1 a + 256 * bF1 c + 65536 * bF1 d := by
    show x - (x / 2 &&& 1431655765) = _
    rw [e1]
    unfold bF1
    omega
  have e2 : s2 = bF2 (bF1 a) + 256 * bF2 (bF1 c) + 65536 * bF2 (bF1 d) := by
    show (s1 &&& 858993459) + (s1 / 4 &&& 858993459) = _
    have t1 := and24 (p := bF1 a) (q := bF1 c) (r := bF1 d) (m := 51) a2 c2 d2 (by decide)
    have t2 := and24 (p := bF1 a / 4 + 64 * (bF1 c % 4)) (q := bF1 c / 4 + 64 * (bF1 d % 4)) (r := bF1 d / 4 + 64 * 0) (m := 51) (by omega) (by omega) (by omega) (by decide)
    rw [bt2 _ a2 (bF1 c % 4) (by omega), bt2 _ c2 (bF1 d % 4) (by omega), bt2 _ d2 0 (by omega)] at t2
    have t3 : bF1 a / 4 + 64 * (bF1 c % 4) + 256 * (bF1 c / 4 + 64 * (bF1 d % 4)) + 65536 * (bF1 d / 4 + 64 * 0) = s1 / 4 := by omega
    rw [t3] at t2
    rw [← es1] at t1
    have z1 : (51 * 16843009 : Nat) = 858993459 := by decide
    rw [z1] at t1 t2
    rw [t1, t2]
    unfold bF2
    omega
  have e3 : s3 = sb a 8 + 256 * sb c 8 + 65536 * sb d 8 := by
    show (s2 + s2 / 16) &&& 252645135 = _
    have t1 := and24 (p := bF2 (bF1 a) + bF2 (bF1 a) / 16 + 16 * (bF2 (bF1 c) % 16)) (q := bF2 (bF1 c) + bF2 (bF1 c) / 16 + 16 * (bF2 (bF1 d) % 16)) (r := bF2 (bF1 d) + bF2 (bF1 d) / 16 + 16 * 0) (m := 15) (by omega) (by omega) (by omega) (by decide)
    rw [bt3 _ a3 _ c4, bt3 _ c3 _ d4, bt3 _ d3 0 (by decide), a5, c5, d5] at t1
    rw [← t1]
    congr 1
    omega
  have e4 : (s3 + s3 / 256) + (s3 + s3 / 256) / 65536 = (sb a 8 + sb c 8 + sb d 8) + 256 * (sb c 8 + sb d 8) + 65536 * sb d 8 := by omega
  have e5 : sb x 24 = sb a 8 + (sb c 8 + sb d 8) := by
    rw [show (24 : Nat) = 8 + (8 + 8) from rfl, sb_s, sb_s, ha, hc, hd]
  refine ⟨?_, by omega, by omega, by omega, by omega, by omega, ?_⟩
  · rw [e1]; omega
  · rw [show (63 : Nat) = 2 ^ 6 - 1 from rfl, Nat.and_two_pow_sub_one_eq_mod, e4, e5]
    omega
section
variable {L : Nat} {b : Bool} {Q : Option mV → mM → Prop} {M : Nat → Int → Int}
theorem In_bitCount_sp {x : Nat} (hx : x < 2 ^ 24) (h : Q (some (.inl (sb x 24 : Nat))) (mS L b M)) : Cl i_In_bitCount [.inl (x : Int)] (mS L b M) Q := by
  have ht : isT 25 := Or.inl rfl
  obtain ⟨s1, hs1⟩ : ∃ s1, x - (x / 2 &&& 1431655765) = s1 := ⟨_, rfl⟩
  obtain ⟨s2, hs2⟩ : ∃ s2, (s1 &&& 858993459) + (s1 / 4 &&& 858993459) = s2 := ⟨_, rfl⟩
  obtain ⟨s3, hs3⟩ : ∃ s3, (s2 + s2 / 16) &&& 252645135 = s3 := ⟨_, rfl⟩
  have hb := bcN hx
  simp only [hs1, hs2, hs3] at hb
  obtain ⟨b1, b2, b3, b4, b5, b6, b7⟩ := hb
  have i1 : iAnd (iUsh (x : Int) 1) 1431655765 = ((x / 2 &&& 1431655765 : Nat) : Int) := by
    rw [show (1 : Int) = ((1 : Nat) : Int) from rfl, iUsh_n (by omega) (by decide), show (1431655765 : Int) = ((1431655765 : Nat) : Int) from rfl, iAnd_n (by omega) (by decide)]
  have i2 : (x : Int) - ((x / 2 &&& 1431655765 : Nat) : Int) = (s1 : Nat) := by omega
  have i3 : iAnd (s1 : Int) 858993459 = ((s1 &&& 858993459 : Nat) : Int) := by
    rw [show (858993459 : Int) = ((858993459 : Nat) : Int) from rfl, iAnd_n (by omega) (by decide)]
  have i4 : iAnd (iUsh (s1 : Int) 2) 858993459 = ((s1 / 4 &&& 858993459 : Nat) : Int) := by
    rw [show (2 : Int) = ((2 : Nat) : Int) from rfl, iUsh_n (by omega) (by decide), show (858993459 : Int) = ((858993459 : Nat) : Int) from rfl, iAnd_n (by omega) (by decide)]
  have i5 : ((s1 &&& 858993459 : Nat) : Int) + ((s1 / 4 &&& 858993459 : Nat) : Int) = (s2 : Nat) := by omega
  have i6 : (s2 : Int) + iUsh (s2 : Int) 4 = ((s2 + s2 / 16 : Nat) : Int) := by
    rw [show (4 : Int) = ((4 : Nat) : Int) from rfl, iUsh_n (by omega) (by decide)]
    rfl
  have i7 : iAnd ((s2 + s2 / 16 : Nat) : Int) 252645135 = (s3 : Nat) := by
    rw [show (252645135 : Int) = ((252645135 : Nat) : Int) from rfl, iAnd_n (by omega) (by decide), hs3]
  have i8 : (s3 : Int) + iUsh (s3 : Int) 8 = ((s3 + s3 / 256 : Nat) : Int) := by
    rw [show (8 : Int) = ((8 : Nat) : Int) from rfl, iUsh_n (by omega) (by decide)]
    rfl
  have i9 : ((s3 + s3 / 256 : Nat) : Int) + iUsh ((s3 + s3 / 256 : Nat) : Int) 16 = (((s3 + s3 / 256) + (s3 + s3 / 256) / 65536 : Nat) : Int) := by
    rw [show (16 : Int) = ((16 : Nat) : Int) from rfl, iUsh_n (by omega) (by decide)]
    rfl
  have i10 : iAnd ((((s3 + s3 / 256) + (s3 + s3 / 256) / 65536 : Nat)) : Int) 63 = (sb x 24 : Nat) := by
    rw [show (63 : Int) = ((63 : Nat) : Int) from rfl, iAnd_n (by omega) (by decide), b7]
  apply E_In_bitCount
  apply B_In_bitCount_0
  dsimp only [mwp, mst, mii, mll, mli, mi1, ml1, mr1, mir, mlr, mrr, miir, mlir, mget, mgi, mgl, mgr, mset, mset2, mkill, mput_t, mputr_t, mpop, mpsh, mrcv, mcnd, mtsw, mlsw, List.set_cons_zero, b_In_bitCount_0]
  simp only [mwp, mst, mii, mll, mli, mi1, ml1, mr1, mir, mlr, mrr, miir, mlir, mget, mgi, mgl, mgr, mset, mset2, mkill, mput_t, mputr_t, mpop, mpsh, mrcv, mcnd, mtsw, mlsw, List.set_cons_zero, SH_16, SH_17, SH_18, SH_19, SH_20, SH_21, SH_22, SH_23, SH_24, SH_25, SH_26, SH_27, SH_28, SH_29, SH_30, SH_31, SH_32, SH_33, SH_34, SH_35, SH_36, SH_37, SH_38, SH_39, SH_40, SH_41, SH_42, SH_43, SH_44, SH_45, SH_46, SH_47, SH_48, SH_49, SH_50, SH_51, SH_52, SH_53, SH_54, SH_55, SH_56, SH_57, SH_58, SH_59, SH_60, SH_61, SH_62, SH_63, SH_64, SH_65, SH_66, SH_67, SH_68, SH_69, SH_70, SH_71, SH_72, SH_73, SH_74, SH_75, SH_76, SH_77, SH_78, SH_79, SH_80, SH_81, SH_82, SH_83, SH_84, SH_85, SH_86, SH_87, SH_88, SH_89, SH_90, SH_91, SH_92, SH_93, SH_94, SH_95, SH_96, SH_97, SH_98, SH_99, SH_100, SH_101, SH_102, SH_103, SH_104, SH_105, SH_106, SH_107, SH_108, SH_109, SH_110, SH_111, SH_112, SH_113, SH_114, SH_115, SH_116, SH_117, SH_118, SH_119, RF_16_0, RF_16_1, RF_16_2, RF_16_5, RF_16_6, RF_16_7, RF_16_8, RF_16_9, RF_17_0, RF_19_0, RF_19_1, RF_19_2, RF_19_3, RF_24_0, RF_25_1, RF_25_2, RF_25_4, RF_25_5, RF_25_6, RF_25_7, RF_25_8, RF_25_10, RF_25_11, RF_25_12, RF_25_13, RF_25_14, RF_25_16, RF_25_17, RF_40_1, RF_40_2, RF_40_4, RF_40_5, RF_40_6, RF_40_7, RF_40_8, RF_40_10, RF_40_11, RF_40_12, RF_40_13, RF_40_14, RF_40_16, RF_40_17, RF_55_0, RF_57_2, RF_57_3, RF_57_4, RF_57_5, RF_57_6, RF_57_7, RF_57_8, RF_57_9, RF_57_10, RF_57_11, RF_67_0, RF_67_1, RF_70_4, RF_70_5, RF_70_6, RF_70_7, RF_70_9, RF_70_10, RF_77_3, RF_80_0, RF_80_4, RF_80_5, RF_80_6, RF_80_7, RF_80_8, RF_80_9, RF_80_10, RF_80_11, RF_80_12, RF_80_13, RF_80_14, RF_80_15, RF_80_16, RF_80_17, RF_80_18, RF_80_19, RF_80_20, RF_80_23, RF_80_24, RF_80_25, RF_80_26, RF_80_27, RF_80_28, RF_80_29, RF_80_30, RF_80_31, RF_80_34, RF_80_43, RF_80_44, RF_80_45, RF_80_46, RF_80_47, RF_80_48, RF_80_49, RF_80_50, RF_80_51, RF_80_52, RF_80_53, RF_told, RF_draft, true_and, and_true, ne_eq, not_false_eq_true, not_true_eq_false, lCmp_eq0, lCmp_ne0, lCmp_lt0, lCmp_ge0, lCmp_gt0, lCmp_le0, Nat.reduceEqDiff, Nat.reduceLeDiff, Nat.reduceAdd, Nat.reduceLT, Int.reduceAdd, Int.reduceSub, Int.reduceMul, Int.reduceNeg, Int.reduceLT, Int.reduceLE, Int.reduceGT, Int.reduceGE, Int.reduceEq, Int.reduceNe, Int.reduceNatCast, Int.reduceToNat, reduceIte, false_and, and_false, false_implies, forall_const, or_true, true_or, or_false, false_or, Int.add_zero, Int.zero_add, i2B_i2B, mup_ap, i1, i2, i3, i4, i5, i6, i7, i8, i9, i10]
  repeat (refine ⟨(by first | omega | (exact isT_16 ht) | rfl | decide), ?_⟩)
  exact h
end
