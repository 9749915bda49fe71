/-! shifts and masks as arithmetic -/
theorem l_nat {x : Int64} {k : Nat} (h : x.toBitVec.toNat = k) (hk : k < 2 ^ 63) : x.toInt = (k : Int) := by
  rw [← Int64.toInt_toBitVec, BitVec.toInt_eq_toNat_of_lt (by omega), h]
theorem i_nat {x : Int32} {k : Nat} (h : x.toBitVec.toNat = k) (hk : k < 2 ^ 31) : x.toInt = (k : Int) := by
  rw [← Int32.toInt_toBitVec, BitVec.toInt_eq_toNat_of_lt (by omega), h]
theorem l_bv {a : Nat} (h : a < 2 ^ 64) : (Int64.ofInt (a : Int)).toBitVec.toNat = a := by
  rw [Int64.toBitVec_ofInt, BitVec.ofInt_natCast, BitVec.toNat_ofNat, Nat.mod_eq_of_lt h]
theorem i_bv {a : Nat} (h : a < 2 ^ 32) : (Int32.ofInt (a : Int)).toBitVec.toNat = a := by
  rw [Int32.toBitVec_ofInt, BitVec.ofInt_natCast, BitVec.toNat_ofNat, Nat.mod_eq_of_lt h]
theorem sh64 : ∀ k : Nat, k < 64 → (((Int32.ofInt (k : Int)).toInt64 &&& 63).toBitVec.smod 64).toNat = k := by decide +kernel
theorem sh32 : ∀ k : Nat, k < 32 → ((Int32.ofInt (k : Int) &&& 31).toBitVec.smod 32).toNat = k := by decide +kernel
theorem lShr_e {x : Int} {k : Nat} (hx : inL x) (hk : k < 64) : lShr x k = x / 2 ^ k := by
  unfold lShr
  rw [← Int64.toInt_toBitVec, Int64.toBitVec_shiftRight, BitVec.sshiftRight_eq', sh64 k hk, BitVec.toInt_sshiftRight, Int64.toInt_toBitVec, inL_r hx, Int.shiftRight_eq_div_pow]
  simp
theorem iShr_e {x : Int} {k : Nat} (hx : inI x) (hk : k < 32) : iShr x k = x / 2 ^ k := by
  unfold iShr
  rw [← Int32.toInt_toBitVec, Int32.toBitVec_shiftRight, BitVec.sshiftRight_eq', sh32 k hk, BitVec.toInt_sshiftRight, Int32.toInt_toBitVec, inI_r hx, Int.shiftRight_eq_div_pow]
  simp
theorem lShl_e {x : Int} {k : Nat} (hk : k < 64) (h0 : 0 ≤ x) (h : x * 2 ^ k < 2 ^ 63) : lShl x k = x * 2 ^ k := by
  obtain ⟨a, rfl⟩ : ∃ a : Nat, x = a := ⟨x.toNat, by omega⟩
  have h2 : a * 2 ^ k < 2 ^ 63 := by exact_mod_cast h
  have h3 : a ≤ a * 2 ^ k := Nat.le_mul_of_pos_right a (Nat.two_pow_pos k)
  unfold lShl
  rw [l_nat (k := a * 2 ^ k) ?_ h2]
  · push_cast
    rfl
  · rw [Int64.toBitVec_shiftLeft, BitVec.shiftLeft_eq', sh64 k hk, BitVec.toNat_shiftLeft, l_bv (by omega), Nat.shiftLeft_eq, Nat.mod_eq_of_lt (by omega)]
theorem iShl_e {x : Int} {k : Nat} (hk : k < 32) (h0 : 0 ≤ x) (h : x * 2 ^ k < 2 ^ 31) : iShl x k = x * 2 ^ k := by
  obtain ⟨a, rfl⟩ : ∃ a : Nat, x = a := ⟨x.toNat, by omega⟩
  have h2 : a * 2 ^ k < 2 ^ 31 := by exact_mod_cast h
  have h3 : a ≤ a * 2 ^ k := Nat.le_mul_of_pos_right a (Nat.two_pow_pos k)
  unfold iShl
  rw [i_nat (k := a * 2 ^ k) ?_ h2]
  · push_cast
    rfl
  · rw [Int32.toBitVec_shiftLeft, BitVec.shiftLeft_eq', sh32 k hk, BitVec.toNat_shiftLeft, i_bv (by omega), Nat.shiftLeft_eq, Nat.mod_eq_of_lt (by omega)]
theorem lOr_n {a c : Nat} (ha : a < 2 ^ 63) (hc : c < 2 ^ 63) : lOr a c = ((a ||| c : Nat) : Int) := by
  unfold lOr
  refine l_nat ?_ (Nat.or_lt_two_pow ha hc)
  rw [Int64.toBitVec_or, BitVec.toNat_or, l_bv (by omega), l_bv (by omega)]
theorem iOr_n {a c : Nat} (ha : a < 2 ^ 31) (hc : c < 2 ^ 31) : iOr a c = ((a ||| c : Nat) : Int) := by
  unfold iOr
  refine i_nat ?_ (Nat.or_lt_two_pow ha hc)
  rw [Int32.toBitVec_or, BitVec.toNat_or, i_bv (by omega), i_bv (by omega)]
theorem lAnd_n {a c : Nat} (ha : a < 2 ^ 63) (hc : c < 2 ^ 63) : lAnd a c = ((a &&& c : Nat) : Int) := by
  unfold lAnd
  refine l_nat ?_ (Nat.lt_of_le_of_lt Nat.and_le_left ha)
  rw [Int64.toBitVec_and, BitVec.toNat_and, l_bv (by omega), l_bv (by omega)]
theorem iAnd_n {a c : Nat} (ha : a < 2 ^ 31) (hc : c < 2 ^ 31) : iAnd a c = ((a &&& c : Nat) : Int) := by
  unfold iAnd
  refine i_nat ?_ (Nat.lt_of_le_of_lt Nat.and_le_left ha)
  rw [Int32.toBitVec_and, BitVec.toNat_and, i_bv (by omega), i_bv (by omega)]
theorem iXor_n {a c : Nat} (ha : a < 2 ^ 31) (hc : c < 2 ^ 31) : iXor a c = ((a ^^^ c : Nat) : Int) := by
  unfold iXor
  refine i_nat ?_ (Nat.xor_lt_two_pow ha hc)
  rw [Int32.toBitVec_xor, BitVec.toNat_xor, i_bv (by omega), i_bv (by omega)]
theorem lOr_add {x c : Int} {k : Nat} (h0 : 0 ≤ x) (hc0 : 0 ≤ c) (hc : c < 2 ^ k) (h : x * 2 ^ k + c < 2 ^ 63) : lOr (x * 2 ^ k) c = x * 2 ^ k + c := by
  obtain ⟨a, rfl⟩ : ∃ a : Nat, x = a := ⟨x.toNat, by omega⟩
  obtain ⟨d, rfl⟩ : ∃ d : Nat, c = d := ⟨c.toNat, by omega⟩
  have h1 : d < 2 ^ k := by exact_mod_cast hc
  have h2 : a * 2 ^ k + d < 2 ^ 63 := by exact_mod_cast h
  have e := lOr_n (a := a * 2 ^ k) (c := d) (by omega) (by omega)
  rw [Nat.mul_comm a, ← Nat.two_pow_add_eq_or_of_lt h1] at e
  push_cast at e
  rw [Int.mul_comm (a : Int)]
  exact e
/-- a mask of k bits -/
theorem lAnd_m {x : Int} {k : Nat} (hx : inL x) (hk : k < 63) : lAnd x (2 ^ k - 1) = x % 2 ^ k := by
  have hp : (2 : Nat) ^ k ≤ 2 ^ 62 := Nat.pow_le_pow_right (by decide) (by omega)
  have h1 : ((2 : Int) ^ k - 1) = ((2 ^ k - 1 : Nat) : Int) := by
    have := Nat.two_pow_pos k
    push_cast [Nat.one_le_two_pow]
    omega
  have hx2 : (Int64.ofInt x).toBitVec.toNat = (x % 2 ^ 64).toNat := by
    rw [Int64.toBitVec_ofInt, BitVec.toNat_ofInt]
    rfl
  unfold lAnd
  rw [h1]
  have h2 : (Int64.ofInt x &&& Int64.ofInt ((2 ^ k - 1 : Nat) : Int)).toBitVec.toNat = (x % 2 ^ 64).toNat % 2 ^ k := by
    rw [Int64.toBitVec_and, BitVec.toNat_and, l_bv (by omega), hx2, Nat.and_two_pow_sub_one_eq_mod]
  have hlt : (x % 2 ^ 64).toNat % 2 ^ k < 2 ^ k := Nat.mod_lt _ (Nat.two_pow_pos k)
  rw [l_nat h2 (by omega)]
  have h3 : (((x % 2 ^ 64).toNat % 2 ^ k : Nat) : Int) = (x % 2 ^ 64) % 2 ^ k := by
    push_cast
    rw [Int.toNat_of_nonneg (Int.emod_nonneg _ (by decide))]
  rw [h3]
  exact Int.emod_emod_of_dvd x ⟨2 ^ (64 - k), by rw [← Int.pow_add]; congr 1; omega⟩
theorem iAnd_m {x : Int} {k : Nat} (hx : inI x) (hk : k < 31) : iAnd x (2 ^ k - 1) = x % 2 ^ k := by
  have hp : (2 : Nat) ^ k ≤ 2 ^ 30 := Nat.pow_le_pow_right (by decide) (by omega)
  have h1 : ((2 : Int) ^ k - 1) = ((2 ^ k - 1 : Nat) : Int) := by
    have := Nat.two_pow_pos k
    push_cast [Nat.one_le_two_pow]
    omega
  have hx2 : (Int32.ofInt x).toBitVec.toNat = (x % 2 ^ 32).toNat := by
    rw [Int32.toBitVec_ofInt, BitVec.toNat_ofInt]
    rfl
  unfold iAnd
  rw [h1]
  have h2 : (Int32.ofInt x &&& Int32.ofInt ((2 ^ k - 1 : Nat) : Int)).toBitVec.toNat = (x % 2 ^ 32).toNat % 2 ^ k := by
    rw [Int32.toBitVec_and, BitVec.toNat_and, i_bv (by omega), hx2, Nat.and_two_pow_sub_one_eq_mod]
  have hlt : (x % 2 ^ 32).toNat % 2 ^ k < 2 ^ k := Nat.mod_lt _ (Nat.two_pow_pos k)
  rw [i_nat h2 (by omega)]
  have h3 : (((x % 2 ^ 32).toNat % 2 ^ k : Nat) : Int) = (x % 2 ^ 32) % 2 ^ k := by
    push_cast
    rw [Int.toNat_of_nonneg (Int.emod_nonneg _ (by decide))]
  rw [h3]
  exact Int.emod_emod_of_dvd x ⟨2 ^ (32 - k), by rw [← Int.pow_add]; congr 1; omega⟩
