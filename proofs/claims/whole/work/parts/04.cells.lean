/-! SOUNDNESS, 2: instructions that touch cells -/
def mTok (ty : FieldType) : Bool := match ty with
  | .int => true
  | .long => true
  | .boolean => true
  | .object _ => true
  | .array _ => true
  | _ => false
theorem mUg0 : ∀ w ∈ u_ws RX0 TX0 2, goodWord w = true := by decide +kernel
theorem mUt0 : ∀ k, k < 2 → mTok (mTy 0 k) = true := by decide +kernel
theorem mUg1 : ∀ w ∈ u_ws RX1 TX1 11, goodWord w = true := by decide +kernel
theorem mUt1 : ∀ k, k < 11 → mTok (mTy 1 k) = true := by decide +kernel
theorem mUg2 : ∀ w ∈ u_ws RX2 TX2 12, goodWord w = true := by decide +kernel
theorem mUt2 : ∀ k, k < 12 → mTok (mTy 2 k) = true := by decide +kernel
theorem mUg3 : ∀ w ∈ u_ws RX3 TX3 12, goodWord w = true := by decide +kernel
theorem mUt3 : ∀ k, k < 12 → mTok (mTy 3 k) = true := by decide +kernel
theorem mUg4 : ∀ w ∈ u_ws RX4 TX4 4, goodWord w = true := by decide +kernel
theorem mUt4 : ∀ k, k < 4 → mTok (mTy 4 k) = true := by decide +kernel
theorem mUg5 : ∀ w ∈ u_ws RX5 TX5 2, goodWord w = true := by decide +kernel
theorem mUt5 : ∀ k, k < 2 → mTok (mTy 5 k) = true := by decide +kernel
theorem mUg6 : ∀ w ∈ u_ws RX6 TX6 4, goodWord w = true := by decide +kernel
theorem mUt6 : ∀ k, k < 4 → mTok (mTy 6 k) = true := by decide +kernel
theorem mUg7 : ∀ w ∈ u_ws RX7 TX7 2, goodWord w = true := by decide +kernel
theorem mUt7 : ∀ k, k < 2 → mTok (mTy 7 k) = true := by decide +kernel
theorem mUg8 : ∀ w ∈ u_ws RX8 TX8 2, goodWord w = true := by decide +kernel
theorem mUt8 : ∀ k, k < 2 → mTok (mTy 8 k) = true := by decide +kernel
theorem mUg9 : ∀ w ∈ u_ws RX9 TX9 18, goodWord w = true := by decide +kernel
theorem mUt9 : ∀ k, k < 18 → mTok (mTy 9 k) = true := by decide +kernel
theorem mUg10 : ∀ w ∈ u_ws RX10 TX10 11, goodWord w = true := by decide +kernel
theorem mUt10 : ∀ k, k < 11 → mTok (mTy 10 k) = true := by decide +kernel
theorem mUg11 : ∀ w ∈ u_ws RX11 TX11 57, goodWord w = true := by decide +kernel
theorem mUt11 : ∀ k, k < 57 → mTok (mTy 11 k) = true := by decide +kernel
theorem mU : ∀ (c : Nat) (q : vw_C), vwCl[c]? = some q → (∀ w ∈ u_ws q.1 q.2.1 q.2.2, w ∈ lw_tbl ∧ goodWord w = true) ∧ (∀ k, k < q.2.2 → parseFieldDescriptor (q.2.1 k).2.2.1 = some (mTy c k)) ∧ (∀ a, a < q.2.2 → ∀ b, b < q.2.2 → a ≠ b → (q.2.1 a).2.1 ≠ (q.2.1 b).2.1) ∧ (∀ k, k < q.2.2 → mTok (mTy c k) = true)
  | 0, q, h => by
    cases h
    exact ⟨fun w hw => ⟨inX0 w hw, mUg0 w hw⟩, tyX0_ok, nmX0, mUt0⟩
  | 1, q, h => by
    cases h
    exact ⟨fun w hw => ⟨inX1 w hw, mUg1 w hw⟩, tyX1_ok, nmX1, mUt1⟩
  | 2, q, h => by
    cases h
    exact ⟨fun w hw => ⟨inX2 w hw, mUg2 w hw⟩, tyX2_ok, nmX2, mUt2⟩
  | 3, q, h => by
    cases h
    exact ⟨fun w hw => ⟨inX3 w hw, mUg3 w hw⟩, tyX3_ok, nmX3, mUt3⟩
  | 4, q, h => by
    cases h
    exact ⟨fun w hw => ⟨inX4 w hw, mUg4 w hw⟩, tyX4_ok, nmX4, mUt4⟩
  | 5, q, h => by
    cases h
    exact ⟨fun w hw => ⟨inX5 w hw, mUg5 w hw⟩, tyX5_ok, nmX5, mUt5⟩
  | 6, q, h => by
    cases h
    exact ⟨fun w hw => ⟨inX6 w hw, mUg6 w hw⟩, tyX6_ok, nmX6, mUt6⟩
  | 7, q, h => by
    cases h
    exact ⟨fun w hw => ⟨inX7 w hw, mUg7 w hw⟩, tyX7_ok, nmX7, mUt7⟩
  | 8, q, h => by
    cases h
    exact ⟨fun w hw => ⟨inX8 w hw, mUg8 w hw⟩, tyX8_ok, nmX8, mUt8⟩
  | 9, q, h => by
    cases h
    exact ⟨fun w hw => ⟨inX9 w hw, mUg9 w hw⟩, tyX9_ok, nmX9, mUt9⟩
  | 10, q, h => by
    cases h
    exact ⟨fun w hw => ⟨inX10 w hw, mUg10 w hw⟩, tyX10_ok, nmX10, mUt10⟩
  | 11, q, h => by
    cases h
    exact ⟨fun w hw => ⟨inX11 w hw, mUg11 w hw⟩, tyX11_ok, nmX11, mUt11⟩
  | n + 12, q, h => by simp [vwCl] at h
theorem mad_ge {E : mE} {r : Nat} (h : 16 ≤ r) : mad E r = E.1 + (r - 16) := by
  unfold mad
  rw [if_neg (by omega)]
theorem mad_lt {E : mE} {r : Nat} (h : r < 16) : mad E r = E.2.2.2 r := by
  unfold mad
  rw [if_pos h]
theorem mH_in {E : mE} {μ : mM} {U : State} {H : Heap} {r : Nat} (hH : mHold E μ U H) (hk : (μ.2.1 r).1 ≠ 99) : r < 16 + μ.1 := by
  rcases Nat.lt_or_ge r (16 + μ.1) with h | h
  · exact h
  · exact absurd (by rw [hH.2.2.1 r h]) hk
theorem mH_obj {E : mE} {μ : mM} {U : State} {H : Heap} {r a : Nat} (hH : mHold E μ U H) (hr : 16 ≤ r) (ha : (μ.2.1 r).1 = a) (hl : a < 50) : ∃ q : vw_C, vwCl[a]? = some q ∧ t_OB (mad E r) (E.2.1.1 a) q.2.2 (E.2.1.2 a) H (fun k => mFv E (mTy a k) (μ.2.2.1 r k) (μ.2.2.2 r (k : Int))) := by
  subst ha
  rcases hH.2.1 r hr (mH_in hH (by omega)) with ⟨-, h⟩ | ⟨h, -⟩
  · exact h
  · omega
theorem mH_arr {E : mE} {μ : mM} {U : State} {H : Heap} {r a : Nat} (hH : mHold E μ U H) (hr : 16 ≤ r) (ha : (μ.2.1 r).1 = a) (hl : 100 ≤ a) : a < 104 ∧ (μ.2.1 r).2 < 2147483648 ∧ H[mad E r]? = some (arrV (E.2.2.1 a) (μ.2.1 r).2 (fun j => mAv a (μ.2.2.2 r (j : Int)))) := by
  subst ha
  rcases hH.2.1 r hr (mH_in hH (by omega)) with ⟨h, -⟩ | ⟨-, h⟩
  · omega
  · exact h
theorem mRd_kept {U : State} {H H1 : Heap} {a n : Nat} {f : Nat → Int32} (h : mRd U H a n f) (hq : H1[a]? = H[a]?) : mRd U H1 a n f := by
  obtain ⟨cell, h1, h2⟩ := h
  exact ⟨cell, by rw [hq]; exact h1, h2⟩
theorem mRd_moved {u U : State} {H : Heap} {a n : Nat} {f : Nat → Int32} (hvm : u.vm.Alike U.vm) (h : mRd u H a n f) : mRd U H a n f := by
  obtain ⟨cell, h1, h2, h3⟩ := h
  exact ⟨cell, h1, State.isArrayOf_alike hvm h2, h3⟩
theorem mO_kept {E : mE} {U : State} {H H1 : Heap} (h : mO E U H) (hq : ∀ a : Nat, a < H.size → ¬ mA E a → H1[a]? = H[a]?) : mO E U H1 :=
  ⟨h.1.kept hq, h.2.1, h.2.2.1.kept hq, h.2.2.2.1.kept hq, h.2.2.2.2.1.kept hq, h.2.2.2.2.2⟩
theorem mNw_tab : ∀ w ∈ mNw, w.onTables = true := by decide +kernel
theorem mNw_kind : ∀ w ∈ mNw, (∃ a i x h, w = .methodLinkNest a i x h) ∨ (∃ a i b n d h, w = .fieldLinkNest a i b n d h) := by
  intro w hw
  simp only [mNw, List.mem_cons, List.not_mem_nil, or_false] at hw
  rcases hw with rfl | rfl | rfl | rfl | rfl | rfl | rfl | rfl | rfl | rfl
  all_goals first | exact Or.inl ⟨_, _, _, _, rfl⟩ | exact Or.inr ⟨_, _, _, _, _, _, rfl⟩
theorem mO_warm {E : mE} {s U : State} {H : Heap} (hW : s.WarmedH U.vm) (h : mO E s H) : mO E U H :=
  ⟨h.1.moved hW.alike, fun i hi q hq => (h.2.1 i hi q hq).warm hW, h.2.2.1.moved hW.alike, h.2.2.2.1.moved hW.alike, h.2.2.2.2.1.moved hW.alike, fun w hw => by
    have hz := h.2.2.2.2.2 w hw
    rcases mNw_kind w hw with ⟨a, i, x, h, rfl⟩ | ⟨a, i, b, n, d, h, rfl⟩
    · exact va_Nw.warmM hW hz
    · exact va_Nw.warmF hW hz⟩
theorem mX_warm {E : mE} {μ : mM} {s U : State} {H : Heap} (hW : s.WarmedH U.vm) (h : mX E μ s H) : mX E μ U H := ⟨fun r hr hk => ⟨mRd_moved hW.alike (h.1 r hr hk).1, (h.1 r hr hk).2⟩, h.2⟩
theorem mHold_warm {E : mE} {μ : mM} {s U : State} {H : Heap} (hW : s.WarmedH U.vm) (h : mHold E μ s H) : mHold E μ U H :=
  ⟨h.1, h.2.1, h.2.2.1, va_K.moved hW.alike h.2.2.2.1, mX_warm hW h.2.2.2.2.1, mO_warm hW h.2.2.2.2.2.1, h.2.2.2.2.2.2⟩
theorem mHold_same {E : mE} {μ : mM} {s U : State} {H : Heap} (hv : U.vm = s.vm) (h : mHold E μ s H) : mHold E μ U H := by
  have ha : s.vm.Alike U.vm := by rw [hv]; exact Vm.Alike.refl _
  obtain ⟨h1, h2, h3, h4, ⟨x1, x2⟩, ⟨o1, o2, o3, o4, o5, o6⟩, h7⟩ := h
  exact ⟨h1, h2, h3, va_K.moved ha h4, ⟨fun r hr hk => ⟨mRd_moved ha (x1 r hr hk).1, (x1 r hr hk).2⟩, x2⟩,
    ⟨o1.moved ha, fun i hi q hq => (o2 i hi q hq).same hv, o3.moved ha, o4.moved ha, o5.moved ha, fun w hw => va_Nw.same (mNw_tab w hw) hv.symm (o6 w hw)⟩, h7⟩
theorem mO_back {E : mE} {s : State} {H : Heap} {locs : List Loc} (h : mO E s H) (hS : va_S (mA E) s.heap H locs) (hba : E.1 ≤ s.heap.size) : mO E s s.heap :=
  mO_kept h (fun a _ h2 => (hS.2.1 a (by have : ¬ E.1 ≤ a := h2; omega) h2).symm)
theorem mRg_put {μ : mM} {r : Nat} {j x : Int} (h : mRg μ) (h1 : mLg (μ.2.1 r) j → inL x) (h2 : ¬ mLg (μ.2.1 r) j → inI x) : mRg (mput μ r j x) := by
  intro a i
  show (mLg (μ.2.1 a) i → inL (if a = r ∧ i = j then x else μ.2.2.2 a i)) ∧ (¬ mLg (μ.2.1 a) i → inI (if a = r ∧ i = j then x else μ.2.2.2 a i))
  by_cases hc : a = r ∧ i = j
  · rw [if_pos hc, hc.1, hc.2]
    exact ⟨h1, h2⟩
  · rw [if_neg hc]
    exact h a i
/-- one made cell has changed -/
theorem mHold_upd {E : mE} {μ μ' : mM} {U : State} {H H' : Heap} {r : Nat} (hH : mHold E μ U H) (hr : 16 ≤ r) (hz : H'.size = H.size) (ho : ∀ q : Nat, q ≠ mad E r → H'[q]? = H[q]?) (h1 : μ'.1 = μ.1) (h2 : μ'.2.1 = μ.2.1) (h3 : ∀ a, a ≠ r → μ'.2.2.1 a = μ.2.2.1 a ∧ μ'.2.2.2 a = μ.2.2.2 a) (hc : mCell E μ' r H') (hg : mRg μ') : mHold E μ' U H' := by
  obtain ⟨e1, e2, e3, e4, ⟨x1, x2⟩, e6, e7⟩ := hH
  have hrE : E.1 ≤ mad E r := by rw [mad_ge hr]; omega
  refine ⟨by rw [hz, e1, h1], fun a ha hl => ?_, fun a ha => by rw [h2]; exact e3 a (by rw [← h1]; exact ha), e4, ⟨fun a ha hk => ?_, fun a ha => by rw [h2]; exact x2 a ha⟩, mO_kept e6 (fun a _ h => ho a (fun q => h (by rw [q]; exact hrE))), hg⟩
  · by_cases har : a = r
    · subst har
      exact hc
    · have hne : mad E a ≠ mad E r := by rw [mad_ge ha, mad_ge hr]; omega
      have := e2 a ha (by rw [← h1]; exact hl)
      unfold mCell at this ⊢
      rw [h2, (h3 a har).1, (h3 a har).2]
      rcases this with ⟨k1, q, k2, k3⟩ | ⟨k1, k2, k3, k4⟩
      · exact Or.inl ⟨k1, q, k2, k3.kept (ho _ hne)⟩
      · exact Or.inr ⟨k1, k2, k3, by rw [ho _ hne]; exact k4⟩
  · rw [h2] at hk
    have har : a ≠ r := by omega
    obtain ⟨y1, y2, y3⟩ := x1 a ha hk
    rw [h2, (h3 a har).2]
    exact ⟨mRd_kept y1 (ho _ (by omega)), y2, y3⟩
/-- a cell has been made -/
theorem mHold_new {E : mE} {μ : mM} {U : State} {H H' : Heap} {sh : Nat × Nat} (hH : mHold E μ U H) (hz : H'.size = H.size + 1) (ho : ∀ q : Nat, q < H.size → H'[q]? = H[q]?) (hc : mCell E (mnew μ sh) (16 + μ.1) H') : mHold E (mnew μ sh) U H' := by
  obtain ⟨e1, e2, e3, e4, ⟨x1, x2⟩, e6, e7⟩ := hH
  have n1 : ∀ a, a ≠ 16 + μ.1 → (mnew μ sh).2.1 a = μ.2.1 a ∧ (mnew μ sh).2.2.1 a = μ.2.2.1 a ∧ (mnew μ sh).2.2.2 a = μ.2.2.2 a := by
    intro a ha
    refine ⟨?_, ?_, ?_⟩
    · show (if a = 16 + μ.1 then sh else μ.2.1 a) = _
      rw [if_neg ha]
    · funext k
      show (if a = 16 + μ.1 then 0 else μ.2.2.1 a k) = _
      rw [if_neg ha]
    · funext k
      show (if a = 16 + μ.1 then 0 else μ.2.2.2 a k) = _
      rw [if_neg ha]
  refine ⟨by rw [hz, e1]; rfl, fun a ha hl => ?_, fun a ha => ?_, e4, ⟨fun a ha hk => ?_, fun a ha => ?_⟩, mO_kept e6 (fun a h _ => ho a h), fun a i => ?_⟩
  · by_cases har : a = 16 + μ.1
    · subst har
      exact hc
    · have hl2 : a < 16 + μ.1 := by
        have : a < 16 + (μ.1 + 1) := hl
        omega
      have := e2 a ha hl2
      obtain ⟨m1, m2, m3⟩ := n1 a har
      unfold mCell at this ⊢
      rw [m1, m2, m3]
      have hlt : mad E a < H.size := by rw [mad_ge ha, e1]; omega
      rcases this with ⟨k1, q, k2, k3⟩ | ⟨k1, k2, k3, k4⟩
      · exact Or.inl ⟨k1, q, k2, k3.kept (ho _ hlt)⟩
      · exact Or.inr ⟨k1, k2, k3, by rw [ho _ hlt]; exact k4⟩
  · have ha2 : 16 + (μ.1 + 1) ≤ a := ha
    rw [(n1 a (by omega)).1]
    exact e3 a (by omega)
  · obtain ⟨m1, m2, m3⟩ := n1 a (by omega)
    rw [m1] at hk ⊢
    rw [m3]
    obtain ⟨y1, y2, y3⟩ := x1 a ha hk
    exact ⟨mRd_kept y1 (ho _ (by omega)), y2, y3⟩
  · rw [(n1 a (by omega)).1]
    exact x2 a ha
  · by_cases har : a = 16 + μ.1
    · have : (mnew μ sh).2.2.2 a i = 0 := by
        show (if a = 16 + μ.1 then 0 else μ.2.2.2 a i) = 0
        rw [if_pos har]
      rw [this]
      exact ⟨fun _ => by decide, fun _ => by decide⟩
    · obtain ⟨m1, m2, m3⟩ := n1 a har
      rw [m1, m3]
      exact e7 a i
theorem clamp_i {i : Int} (h0 : 0 ≤ i) (h1 : i < 2147483648) : (Int32.ofInt i).toNatClampNeg = i.toNat := Int32.toNatClampNeg_ofInt_of_le (by omega) (by omega)
theorem ind_i {i : Int} {n : Nat} (h0 : 0 ≤ i) (h1 : i < (n : Int)) (hn : n < 2147483648) {sz : Nat} (hs : n ≤ sz) : ¬ (Int32.ofInt i < 0 ∨ sz ≤ (Int32.ofInt i).toNatClampNeg) := by
  rw [clamp_i h0 (by omega)]
  rintro (q | q)
  · rw [show (0 : Int32) = Int32.ofInt 0 from rfl, inI_lt ⟨by omega, by omega⟩ inI_0] at q
    omega
  · omega
theorem mrd_own {E : mE} {μ : mM} {U : State} {H : Heap} {r : Nat} (hH : mHold E μ U H) (hk : (μ.2.1 r).1 = 100) : (μ.2.1 r).2 < 2147483648 ∧ mRd U H (mad E r) (μ.2.1 r).2 (fun j => Int32.ofInt (μ.2.2.2 r (j : Int))) := by
  by_cases hr : r < 16
  · obtain ⟨h1, -, h2⟩ := hH.2.2.2.2.1.1 r hr hk
    rw [mad_lt hr]
    exact ⟨h2, h1⟩
  · obtain ⟨-, h1, h2⟩ := mH_arr hH (by omega) hk (by omega)
    refine ⟨h1, _, h2, ?_, (fun q => by cases q), ?_, ?_, fun j hj => ?_⟩
    · exact (hH.2.2.2.1.2 0 (E.2.2.1 100, .int) rfl).1 _ _
    · rw [arrV_size]; exact Nat.le_refl _
    · rw [arrV_size]
    · rw [arrV_read _ _ hj]; rfl
theorem updAv {kd : Nat} {f : Int → Int} {i x : Int} {v : Value} (h0 : 0 ≤ i) (hv : v = mAv kd x) : updV (fun j => mAv kd (f (j : Int))) i.toNat v = fun j : Nat => mAv kd (if (j : Int) = i then x else f (j : Int)) := by
  funext j
  unfold updV
  by_cases hj : j = i.toNat
  · rw [if_pos hj, if_pos (by omega), hv]
  · rw [if_neg hj, if_neg (by omega)]
theorem s_iaload : mSnd .iaload := by
  intro mi pc Q bd L st μ len a b p t z ts k hd ho h hk E P l e R s m args below meth c Z C F ls H locs hL hOL hOS hH hS hb1 hb2
  obtain ⟨hx, hb, hml, hown, hts, hnm, hfr, hlo, hce, hsl, hba⟩ := id C
  obtain rfl : len = 1 := of_decide_eq_true ho
  obtain ⟨i, r, st', rfl, hkd, h0, h1, h⟩ := mir_sp h
  obtain ⟨hn, cell, c1, c2, c3, c4, c5, c6⟩ := mrd_own hH hkd
  show W P l e R s m args below meth c H locs bd.1 bd.2 Z (F0 m pc ls (.int (Int32.ofInt i) :: .ref (mad E r) :: st'.map (mcv E)))
  refine W.iald (v := .int (Int32.ofInt (μ.2.2.2 r i))) hx hb c1 c2 c3 (ind_i h0 h1 hn c4) ?_ rfl rfl hd ?_
  · rw [clamp_i h0 (by omega), c6 i.toNat (by omega)]
    show some (Value.int (Int32.ofInt (μ.2.2.2 r ((i.toNat : Nat) : Int)))) = _
    rw [Int.toNat_of_nonneg h0]
  · exact hk _ _ _ _ h E P l e R s m args below meth c Z C F ls H locs hL hOL (mOk_c (v := .inl _) ((hH.2.2.2.2.2.2 r i).2 (fun q => by rcases q with q | q <;> omega)) (mOk_t (mOk_t hOS))) hH hS hb1 hb2
theorem s_laload : mSnd .laload := by
  intro mi pc Q bd L st μ len a b p t z ts k hd ho h hk E P l e R s m args below meth c Z C F ls H locs hL hOL hOS hH hS hb1 hb2
  obtain ⟨hx, hb, hml, hown, hts, hnm, hfr, hlo, hce, hsl, hba⟩ := id C
  obtain rfl : len = 1 := of_decide_eq_true ho
  obtain ⟨i, r, st', rfl, hkd, h0, h1, h⟩ := mir_sp h
  have hr : 16 ≤ r := by
    rcases Nat.lt_or_ge r 16 with q | q
    · rcases hH.2.2.2.2.1.2 r q with q | q | q <;> omega
    · exact q
  obtain ⟨-, hn, c1⟩ := mH_arr hH hr hkd (by omega)
  show W P l e R s m args below meth c H locs bd.1 bd.2 Z (F0 m pc ls (.int (Int32.ofInt i) :: .ref (mad E r) :: st'.map (mcv E)))
  refine W.lald (v := .long (Int64.ofInt (μ.2.2.2 r i))) hx hb c1 ((hH.2.2.2.1.2 1 (E.2.2.1 101, .long) rfl).1 _ _) (fun q => by cases q) (by rw [arrV_size]; exact ind_i h0 h1 hn (Nat.le_refl _)) ?_ rfl rfl hd ?_
  · rw [clamp_i h0 (by omega), arrV_read _ _ (by omega), Int.toNat_of_nonneg h0]; rfl
  · exact hk _ _ _ _ h E P l e R s m args below meth c Z C F ls H locs hL hOL (mOk_c (v := .inr (.inl _)) ((hH.2.2.2.2.2.2 r i).1 (Or.inl hkd)) (mOk_t (mOk_t hOS))) hH hS hb1 hb2
theorem s_baload : mSnd .baload := by
  intro mi pc Q bd L st μ len a b p t z ts k hd ho h hk E P l e R s m args below meth c Z C F ls H locs hL hOL hOS hH hS hb1 hb2
  obtain ⟨hx, hb, hml, hown, hts, hnm, hfr, hlo, hce, hsl, hba⟩ := id C
  obtain ⟨rfl, ha⟩ := of_decide_eq_true ho
  obtain ⟨i, r, st', rfl, hkd, h0, h1, hN⟩ := mir_sp h
  have hr : 16 ≤ r := by
    rcases Nat.lt_or_ge r 16 with q | q
    · rcases hH.2.2.2.2.1.2 r q with q | q | q <;> omega
    · exact q
  obtain ⟨-, hn, c1⟩ := mH_arr hH hr hkd (by omega)
  have hok : mOk (.inl (μ.2.2.2 r i)) := (hH.2.2.2.2.2.2 r i).2 (fun q => by rcases q with q | q <;> omega)
  show W P l e R s m args below meth c H locs bd.1 bd.2 Z (F0 m pc ls (.int (Int32.ofInt i) :: .ref (mad E r) :: st'.map (mcv E)))
  rcases ha with rfl | rfl
  · refine W.bald (v := .int (Int32.ofInt (μ.2.2.2 r i))) hx hb c1 ((hH.2.2.2.1.2 2 (E.2.2.1 102, .byte) rfl).1 _ _) (fun q => by cases q) (by rw [arrV_size]; exact ind_i h0 h1 hn (Nat.le_refl _)) ?_ rfl rfl hd ?_
    · rw [clamp_i h0 (by omega), arrV_read _ _ (by omega), Int.toNat_of_nonneg h0]; rfl
    · exact hk _ _ _ _ hN E P l e R s m args below meth c Z C F ls H locs hL hOL (mOk_c hok (mOk_t (mOk_t hOS))) hH hS hb1 hb2
  · refine W.zald (v := .int (Int32.ofInt (μ.2.2.2 r i))) hx hb c1 ((hH.2.2.2.1.2 3 (E.2.2.1 103, .boolean) rfl).1 _ _) (fun q => by cases q) (by rw [arrV_size]; exact ind_i h0 h1 hn (Nat.le_refl _)) ?_ rfl rfl hd ?_
    · rw [clamp_i h0 (by omega), arrV_read _ _ (by omega), Int.toNat_of_nonneg h0]; rfl
    · exact hk _ _ _ _ hN E P l e R s m args below meth c Z C F ls H locs hL hOL (mOk_c hok (mOk_t (mOk_t hOS))) hH hS hb1 hb2
/-- an array's element has been written -/
theorem mHold_ast {E : mE} {μ : mM} {U : State} {H H' : Heap} {r kd : Nat} {i x : Int} {v : Value} (hH : mHold E μ U H) (hr : 16 ≤ r) (hkd : (μ.2.1 r).1 = kd) (hge : 100 ≤ kd) (h0 : 0 ≤ i) (h1 : i < ((μ.2.1 r).2 : Int)) (hv : v = mAv kd x) (hx : if kd = 101 then inL x else inI x)
    (he : H'[mad E r]? = some ((arrV (E.2.2.1 kd) (μ.2.1 r).2 (fun j => mAv kd (μ.2.2.2 r (j : Int)))).setSlot (Int32.ofInt i).toNatClampNeg v)) (hz : H'.size = H.size) (ho : ∀ q : Nat, q ≠ mad E r → H'[q]? = H[q]?) : mHold E (mput μ r i x) U H' := by
  obtain ⟨h4, hn, c1⟩ := mH_arr hH hr hkd hge
  refine mHold_upd hH hr hz ho rfl rfl (fun a ha => ⟨rfl, ?_⟩) ?_ (mRg_put hH.2.2.2.2.2.2 (fun q => ?_) (fun q => ?_))
  · funext j
    show (if a = r ∧ j = i then x else μ.2.2.2 a j) = _
    rw [if_neg (fun q => ha q.1)]
  · refine Or.inr ⟨by rw [show (mput μ r i x).2.1 = μ.2.1 from rfl, hkd]; exact hge, by rw [show (mput μ r i x).2.1 = μ.2.1 from rfl, hkd]; exact h4, hn, ?_⟩
    rw [he, arrV_store, clamp_i h0 (by omega), updAv h0 hv]
    rw [show (mput μ r i x).2.1 = μ.2.1 from rfl, hkd]
    congr 2
    funext j
    show _ = mAv kd (if r = r ∧ (j : Int) = i then x else μ.2.2.2 r (j : Int))
    simp only [true_and]
  · rcases q with q | q
    · rw [if_pos (by omega)] at hx; exact hx
    · omega
  · rw [if_neg (fun w => q (Or.inl (by omega)))] at hx; exact hx
theorem s_iastore : mSnd .iastore := by
  intro mi pc Q bd L st μ len a b p t z ts k hd ho h hk E P l e R s m args below meth c Z C F ls H locs hL hOL hOS hH hS hb1 hb2
  obtain ⟨hx, hb, hml, hown, hts, hnm, hfr, hlo, hce, hsl, hba⟩ := id C
  obtain rfl : len = 1 := of_decide_eq_true ho
  obtain ⟨x, i, r, st', rfl, hkd, hr, h0, h1, h⟩ := miir_sp h
  obtain ⟨-, hn, c1⟩ := mH_arr hH hr hkd (by omega)
  show W P l e R s m args below meth c H locs bd.1 bd.2 Z (F0 m pc ls (.int (Int32.ofInt x) :: .int (Int32.ofInt i) :: .ref (mad E r) :: st'.map (mcv E)))
  refine W.iast hx hb c1 ((hH.2.2.2.1.2 0 (E.2.2.1 100, .int) rfl).1 _ _) (fun q => by cases q) (by rw [arrV_size]; exact ind_i h0 h1 hn (Nat.le_refl _)) rfl rfl hd (fun H' e1 e2 e3 => ?_)
  exact hk _ _ _ _ h E P l e R s m args below meth c Z C F ls H' _ hL hOL (mOk_t (mOk_t (mOk_t hOS))) (mHold_ast hH hr hkd (by omega) h0 h1 rfl (show inI x from mOk_1 hOS) e1 e2 e3) (hS.put e2 e3 (by show E.1 ≤ mad E r; rw [mad_ge hr]; omega)) hb1 hb2
theorem s_lastore : mSnd .lastore := by
  intro mi pc Q bd L st μ len a b p t z ts k hd ho h hk E P l e R s m args below meth c Z C F ls H locs hL hOL hOS hH hS hb1 hb2
  obtain ⟨hx, hb, hml, hown, hts, hnm, hfr, hlo, hce, hsl, hba⟩ := id C
  obtain rfl : len = 1 := of_decide_eq_true ho
  obtain ⟨x, i, r, st', rfl, hkd, h0, h1, h⟩ := mlir_sp h
  have hr : 16 ≤ r := by
    rcases Nat.lt_or_ge r 16 with q | q
    · rcases hH.2.2.2.2.1.2 r q with q | q | q <;> omega
    · exact q
  obtain ⟨-, hn, c1⟩ := mH_arr hH hr hkd (by omega)
  show W P l e R s m args below meth c H locs bd.1 bd.2 Z (F0 m pc ls (.long (Int64.ofInt x) :: .int (Int32.ofInt i) :: .ref (mad E r) :: st'.map (mcv E)))
  refine W.last hx hb c1 ((hH.2.2.2.1.2 1 (E.2.2.1 101, .long) rfl).1 _ _) (fun q => by cases q) (by rw [arrV_size]; exact ind_i h0 h1 hn (Nat.le_refl _)) rfl rfl hd (fun H' e1 e2 e3 => ?_)
  exact hk _ _ _ _ h E P l e R s m args below meth c Z C F ls H' _ hL hOL (mOk_t (mOk_t (mOk_t hOS))) (mHold_ast hH hr hkd (by omega) h0 h1 rfl (show inL x from mOk_1 hOS) e1 e2 e3) (hS.put e2 e3 (by show E.1 ≤ mad E r; rw [mad_ge hr]; omega)) hb1 hb2
theorem i2B_in (x : Int) : inI (i2B x) := by
  have h1 := (Int32.ofInt x).toInt8.le_toInt
  have h2 := (Int32.ofInt x).toInt8.toInt_lt
  unfold i2B
  constructor <;> omega
theorem nar_z {x : Int} (h : x = 0 ∨ x = 1) : narrow .boolean (.int (Int32.ofInt x)) = .int (Int32.ofInt x) := by
  rcases h with rfl | rfl <;> rfl
theorem s_bastore : mSnd .bastore := by
  intro mi pc Q bd L st μ len a b p t z ts k hd ho h hk E P l e R s m args below meth c Z C F ls H locs hL hOL hOS hH hS hb1 hb2
  obtain ⟨hx, hb, hml, hown, hts, hnm, hfr, hlo, hce, hsl, hba⟩ := id C
  obtain rfl : len = 1 := of_decide_eq_true ho
  cases t with
  | zero =>
    obtain ⟨x, i, r, st', rfl, hkd, h0, h1, h⟩ := miir_sp h
    have hr : 16 ≤ r := by
      rcases Nat.lt_or_ge r 16 with q | q
      · rcases hH.2.2.2.2.1.2 r q with q | q | q <;> omega
      · exact q
    obtain ⟨-, hn, c1⟩ := mH_arr hH hr hkd (by omega)
    show W P l e R s m args below meth c H locs bd.1 bd.2 Z (F0 m pc ls (.int (Int32.ofInt x) :: .int (Int32.ofInt i) :: .ref (mad E r) :: st'.map (mcv E)))
    refine W.bast hx hb c1 ((hH.2.2.2.1.2 2 (E.2.2.1 102, .byte) rfl).1 _ _) (fun q => by cases q) (by rw [arrV_size]; exact ind_i h0 h1 hn (Nat.le_refl _)) rfl rfl hd (fun H' e1 e2 e3 => ?_)
    exact hk _ _ _ _ h E P l e R s m args below meth c Z C F ls H' _ hL hOL (mOk_t (mOk_t (mOk_t hOS))) (mHold_ast hH hr hkd (by omega) h0 h1 (show narrow .byte (.int (Int32.ofInt x)) = mAv 102 (i2B x) from rfl) (show inI (i2B x) from i2B_in x) e1 e2 e3) (hS.put e2 e3 (by show E.1 ≤ mad E r; rw [mad_ge hr]; omega)) hb1 hb2
  | succ t =>
    obtain ⟨x, i, r, st', rfl, hkd, h0, h1, hz, h⟩ := miir_sp h
    have hr : 16 ≤ r := by
      rcases Nat.lt_or_ge r 16 with q | q
      · rcases hH.2.2.2.2.1.2 r q with q | q | q <;> omega
      · exact q
    obtain ⟨-, hn, c1⟩ := mH_arr hH hr hkd (by omega)
    show W P l e R s m args below meth c H locs bd.1 bd.2 Z (F0 m pc ls (.int (Int32.ofInt x) :: .int (Int32.ofInt i) :: .ref (mad E r) :: st'.map (mcv E)))
    refine W.zast hx hb c1 ((hH.2.2.2.1.2 3 (E.2.2.1 103, .boolean) rfl).1 _ _) (fun q => by cases q) (by rw [arrV_size]; exact ind_i h0 h1 hn (Nat.le_refl _)) rfl rfl hd (fun H' e1 e2 e3 => ?_)
    exact hk _ _ _ _ h E P l e R s m args below meth c Z C F ls H' _ hL hOL (mOk_t (mOk_t (mOk_t hOS))) (mHold_ast hH hr hkd (by omega) h0 h1 (show narrow .boolean (.int (Int32.ofInt x)) = mAv 103 x from nar_z hz) (show inI x from mOk_1 hOS) e1 e2 e3) (hS.put e2 e3 (by show E.1 ≤ mad E r; rw [mad_ge hr]; omega)) hb1 hb2
theorem s_arraylength : mSnd .arraylength := by
  intro mi pc Q bd L st μ len a b p t z ts k hd ho h hk E P l e R s m args below meth c Z C F ls H locs hL hOL hOS hH hS hb1 hb2
  obtain ⟨hx, hb, hml, hown, hts, hnm, hfr, hlo, hce, hsl, hba⟩ := id C
  obtain rfl : len = 1 := of_decide_eq_true ho
  obtain ⟨r, st', rfl, hkd, h⟩ := mr1_sp h
  show W P l e R s m args below meth c H locs bd.1 bd.2 Z (F0 m pc ls (.ref (mad E r) :: st'.map (mcv E)))
  by_cases hr : r < 16
  · have hk1 : (μ.2.1 r).1 = 100 := by rcases hH.2.2.2.2.1.2 r hr with q | q | q <;> omega
    obtain ⟨hn, cell, c1, c2, c3, c4, c5, c6⟩ := mrd_own hH hk1
    refine W.alen (n := Int32.ofInt ((μ.2.1 r).2 : Int)) hx hb c1 c2 (by rw [c5, Int32.ofInt_eq_ofNat]) rfl rfl hd ?_
    exact hk _ _ _ _ h E P l e R s m args below meth c Z C F ls H locs hL hOL (mOk_c (v := .inl _) (show inI _ by constructor <;> omega) (mOk_t hOS)) hH hS hb1 hb2
  · obtain ⟨h4, hn, c1⟩ := mH_arr hH (by omega) rfl hkd
    have hA : ∃ ty, ArrOfT s (E.2.2.1 (μ.2.1 r).1) ty := by
      rcases (show (μ.2.1 r).1 = 100 ∨ (μ.2.1 r).1 = 101 ∨ (μ.2.1 r).1 = 102 ∨ (μ.2.1 r).1 = 103 by omega) with q | q | q | q <;> rw [q]
      · exact ⟨_, (hH.2.2.2.1.2 0 (E.2.2.1 100, .int) rfl).1⟩
      · exact ⟨_, (hH.2.2.2.1.2 1 (E.2.2.1 101, .long) rfl).1⟩
      · exact ⟨_, (hH.2.2.2.1.2 2 (E.2.2.1 102, .byte) rfl).1⟩
      · exact ⟨_, (hH.2.2.2.1.2 3 (E.2.2.1 103, .boolean) rfl).1⟩
    obtain ⟨ty, hA⟩ := hA
    refine W.alen (n := Int32.ofInt ((μ.2.1 r).2 : Int)) hx hb c1 (hA _ _) (by rw [arrV_size, Int32.ofInt_eq_ofNat]) rfl rfl hd ?_
    exact hk _ _ _ _ h E P l e R s m args below meth c Z C F ls H locs hL hOL (mOk_c (v := .inl _) (show inI _ by constructor <;> omega) (mOk_t hOS)) hH hS hb1 hb2
theorem mLk_sp {own : String} {index c b p : Nat} {q : vw_C} (hq : vwCl[c]? = some q) (h : mLk own index c b p = true) : b < q.2.2 ∧ mAt p (.fieldLink own index q.1 (q.2.1 b).2.1 (q.2.1 b).2.2.1) = true ∧ (q.2.1 b).1 = q.1 := by
  unfold mLk at h
  rw [hq] at h
  simp only [Bool.and_eq_true] at h
  exact ⟨of_decide_eq_true h.1.1, h.1.2, of_decide_eq_true h.2⟩
theorem mW (c : Nat) {q : vw_C} {args : Array Value} {s : State} (hts : ∀ w ∈ lw_tbl, goodWord w = true → w.before args s = true) (hq : vwCl[c]? = some q) : ∀ w ∈ u_ws q.1 q.2.1 q.2.2, w.before args s = true := fun w hw => hts w ((mU c q hq).1 w hw).1 ((mU c q hq).1 w hw).2
theorem s_getfield (i : Nat) : mSnd (.getfield i) := by
  intro mi pc Q bd L st μ len a b p t z ts k hd ho h hk E P l e R s m args below meth c Z C F ls H locs hL hOL hOS hH hS hb1 hb2
  obtain ⟨hx, hb, hml, hown, hts, hnm, hfr, hlo, hce, hsl, hba⟩ := id C
  obtain ⟨ho, ho3⟩ := Bool.and_eq_true_iff.mp ho
  obtain ⟨ho1, ho2⟩ := Bool.and_eq_true_iff.mp ho
  obtain ⟨rfl, rfl, ha⟩ := of_decide_eq_true ho1
  obtain ⟨r, st', rfl, hkd, hr, h⟩ := mr1_sp h
  obtain ⟨q, hq, hob⟩ := mH_obj hH hr hkd (by omega)
  obtain ⟨hbN, hlk, hdc⟩ := mLk_sp hq ho2
  obtain ⟨cell, q1, q2, q3, q4⟩ := hob
  obtain ⟨hSl, hfc, kC, hkC, hkind⟩ := hH.2.2.2.1.1 a q hq
  obtain ⟨cf, kf, fi, f, hi, hsl2⟩ := hSl b hbN
  have hst := (u_facts hfc hkC (u_lays (mW a hts hq) (fun w hw => hw) hbN) hi).1
  have hi2 : s.fieldFound? q.1 (q.2.1 b).2.1 (q.2.1 b).2.2.1 = some (cf, kf, fi, f) := by rw [← hdc]; exact hi
  have hv : cell.slots[f.slot]? = some (mFv E (mTy a b) (μ.2.2.1 r b) (μ.2.2.2 r (b : Int))) := by rw [hsl2]; exact q4 b hbN
  have hrg := hH.2.2.2.2.2.2 r (b : Int)
  show W P l e R s m args below meth c H locs bd.1 bd.2 Z (F0 m pc ls (.ref (mad E r) :: st'.map (mcv E)))
  refine W.getf hx hb hown (mAt_sp hts hlk) hi2 hst q1 (by rw [q3]; exact fun w => by cases w) hv rfl rfl hd ?_
  rcases t with _ | _ | t
  · have hty : mTy a b = .int ∨ mTy a b = .boolean := of_decide_eq_true ho3
    have e1 : mFv E (mTy a b) (μ.2.2.1 r b) (μ.2.2.2 r (b : Int)) = .int (Int32.ofInt (μ.2.2.2 r (b : Int))) := by rcases hty with w | w <;> rw [w] <;> rfl
    rw [e1]
    refine hk _ _ _ _ h E P l e R s m args below meth c Z C F ls H locs hL hOL (mOk_c (v := .inl _) (hrg.2 (fun w => ?_)) (mOk_t hOS)) hH hS hb1 hb2
    rcases w with w | ⟨-, w⟩
    · omega
    · rw [hkd, Int.toNat_natCast] at w
      rcases hty with v | v <;> rw [v] at w <;> cases w
  · have hty : mTy a b = .long := of_decide_eq_true ho3
    have e1 : mFv E (mTy a b) (μ.2.2.1 r b) (μ.2.2.2 r (b : Int)) = .long (Int64.ofInt (μ.2.2.2 r (b : Int))) := by rw [hty]; rfl
    rw [e1]
    exact hk _ _ _ _ h E P l e R s m args below meth c Z C F ls H locs hL hOL (mOk_c (v := .inr (.inl _)) (hrg.1 (Or.inr ⟨by omega, by rw [hkd, Int.toNat_natCast]; exact hty⟩)) (mOk_t hOS)) hH hS hb1 hb2
  · obtain ⟨h0, h⟩ := h
    obtain ⟨t1, t2, t3⟩ : mTy a b ≠ .int ∧ mTy a b ≠ .boolean ∧ mTy a b ≠ .long := of_decide_eq_true ho3
    have e1 : mFv E (mTy a b) (μ.2.2.1 r b) (μ.2.2.2 r (b : Int)) = .ref (mad E (μ.2.2.1 r b)) := by
      unfold mFv
      split
      · exact absurd (by assumption) t3
      · exact absurd (by assumption) t1
      · exact absurd (by assumption) t2
      · rw [if_neg h0]
    rw [e1]
    exact hk _ _ _ _ h E P l e R s m args below meth c Z C F ls H locs hL hOL (mOk_c (v := .inr (.inr _)) h0 (mOk_t hOS)) hH hS hb1 hb2
/-- a field has been written: what the machine needs, what holds behind it -/
theorem mPut {mi pc : Nat} {E : mE} {P : Program} {l : Launch} {e : Env} {R : Room} {s : State} {m : MethodId} {args : Array Value} {below : List Frame} {meth : Method} {c : Code} {Z : State → Prop} {H : Heap} {locs : List Loc} {cells slots : Nat} {ls : Array Slot} {rest : List Value} {μ μ' : mM} {i a b p r : Nat} {v : Value}
    (C : mCx mi E P R s m args meth c) (hH : mHold E μ s H) (hS : va_S (mA E) s.heap H locs) (hd : decode (mB mi) pc = .ok (.putfield i, 3)) (ha : a < 12) (ho2 : mLk (mY mi).cls i a b p = true) (ho3 : (!mFin a b || decide ((mY mi).name = "<init>" ∧ (mY mi).cls = mCnm a)) = true)
    (hkd : (μ.2.1 r).1 = a) (hr : 16 ≤ r) (hn : narrow (mTy a b) v = v) (hf : fits (mTy a b) v = true) (h1 : μ'.1 = μ.1) (h2 : μ'.2.1 = μ.2.1) (h3 : ∀ x, x ≠ r → μ'.2.2.1 x = μ.2.2.1 x ∧ μ'.2.2.2 x = μ.2.2.2 x)
    (h4 : ∀ k, updV (fun k => mFv E (mTy a k) (μ.2.2.1 r k) (μ.2.2.2 r (k : Int))) b v k = mFv E (mTy a k) (μ'.2.2.1 r k) (μ'.2.2.2 r (k : Int))) (hg : mRg μ')
    (kk : ∀ (H' : Heap) (locs' : List Loc), mHold E μ' s H' → va_S (mA E) s.heap H' locs' → W P l e R s m args below meth c H' locs' cells slots Z (F0 m (pc + 3) ls rest)) : W P l e R s m args below meth c H locs cells slots Z (F0 m pc ls (v :: .ref (mad E r) :: rest)) := by
  obtain ⟨hx, hb, hml, hown, hts, hnm, hfr, hlo, hce, hsl, hba⟩ := id C
  obtain ⟨q, hq, hob⟩ := mH_obj hH hr hkd (by omega)
  obtain ⟨hbN, hlk, hdc⟩ := mLk_sp hq ho2
  obtain ⟨cell, q1, q2, q3, q4⟩ := hob
  obtain ⟨hSl, hfc, kC, hkC, hkind⟩ := hH.2.2.2.1.1 a q hq
  obtain ⟨cf, kf, fi, f, hi, hsl2⟩ := hSl b hbN
  obtain ⟨u1, u2, u3, u4⟩ := mU a q hq
  have hw := mW a hts hq
  have hap := va_apart (own := (mY mi).cls) (D := E.2.1) (cl := vwCl) (tys := mTys E) (ci := a) hw (fun w hw => hw) (mTy a) u2 u3 hH.2.2.2.1 hq
  have hst := (u_facts hfc hkC (u_lays hw (fun w hw => hw) hbN) hi).1
  have hi2 : s.fieldFound? q.1 (q.2.1 b).2.1 (q.2.1 b).2.2.1 = some (cf, kf, fi, f) := by rw [← hdc]; exact hi
  have hE : E.1 ≤ mad E r := by rw [mad_ge hr]; omega
  have fin : ∀ H' : Heap, H'[mad E r]? = some (cell.setSlot f.slot v) → H'.size = H.size → (∀ x, x ≠ mad E r → H'[x]? = H[x]?) → W P l e R s m args below meth c H' (locs ++ [⟨mad E r, f.slot⟩]) cells slots Z (F0 m (pc + 3) ls rest) := by
    intro H' e1 e2 e3
    rw [hsl2] at e1
    refine kk H' _ (mHold_upd hH hr e2 e3 h1 h2 h3 (Or.inl ⟨by rw [h2, hkd]; omega, q, by rw [h2, hkd]; exact hq, ?_⟩) hg) (hS.put e2 e3 hE)
    rw [h2, hkd]
    exact t_OB.to (V := updV (fun k => mFv E (mTy a k) (μ.2.2.1 r k) (μ.2.2.2 r (k : Int))) b v) ⟨_, e1, q2, q3, t_set q4 hap hbN v⟩ (fun k _ => h4 k)
  have hlay := hw _ (u_in_lay hbN)
  unfold u_lay at hlay
  by_cases hfn : (q.2.1 b).2.2.2 = true
  · rw [if_pos hfn] at hlay
    have hF : mFin a b = true := by
      unfold mFin
      rw [hq]
      exact hfn
    rw [hF] at ho3
    obtain ⟨g1, g2⟩ : (mY mi).name = "<init>" ∧ (mY mi).cls = mCnm a := of_decide_eq_true (by simpa using ho3)
    have hcn : mCnm a = q.1 := by
      unfold mCnm
      rw [if_neg (by omega), List.getD_eq_getElem?_getD, hq]
      rfl
    have hcf : m.cls = cf := by
      obtain ⟨_, _, c', _, _, _, -, -, hf', -, -, -, hown2, -⟩ := Cond.laysFinal_spec hlay
      have e1 : c' = cf := by have := hi.symm.trans hf'; simp at this; exact this.1.symm
      rw [hdc, ← hcn, ← g2] at hown2
      rw [← e1]; exact Option.some.inj (hown.symm.trans hown2)
    have h6 := u_fits hfc hkC hkind (Or.inr hlay) hi (u2 b hbN) hn hf
    exact W.putFinK hx hb hown (mAt_sp hts hlk) hi2 hst hcf (by rw [hnm, g1]) (by rw [q2]; exact h6) q1 q3 (by rw [hsl2]; exact k2_hasslot (q4 b hbN)) rfl rfl hd fin
  · rw [if_neg hfn] at hlay
    have h6 := u_store hfc hkC hkind hlay hi (u2 b hbN) hn hf
    exact W.putK hx hb (f := f) ⟨hown, mAt_sp hts hlk, ⟨_, _, _, hi2⟩, hst⟩ (by rw [q2]; exact h6) q1 q3 (by rw [hsl2]; exact k2_hasslot (q4 b hbN)) rfl rfl hd fin
theorem mput_off {μ : mM} {r : Nat} {j x : Int} : ∀ a, a ≠ r → (mput μ r j x).2.2.1 a = μ.2.2.1 a ∧ (mput μ r j x).2.2.2 a = μ.2.2.2 a := fun a ha => ⟨rfl, by
  funext i
  show (if a = r ∧ i = j then x else μ.2.2.2 a i) = _
  rw [if_neg (fun q => ha q.1)]⟩
theorem mputr_off {μ : mM} {r k x : Nat} : ∀ a, a ≠ r → (mputr μ r k x).2.2.1 a = μ.2.2.1 a ∧ (mputr μ r k x).2.2.2 a = μ.2.2.2 a := fun a ha => ⟨by
  funext i
  show (if a = r ∧ i = k then x else μ.2.2.1 a i) = _
  rw [if_neg (fun q => ha q.1)], rfl⟩
theorem mput_on {E : mE} {μ : mM} {r a b : Nat} {x : Int} {v : Value} (hv : ∀ w, mFv E (mTy a b) w x = v) : ∀ k : Nat, updV (fun k => mFv E (mTy a k) (μ.2.2.1 r k) (μ.2.2.2 r (k : Int))) b v k = mFv E (mTy a k) ((mput μ r (b : Int) x).2.2.1 r k) ((mput μ r (b : Int) x).2.2.2 r (k : Int)) := by
  intro k
  show _ = mFv E (mTy a k) (μ.2.2.1 r k) (if r = r ∧ (k : Int) = (b : Int) then x else μ.2.2.2 r (k : Int))
  unfold updV
  by_cases hk : k = b
  · subst hk
    rw [if_pos rfl, if_pos ⟨rfl, rfl⟩, hv]
  · rw [if_neg hk, if_neg (fun q => hk (by omega))]
theorem mputr_on {E : mE} {μ : mM} {r a b x : Nat} {v : Value} (hv : ∀ w, mFv E (mTy a b) x w = v) : ∀ k : Nat, updV (fun k => mFv E (mTy a k) (μ.2.2.1 r k) (μ.2.2.2 r (k : Int))) b v k = mFv E (mTy a k) ((mputr μ r b x).2.2.1 r k) ((mputr μ r b x).2.2.2 r (k : Int)) := by
  intro k
  show _ = mFv E (mTy a k) (if r = r ∧ k = b then x else μ.2.2.1 r k) (μ.2.2.2 r (k : Int))
  unfold updV
  by_cases hk : k = b
  · subst hk
    rw [if_pos rfl, if_pos ⟨rfl, rfl⟩, hv]
  · rw [if_neg hk, if_neg (fun q => hk q.2)]
theorem mLg_f {μ : mM} {r a b : Nat} (hkd : (μ.2.1 r).1 = a) (ha : a < 12) : mLg (μ.2.1 r) (b : Int) ↔ mTy a b = .long := by
  unfold mLg
  rw [hkd, Int.toNat_natCast]
  constructor
  · rintro (q | q)
    · omega
    · exact q.2
  · exact fun q => Or.inr ⟨by omega, q⟩
theorem s_putfield (i : Nat) : mSnd (.putfield i) := by
  intro mi pc Q bd L st μ len a b p t z ts k hd ho h hk E P l e R s m args below meth c Z C F ls H locs hL hOL hOS hH hS hb1 hb2
  obtain ⟨hx, hb, hml, hown, hts, hnm, hfr, hlo, hce, hsl, hba⟩ := id C
  obtain ⟨ho, ho4⟩ := Bool.and_eq_true_iff.mp ho
  obtain ⟨ho, ho3⟩ := Bool.and_eq_true_iff.mp ho
  obtain ⟨ho1, ho2⟩ := Bool.and_eq_true_iff.mp ho
  obtain ⟨rfl, rfl, ha⟩ := of_decide_eq_true ho1
  rcases t with _ | _ | _ | t
  · obtain ⟨x, r, st', rfl, hkd, hr, h⟩ := mir_sp h
    have hty : mTy a b = .int := of_decide_eq_true ho4
    exact mPut (v := .int (Int32.ofInt x)) (μ' := mput μ r (b : Int) x) C hH hS hd ha ho2 ho3 hkd hr (by rw [hty]; rfl) (by rw [hty]; rfl) rfl rfl mput_off (mput_on (fun w => by rw [hty]; rfl)) (mRg_put hH.2.2.2.2.2.2 (fun q => by rw [mLg_f hkd ha, hty] at q; cases q) (fun _ => mOk_1 hOS)) (fun H' locs' hH' hS' => hk _ _ _ _ h E P l e R s m args below meth c Z C F ls H' locs' hL hOL (mOk_t (mOk_t hOS)) hH' hS' hb1 hb2)
  · obtain ⟨x, r, st', rfl, hkd, hr, h⟩ := mlr_sp h
    have hty : mTy a b = .long := of_decide_eq_true ho4
    exact mPut (v := .long (Int64.ofInt x)) (μ' := mput μ r (b : Int) x) C hH hS hd ha ho2 ho3 hkd hr (by rw [hty]; rfl) (by rw [hty]; rfl) rfl rfl mput_off (mput_on (fun w => by rw [hty]; rfl)) (mRg_put hH.2.2.2.2.2.2 (fun q => mOk_1 hOS) (fun q => absurd ((mLg_f hkd ha).mpr hty) q)) (fun H' locs' hH' hS' => hk _ _ _ _ h E P l e R s m args below meth c Z C F ls H' locs' hL hOL (mOk_t (mOk_t hOS)) hH' hS' hb1 hb2)
  · obtain ⟨x, r, st', rfl, hkd, hr, h⟩ := mrr_sp h
    have hx0 : x ≠ 0 := mOk_1 hOS
    have hty : (∃ n, mTy a b = .object n) ∨ (∃ n, mTy a b = .array n) := by
      have h5 : (match mTy a b with | .object _ => true | .array _ => true | _ => false) = true := ho4
      split at h5
      · rename_i n w
        exact Or.inl ⟨n, w⟩
      · rename_i n w
        exact Or.inr ⟨n, w⟩
      · cases h5
    have hv : ∀ w, mFv E (mTy a b) x w = .ref (mad E x) := fun w => by rcases hty with ⟨n, q⟩ | ⟨n, q⟩ <;> rw [q] <;> simp [mFv, hx0]
    exact mPut (v := .ref (mad E x)) (μ' := mputr μ r b x) C hH hS hd ha ho2 ho3 hkd hr (by rcases hty with ⟨n, q⟩ | ⟨n, q⟩ <;> rw [q] <;> rfl) (by rcases hty with ⟨n, q⟩ | ⟨n, q⟩ <;> rw [q] <;> rfl) rfl rfl mputr_off (mputr_on hv) hH.2.2.2.2.2.2 (fun H' locs' hH' hS' => hk _ _ _ _ h E P l e R s m args below meth c Z C F ls H' locs' hL hOL (mOk_t (mOk_t hOS)) hH' hS' hb1 hb2)
  · obtain ⟨x, r, st', rfl, hkd, hr, hx1, h⟩ := mir_sp h
    have hty : mTy a b = .boolean := of_decide_eq_true ho4
    exact mPut (v := .int (Int32.ofInt x)) (μ' := mput μ r (b : Int) x) C hH hS hd ha ho2 ho3 hkd hr (by rw [hty]; exact nar_z hx1) (by rw [hty]; rcases hx1 with rfl | rfl <;> rfl) rfl rfl mput_off (mput_on (fun w => by rw [hty]; rfl)) (mRg_put hH.2.2.2.2.2.2 (fun q => by rw [mLg_f hkd ha, hty] at q; cases q) (fun _ => mOk_1 hOS)) (fun H' locs' hH' hS' => hk _ _ _ _ h E P l e R s m args below meth c Z C F ls H' locs' hL hOL (mOk_t (mOk_t hOS)) hH' hS' hb1 hb2)
theorem s_getstatic (i : Nat) : mSnd (.getstatic i) := by
  intro mi pc Q bd L st μ len a b p t z ts k hd ho h hk E P l e R s m args below meth c Z C F ls H locs hL hOL hOS hH hS hb1 hb2
  obtain ⟨hx, hb, hml, hown, hts, hnm, hfr, hlo, hce, hsl, hba⟩ := id C
  obtain ⟨rfl, rfl, hn⟩ := of_decide_eq_true ho
  have hO := mO_back hH.2.2.2.2.2.1 hS hba
  refine va_getsN hx hb hO.2.2.1 hS hown (va_Nw.use rfl (hO.2.2.2.2.2 _ hn)) (fun _ q => q) hd ?_
  exact hk _ _ _ _ h E P l e R s m args below meth c Z C F ls H locs hL hOL (mOk_c (v := .inr (.inr 10)) (by show (10 : Nat) ≠ 0; decide) hOS) hH hS hb1 hb2
theorem s_ldc (i : Nat) : mSnd (.ldc i) := by
  intro mi pc Q bd L st μ len a b p t z ts k hd ho h hk E P l e R s m args below meth c Z C F ls H locs hL hOL hOS hH hS hb1 hb2
  obtain ⟨hx, hb, hml, hown, hts, hnm, hfr, hlo, hce, hsl, hba⟩ := id C
  obtain ⟨ho1, ho2⟩ := Bool.and_eq_true_iff.mp ho
  obtain rfl : len = 2 := of_decide_eq_true ho1
  cases t with
  | zero =>
    obtain ⟨ho3, ho4⟩ := Bool.and_eq_true_iff.mp ho2
    refine lv_ldc hx hb hown (mAt_sp hts ho4) hd ?_
    exact hk _ _ _ _ h E P l e R s m args below meth c Z C F ls H locs hL hOL (mOk_c (v := .inl _) (show inI z from of_decide_eq_true ho3) hOS) hH hS hb1 hb2
  | succ t =>
    obtain ⟨g1, g2, g3, g4⟩ : (mY mi).cls = "WordMint$Scanner" ∧ 2 ≤ a ∧ a < 6 ∧ (mTx[a - 2]?).map (fun q => q.1) = some i := of_decide_eq_true ho2
    obtain ⟨q, g5, g6⟩ := Option.map_eq_some_iff.mp g4
    have hR := hH.2.2.2.2.2.1.2.1 (a - 2) (by omega) q g5
    rw [show 2 + (a - 2) = a by omega, g6] at hR
    rw [g1] at hown
    refine va_ldcS hx hb hown hR hd ?_
    have hm : mad E a = E.2.2.2 a := mad_lt (by omega)
    rw [← hm]
    exact hk _ _ _ _ h E P l e R s m args below meth c Z C F ls H locs hL hOL (mOk_c (v := .inr (.inr a)) (by show a ≠ 0; omega) hOS) hH hS hb1 hb2
theorem s_newarray (ty : ArrayType) : mSnd (.newarray ty) := by
  intro mi pc Q bd L st μ len a b p t z ts k hd ho h hk E P l e R s m args below meth c Z C F ls H locs hL hOL hOS hH hS hb1 hb2
  obtain ⟨hx, hb, hml, hown, hts, hnm, hfr, hlo, hce, hsl, hba⟩ := id C
  obtain ⟨ho1, ho2⟩ := Bool.and_eq_true_iff.mp ho
  obtain ⟨rfl, hty⟩ := of_decide_eq_true ho1
  obtain ⟨n, st', rfl, h0, hn, hc1, hc2, h⟩ := mi1_sp h
  show W P l e R s m args below meth c H locs bd.1 bd.2 Z (F0 m pc ls (.int (Int32.ofInt n) :: st'.map (mcv E)))
  refine va_newaK hx hb (mAt_sp hts ho2) rfl hd rfl (N := n.toNat) (h := E.1 + μ.1) ?_ (clamp_i h0 (by omega)) ?_ (by omega) (by omega) hH.1 (fun H' cA e1 e2 e3 e4 e5 => ?_)
  · rw [show (0 : Int32) = Int32.ofInt 0 from rfl, inI_lt ⟨by omega, by omega⟩ inI_0]
    omega
  · have : componentBytes (newarray.typeOf ty) ≤ 8 := by rcases hty with q | q | q | q <;> rw [q.2] <;> decide
    have h2 : n.toNat * componentBytes (newarray.typeOf ty) ≤ 1000000 * 8 := Nat.mul_le_mul (by omega) this
    omega
  · have hm : mad E (16 + μ.1) = E.1 + μ.1 := by rw [mad_ge (by omega)]; omega
    have hcA : cA = E.2.2.1 a := by
      rcases hty with ⟨rfl, q⟩ | ⟨rfl, q⟩ | ⟨rfl, q⟩ | ⟨rfl, q⟩ <;> rw [q] at e5
      · exact Option.some.inj (e5.symm.trans (hH.2.2.2.1.2 0 (E.2.2.1 100, .int) rfl).2)
      · exact Option.some.inj (e5.symm.trans (hH.2.2.2.1.2 1 (E.2.2.1 101, .long) rfl).2)
      · exact Option.some.inj (e5.symm.trans (hH.2.2.2.1.2 2 (E.2.2.1 102, .byte) rfl).2)
      · exact Option.some.inj (e5.symm.trans (hH.2.2.2.1.2 3 (E.2.2.1 103, .boolean) rfl).2)
    have hdv : defaultValue (newarray.typeOf ty) = mAv a 0 := by rcases hty with ⟨rfl, q⟩ | ⟨rfl, q⟩ | ⟨rfl, q⟩ | ⟨rfl, q⟩ <;> rw [q] <;> rfl
    have hsh : (mnew μ (a, n.toNat)).2.1 (16 + μ.1) = (a, n.toNat) := by
      show (if 16 + μ.1 = 16 + μ.1 then (a, n.toNat) else _) = _
      rw [if_pos rfl]
    have hdt : ∀ j, (mnew μ (a, n.toNat)).2.2.2 (16 + μ.1) j = 0 := fun j => by
      show (if 16 + μ.1 = 16 + μ.1 then 0 else _) = _
      rw [if_pos rfl]
    have hc : mCell E (mnew μ (a, n.toNat)) (16 + μ.1) H' := by
      unfold mCell
      rw [hsh, hm]
      refine Or.inr ⟨by show 100 ≤ a; omega, by show a < 104; omega, by show n.toNat < _; omega, ?_⟩
      rw [e1, hcA, hdv]
      congr 2
      funext j
      rw [hdt]
    rw [← hm]
    exact hk _ _ _ _ h E P l e R s m args below meth c Z C F ls H' locs hL hOL (mOk_c (v := .inr (.inr _)) (by show 16 + μ.1 ≠ 0; omega) (mOk_t hOS)) (mHold_new hH (by rw [e2, hH.1]) (fun q hq => e3 q (by rw [← hH.1]; exact hq)) hc) ⟨by rw [e2]; have := hS.1; rw [hH.1] at this; omega, fun q h1 h2 => by rw [e3 q (by have := hS.1; rw [hH.1] at this; omega)]; exact hS.2.1 q h1 h2, hS.2.2⟩ (by show bd.1 + 1 ≤ _; omega) (by show bd.2 + n.toNat ≤ _; omega)
theorem s_new (i : Nat) : mSnd (.new i) := by
  intro mi pc Q bd L st μ len a b p t z ts k hd ho h hk E P l e R s m args below meth c Z C F ls H locs hL hOL hOS hH hS hb1 hb2
  obtain ⟨hx, hb, hml, hown, hts, hnm, hfr, hlo, hce, hsl, hba⟩ := id C
  obtain ⟨ho, ho4⟩ := Bool.and_eq_true_iff.mp ho
  obtain ⟨ho, ho3⟩ := Bool.and_eq_true_iff.mp ho
  obtain ⟨ho1, ho2⟩ := Bool.and_eq_true_iff.mp ho
  obtain ⟨rfl, ha, hts2, hvb⟩ := of_decide_eq_true ho1
  obtain ⟨hc1, hc2, h⟩ := h
  obtain ⟨q, hq, rfl⟩ := Option.map_eq_some_iff.mp hvb
  have hcn : mCnm a = q.1 := by
    unfold mCnm
    rw [if_neg (by omega), List.getD_eq_getElem?_getD, hq]
    rfl
  rw [hcn] at ho2 ho3 ho4
  have hKn := hH.2.2.2.1.1 a q hq
  obtain ⟨u1, u2, u3, u4⟩ := mU a q hq
  refine W.newcK hx hb hown (mAt_sp hts ho2) (mAt_sp hts ho3) (mAt_sp hts ho4) rfl hd (by omega) (by omega) hKn.2.1 (h := E.1 + μ.1) hH.1 (fun H' kC hkC e1 e2 e3 => ?_)
  have hm : mad E (16 + μ.1) = E.1 + μ.1 := by rw [mad_ge (by omega)]; omega
  have hsh : (mnew μ (a, 0)).2.1 (16 + μ.1) = (a, 0) := by
    show (if 16 + μ.1 = 16 + μ.1 then (a, 0) else _) = _
    rw [if_pos rfl]
  have hdt : ∀ j, (mnew μ (a, 0)).2.2.2 (16 + μ.1) j = 0 := fun j => by
    show (if 16 + μ.1 = 16 + μ.1 then 0 else _) = _
    rw [if_pos rfl]
  have hrt : ∀ j, (mnew μ (a, 0)).2.2.1 (16 + μ.1) j = 0 := fun j => by
    show (if 16 + μ.1 = 16 + μ.1 then 0 else _) = _
    rw [if_pos rfl]
  have hc : mCell E (mnew μ (a, 0)) (16 + μ.1) H' := by
    unfold mCell
    rw [hsh, hm]
    refine Or.inl ⟨by show a < 50; omega, q, hq, (u_born (mTy a) (mW a hts hq) (fun w hw => hw) hKn hkC e1 u2).to (fun k hk => ?_)⟩
    rw [hdt, hrt]
    have h9 := u4 k hk
    show defaultValue (mTy a k) = mFv E (mTy a k) 0 0
    revert h9
    cases mTy a k <;> intro h9 <;> first | rfl | cases h9
  rw [← hm]
  exact hk _ _ _ _ h E P l e R s m args below meth c Z C F ls H' locs hL hOL (mOk_c (v := .inr (.inr _)) (by show 16 + μ.1 ≠ 0; omega) hOS) (mHold_new hH (by rw [e2, hH.1]) (fun q hq => e3 q (by rw [← hH.1]; exact hq)) hc) ⟨by rw [e2]; have := hS.1; rw [hH.1] at this; omega, fun q h1 h2 => by rw [e3 q (by have := hS.1; rw [hH.1] at this; omega)]; exact hS.2.1 q h1 h2, hS.2.2⟩ (by show bd.1 + 1 ≤ _; omega) (by show bd.2 + q.2.2 ≤ _; omega)
