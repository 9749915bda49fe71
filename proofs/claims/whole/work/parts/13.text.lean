/-! TEXTS: the four constants (cells 2 .. 5), their bytes (cells 6 .. 9) -/
def tLen (r : Nat) : Int := if r = 9 then 4 else 5
def tB (r : Nat) (j : Int) : Int := (((mTx.map (fun q => q.2.2)).getD (r - 6) []).getD j.toNat 0).toInt
theorem tB_in : ∀ r, r < 10 → 6 ≤ r → ∀ j : Nat, j < 5 → 0 ≤ tB r (j : Int) ∧ tB r (j : Int) < 128 := by decide +kernel
theorem js_compact {mi pc : Nat} {Q : Option mV → mM → Prop} {bd : Nat × Nat} {L : mLs} {st : List mV} {μ : mM} {i p : Nat} (hd : decode (mB mi) pc = .ok (.getstatic i, 3)) (hl : mAt p (.fieldLink (mY mi).cls i "java/lang/String" "COMPACT_STRINGS" "Z") = true) (h : Jd mi Q bd (pc + 3) L (.inl 1 :: st) μ) : Jd mi Q bd pc L st μ := by
  intro E P l e R s m args below meth c Z C F ls H locs hL hOL hOS hH hS hb1 hb2
  obtain ⟨hx, hb, hml, hown, hts, hnm, hfr, hlo, hce, hsl, hba⟩ := id C
  have hO := mO_back hH.2.2.2.2.2.1 hS hba
  refine va_gets hx hb hO.2.2.2.1 hS hown (mAt_sp hts hl) (fun _ q => q) hd ?_
  exact h E P l e R s m args below meth c Z C F ls H locs hL hOL (mOk_c (v := .inl 1) (show inI 1 by decide) hOS) hH hS hb1 hb2
theorem js_value {mi pc : Nat} {Q : Option mV → mM → Prop} {bd : Nat × Nat} {L : mLs} {st : List mV} {μ : mM} {i p r : Nat} (h1 : 2 ≤ r) (h2 : r < 6) (hd : decode (mB mi) pc = .ok (.getfield i, 3)) (hl : mAt p (.fieldLink (mY mi).cls i "java/lang/String" "value" "[B") = true) (h : Jd mi Q bd (pc + 3) L (.inr (.inr (r + 4)) :: st) μ) : Jd mi Q bd pc L (.inr (.inr r) :: st) μ := by
  intro E P l e R s m args below meth c Z C F ls H locs hL hOL hOS hH hS hb1 hb2
  obtain ⟨hx, hb, hml, hown, hts, hnm, hfr, hlo, hce, hsl, hba⟩ := id C
  have hO := mO_back hH.2.2.2.2.2.1 hS hba
  have hv := (hO.1.1 (r - 2) (by omega)).2.2.1
  have e1 : mad E r = E.2.2.2 (2 + (r - 2)) := by rw [mad_lt (by omega), show 2 + (r - 2) = r by omega]
  have e2 : mad E (r + 4) = E.2.2.2 (6 + (r - 2)) := by rw [mad_lt (by omega), show 6 + (r - 2) = r + 4 by omega]
  show W P l e R s m args below meth c H locs bd.1 bd.2 Z (F0 m pc ls (.ref (mad E r) :: st.map (mcv E)))
  rw [e1]
  refine vk_getf hx hb hv hS hown (mAt_sp hts hl) (fun _ q => q) hd ?_
  show W P l e R s m args below meth c H locs bd.1 bd.2 Z (F0 m (pc + 3) ls (.ref (E.2.2.2 (6 + (r - 2))) :: st.map (mcv E)))
  rw [← e2]
  exact h E P l e R s m args below meth c Z C F ls H locs hL hOL (mOk_c (v := .inr (.inr (r + 4))) (show r + 4 ≠ 0 by omega) (mOk_t hOS)) hH hS hb1 hb2
theorem js_coder {mi pc : Nat} {Q : Option mV → mM → Prop} {bd : Nat × Nat} {L : mLs} {st : List mV} {μ : mM} {i p r : Nat} (h1 : 2 ≤ r) (h2 : r < 6) (hd : decode (mB mi) pc = .ok (.getfield i, 3)) (hl : mAt p (.fieldLink (mY mi).cls i "java/lang/String" "coder" "B") = true) (h : Jd mi Q bd (pc + 3) L (.inl 0 :: st) μ) : Jd mi Q bd pc L (.inr (.inr r) :: st) μ := by
  intro E P l e R s m args below meth c Z C F ls H locs hL hOL hOS hH hS hb1 hb2
  obtain ⟨hx, hb, hml, hown, hts, hnm, hfr, hlo, hce, hsl, hba⟩ := id C
  have hO := mO_back hH.2.2.2.2.2.1 hS hba
  have hv := (hO.1.1 (r - 2) (by omega)).2.1
  have e1 : mad E r = E.2.2.2 (2 + (r - 2)) := by rw [mad_lt (by omega), show 2 + (r - 2) = r by omega]
  show W P l e R s m args below meth c H locs bd.1 bd.2 Z (F0 m pc ls (.ref (mad E r) :: st.map (mcv E)))
  rw [e1]
  refine vk_getf hx hb hv hS hown (mAt_sp hts hl) (fun _ q => q) hd ?_
  exact h E P l e R s m args below meth c Z C F ls H locs hL hOL (mOk_c (v := .inl 0) (show inI 0 by decide) (mOk_t hOS)) hH hS hb1 hb2
theorem tx_len : ∀ r, r < 10 → 6 ≤ r → Int32.ofNat (([5, 5, 5, 4] : List Nat).getD (r - 6) 0) = Int32.ofInt (tLen r) ∧ ((([5, 5, 5, 4] : List Nat).getD (r - 6) 0 : Nat) : Int) = tLen r := by decide +kernel
theorem js_alen {mi pc : Nat} {Q : Option mV → mM → Prop} {bd : Nat × Nat} {L : mLs} {st : List mV} {μ : mM} {r : Nat} (h1 : 6 ≤ r) (h2 : r < 10) (hd : decode (mB mi) pc = .ok (.arraylength, 1)) (h : Jd mi Q bd (pc + 1) L (.inl (tLen r) :: st) μ) : Jd mi Q bd pc L (.inr (.inr r) :: st) μ := by
  intro E P l e R s m args below meth c Z C F ls H locs hL hOL hOS hH hS hb1 hb2
  obtain ⟨hx, hb, hml, hown, hts, hnm, hfr, hlo, hce, hsl, hba⟩ := id C
  have hO := mO_back hH.2.2.2.2.2.1 hS hba
  obtain ⟨cell, c1, c2, c3, c4, c5, c6, c7⟩ := ((hO.1.1 (r - 6) (by omega)).2.2.2.kept hS.2.1)
  have e1 : mad E r = E.2.2.2 (6 + (r - 6)) := by rw [mad_lt (by omega), show 6 + (r - 6) = r by omega]
  show W P l e R s m args below meth c H locs bd.1 bd.2 Z (F0 m pc ls (.ref (mad E r) :: st.map (mcv E)))
  rw [e1]
  refine W.alen (n := Int32.ofInt (tLen r)) hx hb c1 c2 (by rw [c5]; exact (tx_len r h2 h1).1) rfl rfl hd ?_
  exact h E P l e R s m args below meth c Z C F ls H locs hL hOL (mOk_c (v := .inl _) (show inI (tLen r) by unfold tLen; split <;> decide) (mOk_t hOS)) hH hS hb1 hb2
theorem js_bald {mi pc : Nat} {Q : Option mV → mM → Prop} {bd : Nat × Nat} {L : mLs} {st : List mV} {μ : mM} {r : Nat} {j : Int} (h1 : 6 ≤ r) (h2 : r < 10) (hj0 : 0 ≤ j) (hj : j < tLen r) (hd : decode (mB mi) pc = .ok (.baload, 1)) (h : Jd mi Q bd (pc + 1) L (.inl (tB r j) :: st) μ) : Jd mi Q bd pc L (.inl j :: .inr (.inr r) :: st) μ := by
  intro E P l e R s m args below meth c Z C F ls H locs hL hOL hOS hH hS hb1 hb2
  obtain ⟨hx, hb, hml, hown, hts, hnm, hfr, hlo, hce, hsl, hba⟩ := id C
  have hO := mO_back hH.2.2.2.2.2.1 hS hba
  obtain ⟨cell, c1, c2, c3, c4, c5, c6, c7⟩ := ((hO.1.1 (r - 6) (by omega)).2.2.2.kept hS.2.1)
  have e1 : mad E r = E.2.2.2 (6 + (r - 6)) := by rw [mad_lt (by omega), show 6 + (r - 6) = r by omega]
  have hlen := (tx_len r h2 h1).2
  have hl5 : tLen r ≤ 5 := by unfold tLen; split <;> decide
  show W P l e R s m args below meth c H locs bd.1 bd.2 Z (F0 m pc ls (.int (Int32.ofInt j) :: .ref (mad E r) :: st.map (mcv E)))
  rw [e1]
  refine W.bald (v := .int (Int32.ofInt (tB r j))) hx hb c1 c2 c3 (ind_i hj0 (by rw [hlen]; exact hj) (by omega) c4) ?_ rfl rfl hd ?_
  · rw [clamp_i hj0 (by omega), c6 j.toNat (by omega)]
    unfold tB
    rw [Int32.ofInt_toInt]
  · have hb := tB_in r h2 h1 j.toNat (by omega)
    rw [Int.toNat_of_nonneg hj0] at hb
    exact h E P l e R s m args below meth c Z C F ls H locs hL hOL (mOk_c (v := .inl _) (show inI (tB r j) from ⟨by omega, by omega⟩) (mOk_t (mOk_t hOS))) hH hS hb1 hb2
theorem js_i2c {mi pc : Nat} {Q : Option mV → mM → Prop} {bd : Nat × Nat} {L : mLs} {st : List mV} {μ : mM} {x : Int} (h1 : 0 ≤ x) (h2 : x < 256) (hd : decode (mB mi) pc = .ok (.i2c, 1)) (h : Jd mi Q bd (pc + 1) L (.inl x :: st) μ) : Jd mi Q bd pc L (.inl x :: st) μ := by
  intro E P l e R s m args below meth c Z C F ls H locs hL hOL hOS hH hS hb1 hb2
  obtain ⟨hx, hb, hml, hown, hts, hnm, hfr, hlo, hce, hsl, hba⟩ := id C
  have hO := mO_back hH.2.2.2.2.2.1 hS hba
  have ee : Int32.ofInt x = nI x.toNat := by
    rw [show x = ((x.toNat : Nat) : Int) by omega, Int32.ofInt_eq_ofNat]
    rfl
  have e1 : ((Int32.ofInt x).toUInt32 % 65536).toInt32 = Int32.ofInt x := by
    rw [ee, pk_char, pk_tn (by omega), Nat.mod_eq_of_lt (by omega)]
  refine lv_i2c hx hb hd e1 ?_
  exact h E P l e R s m args below meth c Z C F ls H locs hL hOL hOS hH hS hb1 hb2
theorem js_iret {mi pc : Nat} {Q : Option mV → mM → Prop} {bd : Nat × Nat} {L : mLs} {μ : mM} {x : Int} (hx : inI x) (hd : decode (mB mi) pc = .ok (.ireturn, 1)) (hr : (mR mi = some .byte ∧ x = 0) ∨ (mR mi = some .char ∧ 0 ≤ x ∧ x < 256)) (h : Q (some (.inl x)) μ) : Jd mi Q bd pc L [.inl x] μ := by
  intro E P l e R s m args below meth c Z C F ls H locs hL hOL hOS hH hS hb1 hb2
  exact F (some (.inl x)) μ pc ls H locs _ _ h ⟨hd, hx, Or.inr (Or.inr hr)⟩ hH hS hb1 hb2
abbrev b_St_length_0 : List mI := [(.aload_n 0, 1, 0, 0, 0, 0, 0, [])]
theorem B_St_length_0 {Q : Option mV → mM → Prop} {bd : Nat × Nat} {L : mLs} {st : List mV} {μ : mM} (h : mwp i_St_length Q 1 b_St_length_0 bd L st μ) : Jd i_St_length Q bd 0 L st μ := mblk _ _ _ _ _ _ (by decide +kernel) h
abbrev b_St_length_5 : List mI := [(.aload_n 0, 1, 0, 0, 0, 0, 0, []), (.invokevirtual 335, 3, i_St_coder, 1, 589, 50, 1, [93, 590, 591]), (.ishr, 1, 0, 0, 0, 0, 0, []), (.ireturn, 1, 0, 0, 0, 0, 0, [])]
theorem B_St_length_5 {Q : Option mV → mM → Prop} {bd : Nat × Nat} {L : mLs} {st : List mV} {μ : mM} (h : mwp i_St_length Q 11 b_St_length_5 bd L st μ) : Jd i_St_length Q bd 5 L st μ := mblk _ _ _ _ _ _ (by decide +kernel) h
abbrev b_St_charAt_0 : List mI := [(.aload_n 0, 1, 0, 0, 0, 0, 0, []), (.invokevirtual 492, 3, i_St_isLatin1, 1, 600, 50, 1, [93, 601, 602]), (.ifCond .eq 12, 3, 16, 0, 0, 0, 0, [])]
theorem B_St_charAt_0 {Q : Option mV → mM → Prop} {bd : Nat × Nat} {L : mLs} {st : List mV} {μ : mM} (h : mwp i_St_charAt Q 7 b_St_charAt_0 bd L st μ) : Jd i_St_charAt Q bd 0 L st μ := mblk _ _ _ _ _ _ (by decide +kernel) h
abbrev b_St_charAt_7 : List mI := [(.aload_n 0, 1, 0, 0, 0, 0, 0, [])]
theorem B_St_charAt_7 {Q : Option mV → mM → Prop} {bd : Nat × Nat} {L : mLs} {st : List mV} {μ : mM} (h : mwp i_St_charAt Q 8 b_St_charAt_7 bd L st μ) : Jd i_St_charAt Q bd 7 L st μ := mblk _ _ _ _ _ _ (by decide +kernel) h
abbrev b_St_charAt_11 : List mI := [(.iload_n 1, 1, 1, 0, 0, 0, 0, []), (.invokestatic 495, 3, i_SL_charAt, 2, 604, 0, 2, [94, 605])]
theorem B_St_charAt_11 {Q : Option mV → mM → Prop} {bd : Nat × Nat} {L : mLs} {st : List mV} {μ : mM} (h : mwp i_St_charAt Q 15 b_St_charAt_11 bd L st μ) : Jd i_St_charAt Q bd 11 L st μ := mblk _ _ _ _ _ _ (by decide +kernel) h
abbrev b_St_coder_3 : List mI := [(.ifCond .eq 10, 3, 13, 0, 0, 0, 0, []), (.aload_n 0, 1, 0, 0, 0, 0, 0, [])]
theorem B_St_coder_3 {Q : Option mV → mM → Prop} {bd : Nat × Nat} {L : mLs} {st : List mV} {μ : mM} (h : mwp i_St_coder Q 7 b_St_coder_3 bd L st μ) : Jd i_St_coder Q bd 3 L st μ := mblk _ _ _ _ _ _ (by decide +kernel) h
abbrev b_St_coder_10 : List mI := [(.goto 4, 3, 14, 0, 0, 0, 0, [])]
theorem B_St_coder_10 {Q : Option mV → mM → Prop} {bd : Nat × Nat} {L : mLs} {st : List mV} {μ : mM} (h : mwp i_St_coder Q 13 b_St_coder_10 bd L st μ) : Jd i_St_coder Q bd 10 L st μ := mblk _ _ _ _ _ _ (by decide +kernel) h
abbrev b_St_isLatin1_3 : List mI := [(.ifCond .eq 14, 3, 17, 0, 0, 0, 0, []), (.aload_n 0, 1, 0, 0, 0, 0, 0, [])]
theorem B_St_isLatin1_3 {Q : Option mV → mM → Prop} {bd : Nat × Nat} {L : mLs} {st : List mV} {μ : mM} (h : mwp i_St_isLatin1 Q 7 b_St_isLatin1_3 bd L st μ) : Jd i_St_isLatin1 Q bd 3 L st μ := mblk _ _ _ _ _ _ (by decide +kernel) h
abbrev b_St_isLatin1_10 : List mI := [(.ifCond .ne 7, 3, 17, 0, 0, 0, 0, []), (.iconst 1, 1, 0, 0, 0, 0, 1, []), (.goto 4, 3, 18, 0, 0, 0, 0, [])]
theorem B_St_isLatin1_10 {Q : Option mV → mM → Prop} {bd : Nat × Nat} {L : mLs} {st : List mV} {μ : mM} (h : mwp i_St_isLatin1 Q 17 b_St_isLatin1_10 bd L st μ) : Jd i_St_isLatin1 Q bd 10 L st μ := mblk _ _ _ _ _ _ (by decide +kernel) h
abbrev b_St_isLatin1_18 : List mI := [(.ireturn, 1, 0, 0, 0, 1, 0, [])]
theorem B_St_isLatin1_18 {Q : Option mV → mM → Prop} {bd : Nat × Nat} {L : mLs} {st : List mV} {μ : mM} (h : mwp i_St_isLatin1 Q 19 b_St_isLatin1_18 bd L st μ) : Jd i_St_isLatin1 Q bd 18 L st μ := mblk _ _ _ _ _ _ (by decide +kernel) h
abbrev b_SL_charAt_0 : List mI := [(.iload_n 1, 1, 1, 0, 0, 0, 0, []), (.aload_n 0, 1, 0, 0, 0, 0, 0, [])]
theorem B_SL_charAt_0 {Q : Option mV → mM → Prop} {bd : Nat × Nat} {L : mLs} {st : List mV} {μ : mM} (h : mwp i_SL_charAt Q 2 b_SL_charAt_0 bd L st μ) : Jd i_SL_charAt Q bd 0 L st μ := mblk _ _ _ _ _ _ (by decide +kernel) h
abbrev b_SL_charAt_3 : List mI := [(.invokestatic 9, 3, i_St_checkIndex, 2, 607, 0, 2, [93, 608]), (.aload_n 0, 1, 0, 0, 0, 0, 0, []), (.iload_n 1, 1, 1, 0, 0, 0, 0, [])]
theorem B_SL_charAt_3 {Q : Option mV → mM → Prop} {bd : Nat × Nat} {L : mLs} {st : List mV} {μ : mM} (h : mwp i_SL_charAt Q 8 b_SL_charAt_3 bd L st μ) : Jd i_SL_charAt Q bd 3 L st μ := mblk _ _ _ _ _ _ (by decide +kernel) h
abbrev b_SL_charAt_9 : List mI := [(.sipush 255, 3, 0, 0, 0, 0, 255, []), (.iand, 1, 0, 0, 0, 0, 0, [])]
theorem B_SL_charAt_9 {Q : Option mV → mM → Prop} {bd : Nat × Nat} {L : mLs} {st : List mV} {μ : mM} (h : mwp i_SL_charAt Q 13 b_SL_charAt_9 bd L st μ) : Jd i_SL_charAt Q bd 9 L st μ := mblk _ _ _ _ _ _ (by decide +kernel) h
theorem St_coder_sp {μ : mM} {Q : Option mV → mM → Prop} {r : Nat} (h1 : 2 ≤ r) (h2 : r < 6) (h : Q (some (.inl 0)) μ) : Cl i_St_coder [.inr (.inr r)] μ Q := by
  show Jd i_St_coder Q (0, 0) 0 [some (.inr (.inr r))] [] μ
  refine js_compact (i := 38) (p := 593) (by decide +kernel) (by decide +kernel) ?_
  apply B_St_coder_3
  simp only [mwp, mst, mii, mll, mli, mi1, ml1, mr1, mir, mlr, mrr, miir, mlir, mget, mgi, mgl, mgr, mset, mset2, mkill, mput_t, mputr_t, mpop, mpsh, mrcv, mcnd, mtsw, mlsw, List.set_cons_zero, b_St_coder_3]
  refine ⟨fun q => absurd q (by decide), fun _ => ?_⟩
  refine js_coder (i := 15) (p := 1392) h1 h2 (by decide +kernel) (by decide +kernel) ?_
  apply B_St_coder_10
  simp only [mwp, mst, mii, mll, mli, mi1, ml1, mr1, mir, mlr, mrr, miir, mlir, mget, mgi, mgl, mgr, mset, mset2, mkill, mput_t, mputr_t, mpop, mpsh, mrcv, mcnd, mtsw, mlsw, List.set_cons_zero, b_St_coder_10]
  exact js_iret (by decide) (by decide +kernel) (Or.inl ⟨rfl, rfl⟩) h
theorem St_isLatin1_sp {μ : mM} {Q : Option mV → mM → Prop} {r : Nat} (h1 : 2 ≤ r) (h2 : r < 6) (h : Q (some (.inl 1)) μ) : Cl i_St_isLatin1 [.inr (.inr r)] μ Q := by
  show Jd i_St_isLatin1 Q (0, 0) 0 [some (.inr (.inr r))] [] μ
  refine js_compact (i := 38) (p := 593) (by decide +kernel) (by decide +kernel) ?_
  apply B_St_isLatin1_3
  simp only [mwp, mst, mii, mll, mli, mi1, ml1, mr1, mir, mlr, mrr, miir, mlir, mget, mgi, mgl, mgr, mset, mset2, mkill, mput_t, mputr_t, mpop, mpsh, mrcv, mcnd, mtsw, mlsw, List.set_cons_zero, b_St_isLatin1_3]
  refine ⟨fun q => absurd q (by decide), fun _ => ?_⟩
  refine js_coder (i := 15) (p := 1392) h1 h2 (by decide +kernel) (by decide +kernel) ?_
  apply B_St_isLatin1_10
  simp only [mwp, mst, mii, mll, mli, mi1, ml1, mr1, mir, mlr, mrr, miir, mlir, mget, mgi, mgl, mgr, mset, mset2, mkill, mput_t, mputr_t, mpop, mpsh, mrcv, mcnd, mtsw, mlsw, List.set_cons_zero, b_St_isLatin1_10]
  refine ⟨fun q => absurd rfl q, fun _ => ?_⟩
  apply B_St_isLatin1_18
  simp only [mwp, mst, mii, mll, mli, mi1, ml1, mr1, mir, mlr, mrr, miir, mlir, mget, mgi, mgl, mgr, mset, mset2, mkill, mput_t, mputr_t, mpop, mpsh, mrcv, mcnd, mtsw, mlsw, List.set_cons_zero, b_St_isLatin1_18]
  refine ⟨?_, h⟩
  first | trivial | exact Or.inr trivial | decide
theorem iShr_0 (x : Int) (hx : inI x) : iShr x 0 = x := by
  unfold iShr
  have : (Int32.ofInt 0 &&& 31) = 0 := rfl
  rw [this]
  have e : Int32.ofInt x >>> (0 : Int32) = Int32.ofInt x := by simp
  rw [e, inI_r hx]
theorem St_length_sp {μ : mM} {Q : Option mV → mM → Prop} {r : Nat} (hk : (μ.2.1 r).1 = 50) (h1 : 2 ≤ r) (h2 : r < 6) (h : Q (some (.inl (tLen (r + 4)))) μ) : Cl i_St_length [.inr (.inr r)] μ Q := by
  show Jd i_St_length Q (0, 0) 0 [some (.inr (.inr r))] [] μ
  apply B_St_length_0
  simp only [mwp, mst, mii, mll, mli, mi1, ml1, mr1, mir, mlr, mrr, miir, mlir, mget, mgi, mgl, mgr, mset, mset2, mkill, mput_t, mputr_t, mpop, mpsh, mrcv, mcnd, mtsw, mlsw, List.set_cons_zero, b_St_length_0]
  refine js_value (i := 9) (p := 1391) h1 h2 (by decide +kernel) (by decide +kernel) ?_
  refine js_alen (by omega) (by omega) (by decide +kernel) ?_
  apply B_St_length_5
  simp only [mwp, mst, mii, mll, mli, mi1, ml1, mr1, mir, mlr, mrr, miir, mlir, mget, mgi, mgl, mgr, mset, mset2, mkill, mput_t, mputr_t, mpop, mpsh, mrcv, mcnd, mtsw, mlsw, List.set_cons_zero, b_St_length_5]
  refine ⟨rfl, hk, St_coder_sp h1 h2 ?_⟩
  simp only [mpsh]
  rw [iShr_0 _ (by unfold tLen; split <;> decide)]
  exact h

/-- Preconditions.checkIndex, an index within: whatever the third argument is -/
theorem Pr_met (l : Launch) (E : mE) (μ : mM) (i n : Int) (v : Value) (hv : v = .null ∨ ∃ a, v = .ref a) (h0 : 0 ≤ i) (h1 : i < n) (hn : inI n) : Met l (mY i_Pr_checkIndex) (mWs i_Pr_checkIndex) (mRm i_Pr_checkIndex) (fun w U => w = #[.int (Int32.ofInt i), .int (Int32.ofInt n), v] ∧ mHold E μ U U.heap) (mQc E (fun r μ' => r = some (.inl i) ∧ μ' = μ)) (mCe i_Pr_checkIndex) (mSl i_Pr_checkIndex) (mA E) := by
  have hi : inI i := ⟨by have := hn.2; omega, by have := hn.2; omega⟩
  refine mMetW (cc := mB i_Pr_checkIndex) (maxL := 3) (ret := some .int) (by decide +kernel) rfl ?_
  intro p e s m args below meth c s₁ B hml hv2
  obtain ⟨rfl, hH⟩ := hv2
  have hx := B.exec
  have hb := B.bytes
  have hr := B.returns
  have hlocks := B.notSynchronized
  have hcat : v.category = 1 := by rcases hv with rfl | ⟨a, rfl⟩ <;> rfl
  have hl := lv_entry ([.int (Int32.ofInt i), .int (Int32.ofInt n), v]) (n := 3) (by rcases hv with rfl | ⟨a, rfl⟩ <;> exact Nat.le_of_ble_eq_true rfl)
  have e0 : entryFrame m #[.int (Int32.ofInt i), .int (Int32.ofInt n), v] 3 = _ := lg_entry_eq m [.int (Int32.ofInt i), .int (Int32.ofInt n), v] 3
  rw [e0]
  generalize (lg_sl [.int (Int32.ofInt i), .int (Int32.ofInt n), v] ++ List.replicate (3 - (lg_sl [.int (Int32.ofInt i), .int (Int32.ofInt n), v]).length) Slot.unset).toArray = ls at hl ⊢
  have l0 : ls[0]? = some (.val (.int (Int32.ofInt i))) := hl.2.2 (0, _) (by simp [lv_args])
  have l1 : ls[1]? = some (.val (.int (Int32.ofInt n))) := hl.2.2 (1, _) (by simp [lv_args, Value.category])
  refine lv_iload_n (k := 0) (i := 0) hx hb (by decide +kernel) rfl l0 ?_
  refine lv_if_lt (tgt := 9) (off := 8) hx hb (by decide +kernel) (by decide) (fun q => ?_) (fun _ => ?_)
  · rw [show (0 : Int32) = Int32.ofInt 0 from rfl, inI_lt hi inI_0] at q
    omega
  refine lv_iload_n (k := 0) (i := 0) hx hb (by decide +kernel) rfl l0 ?_
  refine lv_iload_n (k := 1) (i := 1) hx hb (by decide +kernel) rfl l1 ?_
  refine lv_icmp_lt (tgt := 16) (off := 10) hx hb (by decide +kernel) (by decide) (fun _ => ?_) (fun q => ?_)
  · refine lv_iload_n (k := 0) (i := 0) hx hb (by decide +kernel) rfl l0 ?_
    refine W.widen (k := mCe i_Pr_checkIndex) (n := mSl i_Pr_checkIndex) (Nat.zero_le _) (Nat.zero_le _) ?_
    exact W.iret hx hb hr (fun t ht hW => ⟨some (.inl i), μ, ⟨rfl, rfl⟩, (fun w hw => by cases hw; exact hi), rfl, by rw [ht]; exact mHold_warm hW hH, (va_S.rf (A := mA E) (H0 := s.heap)).F ht⟩) (fun q hq => by cases hq) (by decide +kernel)
  · exact absurd ((inI_lt hi hn).mpr h1) q
theorem St_checkIndex_sp {μ : mM} {Q : Option mV → mM → Prop} {i n : Int} (h0 : 0 ≤ i) (h1 : i < n) (h : Q none μ) : Cl i_St_checkIndex [.inl i, .inl n] μ Q := by
  show Jd i_St_checkIndex Q (0, 0) 0 [some (.inl i), some (.inl n)] [] μ
  intro E P l e R s m args below meth c Z C F ls H locs hL hOL hOS hH hS hb1 hb2
  obtain ⟨hx, hb, hml, hown, hts, hnm, hfr, hlo, hce, hsl, hba⟩ := id C
  have hO := mO_back hH.2.2.2.2.2.1 hS hba
  have hn : inI n := hOL (.inl n) (by simp)
  refine lv_iload_n (k := 0) (i := 0) hx hb (by decide +kernel) rfl (mlv_get hL (v := .inl i) rfl) ?_
  refine lv_iload_n (k := 1) (i := 1) hx hb (by decide +kernel) rfl (mlv_get hL (v := .inl n) rfl) ?_
  have key : ∀ v : Value, (v = .null ∨ ∃ a, v = .ref a) → va_Z "jdk/internal/util/Preconditions" "SIOOBE_FORMATTER" "Ljava/util/function/BiFunction;" v (mA E) s s.heap → W P l e R s m args below meth c H locs 0 0 Z (F0 m 2 ls [.int (Int32.ofInt n), .int (Int32.ofInt i)]) := by
    intro v hv hZ
    refine va_gets hx hb hZ hS hown (mAt_sp (p := 610) hts (by decide +kernel)) (fun _ q => q) (index := 1053) (by decide +kernel) ?_
    have hM := Pr_met l E μ i n v hv h0 h1 hn
    have cw : CallB R s args (mY i_St_checkIndex).cls 1059 (mY i_Pr_checkIndex) (mB i_Pr_checkIndex) (mN i_Pr_checkIndex) (mR i_Pr_checkIndex) (mWs i_Pr_checkIndex) (mRm i_Pr_checkIndex) (mCe i_Pr_checkIndex) (mSl i_Pr_checkIndex) 3 := callB_of (ws' := mTs) 3 (mts_f hts) (mWs_good (by decide)) rfl rfl rfl (mAt_sp (p := 95) hts (by decide +kernel)) (mAt_sp (p := 612) hts (by decide +kernel)) (by decide +kernel) ⟨Nat.le_trans (by decide +kernel) hfr, Nat.le_trans (by decide +kernel) hlo⟩
    have hrun := va_runS (g := F0 m 5 ls [v, .int (Int32.ofInt n), .int (Int32.ofInt i)]) (As := [.int (Int32.ofInt i), .int (Int32.ofInt n), v]) (rest := []) (locs := locs) (cells := 0) (slots := 0) (below := below) (e := e) (meth := meth) ⟨hx, hb, hml, hown, mts_f hts⟩ hM ⟨cw, mAt_sp (p := 613) hts (by decide +kernel)⟩ ⟨fun a U g mk q => ⟨q.1, mHold_same (s := U) rfl q.2⟩, fun U hU hW => ⟨rfl, by rw [hU]; exact mHold_warm hW hH⟩⟩ rfl rfl hL.1 rfl (lv_room (Nat.zero_le _)) (show decode (mB i_St_checkIndex) 5 = .ok (.invokestatic 1059, 3) by decide +kernel) ⟨hb1, hb2⟩
    refine mCall hrun hH hS (fun r μ' H1 locs1 hq hok hH1 hS1 => ?_)
    obtain ⟨rfl, rfl⟩ := hq
    refine lv_pop (va := .int (Int32.ofInt i)) (rest := []) hx hb (by decide +kernel) rfl ?_
    exact F none μ' 9 ls H1 locs1 _ _ h ⟨by decide +kernel, rfl⟩ hH1 hS1 hb1 hb2
  rcases hO.2.2.2.2.1 with hZ | ⟨a, hZ⟩
  · exact key .null (Or.inl rfl) hZ
  · exact key (.ref a) (Or.inr ⟨a, rfl⟩) hZ
theorem iAnd_255 : ∀ r, r < 10 → 6 ≤ r → ∀ j : Nat, j < 5 → iAnd (tB r (j : Int)) 255 = tB r (j : Int) := by decide +kernel
theorem SL_charAt_sp {μ : mM} {Q : Option mV → mM → Prop} {r : Nat} {j : Int} (h1 : 6 ≤ r) (h2 : r < 10) (hj0 : 0 ≤ j) (hj : j < tLen r) (h : Q (some (.inl (tB r j))) μ) : Cl i_SL_charAt [.inr (.inr r), .inl j] μ Q := by
  show Jd i_SL_charAt Q (0, 0) 0 [some (.inr (.inr r)), some (.inl j)] [] μ
  apply B_SL_charAt_0
  simp only [mwp, mst, mii, mll, mli, mi1, ml1, mr1, mir, mlr, mrr, miir, mlir, mget, mgi, mgl, mgr, mset, mset2, mkill, mput_t, mputr_t, mpop, mpsh, mrcv, mcnd, mtsw, mlsw, List.set_cons_zero, b_SL_charAt_0]
  refine js_alen h1 h2 (by decide +kernel) ?_
  apply B_SL_charAt_3
  simp only [mwp, mst, mii, mll, mli, mi1, ml1, mr1, mir, mlr, mrr, miir, mlir, mget, mgi, mgl, mgr, mset, mset2, mkill, mput_t, mputr_t, mpop, mpsh, mrcv, mcnd, mtsw, mlsw, List.set_cons_zero, b_SL_charAt_3]
  refine ⟨rfl, St_checkIndex_sp hj0 hj ?_⟩
  simp only [mpsh]
  refine js_bald h1 h2 hj0 hj (by decide +kernel) ?_
  apply B_SL_charAt_9
  simp only [mwp, mst, mii, mll, mli, mi1, ml1, mr1, mir, mlr, mrr, miir, mlir, mget, mgi, mgl, mgr, mset, mset2, mkill, mput_t, mputr_t, mpop, mpsh, mrcv, mcnd, mtsw, mlsw, List.set_cons_zero, b_SL_charAt_9]
  have hl5 : tLen r ≤ 5 := by unfold tLen; split <;> decide
  have e1 := iAnd_255 r h2 h1 j.toNat (by omega)
  have e2 := tB_in r h2 h1 j.toNat (by omega)
  rw [Int.toNat_of_nonneg hj0] at e1 e2
  rw [e1]
  refine js_i2c e2.1 (by omega) (by decide +kernel) ?_
  exact js_iret ⟨by omega, by omega⟩ (by decide +kernel) (Or.inr ⟨rfl, e2.1, by omega⟩) h
theorem St_charAt_sp {μ : mM} {Q : Option mV → mM → Prop} {r : Nat} {j : Int} (hk : (μ.2.1 r).1 = 50) (h1 : 2 ≤ r) (h2 : r < 6) (hj0 : 0 ≤ j) (hj : j < tLen (r + 4)) (h : Q (some (.inl (tB (r + 4) j))) μ) : Cl i_St_charAt [.inr (.inr r), .inl j] μ Q := by
  show Jd i_St_charAt Q (0, 0) 0 [some (.inr (.inr r)), some (.inl j)] [] μ
  apply B_St_charAt_0
  simp only [mwp, mst, mii, mll, mli, mi1, ml1, mr1, mir, mlr, mrr, miir, mlir, mget, mgi, mgl, mgr, mset, mset2, mkill, mput_t, mputr_t, mpop, mpsh, mrcv, mcnd, mtsw, mlsw, List.set_cons_zero, b_St_charAt_0]
  refine ⟨rfl, hk, St_isLatin1_sp h1 h2 ?_⟩
  simp only [mpsh, mi1]
  refine ⟨fun q => absurd q (by decide), fun _ => ?_⟩
  apply B_St_charAt_7
  simp only [mwp, mst, mii, mll, mli, mi1, ml1, mr1, mir, mlr, mrr, miir, mlir, mget, mgi, mgl, mgr, mset, mset2, mkill, mput_t, mputr_t, mpop, mpsh, mrcv, mcnd, mtsw, mlsw, List.set_cons_zero, b_St_charAt_7]
  refine js_value (i := 9) (p := 1391) h1 h2 (by decide +kernel) (by decide +kernel) ?_
  apply B_St_charAt_11
  simp only [mwp, mst, mii, mll, mli, mi1, ml1, mr1, mir, mlr, mrr, miir, mlir, mget, mgi, mgl, mgr, mset, mset2, mkill, mput_t, mputr_t, mpop, mpsh, mrcv, mcnd, mtsw, mlsw, List.set_cons_zero, b_St_charAt_11]
  refine ⟨rfl, SL_charAt_sp (by omega) (by omega) hj0 hj ?_⟩
  simp only [mpsh]
  have hl5 : tLen (r + 4) ≤ 5 := by unfold tLen; split <;> decide
  have e2 := tB_in (r + 4) (by omega) (by omega) j.toNat (by omega)
  rw [Int.toNat_of_nonneg hj0] at e2
  exact js_iret ⟨by omega, by omega⟩ (by decide +kernel) (Or.inr ⟨rfl, e2.1, by omega⟩) h
