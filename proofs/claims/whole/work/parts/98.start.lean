/-! THE CLAIM OUT OF ONE WALK OF THE LAW'S BODY. Your part is whole_start (and what it stands on); all else here is the same for every law, but numbers. -/
def R_law : String := "WordMintLaw"
def lw_P (b : Addr) (xs : List Int32) (args : Array Value) (s : State) : Prop := args = #[.ref b] ∧ s.IntsAt b xs ∧ xs.length ≤ 3072 ∧ (Jvm.Cond.and given_1 narrow_1).before args s = true
def lw_Q (_ : Array Value) (s : State) (o : Outcome) (t : State) : Prop := o = .returned (some (.int 1)) ∧ Framed s o t [] 600000 7302250
def lw_Z (below : List Frame) (a : Array Value) (s : State) : State → Prop := fun t => ∃ o, t.status = .running ∧ Ended t below o ∧ lw_Q a s o t
/-- the law's own end, with 1 on the stack, nothing written that was there before, its room as the claim has it -/
theorem lw_ret {p : Program} {l : Launch} {e : Env} {s : State} {m : MethodId} {below : List Frame} {meth : Method} {c : Code} {b : Nat} (hx : p.tables.exec = Jvm.exec) (hb : c.code = code) (hr : meth.sig.returnType = ret) (hlocks : meth.locks = false) {pc : Nat} {H : Heap} {ls : Array Slot} (hdg : decode code pc = .ok (.ireturn, 1)) : W p l e room_1 s m #[Value.ref b] below meth c H [] 600000 7302250 (lw_Z below #[Value.ref b] s) (F0 m pc ls [.int 1]) := by
  intro T hT X
  obtain ⟨fs, hret, hrun, hended, hW, hframe⟩ := X.leave (v := some (.int 1)) (hlocks := hlocks) (fun h => by rw [hr] at h; cases h)
  have hmeth' : T.vm.method? m = some meth := X.method'
  refine ⟨T.setFrames fs, ?_, .returned (some (.int 1)), hrun, hended, rfl, ⟨_, rfl⟩, hW, hframe⟩
  jvm_step X.here [X.here.top, hx, hb, hdg, hmeth', hr, ret, narrow_b1]
  (try refine ⟨rfl, ?_⟩); (try refine ⟨rfl, ?_⟩)
  first | (intro acts; rw [hret _ acts rfl rfl rfl]) | rw [hret _ _ rfl rfl rfl]
  exact Steps.refl _
/-- what holds at the law's entry: the machine, the code, the tables' words (any of lw_tbl by 'hts w (by decide +kernel)'), the script of L ints xs at the cell b, what the Statement gives of the start (any of its parts by flat_of_before) -/
def lw_At (p : Program) (s : State) (m : MethodId) (meth : Method) (c : Code) (b L : Nat) (xs : Nat → Int32) : Prop :=
  p.tables.exec = Jvm.exec ∧ c.code = code ∧ meth.sig.returnType = ret ∧ c.maxLocals = 4 ∧ s.vm.findClass R_law = some m.cls ∧ (∀ w ∈ lw_tbl, w.before #[Value.ref b] s = true) ∧ va_X b L xs s s.heap ∧ b < s.heap.size ∧ meth.locks = false ∧ (Jvm.Cond.and given_1 narrow_1).before #[Value.ref b] s = true ∧ meth.name = "law"
theorem nxt_all : ((flatC (Jvm.Cond.and given_1 narrow_1)).drop 12).take 204 = (List.range 204).map (fun j => Cond.eq (.elem (.static "WordMint" "NEXT_STATE" "[I") (.int (Int32.ofNat j))) (.int (Int32.ofInt (NXL.getD j 0)))) := by decide +kernel
theorem nxt_el : ∀ j, j < 204 → Cond.eq (.elem (.static "WordMint" "NEXT_STATE" "[I") (.int (Int32.ofNat j))) (.int (Int32.ofInt (NXL.getD j 0))) ∈ flatC (Jvm.Cond.and given_1 narrow_1) := by
  intro j hj
  have h : Cond.eq (.elem (.static "WordMint" "NEXT_STATE" "[I") (.int (Int32.ofNat j))) (.int (Int32.ofInt (NXL.getD j 0))) ∈ ((flatC (Jvm.Cond.and given_1 narrow_1)).drop 12).take 204 := by
    rw [nxt_all]
    exact List.mem_map.mpr ⟨j, List.mem_range.mpr hj, rfl⟩
  exact List.mem_of_mem_drop (List.mem_of_mem_take h)
def mTm (i : Nat) : Term := .string "WordMint$Scanner" ((mTx.getD i (0, "", [])).1)
def mTl : List Nat := [5, 5, 5, 4]
theorem tx_1 : ∀ i, i < 4 → Cond.exactly (mTm i) "java/lang/String" ∈ flatC (Jvm.Cond.and given_1 narrow_1) := by decide +kernel
theorem tx_2 : ∀ i, i < 4 → Cond.eq (.field (mTm i) "java/lang/String" "coder" "B") (.int 0) ∈ flatC (Jvm.Cond.and given_1 narrow_1) := by decide +kernel
theorem tx_3 : ∀ i, i < 4 → Cond.arrayOf (.field (mTm i) "java/lang/String" "value" "[B") .byte ∈ flatC (Jvm.Cond.and given_1 narrow_1) := by decide +kernel
theorem tx_4 : ∀ i, i < 4 → Cond.eq (.length (.field (mTm i) "java/lang/String" "value" "[B")) (.int (Int32.ofNat (mTl.getD i 0))) ∈ flatC (Jvm.Cond.and given_1 narrow_1) := by decide +kernel
theorem tx_5 : ∀ i, i < 4 → ∀ j, j < mTl.getD i 0 → Cond.eq (.elem (.field (mTm i) "java/lang/String" "value" "[B") (.int (Int32.ofNat j))) (.int (((mTx.map (fun q => q.2.2)).getD i []).getD j 0)) ∈ flatC (Jvm.Cond.and given_1 narrow_1) := by decide +kernel
theorem tx_6 : ∀ i, i < 4 → ∀ j, j < 4 → i ≠ j → Cond.not (Cond.eq (mTm i) (mTm j)) ∈ flatC (Jvm.Cond.and given_1 narrow_1) ∨ Cond.not (Cond.eq (mTm j) (mTm i)) ∈ flatC (Jvm.Cond.and given_1 narrow_1) := by decide +kernel
theorem tx_7 : ∀ i, i < 4 → ∀ q, mTx[i]? = some q → Cond.stringRef "WordMint$Scanner" q.1 q.2.1 ∈ lw_tbl
  | 0, _, q, h => by cases h; decide +kernel
  | 1, _, q, h => by cases h; decide +kernel
  | 2, _, q, h => by cases h; decide +kernel
  | 3, _, q, h => by cases h; decide +kernel
  | n + 4, h, _, _ => by omega
theorem nw_in : ∀ w ∈ mNw, w ∈ lw_tbl := by decide +kernel
theorem arr_of {s : State} {args : Array Value} {ty : FieldType} (h : (Cond.arrayClass ty).before args s = true) (hty : ∀ C, ty ≠ .object C) : ∃ cA : ClassId, ArrOfT s cA ty ∧ va_RA s cA ty := by
  obtain ⟨cA, kA, comp, h1, h2, h3⟩ := Cond.arrayClass_spec h
  refine ⟨cA, fun n z => ⟨fun k h => (by cases h), kA, h2, comp, h3⟩, ?_⟩
  unfold va_RA
  split
  · rename_i C
    exact absurd rfl (hty C)
  · exact h1
set_option maxHeartbeats 4000000 in
theorem mStart (hlaw : ∀ (L : Nat) (X : Int → Int), L ≤ 3072 → (∀ j, inI (X j)) → Jd i_Lw_law (fun r _ => r = some (.inl 1)) (0, 0) 0 [some (.inr (.inr 1)), none, none, none] [] (mZ L X))
    {p : Program} {e : Env} {s : State} {m : MethodId} {below : List Frame} {meth : Method} {c : Code} (l : Launch) {b L : Nat} {xs : Nat → Int32} (hL : L ≤ 3072) (C0 : lw_At p s m meth c b L xs) : W p l e room_1 s m #[Value.ref b] below meth c s.heap [] 0 0 (lw_Z below #[Value.ref b] s) (entryFrame m ([Value.ref b] : List Value).toArray 4) := by
  obtain ⟨hx, hb, hr, hml, hown, hts, hX, hbl, hlocks, hgv, hnm⟩ := id C0
  have hfl := flat_of_before _ hgv
  obtain ⟨c0, iS0, hKn0⟩ := u_known (C := RX0) (T := TX0) (N := 2) (n := 2) hts inX0 (hts (.instantiable RX0 2) (by decide +kernel))
  obtain ⟨c1, iS1, hKn1⟩ := u_known (C := RX1) (T := TX1) (N := 11) (n := 11) hts inX1 (hts (.instantiable RX1 11) (by decide +kernel))
  obtain ⟨c2, iS2, hKn2⟩ := u_known (C := RX2) (T := TX2) (N := 12) (n := 12) hts inX2 (hts (.instantiable RX2 12) (by decide +kernel))
  obtain ⟨c3, iS3, hKn3⟩ := u_known (C := RX3) (T := TX3) (N := 12) (n := 12) hts inX3 (hts (.instantiable RX3 12) (by decide +kernel))
  obtain ⟨c4, iS4, hKn4⟩ := u_known (C := RX4) (T := TX4) (N := 4) (n := 4) hts inX4 (hts (.instantiable RX4 4) (by decide +kernel))
  obtain ⟨c5, iS5, hKn5⟩ := u_known (C := RX5) (T := TX5) (N := 2) (n := 2) hts inX5 (hts (.instantiable RX5 2) (by decide +kernel))
  obtain ⟨c6, iS6, hKn6⟩ := u_known (C := RX6) (T := TX6) (N := 4) (n := 4) hts inX6 (hts (.instantiable RX6 4) (by decide +kernel))
  obtain ⟨c7, iS7, hKn7⟩ := u_known (C := RX7) (T := TX7) (N := 2) (n := 2) hts inX7 (hts (.instantiable RX7 2) (by decide +kernel))
  obtain ⟨c8, iS8, hKn8⟩ := u_known (C := RX8) (T := TX8) (N := 2) (n := 2) hts inX8 (hts (.instantiable RX8 2) (by decide +kernel))
  obtain ⟨c9, iS9, hKn9⟩ := u_known (C := RX9) (T := TX9) (N := 18) (n := 18) hts inX9 (hts (.instantiable RX9 18) (by decide +kernel))
  obtain ⟨c10, iS10, hKn10⟩ := u_known (C := RX10) (T := TX10) (N := 11) (n := 11) hts inX10 (hts (.instantiable RX10 11) (by decide +kernel))
  obtain ⟨c11, iS11, hKn11⟩ := u_known (C := RX11) (T := TX11) (N := 57) (n := 57) hts inX11 (hts (.instantiable RX11 57) (by decide +kernel))
  obtain ⟨a100, hA100⟩ := arr_of (ty := .int) (hts (.arrayClass .int) (by decide +kernel)) (fun C h => by cases h)
  obtain ⟨a101, hA101⟩ := arr_of (ty := .long) (hts (.arrayClass .long) (by decide +kernel)) (fun C h => by cases h)
  obtain ⟨a102, hA102⟩ := arr_of (ty := .byte) (hts (.arrayClass .byte) (by decide +kernel)) (fun C h => by cases h)
  obtain ⟨a103, hA103⟩ := arr_of (ty := .boolean) (hts (.arrayClass .boolean) (by decide +kernel)) (fun C h => by cases h)
  have hnA : ∀ a : Nat, a < s.heap.size → ¬ (fun q : Nat => s.heap.size ≤ q) a := fun a h1 h2 => absurd h1 (Nat.not_lt.mpr h2)
  obtain ⟨nx, hnx, hnT⟩ := va_Tof (tm := .static "WordMint" "NEXT_STATE" "[I") (ty := .int) (N := 204) (f := fun j => .int (Int32.ofInt (NXL.getD j 0))) (A := fun q : Nat => s.heap.size ≤ q) (by decide) (hfl _ (by decide +kernel)) (va_eqt (z := Int32.ofNat 204) (hfl _ (by decide +kernel))) (fun j hj => va_eqt (hfl _ (nxt_el j hj))) hnA
  obtain ⟨adK, adV, hkS, hkE⟩ := vk_Sof (N := 4) (tm := mTm) (len := mTl) (byt := mTx.map (fun q => q.2.2)) (A := fun q : Nat => s.heap.size ≤ q) (by decide) (fun i hi => hfl _ (tx_1 i hi)) (fun i hi => hfl _ (tx_2 i hi)) (fun i hi => hfl _ (tx_3 i hi)) (fun i hi => hfl _ (tx_4 i hi)) (fun i hi j hj => hfl _ (tx_5 i hi j hj)) (fun i j hi hj hij => (tx_6 i hi j hj hij).imp (hfl _) (hfl _)) hnA
  obtain ⟨dC, hdC⟩ : ∃ dC : Nat → ClassId, dC = fun k => [c0, c1, c2, c3, c4, c5, c6, c7, c8, c9, c10, c11].getD k 0 := ⟨_, rfl⟩
  obtain ⟨dI, hdI⟩ : ∃ dI : Nat → Nat → Nat, dI = fun k => [iS0, iS1, iS2, iS3, iS4, iS5, iS6, iS7, iS8, iS9, iS10, iS11].getD k (fun _ => 0) := ⟨_, rfl⟩
  obtain ⟨ext, hext⟩ : ∃ ext : Nat → Nat, ext = fun r => if r = 1 then b else if r < 6 then adK (r - 2) else if r < 10 then adV (r - 6) else nx := ⟨_, rfl⟩
  obtain ⟨cA, hcA⟩ : ∃ cA : Nat → ClassId, cA = fun k => if k = 100 then a100 else if k = 101 then a101 else if k = 102 then a102 else a103 := ⟨_, rfl⟩
  obtain ⟨E, hE⟩ : ∃ E : mE, E = (s.heap.size, (dC, dI), cA, ext) := ⟨_, rfl⟩
  have hKc : ∀ (k : Nat) (q : vw_C), vwCl[k]? = some q → u_Kn s q.1 q.2.1 q.2.2 (dC k) (dI k) := by
    intro k q hq
    subst hdC
    subst hdI
    match k, hq with
    | 0, hq => cases hq; exact hKn0
    | 1, hq => cases hq; exact hKn1
    | 2, hq => cases hq; exact hKn2
    | 3, hq => cases hq; exact hKn3
    | 4, hq => cases hq; exact hKn4
    | 5, hq => cases hq; exact hKn5
    | 6, hq => cases hq; exact hKn6
    | 7, hq => cases hq; exact hKn7
    | 8, hq => cases hq; exact hKn8
    | 9, hq => cases hq; exact hKn9
    | 10, hq => cases hq; exact hKn10
    | 11, hq => cases hq; exact hKn11
    | k + 12, hq => simp [vwCl] at hq
  have hK : va_K E.2.1 vwCl (mTys E) s := by
    subst hE
    refine ⟨hKc, fun k q hq => ?_⟩
    subst hcA
    match k, hq with
    | 0, hq => cases hq; exact hA100
    | 1, hq => cases hq; exact hA101
    | 2, hq => cases hq; exact hA102
    | 3, hq => cases hq; exact hA103
    | k + 4, hq => simp [mTys] at hq
  have e1 : ext 1 = b := by subst hext; rfl
  have e2 : ∀ i, i < 4 → ext (2 + i) = adK i := by
    intro i hi
    subst hext
    show (if 2 + i = 1 then b else if 2 + i < 6 then adK (2 + i - 2) else if 2 + i < 10 then adV (2 + i - 6) else nx) = _
    rw [if_neg (by omega), if_pos (by omega), show 2 + i - 2 = i by omega]
  have e6 : ∀ i, i < 4 → ext (6 + i) = adV i := by
    intro i hi
    subst hext
    show (if 6 + i = 1 then b else if 6 + i < 6 then adK (6 + i - 2) else if 6 + i < 10 then adV (6 + i - 6) else nx) = _
    rw [if_neg (by omega), if_neg (by omega), if_pos (by omega), show 6 + i - 6 = i by omega]
  have e10 : ext 10 = nx := by subst hext; rfl
  have hO : mO E s s.heap := by
    subst hE
    refine ⟨⟨fun i hi => ?_, fun i j hi hj hij => ?_⟩, fun i hi q hq => ?_, ?_, ?_, ?_, fun w hw => va_Nw.of (mNw_tab w hw) (hts w (nw_in w hw))⟩
    · have := hkS.1 i hi
      rw [← e2 i hi, ← e6 i hi] at this
      exact this
    · have hij : ext (2 + i) = ext (2 + j) := hij
      rw [e2 i hi, e2 j hj] at hij
      exact hkS.2 i j hi hj hij
    · refine vk_R.of (hts _ (tx_7 i hi q hq)) ?_
      have := hkE i hi
      rw [← e2 i hi] at this
      unfold mTm at this
      rw [List.getD_eq_getElem?_getD, hq] at this
      exact this
    · show va_Z _ _ _ (.ref (ext 10)) _ _ _
      rw [e10]
      exact va_Zof (hts _ (by decide +kernel)) (hts _ (by decide +kernel)) hnx hnA
    · exact va_Zof (hts _ (by decide +kernel)) (hts _ (by decide +kernel)) (va_eqi (hfl _ (by decide +kernel))) hnA
    · exact va_Zqof (hts _ (by decide +kernel)) (hts _ (by decide +kernel)) (hfl _ (by decide +kernel)) hnA
  have hH : mHold E (mZ L (fun j => (xs j.toNat).toInt)) s s.heap := by
    refine ⟨by subst hE; rfl, fun r h1 h2 => absurd h2 (by show ¬ r < 16 + 0; omega), fun r hr => ?_, hK, ⟨fun r hr hk => ?_, fun r hr => ?_⟩, hO, fun r j => ?_⟩
    · have hr : 16 + 0 ≤ r := hr
      show SZ L r = _
      unfold SZ
      rw [if_neg (by omega), if_neg (by omega), if_neg (by omega)]
    · have hk : (SZ L r).1 = 100 := hk
      unfold SZ at hk
      by_cases h1 : r = 1
      · subst h1
        subst hE
        obtain ⟨scr, x1, x2, x3, x4, x5⟩ := hX
        refine ⟨⟨scr, by show s.heap[ext 1]? = _; rw [e1]; exact x1, x2, x3, by rw [x4]; exact Nat.le_refl _, by rw [x4]; rfl, fun j hj => ?_⟩, by show ext 1 < _; rw [e1]; exact hbl, by show L < _; omega⟩
        rw [x5 j hj]
        show _ = some (Value.int (Int32.ofInt (xs ((j : Int).toNat)).toInt))
        rw [Int32.ofInt_toInt, Int.toNat_natCast]
      · rw [if_neg h1] at hk
        by_cases h2 : r = 10
        · subst h2
          subst hE
          obtain ⟨cell, x1, x2, x3, x4, x5, x6, x7⟩ := hnT
          refine ⟨⟨cell, by show s.heap[ext 10]? = _; rw [e10]; exact x1, x2, x3, x4, x5, fun j hj => ?_⟩, by show ext 10 < _; rw [e10]; exact (Array.getElem?_eq_some_iff.mp x1).1, by show 204 < 2147483648; omega⟩
          rw [x6 j hj]
          show _ = some (Value.int (Int32.ofInt (NXL.getD ((j : Int).toNat) 0)))
          rw [Int.toNat_natCast]
        · rw [if_neg h2] at hk
          by_cases h3 : 2 ≤ r ∧ r < 6
          · rw [if_pos h3] at hk
            cases hk
          · rw [if_neg h3] at hk
            cases hk
    · show (SZ L r).1 = 100 ∨ (SZ L r).1 = 99 ∨ ((SZ L r).1 = 50 ∧ _)
      unfold SZ
      by_cases h1 : r = 1
      · rw [if_pos h1]; exact Or.inl rfl
      · rw [if_neg h1]
        by_cases h2 : r = 10
        · rw [if_pos h2]; exact Or.inl rfl
        · rw [if_neg h2]
          by_cases h3 : 2 ≤ r ∧ r < 6
          · rw [if_pos h3]; exact Or.inr (Or.inr ⟨rfl, h3⟩)
          · rw [if_neg h3]; exact Or.inr (Or.inl rfl)
    · have hq : inI (if r = 1 then (xs j.toNat).toInt else if r = 10 then NXT j else 0) := by
        split
        · exact inI_t _
        · split
          · exact NXT_in j
          · decide
      have hw : ∀ x : Int, inI x → inL x := fun x h => ⟨by have := h.1; omega, by have := h.2; omega⟩
      exact ⟨fun _ => hw _ hq, fun _ => hq⟩
  have hE1 : E.1 = s.heap.size := by subst hE; rfl
  have hC : mCx i_Lw_law E p room_1 s m #[Value.ref b] meth c := ⟨hx, hb, hml, hown, fun w hw _ => hts w hw, hnm, by decide, by decide, by decide, by decide, by rw [hE1]; exact Nat.le_refl _⟩
  · rw [lg_entry_eq]
    have hl := lv_entry ([Value.ref b]) (n := 4) (Nat.le_of_ble_eq_true rfl)
    refine hlaw L (fun j => (xs j.toNat).toInt) hL (fun j => inI_t _) E p l e room_1 s m #[Value.ref b] below meth c _ hC ?_ _ s.heap [] (mlv_has hl (fun q hq => ?_)) (fun v hv => ?_) (fun v hv => by cases hv) hH va_S.rf (Nat.zero_le _) (Nat.zero_le _)
    · intro v μ' pc' ls H locs cells slots hq hret hH' hS' hc hs
      subst hq
      refine W.widen hc hs ?_
      refine va_forget (fun q hq => ?_) ?_
      · have := hS'.2.2 q hq
        rw [← hE1]
        exact this
      · exact lw_ret hx hb hr hlocks hret.1
    · have hm : mad E 1 = b := by rw [mad_lt (by omega)]; subst hE; exact e1
      simp only [mPr, mcv, hm] at hq
      exact hq
    · simp at hv
      subst hv
      show (1 : Nat) ≠ 0
      decide
