/-! SOUNDNESS, 3: calls -/
abbrev mTs : List Cond := lw_tbl.filter (fun w => goodWord w)
def mWs (a : Nat) : List Cond := mCw a :: mTs
def mRm (a : Nat) : Room := { frames := mFr a, cells := mCe a, slots := mSl a, locals := mLo a }
def mPc (E : mE) (av : List mV) (μ : mM) : Array Value → State → Prop := fun v U => v = (av.map (mcv E)).toArray ∧ mHold E μ U U.heap
def mQc (E : mE) (Q : Option mV → mM → Prop) : Array Value → State → Outcome → State → Prop := fun _ st o t => ∃ (r : Option mV) (μ' : mM), Q r μ' ∧ (∀ v, r = some v → mOk v) ∧ o = .returned (r.map (mcv E)) ∧ mHold E μ' t t.heap ∧ va_F (mA E) st t
theorem mCw_in {a : Nat} (h : a < 181) : mCw a ∈ mTs := by
  refine List.mem_filter.mpr ⟨?_, rfl⟩
  have h1 : mCw a ∈ (mTab.take 181).map (fun q => Cond.code q.1 q.2.1 q.2.2.1 q.2.2.2.1) := by
    have hl : a < (mTab.take 181).length := by
      rw [show (mTab.take 181).length = 181 from rfl]; exact h
    refine List.mem_map.mpr ⟨(mTab.take 181)[a], List.getElem_mem hl, ?_⟩
    have e : (mTab.take 181)[a] = mRow a := by
      unfold mRow
      rw [List.getElem_take, List.getD_eq_getElem?_getD, List.getElem?_eq_getElem (by rw [show mTab.length = 182 from rfl]; omega)]
      rfl
    rw [e]
    rfl
  rw [mCw_ok] at h1
  obtain ⟨i, -, hi⟩ := List.mem_filterMap.mp h1
  exact List.mem_append_right _ (List.mem_of_getElem? hi)
theorem mWs_good {a : Nat} (h : a < 181) : GoodIn mTs (mWs a) := by
  intro w hw
  rcases List.mem_cons.mp hw with rfl | hw
  · exact ⟨mCw_in h, good_of_word rfl⟩
  · exact ⟨hw, good_of_word (List.mem_filter.mp hw).2⟩
theorem mEnt_pr (E : mE) : ∀ (av : List mV) (n i : Nat) (q : Nat × Value), q ∈ mPr E i (mEnt n av) → q ∈ lv_args i (av.map (mcv E))
  | [], n, i, q, h => by
    obtain ⟨a, v, h1, -⟩ := mpr_get E _ i q h
    have : some v ∈ mEnt n [] := (mget_pr E _ i a v h1).2
    simp [mEnt] at this
  | .inl x :: av, n, i, q, h => by
    rcases List.mem_cons.mp (show q ∈ (i, mcv E (.inl x)) :: mPr E (i + 1) (mEnt (n - 1) av) from h) with rfl | h
    · exact List.mem_cons_self
    · exact List.mem_cons_of_mem _ (mEnt_pr E av (n - 1) (i + 1) q h)
  | .inr (.inr x) :: av, n, i, q, h => by
    rcases List.mem_cons.mp (show q ∈ (i, mcv E (.inr (.inr x))) :: mPr E (i + 1) (mEnt (n - 1) av) from h) with rfl | h
    · exact List.mem_cons_self
    · exact List.mem_cons_of_mem _ (mEnt_pr E av (n - 1) (i + 1) q h)
  | .inr (.inl x) :: av, n, i, q, h => by
    rcases List.mem_cons.mp (show q ∈ (i, mcv E (.inr (.inl x))) :: mPr E (i + 1 + 1) (mEnt (n - 2) av) from h) with rfl | h
    · exact List.mem_cons_self
    · exact List.mem_cons_of_mem _ (mEnt_pr E av (n - 2) (i + 2) q h)
theorem mEnt_ok : ∀ (av : List mV) (n : Nat) (v : mV), some v ∈ mEnt n av → v ∈ av
  | [], n, v, h => by simp [mEnt] at h
  | .inl x :: av, n, v, h => by
    rcases List.mem_cons.mp (show some v ∈ some (.inl x) :: mEnt (n - 1) av from h) with h | h
    · cases h; exact List.mem_cons_self
    · exact List.mem_cons_of_mem _ (mEnt_ok av (n - 1) v h)
  | .inr (.inr x) :: av, n, v, h => by
    rcases List.mem_cons.mp (show some v ∈ some (.inr (.inr x)) :: mEnt (n - 1) av from h) with h | h
    · cases h; exact List.mem_cons_self
    · exact List.mem_cons_of_mem _ (mEnt_ok av (n - 1) v h)
  | .inr (.inl x) :: av, n, v, h => by
    rcases List.mem_cons.mp (show some v ∈ some (.inr (.inl x)) :: none :: mEnt (n - 2) av from h) with h | h
    · cases h; exact List.mem_cons_self
    · rcases List.mem_cons.mp h with h | h
      · cases h
      · exact List.mem_cons_of_mem _ (mEnt_ok av (n - 2) v h)
theorem mcat_sl (E : mE) : ∀ av : List mV, (lg_sl (av.map (mcv E))).length = mcat av
  | [] => rfl
  | .inl x :: av => by
    have := mcat_sl E av
    simp [lg_sl, mcv, Value.category, mcat] at this ⊢
    omega
  | .inr (.inr x) :: av => by
    have := mcat_sl E av
    simp [lg_sl, mcv, Value.category, mcat] at this ⊢
    omega
  | .inr (.inl x) :: av => by
    have := mcat_sl E av
    simp [lg_sl, mcv, Value.category, mcat] at this ⊢
    omega
theorem mcat_sum (E : mE) : ∀ av : List mV, ((av.map (mcv E)).map fun v => v.category).sum = mcat av
  | [] => rfl
  | .inl x :: av => by
    have := mcat_sum E av
    simp [mcv, Value.category, mcat] at this ⊢
    omega
  | .inr (.inr x) :: av => by
    have := mcat_sum E av
    simp [mcv, Value.category, mcat] at this ⊢
    omega
  | .inr (.inl x) :: av => by
    have := mcat_sum E av
    simp [mcv, Value.category, mcat] at this ⊢
    omega
theorem mMetW {l : Launch} {y : MethodName} {ws ws' : List Cond} {rm : Room} {Pc : Array Value → State → Prop} {Qc : Array Value → State → Outcome → State → Prop} {mc ms : Nat} {free : Addr → Prop} {cc : ByteArray} {maxL : Nat} {ret : Option FieldType}
    (hy : plainFor y = true) (hw : ws = Cond.code y cc maxL ret :: ws')
    (body : ∀ p e s m args below meth c s₁, BodyLoose p l y (headSpec ws rm) cc maxL ret e s m args below meth c s₁ → c.maxLocals = maxL → Pc args s →
      W p l e (headSpec ws rm).room s m args below meth c s.heap [] 0 0 (MQ below Qc args s mc ms free) (entryFrame m args maxL)) : Met l y ws rm Pc Qc mc ms free := by
  refine MetFree.of_bodySF (code := cc) (maxLocals := maxL) (ret := ret) hy ?_ ?_
  · intro args s m h hn
    obtain ⟨meth, c, h1, h2, h3, h4, h5, h6, -, -⟩ := Cond.code_spec hn (atoms_spec (ws := ws) h _ (by rw [hw]; exact List.mem_cons_self))
    exact ⟨meth, c, h1, h2, h3, h4, h5, h6⟩
  · intro p e s m args below meth c s₁ B hml hP _
    have hh0 : s₁.heap = s.heap := by rw [B.state]; rfl
    obtain ⟨t, a1, o, b1, b2, b3⟩ := body p e s m args below meth c s₁ B hml hP s₁ hh0 (Stand.of_body B)
    exact ⟨t, o, a1, b1, b2, ⟨b3.1, b3.2⟩⟩
theorem nar_c {x : Int} (h0 : 0 ≤ x) (h1 : x < 256) : narrow .char (.int (Int32.ofInt x)) = .int (Int32.ofInt x) := by
  have e : Int32.ofInt x = nI x.toNat := by
    rw [show x = ((x.toNat : Nat) : Int) by omega, Int32.ofInt_eq_ofNat]
    rfl
  rw [e]
  exact (pk_charN (by omega)).1
/-- a method's contract at the machine, out of the mini machine's -/
theorem mMet {a : Nat} {av : List mV} {μ : mM} {Q : Option mV → mM → Prop} (l : Launch) (E : mE) (hpl : plainFor (mY a) = true) (hcl : Cl a av μ Q) (hok : ∀ v ∈ av, mOk v) (hfit : mcat av ≤ mN a) : Met l (mY a) (mWs a) (mRm a) (mPc E av μ) (mQc E Q) (mCe a) (mSl a) (mA E) := by
  refine mMetW (cc := mB a) (maxL := mN a) (ret := mR a) hpl rfl ?_
  intro p e s m args below meth c s₁ B hml hv
  obtain ⟨rfl, hH⟩ := hv
  have hx := B.exec
  have hb := B.bytes
  have hr := B.returns
  have hts := atoms_spec (ws := mWs a) B.pre
  have hown : s.vm.findClass (mY a).cls = some m.cls := findClass_of_methodNamed B.named
  have hlocks := B.notSynchronized
  have hnm : meth.name = (mY a).name := (name_of_methodNamed B.named B.method).1
  have hl := lv_entry (av.map (mcv E)) (n := mN a) (by rw [mcat_sl]; exact hfit)
  rw [lg_entry_eq]
  have hC : mCx a E p (headSpec (mWs a) (mRm a)).room s m (av.map (mcv E)).toArray meth c := ⟨hx, hb, hml, hown, fun w hw hg => hts w (List.mem_cons_of_mem _ (List.mem_filter.mpr ⟨hw, hg⟩)), hnm, Nat.le_refl _, Nat.le_refl _, Nat.le_refl _, Nat.le_refl _, by rw [hH.1]; omega⟩
  refine hcl E p l e _ s m _ below meth c _ hC ?_ _ s.heap [] (mlv_has hl (fun q hq => mEnt_pr E av _ 0 q hq)) (fun v hv => hok v (mEnt_ok av _ v hv)) (fun v hv => by cases hv) hH va_S.rf (Nat.zero_le _) (Nat.zero_le _)
  intro v μ' pc' ls H locs cells slots hq hret hH' hS' hc hs
  refine W.widen hc hs ?_
  rcases v with _ | (x | x | x)
  · exact W.vret hx hb (hr.trans hret.2) (fun t ht hW => ⟨none, μ', hq, (fun v hv => by cases hv), rfl, by rw [ht]; exact mHold_warm hW hH', hS'.F ht⟩) hS'.2.2 hret.1
  · obtain ⟨h1, h2, h3⟩ := hret
    have hqq : ∀ t : State, t.heap = H → s.WarmedH t.vm → mQc E Q (av.map (mcv E)).toArray s (.returned (some (.int (Int32.ofInt x)))) t := fun t ht hW => ⟨some (.inl x), μ', hq, (fun v hv => by cases hv; exact h2), rfl, by rw [ht]; exact mHold_warm hW hH', hS'.F ht⟩
    rcases h3 with h3 | ⟨h3, h4⟩ | ⟨h3, h4⟩ | ⟨h3, h4, h5⟩
    · exact W.iret hx hb (hr.trans h3) hqq hS'.2.2 h1
    · exact W.zret hx hb (hr.trans h3) (nar_z h4) hqq hS'.2.2 h1
    · subst h4
      exact W.zret hx hb (hr.trans h3) rfl hqq hS'.2.2 h1
    · exact W.zret hx hb (hr.trans h3) (nar_c h4 h5) hqq hS'.2.2 h1
  · obtain ⟨h1, h2, h3⟩ := hret
    exact W.lret hx hb (hr.trans h3) (fun t ht hW => ⟨some (.inr (.inl x)), μ', hq, (fun v hv => by cases hv; exact h2), rfl, by rw [ht]; exact mHold_warm hW hH', hS'.F ht⟩) hS'.2.2 h1
  · exact hret.elim
theorem mHold_ret {E : mE} {μ μ' : mM} {s t : State} {H H1 : Heap} (h : mHold E μ s H) (h1 : mHold E μ' t H1) (ha : s.vm.Alike t.vm) (hk : ∀ q : Nat, q < H.size → ¬ mA E q → H1[q]? = H[q]?) : mHold E μ' s H1 := by
  obtain ⟨e1, e2, e3, e4, ⟨x1, x2⟩, e6, e7⟩ := h1
  exact ⟨e1, e2, e3, h.2.2.2.1, ⟨fun r hr hk2 => ⟨mRd_moved ha.symm (x1 r hr hk2).1, (x1 r hr hk2).2⟩, x2⟩, mO_kept h.2.2.2.2.2.1 hk, e7⟩
theorem mpsh_map (E : mE) (r : Option mV) (st : List mV) : (r.map (mcv E)).toList ++ st.map (mcv E) = (mpsh r st).map (mcv E) := by cases r <;> rfl
theorem mpsh_ok {r : Option mV} {st : List mV} (h : ∀ v, r = some v → mOk v) (hs : ∀ v ∈ st, mOk v) : ∀ v ∈ mpsh r st, mOk v := by
  cases r with
  | none => exact hs
  | some v => exact mOk_c (h v rfl) hs
theorem mCall {E : mE} {p : Program} {l : Launch} {e : Env} {R : Room} {s : State} {m : MethodId} {args : Array Value} {below : List Frame} {meth : Method} {c : Code} {Z : State → Prop} {H : Heap} {locs : List Loc} {cells slots mc ms pc : Nat} {ls : Array Slot} {st0 rest : List Value} {av : Array Value} {μ : mM} {Q : Option mV → mM → Prop}
    (hr : va_Run p l e R s m args below meth c H locs cells slots mc ms (F0 m pc ls st0) rest (mQc E Q av) (mA E)) (hH : mHold E μ s H) (hS : va_S (mA E) s.heap H locs)
    (kk : ∀ (r : Option mV) (μ' : mM) (H1 : Heap) (locs1 : List Loc), Q r μ' → (∀ v, r = some v → mOk v) → mHold E μ' s H1 → va_S (mA E) s.heap H1 locs1 → W p l e R s m args below meth c H1 locs1 (cells + mc) (slots + ms) Z (F0 m (pc + 3) ls ((r.map (mcv E)).toList ++ rest))) : W p l e R s m args below meth c H locs cells slots Z (F0 m pc ls st0) := by
  intro T hT X
  obtain ⟨v, st₀, t, T', L, h0, X', hL, e1, e2, ⟨r, μ', hq, hok, hv, hH1, hz, hk⟩, st⟩ := hr T hT X
  cases hv
  rw [h0] at hz hk
  have ha : s.vm.Alike t.vm := by rw [← e2]; exact X'.warmed.alike
  obtain ⟨t2, a1, b1⟩ := kk r μ' T'.heap (locs ++ L) hq hok (mHold_ret hH (by rw [e1]; exact hH1) ha (fun q h1 h2 => by rw [e1]; exact hk q h1 h2))
    ⟨Nat.le_trans hS.1 (by rw [e1]; exact hz), fun q h1 h2 => by rw [e1, hk q (Nat.lt_of_lt_of_le h1 hS.1) h2]; exact hS.2.1 q h1 h2, fun q hq => by
      rcases List.mem_append.mp hq with h | h
      · exact hS.2.2 q h
      · exact hL q h⟩ T' rfl X'
  exact ⟨t2, st t2 a1, b1⟩
theorem mpop_sp : ∀ (n : Nat) (st acc : List mV) (f : List mV → List mV → Prop), mpop n st acc f → ∃ xs st' : List mV, xs.length = n ∧ st = xs ++ st' ∧ f (xs.reverse ++ acc) st'
  | 0, st, acc, f, h => ⟨[], st, rfl, rfl, h⟩
  | n + 1, [], acc, f, h => h.elim
  | n + 1, v :: st, acc, f, h => by
    obtain ⟨xs, st', h1, rfl, h3⟩ := mpop_sp n st (v :: acc) f h
    exact ⟨v :: xs, st', by simp [h1], rfl, by simpa using h3⟩
theorem mPc_blind (E : mE) (av : List mV) (μ : mM) : FrameBlind (mPc E av μ) := fun a U g mk q => ⟨q.1, mHold_same (s := U) rfl q.2⟩
theorem mMok_sp {a p1 p2 p3 : Nat} {b : Bool} (h : mMok a p1 p2 p3 b = true) : a < 181 ∧ plainFor (mY a) = true ∧ (mY a).cls ≠ "java/lang/invoke/MethodHandle" ∧ (mY a).cls ≠ "java/lang/invoke/VarHandle" ∧ mAt p1 (.initialized (mY a).cls) = true ∧ (b = true → mAt p2 (.static (mY a)) = true) ∧ (b = false → mAt p2 (.instanceMethod (mY a)) = true ∧ ((mY a).name = "<init>" ∨ mAt p3 (.selects (mY a).cls (mY a) (mY a)) = true)) := by
  unfold mMok at h
  simp only [Bool.and_eq_true] at h
  obtain ⟨⟨⟨⟨⟨h1, h2⟩, h3⟩, h4⟩, h5⟩, h6⟩ := h
  refine ⟨of_decide_eq_true h1, h2, of_decide_eq_true h3, of_decide_eq_true h4, h5, fun hb => ?_, fun hb => ?_⟩
  · rw [hb, if_pos rfl] at h6
    exact h6
  · rw [hb, if_neg (by decide), Bool.and_eq_true, Bool.or_eq_true] at h6
    exact ⟨h6.1, h6.2.imp of_decide_eq_true id⟩
theorem mts_f {args : Array Value} {s : State} (hts : ∀ w ∈ lw_tbl, goodWord w = true → w.before args s = true) : ∀ w ∈ mTs, w.before args s = true := fun w hw => hts w (List.mem_filter.mp hw).1 (List.mem_filter.mp hw).2
theorem s_invokestatic (i : Nat) : mSnd (.invokestatic i) := by
  intro mi pc Q bd L st μ len a b p t z ts k hd ho h hk E P l e R s m args below meth c Z C F ls H locs hL hOL hOS hH hS hb1 hb2
  obtain ⟨hx, hb, hml, hown, hts, hnm, hfr, hlo, hce, hsl, hba⟩ := id C
  obtain ⟨ho, ho3⟩ := Bool.and_eq_true_iff.mp ho
  obtain ⟨ho1, ho2⟩ := Bool.and_eq_true_iff.mp ho
  obtain ⟨rfl, g1, g2, g3, g4, rfl, g5⟩ := of_decide_eq_true ho1
  obtain ⟨m1, m2, m3, m4, m5, m6, -⟩ := mMok_sp ho3
  obtain ⟨xs, st', hlen, rfl, hcat, h⟩ := mpop_sp b st [] _ h
  rw [List.append_nil] at hcat h
  obtain ⟨hc1, hc2⟩ := Bool.and_eq_true_iff.mp hcat
  have hc1 : mcat xs.reverse ≤ mN a := Nat.le_of_ble_eq_true hc1
  have hM := mMet l E m2 h (fun v hv => hOS v (List.mem_append_left _ (List.mem_reverse.mp hv))) hc1
  have cw : CallB R s args (mY mi).cls i (mY a) (mB a) (mN a) (mR a) (mWs a) (mRm a) (mCe a) (mSl a) b := callB_of (ws' := mTs) b (mts_f hts) (mWs_good m1) rfl rfl rfl (mAt_sp hts m5) (mAt_sp hts ho2) ⟨m3, m4, g5⟩ ⟨Nat.le_trans g1 hfr, Nat.le_trans g2 hlo⟩
  have hrun := va_runS (g := F0 m pc ls ((xs ++ st').map (mcv E))) (As := (xs.reverse).map (mcv E)) (rest := st'.map (mcv E)) (locs := locs) (cells := bd.1) (slots := bd.2) (below := below) (e := e) (meth := meth) ⟨hx, hb, hml, hown, mts_f hts⟩ hM ⟨cw, mAt_sp hts (m6 rfl)⟩ ⟨mPc_blind E _ μ, fun U hU hW => ⟨rfl, by rw [hU]; exact mHold_warm hW hH⟩⟩ rfl (by simp [hlen]) hL.1 (by simp) (lv_room (by rw [mcat_sum]; exact Nat.le_of_ble_eq_true hc2)) hd ⟨by rw [g3]; exact hb1, by rw [g4]; exact hb2⟩
  refine mCall hrun hH hS (fun r μ' H1 locs1 hq hok hH1 hS1 => ?_)
  rw [mpsh_map, g3, g4]
  exact hk _ _ _ _ hq E P l e R s m args below meth c Z C F ls H1 locs1 hL hOL (mpsh_ok hok (fun v hv => hOS v (List.mem_append_right _ hv))) hH1 hS1 hb1 hb2
theorem mrcv_sp {av : List mV} {f : Nat → Prop} (h : mrcv av f) : ∃ (r : Nat) (as : List mV), av = .inr (.inr r) :: as ∧ f r := by
  unfold mrcv at h
  split at h
  · exact ⟨_, _, rfl, h⟩
  · exact h.elim
theorem mrecv {E : mE} {μ : mM} {s : State} {H : Heap} {locs : List Loc} {r t : Nat} (hH : mHold E μ s H) (hS : va_S (mA E) s.heap H locs) (hba : E.1 ≤ s.heap.size) (hk : (μ.2.1 r).1 = t) (ht : t < 12 ∨ t = 50) : ∃ cellB : Cell, H[mad E r]? = some cellB ∧ cellB.vm.isStatics = false ∧ s.vm.findClass (mCnm t) = some cellB.cls := by
  by_cases hr : r < 16
  · obtain ⟨h1, h2, h3⟩ : (μ.2.1 r).1 = 50 ∧ 2 ≤ r ∧ r < 6 := by rcases hH.2.2.2.2.1.2 r hr with q | q | q <;> omega
    have ht : t = 50 := by omega
    subst ht
    obtain ⟨cell, c1, c2, c3⟩ := vk_recv (i := r - 2) (mO_back hH.2.2.2.2.2.1 hS hba).1 (by omega) hS
    rw [show 2 + (r - 2) = r by omega, ← mad_lt hr] at c1
    exact ⟨cell, c1, c2, by unfold mCnm; rw [if_pos rfl]; exact c3⟩
  · have ht : t < 12 := by
      rcases ht with q | q
      · exact q
      · rcases hH.2.1 r (by omega) (mH_in hH (by omega)) with ⟨w, x, y, -⟩ | ⟨w, -⟩
        · rw [hk, q] at y
          simp [vwCl] at y
        · omega
    obtain ⟨q, hq, cell, c1, c2, c3, -⟩ := mH_obj hH (by omega) hk (by omega)
    refine ⟨cell, c1, by rw [c3]; rfl, ?_⟩
    have hcn : mCnm t = q.1 := by
      unfold mCnm
      rw [if_neg (by omega), List.getD_eq_getElem?_getD, hq]
      rfl
    rw [hcn, c2]
    exact (hH.2.2.2.1.1 t q hq).2.1
theorem s_invokevirtual (i : Nat) : mSnd (.invokevirtual i) := by
  intro mi pc Q bd L st μ len a b p t z ts k hd ho h hk E P l e R s m args below meth c Z C F ls H locs hL hOL hOS hH hS hb1 hb2
  obtain ⟨hx, hb, hml, hown, hts, hnm, hfr, hlo, hce, hsl, hba⟩ := id C
  obtain ⟨ho, ho4⟩ := Bool.and_eq_true_iff.mp ho
  obtain ⟨ho, ho3⟩ := Bool.and_eq_true_iff.mp ho
  obtain ⟨ho1, ho2⟩ := Bool.and_eq_true_iff.mp ho
  obtain ⟨rfl, g0, g6, g7, g1, g2, g3, g4, rfl, g5⟩ := of_decide_eq_true ho1
  have g8 : (mY a).name ≠ "<init>" := of_decide_eq_true ho3
  obtain ⟨m1, m2, m3, m4, m5, -, m6⟩ := mMok_sp ho4
  obtain ⟨m6, m7⟩ := m6 rfl
  have m7 := m7.resolve_left g8
  obtain ⟨xs, st', hlen, rfl, hcat, hrc, h⟩ := mpop_sp b st [] _ h
  rw [List.append_nil] at hcat h hrc
  obtain ⟨hc1, hc2⟩ := Bool.and_eq_true_iff.mp hcat
  have hc1 : mcat xs.reverse ≤ mN a := Nat.le_of_ble_eq_true hc1
  have hM := mMet l E m2 h (fun v hv => hOS v (List.mem_append_left _ (List.mem_reverse.mp hv))) hc1
  obtain ⟨r, as, hav, hrk⟩ := mrcv_sp hrc
  have hxs : xs = as.reverse ++ [.inr (.inr r)] := by
    have := congrArg List.reverse hav
    simpa using this
  have hla : as.length = b - 1 := by
    have := congrArg List.length hxs
    simp at this
    omega
  have cb : CallB R s args (mY mi).cls i (mY a) (mB a) (mN a) (mR a) (mWs a) (mRm a) (mCe a) (mSl a) (b - 1) := callB_of (ws' := mTs) (b - 1) (mts_f hts) (mWs_good m1) rfl rfl rfl (mAt_sp hts m5) (mAt_sp hts ho2) ⟨m3, m4, g5⟩ ⟨Nat.le_trans g1 hfr, Nat.le_trans g2 hlo⟩
  have hrec := mrecv hH hS hba hrk g6
  rw [g7] at hrec
  rw [hav] at hM
  have hrun := va_runV (g := F0 m pc ls ((xs ++ st').map (mcv E))) (b := mad E r) (C := (mY a).cls) (As := as.map (mcv E)) (rest := st'.map (mcv E)) (locs := locs) (cells := bd.1) (slots := bd.2) (below := below) (e := e) (meth := meth) ⟨hx, hb, hml, hown, mts_f hts⟩ hM ⟨cb, mAt_sp hts m6, mAt_sp hts m7⟩ ⟨mPc_blind E _ μ, hrec, fun U hU hW => ⟨rfl, by rw [hU]; exact mHold_warm hW hH⟩⟩ rfl (by simp [hla]) hL.1 (by rw [hxs]; simp [mcv]) (lv_room (by rw [mcat_sum]; exact Nat.le_of_ble_eq_true hc2)) hd ⟨by rw [g3]; exact hb1, by rw [g4]; exact hb2⟩
  refine mCall hrun hH hS (fun r μ' H1 locs1 hq hok hH1 hS1 => ?_)
  rw [mpsh_map, g3, g4]
  exact hk _ _ _ _ hq E P l e R s m args below meth c Z C F ls H1 locs1 hL hOL (mpsh_ok hok (fun v hv => hOS v (List.mem_append_right _ hv))) hH1 hS1 hb1 hb2
theorem mObj_i : lw_tbl[105]? = some (Cond.instanceMethod Lib.objectInit) := rfl
theorem mObj_c : lw_tbl[106]? = some (Cond.code Lib.objectInit ⟨#[0xb1]⟩ 1 none) := rfl
theorem s_invokespecial (i : Nat) : mSnd (.invokespecial i) := by
  intro mi pc Q bd L st μ len a b p t z ts k hd ho h hk E P l e R s m args below meth c Z C F ls H locs hL hOL hOS hH hS hb1 hb2
  obtain ⟨hx, hb, hml, hown, hts, hnm, hfr, hlo, hce, hsl, hba⟩ := id C
  rcases t with _ | t
  · obtain ⟨ho1, ho2⟩ := Bool.and_eq_true_iff.mp ho
    obtain ⟨rfl, g1, g2⟩ := of_decide_eq_true ho1
    obtain ⟨r, st', rfl, hc, h⟩ := mr1_sp h
    have hc : mcat st' ≤ 8 := Nat.le_of_ble_eq_true hc
    have hlr : 2 * (F0 m pc ls (List.map (mcv E) (.inr (.inr r) :: st'))).monitorRoom + ((st'.map (mcv E)).map fun v => v.category).sum ≤ 8 := lv_room (by rw [mcat_sum]; exact hc)
    refine W.objInit hx hb hown (mAt_sp hts ho2) (hts _ (List.mem_of_getElem? mObj_i) rfl) (hts _ (List.mem_of_getElem? mObj_c) rfl) (g := F0 m pc ls (List.map (mcv E) (.inr (.inr r) :: st'))) rfl (by rw [hml]; exact hL.1) (a := mad E r) (rest := st'.map (mcv E)) rfl hd (Nat.le_trans g1 hfr) (by omega) ?_
    exact hk _ _ _ _ h E P l e R s m args below meth c Z C F ls H locs hL hOL (mOk_t hOS) hH hS hb1 hb2
  · obtain ⟨ho, ho4⟩ := Bool.and_eq_true_iff.mp ho
    obtain ⟨ho1, ho2⟩ := Bool.and_eq_true_iff.mp ho
    obtain ⟨rfl, g0, g1, g2, g3, g4, rfl, g5⟩ := of_decide_eq_true ho1
    obtain ⟨m1, m2, m3, m4, m5, -, m6⟩ := mMok_sp ho4
    obtain ⟨m6, -⟩ := m6 rfl
    obtain ⟨xs, st', hlen, rfl, hcat, hrc, hb3, hb4, h⟩ := mpop_sp b st [] _ h
    rw [List.append_nil] at hcat h hrc
    obtain ⟨hc1, hc2⟩ := Bool.and_eq_true_iff.mp hcat
    have hc1 : mcat xs.reverse ≤ mN a := Nat.le_of_ble_eq_true hc1
    have hM := mMet l E m2 h (fun v hv => hOS v (List.mem_append_left _ (List.mem_reverse.mp hv))) hc1
    have kk : ∀ (r : Option mV) (μ' : mM) (H1 : Heap) (locs1 : List Loc), k (bd.1 + mCe a, bd.2 + mSl a) L (mpsh r st') μ' → (∀ v, r = some v → mOk v) → mHold E μ' s H1 → va_S (mA E) s.heap H1 locs1 → W P l e R s m args below meth c H1 locs1 (bd.1 + mCe a) (bd.2 + mSl a) Z (F0 m (pc + 3) ls ((r.map (mcv E)).toList ++ st'.map (mcv E))) := by
      intro r μ' H1 locs1 hq hok hH1 hS1
      rw [mpsh_map]
      exact hk _ _ _ _ hq E P l e R s m args below meth c Z C F ls H1 locs1 hL hOL (mpsh_ok hok (fun v hv => hOS v (List.mem_append_right _ hv))) hH1 hS1 (by show bd.1 + mCe a ≤ _; omega) (by show bd.2 + mSl a ≤ _; omega)
    obtain ⟨r, as, hav, -⟩ := mrcv_sp hrc
    have hxs : xs = as.reverse ++ [.inr (.inr r)] := by
      have := congrArg List.reverse hav
      simpa using this
    have hla : as.length = b - 1 := by
      have := congrArg List.length hxs
      simp at this
      omega
    rw [hav] at hM
    have hroom : 2 * (F0 m pc ls ((xs ++ st').map (mcv E))).monitorRoom + ((st'.map (mcv E)).map fun v => v.category).sum ≤ 8 := lv_room (by rw [mcat_sum]; exact Nat.le_of_ble_eq_true hc2)
    have hpre : PreS s H (mPc E (.inr (.inr r) :: as) μ) (.ref (mad E r) :: as.map (mcv E)) := ⟨mPc_blind E _ μ, fun U hU hW => ⟨rfl, by rw [hU]; exact mHold_warm hW hH⟩⟩
    have hwsn : mWs a = Cond.code (mY a) (mB a) (mN a) none :: mTs := by
      rw [← g3]
      rfl
    rcases t with _ | t
    · have cb : CallB R s args (mY mi).cls i (mY a) (mB a) (mN a) none (mWs a) (mRm a) (mCe a) (mSl a) (b - 1) := callB_of (ws' := mTs) (b - 1) (mts_f hts) (mWs_good m1) hwsn rfl rfl (mAt_sp hts m5) (mAt_sp hts ho2) ⟨m3, m4, g5⟩ ⟨Nat.le_trans g1 hfr, Nat.le_trans g2 hlo⟩
      have hrun := va_runI (g := F0 m pc ls ((xs ++ st').map (mcv E))) (b := mad E r) (As := as.map (mcv E)) (rest := st'.map (mcv E)) (locs := locs) (cells := bd.1) (slots := bd.2) (below := below) (e := e) (meth := meth) ⟨hx, hb, hml, hown, mts_f hts⟩ hM ⟨cb, g4, mAt_sp hts m6⟩ hpre rfl (by simp [hla]) hL.1 (by rw [hxs]; simp [mcv]) hroom hd ⟨by omega, by omega⟩
      exact mCall hrun hH hS kk
    · have hnw : (Cond.methodLinkNest (mY mi).cls i (mY a) "WordMint") ∈ mNw := of_decide_eq_true ho2
      have cb : va_CN R s args (mY mi).cls i (mY a) "WordMint" (mB a) (mN a) none (mWs a) (mRm a) (mCe a) (mSl a) (b - 1) := va_cnB (ws' := mTs) (b - 1) (mts_f hts) (mWs_good m1) hwsn rfl rfl (hH.2.2.2.2.2.1.2.2.2.2.2 _ hnw) (mAt_sp hts m5) ⟨m3, m4, g5⟩ ⟨Nat.le_trans g1 hfr, Nat.le_trans g2 hlo⟩
      have hrun := va_runIN (g := F0 m pc ls ((xs ++ st').map (mcv E))) (b := mad E r) (As := as.map (mcv E)) (rest := st'.map (mcv E)) (locs := locs) (cells := bd.1) (slots := bd.2) (below := below) (e := e) (meth := meth) ⟨hx, hb, hml, hown, mts_f hts⟩ hM ⟨cb, g4, mAt_sp hts m6⟩ hpre rfl (by simp [hla]) hL.1 (by rw [hxs]; simp [mcv]) hroom hd ⟨by omega, by omega⟩
      exact mCall hrun hH hS kk
theorem mSnd_all (ins : Instr) : mSnd ins := by
  cases ins with
  | iconst n => exact s_iconst n
  | bipush n => exact s_bipush n
  | sipush n => exact s_sipush n
  | ldc i => exact s_ldc i
  | ldc_w i => exact s_ldc_w i
  | lconst n => exact s_lconst n
  | ldc2_w i => exact s_ldc2_w i
  | iload i => exact s_iload i
  | iload_n i => exact s_iload_n i
  | lload i => exact s_lload i
  | lload_n i => exact s_lload_n i
  | aload i => exact s_aload i
  | aload_n i => exact s_aload_n i
  | istore i => exact s_istore i
  | istore_n i => exact s_istore_n i
  | lstore i => exact s_lstore i
  | lstore_n i => exact s_lstore_n i
  | astore i => exact s_astore i
  | astore_n i => exact s_astore_n i
  | iinc i n => exact s_iinc i n
  | if_icmp c o => exact s_if_icmp c o
  | ifCond c o => exact s_ifCond c o
  | goto o => exact s_goto o
  | tableswitch d lo hi o => exact s_tsw d lo hi o
  | lookupswitch d ps => exact s_lsw d ps
  | return_ => exact s_return
  | getfield i => exact s_getfield i
  | putfield i => exact s_putfield i
  | getstatic i => exact s_getstatic i
  | newarray ty => exact s_newarray ty
  | new i => exact s_new i
  | invokestatic i => exact s_invokestatic i
  | invokevirtual i => exact s_invokevirtual i
  | invokespecial i => exact s_invokespecial i
  | iadd => exact s_iadd
  | isub => exact s_isub
  | imul => exact s_imul
  | iand => exact s_iand
  | ior => exact s_ior
  | ixor => exact s_ixor
  | ishl => exact s_ishl
  | ishr => exact s_ishr
  | iushr => exact s_iushr
  | idiv => exact s_idiv
  | irem => exact s_irem
  | ladd => exact s_ladd
  | lsub => exact s_lsub
  | lmul => exact s_lmul
  | land => exact s_land
  | lor => exact s_lor
  | ldiv => exact s_ldiv
  | lcmp => exact s_lcmp
  | lshl => exact s_lshl
  | lshr => exact s_lshr
  | i2l => exact s_i2l
  | l2i => exact s_l2i
  | i2b => exact s_i2b
  | dup => exact s_dup
  | dup2 => exact s_dup2
  | ireturn => exact s_ireturn
  | lreturn => exact s_lreturn
  | iaload => exact s_iaload
  | laload => exact s_laload
  | baload => exact s_baload
  | iastore => exact s_iastore
  | lastore => exact s_lastore
  | bastore => exact s_bastore
  | arraylength => exact s_arraylength
  | _ =>
    intro mi pc Q bd L st μ len a b p t z ts k hd ho h hk
    exact False.elim h
/-- a block of instructions -/
theorem mblk {mi : Nat} {Q : Option mV → mM → Prop} {nx : Nat} : ∀ (is : List mI) (pc : Nat) (bd : Nat × Nat) (L : mLs) (st : List mV) (μ : mM), mckB mi pc is nx = true → mwp mi Q nx is bd L st μ → Jd mi Q bd pc L st μ
  | [], pc, bd, L, st, μ, hc, h => by
    have : pc = nx := of_decide_eq_true hc
    subst this
    exact h
  | i :: is, pc, bd, L, st, μ, hc, h => by
    obtain ⟨h1, h2⟩ := Bool.and_eq_true_iff.mp hc
    obtain ⟨h3, h4⟩ := Bool.and_eq_true_iff.mp h1
    exact mSnd_all i.1 mi pc Q bd L st μ _ _ _ _ _ _ _ _ (of_decide_eq_true h3) h4 h (fun bd' L' st' μ' hk => mblk is (pc + i.2.1) bd' L' st' μ' h2 hk)
/-- the numbers that cells hold are in their ranges -/
theorem Jd_rg {mi : Nat} {Q : Option mV → mM → Prop} {bd : Nat × Nat} {pc : Nat} {L : mLs} {st : List mV} {μ : mM} (h : mRg μ → Jd mi Q bd pc L st μ) : Jd mi Q bd pc L st μ := by
  intro E P l e R s m args below meth c Z C F ls H locs hL hOL hOS hH hS hb1 hb2
  exact h hH.2.2.2.2.2.2 E P l e R s m args below meth c Z C F ls H locs hL hOL hOS hH hS hb1 hb2
theorem Jd_okL {mi : Nat} {Q : Option mV → mM → Prop} {bd : Nat × Nat} {pc : Nat} {L : mLs} {st : List mV} {μ : mM} (h : (∀ v : mV, some v ∈ L → mOk v) → Jd mi Q bd pc L st μ) : Jd mi Q bd pc L st μ := by
  intro E P l e R s m args below meth c Z C F ls H locs hL hOL hOS hH hS hb1 hb2
  exact h hOL E P l e R s m args below meth c Z C F ls H locs hL hOL hOS hH hS hb1 hb2
theorem Jd_mono {mi : Nat} {Q Q' : Option mV → mM → Prop} {bd : Nat × Nat} {pc : Nat} {L : mLs} {st : List mV} {μ : mM} (hq : ∀ r μ', Q r μ' → Q' r μ') (h : Jd mi Q bd pc L st μ) : Jd mi Q' bd pc L st μ := by
  intro E P l e R s m args below meth c Z C F ls H locs hL hOL hOS hH hS hb1 hb2
  exact h E P l e R s m args below meth c Z C (fun v μ' pc' ls H locs cells slots h1 => F v μ' pc' ls H locs cells slots (hq v μ' h1)) ls H locs hL hOL hOS hH hS hb1 hb2
theorem Cl_mono {mi : Nat} {args : List mV} {μ : mM} {Q Q' : Option mV → mM → Prop} (h : Cl mi args μ Q) (hq : ∀ r μ', Q r μ' → Q' r μ') : Cl mi args μ Q' := Jd_mono hq h
