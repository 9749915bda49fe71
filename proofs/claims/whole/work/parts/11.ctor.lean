/-! THE CONSTRUCTORS: run by program -/
abbrev cT : Type := Nat × List (Nat × Nat) × List ((Nat × Nat) × Nat) × List ((Nat × Int) × Int)
def dtf (X : Int → Int) (dl : List ((Nat × Int) × Int)) (r : Nat) (j : Int) : Int := match dl.find? (fun e => e.1 == (r, j)) with
  | some e => e.2
  | none => if r = 1 then X j else if r = 10 then NXT j else 0
def toM (L : Nat) (X : Int → Int) (c : cT) : mM := (c.1, shf L c.2.1, rff c.2.2.1, dtf X c.2.2.2)
def cwf (c : cT) : Bool := decide (c.2.1.length = 16 + c.1) && c.2.2.1.all (fun e => decide (e.1.1 < 16 + c.1)) && c.2.2.2.all (fun e => decide (e.1.1 < 16 + c.1))
def cnew (c : cT) (s : Nat × Nat) : cT := (c.1 + 1, c.2.1 ++ [s], c.2.2)
def cputr (c : cT) (r k x : Nat) : cT := (c.1, c.2.1, ((r, k), x) :: c.2.2.1, c.2.2.2)
def cput (c : cT) (r : Nat) (j x : Int) : cT := (c.1, c.2.1, c.2.2.1, ((r, j), x) :: c.2.2.2)
def ckd (c : cT) (r : Nat) : Nat := (c.2.1.getD r (99, 0)).1
theorem toM_kd {L : Nat} {X : Int → Int} {c : cT} {r : Nat} (hr : 16 ≤ r) : ((toM L X c).2.1 r).1 = ckd c r := by
  show (shf L c.2.1 r).1 = _
  unfold shf ckd
  rw [if_neg (by omega)]
theorem rff_big {al : List ((Nat × Nat) × Nat)} {r k n : Nat} (h : ∀ e ∈ al, e.1.1 < n) (hr : n ≤ r) : rff al r k = 0 := by
  unfold rff
  rw [List.find?_eq_none.mpr]
  intro e he hq
  have h1 := h e he
  have h2 : e.1 = (r, k) := by simpa using hq
  rw [h2] at h1
  have : r < n := h1
  omega
theorem dtf_big {X : Int → Int} {dl : List ((Nat × Int) × Int)} {r n : Nat} {j : Int} (h : ∀ e ∈ dl, e.1.1 < n) (hr : n ≤ r) (hn : 16 ≤ n) : dtf X dl r j = 0 := by
  unfold dtf
  rw [List.find?_eq_none.mpr]
  · show (if r = 1 then X j else if r = 10 then NXT j else 0) = 0
    rw [if_neg (by omega), if_neg (by omega)]
  · intro e he hq
    have h1 := h e he
    have h2 : e.1 = (r, j) := by simpa using hq
    rw [h2] at h1
    have : r < n := h1
    omega
theorem cnew_m {L : Nat} {X : Int → Int} {c : cT} {s : Nat × Nat} (hw : cwf c = true) : mnew (toM L X c) s = toM L X (cnew c s) := by
  unfold cwf at hw
  simp only [Bool.and_eq_true, decide_eq_true_eq, List.all_eq_true] at hw
  obtain ⟨⟨h1, h2⟩, h3⟩ := hw
  refine Prod.ext rfl (Prod.ext ?_ (Prod.ext ?_ ?_))
  · funext r
    show (if r = 16 + c.1 then s else shf L c.2.1 r) = shf L (c.2.1 ++ [s]) r
    unfold shf
    by_cases e : r = 16 + c.1
    · rw [if_pos e, if_neg (by omega), List.getD_eq_getElem?_getD, List.getElem?_append_right (by omega), show r - c.2.1.length = 0 by omega]
      rfl
    · rw [if_neg e]
      by_cases e2 : r = 1
      · rw [if_pos e2, if_pos e2]
      · rw [if_neg e2, if_neg e2, List.getD_eq_getElem?_getD, List.getD_eq_getElem?_getD]
        by_cases e3 : r < c.2.1.length
        · rw [List.getElem?_append_left e3]
        · rw [List.getElem?_eq_none (by omega), List.getElem?_eq_none (by simp; omega)]
  · funext r k
    show (if r = 16 + c.1 then 0 else rff c.2.2.1 r k) = rff c.2.2.1 r k
    by_cases e : r = 16 + c.1
    · rw [if_pos e, rff_big h2 (by omega)]
    · rw [if_neg e]
  · funext r j
    show (if r = 16 + c.1 then 0 else dtf X c.2.2.2 r j) = dtf X c.2.2.2 r j
    by_cases e : r = 16 + c.1
    · rw [if_pos e, dtf_big h3 (by omega) (by omega)]
    · rw [if_neg e]
theorem cputr_m {L : Nat} {X : Int → Int} {c : cT} {r k x : Nat} : mputr (toM L X c) r k x = toM L X (cputr c r k x) := by
  refine Prod.ext rfl (Prod.ext rfl (Prod.ext ?_ rfl))
  funext a i
  show (if a = r ∧ i = k then x else rff c.2.2.1 a i) = rff (((r, k), x) :: c.2.2.1) a i
  unfold rff
  by_cases e : a = r ∧ i = k
  · rw [if_pos e, List.find?_cons_of_pos (by simp [e.1, e.2])]
  · rw [if_neg e, List.find?_cons_of_neg (by simp; intro h1 h2; exact e ⟨h1.symm, h2.symm⟩)]
theorem cput_m {L : Nat} {X : Int → Int} {c : cT} {r : Nat} {j x : Int} : mput (toM L X c) r j x = toM L X (cput c r j x) := by
  refine Prod.ext rfl (Prod.ext rfl (Prod.ext rfl ?_))
  funext a i
  show (if a = r ∧ i = j then x else dtf X c.2.2.2 a i) = dtf X (((r, j), x) :: c.2.2.2) a i
  unfold dtf
  by_cases e : a = r ∧ i = j
  · rw [if_pos e, List.find?_cons_of_pos (by simp [e.1, e.2])]
  · rw [if_neg e, List.find?_cons_of_neg (by simp; intro h1 h2; exact e ⟨h1.symm, h2.symm⟩)]
/-- the constructors' blocks -/
def ctB (a : Nat) : List mI :=
  if a = i_Ch_init then b_Ch_init_0 else
  if a = i_De_init then b_De_init_0 else
  if a = i_La_init then b_La_init_0 else
  if a = i_Pa_init then b_Pa_init_0 else
  if a = i_Re_init then b_Re_init_0 else
  if a = i_Rc_init then b_Rc_init_0 else
  if a = i_Sc_init then b_Sc_init_0 else
  if a = i_Ta_init then b_Ta_init_0 else
  if a = i_Te_init then b_Te_init_0 else
  if a = i_To_init then b_To_init_0 else
  if a = i_Wm_init then b_Wm_init_0 else
  if a = i_Mo_init then b_Mo_init_0 else
  []
def ctN (a : Nat) : Nat :=
  if a = i_Ch_init then 13 else
  if a = i_De_init then 56 else
  if a = i_La_init then 86 else
  if a = i_Pa_init then 48 else
  if a = i_Re_init then 23 else
  if a = i_Rc_init then 21 else
  if a = i_Sc_init then 5 else
  if a = i_Ta_init then 14 else
  if a = i_Te_init then 10 else
  if a = i_To_init then 116 else
  if a = i_Wm_init then 121 else
  if a = i_Mo_init then 337 else
  0
def cpop : Nat → List mV → List mV → Option (List mV × List mV)
  | 0, st, acc => some (acc, st)
  | n + 1, v :: st, acc => cpop n st (v :: acc)
  | _ + 1, [], _ => none
theorem cpop_sp {f : List mV → List mV → Prop} : ∀ (n : Nat) (st acc a s : List mV), cpop n st acc = some (a, s) → f a s → mpop n st acc f
  | 0, st, acc, a, s, h, hf => by
    cases h
    exact hf
  | n + 1, v :: st, acc, a, s, h, hf => cpop_sp n st (v :: acc) a s h hf
  | _ + 1, [], _, _, _, h, _ => by cases h
def crcv : List mV → Bool
  | .inr (.inr _) :: _ => true
  | _ => false
def exB : Nat → Nat → List mI → (Nat × Nat) → mLs → List mV → cT → Option cT
  | 0, _, _, _, _, _, _ => none
  | _ + 1, _, [], _, _, _, _ => none
  | f + 1, mi, (ins, _, a, b, _, t, z, _) :: is, bd, L, st, c => match ins with
    | .aload_n _ => (match mget L a with
      | some (.inr (.inr r)) => exB f mi is bd L (.inr (.inr r) :: st) c
      | _ => none)
    | .iconst _ => exB f mi is bd L (.inl z :: st) c
    | .bipush _ => exB f mi is bd L (.inl z :: st) c
    | .sipush _ => exB f mi is bd L (.inl z :: st) c
    | .ldc _ => (match t with
      | 0 => exB f mi is bd L (.inl z :: st) c
      | _ => none)
    | .dup => (match st with
      | .inr (.inr x) :: st => exB f mi is bd L (.inr (.inr x) :: .inr (.inr x) :: st) c
      | _ => none)
    | .new _ => if cwf c && decide (bd.1 + 1 ≤ mCe mi) && decide (bd.2 + b ≤ mSl mi) then exB f mi is (bd.1 + 1, bd.2 + b) L (.inr (.inr (16 + c.1)) :: st) (cnew c (a, 0)) else none
    | .newarray _ => (match st with
      | .inl n :: st => if cwf c && decide (0 ≤ n) && decide (n ≤ 1000000) && decide (bd.1 + 1 ≤ mCe mi) && decide (bd.2 + n.toNat ≤ mSl mi) then exB f mi is (bd.1 + 1, bd.2 + n.toNat) L (.inr (.inr (16 + c.1)) :: st) (cnew c (a, n.toNat)) else none
      | _ => none)
    | .getfield _ => (match st with
      | .inr (.inr r) :: st => (match t with
        | 2 => if decide (16 ≤ r) && decide (ckd c r = a) && decide (rff c.2.2.1 r b ≠ 0) then exB f mi is bd L (.inr (.inr (rff c.2.2.1 r b)) :: st) c else none
        | _ => none)
      | _ => none)
    | .putfield _ => (match t, st with
      | 0, .inl x :: .inr (.inr r) :: st => if decide (16 ≤ r) && decide (ckd c r = a) then exB f mi is bd L st (cput c r z x) else none
      | 2, .inr (.inr x) :: .inr (.inr r) :: st => if decide (16 ≤ r) && decide (ckd c r = a) then exB f mi is bd L st (cputr c r b x) else none
      | _, _ => none)
    | .invokespecial _ => (match t with
      | 0 => (match st with
        | .inr (.inr _) :: st => if Nat.ble (mcat st) 8 then exB f mi is bd L st c else none
        | _ => none)
      | _ => (match cpop b st [] with
        | some (args, st) => if (Nat.ble (mcat args) z.toNat && Nat.ble (mcat st) 8) && crcv args && decide (bd.1 + mCe a ≤ mCe mi) && decide (bd.2 + mSl a ≤ mSl mi) && decide (ctB a ≠ []) then
            (match exB f a (ctB a) (0, 0) (mEnt (mN a) args) [] c with
            | some c' => exB f mi is (bd.1 + mCe a, bd.2 + mSl a) L st c'
            | none => none) else none
        | none => none))
    | .return_ => (match st with
      | [] => some c
      | _ => none)
    | _ => none
theorem ctB_sp {a : Nat} {Q : Option mV → mM → Prop} {L : mLs} {μ : mM} (h : ctB a ≠ []) (hw : mwp a Q (ctN a) (ctB a) (0, 0) L [] μ) : Jd a Q (0, 0) 0 L [] μ := by
  unfold ctB at h hw
  unfold ctN at hw
  by_cases e : a = i_Ch_init
  · subst e
    exact B_Ch_init_0 hw
  rw [if_neg e] at h hw
  rw [if_neg e] at hw
  by_cases e : a = i_De_init
  · subst e
    exact B_De_init_0 hw
  rw [if_neg e] at h hw
  rw [if_neg e] at hw
  by_cases e : a = i_La_init
  · subst e
    exact B_La_init_0 hw
  rw [if_neg e] at h hw
  rw [if_neg e] at hw
  by_cases e : a = i_Pa_init
  · subst e
    exact B_Pa_init_0 hw
  rw [if_neg e] at h hw
  rw [if_neg e] at hw
  by_cases e : a = i_Re_init
  · subst e
    exact B_Re_init_0 hw
  rw [if_neg e] at h hw
  rw [if_neg e] at hw
  by_cases e : a = i_Rc_init
  · subst e
    exact B_Rc_init_0 hw
  rw [if_neg e] at h hw
  rw [if_neg e] at hw
  by_cases e : a = i_Sc_init
  · subst e
    exact B_Sc_init_0 hw
  rw [if_neg e] at h hw
  rw [if_neg e] at hw
  by_cases e : a = i_Ta_init
  · subst e
    exact B_Ta_init_0 hw
  rw [if_neg e] at h hw
  rw [if_neg e] at hw
  by_cases e : a = i_Te_init
  · subst e
    exact B_Te_init_0 hw
  rw [if_neg e] at h hw
  rw [if_neg e] at hw
  by_cases e : a = i_To_init
  · subst e
    exact B_To_init_0 hw
  rw [if_neg e] at h hw
  rw [if_neg e] at hw
  by_cases e : a = i_Wm_init
  · subst e
    exact B_Wm_init_0 hw
  rw [if_neg e] at h hw
  rw [if_neg e] at hw
  by_cases e : a = i_Mo_init
  · subst e
    exact B_Mo_init_0 hw
  rw [if_neg e] at h hw
  rw [if_neg e] at hw
  exact absurd rfl h
theorem exB_sp {Lx : Nat} {X : Int → Int} : ∀ (f mi : Nat) (is : List mI) (bd : Nat × Nat) (L : mLs) (st : List mV) (c c' : cT) (Q : Option mV → mM → Prop) (nx : Nat), exB f mi is bd L st c = some c' → Q none (toM Lx X c') → mwp mi Q nx is bd L st (toM Lx X c) := by
  intro f
  induction f with
  | zero =>
    intro mi is bd L st c c' Q nx h
    cases h
  | succ f ih =>
    intro mi is bd L st c c' Q nx h hQ
    cases is with
    | nil => cases h
    | cons i is =>
      obtain ⟨ins, len, a, b, p, t, z, ts⟩ := i
      show mst mi Q bd L st (toM Lx X c) (fun bd L st μ => mwp mi Q nx is bd L st μ) a b t z ts ins
      cases ins with
      | aload_n n =>
        show mgr L a _
        have h : (match mget L a with
          | some (.inr (.inr r)) => exB f mi is bd L (.inr (.inr r) :: st) c
          | _ => none) = some c' := h
        unfold mgr
        split at h
        · rename_i r hr
          rw [hr]
          exact ih _ _ _ _ _ _ _ _ _ h hQ
        · cases h
      | iconst n => exact ih _ _ _ _ _ _ _ _ _ h hQ
      | bipush n => exact ih _ _ _ _ _ _ _ _ _ h hQ
      | sipush n => exact ih _ _ _ _ _ _ _ _ _ h hQ
      | ldc n =>
        cases t with
        | zero => exact ih _ _ _ _ _ _ _ _ _ h hQ
        | succ t => cases h
      | dup =>
        rcases st with _ | ⟨x | x | x, st⟩
        · cases h
        · cases h
        · cases h
        · exact ih _ _ _ _ _ _ _ _ _ h hQ
      | new n =>
        have h : (if (cwf c && decide (bd.1 + 1 ≤ mCe mi) && decide (bd.2 + b ≤ mSl mi)) = true then exB f mi is (bd.1 + 1, bd.2 + b) L (.inr (.inr (16 + c.1)) :: st) (cnew c (a, 0)) else none) = some c' := h
        split at h
        · rename_i hc
          simp only [Bool.and_eq_true, decide_eq_true_eq] at hc
          refine ⟨hc.1.2, hc.2, ?_⟩
          rw [cnew_m hc.1.1]
          exact ih _ _ _ _ _ _ _ _ _ h hQ
        · cases h
      | newarray ty =>
        rcases st with _ | ⟨n | n | n, st⟩
        · cases h
        · have h : (if (cwf c && decide (0 ≤ n) && decide (n ≤ 1000000) && decide (bd.1 + 1 ≤ mCe mi) && decide (bd.2 + n.toNat ≤ mSl mi)) = true then exB f mi is (bd.1 + 1, bd.2 + n.toNat) L (.inr (.inr (16 + c.1)) :: st) (cnew c (a, n.toNat)) else none) = some c' := h
          split at h
          · rename_i hc
            simp only [Bool.and_eq_true, decide_eq_true_eq] at hc
            refine ⟨hc.1.1.1.2, hc.1.1.2, hc.1.2, hc.2, ?_⟩
            rw [cnew_m hc.1.1.1.1]
            exact ih _ _ _ _ _ _ _ _ _ h hQ
          · cases h
        · cases h
        · cases h
      | getfield n =>
        rcases st with _ | ⟨r | r | r, st⟩
        · cases h
        · cases h
        · cases h
        · rcases t with _ | _ | _ | t
          · cases h
          · cases h
          · have h : (if (decide (16 ≤ r) && decide (ckd c r = a) && decide (rff c.2.2.1 r b ≠ 0)) = true then exB f mi is bd L (.inr (.inr (rff c.2.2.1 r b)) :: st) c else none) = some c' := h
            split at h
            · rename_i hc
              simp only [Bool.and_eq_true, decide_eq_true_eq] at hc
              refine ⟨by rw [toM_kd hc.1.1]; exact hc.1.2, hc.1.1, hc.2, ?_⟩
              exact ih _ _ _ _ _ _ _ _ _ h hQ
            · cases h
          · cases h
      | putfield n =>
        rcases t with _ | _ | _ | t
        · rcases st with _ | ⟨x | x | x, _ | ⟨r | r | r, st⟩⟩
          · cases h
          · cases h
          · cases h
          · cases h
          · have h : (if (decide (16 ≤ r) && decide (ckd c r = a)) = true then exB f mi is bd L st (cput c r z x) else none) = some c' := h
            split at h
            · rename_i hc
              simp only [Bool.and_eq_true, decide_eq_true_eq] at hc
              refine ⟨by rw [toM_kd hc.1]; exact hc.2, hc.1, ?_⟩
              rw [cput_m]
              exact ih _ _ _ _ _ _ _ _ _ h hQ
            · cases h
          all_goals cases h
        · cases h
        · rcases st with _ | ⟨x | x | x, _ | ⟨r | r | r, st⟩⟩
          all_goals first | (cases h; done) | skip
          have h : (if (decide (16 ≤ r) && decide (ckd c r = a)) = true then exB f mi is bd L st (cputr c r b x) else none) = some c' := h
          split at h
          · rename_i hc
            simp only [Bool.and_eq_true, decide_eq_true_eq] at hc
            refine ⟨by rw [toM_kd hc.1]; exact hc.2, hc.1, ?_⟩
            rw [cputr_m]
            exact ih _ _ _ _ _ _ _ _ _ h hQ
          · cases h
        · cases h
      | invokespecial n =>
        cases t with
        | zero =>
          rcases st with _ | ⟨x | x | x, st⟩
          · cases h
          · cases h
          · cases h
          · have h : (if Nat.ble (mcat st) 8 = true then exB f mi is bd L st c else none) = some c' := h
            split at h
            · rename_i hc
              exact ⟨hc, ih _ _ _ _ _ _ _ _ _ h hQ⟩
            · cases h
        | succ t =>
          have h : (match cpop b st [] with
            | some (args, st) => if ((Nat.ble (mcat args) z.toNat && Nat.ble (mcat st) 8) && crcv args && decide (bd.1 + mCe a ≤ mCe mi) && decide (bd.2 + mSl a ≤ mSl mi) && decide (ctB a ≠ [])) = true then
                (match exB f a (ctB a) (0, 0) (mEnt (mN a) args) [] c with
                | some c' => exB f mi is (bd.1 + mCe a, bd.2 + mSl a) L st c'
                | none => none) else none
            | none => none) = some c' := h
          split at h
          · rename_i args st' hp
            split at h
            · rename_i hc
              simp only [Bool.and_eq_true, decide_eq_true_eq] at hc
              split at h
              · rename_i c2 h2
                refine cpop_sp b st [] args st' hp ⟨by rw [Bool.and_eq_true]; exact hc.1.1.1.1, ?_, hc.1.1.2, hc.1.2, ?_⟩
                · have := hc.1.1.1.2
                  rcases args with _ | ⟨x | x | x, args⟩
                  · cases this
                  · cases this
                  · cases this
                  · trivial
                · exact ctB_sp hc.2 (ih _ _ _ _ _ _ _ _ _ h2 (ih _ _ _ _ _ _ _ _ _ h hQ))
              · cases h
            · cases h
          · cases h
      | return_ =>
        cases st with
        | nil => cases h; exact hQ
        | cons v st => cases h
      | _ => cases h
