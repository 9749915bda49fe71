/-! SOUNDNESS, 1: instructions that touch no cell -/
def mSnd (ins : Instr) : Prop := ∀ (mi pc : Nat) (Q : Option mV → mM → Prop) (bd : Nat × Nat) (L : mLs) (st : List mV) (μ : mM) (len a b p t : Nat) (z : Int) (ts : List Nat) (k : (Nat × Nat) → mLs → List mV → mM → Prop),
  decode (mB mi) pc = .ok (ins, len) → mopk mi pc ins len a b p t z ts = true → mst mi Q bd L st μ k a b t z ts ins → (∀ bd' L' st' μ', k bd' L' st' μ' → Jd mi Q bd' (pc + len) L' st' μ') → Jd mi Q bd pc L st μ
theorem inI_t (x : Int32) : inI x.toInt := ⟨by have := x.le_toInt; omega, by have := x.toInt_lt; omega⟩
theorem inL_t (x : Int64) : inL x.toInt := ⟨by have := x.le_toInt; omega, by have := x.toInt_lt; omega⟩
theorem inI_r {x : Int} (h : inI x) : (Int32.ofInt x).toInt = x := Int32.toInt_ofInt_of_le (by have := h.1; omega) (by have := h.2; omega)
theorem inL_r {x : Int} (h : inL x) : (Int64.ofInt x).toInt = x := Int64.toInt_ofInt_of_le (by have := h.1; omega) (by have := h.2; omega)
theorem inI_eq {x y : Int} (hx : inI x) (hy : inI y) : Int32.ofInt x = Int32.ofInt y ↔ x = y := by rw [← Int32.toInt_inj, inI_r hx, inI_r hy]
theorem inI_lt {x y : Int} (hx : inI x) (hy : inI y) : Int32.ofInt x < Int32.ofInt y ↔ x < y := by rw [Int32.lt_iff_toInt_lt, inI_r hx, inI_r hy]
theorem inI_le {x y : Int} (hx : inI x) (hy : inI y) : Int32.ofInt x ≤ Int32.ofInt y ↔ x ≤ y := by rw [Int32.le_iff_toInt_le, inI_r hx, inI_r hy]
theorem inI_0 : inI 0 := by decide
theorem ofI0 : Int32.ofInt 0 = 0 := rfl
theorem mOk_c {v : mV} {st : List mV} (h : mOk v) (hs : ∀ w ∈ st, mOk w) : ∀ w ∈ v :: st, mOk w := fun w hw => by
  rcases List.mem_cons.mp hw with rfl | h2
  · exact h
  · exact hs w h2
theorem mOk_1 {v : mV} {st : List mV} (h : ∀ w ∈ v :: st, mOk w) : mOk v := h v List.mem_cons_self
theorem mOk_t {v : mV} {st : List mV} (h : ∀ w ∈ v :: st, mOk w) : ∀ w ∈ st, mOk w := fun w hw => h w (List.mem_cons_of_mem _ hw)
theorem mii_sp {st : List mV} {f : Int → Int → List mV → Prop} (h : mii st f) : ∃ (x : Int) (y : Int) (st' : List mV), st = .inl y :: .inl x :: st' ∧ f x y st' := by
  unfold mii at h
  split at h
  · exact ⟨_, _, _, rfl, h⟩
  · exact h.elim
theorem mll_sp {st : List mV} {f : Int → Int → List mV → Prop} (h : mll st f) : ∃ (x : Int) (y : Int) (st' : List mV), st = .inr (.inl y) :: .inr (.inl x) :: st' ∧ f x y st' := by
  unfold mll at h
  split at h
  · exact ⟨_, _, _, rfl, h⟩
  · exact h.elim
theorem mli_sp {st : List mV} {f : Int → Int → List mV → Prop} (h : mli st f) : ∃ (x : Int) (y : Int) (st' : List mV), st = .inl y :: .inr (.inl x) :: st' ∧ f x y st' := by
  unfold mli at h
  split at h
  · exact ⟨_, _, _, rfl, h⟩
  · exact h.elim
theorem mi1_sp {st : List mV} {f : Int → List mV → Prop} (h : mi1 st f) : ∃ (x : Int) (st' : List mV), st = .inl x :: st' ∧ f x st' := by
  unfold mi1 at h
  split at h
  · exact ⟨_, _, rfl, h⟩
  · exact h.elim
theorem ml1_sp {st : List mV} {f : Int → List mV → Prop} (h : ml1 st f) : ∃ (x : Int) (st' : List mV), st = .inr (.inl x) :: st' ∧ f x st' := by
  unfold ml1 at h
  split at h
  · exact ⟨_, _, rfl, h⟩
  · exact h.elim
theorem mr1_sp {st : List mV} {f : Nat → List mV → Prop} (h : mr1 st f) : ∃ (x : Nat) (st' : List mV), st = .inr (.inr x) :: st' ∧ f x st' := by
  unfold mr1 at h
  split at h
  · exact ⟨_, _, rfl, h⟩
  · exact h.elim
theorem mir_sp {st : List mV} {f : Int → Nat → List mV → Prop} (h : mir st f) : ∃ (x : Int) (r : Nat) (st' : List mV), st = .inl x :: .inr (.inr r) :: st' ∧ f x r st' := by
  unfold mir at h
  split at h
  · exact ⟨_, _, _, rfl, h⟩
  · exact h.elim
theorem mlr_sp {st : List mV} {f : Int → Nat → List mV → Prop} (h : mlr st f) : ∃ (x : Int) (r : Nat) (st' : List mV), st = .inr (.inl x) :: .inr (.inr r) :: st' ∧ f x r st' := by
  unfold mlr at h
  split at h
  · exact ⟨_, _, _, rfl, h⟩
  · exact h.elim
theorem mrr_sp {st : List mV} {f : Nat → Nat → List mV → Prop} (h : mrr st f) : ∃ (x : Nat) (r : Nat) (st' : List mV), st = .inr (.inr x) :: .inr (.inr r) :: st' ∧ f x r st' := by
  unfold mrr at h
  split at h
  · exact ⟨_, _, _, rfl, h⟩
  · exact h.elim
theorem miir_sp {st : List mV} {f : Int → Int → Nat → List mV → Prop} (h : miir st f) : ∃ (x : Int) (i : Int) (r : Nat) (st' : List mV), st = .inl x :: .inl i :: .inr (.inr r) :: st' ∧ f x i r st' := by
  unfold miir at h
  split at h
  · exact ⟨_, _, _, _, rfl, h⟩
  · exact h.elim
theorem mlir_sp {st : List mV} {f : Int → Int → Nat → List mV → Prop} (h : mlir st f) : ∃ (x : Int) (i : Int) (r : Nat) (st' : List mV), st = .inr (.inl x) :: .inl i :: .inr (.inr r) :: st' ∧ f x i r st' := by
  unfold mlir at h
  split at h
  · exact ⟨_, _, _, _, rfl, h⟩
  · exact h.elim
theorem mgi_sp {L : mLs} {a : Nat} {f : Int → Prop} (h : mgi L a f) : ∃ x : Int, mget L a = some (.inl x) ∧ f x := by
  unfold mgi at h
  split at h
  · rename_i x hx
    exact ⟨x, hx, h⟩
  · exact h.elim
theorem mgl_sp {L : mLs} {a : Nat} {f : Int → Prop} (h : mgl L a f) : ∃ x : Int, mget L a = some (.inr (.inl x)) ∧ f x := by
  unfold mgl at h
  split at h
  · rename_i x hx
    exact ⟨x, hx, h⟩
  · exact h.elim
theorem mgr_sp {L : mLs} {a : Nat} {f : Nat → Prop} (h : mgr L a f) : ∃ x : Nat, mget L a = some (.inr (.inr x)) ∧ f x := by
  unfold mgr at h
  split at h
  · rename_i x hx
    exact ⟨x, hx, h⟩
  · exact h.elim
theorem mget_pr (E : mE) : ∀ (L : mLs) (i a : Nat) (v : mV), mget L a = some v → (i + a, mcv E v) ∈ mPr E i L ∧ some v ∈ L
  | [], i, a, v, h => by simp [mget] at h
  | x :: L, i, 0, v, h => by
    have hx : x = some v := by simpa [mget] using h
    subst hx
    exact ⟨by simp [mPr], List.mem_cons_self⟩
  | x :: L, i, a + 1, v, h => by
    have h1 := mget_pr E L (i + 1) a v (by simpa [mget] using h)
    have e : i + (a + 1) = i + 1 + a := by omega
    rw [e]
    refine ⟨?_, List.mem_cons_of_mem _ h1.2⟩
    cases x with
    | none => exact h1.1
    | some w => exact List.mem_cons_of_mem _ h1.1
theorem mpr_get (E : mE) : ∀ (L : mLs) (i : Nat) (q : Nat × Value), q ∈ mPr E i L → ∃ (a : Nat) (v : mV), mget L a = some v ∧ q = (i + a, mcv E v)
  | [], i, q, h => by simp [mPr] at h
  | none :: L, i, q, h => by
    obtain ⟨a, v, h1, rfl⟩ := mpr_get E L (i + 1) q (by simpa [mPr] using h)
    exact ⟨a + 1, v, by simpa [mget] using h1, by rw [show i + (a + 1) = i + 1 + a by omega]⟩
  | some w :: L, i, q, h => by
    rcases List.mem_cons.mp (show q ∈ (i, mcv E w) :: mPr E (i + 1) L from h) with rfl | h
    · exact ⟨0, w, rfl, rfl⟩
    · obtain ⟨a, v, h1, rfl⟩ := mpr_get E L (i + 1) q h
      exact ⟨a + 1, v, by simpa [mget] using h1, by rw [show i + (a + 1) = i + 1 + a by omega]⟩
theorem mem_get : ∀ (L : mLs) (v : mV), some v ∈ L → ∃ a, mget L a = some v
  | [], v, h => by cases h
  | x :: L, v, h => by
    rcases List.mem_cons.mp h with rfl | h
    · exact ⟨0, rfl⟩
    · obtain ⟨a, h1⟩ := mem_get L v h
      exact ⟨a + 1, h1⟩
theorem mkill_sp {x : Option mV} {w : mV} (h : mkill x = some w) : x = some w ∧ ¬ ∃ y, w = .inr (.inl y) := by
  rcases x with _ | (y | y | y)
  · cases h
  · cases h
    exact ⟨rfl, fun ⟨_, q⟩ => by cases q⟩
  · cases h
  · cases h
    exact ⟨rfl, fun ⟨_, q⟩ => by cases q⟩
theorem mset_sp : ∀ (L : mLs) (a j : Nat) (v w : mV), mget (mset L a v) j = some w → (j = a ∧ w = v) ∨ (j ≠ a ∧ mget L j = some w ∧ ¬ (j + 1 = a ∧ ∃ y, w = .inr (.inl y)))
  | [], a, j, v, w, h => by simp [mset, mget] at h
  | x :: L, 0, 0, v, w, h => by
    left
    exact ⟨rfl, by simpa [mset, mget, eq_comm] using h⟩
  | x :: L, 0, j + 1, v, w, h => by
    right
    exact ⟨by omega, by simpa [mset, mget] using h, by omega⟩
  | x :: L, 1, 0, v, w, h => by
    right
    obtain ⟨h1, h2⟩ := mkill_sp (x := x) (w := w) (by simpa [mset, mget] using h)
    exact ⟨by omega, by rw [h1]; rfl, fun q => h2 q.2⟩
  | x :: L, 1, j + 1, v, w, h => by
    rcases mset_sp L 0 j v w (by simpa [mset, mget] using h) with ⟨h1, h2⟩ | ⟨h1, h2, h3⟩
    · exact Or.inl ⟨by omega, h2⟩
    · exact Or.inr ⟨by omega, by simpa [mget] using h2, fun q => h3 ⟨by omega, q.2⟩⟩
  | x :: L, n + 2, 0, v, w, h => by
    right
    exact ⟨by omega, by simpa [mset, mget] using h, by omega⟩
  | x :: L, n + 2, j + 1, v, w, h => by
    rcases mset_sp L (n + 1) j v w (by simpa [mset, mget] using h) with ⟨h1, h2⟩ | ⟨h1, h2, h3⟩
    · exact Or.inl ⟨by omega, h2⟩
    · exact Or.inr ⟨by omega, by simpa [mget] using h2, fun q => h3 ⟨by omega, q.2⟩⟩
theorem mset2_sp : ∀ (L : mLs) (a j : Nat) (v w : mV), mget (mset2 L a v) j = some w → (j = a ∧ w = v) ∨ (j ≠ a ∧ j ≠ a + 1 ∧ mget L j = some w ∧ ¬ (j + 1 = a ∧ ∃ y, w = .inr (.inl y)))
  | [], a, j, v, w, h => by simp [mset2, mget] at h
  | x :: L, 0, 0, v, w, h => by
    left
    exact ⟨rfl, by simpa [mset2, mget, eq_comm] using h⟩
  | x :: L, 0, j + 1, v, w, h => by
    right
    cases L with
    | nil => simp [mset2, mget] at h
    | cons y L =>
      cases j with
      | zero => simp [mset2, mget] at h
      | succ j => exact ⟨by omega, by omega, by simpa [mset2, mget] using h, by omega⟩
  | x :: L, 1, 0, v, w, h => by
    right
    obtain ⟨h1, h2⟩ := mkill_sp (x := x) (w := w) (by simpa [mset2, mget] using h)
    exact ⟨by omega, by omega, by rw [h1]; rfl, fun q => h2 q.2⟩
  | x :: L, 1, j + 1, v, w, h => by
    rcases mset2_sp L 0 j v w (by simpa [mset2, mget] using h) with ⟨h1, h2⟩ | ⟨h1, h0, h2, h3⟩
    · exact Or.inl ⟨by omega, h2⟩
    · exact Or.inr ⟨by omega, by omega, by simpa [mget] using h2, fun q => h3 ⟨by omega, q.2⟩⟩
  | x :: L, n + 2, 0, v, w, h => by
    right
    exact ⟨by omega, by omega, by simpa [mset2, mget] using h, by omega⟩
  | x :: L, n + 2, j + 1, v, w, h => by
    rcases mset2_sp L (n + 1) j v w (by simpa [mset2, mget] using h) with ⟨h1, h2⟩ | ⟨h1, h0, h2, h3⟩
    · exact Or.inl ⟨by omega, h2⟩
    · exact Or.inr ⟨by omega, by omega, by simpa [mget] using h2, fun q => h3 ⟨by omega, q.2⟩⟩
theorem mcv_cat {E : mE} {w : mV} (h : (mcv E w).category = 2) : ∃ y, w = .inr (.inl y) := by
  rcases w with x | x | x
  · simp [mcv, Value.category] at h
  · exact ⟨x, rfl⟩
  · simp [mcv, Value.category] at h
theorem mlv_has {ls : Array Slot} {n : Nat} {l l' : List (Nat × Value)} (h : lv_has ls n l) (hs : ∀ q ∈ l', q ∈ l) : lv_has ls n l' := ⟨h.1, h.2.1, fun q hq => h.2.2 q (hs q hq)⟩
theorem mlv_get {E : mE} {ls : Array Slot} {n a : Nat} {L : mLs} {v : mV} (h : lv_has ls n (mPr E 0 L)) (hg : mget L a = some v) : ls[a]? = some (.val (mcv E v)) := by
  have := h.2.2 _ (mget_pr E L 0 a v hg).1
  simpa using this
theorem mset_pr {E : mE} {ls : Array Slot} {n a : Nat} {L : mLs} {v : mV} (h : lv_has ls n ((a, mcv E v) :: (mPr E 0 L).filter (fun q => !(q.1 == a) && !(q.1 + 1 == a && q.2.category == 2)))) : lv_has ls n (mPr E 0 (mset L a v)) := by
  refine mlv_has h (fun q hq => ?_)
  obtain ⟨j, w, h1, rfl⟩ := mpr_get E _ 0 q hq
  rcases mset_sp L a j v w h1 with ⟨rfl, rfl⟩ | ⟨h2, h3, h4⟩
  · rw [Nat.zero_add]; exact List.mem_cons_self
  · refine List.mem_cons_of_mem _ (List.mem_filter.mpr ⟨(mget_pr E L 0 j w h3).1, ?_⟩)
    simp only [Nat.zero_add, Bool.and_eq_true, Bool.not_eq_true', beq_eq_false_iff_ne, ne_eq, Bool.and_eq_false_iff]
    refine ⟨h2, ?_⟩
    by_cases e : j + 1 = a
    · exact Or.inr (fun q => h4 ⟨e, mcv_cat q⟩)
    · exact Or.inl e
theorem mset2_pr {E : mE} {ls : Array Slot} {n a : Nat} {L : mLs} {v : mV} (h : lv_has ls n ((a, mcv E v) :: (mPr E 0 L).filter (fun q => !(q.1 == a) && (!(q.1 == a + 1) && !(q.1 + 1 == a && q.2.category == 2))))) : lv_has ls n (mPr E 0 (mset2 L a v)) := by
  refine mlv_has h (fun q hq => ?_)
  obtain ⟨j, w, h1, rfl⟩ := mpr_get E _ 0 q hq
  rcases mset2_sp L a j v w h1 with ⟨rfl, rfl⟩ | ⟨h2, h0, h3, h4⟩
  · rw [Nat.zero_add]; exact List.mem_cons_self
  · refine List.mem_cons_of_mem _ (List.mem_filter.mpr ⟨(mget_pr E L 0 j w h3).1, ?_⟩)
    simp only [Nat.zero_add, Bool.and_eq_true, Bool.not_eq_true', beq_eq_false_iff_ne, ne_eq, Bool.and_eq_false_iff]
    refine ⟨h2, h0, ?_⟩
    by_cases e : j + 1 = a
    · exact Or.inr (fun q => h4 ⟨e, mcv_cat q⟩)
    · exact Or.inl e
theorem mset_ok {L : mLs} {a : Nat} {v : mV} (hv : mOk v) (h : ∀ w : mV, some w ∈ L → mOk w) : ∀ w : mV, some w ∈ mset L a v → mOk w := by
  intro w hw
  obtain ⟨j, hj⟩ := mem_get _ _ hw
  rcases mset_sp L a j v w hj with ⟨-, rfl⟩ | ⟨-, h3, -⟩
  · exact hv
  · exact h w (mget_pr (0, (fun _ => 0, fun _ _ => 0), fun _ => 0, fun _ => 0) L 0 j w h3).2
theorem mset2_ok {L : mLs} {a : Nat} {v : mV} (hv : mOk v) (h : ∀ w : mV, some w ∈ L → mOk w) : ∀ w : mV, some w ∈ mset2 L a v → mOk w := by
  intro w hw
  obtain ⟨j, hj⟩ := mem_get _ _ hw
  rcases mset2_sp L a j v w hj with ⟨-, rfl⟩ | ⟨-, -, h3, -⟩
  · exact hv
  · exact h w (mget_pr (0, (fun _ => 0, fun _ _ => 0), fun _ => 0, fun _ => 0) L 0 j w h3).2
theorem mAt_sp {p : Nat} {w : Cond} {args : Array Value} {s : State} (hts : ∀ w ∈ lw_tbl, goodWord w = true → w.before args s = true) (h : mAt p w = true) : w.before args s = true := by
  unfold mAt at h
  rw [Bool.and_eq_true] at h
  exact hts w (List.mem_of_getElem? (of_decide_eq_true h.1)) h.2
theorem s_iadd : mSnd .iadd := by
  intro mi pc Q bd L st μ len a b p t z ts k hd ho h hk E P l e R s m args below meth c Z C F ls H locs hL hOL hOS hH hS hb1 hb2
  obtain ⟨hx, hb, hml, hown, hts, hnm, hfr, hlo, hce, hsl, hba⟩ := id C
  obtain rfl : len = 1 := of_decide_eq_true ho
  obtain ⟨x, y, st', rfl, h1, h⟩ := mii_sp h
  show W P l e R s m args below meth c H locs bd.1 bd.2 Z (F0 m pc ls (.int (Int32.ofInt y) :: .int (Int32.ofInt x) :: st'.map (mcv E)))
  refine lv_iadd hx hb hd ?_
  rw [← Int32.ofInt_add]
  exact hk _ _ _ _ h E P l e R s m args below meth c Z C F ls H locs hL hOL (mOk_c (v := .inl _) h1 (mOk_t (mOk_t hOS))) hH hS hb1 hb2
theorem s_isub : mSnd .isub := by
  intro mi pc Q bd L st μ len a b p t z ts k hd ho h hk E P l e R s m args below meth c Z C F ls H locs hL hOL hOS hH hS hb1 hb2
  obtain ⟨hx, hb, hml, hown, hts, hnm, hfr, hlo, hce, hsl, hba⟩ := id C
  obtain rfl : len = 1 := of_decide_eq_true ho
  obtain ⟨x, y, st', rfl, h1, h⟩ := mii_sp h
  show W P l e R s m args below meth c H locs bd.1 bd.2 Z (F0 m pc ls (.int (Int32.ofInt y) :: .int (Int32.ofInt x) :: st'.map (mcv E)))
  refine lv_isub hx hb hd ?_
  rw [← Int32.ofInt_sub]
  exact hk _ _ _ _ h E P l e R s m args below meth c Z C F ls H locs hL hOL (mOk_c (v := .inl _) h1 (mOk_t (mOk_t hOS))) hH hS hb1 hb2
theorem s_imul : mSnd .imul := by
  intro mi pc Q bd L st μ len a b p t z ts k hd ho h hk E P l e R s m args below meth c Z C F ls H locs hL hOL hOS hH hS hb1 hb2
  obtain ⟨hx, hb, hml, hown, hts, hnm, hfr, hlo, hce, hsl, hba⟩ := id C
  obtain rfl : len = 1 := of_decide_eq_true ho
  obtain ⟨x, y, st', rfl, h1, h⟩ := mii_sp h
  show W P l e R s m args below meth c H locs bd.1 bd.2 Z (F0 m pc ls (.int (Int32.ofInt y) :: .int (Int32.ofInt x) :: st'.map (mcv E)))
  refine lv_imul hx hb hd ?_
  rw [← Int32.ofInt_mul]
  exact hk _ _ _ _ h E P l e R s m args below meth c Z C F ls H locs hL hOL (mOk_c (v := .inl _) h1 (mOk_t (mOk_t hOS))) hH hS hb1 hb2
theorem s_ladd : mSnd .ladd := by
  intro mi pc Q bd L st μ len a b p t z ts k hd ho h hk E P l e R s m args below meth c Z C F ls H locs hL hOL hOS hH hS hb1 hb2
  obtain ⟨hx, hb, hml, hown, hts, hnm, hfr, hlo, hce, hsl, hba⟩ := id C
  obtain rfl : len = 1 := of_decide_eq_true ho
  obtain ⟨x, y, st', rfl, h1, h⟩ := mll_sp h
  show W P l e R s m args below meth c H locs bd.1 bd.2 Z (F0 m pc ls (.long (Int64.ofInt y) :: .long (Int64.ofInt x) :: st'.map (mcv E)))
  refine lv_ladd hx hb hd ?_
  rw [← Int64.ofInt_add]
  exact hk _ _ _ _ h E P l e R s m args below meth c Z C F ls H locs hL hOL (mOk_c (v := .inr (.inl _)) h1 (mOk_t (mOk_t hOS))) hH hS hb1 hb2
theorem s_lsub : mSnd .lsub := by
  intro mi pc Q bd L st μ len a b p t z ts k hd ho h hk E P l e R s m args below meth c Z C F ls H locs hL hOL hOS hH hS hb1 hb2
  obtain ⟨hx, hb, hml, hown, hts, hnm, hfr, hlo, hce, hsl, hba⟩ := id C
  obtain rfl : len = 1 := of_decide_eq_true ho
  obtain ⟨x, y, st', rfl, h1, h⟩ := mll_sp h
  show W P l e R s m args below meth c H locs bd.1 bd.2 Z (F0 m pc ls (.long (Int64.ofInt y) :: .long (Int64.ofInt x) :: st'.map (mcv E)))
  refine lv_lsub hx hb hd ?_
  rw [← Int64.ofInt_sub]
  exact hk _ _ _ _ h E P l e R s m args below meth c Z C F ls H locs hL hOL (mOk_c (v := .inr (.inl _)) h1 (mOk_t (mOk_t hOS))) hH hS hb1 hb2
theorem s_lmul : mSnd .lmul := by
  intro mi pc Q bd L st μ len a b p t z ts k hd ho h hk E P l e R s m args below meth c Z C F ls H locs hL hOL hOS hH hS hb1 hb2
  obtain ⟨hx, hb, hml, hown, hts, hnm, hfr, hlo, hce, hsl, hba⟩ := id C
  obtain rfl : len = 1 := of_decide_eq_true ho
  obtain ⟨x, y, st', rfl, h1, h⟩ := mll_sp h
  show W P l e R s m args below meth c H locs bd.1 bd.2 Z (F0 m pc ls (.long (Int64.ofInt y) :: .long (Int64.ofInt x) :: st'.map (mcv E)))
  refine lv_lmul hx hb hd ?_
  rw [← Int64.ofInt_mul]
  exact hk _ _ _ _ h E P l e R s m args below meth c Z C F ls H locs hL hOL (mOk_c (v := .inr (.inl _)) h1 (mOk_t (mOk_t hOS))) hH hS hb1 hb2
theorem s_iand : mSnd .iand := by
  intro mi pc Q bd L st μ len a b p t z ts k hd ho h hk E P l e R s m args below meth c Z C F ls H locs hL hOL hOS hH hS hb1 hb2
  obtain ⟨hx, hb, hml, hown, hts, hnm, hfr, hlo, hce, hsl, hba⟩ := id C
  obtain rfl : len = 1 := of_decide_eq_true ho
  obtain ⟨x, y, st', rfl, h⟩ := mii_sp h
  have ee : Int32.ofInt (iAnd x y) = Int32.ofInt x &&& Int32.ofInt y := Int32.ofInt_toInt _
  show W P l e R s m args below meth c H locs bd.1 bd.2 Z (F0 m pc ls (.int (Int32.ofInt y) :: .int (Int32.ofInt x) :: st'.map (mcv E)))
  refine lv_iand hx hb hd ?_
  rw [← ee]
  exact hk _ _ _ _ h E P l e R s m args below meth c Z C F ls H locs hL hOL (mOk_c (v := .inl _) (inI_t _) (mOk_t (mOk_t hOS))) hH hS hb1 hb2
theorem s_ior : mSnd .ior := by
  intro mi pc Q bd L st μ len a b p t z ts k hd ho h hk E P l e R s m args below meth c Z C F ls H locs hL hOL hOS hH hS hb1 hb2
  obtain ⟨hx, hb, hml, hown, hts, hnm, hfr, hlo, hce, hsl, hba⟩ := id C
  obtain rfl : len = 1 := of_decide_eq_true ho
  obtain ⟨x, y, st', rfl, h⟩ := mii_sp h
  have ee : Int32.ofInt (iOr x y) = Int32.ofInt x ||| Int32.ofInt y := Int32.ofInt_toInt _
  show W P l e R s m args below meth c H locs bd.1 bd.2 Z (F0 m pc ls (.int (Int32.ofInt y) :: .int (Int32.ofInt x) :: st'.map (mcv E)))
  refine lv_ior hx hb hd ?_
  rw [← ee]
  exact hk _ _ _ _ h E P l e R s m args below meth c Z C F ls H locs hL hOL (mOk_c (v := .inl _) (inI_t _) (mOk_t (mOk_t hOS))) hH hS hb1 hb2
theorem s_ixor : mSnd .ixor := by
  intro mi pc Q bd L st μ len a b p t z ts k hd ho h hk E P l e R s m args below meth c Z C F ls H locs hL hOL hOS hH hS hb1 hb2
  obtain ⟨hx, hb, hml, hown, hts, hnm, hfr, hlo, hce, hsl, hba⟩ := id C
  obtain rfl : len = 1 := of_decide_eq_true ho
  obtain ⟨x, y, st', rfl, h⟩ := mii_sp h
  have ee : Int32.ofInt (iXor x y) = Int32.ofInt x ^^^ Int32.ofInt y := Int32.ofInt_toInt _
  show W P l e R s m args below meth c H locs bd.1 bd.2 Z (F0 m pc ls (.int (Int32.ofInt y) :: .int (Int32.ofInt x) :: st'.map (mcv E)))
  refine lv_ixor hx hb hd ?_
  rw [← ee]
  exact hk _ _ _ _ h E P l e R s m args below meth c Z C F ls H locs hL hOL (mOk_c (v := .inl _) (inI_t _) (mOk_t (mOk_t hOS))) hH hS hb1 hb2
theorem s_ishl : mSnd .ishl := by
  intro mi pc Q bd L st μ len a b p t z ts k hd ho h hk E P l e R s m args below meth c Z C F ls H locs hL hOL hOS hH hS hb1 hb2
  obtain ⟨hx, hb, hml, hown, hts, hnm, hfr, hlo, hce, hsl, hba⟩ := id C
  obtain rfl : len = 1 := of_decide_eq_true ho
  obtain ⟨x, y, st', rfl, h⟩ := mii_sp h
  have ee : Int32.ofInt (iShl x y) = Int32.ofInt x <<< (Int32.ofInt y &&& 31) := Int32.ofInt_toInt _
  show W P l e R s m args below meth c H locs bd.1 bd.2 Z (F0 m pc ls (.int (Int32.ofInt y) :: .int (Int32.ofInt x) :: st'.map (mcv E)))
  refine lv_ishl hx hb hd ?_
  rw [← ee]
  exact hk _ _ _ _ h E P l e R s m args below meth c Z C F ls H locs hL hOL (mOk_c (v := .inl _) (inI_t _) (mOk_t (mOk_t hOS))) hH hS hb1 hb2
theorem s_ishr : mSnd .ishr := by
  intro mi pc Q bd L st μ len a b p t z ts k hd ho h hk E P l e R s m args below meth c Z C F ls H locs hL hOL hOS hH hS hb1 hb2
  obtain ⟨hx, hb, hml, hown, hts, hnm, hfr, hlo, hce, hsl, hba⟩ := id C
  obtain rfl : len = 1 := of_decide_eq_true ho
  obtain ⟨x, y, st', rfl, h⟩ := mii_sp h
  have ee : Int32.ofInt (iShr x y) = Int32.ofInt x >>> (Int32.ofInt y &&& 31) := Int32.ofInt_toInt _
  show W P l e R s m args below meth c H locs bd.1 bd.2 Z (F0 m pc ls (.int (Int32.ofInt y) :: .int (Int32.ofInt x) :: st'.map (mcv E)))
  refine lv_ishr hx hb hd ?_
  rw [← ee]
  exact hk _ _ _ _ h E P l e R s m args below meth c Z C F ls H locs hL hOL (mOk_c (v := .inl _) (inI_t _) (mOk_t (mOk_t hOS))) hH hS hb1 hb2
theorem s_iushr : mSnd .iushr := by
  intro mi pc Q bd L st μ len a b p t z ts k hd ho h hk E P l e R s m args below meth c Z C F ls H locs hL hOL hOS hH hS hb1 hb2
  obtain ⟨hx, hb, hml, hown, hts, hnm, hfr, hlo, hce, hsl, hba⟩ := id C
  obtain rfl : len = 1 := of_decide_eq_true ho
  obtain ⟨x, y, st', rfl, h⟩ := mii_sp h
  have ee : Int32.ofInt (iUsh x y) = ((Int32.ofInt x).toUInt32 >>> ((Int32.ofInt y).toUInt32 &&& Int32.toUInt32 31)).toInt32 := Int32.ofInt_toInt _
  show W P l e R s m args below meth c H locs bd.1 bd.2 Z (F0 m pc ls (.int (Int32.ofInt y) :: .int (Int32.ofInt x) :: st'.map (mcv E)))
  refine lv_iushr hx hb hd ee.symm ?_
  exact hk _ _ _ _ h E P l e R s m args below meth c Z C F ls H locs hL hOL (mOk_c (v := .inl _) (inI_t _) (mOk_t (mOk_t hOS))) hH hS hb1 hb2
theorem s_idiv : mSnd .idiv := by
  intro mi pc Q bd L st μ len a b p t z ts k hd ho h hk E P l e R s m args below meth c Z C F ls H locs hL hOL hOS hH hS hb1 hb2
  obtain ⟨hx, hb, hml, hown, hts, hnm, hfr, hlo, hce, hsl, hba⟩ := id C
  obtain rfl : len = 1 := of_decide_eq_true ho
  obtain ⟨x, y, st', rfl, h1, h⟩ := mii_sp h
  have hne : ¬ Int32.ofInt y = 0 := fun q => h1 ((inI_eq (mOk_1 hOS) inI_0).mp (q.trans ofI0.symm))
  have ee : Int32.ofInt (iDiv x y) = Int32.ofInt x / Int32.ofInt y := Int32.ofInt_toInt _
  show W P l e R s m args below meth c H locs bd.1 bd.2 Z (F0 m pc ls (.int (Int32.ofInt y) :: .int (Int32.ofInt x) :: st'.map (mcv E)))
  refine lv_idiv hx hb hd hne ?_
  rw [← ee]
  exact hk _ _ _ _ h E P l e R s m args below meth c Z C F ls H locs hL hOL (mOk_c (v := .inl _) (inI_t _) (mOk_t (mOk_t hOS))) hH hS hb1 hb2
theorem s_irem : mSnd .irem := by
  intro mi pc Q bd L st μ len a b p t z ts k hd ho h hk E P l e R s m args below meth c Z C F ls H locs hL hOL hOS hH hS hb1 hb2
  obtain ⟨hx, hb, hml, hown, hts, hnm, hfr, hlo, hce, hsl, hba⟩ := id C
  obtain rfl : len = 1 := of_decide_eq_true ho
  obtain ⟨x, y, st', rfl, h1, h⟩ := mii_sp h
  have hne : ¬ Int32.ofInt y = 0 := fun q => h1 ((inI_eq (mOk_1 hOS) inI_0).mp (q.trans ofI0.symm))
  have ee : Int32.ofInt (iRem x y) = Int32.ofInt x - Int32.ofInt x / Int32.ofInt y * Int32.ofInt y := Int32.ofInt_toInt _
  show W P l e R s m args below meth c H locs bd.1 bd.2 Z (F0 m pc ls (.int (Int32.ofInt y) :: .int (Int32.ofInt x) :: st'.map (mcv E)))
  refine lv_irem hx hb hd hne ?_
  rw [← ee]
  exact hk _ _ _ _ h E P l e R s m args below meth c Z C F ls H locs hL hOL (mOk_c (v := .inl _) (inI_t _) (mOk_t (mOk_t hOS))) hH hS hb1 hb2
theorem s_land : mSnd .land := by
  intro mi pc Q bd L st μ len a b p t z ts k hd ho h hk E P l e R s m args below meth c Z C F ls H locs hL hOL hOS hH hS hb1 hb2
  obtain ⟨hx, hb, hml, hown, hts, hnm, hfr, hlo, hce, hsl, hba⟩ := id C
  obtain rfl : len = 1 := of_decide_eq_true ho
  obtain ⟨x, y, st', rfl, h⟩ := mll_sp h
  have ee : Int64.ofInt (lAnd x y) = Int64.ofInt x &&& Int64.ofInt y := Int64.ofInt_toInt _
  show W P l e R s m args below meth c H locs bd.1 bd.2 Z (F0 m pc ls (.long (Int64.ofInt y) :: .long (Int64.ofInt x) :: st'.map (mcv E)))
  refine lv_land hx hb hd ?_
  rw [← ee]
  exact hk _ _ _ _ h E P l e R s m args below meth c Z C F ls H locs hL hOL (mOk_c (v := .inr (.inl _)) (inL_t _) (mOk_t (mOk_t hOS))) hH hS hb1 hb2
theorem s_lor : mSnd .lor := by
  intro mi pc Q bd L st μ len a b p t z ts k hd ho h hk E P l e R s m args below meth c Z C F ls H locs hL hOL hOS hH hS hb1 hb2
  obtain ⟨hx, hb, hml, hown, hts, hnm, hfr, hlo, hce, hsl, hba⟩ := id C
  obtain rfl : len = 1 := of_decide_eq_true ho
  obtain ⟨x, y, st', rfl, h⟩ := mll_sp h
  have ee : Int64.ofInt (lOr x y) = Int64.ofInt x ||| Int64.ofInt y := Int64.ofInt_toInt _
  show W P l e R s m args below meth c H locs bd.1 bd.2 Z (F0 m pc ls (.long (Int64.ofInt y) :: .long (Int64.ofInt x) :: st'.map (mcv E)))
  refine lv_lor hx hb hd ?_
  rw [← ee]
  exact hk _ _ _ _ h E P l e R s m args below meth c Z C F ls H locs hL hOL (mOk_c (v := .inr (.inl _)) (inL_t _) (mOk_t (mOk_t hOS))) hH hS hb1 hb2
theorem s_ldiv : mSnd .ldiv := by
  intro mi pc Q bd L st μ len a b p t z ts k hd ho h hk E P l e R s m args below meth c Z C F ls H locs hL hOL hOS hH hS hb1 hb2
  obtain ⟨hx, hb, hml, hown, hts, hnm, hfr, hlo, hce, hsl, hba⟩ := id C
  obtain rfl : len = 1 := of_decide_eq_true ho
  obtain ⟨x, y, st', rfl, h1, h⟩ := mll_sp h
  have hne : ¬ Int64.ofInt y = 0 := fun q => h1 (by have q2 := congrArg Int64.toInt q; rw [inL_r (mOk_1 hOS)] at q2; exact q2)
  have ee : Int64.ofInt (lDiv x y) = Int64.ofInt x / Int64.ofInt y := Int64.ofInt_toInt _
  show W P l e R s m args below meth c H locs bd.1 bd.2 Z (F0 m pc ls (.long (Int64.ofInt y) :: .long (Int64.ofInt x) :: st'.map (mcv E)))
  refine lv_ldiv hx hb hd hne ?_
  rw [← ee]
  exact hk _ _ _ _ h E P l e R s m args below meth c Z C F ls H locs hL hOL (mOk_c (v := .inr (.inl _)) (inL_t _) (mOk_t (mOk_t hOS))) hH hS hb1 hb2
theorem s_lshl : mSnd .lshl := by
  intro mi pc Q bd L st μ len a b p t z ts k hd ho h hk E P l e R s m args below meth c Z C F ls H locs hL hOL hOS hH hS hb1 hb2
  obtain ⟨hx, hb, hml, hown, hts, hnm, hfr, hlo, hce, hsl, hba⟩ := id C
  obtain rfl : len = 1 := of_decide_eq_true ho
  obtain ⟨x, y, st', rfl, h⟩ := mli_sp h
  have ee : Int64.ofInt (lShl x y) = Int64.ofInt x <<< ((Int32.ofInt y).toInt64 &&& 63) := Int64.ofInt_toInt _
  show W P l e R s m args below meth c H locs bd.1 bd.2 Z (F0 m pc ls (.int (Int32.ofInt y) :: .long (Int64.ofInt x) :: st'.map (mcv E)))
  refine lv_lshl hx hb hd ee.symm ?_
  exact hk _ _ _ _ h E P l e R s m args below meth c Z C F ls H locs hL hOL (mOk_c (v := .inr (.inl _)) (inL_t _) (mOk_t (mOk_t hOS))) hH hS hb1 hb2
theorem s_lshr : mSnd .lshr := by
  intro mi pc Q bd L st μ len a b p t z ts k hd ho h hk E P l e R s m args below meth c Z C F ls H locs hL hOL hOS hH hS hb1 hb2
  obtain ⟨hx, hb, hml, hown, hts, hnm, hfr, hlo, hce, hsl, hba⟩ := id C
  obtain rfl : len = 1 := of_decide_eq_true ho
  obtain ⟨x, y, st', rfl, h⟩ := mli_sp h
  have ee : Int64.ofInt (lShr x y) = Int64.ofInt x >>> ((Int32.ofInt y).toInt64 &&& 63) := Int64.ofInt_toInt _
  show W P l e R s m args below meth c H locs bd.1 bd.2 Z (F0 m pc ls (.int (Int32.ofInt y) :: .long (Int64.ofInt x) :: st'.map (mcv E)))
  refine lv_lshr hx hb hd ee.symm ?_
  exact hk _ _ _ _ h E P l e R s m args below meth c Z C F ls H locs hL hOL (mOk_c (v := .inr (.inl _)) (inL_t _) (mOk_t (mOk_t hOS))) hH hS hb1 hb2
theorem lCmp_e {x y : Int} (hx : inL x) (hy : inL y) : lg_cmp (Int64.ofInt x) (Int64.ofInt y) = Int32.ofInt (lCmp x y) := by
  unfold lg_cmp lCmp
  have e1 : (Int64.ofInt x > Int64.ofInt y) ↔ x > y := by
    show Int64.ofInt y < Int64.ofInt x ↔ _
    rw [Int64.lt_iff_toInt_lt, inL_r hx, inL_r hy]
  have e2 : (Int64.ofInt x = Int64.ofInt y) ↔ x = y := by rw [← Int64.toInt_inj, inL_r hx, inL_r hy]
  by_cases h1 : x > y
  · rw [if_pos (e1.mpr h1), if_pos h1]; rfl
  · rw [if_neg (fun q => h1 (e1.mp q)), if_neg h1]
    by_cases h2 : x = y
    · rw [if_pos (e2.mpr h2), if_pos h2]; rfl
    · rw [if_neg (fun q => h2 (e2.mp q)), if_neg h2]; rfl
theorem lCmp_in (x y : Int) : inI (lCmp x y) := by
  unfold lCmp
  split
  · decide
  · split <;> decide
theorem s_lcmp : mSnd .lcmp := by
  intro mi pc Q bd L st μ len a b p t z ts k hd ho h hk E P l e R s m args below meth c Z C F ls H locs hL hOL hOS hH hS hb1 hb2
  obtain ⟨hx, hb, hml, hown, hts, hnm, hfr, hlo, hce, hsl, hba⟩ := id C
  obtain rfl : len = 1 := of_decide_eq_true ho
  obtain ⟨x, y, st', rfl, h⟩ := mll_sp h
  show W P l e R s m args below meth c H locs bd.1 bd.2 Z (F0 m pc ls (.long (Int64.ofInt y) :: .long (Int64.ofInt x) :: st'.map (mcv E)))
  refine W.lcmp hx hb hd ?_
  rw [lCmp_e (mOk_1 (mOk_t hOS)) (mOk_1 hOS)]
  exact hk _ _ _ _ h E P l e R s m args below meth c Z C F ls H locs hL hOL (mOk_c (v := .inl _) (lCmp_in x y) (mOk_t (mOk_t hOS))) hH hS hb1 hb2
theorem s_i2l : mSnd .i2l := by
  intro mi pc Q bd L st μ len a b p t z ts k hd ho h hk E P l e R s m args below meth c Z C F ls H locs hL hOL hOS hH hS hb1 hb2
  obtain ⟨hx, hb, hml, hown, hts, hnm, hfr, hlo, hce, hsl, hba⟩ := id C
  obtain rfl : len = 1 := of_decide_eq_true ho
  obtain ⟨x, st', rfl, h⟩ := mi1_sp h
  have hx1 : inI x := mOk_1 hOS
  have hl : inL x := ⟨by have := hx1.1; omega, by have := hx1.2; omega⟩
  have ee : (Int32.ofInt x).toInt64 = Int64.ofInt x := Int64.toInt_inj.mp (by rw [Int32.toInt_toInt64, inI_r hx1, inL_r hl])
  show W P l e R s m args below meth c H locs bd.1 bd.2 Z (F0 m pc ls (.int (Int32.ofInt x) :: st'.map (mcv E)))
  refine lv_i2l hx hb hd ee ?_
  exact hk _ _ _ _ h E P l e R s m args below meth c Z C F ls H locs hL hOL (mOk_c (v := .inr (.inl _)) hl (mOk_t hOS)) hH hS hb1 hb2
theorem s_l2i : mSnd .l2i := by
  intro mi pc Q bd L st μ len a b p t z ts k hd ho h hk E P l e R s m args below meth c Z C F ls H locs hL hOL hOS hH hS hb1 hb2
  obtain ⟨hx, hb, hml, hown, hts, hnm, hfr, hlo, hce, hsl, hba⟩ := id C
  obtain rfl : len = 1 := of_decide_eq_true ho
  obtain ⟨x, st', rfl, h⟩ := ml1_sp h
  have ee : Int32.ofInt (l2I x) = (Int64.ofInt x).toInt32 := Int32.ofInt_toInt _
  show W P l e R s m args below meth c H locs bd.1 bd.2 Z (F0 m pc ls (.long (Int64.ofInt x) :: st'.map (mcv E)))
  refine lv_l2i hx hb hd ee.symm ?_
  exact hk _ _ _ _ h E P l e R s m args below meth c Z C F ls H locs hL hOL (mOk_c (v := .inl _) (inI_t _) (mOk_t hOS)) hH hS hb1 hb2
theorem s_i2b : mSnd .i2b := by
  intro mi pc Q bd L st μ len a b p t z ts k hd ho h hk E P l e R s m args below meth c Z C F ls H locs hL hOL hOS hH hS hb1 hb2
  obtain ⟨hx, hb, hml, hown, hts, hnm, hfr, hlo, hce, hsl, hba⟩ := id C
  obtain rfl : len = 1 := of_decide_eq_true ho
  obtain ⟨x, st', rfl, h⟩ := mi1_sp h
  have hin : inI (i2B x) := by have h1 := (Int32.ofInt x).toInt8.le_toInt; have h2 := (Int32.ofInt x).toInt8.toInt_lt; unfold i2B; constructor <;> omega
  have ee : (Int32.ofInt x).toInt8.toInt32 = Int32.ofInt (i2B x) := by rfl
  show W P l e R s m args below meth c H locs bd.1 bd.2 Z (F0 m pc ls (.int (Int32.ofInt x) :: st'.map (mcv E)))
  refine lv_i2b hx hb hd ee ?_
  exact hk _ _ _ _ h E P l e R s m args below meth c Z C F ls H locs hL hOL (mOk_c (v := .inl _) hin (mOk_t hOS)) hH hS hb1 hb2
theorem s_iconst (n : Int) : mSnd (.iconst n) := by
  intro mi pc Q bd L st μ len a b p t z ts k hd ho h hk E P l e R s m args below meth c Z C F ls H locs hL hOL hOS hH hS hb1 hb2
  obtain ⟨hx, hb, hml, hown, hts, hnm, hfr, hlo, hce, hsl, hba⟩ := id C
  obtain ⟨rfl, rfl, hz⟩ := of_decide_eq_true ho
  refine lv_iconst hx hb hd rfl ?_
  exact hk _ _ _ _ h E P l e R s m args below meth c Z C F ls H locs hL hOL (mOk_c (v := .inl _) hz hOS) hH hS hb1 hb2
theorem s_bipush (n : Int) : mSnd (.bipush n) := by
  intro mi pc Q bd L st μ len a b p t z ts k hd ho h hk E P l e R s m args below meth c Z C F ls H locs hL hOL hOS hH hS hb1 hb2
  obtain ⟨hx, hb, hml, hown, hts, hnm, hfr, hlo, hce, hsl, hba⟩ := id C
  obtain ⟨rfl, hn, hz⟩ := of_decide_eq_true ho
  refine lv_bipush hx hb hd hn ?_
  exact hk _ _ _ _ h E P l e R s m args below meth c Z C F ls H locs hL hOL (mOk_c (v := .inl _) hz hOS) hH hS hb1 hb2
theorem s_sipush (n : Int) : mSnd (.sipush n) := by
  intro mi pc Q bd L st μ len a b p t z ts k hd ho h hk E P l e R s m args below meth c Z C F ls H locs hL hOL hOS hH hS hb1 hb2
  obtain ⟨hx, hb, hml, hown, hts, hnm, hfr, hlo, hce, hsl, hba⟩ := id C
  obtain ⟨rfl, hn, hz⟩ := of_decide_eq_true ho
  refine lv_sipush hx hb hd hn ?_
  exact hk _ _ _ _ h E P l e R s m args below meth c Z C F ls H locs hL hOL (mOk_c (v := .inl _) hz hOS) hH hS hb1 hb2
theorem s_lconst (n : Fin 2) : mSnd (.lconst n) := by
  intro mi pc Q bd L st μ len a b p t z ts k hd ho h hk E P l e R s m args below meth c Z C F ls H locs hL hOL hOS hH hS hb1 hb2
  obtain ⟨hx, hb, hml, hown, hts, hnm, hfr, hlo, hce, hsl, hba⟩ := id C
  obtain ⟨rfl, hn, hz⟩ := of_decide_eq_true ho
  have ee : Int64.ofNat (n : Nat) = Int64.ofInt z := by rw [← hn, Int64.ofInt_eq_ofNat]
  refine lv_lconst hx hb hd ee ?_
  exact hk _ _ _ _ h E P l e R s m args below meth c Z C F ls H locs hL hOL (mOk_c (v := .inr (.inl _)) hz hOS) hH hS hb1 hb2
theorem s_ldc_w (i : Nat) : mSnd (.ldc_w i) := by
  intro mi pc Q bd L st μ len a b p t z ts k hd ho h hk E P l e R s m args below meth c Z C F ls H locs hL hOL hOS hH hS hb1 hb2
  obtain ⟨hx, hb, hml, hown, hts, hnm, hfr, hlo, hce, hsl, hba⟩ := id C
  obtain ⟨ho1, ho2⟩ := Bool.and_eq_true_iff.mp ho
  obtain ⟨rfl, hz⟩ := of_decide_eq_true ho1
  refine lv_ldcw hx hb hown (mAt_sp hts ho2) hd ?_
  exact hk _ _ _ _ h E P l e R s m args below meth c Z C F ls H locs hL hOL (mOk_c (v := .inl _) hz hOS) hH hS hb1 hb2
theorem s_ldc2_w (i : Nat) : mSnd (.ldc2_w i) := by
  intro mi pc Q bd L st μ len a b p t z ts k hd ho h hk E P l e R s m args below meth c Z C F ls H locs hL hOL hOS hH hS hb1 hb2
  obtain ⟨hx, hb, hml, hown, hts, hnm, hfr, hlo, hce, hsl, hba⟩ := id C
  obtain ⟨ho1, ho2⟩ := Bool.and_eq_true_iff.mp ho
  obtain ⟨rfl, hz⟩ := of_decide_eq_true ho1
  refine lv_ldc2 hx hb hown (mAt_sp hts ho2) hd ?_
  exact hk _ _ _ _ h E P l e R s m args below meth c Z C F ls H locs hL hOL (mOk_c (v := .inr (.inl _)) hz hOS) hH hS hb1 hb2
theorem s_iload (i : Nat) : mSnd (.iload i) := by
  intro mi pc Q bd L st μ len a b p t z ts k hd ho h hk E P l e R s m args below meth c Z C F ls H locs hL hOL hOS hH hS hb1 hb2
  obtain ⟨hx, hb, hml, hown, hts, hnm, hfr, hlo, hce, hsl, hba⟩ := id C
  obtain ⟨rfl, rfl⟩ := of_decide_eq_true ho
  obtain ⟨x, hg, h⟩ := mgi_sp h
  refine lv_iload hx hb hd (mlv_get hL hg) ?_
  exact hk _ _ _ _ h E P l e R s m args below meth c Z C F ls H locs hL hOL (mOk_c (v := .inl _) (hOL _ (mget_pr E L 0 _ _ hg).2) hOS) hH hS hb1 hb2
theorem s_iload_n (i : Fin 4) : mSnd (.iload_n i) := by
  intro mi pc Q bd L st μ len a b p t z ts k hd ho h hk E P l e R s m args below meth c Z C F ls H locs hL hOL hOS hH hS hb1 hb2
  obtain ⟨hx, hb, hml, hown, hts, hnm, hfr, hlo, hce, hsl, hba⟩ := id C
  obtain ⟨rfl, hi⟩ := of_decide_eq_true ho
  obtain ⟨x, hg, h⟩ := mgi_sp h
  refine lv_iload_n hx hb hd hi (mlv_get hL hg) ?_
  exact hk _ _ _ _ h E P l e R s m args below meth c Z C F ls H locs hL hOL (mOk_c (v := .inl _) (hOL _ (mget_pr E L 0 _ _ hg).2) hOS) hH hS hb1 hb2
theorem s_lload (i : Nat) : mSnd (.lload i) := by
  intro mi pc Q bd L st μ len a b p t z ts k hd ho h hk E P l e R s m args below meth c Z C F ls H locs hL hOL hOS hH hS hb1 hb2
  obtain ⟨hx, hb, hml, hown, hts, hnm, hfr, hlo, hce, hsl, hba⟩ := id C
  obtain ⟨rfl, rfl⟩ := of_decide_eq_true ho
  obtain ⟨x, hg, h⟩ := mgl_sp h
  refine lv_lload hx hb hd (mlv_get hL hg) ?_
  exact hk _ _ _ _ h E P l e R s m args below meth c Z C F ls H locs hL hOL (mOk_c (v := .inr (.inl _)) (hOL _ (mget_pr E L 0 _ _ hg).2) hOS) hH hS hb1 hb2
theorem s_lload_n (i : Fin 4) : mSnd (.lload_n i) := by
  intro mi pc Q bd L st μ len a b p t z ts k hd ho h hk E P l e R s m args below meth c Z C F ls H locs hL hOL hOS hH hS hb1 hb2
  obtain ⟨hx, hb, hml, hown, hts, hnm, hfr, hlo, hce, hsl, hba⟩ := id C
  obtain ⟨rfl, hi⟩ := of_decide_eq_true ho
  obtain ⟨x, hg, h⟩ := mgl_sp h
  refine lv_lload_n hx hb hd hi (mlv_get hL hg) ?_
  exact hk _ _ _ _ h E P l e R s m args below meth c Z C F ls H locs hL hOL (mOk_c (v := .inr (.inl _)) (hOL _ (mget_pr E L 0 _ _ hg).2) hOS) hH hS hb1 hb2
theorem s_aload (i : Nat) : mSnd (.aload i) := by
  intro mi pc Q bd L st μ len a b p t z ts k hd ho h hk E P l e R s m args below meth c Z C F ls H locs hL hOL hOS hH hS hb1 hb2
  obtain ⟨hx, hb, hml, hown, hts, hnm, hfr, hlo, hce, hsl, hba⟩ := id C
  obtain ⟨rfl, rfl⟩ := of_decide_eq_true ho
  obtain ⟨x, hg, h⟩ := mgr_sp h
  refine lv_aload hx hb hd (mlv_get hL hg) ?_
  exact hk _ _ _ _ h E P l e R s m args below meth c Z C F ls H locs hL hOL (mOk_c (v := .inr (.inr _)) (hOL _ (mget_pr E L 0 _ _ hg).2) hOS) hH hS hb1 hb2
theorem s_aload_n (i : Fin 4) : mSnd (.aload_n i) := by
  intro mi pc Q bd L st μ len a b p t z ts k hd ho h hk E P l e R s m args below meth c Z C F ls H locs hL hOL hOS hH hS hb1 hb2
  obtain ⟨hx, hb, hml, hown, hts, hnm, hfr, hlo, hce, hsl, hba⟩ := id C
  obtain ⟨rfl, hi⟩ := of_decide_eq_true ho
  obtain ⟨x, hg, h⟩ := mgr_sp h
  refine lv_aload_n hx hb hd hi (mlv_get hL hg) ?_
  exact hk _ _ _ _ h E P l e R s m args below meth c Z C F ls H locs hL hOL (mOk_c (v := .inr (.inr _)) (hOL _ (mget_pr E L 0 _ _ hg).2) hOS) hH hS hb1 hb2
theorem s_istore (i : Nat) : mSnd (.istore i) := by
  intro mi pc Q bd L st μ len a b p t z ts k hd ho h hk E P l e R s m args below meth c Z C F ls H locs hL hOL hOS hH hS hb1 hb2
  obtain ⟨hx, hb, hml, hown, hts, hnm, hfr, hlo, hce, hsl, hba⟩ := id C
  obtain ⟨rfl, rfl, hn⟩ := of_decide_eq_true ho
  obtain ⟨x, st', rfl, h⟩ := mi1_sp h
  show W P l e R s m args below meth c H locs bd.1 bd.2 Z (F0 m pc ls ((.int (Int32.ofInt x)) :: st'.map (mcv E)))
  refine lv_istore hx hb hd hL hn rfl (fun ls hL' => ?_)
  exact hk _ _ _ _ h E P l e R s m args below meth c Z C F ls H locs (mset_pr (v := .inl x) hL') (mset_ok (v := .inl x) (mOk_1 hOS) hOL) (mOk_t hOS) hH hS hb1 hb2
theorem s_istore_n (i : Fin 4) : mSnd (.istore_n i) := by
  intro mi pc Q bd L st μ len a b p t z ts k hd ho h hk E P l e R s m args below meth c Z C F ls H locs hL hOL hOS hH hS hb1 hb2
  obtain ⟨hx, hb, hml, hown, hts, hnm, hfr, hlo, hce, hsl, hba⟩ := id C
  obtain ⟨rfl, hi, hn⟩ := of_decide_eq_true ho
  obtain ⟨x, st', rfl, h⟩ := mi1_sp h
  show W P l e R s m args below meth c H locs bd.1 bd.2 Z (F0 m pc ls ((.int (Int32.ofInt x)) :: st'.map (mcv E)))
  refine lv_istore_n hx hb hd hi hL hn rfl (fun ls hL' => ?_)
  exact hk _ _ _ _ h E P l e R s m args below meth c Z C F ls H locs (mset_pr (v := .inl x) hL') (mset_ok (v := .inl x) (mOk_1 hOS) hOL) (mOk_t hOS) hH hS hb1 hb2
theorem s_astore (i : Nat) : mSnd (.astore i) := by
  intro mi pc Q bd L st μ len a b p t z ts k hd ho h hk E P l e R s m args below meth c Z C F ls H locs hL hOL hOS hH hS hb1 hb2
  obtain ⟨hx, hb, hml, hown, hts, hnm, hfr, hlo, hce, hsl, hba⟩ := id C
  obtain ⟨rfl, rfl, hn⟩ := of_decide_eq_true ho
  obtain ⟨x, st', rfl, h⟩ := mr1_sp h
  show W P l e R s m args below meth c H locs bd.1 bd.2 Z (F0 m pc ls ((.ref (mad E x)) :: st'.map (mcv E)))
  refine lv_astore hx hb hd hL hn rfl (fun ls hL' => ?_)
  exact hk _ _ _ _ h E P l e R s m args below meth c Z C F ls H locs (mset_pr (v := .inr (.inr x)) hL') (mset_ok (v := .inr (.inr x)) (mOk_1 hOS) hOL) (mOk_t hOS) hH hS hb1 hb2
theorem s_astore_n (i : Fin 4) : mSnd (.astore_n i) := by
  intro mi pc Q bd L st μ len a b p t z ts k hd ho h hk E P l e R s m args below meth c Z C F ls H locs hL hOL hOS hH hS hb1 hb2
  obtain ⟨hx, hb, hml, hown, hts, hnm, hfr, hlo, hce, hsl, hba⟩ := id C
  obtain ⟨rfl, hi, hn⟩ := of_decide_eq_true ho
  obtain ⟨x, st', rfl, h⟩ := mr1_sp h
  show W P l e R s m args below meth c H locs bd.1 bd.2 Z (F0 m pc ls ((.ref (mad E x)) :: st'.map (mcv E)))
  refine lv_astore_n hx hb hd hi hL hn rfl (fun ls hL' => ?_)
  exact hk _ _ _ _ h E P l e R s m args below meth c Z C F ls H locs (mset_pr (v := .inr (.inr x)) hL') (mset_ok (v := .inr (.inr x)) (mOk_1 hOS) hOL) (mOk_t hOS) hH hS hb1 hb2
theorem s_lstore (i : Nat) : mSnd (.lstore i) := by
  intro mi pc Q bd L st μ len a b p t z ts k hd ho h hk E P l e R s m args below meth c Z C F ls H locs hL hOL hOS hH hS hb1 hb2
  obtain ⟨hx, hb, hml, hown, hts, hnm, hfr, hlo, hce, hsl, hba⟩ := id C
  obtain ⟨rfl, rfl, hn⟩ := of_decide_eq_true ho
  obtain ⟨x, st', rfl, h⟩ := ml1_sp h
  show W P l e R s m args below meth c H locs bd.1 bd.2 Z (F0 m pc ls ((.long (Int64.ofInt x)) :: st'.map (mcv E)))
  refine lv_lstore hx hb hd hL hn rfl (fun ls hL' => ?_)
  exact hk _ _ _ _ h E P l e R s m args below meth c Z C F ls H locs (mset2_pr (v := .inr (.inl x)) hL') (mset2_ok (v := .inr (.inl x)) (mOk_1 hOS) hOL) (mOk_t hOS) hH hS hb1 hb2
theorem s_lstore_n (i : Fin 4) : mSnd (.lstore_n i) := by
  intro mi pc Q bd L st μ len a b p t z ts k hd ho h hk E P l e R s m args below meth c Z C F ls H locs hL hOL hOS hH hS hb1 hb2
  obtain ⟨hx, hb, hml, hown, hts, hnm, hfr, hlo, hce, hsl, hba⟩ := id C
  obtain ⟨rfl, hi, hn⟩ := of_decide_eq_true ho
  obtain ⟨x, st', rfl, h⟩ := ml1_sp h
  show W P l e R s m args below meth c H locs bd.1 bd.2 Z (F0 m pc ls ((.long (Int64.ofInt x)) :: st'.map (mcv E)))
  refine lv_lstore_n hx hb hd hi hL hn rfl (fun ls hL' => ?_)
  exact hk _ _ _ _ h E P l e R s m args below meth c Z C F ls H locs (mset2_pr (v := .inr (.inl x)) hL') (mset2_ok (v := .inr (.inl x)) (mOk_1 hOS) hOL) (mOk_t hOS) hH hS hb1 hb2
theorem s_iinc (i : Nat) (n : Int) : mSnd (.iinc i n) := by
  intro mi pc Q bd L st μ len a b p t z ts k hd ho h hk E P l e R s m args below meth c Z C F ls H locs hL hOL hOS hH hS hb1 hb2
  obtain ⟨hx, hb, hml, hown, hts, hnm, hfr, hlo, hce, hsl, hba⟩ := id C
  obtain ⟨rfl, rfl, hn, rfl⟩ := of_decide_eq_true ho
  obtain ⟨x, hg, h1, h⟩ := mgi_sp h
  obtain ⟨j, hj⟩ := List.getElem?_of_mem (mget_pr E L 0 _ _ hg).1
  rw [Nat.zero_add] at hj
  refine lv_iinc (v := Int32.ofInt (x + n)) hx hb hd hL hj (Int32.ofInt_add x n).symm hn rfl (fun ls hL' => ?_)
  exact hk _ _ _ _ h E P l e R s m args below meth c Z C F ls H locs (mset_pr (v := .inl (x + n)) hL') (mset_ok (v := .inl (x + n)) h1 hOL) hOS hH hS hb1 hb2
theorem s_dup : mSnd .dup := by
  intro mi pc Q bd L st μ len a b p t z ts k hd ho h hk E P l e R s m args below meth c Z C F ls H locs hL hOL hOS hH hS hb1 hb2
  obtain ⟨hx, hb, hml, hown, hts, hnm, hfr, hlo, hce, hsl, hba⟩ := id C
  obtain rfl : len = 1 := of_decide_eq_true ho
  rcases st with _ | ⟨x | x | x, st⟩
  · exact h.elim
  · refine lv_dup hx hb hd rfl ?_
    exact hk _ _ _ _ h E P l e R s m args below meth c Z C F ls H locs hL hOL (mOk_c (mOk_1 hOS) hOS) hH hS hb1 hb2
  · exact h.elim
  · refine lv_dup hx hb hd rfl ?_
    exact hk _ _ _ _ h E P l e R s m args below meth c Z C F ls H locs hL hOL (mOk_c (mOk_1 hOS) hOS) hH hS hb1 hb2
theorem s_dup2 : mSnd .dup2 := by
  intro mi pc Q bd L st μ len a b p t z ts k hd ho h hk E P l e R s m args below meth c Z C F ls H locs hL hOL hOS hH hS hb1 hb2
  obtain ⟨hx, hb, hml, hown, hts, hnm, hfr, hlo, hce, hsl, hba⟩ := id C
  obtain rfl : len = 1 := of_decide_eq_true ho
  rcases st with _ | ⟨x | x | x, st⟩
  · exact h.elim
  · rcases st with _ | ⟨r | r | r, st⟩
    · exact h.elim
    · exact h.elim
    · exact h.elim
    · refine lv_dup2_11 hx hb hd rfl rfl ?_
      exact hk _ _ _ _ h E P l e R s m args below meth c Z C F ls H locs hL hOL (mOk_c (mOk_1 hOS) (mOk_c (mOk_1 (mOk_t hOS)) hOS)) hH hS hb1 hb2
  · refine lv_dup2_2 hx hb hd rfl ?_
    exact hk _ _ _ _ h E P l e R s m args below meth c Z C F ls H locs hL hOL (mOk_c (mOk_1 hOS) hOS) hH hS hb1 hb2
  · exact h.elim
theorem s_if_icmp (cd : Jvm.ClassFile.Cond) (off : Int) : mSnd (.if_icmp cd off) := by
  intro mi pc Q bd L st μ len a b p t z ts k hd ho h hk E P l e R s m args below meth c Z C F ls H locs hL hOL hOS hH hS hb1 hb2
  obtain ⟨hx, hb, hml, hown, hts, hnm, hfr, hlo, hce, hsl, hba⟩ := id C
  obtain ⟨rfl, ht⟩ := of_decide_eq_true ho
  obtain ⟨x, y, st', rfl, ha, hn⟩ := mii_sp h
  have hxi : inI x := mOk_1 (mOk_t hOS)
  have hyi : inI y := mOk_1 hOS
  show W P l e R s m args below meth c H locs bd.1 bd.2 Z (F0 m pc ls (.int (Int32.ofInt y) :: .int (Int32.ofInt x) :: st'.map (mcv E)))
  cases cd with
  | eq => exact lv_icmp_eq (tgt := a) hx hb hd ht (fun q => ha ((inI_eq hxi hyi).mp q) E P l e R s m args below meth c Z C F ls H locs hL hOL (mOk_t (mOk_t hOS)) hH hS hb1 hb2) (fun q => hk _ _ _ _ (hn (fun w => q ((inI_eq hxi hyi).mpr w))) E P l e R s m args below meth c Z C F ls H locs hL hOL (mOk_t (mOk_t hOS)) hH hS hb1 hb2)
  | ne => exact lv_icmp_ne (tgt := a) hx hb hd ht (fun q => ha ((not_congr (inI_eq hxi hyi)).mp q) E P l e R s m args below meth c Z C F ls H locs hL hOL (mOk_t (mOk_t hOS)) hH hS hb1 hb2) (fun q => hk _ _ _ _ (hn (fun w => w ((inI_eq hxi hyi).mp q))) E P l e R s m args below meth c Z C F ls H locs hL hOL (mOk_t (mOk_t hOS)) hH hS hb1 hb2)
  | lt => exact lv_icmp_lt (tgt := a) hx hb hd ht (fun q => ha ((inI_lt hxi hyi).mp q) E P l e R s m args below meth c Z C F ls H locs hL hOL (mOk_t (mOk_t hOS)) hH hS hb1 hb2) (fun q => hk _ _ _ _ (hn (fun w => q ((inI_lt hxi hyi).mpr w))) E P l e R s m args below meth c Z C F ls H locs hL hOL (mOk_t (mOk_t hOS)) hH hS hb1 hb2)
  | ge => exact lv_icmp_ge (tgt := a) hx hb hd ht (fun q => ha ((inI_le hyi hxi).mp q) E P l e R s m args below meth c Z C F ls H locs hL hOL (mOk_t (mOk_t hOS)) hH hS hb1 hb2) (fun q => hk _ _ _ _ (hn (fun w => q ((inI_le hyi hxi).mpr w))) E P l e R s m args below meth c Z C F ls H locs hL hOL (mOk_t (mOk_t hOS)) hH hS hb1 hb2)
  | gt => exact lv_icmp_gt (tgt := a) hx hb hd ht (fun q => ha ((inI_lt hyi hxi).mp q) E P l e R s m args below meth c Z C F ls H locs hL hOL (mOk_t (mOk_t hOS)) hH hS hb1 hb2) (fun q => hk _ _ _ _ (hn (fun w => q ((inI_lt hyi hxi).mpr w))) E P l e R s m args below meth c Z C F ls H locs hL hOL (mOk_t (mOk_t hOS)) hH hS hb1 hb2)
  | le => exact lv_icmp_le (tgt := a) hx hb hd ht (fun q => ha ((inI_le hxi hyi).mp q) E P l e R s m args below meth c Z C F ls H locs hL hOL (mOk_t (mOk_t hOS)) hH hS hb1 hb2) (fun q => hk _ _ _ _ (hn (fun w => q ((inI_le hxi hyi).mpr w))) E P l e R s m args below meth c Z C F ls H locs hL hOL (mOk_t (mOk_t hOS)) hH hS hb1 hb2)
theorem s_ifCond (cd : Jvm.ClassFile.Cond) (off : Int) : mSnd (.ifCond cd off) := by
  intro mi pc Q bd L st μ len a b p t z ts k hd ho h hk E P l e R s m args below meth c Z C F ls H locs hL hOL hOS hH hS hb1 hb2
  obtain ⟨hx, hb, hml, hown, hts, hnm, hfr, hlo, hce, hsl, hba⟩ := id C
  obtain ⟨rfl, ht⟩ := of_decide_eq_true ho
  obtain ⟨x, st', rfl, ha, hn⟩ := mi1_sp h
  have hxi : inI x := mOk_1 hOS
  show W P l e R s m args below meth c H locs bd.1 bd.2 Z (F0 m pc ls (.int (Int32.ofInt x) :: st'.map (mcv E)))
  cases cd with
  | eq => exact lv_if_eq (tgt := a) hx hb hd ht (fun q => ha ((inI_eq hxi inI_0).mp q) E P l e R s m args below meth c Z C F ls H locs hL hOL (mOk_t hOS) hH hS hb1 hb2) (fun q => hk _ _ _ _ (hn (fun w => q ((inI_eq hxi inI_0).mpr w))) E P l e R s m args below meth c Z C F ls H locs hL hOL (mOk_t hOS) hH hS hb1 hb2)
  | ne => exact lv_if_ne (tgt := a) hx hb hd ht (fun q => ha ((not_congr (inI_eq hxi inI_0)).mp q) E P l e R s m args below meth c Z C F ls H locs hL hOL (mOk_t hOS) hH hS hb1 hb2) (fun q => hk _ _ _ _ (hn (fun w => w ((inI_eq hxi inI_0).mp q))) E P l e R s m args below meth c Z C F ls H locs hL hOL (mOk_t hOS) hH hS hb1 hb2)
  | lt => exact lv_if_lt (tgt := a) hx hb hd ht (fun q => ha ((inI_lt hxi inI_0).mp q) E P l e R s m args below meth c Z C F ls H locs hL hOL (mOk_t hOS) hH hS hb1 hb2) (fun q => hk _ _ _ _ (hn (fun w => q ((inI_lt hxi inI_0).mpr w))) E P l e R s m args below meth c Z C F ls H locs hL hOL (mOk_t hOS) hH hS hb1 hb2)
  | ge => exact lv_if_ge (tgt := a) hx hb hd ht (fun q => ha ((inI_le inI_0 hxi).mp q) E P l e R s m args below meth c Z C F ls H locs hL hOL (mOk_t hOS) hH hS hb1 hb2) (fun q => hk _ _ _ _ (hn (fun w => q ((inI_le inI_0 hxi).mpr w))) E P l e R s m args below meth c Z C F ls H locs hL hOL (mOk_t hOS) hH hS hb1 hb2)
  | gt => exact lv_if_gt (tgt := a) hx hb hd ht (fun q => ha ((inI_lt inI_0 hxi).mp q) E P l e R s m args below meth c Z C F ls H locs hL hOL (mOk_t hOS) hH hS hb1 hb2) (fun q => hk _ _ _ _ (hn (fun w => q ((inI_lt inI_0 hxi).mpr w))) E P l e R s m args below meth c Z C F ls H locs hL hOL (mOk_t hOS) hH hS hb1 hb2)
  | le => exact lv_if_le (tgt := a) hx hb hd ht (fun q => ha ((inI_le hxi inI_0).mp q) E P l e R s m args below meth c Z C F ls H locs hL hOL (mOk_t hOS) hH hS hb1 hb2) (fun q => hk _ _ _ _ (hn (fun w => q ((inI_le hxi inI_0).mpr w))) E P l e R s m args below meth c Z C F ls H locs hL hOL (mOk_t hOS) hH hS hb1 hb2)
theorem s_goto (off : Int) : mSnd (.goto off) := by
  intro mi pc Q bd L st μ len a b p t z ts k hd ho h hk E P l e R s m args below meth c Z C F ls H locs hL hOL hOS hH hS hb1 hb2
  obtain ⟨hx, hb, hml, hown, hts, hnm, hfr, hlo, hce, hsl, hba⟩ := id C
  obtain ⟨rfl, ht⟩ := of_decide_eq_true ho
  exact lv_goto (tgt := a) hx hb hd ht (h E P l e R s m args below meth c Z C F ls H locs hL hOL hOS hH hS hb1 hb2)
theorem mtsw_sp {J : Nat → Prop} {d : Nat} {x : Int} : ∀ (ts : List Nat) (lo : Int), mtsw J d x lo ts → ((x < lo ∨ lo + (ts.length : Int) - 1 < x) ∧ J d) ∨ (lo ≤ x ∧ x ≤ lo + (ts.length : Int) - 1 ∧ ∃ tg, ts[(x - lo).toNat]? = some tg ∧ J tg)
  | [], lo, h => by
    refine Or.inl ⟨?_, h⟩
    simp only [List.length_nil]
    omega
  | t :: ts, lo, h => by
    by_cases e : x = lo
    · refine Or.inr ⟨by omega, by simp only [List.length_cons]; omega, t, ?_, h.1 e⟩
      have : (x - lo).toNat = 0 := by omega
      rw [this]; rfl
    · rcases mtsw_sp ts (lo + 1) (h.2 e) with ⟨h1, h2⟩ | ⟨h1, h2, tg, h3, h4⟩
      · refine Or.inl ⟨?_, h2⟩
        simp only [List.length_cons]
        omega
      · refine Or.inr ⟨by omega, by simp only [List.length_cons]; omega, tg, ?_, h4⟩
        have : (x - lo).toNat = (x - (lo + 1)).toNat + 1 := by omega
        rw [this]
        exact h3
theorem mlsw_sp {J : Nat → Prop} {d : Nat} {x pc dd : Int} (hd : pc + dd = (d : Int)) : ∀ (ps : List (Int × Int)) (ts : List Nat), ps.map (fun o => pc + o.2) = ts.map (fun t : Nat => (t : Int)) → mlsw J d x ps ts → ∃ tg : Nat, pc + Op.lookupswitch.offset ps dd x = (tg : Int) ∧ J tg
  | [], [], _, h => ⟨d, by simpa [Op.lookupswitch.offset] using hd, h⟩
  | [], _ :: _, e, h => h.elim
  | _ :: _, [], e, h => h.elim
  | (a, o) :: ps, t :: ts, e, h => by
    have e1 : pc + o = (t : Int) ∧ ps.map (fun o => pc + o.2) = ts.map (fun t : Nat => (t : Int)) := by simpa using e
    rw [Op.lookupswitch.offset_cons]
    by_cases hx : x = a
    · rw [if_pos (by first | exact hx | exact hx.symm)]
      exact ⟨t, e1.1, h.1 hx⟩
    · rw [if_neg (by first | exact hx | exact fun q => hx q.symm)]
      exact mlsw_sp hd ps ts e1.2 (h.2 hx)
theorem s_tsw (d lo hi : Int) (offs : Array Int) : mSnd (.tableswitch d lo hi offs) := by
  intro mi pc Q bd L st μ len a b p t z ts k hd ho h hk E P l e R s m args below meth c Z C F ls H locs hL hOL hOS hH hS hb1 hb2
  obtain ⟨hx, hb, hml, hown, hts, hnm, hfr, hlo, hce, hsl, hba⟩ := id C
  obtain ⟨htd, rfl, hhi, hl1, hh1, hof⟩ := of_decide_eq_true ho
  obtain ⟨x, st', rfl, h⟩ := mi1_sp h
  have hxi : inI x := mOk_1 hOS
  have ex : (Int32.ofInt x).toInt = x := inI_r hxi
  show W P l e R s m args below meth c H locs bd.1 bd.2 Z (F0 m pc ls (.int (Int32.ofInt x) :: st'.map (mcv E)))
  rcases mtsw_sp ts lo h with ⟨h1, h2⟩ | ⟨h1, h2, tg, h3, h4⟩
  · exact lv_tableOut (tgt := a) hx hb hd (by rw [ex, hhi]; exact h1) htd (h2 E P l e R s m args below meth c Z C F ls H locs hL hOL (mOk_t hOS) hH hS hb1 hb2)
  · have h5 : (offs.toList.map (fun o => (pc : Int) + o))[(x - lo).toNat]? = some (tg : Int) := by rw [hof, List.getElem?_map, h3]; rfl
    rw [List.getElem?_map] at h5
    obtain ⟨o, h6, h7⟩ := Option.map_eq_some_iff.mp h5
    exact lv_tableIn (tgt := tg) (off := o) hx hb hd (by rw [ex]; omega) (by rw [ex]; omega) (by rw [ex, ← Array.getElem?_toList]; exact h6) h7 (h4 E P l e R s m args below meth c Z C F ls H locs hL hOL (mOk_t hOS) hH hS hb1 hb2)
theorem s_lsw (d : Int) (ps : Array (Int × Int)) : mSnd (.lookupswitch d ps) := by
  intro mi pc Q bd L st μ len a b p t z ts k hd ho h hk E P l e R s m args below meth c Z C F ls H locs hL hOL hOS hH hS hb1 hb2
  obtain ⟨hx, hb, hml, hown, hts, hnm, hfr, hlo, hce, hsl, hba⟩ := id C
  obtain ⟨ho1, ho3⟩ := Bool.and_eq_true_iff.mp ho
  obtain ⟨ho1, ho2⟩ := Bool.and_eq_true_iff.mp ho1
  obtain ⟨htd, hof⟩ := of_decide_eq_true ho1
  obtain ⟨x, st', rfl, h⟩ := mi1_sp h
  have hxi : inI x := mOk_1 hOS
  have ex : (Int32.ofInt x).toInt = x := inI_r hxi
  obtain ⟨tg, h1, h2⟩ := mlsw_sp htd ps.toList ts hof h
  show W P l e R s m args below meth c H locs bd.1 bd.2 Z (F0 m pc ls (.int (Int32.ofInt x) :: st'.map (mcv E)))
  exact lv_lookup (tgt := tg) hx hb hd ho2 (by rw [ex]) h1 (h2 E P l e R s m args below meth c Z C F ls H locs hL hOL (mOk_t hOS) hH hS hb1 hb2)
theorem s_ireturn : mSnd .ireturn := by
  intro mi pc Q bd L st μ len a b p t z ts k hd ho h hk E P l e R s m args below meth c Z C F ls H locs hL hOL hOS hH hS hb1 hb2
  obtain ⟨hx, hb, hml, hown, hts, hnm, hfr, hlo, hce, hsl, hba⟩ := id C
  obtain ⟨ho1, ho2⟩ := Bool.and_eq_true_iff.mp ho
  obtain rfl : len = 1 := of_decide_eq_true ho1
  rcases st with _ | ⟨x | x | x, _ | ⟨y, st⟩⟩
  · exact h.elim
  · cases t with
    | zero => exact F (some (.inl x)) μ pc ls H locs _ _ h ⟨hd, mOk_1 hOS, Or.inl (of_decide_eq_true ho2)⟩ hH hS hb1 hb2
    | succ t => exact F (some (.inl x)) μ pc ls H locs _ _ h.2 ⟨hd, mOk_1 hOS, Or.inr (Or.inl ⟨of_decide_eq_true ho2, h.1⟩)⟩ hH hS hb1 hb2
  · exact h.elim
  · exact h.elim
  · exact h.elim
  · exact h.elim
  · exact h.elim
theorem s_lreturn : mSnd .lreturn := by
  intro mi pc Q bd L st μ len a b p t z ts k hd ho h hk E P l e R s m args below meth c Z C F ls H locs hL hOL hOS hH hS hb1 hb2
  obtain ⟨hx, hb, hml, hown, hts, hnm, hfr, hlo, hce, hsl, hba⟩ := id C
  obtain ⟨rfl, hr⟩ := of_decide_eq_true ho
  rcases st with _ | ⟨x | x | x, _ | ⟨y, st⟩⟩
  · exact h.elim
  · exact h.elim
  · exact h.elim
  · exact F (some (.inr (.inl x))) μ pc ls H locs _ _ h ⟨hd, mOk_1 hOS, hr⟩ hH hS hb1 hb2
  · exact h.elim
  · exact h.elim
  · exact h.elim
theorem s_return : mSnd .return_ := by
  intro mi pc Q bd L st μ len a b p t z ts k hd ho h hk E P l e R s m args below meth c Z C F ls H locs hL hOL hOS hH hS hb1 hb2
  obtain ⟨hx, hb, hml, hown, hts, hnm, hfr, hlo, hce, hsl, hba⟩ := id C
  obtain ⟨rfl, hr⟩ := of_decide_eq_true ho
  rcases st with _ | ⟨x, st⟩
  · exact F none μ pc ls H locs _ _ h ⟨hd, hr⟩ hH hS hb1 hb2
  · exact h.elim
