/-! the row of tokens -/
section
variable (B : Int → Int) (n : Int)
def fr : Nat → Int
  | 0 => 0
  | k + 1 => tBh B n (fr k)
def tk (k : Nat) : Int := tKd B n (fr B n k)
def tb (k : Nat) : Int := tBg B n (fr B n k)
def tv (k : Nat) : Int := tVl B n (fr B n k)
def tl (k : Nat) : List Int := chs B n (tWl B n (fr B n k)) (tb B n k)
end
theorem wkd_in {l : List Int} : wkd l = 0 ∨ (6 ≤ wkd l ∧ wkd l ≤ 9) := by
  unfold wkd
  (repeat' split) <;> omega
theorem sgk_in {c : Int} : 2 ≤ sgk c ∧ sgk c ≤ 11 ∧ (sgk c ≤ 5 ∨ 10 ≤ sgk c) ∧ (sgk c = 10 ↔ c = -1) := by
  unfold sgk
  (repeat' split) <;> omega
theorem run_n {B : Int → Int} {n : Int} (f : Nat) (i : Int) (h : i ≤ n) : run B n f i ≤ n := by
  rcases Int.lt_or_le n (run B n f i) with w | w
  · have h1 := run_al (B := B) (n := n) f i n h w
    rw [ch_big (Int.le_refl n)] at h1
    omega
  · exact w
theorem rud_al' {B : Int → Int} {n : Int} : ∀ (f : Nat) (i j : Int), i ≤ j → j < rud B n f i → isD (ch B n j)
  | 0, i, j, h, h2 => by have h2 : j < i := h2; omega
  | f + 1, i, j, h, h2 => by
    rw [rud_succ] at h2
    split at h2
    · rename_i q
      rcases Int.lt_or_eq_of_le h with w | w
      · exact rud_al' f (i + 1) j (by omega) h2
      · rw [← w]; exact q
    · omega
theorem rud_n {B : Int → Int} {n : Int} (f : Nat) (i : Int) (h : i ≤ n) : rud B n f i ≤ n := by
  rcases Int.lt_or_le n (rud B n f i) with w | w
  · have h1 := rud_al' (B := B) (n := n) f i n h w
    rw [ch_big (Int.le_refl n)] at h1
    omega
  · exact w
theorem tKd_in {B : Int → Int} {n i : Int} : 0 ≤ tKd B n i ∧ tKd B n i ≤ 11 := by
  have h1 := wkd_in (l := chs B n (tWl B n i) (tBg B n i))
  have h2 := sgk_in (c := ch B n (tBg B n i))
  unfold tKd
  (repeat' split) <;> omega
theorem tk_in {B : Int → Int} {n : Int} {k : Nat} : 0 ≤ tk B n k ∧ tk B n k ≤ 11 := tKd_in
theorem tBg_in {B : Int → Int} {n i : Int} (h : i ≤ n) : i ≤ tBg B n i ∧ tBg B n i ≤ n := ⟨(skp_ge 3001 i).1, skp_le 3001 i h⟩
theorem tok_step {B : Int → Int} {n i : Int} (h : i ≤ n) (he : tKd B n i ≠ 10) : i ≤ tBg B n i ∧ tBg B n i < n ∧ tBg B n i < tBh B n i ∧ tBh B n i ≤ n := by
  have hg := tBg_in (B := B) h
  have hlt : tBg B n i < n := by
    rcases Int.lt_or_le (tBg B n i) n with w | w
    · exact w
    · exfalso
      apply he
      have hc := ch_big (B := B) w
      unfold tKd
      rw [hc, if_neg (by decide), if_neg (by decide)]
      decide
  have hr := run_n (B := B) (n := n) 9 (tBg B n i) (by omega)
  have hd := rud_n (B := B) (n := n) 6 (tBg B n i) (by omega)
  refine ⟨hg.1, hlt, ?_, ?_⟩
  · unfold tBh
    split
    · rename_i q
      have h1 : run B n 9 (tBg B n i) = run B n 8 (tBg B n i + 1) := by rw [run_succ (f := 8), if_pos (Or.inl q)]
      have h2 := run_ge (B := B) (n := n) 8 (tBg B n i + 1)
      unfold tWl
      omega
    · split
      · rename_i q
        have h1 : rud B n 6 (tBg B n i) = rud B n 5 (tBg B n i + 1) := by rw [rud_succ (f := 5), if_pos q]
        have h2 := rud_ge (B := B) (n := n) 5 (tBg B n i + 1)
        unfold tDl
        omega
      · omega
  · unfold tBh
    split
    · unfold tWl; omega
    · split
      · unfold tDl; omega
      · omega
/-- token k can be looked at: no end is before it -/
def oks (B : Int → Int) (n : Int) (k : Nat) : Prop := 0 ≤ fr B n k ∧ fr B n k ≤ n
theorem oks_0 {B : Int → Int} {n : Int} (h : 0 ≤ n) : oks B n 0 := ⟨Int.le_refl 0, h⟩
theorem oks_s {B : Int → Int} {n : Int} {k : Nat} (h : oks B n k) (he : tk B n k ≠ 10) : oks B n (k + 1) := by
  have h1 := tok_step (B := B) h.2 he
  have h2 := h.1
  exact ⟨by show 0 ≤ tBh B n (fr B n k); omega, h1.2.2.2⟩
theorem tb_s {B : Int → Int} {n : Int} {k : Nat} (h : oks B n k) (he : tk B n k ≠ 10) : tb B n k < tb B n (k + 1) := by
  have h1 := tok_step (B := B) h.2 he
  have h2 := tBg_in (B := B) (oks_s h he).2
  show tBg B n (fr B n k) < tBg B n (fr B n (k + 1))
  have h3 : fr B n (k + 1) = tBh B n (fr B n k) := rfl
  omega
theorem tb_in {B : Int → Int} {n : Int} {k : Nat} (h : oks B n k) : 0 ≤ tb B n k ∧ tb B n k ≤ n := by
  have h1 := tBg_in (B := B) h.2
  have h2 := h.1
  show 0 ≤ tBg B n (fr B n k) ∧ tBg B n (fr B n k) ≤ n
  omega
/-- names, class and model -/
def NmR (x y : Int) : Prop := ∃ l : List Int, (∀ c ∈ l, isAl c) ∧ l.length ≤ 8 ∧ x = e37 l ∧ y = e256 l
theorem NmR_eq {x y x' y' : Int} (h : NmR x y) (h' : NmR x' y') : x = x' ↔ y = y' := by
  obtain ⟨l, a1, a2, a3, a4⟩ := h
  obtain ⟨m, b1, b2, b3, b4⟩ := h'
  subst a3 a4 b3 b4
  constructor
  · intro e; rw [e37_inj l m a1 b1 e]
  · intro e; rw [e256_inj l m a1 b1 e]
theorem tk_name {B : Int → Int} {n : Int} {k : Nat} (h : tk B n k = 0) : NmR (tv B n k) (e256 (tl B n k)) := by
  unfold tk at h
  unfold tv tl tb
  generalize fr B n k = i at h
  have h2 := sgk_in (c := ch B n (tBg B n i))
  unfold tKd at h
  unfold tVl
  split at h
  · rename_i q
    split at h
    · rename_i q2
      rw [if_pos q]
      refine ⟨_, ?_, ?_, rfl, rfl⟩
      · apply chs_al
        intro j h1 h3
        have hge := run_ge (B := B) (n := n) 9 (tBg B n i)
        refine run_al 9 (tBg B n i) j h1 ?_
        unfold tWl at h3
        omega
      · rw [chs_len]; exact q2
    · omega
  · split at h
    · split at h <;> omega
    · omega
theorem tk_num {B : Int → Int} {n : Int} {k : Nat} (h : tk B n k = 1) : 0 ≤ tv B n k ∧ tv B n k ≤ 99999 := by
  unfold tk at h
  unfold tv
  generalize fr B n k = i at h
  have h1 := wkd_in (l := chs B n (tWl B n i) (tBg B n i))
  have h2 := sgk_in (c := ch B n (tBg B n i))
  unfold tKd at h
  unfold tVl
  split at h
  · split at h <;> omega
  · rename_i q
    split at h
    · rename_i q1
      rw [if_neg q, if_pos q1]
      split at h
      · rename_i q2
        have hge := rud_ge (B := B) (n := n) 6 (tBg B n i)
        have hb := e10_b (chs B n (tDl B n i) (tBg B n i)) (by
          intro c hc
          obtain ⟨j, hj1, hj2⟩ := List.mem_iff_getElem.mp hc
          rw [chs_len] at hj1
          have h5 := chs_get (B := B) (n := n) (tDl B n i) (tBg B n i) j hj1
          have : c = ch B n (tBg B n i + j) := by
            rw [← h5, ← hj2]; simp [List.getD, hj1, chs_len]
          rw [this]
          refine rud_al' 6 (tBg B n i) _ (by omega) ?_
          unfold tDl at hj1
          omega)
        rw [chs_len] at hb
        have : ∀ d : Nat, d ≤ 5 → (10 : Int) ^ d ≤ 100000 := by
          intro d hd
          have : d < 6 := by omega
          revert d
          decide
        have := this _ q2
        omega
      · omega
    · omega
theorem tv_l {B : Int → Int} {n : Int} {k : Nat} : inL (tv B n k) ∧ 0 ≤ tv B n k := by
  have key : 0 ≤ tv B n k ∧ tv B n k < 1000000000000000 := by
    unfold tv
    generalize fr B n k = i
    unfold tVl
    split
    · have hge := run_ge (B := B) (n := n) 9 (tBg B n i)
      have hw : tWl B n i ≤ 9 := by unfold tWl; omega
      have := e37_b (chs B n (tWl B n i) (tBg B n i)) (chs_al _ _ (fun j h1 h3 => run_al 9 (tBg B n i) j h1 (by unfold tWl at h3; omega)))
      rw [chs_len] at this
      have h9 : ∀ d : Nat, d ≤ 9 → (37 : Int) ^ d ≤ 1000000000000000 := by
        intro d hd
        have : d < 10 := by omega
        revert d
        decide
      have := h9 _ hw
      omega
    · split
      · have hge := rud_ge (B := B) (n := n) 6 (tBg B n i)
        have hw : tDl B n i ≤ 6 := by unfold tDl; omega
        have hb := e10_b (chs B n (tDl B n i) (tBg B n i)) (by
          intro c hc
          obtain ⟨j, hj1, hj2⟩ := List.mem_iff_getElem.mp hc
          rw [chs_len] at hj1
          have h5 := chs_get (B := B) (n := n) (tDl B n i) (tBg B n i) j hj1
          have : c = ch B n (tBg B n i + j) := by
            rw [← h5, ← hj2]; simp [List.getD, hj1, chs_len]
          rw [this]
          refine rud_al' 6 (tBg B n i) _ (by omega) ?_
          unfold tDl at hj1
          omega)
        rw [chs_len] at hb
        have := p10_6 (tDl B n i) (by omega)
        omega
      · omega
  refine ⟨?_, key.1⟩
  unfold inL
  omega
