/-! the tape as both sides see it: B its bytes, n its length -/
def ch (B : Int → Int) (n i : Int) : Int := if 0 ≤ i ∧ i < n then (if B i < 0 then B i + 256 else B i) else -1
theorem iAnd_b0 : ∀ k : Nat, k < 256 → iAnd ((k : Int) - 128) 255 = if (k : Int) - 128 < 0 then (k : Int) - 128 + 256 else (k : Int) - 128 := by decide +kernel
theorem iAnd_b {x : Int} (h0 : -128 ≤ x) (h1 : x < 128) : iAnd x 255 = if x < 0 then x + 256 else x := by
  have h := iAnd_b0 (x + 128).toNat (by omega)
  rw [show ((x + 128).toNat : Int) - 128 = x by omega] at h
  exact h
def okT (M : Nat → Int → Int) : Prop := 0 ≤ M 17 1 ∧ M 17 1 ≤ 3000 ∧ ∀ i, 0 ≤ i → i < M 17 1 → -128 ≤ M 18 i ∧ M 18 i < 128
theorem tby_ch {M : Nat → Int → Int} (h : okT M) (i : Int) : tby M i = ch (M 18) (M 17 1) i := by
  unfold tby ch
  split
  · rename_i q
    obtain ⟨h1, h2⟩ := h.2.2 i q.1 q.2
    exact iAnd_b h1 h2
  · rfl
abbrev isL (c : Int) : Prop := 97 ≤ c ∧ c ≤ 122
abbrev isD (c : Int) : Prop := 48 ≤ c ∧ c ≤ 57
abbrev isB (c : Int) : Prop := c = 9 ∨ c = 10 ∨ c = 13 ∨ c = 32
theorem ch_big {B : Int → Int} {n i : Int} (h : n ≤ i) : ch B n i = -1 := by
  unfold ch
  rw [if_neg (by omega)]
section
variable (B : Int → Int) (n : Int)
/-- behind the blanks -/
def skp : Nat → Int → Int
  | 0, i => i
  | f + 1, i => if isB (ch B n i) then skp f (i + 1) else i
/-- behind letters and digits; behind digits; at most f of them -/
def run : Nat → Int → Int
  | 0, i => i
  | f + 1, i => if isAl (ch B n i) then run f (i + 1) else i
def rud : Nat → Int → Int
  | 0, i => i
  | f + 1, i => if isD (ch B n i) then rud f (i + 1) else i
/-- f characters from i on -/
def chs : Nat → Int → List Int
  | 0, _ => []
  | f + 1, i => ch B n i :: chs f (i + 1)
end
theorem skp_ge {B : Int → Int} {n : Int} : ∀ (f : Nat) (i : Int), i ≤ skp B n f i ∧ skp B n f i ≤ i + f
  | 0, i => by unfold skp; omega
  | f + 1, i => by
    unfold skp
    split
    · have := skp_ge (B := B) (n := n) f (i + 1); omega
    · omega
theorem skp_le {B : Int → Int} {n : Int} : ∀ (f : Nat) (i : Int), i ≤ n → skp B n f i ≤ n
  | 0, i, h => by unfold skp; omega
  | f + 1, i, h => by
    unfold skp
    split
    · rename_i q
      have : i < n := by
        rcases Int.lt_or_le i n with w | w
        · exact w
        · rw [ch_big w] at q; omega
      exact skp_le f (i + 1) (by omega)
    · omega
/-- enough fuel: what stands there is no blank -/
theorem skp_stop {B : Int → Int} {n : Int} : ∀ (f : Nat) (i : Int), n ≤ i + f → ¬ isB (ch B n (skp B n f i))
  | 0, i, h => by
    unfold skp
    rw [ch_big (by omega)]
    omega
  | f + 1, i, h => by
    unfold skp
    split
    · exact skp_stop f (i + 1) (by omega)
    · assumption
theorem run_ge {B : Int → Int} {n : Int} : ∀ (f : Nat) (i : Int), i ≤ run B n f i ∧ run B n f i ≤ i + f
  | 0, i => by unfold run; omega
  | f + 1, i => by
    unfold run
    split
    · have := run_ge (B := B) (n := n) f (i + 1); omega
    · omega
theorem rud_ge {B : Int → Int} {n : Int} : ∀ (f : Nat) (i : Int), i ≤ rud B n f i ∧ rud B n f i ≤ i + f
  | 0, i => by unfold rud; omega
  | f + 1, i => by
    unfold rud
    split
    · have := rud_ge (B := B) (n := n) f (i + 1); omega
    · omega
/-- the class's code of a name; the model's; a number -/
def e37 (l : List Int) : Int := l.foldl (fun v c => v * 37 + lcd c) 0
def e256 (l : List Int) : Int := l.foldl (fun v c => v * 256 + c) 0
def e10 (l : List Int) : Int := l.foldl (fun v c => v * 10 + c - 48) 0
theorem lcd_in {c : Int} (h : isAl c) : 1 ≤ lcd c ∧ lcd c ≤ 36 := by
  unfold lcd
  split <;> omega
theorem lcd_inj {c d : Int} (h : isAl c) (h2 : isAl d) (e : lcd c = lcd d) : c = d := by
  unfold lcd at e
  split at e <;> split at e <;> omega
theorem snoc_of {l : List Int} (h : l ≠ []) : ∃ l' c, l = l' ++ [c] := by
  rcases List.eq_nil_or_concat l with q | ⟨l', c, q⟩
  · exact absurd q h
  · exact ⟨l', c, by rw [q, List.concat_eq_append]⟩
theorem fold_snoc {f : Int → Int → Int} (l : List Int) (c : Int) : (l ++ [c]).foldl f 0 = f (l.foldl f 0) c := by simp
theorem e37_b : ∀ l : List Int, (∀ c ∈ l, isAl c) → 0 ≤ e37 l ∧ e37 l < 37 ^ l.length := by
  intro l
  induction hl : l.length generalizing l with
  | zero =>
    intro _
    have : l = [] := List.length_eq_zero_iff.mp hl
    subst this
    decide
  | succ k ih =>
    intro h
    have hne : l ≠ [] := fun q => by rw [q] at hl; cases hl
    obtain ⟨l', c, rfl⟩ : ∃ l' c, l = l' ++ [c] := snoc_of hne
    have hk : l'.length = k := by simpa using hl
    have h1 := ih l' hk (fun d hd => h d (List.mem_append_left _ hd))
    have h2 := lcd_in (h c (List.mem_append_right _ List.mem_cons_self))
    unfold e37 at h1 ⊢
    rw [fold_snoc, Int.pow_succ]
    omega
theorem e256_b : ∀ l : List Int, (∀ c ∈ l, isAl c) → 0 ≤ e256 l ∧ e256 l < 256 ^ l.length := by
  intro l
  induction hl : l.length generalizing l with
  | zero =>
    intro _
    have : l = [] := List.length_eq_zero_iff.mp hl
    subst this
    decide
  | succ k ih =>
    intro h
    have hne : l ≠ [] := fun q => by rw [q] at hl; cases hl
    obtain ⟨l', c, rfl⟩ : ∃ l' c, l = l' ++ [c] := snoc_of hne
    have hk : l'.length = k := by simpa using hl
    have h1 := ih l' hk (fun d hd => h d (List.mem_append_left _ hd))
    have h2 := h c (List.mem_append_right _ List.mem_cons_self)
    unfold e256 at h1 ⊢
    rw [fold_snoc, Int.pow_succ]
    omega
/-- codes of names tell them apart -/
theorem e37_inj : ∀ l m : List Int, (∀ c ∈ l, isAl c) → (∀ c ∈ m, isAl c) → e37 l = e37 m → l = m := by
  intro l
  induction hl : l.length generalizing l with
  | zero =>
    intro m _ hm e
    have : l = [] := List.length_eq_zero_iff.mp hl
    subst this
    rcases List.eq_nil_or_concat m with rfl | ⟨m', c, rfl⟩
    · rfl
    · rw [List.concat_eq_append] at hm e
      have h1 := (e37_b m' (fun d hd => hm d (List.mem_append_left _ hd))).1
      have h2 := lcd_in (hm c (List.mem_append_right _ List.mem_cons_self))
      unfold e37 at e h1
      rw [fold_snoc] at e
      have : (List.foldl (fun v c => v * 37 + lcd c) 0 ([] : List Int)) = 0 := rfl
      omega
  | succ k ih =>
    intro m h hm e
    have hne : l ≠ [] := fun q => by rw [q] at hl; cases hl
    obtain ⟨l', c, rfl⟩ : ∃ l' c, l = l' ++ [c] := snoc_of hne
    have hk : l'.length = k := by simpa using hl
    have h1 := (e37_b l' (fun d hd => h d (List.mem_append_left _ hd))).1
    have h2 := lcd_in (h c (List.mem_append_right _ List.mem_cons_self))
    rcases List.eq_nil_or_concat m with rfl | ⟨m', d, rfl⟩
    · unfold e37 at e h1
      rw [fold_snoc] at e
      have : (List.foldl (fun v c => v * 37 + lcd c) 0 ([] : List Int)) = 0 := rfl
      omega
    · rw [List.concat_eq_append] at hm e ⊢
      have h3 := (e37_b m' (fun d hd => hm d (List.mem_append_left _ hd))).1
      have h4 := lcd_in (hm d (List.mem_append_right _ List.mem_cons_self))
      have e2 : e37 l' * 37 + lcd c = e37 m' * 37 + lcd d := by
        unfold e37 at e ⊢
        rw [fold_snoc, fold_snoc] at e
        exact e
      have e3 : lcd c = lcd d := by omega
      have e4 : e37 l' = e37 m' := by omega
      rw [ih l' hk m' (fun d hd => h d (List.mem_append_left _ hd)) (fun d hd => hm d (List.mem_append_left _ hd)) e4, lcd_inj (h c (List.mem_append_right _ List.mem_cons_self)) (hm d (List.mem_append_right _ List.mem_cons_self)) e3]
theorem e256_inj : ∀ l m : List Int, (∀ c ∈ l, isAl c) → (∀ c ∈ m, isAl c) → e256 l = e256 m → l = m := by
  intro l
  induction hl : l.length generalizing l with
  | zero =>
    intro m _ hm e
    have : l = [] := List.length_eq_zero_iff.mp hl
    subst this
    rcases List.eq_nil_or_concat m with rfl | ⟨m', c, rfl⟩
    · rfl
    · rw [List.concat_eq_append] at hm e
      have h1 := (e256_b m' (fun d hd => hm d (List.mem_append_left _ hd))).1
      have h2 := hm c (List.mem_append_right _ List.mem_cons_self)
      unfold e256 at e h1
      rw [fold_snoc] at e
      have : (List.foldl (fun v c => v * 256 + c) 0 ([] : List Int)) = 0 := rfl
      omega
  | succ k ih =>
    intro m h hm e
    have hne : l ≠ [] := fun q => by rw [q] at hl; cases hl
    obtain ⟨l', c, rfl⟩ : ∃ l' c, l = l' ++ [c] := snoc_of hne
    have hk : l'.length = k := by simpa using hl
    have h1 := (e256_b l' (fun d hd => h d (List.mem_append_left _ hd))).1
    have h2 := h c (List.mem_append_right _ List.mem_cons_self)
    rcases List.eq_nil_or_concat m with rfl | ⟨m', d, rfl⟩
    · unfold e256 at e h1
      rw [fold_snoc] at e
      have : (List.foldl (fun v c => v * 256 + c) 0 ([] : List Int)) = 0 := rfl
      omega
    · rw [List.concat_eq_append] at hm e ⊢
      have h3 := (e256_b m' (fun d hd => hm d (List.mem_append_left _ hd))).1
      have h4 := hm d (List.mem_append_right _ List.mem_cons_self)
      have e2 : e256 l' * 256 + c = e256 m' * 256 + d := by
        unfold e256 at e ⊢
        rw [fold_snoc, fold_snoc] at e
        exact e
      have e3 : c = d := by omega
      have e4 : e256 l' = e256 m' := by omega
      rw [ih l' hk m' (fun d hd => h d (List.mem_append_left _ hd)) (fun d hd => hm d (List.mem_append_left _ hd)) e4, e3]
theorem chs_snoc {B : Int → Int} {n : Int} : ∀ (f : Nat) (i : Int), chs B n (f + 1) i = chs B n f i ++ [ch B n (i + f)]
  | 0, i => by simp [chs]
  | f + 1, i => by
    have := chs_snoc (B := B) (n := n) f (i + 1)
    rw [chs, this, show i + 1 + (f : Int) = i + ((f + 1 : Nat) : Int) by omega]
    rfl
theorem chs_len {B : Int → Int} {n : Int} : ∀ (f : Nat) (i : Int), (chs B n f i).length = f
  | 0, i => rfl
  | f + 1, i => by rw [chs, List.length_cons, chs_len]
theorem chs_get {B : Int → Int} {n : Int} : ∀ (f : Nat) (i : Int) (j : Nat), j < f → (chs B n f i).getD j 0 = ch B n (i + j)
  | 0, i, j, h => by omega
  | f + 1, i, 0, h => by simp [chs]
  | f + 1, i, j + 1, h => by
    have := chs_get (B := B) (n := n) f (i + 1) j (by omega)
    rw [chs, List.getD_cons_succ, this]
    congr 1
    omega
theorem run_al {B : Int → Int} {n : Int} : ∀ (f : Nat) (i j : Int), i ≤ j → j < run B n f i → isAl (ch B n j)
  | 0, i, j, h1, h2 => by unfold run at h2; omega
  | f + 1, i, j, h1, h2 => by
    unfold run at h2
    split at h2
    · rename_i q
      rcases Int.lt_or_le i j with w | w
      · exact run_al f (i + 1) j (by omega) h2
      · have : i = j := by omega
        rw [← this]; exact q
    · omega
theorem chs_al {B : Int → Int} {n : Int} : ∀ (f : Nat) (i : Int), (∀ j, i ≤ j → j < i + f → isAl (ch B n j)) → ∀ c ∈ chs B n f i, isAl c
  | 0, i, h, c, hc => by cases hc
  | f + 1, i, h, c, hc => by
    rcases List.mem_cons.mp hc with rfl | hc
    · exact h i (by omega) (by omega)
    · exact chs_al f (i + 1) (fun j h1 h2 => h j (by omega) (by omega)) c hc
/-- a longer run agrees with a shorter one that has ended -/
theorem run_more {B : Int → Int} {n : Int} : ∀ (f g : Nat) (i : Int), f ≤ g → (run B n g i < i + f → run B n f i = run B n g i) ∧ (i + f ≤ run B n g i → run B n f i = i + f)
  | 0, g, i, h => by
    have := run_ge (B := B) (n := n) g i
    rw [show run B n 0 i = i from rfl]
    constructor <;> intro q <;> omega
  | f + 1, 0, i, h => by omega
  | f + 1, g + 1, i, h => by
    have h1 := run_more (B := B) (n := n) f g (i + 1) (by omega)
    unfold run
    split
    · constructor
      · intro q; exact h1.1 (by omega)
      · intro q; rw [h1.2 (by omega)]; omega
    · constructor
      · intro q; rfl
      · intro q; omega
theorem rud_more {B : Int → Int} {n : Int} : ∀ (f g : Nat) (i : Int), f ≤ g → (rud B n g i < i + f → rud B n f i = rud B n g i) ∧ (i + f ≤ rud B n g i → rud B n f i = i + f)
  | 0, g, i, h => by
    have := rud_ge (B := B) (n := n) g i
    rw [show rud B n 0 i = i from rfl]
    constructor <;> intro q <;> omega
  | f + 1, 0, i, h => by omega
  | f + 1, g + 1, i, h => by
    have h1 := rud_more (B := B) (n := n) f g (i + 1) (by omega)
    unfold rud
    split
    · constructor
      · intro q; exact h1.1 (by omega)
      · intro q; rw [h1.2 (by omega)]; omega
    · constructor
      · intro q; rfl
      · intro q; omega
/-- enough fuel is enough -/
theorem skp_fuel {B : Int → Int} {n : Int} : ∀ (f g : Nat) (i : Int), n ≤ i + f → n ≤ i + g → skp B n f i = skp B n g i
  | 0, 0, i, _, _ => rfl
  | 0, g + 1, i, h, _ => by
    unfold skp
    rw [ch_big (by omega), if_neg (by decide)]
  | f + 1, 0, i, _, h => by
    unfold skp
    rw [ch_big (by omega), if_neg (by decide)]
  | f + 1, g + 1, i, h1, h2 => by
    unfold skp
    rw [skp_fuel f g (i + 1) (by omega) (by omega)]
theorem run_fuel {B : Int → Int} {n : Int} : ∀ (f g : Nat) (i : Int), n ≤ i + f → n ≤ i + g → run B n f i = run B n g i
  | 0, 0, i, _, _ => rfl
  | 0, g + 1, i, h, _ => by
    unfold run
    rw [ch_big (by omega), if_neg (by decide)]
  | f + 1, 0, i, _, h => by
    unfold run
    rw [ch_big (by omega), if_neg (by decide)]
  | f + 1, g + 1, i, h1, h2 => by
    unfold run
    rw [run_fuel f g (i + 1) (by omega) (by omega)]
theorem rud_fuel {B : Int → Int} {n : Int} : ∀ (f g : Nat) (i : Int), n ≤ i + f → n ≤ i + g → rud B n f i = rud B n g i
  | 0, 0, i, _, _ => rfl
  | 0, g + 1, i, h, _ => by
    unfold rud
    rw [ch_big (by omega), if_neg (by decide)]
  | f + 1, 0, i, _, h => by
    unfold rud
    rw [ch_big (by omega), if_neg (by decide)]
  | f + 1, g + 1, i, h1, h2 => by
    unfold rud
    rw [rud_fuel f g (i + 1) (by omega) (by omega)]
