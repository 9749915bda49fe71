/-! packing: the greatest worth of things with weights, within C -/
def kn : List (Nat × Int) → Nat → Int
  | [], _ => 0
  | p :: l, C => if p.1 ≤ C then max (p.2 + kn l (C - p.1)) (kn l C) else kn l C
theorem kn_mono : ∀ (l : List (Nat × Int)) {C C' : Nat}, C ≤ C' → kn l C ≤ kn l C'
  | [], C, C', h => Int.le_refl _
  | p :: l, C, C', h => by
    have h1 := kn_mono l (C := C - p.1) (C' := C' - p.1) (by omega)
    have h2 := kn_mono l h
    rw [kn, kn]
    split
    · rw [if_pos (by omega)]
      omega
    · split <;> omega
theorem kn_cons (p : Nat × Int) (l : List (Nat × Int)) (C : Nat) : kn l C ≤ kn (p :: l) C := by
  rw [kn]
  split <;> omega
theorem kn_heavy {p : Nat × Int} {l : List (Nat × Int)} {C : Nat} (h : C < p.1) : kn (p :: l) C = kn l C := by
  rw [kn, if_neg (by omega)]
theorem kn_swap (p q : Nat × Int) (l : List (Nat × Int)) (C : Nat) : kn (p :: q :: l) C = kn (q :: p :: l) C := by
  have e : kn l (C - p.1 - q.1) = kn l (C - q.1 - p.1) := by rw [Nat.sub_right_comm]
  have h1 := kn_mono l (C := C - p.1) (C' := C) (by omega)
  have h2 := kn_mono l (C := C - q.1) (C' := C) (by omega)
  simp only [kn]
  by_cases a : p.1 ≤ C
  · by_cases b : q.1 ≤ C
    · by_cases c : p.1 + q.1 ≤ C
      · rw [if_pos a, if_pos b, if_pos (by omega : q.1 ≤ C - p.1), if_pos (by omega : p.1 ≤ C - q.1)]
        omega
      · rw [if_pos a, if_pos b, if_neg (by omega : ¬ q.1 ≤ C - p.1), if_neg (by omega : ¬ p.1 ≤ C - q.1)]
        omega
    · simp only [if_pos a, if_neg b, if_neg (show ¬ q.1 ≤ C - p.1 by omega)]
  · by_cases b : q.1 ≤ C
    · simp only [if_neg a, if_pos b, if_neg (show ¬ p.1 ≤ C - q.1 by omega)]
    · rw [if_neg a, if_neg b, if_neg b, if_neg a]
theorem kn_congr {p : Nat × Int} {l l' : List (Nat × Int)} (h : ∀ C, kn l C = kn l' C) (C : Nat) : kn (p :: l) C = kn (p :: l') C := by
  rw [kn, kn, h, h]
theorem kn_perm {l l' : List (Nat × Int)} (h : l.Perm l') : ∀ C, kn l C = kn l' C := by
  induction h with
  | nil => intro C; rfl
  | cons x _ ih => intro C; exact kn_congr ih C
  | swap x y l => intro C; exact kn_swap y x l C
  | trans _ _ ih1 ih2 => intro C; rw [ih1, ih2]
def evn (l : List (Nat × Int)) : Prop := ∀ p ∈ l, p.1 % 2 = 0
theorem kn_odd : ∀ (l : List (Nat × Int)) (m : Nat), evn l → kn l (2 * m + 1) = kn l (2 * m)
  | [], m, _ => rfl
  | p :: l, m, h => by
    have hp : p.1 % 2 = 0 := h p List.mem_cons_self
    have hl : evn l := fun q hq => h q (List.mem_cons_of_mem _ hq)
    have h1 := kn_odd l m hl
    rw [kn, kn]
    by_cases a : p.1 ≤ 2 * m
    · have h2 := kn_odd l (m - p.1 / 2) hl
      rw [if_pos a, if_pos (by omega), h1, show 2 * m + 1 - p.1 = 2 * (m - p.1 / 2) + 1 by omega, show 2 * m - p.1 = 2 * (m - p.1 / 2) by omega, h2]
    · rw [if_neg a, if_neg (by omega), h1]
def dbl (p : Nat × Int) : Nat × Int := (2 * p.1, p.2)
theorem kn_dbl : ∀ (l : List (Nat × Int)) (m : Nat), kn (l.map dbl) (2 * m) = kn l m
  | [], m => rfl
  | p :: l, m => by
    rw [List.map_cons, kn, kn, kn_dbl l m]
    show (if 2 * p.1 ≤ 2 * m then max (p.2 + kn (l.map dbl) (2 * m - 2 * p.1)) (kn l m) else kn l m) = _
    by_cases a : p.1 ≤ m
    · rw [if_pos (by omega), if_pos a, show 2 * m - 2 * p.1 = 2 * (m - p.1) by omega, kn_dbl l (m - p.1)]
    · rw [if_neg (by omega), if_neg a]
theorem evn_dbl (l : List (Nat × Int)) : evn (l.map dbl) := by
  intro p hp
  obtain ⟨q, _, rfl⟩ := List.mem_map.mp hp
  show 2 * q.1 % 2 = 0
  omega
def ones (P : List Int) : List (Nat × Int) := P.map (fun v => (1, v))
/-- from the worthiest down, none below 0, all at most x -/
def dsc : Int → List Int → Prop
  | x, [] => 0 ≤ x
  | x, y :: l => y ≤ x ∧ dsc y l
theorem dsc_0 : ∀ {x : Int} {l : List Int}, dsc x l → 0 ≤ x
  | x, [], h => h
  | x, y :: l, h => by
    have := dsc_0 h.2
    have := h.1
    omega
theorem dsc_up {x x' : Int} {l : List Int} (h : dsc x l) (hx : x ≤ x') : dsc x' l := by
  cases l with
  | nil => have : 0 ≤ x := h; show 0 ≤ x'; omega
  | cons y l => exact ⟨by have := h.1; omega, h.2⟩
theorem kn_take {E : List (Nat × Int)} (hE : evn E) : ∀ (P : List Int) (x : Int) (m : Nat), dsc x P → kn (ones P ++ E) (2 * m + 1) ≤ x + kn (ones P ++ E) (2 * m)
  | [], x, m, h => by
    have h1 := kn_odd E m hE
    have : 0 ≤ x := h
    show kn E _ ≤ x + kn E _
    omega
  | y :: P, x, m, h => by
    have h1 := kn_take hE P y m h.2
    have h2 := kn_cons (1, y) (ones P ++ E) (2 * m)
    have h3 := h.1
    show kn ((1, y) :: (ones P ++ E)) (2 * m + 1) ≤ x + kn ((1, y) :: (ones P ++ E)) (2 * m)
    rw [kn, if_pos (show 1 ≤ 2 * m + 1 by omega), show 2 * m + 1 - (1, y).1 = 2 * m from rfl]
    show max (y + _) _ ≤ _
    omega
def prs : List Int → List Int
  | a :: b :: l => (a + b) :: prs l
  | [a] => [a]
  | [] => []
def twos (P : List Int) : List (Nat × Int) := P.map (fun v => (2, v))
theorem kn_prs {E : List (Nat × Int)} (hE : evn E) : ∀ (P : List Int) (x : Int) (m : Nat), dsc x P → kn (ones P ++ E) (2 * m) = kn (twos (prs P) ++ E) (2 * m)
  | [], x, m, h => rfl
  | [a], x, m, h => by
    show kn ((1, a) :: E) (2 * m) = kn ((2, a) :: E) (2 * m)
    cases m with
    | zero => rw [kn_heavy (show 2 * 0 < 1 by decide), kn_heavy (show 2 * 0 < 2 by decide)]
    | succ m =>
      have h1 := kn_odd E m hE
      rw [kn, kn, if_pos (show 1 ≤ 2 * (m + 1) by omega), if_pos (show 2 ≤ 2 * (m + 1) by omega)]
      show max (a + kn E (2 * m + 1)) _ = max (a + kn E (2 * m)) _
      rw [h1]
  | a :: b :: l, x, m, h => by
    have hb : dsc b l := h.2.2
    have ih := fun m => kn_prs hE l b m hb
    show kn ((1, a) :: (1, b) :: (ones l ++ E)) (2 * m) = kn ((2, a + b) :: (twos (prs l) ++ E)) (2 * m)
    cases m with
    | zero => rw [kn_heavy (show 2 * 0 < 1 by decide), kn_heavy (show 2 * 0 < 1 by decide), kn_heavy (show 2 * 0 < 2 by decide), ih]
    | succ m =>
      have h1 := kn_take hE l b m hb
      have h2 := h.2.1
      have i1 := ih m
      have i2 := ih (m + 1)
      simp only [kn]
      rw [if_pos (show 1 ≤ 2 * (m + 1) by omega), if_pos (show 2 ≤ 2 * (m + 1) by omega), if_pos (show 1 ≤ 2 * (m + 1) - 1 by omega), show 2 * (m + 1) - 1 = 2 * m + 1 by omega, show 2 * m + 1 - 1 = 2 * m by omega, show 2 * (m + 1) - 2 = 2 * m by omega, ← i1, ← i2]
      have h3 := kn_mono (ones l ++ E) (C := 2 * m) (C' := 2 * m + 1) (by omega)
      omega
theorem dsc_prs : ∀ (P : List Int) (x : Int), dsc x P → dsc (2 * x) (prs P)
  | [], x, h => by have : 0 ≤ x := h; show 0 ≤ 2 * x; omega
  | [a], x, h => by
    have h1 := h.1
    have h2 : 0 ≤ a := h.2
    exact ⟨by omega, h2⟩
  | a :: b :: l, x, h => by
    have h1 := h.1
    have h2 := h.2.1
    have h3 := dsc_prs l b h.2.2
    have h4 := dsc_0 h.2.2
    exact ⟨by omega, dsc_up h3 (by omega)⟩
def ins (v : Int) : List Int → List Int
  | [] => [v]
  | x :: l => if x < v then v :: x :: l else x :: ins v l
theorem ins_perm (v : Int) : ∀ l : List Int, (ins v l).Perm (v :: l)
  | [] => List.Perm.refl _
  | x :: l => by
    unfold ins
    split
    · exact List.Perm.refl _
    · exact ((ins_perm v l).cons x).trans (List.Perm.swap v x l)
theorem dsc_ins {v : Int} (hv : 0 ≤ v) : ∀ (l : List Int) (x : Int), dsc x l → v ≤ x → dsc x (ins v l)
  | [], x, h, hx => ⟨hx, hv⟩
  | y :: l, x, h, hx => by
    unfold ins
    split
    · exact ⟨hx, by omega, h.2⟩
    · exact ⟨h.1, dsc_ins hv l y h.2 (by omega)⟩
def insA : List Int → List Int → List Int
  | [], P => P
  | v :: l, P => insA l (ins v P)
theorem insA_perm : ∀ (l P : List Int), (insA l P).Perm (l ++ P)
  | [], P => List.Perm.refl _
  | v :: l, P => (insA_perm l (ins v P)).trans (((ins_perm v P).append_left l).trans (List.perm_middle))
theorem dsc_insA : ∀ (l P : List Int) (x : Int), dsc x P → (∀ v ∈ l, 0 ≤ v ∧ v ≤ x) → dsc x (insA l P)
  | [], P, x, h, _ => h
  | v :: l, P, x, h, hl => dsc_insA l (ins v P) x (dsc_ins (hl v List.mem_cons_self).1 P x h (hl v List.mem_cons_self).2) (fun w hw => hl w (List.mem_cons_of_mem _ hw))
/-- the things of levels b .. b + c - 1 -/
def its (lv : Nat → List Int) : Nat → Nat → List (Nat × Int)
  | 0, _ => []
  | c + 1, b => ones (lv b) ++ (its lv c (b + 1)).map dbl
/-- the class's way -/
def pkw (lv : Nat → List Int) : Nat → Nat → Nat → List Int → Int
  | 0, _, _, _ => 0
  | c + 1, b, C, P => match insA (lv b) P with
    | [] => pkw lv c (b + 1) (C / 2) []
    | x :: l => if C % 2 = 1 then x + pkw lv c (b + 1) (C / 2) (prs l) else pkw lv c (b + 1) (C / 2) (prs (x :: l))
theorem kn_zero : ∀ (l : List (Nat × Int)), (∀ p ∈ l, 1 ≤ p.1) → kn l 0 = 0
  | [], _ => rfl
  | p :: l, h => by
    have := h p List.mem_cons_self
    rw [kn_heavy (by omega), kn_zero l (fun q hq => h q (List.mem_cons_of_mem _ hq))]
theorem twos_dbl (P : List Int) : twos P = (ones P).map dbl := by
  unfold twos ones
  rw [List.map_map]
  rfl
theorem pkw_kn {lv : Nat → List Int} : ∀ (c b C : Nat) (P : List Int) (x : Int), C < 2 ^ c → dsc x P → (∀ j, ∀ v ∈ lv j, 0 ≤ v ∧ v ≤ x) → pkw lv c b C P = kn (ones P ++ its lv c b) C
  | 0, b, C, P, x, hC, hP, hl => by
    have : C = 0 := by omega
    subst this
    show 0 = kn (ones P ++ []) 0
    rw [List.append_nil, kn_zero]
    intro p hp
    obtain ⟨v, _, rfl⟩ := List.mem_map.mp hp
    exact Nat.le_refl 1
  | c + 1, b, C, P, x, hC, hP, hl => by
    have hx := dsc_0 hP
    have hC2 : C / 2 < 2 ^ c := by rw [Nat.pow_succ] at hC; omega
    have hl2 : ∀ j, ∀ v ∈ lv j, 0 ≤ v ∧ v ≤ 2 * x := fun j v hv => by have := hl j v hv; omega
    have hE := evn_dbl (its lv c (b + 1))
    have e1 : kn (ones P ++ its lv (c + 1) b) C = kn (ones (insA (lv b) P) ++ (its lv c (b + 1)).map dbl) C := by
      apply kn_perm
      rw [its, ← List.append_assoc]
      apply List.Perm.append_right
      unfold ones
      rw [← List.map_append]
      apply List.Perm.map
      exact (List.perm_append_comm).trans (insA_perm (lv b) P).symm
    rw [e1, pkw]
    have hI := dsc_insA (lv b) P x hP (hl b)
    have fin : ∀ (R : List Int) (m : Nat), dsc x R → C / 2 = m → pkw lv c (b + 1) m (prs R) = kn (ones R ++ (its lv c (b + 1)).map dbl) (2 * m) := by
      intro R m hR hm
      rw [pkw_kn c (b + 1) m (prs R) (2 * x) (by omega) (dsc_prs R x hR) hl2, kn_prs hE R x m hR, twos_dbl, ← List.map_append, kn_dbl]
    generalize insA (lv b) P = I at hI
    have par : C = 2 * (C / 2) ∨ C = 2 * (C / 2) + 1 := by omega
    cases I with
    | nil =>
      show pkw lv c (b + 1) (C / 2) [] = _
      have := fin [] (C / 2) hx rfl
      rw [show prs [] = [] from rfl] at this
      rw [this]
      have ho := kn_odd ((its lv c (b + 1)).map dbl) (C / 2) hE
      show kn ((its lv c (b + 1)).map dbl) (2 * (C / 2)) = kn ((its lv c (b + 1)).map dbl) C
      rcases par with h | h
      · rw [← h]
      · rw [← ho, ← h]
    | cons y l =>
      show (if C % 2 = 1 then y + pkw lv c (b + 1) (C / 2) (prs l) else pkw lv c (b + 1) (C / 2) (prs (y :: l))) = _
      split
      · rename_i w
        have hl3 : dsc x l := dsc_up hI.2 hI.1
        rw [fin l (C / 2) hl3 rfl]
        have ht := kn_take hE l y (C / 2) hI.2
        show _ = kn ((1, y) :: (ones l ++ (its lv c (b + 1)).map dbl)) C
        rw [show C = 2 * (C / 2) + 1 by omega, show (2 * (C / 2) + 1) / 2 = C / 2 by omega, kn, if_pos (show 1 ≤ 2 * (C / 2) + 1 by omega), show 2 * (C / 2) + 1 - 1 = 2 * (C / 2) by omega]
        show _ = max (y + _) _
        omega
      · rename_i w
        rw [fin (y :: l) (C / 2) hI rfl, show 2 * (C / 2) = C by omega]
/-- too heavy things may go -/
theorem kn_filter : ∀ (l : List (Nat × Int)) (p : Nat × Int → Bool) (C : Nat), (∀ q ∈ l, p q = false → C < q.1) → kn (l.filter p) C = kn l C
  | [], p, C, h => rfl
  | q :: l, p, C, h => by
    have ih := fun C' (hC : C' ≤ C) => kn_filter l p C' (fun r hr hp => by have := h r (List.mem_cons_of_mem _ hr) hp; omega)
    by_cases w : p q = true
    · rw [List.filter_cons_of_pos w, kn, kn, ih C (Nat.le_refl _), ih (C - q.1) (by omega)]
    · have w2 : p q = false := by simpa using w
      rw [List.filter_cons_of_neg w, kn_heavy (h q List.mem_cons_self w2), ih C (Nat.le_refl _)]
/-- the things level by level are all that are light enough -/
theorem its_perm {α : Type} (ks : List α) (bt : α → Nat) (wo : α → Int) : ∀ (c b : Nat), (its (fun j => (ks.filter (fun k => bt k == j)).map wo) c b).Perm ((ks.filter (fun k => decide (b ≤ bt k ∧ bt k < b + c))).map (fun k => (2 ^ (bt k - b), wo k)))
  | 0, b => by
    rw [its]
    have : ks.filter (fun k => decide (b ≤ bt k ∧ bt k < b + 0)) = [] := by
      apply List.filter_eq_nil_iff.mpr
      intro k _
      simp only [decide_eq_true_eq]
      omega
    rw [this]
    exact List.Perm.refl _
  | c + 1, b => by
    rw [its]
    have ih := its_perm ks bt wo c (b + 1)
    have e0 : ones ((ks.filter (fun k => bt k == b)).map wo) = (ks.filter (fun k => bt k == b)).map (fun k => (2 ^ (bt k - b), wo k)) := by
      unfold ones
      rw [List.map_map]
      apply List.map_congr_left
      intro k hk
      have : bt k = b := by simpa using (List.mem_filter.mp hk).2
      show ((1 : Nat), wo k) = (2 ^ (bt k - b), wo k)
      rw [this, Nat.sub_self]
    have e1 : ((ks.filter (fun k => decide (b + 1 ≤ bt k ∧ bt k < b + 1 + c))).map (fun k => (2 ^ (bt k - (b + 1)), wo k))).map dbl = (ks.filter (fun k => decide (b + 1 ≤ bt k ∧ bt k < b + 1 + c))).map (fun k => (2 ^ (bt k - b), wo k)) := by
      rw [List.map_map]
      apply List.map_congr_left
      intro k hk
      have : b + 1 ≤ bt k ∧ bt k < b + 1 + c := by simpa using (List.mem_filter.mp hk).2
      show (2 * 2 ^ (bt k - (b + 1)), wo k) = (2 ^ (bt k - b), wo k)
      rw [show bt k - b = (bt k - (b + 1)) + 1 by omega, Nat.pow_succ, Nat.mul_comm]
    rw [e0]
    refine ((ih.map dbl).append_left _).trans ?_
    rw [e1, ← List.map_append]
    apply List.Perm.map
    have e2 : ks.filter (fun k => bt k == b) = (ks.filter (fun k => decide (b ≤ bt k ∧ bt k < b + (c + 1)))).filter (fun k => bt k == b) := by
      rw [List.filter_filter]
      apply List.filter_congr
      intro k _
      by_cases w : bt k = b
      · rw [w]; simp
      · simp [w]
    have e3 : ks.filter (fun k => decide (b + 1 ≤ bt k ∧ bt k < b + 1 + c)) = (ks.filter (fun k => decide (b ≤ bt k ∧ bt k < b + (c + 1)))).filter (fun k => !(bt k == b)) := by
      rw [List.filter_filter]
      apply List.filter_congr
      intro k _
      by_cases w : bt k = b
      · rw [w]
        have : decide (b + 1 ≤ b ∧ b < b + 1 + c) = false := by
          apply decide_eq_false
          omega
        rw [this]
        simp
      · have : decide (b + 1 ≤ bt k ∧ bt k < b + 1 + c) = decide (b ≤ bt k ∧ bt k < b + (c + 1)) := by
          congr 1
          apply propext
          omega
        rw [this]
        simp [w]
    rw [e2, e3]
    exact List.filter_append_perm _ _
