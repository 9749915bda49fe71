/-! the decoder, without the machine: pieces are MARK, bits, owner -/
abbrev pc : Type := Nat × Nat × Int
def bt (b : Nat) (x : pc) : Bool := x.1.testBit (x.2.1 - 1 - b)
def isE (P : List pc) : Bool := decide (P.length < 2) || P.all (fun x => decide (x.2.2 < 0))
def lea (P : List pc) : Nat := P.foldl (fun a x => min a x.2.1) 64
def ons (P : List pc) (b : Nat) : Nat := (P.filter (bt b)).length
def ak1 (N : Nat) (o : Nat → Nat) (s : Int × Nat) (b : Nat) : Int × Nat := if 0 < o b ∧ 0 < N - o b ∧ max (o b) (N - o b) < s.2 then ((b : Int), max (o b) (N - o b)) else s
def akL (N : Nat) (o : Nat → Nat) : Nat → Nat → Int × Nat → Int × Nat
  | 0, _, s => s
  | c + 1, b, s => akL N o c (b + 1) (ak1 N o s b)
def ask (P : List pc) : Int := (akL P.length (ons P) (lea P) 0 (-1, 301)).1
def zro (P : List pc) : List pc := P.filter (fun x => !bt (ask P).toNat x)
def one (P : List pc) : List pc := P.filter (bt (ask P).toNat)
def dT : Nat → List pc → Nat
  | 0, _ => 0
  | f + 1, P => if isE P then 0 else 1 + dT f (zro P) + dT f (one P)
def dE : Nat → List pc → Nat
  | 0, _ => 0
  | f + 1, P => if isE P then 1 else dE f (zro P) + dE f (one P)
def dM : Nat → List pc → Nat → Nat
  | 0, _, d => d
  | f + 1, P, d => if isE P then d else max (dM f (zro P) (d + 1)) (dM f (one P) (d + 1))
def dD : Nat → List pc → Nat → Int → Nat
  | 0, _, d, _ => d
  | f + 1, P, d, o => if isE P then d else if (zro P).any (fun x => x.2.2 == o) then dD f (zro P) (d + 1) o else dD f (one P) (d + 1) o
section
variable {P P' : List pc}
theorem lea_perm (h : P.Perm P') : ∀ a : Nat, P.foldl (fun a x => min a x.2.1) a = P'.foldl (fun a x => min a x.2.1) a := by
  induction h with
  | nil => intro a; rfl
  | cons x _ ih => intro a; exact ih _
  | swap x y l =>
    intro a
    show l.foldl _ (min (min a y.2.1) x.2.1) = l.foldl _ (min (min a x.2.1) y.2.1)
    congr 1
    omega
  | trans _ _ h1 h2 => intro a; rw [h1, h2]
theorem ons_perm (h : P.Perm P') (b : Nat) : ons P b = ons P' b := (h.filter _).length_eq
theorem ask_perm (h : P.Perm P') : ask P = ask P' := by
  unfold ask lea
  rw [lea_perm h, h.length_eq, show ons P = ons P' from funext (ons_perm h)]
theorem isE_perm (h : P.Perm P') : isE P = isE P' := by
  unfold isE
  rw [h.length_eq]
  congr 1
  rw [Bool.eq_iff_iff, List.all_eq_true, List.all_eq_true]
  exact ⟨fun q x hx => q x (h.mem_iff.mpr hx), fun q x hx => q x (h.mem_iff.mp hx)⟩
theorem zro_perm (h : P.Perm P') : (zro P).Perm (zro P') := by
  unfold zro
  rw [ask_perm h]
  exact h.filter _
theorem one_perm (h : P.Perm P') : (one P).Perm (one P') := by
  unfold one
  rw [ask_perm h]
  exact h.filter _
end
theorem dT_perm : ∀ (f : Nat) {P P' : List pc}, P.Perm P' → dT f P = dT f P'
  | 0, _, _, _ => rfl
  | f + 1, P, P', h => by rw [dT, dT, isE_perm h, dT_perm f (zro_perm h), dT_perm f (one_perm h)]
theorem dE_perm : ∀ (f : Nat) {P P' : List pc}, P.Perm P' → dE f P = dE f P'
  | 0, _, _, _ => rfl
  | f + 1, P, P', h => by rw [dE, dE, isE_perm h, dE_perm f (zro_perm h), dE_perm f (one_perm h)]
theorem dM_perm : ∀ (f : Nat) {P P' : List pc} (d : Nat), P.Perm P' → dM f P d = dM f P' d
  | 0, _, _, _, _ => rfl
  | f + 1, P, P', d, h => by rw [dM, dM, isE_perm h, dM_perm f _ (zro_perm h), dM_perm f _ (one_perm h)]
theorem dD_perm : ∀ (f : Nat) {P P' : List pc} (d : Nat) (o : Int), P.Perm P' → dD f P d o = dD f P' d o
  | 0, _, _, _, _, _ => rfl
  | f + 1, P, P', d, o, h => by
    rw [dD, dD, isE_perm h, dD_perm f _ _ (zro_perm h), dD_perm f _ _ (one_perm h)]
    have : (zro P).any (fun x => x.2.2 == o) = (zro P').any (fun x => x.2.2 == o) := by
      rw [Bool.eq_iff_iff, List.any_eq_true, List.any_eq_true]
      exact ⟨fun ⟨x, hx, q⟩ => ⟨x, (zro_perm h).mem_iff.mp hx, q⟩, fun ⟨x, hx, q⟩ => ⟨x, (zro_perm h).mem_iff.mpr hx, q⟩⟩
    rw [this]
/-- none is the beginning of another -/
def nbg (x y : pc) : Prop := ¬ (x.2.1 ≤ y.2.1 ∧ y.1 / 2 ^ (y.2.1 - x.2.1) = x.1) ∧ ¬ (y.2.1 ≤ x.2.1 ∧ x.1 / 2 ^ (x.2.1 - y.2.1) = y.1)
theorem nbg_s {x y : pc} (h : nbg x y) : nbg y x := ⟨h.2, h.1⟩
/-- pieces as they may be; owners once -/
def okP (P : List pc) : Prop := P.Pairwise nbg ∧ P.Pairwise (fun x y => x.2.2 = y.2.2 → x.2.2 < 0) ∧ ∀ x ∈ P, 1 ≤ x.2.1 ∧ x.2.1 ≤ 32 ∧ x.1 < 2 ^ x.2.1 ∧ -1 ≤ x.2.2 ∧ x.2.2 < 40
theorem okP_perm {P P' : List pc} (h : P.Perm P') (hP : okP P) : okP P' := by
  obtain ⟨h1, h2, h3⟩ := hP
  refine ⟨(h.pairwise_iff (fun {x y} q => nbg_s q)).mp h1, (h.pairwise_iff (fun {x y} q e => by rw [e]; exact q e.symm)).mp h2, fun x hx => h3 x (h.mem_iff.mpr hx)⟩
theorem okP_filter {P : List pc} (f : pc → Bool) (hP : okP P) : okP (P.filter f) :=
  ⟨hP.1.filter f, hP.2.1.filter f, fun x hx => hP.2.2 x (List.mem_filter.mp hx).1⟩
theorem lea_le : ∀ (P : List pc) (a : Nat), P.foldl (fun a x => min a x.2.1) a ≤ a ∧ (∀ x ∈ P, P.foldl (fun a x => min a x.2.1) a ≤ x.2.1) ∧ (P.foldl (fun a x => min a x.2.1) a = a ∨ ∃ x ∈ P, x.2.1 = P.foldl (fun a x => min a x.2.1) a)
  | [], a => ⟨Nat.le_refl _, fun x hx => (by cases hx), Or.inl rfl⟩
  | y :: P, a => by
    obtain ⟨h1, h2, h3⟩ := lea_le P (min a y.2.1)
    refine ⟨by show P.foldl _ (min a y.2.1) ≤ a; omega, fun x hx => ?_, ?_⟩
    · show P.foldl _ (min a y.2.1) ≤ x.2.1
      rcases List.mem_cons.mp hx with rfl | hx
      · omega
      · exact h2 x hx
    · show P.foldl _ (min a y.2.1) = a ∨ ∃ x ∈ y :: P, x.2.1 = P.foldl _ (min a y.2.1)
      rcases h3 with w | ⟨x, hx, e⟩
      · by_cases v : a ≤ y.2.1
        · left; rw [w]; omega
        · right; exact ⟨y, List.mem_cons_self, by rw [w]; omega⟩
      · right; exact ⟨x, List.mem_cons_of_mem _ hx, e⟩
/-- what the search for a bit finds -/
theorem akL_sp {N : Nat} {o : Nat → Nat} : ∀ (c b : Nat) (s : Int × Nat), (akL N o c b s = s ∧ ∀ i, b ≤ i → i < b + c → ¬ (0 < o i ∧ 0 < N - o i ∧ max (o i) (N - o i) < s.2)) ∨ ∃ i, b ≤ i ∧ i < b + c ∧ 0 < o i ∧ 0 < N - o i ∧ akL N o c b s = ((i : Int), max (o i) (N - o i))
  | 0, b, s => Or.inl ⟨rfl, fun i h1 h2 => by omega⟩
  | c + 1, b, s => by
    rw [akL]
    by_cases w : 0 < o b ∧ 0 < N - o b ∧ max (o b) (N - o b) < s.2
    · have e : ak1 N o s b = ((b : Int), max (o b) (N - o b)) := by unfold ak1; rw [if_pos w]
      rw [e]
      rcases akL_sp c (b + 1) ((b : Int), max (o b) (N - o b)) with ⟨h1, _⟩ | ⟨i, h1, h2, h3⟩
      · exact Or.inr ⟨b, by omega, by omega, w.1, w.2.1, h1⟩
      · exact Or.inr ⟨i, by omega, by omega, h3⟩
    · have e : ak1 N o s b = s := by unfold ak1; rw [if_neg w]
      rw [e]
      rcases akL_sp c (b + 1) s with ⟨h1, h2⟩ | ⟨i, h1, h2, h3⟩
      · refine Or.inl ⟨h1, fun i h3 h4 => ?_⟩
        by_cases v : i = b
        · rw [v]; exact w
        · exact h2 i (by omega) (by omega)
      · exact Or.inr ⟨i, by omega, by omega, h3⟩
theorem bt_eq {x y : pc} (hx : x.1 < 2 ^ x.2.1) (hl : x.2.1 ≤ y.2.1) (hy : y.1 < 2 ^ y.2.1) (h : ∀ b, b < x.2.1 → bt b x = bt b y) : y.1 / 2 ^ (y.2.1 - x.2.1) = x.1 := by
  apply Nat.eq_of_testBit_eq
  intro j
  rw [Nat.testBit_div_two_pow]
  by_cases w : j < x.2.1
  · have := h (x.2.1 - 1 - j) (by omega)
    unfold bt at this
    rw [show x.2.1 - 1 - (x.2.1 - 1 - j) = j by omega, show y.2.1 - 1 - (x.2.1 - 1 - j) = y.2.1 - x.2.1 + j by omega] at this
    rw [Nat.add_comm] at this
    rw [Nat.add_comm]
    rw [this, Nat.add_comm]
  · rw [Nat.testBit_lt_two_pow (Nat.lt_of_lt_of_le hx (Nat.pow_le_pow_right (by decide) (by omega)))]
    rw [Nat.testBit_lt_two_pow (Nat.lt_of_lt_of_le hy (Nat.pow_le_pow_right (by decide) (by omega)))]
theorem flt_all {α : Type} {f : α → Bool} : ∀ {l : List α}, (l.filter f).length = 0 → ∀ x ∈ l, f x = false := by
  intro l h x hx
  have := List.filter_eq_nil_iff.mp (List.length_eq_zero_iff.mp h) x hx
  simpa using this
theorem flt_full {α : Type} {f : α → Bool} : ∀ {l : List α}, l.length - (l.filter f).length = 0 → ∀ x ∈ l, f x = true := by
  intro l h x hx
  have h1 := List.length_filter_le f l
  have h2 : (l.filter f).length = l.length := by omega
  exact List.length_filter_eq_length_iff.mp h2 x hx
/-- there is always such a bit -/
theorem ask_ok {P : List pc} (hP : okP P) (hN : P.length ≤ 300) (hE : isE P = false) : ∃ b : Nat, ask P = b ∧ b < lea P ∧ b < 32 ∧ 0 < (zro P).length ∧ 0 < (one P).length ∧ (zro P).length + (one P).length = P.length := by
  obtain ⟨h1, h2, h3⟩ := hP
  have hlen : 2 ≤ P.length := by
    unfold isE at hE
    simp at hE
    omega
  obtain ⟨l1, l2, l3⟩ := lea_le P 64
  have hex : ∃ x ∈ P, x.2.1 = lea P := by
    rcases l3 with w | w
    · cases hq : P with
      | nil => rw [hq] at hlen; simp at hlen
      | cons y l =>
        have hy : y ∈ P := by rw [hq]; exact List.mem_cons_self
        have := l2 y hy
        have := (h3 y hy).2.1
        omega
    · exact w
  obtain ⟨x, hx, hxl⟩ := hex
  have hl32 : lea P ≤ 32 := by rw [← hxl]; exact (h3 x hx).2.1
  have hsum : ∀ b, (P.filter (fun x => !bt b x)).length + (P.filter (bt b)).length = P.length := by
    intro b
    have := (List.filter_append_perm (bt b) P).length_eq
    rw [List.length_append] at this
    omega
  rcases akL_sp (N := P.length) (o := ons P) (lea P) 0 (-1, 301) with ⟨e1, e2⟩ | ⟨i, i1, i2, i3, i4, i5⟩
  · exfalso
    -- no bit tells them apart
    have hag : ∀ b, b < lea P → ∀ y ∈ P, bt b y = bt b x := by
      intro b hb y hy
      have hno := e2 b (by omega) (by omega)
      have hle : ons P b ≤ P.length := List.length_filter_le _ _
      by_cases w : ons P b = 0
      · rw [flt_all w y hy, flt_all w x hx]
      · have w2 : P.length - ons P b = 0 := by
          apply Decidable.byContradiction
          intro q
          exact hno ⟨by omega, by omega, by show max (ons P b) (P.length - ons P b) < 301; omega⟩
        rw [flt_full w2 y hy, flt_full w2 x hx]
    have hne : ∃ y ∈ P, (nbg x y ∨ nbg y x) := by
      cases hq : P with
      | nil => rw [hq] at hlen; simp at hlen
      | cons a l =>
        cases hl : l with
        | nil => rw [hq, hl] at hlen; simp at hlen
        | cons c l' =>
          rw [hq, hl] at h1 hx
          have hp := List.pairwise_cons.mp h1
          rcases List.mem_cons.mp hx with e | hx'
          · exact ⟨c, List.mem_cons_of_mem _ List.mem_cons_self, Or.inl (by rw [e]; exact hp.1 c List.mem_cons_self)⟩
          · exact ⟨a, List.mem_cons_self, Or.inr (hp.1 x hx')⟩
    obtain ⟨y, hy, hn⟩ := hne
    have hly : x.2.1 ≤ y.2.1 := by rw [hxl]; exact l2 y hy
    have := bt_eq (h3 x hx).2.2.1 hly (h3 y hy).2.2.1 (fun b hb => (hag b (by omega) y hy).symm)
    rcases hn with w | w
    · exact w.1 ⟨hly, this⟩
    · exact w.2 ⟨hly, this⟩
  · have ea : ask P = i := by unfold ask; rw [i5]
    have hz : (zro P).length + (one P).length = P.length := hsum _
    have ho : (one P).length = ons P i := by unfold one ons; rw [ea]; rfl
    exact ⟨i, ea, by omega, by omega, by omega, by omega, hz⟩
/-- a split, as any two lists that are the parts -/
theorem dec_split {f : Nat} {P Z O : List pc} (hE : isE P = false) (hz : Z.Perm (zro P)) (ho : O.Perm (one P)) (d : Nat) : dT (f + 1) P = 1 + dT f Z + dT f O ∧ dE (f + 1) P = dE f Z + dE f O ∧ dM (f + 1) P d = max (dM f Z (d + 1)) (dM f O (d + 1)) ∧ ∀ o, dD (f + 1) P d o = if Z.any (fun x => x.2.2 == o) then dD f Z (d + 1) o else dD f O (d + 1) o := by
  refine ⟨?_, ?_, ?_, fun o => ?_⟩
  · rw [dT, hE, dT_perm f hz, dT_perm f ho]; rfl
  · rw [dE, hE, dE_perm f hz, dE_perm f ho]; rfl
  · rw [dM, hE, dM_perm f _ hz, dM_perm f _ ho]; rfl
  · rw [dD, hE, dD_perm f _ _ hz, dD_perm f _ _ ho]
    have : Z.any (fun x => x.2.2 == o) = (zro P).any (fun x => x.2.2 == o) := by
      rw [Bool.eq_iff_iff, List.any_eq_true, List.any_eq_true]
      exact ⟨fun ⟨x, hx, q⟩ => ⟨x, hz.mem_iff.mp hx, q⟩, fun ⟨x, hx, q⟩ => ⟨x, hz.mem_iff.mpr hx, q⟩⟩
    rw [this]
    rfl
