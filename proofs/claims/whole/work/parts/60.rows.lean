/-! rows of FIELDS: the first of the cheapest -/
section
variable {α : Type} (c : α → Nat)
def bst (s : Nat × α) (p : α) : Nat × α := if c p < s.1 then (c p, p) else s
def bsl (s : Nat × α) : List α → Nat × α
  | [] => s
  | p :: L => bsl (bst c s p) L
end
theorem bsl_app {α : Type} {c : α → Nat} : ∀ (A B : List α) (s : Nat × α), bsl c s (A ++ B) = bsl c (bsl c s A) B
  | [], B, s => rfl
  | p :: A, B, s => bsl_app A B (bst c s p)
/-- where a row begins does not matter but for its own first cheapest -/
theorem bsl_min {α : Type} {c : α → Nat} : ∀ (L : List α) (s t : Nat × α), t.1 = c t.2 → bsl c (bst c s t.2) L = if (bsl c t L).1 < s.1 then bsl c t L else s
  | [], s, t, ht => by
    show bst c s t.2 = if t.1 < s.1 then t else s
    unfold bst
    rw [← ht]
  | p :: L, s, t, ht => by
    show bsl c (bst c (bst c s t.2) p) L = if (bsl c (bst c t p) L).1 < s.1 then bsl c (bst c t p) L else s
    by_cases h : c p < t.1
    · have e1 : bst c t p = (c p, p) := by unfold bst; rw [if_pos h]
      have ih := bsl_min L s (c p, p) rfl
      rw [e1, ← ih]
      congr 1
      unfold bst
      by_cases h2 : c t.2 < s.1
      · rw [if_pos h2, if_pos (show c p < c t.2 by rw [← ht]; exact h), if_pos (show c (c p, p).2 < s.1 by show c p < s.1; omega)]
      · rw [if_neg h2]
    · have e1 : bst c t p = t := by unfold bst; rw [if_neg h]
      have ih := bsl_min L s t ht
      rw [e1, ← ih]
      congr 1
      unfold bst
      by_cases h2 : c t.2 < s.1
      · rw [if_pos h2, if_neg (show ¬ c p < c t.2 by rw [← ht]; exact h)]
      · rw [if_neg h2, if_neg (show ¬ c p < s.1 by omega)]
theorem bsl_map {α β : Type} {c : α → Nat} {d : β → Nat} {f : α → β} {k : Nat} (h : ∀ p, d (f p) = k + c p) : ∀ (L : List α) (t : Nat × α), bsl d (k + t.1, f t.2) (L.map f) = (k + (bsl c t L).1, f (bsl c t L).2)
  | [], t => rfl
  | p :: L, t => by
    show bsl d (bst d (k + t.1, f t.2) (f p)) (L.map f) = _
    have e : bst d (k + t.1, f t.2) (f p) = (k + (bst c t p).1, f (bst c t p).2) := by
      unfold bst
      rw [h p]
      by_cases w : c p < t.1
      · rw [if_pos (show k + c p < k + t.1 by omega), if_pos w]
      · rw [if_neg (show ¬ k + c p < k + t.1 by omega), if_neg w]
    rw [e, bsl_map h L (bst c t p)]
    rfl
/-- all rows of the FIELDS l, by which stands first, then second, .. -/
def PM : Nat → List Nat → List (List Nat)
  | 0, _ => [[]]
  | n + 1, l => l.flatMap (fun i => (PM n (l.erase i)).map (fun p => i :: p))
section
variable (nw : Nat → List Nat → Nat)
/-- how many come to a new PLACE -/
def cst : List Nat → Nat
  | [] => 0
  | i :: p => nw i p + cst p
/-- the fewest, and the row that is taken -/
def fwl : Nat → List Nat → Nat
  | 0, _ => 0
  | n + 1, l => (l.map (fun i => nw i (l.erase i) + fwl n (l.erase i))).foldl min 6
def grd : Nat → List Nat → List Nat
  | 0, _ => []
  | n + 1, l => match l.find? (fun i => nw i (l.erase i) + fwl nw n (l.erase i) == fwl nw (n + 1) l) with
    | some i => i :: grd n (l.erase i)
    | none => []
end
section
variable {nw : Nat → List Nat → Nat}
theorem PM_ne : ∀ (n : Nat) (l : List Nat), l.length = n → PM n l ≠ []
  | 0, l, _ => by simp [PM]
  | n + 1, l, h => by
    cases l with
    | nil => cases h
    | cons a l =>
      have := PM_ne n ((a :: l).erase a) (by simpa using h)
      rw [PM, List.flatMap_cons]
      intro q
      have := (List.append_eq_nil_iff.mp q).1
      have := List.map_eq_nil_iff.mp this
      contradiction
/-- rows of the same FIELDS weigh the same ahead of the rest -/
def nwP (nw : Nat → List Nat → Nat) : Prop := ∀ i p q, List.Perm p q → nw i p = nw i q
theorem PM_perm : ∀ (n : Nat) (l p : List Nat), l.length = n → p ∈ PM n l → p.Perm l
  | 0, l, p, h, hp => by
    have h1 : l = [] := List.length_eq_zero_iff.mp h
    have h2 : p = [] := by simpa [PM] using hp
    rw [h1, h2]
  | n + 1, l, p, h, hp => by
    rw [PM, List.mem_flatMap] at hp
    obtain ⟨i, hi, hp⟩ := hp
    obtain ⟨q, hq, rfl⟩ := List.mem_map.mp hp
    have := PM_perm n (l.erase i) q (by rw [List.length_erase_of_mem hi, h]; rfl) hq
    exact (this.cons i).trans (List.perm_cons_erase hi).symm
theorem bsl_1 {α : Type} {c : α → Nat} (a : α) (A : List α) (s : Nat × α) : bsl c s (a :: A) = if (bsl c (c a, a) A).1 < s.1 then bsl c (c a, a) A else s := by
  show bsl c (bst c s a) A = _
  exact bsl_min A s (c a, a) rfl
theorem bsl_le {α : Type} {c : α → Nat} : ∀ (L : List α) (s : Nat × α), (bsl c s L).1 ≤ s.1
  | [], s => Nat.le_refl _
  | p :: L, s => by
    have := bsl_le (c := c) L (bst c s p)
    have h2 : (bst c s p).1 ≤ s.1 := by
      unfold bst
      split
      · show c p ≤ s.1; omega
      · exact Nat.le_refl _
    show (bsl c (bst c s p) L).1 ≤ s.1
    omega
theorem foldl_min_le : ∀ (L : List Nat) (s : Nat), L.foldl min s ≤ s
  | [], s => Nat.le_refl _
  | a :: L, s => by
    have := foldl_min_le L (min s a)
    show L.foldl min (min s a) ≤ s
    omega
theorem foldl_min_mem : ∀ (L : List Nat) (s : Nat), (∀ x ∈ L, L.foldl min s ≤ x) ∧ (L.foldl min s = s ∨ L.foldl min s ∈ L)
  | [], s => ⟨fun x hx => (by cases hx), Or.inl rfl⟩
  | a :: L, s => by
    have ih := foldl_min_mem L (min s a)
    have hl := foldl_min_le L (min s a)
    refine ⟨fun x hx => ?_, ?_⟩
    · show L.foldl min (min s a) ≤ x
      rcases List.mem_cons.mp hx with rfl | hx
      · omega
      · exact ih.1 x hx
    · show L.foldl min (min s a) = s ∨ _
      rcases ih.2 with w | w
      · by_cases v : s ≤ a
        · left; rw [w]; omega
        · right
          show L.foldl min (min s a) ∈ a :: L
          rw [show L.foldl min (min s a) = a by rw [w]; omega]
          exact List.mem_cons_self
      · right; exact List.mem_cons_of_mem _ w
theorem fwl_b (h1 : ∀ i p, nw i p ≤ 1) : ∀ (n : Nat) (l : List Nat), l.length = n → n ≤ 6 → fwl nw n l ≤ n
  | 0, l, _, _ => Nat.le_refl _
  | n + 1, l, h, hn => by
    cases l with
    | nil => cases h
    | cons a l =>
      have ih := fwl_b h1 n ((a :: l).erase a) (by simpa using h) (by omega)
      have hm := (foldl_min_mem (((a :: l).map (fun i => nw i ((a :: l).erase i) + fwl nw n ((a :: l).erase i)))) 6).1 _ (List.mem_map.mpr ⟨a, List.mem_cons_self, rfl⟩)
      have := h1 a ((a :: l).erase a)
      show ((a :: l).map (fun i => nw i ((a :: l).erase i) + fwl nw n ((a :: l).erase i))).foldl min 6 ≤ n + 1
      omega
/-- the first cheapest of all rows is the one that is taken FIELD by FIELD -/
theorem grd_ok (hp : nwP nw) (h1 : ∀ i p, nw i p ≤ 1) : ∀ (n : Nat) (l : List Nat), l.length = n → n ≤ 6 → ∀ (s : Nat × List Nat), fwl nw n l < s.1 → bsl (cst nw) s (PM n l) = (fwl nw n l, grd nw n l)
  | 0, l, h, hn, s, hs => by
    show bst (cst nw) s [] = (0, [])
    have : (0 : Nat) < s.1 := hs
    unfold bst
    rw [if_pos (show cst nw [] < s.1 from this)]
    rfl
  | n + 1, l, h, hn, s, hs => by
    have blk : ∀ i ∈ l, ∀ s : Nat × List Nat, bsl (cst nw) s ((PM n (l.erase i)).map (fun p => i :: p)) = if nw i (l.erase i) + fwl nw n (l.erase i) < s.1 then (nw i (l.erase i) + fwl nw n (l.erase i), i :: grd nw n (l.erase i)) else s := by
      intro i hi s
      have hl : (l.erase i).length = n := by rw [List.length_erase_of_mem hi, h]; rfl
      have ih := grd_ok hp h1 n (l.erase i) hl (by omega)
      have hPp : ∀ p ∈ PM n (l.erase i), cst nw (i :: p) = nw i (l.erase i) + cst nw p := by
        intro p hpm
        show nw i p + cst nw p = _
        rw [hp i p (l.erase i) (PM_perm n _ p hl hpm)]
      cases hPM : PM n (l.erase i) with
      | nil => exact absurd hPM (PM_ne n _ hl)
      | cons a A =>
        rw [hPM] at ih hPp
        have hb := fwl_b h1 n (l.erase i) hl (by omega)
        have ih2 := ih (100, []) (by omega)
        rw [bsl_1] at ih2
        have e2 : bsl (cst nw) (cst nw a, a) A = (fwl nw n (l.erase i), grd nw n (l.erase i)) := by
          by_cases w : (bsl (cst nw) (cst nw a, a) A).1 < 100
          · rw [if_pos w] at ih2; exact ih2
          · rw [if_neg w] at ih2
            have := congrArg Prod.fst ih2
            simp at this
            omega
        have e3 : ∀ (A : List (List Nat)) (t : Nat × List Nat), (∀ p ∈ A, cst nw (i :: p) = nw i (l.erase i) + cst nw p) → bsl (cst nw) (nw i (l.erase i) + t.1, i :: t.2) (A.map (fun p => i :: p)) = (nw i (l.erase i) + (bsl (cst nw) t A).1, i :: (bsl (cst nw) t A).2) := by
          intro A
          induction A with
          | nil => intro t _; rfl
          | cons p A ihA =>
            intro t hA
            have hpp := hA p List.mem_cons_self
            show bsl (cst nw) (bst (cst nw) (nw i (l.erase i) + t.1, i :: t.2) (i :: p)) (A.map (fun p => i :: p)) = _
            have e : bst (cst nw) (nw i (l.erase i) + t.1, i :: t.2) (i :: p) = (nw i (l.erase i) + (bst (cst nw) t p).1, i :: (bst (cst nw) t p).2) := by
              unfold bst
              rw [hpp]
              by_cases w : cst nw p < t.1
              · rw [if_pos (show nw i (l.erase i) + cst nw p < nw i (l.erase i) + t.1 by omega), if_pos w]
              · rw [if_neg (show ¬ nw i (l.erase i) + cst nw p < nw i (l.erase i) + t.1 by omega), if_neg w]
            rw [e, ihA _ (fun q hq => hA q (List.mem_cons_of_mem _ hq))]
            rfl
        rw [List.map_cons, bsl_1]
        have e4 := e3 A (cst nw a, a) (fun q hq => hPp q (List.mem_cons_of_mem _ hq))
        rw [e2] at e4
        have e5 : bsl (cst nw) (cst nw (i :: a), i :: a) (A.map (fun p => i :: p)) = (nw i (l.erase i) + fwl nw n (l.erase i), i :: grd nw n (l.erase i)) := by
          rw [hPp a List.mem_cons_self]
          exact e4
        rw [e5]
    -- over the blocks
    have run : ∀ (l' : List Nat) (s : Nat × List Nat), (∀ i ∈ l', i ∈ l) → bsl (cst nw) s (l'.flatMap (fun i => (PM n (l.erase i)).map (fun p => i :: p))) = (bsl (fun x : Nat × List Nat => x.1) (s.1, s) (l'.map (fun i => (nw i (l.erase i) + fwl nw n (l.erase i), i :: grd nw n (l.erase i))))).2 := by
      intro l'
      induction l' with
      | nil => intro s _; rfl
      | cons i l' ih =>
        intro s hl'
        rw [List.flatMap_cons, bsl_app, blk i (hl' i List.mem_cons_self) s, List.map_cons]
        have := ih (if nw i (l.erase i) + fwl nw n (l.erase i) < s.1 then (nw i (l.erase i) + fwl nw n (l.erase i), i :: grd nw n (l.erase i)) else s) (fun j hj => hl' j (List.mem_cons_of_mem _ hj))
        rw [this]
        show _ = (bsl (fun x : Nat × List Nat => x.1) (bst (fun x : Nat × List Nat => x.1) (s.1, s) (nw i (l.erase i) + fwl nw n (l.erase i), i :: grd nw n (l.erase i))) _).2
        congr 2
        unfold bst
        by_cases w : nw i (l.erase i) + fwl nw n (l.erase i) < s.1
        · rw [if_pos w]
          show _ = if nw i (l.erase i) + fwl nw n (l.erase i) < s.1 then _ else _
          rw [if_pos w]
        · rw [if_neg w]
          show _ = if nw i (l.erase i) + fwl nw n (l.erase i) < s.1 then _ else _
          rw [if_neg w]
    have fst : ∀ (l' : List Nat) (s : Nat × List Nat), fwl nw (n + 1) l < s.1 → (∃ i ∈ l', nw i (l.erase i) + fwl nw n (l.erase i) = fwl nw (n + 1) l) → (∀ i ∈ l', fwl nw (n + 1) l ≤ nw i (l.erase i) + fwl nw n (l.erase i)) → (bsl (fun x : Nat × List Nat => x.1) (s.1, s) (l'.map (fun i => (nw i (l.erase i) + fwl nw n (l.erase i), i :: grd nw n (l.erase i))))).2 = match l'.find? (fun i => nw i (l.erase i) + fwl nw n (l.erase i) == fwl nw (n + 1) l) with
        | some i => (fwl nw (n + 1) l, i :: grd nw n (l.erase i))
        | none => s := by
      intro l'
      induction l' with
      | nil => rintro s _ ⟨i, hi, _⟩; cases hi
      | cons i l' ih =>
        intro s hs hex hge
        rw [List.map_cons]
        show (bsl (fun x : Nat × List Nat => x.1) (bst (fun x : Nat × List Nat => x.1) (s.1, s) (nw i (l.erase i) + fwl nw n (l.erase i), i :: grd nw n (l.erase i))) _).2 = _
        by_cases w : nw i (l.erase i) + fwl nw n (l.erase i) = fwl nw (n + 1) l
        · rw [List.find?_cons_of_pos (by simpa using w)]
          have e : bst (fun x : Nat × List Nat => x.1) (s.1, s) (nw i (l.erase i) + fwl nw n (l.erase i), i :: grd nw n (l.erase i)) = (fwl nw (n + 1) l, (fwl nw (n + 1) l, i :: grd nw n (l.erase i))) := by
            unfold bst
            rw [w]
            show (if fwl nw (n + 1) l < s.1 then _ else _) = _
            rw [if_pos hs]
          rw [e]
          have stay : ∀ (l'' : List Nat), (∀ j ∈ l'', fwl nw (n + 1) l ≤ nw j (l.erase j) + fwl nw n (l.erase j)) → (bsl (fun x : Nat × List Nat => x.1) (fwl nw (n + 1) l, (fwl nw (n + 1) l, i :: grd nw n (l.erase i))) (l''.map (fun i => (nw i (l.erase i) + fwl nw n (l.erase i), i :: grd nw n (l.erase i))))).2 = (fwl nw (n + 1) l, i :: grd nw n (l.erase i)) := by
            intro l''
            induction l'' with
            | nil => intro _; rfl
            | cons j l'' ihs =>
              intro hj
              rw [List.map_cons]
              show (bsl (fun x : Nat × List Nat => x.1) (bst (fun x : Nat × List Nat => x.1) (fwl nw (n + 1) l, (fwl nw (n + 1) l, i :: grd nw n (l.erase i))) (nw j (l.erase j) + fwl nw n (l.erase j), j :: grd nw n (l.erase j))) _).2 = _
              have e2 : bst (fun x : Nat × List Nat => x.1) (fwl nw (n + 1) l, (fwl nw (n + 1) l, i :: grd nw n (l.erase i))) (nw j (l.erase j) + fwl nw n (l.erase j), j :: grd nw n (l.erase j)) = (fwl nw (n + 1) l, (fwl nw (n + 1) l, i :: grd nw n (l.erase i))) := by
                unfold bst
                have := hj j List.mem_cons_self
                show (if nw j (l.erase j) + fwl nw n (l.erase j) < fwl nw (n + 1) l then _ else _) = _
                rw [if_neg (by omega)]
              rw [e2]
              exact ihs (fun k hk => hj k (List.mem_cons_of_mem _ hk))
          exact stay l' (fun j hj => hge j (List.mem_cons_of_mem _ hj))
        · rw [List.find?_cons_of_neg (by simpa using w)]
          have hex' : ∃ i ∈ l', nw i (l.erase i) + fwl nw n (l.erase i) = fwl nw (n + 1) l := by
            obtain ⟨j, hj, hj2⟩ := hex
            rcases List.mem_cons.mp hj with rfl | hj
            · exact absurd hj2 w
            · exact ⟨j, hj, hj2⟩
          have hge' : ∀ j ∈ l', fwl nw (n + 1) l ≤ nw j (l.erase j) + fwl nw n (l.erase j) := fun j hj => hge j (List.mem_cons_of_mem _ hj)
          have hgi := hge i List.mem_cons_self
          unfold bst
          show (bsl (fun x : Nat × List Nat => x.1) (if nw i (l.erase i) + fwl nw n (l.erase i) < s.1 then _ else _) _).2 = _
          have hfe : ∀ s', (match l'.find? (fun i => nw i (l.erase i) + fwl nw n (l.erase i) == fwl nw (n + 1) l) with
              | some i => (fwl nw (n + 1) l, i :: grd nw n (l.erase i))
              | none => s') = (match l'.find? (fun i => nw i (l.erase i) + fwl nw n (l.erase i) == fwl nw (n + 1) l) with
              | some i => (fwl nw (n + 1) l, i :: grd nw n (l.erase i))
              | none => s) := by
            intro s'
            cases hf : l'.find? (fun i => nw i (l.erase i) + fwl nw n (l.erase i) == fwl nw (n + 1) l) with
            | some i => rfl
            | none =>
              obtain ⟨j, hj, hj2⟩ := hex'
              have := List.find?_eq_none.mp hf j hj
              simp [hj2] at this
          by_cases v : nw i (l.erase i) + fwl nw n (l.erase i) < s.1
          · rw [if_pos v, ← hfe (nw i (l.erase i) + fwl nw n (l.erase i), i :: grd nw n (l.erase i))]
            exact ih (nw i (l.erase i) + fwl nw n (l.erase i), i :: grd nw n (l.erase i)) (by show fwl nw (n + 1) l < nw i (l.erase i) + fwl nw n (l.erase i); omega) hex' hge'
          · rw [if_neg v]
            exact ih s hs hex' hge'
    have hmm := foldl_min_mem (l.map (fun i => nw i (l.erase i) + fwl nw n (l.erase i))) 6
    have hge : ∀ i ∈ l, fwl nw (n + 1) l ≤ nw i (l.erase i) + fwl nw n (l.erase i) := fun i hi => hmm.1 _ (List.mem_map.mpr ⟨i, hi, rfl⟩)
    have hex : ∃ i ∈ l, nw i (l.erase i) + fwl nw n (l.erase i) = fwl nw (n + 1) l := by
      rcases hmm.2 with w | w
      · cases l with
        | nil => cases h
        | cons a l =>
          have hb := fwl_b h1 n ((a :: l).erase a) (by simpa using h) (by omega)
          have h2 := hge a List.mem_cons_self
          have h3 := h1 a ((a :: l).erase a)
          have w' : fwl nw (n + 1) (a :: l) = 6 := w
          exact ⟨a, List.mem_cons_self, by omega⟩
      · obtain ⟨i, hi, hi2⟩ := List.mem_map.mp w
        exact ⟨i, hi, hi2⟩
    rw [PM, run l s (fun i hi => hi), fst l s hs hex hge, grd]
    cases hf : l.find? (fun i => nw i (l.erase i) + fwl nw n (l.erase i) == fwl nw (n + 1) l) with
    | some i => rfl
    | none =>
      obtain ⟨j, hj, hj2⟩ := hex
      have := List.find?_eq_none.mp hf j hj
      simp [hj2] at this
end
