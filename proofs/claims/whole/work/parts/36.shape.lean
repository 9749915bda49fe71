/-! the tokens of a text without FAULTS 1, 2 -/
section
variable {B : Int → Int} {n : Int} {N : Nat}
def tks (B : Int → Int) (n : Int) (N : Nat) : Prop := 0 ≤ n ∧ N ≤ 600 ∧ (∀ j, j < N → tk B n j ≠ 10) ∧ tk B n N = 10
theorem tks_oks (h : tks B n N) : ∀ j, j ≤ N → oks B n j := by
  intro j
  induction j with
  | zero => intro _; exact oks_0 h.1
  | succ j ih => intro hj; exact oks_s (ih (by omega)) (h.2.2.1 j (by omega))
theorem tb_lt (h : tks B n N) {i : Nat} : ∀ {j : Nat}, i < j → j ≤ N → tb B n i < tb B n j := by
  intro j
  induction j with
  | zero => intro w; omega
  | succ j ih =>
    intro w hj
    have h1 := tb_s (tks_oks h j (by omega)) (h.2.2.1 j (by omega))
    by_cases q : i = j
    · rw [q]; exact h1
    · have := ih (by omega) (by omega); omega
theorem no2 {x : Int} {y : Nat} (h : ((2 : Int), x, y) = (0, -1, N)) : False := by
  injection h with h1
  exact absurd h1 (by decide)
theorem no1 {x : Int} {y : Nat} (h : ((1 : Int), x, y) = (0, -1, N)) : False := by
  injection h with h1
  exact absurd h1 (by decide)
theorem aut_acc {one : Bool} : ∀ (c k : Nat) (q f o a r m : Int), aut B n one c k q f o a r m = (0, -1, N) → c + k = 601 → k ≤ 600 → k ≤ N ∧ N ≤ 600 ∧ tk B n N = 10 ∧ ∀ j, k ≤ j → j < N → tk B n j ≠ 10 := by
  intro c
  induction c with
  | zero => intro k q f o a r m h h1 h2; omega
  | succ c ih =>
    intro k q f o a r m h h1 h2
    have nx : ∀ q f o a r m, k ≠ 600 → tk B n k ≠ 10 → aut B n one c (k + 1) q f o a r m = (0, -1, N) → k ≤ N ∧ N ≤ 600 ∧ tk B n N = 10 ∧ ∀ j, k ≤ j → j < N → tk B n j ≠ 10 := by
      intro q f o a r m w1 w2 e
      obtain ⟨e1, e2, e3, e4⟩ := ih (k + 1) q f o a r m e (by omega) (by omega)
      refine ⟨by omega, e2, e3, fun j h3 h4 => ?_⟩
      by_cases w : j = k
      · rw [w]; exact w2
      · exact e4 j (by omega) h4
    rw [aut] at h
    split at h
    · exact absurd h (fun x => no1 x)
    split at h
    · rename_i w
      injection h with _ h
      injection h with _ h
      subst h
      exact ⟨Nat.le_refl _, h2, w, fun j h3 h4 => by omega⟩
    rename_i w10
    split at h
    · exact absurd h (fun x => no2 x)
    rename_i w6
    split at h
    · (repeat' split at h) <;> first | exact absurd h (fun x => no2 x) | exact nx _ _ _ _ _ _ w6 w10 h
    · (repeat' split at h) <;> first | exact absurd h (fun x => no2 x) | exact nx _ _ _ _ _ _ w6 w10 h
/-- members of an ORDER, of an ALIAS, from the sign at s on -/
def shp (B : Int → Int) (n : Int) (N st : Nat) : Nat → Nat → Prop
  | 0, s => s < N ∧ tk B n s = 3
  | c + 1, s => s < N ∧ (tk B n s = 3 ∨ (tk B n s ≠ 3 ∧ s + 1 < N ∧ tk B n (s + 1) = 0 ∧ (st = 3 → s + 2 < N ∧ tk B n (s + 2) = 1) ∧ shp B n N st c (s + st)))
theorem shp_semi {st : Nat} : ∀ c s, shp B n N st c s → tk B n (semi B n st c s) = 3 ∧ semi B n st c s < N
  | 0, s, h => ⟨h.2, h.1⟩
  | c + 1, s, h => by
    rw [semi]
    split
    · rename_i w; exact ⟨w, h.1⟩
    · rename_i w
      rcases h.2 with h2 | h2
      · exact absurd h2 w
      · exact shp_semi c (s + st) h2.2.2.2.2
theorem acc_lt {one : Bool} {c k : Nat} {q f o a r m : Int} (h : aut B n one c k q f o a r m = (0, -1, N)) (h1 : c + k = 601) (h2 : k ≤ 600) (h3 : tk B n k ≠ 10) : k < N := by
  obtain ⟨e1, e2, e3, e4⟩ := aut_acc c k q f o a r m h h1 h2
  rcases Nat.lt_or_eq_of_le e1 with w | w
  · exact w
  · rw [← w] at e3; exact absurd e3 h3
theorem sh_mem {one : Bool} {f o a r : Int} : ∀ (cm s c : Nat) (m : Int), aut B n one c s 8 f o a r m = (0, -1, N) → m + cm = 6 → c + s = 601 → s ≤ 600 → shp B n N 2 cm s ∧ ∃ c', c' + (semi B n 2 cm s + 1) = 601 ∧ semi B n 2 cm s + 1 ≤ 600 ∧ aut B n one c' (semi B n 2 cm s + 1) 0 f o a r 0 = (0, -1, N) := by
  intro cm
  induction cm with
  | zero =>
    intro s c m h hm hc hs
    obtain ⟨c1, rfl⟩ : ∃ c1, c = c1 + 1 := ⟨c - 1, by omega⟩
    have h' := h
    rw [aut_8 (by omega)] at h
    split at h
    · rename_i w
      have hl := acc_lt h' hc hs (by omega)
      split at h
      · exact absurd h (fun x => no2 x)
      · rename_i w6
        split at h
        · rename_i w3
          rw [semi_3 w3]
          exact ⟨⟨hl, w3⟩, c1, by omega, by omega, aut_m.trans h⟩
        · obtain ⟨c2, rfl⟩ : ∃ c2, c1 = c2 + 1 := ⟨c1 - 1, by omega⟩
          rw [aut_7 (by omega)] at h
          split at h
          · rw [if_pos (Or.inr (by omega))] at h
            exact absurd h (fun x => no2 x)
          · exact absurd h (fun x => no1 x)
    · exact absurd h (fun x => no1 x)
  | succ cm ih =>
    intro s c m h hm hc hs
    obtain ⟨c1, rfl⟩ : ∃ c1, c = c1 + 1 := ⟨c - 1, by omega⟩
    have h' := h
    rw [aut_8 (by omega)] at h
    split at h
    · rename_i w
      have hl := acc_lt h' hc hs (by omega)
      split at h
      · exact absurd h (fun x => no2 x)
      · rename_i w6
        split at h
        · rename_i w3
          rw [semi_3 w3]
          exact ⟨⟨hl, Or.inl w3⟩, c1, by omega, by omega, aut_m.trans h⟩
        · rename_i w3
          obtain ⟨c2, rfl⟩ : ∃ c2, c1 = c2 + 1 := ⟨c1 - 1, by omega⟩
          have h'' := h
          rw [aut_7 (by omega)] at h
          split at h
          · rename_i w0
            have hl2 := acc_lt h'' (by omega) (by omega) (by omega)
            split at h
            · exact absurd h (fun x => no2 x)
            · rename_i w7
              obtain ⟨e1, e2⟩ := ih (s + 1 + 1) c2 (m + 1) h (by omega) (by omega) (by omega)
              rw [semi, if_neg w3]
              exact ⟨⟨hl, Or.inr ⟨w3, hl2, w0, fun q => absurd q (by decide), e1⟩⟩, e2⟩
          · exact absurd h (fun x => no1 x)
    · exact absurd h (fun x => no1 x)
theorem sh_hel {one : Bool} {f o a r : Int} : ∀ (cm s c : Nat) (m : Int), aut B n one c s 12 f o a r m = (0, -1, N) → m + cm = 6 → c + s = 601 → s ≤ 600 → shp B n N 3 cm s ∧ ∃ c', c' + (semi B n 3 cm s + 1) = 601 ∧ semi B n 3 cm s + 1 ≤ 600 ∧ aut B n one c' (semi B n 3 cm s + 1) 0 f o a r 0 = (0, -1, N) := by
  intro cm
  induction cm with
  | zero =>
    intro s c m h hm hc hs
    obtain ⟨c1, rfl⟩ : ∃ c1, c = c1 + 1 := ⟨c - 1, by omega⟩
    have h' := h
    rw [aut_12 (by omega)] at h
    split at h
    · rename_i w
      have hl := acc_lt h' hc hs (by omega)
      split at h
      · exact absurd h (fun x => no2 x)
      · rename_i w6
        split at h
        · rename_i w3
          rw [semi_3 w3]
          exact ⟨⟨hl, w3⟩, c1, by omega, by omega, aut_m.trans h⟩
        · obtain ⟨c2, rfl⟩ : ∃ c2, c1 = c2 + 1 := ⟨c1 - 1, by omega⟩
          rw [aut_13 (by omega)] at h
          split at h
          · rw [if_pos (Or.inr (by omega))] at h
            exact absurd h (fun x => no2 x)
          · exact absurd h (fun x => no1 x)
    · exact absurd h (fun x => no1 x)
  | succ cm ih =>
    intro s c m h hm hc hs
    obtain ⟨c1, rfl⟩ : ∃ c1, c = c1 + 1 := ⟨c - 1, by omega⟩
    have h' := h
    rw [aut_12 (by omega)] at h
    split at h
    · rename_i w
      have hl := acc_lt h' hc hs (by omega)
      split at h
      · exact absurd h (fun x => no2 x)
      · rename_i w6
        split at h
        · rename_i w3
          rw [semi_3 w3]
          exact ⟨⟨hl, Or.inl w3⟩, c1, by omega, by omega, aut_m.trans h⟩
        · rename_i w3
          obtain ⟨c2, rfl⟩ : ∃ c2, c1 = c2 + 1 := ⟨c1 - 1, by omega⟩
          have h'' := h
          rw [aut_13 (by omega)] at h
          split at h
          · rename_i w0
            have hl2 := acc_lt h'' (by omega) (by omega) (by omega)
            split at h
            · exact absurd h (fun x => no2 x)
            · rename_i w7
              obtain ⟨c3, rfl⟩ : ∃ c3, c2 = c3 + 1 := ⟨c2 - 1, by omega⟩
              have h3 := h
              rw [aut_q14 (by omega)] at h
              split at h
              · rename_i w1
                have hl3 := acc_lt h3 (by omega) (by omega) (by omega)
                split at h
                · exact absurd h (fun x => no2 x)
                · rename_i w8
                  obtain ⟨e1, e2⟩ := ih (s + 1 + 1 + 1) c3 (m + 1) h (by omega) (by omega) (by omega)
                  rw [semi, if_neg w3]
                  exact ⟨⟨hl, Or.inr ⟨w3, hl2, w0, fun _ => ⟨hl3, w1⟩, e1⟩⟩, e2⟩
              · exact absurd h (fun x => no1 x)
          · exact absurd h (fun x => no1 x)
    · exact absurd h (fun x => no1 x)
/-- an ORDER behind its word -/
theorem sh_ord {one : Bool} {k c : Nat} {f o a r : Int} (h : aut B n one c (k + 1) 4 f o a r 0 = (0, -1, N)) (hc : c + (k + 1) = 601) (hk : k + 1 ≤ 600) : tk B n (k + 1) = 0 ∧ tk B n (k + 2) = 1 ∧ k + 3 < N ∧ shp B n N 2 6 (k + 3) ∧ ∃ c', c' + (semi B n 2 6 (k + 3) + 1) = 601 ∧ semi B n 2 6 (k + 3) + 1 ≤ 600 ∧ aut B n one c' (semi B n 2 6 (k + 3) + 1) 0 f o a r 0 = (0, -1, N) := by
  obtain ⟨c1, rfl⟩ : ∃ c1, c = c1 + 1 := ⟨c - 1, by omega⟩
  rw [aut_q4 (by decide)] at h
  split at h
  · rename_i w1
    split at h
    · exact absurd h (fun x => no2 x)
    obtain ⟨c2, rfl⟩ : ∃ c2, c1 = c2 + 1 := ⟨c1 - 1, by omega⟩
    rw [aut_q5 (by decide)] at h
    split at h
    · rename_i w2
      split at h
      · exact absurd h (fun x => no2 x)
      obtain ⟨c3, rfl⟩ : ∃ c3, c2 = c3 + 1 := ⟨c2 - 1, by omega⟩
      have h' := h
      rw [aut_6 (by decide)] at h
      split at h
      · rename_i w3
        have hl : k + 1 + 1 + 1 < N := acc_lt h' (by omega) (by omega) (by omega)
        split at h
        · exact absurd h (fun x => no2 x)
        · rename_i w6
          refine ⟨w1, w2, hl, ?_⟩
          by_cases u : tk B n (k + 3) = 3
          · rw [if_neg (show ¬ tk B n (k + 1 + 1 + 1) = 2 by show ¬ tk B n (k + 3) = 2; omega)] at h
            rw [semi_3 u]
            exact ⟨⟨hl, Or.inl u⟩, c3, by omega, by omega, aut_m.trans h⟩
          · have u2 : tk B n (k + 1 + 1 + 1) = 2 := by
              have : tk B n (k + 1 + 1 + 1) ≠ 3 := u
              omega
            rw [if_pos u2] at h
            obtain ⟨c4, rfl⟩ : ∃ c4, c3 = c4 + 1 := ⟨c3 - 1, by omega⟩
            have h'' := h
            rw [aut_7 (by decide)] at h
            split at h
            · rename_i w0
              have hl2 := acc_lt h'' (by omega) (by omega) (by omega)
              split at h
              · exact absurd h (fun x => no2 x)
              · rename_i w7
                obtain ⟨e1, e2⟩ := sh_mem 5 (k + 3 + 2) c4 1 h (by decide) (by omega) (by omega)
                rw [semi, if_neg u]
                exact ⟨⟨hl, Or.inr ⟨u, hl2, w0, fun q => absurd q (by decide), e1⟩⟩, e2⟩
            · exact absurd h (fun x => no1 x)
      · exact absurd h (fun x => no1 x)
    · exact absurd h (fun x => no1 x)
  · exact absurd h (fun x => no1 x)
/-- an ALIAS behind its word -/
theorem sh_al {one : Bool} {k c : Nat} {f o a r : Int} (h : aut B n one c (k + 1) 9 f o a r 0 = (0, -1, N)) (hc : c + (k + 1) = 601) (hk : k + 1 ≤ 600) : tk B n (k + 1) = 0 ∧ tk B n (k + 3) = 0 ∧ k + 4 < N ∧ shp B n N 3 6 (k + 4) ∧ ∃ c', c' + (semi B n 3 6 (k + 4) + 1) = 601 ∧ semi B n 3 6 (k + 4) + 1 ≤ 600 ∧ aut B n one c' (semi B n 3 6 (k + 4) + 1) 0 f o a r 0 = (0, -1, N) := by
  obtain ⟨c1, rfl⟩ : ∃ c1, c = c1 + 1 := ⟨c - 1, by omega⟩
  rw [aut_q9 (by decide)] at h
  split at h
  · rename_i w1
    split at h
    · exact absurd h (fun x => no2 x)
    obtain ⟨c2, rfl⟩ : ∃ c2, c1 = c2 + 1 := ⟨c1 - 1, by omega⟩
    rw [aut_q10 (by decide)] at h
    split at h
    · split at h
      · exact absurd h (fun x => no2 x)
      obtain ⟨c3, rfl⟩ : ∃ c3, c2 = c3 + 1 := ⟨c2 - 1, by omega⟩
      rw [aut_q11 (by decide)] at h
      split at h
      · rename_i w2
        split at h
        · exact absurd h (fun x => no2 x)
        obtain ⟨e1, e2⟩ := sh_hel 6 (k + 4) c3 0 h (by decide) (by omega) (by omega)
        exact ⟨w1, w2, e1.1, e1, e2⟩
      · exact absurd h (fun x => no1 x)
    · exact absurd h (fun x => no1 x)
  · exact absurd h (fun x => no1 x)
theorem sh_fld {one : Bool} {k c : Nat} {f o a r : Int} (h : aut B n one c (k + 1) 1 f o a r 0 = (0, -1, N)) (hc : c + (k + 1) = 601) (hk : k + 1 ≤ 600) : tk B n (k + 1) = 0 ∧ tk B n (k + 2) = 1 ∧ k + 3 < N ∧ tk B n (k + 3) = 3 ∧ ∃ c', c' + (k + 4) = 601 ∧ k + 4 ≤ 600 ∧ aut B n one c' (k + 4) 0 f o a r 0 = (0, -1, N) := by
  obtain ⟨c1, rfl⟩ : ∃ c1, c = c1 + 1 := ⟨c - 1, by omega⟩
  rw [aut_q1 (by decide)] at h
  split at h
  · rename_i w1
    split at h
    · exact absurd h (fun x => no2 x)
    obtain ⟨c2, rfl⟩ : ∃ c2, c1 = c2 + 1 := ⟨c1 - 1, by omega⟩
    rw [aut_q2 (by decide)] at h
    split at h
    · rename_i w2
      split at h
      · exact absurd h (fun x => no2 x)
      obtain ⟨c3, rfl⟩ : ∃ c3, c2 = c3 + 1 := ⟨c2 - 1, by omega⟩
      have h' := h
      rw [aut_q3 (by decide)] at h
      split at h
      · rename_i w3
        have hl : k + 1 + 1 + 1 < N := acc_lt h' (by omega) (by omega) (by omega)
        split at h
        · exact absurd h (fun x => no2 x)
        exact ⟨w1, w2, hl, w3, c3, by omega, by omega, h⟩
      · exact absurd h (fun x => no1 x)
    · exact absurd h (fun x => no1 x)
  · exact absurd h (fun x => no1 x)
theorem sh_roo {one : Bool} {k c : Nat} {f o a r : Int} (h : aut B n one c (k + 1) 15 f o a r 0 = (0, -1, N)) (hc : c + (k + 1) = 601) (hk : k + 1 ≤ 600) : tk B n (k + 1) = 1 ∧ tk B n (k + 2) = 1 ∧ k + 3 < N ∧ tk B n (k + 3) = 3 ∧ ∃ c', c' + (k + 4) = 601 ∧ k + 4 ≤ 600 ∧ aut B n one c' (k + 4) 0 f o a r 0 = (0, -1, N) := by
  obtain ⟨c1, rfl⟩ : ∃ c1, c = c1 + 1 := ⟨c - 1, by omega⟩
  rw [aut_q15 (by decide)] at h
  split at h
  · rename_i w1
    split at h
    · exact absurd h (fun x => no2 x)
    obtain ⟨c2, rfl⟩ : ∃ c2, c1 = c2 + 1 := ⟨c1 - 1, by omega⟩
    rw [aut_q16 (by decide)] at h
    split at h
    · rename_i w2
      split at h
      · exact absurd h (fun x => no2 x)
      obtain ⟨c3, rfl⟩ : ∃ c3, c2 = c3 + 1 := ⟨c2 - 1, by omega⟩
      have h' := h
      rw [aut_q3 (by decide)] at h
      split at h
      · rename_i w3
        have hl : k + 1 + 1 + 1 < N := acc_lt h' (by omega) (by omega) (by omega)
        split at h
        · exact absurd h (fun x => no2 x)
        exact ⟨w1, w2, hl, w3, c3, by omega, by omega, h⟩
      · exact absurd h (fun x => no1 x)
    · exact absurd h (fun x => no1 x)
  · exact absurd h (fun x => no1 x)
end
/-! the FAULT that the model keeps -/
def fkp (D : Nat → Int → Int) : Int × Int := (D 80 2, D 80 3)
section
variable {D : Nat → Int → Int} {f p : Int}
theorem fkp_mup {r : Nat} {j x : Int} (h : r ≠ 80) : fkp (mup D r j x) = fkp D := by
  unfold fkp
  rw [mup_n (Ne.symm h)]
theorem fkp_stp : fkp (stp D f p) = (f, p) := by
  unfold fkp
  rw [flt_s.1, flt_s.2]
theorem fkp_flt_w (h : (fkp D).1 = 0 ∨ p < (fkp D).2) : fkp (flt D f p) = (f, p) := by
  unfold flt
  rw [if_pos (by rcases h with h | h; exact Or.inl h; exact Or.inr (Or.inl h)), fkp_stp]
theorem flt_k (h : (fkp D).1 ≠ 0) (h2 : (fkp D).2 < p ∨ ((fkp D).2 = p ∧ (fkp D).1 ≤ f)) : flt D f p = D := by
  unfold flt
  have h : D 80 2 ≠ 0 := h
  have h2 : D 80 3 < p ∨ (D 80 3 = p ∧ D 80 2 ≤ f) := h2
  rw [if_neg (by omega)]
theorem fltI_k {c : Prop} [Decidable c] (h : (fkp D).1 ≠ 0) (h2 : (fkp D).2 < p ∨ ((fkp D).2 = p ∧ (fkp D).1 ≤ f)) : fltI c D f p = D := by
  unfold fltI
  split
  · exact flt_k h h2
  · rfl
theorem fkp_fltI_w {c : Prop} [Decidable c] (hc : c) (h : (fkp D).1 = 0 ∨ p < (fkp D).2) : fkp (fltI c D f p) = (f, p) := by
  rw [fltI_p hc]
  exact fkp_flt_w h
end
