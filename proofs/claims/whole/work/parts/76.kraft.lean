/-! all MARKS together take 1 at most -/
theorem smw_lin {f g h : Int → Int} {c : Int} : ∀ (n : Nat), (∀ i : Nat, i < n → f i = g i + c * h i) → smw f n = smw g n + c * smw h n
  | 0, _ => by show (0 : Int) = 0 + c * 0; rw [Int.mul_zero]; rfl
  | n + 1, hh => by
    rw [smw, smw, smw, smw_lin n (fun i hi => hh i (by omega)), hh n (by omega), Int.mul_add]
    omega
section
variable {t : Nat} {u : Int} {M : Nat → Int → Int} {n nr room : Nat}
theorem kraft (hu : u = 8 ∨ u = 16) (hc : ctd t M) (hn : M t 3 = n) (hr : M t 15 = nr) (hnb : ¬ cBad t u M) (hl : 0 ≤ cLeft t u M) (hroom : (room : Int) = cLeft t u M / (2 ^ u.toNat - 1)) (hroom2 : room ≤ 65537) : msr (2 * u).toNat (aL n nr (mbN t u M n room) (rbN t u M) (rmN t M) (2 * u).toNat 1) ≤ 2 ^ (2 * u).toNat := by
  obtain ⟨W, hW⟩ : ∃ W, (2 * u).toNat = W := ⟨_, rfl⟩
  have hWi : (W : Int) = 2 * u := by omega
  have hmb : ∀ i, i < n → 1 ≤ mbN t u M n room i ∧ mbN t u M n room i ≤ W ∧ ((mbN t u M n room i : Nat) : Int) = uN t u M n room i * u - M (t + 6) i := by
    intro i hi
    have := mb_ok hu hc hn hnb hroom2 hi
    unfold mbN
    omega
  have hrb : ∀ i, i < nr → 1 ≤ rbN t u M i ∧ rbN t u M i ≤ W := by
    intro i hi
    have := rb_ok hc hr hnb hi
    omega
  rw [hW]
  rw [msr_aL W 1 (by omega) (fun i hi => (hmb i hi).2.1) (fun i hi => (hrb i hi).2)]
  have f1 : (List.range' 0 n).filter (fun k => decide (1 ≤ mbN t u M n room k)) = List.range' 0 n := by
    apply List.filter_eq_self.mpr
    intro k hk
    have := List.mem_range'.mp hk
    have := (hmb k (by omega)).1
    simpa using this
  have f2 : (List.range' 0 nr).filter (fun k => decide (1 ≤ rbN t u M k)) = List.range' 0 nr := by
    apply List.filter_eq_self.mpr
    intro k hk
    have := List.mem_range'.mp hk
    have := (hrb k (by omega)).1
    simpa using this
  rw [f1, f2]
  have hp := p2_32 hu
  obtain ⟨V, hV⟩ : ∃ V, (2 : Int) ^ u.toNat = V := ⟨_, rfl⟩
  have s1 : ((nsum (fun i => 2 ^ (W - mbN t u M n room i)) (List.range' 0 n) : Nat) : Int) = smw (fun k => 2 ^ (M (t + 6) k).toNat) n + (V - 1) * smw (fun i => if cnd (cWt t u M) (cUs t M) n i.toNat (pth (cWt t u M) (cUs t M) n room i.toNat) then (cWt t u M i.toNat : Int) else 0) n := by
    rw [nsum_smw (g := fun i => ((2 ^ (W - mbN t u M n room i.toNat) : Nat) : Int)) n 0 (fun i hi => by rw [Nat.zero_add, show ((i : Nat) : Int).toNat = i by omega])]
    apply smw_lin
    intro i hi
    show ((2 ^ (W - mbN t u M n room ((i : Nat) : Int).toNat) : Nat) : Int) = 2 ^ (M (t + 6) i).toNat + (V - 1) * (if cnd (cWt t u M) (cUs t M) n ((i : Nat) : Int).toNat (pth (cWt t u M) (cUs t M) n room ((i : Nat) : Int).toNat) then (cWt t u M ((i : Nat) : Int).toNat : Int) else 0)
    rw [show ((i : Nat) : Int).toNat = i by omega]
    have hb := (hc.2.1 i (by omega) (by omega)).1
    have hm := hmb i hi
    have hm2 := (mb_ok (room := room) hu hc hn hnb hroom2 hi).2.2
    by_cases w : cnd (cWt t u M) (cUs t M) n i (pth (cWt t u M) (cUs t M) n room i)
    · have e1 : uN t u M n room i = 1 := by unfold uN un; rw [if_pos w]
      have hlt := hm2 e1
      rw [e1] at hm
      have e2 : W - mbN t u M n room i = u.toNat + (M (t + 6) i).toNat := by omega
      have e3 : cWt t u M i = 2 ^ (M (t + 6) i).toNat := by unfold cWt; rw [if_pos hlt]
      rw [if_pos w, e2, e3]
      push_cast
      rw [Int.pow_add, hV, Int.sub_mul, Int.one_mul]
      omega
    · have e1 : uN t u M n room i = 2 := by unfold uN un; rw [if_neg w]
      rw [e1] at hm
      have e2 : W - mbN t u M n room i = (M (t + 6) i).toNat := by omega
      rw [if_neg w, e2, Int.mul_zero, Int.add_zero]
      push_cast
      rfl
  have s2 : ((nsum (fun i => rmN t M i * 2 ^ (W - rbN t u M i)) (List.range' 0 nr) : Nat) : Int) = smw (fun k => M (t + 13) k * 2 ^ (M (t + 14) k).toNat) nr := by
    apply nsum_smw
    intro i hi
    rw [Nat.zero_add]
    have hb := rb_ok hc hr hnb hi
    have hb2 := (hc.2.2.2 i (by omega) (by omega)).1
    have e2 : W - rbN t u M i = (M (t + 14) i).toNat := by omega
    show ((rmN t M i * 2 ^ (W - rbN t u M i) : Nat) : Int) = M (t + 13) i * 2 ^ (M (t + 14) i).toNat
    rw [e2, hb.2.2.2.1]
    push_cast
    rfl
  have hps := pth_sum (wt := cWt t u M) (us := cUs t M) (n := n) (room := room) n
  obtain ⟨X, hX⟩ : ∃ X, smw (fun i => if cnd (cWt t u M) (cUs t M) n i.toNat (pth (cWt t u M) (cUs t M) n room i.toNat) then (cWt t u M i.toNat : Int) else 0) n = X := ⟨_, rfl⟩
  rw [hX] at hps s1
  rw [hV] at hroom hp
  have hd : (V - 1) * X ≤ cLeft t u M := by
    have a1 : (V - 1) * X ≤ (V - 1) * (cLeft t u M / (V - 1)) := Int.mul_le_mul_of_nonneg_left (by omega) (by omega)
    have a2 := Int.mul_ediv_self_le (x := cLeft t u M) (k := V - 1) (by omega)
    omega
  unfold cLeft at hd
  rw [show (M t 3).toNat = n by omega, show (M t 15).toNat = nr by omega, hW] at hd
  have e4 : ((2 ^ W : Nat) : Int) = 2 ^ W := by push_cast; rfl
  omega
theorem dsj_lay (hu : u = 8 ∨ u = 16) (hc : ctd t M) (hn : M t 3 = n) (hr : M t 15 = nr) (hnb : ¬ cBad t u M) (hl : 0 ≤ cLeft t u M) (hroom : (room : Int) = cLeft t u M / (2 ^ u.toNat - 1)) (hroom2 : room ≤ 65537) : dsj (2 * u).toNat n nr (fun k => mkF n nr (mbN t u M n room) (rbN t u M) (rmN t M) (2 * u).toNat k) (mbN t u M n room) (fun r => mkF n nr (mbN t u M n room) (rbN t u M) (rmN t M) (2 * u).toNat (40 + r)) (rbN t u M) (fun _ => 0) (rmN t M) := by
  have hk := kraft hu hc hn hr hnb hl hroom hroom2
  obtain ⟨W, hW⟩ : ∃ W, (2 * u).toNat = W := ⟨_, rfl⟩
  have hWi : (W : Int) = 2 * u := by omega
  have hn40 : n ≤ 40 := by have := hc.1; omega
  have hmb : ∀ i, i < n → 1 ≤ mbN t u M n room i ∧ mbN t u M n room i ≤ W := by
    intro i hi
    have := mb_ok hu hc hn hnb hroom2 hi
    unfold mbN
    omega
  have hrb : ∀ i, i < nr → 1 ≤ rbN t u M i ∧ rbN t u M i ≤ W := by
    intro i hi
    have := rb_ok hc hr hnb hi
    omega
  rw [hW] at hk ⊢
  obtain ⟨R, hR⟩ : ∃ R, aL n nr (mbN t u M n room) (rbN t u M) (rmN t M) W 1 = R := ⟨_, rfl⟩
  have hsrt : srt W 0 R := by rw [← hR]; exact srt_aL hn40 W 1 0 (by omega) (by omega)
  have mo : ∀ i, i < n → (i, mbN t u M n room i, 1) ∈ R := fun i hi => by
    rw [← hR]
    exact (mem_aL W 1).mpr (Or.inl ⟨i, hi, (hmb i hi).1, by have := (hmb i hi).2; omega, rfl⟩)
  have mr : ∀ i, i < nr → (40 + i, rbN t u M i, rmN t M i) ∈ R := fun i hi => by
    rw [← hR]
    exact (mem_aL W 1).mpr (Or.inr ⟨i, hi, (hrb i hi).1, by have := (hrb i hi).2; omega, rfl⟩)
  unfold mkF
  rw [hR] at hk ⊢
  have inn := asg_in R 0 0 hsrt
  have dd := asg_dis R 0 0 hsrt
  have cancel : ∀ (x l : Nat), l ≤ W → x * 2 ^ (W - l) ≤ 2 ^ W → x ≤ 2 ^ l := by
    intro x l hl' hx
    have e : (2 : Nat) ^ W = 2 ^ l * 2 ^ (W - l) := by rw [← Nat.pow_add]; congr 1; omega
    rw [e] at hx
    exact Nat.le_of_mul_le_mul_right hx (Nat.two_pow_pos _)
  refine ⟨by omega, fun k hk' => ⟨(hmb k hk').1, (hmb k hk').2, ?_⟩, fun r hr' => ⟨(hrb r hr').1, (hrb r hr').2, Nat.zero_le _, ?_⟩, fun k k' h1 h2 h3 => ?_, fun k r h1 h2 => ?_, fun r r' h1 h2 h3 => ?_⟩
  · have := (inn _ (mo k hk')).2
    have a : (asg R 0 0 k + 1) * 2 ^ (W - mbN t u M n room k) ≤ 2 ^ W := by
      rw [Nat.add_mul]
      rw [Nat.zero_mul, Nat.zero_add] at this
      exact Nat.le_trans this hk
    exact cancel _ _ (hmb k hk').2 a
  · have := (inn _ (mr r hr')).2
    have a : (asg R 0 0 (40 + r) + rmN t M r) * 2 ^ (W - rbN t u M r) ≤ 2 ^ W := by
      rw [Nat.add_mul]
      rw [Nat.zero_mul, Nat.zero_add] at this
      exact Nat.le_trans this hk
    exact cancel _ _ (hrb r hr').2 a
  · have := dd _ (mo k h1) _ (mo k' h2) (fun e => h3 (by injection e))
    unfold dis
    show asg R 0 0 k * _ + _ ≤ asg R 0 0 k' * _ ∨ _
    have e : ∀ x : Nat, 1 * x = x := Nat.one_mul
    rw [e, e] at this
    exact this
  · have := dd _ (mo k h1) _ (mr r h2) (fun e => by
      have : k = 40 + r := by injection e
      omega)
    unfold dis
    have e : ∀ x : Nat, 1 * x = x := Nat.one_mul
    rw [e] at this
    exact this
  · have := dd _ (mr r h1) _ (mr r' h2) (fun e => by
      have : 40 + r = 40 + r' := by injection e
      omega)
    unfold dis
    exact this
end
