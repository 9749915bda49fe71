/-! how all is laid, on both sides -/
section
variable (t : Nat) (u : Int) (n nr : Nat) (M : Nat → Int → Int)
def mkO (k : Nat) : Nat := (M 60 k).toNat
def mbO (k : Nat) : Nat := (M 59 k).toNat
def rkO (k : Nat) : Nat := (M 64 k).toNat
def rbO (k : Nat) : Nat := (M 63 k).toNat
def tkO (k : Nat) : Nat := (M 65 k).toNat
def ldP : List pc := pcs n (mkO M) (mbO M) (rkO M) (rbO M) (tkO M) (rmN t M) nr
def lyO : Prop := ∀ k : Nat, k < n → (M 58 k = 1 ∨ M 58 k = 2) ∧ M 99 k = M 58 k ∧ M 59 k = M 58 k * u - M (t + 6) k ∧ M 100 k = M 59 k ∧ M 60 k = (mkO M k : Nat) ∧ M 101 k = M 60 k ∧ M 102 k = M 61 k ∧ (M 61 k = 0 ∨ M 61 k = 1) ∧ M 59 k = (mbO M k : Nat)
def lyL : Prop := ∀ k i : Nat, k < n → i < oN t M k → M 103 ((k : Int) * 6 + i) = M 62 ((k : Int) * 6 + i) ∧ 0 ≤ M 62 ((k : Int) * 6 + i) ∧ M 62 ((k : Int) * 6 + i) + oW t M k i ≤ 24
def lyR : Prop := ∀ r : Nat, r < nr → M 63 r = 2 * u - M (t + 14) r ∧ M 63 r = (rbO M r : Nat) ∧ M 64 r = (rkO M r : Nat) ∧ M 105 r = M 64 r ∧ M 65 r = (tkO M r : Nat) ∧ M 106 r = M 65 r
def lyS : Prop := ∀ f : Int, 0 ≤ f → f < M t 0 → M 104 f = M 66 f ∧ 0 ≤ M 66 f ∧ M 66 f < 2 ^ 24
def lyH : Prop := (u = 8 ∨ u = 16) ∧ M 57 0 = u ∧ M 80 21 = u ∧ M t 3 = (n : Nat) ∧ M t 15 = (nr : Nat) ∧ M 80 22 = M 57 1 ∧ 0 ≤ M 57 1 ∧ M 57 1 ≤ 20000 * n
def lyI : Prop := lyH t u n nr M ∧ lyO t u n M ∧ lyL t n M ∧ lyR t u nr M ∧ lyS t M ∧ dsj (2 * u).toNat n nr (mkO M) (mbO M) (rkO M) (rbO M) (tkO M) (rmN t M) ∧ dcR n (ldP t n nr M) M ∧ (M 70 0 = 0 → dcC n (ldP t n nr M) M)
end
section
variable {t : Nat} {u : Int} {n nr : Nat} {M M' : Nat → Int → Int}
theorem ldP_congr (hM : ∀ r, t ≤ r → r ≤ t + 14 → M' r = M r) (hL : ∀ r, 57 ≤ r → r ≤ 66 → M' r = M r) : ldP t n nr M' = ldP t n nr M := by
  unfold ldP mkO mbO rkO rbO tkO
  rw [rmN_c hM, hL 60 (by decide) (by decide), hL 59 (by decide) (by decide), hL 64 (by decide) (by decide), hL 63 (by decide) (by decide), hL 65 (by decide) (by decide)]
theorem lyI_congr (h : lyI t u n nr M) (hM : ∀ r, t ≤ r → r ≤ t + 14 → M' r = M r) (hL : ∀ r, 57 ≤ r → r ≤ 66 → M' r = M r) (hO : ∀ r, 99 ≤ r → r ≤ 106 → M' r = M r) (hm : ∀ j, j = 21 ∨ j = 22 ∨ j = 54 ∨ j = 55 ∨ j = 56 → M' 80 j = M 80 j) (hd : M' 119 = M 119) (hdc : M' 70 0 = 0 → dcC n (ldP t n nr M) M') : lyI t u n nr M' := by
  obtain ⟨a1, a2, a3, a4, a5, a6, a7, a8⟩ := h
  have eP := ldP_congr (n := n) (nr := nr) hM hL
  refine ⟨?_, ?_, ?_, ?_, ?_, ?_, ?_, ?_⟩
  · unfold lyH
    rw [hL _ (by decide) (by decide), hm _ (by decide), hm _ (by decide), hM _ (by omega) (by omega)]
    exact a1
  · unfold lyO mkO mbO
    rw [hM (t + 6) (by omega) (by omega), hL 58 (by decide) (by decide), hL 59 (by decide) (by decide), hL 60 (by decide) (by decide), hL 61 (by decide) (by decide), hO 99 (by decide) (by decide), hO 100 (by decide) (by decide), hO 101 (by decide) (by decide), hO 102 (by decide) (by decide)]
    exact a2
  · unfold lyL
    rw [oN_c hM, oW_c hM, hL 62 (by decide) (by decide), hO 103 (by decide) (by decide)]
    exact a3
  · unfold lyR rbO rkO tkO
    rw [hM (t + 14) (by omega) (by omega), hL 63 (by decide) (by decide), hL 64 (by decide) (by decide), hL 65 (by decide) (by decide), hO 105 (by decide) (by decide), hO 106 (by decide) (by decide)]
    exact a4
  · unfold lyS
    rw [hM _ (by omega) (by omega), hL 66 (by decide) (by decide), hO 104 (by decide) (by decide)]
    exact a5
  · unfold mkO mbO rkO rbO tkO
    rw [rmN_c hM, hL 60 (by decide) (by decide), hL 59 (by decide) (by decide), hL 64 (by decide) (by decide), hL 63 (by decide) (by decide), hL 65 (by decide) (by decide)]
    exact a6
  · rw [eP]
    unfold dcR
    rw [hm _ (by decide), hm _ (by decide), hm _ (by decide), hd]
    exact a7
  · rw [eP]
    exact hdc
/-- the class's tree does not change -/
theorem dcC_congr {P : List pc} (h : M 70 0 = 0 → dcC n P M) (h1 : ∀ j, M' 70 j = M 70 j) (h2 : M' 71 = M 71) : M' 70 0 = 0 → dcC n P M' := by
  unfold dcC
  rw [h1, h1, h1, h1, h2]
  exact h
theorem lyI_okP (hn : n ≤ 40) (h : lyI t u n nr M) : okP (ldP t n nr M) := okP_dsj hn h.2.2.2.2.2.1
/-- laying makes it so -/
theorem lyI_lay {room : Nat} (hTR : TR t 0 M M) (hu : u = 8 ∨ u = 16) (hn : M t 3 = n) (hr : M t 15 = nr) (hnb : ¬ cBad t u M) (hl : 0 ≤ cLeft t u M) (hroom : (room : Int) = cLeft t u M / (2 ^ u.toNat - 1)) (hroom2 : room ≤ 65537)
    (hC : lyC t u n nr room M M) (hL : lyM t u n nr room M M) (hd : dcR n (layP t u n nr room M) M) (hst : M 70 0 = 1) : lyI t u n nr M := by
  have hc := ctd_TR hTR
  have hc' := hc
  obtain ⟨c1, c2, c3, c4⟩ := hc'
  obtain ⟨p1, p2, p3, p4, p5, p6, p7⟩ := hC
  obtain ⟨q1, q2, q3, q4, q5, q6, q7⟩ := hL
  have hdj := dsj_lay hu hc hn hr hnb hl hroom hroom2
  have hmb : ∀ k : Nat, k < n → M 59 k = (mbN t u M n room k : Nat) ∧ mbO M k = mbN t u M n room k := by
    intro k hk
    have h1 := mb_ok hu hc hn hnb hroom2 hk
    have h2 := (p3 k hk).2.1
    unfold mbO
    rw [h2]
    unfold mbN
    omega
  have hmk : ∀ k : Nat, k < n → mkO M k = mkF n nr (mbN t u M n room) (rbN t u M) (rmN t M) (2 * u).toNat k := by
    intro k hk
    unfold mkO
    rw [p4 k hk]
    omega
  have hrb : ∀ r : Nat, r < nr → M 63 r = (rbN t u M r : Nat) ∧ rbO M r = rbN t u M r := by
    intro r hr
    have h1 := rb_ok hc (by assumption) hnb hr
    have h2 := (p5 r hr).2.1
    unfold rbO
    rw [h2]
    unfold rbN at h1 ⊢
    omega
  have hrk : ∀ r : Nat, r < nr → rkO M r = mkF n nr (mbN t u M n room) (rbN t u M) (rmN t M) (2 * u).toNat (40 + r) := by
    intro r hr
    unfold rkO
    rw [(p5 r hr).2.2]
    omega
  have htk : ∀ r : Nat, r < nr → tkO M r = 0 := by
    intro r hr
    unfold tkO
    rw [(p5 r hr).1]
    rfl
  have g1 : ∀ k, k < n → mkO M k = (fun k => mkF n nr (mbN t u M n room) (rbN t u M) (rmN t M) (2 * u).toNat k) k ∧ mbO M k = mbN t u M n room k := fun k hk => ⟨hmk k hk, (hmb k hk).2⟩
  have g2 : ∀ r, r < nr → rkO M r = (fun r => mkF n nr (mbN t u M n room) (rbN t u M) (rmN t M) (2 * u).toNat (40 + r)) r ∧ rbO M r = rbN t u M r ∧ tkO M r = (fun _ => 0) r ∧ rmN t M r = rmN t M r := fun r hr => ⟨hrk r hr, (hrb r hr).2, htk r hr, rfl⟩
  have hun : ∀ k : Nat, k < n → uN t u M n room k = 1 ∨ uN t u M n room k = 2 := fun k hk => uN_12
  refine ⟨⟨hu, p1, q1, hn, hr, by rw [q2, p2], ?_⟩, fun k hk => ?_, fun k i hk hi => ?_, fun r hr => ?_, fun f f0 f1 => ?_, dsj_c hdj g1 g2, ?_, fun e => by rw [hst] at e; exact absurd e (by decide)⟩
  · rw [p2]
    unfold cosN
    have : ∀ m : Nat, m ≤ n → 0 ≤ smw (fun k => M (t + 4) k * uN t u M n room k.toNat) m ∧ smw (fun k => M (t + 4) k * uN t u M n room k.toNat) m ≤ 20000 * m := by
      intro m
      induction m with
      | zero => intro _; exact ⟨Int.le_refl _, Int.le_refl _⟩
      | succ m ih =>
        intro hm
        have h1 := ih (by omega)
        have h2 := (c2 m (by omega) (by omega)).2
        rw [smw]
        have e : ((m : Int)).toNat = m := by omega
        rw [e]
        rcases hun m (by omega) with w | w <;> rw [w] <;> constructor <;> omega
    exact this n (Nat.le_refl _)
  · obtain ⟨x1, x2, x3⟩ := p3 k hk
    obtain ⟨y1, y2, y3⟩ := q3 k hk
    have x4 := p4 k hk
    refine ⟨by rw [x1]; exact hun k hk, by rw [x1, y1], by rw [x2, x1], by rw [x2, y2], ?_, ?_, by rw [x3, y3], Or.inl x3, ?_⟩
    · rw [hmk k hk]; exact x4
    · rw [x4]; exact q4 k hk
    · rw [(hmb k hk).2]; exact (hmb k hk).1
  · have hk40 : k < 40 := by omega
    have hO := hTR.2.1.2.2.2 k (by omega) (by rw [← hTR.2.1.1]; omega)
    have hdt := TR_data hTR.1 hO hk40
    have hb := oP_b (S := sNs t M k) hdt.2.2.1 hdt.1.1 hdt.2.2.2.1 hi
    rw [p6 k i hk hi, q6 k i hk hi]
    exact ⟨rfl, by omega, by omega⟩
  · obtain ⟨x1, x2, x3⟩ := p5 r hr
    obtain ⟨y1, y2⟩ := q5 r hr
    refine ⟨x2, by rw [(hrb r hr).2]; exact (hrb r hr).1, by rw [hrk r hr]; exact x3, by rw [x3]; exact y2, by rw [htk r hr]; exact x1, by rw [x1, y1]⟩
  · have e1 := p7 f f0 f1
    have e2 := q7 f f0 (by have := hTR.1.2.2.1; have := hTR.1.1; omega)
    rw [e1, e2]
    have hb : ∀ m : Nat, m ≤ n → ∀ f, sNs t M m f < 2 ^ 24 := by
      intro m
      induction m with
      | zero => intro _ f; exact Nat.two_pow_pos _
      | succ m ih =>
        intro hm f
        have hO := hTR.2.1.2.2.2 m (by omega) (by rw [← hTR.2.1.1]; omega)
        have hdt := TR_data hTR.1 hO (by omega)
        exact sN1_b hdt.2.2.1 hdt.1.1 hdt.2.2.2.1 (ih (by omega)) f
    have := hb n (Nat.le_refl _) f
    refine ⟨rfl, by omega, ?_⟩
    exact_mod_cast this
  · have e : ldP t n nr M = layP t u n nr room M := pcs_c g1 g2
    rw [e]
    exact hd
end
