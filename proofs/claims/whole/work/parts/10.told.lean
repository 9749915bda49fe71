/-! Told -/
/-- the first i from i0 on, of n, for which p holds; -1 without -/
def fnd (p : Int → Bool) : Nat → Int → Int
  | 0, _ => -1
  | n + 1, i => if p i = true then i else fnd p n (i + 1)
set_option maxHeartbeats 1000000 in
theorem To_memberOf_sp {L : Nat} {b : Bool} {M : Nat → Int → Int} {t : Nat} {k f : Int} {Q : Option mV → mM → Prop} (ht : isT t) (hk0 : 0 ≤ k) (hk : k < 40) (hs0 : 0 ≤ M (t + 5) k) (hs : M (t + 5) k ≤ 6) (h : Q (some (.inl (fnd (fun i => M (t + 7) (k * 6 + i) == f) (M (t + 5) k).toNat 0))) (mS L b M)) : Cl i_To_memberOf [.inr (.inr t), .inl k, .inl f] (mS L b M) Q := by
  have h16 := isT_16 ht
  apply E_To_memberOf
  apply B_To_memberOf_0
  simp only [mwp, mst, mii, mll, mli, mi1, ml1, mr1, mir, mlr, mrr, miir, mlir, mget, mgi, mgl, mgr, mset, mset2, mkill, mput_t, mputr_t, mpop, mpsh, mrcv, mcnd, mtsw, mlsw, List.set_cons_zero, b_To_memberOf_0]
  trace_state
  sorry
theorem tst {L : Nat} {b : Bool} {M : Nat → Int → Int} {t : Nat} {k f i : Int} {Q : Option mV → mM → Prop} (ht : isT t)  : Jd i_To_memberOf Q (0,0) 2 [some (.inr (.inr t)), some (.inl k), some (.inl f), some (.inl i)] [] (mS L b M) := by
  apply B_To_memberOf_2
  simp only [mwp, mst, mii, mll, mli, mi1, ml1, mr1, mir, mlr, mrr, miir, mlir, mget, mgi, mgl, mgr, mset, mset2, mkill, mput_t, mputr_t, mpop, mpsh, mrcv, mcnd, mtsw, mlsw, List.set_cons_zero, b_To_memberOf_2, SHt_0 ht, SHt_1 ht, SHt_2 ht, SHt_3 ht, SHt_4 ht, SHt_5 ht, SHt_6 ht, SHt_7 ht, SHt_8 ht, SHt_9 ht, SHt_10 ht, SHt_11 ht, SHt_12 ht, SHt_13 ht, SHt_14 ht, RFt_1 ht, RFt_2 ht, RFt_4 ht, RFt_5 ht, RFt_6 ht, RFt_7 ht, RFt_8 ht, RFt_10 ht, RFt_11 ht, RFt_12 ht, RFt_13 ht, RFt_14 ht, RFt_16 ht, RFt_17 ht]
  trace_state
  sorry
