/-! the states one by one -/
section
variable {B : Int → Int} {n : Int} {one : Bool} {c k : Nat} {f o a r m : Int}
theorem aut_q1 (hm : m ≤ 6) : aut B n one (c + 1) k 1 f o a r m = if tk B n k = 0 then (if k = 600 then (2, tb B n k, k) else aut B n one c (k + 1) 2 f o a r m) else (1, tb B n k, k) :=
  aut_w (q := 1) (by decide) (by decide) (by decide) (by decide) (by decide) (by decide) (by decide) hm
theorem aut_q2 (hm : m ≤ 6) : aut B n one (c + 1) k 2 f o a r m = if tk B n k = 1 then (if k = 600 then (2, tb B n k, k) else aut B n one c (k + 1) 3 f o a r m) else (1, tb B n k, k) :=
  aut_w (q := 2) (by decide) (by decide) (by decide) (by decide) (by decide) (by decide) (by decide) hm
theorem aut_q3 (hm : m ≤ 6) : aut B n one (c + 1) k 3 f o a r m = if tk B n k = 3 then (if k = 600 then (2, tb B n k, k) else aut B n one c (k + 1) 0 f o a r m) else (1, tb B n k, k) :=
  aut_w (q := 3) (by decide) (by decide) (by decide) (by decide) (by decide) (by decide) (by decide) hm
theorem aut_q4 (hm : m ≤ 6) : aut B n one (c + 1) k 4 f o a r m = if tk B n k = 0 then (if k = 600 then (2, tb B n k, k) else aut B n one c (k + 1) 5 f o a r m) else (1, tb B n k, k) :=
  aut_w (q := 4) (by decide) (by decide) (by decide) (by decide) (by decide) (by decide) (by decide) hm
theorem aut_q5 (hm : m ≤ 6) : aut B n one (c + 1) k 5 f o a r m = if tk B n k = 1 then (if k = 600 then (2, tb B n k, k) else aut B n one c (k + 1) 6 f o a r m) else (1, tb B n k, k) :=
  aut_w (q := 5) (by decide) (by decide) (by decide) (by decide) (by decide) (by decide) (by decide) hm
theorem aut_q9 (hm : m ≤ 6) : aut B n one (c + 1) k 9 f o a r m = if tk B n k = 0 then (if k = 600 then (2, tb B n k, k) else aut B n one c (k + 1) 10 f o a r m) else (1, tb B n k, k) :=
  aut_w (q := 9) (by decide) (by decide) (by decide) (by decide) (by decide) (by decide) (by decide) hm
theorem aut_q10 (hm : m ≤ 6) : aut B n one (c + 1) k 10 f o a r m = if tk B n k = 5 then (if k = 600 then (2, tb B n k, k) else aut B n one c (k + 1) 11 f o a r m) else (1, tb B n k, k) :=
  aut_w (q := 10) (by decide) (by decide) (by decide) (by decide) (by decide) (by decide) (by decide) hm
theorem aut_q11 (hm : m ≤ 6) : aut B n one (c + 1) k 11 f o a r m = if tk B n k = 0 then (if k = 600 then (2, tb B n k, k) else aut B n one c (k + 1) 12 f o a r m) else (1, tb B n k, k) :=
  aut_w (q := 11) (by decide) (by decide) (by decide) (by decide) (by decide) (by decide) (by decide) hm
theorem aut_q14 (hm : m ≤ 6) : aut B n one (c + 1) k 14 f o a r m = if tk B n k = 1 then (if k = 600 then (2, tb B n k, k) else aut B n one c (k + 1) 12 f o a r m) else (1, tb B n k, k) :=
  aut_w (q := 14) (by decide) (by decide) (by decide) (by decide) (by decide) (by decide) (by decide) hm
theorem aut_q15 (hm : m ≤ 6) : aut B n one (c + 1) k 15 f o a r m = if tk B n k = 1 then (if k = 600 then (2, tb B n k, k) else aut B n one c (k + 1) 16 f o a r m) else (1, tb B n k, k) :=
  aut_w (q := 15) (by decide) (by decide) (by decide) (by decide) (by decide) (by decide) (by decide) hm
theorem aut_q16 (hm : m ≤ 6) : aut B n one (c + 1) k 16 f o a r m = if tk B n k = 1 then (if k = 600 then (2, tb B n k, k) else aut B n one c (k + 1) 3 f o a r m) else (1, tb B n k, k) :=
  aut_w (q := 16) (by decide) (by decide) (by decide) (by decide) (by decide) (by decide) (by decide) hm
end
