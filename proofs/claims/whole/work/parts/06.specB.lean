theorem pred_in {n : Nat} {row : Int32} (hc : n ≤ 200) (h : ¬ f_holds (nI n) row = 0) (h0 : ¬ row = 0) : vp_in (row - 1) 200 := by
  obtain ⟨j, hj, rfl⟩ := (f_holds_iff (by omega) row).mp h
  cases j with
  | zero => exact absurd nI_0 h0
  | succ j =>
    rw [nI_pred]
    exact vp_in_nI (by omega) (by omega)
theorem lt200 {n : Nat} (hc : n ≤ 200) (h : nI n < 200) : n < 200 := by
  rcases Nat.lt_or_ge n 200 with q | q
  · exact q
  · have e : n = 200 := by omega
    subst e
    exact absurd h (by decide)
theorem ge200 {n : Nat} (hc : n ≤ 200) (h : ¬ nI n < 200) : n = 200 := by
  rcases Nat.lt_or_ge n 200 with q | q
  · exact absurd (show nI n < nI 200 from nI_lt q (by decide)) h
  · omega
def f_due (key : Int64) (n : Nat) (nu st : Nat → Int64) (de : Nat → Int32) (su : Nat → Int64) (row : Int32) : Int64 :=
  if f_holds (nI n) row = 0 then 0 else f_mix (f_mix (f_mix (3 * (if row = 0 then key else su (row - 1).toNatClampNeg) + key) (nu row.toNatClampNeg)) (st row.toNatClampNeg)) (de row.toNatClampNeg).toInt64
def f_fld (n : Nat) (nu st : Nat → Int64) (de : Nat → Int32) (row field : Int32) : Int64 :=
  if f_holds (nI n) row = 0 then 0 else if field = 0 then nu row.toNatClampNeg else if field = 1 then st row.toNatClampNeg else (de row.toNatClampNeg).toInt64
def f_let (n : Nat) (st : Nat → Int64) (row : Int32) : Int32 :=
  if f_holds (nI n) row = 0 then 82 else if f_isR n st row = 0 then (if st row.toNatClampNeg = -1 then 90 else if st row.toNatClampNeg = -2 then 66 else 83) else 82
def f_mins (v : Int64) : Int32 := (if (2147483647 : Int64) < v / 60 then (2147483647 : Int64) else v / 60).toInt32
def f_poke (n : Nat) (nu st : Nat → Int64) (row : Int32) (b : Int64) : Int32 := if f_isR n st row = 0 then 0 else f_within b (-f_pul n nu st row) (1000000 - f_pul n nu st row)
