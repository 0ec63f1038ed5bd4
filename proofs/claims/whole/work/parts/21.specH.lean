theorem x_atl (a b : va_W) {c : Nat × va_E} (h : b[0]? = some c) {k : Nat} (hk : k = a.length) : (a ++ b)[k]? = some c := by
  subst hk
  rw [List.getElem?_append_right (Nat.le_refl _), Nat.sub_self]
  exact h
theorem lt8 {n : Nat} (hc : n ≤ 8) (h : nI n < 8) : n < 8 := by
  rcases Nat.lt_or_ge n 8 with q | q
  · exact q
  · have e : n = 8 := by omega
    subst e
    exact absurd h (by decide)
theorem ge8 {n : Nat} (hc : n ≤ 8) (h : ¬ nI n < 8) : n = 8 := by
  rcases Nat.lt_or_ge n 8 with q | q
  · exact absurd (show nI n < nI 8 from nI_lt q (by decide)) h
  · omega
