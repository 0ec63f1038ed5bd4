/-! WHAT THE METHODS ANSWER, in the machine's own numbers -/
theorem zb {v : Int32} (h : v = 0 ∨ v = 1) : narrow .boolean (.int v) = .int v := by rcases h with rfl | rfl <;> rfl
theorem zfit {v : Int32} (h : v = 0 ∨ v = 1) : fits .boolean (.int v) = true := by rcases h with rfl | rfl <;> rfl
theorem znar {v : Int32} (h : v = 0 ∨ v = 1) : vp_nar .boolean v = v := by rcases h with rfl | rfl <;> rfl
def f_within (v a b : Int64) : Int32 := if v < a then 0 else if b < v then 0 else 1
def f_quot (a d : Int64) : Int64 := if d = 0 then 0 else a / d
def f_mix (h v : Int64) : Int64 := ((h ^^^ v) * 1099511628211) ^^^ ((((h ^^^ v) * 1099511628211).toUInt64 >>> ((29 : Int32).toInt64.toUInt64 &&& Int64.toUInt64 63)).toInt64)
def f_before (a b d : Int32) : Int32 := if d < a then (if b ≤ d then 0 else if b ≤ a then 0 else 1) else (if d < b then 1 else if a ≤ b then 0 else 1)
def f_abs (a : Int64) : Int64 := if 0 ≤ a then a else -a
def f_max (a b : Int32) : Int32 := if a < b then b else a
def f_min (a b : Int64) : Int64 := if b < a then b else a
def f_holds (n row : Int32) : Int32 := if row < 0 then 0 else if n ≤ row then 0 else 1
theorem f_holds01 (n row : Int32) : f_holds n row = 0 ∨ f_holds n row = 1 := by
  unfold f_holds
  split
  · exact Or.inl rfl
  · split
    · exact Or.inl rfl
    · exact Or.inr rfl
theorem f_holds_iff {c : Nat} (hc : c < 2 ^ 31) (row : Int32) : ¬ f_holds (nI c) row = 0 ↔ ∃ j : Nat, j < c ∧ row = nI j := by
  unfold f_holds
  rcases pk_ix row hc with h | h | ⟨j, hj, rfl⟩
  · rw [if_pos h]
    refine ⟨fun q => absurd rfl q, ?_⟩
    rintro ⟨j, hj, rfl⟩
    exact absurd h (nI_pos (by omega))
  · constructor
    · intro q
      rw [if_pos h] at q
      split at q <;> exact absurd rfl q
    · rintro ⟨j, hj, rfl⟩
      exact absurd h (nI_ge hj hc)
  · rw [if_neg (nI_pos (by omega)), if_neg (nI_ge hj hc)]
    exact ⟨fun _ => ⟨j, hj, rfl⟩, fun _ => by decide⟩
theorem holds_in {c : Nat} {row : Int32} (hc : c ≤ 200) (h : ¬ f_holds (nI c) row = 0) : vp_in row 200 := by
  obtain ⟨j, hj, rfl⟩ := (f_holds_iff (by omega) row).mp h
  exact vp_in_nI (by omega) (by omega)
def f_isR (c : Nat) (st : Nat → Int64) (row : Int32) : Int32 := if f_holds (nI c) row = 0 then 0 else if st row.toNatClampNeg < 0 then 0 else 1
theorem isR_holds {c : Nat} {st : Nat → Int64} {row : Int32} (h : ¬ f_isR c st row = 0) : ¬ f_holds (nI c) row = 0 := fun q => h (by unfold f_isR; rw [if_pos q])
theorem isR_in {c : Nat} {st : Nat → Int64} {row : Int32} (hc : c ≤ 200) (h : ¬ f_isR c st row = 0) : vp_in row 200 := holds_in hc (isR_holds h)
theorem f_isR01 (c : Nat) (st : Nat → Int64) (row : Int32) : f_isR c st row = 0 ∨ f_isR c st row = 1 := by
  unfold f_isR
  split
  · exact Or.inl rfl
  · split
    · exact Or.inl rfl
    · exact Or.inr rfl
def f_mark (c : Nat) (mk : Nat → Int32) (row : Int32) : Int32 := if f_holds (nI c) row = 0 then 0 else if mk row.toNatClampNeg = 0 then 0 else 1
def f_pul (c : Nat) (nu st : Nat → Int64) (row : Int32) : Int64 := if f_isR c st row = 0 then 0 else nu row.toNatClampNeg
def f_deg (c : Nat) (de : Nat → Int32) (row : Int32) : Int32 := if f_holds (nI c) row = 0 then 0 else de row.toNatClampNeg
def f_fct (c : Nat) (st : Nat → Int64) (row : Int32) : Int32 := if f_isR c st row = 0 then 1 else 3
abbrev wR (G : Gx) (h0 h1 h2 h3 h4 h5 : Nat) (key : Int64) (n : Int32) (nu st : Nat → Int64) (de : Nat → Int32) (su : Nat → Int64) (mk : Nat → Int32) : va_W := [(h0, .inr (2, [.long key, .ref h1, .ref h2, .ref h3, .ref h4, .ref h5, .int n])), (h1, .inl (kJ G, 200, .inr (.inl nu))), (h2, .inl (kJ G, 200, .inr (.inl st))), (h3, .inl (kI G, 200, .inl de)), (h4, .inl (kJ G, 200, .inr (.inl su))), (h5, .inl (kZ G, 200, .inl mk))]
abbrev wT (G : Gx) (t0 t1 t2 t3 : Nat) (n : Int32) (ts : Nat → Int32) (ta tb : Nat → Int64) : va_W := [(t0, .inr (3, [.ref t1, .ref t2, .ref t3, .int n])), (t1, .inl (kI G, 16, .inl ts)), (t2, .inl (kJ G, 16, .inr (.inl ta))), (t3, .inl (kJ G, 16, .inr (.inl tb)))]
