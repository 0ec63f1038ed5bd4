theorem ne8 {n : Nat} (hc : n ≤ 8) (h : ¬ nI n = 8) : n < 8 := by
  rcases Nat.lt_or_ge n 8 with q | q
  · exact q
  · exact absurd (by rw [show n = 8 by omega]; rfl) h
theorem eq8 {n : Nat} (h : nI n = 8) : n = 8 ∨ 2 ^ 31 ≤ n := by
  by_cases hn : n < 2 ^ 31
  · exact Or.inl ((nI_eq (b := 8) hn (by decide)).mp h)
  · exact Or.inr (by omega)
theorem ne16 {n : Nat} (hc : n ≤ 16) (h : ¬ nI n = 16) : n < 16 := by
  rcases Nat.lt_or_ge n 16 with q | q
  · exact q
  · exact absurd (by rw [show n = 16 by omega]; rfl) h
theorem eq16 {n : Nat} (hn : n ≤ 16) (h : nI n = 16) : n = 16 := (nI_eq (b := 16) (by omega) (by decide)).mp h
def md_rwfit (d : Int32) (a b : Int64) : Int32 := if d < -50 then 0 else if 150 < d then 0 else if a < 1 then 0 else if 10000 < a then 0 else if b < 1 then 0 else if b ≤ 10000 then 1 else 0
def md_plF (ld : Nat → Int32) (j : Nat) (d : Int32) (t : Nat) : Nat → Nat → Int32
  | 0, _ => nI t
  | k + 1, i => if ld (j * 16 + i) = d then nI i else md_plF ld j d t k (i + 1)
def md_pl (ld : Nat → Int32) (j : Nat) (d : Int32) (t : Nat) : Int32 := md_plF ld j d t t 0
theorem md_lnF_or (ld : Nat → Int32) (j : Nat) (d : Int32) : ∀ (k i : Nat) (un le : Int32), ln_I j i un → ln_I j i le → ln_I j (i + k) (md_lnF ld j d k i un le) := by
  intro k
  induction k with
  | zero =>
    intro i un le h1 h2
    unfold md_lnF
    split
    · exact h2
    · exact h1
  | succ k ih =>
    intro i un le h1 h2
    have h3 : ln_I j (i + 1) (nI (j * 16 + i)) := Or.inr ⟨i, by omega, rfl⟩
    have e : i + (k + 1) = i + 1 + k := by omega
    rw [e]
    unfold md_lnF
    refine ih (i + 1) _ _ ?_ ?_
    · split
      · exact ln_up h1
      · split
        · exact h3
        · split
          · exact ln_up h1
          · exact h3
    · split
      · exact h3
      · split
        · exact ln_up h2
        · exact h3
theorem md_lnF_ne (ld : Nat → Int32) (j : Nat) (hj : j < 8) (d : Int32) : ∀ (k i : Nat) (un le : Int32), i + k ≤ 16 → (¬ le = -1 ∨ 0 < k) → (un = -1 ∨ ¬ un = -1) → ¬ md_lnF ld j d k i un le = -1 := by
  intro k
  induction k with
  | zero =>
    intro i un le _ h _
    unfold md_lnF
    split
    · exact h.resolve_right (by omega)
    · rename_i h2; exact h2
  | succ k ih =>
    intro i un le hk _ _
    unfold md_lnF
    have h3 : ¬ nI (j * 16 + i) = -1 := by
      intro q
      have := nI_pos (n := j * 16 + i) (by omega)
      rw [q] at this
      exact this (by decide)
    refine ih (i + 1) _ _ (by omega) (Or.inl ?_) (Classical.em _)
    split
    · exact h3
    · rename_i h2
      split
      · exact h2
      · exact h3
theorem mdln_or {ld : Nat → Int32} {j t : Nat} {d : Int32} (hj : j < 8) (ht : t ≤ 16) (h0 : 0 < t) : ∃ q : Nat, q < t ∧ md_ln ld j d t = nI (j * 16 + q) := by
  have h1 := md_lnF_or ld j d t 0 (-1) (-1) (Or.inl rfl) (Or.inl rfl)
  have h2 := md_lnF_ne ld j hj d t 0 (-1) (-1) (by omega) (Or.inr h0) (Or.inl rfl)
  rw [Nat.zero_add] at h1
  rcases h1 with q | q
  · exact absurd q h2
  · exact q
theorem mdln_in {ld : Nat → Int32} {j t : Nat} {d : Int32} (hj : j < 8) (ht : t ≤ 16) (h0 : 0 < t) : vp_in (md_ln ld j d t) 128 := by
  obtain ⟨q, hq, e⟩ := mdln_or (ld := ld) (d := d) hj ht h0
  rw [e]
  exact vp_in_nI (by omega) (by decide)
theorem mdln_nz {ld : Nat → Int32} {lw : Nat → Int64} {j t : Nat} {d : Int32} (hj : j < 8) (ht : t ≤ 16) (hlw : ∀ q, q < t → ¬ lw (j * 16 + q) = 0) (h0 : 0 < t) : ¬ lw (md_ln ld j d t).toNatClampNeg = 0 := by
  obtain ⟨q, hq, e⟩ := mdln_or (ld := ld) (d := d) hj ht h0
  rw [e, nI_clamp (by omega)]
  exact hlw q hq
def md_sumF (kd : Nat → Int32) (nb : Nat → Int64) (wa ld : Nat → Int32) (lo lw : Nat → Int64) (j t : Nat) : Nat → Nat → Int64 → Int64
  | 0, _, acc => acc
  | k + 1, i, acc => if kd (j * 200 + i) = 0 then md_sumF kd nb wa ld lo lw j t k (i + 1) (acc + nb (j * 200 + i) * lo (md_ln ld j (wa (j * 200 + i)) t).toNatClampNeg * 1000 / lw (md_ln ld j (wa (j * 200 + i)) t).toNatClampNeg) else md_sumF kd nb wa ld lo lw j t k (i + 1) acc
def md_sum (kd : Nat → Int32) (nb : Nat → Int64) (wa ld : Nat → Int32) (lo lw : Nat → Int64) (j t n : Nat) : Int64 := md_sumF kd nb wa ld lo lw j t n 0 0
def md_rest (kd : Nat → Int32) (nb : Nat → Int64) (wa ld : Nat → Int32) (lo lw : Nat → Int64) (j t n : Nat) (tank : Int64) : Int64 :=
  if tank < 0 then -9223372036854775808 else if tank ≤ 1000000000 then md_sum kd nb wa ld lo lw j t n - tank * 1000 else -9223372036854775808
def ga_I (j i : Nat) (x : Int32) : Prop := x = -1 ∨ ∃ q : Nat, q < i ∧ x = nI (j * 200 + q)
theorem ga_up {j i : Nat} {x : Int32} (h : ga_I j i x) : ga_I j (i + 1) x := h.imp id (fun ⟨q, a, b⟩ => ⟨q, by omega, b⟩)
theorem ga_in {j i : Nat} {x : Int32} (h : ga_I j i x) (h0 : ¬ x = -1) (hj : j * 200 + i ≤ 1600) : vp_in x 1600 := by
  rcases h with q | ⟨q, hq, rfl⟩
  · exact absurd q h0
  · exact vp_in_nI (by omega) (by decide)
def md_gapF (kd : Nat → Int32) (sc : Nat → Int64) (j : Nat) (kk what : Int32) : Nat → Nat → Nat → Int32 → Int32
  | 0, _, _, _ => -1
  | k + 1, i, ct, last =>
    if kd (j * 200 + i) = 0 then
      (if last = -1 then md_gapF kd sc j kk what k (i + 1) ct (nI (j * 200 + i))
       else if sc (j * 200 + i) - sc last.toNatClampNeg ≤ 3600 then md_gapF kd sc j kk what k (i + 1) ct (nI (j * 200 + i))
       else if nI ct = kk then (if what = 0 then nI i else if 2147483647 ≤ (sc (j * 200 + i) - sc last.toNatClampNeg) / 60 then (2147483647 : Int64).toInt32 else ((sc (j * 200 + i) - sc last.toNatClampNeg) / 60).toInt32)
       else md_gapF kd sc j kk what k (i + 1) (ct + 1) (nI (j * 200 + i)))
    else md_gapF kd sc j kk what k (i + 1) ct last
def md_gap (kd : Nat → Int32) (sc : Nat → Int64) (j n : Nat) (kk what : Int32) : Int32 :=
  if kk < 0 then -1 else if what < 0 then -1 else if what ≤ 1 then md_gapF kd sc j kk what n 0 0 (-1) else -1
