theorem dec1 (x : Int32) : x + Int32.ofInt (-1) = x - 1 := by
  rw [show (Int32.ofInt (-1)) = -1 from rfl, Int32.sub_eq_add_neg]
def f_gapF (n : Nat) (st : Nat → Int64) (what : Int32) : Nat → Nat → Int64 → Int32 → Int32
  | 0, _, _, _ => -1
  | k + 1, i, b, left =>
    if f_isR n st (nI i) = 0 then f_gapF n st what k (i + 1) b left
    else if 0 ≤ b then
      (if 3600 < st i - b then (if left = 0 then (if what = 0 then nI i else f_mins (st i - b)) else f_gapF n st what k (i + 1) (st i) (left - 1)) else f_gapF n st what k (i + 1) (st i) left)
    else f_gapF n st what k (i + 1) (st i) left
def f_gap (n : Nat) (st : Nat → Int64) (kk what : Int32) : Int32 := f_gapF n st what n 0 (-1) kk
/-- the steps of Euclid: the product halves -/
def cd_I (i x y : Nat) : Prop := i = 0 ∨ (y < x ∧ i ≤ 60 ∧ x * y < 2 ^ (60 - i))
theorem cd_i {i x y : Nat} (h : cd_I i x y) : i ≤ 60 := by
  rcases h with h | h
  · omega
  · exact h.2.1
theorem cd_half {x y : Nat} (h0 : 0 < y) (h : y < x) : 2 * (y * (x % y)) < x * y + 1 := by
  have h1 : 2 * (x % y) ≤ x := by
    have h2 := Nat.mod_lt x h0
    have h3 : x % y + y ≤ x := by
      have e := Nat.div_add_mod x y
      have h4 : 1 ≤ x / y := (Nat.le_div_iff_mul_le h0).mpr (by omega)
      have h5 : y * 1 ≤ y * (x / y) := Nat.mul_le_mul_left y h4
      omega
    omega
  have h6 : y * (2 * (x % y)) ≤ y * x := Nat.mul_le_mul_left y h1
  have e1 : y * (2 * (x % y)) = 2 * (y * (x % y)) := by rw [← Nat.mul_assoc, Nat.mul_comm y 2, Nat.mul_assoc]
  have e2 : y * x = x * y := Nat.mul_comm y x
  omega
theorem cd_step {i x y : Nat} (h : cd_I i x y) (h4 : i = 0 → y < 2 ^ 14) (h0 : 0 < y) : cd_I (i + 1) y (x % y) := by
  have hm := Nat.mod_lt x h0
  refine Or.inr ⟨hm, ?_⟩
  rcases h with h | ⟨h1, h2, h3⟩
  · have hy := h4 h
    subst h
    refine ⟨by omega, ?_⟩
    have q1 : y * (x % y) ≤ 2 ^ 14 * 2 ^ 14 := Nat.mul_le_mul (by omega) (by omega)
    have q2 : (2 : Nat) ^ 14 * 2 ^ 14 < 2 ^ (60 - (0 + 1)) := by decide
    omega
  · have hp : 0 < x * y := Nat.mul_pos (by omega) h0
    have hi : i < 60 := by
      rcases Nat.lt_or_ge i 60 with q | q
      · exact q
      · have e : 60 - i = 0 := by omega
        rw [e] at h3
        have : (2 : Nat) ^ 0 = 1 := rfl
        omega
    refine ⟨by omega, ?_⟩
    have e : 60 - i = (60 - (i + 1)) + 1 := by omega
    rw [e, Nat.pow_succ] at h3
    have := cd_half h0 h1
    omega
