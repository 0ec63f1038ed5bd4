/-! DECIMAL TEXTS -/
def ab (x : Int64) : Nat := x.toInt.natAbs
theorem ab_0 {x : Int64} : ab x = 0 ↔ x = 0 := by
  unfold ab
  rw [Int.natAbs_eq_zero]
  exact ⟨fun h => Int64.toInt_inj.mp (h.trans rfl), fun h => by rw [h]; rfl⟩
theorem ab_le (x : Int64) : ab x ≤ 2 ^ 63 := by
  unfold ab
  have h1 := Int64.le_toInt x
  have h2 := Int64.toInt_lt x
  omega
theorem div10 (x : Int64) : (x / 10).toInt = x.toInt.tdiv 10 := by
  rw [Int64.toInt_div, show (10 : Int64).toInt = 10 from rfl]
  have h1 := Int64.le_toInt x
  have h2 := Int64.toInt_lt x
  have e : (x.toInt.tdiv 10).natAbs = x.toInt.natAbs / 10 := by rw [Int.natAbs_tdiv]; rfl
  apply Int.bmod_eq_of_le <;> omega
theorem ab_div (x : Int64) : ab (x / 10) = ab x / 10 := by
  unfold ab
  rw [div10, Int.natAbs_tdiv]
  rfl
theorem ab10 (x : Int64) : ab x / 10 < 10 ^ 18 := by
  have := ab_le x
  have e : (10 : Nat) ^ 18 = 1000000000000000000 := rfl
  have e2 : (2 : Nat) ^ 63 = 9223372036854775808 := rfl
  omega
theorem ab_lt19 (x : Int64) : ab x < 10 ^ 19 := by
  have := ab_le x
  have e : (10 : Nat) ^ 19 = 10000000000000000000 := rfl
  have e2 : (2 : Nat) ^ 63 = 9223372036854775808 := rfl
  omega
def nlF : Nat → Nat → Nat
  | 0, _ => 0
  | f + 1, a => if a = 0 then 0 else nlF f (a / 10) + 1
def nl (a : Nat) : Nat := nlF 20 a
theorem nlF_more : ∀ (f a : Nat), a < 10 ^ f → nlF (f + 1) a = nlF f a := by
  intro f
  induction f with
  | zero =>
    intro a h
    have : a = 0 := by simpa using h
    subst this
    rfl
  | succ f ih =>
    intro a h
    unfold nlF
    split
    · rfl
    · rw [ih (a / 10) (by rw [Nat.div_lt_iff_lt_mul (by decide), ← Nat.pow_succ]; exact h)]
theorem nl_pos {a : Nat} (h : a < 10 ^ 19) (h0 : ¬ a = 0) : nl a = nl (a / 10) + 1 := by
  unfold nl
  have h1 : a / 10 < 10 ^ 19 := Nat.lt_of_le_of_lt (Nat.div_le_self a 10) h
  rw [nlF_more 19 (a / 10) h1]
  conv => lhs; unfold nlF
  rw [if_neg h0]
def f_len (v : Int64) : Nat := (if 0 ≤ v then 1 else 2) + nl (ab v / 10)
def f_bh (v : Int64) (at_ : Int32) : Int32 := nI (f_len v) - 1 - at_
def f_divs : Nat → Int64 → Int64
  | 0, x => x
  | k + 1, x => f_divs k (x / 10)
def f_tbF (x : Int64) : Int32 := 48 + (if 0 < x - x / 10 * 10 then x - x / 10 * 10 else -(x - x / 10 * 10)).toInt32
def f_tb (v : Int64) (at_ : Int32) : Int32 := if 0 ≤ v then f_tbF (f_divs (f_bh v at_).toNatClampNeg v) else if at_ = 0 then 45 else f_tbF (f_divs (f_bh v at_).toNatClampNeg v)
def bk_I (k : Nat) (b : Int32) : Prop := (k = 0 ∧ b ≤ 0) ∨ (b = nI k ∧ k < 2 ^ 31)
theorem bk_of {k : Nat} {b : Int32} (h : k = b.toNatClampNeg) : bk_I k b := by
  subst h
  by_cases h0 : b < 0
  · refine Or.inl ⟨?_, Int32.le_of_lt h0⟩
    have : b.toInt < 0 := by rw [Int32.lt_iff_toInt_lt] at h0; exact h0
    show b.toInt.toNat = 0
    omega
  · obtain ⟨j, hj, rfl⟩ := nI_of h0
    exact Or.inr ⟨by rw [nI_clamp hj], by rw [nI_clamp hj]; exact hj⟩
theorem bk_0 {b : Int32} (h : bk_I 0 b) : b ≤ 0 := by
  rcases h with h | ⟨rfl, h⟩
  · exact h.2
  · decide
theorem bk_1 {k : Nat} {b : Int32} (h : bk_I (k + 1) b) : ¬ b ≤ 0 := by
  rcases h with h | ⟨rfl, h⟩
  · exact absurd h.1 (Nat.succ_ne_zero k)
  · exact nI_nle (Nat.succ_pos k) h
theorem bk_s {k : Nat} {b : Int32} (h : bk_I (k + 1) b) : bk_I k (b - 1) := by
  rcases h with h | ⟨rfl, h⟩
  · exact absurd h.1 (Nat.succ_ne_zero k)
  · exact Or.inr ⟨nI_pred k, by omega⟩
def f_ll (n : Nat) (nu st : Nat → Int64) (de : Nat → Int32) (mk : Nat → Int32) (row : Int32) : Int32 :=
  if f_isR n st row = 0 then (if f_mark n mk row = 0 then 1 + (1 + nI (f_len (f_fld n nu st de row 0))) + 0 + 1 else 1 + (1 + nI (f_len (f_fld n nu st de row 0))) + 2 + 1)
  else (if f_mark n mk row = 0 then 1 + (1 + nI (f_len (f_fld n nu st de row 0))) + (1 + nI (f_len (f_fld n nu st de row 1))) + (1 + nI (f_len (f_fld n nu st de row 2))) + 0 + 1
    else 1 + (1 + nI (f_len (f_fld n nu st de row 0))) + (1 + nI (f_len (f_fld n nu st de row 1))) + (1 + nI (f_len (f_fld n nu st de row 2))) + 2 + 1)
def f_lbF (md : Int32) : List Int64 → Int32 → Int32
  | [], x => if md = 0 then 10 else if 2 ≤ x then 10 else if x = 0 then 32 else 42
  | v :: vs, x => if 1 + nI (f_len v) ≤ x then f_lbF md vs (x - (1 + nI (f_len v))) else if x = 0 then 32 else f_tb v (x - 1)
def f_lb (n : Nat) (nu st : Nat → Int64) (de : Nat → Int32) (mk : Nat → Int32) (row at_ : Int32) : Int32 :=
  if at_ = 0 then f_let n st row else if f_isR n st row = 0 then f_lbF (f_mark n mk row) [f_fld n nu st de row 0] (at_ - 1) else f_lbF (f_mark n mk row) [f_fld n nu st de row 0, f_fld n nu st de row 1, f_fld n nu st de row 2] (at_ - 1)
def f_rollF (n : Nat) (nu st : Nat → Int64) (de : Nat → Int32) (mk : Nat → Int32) : Nat → Nat → Int32 → Int32
  | 0, _, _ => -1
  | k + 1, i, left => if f_ll n nu st de mk (nI i) ≤ left then f_rollF n nu st de mk k (i + 1) (left - f_ll n nu st de mk (nI i)) else f_lb n nu st de mk (nI i) left
def f_roll (n : Nat) (nu st : Nat → Int64) (de : Nat → Int32) (mk : Nat → Int32) (ix : Int32) : Int32 := if 0 ≤ ix then f_rollF n nu st de mk n 0 ix else -1
def f_put (n : Nat) (ts : Nat → Int32) (d : Int32) (a b : Int64) : Int32 :=
  if f_within d.toInt64 (-50) 150 = 0 then 0 else if f_within a 1 10000 = 0 then 0 else if f_within b 1 10000 = 0 then 0 else if f_place n ts d < 16 then 1 else 0
theorem f_placeF_or (n : Nat) (ts : Nat → Int32) (d : Int32) : ∀ (k i : Nat), i + k = n → ∃ j : Nat, i ≤ j ∧ j ≤ n ∧ f_placeF n ts d k i = nI j ∧ (j < n → ts j = d) ∧ (∀ q, i ≤ q → q < j → ¬ ts q = d) := by
  intro k
  induction k with
  | zero => intro i h; exact ⟨n, by omega, Nat.le_refl _, rfl, fun q => absurd q (Nat.lt_irrefl _), fun q h1 h2 => by omega⟩
  | succ k ih =>
    intro i h
    unfold f_placeF
    split
    · rename_i h1
      exact ⟨i, Nat.le_refl _, by omega, rfl, fun _ => h1, fun q h1 h2 => by omega⟩
    · rename_i h1
      obtain ⟨j, a, b, c, d1, e⟩ := ih (i + 1) (by omega)
      refine ⟨j, by omega, b, c, d1, fun q h2 h3 => ?_⟩
      by_cases hq : q = i
      · rw [hq]; exact h1
      · exact e q (by omega) h3
theorem fplace_or (n : Nat) (ts : Nat → Int32) (d : Int32) : ∃ j : Nat, j ≤ n ∧ f_place n ts d = nI j ∧ (j < n → ts j = d) ∧ (∀ q, q < j → ¬ ts q = d) := by
  obtain ⟨j, -, b, c, d1, e⟩ := f_placeF_or n ts d n 0 (by omega)
  exact ⟨j, b, c, d1, fun q h => e q (Nat.zero_le _) h⟩
theorem place_in {n : Nat} {ts : Nat → Int32} {d : Int32} (hc : n ≤ 16) (h : f_place n ts d < 16) : vp_in (f_place n ts d) 16 := by
  obtain ⟨j, b, c, -, -⟩ := fplace_or n ts d
  rw [c] at h ⊢
  exact vp_in_nI ((nI_ltI (b := 16) (by omega) (by decide)).mp h) (by decide)
