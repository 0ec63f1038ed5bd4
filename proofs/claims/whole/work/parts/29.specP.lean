/-! TEXTS IN THE REFERENCE -/
def wrote (t0 t1 : Nat → Int32) (a : Nat) (l : List Int32) : Prop := (∀ p, p < a → t1 p = t0 p) ∧ ∀ p, p < l.length → t1 (a + p) = l.getD p 0
theorem wrote.nil (t : Nat → Int32) (a : Nat) : wrote t t a [] := ⟨fun _ _ => rfl, fun p h => absurd h (Nat.not_lt_zero p)⟩
theorem wrote.put (t : Nat → Int32) (a : Nat) (c : Int32) : wrote t (upd t a c) a [c] := by
  refine ⟨fun p h => pk_un (by omega), fun p h => ?_⟩
  have : p = 0 := by simp at h; exact h
  subst this
  rw [Nat.add_zero, pk_us]
  rfl
theorem wrote.app {t0 t1 t2 : Nat → Int32} {a : Nat} {l l' : List Int32} (h : wrote t0 t1 a l) (h' : wrote t1 t2 (a + l.length) l') : wrote t0 t2 a (l ++ l') := by
  refine ⟨fun p hp => (h'.1 p (by omega)).trans (h.1 p hp), fun p hp => ?_⟩
  by_cases hq : p < l.length
  · rw [h'.1 (a + p) (by omega), h.2 p hq, List.getD_eq_getElem?_getD, List.getD_eq_getElem?_getD, List.getElem?_append_left hq]
  · rw [List.length_append] at hp
    have e : a + p = a + l.length + (p - l.length) := by omega
    rw [e, h'.2 (p - l.length) (by omega), List.getD_eq_getElem?_getD, List.getD_eq_getElem?_getD, List.getElem?_append_right (by omega)]
theorem wrote.at {t0 t1 : Nat → Int32} {l : List Int32} (h : wrote t0 t1 0 l) {p : Nat} (hp : p < l.length) : t1 p = l.getD p 0 := by
  have := h.2 p hp
  rwa [Nat.zero_add] at this
def dgl (n : Nat) : Nat → List Int32
  | 0 => []
  | e + 1 => nI (48 + n / 10 ^ e % 10) :: dgl n e
theorem dgl_len (n : Nat) : ∀ e, (dgl n e).length = e := by
  intro e
  induction e with
  | zero => rfl
  | succ e ih => unfold dgl; rw [List.length_cons, ih]
def txt (v : Int64) : List Int32 := (if 0 ≤ v then [] else [45]) ++ dgl (ab v) (nl (ab v / 10) + 1)
theorem txt_len (v : Int64) : (txt v).length = f_len v := by
  unfold txt f_len
  rw [List.length_append, dgl_len]
  split
  · show 0 + _ = _; omega
  · show 1 + _ = _; omega
theorem nl_gt : ∀ (e a : Nat), a < 10 ^ 19 → (e < nl a ↔ ¬ a / 10 ^ e = 0) := by
  intro e
  induction e with
  | zero =>
    intro a h
    rw [Nat.pow_zero, Nat.div_one]
    by_cases h0 : a = 0
    · subst h0; exact ⟨fun q => absurd q (by decide), fun q => absurd rfl q⟩
    · rw [nl_pos h h0]; exact ⟨fun _ => h0, fun _ => Nat.succ_pos _⟩
  | succ e ih =>
    intro a h
    by_cases h0 : a = 0
    · subst h0
      rw [Nat.zero_div]
      exact ⟨fun q => absurd q (by show ¬ e + 1 < nl 0; rw [show nl 0 = 0 from rfl]; omega), fun q => absurd rfl q⟩
    · rw [nl_pos h h0, Nat.add_lt_add_iff_right, ih (a / 10) (Nat.lt_of_le_of_lt (Nat.div_le_self a 10) h), Nat.div_div_eq_div_mul, Nat.pow_succ, Nat.mul_comm 10]
theorem nl_9 {n e : Nat} (h : n < 10 ^ 19) : e < nl (n / 10) ↔ 9 < n / 10 ^ e := by
  rw [nl_gt e (n / 10) (Nat.lt_of_le_of_lt (Nat.div_le_self n 10) h), Nat.div_div_eq_div_mul, Nat.mul_comm, ← Nat.div_div_eq_div_mul]
  generalize n / 10 ^ e = y
  omega
theorem nl_le {a : Nat} (h : a < 10 ^ 18) : nl (a / 10) ≤ 17 := by
  rcases Nat.lt_or_ge 17 (nl (a / 10)) with q | q
  · have h1 : a / 10 / 10 ^ 17 = 0 := by rw [Nat.div_div_eq_div_mul]; exact Nat.div_eq_of_lt (by rw [show (10 : Nat) * 10 ^ 17 = 10 ^ 18 from rfl]; exact h)
    exact absurd h1 ((nl_gt 17 (a / 10) (by have e : (10 : Nat) ^ 19 = 10 * 10 ^ 18 := rfl; omega)).mp q)
  · exact q
def tenv : Nat → Int64
  | 0 => 0
  | e + 1 => lN (10 ^ e)
theorem p10 {e : Nat} (h : e ≤ 18) : 10 ^ e < 2 ^ 63 := Nat.lt_of_le_of_lt (Nat.pow_le_pow_right (by decide) h) (by decide)
theorem p10pos (e : Nat) : 0 < 10 ^ e := Nat.pow_pos (by decide)
theorem ten_div {e : Nat} (h : e ≤ 18) : lN (10 ^ e) / 10 = tenv e := by
  rw [show (10 : Int64) = lN 10 from rfl, pk_lDiv (p10 h) (by decide) (by decide)]
  cases e with
  | zero => rfl
  | succ e => rw [Nat.pow_succ, Nat.mul_div_cancel _ (by decide)]; rfl
theorem ten_pos {e : Nat} (h : e ≤ 18) : ¬ lN (10 ^ e) ≤ 0 := by
  intro q
  have := (pk_lLE (b := 0) (p10 h) (by decide)).mp q
  have := p10pos e
  omega
theorem lN_mul10 (a : Nat) : lN a * 10 = lN (a * 10) := lN_mul a 10
theorem lN_dg {x : Nat} (h : x < 2 ^ 63) : (48 + (lN x - lN x / 10 * 10)).toInt32 = nI (48 + x % 10) := by
  rw [show (10 : Int64) = lN 10 from rfl, pk_lRem h (by decide) (by decide), show (48 : Int64) = lN 48 from rfl, lN_add, lN_i]
theorem ab_pos {v : Int64} (h : 0 ≤ v) : v = lN (ab v) := by
  have h1 : 0 ≤ v.toInt := by rw [Int64.le_iff_toInt_le] at h; exact h
  apply Int64.toInt_inj.mp
  have h2 := Int64.toInt_lt v
  unfold ab
  rw [pk_lT (by omega)]
  omega
theorem ab_neg {v : Int64} (h : ¬ 0 ≤ v) (h18 : ab v < 10 ^ 18) : -v = lN (ab v) := by
  have h1 : v.toInt < 0 := by rw [Int64.le_iff_toInt_le] at h; exact Int.not_le.mp h
  have e18 : (10 : Nat) ^ 18 = 1000000000000000000 := rfl
  unfold ab at h18 ⊢
  apply Int64.toInt_inj.mp
  rw [pk_lT (by omega), Int64.toInt_neg]
  have : (-v.toInt).bmod (2 ^ 64) = -v.toInt := by apply Int.bmod_eq_of_le <;> omega
  rw [this]
  omega
def md_let (k : Int32) : Int32 := if k = 0 then 82 else if k = 1 then 90 else if k = 2 then 66 else 83
def md_line (kd : Nat → Int32) (nb sc : Nat → Int64) (wa : Nat → Int32) (j i : Nat) : List Int32 :=
  if kd (j * 200 + i) = 0 then (if md_mk kd j i = 0 then ((([md_let (kd (j * 200 + i))] ++ (32 :: txt (nb (j * 200 + i)))) ++ (32 :: txt (sc (j * 200 + i)))) ++ (32 :: txt (wa (j * 200 + i)).toInt64)) ++ [10]
     else ((((([md_let (kd (j * 200 + i))] ++ (32 :: txt (nb (j * 200 + i)))) ++ (32 :: txt (sc (j * 200 + i)))) ++ (32 :: txt (wa (j * 200 + i)).toInt64)) ++ [32]) ++ [42]) ++ [10])
  else (if md_mk kd j i = 0 then ([md_let (kd (j * 200 + i))] ++ (32 :: txt (nb (j * 200 + i)))) ++ [10] else ((([md_let (kd (j * 200 + i))] ++ (32 :: txt (nb (j * 200 + i)))) ++ [32]) ++ [42]) ++ [10])
/-- what the reference's rows must be for their lines to fit the text -/
def md_rok (nb sc : Nat → Int64) (wa : Nat → Int32) (j i : Nat) : Prop := ab (nb (j * 200 + i)) < 10 ^ 18 ∧ ab (sc (j * 200 + i)) < 10 ^ 18 ∧ ab (wa (j * 200 + i)).toInt64 < 10 ^ 18 ∧ (32 :: txt (nb (j * 200 + i))).length + (32 :: txt (sc (j * 200 + i))).length + (32 :: txt (wa (j * 200 + i)).toInt64).length ≤ 70
def md_rollF (kd : Nat → Int32) (nb sc : Nat → Int64) (wa : Nat → Int32) (j : Nat) : Nat → Nat → Int32 → Int32
  | 0, _, _ => -1
  | k + 1, i, left => if nI (md_line kd nb sc wa j i).length ≤ left then md_rollF kd nb sc wa j k (i + 1) (left - nI (md_line kd nb sc wa j i).length) else (md_line kd nb sc wa j i).getD left.toNatClampNeg 0
def md_roll (kd : Nat → Int32) (nb sc : Nat → Int64) (wa : Nat → Int32) (j n : Nat) (ix : Int32) : Int32 := if 0 ≤ ix then md_rollF kd nb sc wa j n 0 ix else -1
theorem md_line_le {kd : Nat → Int32} {nb sc : Nat → Int64} {wa : Nat → Int32} {j i : Nat} (h : md_rok nb sc wa j i) : (md_line kd nb sc wa j i).length ≤ 80 := by
  obtain ⟨-, -, -, h⟩ := h
  unfold md_line
  simp only [List.length_cons] at h
  split <;> split <;> simp only [List.length_append, List.length_cons, List.length_nil] <;> omega
theorem left_in {left : Int32} {L : Nat} (h0 : 0 ≤ left) (h : ¬ nI L ≤ left) (hL : L ≤ 80) : ∃ q : Nat, q < L ∧ left = nI q := by
  obtain ⟨q, hq, rfl⟩ := nI_of (x := left) (Int32.not_lt.mpr h0)
  exact ⟨q, Classical.byContradiction (fun w => h (nI_le (by omega) hq)), rfl⟩
theorem left_sub {left : Int32} {L : Nat} (h0 : 0 ≤ left) (h : nI L ≤ left) (hL : L ≤ 80) : 0 ≤ left - nI L := by
  obtain ⟨q, hq, rfl⟩ := nI_of (x := left) (Int32.not_lt.mpr h0)
  have := (nI_leI (by omega) hq).mp h
  rw [pk_sub this]
  exact nI_pos' (by omega)
