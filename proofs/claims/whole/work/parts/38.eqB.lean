/-! EQUAL ANSWERS: the table's line, litres, rest -/
section EQB
variable {j : Nat} {sl : Int32} {la : Int64} {tn : Nat} {ts : Nat → Int32} {ta tb : Nat → Int64} {key : Int64} {n : Nat} {nu st : Nat → Int64} {de : Nat → Int32} {su : Nat → Int64} {mk : Nat → Int32} {ky : Nat → Int64} {ro ln kd : Nat → Int32} {nb sc : Nat → Int64} {wa : Nat → Int32} {sm : Nat → Int64} {ld : Nat → Int32} {lo lw : Nat → Int64}
def BI (j : Nat) (ts : Nat → Int32) (d : Int32) (i : Nat) (b un le : Int32) : Prop :=
  (un = -1 ∧ le = -1 ∧ b = -1 ∧ i = 0) ∨ (un = -1 ∧ ∃ q, q < i ∧ le = nI (j * 16 + q) ∧ b = nI q ∧ d < ts q) ∨ (∃ q, q < i ∧ un = nI (j * 16 + q) ∧ b = nI q ∧ ¬ d < ts q)
theorem nI_m1 {q : Nat} (h : q < 2 ^ 31) : ¬ nI q = -1 := by
  intro z
  have := nI_pos h
  rw [z] at this
  exact this (by decide)
theorem best_step {j : Nat} {ts ld : Nat → Int32} {d : Int32} {i : Nat} {b un le : Int32} (hj : j < 8) (hi : i < 16) (hld : ∀ q, q ≤ i → ld (j * 16 + q) = ts q) (h : BI j ts d i b un le) :
    BI j ts d (i + 1) (if b = -1 then nI i else if f_before (ts i) (ts b.toNatClampNeg) d = 0 then b else nI i)
      (if d < ld (j * 16 + i) then un else if un = -1 then nI (j * 16 + i) else if ld (j * 16 + i) ≤ ld un.toNatClampNeg then un else nI (j * 16 + i))
      (if le = -1 then nI (j * 16 + i) else if ld le.toNatClampNeg ≤ ld (j * 16 + i) then le else nI (j * 16 + i)) := by
  rw [hld i (Nat.le_refl _)]
  rcases h with ⟨rfl, rfl, rfl, rfl⟩ | ⟨rfl, q, hq, rfl, rfl, hd⟩ | ⟨q, hq, rfl, rfl, hd⟩
  · rw [if_pos rfl, if_pos rfl, if_pos rfl]
    by_cases h1 : d < ts 0
    · rw [if_pos h1]
      exact Or.inr (Or.inl ⟨rfl, 0, by omega, rfl, rfl, h1⟩)
    · rw [if_neg h1]
      exact Or.inr (Or.inr ⟨0, by omega, rfl, rfl, h1⟩)
  · rw [if_neg (nI_m1 (show q < 2 ^ 31 by omega)), if_neg (nI_m1 (show j * 16 + q < 2 ^ 31 by omega)), if_pos rfl, nI_clamp (show q < 2 ^ 31 by omega), nI_clamp (show j * 16 + q < 2 ^ 31 by omega), hld q (by omega)]
    unfold f_before
    by_cases h1 : d < ts i
    · rw [if_pos h1, if_pos h1, if_neg (Int32.not_le.mpr hd)]
      by_cases h2 : ts q ≤ ts i
      · rw [if_pos h2, if_pos h2, if_pos rfl]
        exact Or.inr (Or.inl ⟨rfl, q, by omega, rfl, rfl, hd⟩)
      · rw [if_neg h2, if_neg h2, if_neg (by decide)]
        exact Or.inr (Or.inl ⟨rfl, i, by omega, rfl, rfl, h1⟩)
    · rw [if_neg h1, if_neg h1, if_pos hd, if_neg (by decide)]
      exact Or.inr (Or.inr ⟨i, by omega, rfl, rfl, h1⟩)
  · rw [if_neg (nI_m1 (show q < 2 ^ 31 by omega)), if_neg (nI_m1 (show j * 16 + q < 2 ^ 31 by omega)), nI_clamp (show q < 2 ^ 31 by omega), nI_clamp (show j * 16 + q < 2 ^ 31 by omega), hld q (by omega)]
    unfold f_before
    by_cases h1 : d < ts i
    · rw [if_pos h1, if_pos h1, if_pos (Int32.not_lt.mp hd), if_pos rfl]
      exact Or.inr (Or.inr ⟨q, by omega, rfl, rfl, hd⟩)
    · rw [if_neg h1, if_neg h1, if_neg hd]
      by_cases h2 : ts i ≤ ts q
      · rw [if_pos h2, if_pos h2, if_pos rfl]
        exact Or.inr (Or.inr ⟨q, by omega, rfl, rfl, hd⟩)
      · rw [if_neg h2, if_neg h2, if_neg (by decide)]
        exact Or.inr (Or.inr ⟨i, by omega, rfl, rfl, h1⟩)
theorem best_F {j t : Nat} {ts ld : Nat → Int32} {d : Int32} (hj : j < 8) (ht : t ≤ 16) (hld : ∀ q, q < t → ld (j * 16 + q) = ts q) : ∀ (k i : Nat) (b un le : Int32), i + k = t → BI j ts d i b un le → (f_bestF ts d k i b = -1 ∧ t = 0) ∨ ∃ q, q < t ∧ f_bestF ts d k i b = nI q ∧ md_lnF ld j d k i un le = nI (j * 16 + q) := by
  intro k
  induction k with
  | zero =>
    intro i b un le hi h
    unfold f_bestF md_lnF
    rcases h with ⟨rfl, rfl, rfl, rfl⟩ | ⟨rfl, q, hq, rfl, rfl, hd⟩ | ⟨q, hq, rfl, rfl, hd⟩
    · exact Or.inl ⟨rfl, by omega⟩
    · exact Or.inr ⟨q, by omega, rfl, by rw [if_pos rfl]⟩
    · exact Or.inr ⟨q, by omega, rfl, by rw [if_neg (nI_m1 (by omega))]⟩
  | succ k ih =>
    intro i b un le hi h
    have h2 := ih (i + 1) _ _ _ (by omega) (best_step hj (by omega) (fun q hq => hld q (by omega)) h)
    unfold f_bestF md_lnF
    have e : (if b = -1 then f_bestF ts d k (i + 1) (nI i) else if f_before (ts i) (ts b.toNatClampNeg) d = 0 then f_bestF ts d k (i + 1) b else f_bestF ts d k (i + 1) (nI i)) = f_bestF ts d k (i + 1) (if b = -1 then nI i else if f_before (ts i) (ts b.toNatClampNeg) d = 0 then b else nI i) := by
      split
      · rfl
      · split <;> rfl
    rw [e]
    exact h2
theorem best_eq {j t : Nat} {ts ld : Nat → Int32} {d : Int32} (hj : j < 8) (ht : t ≤ 16) (hld : ∀ q, q < t → ld (j * 16 + q) = ts q) (h0 : 0 < t) : ∃ q, q < t ∧ f_best t ts d = nI q ∧ md_ln ld j d t = nI (j * 16 + q) := by
  rcases best_F (d := d) hj ht hld t 0 (-1) (-1) (-1) (by omega) (Or.inl ⟨rfl, rfl, rfl, rfl⟩) with ⟨-, h⟩ | h
  · omega
  · exact h
/-- a reading's litres, in both -/
theorem MI.read (h : MI j sl la tn ts ta tb key n nu st de su mk ky ro ln kd nb sc wa sm ld lo lw) (hj : j < 8) {i : Nat} (hi : i < n) (h0 : kd (j * 200 + i) = 0) : ∃ A0 B0 : Nat, A0 ≤ 10000000000 ∧ 0 < B0 ∧ B0 ≤ 10000 ∧ f_la tn ts ta n nu st de (nI i) = lN A0 ∧ f_lbw tn ts tb n st de (nI i) = lN B0 ∧
    nb (j * 200 + i) * lo (md_ln ld j (wa (j * 200 + i)) tn).toNatClampNeg = lN A0 ∧ lw (md_ln ld j (wa (j * 200 + i)) tn).toNatClampNeg = lN B0 := by
  obtain ⟨h1, h2, ⟨a, ha, h3⟩, -⟩ := h.stR hi h0
  have hn := h.1.2.2.1
  have ht := h.1.2.2.2.2.1
  obtain ⟨q, hq, e1, e2⟩ := best_eq (d := wa (j * 200 + i)) hj ht (fun q hq => (h.2.1 q hq).1) (h.2.2.2.2 i hi h0)
  obtain ⟨g1, g2, g3, ⟨c, hc0, hc, g4⟩, ⟨b, hb0, hb, g5⟩⟩ := h.2.1 q hq
  have hR : f_isR n st (nI i) = 1 := by rw [h.isR hi, if_pos h0]
  have hd : f_deg n de (nI i) = wa (j * 200 + i) := by unfold f_deg; rw [if_neg (holds_nI hi hn), nI_clamp (by omega), h2]
  have hp : f_pul n nu st (nI i) = lN a := by unfold f_pul; rw [hR, if_neg (by decide), nI_clamp (by omega), h3]
  have hA : f_above tn ts ta (f_deg n de (nI i)) = lN c := by unfold f_above; rw [hd, e1, if_pos (nI_pos' (by omega)), nI_clamp (by omega), g4]
  have hB : f_below tn ts tb (f_deg n de (nI i)) = lN b := by unfold f_below; rw [hd, e1, if_pos (nI_pos' (by omega)), nI_clamp (by omega), g5]
  refine ⟨a * c, b, ?_, hb0, hb, ?_, ?_, ?_, ?_⟩
  · have := Nat.mul_le_mul ha hc
    omega
  · unfold f_la; rw [hp, hA, lN_mul]
  · unfold f_lbw; rw [hR, if_neg (by decide), hB]
  · rw [e2, nI_clamp (by omega), g2, g4, (h.2.2.1 i hi).1.1, h3, lN_mul]
  · rw [e2, nI_clamp (by omega), g3, g5]
theorem MI.other (h : MI j sl la tn ts ta tb key n nu st de su mk ky ro ln kd nb sc wa sm ld lo lw) {i : Nat} (hi : i < n) (h0 : ¬ kd (j * 200 + i) = 0) : f_la tn ts ta n nu st de (nI i) = lN 0 ∧ f_lbw tn ts tb n st de (nI i) = lN 1 := by
  have hR : f_isR n st (nI i) = 0 := by rw [h.isR hi, if_neg h0]
  constructor
  · unfold f_la f_pul
    rw [hR, if_pos rfl]
    exact Int64.zero_mul
  · unfold f_lbw
    rw [hR, if_pos rfl]
    rfl
theorem MI.allF (h : MI j sl la tn ts ta tb key n nu st de su mk ky ro ln kd nb sc wa sm ld lo lw) (hj : j < 8) : ∀ (k i : Nat) (acc : Int64), i + k = n → f_allF tn ts ta tb n nu st de k i acc = md_sumF kd nb wa ld lo lw j tn k i acc := by
  intro k
  induction k with
  | zero => intro i acc _; rfl
  | succ k ih =>
    intro i acc hi
    unfold f_allF md_sumF
    by_cases h0 : kd (j * 200 + i) = 0
    · obtain ⟨A0, B0, q1, q2, q3, e1, e2, e3, e4⟩ := h.read hj (show i < n by omega) h0
      rw [if_pos h0, e1, e2, e3, e4]
      unfold f_quot
      rw [if_neg (fun z => by have := (pk_lEQ (b := 0) (show B0 < 2 ^ 63 by omega) (by decide)).mp z; omega)]
      exact ih _ _ (by omega)
    · obtain ⟨e1, e2⟩ := h.other (show i < n by omega) h0
      rw [if_neg h0, e1, e2, ← ih (i + 1) acc (by omega)]
      congr 1
      show acc + f_quot (0 * 1000) 1 = acc
      rw [show f_quot (0 * 1000) 1 = 0 by decide]
      exact Int64.add_zero acc
theorem within_0 {v a b : Int64} : f_within v a b = 0 ↔ (v < a ∨ b < v) := by
  unfold f_within
  by_cases h1 : v < a
  · rw [if_pos h1]; exact ⟨fun _ => Or.inl h1, fun _ => rfl⟩
  · rw [if_neg h1]
    by_cases h2 : b < v
    · rw [if_pos h2]; exact ⟨fun _ => Or.inr h2, fun _ => rfl⟩
    · rw [if_neg h2]; exact ⟨fun z => absurd z (by decide), fun z => absurd z (fun z => z.elim h1 h2)⟩
theorem MI.rest (h : MI j sl la tn ts ta tb key n nu st de su mk ky ro ln kd nb sc wa sm ld lo lw) (hj : j < 8) (tank : Int64) : f_rest tn ts ta tb n nu st de tank = md_rest kd nb wa ld lo lw j tn n tank := by
  unfold f_rest md_rest
  by_cases h0 : tank < 0
  · rw [if_pos h0, if_pos (within_0.mpr (Or.inl h0))]
  · rw [if_neg h0]
    by_cases h1 : tank ≤ 1000000000
    · rw [if_pos h1, if_neg (fun z => (within_0.mp z).elim h0 (Int64.not_lt.mpr h1))]
      unfold f_all md_sum
      rw [h.allF hj n 0 0 (by omega)]
    · rw [if_neg h1, if_pos (within_0.mpr (Or.inr (Int64.not_le.mp h1)))]
theorem MI.lwnz (h : MI j sl la tn ts ta tb key n nu st de su mk ky ro ln kd nb sc wa sm ld lo lw) : ∀ q, q < tn → ¬ lw (j * 16 + q) = 0 := by
  intro q hq z
  obtain ⟨-, -, g3, -, ⟨b, hb0, hb, g5⟩⟩ := h.2.1 q hq
  rw [g3, g5] at z
  have := (pk_lEQ (b := 0) (show b < 2 ^ 63 by omega) (by decide)).mp z
  omega
end EQB
