/-! THE TWO STATES SIDE BY SIDE: a row's values, its sum -/
/-- what a row holds, here and there -/
def RV (kd : Nat → Int32) (nb sc : Nat → Int64) (wa : Nat → Int32) (j i : Nat) (nu st : Nat → Int64) (de : Nat → Int32) : Prop :=
  nb (j * 200 + i) = nu i ∧
  ((kd (j * 200 + i) = 0 ∧ st i = sc (j * 200 + i) ∧ de i = wa (j * 200 + i) ∧ (∃ a : Nat, a ≤ 1000000 ∧ nu i = lN a) ∧ ∃ b : Nat, b ≤ 1000000000000 ∧ sc (j * 200 + i) = lN b) ∨
   (((kd (j * 200 + i) = 1 ∧ st i = -1) ∨ (kd (j * 200 + i) = 2 ∧ st i = -2) ∨ (kd (j * 200 + i) = 3 ∧ st i = -3)) ∧ de i = 0 ∧ (∃ a : Nat, a ≤ 1000000000000 ∧ nu i = lN a) ∧ sc (j * 200 + i) = 0))
theorem holds_nI {n i : Nat} (hi : i < n) (hn : n ≤ 200) : ¬ f_holds (nI n) (nI i) = 0 := (f_holds_iff (by omega) _).mpr ⟨i, hi, rfl⟩
theorem lN_nn {b : Nat} (h : b < 2 ^ 63) : ¬ lN b < 0 := by
  intro q
  have := (pk_lLT (b := 0) h (by decide)).mp q
  omega
theorem isR_eq {kd : Nat → Int32} {nb sc : Nat → Int64} {wa : Nat → Int32} {j i n : Nat} {nu st : Nat → Int64} {de : Nat → Int32} (h : RV kd nb sc wa j i nu st de) (hi : i < n) (hn : n ≤ 200) : f_isR n st (nI i) = if kd (j * 200 + i) = 0 then 1 else 0 := by
  unfold f_isR
  rw [if_neg (holds_nI hi hn), nI_clamp (by omega)]
  rcases h.2 with ⟨h1, h2, -, -, b, hb, h3⟩ | ⟨h1, -⟩
  · rw [if_pos h1, h2, h3, if_neg (lN_nn (by omega))]
  · rcases h1 with ⟨a, b⟩ | ⟨a, b⟩ | ⟨a, b⟩ <;> rw [a, b] <;> decide
theorem due_eq {ky : Nat → Int64} {kd : Nat → Int32} {nb sc : Nat → Int64} {wa : Nat → Int32} {sm : Nat → Int64} {j i n : Nat} {key : Int64} {nu st : Nat → Int64} {de : Nat → Int32} {su : Nat → Int64} (h : RV kd nb sc wa j i nu st de) (hi : i < n) (hn : n ≤ 200) (hk : ky j = key) (hprev : ∀ q, i = q + 1 → sm (j * 200 + q) = su q) :
    f_due key n nu st de su (nI i) = md_due ky kd nb sc wa sm j i := by
  have e0 : (if nI i = 0 then key else su (nI i - 1).toNatClampNeg) = (if nI i = 0 then ky j else sm (j * 200 + i - 1)) := by
    cases i with
    | zero => rw [if_pos nI_0, if_pos nI_0, hk]
    | succ q =>
      have h0 : ¬ nI (q + 1) = 0 := nI_ne0 (by omega) (by omega)
      rw [if_neg h0, if_neg h0, nI_pred, nI_clamp (by omega), show j * 200 + (q + 1) - 1 = j * 200 + q by omega, hprev q rfl]
  unfold f_due md_due
  rw [if_neg (holds_nI hi hn), nI_clamp (show i < 2 ^ 31 by omega), e0, ← hk, ← h.1]
  rcases h.2 with ⟨h1, h2, h3, -⟩ | ⟨h1, h3, -⟩
  · rw [if_pos h1, h2, h3]
    by_cases h0 : nI i = 0
    · rw [if_pos h0, if_pos h0]
    · rw [if_neg h0, if_neg h0]
  · have hst : ¬ kd (j * 200 + i) = 0 ∧ st i = (-kd (j * 200 + i)).toInt64 := by
      rcases h1 with ⟨a, b⟩ | ⟨a, b⟩ | ⟨a, b⟩ <;> rw [a, b] <;> decide
    rw [if_neg hst.1, hst.2, h3, show (0 : Int32).toInt64 = 0 from rfl]
    by_cases h0 : nI i = 0
    · rw [if_pos h0, if_pos h0]
    · rw [if_neg h0, if_neg h0]
theorem md_is_congr {kd kd' : Nat → Int32} {j : Nat} : ∀ {b : Nat}, (∀ i, i < b → kd' (j * 200 + i) = kd (j * 200 + i)) → md_is kd' j b = md_is kd j b := by
  intro b
  induction b with
  | zero => intro _; rfl
  | succ b ih =>
    intro h
    unfold md_is
    rw [h b (by omega), ih (fun i hi => h i (by omega))]
theorem md_mk_congr {kd kd' : Nat → Int32} {j i : Nat} (h : ∀ q, q ≤ i → kd' (j * 200 + q) = kd (j * 200 + q)) : md_mk kd' j i = md_mk kd j i := by
  unfold md_mk
  rw [h i (Nat.le_refl _), md_is_congr (fun q hq => h q (by omega))]
/-- a meter here and there -/
def MI (j : Nat) (sl : Int32) (la : Int64) (tn : Nat) (ts : Nat → Int32) (ta tb : Nat → Int64) (key : Int64) (n : Nat) (nu st : Nat → Int64) (de : Nat → Int32) (su : Nat → Int64) (mk : Nat → Int32) (ky : Nat → Int64) (ro ln kd : Nat → Int32) (nb sc : Nat → Int64) (wa : Nat → Int32) (sm : Nat → Int64) (ld : Nat → Int32) (lo lw : Nat → Int64) : Prop :=
  (ky j = key ∧ ro j = nI n ∧ n ≤ 200 ∧ ln j = nI tn ∧ tn ≤ 16 ∧ sl = md_is kd j n) ∧
  (∀ q, q < tn → ld (j * 16 + q) = ts q ∧ lo (j * 16 + q) = ta q ∧ lw (j * 16 + q) = tb q ∧ (∃ a : Nat, 0 < a ∧ a ≤ 10000 ∧ ta q = lN a) ∧ ∃ b : Nat, 0 < b ∧ b ≤ 10000 ∧ tb q = lN b) ∧
  (∀ i, i < n → RV kd nb sc wa j i nu st de ∧ sm (j * 200 + i) = su i ∧ mk i = md_mk kd j i) ∧
  (∃ L : Nat, L ≤ 1000000000000 ∧ la = lN L ∧ (∀ i, i < n → kd (j * 200 + i) = 0 → sc (j * 200 + i) ≤ la) ∧ (L = 0 ∨ ∃ i, i < n ∧ kd (j * 200 + i) = 0 ∧ sc (j * 200 + i) = la)) ∧
  (∀ i, i < n → kd (j * 200 + i) = 0 → 0 < tn)
section MIc
variable {j : Nat} {sl : Int32} {la : Int64} {tn : Nat} {ts : Nat → Int32} {ta tb : Nat → Int64} {key : Int64} {n : Nat} {nu st : Nat → Int64} {de : Nat → Int32} {su : Nat → Int64} {mk : Nat → Int32} {ky : Nat → Int64} {ro ln kd : Nat → Int32} {nb sc : Nat → Int64} {wa : Nat → Int32} {sm : Nat → Int64} {ld : Nat → Int32} {lo lw : Nat → Int64}
variable {ky' : Nat → Int64} {ro' ln' kd' : Nat → Int32} {nb' sc' : Nat → Int64} {wa' : Nat → Int32} {sm' : Nat → Int64} {ld' : Nat → Int32} {lo' lw' : Nat → Int64}
theorem MI.congr (h : MI j sl la tn ts ta tb key n nu st de su mk ky ro ln kd nb sc wa sm ld lo lw) (h1 : ky' j = ky j) (h2 : ro' j = ro j) (h3 : ln' j = ln j)
    (h4 : ∀ i, i < 200 → kd' (j * 200 + i) = kd (j * 200 + i) ∧ nb' (j * 200 + i) = nb (j * 200 + i) ∧ sc' (j * 200 + i) = sc (j * 200 + i) ∧ wa' (j * 200 + i) = wa (j * 200 + i) ∧ sm' (j * 200 + i) = sm (j * 200 + i))
    (h5 : ∀ q, q < 16 → ld' (j * 16 + q) = ld (j * 16 + q) ∧ lo' (j * 16 + q) = lo (j * 16 + q) ∧ lw' (j * 16 + q) = lw (j * 16 + q)) : MI j sl la tn ts ta tb key n nu st de su mk ky' ro' ln' kd' nb' sc' wa' sm' ld' lo' lw' := by
  obtain ⟨⟨a1, a2, a3, a4, a5, a6⟩, b, c, ⟨L, d1, d2, d3, d4⟩, e⟩ := h
  have hk : ∀ i, i < n → kd' (j * 200 + i) = kd (j * 200 + i) := fun i hi => (h4 i (by omega)).1
  refine ⟨⟨h1.trans a1, h2.trans a2, a3, h3.trans a4, a5, ?_⟩, ?_, ?_, ⟨L, d1, d2, ?_, ?_⟩, ?_⟩
  · rw [a6, md_is_congr hk]
  · intro q hq
    obtain ⟨g1, g2, g3⟩ := h5 q (by omega)
    obtain ⟨f1, f2, f3, f4⟩ := b q hq
    exact ⟨g1.trans f1, g2.trans f2, g3.trans f3, f4⟩
  · intro i hi
    obtain ⟨g1, g2, g3, g4, g5⟩ := h4 i (by omega)
    obtain ⟨f1, f2, f3⟩ := c i hi
    refine ⟨?_, g5.trans f2, ?_⟩
    · unfold RV at f1 ⊢
      rw [g1, g2, g3, g4]
      exact f1
    · rw [f3, md_mk_congr (fun q hq => hk q (by omega))]
  · intro i hi h0
    obtain ⟨g1, g2, g3, g4, g5⟩ := h4 i (by omega)
    rw [g3]
    exact d3 i hi (by rw [← g1]; exact h0)
  · rcases d4 with d4 | ⟨i, hi, k0, k1⟩
    · exact Or.inl d4
    · obtain ⟨g1, g2, g3, g4, g5⟩ := h4 i (by omega)
      exact Or.inr ⟨i, hi, by rw [g1]; exact k0, by rw [g3]; exact k1⟩
  · intro i hi h0
    exact e i hi (by rw [← hk i hi]; exact h0)
end MIc
