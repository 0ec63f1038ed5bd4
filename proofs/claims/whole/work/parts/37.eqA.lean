/-! EQUAL ANSWERS: check, marked, gap -/
section EQA
variable {j : Nat} {sl : Int32} {la : Int64} {tn : Nat} {ts : Nat → Int32} {ta tb : Nat → Int64} {key : Int64} {n : Nat} {nu st : Nat → Int64} {de : Nat → Int32} {su : Nat → Int64} {mk : Nat → Int32} {ky : Nat → Int64} {ro ln kd : Nat → Int32} {nb sc : Nat → Int64} {wa : Nat → Int32} {sm : Nat → Int64} {ld : Nat → Int32} {lo lw : Nat → Int64}
theorem MI.due (h : MI j sl la tn ts ta tb key n nu st de su mk ky ro ln kd nb sc wa sm ld lo lw) {i : Nat} (hi : i < n) : f_due key n nu st de su (nI i) = md_due ky kd nb sc wa sm j i :=
  due_eq (h.2.2.1 i hi).1 hi h.1.2.2.1 h.1.1 (fun q hq => (h.2.2.1 q (by omega)).2.1)
theorem MI.wrongF (h : MI j sl la tn ts ta tb key n nu st de su mk ky ro ln kd nb sc wa sm ld lo lw) : ∀ (k i : Nat), i + k = n → f_wrongF key n nu st de su k i = md_wrF ky kd nb sc wa sm j k i := by
  intro k
  induction k with
  | zero => intro i _; rfl
  | succ k ih =>
    intro i hi
    unfold f_wrongF md_wrF
    rw [h.due (show i < n by omega), (h.2.2.1 i (by omega)).2.1, ih (i + 1) (by omega)]
theorem MI.wrong (h : MI j sl la tn ts ta tb key n nu st de su mk ky ro ln kd nb sc wa sm ld lo lw) (frm : Int32) : f_wrong key n nu st de su frm = md_wr ky kd nb sc wa sm j n frm := by
  unfold f_wrong md_wr
  split
  · rfl
  · rename_i h0
    split
    · rename_i h1
      obtain ⟨q, hq, rfl⟩ := nI_of h0
      have hle := (nI_leI hq (by have := h.1.2.2.1; omega)).mp h1
      rw [nI_clamp hq]
      exact h.wrongF _ _ (by omega)
    · rfl
theorem MI.mark (h : MI j sl la tn ts ta tb key n nu st de su mk ky ro ln kd nb sc wa sm ld lo lw) {i : Nat} (hi : i < n) : f_mark n mk (nI i) = if md_mk kd j i = 0 then 0 else 1 := by
  unfold f_mark
  rw [if_neg (holds_nI hi h.1.2.2.1), nI_clamp (by have := h.1.2.2.1; omega), (h.2.2.1 i hi).2.2]
theorem mark_out {row : Int32} (h : f_holds (nI n) row = 0) : f_mark n mk row = 0 := by
  unfold f_mark
  rw [if_pos h]
theorem MI.isR (h : MI j sl la tn ts ta tb key n nu st de su mk ky ro ln kd nb sc wa sm ld lo lw) {i : Nat} (hi : i < n) : f_isR n st (nI i) = if kd (j * 200 + i) = 0 then 1 else 0 := isR_eq (h.2.2.1 i hi).1 hi h.1.2.2.1
theorem MI.stR (h : MI j sl la tn ts ta tb key n nu st de su mk ky ro ln kd nb sc wa sm ld lo lw) {i : Nat} (hi : i < n) (h0 : kd (j * 200 + i) = 0) : st i = sc (j * 200 + i) ∧ de i = wa (j * 200 + i) ∧ (∃ a : Nat, a ≤ 1000000 ∧ nu i = lN a) ∧ ∃ b : Nat, b ≤ 1000000000000 ∧ sc (j * 200 + i) = lN b := by
  rcases (h.2.2.1 i hi).1.2 with ⟨-, a⟩ | ⟨a, -⟩
  · exact a
  · rw [h0] at a
    rcases a with ⟨z, -⟩ | ⟨z, -⟩ | ⟨z, -⟩ <;> exact absurd z (by decide)
theorem mins_eq (v : Int64) : f_mins v = if 2147483647 ≤ v / 60 then (2147483647 : Int64).toInt32 else (v / 60).toInt32 := by
  unfold f_mins
  rcases lg_tri 2147483647 (v / 60) with h | h | h
  · rw [if_pos h, if_pos (Int64.le_of_lt h)]
  · rw [if_neg (by rw [← h]; decide), ← h, if_pos (by decide)]
  · rw [if_neg (lg_lt_not h), if_neg (lg_lt_not_le h)]
theorem MI.gapF (h : MI j sl la tn ts ta tb key n nu st de su mk ky ro ln kd nb sc wa sm ld lo lw) (hj : j < 8) (what : Int32) (K : Nat) (hK : K < 2 ^ 31) : ∀ (k i ct : Nat) (b : Int64) (last : Int32), i + k = n → ct ≤ K → ct ≤ i →
    ((b = -1 ∧ last = -1) ∨ ∃ q, q < i ∧ last = nI (j * 200 + q) ∧ b = sc (j * 200 + q) ∧ 0 ≤ b) → f_gapF n st what k i b (nI (K - ct)) = md_gapF kd sc j (nI K) what k i ct last := by
  intro k
  induction k with
  | zero => intro i ct b last _ _ _ _; rfl
  | succ k ih =>
    intro i ct b last hi hct hci hb
    have hin : i < n := by omega
    have hn := h.1.2.2.1
    unfold f_gapF md_gapF
    rw [h.isR hin]
    by_cases h0 : kd (j * 200 + i) = 0
    · rw [if_pos h0, if_pos h0, if_neg (by decide)]
      obtain ⟨hst, -, -, bb, hbb, hsc⟩ := h.stR hin h0
      rw [hst]
      have hnn : (0 : Int64) ≤ sc (j * 200 + i) := by rw [hsc]; exact (pk_lLE (a := 0) (by decide) (by omega)).mpr (by omega)
      have hnx : (sc (j * 200 + i) = -1 ∧ nI (j * 200 + i) = -1) ∨ ∃ q, q < i + 1 ∧ nI (j * 200 + i) = nI (j * 200 + q) ∧ sc (j * 200 + i) = sc (j * 200 + q) ∧ 0 ≤ sc (j * 200 + i) := Or.inr ⟨i, by omega, rfl, rfl, hnn⟩
      rcases hb with ⟨rfl, rfl⟩ | ⟨q, hq, rfl, rfl, hb0⟩
      · rw [if_neg (by decide), if_pos rfl]
        exact ih (i + 1) ct _ _ (by omega) hct (by omega) hnx
      · have hl : ¬ nI (j * 200 + q) = -1 := by
          intro z
          have := nI_pos (n := j * 200 + q) (by omega)
          rw [z] at this
          exact this (by decide)
        rw [if_pos hb0, if_neg hl, nI_clamp (show j * 200 + q < 2 ^ 31 by omega)]
        by_cases h36 : 3600 < sc (j * 200 + i) - sc (j * 200 + q)
        · rw [if_pos h36, if_neg (lg_lt_not_le h36)]
          by_cases he : ct = K
          · rw [if_pos (show nI (K - ct) = 0 by rw [he, Nat.sub_self]; rfl), if_pos (show nI ct = nI K by rw [he])]
            by_cases hw : what = 0
            · rw [if_pos hw, if_pos hw]
            · rw [if_neg hw, if_neg hw, mins_eq]
          · rw [if_neg (nI_ne0 (by omega) (by omega)), if_neg (fun z => he ((nI_eq (by omega) hK).mp z))]
            have e : nI (K - ct) - 1 = nI (K - (ct + 1)) := by rw [nI_sub1 (by omega)]; rfl
            rw [e]
            exact ih (i + 1) (ct + 1) _ _ (by omega) (by omega) (by omega) hnx
        · rw [if_neg h36, if_pos (Int64.not_lt.mp h36)]
          exact ih (i + 1) ct _ _ (by omega) hct (by omega) hnx
    · rw [if_neg h0, if_neg h0, if_pos rfl]
      exact ih (i + 1) ct b last (by omega) hct (by omega) (hb.imp id (fun ⟨q, a, c⟩ => ⟨q, by omega, c⟩))
theorem what_or {w : Int32} (h0 : ¬ w < 0) (h1 : w ≤ 1) : w = 0 ∨ w = 1 := by
  obtain ⟨q, hq, rfl⟩ := nI_of h0
  have := (nI_leI (b := 1) hq (by decide)).mp h1
  rcases (show q = 0 ∨ q = 1 by omega) with rfl | rfl
  · exact Or.inl rfl
  · exact Or.inr rfl
theorem MI.gap (h : MI j sl la tn ts ta tb key n nu st de su mk ky ro ln kd nb sc wa sm ld lo lw) (hj : j < 8) (kk what : Int32) : f_rgap n st kk what = md_gap kd sc j n kk what := by
  unfold f_rgap md_gap f_gap
  by_cases hk : kk < 0
  · rw [if_pos hk, if_pos hk]
  · rw [if_neg hk, if_neg hk]
    obtain ⟨K, hK, rfl⟩ := nI_of hk
    have key := h.gapF hj what K hK n 0 0 (-1) (-1) (by omega) (by omega) (by omega) (Or.inl ⟨rfl, rfl⟩)
    rw [Nat.sub_zero] at key
    by_cases h0 : what < 0
    · rw [if_pos h0, if_neg (fun z => by rw [z] at h0; exact absurd h0 (by decide)), if_neg (fun z => by rw [z] at h0; exact absurd h0 (by decide))]
    · rw [if_neg h0]
      by_cases h1 : what ≤ 1
      · rw [if_pos h1]
        rcases what_or h0 h1 with rfl | rfl
        · rw [if_pos rfl]; exact key
        · rw [if_neg (by decide), if_pos rfl]; exact key
      · rw [if_neg h1, if_neg (fun z => by rw [z] at h1; exact absurd (by decide) h1), if_neg (fun z => by rw [z] at h1; exact absurd (by decide) h1)]
end EQA
