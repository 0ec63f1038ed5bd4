/-! THE WRITERS: equal answers, and the states stay side by side -/
theorem i64_50 : (-50 : Int64).toInt = -50 := rfl
theorem wd50 (d : Int32) : f_within d.toInt64 (-50) 150 = 0 ↔ (d < -50 ∨ 150 < d) := by
  rw [within_0, Int64.lt_iff_toInt_lt, Int64.lt_iff_toInt_lt, Int32.lt_iff_toInt_lt, Int32.lt_iff_toInt_lt, Int32.toInt_toInt64]
  exact Iff.rfl
theorem wd999 (d : Int32) : f_within d.toInt64 1 999 = 0 ↔ (d < 1 ∨ 999 < d) := by
  rw [within_0, Int64.lt_iff_toInt_lt, Int64.lt_iff_toInt_lt, Int32.lt_iff_toInt_lt, Int32.lt_iff_toInt_lt, Int32.toInt_toInt64]
  exact Iff.rfl
theorem n200 {n : Nat} (hn : n ≤ 200) : 200 ≤ nI n ↔ n = 200 := by
  rw [show (200 : Int32) = nI 200 from rfl, nI_leI (by decide) (by omega)]
  omega
theorem t0 {t : Nat} (ht : t ≤ 16) : nI t ≤ 0 ↔ t = 0 := by
  rw [show (0 : Int32) = nI 0 from rfl, nI_leI (by omega) (by decide)]
  omega
theorem fits_iff {tn : Nat} {la nn ss : Int64} {dd : Int32} : ¬ f_fits tn la nn ss dd = 0 ↔ (¬ nI tn ≤ 0 ∧ ¬ f_within nn 0 1000000 = 0 ∧ ¬ f_within ss la 1000000000000 = 0 ∧ ¬ f_within dd.toInt64 (-50) 150 = 0) := by
  unfold f_fits
  by_cases h1 : nI tn ≤ 0
  · simp [h1]
  · by_cases h2 : f_within nn 0 1000000 = 0
    · simp [h1, h2]
    · by_cases h3 : f_within ss la 1000000000000 = 0
      · simp [h1, h2, h3]
      · by_cases h4 : f_within dd.toInt64 (-50) 150 = 0
        · simp [h1, h2, h3, h4]
        · simp [h1, h2, h3, h4]
theorem mdfit_iff {t n : Nat} {nn ss : Int64} {dd : Int32} : ¬ md_fit t nn ss dd n = 0 ↔ (¬ nI t ≤ 0 ∧ ¬ nn < 0 ∧ ¬ 1000000 < nn ∧ ¬ ss < 0 ∧ ¬ 1000000000000 < ss ∧ ¬ dd < -50 ∧ ¬ 150 < dd ∧ ¬ 200 ≤ nI n) := by
  unfold md_fit
  by_cases h1 : nI t ≤ 0
  · simp only [h1, if_true, not_true, false_and]
  · by_cases h2 : nn < 0
    · simp only [h1, h2, if_true, if_false, not_true, false_and, and_false]
    · by_cases h3 : 1000000 < nn
      · simp only [h1, h2, h3, if_true, if_false, not_true, false_and, and_false]
      · by_cases h4 : ss < 0
        · simp only [h1, h2, h3, h4, if_true, if_false, not_true, false_and, and_false]
        · by_cases h5 : 1000000000000 < ss
          · simp only [h1, h2, h3, h4, h5, if_true, if_false, not_true, false_and, and_false]
          · by_cases h6 : dd < -50
            · simp only [h1, h2, h3, h4, h5, h6, if_true, if_false, not_true, false_and, and_false]
            · by_cases h7 : 150 < dd
              · simp only [h1, h2, h3, h4, h5, h6, h7, if_true, if_false, not_true, false_and, and_false]
              · by_cases h8 : 200 ≤ nI n
                · simp only [h1, h2, h3, h4, h5, h6, h7, h8, if_true, if_false, not_true, false_and, and_false]
                · simp only [h1, h2, h3, h4, h5, h6, h7, h8, if_false, not_false_eq_true, and_self, iff_true]
                  decide
theorem okF_iff {kd : Nat → Int32} {sc : Nat → Int64} {ss : Int64} {j : Nat} : ∀ (k i : Nat), ¬ md_okF kd sc ss j k i = 0 ↔ ∀ q, i ≤ q → q < i + k → kd (j * 200 + q) = 0 → ¬ ss < sc (j * 200 + q) := by
  intro k
  induction k with
  | zero => intro i; exact ⟨fun _ q h1 h2 => by omega, fun _ => by unfold md_okF; decide⟩
  | succ k ih =>
    intro i
    unfold md_okF
    have step : (∀ q, i + 1 ≤ q → q < i + 1 + k → kd (j * 200 + q) = 0 → ¬ ss < sc (j * 200 + q)) → (kd (j * 200 + i) = 0 → ¬ ss < sc (j * 200 + i)) → ∀ q, i ≤ q → q < i + (k + 1) → kd (j * 200 + q) = 0 → ¬ ss < sc (j * 200 + q) := by
      intro h1 h2 q a b
      by_cases hq : q = i
      · rw [hq]; exact h2
      · exact h1 q (by omega) (by omega)
    by_cases h0 : kd (j * 200 + i) = 0
    · rw [if_pos h0]
      by_cases h1 : ss < sc (j * 200 + i)
      · rw [if_pos h1]
        exact ⟨fun z => absurd rfl z, fun z => absurd h1 (z i (Nat.le_refl _) (by omega) h0)⟩
      · rw [if_neg h1, ih]
        exact ⟨fun z => step z (fun _ => h1), fun z q a b => z q (by omega) (by omega)⟩
    · rw [if_neg h0, ih]
      exact ⟨fun z => step z (fun w => absurd w h0), fun z q a b => z q (by omega) (by omega)⟩
theorem rsfit_iff {n : Nat} {nn : Int64} : ¬ md_rsfit nn n = 0 ↔ (¬ nn < 0 ∧ ¬ 1000000000000 < nn ∧ ¬ 200 ≤ nI n) := by
  unfold md_rsfit
  by_cases h2 : nn < 0
  · simp only [h2, if_true, not_true, false_and]
  · by_cases h3 : 1000000000000 < nn
    · simp only [h2, h3, if_true, if_false, not_true, false_and, and_false]
    · by_cases h8 : 200 ≤ nI n
      · simp only [h2, h3, h8, if_true, if_false, not_true, and_false]
      · simp only [h2, h3, h8, if_false, not_false_eq_true, and_self, iff_true]
        decide
theorem tfit_iff {sl person set_ : Int32} : ¬ f_tfit sl person set_ = 0 ↔ (¬ person < 1 ∧ ¬ 999 < person ∧ ¬ sl = set_) := by
  unfold f_tfit
  by_cases h1 : f_within person.toInt64 1 999 = 0
  · rw [if_pos h1]
    exact ⟨fun z => absurd rfl z, fun z => absurd ((wd999 person).mp h1) (fun w => w.elim z.1 z.2.1)⟩
  · rw [if_neg h1]
    rw [wd999] at h1
    by_cases h2 : sl = set_
    · rw [if_pos h2]
      exact ⟨fun z => absurd rfl z, fun z => absurd h2 z.2.2⟩
    · rw [if_neg h2]
      exact ⟨fun _ => ⟨fun w => h1 (Or.inl w), fun w => h1 (Or.inr w), h2⟩, fun _ => by decide⟩
theorem sefit_iff {kd : Nat → Int32} {j n : Nat} {person set_ : Int32} : ¬ md_sefit kd j n person set_ = 0 ↔ (¬ person < 1 ∧ ¬ 999 < person ∧ ¬ 200 ≤ nI n ∧ ¬ md_is kd j n = set_) := by
  unfold md_sefit
  by_cases h1 : person < 1
  · simp only [h1, if_true, not_true, false_and]
  · by_cases h2 : 999 < person
    · simp only [h1, h2, if_true, if_false, not_true, false_and, and_false]
    · by_cases h3 : 200 ≤ nI n
      · simp only [h1, h2, h3, if_true, if_false, not_true, false_and, and_false]
      · by_cases h4 : md_is kd j n = set_
        · simp only [h1, h2, h3, h4, if_true, if_false, not_true, and_false]
        · simp only [h1, h2, h3, h4, if_false, not_false_eq_true, and_self, iff_true]
          decide
theorem rwfit_iff {d : Int32} {a b : Int64} : ¬ md_rwfit d a b = 0 ↔ (¬ f_within d.toInt64 (-50) 150 = 0 ∧ ¬ f_within a 1 10000 = 0 ∧ ¬ f_within b 1 10000 = 0) := by
  rw [wd50, within_0, within_0]
  unfold md_rwfit
  by_cases h1 : d < -50
  · simp only [h1, if_true, not_true, false_and, true_or]
  · by_cases h2 : 150 < d
    · simp only [h1, h2, if_true, if_false, not_true, false_and, or_true]
    · by_cases h3 : a < 1
      · simp only [h1, h2, h3, if_true, if_false, not_true, false_and, true_or, and_false]
      · by_cases h4 : 10000 < a
        · simp only [h1, h2, h3, h4, if_true, if_false, not_true, false_and, or_true, and_false]
        · by_cases h5 : b < 1
          · simp only [h1, h2, h3, h4, h5, if_true, if_false, not_true, true_or, and_false]
          · by_cases h6 : b ≤ 10000
            · have h7 : ¬ 10000 < b := Int64.not_lt.mpr h6
              simp only [h1, h2, h3, h4, h5, h6, h7, if_true, if_false, or_self, not_false_eq_true, and_self, iff_true]
              decide
            · have h7 : 10000 < b := Int64.not_le.mp h6
              simp only [h1, h2, h3, h4, h5, h6, h7, if_false, not_true, or_true, and_false]
theorem put_iff {tn : Nat} {ts : Nat → Int32} {d : Int32} {a b : Int64} : ¬ f_put tn ts d a b = 0 ↔ ((¬ f_within d.toInt64 (-50) 150 = 0 ∧ ¬ f_within a 1 10000 = 0 ∧ ¬ f_within b 1 10000 = 0) ∧ f_place tn ts d < 16) := by
  unfold f_put
  by_cases h1 : f_within d.toInt64 (-50) 150 = 0
  · simp only [h1, if_true, not_true, false_and]
  · by_cases h2 : f_within a 1 10000 = 0
    · simp only [h1, h2, if_true, if_false, not_true, false_and, and_false]
    · by_cases h3 : f_within b 1 10000 = 0
      · simp only [h1, h2, h3, if_true, if_false, not_true, false_and, and_false]
      · by_cases h4 : f_place tn ts d < 16
        · simp only [h1, h2, h3, h4, if_true, if_false, not_false_eq_true, and_self, iff_true]
          decide
        · simp only [h1, h2, h3, h4, if_false, not_true, and_false]
theorem place_eq {ld ts : Nat → Int32} {j t : Nat} {d : Int32} (hld : ∀ q, q < t → ld (j * 16 + q) = ts q) : ∀ (k i : Nat), i + k = t → md_plF ld j d t k i = f_placeF t ts d k i := by
  intro k
  induction k with
  | zero => intro i _; rfl
  | succ k ih =>
    intro i hi
    unfold md_plF f_placeF
    rw [hld i (by omega), ih (i + 1) (by omega)]
theorem lN_of {x : Int64} {M : Nat} (hM : M < 2 ^ 63) (h0 : ¬ x < 0) (h1 : ¬ lN M < x) : ∃ a : Nat, a ≤ M ∧ x = lN a := by
  obtain ⟨k, hk, rfl⟩ := pk_lOf h0
  refine ⟨k, ?_, rfl⟩
  rw [pk_lLT hM hk] at h1
  omega
theorem lN_of1 {x : Int64} {M : Nat} (hM : M < 2 ^ 63) (h0 : ¬ x < 1) (h1 : ¬ lN M < x) : ∃ a : Nat, 0 < a ∧ a ≤ M ∧ x = lN a := by
  have hz : ¬ x < 0 := fun z => h0 (by
    rw [Int64.lt_iff_toInt_lt] at z ⊢
    have e0 : (0 : Int64).toInt = 0 := rfl
    have e1 : (1 : Int64).toInt = 1 := rfl
    omega)
  obtain ⟨a, ha, rfl⟩ := lN_of hM hz h1
  refine ⟨a, ?_, ha, rfl⟩
  rw [show (1 : Int64) = lN 1 from rfl, pk_lLT (by omega) (by decide)] at h0
  omega
theorem poke_num {a : Nat} (ha : a ≤ 1000000) (b : Int64) : f_within b (-lN a) (1000000 - lN a) = (if b < -1000000 then 0 else if b ≤ 1000000 then (if lN a + b < 0 then 0 else if lN a + b ≤ 1000000 then 1 else 0) else 0) := by
  have e0 : (lN a).toInt = a := pk_lT (by omega)
  have e1 : (-lN a).toInt = -(a : Int) := by rw [Int64.toInt_neg, e0]; apply Int.bmod_eq_of_le <;> omega
  have e2 : ((1000000 : Int64) - lN a).toInt = 1000000 - (a : Int) := by rw [Int64.toInt_sub, e0, show (1000000 : Int64).toInt = 1000000 from rfl]; apply Int.bmod_eq_of_le <;> omega
  have z0 : (0 : Int64).toInt = 0 := rfl
  have z1 : (1000000 : Int64).toInt = 1000000 := rfl
  have z2 : (-1000000 : Int64).toInt = -1000000 := rfl
  unfold f_within
  simp only [Int64.lt_iff_toInt_lt, Int64.le_iff_toInt_le, e1, e2, z0, z1, z2]
  by_cases h1 : b.toInt < -1000000
  · rw [if_pos h1, if_pos (by omega)]
  · rw [if_neg h1]
    by_cases h2 : b.toInt ≤ 1000000
    · rw [if_pos h2]
      have e3 : (lN a + b).toInt = (a : Int) + b.toInt := by rw [Int64.toInt_add, e0]; apply Int.bmod_eq_of_le <;> omega
      rw [e3]
      by_cases h3 : (a : Int) + b.toInt < 0
      · rw [if_pos h3, if_pos (by omega)]
      · rw [if_neg h3, if_neg (by omega)]
        by_cases h4 : (a : Int) + b.toInt ≤ 1000000
        · rw [if_pos h4, if_neg (by omega)]
        · rw [if_neg h4, if_pos (by omega)]
    · rw [if_neg h2]
      by_cases h3 : b.toInt < -(a : Int)
      · rw [if_pos h3]
      · rw [if_neg h3, if_pos (by omega)]
theorem poke_val {a : Nat} (ha : a ≤ 1000000) {b : Int64} (h : ¬ f_within b (-lN a) (1000000 - lN a) = 0) : ∃ c : Nat, c ≤ 1000000 ∧ lN a + b = lN c := by
  rw [poke_num ha] at h
  by_cases h1 : b < -1000000
  · rw [if_pos h1] at h; exact absurd rfl h
  · rw [if_neg h1] at h
    by_cases h2 : b ≤ 1000000
    · rw [if_pos h2] at h
      by_cases h3 : lN a + b < 0
      · rw [if_pos h3] at h; exact absurd rfl h
      · rw [if_neg h3] at h
        by_cases h4 : lN a + b ≤ 1000000
        · exact lN_of (M := 1000000) (by decide) h3 (Int64.not_lt.mpr h4)
        · rw [if_neg h4] at h; exact absurd rfl h
    · rw [if_neg h2] at h; exact absurd rfl h
section EQD
variable {j : Nat} {sl : Int32} {la : Int64} {tn : Nat} {ts : Nat → Int32} {ta tb : Nat → Int64} {key : Int64} {n : Nat} {nu st : Nat → Int64} {de : Nat → Int32} {su : Nat → Int64} {mk : Nat → Int32} {ky : Nat → Int64} {ro ln kd : Nat → Int32} {nb sc : Nat → Int64} {wa : Nat → Int32} {sm : Nat → Int64} {ld : Nat → Int32} {lo lw : Nat → Int64}
theorem MI.fit (h : MI j sl la tn ts ta tb key n nu st de su mk ky ro ln kd nb sc wa sm ld lo lw) {nn ss : Int64} {dd : Int32} : (¬ f_fits tn la nn ss dd = 0 ∧ ¬ n = 200) ↔ (¬ md_fit tn nn ss dd n = 0 ∧ ¬ md_ok kd sc ss j n = 0) := by
  have hn := h.1.2.2.1
  unfold md_ok
  rw [fits_iff, mdfit_iff, okF_iff, wd50, within_0, within_0, n200 hn]
  obtain ⟨L, hL, e, hall, hmax⟩ := h.2.2.2.1
  constructor
  · rintro ⟨⟨a1, a2, a3, a4⟩, a5⟩
    have hla : la ≤ ss := Int64.not_lt.mp (fun z => a3 (Or.inl z))
    refine ⟨⟨a1, fun z => a2 (Or.inl z), fun z => a2 (Or.inr z), fun z => ?_, fun z => a3 (Or.inr z), fun z => a4 (Or.inl z), fun z => a4 (Or.inr z), a5⟩, fun q _ hq h0 => Int64.not_lt.mpr (Int64.le_trans (hall q (by omega) h0) hla)⟩
    have h2 : (0 : Int64) ≤ la := by rw [e]; exact (pk_lLE (a := 0) (by decide) (by omega)).mpr (by omega)
    exact absurd z (Int64.not_lt.mpr (Int64.le_trans h2 hla))
  · rintro ⟨⟨a1, a2, a3, a4, a5, a6, a7, a8⟩, a9⟩
    refine ⟨⟨a1, fun z => z.elim a2 a3, fun z => z.elim (fun z => ?_) a5, fun z => z.elim a6 a7⟩, a8⟩
    rcases hmax with h0 | ⟨i, hi, k0, k1⟩
    · subst h0
      rw [e] at z
      exact a4 z
    · exact a9 i (by omega) (by omega) k0 (by rw [k1]; exact z)
theorem MI.fitR (h : MI j sl la tn ts ta tb key n nu st de su mk ky ro ln kd nb sc wa sm ld lo lw) {nn : Int64} : (¬ f_within nn 0 1000000000000 = 0 ∧ ¬ n = 200) ↔ ¬ md_rsfit nn n = 0 := by
  rw [rsfit_iff, within_0, n200 h.1.2.2.1]
  exact ⟨fun ⟨a, b⟩ => ⟨fun z => a (Or.inl z), fun z => a (Or.inr z), b⟩, fun ⟨a, b, c⟩ => ⟨fun z => z.elim a b, c⟩⟩
theorem MI.fitS (h : MI j sl la tn ts ta tb key n nu st de su mk ky ro ln kd nb sc wa sm ld lo lw) {person set_ : Int32} : (¬ f_tfit sl person set_ = 0 ∧ ¬ n = 200) ↔ ¬ md_sefit kd j n person set_ = 0 := by
  rw [tfit_iff, sefit_iff, n200 h.1.2.2.1, ← h.1.2.2.2.2.2]
  exact ⟨fun ⟨⟨a, b, c⟩, d⟩ => ⟨a, b, d, c⟩, fun ⟨a, b, d, c⟩ => ⟨⟨a, b, c⟩, d⟩⟩
theorem MI.sl01 (h : MI j sl la tn ts ta tb key n nu st de su mk ky ro ln kd nb sc wa sm ld lo lw) : sl = 0 ∨ sl = 1 := by
  rw [h.1.2.2.2.2.2]; exact md_is01 kd j n
theorem MI.add (h : MI j sl la tn ts ta tb key n nu st de su mk ky ro ln kd nb sc wa sm ld lo lw) (hn : n < 200) {kk : Int32} {nn ss : Int64} {dd : Int32} {stv : Int64} {dev mkv sl' : Int32} {la' : Int64}
    (hrow : (kk = 0 ∧ stv = ss ∧ dev = dd ∧ (∃ a : Nat, a ≤ 1000000 ∧ nn = lN a) ∧ ∃ b : Nat, b ≤ 1000000000000 ∧ ss = lN b) ∨ (((kk = 1 ∧ stv = -1) ∨ (kk = 2 ∧ stv = -2) ∨ (kk = 3 ∧ stv = -3)) ∧ dev = 0 ∧ (∃ a : Nat, a ≤ 1000000000000 ∧ nn = lN a) ∧ ss = 0))
    (hmk : mkv = if kk = 2 then 1 else if kk = 3 then 1 else if sl = 0 then 1 else 0) (hsl : sl' = md_st kk sl) (hla : (kk = 0 ∧ la' = ss ∧ la ≤ ss) ∨ (¬ kk = 0 ∧ la' = la)) (hrd : kk = 0 → 0 < tn) :
    MI j sl' la' tn ts ta tb key (n + 1) (vp_updL nu n nn) (vp_updL st n stv) (upd de n dev) (vp_updL su n (f_due key (n + 1) (vp_updL nu n nn) (vp_updL st n stv) (upd de n dev) su (nI n))) (upd mk n mkv)
      ky (upd ro j (nI (n + 1))) ln (upd kd (j * 200 + n) kk) (vp_updL nb (j * 200 + n) nn) (vp_updL sc (j * 200 + n) ss) (upd wa (j * 200 + n) dd) (vp_updL sm (j * 200 + n) (md_due ky (upd kd (j * 200 + n) kk) (vp_updL nb (j * 200 + n) nn) (vp_updL sc (j * 200 + n) ss) (upd wa (j * 200 + n) dd) sm j n)) ld lo lw := by
  obtain ⟨⟨a1, a2, a3, a4, a5, a6⟩, b, c, ⟨L, d1, d2, d3, d4⟩, e⟩ := h
  have hk : ∀ q, q < n → upd kd (j * 200 + n) kk (j * 200 + q) = kd (j * 200 + q) := fun q hq => pk_un (by omega)
  have hs : ∀ q, q < n → vp_updL sc (j * 200 + n) ss (j * 200 + q) = sc (j * 200 + q) := fun q hq => pk_uLn (by omega)
  have his : md_is (upd kd (j * 200 + n) kk) j n = sl := by rw [a6]; exact md_is_congr hk
  have hnew : RV (upd kd (j * 200 + n) kk) (vp_updL nb (j * 200 + n) nn) (vp_updL sc (j * 200 + n) ss) (upd wa (j * 200 + n) dd) j n (vp_updL nu n nn) (vp_updL st n stv) (upd de n dev) := by
    unfold RV
    rw [pk_us, pk_us, pk_us, pk_uLs, pk_uLs, pk_uLs, pk_uLs]
    exact ⟨rfl, hrow⟩
  refine ⟨⟨a1, pk_us, by omega, a4, a5, ?_⟩, b, ?_, ?_, ?_⟩
  · unfold md_is
    rw [pk_us, his, hsl]
  · intro i hi
    by_cases hq : i = n
    · subst hq
      refine ⟨hnew, ?_, ?_⟩
      · rw [pk_uLs, pk_uLs]
        exact (due_eq hnew (by omega) (by omega) a1 (fun q hq => (c q (by omega)).2.1)).symm
      · rw [pk_us, hmk]
        unfold md_mk
        rw [pk_us, his]
    · obtain ⟨f1, f2, f3⟩ := c i (by omega)
      refine ⟨?_, ?_, ?_⟩
      · unfold RV at f1 ⊢
        rw [hk i (by omega), hs i (by omega), pk_uLn (show j * 200 + i ≠ j * 200 + n by omega), pk_un (show j * 200 + i ≠ j * 200 + n by omega), pk_uLn hq, pk_uLn hq, pk_un hq]
        exact f1
      · rw [pk_uLn (show j * 200 + i ≠ j * 200 + n by omega), pk_uLn hq]
        exact f2
      · rw [pk_un hq, f3, md_mk_congr (fun q hq => hk q (by omega))]
  · rcases hla with ⟨k0, rfl, k2⟩ | ⟨k0, rfl⟩
    · rcases hrow with ⟨-, -, -, -, bb, hbb, hss⟩ | ⟨z, -⟩
      · refine ⟨bb, hbb, hss, fun i hi h0 => ?_, Or.inr ⟨n, by omega, by rw [pk_us]; exact k0, pk_uLs⟩⟩
        by_cases hq : i = n
        · subst hq
          rw [pk_uLs]
          exact Int64.le_refl _
        · rw [hk i (by omega)] at h0
          rw [hs i (by omega)]
          exact Int64.le_trans (d3 i (by omega) h0) k2
      · rcases z with ⟨z, -⟩ | ⟨z, -⟩ | ⟨z, -⟩ <;> rw [k0] at z <;> exact absurd z (by decide)
    · refine ⟨L, d1, d2, fun i hi h0 => ?_, ?_⟩
      · by_cases hq : i = n
        · subst hq
          rw [pk_us] at h0
          exact absurd h0 k0
        · rw [hk i (by omega)] at h0
          rw [hs i (by omega)]
          exact d3 i (by omega) h0
      · rcases d4 with d4 | ⟨i, hi, x0, x1⟩
        · exact Or.inl d4
        · exact Or.inr ⟨i, by omega, by rw [hk i hi]; exact x0, by rw [hs i hi]; exact x1⟩
  · intro i hi h0
    by_cases hq : i = n
    · subst hq
      rw [pk_us] at h0
      exact hrd h0
    · rw [hk i (by omega)] at h0
      exact e i (by omega) h0
theorem MI.addP (h : MI j sl la tn ts ta tb key n nu st de su mk ky ro ln kd nb sc wa sm ld lo lw) {nn ss : Int64} {dd : Int32} (hn : n < 200) (hf : ¬ f_fits tn la nn ss dd = 0) :
    MI j sl ss tn ts ta tb key (n + 1) (vp_updL nu n nn) (vp_updL st n ss) (upd de n dd) (vp_updL su n (f_due key (n + 1) (vp_updL nu n nn) (vp_updL st n ss) (upd de n dd) su (nI n))) (upd mk n (if sl = 0 then 1 else 0))
      ky (upd ro j (nI (n + 1))) ln (upd kd (j * 200 + n) 0) (vp_updL nb (j * 200 + n) nn) (vp_updL sc (j * 200 + n) ss) (upd wa (j * 200 + n) dd) (vp_updL sm (j * 200 + n) (md_due ky (upd kd (j * 200 + n) 0) (vp_updL nb (j * 200 + n) nn) (vp_updL sc (j * 200 + n) ss) (upd wa (j * 200 + n) dd) sm j n)) ld lo lw := by
  have hf' := (h.fit.mp ⟨hf, by omega⟩).1
  rw [mdfit_iff] at hf'
  obtain ⟨b1, b2, b3, b4, b5, -⟩ := hf'
  obtain ⟨c1, c2, c3, c4⟩ := fits_iff.mp hf
  rw [within_0] at c3
  refine h.add hn (Or.inl ⟨rfl, rfl, rfl, lN_of (M := 1000000) (by decide) b2 b3, lN_of (M := 1000000000000) (by decide) b4 b5⟩) rfl ?_ (Or.inl ⟨rfl, rfl, Int64.not_lt.mp (fun z => c3 (Or.inl z))⟩) (fun _ => ?_)
  · rcases h.sl01 with rfl | rfl <;> rfl
  · rw [t0 h.1.2.2.2.2.1] at b1
    omega
theorem MI.addR (h : MI j sl la tn ts ta tb key n nu st de su mk ky ro ln kd nb sc wa sm ld lo lw) {nn : Int64} (hn : n < 200) (hf : ¬ f_within nn 0 1000000000000 = 0) :
    MI j sl la tn ts ta tb key (n + 1) (vp_updL nu n nn) (vp_updL st n (-1)) (upd de n 0) (vp_updL su n (f_due key (n + 1) (vp_updL nu n nn) (vp_updL st n (-1)) (upd de n 0) su (nI n))) (upd mk n (if sl = 0 then 1 else 0))
      ky (upd ro j (nI (n + 1))) ln (upd kd (j * 200 + n) 1) (vp_updL nb (j * 200 + n) nn) (vp_updL sc (j * 200 + n) 0) (upd wa (j * 200 + n) 0) (vp_updL sm (j * 200 + n) (md_due ky (upd kd (j * 200 + n) 1) (vp_updL nb (j * 200 + n) nn) (vp_updL sc (j * 200 + n) 0) (upd wa (j * 200 + n) 0) sm j n)) ld lo lw := by
  rw [within_0] at hf
  refine h.add hn (Or.inr ⟨Or.inl ⟨rfl, rfl⟩, rfl, lN_of (M := 1000000000000) (by decide) (fun z => hf (Or.inl z)) (fun z => hf (Or.inr z)), rfl⟩) rfl ?_ (Or.inr ⟨by decide, rfl⟩) (fun z => absurd z (by decide))
  rcases h.sl01 with rfl | rfl <;> rfl
theorem MI.addS (h : MI j sl la tn ts ta tb key n nu st de su mk ky ro ln kd nb sc wa sm ld lo lw) {person set_ : Int32} (hn : n < 200) (hset : set_ = 0 ∨ set_ = 1) (hf : ¬ f_tfit sl person set_ = 0) :
    MI j set_ la tn ts ta tb key (n + 1) (vp_updL nu n person.toInt64) (vp_updL st n (if set_ = 0 then -2 else -3)) (upd de n 0) (vp_updL su n (f_due key (n + 1) (vp_updL nu n person.toInt64) (vp_updL st n (if set_ = 0 then -2 else -3)) (upd de n 0) su (nI n))) (upd mk n 1)
      ky (upd ro j (nI (n + 1))) ln (upd kd (j * 200 + n) (if set_ = 0 then 2 else 3)) (vp_updL nb (j * 200 + n) person.toInt64) (vp_updL sc (j * 200 + n) 0) (upd wa (j * 200 + n) 0) (vp_updL sm (j * 200 + n) (md_due ky (upd kd (j * 200 + n) (if set_ = 0 then 2 else 3)) (vp_updL nb (j * 200 + n) person.toInt64) (vp_updL sc (j * 200 + n) 0) (upd wa (j * 200 + n) 0) sm j n)) ld lo lw := by
  obtain ⟨b1, b2, -⟩ := tfit_iff.mp hf
  have hp : ∃ a : Nat, a ≤ 1000000000000 ∧ person.toInt64 = lN a := by
    have h0 : ¬ person < 0 := fun z => b1 (by
      rw [Int32.lt_iff_toInt_lt] at z ⊢
      have e0 : (0 : Int32).toInt = 0 := rfl
      have e1 : (1 : Int32).toInt = 1 := rfl
      omega)
    obtain ⟨q, hq, rfl⟩ := nI_of h0
    exact ⟨q, by omega, nI_l hq⟩
  refine h.add hn (Or.inr ⟨?_, rfl, hp, rfl⟩) ?_ ?_ (Or.inr ⟨?_, rfl⟩) (fun z => ?_)
  · rcases hset with rfl | rfl
    · exact Or.inr (Or.inl ⟨rfl, rfl⟩)
    · exact Or.inr (Or.inr ⟨rfl, rfl⟩)
  · rcases hset with rfl | rfl <;> rfl
  · rcases hset with rfl | rfl <;> rfl
  · rcases hset with rfl | rfl <;> decide
  · exfalso
    rcases hset with rfl | rfl <;> exact absurd z (by decide)
theorem MI.poke_eq (h : MI j sl la tn ts ta tb key n nu st de su mk ky ro ln kd nb sc wa sm ld lo lw) {i : Nat} (hi : i < n) (b : Int64) : f_poke n nu st (nI i) b = md_poke kd nb j i b := by
  unfold f_poke md_poke
  rw [h.isR hi]
  by_cases h0 : kd (j * 200 + i) = 0
  · obtain ⟨-, -, ⟨a, ha, e⟩, -⟩ := h.stR hi h0
    have hp : f_pul n nu st (nI i) = lN a := by unfold f_pul; rw [h.isR hi, if_pos h0, if_neg (by decide), nI_clamp (by have := h.1.2.2.1; omega), e]
    rw [if_pos h0, if_neg (show ¬ (1 : Int32) = 0 by decide), if_pos h0, hp, poke_num ha, (h.2.2.1 i hi).1.1, e]
  · rw [if_neg h0, if_pos (show (0 : Int32) = 0 from rfl), if_neg h0]
theorem MI.poke (h : MI j sl la tn ts ta tb key n nu st de su mk ky ro ln kd nb sc wa sm ld lo lw) {i : Nat} (hi : i < n) {b : Int64} (hp : ¬ f_poke n nu st (nI i) b = 0) :
    MI j sl la tn ts ta tb key n (vp_updL nu (nI i).toNatClampNeg (f_pul n nu st (nI i) + b)) st de su mk ky ro ln kd (vp_updL nb (j * 200 + i) (nb (j * 200 + i) + b)) sc wa sm ld lo lw := by
  have hn := h.1.2.2.1
  have hcl : (nI i).toNatClampNeg = i := nI_clamp (by omega)
  unfold f_poke at hp
  rw [h.isR hi] at hp
  by_cases h0 : kd (j * 200 + i) = 0
  · obtain ⟨-, -, ⟨a, ha, e⟩, -⟩ := h.stR hi h0
    have hpu : f_pul n nu st (nI i) = lN a := by unfold f_pul; rw [h.isR hi, if_pos h0, if_neg (by decide), hcl, e]
    rw [if_pos h0, if_neg (show ¬ (1 : Int32) = 0 by decide), hpu] at hp
    obtain ⟨cc, hcc, ec⟩ := poke_val ha hp
    rw [hcl, hpu, (h.2.2.1 i hi).1.1, e, ec]
    obtain ⟨a1, b1, c1, d1, e1⟩ := h
    refine ⟨a1, b1, fun q hq => ?_, d1, e1⟩
    obtain ⟨f1, f2, f3⟩ := c1 q hq
    refine ⟨?_, f2, f3⟩
    by_cases hqi : q = i
    · subst hqi
      unfold RV at f1 ⊢
      rw [pk_uLs, pk_uLs]
      rcases f1.2 with ⟨g1, g2, g3, g4, g5⟩ | ⟨g1, -⟩
      · exact ⟨rfl, Or.inl ⟨g1, g2, g3, ⟨cc, hcc, rfl⟩, g5⟩⟩
      · rcases g1 with ⟨z, -⟩ | ⟨z, -⟩ | ⟨z, -⟩ <;> rw [h0] at z <;> exact absurd z (by decide)
    · unfold RV at f1 ⊢
      rw [pk_uLn (show j * 200 + q ≠ j * 200 + i by omega), pk_uLn hqi]
      exact f1
  · rw [if_neg h0, if_pos (show (0 : Int32) = 0 from rfl)] at hp
    exact absurd rfl hp
theorem MI.place (h : MI j sl la tn ts ta tb key n nu st de su mk ky ro ln kd nb sc wa sm ld lo lw) (d : Int32) : md_pl ld j d tn = f_place tn ts d := place_eq (fun q hq => (h.2.1 q hq).1) tn 0 (by omega)
theorem max_eq {tn p : Nat} (ht : tn ≤ 16) (hp : p ≤ tn) : f_max (nI tn) (nI p + 1) = nI (if p = tn then tn + 1 else tn) := by
  unfold f_max
  rw [nI_1]
  by_cases h : p = tn
  · rw [if_pos h, h, if_pos (nI_lt (by omega) (by omega))]
  · rw [if_neg h, if_neg (nI_nlt (by omega) (by omega))]
theorem MI.line (h : MI j sl la tn ts ta tb key n nu st de su mk ky ro ln kd nb sc wa sm ld lo lw) {d : Int32} {a b : Int64} {p : Nat} (hp : p ≤ tn) (hp16 : p < 16) (ha : ¬ f_within a 1 10000 = 0) (hb : ¬ f_within b 1 10000 = 0) :
    MI j sl la (if p = tn then tn + 1 else tn) (upd ts p d) (vp_updL ta p a) (vp_updL tb p b) key n nu st de su mk ky ro (upd ln j (nI (if p = tn then tn + 1 else tn))) kd nb sc wa sm (upd ld (j * 16 + p) d) (vp_updL lo (j * 16 + p) a) (vp_updL lw (j * 16 + p) b) := by
  obtain ⟨⟨a1, a2, a3, a4, a5, a6⟩, b1, c1, d1, e1⟩ := h
  rw [within_0] at ha hb
  have hge : tn ≤ (if p = tn then tn + 1 else tn) := by split <;> omega
  have hle : (if p = tn then tn + 1 else tn) ≤ 16 := by split <;> omega
  have hlt : ∀ q, q < (if p = tn then tn + 1 else tn) → q = p ∨ q < tn := by intro q; split <;> omega
  generalize (if p = tn then tn + 1 else tn) = t' at hge hle hlt ⊢
  refine ⟨⟨a1, a2, a3, pk_us, hle, a6⟩, fun q hq => ?_, c1, d1, fun i hi h0 => Nat.lt_of_lt_of_le (e1 i hi h0) hge⟩
  by_cases hqp : q = p
  · subst hqp
    rw [pk_us, pk_us, pk_uLs, pk_uLs, pk_uLs, pk_uLs]
    exact ⟨rfl, rfl, rfl, lN_of1 (M := 10000) (by decide) (fun z => ha (Or.inl z)) (fun z => ha (Or.inr z)), lN_of1 (M := 10000) (by decide) (fun z => hb (Or.inl z)) (fun z => hb (Or.inr z))⟩
  · rw [pk_un hqp, pk_un (show j * 16 + q ≠ j * 16 + p by omega), pk_uLn hqp, pk_uLn hqp, pk_uLn (show j * 16 + q ≠ j * 16 + p by omega), pk_uLn (show j * 16 + q ≠ j * 16 + p by omega)]
    exact b1 q ((hlt q hq).resolve_left hqp)
/-- a new meter -/
theorem MI.fresh {j : Nat} {key : Int64} {ky : Nat → Int64} {ro ln kd : Nat → Int32} {nb sc : Nat → Int64} {wa : Nat → Int32} {sm : Nat → Int64} {ld : Nat → Int32} {lo lw : Nat → Int64} (hk : ky j = key) (hro : ro j = 0) (hln : ln j = 0) {ts de mk : Nat → Int32} {ta tb nu st su : Nat → Int64} : MI j 1 0 0 ts ta tb key 0 nu st de su mk ky ro ln kd nb sc wa sm ld lo lw :=
  ⟨⟨hk, hro, Nat.zero_le _, hln, Nat.zero_le _, rfl⟩, fun q h => absurd h (Nat.not_lt_zero _), fun q h => absurd h (Nat.not_lt_zero _), ⟨0, Nat.zero_le _, rfl, fun q h => absurd h (Nat.not_lt_zero _), Or.inl rfl⟩, fun q h => absurd h (Nat.not_lt_zero _)⟩
end EQD
