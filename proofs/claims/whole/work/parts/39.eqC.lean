/-! EQUAL ANSWERS: roll -/
theorem dgl_at (a : Nat) : ∀ (e p : Nat), p < e → (dgl a e).getD p 0 = nI (48 + a / 10 ^ (e - 1 - p) % 10) := by
  intro e
  induction e with
  | zero => intro p h; exact absurd h (Nat.not_lt_zero _)
  | succ e ih =>
    intro p h
    unfold dgl
    cases p with
    | zero => rw [List.getD_cons_zero, show e + 1 - 1 - 0 = e by omega]
    | succ p => rw [List.getD_cons_succ, ih p (by omega), show e + 1 - 1 - (p + 1) = e - 1 - p by omega]
theorem ab_divs : ∀ (k : Nat) (x : Int64), ab (f_divs k x) = ab x / 10 ^ k := by
  intro k
  induction k with
  | zero => intro x; unfold f_divs; rw [Nat.pow_zero, Nat.div_one]
  | succ k ih => intro x; unfold f_divs; rw [ih, ab_div, Nat.div_div_eq_div_mul, Nat.pow_succ, Nat.mul_comm 10]
theorem rem10 (x : Int64) : (x - x / 10 * 10).toInt = x.toInt.tmod 10 := by
  have e : (x.toInt.tdiv 10).natAbs = x.toInt.natAbs / 10 := by rw [Int.natAbs_tdiv]; rfl
  have h1 := Int64.le_toInt x
  have h2 := Int64.toInt_lt x
  have e2 : x.toInt.tmod 10 = x.toInt - 10 * x.toInt.tdiv 10 := Int.tmod_def _ _
  have e3 : (x.toInt.tmod 10).natAbs = x.toInt.natAbs % 10 := by rw [Int.natAbs_tmod]; rfl
  have e4 : (x / 10 * 10).toInt = 10 * x.toInt.tdiv 10 := by
    rw [Int64.toInt_mul, div10, show (10 : Int64).toInt = 10 from rfl, Int.mul_comm]
    apply Int.bmod_eq_of_le <;> omega
  rw [Int64.toInt_sub, e4, e2]
  apply Int.bmod_eq_of_le <;> omega
theorem f_tbF_eq (x : Int64) : f_tbF x = nI (48 + ab x % 10) := by
  unfold f_tbF
  have h := rem10 x
  have e3 : (x.toInt.tmod 10).natAbs = ab x % 10 := by rw [Int.natAbs_tmod]; rfl
  have hlt : ab x % 10 < 10 := Nat.mod_lt _ (by decide)
  generalize x - x / 10 * 10 = r at h ⊢
  have key : (if 0 < r then r else -r) = lN (ab x % 10) := by
    apply Int64.toInt_inj.mp
    rw [pk_lT (by omega)]
    by_cases hr : 0 < r
    · rw [if_pos hr]
      rw [Int64.lt_iff_toInt_lt, show (0 : Int64).toInt = 0 from rfl] at hr
      omega
    · rw [if_neg hr]
      rw [Int64.lt_iff_toInt_lt, show (0 : Int64).toInt = 0 from rfl] at hr
      rw [Int64.toInt_neg]
      have : (-r.toInt).bmod (2 ^ 64) = -r.toInt := by apply Int.bmod_eq_of_le <;> omega
      rw [this]
      omega
  rw [key, lN_i, show (48 : Int32) = nI 48 from rfl, nI_add]
theorem len_lt (v : Int64) : f_len v ≤ 22 := by
  have : nl (ab v / 10) ≤ 20 := by
    unfold nl
    have gen : ∀ (f a : Nat), nlF f a ≤ f := by
      intro f
      induction f with
      | zero => intro a; exact Nat.le_refl _
      | succ f ih => intro a; unfold nlF; split; omega; have := ih (a / 10); omega
    exact gen 20 _
  unfold f_len
  split <;> omega
theorem bh_eq {v : Int64} {p : Nat} (hp : p < f_len v) : (f_bh v (nI p)).toNatClampNeg = f_len v - 1 - p := by
  have := len_lt v
  unfold f_bh
  rw [nI_sub1 (by omega), pk_sub (by omega), nI_clamp (by omega)]
theorem tb_eq {v : Int64} {p : Nat} (hp : p < f_len v) : f_tb v (nI p) = (txt v).getD p 0 := by
  have hl := len_lt v
  unfold f_tb txt
  rw [bh_eq hp, f_tbF_eq, ab_divs]
  by_cases h0 : 0 ≤ v
  · have e : f_len v = 1 + nl (ab v / 10) := by unfold f_len; rw [if_pos h0]
    rw [if_pos h0, if_pos h0, List.nil_append, dgl_at _ _ _ (by omega), e]
    rw [show nl (ab v / 10) + 1 - 1 - p = 1 + nl (ab v / 10) - 1 - p by omega]
  · have e : f_len v = 2 + nl (ab v / 10) := by unfold f_len; rw [if_neg h0]
    rw [if_neg h0, if_neg h0]
    cases p with
    | zero => rw [if_pos nI_0]; rfl
    | succ p =>
      rw [if_neg (nI_ne0 (by omega) (by omega)), List.singleton_append, List.getD_cons_succ, dgl_at _ _ _ (by omega), e]
      rw [show nl (ab v / 10) + 1 - 1 - p = 2 + nl (ab v / 10) - 1 - (p + 1) by omega]
def tailL (md : Int32) : List Int32 := if md = 0 then [10] else [32, 42, 10]
def fieldsL : List Int64 → List Int32
  | [] => []
  | v :: vs => (32 :: txt v) ++ fieldsL vs
theorem lbF_eq (md : Int32) : ∀ (vs : List Int64) (x : Nat), x < 2 ^ 31 → x < (fieldsL vs ++ tailL md).length → f_lbF md vs (nI x) = (fieldsL vs ++ tailL md).getD x 0 := by
  intro vs
  induction vs with
  | nil =>
    intro x _ hx
    unfold f_lbF
    rw [show fieldsL [] ++ tailL md = tailL md from rfl] at hx ⊢
    unfold tailL at hx ⊢
    by_cases h : md = 0
    · rw [if_pos h] at hx ⊢
      rw [if_pos h]
      have : x = 0 := by simpa using hx
      subst this
      rfl
    · rw [if_neg h] at hx ⊢
      rw [if_neg h]
      have hx : x < 3 := hx
      rcases (show x = 0 ∨ x = 1 ∨ x = 2 by omega) with rfl | rfl | rfl <;> decide
  | cons v vs ih =>
    intro x hx2 hx
    have hl := len_lt v
    unfold f_lbF
    rw [show (1 : Int32) + nI (f_len v) = nI (1 + f_len v) from nI_add 1 _]
    have hlen : (32 :: txt v).length = 1 + f_len v := by rw [List.length_cons, txt_len]; omega
    have e0 : fieldsL (v :: vs) ++ tailL md = (32 :: txt v) ++ (fieldsL vs ++ tailL md) := by rw [show fieldsL (v :: vs) = (32 :: txt v) ++ fieldsL vs from rfl, List.append_assoc]
    rw [e0] at hx ⊢
    rw [List.length_append, hlen] at hx
    by_cases h1 : 1 + f_len v ≤ x
    · rw [if_pos (nI_le h1 hx2), pk_sub h1, ih (x - (1 + f_len v)) (by omega) (by omega), List.getD_eq_getElem?_getD, List.getD_eq_getElem?_getD, List.getElem?_append_right (l₁ := 32 :: txt v) (by rw [hlen]; exact h1), hlen]
    · rw [if_neg (fun z => h1 ((nI_leI (by omega) hx2).mp z)), List.getD_eq_getElem?_getD, List.getElem?_append_left (by rw [hlen]; omega), ← List.getD_eq_getElem?_getD]
      cases x with
      | zero => rw [if_pos nI_0]; rfl
      | succ x => rw [if_neg (nI_ne0 (by omega) hx2), nI_pred, List.getD_cons_succ, tb_eq (by omega)]
section EQC
variable {j : Nat} {sl : Int32} {la : Int64} {tn : Nat} {ts : Nat → Int32} {ta tb : Nat → Int64} {key : Int64} {n : Nat} {nu st : Nat → Int64} {de : Nat → Int32} {su : Nat → Int64} {mk : Nat → Int32} {ky : Nat → Int64} {ro ln kd : Nat → Int32} {nb sc : Nat → Int64} {wa : Nat → Int32} {sm : Nat → Int64} {ld : Nat → Int32} {lo lw : Nat → Int64}
/-- the values that a row's line prints -/
def rowF (kd : Nat → Int32) (nb sc : Nat → Int64) (wa : Nat → Int32) (j i : Nat) : List Int64 := if kd (j * 200 + i) = 0 then [nb (j * 200 + i), sc (j * 200 + i), (wa (j * 200 + i)).toInt64] else [nb (j * 200 + i)]
theorem line_form (kd : Nat → Int32) (nb sc : Nat → Int64) (wa : Nat → Int32) (j i : Nat) : md_line kd nb sc wa j i = md_let (kd (j * 200 + i)) :: (fieldsL (rowF kd nb sc wa j i) ++ tailL (md_mk kd j i)) := by
  unfold md_line rowF tailL
  by_cases h0 : kd (j * 200 + i) = 0
  · rw [if_pos h0, if_pos h0]
    by_cases h1 : md_mk kd j i = 0
    · rw [if_pos h1, if_pos h1]; simp [fieldsL]
    · rw [if_neg h1, if_neg h1]; simp [fieldsL]
  · rw [if_neg h0, if_neg h0]
    by_cases h1 : md_mk kd j i = 0
    · rw [if_pos h1, if_pos h1]; simp [fieldsL]
    · rw [if_neg h1, if_neg h1]; simp [fieldsL]
theorem MI.ab_ok (h : MI j sl la tn ts ta tb key n nu st de su mk ky ro ln kd nb sc wa sm ld lo lw) {i : Nat} (hi : i < n) : md_rok nb sc wa j i := by
  have ab_lN : ∀ {a : Nat}, a ≤ 1000000000000 → ab (lN a) < 10 ^ 18 := by
    intro a ha
    unfold ab
    rw [pk_lT (by omega)]
    have : (10 : Nat) ^ 18 = 1000000000000000000 := rfl
    omega
  have ab_w : ∀ w : Int32, ab w.toInt64 < 10 ^ 18 := by
    intro w
    unfold ab
    rw [Int32.toInt_toInt64]
    have h1 := Int32.le_toInt w
    have h2 := Int32.toInt_lt w
    have : (10 : Nat) ^ 18 = 1000000000000000000 := rfl
    omega
  have hlen : ∀ {v : Int64}, ab v < 10 ^ 18 → (txt v).length ≤ 19 := by
    intro v hv
    have := nl_le hv
    rw [txt_len]
    unfold f_len
    split <;> omega
  have hn : ab (nb (j * 200 + i)) < 10 ^ 18 := by
    rw [(h.2.2.1 i hi).1.1]
    rcases (h.2.2.1 i hi).1.2 with ⟨-, -, -, ⟨a, ha, e⟩, -⟩ | ⟨-, -, ⟨a, ha, e⟩, -⟩
    · rw [e]; exact ab_lN (by omega)
    · rw [e]; exact ab_lN ha
  have hs : ab (sc (j * 200 + i)) < 10 ^ 18 := by
    rcases (h.2.2.1 i hi).1.2 with ⟨-, -, -, -, ⟨a, ha, e⟩⟩ | ⟨-, -, -, e⟩
    · rw [e]; exact ab_lN ha
    · rw [e]; exact ab_lN (a := 0) (by omega)
  refine ⟨hn, hs, ab_w _, ?_⟩
  have l1 := hlen hn
  have l2 := hlen hs
  have l3 := hlen (ab_w (wa (j * 200 + i)))
  simp only [List.length_cons]
  omega
theorem MI.rowf (h : MI j sl la tn ts ta tb key n nu st de su mk ky ro ln kd nb sc wa sm ld lo lw) {i : Nat} (hi : i < n) : f_let n st (nI i) = md_let (kd (j * 200 + i)) ∧
    (∀ at_, f_lb n nu st de mk (nI i) at_ = if at_ = 0 then md_let (kd (j * 200 + i)) else f_lbF (f_mark n mk (nI i)) (rowF kd nb sc wa j i) (at_ - 1)) ∧
    f_ll n nu st de mk (nI i) = nI (md_line kd nb sc wa j i).length := by
  have hn := h.1.2.2.1
  have hh := holds_nI hi hn
  have hR := h.isR hi
  have hcl : (nI i).toNatClampNeg = i := nI_clamp (by omega)
  have f0 : f_fld n nu st de (nI i) 0 = nb (j * 200 + i) := by unfold f_fld; rw [if_neg hh, if_pos rfl, hcl, (h.2.2.1 i hi).1.1]
  have hlet : f_let n st (nI i) = md_let (kd (j * 200 + i)) := by
    unfold f_let
    rw [if_neg hh, hR, hcl]
    rcases (h.2.2.1 i hi).1.2 with ⟨h1, -⟩ | ⟨h1, -⟩
    · rw [h1, if_pos (show (0 : Int32) = 0 from rfl), if_neg (show ¬ (1 : Int32) = 0 by decide)]; rfl
    · rcases h1 with ⟨a, b⟩ | ⟨a, b⟩ | ⟨a, b⟩ <;> rw [a, b] <;> decide
  have hm := h.mark hi
  have hlens : ∀ v : Int64, (32 :: txt v).length = 1 + f_len v := by intro v; rw [List.length_cons, txt_len]; omega
  refine ⟨hlet, ?_, ?_⟩
  · intro at_
    unfold f_lb rowF
    rw [hlet, hR, f0]
    by_cases h0 : kd (j * 200 + i) = 0
    · obtain ⟨s1, s2, -, -⟩ := h.stR hi h0
      have f1 : f_fld n nu st de (nI i) 1 = sc (j * 200 + i) := by unfold f_fld; rw [if_neg hh, if_neg (by decide), if_pos rfl, hcl, s1]
      have f2 : f_fld n nu st de (nI i) 2 = (wa (j * 200 + i)).toInt64 := by unfold f_fld; rw [if_neg hh, if_neg (by decide), if_neg (by decide), hcl, s2]
      rw [if_pos h0, if_pos h0, if_neg (show ¬ (1 : Int32) = 0 by decide), f1, f2]
    · rw [if_neg h0, if_neg h0, if_pos (show (0 : Int32) = 0 from rfl)]
  · rw [line_form]
    unfold f_ll rowF tailL
    rw [hR, hm, f0]
    have e1 : (1 : Int32) = nI 1 := rfl
    have e2 : (2 : Int32) = nI 2 := rfl
    have e3 : (0 : Int32) = nI 0 := rfl
    by_cases h0 : kd (j * 200 + i) = 0
    · obtain ⟨s1, s2, -, -⟩ := h.stR hi h0
      have f1 : f_fld n nu st de (nI i) 1 = sc (j * 200 + i) := by unfold f_fld; rw [if_neg hh, if_neg (by decide), if_pos rfl, hcl, s1]
      have f2 : f_fld n nu st de (nI i) 2 = (wa (j * 200 + i)).toInt64 := by unfold f_fld; rw [if_neg hh, if_neg (by decide), if_neg (by decide), hcl, s2]
      rw [if_pos h0, if_neg (show ¬ (1 : Int32) = 0 by decide), if_pos h0, f1, f2]
      by_cases h1 : md_mk kd j i = 0
      · rw [if_pos h1, if_pos (show (0 : Int32) = 0 from rfl), if_pos h1, e1, e3]
        simp only [nI_add, fieldsL, List.length_cons, List.length_append, List.length_nil, txt_len]
        congr 1
        omega
      · rw [if_neg h1, if_neg (show ¬ (1 : Int32) = 0 by decide), if_neg h1, e1, e2]
        simp only [nI_add, fieldsL, List.length_cons, List.length_append, List.length_nil, txt_len]
        congr 1
        omega
    · rw [if_neg h0, if_pos (show (0 : Int32) = 0 from rfl), if_neg h0]
      by_cases h1 : md_mk kd j i = 0
      · rw [if_pos h1, if_pos (show (0 : Int32) = 0 from rfl), if_pos h1, e1, e3]
        simp only [nI_add, fieldsL, List.length_cons, List.length_append, List.length_nil, txt_len]
        congr 1
        omega
      · rw [if_neg h1, if_neg (show ¬ (1 : Int32) = 0 by decide), if_neg h1, e1, e2]
        simp only [nI_add, fieldsL, List.length_cons, List.length_append, List.length_nil, txt_len]
        congr 1
        omega
theorem MI.lb (h : MI j sl la tn ts ta tb key n nu st de su mk ky ro ln kd nb sc wa sm ld lo lw) {i q : Nat} (hi : i < n) (hq : q < (md_line kd nb sc wa j i).length) : f_lb n nu st de mk (nI i) (nI q) = (md_line kd nb sc wa j i).getD q 0 := by
  obtain ⟨-, h2, -⟩ := h.rowf hi
  have h80 := md_line_le (kd := kd) (h.ab_ok hi)
  rw [h2]
  have htl : tailL (f_mark n mk (nI i)) = tailL (md_mk kd j i) := by
    rw [h.mark hi]
    unfold tailL
    by_cases h1 : md_mk kd j i = 0
    · rw [if_pos h1, if_pos h1]; rfl
    · rw [if_neg h1, if_neg h1]; rfl
  rw [line_form] at hq h80 ⊢
  cases q with
  | zero => rw [if_pos nI_0, List.getD_cons_zero]
  | succ q =>
    rw [List.length_cons] at hq h80
    rw [if_neg (nI_ne0 (by omega) (by omega)), nI_pred, List.getD_cons_succ, ← htl]
    exact lbF_eq _ _ _ (by omega) (by rw [htl]; omega)
theorem MI.rollF (h : MI j sl la tn ts ta tb key n nu st de su mk ky ro ln kd nb sc wa sm ld lo lw) : ∀ (k i : Nat) (left : Int32), i + k = n → 0 ≤ left → f_rollF n nu st de mk k i left = md_rollF kd nb sc wa j k i left := by
  intro k
  induction k with
  | zero => intro i left _ _; rfl
  | succ k ih =>
    intro i left hi h0
    have hin : i < n := by omega
    have h80 := md_line_le (kd := kd) (h.ab_ok hin)
    unfold f_rollF md_rollF
    rw [(h.rowf hin).2.2]
    by_cases h1 : nI (md_line kd nb sc wa j i).length ≤ left
    · rw [if_pos h1, if_pos h1]
      exact ih _ _ (by omega) (left_sub h0 h1 h80)
    · rw [if_neg h1, if_neg h1]
      obtain ⟨q, hq, rfl⟩ := left_in h0 h1 h80
      rw [h.lb hin hq, nI_clamp (by omega)]
theorem MI.roll (h : MI j sl la tn ts ta tb key n nu st de su mk ky ro ln kd nb sc wa sm ld lo lw) (ix : Int32) : f_roll n nu st de mk ix = md_roll kd nb sc wa j n ix := by
  unfold f_roll md_roll
  split
  · rename_i h0
    exact h.rollF n 0 ix (by omega) h0
  · rfl
end EQC
