/-! THE REFERENCE -/
abbrev wK (G : Gx) (k0 k1 k2 k3 k4 k5 k6 k7 k8 k9 k10 k11 k12 : Nat) (mn len thr : Int32) (ky : Nat → Int64) (ro ln kd : Nat → Int32) (nb sc : Nat → Int64) (wa : Nat → Int32) (sm : Nat → Int64) (ld : Nat → Int32) (lo lw : Nat → Int64) (tx : Nat → Int32) : va_W :=
  [(k0, .inr (5, [.ref k1, .ref k2, .ref k3, .int mn, .ref k4, .ref k5, .ref k6, .ref k7, .ref k8, .ref k9, .ref k10, .ref k11, .ref k12, .int len, .int thr])), (k1, .inl (kJ G, 8, .inr (.inl ky))), (k2, .inl (kI G, 8, .inl ro)), (k3, .inl (kI G, 8, .inl ln)), (k4, .inl (kI G, 1600, .inl kd)), (k5, .inl (kJ G, 1600, .inr (.inl nb))), (k6, .inl (kJ G, 1600, .inr (.inl sc))), (k7, .inl (kI G, 1600, .inl wa)), (k8, .inl (kJ G, 1600, .inr (.inl sm))), (k9, .inl (kI G, 128, .inl ld)), (k10, .inl (kJ G, 128, .inr (.inl lo))), (k11, .inl (kJ G, 128, .inr (.inl lw))), (k12, .inl (kI G, 80, .inl tx))]
theorem nI_mul200 (a : Nat) : nI a * 200 = nI (a * 200) := pk_mul a 200
theorem nI_mul16 (a : Nat) : nI a * 16 = nI (a * 16) := pk_mul a 16
theorem nI_sub1 {a : Nat} (h : 0 < a) : nI a - 1 = nI (a - 1) := by
  obtain ⟨b, rfl⟩ : ∃ b, a = b + 1 := ⟨a - 1, by omega⟩
  rw [nI_pred, Nat.add_sub_cancel]
theorem holds8 {n : Nat} {mi : Int32} (hn : n ≤ 8) (h : ¬ f_holds (nI n) mi = 0) : vp_in mi 8 := by
  obtain ⟨j, hj, rfl⟩ := (f_holds_iff (by omega) mi).mp h
  exact vp_in_nI (by omega) (by decide)
def f_row (mc : Nat) (ro : Nat → Int32) (mi row : Int32) : Int32 := if f_holds (nI mc) mi = 0 then 0 else if row < 0 then 0 else if ro mi.toNatClampNeg ≤ row then 0 else 1
def md_due (ky : Nat → Int64) (kd : Nat → Int32) (nb sc : Nat → Int64) (wa : Nat → Int32) (sm : Nat → Int64) (j i : Nat) : Int64 :=
  if kd (j * 200 + i) = 0 then (if nI i = 0 then f_mix (f_mix (f_mix (3 * ky j + ky j) (nb (j * 200 + i))) (sc (j * 200 + i))) (wa (j * 200 + i)).toInt64 else f_mix (f_mix (f_mix (3 * sm (j * 200 + i - 1) + ky j) (nb (j * 200 + i))) (sc (j * 200 + i))) (wa (j * 200 + i)).toInt64)
  else (if nI i = 0 then f_mix (f_mix (f_mix (3 * ky j + ky j) (nb (j * 200 + i))) (-kd (j * 200 + i)).toInt64) 0 else f_mix (f_mix (f_mix (3 * sm (j * 200 + i - 1) + ky j) (nb (j * 200 + i))) (-kd (j * 200 + i)).toInt64) 0)
def md_st (k s : Int32) : Int32 := if k = 2 then 0 else if k = 3 then 1 else if s = 0 then 0 else 1
def md_is (kd : Nat → Int32) (j : Nat) : Nat → Int32
  | 0 => 1
  | b + 1 => md_st (kd (j * 200 + b)) (md_is kd j b)
theorem md_is01 (kd : Nat → Int32) (j i : Nat) : md_is kd j i = 0 ∨ md_is kd j i = 1 := by
  cases i with
  | zero => exact Or.inr rfl
  | succ b =>
    unfold md_is md_st
    split
    · exact Or.inl rfl
    · split
      · exact Or.inr rfl
      · split
        · exact Or.inl rfl
        · exact Or.inr rfl
def md_mk (kd : Nat → Int32) (j i : Nat) : Int32 := if kd (j * 200 + i) = 2 then 1 else if kd (j * 200 + i) = 3 then 1 else if md_is kd j i = 0 then 1 else 0
def ln_I (j i : Nat) (x : Int32) : Prop := x = -1 ∨ ∃ q : Nat, q < i ∧ x = nI (j * 16 + q)
theorem ln_up {j i : Nat} {x : Int32} (h : ln_I j i x) : ln_I j (i + 1) x := h.imp id (fun ⟨q, a, b⟩ => ⟨q, by omega, b⟩)
theorem ln_in {j i : Nat} {x : Int32} (h : ln_I j i x) (h0 : ¬ x = -1) (hj : j * 16 + i ≤ 128) : vp_in x 128 := by
  rcases h with q | ⟨q, hq, rfl⟩
  · exact absurd q h0
  · exact vp_in_nI (by omega) (by decide)
def md_nl (ld : Nat → Int32) (a : Nat) (le : Int32) : Int32 := if le = -1 then nI a else if ld le.toNatClampNeg ≤ ld a then le else nI a
def md_nu (ld : Nat → Int32) (d : Int32) (a : Nat) (un : Int32) : Int32 := if d < ld a then un else if un = -1 then nI a else if ld a ≤ ld un.toNatClampNeg then un else nI a
def md_lnF (ld : Nat → Int32) (j : Nat) (d : Int32) : Nat → Nat → Int32 → Int32 → Int32
  | 0, _, un, le => if un = -1 then le else un
  | k + 1, i, un, le => md_lnF ld j d k (i + 1) (if d < ld (j * 16 + i) then un else if un = -1 then nI (j * 16 + i) else if ld (j * 16 + i) ≤ ld un.toNatClampNeg then un else nI (j * 16 + i)) (if le = -1 then nI (j * 16 + i) else if ld le.toNatClampNeg ≤ ld (j * 16 + i) then le else nI (j * 16 + i))
def md_ln (ld : Nat → Int32) (j : Nat) (d : Int32) (t : Nat) : Int32 := md_lnF ld j d t 0 (-1) (-1)
