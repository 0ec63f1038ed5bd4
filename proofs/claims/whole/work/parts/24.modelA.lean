set_option maxHeartbeats 4000000 in
set_option maxRecDepth 100000 in
/-- X4_thrown -/
theorem ct_X4_thrown (l : Launch) (G : Gx) (k0 k1 k2 k3 k4 k5 k6 k7 k8 k9 k10 k11 k12 : Nat) (mc : Nat) (len thr : Int32) (ky : Nat → Int64) (ro ln kd : Nat → Int32) (nb sc : Nat → Int64) (wa : Nat → Int32) (sm : Nat → Int64) (ld : Nat → Int32) (lo lw : Nat → Int64) (tx : Nat → Int32)  : Met l yX4_thrown wsX4_thrown ({ frames := 0, cells := 0, slots := 0, locals := 0 }) (RdP G (wK G k0 k1 k2 k3 k4 k5 k6 k7 k8 k9 k10 k11 k12 (nI mc) len thr ky ro ln kd nb sc wa sm ld lo lw tx) [.ref k0]) (vp_Si (fun r => r = thr)) 0 0 (fun _ => False) := by
  refine Met.ofW (cc := cX4_thrown) (maxL := 1) (ret := (some .int)) (by decide) rfl ?_
  intro p e s m args below meth c s₁ B hml hv
  obtain ⟨rfl, hP, hE⟩ := hv
  have hx := B.exec
  have hb := B.bytes
  have hr := B.returns
  have hts := atoms_spec (ws := wsX4_thrown) B.pre
  have hown : s.vm.findClass RX4 = some m.cls := findClass_of_methodNamed B.named
  have hlocks := B.notSynchronized
  have hiX4 : ∀ w ∈ wsX40, w ∈ wsX4_thrown := by decide +kernel
  have hl := lv_entry ([.ref k0]) (n := 1) (Nat.le_of_ble_eq_true rfl)
  rw [lg_entry_eq]
  generalize (lg_sl ([.ref k0]) ++ List.replicate (1 - (lg_sl ([.ref k0])).length) Slot.unset).toArray = ls at hl ⊢
  replace hl : lv_has ls 1 [(0, .ref k0)] := hl
  refine lv_aload_n hx hb dX4_thrown_0 rfl (lv_at hl 0 rfl) ?_
  refine va_get (D := G.1) (ci := 5) (v := .int thr) (C := RX4) (T := TX4) (N := 15) hx hb hts hiX4 hown hE.1 hP 0 rfl rfl 14 (by decide) (hts (.fieldLink RX4 47 "MeterSealsModel" "thrown" "I") (by decide +kernel)) (fun _ h9 => h9) rfl dX4_thrown_1 ?_
  exact W.iret (v := thr) hx hb hr (fun t ht hW => ⟨_, rfl, rfl, ht⟩) t_nil dX4_thrown_4

set_option maxHeartbeats 4000000 in
set_option maxRecDepth 100000 in
/-- X4_isMeter -/
theorem ct_X4_isMeter (l : Launch) (G : Gx) (k0 k1 k2 k3 k4 k5 k6 k7 k8 k9 k10 k11 k12 : Nat) (mc : Nat) (len thr : Int32) (ky : Nat → Int64) (ro ln kd : Nat → Int32) (nb sc : Nat → Int64) (wa : Nat → Int32) (sm : Nat → Int64) (ld : Nat → Int32) (lo lw : Nat → Int64) (tx : Nat → Int32) (mi : Int32) : Met l yX4_isMeter wsX4_isMeter ({ frames := 0, cells := 0, slots := 0, locals := 0 }) (RdP G (wK G k0 k1 k2 k3 k4 k5 k6 k7 k8 k9 k10 k11 k12 (nI mc) len thr ky ro ln kd nb sc wa sm ld lo lw tx) [.ref k0, .int mi]) (vp_Si (fun r => r = f_holds (nI mc) mi)) 0 0 (fun _ => False) := by
  refine Met.ofW (cc := cX4_isMeter) (maxL := 2) (ret := (some .boolean)) (by decide) rfl ?_
  intro p e s m args below meth c s₁ B hml hv
  obtain ⟨rfl, hP, hE⟩ := hv
  have hx := B.exec
  have hb := B.bytes
  have hr := B.returns
  have hts := atoms_spec (ws := wsX4_isMeter) B.pre
  have hown : s.vm.findClass RX4 = some m.cls := findClass_of_methodNamed B.named
  have hlocks := B.notSynchronized
  have hiX4 : ∀ w ∈ wsX40, w ∈ wsX4_isMeter := by decide +kernel
  have hl := lv_entry ([.ref k0, .int mi]) (n := 2) (Nat.le_of_ble_eq_true rfl)
  rw [lg_entry_eq]
  generalize (lg_sl ([.ref k0, .int mi]) ++ List.replicate (2 - (lg_sl ([.ref k0, .int mi])).length) Slot.unset).toArray = ls at hl ⊢
  replace hl : lv_has ls 2 [(0, .ref k0), (1, .int mi)] := hl
  refine lv_iload_n hx hb dX4_isMeter_0 rfl (lv_at hl 1 rfl) ?_
  refine lv_if_lt (tgt := 16) hx hb dX4_isMeter_1 (by decide) (fun c1 => ?_) (fun c1 => ?_)
  · refine lv_iconst (v := 0) hx hb dX4_isMeter_16 (by decide) ?_
    exact W.zret (v := 0) hx hb hr (zb (Or.inl rfl)) (fun t ht hW => ⟨_, rfl, by simp only [f_holds, if_pos c1], ht⟩) t_nil dX4_isMeter_17
  refine lv_iload_n hx hb dX4_isMeter_4 rfl (lv_at hl 1 rfl) ?_
  refine lv_aload_n hx hb dX4_isMeter_5 rfl (lv_at hl 0 rfl) ?_
  refine va_get (D := G.1) (ci := 5) (v := .int (nI mc)) (C := RX4) (T := TX4) (N := 15) hx hb hts hiX4 hown hE.1 hP 0 rfl rfl 3 (by decide) (hts (.fieldLink RX4 51 "MeterSealsModel" "meters" "I") (by decide +kernel)) (fun _ h9 => h9) rfl dX4_isMeter_6 ?_
  refine lv_icmp_ge (tgt := 16) hx hb dX4_isMeter_9 (by decide) (fun c9 => ?_) (fun c9 => ?_)
  · refine lv_iconst (v := 0) hx hb dX4_isMeter_16 (by decide) ?_
    exact W.zret (v := 0) hx hb hr (zb (Or.inl rfl)) (fun t ht hW => ⟨_, rfl, by simp only [f_holds, if_neg c1, if_pos c9], ht⟩) t_nil dX4_isMeter_17
  refine lv_iconst (v := 1) hx hb dX4_isMeter_12 (by decide) ?_
  refine lv_goto (tgt := 17) hx hb dX4_isMeter_13 (by decide) ?_
  exact W.zret (v := 1) hx hb hr (zb (Or.inr rfl)) (fun t ht hW => ⟨_, rfl, by simp only [f_holds, if_neg c1, if_neg c9], ht⟩) t_nil dX4_isMeter_17

set_option maxHeartbeats 4000000 in
set_option maxRecDepth 100000 in
/-- X4_isRow -/
theorem ct_X4_isRow (l : Launch) (G : Gx) (k0 k1 k2 k3 k4 k5 k6 k7 k8 k9 k10 k11 k12 : Nat) (mc : Nat) (len thr : Int32) (ky : Nat → Int64) (ro ln kd : Nat → Int32) (nb sc : Nat → Int64) (wa : Nat → Int32) (sm : Nat → Int64) (ld : Nat → Int32) (lo lw : Nat → Int64) (tx : Nat → Int32) (mi row : Int32) (hmc : mc ≤ 8) : Met l yX4_isRow wsX4_isRow ({ frames := 1, cells := 0, slots := 0, locals := 21 }) (RdP G (wK G k0 k1 k2 k3 k4 k5 k6 k7 k8 k9 k10 k11 k12 (nI mc) len thr ky ro ln kd nb sc wa sm ld lo lw tx) [.ref k0, .int mi, .int row]) (vp_Si (fun r => r = f_row mc ro mi row)) 0 0 (fun _ => False) := by
  refine Met.ofW (cc := cX4_isRow) (maxL := 3) (ret := (some .boolean)) (by decide) rfl ?_
  intro p e s m args below meth c s₁ B hml hv
  obtain ⟨rfl, hP, hE⟩ := hv
  have hx := B.exec
  have hb := B.bytes
  have hr := B.returns
  have hts := atoms_spec (ws := wsX4_isRow) B.pre
  have hown : s.vm.findClass RX4 = some m.cls := findClass_of_methodNamed B.named
  have hlocks := B.notSynchronized
  have hiX4 : ∀ w ∈ wsX40, w ∈ wsX4_isRow := by decide +kernel
  have hl := lv_entry ([.ref k0, .int mi, .int row]) (n := 3) (Nat.le_of_ble_eq_true rfl)
  rw [lg_entry_eq]
  generalize (lg_sl ([.ref k0, .int mi, .int row]) ++ List.replicate (3 - (lg_sl ([.ref k0, .int mi, .int row])).length) Slot.unset).toArray = ls at hl ⊢
  replace hl : lv_has ls 3 [(0, .ref k0), (1, .int mi), (2, .int row)] := hl
  refine lv_aload_n hx hb dX4_isRow_0 rfl (lv_at hl 0 rfl) ?_
  refine lv_iload_n hx hb dX4_isRow_1 rfl (lv_at hl 1 rfl) ?_
  refine x_ri (va_runV (As := [.int mi]) (rest := []) ⟨hx, hb, hml, hown, hts⟩ (ct_X4_isMeter l G k0 k1 k2 k3 k4 k5 k6 k7 k8 k9 k10 k11 k12 mc len thr ky ro ln kd nb sc wa sm ld lo lw tx mi) (cwV 1 hts gX4_isRow_X4_isMeter rfl rfl rfl (by decide +kernel) ⟨Nat.le_of_ble_eq_true rfl, Nat.le_of_ble_eq_true rfl⟩) (RdP.preV 0 5 rfl rfl hP hE) rfl rfl hl.1 rfl (lv_room (Nat.le_of_ble_eq_true rfl)) dX4_isRow_2 ⟨Nat.zero_le _, Nat.zero_le _⟩) (fun r1 er1 => ?_)
  subst er1
  refine lv_if_eq (tgt := 26) hx hb dX4_isRow_5 (by decide) (fun c5 => ?_) (fun c5 => ?_)
  · refine lv_iconst (v := 0) hx hb dX4_isRow_26 (by decide) ?_
    exact W.zret (v := 0) hx hb hr (zb (Or.inl rfl)) (fun t ht hW => ⟨_, rfl, by simp only [f_row, if_pos c5], ht⟩) t_nil dX4_isRow_27
  refine lv_iload_n hx hb dX4_isRow_8 rfl (lv_at hl 2 rfl) ?_
  refine lv_if_lt (tgt := 26) hx hb dX4_isRow_9 (by decide) (fun c9 => ?_) (fun c9 => ?_)
  · refine lv_iconst (v := 0) hx hb dX4_isRow_26 (by decide) ?_
    exact W.zret (v := 0) hx hb hr (zb (Or.inl rfl)) (fun t ht hW => ⟨_, rfl, by simp only [f_row, if_neg c5, if_pos c9], ht⟩) t_nil dX4_isRow_27
  refine lv_iload_n hx hb dX4_isRow_12 rfl (lv_at hl 2 rfl) ?_
  refine lv_aload_n hx hb dX4_isRow_13 rfl (lv_at hl 0 rfl) ?_
  refine va_get (D := G.1) (ci := 5) (v := .ref k2) (C := RX4) (T := TX4) (N := 15) hx hb hts hiX4 hown hE.1 hP 0 rfl rfl 1 (by decide) (hts (.fieldLink RX4 13 "MeterSealsModel" "rows" "[I") (by decide +kernel)) (fun _ h9 => h9) rfl dX4_isRow_14 ?_
  refine lv_iload_n hx hb dX4_isRow_17 rfl (lv_at hl 1 rfl) ?_
  refine va_iald hx hb hE.1 hP 2 0 rfl rfl (holds8 hmc c5) dX4_isRow_18 ?_
  refine lv_icmp_ge (tgt := 26) hx hb dX4_isRow_19 (by decide) (fun c19 => ?_) (fun c19 => ?_)
  · refine lv_iconst (v := 0) hx hb dX4_isRow_26 (by decide) ?_
    exact W.zret (v := 0) hx hb hr (zb (Or.inl rfl)) (fun t ht hW => ⟨_, rfl, by simp only [f_row, if_neg c5, if_neg c9, if_pos c19], ht⟩) t_nil dX4_isRow_27
  refine lv_iconst (v := 1) hx hb dX4_isRow_22 (by decide) ?_
  refine lv_goto (tgt := 27) hx hb dX4_isRow_23 (by decide) ?_
  exact W.zret (v := 1) hx hb hr (zb (Or.inr rfl)) (fun t ht hW => ⟨_, rfl, by simp only [f_row, if_neg c5, if_neg c9, if_neg c19], ht⟩) t_nil dX4_isRow_27

set_option maxHeartbeats 4000000 in
set_option maxRecDepth 100000 in
/-- mixed -/
theorem ct_X4_mixed (l : Launch) (G : Gx) (h v : Int64) : Met l yX4_mixed wsX4_mixed ({ frames := 0, cells := 0, slots := 0, locals := 0 }) (RdP G [] [.long h, .long v]) (vp_Sl (fun r => r = f_mix h v)) 0 0 (fun _ => False) := by
  refine Met.ofW (cc := cX4_mixed) (maxL := 6) (ret := (some .long)) (by decide) rfl ?_
  intro p e s m args below meth c s₁ B hml hv
  obtain ⟨rfl, hP, hE⟩ := hv
  have hx := B.exec
  have hb := B.bytes
  have hr := B.returns
  have hts := atoms_spec (ws := wsX4_mixed) B.pre
  have hown : s.vm.findClass RX4 = some m.cls := findClass_of_methodNamed B.named
  have hlocks := B.notSynchronized
  have hl := lv_entry ([.long h, .long v]) (n := 6) (Nat.le_of_ble_eq_true rfl)
  rw [lg_entry_eq]
  generalize (lg_sl ([.long h, .long v]) ++ List.replicate (6 - (lg_sl ([.long h, .long v])).length) Slot.unset).toArray = ls at hl ⊢
  replace hl : lv_has ls 6 [(0, .long h), (2, .long v)] := hl
  refine lv_lload_n hx hb dX4_mixed_0 rfl (lv_at hl 0 rfl) ?_
  refine lv_lload_n hx hb dX4_mixed_1 rfl (lv_at hl 1 rfl) ?_
  refine lv_lxor hx hb dX4_mixed_2 ?_
  refine lv_ldc2 (v := 1099511628211) hx hb hown (hts (.constantLong RX4 58 1099511628211) (by decide +kernel)) dX4_mixed_3 ?_
  refine lv_lmul hx hb dX4_mixed_6 ?_
  refine lv_lstore (lv' := [(4, .long ((h ^^^ v) * 1099511628211)), (0, .long h), (2, .long v)]) hx hb dX4_mixed_7 hl (by decide) rfl (fun ls hl => ?_)
  refine lv_lload hx hb dX4_mixed_9 (lv_at hl 0 rfl) ?_
  refine lv_lload hx hb dX4_mixed_11 (lv_at hl 0 rfl) ?_
  refine lv_bipush (v := 29) hx hb dX4_mixed_13 (by decide) ?_
  refine lv_lushr (v := (((h ^^^ v) * 1099511628211).toUInt64 >>> ((29 : Int32).toInt64.toUInt64 &&& Int64.toUInt64 63)).toInt64) hx hb dX4_mixed_15 rfl ?_
  refine lv_lxor hx hb dX4_mixed_16 ?_
  exact W.lret (v := (((h ^^^ v) * 1099511628211) ^^^ (((h ^^^ v) * 1099511628211).toUInt64 >>> ((29 : Int32).toInt64.toUInt64 &&& Int64.toUInt64 63)).toInt64)) hx hb hr (fun t ht hW => ⟨_, rfl, rfl, ht⟩) t_nil dX4_mixed_17

set_option maxHeartbeats 4000000 in
set_option maxRecDepth 100000 in
/-- divisor -/
theorem ct_X4_divisor (l : Launch) (G : Gx) (a b : Nat) (ha : a < 2 ^ 62) (hb62 : b < 2 ^ 62) : Met l yX4_divisor wsX4_divisor ({ frames := 0, cells := 0, slots := 0, locals := 0 }) (RdP G [] [.long (lN a), .long (lN b)]) (vp_Sl (fun r => r = lN (Nat.gcd a b))) 0 0 (fun _ => False) := by
  refine Met.ofW (cc := cX4_divisor) (maxL := 10) (ret := (some .long)) (by decide) rfl ?_
  intro p e s m args below meth c s₁ B hml hv
  obtain ⟨rfl, hP, hE⟩ := hv
  have hx := B.exec
  have hb := B.bytes
  have hr := B.returns
  have hts := atoms_spec (ws := wsX4_divisor) B.pre
  have hown : s.vm.findClass RX4 = some m.cls := findClass_of_methodNamed B.named
  have hlocks := B.notSynchronized
  have hl := lv_entry ([.long (lN a), .long (lN b)]) (n := 10) (Nat.le_of_ble_eq_true rfl)
  rw [lg_entry_eq]
  generalize (lg_sl ([.long (lN a), .long (lN b)]) ++ List.replicate (10 - (lg_sl ([.long (lN a), .long (lN b)])).length) Slot.unset).toArray = ls at hl ⊢
  replace hl : lv_has ls 10 [(0, .long (lN a)), (2, .long (lN b))] := hl
  refine lv_lload_n hx hb dX4_divisor_0 rfl (lv_at hl 0 rfl) ?_
  refine lv_lstore (lv' := [(4, .long (lN a)), (0, .long (lN a)), (2, .long (lN b))]) hx hb dX4_divisor_1 hl (by decide) rfl (fun ls hl => ?_)
  refine lv_lload_n hx hb dX4_divisor_3 rfl (lv_at hl 2 rfl) ?_
  refine lv_lstore (lv' := [(6, .long (lN b)), (4, .long (lN a)), (0, .long (lN a)), (2, .long (lN b))]) hx hb dX4_divisor_4 hl (by decide) rfl (fun ls hl => ?_)
  obtain ⟨x, hx0⟩ : ∃ x : Nat, x = a := ⟨_, rfl⟩
  obtain ⟨y, hy0⟩ : ∃ y : Nat, y = b := ⟨_, rfl⟩
  replace hl : lv_has ls 10 [(6, .long (lN y)), (4, .long (lN x)), (0, .long (lN a)), (2, .long (lN b))] := by rw [hx0, hy0]; exact hl
  have hxb : x < 2 ^ 62 := by omega
  have hyb : y < 2 ^ 62 := by omega
  have hg : Nat.gcd x y = Nat.gcd a b := by rw [hx0, hy0]
  clear hx0 hy0
  induction y using Nat.strongRecOn generalizing ls x with
  | _ y ih =>
    refine lv_lload hx hb dX4_divisor_6 (lv_at hl 0 rfl) ?_
    refine lv_lconst (v := 0) hx hb dX4_divisor_8 (by decide) ?_
    refine x_leq (tgt := 31) hx hb dX4_divisor_9 dX4_divisor_10 (by decide) (fun c10 => ?_) (fun c10 => ?_)
    · have hy : y = 0 := (pk_lEQ (show y < 2 ^ 63 by omega) (by decide)).mp c10
      refine lv_lload hx hb dX4_divisor_31 (lv_at hl 1 rfl) ?_
      exact W.lret (v := (lN x)) hx hb hr (fun t ht hW => ⟨_, rfl, by rw [← hg, hy, Nat.gcd_zero_right], ht⟩) t_nil dX4_divisor_33
    have hy0 : 0 < y := Nat.pos_of_ne_zero (fun q => c10 (by rw [q]; rfl))
    refine lv_lload hx hb dX4_divisor_13 (lv_at hl 1 rfl) ?_
    refine lv_lload hx hb dX4_divisor_15 (lv_at hl 0 rfl) ?_
    refine lv_lrem hx hb dX4_divisor_17 c10 ?_
    rw [pk_lRem (show x < 2 ^ 63 by omega) hy0 (show y < 2 ^ 63 by omega)]
    refine lv_lstore (lv' := [(8, .long (lN (x % y))), (6, .long (lN y)), (4, .long (lN x)), (0, .long (lN a)), (2, .long (lN b))]) hx hb dX4_divisor_18 hl (by decide) rfl (fun ls hl => ?_)
    refine lv_lload hx hb dX4_divisor_20 (lv_at hl 1 rfl) ?_
    refine lv_lstore (lv' := [(4, .long (lN y)), (8, .long (lN (x % y))), (6, .long (lN y)), (0, .long (lN a)), (2, .long (lN b))]) hx hb dX4_divisor_22 hl (by decide) rfl (fun ls hl => ?_)
    refine lv_lload hx hb dX4_divisor_24 (lv_at hl 1 rfl) ?_
    refine lv_lstore (lv' := [(6, .long (lN (x % y))), (4, .long (lN y)), (8, .long (lN (x % y))), (0, .long (lN a)), (2, .long (lN b))]) hx hb dX4_divisor_26 hl (by decide) rfl (fun ls hl => ?_)
    refine lv_goto (tgt := 6) hx hb dX4_divisor_28 (by decide) ?_
    exact ih (x % y) (Nat.mod_lt x hy0) ls y (lv_sub hl [0, 1, 3, 4] rfl) (by omega) (by have := Nat.mod_lt x hy0; omega) (by rw [← hg, Nat.gcd_comm y (x % y), ← Nat.gcd_rec y x, Nat.gcd_comm])

set_option maxHeartbeats 4000000 in
set_option maxRecDepth 100000 in
/-- X4_due -/
theorem ct_X4_due (l : Launch) (G : Gx) (k0 k1 k2 k3 k4 k5 k6 k7 k8 k9 k10 k11 k12 : Nat) (mc : Nat) (len thr : Int32) (ky : Nat → Int64) (ro ln kd : Nat → Int32) (nb sc : Nat → Int64) (wa : Nat → Int32) (sm : Nat → Int64) (ld : Nat → Int32) (lo lw : Nat → Int64) (tx : Nat → Int32) (j i : Nat) (hj : j < 8) (hi : i < 200) : Met l yX4_due wsX4_due ({ frames := 1, cells := 0, slots := 0, locals := 25 }) (RdP G (wK G k0 k1 k2 k3 k4 k5 k6 k7 k8 k9 k10 k11 k12 (nI mc) len thr ky ro ln kd nb sc wa sm ld lo lw tx) [.ref k0, .int (nI j), .int (nI i)]) (vp_Sl (fun r => r = md_due ky kd nb sc wa sm j i)) 0 0 (fun _ => False) := by
  refine Met.ofW (cc := cX4_due) (maxL := 6) (ret := (some .long)) (by decide) rfl ?_
  intro p e s m args below meth c s₁ B hml hv
  obtain ⟨rfl, hP, hE⟩ := hv
  have hx := B.exec
  have hb := B.bytes
  have hr := B.returns
  have hts := atoms_spec (ws := wsX4_due) B.pre
  have hown : s.vm.findClass RX4 = some m.cls := findClass_of_methodNamed B.named
  have hlocks := B.notSynchronized
  have hiX4 : ∀ w ∈ wsX40, w ∈ wsX4_due := by decide +kernel
  have hl := lv_entry ([.ref k0, .int (nI j), .int (nI i)]) (n := 6) (Nat.le_of_ble_eq_true rfl)
  rw [lg_entry_eq]
  generalize (lg_sl ([.ref k0, .int (nI j), .int (nI i)]) ++ List.replicate (6 - (lg_sl ([.ref k0, .int (nI j), .int (nI i)])).length) Slot.unset).toArray = ls at hl ⊢
  replace hl : lv_has ls 6 [(0, .ref k0), (1, .int (nI j)), (2, .int (nI i))] := hl
  refine lv_iload_n hx hb dX4_due_0 rfl (lv_at hl 1 rfl) ?_
  refine lv_sipush (v := 200) hx hb dX4_due_1 (by decide) ?_
  refine lv_imul hx hb dX4_due_4 ?_
  rw [nI_mul200 j]
  refine lv_iload_n hx hb dX4_due_5 rfl (lv_at hl 2 rfl) ?_
  refine lv_iadd hx hb dX4_due_6 ?_
  rw [nI_add (j * 200) i]
  refine lv_istore_n (lv' := [(3, .int (nI (j * 200 + i))), (0, .ref k0), (1, .int (nI j)), (2, .int (nI i))]) hx hb dX4_due_7 rfl hl (by decide) rfl (fun ls hl => ?_)
  refine lv_ldc2 (v := 3) hx hb hown (hts (.constantLong RX4 60 3) (by decide +kernel)) dX4_due_8 ?_
  refine lv_iload_n hx hb dX4_due_11 rfl (lv_at hl 3 rfl) ?_
  refine lv_if_ne (tgt := 24) hx hb dX4_due_12 (by decide) (fun c12 => ?_) (fun c12 => ?_)
  · refine lv_aload_n hx hb dX4_due_24 rfl (lv_at hl 1 rfl) ?_
    refine va_get (D := G.1) (ci := 5) (v := .ref k8) (C := RX4) (T := TX4) (N := 15) hx hb hts hiX4 hown hE.1 hP 0 rfl rfl 8 (by decide) (hts (.fieldLink RX4 32 "MeterSealsModel" "sum" "[J") (by decide +kernel)) (fun _ h9 => h9) rfl dX4_due_25 ?_
    refine lv_iload_n hx hb dX4_due_28 rfl (lv_at hl 0 rfl) ?_
    refine lv_iconst (v := 1) hx hb dX4_due_29 (by decide) ?_
    refine lv_isub hx hb dX4_due_30 ?_
    have hi0 : 0 < i := Nat.pos_of_ne_zero (fun q => c12 (by rw [q]; rfl))
    rw [nI_sub1 (a := j * 200 + i) (by omega)]
    refine va_lald hx hb hE.1 hP 8 1 rfl rfl (vp_in_nI (show j * 200 + i - 1 < 1600 by omega) (by decide)) dX4_due_31 ?_
    rw [nI_clamp (n := j * 200 + i - 1) (by omega)]
    refine lv_lmul hx hb dX4_due_32 ?_
    refine lv_aload_n hx hb dX4_due_33 rfl (lv_at hl 1 rfl) ?_
    refine va_get (D := G.1) (ci := 5) (v := .ref k1) (C := RX4) (T := TX4) (N := 15) hx hb hts hiX4 hown hE.1 hP 0 rfl rfl 0 (by decide) (hts (.fieldLink RX4 9 "MeterSealsModel" "keys" "[J") (by decide +kernel)) (fun _ h9 => h9) rfl dX4_due_34 ?_
    refine lv_iload_n hx hb dX4_due_37 rfl (lv_at hl 2 rfl) ?_
    refine va_lald hx hb hE.1 hP 1 1 rfl rfl (vp_in_nI (show j < 8 by omega) (by decide)) dX4_due_38 ?_
    rw [nI_clamp (n := j) (by omega)]
    refine lv_ladd hx hb dX4_due_39 ?_
    refine lv_lstore (lv' := [(4, .long ((3 * (sm (j * 200 + i - 1))) + (ky j))), (3, .int (nI (j * 200 + i))), (0, .ref k0), (1, .int (nI j)), (2, .int (nI i))]) hx hb dX4_due_40 hl (by decide) rfl (fun ls hl => ?_)
    refine lv_lload hx hb dX4_due_42 (lv_at hl 0 rfl) ?_
    refine lv_aload_n hx hb dX4_due_44 rfl (lv_at hl 2 rfl) ?_
    refine va_get (D := G.1) (ci := 5) (v := .ref k5) (C := RX4) (T := TX4) (N := 15) hx hb hts hiX4 hown hE.1 hP 0 rfl rfl 5 (by decide) (hts (.fieldLink RX4 23 "MeterSealsModel" "number" "[J") (by decide +kernel)) (fun _ h9 => h9) rfl dX4_due_45 ?_
    refine lv_iload_n hx hb dX4_due_48 rfl (lv_at hl 1 rfl) ?_
    refine va_lald hx hb hE.1 hP 5 1 rfl rfl (vp_in_nI (show j * 200 + i < 1600 by omega) (by decide)) dX4_due_49 ?_
    rw [nI_clamp (n := j * 200 + i) (by omega)]
    refine x_rl (va_runS (As := [.long ((3 * (sm (j * 200 + i - 1))) + (ky j)), .long (nb (j * 200 + i))]) (rest := []) ⟨hx, hb, hml, hown, hts⟩ (ct_X4_mixed l G ((3 * (sm (j * 200 + i - 1))) + (ky j)) (nb (j * 200 + i))) (va_cwS 2 hts gX4_due_X4_mixed rfl rfl rfl (by decide +kernel) ⟨Nat.le_of_ble_eq_true rfl, Nat.le_of_ble_eq_true rfl⟩) (RdP.preS (fun k q h => by simp at h) hE) rfl rfl hl.1 rfl (lv_room (Nat.le_of_ble_eq_true rfl)) dX4_due_50 ⟨Nat.zero_le _, Nat.zero_le _⟩) (fun r1 er1 => ?_)
    subst er1
    refine lv_lstore (lv' := [(4, .long (f_mix ((3 * (sm (j * 200 + i - 1))) + (ky j)) (nb (j * 200 + i)))), (3, .int (nI (j * 200 + i))), (0, .ref k0), (1, .int (nI j)), (2, .int (nI i))]) hx hb dX4_due_53 hl (by decide) rfl (fun ls hl => ?_)
    refine lv_lload hx hb dX4_due_55 (lv_at hl 0 rfl) ?_
    refine lv_aload_n hx hb dX4_due_57 rfl (lv_at hl 2 rfl) ?_
    refine va_get (D := G.1) (ci := 5) (v := .ref k4) (C := RX4) (T := TX4) (N := 15) hx hb hts hiX4 hown hE.1 hP 0 rfl rfl 4 (by decide) (hts (.fieldLink RX4 20 "MeterSealsModel" "kind" "[I") (by decide +kernel)) (fun _ h9 => h9) rfl dX4_due_58 ?_
    refine lv_iload_n hx hb dX4_due_61 rfl (lv_at hl 1 rfl) ?_
    refine va_iald hx hb hE.1 hP 4 0 rfl rfl (vp_in_nI (show j * 200 + i < 1600 by omega) (by decide)) dX4_due_62 ?_
    rw [nI_clamp (n := j * 200 + i) (by omega)]
    refine lv_if_ne (tgt := 75) hx hb dX4_due_63 (by decide) (fun c63 => ?_) (fun c63 => ?_)
    · refine lv_aload_n hx hb dX4_due_75 rfl (lv_at hl 2 rfl) ?_
      refine va_get (D := G.1) (ci := 5) (v := .ref k4) (C := RX4) (T := TX4) (N := 15) hx hb hts hiX4 hown hE.1 hP 0 rfl rfl 4 (by decide) (hts (.fieldLink RX4 20 "MeterSealsModel" "kind" "[I") (by decide +kernel)) (fun _ h9 => h9) rfl dX4_due_76 ?_
      refine lv_iload_n hx hb dX4_due_79 rfl (lv_at hl 1 rfl) ?_
      refine va_iald hx hb hE.1 hP 4 0 rfl rfl (vp_in_nI (show j * 200 + i < 1600 by omega) (by decide)) dX4_due_80 ?_
      rw [nI_clamp (n := j * 200 + i) (by omega)]
      refine lv_ineg hx hb dX4_due_81 ?_
      refine lv_i2l (v := (-(kd (j * 200 + i))).toInt64) hx hb dX4_due_82 rfl ?_
      refine x_rl (va_runS (As := [.long (f_mix ((3 * (sm (j * 200 + i - 1))) + (ky j)) (nb (j * 200 + i))), .long ((-(kd (j * 200 + i))).toInt64)]) (rest := []) ⟨hx, hb, hml, hown, hts⟩ (ct_X4_mixed l G (f_mix ((3 * (sm (j * 200 + i - 1))) + (ky j)) (nb (j * 200 + i))) ((-(kd (j * 200 + i))).toInt64)) (va_cwS 2 hts gX4_due_X4_mixed rfl rfl rfl (by decide +kernel) ⟨Nat.le_of_ble_eq_true rfl, Nat.le_of_ble_eq_true rfl⟩) (RdP.preS (fun k q h => by simp at h) hE) rfl rfl hl.1 rfl (lv_room (Nat.le_of_ble_eq_true rfl)) dX4_due_83 ⟨Nat.zero_le _, Nat.zero_le _⟩) (fun r2 er2 => ?_)
      subst er2
      refine lv_lstore (lv' := [(4, .long (f_mix (f_mix ((3 * (sm (j * 200 + i - 1))) + (ky j)) (nb (j * 200 + i))) ((-(kd (j * 200 + i))).toInt64))), (3, .int (nI (j * 200 + i))), (0, .ref k0), (1, .int (nI j)), (2, .int (nI i))]) hx hb dX4_due_86 hl (by decide) rfl (fun ls hl => ?_)
      refine lv_lload hx hb dX4_due_88 (lv_at hl 0 rfl) ?_
      refine lv_aload_n hx hb dX4_due_90 rfl (lv_at hl 2 rfl) ?_
      refine va_get (D := G.1) (ci := 5) (v := .ref k4) (C := RX4) (T := TX4) (N := 15) hx hb hts hiX4 hown hE.1 hP 0 rfl rfl 4 (by decide) (hts (.fieldLink RX4 20 "MeterSealsModel" "kind" "[I") (by decide +kernel)) (fun _ h9 => h9) rfl dX4_due_91 ?_
      refine lv_iload_n hx hb dX4_due_94 rfl (lv_at hl 1 rfl) ?_
      refine va_iald hx hb hE.1 hP 4 0 rfl rfl (vp_in_nI (show j * 200 + i < 1600 by omega) (by decide)) dX4_due_95 ?_
      rw [nI_clamp (n := j * 200 + i) (by omega)]
      refine lv_if_ne (tgt := 109) hx hb dX4_due_96 (by decide) (fun c96 => ?_) (fun c96 => absurd c96 c63)
      refine lv_lconst (v := 0) hx hb dX4_due_109 (by decide) ?_
      refine x_rl (va_runS (As := [.long (f_mix (f_mix ((3 * (sm (j * 200 + i - 1))) + (ky j)) (nb (j * 200 + i))) ((-(kd (j * 200 + i))).toInt64)), .long 0]) (rest := []) ⟨hx, hb, hml, hown, hts⟩ (ct_X4_mixed l G (f_mix (f_mix ((3 * (sm (j * 200 + i - 1))) + (ky j)) (nb (j * 200 + i))) ((-(kd (j * 200 + i))).toInt64)) 0) (va_cwS 2 hts gX4_due_X4_mixed rfl rfl rfl (by decide +kernel) ⟨Nat.le_of_ble_eq_true rfl, Nat.le_of_ble_eq_true rfl⟩) (RdP.preS (fun k q h => by simp at h) hE) rfl rfl hl.1 rfl (lv_room (Nat.le_of_ble_eq_true rfl)) dX4_due_110 ⟨Nat.zero_le _, Nat.zero_le _⟩) (fun r3 er3 => ?_)
      subst er3
      exact W.lret (v := (f_mix (f_mix (f_mix ((3 * (sm (j * 200 + i - 1))) + (ky j)) (nb (j * 200 + i))) ((-(kd (j * 200 + i))).toInt64)) 0)) hx hb hr (fun t ht hW => ⟨_, rfl, by simp only [md_due, if_neg c12, if_neg c63], ht⟩) t_nil dX4_due_113
    refine lv_aload_n hx hb dX4_due_66 rfl (lv_at hl 2 rfl) ?_
    refine va_get (D := G.1) (ci := 5) (v := .ref k6) (C := RX4) (T := TX4) (N := 15) hx hb hts hiX4 hown hE.1 hP 0 rfl rfl 6 (by decide) (hts (.fieldLink RX4 26 "MeterSealsModel" "second" "[J") (by decide +kernel)) (fun _ h9 => h9) rfl dX4_due_67 ?_
    refine lv_iload_n hx hb dX4_due_70 rfl (lv_at hl 1 rfl) ?_
    refine va_lald hx hb hE.1 hP 6 1 rfl rfl (vp_in_nI (show j * 200 + i < 1600 by omega) (by decide)) dX4_due_71 ?_
    rw [nI_clamp (n := j * 200 + i) (by omega)]
    refine lv_goto (tgt := 83) hx hb dX4_due_72 (by decide) ?_
    refine x_rl (va_runS (As := [.long (f_mix ((3 * (sm (j * 200 + i - 1))) + (ky j)) (nb (j * 200 + i))), .long (sc (j * 200 + i))]) (rest := []) ⟨hx, hb, hml, hown, hts⟩ (ct_X4_mixed l G (f_mix ((3 * (sm (j * 200 + i - 1))) + (ky j)) (nb (j * 200 + i))) (sc (j * 200 + i))) (va_cwS 2 hts gX4_due_X4_mixed rfl rfl rfl (by decide +kernel) ⟨Nat.le_of_ble_eq_true rfl, Nat.le_of_ble_eq_true rfl⟩) (RdP.preS (fun k q h => by simp at h) hE) rfl rfl hl.1 rfl (lv_room (Nat.le_of_ble_eq_true rfl)) dX4_due_83 ⟨Nat.zero_le _, Nat.zero_le _⟩) (fun r4 er4 => ?_)
    subst er4
    refine lv_lstore (lv' := [(4, .long (f_mix (f_mix ((3 * (sm (j * 200 + i - 1))) + (ky j)) (nb (j * 200 + i))) (sc (j * 200 + i)))), (3, .int (nI (j * 200 + i))), (0, .ref k0), (1, .int (nI j)), (2, .int (nI i))]) hx hb dX4_due_86 hl (by decide) rfl (fun ls hl => ?_)
    refine lv_lload hx hb dX4_due_88 (lv_at hl 0 rfl) ?_
    refine lv_aload_n hx hb dX4_due_90 rfl (lv_at hl 2 rfl) ?_
    refine va_get (D := G.1) (ci := 5) (v := .ref k4) (C := RX4) (T := TX4) (N := 15) hx hb hts hiX4 hown hE.1 hP 0 rfl rfl 4 (by decide) (hts (.fieldLink RX4 20 "MeterSealsModel" "kind" "[I") (by decide +kernel)) (fun _ h9 => h9) rfl dX4_due_91 ?_
    refine lv_iload_n hx hb dX4_due_94 rfl (lv_at hl 1 rfl) ?_
    refine va_iald hx hb hE.1 hP 4 0 rfl rfl (vp_in_nI (show j * 200 + i < 1600 by omega) (by decide)) dX4_due_95 ?_
    rw [nI_clamp (n := j * 200 + i) (by omega)]
    refine lv_if_ne (tgt := 109) hx hb dX4_due_96 (by decide) (fun c96 => absurd c63 c96) (fun c96 => ?_)
    refine lv_aload_n hx hb dX4_due_99 rfl (lv_at hl 2 rfl) ?_
    refine va_get (D := G.1) (ci := 5) (v := .ref k7) (C := RX4) (T := TX4) (N := 15) hx hb hts hiX4 hown hE.1 hP 0 rfl rfl 7 (by decide) (hts (.fieldLink RX4 29 "MeterSealsModel" "warm" "[I") (by decide +kernel)) (fun _ h9 => h9) rfl dX4_due_100 ?_
    refine lv_iload_n hx hb dX4_due_103 rfl (lv_at hl 1 rfl) ?_
    refine va_iald hx hb hE.1 hP 7 0 rfl rfl (vp_in_nI (show j * 200 + i < 1600 by omega) (by decide)) dX4_due_104 ?_
    rw [nI_clamp (n := j * 200 + i) (by omega)]
    refine lv_i2l (v := (wa (j * 200 + i)).toInt64) hx hb dX4_due_105 rfl ?_
    refine lv_goto (tgt := 110) hx hb dX4_due_106 (by decide) ?_
    refine x_rl (va_runS (As := [.long (f_mix (f_mix ((3 * (sm (j * 200 + i - 1))) + (ky j)) (nb (j * 200 + i))) (sc (j * 200 + i))), .long ((wa (j * 200 + i)).toInt64)]) (rest := []) ⟨hx, hb, hml, hown, hts⟩ (ct_X4_mixed l G (f_mix (f_mix ((3 * (sm (j * 200 + i - 1))) + (ky j)) (nb (j * 200 + i))) (sc (j * 200 + i))) ((wa (j * 200 + i)).toInt64)) (va_cwS 2 hts gX4_due_X4_mixed rfl rfl rfl (by decide +kernel) ⟨Nat.le_of_ble_eq_true rfl, Nat.le_of_ble_eq_true rfl⟩) (RdP.preS (fun k q h => by simp at h) hE) rfl rfl hl.1 rfl (lv_room (Nat.le_of_ble_eq_true rfl)) dX4_due_110 ⟨Nat.zero_le _, Nat.zero_le _⟩) (fun r5 er5 => ?_)
    subst er5
    exact W.lret (v := (f_mix (f_mix (f_mix ((3 * (sm (j * 200 + i - 1))) + (ky j)) (nb (j * 200 + i))) (sc (j * 200 + i))) ((wa (j * 200 + i)).toInt64))) hx hb hr (fun t ht hW => ⟨_, rfl, by simp only [md_due, if_neg c12, if_pos c63], ht⟩) t_nil dX4_due_113
  refine lv_aload_n hx hb dX4_due_15 rfl (lv_at hl 1 rfl) ?_
  refine va_get (D := G.1) (ci := 5) (v := .ref k1) (C := RX4) (T := TX4) (N := 15) hx hb hts hiX4 hown hE.1 hP 0 rfl rfl 0 (by decide) (hts (.fieldLink RX4 9 "MeterSealsModel" "keys" "[J") (by decide +kernel)) (fun _ h9 => h9) rfl dX4_due_16 ?_
  refine lv_iload_n hx hb dX4_due_19 rfl (lv_at hl 2 rfl) ?_
  refine va_lald hx hb hE.1 hP 1 1 rfl rfl (vp_in_nI (show j < 8 by omega) (by decide)) dX4_due_20 ?_
  rw [nI_clamp (n := j) (by omega)]
  refine lv_goto (tgt := 32) hx hb dX4_due_21 (by decide) ?_
  refine lv_lmul hx hb dX4_due_32 ?_
  refine lv_aload_n hx hb dX4_due_33 rfl (lv_at hl 1 rfl) ?_
  refine va_get (D := G.1) (ci := 5) (v := .ref k1) (C := RX4) (T := TX4) (N := 15) hx hb hts hiX4 hown hE.1 hP 0 rfl rfl 0 (by decide) (hts (.fieldLink RX4 9 "MeterSealsModel" "keys" "[J") (by decide +kernel)) (fun _ h9 => h9) rfl dX4_due_34 ?_
  refine lv_iload_n hx hb dX4_due_37 rfl (lv_at hl 2 rfl) ?_
  refine va_lald hx hb hE.1 hP 1 1 rfl rfl (vp_in_nI (show j < 8 by omega) (by decide)) dX4_due_38 ?_
  rw [nI_clamp (n := j) (by omega)]
  refine lv_ladd hx hb dX4_due_39 ?_
  refine lv_lstore (lv' := [(4, .long ((3 * (ky j)) + (ky j))), (3, .int (nI (j * 200 + i))), (0, .ref k0), (1, .int (nI j)), (2, .int (nI i))]) hx hb dX4_due_40 hl (by decide) rfl (fun ls hl => ?_)
  refine lv_lload hx hb dX4_due_42 (lv_at hl 0 rfl) ?_
  refine lv_aload_n hx hb dX4_due_44 rfl (lv_at hl 2 rfl) ?_
  refine va_get (D := G.1) (ci := 5) (v := .ref k5) (C := RX4) (T := TX4) (N := 15) hx hb hts hiX4 hown hE.1 hP 0 rfl rfl 5 (by decide) (hts (.fieldLink RX4 23 "MeterSealsModel" "number" "[J") (by decide +kernel)) (fun _ h9 => h9) rfl dX4_due_45 ?_
  refine lv_iload_n hx hb dX4_due_48 rfl (lv_at hl 1 rfl) ?_
  refine va_lald hx hb hE.1 hP 5 1 rfl rfl (vp_in_nI (show j * 200 + i < 1600 by omega) (by decide)) dX4_due_49 ?_
  rw [nI_clamp (n := j * 200 + i) (by omega)]
  refine x_rl (va_runS (As := [.long ((3 * (ky j)) + (ky j)), .long (nb (j * 200 + i))]) (rest := []) ⟨hx, hb, hml, hown, hts⟩ (ct_X4_mixed l G ((3 * (ky j)) + (ky j)) (nb (j * 200 + i))) (va_cwS 2 hts gX4_due_X4_mixed rfl rfl rfl (by decide +kernel) ⟨Nat.le_of_ble_eq_true rfl, Nat.le_of_ble_eq_true rfl⟩) (RdP.preS (fun k q h => by simp at h) hE) rfl rfl hl.1 rfl (lv_room (Nat.le_of_ble_eq_true rfl)) dX4_due_50 ⟨Nat.zero_le _, Nat.zero_le _⟩) (fun r6 er6 => ?_)
  subst er6
  refine lv_lstore (lv' := [(4, .long (f_mix ((3 * (ky j)) + (ky j)) (nb (j * 200 + i)))), (3, .int (nI (j * 200 + i))), (0, .ref k0), (1, .int (nI j)), (2, .int (nI i))]) hx hb dX4_due_53 hl (by decide) rfl (fun ls hl => ?_)
  refine lv_lload hx hb dX4_due_55 (lv_at hl 0 rfl) ?_
  refine lv_aload_n hx hb dX4_due_57 rfl (lv_at hl 2 rfl) ?_
  refine va_get (D := G.1) (ci := 5) (v := .ref k4) (C := RX4) (T := TX4) (N := 15) hx hb hts hiX4 hown hE.1 hP 0 rfl rfl 4 (by decide) (hts (.fieldLink RX4 20 "MeterSealsModel" "kind" "[I") (by decide +kernel)) (fun _ h9 => h9) rfl dX4_due_58 ?_
  refine lv_iload_n hx hb dX4_due_61 rfl (lv_at hl 1 rfl) ?_
  refine va_iald hx hb hE.1 hP 4 0 rfl rfl (vp_in_nI (show j * 200 + i < 1600 by omega) (by decide)) dX4_due_62 ?_
  rw [nI_clamp (n := j * 200 + i) (by omega)]
  refine lv_if_ne (tgt := 75) hx hb dX4_due_63 (by decide) (fun c63 => ?_) (fun c63 => ?_)
  · refine lv_aload_n hx hb dX4_due_75 rfl (lv_at hl 2 rfl) ?_
    refine va_get (D := G.1) (ci := 5) (v := .ref k4) (C := RX4) (T := TX4) (N := 15) hx hb hts hiX4 hown hE.1 hP 0 rfl rfl 4 (by decide) (hts (.fieldLink RX4 20 "MeterSealsModel" "kind" "[I") (by decide +kernel)) (fun _ h9 => h9) rfl dX4_due_76 ?_
    refine lv_iload_n hx hb dX4_due_79 rfl (lv_at hl 1 rfl) ?_
    refine va_iald hx hb hE.1 hP 4 0 rfl rfl (vp_in_nI (show j * 200 + i < 1600 by omega) (by decide)) dX4_due_80 ?_
    rw [nI_clamp (n := j * 200 + i) (by omega)]
    refine lv_ineg hx hb dX4_due_81 ?_
    refine lv_i2l (v := (-(kd (j * 200 + i))).toInt64) hx hb dX4_due_82 rfl ?_
    refine x_rl (va_runS (As := [.long (f_mix ((3 * (ky j)) + (ky j)) (nb (j * 200 + i))), .long ((-(kd (j * 200 + i))).toInt64)]) (rest := []) ⟨hx, hb, hml, hown, hts⟩ (ct_X4_mixed l G (f_mix ((3 * (ky j)) + (ky j)) (nb (j * 200 + i))) ((-(kd (j * 200 + i))).toInt64)) (va_cwS 2 hts gX4_due_X4_mixed rfl rfl rfl (by decide +kernel) ⟨Nat.le_of_ble_eq_true rfl, Nat.le_of_ble_eq_true rfl⟩) (RdP.preS (fun k q h => by simp at h) hE) rfl rfl hl.1 rfl (lv_room (Nat.le_of_ble_eq_true rfl)) dX4_due_83 ⟨Nat.zero_le _, Nat.zero_le _⟩) (fun r7 er7 => ?_)
    subst er7
    refine lv_lstore (lv' := [(4, .long (f_mix (f_mix ((3 * (ky j)) + (ky j)) (nb (j * 200 + i))) ((-(kd (j * 200 + i))).toInt64))), (3, .int (nI (j * 200 + i))), (0, .ref k0), (1, .int (nI j)), (2, .int (nI i))]) hx hb dX4_due_86 hl (by decide) rfl (fun ls hl => ?_)
    refine lv_lload hx hb dX4_due_88 (lv_at hl 0 rfl) ?_
    refine lv_aload_n hx hb dX4_due_90 rfl (lv_at hl 2 rfl) ?_
    refine va_get (D := G.1) (ci := 5) (v := .ref k4) (C := RX4) (T := TX4) (N := 15) hx hb hts hiX4 hown hE.1 hP 0 rfl rfl 4 (by decide) (hts (.fieldLink RX4 20 "MeterSealsModel" "kind" "[I") (by decide +kernel)) (fun _ h9 => h9) rfl dX4_due_91 ?_
    refine lv_iload_n hx hb dX4_due_94 rfl (lv_at hl 1 rfl) ?_
    refine va_iald hx hb hE.1 hP 4 0 rfl rfl (vp_in_nI (show j * 200 + i < 1600 by omega) (by decide)) dX4_due_95 ?_
    rw [nI_clamp (n := j * 200 + i) (by omega)]
    refine lv_if_ne (tgt := 109) hx hb dX4_due_96 (by decide) (fun c96 => ?_) (fun c96 => absurd c96 c63)
    refine lv_lconst (v := 0) hx hb dX4_due_109 (by decide) ?_
    refine x_rl (va_runS (As := [.long (f_mix (f_mix ((3 * (ky j)) + (ky j)) (nb (j * 200 + i))) ((-(kd (j * 200 + i))).toInt64)), .long 0]) (rest := []) ⟨hx, hb, hml, hown, hts⟩ (ct_X4_mixed l G (f_mix (f_mix ((3 * (ky j)) + (ky j)) (nb (j * 200 + i))) ((-(kd (j * 200 + i))).toInt64)) 0) (va_cwS 2 hts gX4_due_X4_mixed rfl rfl rfl (by decide +kernel) ⟨Nat.le_of_ble_eq_true rfl, Nat.le_of_ble_eq_true rfl⟩) (RdP.preS (fun k q h => by simp at h) hE) rfl rfl hl.1 rfl (lv_room (Nat.le_of_ble_eq_true rfl)) dX4_due_110 ⟨Nat.zero_le _, Nat.zero_le _⟩) (fun r8 er8 => ?_)
    subst er8
    exact W.lret (v := (f_mix (f_mix (f_mix ((3 * (ky j)) + (ky j)) (nb (j * 200 + i))) ((-(kd (j * 200 + i))).toInt64)) 0)) hx hb hr (fun t ht hW => ⟨_, rfl, by simp only [md_due, if_pos c12, if_neg c63], ht⟩) t_nil dX4_due_113
  refine lv_aload_n hx hb dX4_due_66 rfl (lv_at hl 2 rfl) ?_
  refine va_get (D := G.1) (ci := 5) (v := .ref k6) (C := RX4) (T := TX4) (N := 15) hx hb hts hiX4 hown hE.1 hP 0 rfl rfl 6 (by decide) (hts (.fieldLink RX4 26 "MeterSealsModel" "second" "[J") (by decide +kernel)) (fun _ h9 => h9) rfl dX4_due_67 ?_
  refine lv_iload_n hx hb dX4_due_70 rfl (lv_at hl 1 rfl) ?_
  refine va_lald hx hb hE.1 hP 6 1 rfl rfl (vp_in_nI (show j * 200 + i < 1600 by omega) (by decide)) dX4_due_71 ?_
  rw [nI_clamp (n := j * 200 + i) (by omega)]
  refine lv_goto (tgt := 83) hx hb dX4_due_72 (by decide) ?_
  refine x_rl (va_runS (As := [.long (f_mix ((3 * (ky j)) + (ky j)) (nb (j * 200 + i))), .long (sc (j * 200 + i))]) (rest := []) ⟨hx, hb, hml, hown, hts⟩ (ct_X4_mixed l G (f_mix ((3 * (ky j)) + (ky j)) (nb (j * 200 + i))) (sc (j * 200 + i))) (va_cwS 2 hts gX4_due_X4_mixed rfl rfl rfl (by decide +kernel) ⟨Nat.le_of_ble_eq_true rfl, Nat.le_of_ble_eq_true rfl⟩) (RdP.preS (fun k q h => by simp at h) hE) rfl rfl hl.1 rfl (lv_room (Nat.le_of_ble_eq_true rfl)) dX4_due_83 ⟨Nat.zero_le _, Nat.zero_le _⟩) (fun r9 er9 => ?_)
  subst er9
  refine lv_lstore (lv' := [(4, .long (f_mix (f_mix ((3 * (ky j)) + (ky j)) (nb (j * 200 + i))) (sc (j * 200 + i)))), (3, .int (nI (j * 200 + i))), (0, .ref k0), (1, .int (nI j)), (2, .int (nI i))]) hx hb dX4_due_86 hl (by decide) rfl (fun ls hl => ?_)
  refine lv_lload hx hb dX4_due_88 (lv_at hl 0 rfl) ?_
  refine lv_aload_n hx hb dX4_due_90 rfl (lv_at hl 2 rfl) ?_
  refine va_get (D := G.1) (ci := 5) (v := .ref k4) (C := RX4) (T := TX4) (N := 15) hx hb hts hiX4 hown hE.1 hP 0 rfl rfl 4 (by decide) (hts (.fieldLink RX4 20 "MeterSealsModel" "kind" "[I") (by decide +kernel)) (fun _ h9 => h9) rfl dX4_due_91 ?_
  refine lv_iload_n hx hb dX4_due_94 rfl (lv_at hl 1 rfl) ?_
  refine va_iald hx hb hE.1 hP 4 0 rfl rfl (vp_in_nI (show j * 200 + i < 1600 by omega) (by decide)) dX4_due_95 ?_
  rw [nI_clamp (n := j * 200 + i) (by omega)]
  refine lv_if_ne (tgt := 109) hx hb dX4_due_96 (by decide) (fun c96 => absurd c63 c96) (fun c96 => ?_)
  refine lv_aload_n hx hb dX4_due_99 rfl (lv_at hl 2 rfl) ?_
  refine va_get (D := G.1) (ci := 5) (v := .ref k7) (C := RX4) (T := TX4) (N := 15) hx hb hts hiX4 hown hE.1 hP 0 rfl rfl 7 (by decide) (hts (.fieldLink RX4 29 "MeterSealsModel" "warm" "[I") (by decide +kernel)) (fun _ h9 => h9) rfl dX4_due_100 ?_
  refine lv_iload_n hx hb dX4_due_103 rfl (lv_at hl 1 rfl) ?_
  refine va_iald hx hb hE.1 hP 7 0 rfl rfl (vp_in_nI (show j * 200 + i < 1600 by omega) (by decide)) dX4_due_104 ?_
  rw [nI_clamp (n := j * 200 + i) (by omega)]
  refine lv_i2l (v := (wa (j * 200 + i)).toInt64) hx hb dX4_due_105 rfl ?_
  refine lv_goto (tgt := 110) hx hb dX4_due_106 (by decide) ?_
  refine x_rl (va_runS (As := [.long (f_mix (f_mix ((3 * (ky j)) + (ky j)) (nb (j * 200 + i))) (sc (j * 200 + i))), .long ((wa (j * 200 + i)).toInt64)]) (rest := []) ⟨hx, hb, hml, hown, hts⟩ (ct_X4_mixed l G (f_mix (f_mix ((3 * (ky j)) + (ky j)) (nb (j * 200 + i))) (sc (j * 200 + i))) ((wa (j * 200 + i)).toInt64)) (va_cwS 2 hts gX4_due_X4_mixed rfl rfl rfl (by decide +kernel) ⟨Nat.le_of_ble_eq_true rfl, Nat.le_of_ble_eq_true rfl⟩) (RdP.preS (fun k q h => by simp at h) hE) rfl rfl hl.1 rfl (lv_room (Nat.le_of_ble_eq_true rfl)) dX4_due_110 ⟨Nat.zero_le _, Nat.zero_le _⟩) (fun r10 er10 => ?_)
  subst er10
  exact W.lret (v := (f_mix (f_mix (f_mix ((3 * (ky j)) + (ky j)) (nb (j * 200 + i))) (sc (j * 200 + i))) ((wa (j * 200 + i)).toInt64))) hx hb hr (fun t ht hW => ⟨_, rfl, by simp only [md_due, if_pos c12, if_pos c63], ht⟩) t_nil dX4_due_113

set_option maxHeartbeats 4000000 in
set_option maxRecDepth 100000 in
/-- X4_isSet -/
theorem ct_X4_isSet (l : Launch) (G : Gx) (k0 k1 k2 k3 k4 k5 k6 k7 k8 k9 k10 k11 k12 : Nat) (mc : Nat) (len thr : Int32) (ky : Nat → Int64) (ro ln kd : Nat → Int32) (nb sc : Nat → Int64) (wa : Nat → Int32) (sm : Nat → Int64) (ld : Nat → Int32) (lo lw : Nat → Int64) (tx : Nat → Int32) (j b : Nat) (hj : j < 8) (hb2 : b ≤ 200) : Met l yX4_isSet wsX4_isSet ({ frames := 0, cells := 0, slots := 0, locals := 0 }) (RdP G (wK G k0 k1 k2 k3 k4 k5 k6 k7 k8 k9 k10 k11 k12 (nI mc) len thr ky ro ln kd nb sc wa sm ld lo lw tx) [.ref k0, .int (nI j), .int (nI b)]) (vp_Si (fun r => r = md_is kd j b)) 0 0 (fun _ => False) := by
  refine Met.ofW (cc := cX4_isSet) (maxL := 6) (ret := (some .boolean)) (by decide) rfl ?_
  intro p e s m args below meth c s₁ B hml hv
  obtain ⟨rfl, hP, hE⟩ := hv
  have hx := B.exec
  have hb := B.bytes
  have hr := B.returns
  have hts := atoms_spec (ws := wsX4_isSet) B.pre
  have hown : s.vm.findClass RX4 = some m.cls := findClass_of_methodNamed B.named
  have hlocks := B.notSynchronized
  have hiX4 : ∀ w ∈ wsX40, w ∈ wsX4_isSet := by decide +kernel
  have hl := lv_entry ([.ref k0, .int (nI j), .int (nI b)]) (n := 6) (Nat.le_of_ble_eq_true rfl)
  rw [lg_entry_eq]
  generalize (lg_sl ([.ref k0, .int (nI j), .int (nI b)]) ++ List.replicate (6 - (lg_sl ([.ref k0, .int (nI j), .int (nI b)])).length) Slot.unset).toArray = ls at hl ⊢
  replace hl : lv_has ls 6 [(0, .ref k0), (1, .int (nI j)), (2, .int (nI b))] := hl
  refine lv_iconst (v := 1) hx hb dX4_isSet_0 (by decide) ?_
  refine lv_istore_n (lv' := [(3, .int 1), (0, .ref k0), (1, .int (nI j)), (2, .int (nI b))]) hx hb dX4_isSet_1 rfl hl (by decide) rfl (fun ls hl => ?_)
  refine lv_iconst (v := 0) hx hb dX4_isSet_2 (by decide) ?_
  refine lv_istore (lv' := [(4, .int 0), (3, .int 1), (0, .ref k0), (1, .int (nI j)), (2, .int (nI b))]) hx hb dX4_isSet_3 hl (by decide) rfl (fun ls hl => ?_)
  obtain ⟨i, hi⟩ : ∃ i : Nat, i = 0 := ⟨_, rfl⟩
  replace hl : lv_has ls 6 [(4, .int (nI i)), (3, .int (md_is kd j i)), (0, .ref k0), (1, .int (nI j)), (2, .int (nI b))] := by rw [hi]; exact hl
  obtain ⟨k, hk⟩ : ∃ k : Nat, i + k = b := ⟨b - i, by omega⟩
  clear hi
  induction k generalizing i ls with
  | zero =>
    have hib : i = b := hk
    refine lv_iload hx hb dX4_isSet_5 (lv_at hl 0 rfl) ?_
    refine lv_iload_n hx hb dX4_isSet_7 rfl (lv_at hl 4 rfl) ?_
    refine lv_icmp_ge (tgt := 58) hx hb dX4_isSet_8 (by decide) (fun c8 => ?_) (fun c8 => absurd (nI_le (by omega) (by omega)) c8)
    refine lv_iload_n hx hb dX4_isSet_58 rfl (lv_at hl 1 rfl) ?_
    exact W.zret (v := (md_is kd j i)) hx hb hr (zb (md_is01 kd j i)) (fun t ht hW => ⟨_, rfl, by rw [hib], ht⟩) t_nil dX4_isSet_59
  | succ k ih =>
    refine lv_iload hx hb dX4_isSet_5 (lv_at hl 0 rfl) ?_
    refine lv_iload_n hx hb dX4_isSet_7 rfl (lv_at hl 4 rfl) ?_
    refine lv_icmp_ge (tgt := 58) hx hb dX4_isSet_8 (by decide) (fun c8 => absurd c8 (nI_ge (by omega) (by omega))) (fun c8 => ?_)
    refine lv_aload_n hx hb dX4_isSet_11 rfl (lv_at hl 2 rfl) ?_
    refine va_get (D := G.1) (ci := 5) (v := .ref k4) (C := RX4) (T := TX4) (N := 15) hx hb hts hiX4 hown hE.1 hP 0 rfl rfl 4 (by decide) (hts (.fieldLink RX4 20 "MeterSealsModel" "kind" "[I") (by decide +kernel)) (fun _ h9 => h9) rfl dX4_isSet_12 ?_
    refine lv_iload_n hx hb dX4_isSet_15 rfl (lv_at hl 3 rfl) ?_
    refine lv_sipush (v := 200) hx hb dX4_isSet_16 (by decide) ?_
    refine lv_imul hx hb dX4_isSet_19 ?_
    rw [nI_mul200 j]
    refine lv_iload hx hb dX4_isSet_20 (lv_at hl 0 rfl) ?_
    refine lv_iadd hx hb dX4_isSet_22 ?_
    rw [nI_add (j * 200) i]
    refine va_iald hx hb hE.1 hP 4 0 rfl rfl (vp_in_nI (show j * 200 + i < 1600 by omega) (by decide)) dX4_isSet_23 ?_
    rw [nI_clamp (n := j * 200 + i) (by omega)]
    refine lv_istore (lv' := [(5, .int (kd (j * 200 + i))), (4, .int (nI i)), (3, .int (md_is kd j i)), (0, .ref k0), (1, .int (nI j)), (2, .int (nI b))]) hx hb dX4_isSet_24 hl (by decide) rfl (fun ls hl => ?_)
    refine lv_iload hx hb dX4_isSet_26 (lv_at hl 0 rfl) ?_
    refine lv_iconst (v := 2) hx hb dX4_isSet_28 (by decide) ?_
    refine lv_icmp_ne (tgt := 36) hx hb dX4_isSet_29 (by decide) (fun c29 => ?_) (fun c29 => ?_)
    · refine lv_iload hx hb dX4_isSet_36 (lv_at hl 0 rfl) ?_
      refine lv_iconst (v := 3) hx hb dX4_isSet_38 (by decide) ?_
      refine lv_icmp_eq (tgt := 46) hx hb dX4_isSet_39 (by decide) (fun c39 => ?_) (fun c39 => ?_)
      · refine lv_iconst (v := 1) hx hb dX4_isSet_46 (by decide) ?_
        refine lv_goto (tgt := 51) hx hb dX4_isSet_47 (by decide) ?_
        refine lv_istore_n (lv' := [(3, .int 1), (5, .int (kd (j * 200 + i))), (4, .int (nI i)), (0, .ref k0), (1, .int (nI j)), (2, .int (nI b))]) hx hb dX4_isSet_51 rfl hl (by decide) rfl (fun ls hl => ?_)
        refine lv_iinc (v := (nI (i + 1))) (lv' := [(4, .int (nI (i + 1))), (3, .int 1), (5, .int (kd (j * 200 + i))), (0, .ref k0), (1, .int (nI j)), (2, .int (nI b))]) hx hb dX4_isSet_52 hl (k := 2) rfl (nI_1 i) (by decide) rfl (fun ls hl => ?_)
        refine lv_goto (tgt := 5) hx hb dX4_isSet_55 (by decide) ?_
        exact ih ls (i + 1) (by rw [show md_is kd j (i + 1) = 1 from by simp only [md_is, md_st, if_neg c29, if_pos c39]]; exact lv_sub hl [0, 1, 3, 4, 5] rfl) (by omega)
      refine lv_iload_n hx hb dX4_isSet_42 rfl (lv_at hl 2 rfl) ?_
      refine lv_if_eq (tgt := 50) hx hb dX4_isSet_43 (by decide) (fun c43 => ?_) (fun c43 => ?_)
      · refine lv_iconst (v := 0) hx hb dX4_isSet_50 (by decide) ?_
        refine lv_istore_n (lv' := [(3, .int 0), (5, .int (kd (j * 200 + i))), (4, .int (nI i)), (0, .ref k0), (1, .int (nI j)), (2, .int (nI b))]) hx hb dX4_isSet_51 rfl hl (by decide) rfl (fun ls hl => ?_)
        refine lv_iinc (v := (nI (i + 1))) (lv' := [(4, .int (nI (i + 1))), (3, .int 0), (5, .int (kd (j * 200 + i))), (0, .ref k0), (1, .int (nI j)), (2, .int (nI b))]) hx hb dX4_isSet_52 hl (k := 2) rfl (nI_1 i) (by decide) rfl (fun ls hl => ?_)
        refine lv_goto (tgt := 5) hx hb dX4_isSet_55 (by decide) ?_
        exact ih ls (i + 1) (by rw [show md_is kd j (i + 1) = 0 from by simp only [md_is, md_st, if_neg c29, if_neg c39, if_pos c43]]; exact lv_sub hl [0, 1, 3, 4, 5] rfl) (by omega)
      refine lv_iconst (v := 1) hx hb dX4_isSet_46 (by decide) ?_
      refine lv_goto (tgt := 51) hx hb dX4_isSet_47 (by decide) ?_
      refine lv_istore_n (lv' := [(3, .int 1), (5, .int (kd (j * 200 + i))), (4, .int (nI i)), (0, .ref k0), (1, .int (nI j)), (2, .int (nI b))]) hx hb dX4_isSet_51 rfl hl (by decide) rfl (fun ls hl => ?_)
      refine lv_iinc (v := (nI (i + 1))) (lv' := [(4, .int (nI (i + 1))), (3, .int 1), (5, .int (kd (j * 200 + i))), (0, .ref k0), (1, .int (nI j)), (2, .int (nI b))]) hx hb dX4_isSet_52 hl (k := 2) rfl (nI_1 i) (by decide) rfl (fun ls hl => ?_)
      refine lv_goto (tgt := 5) hx hb dX4_isSet_55 (by decide) ?_
      exact ih ls (i + 1) (by rw [show md_is kd j (i + 1) = 1 from by simp only [md_is, md_st, if_neg c29, if_neg c39, if_neg c43]]; exact lv_sub hl [0, 1, 3, 4, 5] rfl) (by omega)
    refine lv_iconst (v := 0) hx hb dX4_isSet_32 (by decide) ?_
    refine lv_goto (tgt := 51) hx hb dX4_isSet_33 (by decide) ?_
    refine lv_istore_n (lv' := [(3, .int 0), (5, .int (kd (j * 200 + i))), (4, .int (nI i)), (0, .ref k0), (1, .int (nI j)), (2, .int (nI b))]) hx hb dX4_isSet_51 rfl hl (by decide) rfl (fun ls hl => ?_)
    refine lv_iinc (v := (nI (i + 1))) (lv' := [(4, .int (nI (i + 1))), (3, .int 0), (5, .int (kd (j * 200 + i))), (0, .ref k0), (1, .int (nI j)), (2, .int (nI b))]) hx hb dX4_isSet_52 hl (k := 2) rfl (nI_1 i) (by decide) rfl (fun ls hl => ?_)
    refine lv_goto (tgt := 5) hx hb dX4_isSet_55 (by decide) ?_
    exact ih ls (i + 1) (by rw [show md_is kd j (i + 1) = 0 from by simp only [md_is, md_st, if_pos c29]]; exact lv_sub hl [0, 1, 3, 4, 5] rfl) (by omega)

set_option maxHeartbeats 4000000 in
set_option maxRecDepth 100000 in
/-- X4_isMarked -/
theorem ct_X4_isMarked (l : Launch) (G : Gx) (k0 k1 k2 k3 k4 k5 k6 k7 k8 k9 k10 k11 k12 : Nat) (mc : Nat) (len thr : Int32) (ky : Nat → Int64) (ro ln kd : Nat → Int32) (nb sc : Nat → Int64) (wa : Nat → Int32) (sm : Nat → Int64) (ld : Nat → Int32) (lo lw : Nat → Int64) (tx : Nat → Int32) (j i : Nat) (hj : j < 8) (hi : i < 200) : Met l yX4_isMarked wsX4_isMarked ({ frames := 1, cells := 0, slots := 0, locals := 25 }) (RdP G (wK G k0 k1 k2 k3 k4 k5 k6 k7 k8 k9 k10 k11 k12 (nI mc) len thr ky ro ln kd nb sc wa sm ld lo lw tx) [.ref k0, .int (nI j), .int (nI i)]) (vp_Si (fun r => r = md_mk kd j i)) 0 0 (fun _ => False) := by
  refine Met.ofW (cc := cX4_isMarked) (maxL := 4) (ret := (some .boolean)) (by decide) rfl ?_
  intro p e s m args below meth c s₁ B hml hv
  obtain ⟨rfl, hP, hE⟩ := hv
  have hx := B.exec
  have hb := B.bytes
  have hr := B.returns
  have hts := atoms_spec (ws := wsX4_isMarked) B.pre
  have hown : s.vm.findClass RX4 = some m.cls := findClass_of_methodNamed B.named
  have hlocks := B.notSynchronized
  have hiX4 : ∀ w ∈ wsX40, w ∈ wsX4_isMarked := by decide +kernel
  have hl := lv_entry ([.ref k0, .int (nI j), .int (nI i)]) (n := 4) (Nat.le_of_ble_eq_true rfl)
  rw [lg_entry_eq]
  generalize (lg_sl ([.ref k0, .int (nI j), .int (nI i)]) ++ List.replicate (4 - (lg_sl ([.ref k0, .int (nI j), .int (nI i)])).length) Slot.unset).toArray = ls at hl ⊢
  replace hl : lv_has ls 4 [(0, .ref k0), (1, .int (nI j)), (2, .int (nI i))] := hl
  refine lv_aload_n hx hb dX4_isMarked_0 rfl (lv_at hl 0 rfl) ?_
  refine va_get (D := G.1) (ci := 5) (v := .ref k4) (C := RX4) (T := TX4) (N := 15) hx hb hts hiX4 hown hE.1 hP 0 rfl rfl 4 (by decide) (hts (.fieldLink RX4 20 "MeterSealsModel" "kind" "[I") (by decide +kernel)) (fun _ h9 => h9) rfl dX4_isMarked_1 ?_
  refine lv_iload_n hx hb dX4_isMarked_4 rfl (lv_at hl 1 rfl) ?_
  refine lv_sipush (v := 200) hx hb dX4_isMarked_5 (by decide) ?_
  refine lv_imul hx hb dX4_isMarked_8 ?_
  rw [nI_mul200 j]
  refine lv_iload_n hx hb dX4_isMarked_9 rfl (lv_at hl 2 rfl) ?_
  refine lv_iadd hx hb dX4_isMarked_10 ?_
  rw [nI_add (j * 200) i]
  refine va_iald hx hb hE.1 hP 4 0 rfl rfl (vp_in_nI (show j * 200 + i < 1600 by omega) (by decide)) dX4_isMarked_11 ?_
  rw [nI_clamp (n := j * 200 + i) (by omega)]
  refine lv_istore_n (lv' := [(3, .int (kd (j * 200 + i))), (0, .ref k0), (1, .int (nI j)), (2, .int (nI i))]) hx hb dX4_isMarked_12 rfl hl (by decide) rfl (fun ls hl => ?_)
  refine lv_iload_n hx hb dX4_isMarked_13 rfl (lv_at hl 0 rfl) ?_
  refine lv_iconst (v := 2) hx hb dX4_isMarked_14 (by decide) ?_
  refine lv_icmp_eq (tgt := 32) hx hb dX4_isMarked_15 (by decide) (fun c15 => ?_) (fun c15 => ?_)
  · refine lv_iconst (v := 1) hx hb dX4_isMarked_32 (by decide) ?_
    refine lv_goto (tgt := 37) hx hb dX4_isMarked_33 (by decide) ?_
    exact W.zret (v := 1) hx hb hr (zb (Or.inr rfl)) (fun t ht hW => ⟨_, rfl, by simp only [md_mk, if_pos c15], ht⟩) t_nil dX4_isMarked_37
  refine lv_iload_n hx hb dX4_isMarked_18 rfl (lv_at hl 0 rfl) ?_
  refine lv_iconst (v := 3) hx hb dX4_isMarked_19 (by decide) ?_
  refine lv_icmp_eq (tgt := 32) hx hb dX4_isMarked_20 (by decide) (fun c20 => ?_) (fun c20 => ?_)
  · refine lv_iconst (v := 1) hx hb dX4_isMarked_32 (by decide) ?_
    refine lv_goto (tgt := 37) hx hb dX4_isMarked_33 (by decide) ?_
    exact W.zret (v := 1) hx hb hr (zb (Or.inr rfl)) (fun t ht hW => ⟨_, rfl, by simp only [md_mk, if_neg c15, if_pos c20], ht⟩) t_nil dX4_isMarked_37
  refine lv_aload_n hx hb dX4_isMarked_23 rfl (lv_at hl 1 rfl) ?_
  refine lv_iload_n hx hb dX4_isMarked_24 rfl (lv_at hl 2 rfl) ?_
  refine lv_iload_n hx hb dX4_isMarked_25 rfl (lv_at hl 3 rfl) ?_
  refine x_ri (va_runV (As := [.int (nI j), .int (nI i)]) (rest := []) ⟨hx, hb, hml, hown, hts⟩ (ct_X4_isSet l G k0 k1 k2 k3 k4 k5 k6 k7 k8 k9 k10 k11 k12 mc len thr ky ro ln kd nb sc wa sm ld lo lw tx j i hj (by omega)) (cwV 2 hts gX4_isMarked_X4_isSet rfl rfl rfl (by decide +kernel) ⟨Nat.le_of_ble_eq_true rfl, Nat.le_of_ble_eq_true rfl⟩) (RdP.preV 0 5 rfl rfl hP hE) rfl rfl hl.1 rfl (lv_room (Nat.le_of_ble_eq_true rfl)) dX4_isMarked_26 ⟨Nat.zero_le _, Nat.zero_le _⟩) (fun r1 er1 => ?_)
  subst er1
  refine lv_if_ne (tgt := 36) hx hb dX4_isMarked_29 (by decide) (fun c29 => ?_) (fun c29 => ?_)
  · refine lv_iconst (v := 0) hx hb dX4_isMarked_36 (by decide) ?_
    exact W.zret (v := 0) hx hb hr (zb (Or.inl rfl)) (fun t ht hW => ⟨_, rfl, by simp only [md_mk, if_neg c15, if_neg c20, if_neg c29], ht⟩) t_nil dX4_isMarked_37
  refine lv_iconst (v := 1) hx hb dX4_isMarked_32 (by decide) ?_
  refine lv_goto (tgt := 37) hx hb dX4_isMarked_33 (by decide) ?_
  exact W.zret (v := 1) hx hb hr (zb (Or.inr rfl)) (fun t ht hW => ⟨_, rfl, by simp only [md_mk, if_neg c15, if_neg c20, if_pos c29], ht⟩) t_nil dX4_isMarked_37

set_option maxHeartbeats 4000000 in
set_option maxRecDepth 100000 in
/-- X4_line -/
theorem ct_X4_line (l : Launch) (G : Gx) (k0 k1 k2 k3 k4 k5 k6 k7 k8 k9 k10 k11 k12 : Nat) (mc : Nat) (len thr : Int32) (ky : Nat → Int64) (ro ln kd : Nat → Int32) (nb sc : Nat → Int64) (wa : Nat → Int32) (sm : Nat → Int64) (ld : Nat → Int32) (lo lw : Nat → Int64) (tx : Nat → Int32) (j t : Nat) (d : Int32) (hj : j < 8) (ht : t ≤ 16) (hln : ln j = nI t) : Met l yX4_line wsX4_line ({ frames := 0, cells := 0, slots := 0, locals := 0 }) (RdP G (wK G k0 k1 k2 k3 k4 k5 k6 k7 k8 k9 k10 k11 k12 (nI mc) len thr ky ro ln kd nb sc wa sm ld lo lw tx) [.ref k0, .int (nI j), .int d]) (vp_Si (fun r => r = md_ln ld j d t)) 0 0 (fun _ => False) := by
  refine Met.ofW (cc := cX4_line) (maxL := 7) (ret := (some .int)) (by decide) rfl ?_
  intro p e s m args below meth c s₁ B hml hv
  obtain ⟨rfl, hP, hE⟩ := hv
  have hx := B.exec
  have hb := B.bytes
  have hr := B.returns
  have hts := atoms_spec (ws := wsX4_line) B.pre
  have hown : s.vm.findClass RX4 = some m.cls := findClass_of_methodNamed B.named
  have hlocks := B.notSynchronized
  have hiX4 : ∀ w ∈ wsX40, w ∈ wsX4_line := by decide +kernel
  have hl := lv_entry ([.ref k0, .int (nI j), .int d]) (n := 7) (Nat.le_of_ble_eq_true rfl)
  rw [lg_entry_eq]
  generalize (lg_sl ([.ref k0, .int (nI j), .int d]) ++ List.replicate (7 - (lg_sl ([.ref k0, .int (nI j), .int d])).length) Slot.unset).toArray = ls at hl ⊢
  replace hl : lv_has ls 7 [(0, .ref k0), (1, .int (nI j)), (2, .int d)] := hl
  refine lv_iconst (v := (-1)) hx hb dX4_line_0 (by decide) ?_
  refine lv_istore_n (lv' := [(3, .int (-1)), (0, .ref k0), (1, .int (nI j)), (2, .int d)]) hx hb dX4_line_1 rfl hl (by decide) rfl (fun ls hl => ?_)
  refine lv_iconst (v := (-1)) hx hb dX4_line_2 (by decide) ?_
  refine lv_istore (lv' := [(4, .int (-1)), (3, .int (-1)), (0, .ref k0), (1, .int (nI j)), (2, .int d)]) hx hb dX4_line_3 hl (by decide) rfl (fun ls hl => ?_)
  refine lv_iload_n hx hb dX4_line_5 rfl (lv_at hl 3 rfl) ?_
  refine lv_bipush (v := 16) hx hb dX4_line_6 (by decide) ?_
  refine lv_imul hx hb dX4_line_8 ?_
  rw [nI_mul16 j]
  refine lv_istore (lv' := [(5, .int (nI (j * 16))), (4, .int (-1)), (3, .int (-1)), (0, .ref k0), (1, .int (nI j)), (2, .int d)]) hx hb dX4_line_9 hl (by decide) rfl (fun ls hl => ?_)
  obtain ⟨i, hi⟩ : ∃ i : Nat, i = 0 := ⟨_, rfl⟩
  obtain ⟨le, hle⟩ : ∃ x : Int32, x = -1 := ⟨_, rfl⟩
  obtain ⟨un, hun⟩ : ∃ x : Int32, x = -1 := ⟨_, rfl⟩
  replace hl : lv_has ls 7 [(5, .int (nI (j * 16 + i))), (4, .int le), (3, .int un), (0, .ref k0), (1, .int (nI j)), (2, .int d)] := by rw [hi, hle, hun]; exact hl
  have hLe : ln_I j i le := Or.inl hle
  have hUn : ln_I j i un := Or.inl hun
  obtain ⟨k, hk⟩ : ∃ k : Nat, i + k = t := ⟨t - i, by omega⟩
  have hv : md_lnF ld j d k i un le = md_ln ld j d t := by rw [md_ln, hi, hle, hun, show k = t by omega]
  clear hi hle hun
  induction k generalizing i ls le un with
  | zero =>
    refine lv_iload hx hb dX4_line_11 (lv_at hl 0 rfl) ?_
    refine lv_iload_n hx hb dX4_line_13 rfl (lv_at hl 4 rfl) ?_
    refine lv_bipush (v := 16) hx hb dX4_line_14 (by decide) ?_
    refine lv_imul hx hb dX4_line_16 ?_
    rw [nI_mul16 j]
    refine lv_aload_n hx hb dX4_line_17 rfl (lv_at hl 3 rfl) ?_
    refine va_get (D := G.1) (ci := 5) (v := .ref k3) (C := RX4) (T := TX4) (N := 15) hx hb hts hiX4 hown hE.1 hP 0 rfl rfl 2 (by decide) (hts (.fieldLink RX4 17 "MeterSealsModel" "lines" "[I") (by decide +kernel)) (fun _ h9 => h9) rfl dX4_line_18 ?_
    refine lv_iload_n hx hb dX4_line_21 rfl (lv_at hl 4 rfl) ?_
    refine va_iald hx hb hE.1 hP 3 0 rfl rfl (vp_in_nI (show j < 8 by omega) (by decide)) dX4_line_22 ?_
    rw [nI_clamp (n := j) (by omega)]
    rw [hln]
    refine lv_iadd hx hb dX4_line_23 ?_
    rw [nI_add (j * 16) t]
    refine lv_icmp_ge (tgt := 98) hx hb dX4_line_24 (by decide) (fun c24 => ?_) (fun c24 => absurd (nI_le (by omega) (by omega)) c24)
    refine lv_iload_n hx hb dX4_line_98 rfl (lv_at hl 2 rfl) ?_
    refine lv_iconst (v := (-1)) hx hb dX4_line_99 (by decide) ?_
    refine lv_icmp_ne (tgt := 108) hx hb dX4_line_100 (by decide) (fun c100 => ?_) (fun c100 => ?_)
    · refine lv_iload_n hx hb dX4_line_108 rfl (lv_at hl 2 rfl) ?_
      exact W.iret (v := un) hx hb hr (fun t ht hW => ⟨_, rfl, by rw [← hv]; simp only [md_lnF, if_neg c100], ht⟩) t_nil dX4_line_109
    refine lv_iload hx hb dX4_line_103 (lv_at hl 1 rfl) ?_
    refine lv_goto (tgt := 109) hx hb dX4_line_105 (by decide) ?_
    exact W.iret (v := le) hx hb hr (fun t ht hW => ⟨_, rfl, by rw [← hv]; simp only [md_lnF, if_pos c100], ht⟩) t_nil dX4_line_109
  | succ k ih =>
    refine lv_iload hx hb dX4_line_11 (lv_at hl 0 rfl) ?_
    refine lv_iload_n hx hb dX4_line_13 rfl (lv_at hl 4 rfl) ?_
    refine lv_bipush (v := 16) hx hb dX4_line_14 (by decide) ?_
    refine lv_imul hx hb dX4_line_16 ?_
    rw [nI_mul16 j]
    refine lv_aload_n hx hb dX4_line_17 rfl (lv_at hl 3 rfl) ?_
    refine va_get (D := G.1) (ci := 5) (v := .ref k3) (C := RX4) (T := TX4) (N := 15) hx hb hts hiX4 hown hE.1 hP 0 rfl rfl 2 (by decide) (hts (.fieldLink RX4 17 "MeterSealsModel" "lines" "[I") (by decide +kernel)) (fun _ h9 => h9) rfl dX4_line_18 ?_
    refine lv_iload_n hx hb dX4_line_21 rfl (lv_at hl 4 rfl) ?_
    refine va_iald hx hb hE.1 hP 3 0 rfl rfl (vp_in_nI (show j < 8 by omega) (by decide)) dX4_line_22 ?_
    rw [nI_clamp (n := j) (by omega)]
    rw [hln]
    refine lv_iadd hx hb dX4_line_23 ?_
    rw [nI_add (j * 16) t]
    refine lv_icmp_ge (tgt := 98) hx hb dX4_line_24 (by decide) (fun c24 => absurd c24 (nI_ge (by omega) (by omega))) (fun c24 => ?_)
    refine lv_aload_n hx hb dX4_line_27 rfl (lv_at hl 3 rfl) ?_
    refine va_get (D := G.1) (ci := 5) (v := .ref k9) (C := RX4) (T := TX4) (N := 15) hx hb hts hiX4 hown hE.1 hP 0 rfl rfl 9 (by decide) (hts (.fieldLink RX4 35 "MeterSealsModel" "lineDegrees" "[I") (by decide +kernel)) (fun _ h9 => h9) rfl dX4_line_28 ?_
    refine lv_iload hx hb dX4_line_31 (lv_at hl 0 rfl) ?_
    refine va_iald hx hb hE.1 hP 9 0 rfl rfl (vp_in_nI (show j * 16 + i < 128 by omega) (by decide)) dX4_line_33 ?_
    rw [nI_clamp (n := j * 16 + i) (by omega)]
    refine lv_istore (lv' := [(6, .int (ld (j * 16 + i))), (5, .int (nI (j * 16 + i))), (4, .int le), (3, .int un), (0, .ref k0), (1, .int (nI j)), (2, .int d)]) hx hb dX4_line_34 hl (by decide) rfl (fun ls hl => ?_)
    refine lv_iload hx hb dX4_line_36 (lv_at hl 2 rfl) ?_
    refine lv_iconst (v := (-1)) hx hb dX4_line_38 (by decide) ?_
    refine lv_icmp_eq (tgt := 54) hx hb dX4_line_39 (by decide) (fun c39 => ?_) (fun c39 => ?_)
    · refine lv_iload hx hb dX4_line_54 (lv_at hl 1 rfl) ?_
      refine lv_goto (tgt := 61) hx hb dX4_line_56 (by decide) ?_
      refine lv_istore (lv' := [(4, .int (nI (j * 16 + i))), (6, .int (ld (j * 16 + i))), (5, .int (nI (j * 16 + i))), (3, .int un), (0, .ref k0), (1, .int (nI j)), (2, .int d)]) hx hb dX4_line_61 hl (by decide) rfl (fun ls hl => ?_)
      refine lv_iload hx hb dX4_line_63 (lv_at hl 1 rfl) ?_
      refine lv_iload_n hx hb dX4_line_65 rfl (lv_at hl 6 rfl) ?_
      refine lv_icmp_gt (tgt := 90) hx hb dX4_line_66 (by decide) (fun c66 => ?_) (fun c66 => ?_)
      · refine lv_iload_n hx hb dX4_line_90 rfl (lv_at hl 3 rfl) ?_
        refine lv_istore_n (lv' := [(3, .int un), (4, .int (nI (j * 16 + i))), (6, .int (ld (j * 16 + i))), (5, .int (nI (j * 16 + i))), (0, .ref k0), (1, .int (nI j)), (2, .int d)]) hx hb dX4_line_91 rfl hl (by decide) rfl (fun ls hl => ?_)
        refine lv_iinc (v := (nI (j * 16 + i + 1))) (lv' := [(5, .int (nI (j * 16 + i + 1))), (3, .int un), (4, .int (nI (j * 16 + i))), (6, .int (ld (j * 16 + i))), (0, .ref k0), (1, .int (nI j)), (2, .int d)]) hx hb dX4_line_92 hl (k := 3) rfl (nI_1 (j * 16 + i)) (by decide) rfl (fun ls hl => ?_)
        refine lv_goto (tgt := 11) hx hb dX4_line_95 (by decide) ?_
        exact ih ls (i + 1) (nI (j * 16 + i)) un (lv_sub hl [0, 2, 1, 4, 5, 6] rfl) (Or.inr ⟨i, by omega, rfl⟩) (ln_up hUn) (by omega) (by rw [← hv]; simp only [md_lnF, if_pos c39, if_pos c66])
      refine lv_iload_n hx hb dX4_line_69 rfl (lv_at hl 3 rfl) ?_
      refine lv_iconst (v := (-1)) hx hb dX4_line_70 (by decide) ?_
      refine lv_icmp_eq (tgt := 85) hx hb dX4_line_71 (by decide) (fun c71 => ?_) (fun c71 => ?_)
      · refine lv_iload hx hb dX4_line_85 (lv_at hl 2 rfl) ?_
        refine lv_goto (tgt := 91) hx hb dX4_line_87 (by decide) ?_
        refine lv_istore_n (lv' := [(3, .int (nI (j * 16 + i))), (4, .int (nI (j * 16 + i))), (6, .int (ld (j * 16 + i))), (5, .int (nI (j * 16 + i))), (0, .ref k0), (1, .int (nI j)), (2, .int d)]) hx hb dX4_line_91 rfl hl (by decide) rfl (fun ls hl => ?_)
        refine lv_iinc (v := (nI (j * 16 + i + 1))) (lv' := [(5, .int (nI (j * 16 + i + 1))), (3, .int (nI (j * 16 + i))), (4, .int (nI (j * 16 + i))), (6, .int (ld (j * 16 + i))), (0, .ref k0), (1, .int (nI j)), (2, .int d)]) hx hb dX4_line_92 hl (k := 3) rfl (nI_1 (j * 16 + i)) (by decide) rfl (fun ls hl => ?_)
        refine lv_goto (tgt := 11) hx hb dX4_line_95 (by decide) ?_
        exact ih ls (i + 1) (nI (j * 16 + i)) (nI (j * 16 + i)) (lv_sub hl [0, 2, 1, 4, 5, 6] rfl) (Or.inr ⟨i, by omega, rfl⟩) (Or.inr ⟨i, by omega, rfl⟩) (by omega) (by rw [← hv]; simp only [md_lnF, if_pos c39, if_neg c66, if_pos c71])
      refine lv_iload hx hb dX4_line_74 (lv_at hl 1 rfl) ?_
      refine lv_aload_n hx hb dX4_line_76 rfl (lv_at hl 4 rfl) ?_
      refine va_get (D := G.1) (ci := 5) (v := .ref k9) (C := RX4) (T := TX4) (N := 15) hx hb hts hiX4 hown hE.1 hP 0 rfl rfl 9 (by decide) (hts (.fieldLink RX4 35 "MeterSealsModel" "lineDegrees" "[I") (by decide +kernel)) (fun _ h9 => h9) rfl dX4_line_77 ?_
      refine lv_iload_n hx hb dX4_line_80 rfl (lv_at hl 3 rfl) ?_
      refine va_iald hx hb hE.1 hP 9 0 rfl rfl (ln_in hUn c71 (by omega)) dX4_line_81 ?_
      refine lv_icmp_le (tgt := 90) hx hb dX4_line_82 (by decide) (fun c82 => ?_) (fun c82 => ?_)
      · refine lv_iload_n hx hb dX4_line_90 rfl (lv_at hl 3 rfl) ?_
        refine lv_istore_n (lv' := [(3, .int un), (4, .int (nI (j * 16 + i))), (6, .int (ld (j * 16 + i))), (5, .int (nI (j * 16 + i))), (0, .ref k0), (1, .int (nI j)), (2, .int d)]) hx hb dX4_line_91 rfl hl (by decide) rfl (fun ls hl => ?_)
        refine lv_iinc (v := (nI (j * 16 + i + 1))) (lv' := [(5, .int (nI (j * 16 + i + 1))), (3, .int un), (4, .int (nI (j * 16 + i))), (6, .int (ld (j * 16 + i))), (0, .ref k0), (1, .int (nI j)), (2, .int d)]) hx hb dX4_line_92 hl (k := 3) rfl (nI_1 (j * 16 + i)) (by decide) rfl (fun ls hl => ?_)
        refine lv_goto (tgt := 11) hx hb dX4_line_95 (by decide) ?_
        exact ih ls (i + 1) (nI (j * 16 + i)) un (lv_sub hl [0, 2, 1, 4, 5, 6] rfl) (Or.inr ⟨i, by omega, rfl⟩) (ln_up hUn) (by omega) (by rw [← hv]; simp only [md_lnF, if_pos c39, if_neg c66, if_neg c71, if_pos c82])
      refine lv_iload hx hb dX4_line_85 (lv_at hl 2 rfl) ?_
      refine lv_goto (tgt := 91) hx hb dX4_line_87 (by decide) ?_
      refine lv_istore_n (lv' := [(3, .int (nI (j * 16 + i))), (4, .int (nI (j * 16 + i))), (6, .int (ld (j * 16 + i))), (5, .int (nI (j * 16 + i))), (0, .ref k0), (1, .int (nI j)), (2, .int d)]) hx hb dX4_line_91 rfl hl (by decide) rfl (fun ls hl => ?_)
      refine lv_iinc (v := (nI (j * 16 + i + 1))) (lv' := [(5, .int (nI (j * 16 + i + 1))), (3, .int (nI (j * 16 + i))), (4, .int (nI (j * 16 + i))), (6, .int (ld (j * 16 + i))), (0, .ref k0), (1, .int (nI j)), (2, .int d)]) hx hb dX4_line_92 hl (k := 3) rfl (nI_1 (j * 16 + i)) (by decide) rfl (fun ls hl => ?_)
      refine lv_goto (tgt := 11) hx hb dX4_line_95 (by decide) ?_
      exact ih ls (i + 1) (nI (j * 16 + i)) (nI (j * 16 + i)) (lv_sub hl [0, 2, 1, 4, 5, 6] rfl) (Or.inr ⟨i, by omega, rfl⟩) (Or.inr ⟨i, by omega, rfl⟩) (by omega) (by rw [← hv]; simp only [md_lnF, if_pos c39, if_neg c66, if_neg c71, if_neg c82])
    refine lv_iload hx hb dX4_line_42 (lv_at hl 0 rfl) ?_
    refine lv_aload_n hx hb dX4_line_44 rfl (lv_at hl 4 rfl) ?_
    refine va_get (D := G.1) (ci := 5) (v := .ref k9) (C := RX4) (T := TX4) (N := 15) hx hb hts hiX4 hown hE.1 hP 0 rfl rfl 9 (by decide) (hts (.fieldLink RX4 35 "MeterSealsModel" "lineDegrees" "[I") (by decide +kernel)) (fun _ h9 => h9) rfl dX4_line_45 ?_
    refine lv_iload hx hb dX4_line_48 (lv_at hl 2 rfl) ?_
    refine va_iald hx hb hE.1 hP 9 0 rfl rfl (ln_in hLe c39 (by omega)) dX4_line_50 ?_
    refine lv_icmp_ge (tgt := 59) hx hb dX4_line_51 (by decide) (fun c51 => ?_) (fun c51 => ?_)
    · refine lv_iload hx hb dX4_line_59 (lv_at hl 2 rfl) ?_
      refine lv_istore (lv' := [(4, .int le), (6, .int (ld (j * 16 + i))), (5, .int (nI (j * 16 + i))), (3, .int un), (0, .ref k0), (1, .int (nI j)), (2, .int d)]) hx hb dX4_line_61 hl (by decide) rfl (fun ls hl => ?_)
      refine lv_iload hx hb dX4_line_63 (lv_at hl 1 rfl) ?_
      refine lv_iload_n hx hb dX4_line_65 rfl (lv_at hl 6 rfl) ?_
      refine lv_icmp_gt (tgt := 90) hx hb dX4_line_66 (by decide) (fun c66 => ?_) (fun c66 => ?_)
      · refine lv_iload_n hx hb dX4_line_90 rfl (lv_at hl 3 rfl) ?_
        refine lv_istore_n (lv' := [(3, .int un), (4, .int le), (6, .int (ld (j * 16 + i))), (5, .int (nI (j * 16 + i))), (0, .ref k0), (1, .int (nI j)), (2, .int d)]) hx hb dX4_line_91 rfl hl (by decide) rfl (fun ls hl => ?_)
        refine lv_iinc (v := (nI (j * 16 + i + 1))) (lv' := [(5, .int (nI (j * 16 + i + 1))), (3, .int un), (4, .int le), (6, .int (ld (j * 16 + i))), (0, .ref k0), (1, .int (nI j)), (2, .int d)]) hx hb dX4_line_92 hl (k := 3) rfl (nI_1 (j * 16 + i)) (by decide) rfl (fun ls hl => ?_)
        refine lv_goto (tgt := 11) hx hb dX4_line_95 (by decide) ?_
        exact ih ls (i + 1) le un (lv_sub hl [0, 2, 1, 4, 5, 6] rfl) (ln_up hLe) (ln_up hUn) (by omega) (by rw [← hv]; simp only [md_lnF, if_neg c39, if_pos c51, if_pos c66])
      refine lv_iload_n hx hb dX4_line_69 rfl (lv_at hl 3 rfl) ?_
      refine lv_iconst (v := (-1)) hx hb dX4_line_70 (by decide) ?_
      refine lv_icmp_eq (tgt := 85) hx hb dX4_line_71 (by decide) (fun c71 => ?_) (fun c71 => ?_)
      · refine lv_iload hx hb dX4_line_85 (lv_at hl 2 rfl) ?_
        refine lv_goto (tgt := 91) hx hb dX4_line_87 (by decide) ?_
        refine lv_istore_n (lv' := [(3, .int (nI (j * 16 + i))), (4, .int le), (6, .int (ld (j * 16 + i))), (5, .int (nI (j * 16 + i))), (0, .ref k0), (1, .int (nI j)), (2, .int d)]) hx hb dX4_line_91 rfl hl (by decide) rfl (fun ls hl => ?_)
        refine lv_iinc (v := (nI (j * 16 + i + 1))) (lv' := [(5, .int (nI (j * 16 + i + 1))), (3, .int (nI (j * 16 + i))), (4, .int le), (6, .int (ld (j * 16 + i))), (0, .ref k0), (1, .int (nI j)), (2, .int d)]) hx hb dX4_line_92 hl (k := 3) rfl (nI_1 (j * 16 + i)) (by decide) rfl (fun ls hl => ?_)
        refine lv_goto (tgt := 11) hx hb dX4_line_95 (by decide) ?_
        exact ih ls (i + 1) le (nI (j * 16 + i)) (lv_sub hl [0, 2, 1, 4, 5, 6] rfl) (ln_up hLe) (Or.inr ⟨i, by omega, rfl⟩) (by omega) (by rw [← hv]; simp only [md_lnF, if_neg c39, if_pos c51, if_neg c66, if_pos c71])
      refine lv_iload hx hb dX4_line_74 (lv_at hl 1 rfl) ?_
      refine lv_aload_n hx hb dX4_line_76 rfl (lv_at hl 4 rfl) ?_
      refine va_get (D := G.1) (ci := 5) (v := .ref k9) (C := RX4) (T := TX4) (N := 15) hx hb hts hiX4 hown hE.1 hP 0 rfl rfl 9 (by decide) (hts (.fieldLink RX4 35 "MeterSealsModel" "lineDegrees" "[I") (by decide +kernel)) (fun _ h9 => h9) rfl dX4_line_77 ?_
      refine lv_iload_n hx hb dX4_line_80 rfl (lv_at hl 3 rfl) ?_
      refine va_iald hx hb hE.1 hP 9 0 rfl rfl (ln_in hUn c71 (by omega)) dX4_line_81 ?_
      refine lv_icmp_le (tgt := 90) hx hb dX4_line_82 (by decide) (fun c82 => ?_) (fun c82 => ?_)
      · refine lv_iload_n hx hb dX4_line_90 rfl (lv_at hl 3 rfl) ?_
        refine lv_istore_n (lv' := [(3, .int un), (4, .int le), (6, .int (ld (j * 16 + i))), (5, .int (nI (j * 16 + i))), (0, .ref k0), (1, .int (nI j)), (2, .int d)]) hx hb dX4_line_91 rfl hl (by decide) rfl (fun ls hl => ?_)
        refine lv_iinc (v := (nI (j * 16 + i + 1))) (lv' := [(5, .int (nI (j * 16 + i + 1))), (3, .int un), (4, .int le), (6, .int (ld (j * 16 + i))), (0, .ref k0), (1, .int (nI j)), (2, .int d)]) hx hb dX4_line_92 hl (k := 3) rfl (nI_1 (j * 16 + i)) (by decide) rfl (fun ls hl => ?_)
        refine lv_goto (tgt := 11) hx hb dX4_line_95 (by decide) ?_
        exact ih ls (i + 1) le un (lv_sub hl [0, 2, 1, 4, 5, 6] rfl) (ln_up hLe) (ln_up hUn) (by omega) (by rw [← hv]; simp only [md_lnF, if_neg c39, if_pos c51, if_neg c66, if_neg c71, if_pos c82])
      refine lv_iload hx hb dX4_line_85 (lv_at hl 2 rfl) ?_
      refine lv_goto (tgt := 91) hx hb dX4_line_87 (by decide) ?_
      refine lv_istore_n (lv' := [(3, .int (nI (j * 16 + i))), (4, .int le), (6, .int (ld (j * 16 + i))), (5, .int (nI (j * 16 + i))), (0, .ref k0), (1, .int (nI j)), (2, .int d)]) hx hb dX4_line_91 rfl hl (by decide) rfl (fun ls hl => ?_)
      refine lv_iinc (v := (nI (j * 16 + i + 1))) (lv' := [(5, .int (nI (j * 16 + i + 1))), (3, .int (nI (j * 16 + i))), (4, .int le), (6, .int (ld (j * 16 + i))), (0, .ref k0), (1, .int (nI j)), (2, .int d)]) hx hb dX4_line_92 hl (k := 3) rfl (nI_1 (j * 16 + i)) (by decide) rfl (fun ls hl => ?_)
      refine lv_goto (tgt := 11) hx hb dX4_line_95 (by decide) ?_
      exact ih ls (i + 1) le (nI (j * 16 + i)) (lv_sub hl [0, 2, 1, 4, 5, 6] rfl) (ln_up hLe) (Or.inr ⟨i, by omega, rfl⟩) (by omega) (by rw [← hv]; simp only [md_lnF, if_neg c39, if_pos c51, if_neg c66, if_neg c71, if_neg c82])
    refine lv_iload hx hb dX4_line_54 (lv_at hl 1 rfl) ?_
    refine lv_goto (tgt := 61) hx hb dX4_line_56 (by decide) ?_
    refine lv_istore (lv' := [(4, .int (nI (j * 16 + i))), (6, .int (ld (j * 16 + i))), (5, .int (nI (j * 16 + i))), (3, .int un), (0, .ref k0), (1, .int (nI j)), (2, .int d)]) hx hb dX4_line_61 hl (by decide) rfl (fun ls hl => ?_)
    refine lv_iload hx hb dX4_line_63 (lv_at hl 1 rfl) ?_
    refine lv_iload_n hx hb dX4_line_65 rfl (lv_at hl 6 rfl) ?_
    refine lv_icmp_gt (tgt := 90) hx hb dX4_line_66 (by decide) (fun c66 => ?_) (fun c66 => ?_)
    · refine lv_iload_n hx hb dX4_line_90 rfl (lv_at hl 3 rfl) ?_
      refine lv_istore_n (lv' := [(3, .int un), (4, .int (nI (j * 16 + i))), (6, .int (ld (j * 16 + i))), (5, .int (nI (j * 16 + i))), (0, .ref k0), (1, .int (nI j)), (2, .int d)]) hx hb dX4_line_91 rfl hl (by decide) rfl (fun ls hl => ?_)
      refine lv_iinc (v := (nI (j * 16 + i + 1))) (lv' := [(5, .int (nI (j * 16 + i + 1))), (3, .int un), (4, .int (nI (j * 16 + i))), (6, .int (ld (j * 16 + i))), (0, .ref k0), (1, .int (nI j)), (2, .int d)]) hx hb dX4_line_92 hl (k := 3) rfl (nI_1 (j * 16 + i)) (by decide) rfl (fun ls hl => ?_)
      refine lv_goto (tgt := 11) hx hb dX4_line_95 (by decide) ?_
      exact ih ls (i + 1) (nI (j * 16 + i)) un (lv_sub hl [0, 2, 1, 4, 5, 6] rfl) (Or.inr ⟨i, by omega, rfl⟩) (ln_up hUn) (by omega) (by rw [← hv]; simp only [md_lnF, if_neg c39, if_neg c51, if_pos c66])
    refine lv_iload_n hx hb dX4_line_69 rfl (lv_at hl 3 rfl) ?_
    refine lv_iconst (v := (-1)) hx hb dX4_line_70 (by decide) ?_
    refine lv_icmp_eq (tgt := 85) hx hb dX4_line_71 (by decide) (fun c71 => ?_) (fun c71 => ?_)
    · refine lv_iload hx hb dX4_line_85 (lv_at hl 2 rfl) ?_
      refine lv_goto (tgt := 91) hx hb dX4_line_87 (by decide) ?_
      refine lv_istore_n (lv' := [(3, .int (nI (j * 16 + i))), (4, .int (nI (j * 16 + i))), (6, .int (ld (j * 16 + i))), (5, .int (nI (j * 16 + i))), (0, .ref k0), (1, .int (nI j)), (2, .int d)]) hx hb dX4_line_91 rfl hl (by decide) rfl (fun ls hl => ?_)
      refine lv_iinc (v := (nI (j * 16 + i + 1))) (lv' := [(5, .int (nI (j * 16 + i + 1))), (3, .int (nI (j * 16 + i))), (4, .int (nI (j * 16 + i))), (6, .int (ld (j * 16 + i))), (0, .ref k0), (1, .int (nI j)), (2, .int d)]) hx hb dX4_line_92 hl (k := 3) rfl (nI_1 (j * 16 + i)) (by decide) rfl (fun ls hl => ?_)
      refine lv_goto (tgt := 11) hx hb dX4_line_95 (by decide) ?_
      exact ih ls (i + 1) (nI (j * 16 + i)) (nI (j * 16 + i)) (lv_sub hl [0, 2, 1, 4, 5, 6] rfl) (Or.inr ⟨i, by omega, rfl⟩) (Or.inr ⟨i, by omega, rfl⟩) (by omega) (by rw [← hv]; simp only [md_lnF, if_neg c39, if_neg c51, if_neg c66, if_pos c71])
    refine lv_iload hx hb dX4_line_74 (lv_at hl 1 rfl) ?_
    refine lv_aload_n hx hb dX4_line_76 rfl (lv_at hl 4 rfl) ?_
    refine va_get (D := G.1) (ci := 5) (v := .ref k9) (C := RX4) (T := TX4) (N := 15) hx hb hts hiX4 hown hE.1 hP 0 rfl rfl 9 (by decide) (hts (.fieldLink RX4 35 "MeterSealsModel" "lineDegrees" "[I") (by decide +kernel)) (fun _ h9 => h9) rfl dX4_line_77 ?_
    refine lv_iload_n hx hb dX4_line_80 rfl (lv_at hl 3 rfl) ?_
    refine va_iald hx hb hE.1 hP 9 0 rfl rfl (ln_in hUn c71 (by omega)) dX4_line_81 ?_
    refine lv_icmp_le (tgt := 90) hx hb dX4_line_82 (by decide) (fun c82 => ?_) (fun c82 => ?_)
    · refine lv_iload_n hx hb dX4_line_90 rfl (lv_at hl 3 rfl) ?_
      refine lv_istore_n (lv' := [(3, .int un), (4, .int (nI (j * 16 + i))), (6, .int (ld (j * 16 + i))), (5, .int (nI (j * 16 + i))), (0, .ref k0), (1, .int (nI j)), (2, .int d)]) hx hb dX4_line_91 rfl hl (by decide) rfl (fun ls hl => ?_)
      refine lv_iinc (v := (nI (j * 16 + i + 1))) (lv' := [(5, .int (nI (j * 16 + i + 1))), (3, .int un), (4, .int (nI (j * 16 + i))), (6, .int (ld (j * 16 + i))), (0, .ref k0), (1, .int (nI j)), (2, .int d)]) hx hb dX4_line_92 hl (k := 3) rfl (nI_1 (j * 16 + i)) (by decide) rfl (fun ls hl => ?_)
      refine lv_goto (tgt := 11) hx hb dX4_line_95 (by decide) ?_
      exact ih ls (i + 1) (nI (j * 16 + i)) un (lv_sub hl [0, 2, 1, 4, 5, 6] rfl) (Or.inr ⟨i, by omega, rfl⟩) (ln_up hUn) (by omega) (by rw [← hv]; simp only [md_lnF, if_neg c39, if_neg c51, if_neg c66, if_neg c71, if_pos c82])
    refine lv_iload hx hb dX4_line_85 (lv_at hl 2 rfl) ?_
    refine lv_goto (tgt := 91) hx hb dX4_line_87 (by decide) ?_
    refine lv_istore_n (lv' := [(3, .int (nI (j * 16 + i))), (4, .int (nI (j * 16 + i))), (6, .int (ld (j * 16 + i))), (5, .int (nI (j * 16 + i))), (0, .ref k0), (1, .int (nI j)), (2, .int d)]) hx hb dX4_line_91 rfl hl (by decide) rfl (fun ls hl => ?_)
    refine lv_iinc (v := (nI (j * 16 + i + 1))) (lv' := [(5, .int (nI (j * 16 + i + 1))), (3, .int (nI (j * 16 + i))), (4, .int (nI (j * 16 + i))), (6, .int (ld (j * 16 + i))), (0, .ref k0), (1, .int (nI j)), (2, .int d)]) hx hb dX4_line_92 hl (k := 3) rfl (nI_1 (j * 16 + i)) (by decide) rfl (fun ls hl => ?_)
    refine lv_goto (tgt := 11) hx hb dX4_line_95 (by decide) ?_
    exact ih ls (i + 1) (nI (j * 16 + i)) (nI (j * 16 + i)) (lv_sub hl [0, 2, 1, 4, 5, 6] rfl) (Or.inr ⟨i, by omega, rfl⟩) (Or.inr ⟨i, by omega, rfl⟩) (by omega) (by rw [← hv]; simp only [md_lnF, if_neg c39, if_neg c51, if_neg c66, if_neg c71, if_neg c82])
