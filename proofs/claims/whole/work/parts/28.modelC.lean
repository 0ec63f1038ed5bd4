set_option maxHeartbeats 4000000 in
set_option maxRecDepth 100000 in
/-- meter -/
theorem ct_X4_meter (l : Launch) (G : Gx) (k0 k1 k2 k3 k4 k5 k6 k7 k8 k9 k10 k11 k12 : Nat) (mc : Nat) (len thr : Int32) (ky : Nat → Int64) (ro ln kd : Nat → Int32) (nb sc : Nat → Int64) (wa : Nat → Int32) (sm : Nat → Int64) (ld : Nat → Int32) (lo lw : Nat → Int64) (tx : Nat → Int32) (key : Int64) (hmc : mc ≤ 8) : Met l yX4_meter wsX4_meter ({ frames := 0, cells := 0, slots := 0, locals := 0 }) (WrP G (wK G k0 k1 k2 k3 k4 k5 k6 k7 k8 k9 k10 k11 k12 (nI mc) len thr ky ro ln kd nb sc wa sm ld lo lw tx) [.ref k0, .long key]) (va_Qi (fun r (u : va_W) => (mc = 8 ∧ r = -2 ∧ u = wK G k0 k1 k2 k3 k4 k5 k6 k7 k8 k9 k10 k11 k12 (nI mc) len 0 ky ro ln kd nb sc wa sm ld lo lw tx) ∨ (mc < 8 ∧ r = nI mc ∧ u = wK G k0 k1 k2 k3 k4 k5 k6 k7 k8 k9 k10 k11 k12 (nI (mc + 1)) len 0 (vp_updL ky mc key) ro ln kd nb sc wa sm ld lo lw tx)) (fun u t => va_P G.1 vwCl u t.heap) (adr (wK G k0 k1 k2 k3 k4 k5 k6 k7 k8 k9 k10 k11 k12 (nI mc) len thr ky ro ln kd nb sc wa sm ld lo lw tx))) 0 0 (adr (wK G k0 k1 k2 k3 k4 k5 k6 k7 k8 k9 k10 k11 k12 (nI mc) len thr ky ro ln kd nb sc wa sm ld lo lw tx)) := by
  refine Met.ofW (cc := cX4_meter) (maxL := 3) (ret := (some .int)) (by decide) rfl ?_
  intro p e s m args below meth c s₁ B hml hv
  obtain ⟨rfl, hP, hE, hD0⟩ := hv
  have hx := B.exec
  have hb := B.bytes
  have hr := B.returns
  have hts := atoms_spec (ws := wsX4_meter) B.pre
  have hown : s.vm.findClass RX4 = some m.cls := findClass_of_methodNamed B.named
  have hlocks := B.notSynchronized
  have hD : va_D (adr (wK G k0 k1 k2 k3 k4 k5 k6 k7 k8 k9 k10 k11 k12 (nI mc) len thr ky ro ln kd nb sc wa sm ld lo lw tx)) (wK G k0 k1 k2 k3 k4 k5 k6 k7 k8 k9 k10 k11 k12 (nI mc) len thr ky ro ln kd nb sc wa sm ld lo lw tx) := ⟨hD0.1, fun k q hk => ⟨k, q.2, hk⟩⟩
  generalize adr (wK G k0 k1 k2 k3 k4 k5 k6 k7 k8 k9 k10 k11 k12 (nI mc) len thr ky ro ln kd nb sc wa sm ld lo lw tx) = A at hD ⊢
  have hS : va_S A s.heap s.heap [] := va_S.rf
  have hiX4 : ∀ w ∈ wsX40, w ∈ wsX4_meter := by decide +kernel
  have hl := lv_entry ([.ref k0, .long key]) (n := 3) (Nat.le_of_ble_eq_true rfl)
  rw [lg_entry_eq]
  generalize (lg_sl ([.ref k0, .long key]) ++ List.replicate (3 - (lg_sl ([.ref k0, .long key])).length) Slot.unset).toArray = ls at hl ⊢
  replace hl : lv_has ls 3 [(0, .ref k0), (1, .long key)] := hl
  refine lv_aload_n hx hb dX4_meter_0 rfl (lv_at hl 0 rfl) ?_
  refine lv_iconst (v := 0) hx hb dX4_meter_1 (by decide) ?_
  refine va_put (D := G.1) (ci := 5) (v := .int 0) (ty := .int) (C := RX4) (T := TX4) (N := 15) hx hb hts hiX4 tyX4 tyX4_ok nmX4 hown hE.1 hP hD hS 0 rfl rfl 14 (by decide) (hts (.fieldLink RX4 47 "MeterSealsModel" "thrown" "I") (by decide +kernel)) (fun _ h9 => h9) rfl (by decide +kernel) rfl rfl (Nat.le_of_ble_eq_true rfl) dX4_meter_2 (fun H locs hP hD hS => ?_)
  replace hP : va_P G.1 vwCl (wK G k0 k1 k2 k3 k4 k5 k6 k7 k8 k9 k10 k11 k12 (nI mc) len 0 ky ro ln kd nb sc wa sm ld lo lw tx) H := hP
  replace hD : va_D A (wK G k0 k1 k2 k3 k4 k5 k6 k7 k8 k9 k10 k11 k12 (nI mc) len 0 ky ro ln kd nb sc wa sm ld lo lw tx) := hD
  refine lv_aload_n hx hb dX4_meter_5 rfl (lv_at hl 0 rfl) ?_
  refine va_get (D := G.1) (ci := 5) (v := .int (nI mc)) (C := RX4) (T := TX4) (N := 15) hx hb hts hiX4 hown hE.1 hP 0 rfl rfl 3 (by decide) (hts (.fieldLink RX4 51 "MeterSealsModel" "meters" "I") (by decide +kernel)) (fun _ h9 => h9) rfl dX4_meter_6 ?_
  refine lv_bipush (v := 8) hx hb dX4_meter_9 (by decide) ?_
  refine lv_icmp_ne (tgt := 17) hx hb dX4_meter_11 (by decide) (fun c11 => ?_) (fun c11 => ?_)
  · have hlt : mc < 8 := ne8 hmc c11
    refine lv_aload_n hx hb dX4_meter_17 rfl (lv_at hl 0 rfl) ?_
    refine va_get (D := G.1) (ci := 5) (v := .ref k1) (C := RX4) (T := TX4) (N := 15) hx hb hts hiX4 hown hE.1 hP 0 rfl rfl 0 (by decide) (hts (.fieldLink RX4 9 "MeterSealsModel" "keys" "[J") (by decide +kernel)) (fun _ h9 => h9) rfl dX4_meter_18 ?_
    refine lv_aload_n hx hb dX4_meter_21 rfl (lv_at hl 0 rfl) ?_
    refine va_get (D := G.1) (ci := 5) (v := .int (nI mc)) (C := RX4) (T := TX4) (N := 15) hx hb hts hiX4 hown hE.1 hP 0 rfl rfl 3 (by decide) (hts (.fieldLink RX4 51 "MeterSealsModel" "meters" "I") (by decide +kernel)) (fun _ h9 => h9) rfl dX4_meter_22 ?_
    refine lv_lload_n hx hb dX4_meter_25 rfl (lv_at hl 1 rfl) ?_
    refine va_last hx hb hE.1 hP hD hS 1 1 rfl rfl (vp_in_nI (show mc < 8 by omega) (by decide)) dX4_meter_26 (fun H locs hP hD hS => ?_)
    rw [nI_clamp (n := mc) (by omega)] at hP hD
    replace hP : va_P G.1 vwCl (wK G k0 k1 k2 k3 k4 k5 k6 k7 k8 k9 k10 k11 k12 (nI mc) len 0 (vp_updL ky mc key) ro ln kd nb sc wa sm ld lo lw tx) H := hP
    replace hD : va_D A (wK G k0 k1 k2 k3 k4 k5 k6 k7 k8 k9 k10 k11 k12 (nI mc) len 0 (vp_updL ky mc key) ro ln kd nb sc wa sm ld lo lw tx) := hD
    refine lv_aload_n hx hb dX4_meter_27 rfl (lv_at hl 0 rfl) ?_
    refine lv_dup hx hb dX4_meter_28 rfl ?_
    refine va_get (D := G.1) (ci := 5) (v := .int (nI mc)) (C := RX4) (T := TX4) (N := 15) hx hb hts hiX4 hown hE.1 hP 0 rfl rfl 3 (by decide) (hts (.fieldLink RX4 51 "MeterSealsModel" "meters" "I") (by decide +kernel)) (fun _ h9 => h9) rfl dX4_meter_29 ?_
    refine lv_iconst (v := 1) hx hb dX4_meter_32 (by decide) ?_
    refine lv_iadd hx hb dX4_meter_33 ?_
    rw [nI_1 mc]
    refine va_put (D := G.1) (ci := 5) (v := .int (nI (mc + 1))) (ty := .int) (C := RX4) (T := TX4) (N := 15) hx hb hts hiX4 tyX4 tyX4_ok nmX4 hown hE.1 hP hD hS 0 rfl rfl 3 (by decide) (hts (.fieldLink RX4 51 "MeterSealsModel" "meters" "I") (by decide +kernel)) (fun _ h9 => h9) rfl (by decide +kernel) rfl rfl (Nat.le_of_ble_eq_true rfl) dX4_meter_34 (fun H locs hP hD hS => ?_)
    replace hP : va_P G.1 vwCl (wK G k0 k1 k2 k3 k4 k5 k6 k7 k8 k9 k10 k11 k12 (nI (mc + 1)) len 0 (vp_updL ky mc key) ro ln kd nb sc wa sm ld lo lw tx) H := hP
    replace hD : va_D A (wK G k0 k1 k2 k3 k4 k5 k6 k7 k8 k9 k10 k11 k12 (nI (mc + 1)) len 0 (vp_updL ky mc key) ro ln kd nb sc wa sm ld lo lw tx) := hD
    refine lv_aload_n hx hb dX4_meter_37 rfl (lv_at hl 0 rfl) ?_
    refine va_get (D := G.1) (ci := 5) (v := .int (nI (mc + 1))) (C := RX4) (T := TX4) (N := 15) hx hb hts hiX4 hown hE.1 hP 0 rfl rfl 3 (by decide) (hts (.fieldLink RX4 51 "MeterSealsModel" "meters" "I") (by decide +kernel)) (fun _ h9 => h9) rfl dX4_meter_38 ?_
    refine lv_iconst (v := 1) hx hb dX4_meter_41 (by decide) ?_
    refine lv_isub hx hb dX4_meter_42 ?_
    rw [nI_pred mc]
    exact W.iret (v := (nI mc)) hx hb hr (fun tZ hZ hW => ⟨⟨(nI mc), wK G k0 k1 k2 k3 k4 k5 k6 k7 k8 k9 k10 k11 k12 (nI (mc + 1)) len 0 (vp_updL ky mc key) ro ln kd nb sc wa sm ld lo lw tx, rfl, Or.inr ⟨hlt, rfl, rfl⟩, by show va_P _ _ _ tZ.heap; rw [hZ]; exact hP⟩, hS.F hZ⟩) hS.2.2 dX4_meter_43
  refine lv_bipush (v := (-2)) hx hb dX4_meter_14 (by decide) ?_
  exact W.iret (v := (-2)) hx hb hr (fun tZ hZ hW => ⟨⟨(-2), wK G k0 k1 k2 k3 k4 k5 k6 k7 k8 k9 k10 k11 k12 (nI mc) len 0 ky ro ln kd nb sc wa sm ld lo lw tx, rfl, Or.inl ⟨(eq8 c11).resolve_right (by omega), rfl, rfl⟩, by show va_P _ _ _ tZ.heap; rw [hZ]; exact hP⟩, hS.F hZ⟩) hS.2.2 dX4_meter_16

set_option maxHeartbeats 4000000 in
set_option maxRecDepth 100000 in
/-- X4_row, present -/
theorem ct_X4_row (l : Launch) (G : Gx) (k0 k1 k2 k3 k4 k5 k6 k7 k8 k9 k10 k11 k12 : Nat) (mc : Nat) (len thr : Int32) (ky : Nat → Int64) (ro ln kd : Nat → Int32) (nb sc : Nat → Int64) (wa : Nat → Int32) (sm : Nat → Int64) (ld : Nat → Int32) (lo lw : Nat → Int64) (tx : Nat → Int32) (j n t : Nat) (d : Int32) (a b : Int64) (hmc : mc ≤ 8) (hj : j < mc) (hn2 : n ≤ 200) (hro : ro j = nI n) (ht : t ≤ 16) (hln : ln j = nI t) : Met l yX4_row wsX4_row ({ frames := 1, cells := 0, slots := 0, locals := 21 }) (WrP G (wK G k0 k1 k2 k3 k4 k5 k6 k7 k8 k9 k10 k11 k12 (nI mc) len thr ky ro ln kd nb sc wa sm ld lo lw tx) [.ref k0, .int (nI j), .int d, .long a, .long b]) (va_Qi (fun r (u : va_W) => (md_rwfit d a b = 0 ∧ r = 0 ∧ u = wK G k0 k1 k2 k3 k4 k5 k6 k7 k8 k9 k10 k11 k12 (nI mc) len 0 ky ro ln kd nb sc wa sm ld lo lw tx) ∨ (md_rwfit d a b = 1 ∧ ∃ p : Nat, p ≤ t ∧ md_pl ld j d t = nI p ∧ ((p = 16 ∧ r = 0 ∧ u = wK G k0 k1 k2 k3 k4 k5 k6 k7 k8 k9 k10 k11 k12 (nI mc) len 0 ky ro ln kd nb sc wa sm ld lo lw tx) ∨ (p < 16 ∧ r = 1 ∧ u = wK G k0 k1 k2 k3 k4 k5 k6 k7 k8 k9 k10 k11 k12 (nI mc) len 0 ky ro (upd ln j (if p = t then nI (t + 1) else nI t)) kd nb sc wa sm (upd ld (j * 16 + p) d) (vp_updL lo (j * 16 + p) a) (vp_updL lw (j * 16 + p) b) tx)))) (fun u t => va_P G.1 vwCl u t.heap) (adr (wK G k0 k1 k2 k3 k4 k5 k6 k7 k8 k9 k10 k11 k12 (nI mc) len thr ky ro ln kd nb sc wa sm ld lo lw tx))) 0 0 (adr (wK G k0 k1 k2 k3 k4 k5 k6 k7 k8 k9 k10 k11 k12 (nI mc) len thr ky ro ln kd nb sc wa sm ld lo lw tx)) := by
  refine Met.ofW (cc := cX4_row) (maxL := 8) (ret := (some .boolean)) (by decide) rfl ?_
  intro p e s m args below meth c s₁ B hml hv
  obtain ⟨rfl, hP, hE, hD0⟩ := hv
  have hx := B.exec
  have hb := B.bytes
  have hr := B.returns
  have hts := atoms_spec (ws := wsX4_row) B.pre
  have hown : s.vm.findClass RX4 = some m.cls := findClass_of_methodNamed B.named
  have hlocks := B.notSynchronized
  have hD : va_D (adr (wK G k0 k1 k2 k3 k4 k5 k6 k7 k8 k9 k10 k11 k12 (nI mc) len thr ky ro ln kd nb sc wa sm ld lo lw tx)) (wK G k0 k1 k2 k3 k4 k5 k6 k7 k8 k9 k10 k11 k12 (nI mc) len thr ky ro ln kd nb sc wa sm ld lo lw tx) := ⟨hD0.1, fun k q hk => ⟨k, q.2, hk⟩⟩
  generalize adr (wK G k0 k1 k2 k3 k4 k5 k6 k7 k8 k9 k10 k11 k12 (nI mc) len thr ky ro ln kd nb sc wa sm ld lo lw tx) = A at hD ⊢
  have hS : va_S A s.heap s.heap [] := va_S.rf
  have hiX4 : ∀ w ∈ wsX40, w ∈ wsX4_row := by decide +kernel
  have hl := lv_entry ([.ref k0, .int (nI j), .int d, .long a, .long b]) (n := 8) (Nat.le_of_ble_eq_true rfl)
  rw [lg_entry_eq]
  generalize (lg_sl ([.ref k0, .int (nI j), .int d, .long a, .long b]) ++ List.replicate (8 - (lg_sl ([.ref k0, .int (nI j), .int d, .long a, .long b])).length) Slot.unset).toArray = ls at hl ⊢
  replace hl : lv_has ls 8 [(0, .ref k0), (1, .int (nI j)), (2, .int d), (3, .long a), (5, .long b)] := hl
  have hm : ¬ f_holds (nI mc) (nI j) = 0 := (f_holds_iff (by omega) _).mpr ⟨j, hj, rfl⟩
  replace hj : j < 8 := by omega
  refine lv_aload_n hx hb dX4_row_0 rfl (lv_at hl 0 rfl) ?_
  refine lv_iconst (v := 0) hx hb dX4_row_1 (by decide) ?_
  refine va_put (D := G.1) (ci := 5) (v := .int 0) (ty := .int) (C := RX4) (T := TX4) (N := 15) hx hb hts hiX4 tyX4 tyX4_ok nmX4 hown hE.1 hP hD hS 0 rfl rfl 14 (by decide) (hts (.fieldLink RX4 47 "MeterSealsModel" "thrown" "I") (by decide +kernel)) (fun _ h9 => h9) rfl (by decide +kernel) rfl rfl (Nat.le_of_ble_eq_true rfl) dX4_row_2 (fun H locs hP hD hS => ?_)
  replace hP : va_P G.1 vwCl (wK G k0 k1 k2 k3 k4 k5 k6 k7 k8 k9 k10 k11 k12 (nI mc) len 0 ky ro ln kd nb sc wa sm ld lo lw tx) H := hP
  replace hD : va_D A (wK G k0 k1 k2 k3 k4 k5 k6 k7 k8 k9 k10 k11 k12 (nI mc) len 0 ky ro ln kd nb sc wa sm ld lo lw tx) := hD
  refine lv_aload_n hx hb dX4_row_5 rfl (lv_at hl 0 rfl) ?_
  refine lv_iload_n hx hb dX4_row_6 rfl (lv_at hl 1 rfl) ?_
  refine x_ri (va_runV (As := [.int (nI j)]) (rest := []) ⟨hx, hb, hml, hown, hts⟩ (ct_X4_isMeter l G k0 k1 k2 k3 k4 k5 k6 k7 k8 k9 k10 k11 k12 mc len 0 ky ro ln kd nb sc wa sm ld lo lw tx (nI j)) (cwV 1 hts gX4_row_X4_isMeter rfl rfl rfl (by decide +kernel) ⟨Nat.le_of_ble_eq_true rfl, Nat.le_of_ble_eq_true rfl⟩) (RdP.preV 0 5 rfl rfl hP hE) rfl rfl hl.1 rfl (lv_room (Nat.le_of_ble_eq_true rfl)) dX4_row_7 ⟨Nat.zero_le _, Nat.zero_le _⟩) (fun r1 er1 => ?_)
  subst er1
  refine lv_if_eq (tgt := 56) hx hb dX4_row_10 (by decide) (fun c10 => absurd c10 hm) (fun c10 => ?_)
  refine lv_iload_n hx hb dX4_row_13 rfl (lv_at hl 2 rfl) ?_
  refine lv_bipush (v := (-50)) hx hb dX4_row_14 (by decide) ?_
  refine lv_icmp_lt (tgt := 56) hx hb dX4_row_16 (by decide) (fun c16 => ?_) (fun c16 => ?_)
  · refine lv_iconst (v := 0) hx hb dX4_row_56 (by decide) ?_
    exact W.zret (v := 0) hx hb hr (zb (Or.inl rfl)) (fun tZ hZ hW => ⟨⟨0, wK G k0 k1 k2 k3 k4 k5 k6 k7 k8 k9 k10 k11 k12 (nI mc) len 0 ky ro ln kd nb sc wa sm ld lo lw tx, rfl, Or.inl ⟨by simp only [md_rwfit, if_pos c16], rfl, rfl⟩, by show va_P _ _ _ tZ.heap; rw [hZ]; exact hP⟩, hS.F hZ⟩) hS.2.2 dX4_row_57
  refine lv_iload_n hx hb dX4_row_19 rfl (lv_at hl 2 rfl) ?_
  refine lv_sipush (v := 150) hx hb dX4_row_20 (by decide) ?_
  refine lv_icmp_gt (tgt := 56) hx hb dX4_row_23 (by decide) (fun c23 => ?_) (fun c23 => ?_)
  · refine lv_iconst (v := 0) hx hb dX4_row_56 (by decide) ?_
    exact W.zret (v := 0) hx hb hr (zb (Or.inl rfl)) (fun tZ hZ hW => ⟨⟨0, wK G k0 k1 k2 k3 k4 k5 k6 k7 k8 k9 k10 k11 k12 (nI mc) len 0 ky ro ln kd nb sc wa sm ld lo lw tx, rfl, Or.inl ⟨by simp only [md_rwfit, if_neg c16, if_pos c23], rfl, rfl⟩, by show va_P _ _ _ tZ.heap; rw [hZ]; exact hP⟩, hS.F hZ⟩) hS.2.2 dX4_row_57
  refine lv_lload_n hx hb dX4_row_26 rfl (lv_at hl 3 rfl) ?_
  refine lv_lconst (v := 1) hx hb dX4_row_27 (by decide) ?_
  refine x_llt (tgt := 56) hx hb dX4_row_28 dX4_row_29 (by decide) (fun c29 => ?_) (fun c29 => ?_)
  · refine lv_iconst (v := 0) hx hb dX4_row_56 (by decide) ?_
    exact W.zret (v := 0) hx hb hr (zb (Or.inl rfl)) (fun tZ hZ hW => ⟨⟨0, wK G k0 k1 k2 k3 k4 k5 k6 k7 k8 k9 k10 k11 k12 (nI mc) len 0 ky ro ln kd nb sc wa sm ld lo lw tx, rfl, Or.inl ⟨by simp only [md_rwfit, if_neg c16, if_neg c23, if_pos c29], rfl, rfl⟩, by show va_P _ _ _ tZ.heap; rw [hZ]; exact hP⟩, hS.F hZ⟩) hS.2.2 dX4_row_57
  refine lv_lload_n hx hb dX4_row_32 rfl (lv_at hl 3 rfl) ?_
  refine lv_ldc2 (v := 10000) hx hb hown (hts (.constantLong RX4 82 10000) (by decide +kernel)) dX4_row_33 ?_
  refine x_lgt (tgt := 56) hx hb dX4_row_36 dX4_row_37 (by decide) (fun c37 => ?_) (fun c37 => ?_)
  · refine lv_iconst (v := 0) hx hb dX4_row_56 (by decide) ?_
    exact W.zret (v := 0) hx hb hr (zb (Or.inl rfl)) (fun tZ hZ hW => ⟨⟨0, wK G k0 k1 k2 k3 k4 k5 k6 k7 k8 k9 k10 k11 k12 (nI mc) len 0 ky ro ln kd nb sc wa sm ld lo lw tx, rfl, Or.inl ⟨by simp only [md_rwfit, if_neg c16, if_neg c23, if_neg c29, if_pos c37], rfl, rfl⟩, by show va_P _ _ _ tZ.heap; rw [hZ]; exact hP⟩, hS.F hZ⟩) hS.2.2 dX4_row_57
  refine lv_lload hx hb dX4_row_40 (lv_at hl 4 rfl) ?_
  refine lv_lconst (v := 1) hx hb dX4_row_42 (by decide) ?_
  refine x_llt (tgt := 56) hx hb dX4_row_43 dX4_row_44 (by decide) (fun c44 => ?_) (fun c44 => ?_)
  · refine lv_iconst (v := 0) hx hb dX4_row_56 (by decide) ?_
    exact W.zret (v := 0) hx hb hr (zb (Or.inl rfl)) (fun tZ hZ hW => ⟨⟨0, wK G k0 k1 k2 k3 k4 k5 k6 k7 k8 k9 k10 k11 k12 (nI mc) len 0 ky ro ln kd nb sc wa sm ld lo lw tx, rfl, Or.inl ⟨by simp only [md_rwfit, if_neg c16, if_neg c23, if_neg c29, if_neg c37, if_pos c44], rfl, rfl⟩, by show va_P _ _ _ tZ.heap; rw [hZ]; exact hP⟩, hS.F hZ⟩) hS.2.2 dX4_row_57
  refine lv_lload hx hb dX4_row_47 (lv_at hl 4 rfl) ?_
  refine lv_ldc2 (v := 10000) hx hb hown (hts (.constantLong RX4 82 10000) (by decide +kernel)) dX4_row_49 ?_
  refine x_lle (tgt := 58) hx hb dX4_row_52 dX4_row_53 (by decide) (fun c53 => ?_) (fun c53 => ?_)
  · refine lv_iconst (v := 0) hx hb dX4_row_58 (by decide) ?_
    refine lv_istore (lv' := [(7, .int 0), (0, .ref k0), (1, .int (nI j)), (2, .int d), (3, .long a), (5, .long b)]) hx hb dX4_row_59 hl (by decide) rfl (fun ls hl => ?_)
    have hfit : md_rwfit d a b = 1 := by simp only [md_rwfit, if_neg c16, if_neg c23, if_neg c29, if_neg c37, if_neg c44, if_pos c53]
    obtain ⟨i, hi⟩ : ∃ i : Nat, i = 0 := ⟨_, rfl⟩
    replace hl : lv_has ls 8 [(7, .int (nI i)), (0, .ref k0), (1, .int (nI j)), (2, .int d), (3, .long a), (5, .long b)] := by rw [hi]; exact lv_sub hl [0, 1, 2, 3, 4, 5] rfl
    obtain ⟨k, hk⟩ : ∃ k : Nat, i + k = t := ⟨t - i, by omega⟩
    have hv : md_plF ld j d t k i = md_pl ld j d t := by rw [hi, show k = t by omega]; rfl
    clear hi
    induction k generalizing i ls with
    | zero =>
      refine lv_iload hx hb dX4_row_61 (lv_at hl 0 rfl) ?_
      refine lv_aload_n hx hb dX4_row_63 rfl (lv_at hl 1 rfl) ?_
      refine va_get (D := G.1) (ci := 5) (v := .ref k3) (C := RX4) (T := TX4) (N := 15) hx hb hts hiX4 hown hE.1 hP 0 rfl rfl 2 (by decide) (hts (.fieldLink RX4 17 "MeterSealsModel" "lines" "[I") (by decide +kernel)) (fun _ h9 => h9) rfl dX4_row_64 ?_
      refine lv_iload_n hx hb dX4_row_67 rfl (lv_at hl 2 rfl) ?_
      refine va_iald hx hb hE.1 hP 3 0 rfl rfl (vp_in_nI (show j < 8 by omega) (by decide)) dX4_row_68 ?_
      rw [nI_clamp (n := j) (by omega)]
      rw [hln]
      refine lv_icmp_ge (tgt := 94) hx hb dX4_row_69 (by decide) (fun c69 => ?_) (fun c69 => absurd (nI_le (by omega) (by omega)) c69)
      have hpl : md_pl ld j d t = nI i := by rw [← hv, show i = t by omega]; rfl
      have hit : i ≤ t := by omega
      refine lv_iload hx hb dX4_row_94 (lv_at hl 0 rfl) ?_
      refine lv_bipush (v := 16) hx hb dX4_row_96 (by decide) ?_
      refine lv_icmp_ne (tgt := 103) hx hb dX4_row_98 (by decide) (fun c98 => ?_) (fun c98 => ?_)
      · have hi16 : i < 16 := ne16 (by omega) c98
        refine lv_aload_n hx hb dX4_row_103 rfl (lv_at hl 1 rfl) ?_
        refine va_get (D := G.1) (ci := 5) (v := .ref k9) (C := RX4) (T := TX4) (N := 15) hx hb hts hiX4 hown hE.1 hP 0 rfl rfl 9 (by decide) (hts (.fieldLink RX4 35 "MeterSealsModel" "lineDegrees" "[I") (by decide +kernel)) (fun _ h9 => h9) rfl dX4_row_104 ?_
        refine lv_iload_n hx hb dX4_row_107 rfl (lv_at hl 2 rfl) ?_
        refine lv_bipush (v := 16) hx hb dX4_row_108 (by decide) ?_
        refine lv_imul hx hb dX4_row_110 ?_
        rw [nI_mul16 j]
        refine lv_iload hx hb dX4_row_111 (lv_at hl 0 rfl) ?_
        refine lv_iadd hx hb dX4_row_113 ?_
        rw [nI_add (j * 16) i]
        refine lv_iload_n hx hb dX4_row_114 rfl (lv_at hl 3 rfl) ?_
        refine va_iast hx hb hE.1 hP hD hS 9 0 rfl rfl (vp_in_nI (show j * 16 + i < 128 by omega) (by decide)) dX4_row_115 (fun H locs hP hD hS => ?_)
        rw [nI_clamp (n := j * 16 + i) (by omega)] at hP hD
        replace hP : va_P G.1 vwCl (wK G k0 k1 k2 k3 k4 k5 k6 k7 k8 k9 k10 k11 k12 (nI mc) len 0 ky ro ln kd nb sc wa sm (upd ld (j * 16 + i) d) lo lw tx) H := hP
        replace hD : va_D A (wK G k0 k1 k2 k3 k4 k5 k6 k7 k8 k9 k10 k11 k12 (nI mc) len 0 ky ro ln kd nb sc wa sm (upd ld (j * 16 + i) d) lo lw tx) := hD
        refine lv_aload_n hx hb dX4_row_116 rfl (lv_at hl 1 rfl) ?_
        refine va_get (D := G.1) (ci := 5) (v := .ref k10) (C := RX4) (T := TX4) (N := 15) hx hb hts hiX4 hown hE.1 hP 0 rfl rfl 10 (by decide) (hts (.fieldLink RX4 38 "MeterSealsModel" "lineAbove" "[J") (by decide +kernel)) (fun _ h9 => h9) rfl dX4_row_117 ?_
        refine lv_iload_n hx hb dX4_row_120 rfl (lv_at hl 2 rfl) ?_
        refine lv_bipush (v := 16) hx hb dX4_row_121 (by decide) ?_
        refine lv_imul hx hb dX4_row_123 ?_
        rw [nI_mul16 j]
        refine lv_iload hx hb dX4_row_124 (lv_at hl 0 rfl) ?_
        refine lv_iadd hx hb dX4_row_126 ?_
        rw [nI_add (j * 16) i]
        refine lv_lload_n hx hb dX4_row_127 rfl (lv_at hl 4 rfl) ?_
        refine va_last hx hb hE.1 hP hD hS 10 1 rfl rfl (vp_in_nI (show j * 16 + i < 128 by omega) (by decide)) dX4_row_128 (fun H locs hP hD hS => ?_)
        rw [nI_clamp (n := j * 16 + i) (by omega)] at hP hD
        replace hP : va_P G.1 vwCl (wK G k0 k1 k2 k3 k4 k5 k6 k7 k8 k9 k10 k11 k12 (nI mc) len 0 ky ro ln kd nb sc wa sm (upd ld (j * 16 + i) d) (vp_updL lo (j * 16 + i) a) lw tx) H := hP
        replace hD : va_D A (wK G k0 k1 k2 k3 k4 k5 k6 k7 k8 k9 k10 k11 k12 (nI mc) len 0 ky ro ln kd nb sc wa sm (upd ld (j * 16 + i) d) (vp_updL lo (j * 16 + i) a) lw tx) := hD
        refine lv_aload_n hx hb dX4_row_129 rfl (lv_at hl 1 rfl) ?_
        refine va_get (D := G.1) (ci := 5) (v := .ref k11) (C := RX4) (T := TX4) (N := 15) hx hb hts hiX4 hown hE.1 hP 0 rfl rfl 11 (by decide) (hts (.fieldLink RX4 41 "MeterSealsModel" "lineBelow" "[J") (by decide +kernel)) (fun _ h9 => h9) rfl dX4_row_130 ?_
        refine lv_iload_n hx hb dX4_row_133 rfl (lv_at hl 2 rfl) ?_
        refine lv_bipush (v := 16) hx hb dX4_row_134 (by decide) ?_
        refine lv_imul hx hb dX4_row_136 ?_
        rw [nI_mul16 j]
        refine lv_iload hx hb dX4_row_137 (lv_at hl 0 rfl) ?_
        refine lv_iadd hx hb dX4_row_139 ?_
        rw [nI_add (j * 16) i]
        refine lv_lload hx hb dX4_row_140 (lv_at hl 5 rfl) ?_
        refine va_last hx hb hE.1 hP hD hS 11 1 rfl rfl (vp_in_nI (show j * 16 + i < 128 by omega) (by decide)) dX4_row_142 (fun H locs hP hD hS => ?_)
        rw [nI_clamp (n := j * 16 + i) (by omega)] at hP hD
        replace hP : va_P G.1 vwCl (wK G k0 k1 k2 k3 k4 k5 k6 k7 k8 k9 k10 k11 k12 (nI mc) len 0 ky ro ln kd nb sc wa sm (upd ld (j * 16 + i) d) (vp_updL lo (j * 16 + i) a) (vp_updL lw (j * 16 + i) b) tx) H := hP
        replace hD : va_D A (wK G k0 k1 k2 k3 k4 k5 k6 k7 k8 k9 k10 k11 k12 (nI mc) len 0 ky ro ln kd nb sc wa sm (upd ld (j * 16 + i) d) (vp_updL lo (j * 16 + i) a) (vp_updL lw (j * 16 + i) b) tx) := hD
        refine lv_aload_n hx hb dX4_row_143 rfl (lv_at hl 1 rfl) ?_
        refine va_get (D := G.1) (ci := 5) (v := .ref k3) (C := RX4) (T := TX4) (N := 15) hx hb hts hiX4 hown hE.1 hP 0 rfl rfl 2 (by decide) (hts (.fieldLink RX4 17 "MeterSealsModel" "lines" "[I") (by decide +kernel)) (fun _ h9 => h9) rfl dX4_row_144 ?_
        refine lv_iload_n hx hb dX4_row_147 rfl (lv_at hl 2 rfl) ?_
        refine lv_iload hx hb dX4_row_148 (lv_at hl 0 rfl) ?_
        refine lv_aload_n hx hb dX4_row_150 rfl (lv_at hl 1 rfl) ?_
        refine va_get (D := G.1) (ci := 5) (v := .ref k3) (C := RX4) (T := TX4) (N := 15) hx hb hts hiX4 hown hE.1 hP 0 rfl rfl 2 (by decide) (hts (.fieldLink RX4 17 "MeterSealsModel" "lines" "[I") (by decide +kernel)) (fun _ h9 => h9) rfl dX4_row_151 ?_
        refine lv_iload_n hx hb dX4_row_154 rfl (lv_at hl 2 rfl) ?_
        refine va_iald hx hb hE.1 hP 3 0 rfl rfl (vp_in_nI (show j < 8 by omega) (by decide)) dX4_row_155 ?_
        rw [nI_clamp (n := j) (by omega)]
        rw [hln]
        refine lv_icmp_ne (tgt := 166) hx hb dX4_row_156 (by decide) (fun c156 => ?_) (fun c156 => ?_)
        · refine lv_aload_n hx hb dX4_row_166 rfl (lv_at hl 1 rfl) ?_
          refine va_get (D := G.1) (ci := 5) (v := .ref k3) (C := RX4) (T := TX4) (N := 15) hx hb hts hiX4 hown hE.1 hP 0 rfl rfl 2 (by decide) (hts (.fieldLink RX4 17 "MeterSealsModel" "lines" "[I") (by decide +kernel)) (fun _ h9 => h9) rfl dX4_row_167 ?_
          refine lv_iload_n hx hb dX4_row_170 rfl (lv_at hl 2 rfl) ?_
          refine va_iald hx hb hE.1 hP 3 0 rfl rfl (vp_in_nI (show j < 8 by omega) (by decide)) dX4_row_171 ?_
          rw [nI_clamp (n := j) (by omega)]
          rw [hln]
          refine va_iast hx hb hE.1 hP hD hS 3 0 rfl rfl (vp_in_nI (show j < 8 by omega) (by decide)) dX4_row_172 (fun H locs hP hD hS => ?_)
          rw [nI_clamp (n := j) (by omega)] at hP hD
          replace hP : va_P G.1 vwCl (wK G k0 k1 k2 k3 k4 k5 k6 k7 k8 k9 k10 k11 k12 (nI mc) len 0 ky ro (upd ln j (nI t)) kd nb sc wa sm (upd ld (j * 16 + i) d) (vp_updL lo (j * 16 + i) a) (vp_updL lw (j * 16 + i) b) tx) H := hP
          replace hD : va_D A (wK G k0 k1 k2 k3 k4 k5 k6 k7 k8 k9 k10 k11 k12 (nI mc) len 0 ky ro (upd ln j (nI t)) kd nb sc wa sm (upd ld (j * 16 + i) d) (vp_updL lo (j * 16 + i) a) (vp_updL lw (j * 16 + i) b) tx) := hD
          refine lv_iconst (v := 1) hx hb dX4_row_173 (by decide) ?_
          exact W.zret (v := 1) hx hb hr (zb (Or.inr rfl)) (fun tZ hZ hW => ⟨⟨1, wK G k0 k1 k2 k3 k4 k5 k6 k7 k8 k9 k10 k11 k12 (nI mc) len 0 ky ro (upd ln j (nI t)) kd nb sc wa sm (upd ld (j * 16 + i) d) (vp_updL lo (j * 16 + i) a) (vp_updL lw (j * 16 + i) b) tx, rfl, Or.inr ⟨hfit, i, hit, hpl, Or.inr ⟨hi16, rfl, by rw [if_neg (fun q => c156 (by rw [q]))]⟩⟩, by show va_P _ _ _ tZ.heap; rw [hZ]; exact hP⟩, hS.F hZ⟩) hS.2.2 dX4_row_174
        refine lv_iload hx hb dX4_row_159 (lv_at hl 0 rfl) ?_
        refine lv_iconst (v := 1) hx hb dX4_row_161 (by decide) ?_
        refine lv_iadd hx hb dX4_row_162 ?_
        rw [nI_1 i]
        refine lv_goto (tgt := 172) hx hb dX4_row_163 (by decide) ?_
        refine va_iast hx hb hE.1 hP hD hS 3 0 rfl rfl (vp_in_nI (show j < 8 by omega) (by decide)) dX4_row_172 (fun H locs hP hD hS => ?_)
        rw [nI_clamp (n := j) (by omega)] at hP hD
        replace hP : va_P G.1 vwCl (wK G k0 k1 k2 k3 k4 k5 k6 k7 k8 k9 k10 k11 k12 (nI mc) len 0 ky ro (upd ln j (nI (i + 1))) kd nb sc wa sm (upd ld (j * 16 + i) d) (vp_updL lo (j * 16 + i) a) (vp_updL lw (j * 16 + i) b) tx) H := hP
        replace hD : va_D A (wK G k0 k1 k2 k3 k4 k5 k6 k7 k8 k9 k10 k11 k12 (nI mc) len 0 ky ro (upd ln j (nI (i + 1))) kd nb sc wa sm (upd ld (j * 16 + i) d) (vp_updL lo (j * 16 + i) a) (vp_updL lw (j * 16 + i) b) tx) := hD
        refine lv_iconst (v := 1) hx hb dX4_row_173 (by decide) ?_
        exact W.zret (v := 1) hx hb hr (zb (Or.inr rfl)) (fun tZ hZ hW => ⟨⟨1, wK G k0 k1 k2 k3 k4 k5 k6 k7 k8 k9 k10 k11 k12 (nI mc) len 0 ky ro (upd ln j (nI (i + 1))) kd nb sc wa sm (upd ld (j * 16 + i) d) (vp_updL lo (j * 16 + i) a) (vp_updL lw (j * 16 + i) b) tx, rfl, Or.inr ⟨hfit, i, hit, hpl, Or.inr ⟨hi16, rfl, by rw [if_pos ((nI_eq (by omega) (by omega)).mp c156), (nI_eq (by omega) (by omega)).mp c156]⟩⟩, by show va_P _ _ _ tZ.heap; rw [hZ]; exact hP⟩, hS.F hZ⟩) hS.2.2 dX4_row_174
      refine lv_iconst (v := 0) hx hb dX4_row_101 (by decide) ?_
      exact W.zret (v := 0) hx hb hr (zb (Or.inl rfl)) (fun tZ hZ hW => ⟨⟨0, wK G k0 k1 k2 k3 k4 k5 k6 k7 k8 k9 k10 k11 k12 (nI mc) len 0 ky ro ln kd nb sc wa sm ld lo lw tx, rfl, Or.inr ⟨hfit, i, hit, hpl, Or.inl ⟨eq16 (by omega) c98, rfl, rfl⟩⟩, by show va_P _ _ _ tZ.heap; rw [hZ]; exact hP⟩, hS.F hZ⟩) hS.2.2 dX4_row_102
    | succ k ih =>
      refine lv_iload hx hb dX4_row_61 (lv_at hl 0 rfl) ?_
      refine lv_aload_n hx hb dX4_row_63 rfl (lv_at hl 1 rfl) ?_
      refine va_get (D := G.1) (ci := 5) (v := .ref k3) (C := RX4) (T := TX4) (N := 15) hx hb hts hiX4 hown hE.1 hP 0 rfl rfl 2 (by decide) (hts (.fieldLink RX4 17 "MeterSealsModel" "lines" "[I") (by decide +kernel)) (fun _ h9 => h9) rfl dX4_row_64 ?_
      refine lv_iload_n hx hb dX4_row_67 rfl (lv_at hl 2 rfl) ?_
      refine va_iald hx hb hE.1 hP 3 0 rfl rfl (vp_in_nI (show j < 8 by omega) (by decide)) dX4_row_68 ?_
      rw [nI_clamp (n := j) (by omega)]
      rw [hln]
      refine lv_icmp_ge (tgt := 94) hx hb dX4_row_69 (by decide) (fun c69 => absurd c69 (nI_ge (by omega) (by omega))) (fun c69 => ?_)
      refine lv_aload_n hx hb dX4_row_72 rfl (lv_at hl 1 rfl) ?_
      refine va_get (D := G.1) (ci := 5) (v := .ref k9) (C := RX4) (T := TX4) (N := 15) hx hb hts hiX4 hown hE.1 hP 0 rfl rfl 9 (by decide) (hts (.fieldLink RX4 35 "MeterSealsModel" "lineDegrees" "[I") (by decide +kernel)) (fun _ h9 => h9) rfl dX4_row_73 ?_
      refine lv_iload_n hx hb dX4_row_76 rfl (lv_at hl 2 rfl) ?_
      refine lv_bipush (v := 16) hx hb dX4_row_77 (by decide) ?_
      refine lv_imul hx hb dX4_row_79 ?_
      rw [nI_mul16 j]
      refine lv_iload hx hb dX4_row_80 (lv_at hl 0 rfl) ?_
      refine lv_iadd hx hb dX4_row_82 ?_
      rw [nI_add (j * 16) i]
      refine va_iald hx hb hE.1 hP 9 0 rfl rfl (vp_in_nI (show j * 16 + i < 128 by omega) (by decide)) dX4_row_83 ?_
      rw [nI_clamp (n := j * 16 + i) (by omega)]
      refine lv_iload_n hx hb dX4_row_84 rfl (lv_at hl 3 rfl) ?_
      refine lv_icmp_eq (tgt := 94) hx hb dX4_row_85 (by decide) (fun c85 => ?_) (fun c85 => ?_)
      · have hpl : md_pl ld j d t = nI i := by rw [← hv]; simp only [md_plF, if_pos c85]
        have hit : i ≤ t := by omega
        refine lv_iload hx hb dX4_row_94 (lv_at hl 0 rfl) ?_
        refine lv_bipush (v := 16) hx hb dX4_row_96 (by decide) ?_
        refine lv_icmp_ne (tgt := 103) hx hb dX4_row_98 (by decide) (fun c98 => ?_) (fun c98 => ?_)
        · have hi16 : i < 16 := ne16 (by omega) c98
          refine lv_aload_n hx hb dX4_row_103 rfl (lv_at hl 1 rfl) ?_
          refine va_get (D := G.1) (ci := 5) (v := .ref k9) (C := RX4) (T := TX4) (N := 15) hx hb hts hiX4 hown hE.1 hP 0 rfl rfl 9 (by decide) (hts (.fieldLink RX4 35 "MeterSealsModel" "lineDegrees" "[I") (by decide +kernel)) (fun _ h9 => h9) rfl dX4_row_104 ?_
          refine lv_iload_n hx hb dX4_row_107 rfl (lv_at hl 2 rfl) ?_
          refine lv_bipush (v := 16) hx hb dX4_row_108 (by decide) ?_
          refine lv_imul hx hb dX4_row_110 ?_
          rw [nI_mul16 j]
          refine lv_iload hx hb dX4_row_111 (lv_at hl 0 rfl) ?_
          refine lv_iadd hx hb dX4_row_113 ?_
          rw [nI_add (j * 16) i]
          refine lv_iload_n hx hb dX4_row_114 rfl (lv_at hl 3 rfl) ?_
          refine va_iast hx hb hE.1 hP hD hS 9 0 rfl rfl (vp_in_nI (show j * 16 + i < 128 by omega) (by decide)) dX4_row_115 (fun H locs hP hD hS => ?_)
          rw [nI_clamp (n := j * 16 + i) (by omega)] at hP hD
          replace hP : va_P G.1 vwCl (wK G k0 k1 k2 k3 k4 k5 k6 k7 k8 k9 k10 k11 k12 (nI mc) len 0 ky ro ln kd nb sc wa sm (upd ld (j * 16 + i) d) lo lw tx) H := hP
          replace hD : va_D A (wK G k0 k1 k2 k3 k4 k5 k6 k7 k8 k9 k10 k11 k12 (nI mc) len 0 ky ro ln kd nb sc wa sm (upd ld (j * 16 + i) d) lo lw tx) := hD
          refine lv_aload_n hx hb dX4_row_116 rfl (lv_at hl 1 rfl) ?_
          refine va_get (D := G.1) (ci := 5) (v := .ref k10) (C := RX4) (T := TX4) (N := 15) hx hb hts hiX4 hown hE.1 hP 0 rfl rfl 10 (by decide) (hts (.fieldLink RX4 38 "MeterSealsModel" "lineAbove" "[J") (by decide +kernel)) (fun _ h9 => h9) rfl dX4_row_117 ?_
          refine lv_iload_n hx hb dX4_row_120 rfl (lv_at hl 2 rfl) ?_
          refine lv_bipush (v := 16) hx hb dX4_row_121 (by decide) ?_
          refine lv_imul hx hb dX4_row_123 ?_
          rw [nI_mul16 j]
          refine lv_iload hx hb dX4_row_124 (lv_at hl 0 rfl) ?_
          refine lv_iadd hx hb dX4_row_126 ?_
          rw [nI_add (j * 16) i]
          refine lv_lload_n hx hb dX4_row_127 rfl (lv_at hl 4 rfl) ?_
          refine va_last hx hb hE.1 hP hD hS 10 1 rfl rfl (vp_in_nI (show j * 16 + i < 128 by omega) (by decide)) dX4_row_128 (fun H locs hP hD hS => ?_)
          rw [nI_clamp (n := j * 16 + i) (by omega)] at hP hD
          replace hP : va_P G.1 vwCl (wK G k0 k1 k2 k3 k4 k5 k6 k7 k8 k9 k10 k11 k12 (nI mc) len 0 ky ro ln kd nb sc wa sm (upd ld (j * 16 + i) d) (vp_updL lo (j * 16 + i) a) lw tx) H := hP
          replace hD : va_D A (wK G k0 k1 k2 k3 k4 k5 k6 k7 k8 k9 k10 k11 k12 (nI mc) len 0 ky ro ln kd nb sc wa sm (upd ld (j * 16 + i) d) (vp_updL lo (j * 16 + i) a) lw tx) := hD
          refine lv_aload_n hx hb dX4_row_129 rfl (lv_at hl 1 rfl) ?_
          refine va_get (D := G.1) (ci := 5) (v := .ref k11) (C := RX4) (T := TX4) (N := 15) hx hb hts hiX4 hown hE.1 hP 0 rfl rfl 11 (by decide) (hts (.fieldLink RX4 41 "MeterSealsModel" "lineBelow" "[J") (by decide +kernel)) (fun _ h9 => h9) rfl dX4_row_130 ?_
          refine lv_iload_n hx hb dX4_row_133 rfl (lv_at hl 2 rfl) ?_
          refine lv_bipush (v := 16) hx hb dX4_row_134 (by decide) ?_
          refine lv_imul hx hb dX4_row_136 ?_
          rw [nI_mul16 j]
          refine lv_iload hx hb dX4_row_137 (lv_at hl 0 rfl) ?_
          refine lv_iadd hx hb dX4_row_139 ?_
          rw [nI_add (j * 16) i]
          refine lv_lload hx hb dX4_row_140 (lv_at hl 5 rfl) ?_
          refine va_last hx hb hE.1 hP hD hS 11 1 rfl rfl (vp_in_nI (show j * 16 + i < 128 by omega) (by decide)) dX4_row_142 (fun H locs hP hD hS => ?_)
          rw [nI_clamp (n := j * 16 + i) (by omega)] at hP hD
          replace hP : va_P G.1 vwCl (wK G k0 k1 k2 k3 k4 k5 k6 k7 k8 k9 k10 k11 k12 (nI mc) len 0 ky ro ln kd nb sc wa sm (upd ld (j * 16 + i) d) (vp_updL lo (j * 16 + i) a) (vp_updL lw (j * 16 + i) b) tx) H := hP
          replace hD : va_D A (wK G k0 k1 k2 k3 k4 k5 k6 k7 k8 k9 k10 k11 k12 (nI mc) len 0 ky ro ln kd nb sc wa sm (upd ld (j * 16 + i) d) (vp_updL lo (j * 16 + i) a) (vp_updL lw (j * 16 + i) b) tx) := hD
          refine lv_aload_n hx hb dX4_row_143 rfl (lv_at hl 1 rfl) ?_
          refine va_get (D := G.1) (ci := 5) (v := .ref k3) (C := RX4) (T := TX4) (N := 15) hx hb hts hiX4 hown hE.1 hP 0 rfl rfl 2 (by decide) (hts (.fieldLink RX4 17 "MeterSealsModel" "lines" "[I") (by decide +kernel)) (fun _ h9 => h9) rfl dX4_row_144 ?_
          refine lv_iload_n hx hb dX4_row_147 rfl (lv_at hl 2 rfl) ?_
          refine lv_iload hx hb dX4_row_148 (lv_at hl 0 rfl) ?_
          refine lv_aload_n hx hb dX4_row_150 rfl (lv_at hl 1 rfl) ?_
          refine va_get (D := G.1) (ci := 5) (v := .ref k3) (C := RX4) (T := TX4) (N := 15) hx hb hts hiX4 hown hE.1 hP 0 rfl rfl 2 (by decide) (hts (.fieldLink RX4 17 "MeterSealsModel" "lines" "[I") (by decide +kernel)) (fun _ h9 => h9) rfl dX4_row_151 ?_
          refine lv_iload_n hx hb dX4_row_154 rfl (lv_at hl 2 rfl) ?_
          refine va_iald hx hb hE.1 hP 3 0 rfl rfl (vp_in_nI (show j < 8 by omega) (by decide)) dX4_row_155 ?_
          rw [nI_clamp (n := j) (by omega)]
          rw [hln]
          refine lv_icmp_ne (tgt := 166) hx hb dX4_row_156 (by decide) (fun c156 => ?_) (fun c156 => ?_)
          · refine lv_aload_n hx hb dX4_row_166 rfl (lv_at hl 1 rfl) ?_
            refine va_get (D := G.1) (ci := 5) (v := .ref k3) (C := RX4) (T := TX4) (N := 15) hx hb hts hiX4 hown hE.1 hP 0 rfl rfl 2 (by decide) (hts (.fieldLink RX4 17 "MeterSealsModel" "lines" "[I") (by decide +kernel)) (fun _ h9 => h9) rfl dX4_row_167 ?_
            refine lv_iload_n hx hb dX4_row_170 rfl (lv_at hl 2 rfl) ?_
            refine va_iald hx hb hE.1 hP 3 0 rfl rfl (vp_in_nI (show j < 8 by omega) (by decide)) dX4_row_171 ?_
            rw [nI_clamp (n := j) (by omega)]
            rw [hln]
            refine va_iast hx hb hE.1 hP hD hS 3 0 rfl rfl (vp_in_nI (show j < 8 by omega) (by decide)) dX4_row_172 (fun H locs hP hD hS => ?_)
            rw [nI_clamp (n := j) (by omega)] at hP hD
            replace hP : va_P G.1 vwCl (wK G k0 k1 k2 k3 k4 k5 k6 k7 k8 k9 k10 k11 k12 (nI mc) len 0 ky ro (upd ln j (nI t)) kd nb sc wa sm (upd ld (j * 16 + i) d) (vp_updL lo (j * 16 + i) a) (vp_updL lw (j * 16 + i) b) tx) H := hP
            replace hD : va_D A (wK G k0 k1 k2 k3 k4 k5 k6 k7 k8 k9 k10 k11 k12 (nI mc) len 0 ky ro (upd ln j (nI t)) kd nb sc wa sm (upd ld (j * 16 + i) d) (vp_updL lo (j * 16 + i) a) (vp_updL lw (j * 16 + i) b) tx) := hD
            refine lv_iconst (v := 1) hx hb dX4_row_173 (by decide) ?_
            exact W.zret (v := 1) hx hb hr (zb (Or.inr rfl)) (fun tZ hZ hW => ⟨⟨1, wK G k0 k1 k2 k3 k4 k5 k6 k7 k8 k9 k10 k11 k12 (nI mc) len 0 ky ro (upd ln j (nI t)) kd nb sc wa sm (upd ld (j * 16 + i) d) (vp_updL lo (j * 16 + i) a) (vp_updL lw (j * 16 + i) b) tx, rfl, Or.inr ⟨hfit, i, hit, hpl, Or.inr ⟨hi16, rfl, by rw [if_neg (fun q => c156 (by rw [q]))]⟩⟩, by show va_P _ _ _ tZ.heap; rw [hZ]; exact hP⟩, hS.F hZ⟩) hS.2.2 dX4_row_174
          refine lv_iload hx hb dX4_row_159 (lv_at hl 0 rfl) ?_
          refine lv_iconst (v := 1) hx hb dX4_row_161 (by decide) ?_
          refine lv_iadd hx hb dX4_row_162 ?_
          rw [nI_1 i]
          refine lv_goto (tgt := 172) hx hb dX4_row_163 (by decide) ?_
          refine va_iast hx hb hE.1 hP hD hS 3 0 rfl rfl (vp_in_nI (show j < 8 by omega) (by decide)) dX4_row_172 (fun H locs hP hD hS => ?_)
          rw [nI_clamp (n := j) (by omega)] at hP hD
          replace hP : va_P G.1 vwCl (wK G k0 k1 k2 k3 k4 k5 k6 k7 k8 k9 k10 k11 k12 (nI mc) len 0 ky ro (upd ln j (nI (i + 1))) kd nb sc wa sm (upd ld (j * 16 + i) d) (vp_updL lo (j * 16 + i) a) (vp_updL lw (j * 16 + i) b) tx) H := hP
          replace hD : va_D A (wK G k0 k1 k2 k3 k4 k5 k6 k7 k8 k9 k10 k11 k12 (nI mc) len 0 ky ro (upd ln j (nI (i + 1))) kd nb sc wa sm (upd ld (j * 16 + i) d) (vp_updL lo (j * 16 + i) a) (vp_updL lw (j * 16 + i) b) tx) := hD
          refine lv_iconst (v := 1) hx hb dX4_row_173 (by decide) ?_
          exact W.zret (v := 1) hx hb hr (zb (Or.inr rfl)) (fun tZ hZ hW => ⟨⟨1, wK G k0 k1 k2 k3 k4 k5 k6 k7 k8 k9 k10 k11 k12 (nI mc) len 0 ky ro (upd ln j (nI (i + 1))) kd nb sc wa sm (upd ld (j * 16 + i) d) (vp_updL lo (j * 16 + i) a) (vp_updL lw (j * 16 + i) b) tx, rfl, Or.inr ⟨hfit, i, hit, hpl, Or.inr ⟨hi16, rfl, by rw [if_pos ((nI_eq (by omega) (by omega)).mp c156), (nI_eq (by omega) (by omega)).mp c156]⟩⟩, by show va_P _ _ _ tZ.heap; rw [hZ]; exact hP⟩, hS.F hZ⟩) hS.2.2 dX4_row_174
        refine lv_iconst (v := 0) hx hb dX4_row_101 (by decide) ?_
        exact W.zret (v := 0) hx hb hr (zb (Or.inl rfl)) (fun tZ hZ hW => ⟨⟨0, wK G k0 k1 k2 k3 k4 k5 k6 k7 k8 k9 k10 k11 k12 (nI mc) len 0 ky ro ln kd nb sc wa sm ld lo lw tx, rfl, Or.inr ⟨hfit, i, hit, hpl, Or.inl ⟨eq16 (by omega) c98, rfl, rfl⟩⟩, by show va_P _ _ _ tZ.heap; rw [hZ]; exact hP⟩, hS.F hZ⟩) hS.2.2 dX4_row_102
      refine lv_iinc (v := (nI (i + 1))) (lv' := [(7, .int (nI (i + 1))), (0, .ref k0), (1, .int (nI j)), (2, .int d), (3, .long a), (5, .long b)]) hx hb dX4_row_88 hl (k := 0) rfl (nI_1 i) (by decide) rfl (fun ls hl => ?_)
      refine lv_goto (tgt := 61) hx hb dX4_row_91 (by decide) ?_
      exact ih ls (i + 1) (lv_sub hl [0, 1, 2, 3, 4, 5] rfl) (by omega) (by simpa only [md_plF, if_neg c85] using hv)
  refine lv_iconst (v := 0) hx hb dX4_row_56 (by decide) ?_
  exact W.zret (v := 0) hx hb hr (zb (Or.inl rfl)) (fun tZ hZ hW => ⟨⟨0, wK G k0 k1 k2 k3 k4 k5 k6 k7 k8 k9 k10 k11 k12 (nI mc) len 0 ky ro ln kd nb sc wa sm ld lo lw tx, rfl, Or.inl ⟨by simp only [md_rwfit, if_neg c16, if_neg c23, if_neg c29, if_neg c37, if_neg c44, if_neg c53], rfl, rfl⟩, by show va_P _ _ _ tZ.heap; rw [hZ]; exact hP⟩, hS.F hZ⟩) hS.2.2 dX4_row_57

set_option maxHeartbeats 4000000 in
set_option maxRecDepth 100000 in
/-- X4_litres, present -/
theorem cn_X4_litres (l : Launch) (G : Gx) (k0 k1 k2 k3 k4 k5 k6 k7 k8 k9 k10 k11 k12 : Nat) (mc : Nat) (len thr : Int32) (ky : Nat → Int64) (ro ln kd : Nat → Int32) (nb sc : Nat → Int64) (wa : Nat → Int32) (sm : Nat → Int64) (ld : Nat → Int32) (lo lw : Nat → Int64) (tx : Nat → Int32) (j n t : Nat) (row part : Int32) (hmc : mc ≤ 8) (hj : j < mc) (hn2 : n ≤ 200) (hro : ro j = nI n) (ht : t ≤ 16) (hln : ln j = nI t) (hp : part < 0 ∨ 1 < part) : Met l yX4_litres wsX4_litres ({ frames := 1, cells := 0, slots := 0, locals := 21 }) (WrP G (wK G k0 k1 k2 k3 k4 k5 k6 k7 k8 k9 k10 k11 k12 (nI mc) len thr ky ro ln kd nb sc wa sm ld lo lw tx) [.ref k0, .int (nI j), .int row, .int part]) (va_Ql (fun r (u : va_W) => r = -1 ∧ u = wK G k0 k1 k2 k3 k4 k5 k6 k7 k8 k9 k10 k11 k12 (nI mc) len 0 ky ro ln kd nb sc wa sm ld lo lw tx) (fun u t => va_P G.1 vwCl u t.heap) (adr (wK G k0 k1 k2 k3 k4 k5 k6 k7 k8 k9 k10 k11 k12 (nI mc) len thr ky ro ln kd nb sc wa sm ld lo lw tx))) 0 0 (adr (wK G k0 k1 k2 k3 k4 k5 k6 k7 k8 k9 k10 k11 k12 (nI mc) len thr ky ro ln kd nb sc wa sm ld lo lw tx)) := by
  refine Met.ofW (cc := cX4_litres) (maxL := 10) (ret := (some .long)) (by decide) rfl ?_
  intro p e s m args below meth c s₁ B hml hv
  obtain ⟨rfl, hP, hE, hD0⟩ := hv
  have hx := B.exec
  have hb := B.bytes
  have hr := B.returns
  have hts := atoms_spec (ws := wsX4_litres) B.pre
  have hown : s.vm.findClass RX4 = some m.cls := findClass_of_methodNamed B.named
  have hlocks := B.notSynchronized
  have hD : va_D (adr (wK G k0 k1 k2 k3 k4 k5 k6 k7 k8 k9 k10 k11 k12 (nI mc) len thr ky ro ln kd nb sc wa sm ld lo lw tx)) (wK G k0 k1 k2 k3 k4 k5 k6 k7 k8 k9 k10 k11 k12 (nI mc) len thr ky ro ln kd nb sc wa sm ld lo lw tx) := ⟨hD0.1, fun k q hk => ⟨k, q.2, hk⟩⟩
  generalize adr (wK G k0 k1 k2 k3 k4 k5 k6 k7 k8 k9 k10 k11 k12 (nI mc) len thr ky ro ln kd nb sc wa sm ld lo lw tx) = A at hD ⊢
  have hS : va_S A s.heap s.heap [] := va_S.rf
  have hiX4 : ∀ w ∈ wsX40, w ∈ wsX4_litres := by decide +kernel
  have hl := lv_entry ([.ref k0, .int (nI j), .int row, .int part]) (n := 10) (Nat.le_of_ble_eq_true rfl)
  rw [lg_entry_eq]
  generalize (lg_sl ([.ref k0, .int (nI j), .int row, .int part]) ++ List.replicate (10 - (lg_sl ([.ref k0, .int (nI j), .int row, .int part])).length) Slot.unset).toArray = ls at hl ⊢
  replace hl : lv_has ls 10 [(0, .ref k0), (1, .int (nI j)), (2, .int row), (3, .int part)] := hl
  have hm : ¬ f_holds (nI mc) (nI j) = 0 := (f_holds_iff (by omega) _).mpr ⟨j, hj, rfl⟩
  replace hj : j < 8 := by omega
  refine lv_aload_n hx hb dX4_litres_0 rfl (lv_at hl 0 rfl) ?_
  refine lv_iconst (v := 0) hx hb dX4_litres_1 (by decide) ?_
  refine va_put (D := G.1) (ci := 5) (v := .int 0) (ty := .int) (C := RX4) (T := TX4) (N := 15) hx hb hts hiX4 tyX4 tyX4_ok nmX4 hown hE.1 hP hD hS 0 rfl rfl 14 (by decide) (hts (.fieldLink RX4 47 "MeterSealsModel" "thrown" "I") (by decide +kernel)) (fun _ h9 => h9) rfl (by decide +kernel) rfl rfl (Nat.le_of_ble_eq_true rfl) dX4_litres_2 (fun H locs hP hD hS => ?_)
  replace hP : va_P G.1 vwCl (wK G k0 k1 k2 k3 k4 k5 k6 k7 k8 k9 k10 k11 k12 (nI mc) len 0 ky ro ln kd nb sc wa sm ld lo lw tx) H := hP
  replace hD : va_D A (wK G k0 k1 k2 k3 k4 k5 k6 k7 k8 k9 k10 k11 k12 (nI mc) len 0 ky ro ln kd nb sc wa sm ld lo lw tx) := hD
  refine lv_aload_n hx hb dX4_litres_5 rfl (lv_at hl 0 rfl) ?_
  refine lv_iload_n hx hb dX4_litres_6 rfl (lv_at hl 1 rfl) ?_
  refine x_ri (va_runV (As := [.int (nI j)]) (rest := []) ⟨hx, hb, hml, hown, hts⟩ (ct_X4_isMeter l G k0 k1 k2 k3 k4 k5 k6 k7 k8 k9 k10 k11 k12 mc len 0 ky ro ln kd nb sc wa sm ld lo lw tx (nI j)) (cwV 1 hts gX4_litres_X4_isMeter rfl rfl rfl (by decide +kernel) ⟨Nat.le_of_ble_eq_true rfl, Nat.le_of_ble_eq_true rfl⟩) (RdP.preV 0 5 rfl rfl hP hE) rfl rfl hl.1 rfl (lv_room (Nat.le_of_ble_eq_true rfl)) dX4_litres_7 ⟨Nat.zero_le _, Nat.zero_le _⟩) (fun r1 er1 => ?_)
  subst er1
  refine lv_if_eq (tgt := 22) hx hb dX4_litres_10 (by decide) (fun c10 => absurd c10 hm) (fun c10 => ?_)
  refine lv_iload_n hx hb dX4_litres_13 rfl (lv_at hl 3 rfl) ?_
  refine lv_if_lt (tgt := 22) hx hb dX4_litres_14 (by decide) (fun c14 => ?_) (fun c14 => ?_)
  · refine lv_ldc2 (v := (-1)) hx hb hown (hts (.constantLong RX4 84 (-1)) (by decide +kernel)) dX4_litres_22 ?_
    exact W.lret (v := (-1)) hx hb hr (fun tZ hZ hW => ⟨⟨(-1), wK G k0 k1 k2 k3 k4 k5 k6 k7 k8 k9 k10 k11 k12 (nI mc) len 0 ky ro ln kd nb sc wa sm ld lo lw tx, rfl, ⟨rfl, rfl⟩, by show va_P _ _ _ tZ.heap; rw [hZ]; exact hP⟩, hS.F hZ⟩) hS.2.2 dX4_litres_25
  refine lv_iload_n hx hb dX4_litres_17 rfl (lv_at hl 3 rfl) ?_
  refine lv_iconst (v := 1) hx hb dX4_litres_18 (by decide) ?_
  refine lv_icmp_le (tgt := 26) hx hb dX4_litres_19 (by decide) (fun c19 => ?_) (fun c19 => ?_)
  · exact absurd hp (by rintro (h | h); exact c14 h; exact absurd c19 (Int32.not_le.mpr h))
  refine lv_ldc2 (v := (-1)) hx hb hown (hts (.constantLong RX4 84 (-1)) (by decide +kernel)) dX4_litres_22 ?_
  exact W.lret (v := (-1)) hx hb hr (fun tZ hZ hW => ⟨⟨(-1), wK G k0 k1 k2 k3 k4 k5 k6 k7 k8 k9 k10 k11 k12 (nI mc) len 0 ky ro ln kd nb sc wa sm ld lo lw tx, rfl, ⟨rfl, rfl⟩, by show va_P _ _ _ tZ.heap; rw [hZ]; exact hP⟩, hS.F hZ⟩) hS.2.2 dX4_litres_25

set_option maxHeartbeats 4000000 in
set_option maxRecDepth 100000 in
/-- X4_litres, present -/
theorem ch_X4_litres (l : Launch) (G : Gx) (k0 k1 k2 k3 k4 k5 k6 k7 k8 k9 k10 k11 k12 : Nat) (mc : Nat) (len thr : Int32) (ky : Nat → Int64) (ro ln kd : Nat → Int32) (nb sc : Nat → Int64) (wa : Nat → Int32) (sm : Nat → Int64) (ld : Nat → Int32) (lo lw : Nat → Int64) (tx : Nat → Int32) (j n t : Nat) (row part : Int32) (hmc : mc ≤ 8) (hj : j < mc) (hn2 : n ≤ 200) (hro : ro j = nI n) (ht : t ≤ 16) (hln : ln j = nI t) (hp0 : ¬ part < 0) (hp1 : part ≤ 1) (hrw : f_row mc ro (nI j) row = 0) : Met l yX4_litres wsX4_litres ({ frames := 2, cells := 0, slots := 0, locals := 43 }) (WrP G (wK G k0 k1 k2 k3 k4 k5 k6 k7 k8 k9 k10 k11 k12 (nI mc) len thr ky ro ln kd nb sc wa sm ld lo lw tx) [.ref k0, .int (nI j), .int row, .int part]) (va_Ql (fun r (u : va_W) => r = -1 ∧ u = wK G k0 k1 k2 k3 k4 k5 k6 k7 k8 k9 k10 k11 k12 (nI mc) len 1 ky ro ln kd nb sc wa sm ld lo lw tx) (fun u t => va_P G.1 vwCl u t.heap) (adr (wK G k0 k1 k2 k3 k4 k5 k6 k7 k8 k9 k10 k11 k12 (nI mc) len thr ky ro ln kd nb sc wa sm ld lo lw tx))) 0 0 (adr (wK G k0 k1 k2 k3 k4 k5 k6 k7 k8 k9 k10 k11 k12 (nI mc) len thr ky ro ln kd nb sc wa sm ld lo lw tx)) := by
  refine Met.ofW (cc := cX4_litres) (maxL := 10) (ret := (some .long)) (by decide) rfl ?_
  intro p e s m args below meth c s₁ B hml hv
  obtain ⟨rfl, hP, hE, hD0⟩ := hv
  have hx := B.exec
  have hb := B.bytes
  have hr := B.returns
  have hts := atoms_spec (ws := wsX4_litres) B.pre
  have hown : s.vm.findClass RX4 = some m.cls := findClass_of_methodNamed B.named
  have hlocks := B.notSynchronized
  have hD : va_D (adr (wK G k0 k1 k2 k3 k4 k5 k6 k7 k8 k9 k10 k11 k12 (nI mc) len thr ky ro ln kd nb sc wa sm ld lo lw tx)) (wK G k0 k1 k2 k3 k4 k5 k6 k7 k8 k9 k10 k11 k12 (nI mc) len thr ky ro ln kd nb sc wa sm ld lo lw tx) := ⟨hD0.1, fun k q hk => ⟨k, q.2, hk⟩⟩
  generalize adr (wK G k0 k1 k2 k3 k4 k5 k6 k7 k8 k9 k10 k11 k12 (nI mc) len thr ky ro ln kd nb sc wa sm ld lo lw tx) = A at hD ⊢
  have hS : va_S A s.heap s.heap [] := va_S.rf
  have hiX4 : ∀ w ∈ wsX40, w ∈ wsX4_litres := by decide +kernel
  have hl := lv_entry ([.ref k0, .int (nI j), .int row, .int part]) (n := 10) (Nat.le_of_ble_eq_true rfl)
  rw [lg_entry_eq]
  generalize (lg_sl ([.ref k0, .int (nI j), .int row, .int part]) ++ List.replicate (10 - (lg_sl ([.ref k0, .int (nI j), .int row, .int part])).length) Slot.unset).toArray = ls at hl ⊢
  replace hl : lv_has ls 10 [(0, .ref k0), (1, .int (nI j)), (2, .int row), (3, .int part)] := hl
  have hm : ¬ f_holds (nI mc) (nI j) = 0 := (f_holds_iff (by omega) _).mpr ⟨j, hj, rfl⟩
  replace hj : j < 8 := by omega
  refine lv_aload_n hx hb dX4_litres_0 rfl (lv_at hl 0 rfl) ?_
  refine lv_iconst (v := 0) hx hb dX4_litres_1 (by decide) ?_
  refine va_put (D := G.1) (ci := 5) (v := .int 0) (ty := .int) (C := RX4) (T := TX4) (N := 15) hx hb hts hiX4 tyX4 tyX4_ok nmX4 hown hE.1 hP hD hS 0 rfl rfl 14 (by decide) (hts (.fieldLink RX4 47 "MeterSealsModel" "thrown" "I") (by decide +kernel)) (fun _ h9 => h9) rfl (by decide +kernel) rfl rfl (Nat.le_of_ble_eq_true rfl) dX4_litres_2 (fun H locs hP hD hS => ?_)
  replace hP : va_P G.1 vwCl (wK G k0 k1 k2 k3 k4 k5 k6 k7 k8 k9 k10 k11 k12 (nI mc) len 0 ky ro ln kd nb sc wa sm ld lo lw tx) H := hP
  replace hD : va_D A (wK G k0 k1 k2 k3 k4 k5 k6 k7 k8 k9 k10 k11 k12 (nI mc) len 0 ky ro ln kd nb sc wa sm ld lo lw tx) := hD
  refine lv_aload_n hx hb dX4_litres_5 rfl (lv_at hl 0 rfl) ?_
  refine lv_iload_n hx hb dX4_litres_6 rfl (lv_at hl 1 rfl) ?_
  refine x_ri (va_runV (As := [.int (nI j)]) (rest := []) ⟨hx, hb, hml, hown, hts⟩ (ct_X4_isMeter l G k0 k1 k2 k3 k4 k5 k6 k7 k8 k9 k10 k11 k12 mc len 0 ky ro ln kd nb sc wa sm ld lo lw tx (nI j)) (cwV 1 hts gX4_litres_X4_isMeter rfl rfl rfl (by decide +kernel) ⟨Nat.le_of_ble_eq_true rfl, Nat.le_of_ble_eq_true rfl⟩) (RdP.preV 0 5 rfl rfl hP hE) rfl rfl hl.1 rfl (lv_room (Nat.le_of_ble_eq_true rfl)) dX4_litres_7 ⟨Nat.zero_le _, Nat.zero_le _⟩) (fun r1 er1 => ?_)
  subst er1
  refine lv_if_eq (tgt := 22) hx hb dX4_litres_10 (by decide) (fun c10 => absurd c10 hm) (fun c10 => ?_)
  refine lv_iload_n hx hb dX4_litres_13 rfl (lv_at hl 3 rfl) ?_
  refine lv_if_lt (tgt := 22) hx hb dX4_litres_14 (by decide) (fun c14 => absurd c14 hp0) (fun c14 => ?_)
  refine lv_iload_n hx hb dX4_litres_17 rfl (lv_at hl 3 rfl) ?_
  refine lv_iconst (v := 1) hx hb dX4_litres_18 (by decide) ?_
  refine lv_icmp_le (tgt := 26) hx hb dX4_litres_19 (by decide) (fun c19 => ?_) (fun c19 => absurd hp1 c19)
  refine lv_aload_n hx hb dX4_litres_26 rfl (lv_at hl 0 rfl) ?_
  refine lv_iload_n hx hb dX4_litres_27 rfl (lv_at hl 1 rfl) ?_
  refine lv_iload_n hx hb dX4_litres_28 rfl (lv_at hl 2 rfl) ?_
  refine x_ri (va_runV (As := [.int (nI j), .int row]) (rest := []) ⟨hx, hb, hml, hown, hts⟩ (ct_X4_isRow l G k0 k1 k2 k3 k4 k5 k6 k7 k8 k9 k10 k11 k12 mc len 0 ky ro ln kd nb sc wa sm ld lo lw tx (nI j) row hmc) (cwV 2 hts gX4_litres_X4_isRow rfl rfl rfl (by decide +kernel) ⟨Nat.le_of_ble_eq_true rfl, Nat.le_of_ble_eq_true rfl⟩) (RdP.preV 0 5 rfl rfl hP hE) rfl rfl hl.1 rfl (lv_room (Nat.le_of_ble_eq_true rfl)) dX4_litres_29 ⟨Nat.zero_le _, Nat.zero_le _⟩) (fun r2 er2 => ?_)
  subst er2
  refine lv_if_ne (tgt := 44) hx hb dX4_litres_32 (by decide) (fun c32 => absurd hrw c32) (fun c32 => ?_)
  refine lv_aload_n hx hb dX4_litres_35 rfl (lv_at hl 0 rfl) ?_
  refine lv_iconst (v := 1) hx hb dX4_litres_36 (by decide) ?_
  refine va_put (D := G.1) (ci := 5) (v := .int 1) (ty := .int) (C := RX4) (T := TX4) (N := 15) hx hb hts hiX4 tyX4 tyX4_ok nmX4 hown hE.1 hP hD hS 0 rfl rfl 14 (by decide) (hts (.fieldLink RX4 47 "MeterSealsModel" "thrown" "I") (by decide +kernel)) (fun _ h9 => h9) rfl (by decide +kernel) rfl rfl (Nat.le_of_ble_eq_true rfl) dX4_litres_37 (fun H locs hP hD hS => ?_)
  replace hP : va_P G.1 vwCl (wK G k0 k1 k2 k3 k4 k5 k6 k7 k8 k9 k10 k11 k12 (nI mc) len 1 ky ro ln kd nb sc wa sm ld lo lw tx) H := hP
  replace hD : va_D A (wK G k0 k1 k2 k3 k4 k5 k6 k7 k8 k9 k10 k11 k12 (nI mc) len 1 ky ro ln kd nb sc wa sm ld lo lw tx) := hD
  refine lv_ldc2 (v := (-1)) hx hb hown (hts (.constantLong RX4 84 (-1)) (by decide +kernel)) dX4_litres_40 ?_
  exact W.lret (v := (-1)) hx hb hr (fun tZ hZ hW => ⟨⟨(-1), wK G k0 k1 k2 k3 k4 k5 k6 k7 k8 k9 k10 k11 k12 (nI mc) len 1 ky ro ln kd nb sc wa sm ld lo lw tx, rfl, ⟨rfl, rfl⟩, by show va_P _ _ _ tZ.heap; rw [hZ]; exact hP⟩, hS.F hZ⟩) hS.2.2 dX4_litres_43

set_option maxHeartbeats 4000000 in
set_option maxRecDepth 100000 in
/-- X4_litres, present -/
theorem ck_X4_litres (l : Launch) (G : Gx) (k0 k1 k2 k3 k4 k5 k6 k7 k8 k9 k10 k11 k12 : Nat) (mc : Nat) (len thr : Int32) (ky : Nat → Int64) (ro ln kd : Nat → Int32) (nb sc : Nat → Int64) (wa : Nat → Int32) (sm : Nat → Int64) (ld : Nat → Int32) (lo lw : Nat → Int64) (tx : Nat → Int32) (j n t : Nat) (i : Nat) (part : Int32) (hmc : mc ≤ 8) (hj : j < mc) (hn2 : n ≤ 200) (hro : ro j = nI n) (ht : t ≤ 16) (hln : ln j = nI t) (hp0 : ¬ part < 0) (hp1 : part ≤ 1) (hi : i < n) (hrw : ¬ f_row mc ro (nI j) (nI i) = 0) (hkd : ¬ kd (j * 200 + i) = 0) : Met l yX4_litres wsX4_litres ({ frames := 2, cells := 0, slots := 0, locals := 43 }) (WrP G (wK G k0 k1 k2 k3 k4 k5 k6 k7 k8 k9 k10 k11 k12 (nI mc) len thr ky ro ln kd nb sc wa sm ld lo lw tx) [.ref k0, .int (nI j), .int (nI i), .int part]) (va_Ql (fun r (u : va_W) => r = part.toInt64 ∧ u = wK G k0 k1 k2 k3 k4 k5 k6 k7 k8 k9 k10 k11 k12 (nI mc) len 0 ky ro ln kd nb sc wa sm ld lo lw tx) (fun u t => va_P G.1 vwCl u t.heap) (adr (wK G k0 k1 k2 k3 k4 k5 k6 k7 k8 k9 k10 k11 k12 (nI mc) len thr ky ro ln kd nb sc wa sm ld lo lw tx))) 0 0 (adr (wK G k0 k1 k2 k3 k4 k5 k6 k7 k8 k9 k10 k11 k12 (nI mc) len thr ky ro ln kd nb sc wa sm ld lo lw tx)) := by
  refine Met.ofW (cc := cX4_litres) (maxL := 10) (ret := (some .long)) (by decide) rfl ?_
  intro p e s m args below meth c s₁ B hml hv
  obtain ⟨rfl, hP, hE, hD0⟩ := hv
  have hx := B.exec
  have hb := B.bytes
  have hr := B.returns
  have hts := atoms_spec (ws := wsX4_litres) B.pre
  have hown : s.vm.findClass RX4 = some m.cls := findClass_of_methodNamed B.named
  have hlocks := B.notSynchronized
  have hD : va_D (adr (wK G k0 k1 k2 k3 k4 k5 k6 k7 k8 k9 k10 k11 k12 (nI mc) len thr ky ro ln kd nb sc wa sm ld lo lw tx)) (wK G k0 k1 k2 k3 k4 k5 k6 k7 k8 k9 k10 k11 k12 (nI mc) len thr ky ro ln kd nb sc wa sm ld lo lw tx) := ⟨hD0.1, fun k q hk => ⟨k, q.2, hk⟩⟩
  generalize adr (wK G k0 k1 k2 k3 k4 k5 k6 k7 k8 k9 k10 k11 k12 (nI mc) len thr ky ro ln kd nb sc wa sm ld lo lw tx) = A at hD ⊢
  have hS : va_S A s.heap s.heap [] := va_S.rf
  have hiX4 : ∀ w ∈ wsX40, w ∈ wsX4_litres := by decide +kernel
  have hl := lv_entry ([.ref k0, .int (nI j), .int (nI i), .int part]) (n := 10) (Nat.le_of_ble_eq_true rfl)
  rw [lg_entry_eq]
  generalize (lg_sl ([.ref k0, .int (nI j), .int (nI i), .int part]) ++ List.replicate (10 - (lg_sl ([.ref k0, .int (nI j), .int (nI i), .int part])).length) Slot.unset).toArray = ls at hl ⊢
  replace hl : lv_has ls 10 [(0, .ref k0), (1, .int (nI j)), (2, .int (nI i)), (3, .int part)] := hl
  have hm : ¬ f_holds (nI mc) (nI j) = 0 := (f_holds_iff (by omega) _).mpr ⟨j, hj, rfl⟩
  replace hj : j < 8 := by omega
  refine lv_aload_n hx hb dX4_litres_0 rfl (lv_at hl 0 rfl) ?_
  refine lv_iconst (v := 0) hx hb dX4_litres_1 (by decide) ?_
  refine va_put (D := G.1) (ci := 5) (v := .int 0) (ty := .int) (C := RX4) (T := TX4) (N := 15) hx hb hts hiX4 tyX4 tyX4_ok nmX4 hown hE.1 hP hD hS 0 rfl rfl 14 (by decide) (hts (.fieldLink RX4 47 "MeterSealsModel" "thrown" "I") (by decide +kernel)) (fun _ h9 => h9) rfl (by decide +kernel) rfl rfl (Nat.le_of_ble_eq_true rfl) dX4_litres_2 (fun H locs hP hD hS => ?_)
  replace hP : va_P G.1 vwCl (wK G k0 k1 k2 k3 k4 k5 k6 k7 k8 k9 k10 k11 k12 (nI mc) len 0 ky ro ln kd nb sc wa sm ld lo lw tx) H := hP
  replace hD : va_D A (wK G k0 k1 k2 k3 k4 k5 k6 k7 k8 k9 k10 k11 k12 (nI mc) len 0 ky ro ln kd nb sc wa sm ld lo lw tx) := hD
  refine lv_aload_n hx hb dX4_litres_5 rfl (lv_at hl 0 rfl) ?_
  refine lv_iload_n hx hb dX4_litres_6 rfl (lv_at hl 1 rfl) ?_
  refine x_ri (va_runV (As := [.int (nI j)]) (rest := []) ⟨hx, hb, hml, hown, hts⟩ (ct_X4_isMeter l G k0 k1 k2 k3 k4 k5 k6 k7 k8 k9 k10 k11 k12 mc len 0 ky ro ln kd nb sc wa sm ld lo lw tx (nI j)) (cwV 1 hts gX4_litres_X4_isMeter rfl rfl rfl (by decide +kernel) ⟨Nat.le_of_ble_eq_true rfl, Nat.le_of_ble_eq_true rfl⟩) (RdP.preV 0 5 rfl rfl hP hE) rfl rfl hl.1 rfl (lv_room (Nat.le_of_ble_eq_true rfl)) dX4_litres_7 ⟨Nat.zero_le _, Nat.zero_le _⟩) (fun r1 er1 => ?_)
  subst er1
  refine lv_if_eq (tgt := 22) hx hb dX4_litres_10 (by decide) (fun c10 => absurd c10 hm) (fun c10 => ?_)
  refine lv_iload_n hx hb dX4_litres_13 rfl (lv_at hl 3 rfl) ?_
  refine lv_if_lt (tgt := 22) hx hb dX4_litres_14 (by decide) (fun c14 => absurd c14 hp0) (fun c14 => ?_)
  refine lv_iload_n hx hb dX4_litres_17 rfl (lv_at hl 3 rfl) ?_
  refine lv_iconst (v := 1) hx hb dX4_litres_18 (by decide) ?_
  refine lv_icmp_le (tgt := 26) hx hb dX4_litres_19 (by decide) (fun c19 => ?_) (fun c19 => absurd hp1 c19)
  refine lv_aload_n hx hb dX4_litres_26 rfl (lv_at hl 0 rfl) ?_
  refine lv_iload_n hx hb dX4_litres_27 rfl (lv_at hl 1 rfl) ?_
  refine lv_iload_n hx hb dX4_litres_28 rfl (lv_at hl 2 rfl) ?_
  refine x_ri (va_runV (As := [.int (nI j), .int (nI i)]) (rest := []) ⟨hx, hb, hml, hown, hts⟩ (ct_X4_isRow l G k0 k1 k2 k3 k4 k5 k6 k7 k8 k9 k10 k11 k12 mc len 0 ky ro ln kd nb sc wa sm ld lo lw tx (nI j) (nI i) hmc) (cwV 2 hts gX4_litres_X4_isRow rfl rfl rfl (by decide +kernel) ⟨Nat.le_of_ble_eq_true rfl, Nat.le_of_ble_eq_true rfl⟩) (RdP.preV 0 5 rfl rfl hP hE) rfl rfl hl.1 rfl (lv_room (Nat.le_of_ble_eq_true rfl)) dX4_litres_29 ⟨Nat.zero_le _, Nat.zero_le _⟩) (fun r2 er2 => ?_)
  subst er2
  refine lv_if_ne (tgt := 44) hx hb dX4_litres_32 (by decide) (fun c32 => ?_) (fun c32 => absurd c32 hrw)
  refine lv_iload_n hx hb dX4_litres_44 rfl (lv_at hl 1 rfl) ?_
  refine lv_sipush (v := 200) hx hb dX4_litres_45 (by decide) ?_
  refine lv_imul hx hb dX4_litres_48 ?_
  rw [nI_mul200 j]
  refine lv_iload_n hx hb dX4_litres_49 rfl (lv_at hl 2 rfl) ?_
  refine lv_iadd hx hb dX4_litres_50 ?_
  rw [nI_add (j * 200) i]
  refine lv_istore (lv' := [(4, .int (nI (j * 200 + i))), (0, .ref k0), (1, .int (nI j)), (2, .int (nI i)), (3, .int part)]) hx hb dX4_litres_51 hl (by decide) rfl (fun ls hl => ?_)
  refine lv_aload_n hx hb dX4_litres_53 rfl (lv_at hl 1 rfl) ?_
  refine va_get (D := G.1) (ci := 5) (v := .ref k4) (C := RX4) (T := TX4) (N := 15) hx hb hts hiX4 hown hE.1 hP 0 rfl rfl 4 (by decide) (hts (.fieldLink RX4 20 "MeterSealsModel" "kind" "[I") (by decide +kernel)) (fun _ h9 => h9) rfl dX4_litres_54 ?_
  refine lv_iload hx hb dX4_litres_57 (lv_at hl 0 rfl) ?_
  refine va_iald hx hb hE.1 hP 4 0 rfl rfl (vp_in_nI (show j * 200 + i < 1600 by omega) (by decide)) dX4_litres_59 ?_
  rw [nI_clamp (n := j * 200 + i) (by omega)]
  refine lv_if_eq (tgt := 66) hx hb dX4_litres_60 (by decide) (fun c60 => absurd c60 hkd) (fun c60 => ?_)
  refine lv_iload_n hx hb dX4_litres_63 rfl (lv_at hl 4 rfl) ?_
  refine lv_i2l (v := part.toInt64) hx hb dX4_litres_64 rfl ?_
  exact W.lret (v := part.toInt64) hx hb hr (fun tZ hZ hW => ⟨⟨part.toInt64, wK G k0 k1 k2 k3 k4 k5 k6 k7 k8 k9 k10 k11 k12 (nI mc) len 0 ky ro ln kd nb sc wa sm ld lo lw tx, rfl, ⟨rfl, rfl⟩, by show va_P _ _ _ tZ.heap; rw [hZ]; exact hP⟩, hS.F hZ⟩) hS.2.2 dX4_litres_65

set_option maxHeartbeats 4000000 in
set_option maxRecDepth 100000 in
/-- X4_litres, present -/
theorem ct_X4_litres (l : Launch) (G : Gx) (k0 k1 k2 k3 k4 k5 k6 k7 k8 k9 k10 k11 k12 : Nat) (mc : Nat) (len thr : Int32) (ky : Nat → Int64) (ro ln kd : Nat → Int32) (nb sc : Nat → Int64) (wa : Nat → Int32) (sm : Nat → Int64) (ld : Nat → Int32) (lo lw : Nat → Int64) (tx : Nat → Int32) (j n t : Nat) (i : Nat) (part : Int32) (A0 B0 : Nat) (hmc : mc ≤ 8) (hj : j < mc) (hn2 : n ≤ 200) (hro : ro j = nI n) (ht : t ≤ 16) (hln : ln j = nI t) (hp0 : ¬ part < 0) (hp1 : part ≤ 1) (hi : i < n) (hrw : ¬ f_row mc ro (nI j) (nI i) = 0) (hkd : kd (j * 200 + i) = 0) (ht0 : 0 < t) (hA : nb (j * 200 + i) * lo (md_ln ld j (wa (j * 200 + i)) t).toNatClampNeg = lN A0) (hB : lw (md_ln ld j (wa (j * 200 + i)) t).toNatClampNeg = lN B0) (hA2 : A0 < 2 ^ 62) (hB2 : B0 < 2 ^ 14) (hgz : ¬ lN (Nat.gcd A0 B0) = 0) : Met l yX4_litres wsX4_litres ({ frames := 2, cells := 0, slots := 0, locals := 43 }) (WrP G (wK G k0 k1 k2 k3 k4 k5 k6 k7 k8 k9 k10 k11 k12 (nI mc) len thr ky ro ln kd nb sc wa sm ld lo lw tx) [.ref k0, .int (nI j), .int (nI i), .int part]) (va_Ql (fun r (u : va_W) => r = (if part = 0 then lN A0 / lN (Nat.gcd A0 B0) else lN B0 / lN (Nat.gcd A0 B0)) ∧ u = wK G k0 k1 k2 k3 k4 k5 k6 k7 k8 k9 k10 k11 k12 (nI mc) len 0 ky ro ln kd nb sc wa sm ld lo lw tx) (fun u t => va_P G.1 vwCl u t.heap) (adr (wK G k0 k1 k2 k3 k4 k5 k6 k7 k8 k9 k10 k11 k12 (nI mc) len thr ky ro ln kd nb sc wa sm ld lo lw tx))) 0 0 (adr (wK G k0 k1 k2 k3 k4 k5 k6 k7 k8 k9 k10 k11 k12 (nI mc) len thr ky ro ln kd nb sc wa sm ld lo lw tx)) := by
  refine Met.ofW (cc := cX4_litres) (maxL := 10) (ret := (some .long)) (by decide) rfl ?_
  intro p e s m args below meth c s₁ B hml hv
  obtain ⟨rfl, hP, hE, hD0⟩ := hv
  have hx := B.exec
  have hb := B.bytes
  have hr := B.returns
  have hts := atoms_spec (ws := wsX4_litres) B.pre
  have hown : s.vm.findClass RX4 = some m.cls := findClass_of_methodNamed B.named
  have hlocks := B.notSynchronized
  have hD : va_D (adr (wK G k0 k1 k2 k3 k4 k5 k6 k7 k8 k9 k10 k11 k12 (nI mc) len thr ky ro ln kd nb sc wa sm ld lo lw tx)) (wK G k0 k1 k2 k3 k4 k5 k6 k7 k8 k9 k10 k11 k12 (nI mc) len thr ky ro ln kd nb sc wa sm ld lo lw tx) := ⟨hD0.1, fun k q hk => ⟨k, q.2, hk⟩⟩
  generalize adr (wK G k0 k1 k2 k3 k4 k5 k6 k7 k8 k9 k10 k11 k12 (nI mc) len thr ky ro ln kd nb sc wa sm ld lo lw tx) = A at hD ⊢
  have hS : va_S A s.heap s.heap [] := va_S.rf
  have hiX4 : ∀ w ∈ wsX40, w ∈ wsX4_litres := by decide +kernel
  have hl := lv_entry ([.ref k0, .int (nI j), .int (nI i), .int part]) (n := 10) (Nat.le_of_ble_eq_true rfl)
  rw [lg_entry_eq]
  generalize (lg_sl ([.ref k0, .int (nI j), .int (nI i), .int part]) ++ List.replicate (10 - (lg_sl ([.ref k0, .int (nI j), .int (nI i), .int part])).length) Slot.unset).toArray = ls at hl ⊢
  replace hl : lv_has ls 10 [(0, .ref k0), (1, .int (nI j)), (2, .int (nI i)), (3, .int part)] := hl
  have hm : ¬ f_holds (nI mc) (nI j) = 0 := (f_holds_iff (by omega) _).mpr ⟨j, hj, rfl⟩
  replace hj : j < 8 := by omega
  refine lv_aload_n hx hb dX4_litres_0 rfl (lv_at hl 0 rfl) ?_
  refine lv_iconst (v := 0) hx hb dX4_litres_1 (by decide) ?_
  refine va_put (D := G.1) (ci := 5) (v := .int 0) (ty := .int) (C := RX4) (T := TX4) (N := 15) hx hb hts hiX4 tyX4 tyX4_ok nmX4 hown hE.1 hP hD hS 0 rfl rfl 14 (by decide) (hts (.fieldLink RX4 47 "MeterSealsModel" "thrown" "I") (by decide +kernel)) (fun _ h9 => h9) rfl (by decide +kernel) rfl rfl (Nat.le_of_ble_eq_true rfl) dX4_litres_2 (fun H locs hP hD hS => ?_)
  replace hP : va_P G.1 vwCl (wK G k0 k1 k2 k3 k4 k5 k6 k7 k8 k9 k10 k11 k12 (nI mc) len 0 ky ro ln kd nb sc wa sm ld lo lw tx) H := hP
  replace hD : va_D A (wK G k0 k1 k2 k3 k4 k5 k6 k7 k8 k9 k10 k11 k12 (nI mc) len 0 ky ro ln kd nb sc wa sm ld lo lw tx) := hD
  refine lv_aload_n hx hb dX4_litres_5 rfl (lv_at hl 0 rfl) ?_
  refine lv_iload_n hx hb dX4_litres_6 rfl (lv_at hl 1 rfl) ?_
  refine x_ri (va_runV (As := [.int (nI j)]) (rest := []) ⟨hx, hb, hml, hown, hts⟩ (ct_X4_isMeter l G k0 k1 k2 k3 k4 k5 k6 k7 k8 k9 k10 k11 k12 mc len 0 ky ro ln kd nb sc wa sm ld lo lw tx (nI j)) (cwV 1 hts gX4_litres_X4_isMeter rfl rfl rfl (by decide +kernel) ⟨Nat.le_of_ble_eq_true rfl, Nat.le_of_ble_eq_true rfl⟩) (RdP.preV 0 5 rfl rfl hP hE) rfl rfl hl.1 rfl (lv_room (Nat.le_of_ble_eq_true rfl)) dX4_litres_7 ⟨Nat.zero_le _, Nat.zero_le _⟩) (fun r1 er1 => ?_)
  subst er1
  refine lv_if_eq (tgt := 22) hx hb dX4_litres_10 (by decide) (fun c10 => absurd c10 hm) (fun c10 => ?_)
  refine lv_iload_n hx hb dX4_litres_13 rfl (lv_at hl 3 rfl) ?_
  refine lv_if_lt (tgt := 22) hx hb dX4_litres_14 (by decide) (fun c14 => absurd c14 hp0) (fun c14 => ?_)
  refine lv_iload_n hx hb dX4_litres_17 rfl (lv_at hl 3 rfl) ?_
  refine lv_iconst (v := 1) hx hb dX4_litres_18 (by decide) ?_
  refine lv_icmp_le (tgt := 26) hx hb dX4_litres_19 (by decide) (fun c19 => ?_) (fun c19 => absurd hp1 c19)
  refine lv_aload_n hx hb dX4_litres_26 rfl (lv_at hl 0 rfl) ?_
  refine lv_iload_n hx hb dX4_litres_27 rfl (lv_at hl 1 rfl) ?_
  refine lv_iload_n hx hb dX4_litres_28 rfl (lv_at hl 2 rfl) ?_
  refine x_ri (va_runV (As := [.int (nI j), .int (nI i)]) (rest := []) ⟨hx, hb, hml, hown, hts⟩ (ct_X4_isRow l G k0 k1 k2 k3 k4 k5 k6 k7 k8 k9 k10 k11 k12 mc len 0 ky ro ln kd nb sc wa sm ld lo lw tx (nI j) (nI i) hmc) (cwV 2 hts gX4_litres_X4_isRow rfl rfl rfl (by decide +kernel) ⟨Nat.le_of_ble_eq_true rfl, Nat.le_of_ble_eq_true rfl⟩) (RdP.preV 0 5 rfl rfl hP hE) rfl rfl hl.1 rfl (lv_room (Nat.le_of_ble_eq_true rfl)) dX4_litres_29 ⟨Nat.zero_le _, Nat.zero_le _⟩) (fun r2 er2 => ?_)
  subst er2
  refine lv_if_ne (tgt := 44) hx hb dX4_litres_32 (by decide) (fun c32 => ?_) (fun c32 => absurd c32 hrw)
  refine lv_iload_n hx hb dX4_litres_44 rfl (lv_at hl 1 rfl) ?_
  refine lv_sipush (v := 200) hx hb dX4_litres_45 (by decide) ?_
  refine lv_imul hx hb dX4_litres_48 ?_
  rw [nI_mul200 j]
  refine lv_iload_n hx hb dX4_litres_49 rfl (lv_at hl 2 rfl) ?_
  refine lv_iadd hx hb dX4_litres_50 ?_
  rw [nI_add (j * 200) i]
  refine lv_istore (lv' := [(4, .int (nI (j * 200 + i))), (0, .ref k0), (1, .int (nI j)), (2, .int (nI i)), (3, .int part)]) hx hb dX4_litres_51 hl (by decide) rfl (fun ls hl => ?_)
  refine lv_aload_n hx hb dX4_litres_53 rfl (lv_at hl 1 rfl) ?_
  refine va_get (D := G.1) (ci := 5) (v := .ref k4) (C := RX4) (T := TX4) (N := 15) hx hb hts hiX4 hown hE.1 hP 0 rfl rfl 4 (by decide) (hts (.fieldLink RX4 20 "MeterSealsModel" "kind" "[I") (by decide +kernel)) (fun _ h9 => h9) rfl dX4_litres_54 ?_
  refine lv_iload hx hb dX4_litres_57 (lv_at hl 0 rfl) ?_
  refine va_iald hx hb hE.1 hP 4 0 rfl rfl (vp_in_nI (show j * 200 + i < 1600 by omega) (by decide)) dX4_litres_59 ?_
  rw [nI_clamp (n := j * 200 + i) (by omega)]
  refine lv_if_eq (tgt := 66) hx hb dX4_litres_60 (by decide) (fun c60 => ?_) (fun c60 => absurd hkd c60)
  refine lv_aload_n hx hb dX4_litres_66 rfl (lv_at hl 1 rfl) ?_
  refine lv_iload_n hx hb dX4_litres_67 rfl (lv_at hl 2 rfl) ?_
  refine lv_aload_n hx hb dX4_litres_68 rfl (lv_at hl 1 rfl) ?_
  refine va_get (D := G.1) (ci := 5) (v := .ref k7) (C := RX4) (T := TX4) (N := 15) hx hb hts hiX4 hown hE.1 hP 0 rfl rfl 7 (by decide) (hts (.fieldLink RX4 29 "MeterSealsModel" "warm" "[I") (by decide +kernel)) (fun _ h9 => h9) rfl dX4_litres_69 ?_
  refine lv_iload hx hb dX4_litres_72 (lv_at hl 0 rfl) ?_
  refine va_iald hx hb hE.1 hP 7 0 rfl rfl (vp_in_nI (show j * 200 + i < 1600 by omega) (by decide)) dX4_litres_74 ?_
  rw [nI_clamp (n := j * 200 + i) (by omega)]
  refine x_ri (va_runV (As := [.int (nI j), .int (wa (j * 200 + i))]) (rest := []) ⟨hx, hb, hml, hown, hts⟩ (ct_X4_line l G k0 k1 k2 k3 k4 k5 k6 k7 k8 k9 k10 k11 k12 mc len 0 ky ro ln kd nb sc wa sm ld lo lw tx j t (wa (j * 200 + i)) hj ht hln) (cwV 2 hts gX4_litres_X4_line rfl rfl rfl (by decide +kernel) ⟨Nat.le_of_ble_eq_true rfl, Nat.le_of_ble_eq_true rfl⟩) (RdP.preV 0 5 rfl rfl hP hE) rfl rfl hl.1 rfl (lv_room (Nat.le_of_ble_eq_true rfl)) dX4_litres_75 ⟨Nat.zero_le _, Nat.zero_le _⟩) (fun r3 er3 => ?_)
  subst er3
  refine lv_istore (lv' := [(5, .int (md_ln ld j (wa (j * 200 + i)) t)), (4, .int (nI (j * 200 + i))), (0, .ref k0), (1, .int (nI j)), (2, .int (nI i)), (3, .int part)]) hx hb dX4_litres_78 hl (by decide) rfl (fun ls hl => ?_)
  refine lv_aload_n hx hb dX4_litres_80 rfl (lv_at hl 2 rfl) ?_
  refine va_get (D := G.1) (ci := 5) (v := .ref k5) (C := RX4) (T := TX4) (N := 15) hx hb hts hiX4 hown hE.1 hP 0 rfl rfl 5 (by decide) (hts (.fieldLink RX4 23 "MeterSealsModel" "number" "[J") (by decide +kernel)) (fun _ h9 => h9) rfl dX4_litres_81 ?_
  refine lv_iload hx hb dX4_litres_84 (lv_at hl 1 rfl) ?_
  refine va_lald hx hb hE.1 hP 5 1 rfl rfl (vp_in_nI (show j * 200 + i < 1600 by omega) (by decide)) dX4_litres_86 ?_
  rw [nI_clamp (n := j * 200 + i) (by omega)]
  refine lv_aload_n hx hb dX4_litres_87 rfl (lv_at hl 2 rfl) ?_
  refine va_get (D := G.1) (ci := 5) (v := .ref k10) (C := RX4) (T := TX4) (N := 15) hx hb hts hiX4 hown hE.1 hP 0 rfl rfl 10 (by decide) (hts (.fieldLink RX4 38 "MeterSealsModel" "lineAbove" "[J") (by decide +kernel)) (fun _ h9 => h9) rfl dX4_litres_88 ?_
  refine lv_iload hx hb dX4_litres_91 (lv_at hl 0 rfl) ?_
  refine va_lald hx hb hE.1 hP 10 1 rfl rfl (mdln_in hj ht ht0) dX4_litres_93 ?_
  refine lv_lmul hx hb dX4_litres_94 ?_
  rw [hA]
  refine lv_lstore (lv' := [(6, .long (lN A0)), (5, .int (md_ln ld j (wa (j * 200 + i)) t)), (4, .int (nI (j * 200 + i))), (0, .ref k0), (1, .int (nI j)), (2, .int (nI i)), (3, .int part)]) hx hb dX4_litres_95 hl (by decide) rfl (fun ls hl => ?_)
  refine lv_lload hx hb dX4_litres_97 (lv_at hl 0 rfl) ?_
  refine lv_aload_n hx hb dX4_litres_99 rfl (lv_at hl 3 rfl) ?_
  refine va_get (D := G.1) (ci := 5) (v := .ref k11) (C := RX4) (T := TX4) (N := 15) hx hb hts hiX4 hown hE.1 hP 0 rfl rfl 11 (by decide) (hts (.fieldLink RX4 41 "MeterSealsModel" "lineBelow" "[J") (by decide +kernel)) (fun _ h9 => h9) rfl dX4_litres_100 ?_
  refine lv_iload hx hb dX4_litres_103 (lv_at hl 1 rfl) ?_
  refine va_lald hx hb hE.1 hP 11 1 rfl rfl (mdln_in hj ht ht0) dX4_litres_105 ?_
  rw [hB]
  refine x_rl (va_runS (As := [.long (lN A0), .long (lN B0)]) (rest := []) ⟨hx, hb, hml, hown, hts⟩ (ct_X4_divisor l G A0 B0 hA2 (by omega)) (va_cwS 2 hts gX4_litres_X4_divisor rfl rfl rfl (by decide +kernel) ⟨Nat.le_of_ble_eq_true rfl, Nat.le_of_ble_eq_true rfl⟩) (RdP.preS (fun k q h => by simp at h) hE) rfl rfl hl.1 rfl (lv_room (Nat.le_of_ble_eq_true rfl)) dX4_litres_106 ⟨Nat.zero_le _, Nat.zero_le _⟩) (fun r4 er4 => ?_)
  subst er4
  refine lv_lstore (lv' := [(8, .long (lN (Nat.gcd A0 B0))), (6, .long (lN A0)), (5, .int (md_ln ld j (wa (j * 200 + i)) t)), (4, .int (nI (j * 200 + i))), (0, .ref k0), (1, .int (nI j)), (2, .int (nI i)), (3, .int part)]) hx hb dX4_litres_109 hl (by decide) rfl (fun ls hl => ?_)
  refine lv_iload_n hx hb dX4_litres_111 rfl (lv_at hl 7 rfl) ?_
  refine lv_if_ne (tgt := 123) hx hb dX4_litres_112 (by decide) (fun c112 => ?_) (fun c112 => ?_)
  · refine lv_aload_n hx hb dX4_litres_123 rfl (lv_at hl 4 rfl) ?_
    refine va_get (D := G.1) (ci := 5) (v := .ref k11) (C := RX4) (T := TX4) (N := 15) hx hb hts hiX4 hown hE.1 hP 0 rfl rfl 11 (by decide) (hts (.fieldLink RX4 41 "MeterSealsModel" "lineBelow" "[J") (by decide +kernel)) (fun _ h9 => h9) rfl dX4_litres_124 ?_
    refine lv_iload hx hb dX4_litres_127 (lv_at hl 2 rfl) ?_
    refine va_lald hx hb hE.1 hP 11 1 rfl rfl (mdln_in hj ht ht0) dX4_litres_129 ?_
    rw [hB]
    refine lv_lload hx hb dX4_litres_130 (lv_at hl 0 rfl) ?_
    refine lv_ldiv hx hb dX4_litres_132 hgz ?_
    exact W.lret (v := ((lN B0) / (lN (Nat.gcd A0 B0)))) hx hb hr (fun tZ hZ hW => ⟨⟨((lN B0) / (lN (Nat.gcd A0 B0))), wK G k0 k1 k2 k3 k4 k5 k6 k7 k8 k9 k10 k11 k12 (nI mc) len 0 ky ro ln kd nb sc wa sm ld lo lw tx, rfl, ⟨by simp only [if_neg c112], rfl⟩, by show va_P _ _ _ tZ.heap; rw [hZ]; exact hP⟩, hS.F hZ⟩) hS.2.2 dX4_litres_133
  refine lv_lload hx hb dX4_litres_115 (lv_at hl 1 rfl) ?_
  refine lv_lload hx hb dX4_litres_117 (lv_at hl 0 rfl) ?_
  refine lv_ldiv hx hb dX4_litres_119 hgz ?_
  refine lv_goto (tgt := 133) hx hb dX4_litres_120 (by decide) ?_
  exact W.lret (v := ((lN A0) / (lN (Nat.gcd A0 B0)))) hx hb hr (fun tZ hZ hW => ⟨⟨((lN A0) / (lN (Nat.gcd A0 B0))), wK G k0 k1 k2 k3 k4 k5 k6 k7 k8 k9 k10 k11 k12 (nI mc) len 0 ky ro ln kd nb sc wa sm ld lo lw tx, rfl, ⟨by simp only [if_pos c112], rfl⟩, by show va_P _ _ _ tZ.heap; rw [hZ]; exact hP⟩, hS.F hZ⟩) hS.2.2 dX4_litres_133

set_option maxHeartbeats 4000000 in
set_option maxRecDepth 100000 in
/-- X4_rest, present -/
theorem ct_X4_rest (l : Launch) (G : Gx) (k0 k1 k2 k3 k4 k5 k6 k7 k8 k9 k10 k11 k12 : Nat) (mc : Nat) (len thr : Int32) (ky : Nat → Int64) (ro ln kd : Nat → Int32) (nb sc : Nat → Int64) (wa : Nat → Int32) (sm : Nat → Int64) (ld : Nat → Int32) (lo lw : Nat → Int64) (tx : Nat → Int32) (j n t : Nat) (tank : Int64) (hmc : mc ≤ 8) (hj : j < mc) (hn2 : n ≤ 200) (hro : ro j = nI n) (ht : t ≤ 16) (hln : ln j = nI t) (hrd : ∀ i, i < n → kd (j * 200 + i) = 0 → 0 < t) (hlw : ∀ q, q < t → ¬ lw (j * 16 + q) = 0) : Met l yX4_rest wsX4_rest ({ frames := 1, cells := 0, slots := 0, locals := 26 }) (WrP G (wK G k0 k1 k2 k3 k4 k5 k6 k7 k8 k9 k10 k11 k12 (nI mc) len thr ky ro ln kd nb sc wa sm ld lo lw tx) [.ref k0, .int (nI j), .long tank]) (va_Ql (fun r (u : va_W) => r = md_rest kd nb wa ld lo lw j t n tank ∧ u = wK G k0 k1 k2 k3 k4 k5 k6 k7 k8 k9 k10 k11 k12 (nI mc) len 0 ky ro ln kd nb sc wa sm ld lo lw tx) (fun u t => va_P G.1 vwCl u t.heap) (adr (wK G k0 k1 k2 k3 k4 k5 k6 k7 k8 k9 k10 k11 k12 (nI mc) len thr ky ro ln kd nb sc wa sm ld lo lw tx))) 0 0 (adr (wK G k0 k1 k2 k3 k4 k5 k6 k7 k8 k9 k10 k11 k12 (nI mc) len thr ky ro ln kd nb sc wa sm ld lo lw tx)) := by
  refine Met.ofW (cc := cX4_rest) (maxL := 8) (ret := (some .long)) (by decide) rfl ?_
  intro p e s m args below meth c s₁ B hml hv
  obtain ⟨rfl, hP, hE, hD0⟩ := hv
  have hx := B.exec
  have hb := B.bytes
  have hr := B.returns
  have hts := atoms_spec (ws := wsX4_rest) B.pre
  have hown : s.vm.findClass RX4 = some m.cls := findClass_of_methodNamed B.named
  have hlocks := B.notSynchronized
  have hD : va_D (adr (wK G k0 k1 k2 k3 k4 k5 k6 k7 k8 k9 k10 k11 k12 (nI mc) len thr ky ro ln kd nb sc wa sm ld lo lw tx)) (wK G k0 k1 k2 k3 k4 k5 k6 k7 k8 k9 k10 k11 k12 (nI mc) len thr ky ro ln kd nb sc wa sm ld lo lw tx) := ⟨hD0.1, fun k q hk => ⟨k, q.2, hk⟩⟩
  generalize adr (wK G k0 k1 k2 k3 k4 k5 k6 k7 k8 k9 k10 k11 k12 (nI mc) len thr ky ro ln kd nb sc wa sm ld lo lw tx) = A at hD ⊢
  have hS : va_S A s.heap s.heap [] := va_S.rf
  have hiX4 : ∀ w ∈ wsX40, w ∈ wsX4_rest := by decide +kernel
  have hl := lv_entry ([.ref k0, .int (nI j), .long tank]) (n := 8) (Nat.le_of_ble_eq_true rfl)
  rw [lg_entry_eq]
  generalize (lg_sl ([.ref k0, .int (nI j), .long tank]) ++ List.replicate (8 - (lg_sl ([.ref k0, .int (nI j), .long tank])).length) Slot.unset).toArray = ls at hl ⊢
  replace hl : lv_has ls 8 [(0, .ref k0), (1, .int (nI j)), (2, .long tank)] := hl
  have hm : ¬ f_holds (nI mc) (nI j) = 0 := (f_holds_iff (by omega) _).mpr ⟨j, hj, rfl⟩
  replace hj : j < 8 := by omega
  refine lv_aload_n hx hb dX4_rest_0 rfl (lv_at hl 0 rfl) ?_
  refine lv_iconst (v := 0) hx hb dX4_rest_1 (by decide) ?_
  refine va_put (D := G.1) (ci := 5) (v := .int 0) (ty := .int) (C := RX4) (T := TX4) (N := 15) hx hb hts hiX4 tyX4 tyX4_ok nmX4 hown hE.1 hP hD hS 0 rfl rfl 14 (by decide) (hts (.fieldLink RX4 47 "MeterSealsModel" "thrown" "I") (by decide +kernel)) (fun _ h9 => h9) rfl (by decide +kernel) rfl rfl (Nat.le_of_ble_eq_true rfl) dX4_rest_2 (fun H locs hP hD hS => ?_)
  replace hP : va_P G.1 vwCl (wK G k0 k1 k2 k3 k4 k5 k6 k7 k8 k9 k10 k11 k12 (nI mc) len 0 ky ro ln kd nb sc wa sm ld lo lw tx) H := hP
  replace hD : va_D A (wK G k0 k1 k2 k3 k4 k5 k6 k7 k8 k9 k10 k11 k12 (nI mc) len 0 ky ro ln kd nb sc wa sm ld lo lw tx) := hD
  refine lv_aload_n hx hb dX4_rest_5 rfl (lv_at hl 0 rfl) ?_
  refine lv_iload_n hx hb dX4_rest_6 rfl (lv_at hl 1 rfl) ?_
  refine x_ri (va_runV (As := [.int (nI j)]) (rest := []) ⟨hx, hb, hml, hown, hts⟩ (ct_X4_isMeter l G k0 k1 k2 k3 k4 k5 k6 k7 k8 k9 k10 k11 k12 mc len 0 ky ro ln kd nb sc wa sm ld lo lw tx (nI j)) (cwV 1 hts gX4_rest_X4_isMeter rfl rfl rfl (by decide +kernel) ⟨Nat.le_of_ble_eq_true rfl, Nat.le_of_ble_eq_true rfl⟩) (RdP.preV 0 5 rfl rfl hP hE) rfl rfl hl.1 rfl (lv_room (Nat.le_of_ble_eq_true rfl)) dX4_rest_7 ⟨Nat.zero_le _, Nat.zero_le _⟩) (fun r1 er1 => ?_)
  subst er1
  refine lv_if_eq (tgt := 27) hx hb dX4_rest_10 (by decide) (fun c10 => absurd c10 hm) (fun c10 => ?_)
  refine lv_lload_n hx hb dX4_rest_13 rfl (lv_at hl 2 rfl) ?_
  refine lv_lconst (v := 0) hx hb dX4_rest_14 (by decide) ?_
  refine x_llt (tgt := 27) hx hb dX4_rest_15 dX4_rest_16 (by decide) (fun c16 => ?_) (fun c16 => ?_)
  · refine lv_ldc2 (v := (-9223372036854775808)) hx hb hown (hts (.constantLong RX4 100 (-9223372036854775808)) (by decide +kernel)) dX4_rest_27 ?_
    exact W.lret (v := (-9223372036854775808)) hx hb hr (fun tZ hZ hW => ⟨⟨(-9223372036854775808), wK G k0 k1 k2 k3 k4 k5 k6 k7 k8 k9 k10 k11 k12 (nI mc) len 0 ky ro ln kd nb sc wa sm ld lo lw tx, rfl, ⟨by simp only [md_rest, if_pos c16], rfl⟩, by show va_P _ _ _ tZ.heap; rw [hZ]; exact hP⟩, hS.F hZ⟩) hS.2.2 dX4_rest_30
  refine lv_lload_n hx hb dX4_rest_19 rfl (lv_at hl 2 rfl) ?_
  refine lv_ldc2 (v := 1000000000) hx hb hown (hts (.constantLong RX4 96 1000000000) (by decide +kernel)) dX4_rest_20 ?_
  refine x_lle (tgt := 31) hx hb dX4_rest_23 dX4_rest_24 (by decide) (fun c24 => ?_) (fun c24 => ?_)
  · refine lv_lconst (v := 0) hx hb dX4_rest_31 (by decide) ?_
    refine lv_lstore (lv' := [(4, .long 0), (0, .ref k0), (1, .int (nI j)), (2, .long tank)]) hx hb dX4_rest_32 hl (by decide) rfl (fun ls hl => ?_)
    refine lv_iload_n hx hb dX4_rest_34 rfl (lv_at hl 2 rfl) ?_
    refine lv_sipush (v := 200) hx hb dX4_rest_35 (by decide) ?_
    refine lv_imul hx hb dX4_rest_38 ?_
    rw [nI_mul200 j]
    refine lv_istore (lv' := [(6, .int (nI (j * 200))), (4, .long 0), (0, .ref k0), (1, .int (nI j)), (2, .long tank)]) hx hb dX4_rest_39 hl (by decide) rfl (fun ls hl => ?_)
    obtain ⟨i, hi⟩ : ∃ i : Nat, i = 0 := ⟨_, rfl⟩
    obtain ⟨acc, hac⟩ : ∃ x : Int64, x = 0 := ⟨_, rfl⟩
    replace hl : lv_has ls 8 [(6, .int (nI (j * 200 + i))), (4, .long acc), (0, .ref k0), (1, .int (nI j)), (2, .long tank)] := by rw [hi, hac]; exact hl
    obtain ⟨k, hk⟩ : ∃ k : Nat, i + k = n := ⟨n - i, by omega⟩
    have hv : md_sumF kd nb wa ld lo lw j t k i acc = md_sum kd nb wa ld lo lw j t n := by rw [hi, hac, show k = n by omega]; rfl
    clear hi hac
    induction k generalizing i ls acc with
    | zero =>
      refine lv_iload hx hb dX4_rest_41 (lv_at hl 0 rfl) ?_
      refine lv_iload_n hx hb dX4_rest_43 rfl (lv_at hl 3 rfl) ?_
      refine lv_sipush (v := 200) hx hb dX4_rest_44 (by decide) ?_
      refine lv_imul hx hb dX4_rest_47 ?_
      rw [nI_mul200 j]
      refine lv_aload_n hx hb dX4_rest_48 rfl (lv_at hl 2 rfl) ?_
      refine va_get (D := G.1) (ci := 5) (v := .ref k2) (C := RX4) (T := TX4) (N := 15) hx hb hts hiX4 hown hE.1 hP 0 rfl rfl 1 (by decide) (hts (.fieldLink RX4 13 "MeterSealsModel" "rows" "[I") (by decide +kernel)) (fun _ h9 => h9) rfl dX4_rest_49 ?_
      refine lv_iload_n hx hb dX4_rest_52 rfl (lv_at hl 3 rfl) ?_
      refine va_iald hx hb hE.1 hP 2 0 rfl rfl (vp_in_nI (show j < 8 by omega) (by decide)) dX4_rest_53 ?_
      rw [nI_clamp (n := j) (by omega)]
      rw [hro]
      refine lv_iadd hx hb dX4_rest_54 ?_
      rw [nI_add (j * 200) n]
      refine lv_icmp_ge (tgt := 120) hx hb dX4_rest_55 (by decide) (fun c55 => ?_) (fun c55 => absurd (nI_le (by omega) (by omega)) c55)
      refine lv_lload hx hb dX4_rest_120 (lv_at hl 1 rfl) ?_
      refine lv_lload_n hx hb dX4_rest_122 rfl (lv_at hl 4 rfl) ?_
      refine lv_ldc2 (v := 1000) hx hb hown (hts (.constantLong RX4 102 1000) (by decide +kernel)) dX4_rest_123 ?_
      refine lv_lmul hx hb dX4_rest_126 ?_
      refine lv_lsub hx hb dX4_rest_127 ?_
      exact W.lret (v := (acc - (tank * 1000))) hx hb hr (fun tZ hZ hW => ⟨⟨(acc - (tank * 1000)), wK G k0 k1 k2 k3 k4 k5 k6 k7 k8 k9 k10 k11 k12 (nI mc) len 0 ky ro ln kd nb sc wa sm ld lo lw tx, rfl, ⟨by simp only [md_rest, if_neg c16, if_pos c24]; rw [← hv]; rfl, rfl⟩, by show va_P _ _ _ tZ.heap; rw [hZ]; exact hP⟩, hS.F hZ⟩) hS.2.2 dX4_rest_128
    | succ k ih =>
      refine lv_iload hx hb dX4_rest_41 (lv_at hl 0 rfl) ?_
      refine lv_iload_n hx hb dX4_rest_43 rfl (lv_at hl 3 rfl) ?_
      refine lv_sipush (v := 200) hx hb dX4_rest_44 (by decide) ?_
      refine lv_imul hx hb dX4_rest_47 ?_
      rw [nI_mul200 j]
      refine lv_aload_n hx hb dX4_rest_48 rfl (lv_at hl 2 rfl) ?_
      refine va_get (D := G.1) (ci := 5) (v := .ref k2) (C := RX4) (T := TX4) (N := 15) hx hb hts hiX4 hown hE.1 hP 0 rfl rfl 1 (by decide) (hts (.fieldLink RX4 13 "MeterSealsModel" "rows" "[I") (by decide +kernel)) (fun _ h9 => h9) rfl dX4_rest_49 ?_
      refine lv_iload_n hx hb dX4_rest_52 rfl (lv_at hl 3 rfl) ?_
      refine va_iald hx hb hE.1 hP 2 0 rfl rfl (vp_in_nI (show j < 8 by omega) (by decide)) dX4_rest_53 ?_
      rw [nI_clamp (n := j) (by omega)]
      rw [hro]
      refine lv_iadd hx hb dX4_rest_54 ?_
      rw [nI_add (j * 200) n]
      refine lv_icmp_ge (tgt := 120) hx hb dX4_rest_55 (by decide) (fun c55 => absurd c55 (nI_ge (by omega) (by omega))) (fun c55 => ?_)
      refine lv_aload_n hx hb dX4_rest_58 rfl (lv_at hl 2 rfl) ?_
      refine va_get (D := G.1) (ci := 5) (v := .ref k4) (C := RX4) (T := TX4) (N := 15) hx hb hts hiX4 hown hE.1 hP 0 rfl rfl 4 (by decide) (hts (.fieldLink RX4 20 "MeterSealsModel" "kind" "[I") (by decide +kernel)) (fun _ h9 => h9) rfl dX4_rest_59 ?_
      refine lv_iload hx hb dX4_rest_62 (lv_at hl 0 rfl) ?_
      refine va_iald hx hb hE.1 hP 4 0 rfl rfl (vp_in_nI (show j * 200 + i < 1600 by omega) (by decide)) dX4_rest_64 ?_
      rw [nI_clamp (n := j * 200 + i) (by omega)]
      refine lv_if_ne (tgt := 114) hx hb dX4_rest_65 (by decide) (fun c65 => ?_) (fun c65 => ?_)
      · refine lv_iinc (v := (nI (j * 200 + i + 1))) (lv' := [(6, .int (nI (j * 200 + i + 1))), (4, .long acc), (0, .ref k0), (1, .int (nI j)), (2, .long tank)]) hx hb dX4_rest_114 hl (k := 0) rfl (nI_1 (j * 200 + i)) (by decide) rfl (fun ls hl => ?_)
        refine lv_goto (tgt := 41) hx hb dX4_rest_117 (by decide) ?_
        exact ih ls (i + 1) acc (lv_sub hl [0, 1, 2, 3, 4] rfl) (by omega) (by rw [← hv]; simp only [md_sumF, if_neg c65])
      refine lv_aload_n hx hb dX4_rest_68 rfl (lv_at hl 2 rfl) ?_
      refine lv_iload_n hx hb dX4_rest_69 rfl (lv_at hl 3 rfl) ?_
      refine lv_aload_n hx hb dX4_rest_70 rfl (lv_at hl 2 rfl) ?_
      refine va_get (D := G.1) (ci := 5) (v := .ref k7) (C := RX4) (T := TX4) (N := 15) hx hb hts hiX4 hown hE.1 hP 0 rfl rfl 7 (by decide) (hts (.fieldLink RX4 29 "MeterSealsModel" "warm" "[I") (by decide +kernel)) (fun _ h9 => h9) rfl dX4_rest_71 ?_
      refine lv_iload hx hb dX4_rest_74 (lv_at hl 0 rfl) ?_
      refine va_iald hx hb hE.1 hP 7 0 rfl rfl (vp_in_nI (show j * 200 + i < 1600 by omega) (by decide)) dX4_rest_76 ?_
      rw [nI_clamp (n := j * 200 + i) (by omega)]
      refine x_ri (va_runV (As := [.int (nI j), .int (wa (j * 200 + i))]) (rest := []) ⟨hx, hb, hml, hown, hts⟩ (ct_X4_line l G k0 k1 k2 k3 k4 k5 k6 k7 k8 k9 k10 k11 k12 mc len 0 ky ro ln kd nb sc wa sm ld lo lw tx j t (wa (j * 200 + i)) hj ht hln) (cwV 2 hts gX4_rest_X4_line rfl rfl rfl (by decide +kernel) ⟨Nat.le_of_ble_eq_true rfl, Nat.le_of_ble_eq_true rfl⟩) (RdP.preV 0 5 rfl rfl hP hE) rfl rfl hl.1 rfl (lv_room (Nat.le_of_ble_eq_true rfl)) dX4_rest_77 ⟨Nat.zero_le _, Nat.zero_le _⟩) (fun r2 er2 => ?_)
      subst er2
      refine lv_istore (lv' := [(7, .int (md_ln ld j (wa (j * 200 + i)) t)), (6, .int (nI (j * 200 + i))), (4, .long acc), (0, .ref k0), (1, .int (nI j)), (2, .long tank)]) hx hb dX4_rest_80 hl (by decide) rfl (fun ls hl => ?_)
      refine lv_lload hx hb dX4_rest_82 (lv_at hl 2 rfl) ?_
      refine lv_aload_n hx hb dX4_rest_84 rfl (lv_at hl 3 rfl) ?_
      refine va_get (D := G.1) (ci := 5) (v := .ref k5) (C := RX4) (T := TX4) (N := 15) hx hb hts hiX4 hown hE.1 hP 0 rfl rfl 5 (by decide) (hts (.fieldLink RX4 23 "MeterSealsModel" "number" "[J") (by decide +kernel)) (fun _ h9 => h9) rfl dX4_rest_85 ?_
      refine lv_iload hx hb dX4_rest_88 (lv_at hl 1 rfl) ?_
      refine va_lald hx hb hE.1 hP 5 1 rfl rfl (vp_in_nI (show j * 200 + i < 1600 by omega) (by decide)) dX4_rest_90 ?_
      rw [nI_clamp (n := j * 200 + i) (by omega)]
      refine lv_aload_n hx hb dX4_rest_91 rfl (lv_at hl 3 rfl) ?_
      refine va_get (D := G.1) (ci := 5) (v := .ref k10) (C := RX4) (T := TX4) (N := 15) hx hb hts hiX4 hown hE.1 hP 0 rfl rfl 10 (by decide) (hts (.fieldLink RX4 38 "MeterSealsModel" "lineAbove" "[J") (by decide +kernel)) (fun _ h9 => h9) rfl dX4_rest_92 ?_
      refine lv_iload hx hb dX4_rest_95 (lv_at hl 0 rfl) ?_
      refine va_lald hx hb hE.1 hP 10 1 rfl rfl (mdln_in hj ht (hrd i (by omega) c65)) dX4_rest_97 ?_
      refine lv_lmul hx hb dX4_rest_98 ?_
      refine lv_ldc2 (v := 1000) hx hb hown (hts (.constantLong RX4 102 1000) (by decide +kernel)) dX4_rest_99 ?_
      refine lv_lmul hx hb dX4_rest_102 ?_
      refine lv_aload_n hx hb dX4_rest_103 rfl (lv_at hl 3 rfl) ?_
      refine va_get (D := G.1) (ci := 5) (v := .ref k11) (C := RX4) (T := TX4) (N := 15) hx hb hts hiX4 hown hE.1 hP 0 rfl rfl 11 (by decide) (hts (.fieldLink RX4 41 "MeterSealsModel" "lineBelow" "[J") (by decide +kernel)) (fun _ h9 => h9) rfl dX4_rest_104 ?_
      refine lv_iload hx hb dX4_rest_107 (lv_at hl 0 rfl) ?_
      refine va_lald hx hb hE.1 hP 11 1 rfl rfl (mdln_in hj ht (hrd i (by omega) c65)) dX4_rest_109 ?_
      refine lv_ldiv hx hb dX4_rest_110 (mdln_nz hj ht hlw (hrd i (by omega) c65)) ?_
      refine lv_ladd hx hb dX4_rest_111 ?_
      refine lv_lstore (lv' := [(4, .long (acc + ((((nb (j * 200 + i)) * (lo (md_ln ld j (wa (j * 200 + i)) t).toNatClampNeg)) * 1000) / (lw (md_ln ld j (wa (j * 200 + i)) t).toNatClampNeg)))), (7, .int (md_ln ld j (wa (j * 200 + i)) t)), (6, .int (nI (j * 200 + i))), (0, .ref k0), (1, .int (nI j)), (2, .long tank)]) hx hb dX4_rest_112 hl (by decide) rfl (fun ls hl => ?_)
      refine lv_iinc (v := (nI (j * 200 + i + 1))) (lv' := [(6, .int (nI (j * 200 + i + 1))), (4, .long (acc + ((((nb (j * 200 + i)) * (lo (md_ln ld j (wa (j * 200 + i)) t).toNatClampNeg)) * 1000) / (lw (md_ln ld j (wa (j * 200 + i)) t).toNatClampNeg)))), (7, .int (md_ln ld j (wa (j * 200 + i)) t)), (0, .ref k0), (1, .int (nI j)), (2, .long tank)]) hx hb dX4_rest_114 hl (k := 2) rfl (nI_1 (j * 200 + i)) (by decide) rfl (fun ls hl => ?_)
      refine lv_goto (tgt := 41) hx hb dX4_rest_117 (by decide) ?_
      exact ih ls (i + 1) (acc + ((((nb (j * 200 + i)) * (lo (md_ln ld j (wa (j * 200 + i)) t).toNatClampNeg)) * 1000) / (lw (md_ln ld j (wa (j * 200 + i)) t).toNatClampNeg))) (lv_sub hl [0, 1, 3, 4, 5] rfl) (by omega) (by rw [← hv]; simp only [md_sumF, if_pos c65])
  refine lv_ldc2 (v := (-9223372036854775808)) hx hb hown (hts (.constantLong RX4 100 (-9223372036854775808)) (by decide +kernel)) dX4_rest_27 ?_
  exact W.lret (v := (-9223372036854775808)) hx hb hr (fun tZ hZ hW => ⟨⟨(-9223372036854775808), wK G k0 k1 k2 k3 k4 k5 k6 k7 k8 k9 k10 k11 k12 (nI mc) len 0 ky ro ln kd nb sc wa sm ld lo lw tx, rfl, ⟨by simp only [md_rest, if_neg c16, if_neg c24], rfl⟩, by show va_P _ _ _ tZ.heap; rw [hZ]; exact hP⟩, hS.F hZ⟩) hS.2.2 dX4_rest_30

set_option maxHeartbeats 4000000 in
set_option maxRecDepth 100000 in
/-- X4_gap, present -/
theorem ct_X4_gap (l : Launch) (G : Gx) (k0 k1 k2 k3 k4 k5 k6 k7 k8 k9 k10 k11 k12 : Nat) (mc : Nat) (len thr : Int32) (ky : Nat → Int64) (ro ln kd : Nat → Int32) (nb sc : Nat → Int64) (wa : Nat → Int32) (sm : Nat → Int64) (ld : Nat → Int32) (lo lw : Nat → Int64) (tx : Nat → Int32) (j n t : Nat) (kk what : Int32) (hmc : mc ≤ 8) (hj : j < mc) (hn2 : n ≤ 200) (hro : ro j = nI n) (ht : t ≤ 16) (hln : ln j = nI t) : Met l yX4_gap wsX4_gap ({ frames := 1, cells := 0, slots := 0, locals := 21 }) (WrP G (wK G k0 k1 k2 k3 k4 k5 k6 k7 k8 k9 k10 k11 k12 (nI mc) len thr ky ro ln kd nb sc wa sm ld lo lw tx) [.ref k0, .int (nI j), .int kk, .int what]) (va_Qi (fun r (u : va_W) => r = md_gap kd sc j n kk what ∧ u = wK G k0 k1 k2 k3 k4 k5 k6 k7 k8 k9 k10 k11 k12 (nI mc) len 0 ky ro ln kd nb sc wa sm ld lo lw tx) (fun u t => va_P G.1 vwCl u t.heap) (adr (wK G k0 k1 k2 k3 k4 k5 k6 k7 k8 k9 k10 k11 k12 (nI mc) len thr ky ro ln kd nb sc wa sm ld lo lw tx))) 0 0 (adr (wK G k0 k1 k2 k3 k4 k5 k6 k7 k8 k9 k10 k11 k12 (nI mc) len thr ky ro ln kd nb sc wa sm ld lo lw tx)) := by
  refine Met.ofW (cc := cX4_gap) (maxL := 10) (ret := (some .int)) (by decide) rfl ?_
  intro p e s m args below meth c s₁ B hml hv
  obtain ⟨rfl, hP, hE, hD0⟩ := hv
  have hx := B.exec
  have hb := B.bytes
  have hr := B.returns
  have hts := atoms_spec (ws := wsX4_gap) B.pre
  have hown : s.vm.findClass RX4 = some m.cls := findClass_of_methodNamed B.named
  have hlocks := B.notSynchronized
  have hD : va_D (adr (wK G k0 k1 k2 k3 k4 k5 k6 k7 k8 k9 k10 k11 k12 (nI mc) len thr ky ro ln kd nb sc wa sm ld lo lw tx)) (wK G k0 k1 k2 k3 k4 k5 k6 k7 k8 k9 k10 k11 k12 (nI mc) len thr ky ro ln kd nb sc wa sm ld lo lw tx) := ⟨hD0.1, fun k q hk => ⟨k, q.2, hk⟩⟩
  generalize adr (wK G k0 k1 k2 k3 k4 k5 k6 k7 k8 k9 k10 k11 k12 (nI mc) len thr ky ro ln kd nb sc wa sm ld lo lw tx) = A at hD ⊢
  have hS : va_S A s.heap s.heap [] := va_S.rf
  have hiX4 : ∀ w ∈ wsX40, w ∈ wsX4_gap := by decide +kernel
  have hl := lv_entry ([.ref k0, .int (nI j), .int kk, .int what]) (n := 10) (Nat.le_of_ble_eq_true rfl)
  rw [lg_entry_eq]
  generalize (lg_sl ([.ref k0, .int (nI j), .int kk, .int what]) ++ List.replicate (10 - (lg_sl ([.ref k0, .int (nI j), .int kk, .int what])).length) Slot.unset).toArray = ls at hl ⊢
  replace hl : lv_has ls 10 [(0, .ref k0), (1, .int (nI j)), (2, .int kk), (3, .int what)] := hl
  have hm : ¬ f_holds (nI mc) (nI j) = 0 := (f_holds_iff (by omega) _).mpr ⟨j, hj, rfl⟩
  replace hj : j < 8 := by omega
  refine lv_aload_n hx hb dX4_gap_0 rfl (lv_at hl 0 rfl) ?_
  refine lv_iconst (v := 0) hx hb dX4_gap_1 (by decide) ?_
  refine va_put (D := G.1) (ci := 5) (v := .int 0) (ty := .int) (C := RX4) (T := TX4) (N := 15) hx hb hts hiX4 tyX4 tyX4_ok nmX4 hown hE.1 hP hD hS 0 rfl rfl 14 (by decide) (hts (.fieldLink RX4 47 "MeterSealsModel" "thrown" "I") (by decide +kernel)) (fun _ h9 => h9) rfl (by decide +kernel) rfl rfl (Nat.le_of_ble_eq_true rfl) dX4_gap_2 (fun H locs hP hD hS => ?_)
  replace hP : va_P G.1 vwCl (wK G k0 k1 k2 k3 k4 k5 k6 k7 k8 k9 k10 k11 k12 (nI mc) len 0 ky ro ln kd nb sc wa sm ld lo lw tx) H := hP
  replace hD : va_D A (wK G k0 k1 k2 k3 k4 k5 k6 k7 k8 k9 k10 k11 k12 (nI mc) len 0 ky ro ln kd nb sc wa sm ld lo lw tx) := hD
  refine lv_aload_n hx hb dX4_gap_5 rfl (lv_at hl 0 rfl) ?_
  refine lv_iload_n hx hb dX4_gap_6 rfl (lv_at hl 1 rfl) ?_
  refine x_ri (va_runV (As := [.int (nI j)]) (rest := []) ⟨hx, hb, hml, hown, hts⟩ (ct_X4_isMeter l G k0 k1 k2 k3 k4 k5 k6 k7 k8 k9 k10 k11 k12 mc len 0 ky ro ln kd nb sc wa sm ld lo lw tx (nI j)) (cwV 1 hts gX4_gap_X4_isMeter rfl rfl rfl (by decide +kernel) ⟨Nat.le_of_ble_eq_true rfl, Nat.le_of_ble_eq_true rfl⟩) (RdP.preV 0 5 rfl rfl hP hE) rfl rfl hl.1 rfl (lv_room (Nat.le_of_ble_eq_true rfl)) dX4_gap_7 ⟨Nat.zero_le _, Nat.zero_le _⟩) (fun r1 er1 => ?_)
  subst er1
  refine lv_if_eq (tgt := 26) hx hb dX4_gap_10 (by decide) (fun c10 => absurd c10 hm) (fun c10 => ?_)
  refine lv_iload_n hx hb dX4_gap_13 rfl (lv_at hl 2 rfl) ?_
  refine lv_if_lt (tgt := 26) hx hb dX4_gap_14 (by decide) (fun c14 => ?_) (fun c14 => ?_)
  · refine lv_iconst (v := (-1)) hx hb dX4_gap_26 (by decide) ?_
    exact W.iret (v := (-1)) hx hb hr (fun tZ hZ hW => ⟨⟨(-1), wK G k0 k1 k2 k3 k4 k5 k6 k7 k8 k9 k10 k11 k12 (nI mc) len 0 ky ro ln kd nb sc wa sm ld lo lw tx, rfl, ⟨by simp only [md_gap, if_pos c14], rfl⟩, by show va_P _ _ _ tZ.heap; rw [hZ]; exact hP⟩, hS.F hZ⟩) hS.2.2 dX4_gap_27
  refine lv_iload_n hx hb dX4_gap_17 rfl (lv_at hl 3 rfl) ?_
  refine lv_if_lt (tgt := 26) hx hb dX4_gap_18 (by decide) (fun c18 => ?_) (fun c18 => ?_)
  · refine lv_iconst (v := (-1)) hx hb dX4_gap_26 (by decide) ?_
    exact W.iret (v := (-1)) hx hb hr (fun tZ hZ hW => ⟨⟨(-1), wK G k0 k1 k2 k3 k4 k5 k6 k7 k8 k9 k10 k11 k12 (nI mc) len 0 ky ro ln kd nb sc wa sm ld lo lw tx, rfl, ⟨by simp only [md_gap, if_neg c14, if_pos c18], rfl⟩, by show va_P _ _ _ tZ.heap; rw [hZ]; exact hP⟩, hS.F hZ⟩) hS.2.2 dX4_gap_27
  refine lv_iload_n hx hb dX4_gap_21 rfl (lv_at hl 3 rfl) ?_
  refine lv_iconst (v := 1) hx hb dX4_gap_22 (by decide) ?_
  refine lv_icmp_le (tgt := 28) hx hb dX4_gap_23 (by decide) (fun c23 => ?_) (fun c23 => ?_)
  · refine lv_iconst (v := (-1)) hx hb dX4_gap_28 (by decide) ?_
    refine lv_istore (lv' := [(4, .int (-1)), (0, .ref k0), (1, .int (nI j)), (2, .int kk), (3, .int what)]) hx hb dX4_gap_29 hl (by decide) rfl (fun ls hl => ?_)
    refine lv_iconst (v := 0) hx hb dX4_gap_31 (by decide) ?_
    refine lv_istore (lv' := [(5, .int 0), (4, .int (-1)), (0, .ref k0), (1, .int (nI j)), (2, .int kk), (3, .int what)]) hx hb dX4_gap_32 hl (by decide) rfl (fun ls hl => ?_)
    refine lv_iconst (v := 0) hx hb dX4_gap_34 (by decide) ?_
    refine lv_istore (lv' := [(6, .int 0), (5, .int 0), (4, .int (-1)), (0, .ref k0), (1, .int (nI j)), (2, .int kk), (3, .int what)]) hx hb dX4_gap_35 hl (by decide) rfl (fun ls hl => ?_)
    obtain ⟨i, hi⟩ : ∃ i : Nat, i = 0 := ⟨_, rfl⟩
    obtain ⟨ct, hct⟩ : ∃ i : Nat, i = 0 := ⟨_, rfl⟩
    obtain ⟨last, hlt⟩ : ∃ x : Int32, x = -1 := ⟨_, rfl⟩
    replace hl : lv_has ls 10 [(6, .int (nI i)), (5, .int (nI ct)), (4, .int last), (0, .ref k0), (1, .int (nI j)), (2, .int kk), (3, .int what)] := by rw [hi, hct, hlt]; exact hl
    have hla : ga_I j i last := Or.inl hlt
    obtain ⟨k, hk⟩ : ∃ k : Nat, i + k = n := ⟨n - i, by omega⟩
    have hv : md_gapF kd sc j kk what k i ct last = md_gap kd sc j n kk what := by simp only [md_gap, if_neg c14, if_neg c18, if_pos c23]; rw [hi, hct, hlt, show k = n by omega]
    clear hi hct hlt
    induction k generalizing i ls ct last with
    | zero =>
      refine lv_iload hx hb dX4_gap_37 (lv_at hl 0 rfl) ?_
      refine lv_aload_n hx hb dX4_gap_39 rfl (lv_at hl 3 rfl) ?_
      refine va_get (D := G.1) (ci := 5) (v := .ref k2) (C := RX4) (T := TX4) (N := 15) hx hb hts hiX4 hown hE.1 hP 0 rfl rfl 1 (by decide) (hts (.fieldLink RX4 13 "MeterSealsModel" "rows" "[I") (by decide +kernel)) (fun _ h9 => h9) rfl dX4_gap_40 ?_
      refine lv_iload_n hx hb dX4_gap_43 rfl (lv_at hl 4 rfl) ?_
      refine va_iald hx hb hE.1 hP 2 0 rfl rfl (vp_in_nI (show j < 8 by omega) (by decide)) dX4_gap_44 ?_
      rw [nI_clamp (n := j) (by omega)]
      rw [hro]
      refine lv_icmp_ge (tgt := 159) hx hb dX4_gap_45 (by decide) (fun c45 => ?_) (fun c45 => absurd (nI_le (by omega) (by omega)) c45)
      refine lv_iconst (v := (-1)) hx hb dX4_gap_159 (by decide) ?_
      exact W.iret (v := (-1)) hx hb hr (fun tZ hZ hW => ⟨⟨(-1), wK G k0 k1 k2 k3 k4 k5 k6 k7 k8 k9 k10 k11 k12 (nI mc) len 0 ky ro ln kd nb sc wa sm ld lo lw tx, rfl, ⟨by rw [← hv]; rfl, rfl⟩, by show va_P _ _ _ tZ.heap; rw [hZ]; exact hP⟩, hS.F hZ⟩) hS.2.2 dX4_gap_160
    | succ k ih =>
      refine lv_iload hx hb dX4_gap_37 (lv_at hl 0 rfl) ?_
      refine lv_aload_n hx hb dX4_gap_39 rfl (lv_at hl 3 rfl) ?_
      refine va_get (D := G.1) (ci := 5) (v := .ref k2) (C := RX4) (T := TX4) (N := 15) hx hb hts hiX4 hown hE.1 hP 0 rfl rfl 1 (by decide) (hts (.fieldLink RX4 13 "MeterSealsModel" "rows" "[I") (by decide +kernel)) (fun _ h9 => h9) rfl dX4_gap_40 ?_
      refine lv_iload_n hx hb dX4_gap_43 rfl (lv_at hl 4 rfl) ?_
      refine va_iald hx hb hE.1 hP 2 0 rfl rfl (vp_in_nI (show j < 8 by omega) (by decide)) dX4_gap_44 ?_
      rw [nI_clamp (n := j) (by omega)]
      rw [hro]
      refine lv_icmp_ge (tgt := 159) hx hb dX4_gap_45 (by decide) (fun c45 => absurd c45 (nI_ge (by omega) (by omega))) (fun c45 => ?_)
      refine lv_iload_n hx hb dX4_gap_48 rfl (lv_at hl 4 rfl) ?_
      refine lv_sipush (v := 200) hx hb dX4_gap_49 (by decide) ?_
      refine lv_imul hx hb dX4_gap_52 ?_
      rw [nI_mul200 j]
      refine lv_iload hx hb dX4_gap_53 (lv_at hl 0 rfl) ?_
      refine lv_iadd hx hb dX4_gap_55 ?_
      rw [nI_add (j * 200) i]
      refine lv_istore (lv' := [(7, .int (nI (j * 200 + i))), (6, .int (nI i)), (5, .int (nI ct)), (4, .int last), (0, .ref k0), (1, .int (nI j)), (2, .int kk), (3, .int what)]) hx hb dX4_gap_56 hl (by decide) rfl (fun ls hl => ?_)
      refine lv_aload_n hx hb dX4_gap_58 rfl (lv_at hl 4 rfl) ?_
      refine va_get (D := G.1) (ci := 5) (v := .ref k4) (C := RX4) (T := TX4) (N := 15) hx hb hts hiX4 hown hE.1 hP 0 rfl rfl 4 (by decide) (hts (.fieldLink RX4 20 "MeterSealsModel" "kind" "[I") (by decide +kernel)) (fun _ h9 => h9) rfl dX4_gap_59 ?_
      refine lv_iload hx hb dX4_gap_62 (lv_at hl 0 rfl) ?_
      refine va_iald hx hb hE.1 hP 4 0 rfl rfl (vp_in_nI (show j * 200 + i < 1600 by omega) (by decide)) dX4_gap_64 ?_
      rw [nI_clamp (n := j * 200 + i) (by omega)]
      refine lv_if_ne (tgt := 153) hx hb dX4_gap_65 (by decide) (fun c65 => ?_) (fun c65 => ?_)
      · refine lv_iinc (v := (nI (i + 1))) (lv' := [(6, .int (nI (i + 1))), (7, .int (nI (j * 200 + i))), (5, .int (nI ct)), (4, .int last), (0, .ref k0), (1, .int (nI j)), (2, .int kk), (3, .int what)]) hx hb dX4_gap_153 hl (k := 1) rfl (nI_1 i) (by decide) rfl (fun ls hl => ?_)
        refine lv_goto (tgt := 37) hx hb dX4_gap_156 (by decide) ?_
        exact ih ls (i + 1) ct last (lv_sub hl [0, 2, 3, 4, 5, 6, 7] rfl) (ga_up hla) (by omega) (by rw [← hv]; simp only [md_gapF, if_neg c65])
      refine lv_iload hx hb dX4_gap_68 (lv_at hl 3 rfl) ?_
      refine lv_iconst (v := (-1)) hx hb dX4_gap_70 (by decide) ?_
      refine lv_icmp_ne (tgt := 78) hx hb dX4_gap_71 (by decide) (fun c71 => ?_) (fun c71 => ?_)
      · refine lv_aload_n hx hb dX4_gap_78 rfl (lv_at hl 4 rfl) ?_
        refine va_get (D := G.1) (ci := 5) (v := .ref k6) (C := RX4) (T := TX4) (N := 15) hx hb hts hiX4 hown hE.1 hP 0 rfl rfl 6 (by decide) (hts (.fieldLink RX4 26 "MeterSealsModel" "second" "[J") (by decide +kernel)) (fun _ h9 => h9) rfl dX4_gap_79 ?_
        refine lv_iload hx hb dX4_gap_82 (lv_at hl 0 rfl) ?_
        refine va_lald hx hb hE.1 hP 6 1 rfl rfl (vp_in_nI (show j * 200 + i < 1600 by omega) (by decide)) dX4_gap_84 ?_
        rw [nI_clamp (n := j * 200 + i) (by omega)]
        refine lv_aload_n hx hb dX4_gap_85 rfl (lv_at hl 4 rfl) ?_
        refine va_get (D := G.1) (ci := 5) (v := .ref k6) (C := RX4) (T := TX4) (N := 15) hx hb hts hiX4 hown hE.1 hP 0 rfl rfl 6 (by decide) (hts (.fieldLink RX4 26 "MeterSealsModel" "second" "[J") (by decide +kernel)) (fun _ h9 => h9) rfl dX4_gap_86 ?_
        refine lv_iload hx hb dX4_gap_89 (lv_at hl 3 rfl) ?_
        refine va_lald hx hb hE.1 hP 6 1 rfl rfl (ga_in hla c71 (by omega)) dX4_gap_91 ?_
        refine lv_lsub hx hb dX4_gap_92 ?_
        refine lv_lstore (lv' := [(8, .long ((sc (j * 200 + i)) - (sc last.toNatClampNeg))), (7, .int (nI (j * 200 + i))), (6, .int (nI i)), (5, .int (nI ct)), (4, .int last), (0, .ref k0), (1, .int (nI j)), (2, .int kk), (3, .int what)]) hx hb dX4_gap_93 hl (by decide) rfl (fun ls hl => ?_)
        refine lv_lload hx hb dX4_gap_95 (lv_at hl 0 rfl) ?_
        refine lv_ldc2 (v := 3600) hx hb hown (hts (.constantLong RX4 109 3600) (by decide +kernel)) dX4_gap_97 ?_
        refine x_lle (tgt := 149) hx hb dX4_gap_100 dX4_gap_101 (by decide) (fun c101 => ?_) (fun c101 => ?_)
        · refine lv_iload hx hb dX4_gap_149 (lv_at hl 1 rfl) ?_
          refine lv_istore (lv' := [(4, .int (nI (j * 200 + i))), (8, .long ((sc (j * 200 + i)) - (sc last.toNatClampNeg))), (7, .int (nI (j * 200 + i))), (6, .int (nI i)), (5, .int (nI ct)), (0, .ref k0), (1, .int (nI j)), (2, .int kk), (3, .int what)]) hx hb dX4_gap_151 hl (by decide) rfl (fun ls hl => ?_)
          refine lv_iinc (v := (nI (i + 1))) (lv' := [(6, .int (nI (i + 1))), (4, .int (nI (j * 200 + i))), (8, .long ((sc (j * 200 + i)) - (sc last.toNatClampNeg))), (7, .int (nI (j * 200 + i))), (5, .int (nI ct)), (0, .ref k0), (1, .int (nI j)), (2, .int kk), (3, .int what)]) hx hb dX4_gap_153 hl (k := 3) rfl (nI_1 i) (by decide) rfl (fun ls hl => ?_)
          refine lv_goto (tgt := 37) hx hb dX4_gap_156 (by decide) ?_
          exact ih ls (i + 1) ct (nI (j * 200 + i)) (lv_sub hl [0, 4, 1, 5, 6, 7, 8] rfl) (Or.inr ⟨i, by omega, rfl⟩) (by omega) (by rw [← hv]; simp only [md_gapF, if_pos c65, if_neg c71, if_pos c101])
        refine lv_iload hx hb dX4_gap_104 (lv_at hl 3 rfl) ?_
        refine lv_iload_n hx hb dX4_gap_106 rfl (lv_at hl 7 rfl) ?_
        refine lv_icmp_ne (tgt := 146) hx hb dX4_gap_107 (by decide) (fun c107 => ?_) (fun c107 => ?_)
        · refine lv_iinc (v := (nI (ct + 1))) (lv' := [(5, .int (nI (ct + 1))), (8, .long ((sc (j * 200 + i)) - (sc last.toNatClampNeg))), (7, .int (nI (j * 200 + i))), (6, .int (nI i)), (4, .int last), (0, .ref k0), (1, .int (nI j)), (2, .int kk), (3, .int what)]) hx hb dX4_gap_146 hl (k := 3) rfl (nI_1 ct) (by decide) rfl (fun ls hl => ?_)
          refine lv_iload hx hb dX4_gap_149 (lv_at hl 2 rfl) ?_
          refine lv_istore (lv' := [(4, .int (nI (j * 200 + i))), (5, .int (nI (ct + 1))), (8, .long ((sc (j * 200 + i)) - (sc last.toNatClampNeg))), (7, .int (nI (j * 200 + i))), (6, .int (nI i)), (0, .ref k0), (1, .int (nI j)), (2, .int kk), (3, .int what)]) hx hb dX4_gap_151 hl (by decide) rfl (fun ls hl => ?_)
          refine lv_iinc (v := (nI (i + 1))) (lv' := [(6, .int (nI (i + 1))), (4, .int (nI (j * 200 + i))), (5, .int (nI (ct + 1))), (8, .long ((sc (j * 200 + i)) - (sc last.toNatClampNeg))), (7, .int (nI (j * 200 + i))), (0, .ref k0), (1, .int (nI j)), (2, .int kk), (3, .int what)]) hx hb dX4_gap_153 hl (k := 4) rfl (nI_1 i) (by decide) rfl (fun ls hl => ?_)
          refine lv_goto (tgt := 37) hx hb dX4_gap_156 (by decide) ?_
          exact ih ls (i + 1) (ct + 1) (nI (j * 200 + i)) (lv_sub hl [0, 2, 1, 5, 6, 7, 8] rfl) (Or.inr ⟨i, by omega, rfl⟩) (by omega) (by rw [← hv]; simp only [md_gapF, if_pos c65, if_neg c71, if_neg c101, if_neg c107])
        refine lv_iload_n hx hb dX4_gap_110 rfl (lv_at hl 8 rfl) ?_
        refine lv_if_ne (tgt := 119) hx hb dX4_gap_111 (by decide) (fun c111 => ?_) (fun c111 => ?_)
        · refine lv_lload hx hb dX4_gap_119 (lv_at hl 0 rfl) ?_
          refine lv_ldc2 (v := 60) hx hb hown (hts (.constantLong RX4 111 60) (by decide +kernel)) dX4_gap_121 ?_
          refine lv_ldiv hx hb dX4_gap_124 (by decide) ?_
          refine lv_ldc2 (v := 2147483647) hx hb hown (hts (.constantLong RX4 113 2147483647) (by decide +kernel)) dX4_gap_125 ?_
          refine x_lge (tgt := 141) hx hb dX4_gap_128 dX4_gap_129 (by decide) (fun c129 => ?_) (fun c129 => ?_)
          · refine lv_ldc2 (v := 2147483647) hx hb hown (hts (.constantLong RX4 113 2147483647) (by decide +kernel)) dX4_gap_141 ?_
            refine lv_l2i (v := (2147483647 : Int64).toInt32) hx hb dX4_gap_144 rfl ?_
            exact W.iret (v := (2147483647 : Int64).toInt32) hx hb hr (fun tZ hZ hW => ⟨⟨(2147483647 : Int64).toInt32, wK G k0 k1 k2 k3 k4 k5 k6 k7 k8 k9 k10 k11 k12 (nI mc) len 0 ky ro ln kd nb sc wa sm ld lo lw tx, rfl, ⟨by rw [← hv]; simp only [md_gapF, if_pos c65, if_neg c71, if_neg c101, if_pos c107, if_neg c111, if_pos c129], rfl⟩, by show va_P _ _ _ tZ.heap; rw [hZ]; exact hP⟩, hS.F hZ⟩) hS.2.2 dX4_gap_145
          refine lv_lload hx hb dX4_gap_132 (lv_at hl 0 rfl) ?_
          refine lv_ldc2 (v := 60) hx hb hown (hts (.constantLong RX4 111 60) (by decide +kernel)) dX4_gap_134 ?_
          refine lv_ldiv hx hb dX4_gap_137 (by decide) ?_
          refine lv_goto (tgt := 144) hx hb dX4_gap_138 (by decide) ?_
          refine lv_l2i (v := (((sc (j * 200 + i)) - (sc last.toNatClampNeg)) / 60).toInt32) hx hb dX4_gap_144 rfl ?_
          exact W.iret (v := (((sc (j * 200 + i)) - (sc last.toNatClampNeg)) / 60).toInt32) hx hb hr (fun tZ hZ hW => ⟨⟨(((sc (j * 200 + i)) - (sc last.toNatClampNeg)) / 60).toInt32, wK G k0 k1 k2 k3 k4 k5 k6 k7 k8 k9 k10 k11 k12 (nI mc) len 0 ky ro ln kd nb sc wa sm ld lo lw tx, rfl, ⟨by rw [← hv]; simp only [md_gapF, if_pos c65, if_neg c71, if_neg c101, if_pos c107, if_neg c111, if_neg c129], rfl⟩, by show va_P _ _ _ tZ.heap; rw [hZ]; exact hP⟩, hS.F hZ⟩) hS.2.2 dX4_gap_145
        refine lv_iload hx hb dX4_gap_114 (lv_at hl 2 rfl) ?_
        refine lv_goto (tgt := 145) hx hb dX4_gap_116 (by decide) ?_
        exact W.iret (v := (nI i)) hx hb hr (fun tZ hZ hW => ⟨⟨(nI i), wK G k0 k1 k2 k3 k4 k5 k6 k7 k8 k9 k10 k11 k12 (nI mc) len 0 ky ro ln kd nb sc wa sm ld lo lw tx, rfl, ⟨by rw [← hv]; simp only [md_gapF, if_pos c65, if_neg c71, if_neg c101, if_pos c107, if_pos c111], rfl⟩, by show va_P _ _ _ tZ.heap; rw [hZ]; exact hP⟩, hS.F hZ⟩) hS.2.2 dX4_gap_145
      refine lv_lconst (v := 0) hx hb dX4_gap_74 (by decide) ?_
      refine lv_goto (tgt := 93) hx hb dX4_gap_75 (by decide) ?_
      refine lv_lstore (lv' := [(8, .long 0), (7, .int (nI (j * 200 + i))), (6, .int (nI i)), (5, .int (nI ct)), (4, .int last), (0, .ref k0), (1, .int (nI j)), (2, .int kk), (3, .int what)]) hx hb dX4_gap_93 hl (by decide) rfl (fun ls hl => ?_)
      refine lv_lload hx hb dX4_gap_95 (lv_at hl 0 rfl) ?_
      refine lv_ldc2 (v := 3600) hx hb hown (hts (.constantLong RX4 109 3600) (by decide +kernel)) dX4_gap_97 ?_
      refine x_lle (tgt := 149) hx hb dX4_gap_100 dX4_gap_101 (by decide) (fun c101 => ?_) (fun c101 => absurd c101 (by decide))
      refine lv_iload hx hb dX4_gap_149 (lv_at hl 1 rfl) ?_
      refine lv_istore (lv' := [(4, .int (nI (j * 200 + i))), (8, .long 0), (7, .int (nI (j * 200 + i))), (6, .int (nI i)), (5, .int (nI ct)), (0, .ref k0), (1, .int (nI j)), (2, .int kk), (3, .int what)]) hx hb dX4_gap_151 hl (by decide) rfl (fun ls hl => ?_)
      refine lv_iinc (v := (nI (i + 1))) (lv' := [(6, .int (nI (i + 1))), (4, .int (nI (j * 200 + i))), (8, .long 0), (7, .int (nI (j * 200 + i))), (5, .int (nI ct)), (0, .ref k0), (1, .int (nI j)), (2, .int kk), (3, .int what)]) hx hb dX4_gap_153 hl (k := 3) rfl (nI_1 i) (by decide) rfl (fun ls hl => ?_)
      refine lv_goto (tgt := 37) hx hb dX4_gap_156 (by decide) ?_
      exact ih ls (i + 1) ct (nI (j * 200 + i)) (lv_sub hl [0, 4, 1, 5, 6, 7, 8] rfl) (Or.inr ⟨i, by omega, rfl⟩) (by omega) (by rw [← hv]; simp only [md_gapF, if_pos c65, if_pos c71])
  refine lv_iconst (v := (-1)) hx hb dX4_gap_26 (by decide) ?_
  exact W.iret (v := (-1)) hx hb hr (fun tZ hZ hW => ⟨⟨(-1), wK G k0 k1 k2 k3 k4 k5 k6 k7 k8 k9 k10 k11 k12 (nI mc) len 0 ky ro ln kd nb sc wa sm ld lo lw tx, rfl, ⟨by simp only [md_gap, if_neg c14, if_neg c18, if_neg c23], rfl⟩, by show va_P _ _ _ tZ.heap; rw [hZ]; exact hP⟩, hS.F hZ⟩) hS.2.2 dX4_gap_27

set_option maxHeartbeats 4000000 in
set_option maxRecDepth 100000 in
/-- X4_pulses, absent -/
theorem ca_X4_pulses (l : Launch) (G : Gx) (k0 k1 k2 k3 k4 k5 k6 k7 k8 k9 k10 k11 k12 : Nat) (mc : Nat) (len thr : Int32) (ky : Nat → Int64) (ro ln kd : Nat → Int32) (nb sc : Nat → Int64) (wa : Nat → Int32) (sm : Nat → Int64) (ld : Nat → Int32) (lo lw : Nat → Int64) (tx : Nat → Int32) (mi : Int32) (number second : Int64) (degrees : Int32) (hmc : mc ≤ 8) (hmiss : f_holds (nI mc) mi = 0) : Met l yX4_pulses wsX4_pulses ({ frames := 1, cells := 0, slots := 0, locals := 21 }) (WrP G (wK G k0 k1 k2 k3 k4 k5 k6 k7 k8 k9 k10 k11 k12 (nI mc) len thr ky ro ln kd nb sc wa sm ld lo lw tx) [.ref k0, .int mi, .long number, .long second, .int degrees]) (va_Qi (fun r (u : va_W) => r = 0 ∧ u = wK G k0 k1 k2 k3 k4 k5 k6 k7 k8 k9 k10 k11 k12 (nI mc) len 0 ky ro ln kd nb sc wa sm ld lo lw tx) (fun u t => va_P G.1 vwCl u t.heap) (adr (wK G k0 k1 k2 k3 k4 k5 k6 k7 k8 k9 k10 k11 k12 (nI mc) len thr ky ro ln kd nb sc wa sm ld lo lw tx))) 0 0 (adr (wK G k0 k1 k2 k3 k4 k5 k6 k7 k8 k9 k10 k11 k12 (nI mc) len thr ky ro ln kd nb sc wa sm ld lo lw tx)) := by
  refine Met.ofW (cc := cX4_pulses) (maxL := 9) (ret := (some .boolean)) (by decide) rfl ?_
  intro p e s m args below meth c s₁ B hml hv
  obtain ⟨rfl, hP, hE, hD0⟩ := hv
  have hx := B.exec
  have hb := B.bytes
  have hr := B.returns
  have hts := atoms_spec (ws := wsX4_pulses) B.pre
  have hown : s.vm.findClass RX4 = some m.cls := findClass_of_methodNamed B.named
  have hlocks := B.notSynchronized
  have hD : va_D (adr (wK G k0 k1 k2 k3 k4 k5 k6 k7 k8 k9 k10 k11 k12 (nI mc) len thr ky ro ln kd nb sc wa sm ld lo lw tx)) (wK G k0 k1 k2 k3 k4 k5 k6 k7 k8 k9 k10 k11 k12 (nI mc) len thr ky ro ln kd nb sc wa sm ld lo lw tx) := ⟨hD0.1, fun k q hk => ⟨k, q.2, hk⟩⟩
  generalize adr (wK G k0 k1 k2 k3 k4 k5 k6 k7 k8 k9 k10 k11 k12 (nI mc) len thr ky ro ln kd nb sc wa sm ld lo lw tx) = A at hD ⊢
  have hS : va_S A s.heap s.heap [] := va_S.rf
  have hiX4 : ∀ w ∈ wsX40, w ∈ wsX4_pulses := by decide +kernel
  have hl := lv_entry ([.ref k0, .int mi, .long number, .long second, .int degrees]) (n := 9) (Nat.le_of_ble_eq_true rfl)
  rw [lg_entry_eq]
  generalize (lg_sl ([.ref k0, .int mi, .long number, .long second, .int degrees]) ++ List.replicate (9 - (lg_sl ([.ref k0, .int mi, .long number, .long second, .int degrees])).length) Slot.unset).toArray = ls at hl ⊢
  replace hl : lv_has ls 9 [(0, .ref k0), (1, .int mi), (2, .long number), (4, .long second), (6, .int degrees)] := hl
  refine lv_aload_n hx hb dX4_pulses_0 rfl (lv_at hl 0 rfl) ?_
  refine lv_iconst (v := 0) hx hb dX4_pulses_1 (by decide) ?_
  refine va_put (D := G.1) (ci := 5) (v := .int 0) (ty := .int) (C := RX4) (T := TX4) (N := 15) hx hb hts hiX4 tyX4 tyX4_ok nmX4 hown hE.1 hP hD hS 0 rfl rfl 14 (by decide) (hts (.fieldLink RX4 47 "MeterSealsModel" "thrown" "I") (by decide +kernel)) (fun _ h9 => h9) rfl (by decide +kernel) rfl rfl (Nat.le_of_ble_eq_true rfl) dX4_pulses_2 (fun H locs hP hD hS => ?_)
  replace hP : va_P G.1 vwCl (wK G k0 k1 k2 k3 k4 k5 k6 k7 k8 k9 k10 k11 k12 (nI mc) len 0 ky ro ln kd nb sc wa sm ld lo lw tx) H := hP
  replace hD : va_D A (wK G k0 k1 k2 k3 k4 k5 k6 k7 k8 k9 k10 k11 k12 (nI mc) len 0 ky ro ln kd nb sc wa sm ld lo lw tx) := hD
  refine lv_aload_n hx hb dX4_pulses_5 rfl (lv_at hl 0 rfl) ?_
  refine lv_iload_n hx hb dX4_pulses_6 rfl (lv_at hl 1 rfl) ?_
  refine x_ri (va_runV (As := [.int mi]) (rest := []) ⟨hx, hb, hml, hown, hts⟩ (ct_X4_isMeter l G k0 k1 k2 k3 k4 k5 k6 k7 k8 k9 k10 k11 k12 mc len 0 ky ro ln kd nb sc wa sm ld lo lw tx mi) (cwV 1 hts gX4_pulses_X4_isMeter rfl rfl rfl (by decide +kernel) ⟨Nat.le_of_ble_eq_true rfl, Nat.le_of_ble_eq_true rfl⟩) (RdP.preV 0 5 rfl rfl hP hE) rfl rfl hl.1 rfl (lv_room (Nat.le_of_ble_eq_true rfl)) dX4_pulses_7 ⟨Nat.zero_le _, Nat.zero_le _⟩) (fun r1 er1 => ?_)
  subst er1
  refine lv_if_eq (tgt := 83) hx hb dX4_pulses_10 (by decide) (fun c10 => ?_) (fun c10 => absurd hmiss c10)
  refine lv_iconst (v := 0) hx hb dX4_pulses_83 (by decide) ?_
  refine lv_istore (lv' := [(7, .int 0), (0, .ref k0), (1, .int mi), (2, .long number), (4, .long second), (6, .int degrees)]) hx hb dX4_pulses_84 hl (by decide) rfl (fun ls hl => ?_)
  refine lv_iconst (v := 0) hx hb dX4_pulses_86 (by decide) ?_
  refine lv_istore (lv' := [(8, .int 0), (7, .int 0), (0, .ref k0), (1, .int mi), (2, .long number), (4, .long second), (6, .int degrees)]) hx hb dX4_pulses_87 hl (by decide) rfl (fun ls hl => ?_)
  refine lv_iload hx hb dX4_pulses_89 (lv_at hl 1 rfl) ?_
  refine lv_if_eq (tgt := 153) hx hb dX4_pulses_91 (by decide) (fun c91 => ?_) (fun c91 => absurd c91 (by decide))
  refine lv_iload hx hb dX4_pulses_153 (lv_at hl 1 rfl) ?_
  refine lv_if_eq (tgt := 169) hx hb dX4_pulses_155 (by decide) (fun c155 => ?_) (fun c155 => absurd c155 (by decide))
  refine lv_iload hx hb dX4_pulses_169 (lv_at hl 1 rfl) ?_
  exact W.zret (v := 0) hx hb hr (zb (Or.inl rfl)) (fun tZ hZ hW => ⟨⟨0, wK G k0 k1 k2 k3 k4 k5 k6 k7 k8 k9 k10 k11 k12 (nI mc) len 0 ky ro ln kd nb sc wa sm ld lo lw tx, rfl, ⟨rfl, rfl⟩, by show va_P _ _ _ tZ.heap; rw [hZ]; exact hP⟩, hS.F hZ⟩) hS.2.2 dX4_pulses_171

set_option maxHeartbeats 4000000 in
set_option maxRecDepth 100000 in
/-- X4_row, absent -/
theorem ca_X4_row (l : Launch) (G : Gx) (k0 k1 k2 k3 k4 k5 k6 k7 k8 k9 k10 k11 k12 : Nat) (mc : Nat) (len thr : Int32) (ky : Nat → Int64) (ro ln kd : Nat → Int32) (nb sc : Nat → Int64) (wa : Nat → Int32) (sm : Nat → Int64) (ld : Nat → Int32) (lo lw : Nat → Int64) (tx : Nat → Int32) (mi : Int32) (d : Int32) (a b : Int64) (hmc : mc ≤ 8) (hmiss : f_holds (nI mc) mi = 0) : Met l yX4_row wsX4_row ({ frames := 1, cells := 0, slots := 0, locals := 21 }) (WrP G (wK G k0 k1 k2 k3 k4 k5 k6 k7 k8 k9 k10 k11 k12 (nI mc) len thr ky ro ln kd nb sc wa sm ld lo lw tx) [.ref k0, .int mi, .int d, .long a, .long b]) (va_Qi (fun r (u : va_W) => r = 0 ∧ u = wK G k0 k1 k2 k3 k4 k5 k6 k7 k8 k9 k10 k11 k12 (nI mc) len 0 ky ro ln kd nb sc wa sm ld lo lw tx) (fun u t => va_P G.1 vwCl u t.heap) (adr (wK G k0 k1 k2 k3 k4 k5 k6 k7 k8 k9 k10 k11 k12 (nI mc) len thr ky ro ln kd nb sc wa sm ld lo lw tx))) 0 0 (adr (wK G k0 k1 k2 k3 k4 k5 k6 k7 k8 k9 k10 k11 k12 (nI mc) len thr ky ro ln kd nb sc wa sm ld lo lw tx)) := by
  refine Met.ofW (cc := cX4_row) (maxL := 8) (ret := (some .boolean)) (by decide) rfl ?_
  intro p e s m args below meth c s₁ B hml hv
  obtain ⟨rfl, hP, hE, hD0⟩ := hv
  have hx := B.exec
  have hb := B.bytes
  have hr := B.returns
  have hts := atoms_spec (ws := wsX4_row) B.pre
  have hown : s.vm.findClass RX4 = some m.cls := findClass_of_methodNamed B.named
  have hlocks := B.notSynchronized
  have hD : va_D (adr (wK G k0 k1 k2 k3 k4 k5 k6 k7 k8 k9 k10 k11 k12 (nI mc) len thr ky ro ln kd nb sc wa sm ld lo lw tx)) (wK G k0 k1 k2 k3 k4 k5 k6 k7 k8 k9 k10 k11 k12 (nI mc) len thr ky ro ln kd nb sc wa sm ld lo lw tx) := ⟨hD0.1, fun k q hk => ⟨k, q.2, hk⟩⟩
  generalize adr (wK G k0 k1 k2 k3 k4 k5 k6 k7 k8 k9 k10 k11 k12 (nI mc) len thr ky ro ln kd nb sc wa sm ld lo lw tx) = A at hD ⊢
  have hS : va_S A s.heap s.heap [] := va_S.rf
  have hiX4 : ∀ w ∈ wsX40, w ∈ wsX4_row := by decide +kernel
  have hl := lv_entry ([.ref k0, .int mi, .int d, .long a, .long b]) (n := 8) (Nat.le_of_ble_eq_true rfl)
  rw [lg_entry_eq]
  generalize (lg_sl ([.ref k0, .int mi, .int d, .long a, .long b]) ++ List.replicate (8 - (lg_sl ([.ref k0, .int mi, .int d, .long a, .long b])).length) Slot.unset).toArray = ls at hl ⊢
  replace hl : lv_has ls 8 [(0, .ref k0), (1, .int mi), (2, .int d), (3, .long a), (5, .long b)] := hl
  refine lv_aload_n hx hb dX4_row_0 rfl (lv_at hl 0 rfl) ?_
  refine lv_iconst (v := 0) hx hb dX4_row_1 (by decide) ?_
  refine va_put (D := G.1) (ci := 5) (v := .int 0) (ty := .int) (C := RX4) (T := TX4) (N := 15) hx hb hts hiX4 tyX4 tyX4_ok nmX4 hown hE.1 hP hD hS 0 rfl rfl 14 (by decide) (hts (.fieldLink RX4 47 "MeterSealsModel" "thrown" "I") (by decide +kernel)) (fun _ h9 => h9) rfl (by decide +kernel) rfl rfl (Nat.le_of_ble_eq_true rfl) dX4_row_2 (fun H locs hP hD hS => ?_)
  replace hP : va_P G.1 vwCl (wK G k0 k1 k2 k3 k4 k5 k6 k7 k8 k9 k10 k11 k12 (nI mc) len 0 ky ro ln kd nb sc wa sm ld lo lw tx) H := hP
  replace hD : va_D A (wK G k0 k1 k2 k3 k4 k5 k6 k7 k8 k9 k10 k11 k12 (nI mc) len 0 ky ro ln kd nb sc wa sm ld lo lw tx) := hD
  refine lv_aload_n hx hb dX4_row_5 rfl (lv_at hl 0 rfl) ?_
  refine lv_iload_n hx hb dX4_row_6 rfl (lv_at hl 1 rfl) ?_
  refine x_ri (va_runV (As := [.int mi]) (rest := []) ⟨hx, hb, hml, hown, hts⟩ (ct_X4_isMeter l G k0 k1 k2 k3 k4 k5 k6 k7 k8 k9 k10 k11 k12 mc len 0 ky ro ln kd nb sc wa sm ld lo lw tx mi) (cwV 1 hts gX4_row_X4_isMeter rfl rfl rfl (by decide +kernel) ⟨Nat.le_of_ble_eq_true rfl, Nat.le_of_ble_eq_true rfl⟩) (RdP.preV 0 5 rfl rfl hP hE) rfl rfl hl.1 rfl (lv_room (Nat.le_of_ble_eq_true rfl)) dX4_row_7 ⟨Nat.zero_le _, Nat.zero_le _⟩) (fun r1 er1 => ?_)
  subst er1
  refine lv_if_eq (tgt := 56) hx hb dX4_row_10 (by decide) (fun c10 => ?_) (fun c10 => absurd hmiss c10)
  refine lv_iconst (v := 0) hx hb dX4_row_56 (by decide) ?_
  exact W.zret (v := 0) hx hb hr (zb (Or.inl rfl)) (fun tZ hZ hW => ⟨⟨0, wK G k0 k1 k2 k3 k4 k5 k6 k7 k8 k9 k10 k11 k12 (nI mc) len 0 ky ro ln kd nb sc wa sm ld lo lw tx, rfl, ⟨rfl, rfl⟩, by show va_P _ _ _ tZ.heap; rw [hZ]; exact hP⟩, hS.F hZ⟩) hS.2.2 dX4_row_57

set_option maxHeartbeats 4000000 in
set_option maxRecDepth 100000 in
/-- X4_litres, absent -/
theorem ca_X4_litres (l : Launch) (G : Gx) (k0 k1 k2 k3 k4 k5 k6 k7 k8 k9 k10 k11 k12 : Nat) (mc : Nat) (len thr : Int32) (ky : Nat → Int64) (ro ln kd : Nat → Int32) (nb sc : Nat → Int64) (wa : Nat → Int32) (sm : Nat → Int64) (ld : Nat → Int32) (lo lw : Nat → Int64) (tx : Nat → Int32) (mi : Int32) (row part : Int32) (hmc : mc ≤ 8) (hmiss : f_holds (nI mc) mi = 0) : Met l yX4_litres wsX4_litres ({ frames := 1, cells := 0, slots := 0, locals := 21 }) (WrP G (wK G k0 k1 k2 k3 k4 k5 k6 k7 k8 k9 k10 k11 k12 (nI mc) len thr ky ro ln kd nb sc wa sm ld lo lw tx) [.ref k0, .int mi, .int row, .int part]) (va_Ql (fun r (u : va_W) => r = -1 ∧ u = wK G k0 k1 k2 k3 k4 k5 k6 k7 k8 k9 k10 k11 k12 (nI mc) len 0 ky ro ln kd nb sc wa sm ld lo lw tx) (fun u t => va_P G.1 vwCl u t.heap) (adr (wK G k0 k1 k2 k3 k4 k5 k6 k7 k8 k9 k10 k11 k12 (nI mc) len thr ky ro ln kd nb sc wa sm ld lo lw tx))) 0 0 (adr (wK G k0 k1 k2 k3 k4 k5 k6 k7 k8 k9 k10 k11 k12 (nI mc) len thr ky ro ln kd nb sc wa sm ld lo lw tx)) := by
  refine Met.ofW (cc := cX4_litres) (maxL := 10) (ret := (some .long)) (by decide) rfl ?_
  intro p e s m args below meth c s₁ B hml hv
  obtain ⟨rfl, hP, hE, hD0⟩ := hv
  have hx := B.exec
  have hb := B.bytes
  have hr := B.returns
  have hts := atoms_spec (ws := wsX4_litres) B.pre
  have hown : s.vm.findClass RX4 = some m.cls := findClass_of_methodNamed B.named
  have hlocks := B.notSynchronized
  have hD : va_D (adr (wK G k0 k1 k2 k3 k4 k5 k6 k7 k8 k9 k10 k11 k12 (nI mc) len thr ky ro ln kd nb sc wa sm ld lo lw tx)) (wK G k0 k1 k2 k3 k4 k5 k6 k7 k8 k9 k10 k11 k12 (nI mc) len thr ky ro ln kd nb sc wa sm ld lo lw tx) := ⟨hD0.1, fun k q hk => ⟨k, q.2, hk⟩⟩
  generalize adr (wK G k0 k1 k2 k3 k4 k5 k6 k7 k8 k9 k10 k11 k12 (nI mc) len thr ky ro ln kd nb sc wa sm ld lo lw tx) = A at hD ⊢
  have hS : va_S A s.heap s.heap [] := va_S.rf
  have hiX4 : ∀ w ∈ wsX40, w ∈ wsX4_litres := by decide +kernel
  have hl := lv_entry ([.ref k0, .int mi, .int row, .int part]) (n := 10) (Nat.le_of_ble_eq_true rfl)
  rw [lg_entry_eq]
  generalize (lg_sl ([.ref k0, .int mi, .int row, .int part]) ++ List.replicate (10 - (lg_sl ([.ref k0, .int mi, .int row, .int part])).length) Slot.unset).toArray = ls at hl ⊢
  replace hl : lv_has ls 10 [(0, .ref k0), (1, .int mi), (2, .int row), (3, .int part)] := hl
  refine lv_aload_n hx hb dX4_litres_0 rfl (lv_at hl 0 rfl) ?_
  refine lv_iconst (v := 0) hx hb dX4_litres_1 (by decide) ?_
  refine va_put (D := G.1) (ci := 5) (v := .int 0) (ty := .int) (C := RX4) (T := TX4) (N := 15) hx hb hts hiX4 tyX4 tyX4_ok nmX4 hown hE.1 hP hD hS 0 rfl rfl 14 (by decide) (hts (.fieldLink RX4 47 "MeterSealsModel" "thrown" "I") (by decide +kernel)) (fun _ h9 => h9) rfl (by decide +kernel) rfl rfl (Nat.le_of_ble_eq_true rfl) dX4_litres_2 (fun H locs hP hD hS => ?_)
  replace hP : va_P G.1 vwCl (wK G k0 k1 k2 k3 k4 k5 k6 k7 k8 k9 k10 k11 k12 (nI mc) len 0 ky ro ln kd nb sc wa sm ld lo lw tx) H := hP
  replace hD : va_D A (wK G k0 k1 k2 k3 k4 k5 k6 k7 k8 k9 k10 k11 k12 (nI mc) len 0 ky ro ln kd nb sc wa sm ld lo lw tx) := hD
  refine lv_aload_n hx hb dX4_litres_5 rfl (lv_at hl 0 rfl) ?_
  refine lv_iload_n hx hb dX4_litres_6 rfl (lv_at hl 1 rfl) ?_
  refine x_ri (va_runV (As := [.int mi]) (rest := []) ⟨hx, hb, hml, hown, hts⟩ (ct_X4_isMeter l G k0 k1 k2 k3 k4 k5 k6 k7 k8 k9 k10 k11 k12 mc len 0 ky ro ln kd nb sc wa sm ld lo lw tx mi) (cwV 1 hts gX4_litres_X4_isMeter rfl rfl rfl (by decide +kernel) ⟨Nat.le_of_ble_eq_true rfl, Nat.le_of_ble_eq_true rfl⟩) (RdP.preV 0 5 rfl rfl hP hE) rfl rfl hl.1 rfl (lv_room (Nat.le_of_ble_eq_true rfl)) dX4_litres_7 ⟨Nat.zero_le _, Nat.zero_le _⟩) (fun r1 er1 => ?_)
  subst er1
  refine lv_if_eq (tgt := 22) hx hb dX4_litres_10 (by decide) (fun c10 => ?_) (fun c10 => absurd hmiss c10)
  refine lv_ldc2 (v := (-1)) hx hb hown (hts (.constantLong RX4 84 (-1)) (by decide +kernel)) dX4_litres_22 ?_
  exact W.lret (v := (-1)) hx hb hr (fun tZ hZ hW => ⟨⟨(-1), wK G k0 k1 k2 k3 k4 k5 k6 k7 k8 k9 k10 k11 k12 (nI mc) len 0 ky ro ln kd nb sc wa sm ld lo lw tx, rfl, ⟨rfl, rfl⟩, by show va_P _ _ _ tZ.heap; rw [hZ]; exact hP⟩, hS.F hZ⟩) hS.2.2 dX4_litres_25

set_option maxHeartbeats 4000000 in
set_option maxRecDepth 100000 in
/-- X4_rows, absent -/
theorem ca_X4_rows (l : Launch) (G : Gx) (k0 k1 k2 k3 k4 k5 k6 k7 k8 k9 k10 k11 k12 : Nat) (mc : Nat) (len thr : Int32) (ky : Nat → Int64) (ro ln kd : Nat → Int32) (nb sc : Nat → Int64) (wa : Nat → Int32) (sm : Nat → Int64) (ld : Nat → Int32) (lo lw : Nat → Int64) (tx : Nat → Int32) (mi : Int32)  (hmc : mc ≤ 8) (hmiss : f_holds (nI mc) mi = 0) : Met l yX4_rows wsX4_rows ({ frames := 1, cells := 0, slots := 0, locals := 21 }) (WrP G (wK G k0 k1 k2 k3 k4 k5 k6 k7 k8 k9 k10 k11 k12 (nI mc) len thr ky ro ln kd nb sc wa sm ld lo lw tx) [.ref k0, .int mi]) (va_Qi (fun r (u : va_W) => r = -1 ∧ u = wK G k0 k1 k2 k3 k4 k5 k6 k7 k8 k9 k10 k11 k12 (nI mc) len 0 ky ro ln kd nb sc wa sm ld lo lw tx) (fun u t => va_P G.1 vwCl u t.heap) (adr (wK G k0 k1 k2 k3 k4 k5 k6 k7 k8 k9 k10 k11 k12 (nI mc) len thr ky ro ln kd nb sc wa sm ld lo lw tx))) 0 0 (adr (wK G k0 k1 k2 k3 k4 k5 k6 k7 k8 k9 k10 k11 k12 (nI mc) len thr ky ro ln kd nb sc wa sm ld lo lw tx)) := by
  refine Met.ofW (cc := cX4_rows) (maxL := 2) (ret := (some .int)) (by decide) rfl ?_
  intro p e s m args below meth c s₁ B hml hv
  obtain ⟨rfl, hP, hE, hD0⟩ := hv
  have hx := B.exec
  have hb := B.bytes
  have hr := B.returns
  have hts := atoms_spec (ws := wsX4_rows) B.pre
  have hown : s.vm.findClass RX4 = some m.cls := findClass_of_methodNamed B.named
  have hlocks := B.notSynchronized
  have hD : va_D (adr (wK G k0 k1 k2 k3 k4 k5 k6 k7 k8 k9 k10 k11 k12 (nI mc) len thr ky ro ln kd nb sc wa sm ld lo lw tx)) (wK G k0 k1 k2 k3 k4 k5 k6 k7 k8 k9 k10 k11 k12 (nI mc) len thr ky ro ln kd nb sc wa sm ld lo lw tx) := ⟨hD0.1, fun k q hk => ⟨k, q.2, hk⟩⟩
  generalize adr (wK G k0 k1 k2 k3 k4 k5 k6 k7 k8 k9 k10 k11 k12 (nI mc) len thr ky ro ln kd nb sc wa sm ld lo lw tx) = A at hD ⊢
  have hS : va_S A s.heap s.heap [] := va_S.rf
  have hiX4 : ∀ w ∈ wsX40, w ∈ wsX4_rows := by decide +kernel
  have hl := lv_entry ([.ref k0, .int mi]) (n := 2) (Nat.le_of_ble_eq_true rfl)
  rw [lg_entry_eq]
  generalize (lg_sl ([.ref k0, .int mi]) ++ List.replicate (2 - (lg_sl ([.ref k0, .int mi])).length) Slot.unset).toArray = ls at hl ⊢
  replace hl : lv_has ls 2 [(0, .ref k0), (1, .int mi)] := hl
  refine lv_aload_n hx hb dX4_rows_0 rfl (lv_at hl 0 rfl) ?_
  refine lv_iconst (v := 0) hx hb dX4_rows_1 (by decide) ?_
  refine va_put (D := G.1) (ci := 5) (v := .int 0) (ty := .int) (C := RX4) (T := TX4) (N := 15) hx hb hts hiX4 tyX4 tyX4_ok nmX4 hown hE.1 hP hD hS 0 rfl rfl 14 (by decide) (hts (.fieldLink RX4 47 "MeterSealsModel" "thrown" "I") (by decide +kernel)) (fun _ h9 => h9) rfl (by decide +kernel) rfl rfl (Nat.le_of_ble_eq_true rfl) dX4_rows_2 (fun H locs hP hD hS => ?_)
  replace hP : va_P G.1 vwCl (wK G k0 k1 k2 k3 k4 k5 k6 k7 k8 k9 k10 k11 k12 (nI mc) len 0 ky ro ln kd nb sc wa sm ld lo lw tx) H := hP
  replace hD : va_D A (wK G k0 k1 k2 k3 k4 k5 k6 k7 k8 k9 k10 k11 k12 (nI mc) len 0 ky ro ln kd nb sc wa sm ld lo lw tx) := hD
  refine lv_aload_n hx hb dX4_rows_5 rfl (lv_at hl 0 rfl) ?_
  refine lv_iload_n hx hb dX4_rows_6 rfl (lv_at hl 1 rfl) ?_
  refine x_ri (va_runV (As := [.int mi]) (rest := []) ⟨hx, hb, hml, hown, hts⟩ (ct_X4_isMeter l G k0 k1 k2 k3 k4 k5 k6 k7 k8 k9 k10 k11 k12 mc len 0 ky ro ln kd nb sc wa sm ld lo lw tx mi) (cwV 1 hts gX4_rows_X4_isMeter rfl rfl rfl (by decide +kernel) ⟨Nat.le_of_ble_eq_true rfl, Nat.le_of_ble_eq_true rfl⟩) (RdP.preV 0 5 rfl rfl hP hE) rfl rfl hl.1 rfl (lv_room (Nat.le_of_ble_eq_true rfl)) dX4_rows_7 ⟨Nat.zero_le _, Nat.zero_le _⟩) (fun r1 er1 => ?_)
  subst er1
  refine lv_if_eq (tgt := 22) hx hb dX4_rows_10 (by decide) (fun c10 => ?_) (fun c10 => absurd hmiss c10)
  refine lv_iconst (v := (-1)) hx hb dX4_rows_22 (by decide) ?_
  exact W.iret (v := (-1)) hx hb hr (fun tZ hZ hW => ⟨⟨(-1), wK G k0 k1 k2 k3 k4 k5 k6 k7 k8 k9 k10 k11 k12 (nI mc) len 0 ky ro ln kd nb sc wa sm ld lo lw tx, rfl, ⟨rfl, rfl⟩, by show va_P _ _ _ tZ.heap; rw [hZ]; exact hP⟩, hS.F hZ⟩) hS.2.2 dX4_rows_23

set_option maxHeartbeats 4000000 in
set_option maxRecDepth 100000 in
/-- X4_check, absent -/
theorem ca_X4_check (l : Launch) (G : Gx) (k0 k1 k2 k3 k4 k5 k6 k7 k8 k9 k10 k11 k12 : Nat) (mc : Nat) (len thr : Int32) (ky : Nat → Int64) (ro ln kd : Nat → Int32) (nb sc : Nat → Int64) (wa : Nat → Int32) (sm : Nat → Int64) (ld : Nat → Int32) (lo lw : Nat → Int64) (tx : Nat → Int32) (mi : Int32) (frm : Int32) (hmc : mc ≤ 8) (hmiss : f_holds (nI mc) mi = 0) : Met l yX4_check wsX4_check ({ frames := 1, cells := 0, slots := 0, locals := 21 }) (WrP G (wK G k0 k1 k2 k3 k4 k5 k6 k7 k8 k9 k10 k11 k12 (nI mc) len thr ky ro ln kd nb sc wa sm ld lo lw tx) [.ref k0, .int mi, .int frm]) (va_Qi (fun r (u : va_W) => r = -1 ∧ u = wK G k0 k1 k2 k3 k4 k5 k6 k7 k8 k9 k10 k11 k12 (nI mc) len 0 ky ro ln kd nb sc wa sm ld lo lw tx) (fun u t => va_P G.1 vwCl u t.heap) (adr (wK G k0 k1 k2 k3 k4 k5 k6 k7 k8 k9 k10 k11 k12 (nI mc) len thr ky ro ln kd nb sc wa sm ld lo lw tx))) 0 0 (adr (wK G k0 k1 k2 k3 k4 k5 k6 k7 k8 k9 k10 k11 k12 (nI mc) len thr ky ro ln kd nb sc wa sm ld lo lw tx)) := by
  refine Met.ofW (cc := cX4_check) (maxL := 4) (ret := (some .int)) (by decide) rfl ?_
  intro p e s m args below meth c s₁ B hml hv
  obtain ⟨rfl, hP, hE, hD0⟩ := hv
  have hx := B.exec
  have hb := B.bytes
  have hr := B.returns
  have hts := atoms_spec (ws := wsX4_check) B.pre
  have hown : s.vm.findClass RX4 = some m.cls := findClass_of_methodNamed B.named
  have hlocks := B.notSynchronized
  have hD : va_D (adr (wK G k0 k1 k2 k3 k4 k5 k6 k7 k8 k9 k10 k11 k12 (nI mc) len thr ky ro ln kd nb sc wa sm ld lo lw tx)) (wK G k0 k1 k2 k3 k4 k5 k6 k7 k8 k9 k10 k11 k12 (nI mc) len thr ky ro ln kd nb sc wa sm ld lo lw tx) := ⟨hD0.1, fun k q hk => ⟨k, q.2, hk⟩⟩
  generalize adr (wK G k0 k1 k2 k3 k4 k5 k6 k7 k8 k9 k10 k11 k12 (nI mc) len thr ky ro ln kd nb sc wa sm ld lo lw tx) = A at hD ⊢
  have hS : va_S A s.heap s.heap [] := va_S.rf
  have hiX4 : ∀ w ∈ wsX40, w ∈ wsX4_check := by decide +kernel
  have hl := lv_entry ([.ref k0, .int mi, .int frm]) (n := 4) (Nat.le_of_ble_eq_true rfl)
  rw [lg_entry_eq]
  generalize (lg_sl ([.ref k0, .int mi, .int frm]) ++ List.replicate (4 - (lg_sl ([.ref k0, .int mi, .int frm])).length) Slot.unset).toArray = ls at hl ⊢
  replace hl : lv_has ls 4 [(0, .ref k0), (1, .int mi), (2, .int frm)] := hl
  refine lv_aload_n hx hb dX4_check_0 rfl (lv_at hl 0 rfl) ?_
  refine lv_iconst (v := 0) hx hb dX4_check_1 (by decide) ?_
  refine va_put (D := G.1) (ci := 5) (v := .int 0) (ty := .int) (C := RX4) (T := TX4) (N := 15) hx hb hts hiX4 tyX4 tyX4_ok nmX4 hown hE.1 hP hD hS 0 rfl rfl 14 (by decide) (hts (.fieldLink RX4 47 "MeterSealsModel" "thrown" "I") (by decide +kernel)) (fun _ h9 => h9) rfl (by decide +kernel) rfl rfl (Nat.le_of_ble_eq_true rfl) dX4_check_2 (fun H locs hP hD hS => ?_)
  replace hP : va_P G.1 vwCl (wK G k0 k1 k2 k3 k4 k5 k6 k7 k8 k9 k10 k11 k12 (nI mc) len 0 ky ro ln kd nb sc wa sm ld lo lw tx) H := hP
  replace hD : va_D A (wK G k0 k1 k2 k3 k4 k5 k6 k7 k8 k9 k10 k11 k12 (nI mc) len 0 ky ro ln kd nb sc wa sm ld lo lw tx) := hD
  refine lv_aload_n hx hb dX4_check_5 rfl (lv_at hl 0 rfl) ?_
  refine lv_iload_n hx hb dX4_check_6 rfl (lv_at hl 1 rfl) ?_
  refine x_ri (va_runV (As := [.int mi]) (rest := []) ⟨hx, hb, hml, hown, hts⟩ (ct_X4_isMeter l G k0 k1 k2 k3 k4 k5 k6 k7 k8 k9 k10 k11 k12 mc len 0 ky ro ln kd nb sc wa sm ld lo lw tx mi) (cwV 1 hts gX4_check_X4_isMeter rfl rfl rfl (by decide +kernel) ⟨Nat.le_of_ble_eq_true rfl, Nat.le_of_ble_eq_true rfl⟩) (RdP.preV 0 5 rfl rfl hP hE) rfl rfl hl.1 rfl (lv_room (Nat.le_of_ble_eq_true rfl)) dX4_check_7 ⟨Nat.zero_le _, Nat.zero_le _⟩) (fun r1 er1 => ?_)
  subst er1
  refine lv_if_eq (tgt := 27) hx hb dX4_check_10 (by decide) (fun c10 => ?_) (fun c10 => absurd hmiss c10)
  refine lv_iconst (v := (-1)) hx hb dX4_check_27 (by decide) ?_
  exact W.iret (v := (-1)) hx hb hr (fun tZ hZ hW => ⟨⟨(-1), wK G k0 k1 k2 k3 k4 k5 k6 k7 k8 k9 k10 k11 k12 (nI mc) len 0 ky ro ln kd nb sc wa sm ld lo lw tx, rfl, ⟨rfl, rfl⟩, by show va_P _ _ _ tZ.heap; rw [hZ]; exact hP⟩, hS.F hZ⟩) hS.2.2 dX4_check_28

set_option maxHeartbeats 4000000 in
set_option maxRecDepth 100000 in
/-- X4_poke, absent -/
theorem ca_X4_poke (l : Launch) (G : Gx) (k0 k1 k2 k3 k4 k5 k6 k7 k8 k9 k10 k11 k12 : Nat) (mc : Nat) (len thr : Int32) (ky : Nat → Int64) (ro ln kd : Nat → Int32) (nb sc : Nat → Int64) (wa : Nat → Int32) (sm : Nat → Int64) (ld : Nat → Int32) (lo lw : Nat → Int64) (tx : Nat → Int32) (mi : Int32) (row : Int32) (b : Int64) (hmc : mc ≤ 8) (hmiss : f_row mc ro mi row = 0) : Met l yX4_poke wsX4_poke ({ frames := 2, cells := 0, slots := 0, locals := 43 }) (WrP G (wK G k0 k1 k2 k3 k4 k5 k6 k7 k8 k9 k10 k11 k12 (nI mc) len thr ky ro ln kd nb sc wa sm ld lo lw tx) [.ref k0, .int mi, .int row, .long b]) (va_Qi (fun r (u : va_W) => r = 0 ∧ u = wK G k0 k1 k2 k3 k4 k5 k6 k7 k8 k9 k10 k11 k12 (nI mc) len 0 ky ro ln kd nb sc wa sm ld lo lw tx) (fun u t => va_P G.1 vwCl u t.heap) (adr (wK G k0 k1 k2 k3 k4 k5 k6 k7 k8 k9 k10 k11 k12 (nI mc) len thr ky ro ln kd nb sc wa sm ld lo lw tx))) 0 0 (adr (wK G k0 k1 k2 k3 k4 k5 k6 k7 k8 k9 k10 k11 k12 (nI mc) len thr ky ro ln kd nb sc wa sm ld lo lw tx)) := by
  refine Met.ofW (cc := cX4_poke) (maxL := 7) (ret := (some .boolean)) (by decide) rfl ?_
  intro p e s m args below meth c s₁ B hml hv
  obtain ⟨rfl, hP, hE, hD0⟩ := hv
  have hx := B.exec
  have hb := B.bytes
  have hr := B.returns
  have hts := atoms_spec (ws := wsX4_poke) B.pre
  have hown : s.vm.findClass RX4 = some m.cls := findClass_of_methodNamed B.named
  have hlocks := B.notSynchronized
  have hD : va_D (adr (wK G k0 k1 k2 k3 k4 k5 k6 k7 k8 k9 k10 k11 k12 (nI mc) len thr ky ro ln kd nb sc wa sm ld lo lw tx)) (wK G k0 k1 k2 k3 k4 k5 k6 k7 k8 k9 k10 k11 k12 (nI mc) len thr ky ro ln kd nb sc wa sm ld lo lw tx) := ⟨hD0.1, fun k q hk => ⟨k, q.2, hk⟩⟩
  generalize adr (wK G k0 k1 k2 k3 k4 k5 k6 k7 k8 k9 k10 k11 k12 (nI mc) len thr ky ro ln kd nb sc wa sm ld lo lw tx) = A at hD ⊢
  have hS : va_S A s.heap s.heap [] := va_S.rf
  have hiX4 : ∀ w ∈ wsX40, w ∈ wsX4_poke := by decide +kernel
  have hl := lv_entry ([.ref k0, .int mi, .int row, .long b]) (n := 7) (Nat.le_of_ble_eq_true rfl)
  rw [lg_entry_eq]
  generalize (lg_sl ([.ref k0, .int mi, .int row, .long b]) ++ List.replicate (7 - (lg_sl ([.ref k0, .int mi, .int row, .long b])).length) Slot.unset).toArray = ls at hl ⊢
  replace hl : lv_has ls 7 [(0, .ref k0), (1, .int mi), (2, .int row), (3, .long b)] := hl
  refine lv_aload_n hx hb dX4_poke_0 rfl (lv_at hl 0 rfl) ?_
  refine lv_iconst (v := 0) hx hb dX4_poke_1 (by decide) ?_
  refine va_put (D := G.1) (ci := 5) (v := .int 0) (ty := .int) (C := RX4) (T := TX4) (N := 15) hx hb hts hiX4 tyX4 tyX4_ok nmX4 hown hE.1 hP hD hS 0 rfl rfl 14 (by decide) (hts (.fieldLink RX4 47 "MeterSealsModel" "thrown" "I") (by decide +kernel)) (fun _ h9 => h9) rfl (by decide +kernel) rfl rfl (Nat.le_of_ble_eq_true rfl) dX4_poke_2 (fun H locs hP hD hS => ?_)
  replace hP : va_P G.1 vwCl (wK G k0 k1 k2 k3 k4 k5 k6 k7 k8 k9 k10 k11 k12 (nI mc) len 0 ky ro ln kd nb sc wa sm ld lo lw tx) H := hP
  replace hD : va_D A (wK G k0 k1 k2 k3 k4 k5 k6 k7 k8 k9 k10 k11 k12 (nI mc) len 0 ky ro ln kd nb sc wa sm ld lo lw tx) := hD
  refine lv_aload_n hx hb dX4_poke_5 rfl (lv_at hl 0 rfl) ?_
  refine lv_iload_n hx hb dX4_poke_6 rfl (lv_at hl 1 rfl) ?_
  refine lv_iload_n hx hb dX4_poke_7 rfl (lv_at hl 2 rfl) ?_
  refine x_ri (va_runV (As := [.int mi, .int row]) (rest := []) ⟨hx, hb, hml, hown, hts⟩ (ct_X4_isRow l G k0 k1 k2 k3 k4 k5 k6 k7 k8 k9 k10 k11 k12 mc len 0 ky ro ln kd nb sc wa sm ld lo lw tx mi row hmc) (cwV 2 hts gX4_poke_X4_isRow rfl rfl rfl (by decide +kernel) ⟨Nat.le_of_ble_eq_true rfl, Nat.le_of_ble_eq_true rfl⟩) (RdP.preV 0 5 rfl rfl hP hE) rfl rfl hl.1 rfl (lv_room (Nat.le_of_ble_eq_true rfl)) dX4_poke_8 ⟨Nat.zero_le _, Nat.zero_le _⟩) (fun r1 er1 => ?_)
  subst er1
  refine lv_if_eq (tgt := 45) hx hb dX4_poke_11 (by decide) (fun c11 => ?_) (fun c11 => absurd hmiss c11)
  refine lv_iconst (v := 0) hx hb dX4_poke_45 (by decide) ?_
  exact W.zret (v := 0) hx hb hr (zb (Or.inl rfl)) (fun tZ hZ hW => ⟨⟨0, wK G k0 k1 k2 k3 k4 k5 k6 k7 k8 k9 k10 k11 k12 (nI mc) len 0 ky ro ln kd nb sc wa sm ld lo lw tx, rfl, ⟨rfl, rfl⟩, by show va_P _ _ _ tZ.heap; rw [hZ]; exact hP⟩, hS.F hZ⟩) hS.2.2 dX4_poke_46

set_option maxHeartbeats 4000000 in
set_option maxRecDepth 100000 in
/-- X4_seal, absent -/
theorem ca_X4_seal (l : Launch) (G : Gx) (k0 k1 k2 k3 k4 k5 k6 k7 k8 k9 k10 k11 k12 : Nat) (mc : Nat) (len thr : Int32) (ky : Nat → Int64) (ro ln kd : Nat → Int32) (nb sc : Nat → Int64) (wa : Nat → Int32) (sm : Nat → Int64) (ld : Nat → Int32) (lo lw : Nat → Int64) (tx : Nat → Int32) (mi : Int32) (person set_ : Int32) (hmc : mc ≤ 8) (hmiss : f_holds (nI mc) mi = 0) : Met l yX4_seal wsX4_seal ({ frames := 1, cells := 0, slots := 0, locals := 21 }) (WrP G (wK G k0 k1 k2 k3 k4 k5 k6 k7 k8 k9 k10 k11 k12 (nI mc) len thr ky ro ln kd nb sc wa sm ld lo lw tx) [.ref k0, .int mi, .int person, .int set_]) (va_Qi (fun r (u : va_W) => r = 0 ∧ u = wK G k0 k1 k2 k3 k4 k5 k6 k7 k8 k9 k10 k11 k12 (nI mc) len 0 ky ro ln kd nb sc wa sm ld lo lw tx) (fun u t => va_P G.1 vwCl u t.heap) (adr (wK G k0 k1 k2 k3 k4 k5 k6 k7 k8 k9 k10 k11 k12 (nI mc) len thr ky ro ln kd nb sc wa sm ld lo lw tx))) 0 0 (adr (wK G k0 k1 k2 k3 k4 k5 k6 k7 k8 k9 k10 k11 k12 (nI mc) len thr ky ro ln kd nb sc wa sm ld lo lw tx)) := by
  refine Met.ofW (cc := cX4_seal) (maxL := 5) (ret := (some .boolean)) (by decide) rfl ?_
  intro p e s m args below meth c s₁ B hml hv
  obtain ⟨rfl, hP, hE, hD0⟩ := hv
  have hx := B.exec
  have hb := B.bytes
  have hr := B.returns
  have hts := atoms_spec (ws := wsX4_seal) B.pre
  have hown : s.vm.findClass RX4 = some m.cls := findClass_of_methodNamed B.named
  have hlocks := B.notSynchronized
  have hD : va_D (adr (wK G k0 k1 k2 k3 k4 k5 k6 k7 k8 k9 k10 k11 k12 (nI mc) len thr ky ro ln kd nb sc wa sm ld lo lw tx)) (wK G k0 k1 k2 k3 k4 k5 k6 k7 k8 k9 k10 k11 k12 (nI mc) len thr ky ro ln kd nb sc wa sm ld lo lw tx) := ⟨hD0.1, fun k q hk => ⟨k, q.2, hk⟩⟩
  generalize adr (wK G k0 k1 k2 k3 k4 k5 k6 k7 k8 k9 k10 k11 k12 (nI mc) len thr ky ro ln kd nb sc wa sm ld lo lw tx) = A at hD ⊢
  have hS : va_S A s.heap s.heap [] := va_S.rf
  have hiX4 : ∀ w ∈ wsX40, w ∈ wsX4_seal := by decide +kernel
  have hl := lv_entry ([.ref k0, .int mi, .int person, .int set_]) (n := 5) (Nat.le_of_ble_eq_true rfl)
  rw [lg_entry_eq]
  generalize (lg_sl ([.ref k0, .int mi, .int person, .int set_]) ++ List.replicate (5 - (lg_sl ([.ref k0, .int mi, .int person, .int set_])).length) Slot.unset).toArray = ls at hl ⊢
  replace hl : lv_has ls 5 [(0, .ref k0), (1, .int mi), (2, .int person), (3, .int set_)] := hl
  refine lv_aload_n hx hb dX4_seal_0 rfl (lv_at hl 0 rfl) ?_
  refine lv_iconst (v := 0) hx hb dX4_seal_1 (by decide) ?_
  refine va_put (D := G.1) (ci := 5) (v := .int 0) (ty := .int) (C := RX4) (T := TX4) (N := 15) hx hb hts hiX4 tyX4 tyX4_ok nmX4 hown hE.1 hP hD hS 0 rfl rfl 14 (by decide) (hts (.fieldLink RX4 47 "MeterSealsModel" "thrown" "I") (by decide +kernel)) (fun _ h9 => h9) rfl (by decide +kernel) rfl rfl (Nat.le_of_ble_eq_true rfl) dX4_seal_2 (fun H locs hP hD hS => ?_)
  replace hP : va_P G.1 vwCl (wK G k0 k1 k2 k3 k4 k5 k6 k7 k8 k9 k10 k11 k12 (nI mc) len 0 ky ro ln kd nb sc wa sm ld lo lw tx) H := hP
  replace hD : va_D A (wK G k0 k1 k2 k3 k4 k5 k6 k7 k8 k9 k10 k11 k12 (nI mc) len 0 ky ro ln kd nb sc wa sm ld lo lw tx) := hD
  refine lv_aload_n hx hb dX4_seal_5 rfl (lv_at hl 0 rfl) ?_
  refine lv_iload_n hx hb dX4_seal_6 rfl (lv_at hl 1 rfl) ?_
  refine x_ri (va_runV (As := [.int mi]) (rest := []) ⟨hx, hb, hml, hown, hts⟩ (ct_X4_isMeter l G k0 k1 k2 k3 k4 k5 k6 k7 k8 k9 k10 k11 k12 mc len 0 ky ro ln kd nb sc wa sm ld lo lw tx mi) (cwV 1 hts gX4_seal_X4_isMeter rfl rfl rfl (by decide +kernel) ⟨Nat.le_of_ble_eq_true rfl, Nat.le_of_ble_eq_true rfl⟩) (RdP.preV 0 5 rfl rfl hP hE) rfl rfl hl.1 rfl (lv_room (Nat.le_of_ble_eq_true rfl)) dX4_seal_7 ⟨Nat.zero_le _, Nat.zero_le _⟩) (fun r1 er1 => ?_)
  subst er1
  refine lv_if_eq (tgt := 56) hx hb dX4_seal_10 (by decide) (fun c10 => ?_) (fun c10 => absurd hmiss c10)
  refine lv_iconst (v := 0) hx hb dX4_seal_56 (by decide) ?_
  refine lv_istore (lv' := [(4, .int 0), (0, .ref k0), (1, .int mi), (2, .int person), (3, .int set_)]) hx hb dX4_seal_57 hl (by decide) rfl (fun ls hl => ?_)
  refine lv_iload hx hb dX4_seal_59 (lv_at hl 0 rfl) ?_
  refine lv_if_eq (tgt := 82) hx hb dX4_seal_61 (by decide) (fun c61 => ?_) (fun c61 => absurd c61 (by decide))
  refine lv_iload hx hb dX4_seal_82 (lv_at hl 0 rfl) ?_
  exact W.zret (v := 0) hx hb hr (zb (Or.inl rfl)) (fun tZ hZ hW => ⟨⟨0, wK G k0 k1 k2 k3 k4 k5 k6 k7 k8 k9 k10 k11 k12 (nI mc) len 0 ky ro ln kd nb sc wa sm ld lo lw tx, rfl, ⟨rfl, rfl⟩, by show va_P _ _ _ tZ.heap; rw [hZ]; exact hP⟩, hS.F hZ⟩) hS.2.2 dX4_seal_84

set_option maxHeartbeats 4000000 in
set_option maxRecDepth 100000 in
/-- X4_marked, absent -/
theorem ca_X4_marked (l : Launch) (G : Gx) (k0 k1 k2 k3 k4 k5 k6 k7 k8 k9 k10 k11 k12 : Nat) (mc : Nat) (len thr : Int32) (ky : Nat → Int64) (ro ln kd : Nat → Int32) (nb sc : Nat → Int64) (wa : Nat → Int32) (sm : Nat → Int64) (ld : Nat → Int32) (lo lw : Nat → Int64) (tx : Nat → Int32) (mi : Int32) (row : Int32) (hmc : mc ≤ 8) (hmiss : f_row mc ro mi row = 0) : Met l yX4_marked wsX4_marked ({ frames := 2, cells := 0, slots := 0, locals := 43 }) (WrP G (wK G k0 k1 k2 k3 k4 k5 k6 k7 k8 k9 k10 k11 k12 (nI mc) len thr ky ro ln kd nb sc wa sm ld lo lw tx) [.ref k0, .int mi, .int row]) (va_Qi (fun r (u : va_W) => r = 0 ∧ u = wK G k0 k1 k2 k3 k4 k5 k6 k7 k8 k9 k10 k11 k12 (nI mc) len 0 ky ro ln kd nb sc wa sm ld lo lw tx) (fun u t => va_P G.1 vwCl u t.heap) (adr (wK G k0 k1 k2 k3 k4 k5 k6 k7 k8 k9 k10 k11 k12 (nI mc) len thr ky ro ln kd nb sc wa sm ld lo lw tx))) 0 0 (adr (wK G k0 k1 k2 k3 k4 k5 k6 k7 k8 k9 k10 k11 k12 (nI mc) len thr ky ro ln kd nb sc wa sm ld lo lw tx)) := by
  refine Met.ofW (cc := cX4_marked) (maxL := 3) (ret := (some .boolean)) (by decide) rfl ?_
  intro p e s m args below meth c s₁ B hml hv
  obtain ⟨rfl, hP, hE, hD0⟩ := hv
  have hx := B.exec
  have hb := B.bytes
  have hr := B.returns
  have hts := atoms_spec (ws := wsX4_marked) B.pre
  have hown : s.vm.findClass RX4 = some m.cls := findClass_of_methodNamed B.named
  have hlocks := B.notSynchronized
  have hD : va_D (adr (wK G k0 k1 k2 k3 k4 k5 k6 k7 k8 k9 k10 k11 k12 (nI mc) len thr ky ro ln kd nb sc wa sm ld lo lw tx)) (wK G k0 k1 k2 k3 k4 k5 k6 k7 k8 k9 k10 k11 k12 (nI mc) len thr ky ro ln kd nb sc wa sm ld lo lw tx) := ⟨hD0.1, fun k q hk => ⟨k, q.2, hk⟩⟩
  generalize adr (wK G k0 k1 k2 k3 k4 k5 k6 k7 k8 k9 k10 k11 k12 (nI mc) len thr ky ro ln kd nb sc wa sm ld lo lw tx) = A at hD ⊢
  have hS : va_S A s.heap s.heap [] := va_S.rf
  have hiX4 : ∀ w ∈ wsX40, w ∈ wsX4_marked := by decide +kernel
  have hl := lv_entry ([.ref k0, .int mi, .int row]) (n := 3) (Nat.le_of_ble_eq_true rfl)
  rw [lg_entry_eq]
  generalize (lg_sl ([.ref k0, .int mi, .int row]) ++ List.replicate (3 - (lg_sl ([.ref k0, .int mi, .int row])).length) Slot.unset).toArray = ls at hl ⊢
  replace hl : lv_has ls 3 [(0, .ref k0), (1, .int mi), (2, .int row)] := hl
  refine lv_aload_n hx hb dX4_marked_0 rfl (lv_at hl 0 rfl) ?_
  refine lv_iconst (v := 0) hx hb dX4_marked_1 (by decide) ?_
  refine va_put (D := G.1) (ci := 5) (v := .int 0) (ty := .int) (C := RX4) (T := TX4) (N := 15) hx hb hts hiX4 tyX4 tyX4_ok nmX4 hown hE.1 hP hD hS 0 rfl rfl 14 (by decide) (hts (.fieldLink RX4 47 "MeterSealsModel" "thrown" "I") (by decide +kernel)) (fun _ h9 => h9) rfl (by decide +kernel) rfl rfl (Nat.le_of_ble_eq_true rfl) dX4_marked_2 (fun H locs hP hD hS => ?_)
  replace hP : va_P G.1 vwCl (wK G k0 k1 k2 k3 k4 k5 k6 k7 k8 k9 k10 k11 k12 (nI mc) len 0 ky ro ln kd nb sc wa sm ld lo lw tx) H := hP
  replace hD : va_D A (wK G k0 k1 k2 k3 k4 k5 k6 k7 k8 k9 k10 k11 k12 (nI mc) len 0 ky ro ln kd nb sc wa sm ld lo lw tx) := hD
  refine lv_aload_n hx hb dX4_marked_5 rfl (lv_at hl 0 rfl) ?_
  refine lv_iload_n hx hb dX4_marked_6 rfl (lv_at hl 1 rfl) ?_
  refine lv_iload_n hx hb dX4_marked_7 rfl (lv_at hl 2 rfl) ?_
  refine x_ri (va_runV (As := [.int mi, .int row]) (rest := []) ⟨hx, hb, hml, hown, hts⟩ (ct_X4_isRow l G k0 k1 k2 k3 k4 k5 k6 k7 k8 k9 k10 k11 k12 mc len 0 ky ro ln kd nb sc wa sm ld lo lw tx mi row hmc) (cwV 2 hts gX4_marked_X4_isRow rfl rfl rfl (by decide +kernel) ⟨Nat.le_of_ble_eq_true rfl, Nat.le_of_ble_eq_true rfl⟩) (RdP.preV 0 5 rfl rfl hP hE) rfl rfl hl.1 rfl (lv_room (Nat.le_of_ble_eq_true rfl)) dX4_marked_8 ⟨Nat.zero_le _, Nat.zero_le _⟩) (fun r1 er1 => ?_)
  subst er1
  refine lv_if_eq (tgt := 27) hx hb dX4_marked_11 (by decide) (fun c11 => ?_) (fun c11 => absurd hmiss c11)
  refine lv_iconst (v := 0) hx hb dX4_marked_27 (by decide) ?_
  exact W.zret (v := 0) hx hb hr (zb (Or.inl rfl)) (fun tZ hZ hW => ⟨⟨0, wK G k0 k1 k2 k3 k4 k5 k6 k7 k8 k9 k10 k11 k12 (nI mc) len 0 ky ro ln kd nb sc wa sm ld lo lw tx, rfl, ⟨rfl, rfl⟩, by show va_P _ _ _ tZ.heap; rw [hZ]; exact hP⟩, hS.F hZ⟩) hS.2.2 dX4_marked_28

set_option maxHeartbeats 4000000 in
set_option maxRecDepth 100000 in
/-- X4_gap, absent -/
theorem ca_X4_gap (l : Launch) (G : Gx) (k0 k1 k2 k3 k4 k5 k6 k7 k8 k9 k10 k11 k12 : Nat) (mc : Nat) (len thr : Int32) (ky : Nat → Int64) (ro ln kd : Nat → Int32) (nb sc : Nat → Int64) (wa : Nat → Int32) (sm : Nat → Int64) (ld : Nat → Int32) (lo lw : Nat → Int64) (tx : Nat → Int32) (mi : Int32) (kk what : Int32) (hmc : mc ≤ 8) (hmiss : f_holds (nI mc) mi = 0) : Met l yX4_gap wsX4_gap ({ frames := 1, cells := 0, slots := 0, locals := 21 }) (WrP G (wK G k0 k1 k2 k3 k4 k5 k6 k7 k8 k9 k10 k11 k12 (nI mc) len thr ky ro ln kd nb sc wa sm ld lo lw tx) [.ref k0, .int mi, .int kk, .int what]) (va_Qi (fun r (u : va_W) => r = -1 ∧ u = wK G k0 k1 k2 k3 k4 k5 k6 k7 k8 k9 k10 k11 k12 (nI mc) len 0 ky ro ln kd nb sc wa sm ld lo lw tx) (fun u t => va_P G.1 vwCl u t.heap) (adr (wK G k0 k1 k2 k3 k4 k5 k6 k7 k8 k9 k10 k11 k12 (nI mc) len thr ky ro ln kd nb sc wa sm ld lo lw tx))) 0 0 (adr (wK G k0 k1 k2 k3 k4 k5 k6 k7 k8 k9 k10 k11 k12 (nI mc) len thr ky ro ln kd nb sc wa sm ld lo lw tx)) := by
  refine Met.ofW (cc := cX4_gap) (maxL := 10) (ret := (some .int)) (by decide) rfl ?_
  intro p e s m args below meth c s₁ B hml hv
  obtain ⟨rfl, hP, hE, hD0⟩ := hv
  have hx := B.exec
  have hb := B.bytes
  have hr := B.returns
  have hts := atoms_spec (ws := wsX4_gap) B.pre
  have hown : s.vm.findClass RX4 = some m.cls := findClass_of_methodNamed B.named
  have hlocks := B.notSynchronized
  have hD : va_D (adr (wK G k0 k1 k2 k3 k4 k5 k6 k7 k8 k9 k10 k11 k12 (nI mc) len thr ky ro ln kd nb sc wa sm ld lo lw tx)) (wK G k0 k1 k2 k3 k4 k5 k6 k7 k8 k9 k10 k11 k12 (nI mc) len thr ky ro ln kd nb sc wa sm ld lo lw tx) := ⟨hD0.1, fun k q hk => ⟨k, q.2, hk⟩⟩
  generalize adr (wK G k0 k1 k2 k3 k4 k5 k6 k7 k8 k9 k10 k11 k12 (nI mc) len thr ky ro ln kd nb sc wa sm ld lo lw tx) = A at hD ⊢
  have hS : va_S A s.heap s.heap [] := va_S.rf
  have hiX4 : ∀ w ∈ wsX40, w ∈ wsX4_gap := by decide +kernel
  have hl := lv_entry ([.ref k0, .int mi, .int kk, .int what]) (n := 10) (Nat.le_of_ble_eq_true rfl)
  rw [lg_entry_eq]
  generalize (lg_sl ([.ref k0, .int mi, .int kk, .int what]) ++ List.replicate (10 - (lg_sl ([.ref k0, .int mi, .int kk, .int what])).length) Slot.unset).toArray = ls at hl ⊢
  replace hl : lv_has ls 10 [(0, .ref k0), (1, .int mi), (2, .int kk), (3, .int what)] := hl
  refine lv_aload_n hx hb dX4_gap_0 rfl (lv_at hl 0 rfl) ?_
  refine lv_iconst (v := 0) hx hb dX4_gap_1 (by decide) ?_
  refine va_put (D := G.1) (ci := 5) (v := .int 0) (ty := .int) (C := RX4) (T := TX4) (N := 15) hx hb hts hiX4 tyX4 tyX4_ok nmX4 hown hE.1 hP hD hS 0 rfl rfl 14 (by decide) (hts (.fieldLink RX4 47 "MeterSealsModel" "thrown" "I") (by decide +kernel)) (fun _ h9 => h9) rfl (by decide +kernel) rfl rfl (Nat.le_of_ble_eq_true rfl) dX4_gap_2 (fun H locs hP hD hS => ?_)
  replace hP : va_P G.1 vwCl (wK G k0 k1 k2 k3 k4 k5 k6 k7 k8 k9 k10 k11 k12 (nI mc) len 0 ky ro ln kd nb sc wa sm ld lo lw tx) H := hP
  replace hD : va_D A (wK G k0 k1 k2 k3 k4 k5 k6 k7 k8 k9 k10 k11 k12 (nI mc) len 0 ky ro ln kd nb sc wa sm ld lo lw tx) := hD
  refine lv_aload_n hx hb dX4_gap_5 rfl (lv_at hl 0 rfl) ?_
  refine lv_iload_n hx hb dX4_gap_6 rfl (lv_at hl 1 rfl) ?_
  refine x_ri (va_runV (As := [.int mi]) (rest := []) ⟨hx, hb, hml, hown, hts⟩ (ct_X4_isMeter l G k0 k1 k2 k3 k4 k5 k6 k7 k8 k9 k10 k11 k12 mc len 0 ky ro ln kd nb sc wa sm ld lo lw tx mi) (cwV 1 hts gX4_gap_X4_isMeter rfl rfl rfl (by decide +kernel) ⟨Nat.le_of_ble_eq_true rfl, Nat.le_of_ble_eq_true rfl⟩) (RdP.preV 0 5 rfl rfl hP hE) rfl rfl hl.1 rfl (lv_room (Nat.le_of_ble_eq_true rfl)) dX4_gap_7 ⟨Nat.zero_le _, Nat.zero_le _⟩) (fun r1 er1 => ?_)
  subst er1
  refine lv_if_eq (tgt := 26) hx hb dX4_gap_10 (by decide) (fun c10 => ?_) (fun c10 => absurd hmiss c10)
  refine lv_iconst (v := (-1)) hx hb dX4_gap_26 (by decide) ?_
  exact W.iret (v := (-1)) hx hb hr (fun tZ hZ hW => ⟨⟨(-1), wK G k0 k1 k2 k3 k4 k5 k6 k7 k8 k9 k10 k11 k12 (nI mc) len 0 ky ro ln kd nb sc wa sm ld lo lw tx, rfl, ⟨rfl, rfl⟩, by show va_P _ _ _ tZ.heap; rw [hZ]; exact hP⟩, hS.F hZ⟩) hS.2.2 dX4_gap_27

set_option maxHeartbeats 4000000 in
set_option maxRecDepth 100000 in
/-- X4_rest, absent -/
theorem ca_X4_rest (l : Launch) (G : Gx) (k0 k1 k2 k3 k4 k5 k6 k7 k8 k9 k10 k11 k12 : Nat) (mc : Nat) (len thr : Int32) (ky : Nat → Int64) (ro ln kd : Nat → Int32) (nb sc : Nat → Int64) (wa : Nat → Int32) (sm : Nat → Int64) (ld : Nat → Int32) (lo lw : Nat → Int64) (tx : Nat → Int32) (mi : Int32) (tank : Int64) (hmc : mc ≤ 8) (hmiss : f_holds (nI mc) mi = 0) : Met l yX4_rest wsX4_rest ({ frames := 1, cells := 0, slots := 0, locals := 21 }) (WrP G (wK G k0 k1 k2 k3 k4 k5 k6 k7 k8 k9 k10 k11 k12 (nI mc) len thr ky ro ln kd nb sc wa sm ld lo lw tx) [.ref k0, .int mi, .long tank]) (va_Ql (fun r (u : va_W) => r = -9223372036854775808 ∧ u = wK G k0 k1 k2 k3 k4 k5 k6 k7 k8 k9 k10 k11 k12 (nI mc) len 0 ky ro ln kd nb sc wa sm ld lo lw tx) (fun u t => va_P G.1 vwCl u t.heap) (adr (wK G k0 k1 k2 k3 k4 k5 k6 k7 k8 k9 k10 k11 k12 (nI mc) len thr ky ro ln kd nb sc wa sm ld lo lw tx))) 0 0 (adr (wK G k0 k1 k2 k3 k4 k5 k6 k7 k8 k9 k10 k11 k12 (nI mc) len thr ky ro ln kd nb sc wa sm ld lo lw tx)) := by
  refine Met.ofW (cc := cX4_rest) (maxL := 8) (ret := (some .long)) (by decide) rfl ?_
  intro p e s m args below meth c s₁ B hml hv
  obtain ⟨rfl, hP, hE, hD0⟩ := hv
  have hx := B.exec
  have hb := B.bytes
  have hr := B.returns
  have hts := atoms_spec (ws := wsX4_rest) B.pre
  have hown : s.vm.findClass RX4 = some m.cls := findClass_of_methodNamed B.named
  have hlocks := B.notSynchronized
  have hD : va_D (adr (wK G k0 k1 k2 k3 k4 k5 k6 k7 k8 k9 k10 k11 k12 (nI mc) len thr ky ro ln kd nb sc wa sm ld lo lw tx)) (wK G k0 k1 k2 k3 k4 k5 k6 k7 k8 k9 k10 k11 k12 (nI mc) len thr ky ro ln kd nb sc wa sm ld lo lw tx) := ⟨hD0.1, fun k q hk => ⟨k, q.2, hk⟩⟩
  generalize adr (wK G k0 k1 k2 k3 k4 k5 k6 k7 k8 k9 k10 k11 k12 (nI mc) len thr ky ro ln kd nb sc wa sm ld lo lw tx) = A at hD ⊢
  have hS : va_S A s.heap s.heap [] := va_S.rf
  have hiX4 : ∀ w ∈ wsX40, w ∈ wsX4_rest := by decide +kernel
  have hl := lv_entry ([.ref k0, .int mi, .long tank]) (n := 8) (Nat.le_of_ble_eq_true rfl)
  rw [lg_entry_eq]
  generalize (lg_sl ([.ref k0, .int mi, .long tank]) ++ List.replicate (8 - (lg_sl ([.ref k0, .int mi, .long tank])).length) Slot.unset).toArray = ls at hl ⊢
  replace hl : lv_has ls 8 [(0, .ref k0), (1, .int mi), (2, .long tank)] := hl
  refine lv_aload_n hx hb dX4_rest_0 rfl (lv_at hl 0 rfl) ?_
  refine lv_iconst (v := 0) hx hb dX4_rest_1 (by decide) ?_
  refine va_put (D := G.1) (ci := 5) (v := .int 0) (ty := .int) (C := RX4) (T := TX4) (N := 15) hx hb hts hiX4 tyX4 tyX4_ok nmX4 hown hE.1 hP hD hS 0 rfl rfl 14 (by decide) (hts (.fieldLink RX4 47 "MeterSealsModel" "thrown" "I") (by decide +kernel)) (fun _ h9 => h9) rfl (by decide +kernel) rfl rfl (Nat.le_of_ble_eq_true rfl) dX4_rest_2 (fun H locs hP hD hS => ?_)
  replace hP : va_P G.1 vwCl (wK G k0 k1 k2 k3 k4 k5 k6 k7 k8 k9 k10 k11 k12 (nI mc) len 0 ky ro ln kd nb sc wa sm ld lo lw tx) H := hP
  replace hD : va_D A (wK G k0 k1 k2 k3 k4 k5 k6 k7 k8 k9 k10 k11 k12 (nI mc) len 0 ky ro ln kd nb sc wa sm ld lo lw tx) := hD
  refine lv_aload_n hx hb dX4_rest_5 rfl (lv_at hl 0 rfl) ?_
  refine lv_iload_n hx hb dX4_rest_6 rfl (lv_at hl 1 rfl) ?_
  refine x_ri (va_runV (As := [.int mi]) (rest := []) ⟨hx, hb, hml, hown, hts⟩ (ct_X4_isMeter l G k0 k1 k2 k3 k4 k5 k6 k7 k8 k9 k10 k11 k12 mc len 0 ky ro ln kd nb sc wa sm ld lo lw tx mi) (cwV 1 hts gX4_rest_X4_isMeter rfl rfl rfl (by decide +kernel) ⟨Nat.le_of_ble_eq_true rfl, Nat.le_of_ble_eq_true rfl⟩) (RdP.preV 0 5 rfl rfl hP hE) rfl rfl hl.1 rfl (lv_room (Nat.le_of_ble_eq_true rfl)) dX4_rest_7 ⟨Nat.zero_le _, Nat.zero_le _⟩) (fun r1 er1 => ?_)
  subst er1
  refine lv_if_eq (tgt := 27) hx hb dX4_rest_10 (by decide) (fun c10 => ?_) (fun c10 => absurd hmiss c10)
  refine lv_ldc2 (v := (-9223372036854775808)) hx hb hown (hts (.constantLong RX4 100 (-9223372036854775808)) (by decide +kernel)) dX4_rest_27 ?_
  exact W.lret (v := (-9223372036854775808)) hx hb hr (fun tZ hZ hW => ⟨⟨(-9223372036854775808), wK G k0 k1 k2 k3 k4 k5 k6 k7 k8 k9 k10 k11 k12 (nI mc) len 0 ky ro ln kd nb sc wa sm ld lo lw tx, rfl, ⟨rfl, rfl⟩, by show va_P _ _ _ tZ.heap; rw [hZ]; exact hP⟩, hS.F hZ⟩) hS.2.2 dX4_rest_30

set_option maxHeartbeats 4000000 in
set_option maxRecDepth 100000 in
/-- X4_reset, absent -/
theorem ca_X4_reset (l : Launch) (G : Gx) (k0 k1 k2 k3 k4 k5 k6 k7 k8 k9 k10 k11 k12 : Nat) (mc : Nat) (len thr : Int32) (ky : Nat → Int64) (ro ln kd : Nat → Int32) (nb sc : Nat → Int64) (wa : Nat → Int32) (sm : Nat → Int64) (ld : Nat → Int32) (lo lw : Nat → Int64) (tx : Nat → Int32) (mi : Int32) (number : Int64) (hmc : mc ≤ 8) (hmiss : f_holds (nI mc) mi = 0) : Met l yX4_reset wsX4_reset ({ frames := 1, cells := 0, slots := 0, locals := 21 }) (WrP G (wK G k0 k1 k2 k3 k4 k5 k6 k7 k8 k9 k10 k11 k12 (nI mc) len thr ky ro ln kd nb sc wa sm ld lo lw tx) [.ref k0, .int mi, .long number]) (va_Qi (fun r (u : va_W) => r = 0 ∧ u = wK G k0 k1 k2 k3 k4 k5 k6 k7 k8 k9 k10 k11 k12 (nI mc) len 0 ky ro ln kd nb sc wa sm ld lo lw tx) (fun u t => va_P G.1 vwCl u t.heap) (adr (wK G k0 k1 k2 k3 k4 k5 k6 k7 k8 k9 k10 k11 k12 (nI mc) len thr ky ro ln kd nb sc wa sm ld lo lw tx))) 0 0 (adr (wK G k0 k1 k2 k3 k4 k5 k6 k7 k8 k9 k10 k11 k12 (nI mc) len thr ky ro ln kd nb sc wa sm ld lo lw tx)) := by
  refine Met.ofW (cc := cX4_reset) (maxL := 5) (ret := (some .boolean)) (by decide) rfl ?_
  intro p e s m args below meth c s₁ B hml hv
  obtain ⟨rfl, hP, hE, hD0⟩ := hv
  have hx := B.exec
  have hb := B.bytes
  have hr := B.returns
  have hts := atoms_spec (ws := wsX4_reset) B.pre
  have hown : s.vm.findClass RX4 = some m.cls := findClass_of_methodNamed B.named
  have hlocks := B.notSynchronized
  have hD : va_D (adr (wK G k0 k1 k2 k3 k4 k5 k6 k7 k8 k9 k10 k11 k12 (nI mc) len thr ky ro ln kd nb sc wa sm ld lo lw tx)) (wK G k0 k1 k2 k3 k4 k5 k6 k7 k8 k9 k10 k11 k12 (nI mc) len thr ky ro ln kd nb sc wa sm ld lo lw tx) := ⟨hD0.1, fun k q hk => ⟨k, q.2, hk⟩⟩
  generalize adr (wK G k0 k1 k2 k3 k4 k5 k6 k7 k8 k9 k10 k11 k12 (nI mc) len thr ky ro ln kd nb sc wa sm ld lo lw tx) = A at hD ⊢
  have hS : va_S A s.heap s.heap [] := va_S.rf
  have hiX4 : ∀ w ∈ wsX40, w ∈ wsX4_reset := by decide +kernel
  have hl := lv_entry ([.ref k0, .int mi, .long number]) (n := 5) (Nat.le_of_ble_eq_true rfl)
  rw [lg_entry_eq]
  generalize (lg_sl ([.ref k0, .int mi, .long number]) ++ List.replicate (5 - (lg_sl ([.ref k0, .int mi, .long number])).length) Slot.unset).toArray = ls at hl ⊢
  replace hl : lv_has ls 5 [(0, .ref k0), (1, .int mi), (2, .long number)] := hl
  refine lv_aload_n hx hb dX4_reset_0 rfl (lv_at hl 0 rfl) ?_
  refine lv_iconst (v := 0) hx hb dX4_reset_1 (by decide) ?_
  refine va_put (D := G.1) (ci := 5) (v := .int 0) (ty := .int) (C := RX4) (T := TX4) (N := 15) hx hb hts hiX4 tyX4 tyX4_ok nmX4 hown hE.1 hP hD hS 0 rfl rfl 14 (by decide) (hts (.fieldLink RX4 47 "MeterSealsModel" "thrown" "I") (by decide +kernel)) (fun _ h9 => h9) rfl (by decide +kernel) rfl rfl (Nat.le_of_ble_eq_true rfl) dX4_reset_2 (fun H locs hP hD hS => ?_)
  replace hP : va_P G.1 vwCl (wK G k0 k1 k2 k3 k4 k5 k6 k7 k8 k9 k10 k11 k12 (nI mc) len 0 ky ro ln kd nb sc wa sm ld lo lw tx) H := hP
  replace hD : va_D A (wK G k0 k1 k2 k3 k4 k5 k6 k7 k8 k9 k10 k11 k12 (nI mc) len 0 ky ro ln kd nb sc wa sm ld lo lw tx) := hD
  refine lv_aload_n hx hb dX4_reset_5 rfl (lv_at hl 0 rfl) ?_
  refine lv_iload_n hx hb dX4_reset_6 rfl (lv_at hl 1 rfl) ?_
  refine x_ri (va_runV (As := [.int mi]) (rest := []) ⟨hx, hb, hml, hown, hts⟩ (ct_X4_isMeter l G k0 k1 k2 k3 k4 k5 k6 k7 k8 k9 k10 k11 k12 mc len 0 ky ro ln kd nb sc wa sm ld lo lw tx mi) (cwV 1 hts gX4_reset_X4_isMeter rfl rfl rfl (by decide +kernel) ⟨Nat.le_of_ble_eq_true rfl, Nat.le_of_ble_eq_true rfl⟩) (RdP.preV 0 5 rfl rfl hP hE) rfl rfl hl.1 rfl (lv_room (Nat.le_of_ble_eq_true rfl)) dX4_reset_7 ⟨Nat.zero_le _, Nat.zero_le _⟩) (fun r1 er1 => ?_)
  subst er1
  refine lv_if_eq (tgt := 43) hx hb dX4_reset_10 (by decide) (fun c10 => ?_) (fun c10 => absurd hmiss c10)
  refine lv_iconst (v := 0) hx hb dX4_reset_43 (by decide) ?_
  refine lv_istore (lv' := [(4, .int 0), (0, .ref k0), (1, .int mi), (2, .long number)]) hx hb dX4_reset_44 hl (by decide) rfl (fun ls hl => ?_)
  refine lv_iload hx hb dX4_reset_46 (lv_at hl 0 rfl) ?_
  refine lv_if_eq (tgt := 60) hx hb dX4_reset_48 (by decide) (fun c48 => ?_) (fun c48 => absurd c48 (by decide))
  refine lv_iload hx hb dX4_reset_60 (lv_at hl 0 rfl) ?_
  exact W.zret (v := 0) hx hb hr (zb (Or.inl rfl)) (fun tZ hZ hW => ⟨⟨0, wK G k0 k1 k2 k3 k4 k5 k6 k7 k8 k9 k10 k11 k12 (nI mc) len 0 ky ro ln kd nb sc wa sm ld lo lw tx, rfl, ⟨rfl, rfl⟩, by show va_P _ _ _ tZ.heap; rw [hZ]; exact hP⟩, hS.F hZ⟩) hS.2.2 dX4_reset_62

set_option maxHeartbeats 4000000 in
set_option maxRecDepth 100000 in
/-- X4_roll, absent -/
theorem ca_X4_roll (l : Launch) (G : Gx) (k0 k1 k2 k3 k4 k5 k6 k7 k8 k9 k10 k11 k12 : Nat) (mc : Nat) (len thr : Int32) (ky : Nat → Int64) (ro ln kd : Nat → Int32) (nb sc : Nat → Int64) (wa : Nat → Int32) (sm : Nat → Int64) (ld : Nat → Int32) (lo lw : Nat → Int64) (tx : Nat → Int32) (mi : Int32) (ix : Int32) (hmc : mc ≤ 8) (hmiss : f_holds (nI mc) mi = 0) : Met l yX4_roll wsX4_roll ({ frames := 1, cells := 0, slots := 0, locals := 21 }) (WrP G (wK G k0 k1 k2 k3 k4 k5 k6 k7 k8 k9 k10 k11 k12 (nI mc) len thr ky ro ln kd nb sc wa sm ld lo lw tx) [.ref k0, .int mi, .int ix]) (va_Qi (fun r (u : va_W) => r = -1 ∧ u = wK G k0 k1 k2 k3 k4 k5 k6 k7 k8 k9 k10 k11 k12 (nI mc) len 0 ky ro ln kd nb sc wa sm ld lo lw tx) (fun u t => va_P G.1 vwCl u t.heap) (adr (wK G k0 k1 k2 k3 k4 k5 k6 k7 k8 k9 k10 k11 k12 (nI mc) len thr ky ro ln kd nb sc wa sm ld lo lw tx))) 0 0 (adr (wK G k0 k1 k2 k3 k4 k5 k6 k7 k8 k9 k10 k11 k12 (nI mc) len thr ky ro ln kd nb sc wa sm ld lo lw tx)) := by
  refine Met.ofW (cc := cX4_roll) (maxL := 5) (ret := (some .int)) (by decide) rfl ?_
  intro p e s m args below meth c s₁ B hml hv
  obtain ⟨rfl, hP, hE, hD0⟩ := hv
  have hx := B.exec
  have hb := B.bytes
  have hr := B.returns
  have hts := atoms_spec (ws := wsX4_roll) B.pre
  have hown : s.vm.findClass RX4 = some m.cls := findClass_of_methodNamed B.named
  have hlocks := B.notSynchronized
  have hD : va_D (adr (wK G k0 k1 k2 k3 k4 k5 k6 k7 k8 k9 k10 k11 k12 (nI mc) len thr ky ro ln kd nb sc wa sm ld lo lw tx)) (wK G k0 k1 k2 k3 k4 k5 k6 k7 k8 k9 k10 k11 k12 (nI mc) len thr ky ro ln kd nb sc wa sm ld lo lw tx) := ⟨hD0.1, fun k q hk => ⟨k, q.2, hk⟩⟩
  generalize adr (wK G k0 k1 k2 k3 k4 k5 k6 k7 k8 k9 k10 k11 k12 (nI mc) len thr ky ro ln kd nb sc wa sm ld lo lw tx) = A at hD ⊢
  have hS : va_S A s.heap s.heap [] := va_S.rf
  have hiX4 : ∀ w ∈ wsX40, w ∈ wsX4_roll := by decide +kernel
  have hl := lv_entry ([.ref k0, .int mi, .int ix]) (n := 5) (Nat.le_of_ble_eq_true rfl)
  rw [lg_entry_eq]
  generalize (lg_sl ([.ref k0, .int mi, .int ix]) ++ List.replicate (5 - (lg_sl ([.ref k0, .int mi, .int ix])).length) Slot.unset).toArray = ls at hl ⊢
  replace hl : lv_has ls 5 [(0, .ref k0), (1, .int mi), (2, .int ix)] := hl
  refine lv_aload_n hx hb dX4_roll_0 rfl (lv_at hl 0 rfl) ?_
  refine lv_iconst (v := 0) hx hb dX4_roll_1 (by decide) ?_
  refine va_put (D := G.1) (ci := 5) (v := .int 0) (ty := .int) (C := RX4) (T := TX4) (N := 15) hx hb hts hiX4 tyX4 tyX4_ok nmX4 hown hE.1 hP hD hS 0 rfl rfl 14 (by decide) (hts (.fieldLink RX4 47 "MeterSealsModel" "thrown" "I") (by decide +kernel)) (fun _ h9 => h9) rfl (by decide +kernel) rfl rfl (Nat.le_of_ble_eq_true rfl) dX4_roll_2 (fun H locs hP hD hS => ?_)
  replace hP : va_P G.1 vwCl (wK G k0 k1 k2 k3 k4 k5 k6 k7 k8 k9 k10 k11 k12 (nI mc) len 0 ky ro ln kd nb sc wa sm ld lo lw tx) H := hP
  replace hD : va_D A (wK G k0 k1 k2 k3 k4 k5 k6 k7 k8 k9 k10 k11 k12 (nI mc) len 0 ky ro ln kd nb sc wa sm ld lo lw tx) := hD
  refine lv_aload_n hx hb dX4_roll_5 rfl (lv_at hl 0 rfl) ?_
  refine lv_iload_n hx hb dX4_roll_6 rfl (lv_at hl 1 rfl) ?_
  refine x_ri (va_runV (As := [.int mi]) (rest := []) ⟨hx, hb, hml, hown, hts⟩ (ct_X4_isMeter l G k0 k1 k2 k3 k4 k5 k6 k7 k8 k9 k10 k11 k12 mc len 0 ky ro ln kd nb sc wa sm ld lo lw tx mi) (cwV 1 hts gX4_roll_X4_isMeter rfl rfl rfl (by decide +kernel) ⟨Nat.le_of_ble_eq_true rfl, Nat.le_of_ble_eq_true rfl⟩) (RdP.preV 0 5 rfl rfl hP hE) rfl rfl hl.1 rfl (lv_room (Nat.le_of_ble_eq_true rfl)) dX4_roll_7 ⟨Nat.zero_le _, Nat.zero_le _⟩) (fun r1 er1 => ?_)
  subst er1
  refine lv_if_eq (tgt := 17) hx hb dX4_roll_10 (by decide) (fun c10 => ?_) (fun c10 => absurd hmiss c10)
  refine lv_iconst (v := (-1)) hx hb dX4_roll_17 (by decide) ?_
  exact W.iret (v := (-1)) hx hb hr (fun tZ hZ hW => ⟨⟨(-1), wK G k0 k1 k2 k3 k4 k5 k6 k7 k8 k9 k10 k11 k12 (nI mc) len 0 ky ro ln kd nb sc wa sm ld lo lw tx, rfl, ⟨rfl, rfl⟩, by show va_P _ _ _ tZ.heap; rw [hZ]; exact hP⟩, hS.F hZ⟩) hS.2.2 dX4_roll_18
