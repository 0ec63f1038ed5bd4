theorem wrote.ap {t0 t1 t2 : Nat → Int32} {a b : Nat} {l l' : List Int32} (h : wrote t0 t1 a l) (h' : wrote t1 t2 b l') (hb : b = a + l.length) : wrote t0 t2 a (l ++ l') := by
  subst hb
  exact h.app h'

set_option maxHeartbeats 4000000 in
set_option maxRecDepth 100000 in
/-- print -/
theorem ct_X4_print (l : Launch) (G : Gx) (k0 k1 k2 k3 k4 k5 k6 k7 k8 k9 k10 k11 k12 : Nat) (mc : Nat) (len thr : Int32) (ky : Nat → Int64) (ro ln kd : Nat → Int32) (nb sc : Nat → Int64) (wa : Nat → Int32) (sm : Nat → Int64) (ld : Nat → Int32) (lo lw : Nat → Int64) (tx : Nat → Int32) (j i : Nat) (hj : j < 8) (hi : i < 200) (hok : md_rok nb sc wa j i) : Met l yX4_print wsX4_print ({ frames := 2, cells := 0, slots := 0, locals := 48 }) (WrP G (wK G k0 k1 k2 k3 k4 k5 k6 k7 k8 k9 k10 k11 k12 (nI mc) len thr ky ro ln kd nb sc wa sm ld lo lw tx) [.ref k0, .int (nI j), .int (nI i)]) (va_Qv (fun (u : va_W) => ∃ (b : Nat) (ty : Nat → Int32), b = (md_line kd nb sc wa j i).length ∧ u = wK G k0 k1 k2 k3 k4 k5 k6 k7 k8 k9 k10 k11 k12 (nI mc) (nI b) thr ky ro ln kd nb sc wa sm ld lo lw ty ∧ wrote tx ty 0 (md_line kd nb sc wa j i)) (fun u t => va_P G.1 vwCl u t.heap) (adr (wK G k0 k1 k2 k3 k4 k5 k6 k7 k8 k9 k10 k11 k12 (nI mc) len thr ky ro ln kd nb sc wa sm ld lo lw tx))) 0 0 (adr (wK G k0 k1 k2 k3 k4 k5 k6 k7 k8 k9 k10 k11 k12 (nI mc) len thr ky ro ln kd nb sc wa sm ld lo lw tx)) := by
  refine Met.ofW (cc := cX4_print) (maxL := 4) (ret := none) (by decide) rfl ?_
  intro p e s m args below meth c s₁ B hml hv
  obtain ⟨rfl, hP, hE, hD0⟩ := hv
  have hx := B.exec
  have hb := B.bytes
  have hr := B.returns
  have hts := atoms_spec (ws := wsX4_print) B.pre
  have hown : s.vm.findClass RX4 = some m.cls := findClass_of_methodNamed B.named
  have hlocks := B.notSynchronized
  have hD : va_D (adr (wK G k0 k1 k2 k3 k4 k5 k6 k7 k8 k9 k10 k11 k12 (nI mc) len thr ky ro ln kd nb sc wa sm ld lo lw tx)) (wK G k0 k1 k2 k3 k4 k5 k6 k7 k8 k9 k10 k11 k12 (nI mc) len thr ky ro ln kd nb sc wa sm ld lo lw tx) := ⟨hD0.1, fun k q hk => ⟨k, q.2, hk⟩⟩
  generalize adr (wK G k0 k1 k2 k3 k4 k5 k6 k7 k8 k9 k10 k11 k12 (nI mc) len thr ky ro ln kd nb sc wa sm ld lo lw tx) = A at hD ⊢
  have hS : va_S A s.heap s.heap [] := va_S.rf
  have hiX4 : ∀ w ∈ wsX40, w ∈ wsX4_print := by decide +kernel
  have hl := lv_entry ([.ref k0, .int (nI j), .int (nI i)]) (n := 4) (Nat.le_of_ble_eq_true rfl)
  rw [lg_entry_eq]
  generalize (lg_sl ([.ref k0, .int (nI j), .int (nI i)]) ++ List.replicate (4 - (lg_sl ([.ref k0, .int (nI j), .int (nI i)])).length) Slot.unset).toArray = ls at hl ⊢
  replace hl : lv_has ls 4 [(0, .ref k0), (1, .int (nI j)), (2, .int (nI i))] := hl
  refine lv_iload_n hx hb dX4_print_0 rfl (lv_at hl 1 rfl) ?_
  refine lv_sipush (v := 200) hx hb dX4_print_1 (by decide) ?_
  refine lv_imul hx hb dX4_print_4 ?_
  rw [nI_mul200 j]
  refine lv_iload_n hx hb dX4_print_5 rfl (lv_at hl 2 rfl) ?_
  refine lv_iadd hx hb dX4_print_6 ?_
  rw [nI_add (j * 200) i]
  refine lv_istore_n (lv' := [(3, .int (nI (j * 200 + i))), (0, .ref k0), (1, .int (nI j)), (2, .int (nI i))]) hx hb dX4_print_7 rfl hl (by decide) rfl (fun ls hl => ?_)
  refine lv_aload_n hx hb dX4_print_8 rfl (lv_at hl 1 rfl) ?_
  refine lv_iconst (v := 0) hx hb dX4_print_9 (by decide) ?_
  refine va_put (D := G.1) (ci := 5) (v := .int 0) (ty := .int) (C := RX4) (T := TX4) (N := 15) hx hb hts hiX4 tyX4 tyX4_ok nmX4 hown hE.1 hP hD hS 0 rfl rfl 13 (by decide) (hts (.fieldLink RX4 115 "MeterSealsModel" "length" "I") (by decide +kernel)) (fun _ h9 => h9) rfl (by decide +kernel) rfl rfl (Nat.le_of_ble_eq_true rfl) dX4_print_10 (fun H locs hP hD hS => ?_)
  replace hP : va_P G.1 vwCl (wK G k0 k1 k2 k3 k4 k5 k6 k7 k8 k9 k10 k11 k12 (nI mc) 0 thr ky ro ln kd nb sc wa sm ld lo lw tx) H := hP
  replace hD : va_D A (wK G k0 k1 k2 k3 k4 k5 k6 k7 k8 k9 k10 k11 k12 (nI mc) 0 thr ky ro ln kd nb sc wa sm ld lo lw tx) := hD
  replace hP : va_P G.1 vwCl (wK G k0 k1 k2 k3 k4 k5 k6 k7 k8 k9 k10 k11 k12 (nI mc) (nI 0) thr ky ro ln kd nb sc wa sm ld lo lw tx) H := hP
  replace hD : va_D A (wK G k0 k1 k2 k3 k4 k5 k6 k7 k8 k9 k10 k11 k12 (nI mc) (nI 0) thr ky ro ln kd nb sc wa sm ld lo lw tx) := hD
  have h70 : (txt (nb (j * 200 + i))).length + 1 + ((txt (sc (j * 200 + i))).length + 1) + ((txt (wa (j * 200 + i)).toInt64).length + 1) ≤ 70 := hok.2.2.2
  refine lv_aload_n hx hb dX4_print_13 rfl (lv_at hl 1 rfl) ?_
  refine lv_aload_n hx hb dX4_print_14 rfl (lv_at hl 1 rfl) ?_
  refine va_get (D := G.1) (ci := 5) (v := .ref k4) (C := RX4) (T := TX4) (N := 15) hx hb hts hiX4 hown hE.1 hP 0 rfl rfl 4 (by decide) (hts (.fieldLink RX4 20 "MeterSealsModel" "kind" "[I") (by decide +kernel)) (fun _ h9 => h9) rfl dX4_print_15 ?_
  refine lv_iload_n hx hb dX4_print_18 rfl (lv_at hl 0 rfl) ?_
  refine va_iald hx hb hE.1 hP 4 0 rfl rfl (vp_in_nI (show j * 200 + i < 1600 by omega) (by decide)) dX4_print_19 ?_
  rw [nI_clamp (n := j * 200 + i) (by omega)]
  refine lv_if_ne (tgt := 28) hx hb dX4_print_20 (by decide) (fun c20 => ?_) (fun c20 => ?_)
  · refine lv_aload_n hx hb dX4_print_28 rfl (lv_at hl 1 rfl) ?_
    refine va_get (D := G.1) (ci := 5) (v := .ref k4) (C := RX4) (T := TX4) (N := 15) hx hb hts hiX4 hown hE.1 hP 0 rfl rfl 4 (by decide) (hts (.fieldLink RX4 20 "MeterSealsModel" "kind" "[I") (by decide +kernel)) (fun _ h9 => h9) rfl dX4_print_29 ?_
    refine lv_iload_n hx hb dX4_print_32 rfl (lv_at hl 0 rfl) ?_
    refine va_iald hx hb hE.1 hP 4 0 rfl rfl (vp_in_nI (show j * 200 + i < 1600 by omega) (by decide)) dX4_print_33 ?_
    rw [nI_clamp (n := j * 200 + i) (by omega)]
    refine lv_iconst (v := 1) hx hb dX4_print_34 (by decide) ?_
    refine lv_icmp_ne (tgt := 43) hx hb dX4_print_35 (by decide) (fun c35 => ?_) (fun c35 => ?_)
    · refine lv_aload_n hx hb dX4_print_43 rfl (lv_at hl 1 rfl) ?_
      refine va_get (D := G.1) (ci := 5) (v := .ref k4) (C := RX4) (T := TX4) (N := 15) hx hb hts hiX4 hown hE.1 hP 0 rfl rfl 4 (by decide) (hts (.fieldLink RX4 20 "MeterSealsModel" "kind" "[I") (by decide +kernel)) (fun _ h9 => h9) rfl dX4_print_44 ?_
      refine lv_iload_n hx hb dX4_print_47 rfl (lv_at hl 0 rfl) ?_
      refine va_iald hx hb hE.1 hP 4 0 rfl rfl (vp_in_nI (show j * 200 + i < 1600 by omega) (by decide)) dX4_print_48 ?_
      rw [nI_clamp (n := j * 200 + i) (by omega)]
      refine lv_iconst (v := 2) hx hb dX4_print_49 (by decide) ?_
      refine lv_icmp_ne (tgt := 58) hx hb dX4_print_50 (by decide) (fun c50 => ?_) (fun c50 => ?_)
      · refine lv_bipush (v := 83) hx hb dX4_print_58 (by decide) ?_
        refine va_callv (va_runV (As := [.int 83]) (rest := []) ⟨hx, hb, hml, hown, hts⟩ (ct_X4_put l G k0 k1 k2 k3 k4 k5 k6 k7 k8 k9 k10 k11 k12 mc 0 thr ky ro ln kd nb sc wa sm ld lo lw tx 83 (by omega)) (cwV 1 hts gX4_print_X4_put rfl rfl rfl (by decide +kernel) ⟨Nat.le_of_ble_eq_true rfl, Nat.le_of_ble_eq_true rfl⟩) (WrP.preV 0 5 rfl rfl (x_mid ([]) (wK G k0 k1 k2 k3 k4 k5 k6 k7 k8 k9 k10 k11 k12 (nI mc) (nI 0) thr ky ro ln kd nb sc wa sm ld lo lw tx) ([]) rfl hP) hE (x_midD ([]) (wK G k0 k1 k2 k3 k4 k5 k6 k7 k8 k9 k10 k11 k12 (nI mc) (nI 0) thr ky ro ln kd nb sc wa sm ld lo lw tx) ([]) rfl hD)) rfl rfl hl.1 rfl (lv_room (Nat.le_of_ble_eq_true rfl)) dX4_print_60 ⟨Nat.zero_le _, Nat.zero_le _⟩) hS (fun q _ h => (x_adr ([]) (wK G k0 k1 k2 k3 k4 k5 k6 k7 k8 k9 k10 k11 k12 (nI mc) (nI 0) thr ky ro ln kd nb sc wa sm ld lo lw tx) ([]) rfl hD) q h) (x_adr ([]) (wK G k0 k1 k2 k3 k4 k5 k6 k7 k8 k9 k10 k11 k12 (nI mc) (nI 0) thr ky ro ln kd nb sc wa sm ld lo lw tx) ([]) rfl hD) (fun u t H1 locs ht hvm hw hB hz1 hk1 hS => ?_)
        rw [ht] at hB
        rcases hw with rfl
        obtain ⟨hP, hD⟩ := x_join ([]) (wK G k0 k1 k2 k3 k4 k5 k6 k7 k8 k9 k10 k11 k12 (nI mc) (nI 0) thr ky ro ln kd nb sc wa sm ld lo lw tx) ([]) (wK G k0 k1 k2 k3 k4 k5 k6 k7 k8 k9 k10 k11 k12 (nI mc) (nI (0 + 1)) thr ky ro ln kd nb sc wa sm ld lo lw (upd tx 0 83)) rfl hP hD hk1 hB rfl
        generalize H1 = H at hP hS ⊢
        replace hP : va_P G.1 vwCl (wK G k0 k1 k2 k3 k4 k5 k6 k7 k8 k9 k10 k11 k12 (nI mc) (nI (0 + 1)) thr ky ro ln kd nb sc wa sm ld lo lw (upd tx 0 83)) H := hP
        replace hD : va_D A (wK G k0 k1 k2 k3 k4 k5 k6 k7 k8 k9 k10 k11 k12 (nI mc) (nI (0 + 1)) thr ky ro ln kd nb sc wa sm ld lo lw (upd tx 0 83)) := hD
        refine lv_aload_n hx hb dX4_print_63 rfl (lv_at hl 1 rfl) ?_
        refine lv_aload_n hx hb dX4_print_64 rfl (lv_at hl 1 rfl) ?_
        refine va_get (D := G.1) (ci := 5) (v := .ref k5) (C := RX4) (T := TX4) (N := 15) hx hb hts hiX4 hown hE.1 hP 0 rfl rfl 5 (by decide) (hts (.fieldLink RX4 23 "MeterSealsModel" "number" "[J") (by decide +kernel)) (fun _ h9 => h9) rfl dX4_print_65 ?_
        refine lv_iload_n hx hb dX4_print_68 rfl (lv_at hl 0 rfl) ?_
        refine va_lald hx hb hE.1 hP 5 1 rfl rfl (vp_in_nI (show j * 200 + i < 1600 by omega) (by decide)) dX4_print_69 ?_
        rw [nI_clamp (n := j * 200 + i) (by omega)]
        refine va_callv (va_runV (As := [.long (nb (j * 200 + i))]) (rest := []) ⟨hx, hb, hml, hown, hts⟩ (ct_X4_say l G k0 k1 k2 k3 k4 k5 k6 k7 k8 k9 k10 k11 k12 mc (0 + 1) thr ky ro ln kd nb sc wa sm ld lo lw (upd tx 0 83) (nb (j * 200 + i)) hok.1 (by omega)) (cwV 1 hts gX4_print_X4_say rfl rfl rfl (by decide +kernel) ⟨Nat.le_of_ble_eq_true rfl, Nat.le_of_ble_eq_true rfl⟩) (WrP.preV 0 5 rfl rfl (x_mid ([]) (wK G k0 k1 k2 k3 k4 k5 k6 k7 k8 k9 k10 k11 k12 (nI mc) (nI (0 + 1)) thr ky ro ln kd nb sc wa sm ld lo lw (upd tx 0 83)) ([]) rfl hP) hE (x_midD ([]) (wK G k0 k1 k2 k3 k4 k5 k6 k7 k8 k9 k10 k11 k12 (nI mc) (nI (0 + 1)) thr ky ro ln kd nb sc wa sm ld lo lw (upd tx 0 83)) ([]) rfl hD)) rfl rfl hl.1 rfl (lv_room (Nat.le_of_ble_eq_true rfl)) dX4_print_70 ⟨Nat.zero_le _, Nat.zero_le _⟩) hS (fun q _ h => (x_adr ([]) (wK G k0 k1 k2 k3 k4 k5 k6 k7 k8 k9 k10 k11 k12 (nI mc) (nI (0 + 1)) thr ky ro ln kd nb sc wa sm ld lo lw (upd tx 0 83)) ([]) rfl hD) q h) (x_adr ([]) (wK G k0 k1 k2 k3 k4 k5 k6 k7 k8 k9 k10 k11 k12 (nI mc) (nI (0 + 1)) thr ky ro ln kd nb sc wa sm ld lo lw (upd tx 0 83)) ([]) rfl hD) (fun u t H1 locs ht hvm hw hB hz1 hk1 hS => ?_)
        rw [ht] at hB
        rcases hw with ⟨bty2, ty2, hbty2, rfl, hwty2⟩
        obtain ⟨hP, hD⟩ := x_join ([]) (wK G k0 k1 k2 k3 k4 k5 k6 k7 k8 k9 k10 k11 k12 (nI mc) (nI (0 + 1)) thr ky ro ln kd nb sc wa sm ld lo lw (upd tx 0 83)) ([]) (wK G k0 k1 k2 k3 k4 k5 k6 k7 k8 k9 k10 k11 k12 (nI mc) (nI bty2) thr ky ro ln kd nb sc wa sm ld lo lw ty2) rfl hP hD hk1 hB rfl
        generalize H1 = H at hP hS ⊢
        replace hP : va_P G.1 vwCl (wK G k0 k1 k2 k3 k4 k5 k6 k7 k8 k9 k10 k11 k12 (nI mc) (nI bty2) thr ky ro ln kd nb sc wa sm ld lo lw ty2) H := hP
        replace hD : va_D A (wK G k0 k1 k2 k3 k4 k5 k6 k7 k8 k9 k10 k11 k12 (nI mc) (nI bty2) thr ky ro ln kd nb sc wa sm ld lo lw ty2) := hD
        refine lv_aload_n hx hb dX4_print_73 rfl (lv_at hl 1 rfl) ?_
        refine va_get (D := G.1) (ci := 5) (v := .ref k4) (C := RX4) (T := TX4) (N := 15) hx hb hts hiX4 hown hE.1 hP 0 rfl rfl 4 (by decide) (hts (.fieldLink RX4 20 "MeterSealsModel" "kind" "[I") (by decide +kernel)) (fun _ h9 => h9) rfl dX4_print_74 ?_
        refine lv_iload_n hx hb dX4_print_77 rfl (lv_at hl 0 rfl) ?_
        refine va_iald hx hb hE.1 hP 4 0 rfl rfl (vp_in_nI (show j * 200 + i < 1600 by omega) (by decide)) dX4_print_78 ?_
        rw [nI_clamp (n := j * 200 + i) (by omega)]
        refine lv_if_ne (tgt := 103) hx hb dX4_print_79 (by decide) (fun c79 => ?_) (fun c79 => absurd c79 c20)
        refine lv_aload_n hx hb dX4_print_103 rfl (lv_at hl 1 rfl) ?_
        refine lv_iload_n hx hb dX4_print_104 rfl (lv_at hl 2 rfl) ?_
        refine lv_iload_n hx hb dX4_print_105 rfl (lv_at hl 3 rfl) ?_
        refine x_ri (va_runV (As := [.int (nI j), .int (nI i)]) (rest := []) ⟨hx, hb, hml, hown, hts⟩ (ct_X4_isMarked l G k0 k1 k2 k3 k4 k5 k6 k7 k8 k9 k10 k11 k12 mc (nI bty2) thr ky ro ln kd nb sc wa sm ld lo lw ty2 j i hj (by omega)) (cwV 2 hts gX4_print_X4_isMarked rfl rfl rfl (by decide +kernel) ⟨Nat.le_of_ble_eq_true rfl, Nat.le_of_ble_eq_true rfl⟩) (RdP.preV 0 5 rfl rfl hP hE) rfl rfl hl.1 rfl (lv_room (Nat.le_of_ble_eq_true rfl)) dX4_print_106 ⟨Nat.zero_le _, Nat.zero_le _⟩) (fun r4 er4 => ?_)
        subst er4
        refine lv_if_eq (tgt := 124) hx hb dX4_print_109 (by decide) (fun c109 => ?_) (fun c109 => ?_)
        · refine lv_aload_n hx hb dX4_print_124 rfl (lv_at hl 1 rfl) ?_
          refine lv_bipush (v := 10) hx hb dX4_print_125 (by decide) ?_
          refine va_callv (va_runV (As := [.int 10]) (rest := []) ⟨hx, hb, hml, hown, hts⟩ (ct_X4_put l G k0 k1 k2 k3 k4 k5 k6 k7 k8 k9 k10 k11 k12 mc bty2 thr ky ro ln kd nb sc wa sm ld lo lw ty2 10 (by omega)) (cwV 1 hts gX4_print_X4_put rfl rfl rfl (by decide +kernel) ⟨Nat.le_of_ble_eq_true rfl, Nat.le_of_ble_eq_true rfl⟩) (WrP.preV 0 5 rfl rfl (x_mid ([]) (wK G k0 k1 k2 k3 k4 k5 k6 k7 k8 k9 k10 k11 k12 (nI mc) (nI bty2) thr ky ro ln kd nb sc wa sm ld lo lw ty2) ([]) rfl hP) hE (x_midD ([]) (wK G k0 k1 k2 k3 k4 k5 k6 k7 k8 k9 k10 k11 k12 (nI mc) (nI bty2) thr ky ro ln kd nb sc wa sm ld lo lw ty2) ([]) rfl hD)) rfl rfl hl.1 rfl (lv_room (Nat.le_of_ble_eq_true rfl)) dX4_print_127 ⟨Nat.zero_le _, Nat.zero_le _⟩) hS (fun q _ h => (x_adr ([]) (wK G k0 k1 k2 k3 k4 k5 k6 k7 k8 k9 k10 k11 k12 (nI mc) (nI bty2) thr ky ro ln kd nb sc wa sm ld lo lw ty2) ([]) rfl hD) q h) (x_adr ([]) (wK G k0 k1 k2 k3 k4 k5 k6 k7 k8 k9 k10 k11 k12 (nI mc) (nI bty2) thr ky ro ln kd nb sc wa sm ld lo lw ty2) ([]) rfl hD) (fun u t H1 locs ht hvm hw hB hz1 hk1 hS => ?_)
          rw [ht] at hB
          rcases hw with rfl
          obtain ⟨hP, hD⟩ := x_join ([]) (wK G k0 k1 k2 k3 k4 k5 k6 k7 k8 k9 k10 k11 k12 (nI mc) (nI bty2) thr ky ro ln kd nb sc wa sm ld lo lw ty2) ([]) (wK G k0 k1 k2 k3 k4 k5 k6 k7 k8 k9 k10 k11 k12 (nI mc) (nI (bty2 + 1)) thr ky ro ln kd nb sc wa sm ld lo lw (upd ty2 bty2 10)) rfl hP hD hk1 hB rfl
          generalize H1 = H at hP hS ⊢
          replace hP : va_P G.1 vwCl (wK G k0 k1 k2 k3 k4 k5 k6 k7 k8 k9 k10 k11 k12 (nI mc) (nI (bty2 + 1)) thr ky ro ln kd nb sc wa sm ld lo lw (upd ty2 bty2 10)) H := hP
          replace hD : va_D A (wK G k0 k1 k2 k3 k4 k5 k6 k7 k8 k9 k10 k11 k12 (nI mc) (nI (bty2 + 1)) thr ky ro ln kd nb sc wa sm ld lo lw (upd ty2 bty2 10)) := hD
          exact W.vret hx hb hr (fun tZ hZ hW => ⟨⟨wK G k0 k1 k2 k3 k4 k5 k6 k7 k8 k9 k10 k11 k12 (nI mc) (nI (bty2 + 1)) thr ky ro ln kd nb sc wa sm ld lo lw (upd ty2 bty2 10), rfl, ⟨bty2 + 1, (upd ty2 bty2 10), by simp only [md_line, if_neg c20, if_neg c35, if_neg c50, if_pos c109, List.length_append, List.length_cons, List.length_nil]; omega, rfl, by simp only [md_line, md_let, if_neg c20, if_neg c35, if_neg c50, if_pos c109]; exact (wrote.ap (wrote.ap (wrote.put tx 0 83) hwty2 (by first | rfl | (simp only [List.length_append, List.length_cons, List.length_nil]; done) | (simp only [List.length_append, List.length_cons, List.length_nil]; omega))) (wrote.put ty2 bty2 10) (by first | rfl | (simp only [List.length_append, List.length_cons, List.length_nil]; done) | (simp only [List.length_append, List.length_cons, List.length_nil]; omega)))⟩, by show va_P _ _ _ tZ.heap; rw [hZ]; exact hP⟩, hS.F hZ⟩) hS.2.2 dX4_print_130
        refine lv_aload_n hx hb dX4_print_112 rfl (lv_at hl 1 rfl) ?_
        refine lv_bipush (v := 32) hx hb dX4_print_113 (by decide) ?_
        refine va_callv (va_runV (As := [.int 32]) (rest := []) ⟨hx, hb, hml, hown, hts⟩ (ct_X4_put l G k0 k1 k2 k3 k4 k5 k6 k7 k8 k9 k10 k11 k12 mc bty2 thr ky ro ln kd nb sc wa sm ld lo lw ty2 32 (by omega)) (cwV 1 hts gX4_print_X4_put rfl rfl rfl (by decide +kernel) ⟨Nat.le_of_ble_eq_true rfl, Nat.le_of_ble_eq_true rfl⟩) (WrP.preV 0 5 rfl rfl (x_mid ([]) (wK G k0 k1 k2 k3 k4 k5 k6 k7 k8 k9 k10 k11 k12 (nI mc) (nI bty2) thr ky ro ln kd nb sc wa sm ld lo lw ty2) ([]) rfl hP) hE (x_midD ([]) (wK G k0 k1 k2 k3 k4 k5 k6 k7 k8 k9 k10 k11 k12 (nI mc) (nI bty2) thr ky ro ln kd nb sc wa sm ld lo lw ty2) ([]) rfl hD)) rfl rfl hl.1 rfl (lv_room (Nat.le_of_ble_eq_true rfl)) dX4_print_115 ⟨Nat.zero_le _, Nat.zero_le _⟩) hS (fun q _ h => (x_adr ([]) (wK G k0 k1 k2 k3 k4 k5 k6 k7 k8 k9 k10 k11 k12 (nI mc) (nI bty2) thr ky ro ln kd nb sc wa sm ld lo lw ty2) ([]) rfl hD) q h) (x_adr ([]) (wK G k0 k1 k2 k3 k4 k5 k6 k7 k8 k9 k10 k11 k12 (nI mc) (nI bty2) thr ky ro ln kd nb sc wa sm ld lo lw ty2) ([]) rfl hD) (fun u t H1 locs ht hvm hw hB hz1 hk1 hS => ?_)
        rw [ht] at hB
        rcases hw with rfl
        obtain ⟨hP, hD⟩ := x_join ([]) (wK G k0 k1 k2 k3 k4 k5 k6 k7 k8 k9 k10 k11 k12 (nI mc) (nI bty2) thr ky ro ln kd nb sc wa sm ld lo lw ty2) ([]) (wK G k0 k1 k2 k3 k4 k5 k6 k7 k8 k9 k10 k11 k12 (nI mc) (nI (bty2 + 1)) thr ky ro ln kd nb sc wa sm ld lo lw (upd ty2 bty2 32)) rfl hP hD hk1 hB rfl
        generalize H1 = H at hP hS ⊢
        replace hP : va_P G.1 vwCl (wK G k0 k1 k2 k3 k4 k5 k6 k7 k8 k9 k10 k11 k12 (nI mc) (nI (bty2 + 1)) thr ky ro ln kd nb sc wa sm ld lo lw (upd ty2 bty2 32)) H := hP
        replace hD : va_D A (wK G k0 k1 k2 k3 k4 k5 k6 k7 k8 k9 k10 k11 k12 (nI mc) (nI (bty2 + 1)) thr ky ro ln kd nb sc wa sm ld lo lw (upd ty2 bty2 32)) := hD
        refine lv_aload_n hx hb dX4_print_118 rfl (lv_at hl 1 rfl) ?_
        refine lv_bipush (v := 42) hx hb dX4_print_119 (by decide) ?_
        refine va_callv (va_runV (As := [.int 42]) (rest := []) ⟨hx, hb, hml, hown, hts⟩ (ct_X4_put l G k0 k1 k2 k3 k4 k5 k6 k7 k8 k9 k10 k11 k12 mc (bty2 + 1) thr ky ro ln kd nb sc wa sm ld lo lw (upd ty2 bty2 32) 42 (by omega)) (cwV 1 hts gX4_print_X4_put rfl rfl rfl (by decide +kernel) ⟨Nat.le_of_ble_eq_true rfl, Nat.le_of_ble_eq_true rfl⟩) (WrP.preV 0 5 rfl rfl (x_mid ([]) (wK G k0 k1 k2 k3 k4 k5 k6 k7 k8 k9 k10 k11 k12 (nI mc) (nI (bty2 + 1)) thr ky ro ln kd nb sc wa sm ld lo lw (upd ty2 bty2 32)) ([]) rfl hP) hE (x_midD ([]) (wK G k0 k1 k2 k3 k4 k5 k6 k7 k8 k9 k10 k11 k12 (nI mc) (nI (bty2 + 1)) thr ky ro ln kd nb sc wa sm ld lo lw (upd ty2 bty2 32)) ([]) rfl hD)) rfl rfl hl.1 rfl (lv_room (Nat.le_of_ble_eq_true rfl)) dX4_print_121 ⟨Nat.zero_le _, Nat.zero_le _⟩) hS (fun q _ h => (x_adr ([]) (wK G k0 k1 k2 k3 k4 k5 k6 k7 k8 k9 k10 k11 k12 (nI mc) (nI (bty2 + 1)) thr ky ro ln kd nb sc wa sm ld lo lw (upd ty2 bty2 32)) ([]) rfl hD) q h) (x_adr ([]) (wK G k0 k1 k2 k3 k4 k5 k6 k7 k8 k9 k10 k11 k12 (nI mc) (nI (bty2 + 1)) thr ky ro ln kd nb sc wa sm ld lo lw (upd ty2 bty2 32)) ([]) rfl hD) (fun u t H1 locs ht hvm hw hB hz1 hk1 hS => ?_)
        rw [ht] at hB
        rcases hw with rfl
        obtain ⟨hP, hD⟩ := x_join ([]) (wK G k0 k1 k2 k3 k4 k5 k6 k7 k8 k9 k10 k11 k12 (nI mc) (nI (bty2 + 1)) thr ky ro ln kd nb sc wa sm ld lo lw (upd ty2 bty2 32)) ([]) (wK G k0 k1 k2 k3 k4 k5 k6 k7 k8 k9 k10 k11 k12 (nI mc) (nI (bty2 + 1 + 1)) thr ky ro ln kd nb sc wa sm ld lo lw (upd (upd ty2 bty2 32) (bty2 + 1) 42)) rfl hP hD hk1 hB rfl
        generalize H1 = H at hP hS ⊢
        replace hP : va_P G.1 vwCl (wK G k0 k1 k2 k3 k4 k5 k6 k7 k8 k9 k10 k11 k12 (nI mc) (nI (bty2 + 1 + 1)) thr ky ro ln kd nb sc wa sm ld lo lw (upd (upd ty2 bty2 32) (bty2 + 1) 42)) H := hP
        replace hD : va_D A (wK G k0 k1 k2 k3 k4 k5 k6 k7 k8 k9 k10 k11 k12 (nI mc) (nI (bty2 + 1 + 1)) thr ky ro ln kd nb sc wa sm ld lo lw (upd (upd ty2 bty2 32) (bty2 + 1) 42)) := hD
        refine lv_aload_n hx hb dX4_print_124 rfl (lv_at hl 1 rfl) ?_
        refine lv_bipush (v := 10) hx hb dX4_print_125 (by decide) ?_
        refine va_callv (va_runV (As := [.int 10]) (rest := []) ⟨hx, hb, hml, hown, hts⟩ (ct_X4_put l G k0 k1 k2 k3 k4 k5 k6 k7 k8 k9 k10 k11 k12 mc (bty2 + 1 + 1) thr ky ro ln kd nb sc wa sm ld lo lw (upd (upd ty2 bty2 32) (bty2 + 1) 42) 10 (by omega)) (cwV 1 hts gX4_print_X4_put rfl rfl rfl (by decide +kernel) ⟨Nat.le_of_ble_eq_true rfl, Nat.le_of_ble_eq_true rfl⟩) (WrP.preV 0 5 rfl rfl (x_mid ([]) (wK G k0 k1 k2 k3 k4 k5 k6 k7 k8 k9 k10 k11 k12 (nI mc) (nI (bty2 + 1 + 1)) thr ky ro ln kd nb sc wa sm ld lo lw (upd (upd ty2 bty2 32) (bty2 + 1) 42)) ([]) rfl hP) hE (x_midD ([]) (wK G k0 k1 k2 k3 k4 k5 k6 k7 k8 k9 k10 k11 k12 (nI mc) (nI (bty2 + 1 + 1)) thr ky ro ln kd nb sc wa sm ld lo lw (upd (upd ty2 bty2 32) (bty2 + 1) 42)) ([]) rfl hD)) rfl rfl hl.1 rfl (lv_room (Nat.le_of_ble_eq_true rfl)) dX4_print_127 ⟨Nat.zero_le _, Nat.zero_le _⟩) hS (fun q _ h => (x_adr ([]) (wK G k0 k1 k2 k3 k4 k5 k6 k7 k8 k9 k10 k11 k12 (nI mc) (nI (bty2 + 1 + 1)) thr ky ro ln kd nb sc wa sm ld lo lw (upd (upd ty2 bty2 32) (bty2 + 1) 42)) ([]) rfl hD) q h) (x_adr ([]) (wK G k0 k1 k2 k3 k4 k5 k6 k7 k8 k9 k10 k11 k12 (nI mc) (nI (bty2 + 1 + 1)) thr ky ro ln kd nb sc wa sm ld lo lw (upd (upd ty2 bty2 32) (bty2 + 1) 42)) ([]) rfl hD) (fun u t H1 locs ht hvm hw hB hz1 hk1 hS => ?_)
        rw [ht] at hB
        rcases hw with rfl
        obtain ⟨hP, hD⟩ := x_join ([]) (wK G k0 k1 k2 k3 k4 k5 k6 k7 k8 k9 k10 k11 k12 (nI mc) (nI (bty2 + 1 + 1)) thr ky ro ln kd nb sc wa sm ld lo lw (upd (upd ty2 bty2 32) (bty2 + 1) 42)) ([]) (wK G k0 k1 k2 k3 k4 k5 k6 k7 k8 k9 k10 k11 k12 (nI mc) (nI (bty2 + 1 + 1 + 1)) thr ky ro ln kd nb sc wa sm ld lo lw (upd (upd (upd ty2 bty2 32) (bty2 + 1) 42) (bty2 + 1 + 1) 10)) rfl hP hD hk1 hB rfl
        generalize H1 = H at hP hS ⊢
        replace hP : va_P G.1 vwCl (wK G k0 k1 k2 k3 k4 k5 k6 k7 k8 k9 k10 k11 k12 (nI mc) (nI (bty2 + 1 + 1 + 1)) thr ky ro ln kd nb sc wa sm ld lo lw (upd (upd (upd ty2 bty2 32) (bty2 + 1) 42) (bty2 + 1 + 1) 10)) H := hP
        replace hD : va_D A (wK G k0 k1 k2 k3 k4 k5 k6 k7 k8 k9 k10 k11 k12 (nI mc) (nI (bty2 + 1 + 1 + 1)) thr ky ro ln kd nb sc wa sm ld lo lw (upd (upd (upd ty2 bty2 32) (bty2 + 1) 42) (bty2 + 1 + 1) 10)) := hD
        exact W.vret hx hb hr (fun tZ hZ hW => ⟨⟨wK G k0 k1 k2 k3 k4 k5 k6 k7 k8 k9 k10 k11 k12 (nI mc) (nI (bty2 + 1 + 1 + 1)) thr ky ro ln kd nb sc wa sm ld lo lw (upd (upd (upd ty2 bty2 32) (bty2 + 1) 42) (bty2 + 1 + 1) 10), rfl, ⟨bty2 + 1 + 1 + 1, (upd (upd (upd ty2 bty2 32) (bty2 + 1) 42) (bty2 + 1 + 1) 10), by simp only [md_line, if_neg c20, if_neg c35, if_neg c50, if_neg c109, List.length_append, List.length_cons, List.length_nil]; omega, rfl, by simp only [md_line, md_let, if_neg c20, if_neg c35, if_neg c50, if_neg c109]; exact (wrote.ap (wrote.ap (wrote.ap (wrote.ap (wrote.put tx 0 83) hwty2 (by first | rfl | (simp only [List.length_append, List.length_cons, List.length_nil]; done) | (simp only [List.length_append, List.length_cons, List.length_nil]; omega))) (wrote.put ty2 bty2 32) (by first | rfl | (simp only [List.length_append, List.length_cons, List.length_nil]; done) | (simp only [List.length_append, List.length_cons, List.length_nil]; omega))) (wrote.put (upd ty2 bty2 32) (bty2 + 1) 42) (by first | rfl | (simp only [List.length_append, List.length_cons, List.length_nil]; done) | (simp only [List.length_append, List.length_cons, List.length_nil]; omega))) (wrote.put (upd (upd ty2 bty2 32) (bty2 + 1) 42) (bty2 + 1 + 1) 10) (by first | rfl | (simp only [List.length_append, List.length_cons, List.length_nil]; done) | (simp only [List.length_append, List.length_cons, List.length_nil]; omega)))⟩, by show va_P _ _ _ tZ.heap; rw [hZ]; exact hP⟩, hS.F hZ⟩) hS.2.2 dX4_print_130
      refine lv_bipush (v := 66) hx hb dX4_print_53 (by decide) ?_
      refine lv_goto (tgt := 60) hx hb dX4_print_55 (by decide) ?_
      refine va_callv (va_runV (As := [.int 66]) (rest := []) ⟨hx, hb, hml, hown, hts⟩ (ct_X4_put l G k0 k1 k2 k3 k4 k5 k6 k7 k8 k9 k10 k11 k12 mc 0 thr ky ro ln kd nb sc wa sm ld lo lw tx 66 (by omega)) (cwV 1 hts gX4_print_X4_put rfl rfl rfl (by decide +kernel) ⟨Nat.le_of_ble_eq_true rfl, Nat.le_of_ble_eq_true rfl⟩) (WrP.preV 0 5 rfl rfl (x_mid ([]) (wK G k0 k1 k2 k3 k4 k5 k6 k7 k8 k9 k10 k11 k12 (nI mc) (nI 0) thr ky ro ln kd nb sc wa sm ld lo lw tx) ([]) rfl hP) hE (x_midD ([]) (wK G k0 k1 k2 k3 k4 k5 k6 k7 k8 k9 k10 k11 k12 (nI mc) (nI 0) thr ky ro ln kd nb sc wa sm ld lo lw tx) ([]) rfl hD)) rfl rfl hl.1 rfl (lv_room (Nat.le_of_ble_eq_true rfl)) dX4_print_60 ⟨Nat.zero_le _, Nat.zero_le _⟩) hS (fun q _ h => (x_adr ([]) (wK G k0 k1 k2 k3 k4 k5 k6 k7 k8 k9 k10 k11 k12 (nI mc) (nI 0) thr ky ro ln kd nb sc wa sm ld lo lw tx) ([]) rfl hD) q h) (x_adr ([]) (wK G k0 k1 k2 k3 k4 k5 k6 k7 k8 k9 k10 k11 k12 (nI mc) (nI 0) thr ky ro ln kd nb sc wa sm ld lo lw tx) ([]) rfl hD) (fun u t H1 locs ht hvm hw hB hz1 hk1 hS => ?_)
      rw [ht] at hB
      rcases hw with rfl
      obtain ⟨hP, hD⟩ := x_join ([]) (wK G k0 k1 k2 k3 k4 k5 k6 k7 k8 k9 k10 k11 k12 (nI mc) (nI 0) thr ky ro ln kd nb sc wa sm ld lo lw tx) ([]) (wK G k0 k1 k2 k3 k4 k5 k6 k7 k8 k9 k10 k11 k12 (nI mc) (nI (0 + 1)) thr ky ro ln kd nb sc wa sm ld lo lw (upd tx 0 66)) rfl hP hD hk1 hB rfl
      generalize H1 = H at hP hS ⊢
      replace hP : va_P G.1 vwCl (wK G k0 k1 k2 k3 k4 k5 k6 k7 k8 k9 k10 k11 k12 (nI mc) (nI (0 + 1)) thr ky ro ln kd nb sc wa sm ld lo lw (upd tx 0 66)) H := hP
      replace hD : va_D A (wK G k0 k1 k2 k3 k4 k5 k6 k7 k8 k9 k10 k11 k12 (nI mc) (nI (0 + 1)) thr ky ro ln kd nb sc wa sm ld lo lw (upd tx 0 66)) := hD
      refine lv_aload_n hx hb dX4_print_63 rfl (lv_at hl 1 rfl) ?_
      refine lv_aload_n hx hb dX4_print_64 rfl (lv_at hl 1 rfl) ?_
      refine va_get (D := G.1) (ci := 5) (v := .ref k5) (C := RX4) (T := TX4) (N := 15) hx hb hts hiX4 hown hE.1 hP 0 rfl rfl 5 (by decide) (hts (.fieldLink RX4 23 "MeterSealsModel" "number" "[J") (by decide +kernel)) (fun _ h9 => h9) rfl dX4_print_65 ?_
      refine lv_iload_n hx hb dX4_print_68 rfl (lv_at hl 0 rfl) ?_
      refine va_lald hx hb hE.1 hP 5 1 rfl rfl (vp_in_nI (show j * 200 + i < 1600 by omega) (by decide)) dX4_print_69 ?_
      rw [nI_clamp (n := j * 200 + i) (by omega)]
      refine va_callv (va_runV (As := [.long (nb (j * 200 + i))]) (rest := []) ⟨hx, hb, hml, hown, hts⟩ (ct_X4_say l G k0 k1 k2 k3 k4 k5 k6 k7 k8 k9 k10 k11 k12 mc (0 + 1) thr ky ro ln kd nb sc wa sm ld lo lw (upd tx 0 66) (nb (j * 200 + i)) hok.1 (by omega)) (cwV 1 hts gX4_print_X4_say rfl rfl rfl (by decide +kernel) ⟨Nat.le_of_ble_eq_true rfl, Nat.le_of_ble_eq_true rfl⟩) (WrP.preV 0 5 rfl rfl (x_mid ([]) (wK G k0 k1 k2 k3 k4 k5 k6 k7 k8 k9 k10 k11 k12 (nI mc) (nI (0 + 1)) thr ky ro ln kd nb sc wa sm ld lo lw (upd tx 0 66)) ([]) rfl hP) hE (x_midD ([]) (wK G k0 k1 k2 k3 k4 k5 k6 k7 k8 k9 k10 k11 k12 (nI mc) (nI (0 + 1)) thr ky ro ln kd nb sc wa sm ld lo lw (upd tx 0 66)) ([]) rfl hD)) rfl rfl hl.1 rfl (lv_room (Nat.le_of_ble_eq_true rfl)) dX4_print_70 ⟨Nat.zero_le _, Nat.zero_le _⟩) hS (fun q _ h => (x_adr ([]) (wK G k0 k1 k2 k3 k4 k5 k6 k7 k8 k9 k10 k11 k12 (nI mc) (nI (0 + 1)) thr ky ro ln kd nb sc wa sm ld lo lw (upd tx 0 66)) ([]) rfl hD) q h) (x_adr ([]) (wK G k0 k1 k2 k3 k4 k5 k6 k7 k8 k9 k10 k11 k12 (nI mc) (nI (0 + 1)) thr ky ro ln kd nb sc wa sm ld lo lw (upd tx 0 66)) ([]) rfl hD) (fun u t H1 locs ht hvm hw hB hz1 hk1 hS => ?_)
      rw [ht] at hB
      rcases hw with ⟨bty10, ty10, hbty10, rfl, hwty10⟩
      obtain ⟨hP, hD⟩ := x_join ([]) (wK G k0 k1 k2 k3 k4 k5 k6 k7 k8 k9 k10 k11 k12 (nI mc) (nI (0 + 1)) thr ky ro ln kd nb sc wa sm ld lo lw (upd tx 0 66)) ([]) (wK G k0 k1 k2 k3 k4 k5 k6 k7 k8 k9 k10 k11 k12 (nI mc) (nI bty10) thr ky ro ln kd nb sc wa sm ld lo lw ty10) rfl hP hD hk1 hB rfl
      generalize H1 = H at hP hS ⊢
      replace hP : va_P G.1 vwCl (wK G k0 k1 k2 k3 k4 k5 k6 k7 k8 k9 k10 k11 k12 (nI mc) (nI bty10) thr ky ro ln kd nb sc wa sm ld lo lw ty10) H := hP
      replace hD : va_D A (wK G k0 k1 k2 k3 k4 k5 k6 k7 k8 k9 k10 k11 k12 (nI mc) (nI bty10) thr ky ro ln kd nb sc wa sm ld lo lw ty10) := hD
      refine lv_aload_n hx hb dX4_print_73 rfl (lv_at hl 1 rfl) ?_
      refine va_get (D := G.1) (ci := 5) (v := .ref k4) (C := RX4) (T := TX4) (N := 15) hx hb hts hiX4 hown hE.1 hP 0 rfl rfl 4 (by decide) (hts (.fieldLink RX4 20 "MeterSealsModel" "kind" "[I") (by decide +kernel)) (fun _ h9 => h9) rfl dX4_print_74 ?_
      refine lv_iload_n hx hb dX4_print_77 rfl (lv_at hl 0 rfl) ?_
      refine va_iald hx hb hE.1 hP 4 0 rfl rfl (vp_in_nI (show j * 200 + i < 1600 by omega) (by decide)) dX4_print_78 ?_
      rw [nI_clamp (n := j * 200 + i) (by omega)]
      refine lv_if_ne (tgt := 103) hx hb dX4_print_79 (by decide) (fun c79 => ?_) (fun c79 => absurd c79 c20)
      refine lv_aload_n hx hb dX4_print_103 rfl (lv_at hl 1 rfl) ?_
      refine lv_iload_n hx hb dX4_print_104 rfl (lv_at hl 2 rfl) ?_
      refine lv_iload_n hx hb dX4_print_105 rfl (lv_at hl 3 rfl) ?_
      refine x_ri (va_runV (As := [.int (nI j), .int (nI i)]) (rest := []) ⟨hx, hb, hml, hown, hts⟩ (ct_X4_isMarked l G k0 k1 k2 k3 k4 k5 k6 k7 k8 k9 k10 k11 k12 mc (nI bty10) thr ky ro ln kd nb sc wa sm ld lo lw ty10 j i hj (by omega)) (cwV 2 hts gX4_print_X4_isMarked rfl rfl rfl (by decide +kernel) ⟨Nat.le_of_ble_eq_true rfl, Nat.le_of_ble_eq_true rfl⟩) (RdP.preV 0 5 rfl rfl hP hE) rfl rfl hl.1 rfl (lv_room (Nat.le_of_ble_eq_true rfl)) dX4_print_106 ⟨Nat.zero_le _, Nat.zero_le _⟩) (fun r12 er12 => ?_)
      subst er12
      refine lv_if_eq (tgt := 124) hx hb dX4_print_109 (by decide) (fun c109 => ?_) (fun c109 => ?_)
      · refine lv_aload_n hx hb dX4_print_124 rfl (lv_at hl 1 rfl) ?_
        refine lv_bipush (v := 10) hx hb dX4_print_125 (by decide) ?_
        refine va_callv (va_runV (As := [.int 10]) (rest := []) ⟨hx, hb, hml, hown, hts⟩ (ct_X4_put l G k0 k1 k2 k3 k4 k5 k6 k7 k8 k9 k10 k11 k12 mc bty10 thr ky ro ln kd nb sc wa sm ld lo lw ty10 10 (by omega)) (cwV 1 hts gX4_print_X4_put rfl rfl rfl (by decide +kernel) ⟨Nat.le_of_ble_eq_true rfl, Nat.le_of_ble_eq_true rfl⟩) (WrP.preV 0 5 rfl rfl (x_mid ([]) (wK G k0 k1 k2 k3 k4 k5 k6 k7 k8 k9 k10 k11 k12 (nI mc) (nI bty10) thr ky ro ln kd nb sc wa sm ld lo lw ty10) ([]) rfl hP) hE (x_midD ([]) (wK G k0 k1 k2 k3 k4 k5 k6 k7 k8 k9 k10 k11 k12 (nI mc) (nI bty10) thr ky ro ln kd nb sc wa sm ld lo lw ty10) ([]) rfl hD)) rfl rfl hl.1 rfl (lv_room (Nat.le_of_ble_eq_true rfl)) dX4_print_127 ⟨Nat.zero_le _, Nat.zero_le _⟩) hS (fun q _ h => (x_adr ([]) (wK G k0 k1 k2 k3 k4 k5 k6 k7 k8 k9 k10 k11 k12 (nI mc) (nI bty10) thr ky ro ln kd nb sc wa sm ld lo lw ty10) ([]) rfl hD) q h) (x_adr ([]) (wK G k0 k1 k2 k3 k4 k5 k6 k7 k8 k9 k10 k11 k12 (nI mc) (nI bty10) thr ky ro ln kd nb sc wa sm ld lo lw ty10) ([]) rfl hD) (fun u t H1 locs ht hvm hw hB hz1 hk1 hS => ?_)
        rw [ht] at hB
        rcases hw with rfl
        obtain ⟨hP, hD⟩ := x_join ([]) (wK G k0 k1 k2 k3 k4 k5 k6 k7 k8 k9 k10 k11 k12 (nI mc) (nI bty10) thr ky ro ln kd nb sc wa sm ld lo lw ty10) ([]) (wK G k0 k1 k2 k3 k4 k5 k6 k7 k8 k9 k10 k11 k12 (nI mc) (nI (bty10 + 1)) thr ky ro ln kd nb sc wa sm ld lo lw (upd ty10 bty10 10)) rfl hP hD hk1 hB rfl
        generalize H1 = H at hP hS ⊢
        replace hP : va_P G.1 vwCl (wK G k0 k1 k2 k3 k4 k5 k6 k7 k8 k9 k10 k11 k12 (nI mc) (nI (bty10 + 1)) thr ky ro ln kd nb sc wa sm ld lo lw (upd ty10 bty10 10)) H := hP
        replace hD : va_D A (wK G k0 k1 k2 k3 k4 k5 k6 k7 k8 k9 k10 k11 k12 (nI mc) (nI (bty10 + 1)) thr ky ro ln kd nb sc wa sm ld lo lw (upd ty10 bty10 10)) := hD
        exact W.vret hx hb hr (fun tZ hZ hW => ⟨⟨wK G k0 k1 k2 k3 k4 k5 k6 k7 k8 k9 k10 k11 k12 (nI mc) (nI (bty10 + 1)) thr ky ro ln kd nb sc wa sm ld lo lw (upd ty10 bty10 10), rfl, ⟨bty10 + 1, (upd ty10 bty10 10), by simp only [md_line, if_neg c20, if_neg c35, if_pos c50, if_pos c109, List.length_append, List.length_cons, List.length_nil]; omega, rfl, by simp only [md_line, md_let, if_neg c20, if_neg c35, if_pos c50, if_pos c109]; exact (wrote.ap (wrote.ap (wrote.put tx 0 66) hwty10 (by first | rfl | (simp only [List.length_append, List.length_cons, List.length_nil]; done) | (simp only [List.length_append, List.length_cons, List.length_nil]; omega))) (wrote.put ty10 bty10 10) (by first | rfl | (simp only [List.length_append, List.length_cons, List.length_nil]; done) | (simp only [List.length_append, List.length_cons, List.length_nil]; omega)))⟩, by show va_P _ _ _ tZ.heap; rw [hZ]; exact hP⟩, hS.F hZ⟩) hS.2.2 dX4_print_130
      refine lv_aload_n hx hb dX4_print_112 rfl (lv_at hl 1 rfl) ?_
      refine lv_bipush (v := 32) hx hb dX4_print_113 (by decide) ?_
      refine va_callv (va_runV (As := [.int 32]) (rest := []) ⟨hx, hb, hml, hown, hts⟩ (ct_X4_put l G k0 k1 k2 k3 k4 k5 k6 k7 k8 k9 k10 k11 k12 mc bty10 thr ky ro ln kd nb sc wa sm ld lo lw ty10 32 (by omega)) (cwV 1 hts gX4_print_X4_put rfl rfl rfl (by decide +kernel) ⟨Nat.le_of_ble_eq_true rfl, Nat.le_of_ble_eq_true rfl⟩) (WrP.preV 0 5 rfl rfl (x_mid ([]) (wK G k0 k1 k2 k3 k4 k5 k6 k7 k8 k9 k10 k11 k12 (nI mc) (nI bty10) thr ky ro ln kd nb sc wa sm ld lo lw ty10) ([]) rfl hP) hE (x_midD ([]) (wK G k0 k1 k2 k3 k4 k5 k6 k7 k8 k9 k10 k11 k12 (nI mc) (nI bty10) thr ky ro ln kd nb sc wa sm ld lo lw ty10) ([]) rfl hD)) rfl rfl hl.1 rfl (lv_room (Nat.le_of_ble_eq_true rfl)) dX4_print_115 ⟨Nat.zero_le _, Nat.zero_le _⟩) hS (fun q _ h => (x_adr ([]) (wK G k0 k1 k2 k3 k4 k5 k6 k7 k8 k9 k10 k11 k12 (nI mc) (nI bty10) thr ky ro ln kd nb sc wa sm ld lo lw ty10) ([]) rfl hD) q h) (x_adr ([]) (wK G k0 k1 k2 k3 k4 k5 k6 k7 k8 k9 k10 k11 k12 (nI mc) (nI bty10) thr ky ro ln kd nb sc wa sm ld lo lw ty10) ([]) rfl hD) (fun u t H1 locs ht hvm hw hB hz1 hk1 hS => ?_)
      rw [ht] at hB
      rcases hw with rfl
      obtain ⟨hP, hD⟩ := x_join ([]) (wK G k0 k1 k2 k3 k4 k5 k6 k7 k8 k9 k10 k11 k12 (nI mc) (nI bty10) thr ky ro ln kd nb sc wa sm ld lo lw ty10) ([]) (wK G k0 k1 k2 k3 k4 k5 k6 k7 k8 k9 k10 k11 k12 (nI mc) (nI (bty10 + 1)) thr ky ro ln kd nb sc wa sm ld lo lw (upd ty10 bty10 32)) rfl hP hD hk1 hB rfl
      generalize H1 = H at hP hS ⊢
      replace hP : va_P G.1 vwCl (wK G k0 k1 k2 k3 k4 k5 k6 k7 k8 k9 k10 k11 k12 (nI mc) (nI (bty10 + 1)) thr ky ro ln kd nb sc wa sm ld lo lw (upd ty10 bty10 32)) H := hP
      replace hD : va_D A (wK G k0 k1 k2 k3 k4 k5 k6 k7 k8 k9 k10 k11 k12 (nI mc) (nI (bty10 + 1)) thr ky ro ln kd nb sc wa sm ld lo lw (upd ty10 bty10 32)) := hD
      refine lv_aload_n hx hb dX4_print_118 rfl (lv_at hl 1 rfl) ?_
      refine lv_bipush (v := 42) hx hb dX4_print_119 (by decide) ?_
      refine va_callv (va_runV (As := [.int 42]) (rest := []) ⟨hx, hb, hml, hown, hts⟩ (ct_X4_put l G k0 k1 k2 k3 k4 k5 k6 k7 k8 k9 k10 k11 k12 mc (bty10 + 1) thr ky ro ln kd nb sc wa sm ld lo lw (upd ty10 bty10 32) 42 (by omega)) (cwV 1 hts gX4_print_X4_put rfl rfl rfl (by decide +kernel) ⟨Nat.le_of_ble_eq_true rfl, Nat.le_of_ble_eq_true rfl⟩) (WrP.preV 0 5 rfl rfl (x_mid ([]) (wK G k0 k1 k2 k3 k4 k5 k6 k7 k8 k9 k10 k11 k12 (nI mc) (nI (bty10 + 1)) thr ky ro ln kd nb sc wa sm ld lo lw (upd ty10 bty10 32)) ([]) rfl hP) hE (x_midD ([]) (wK G k0 k1 k2 k3 k4 k5 k6 k7 k8 k9 k10 k11 k12 (nI mc) (nI (bty10 + 1)) thr ky ro ln kd nb sc wa sm ld lo lw (upd ty10 bty10 32)) ([]) rfl hD)) rfl rfl hl.1 rfl (lv_room (Nat.le_of_ble_eq_true rfl)) dX4_print_121 ⟨Nat.zero_le _, Nat.zero_le _⟩) hS (fun q _ h => (x_adr ([]) (wK G k0 k1 k2 k3 k4 k5 k6 k7 k8 k9 k10 k11 k12 (nI mc) (nI (bty10 + 1)) thr ky ro ln kd nb sc wa sm ld lo lw (upd ty10 bty10 32)) ([]) rfl hD) q h) (x_adr ([]) (wK G k0 k1 k2 k3 k4 k5 k6 k7 k8 k9 k10 k11 k12 (nI mc) (nI (bty10 + 1)) thr ky ro ln kd nb sc wa sm ld lo lw (upd ty10 bty10 32)) ([]) rfl hD) (fun u t H1 locs ht hvm hw hB hz1 hk1 hS => ?_)
      rw [ht] at hB
      rcases hw with rfl
      obtain ⟨hP, hD⟩ := x_join ([]) (wK G k0 k1 k2 k3 k4 k5 k6 k7 k8 k9 k10 k11 k12 (nI mc) (nI (bty10 + 1)) thr ky ro ln kd nb sc wa sm ld lo lw (upd ty10 bty10 32)) ([]) (wK G k0 k1 k2 k3 k4 k5 k6 k7 k8 k9 k10 k11 k12 (nI mc) (nI (bty10 + 1 + 1)) thr ky ro ln kd nb sc wa sm ld lo lw (upd (upd ty10 bty10 32) (bty10 + 1) 42)) rfl hP hD hk1 hB rfl
      generalize H1 = H at hP hS ⊢
      replace hP : va_P G.1 vwCl (wK G k0 k1 k2 k3 k4 k5 k6 k7 k8 k9 k10 k11 k12 (nI mc) (nI (bty10 + 1 + 1)) thr ky ro ln kd nb sc wa sm ld lo lw (upd (upd ty10 bty10 32) (bty10 + 1) 42)) H := hP
      replace hD : va_D A (wK G k0 k1 k2 k3 k4 k5 k6 k7 k8 k9 k10 k11 k12 (nI mc) (nI (bty10 + 1 + 1)) thr ky ro ln kd nb sc wa sm ld lo lw (upd (upd ty10 bty10 32) (bty10 + 1) 42)) := hD
      refine lv_aload_n hx hb dX4_print_124 rfl (lv_at hl 1 rfl) ?_
      refine lv_bipush (v := 10) hx hb dX4_print_125 (by decide) ?_
      refine va_callv (va_runV (As := [.int 10]) (rest := []) ⟨hx, hb, hml, hown, hts⟩ (ct_X4_put l G k0 k1 k2 k3 k4 k5 k6 k7 k8 k9 k10 k11 k12 mc (bty10 + 1 + 1) thr ky ro ln kd nb sc wa sm ld lo lw (upd (upd ty10 bty10 32) (bty10 + 1) 42) 10 (by omega)) (cwV 1 hts gX4_print_X4_put rfl rfl rfl (by decide +kernel) ⟨Nat.le_of_ble_eq_true rfl, Nat.le_of_ble_eq_true rfl⟩) (WrP.preV 0 5 rfl rfl (x_mid ([]) (wK G k0 k1 k2 k3 k4 k5 k6 k7 k8 k9 k10 k11 k12 (nI mc) (nI (bty10 + 1 + 1)) thr ky ro ln kd nb sc wa sm ld lo lw (upd (upd ty10 bty10 32) (bty10 + 1) 42)) ([]) rfl hP) hE (x_midD ([]) (wK G k0 k1 k2 k3 k4 k5 k6 k7 k8 k9 k10 k11 k12 (nI mc) (nI (bty10 + 1 + 1)) thr ky ro ln kd nb sc wa sm ld lo lw (upd (upd ty10 bty10 32) (bty10 + 1) 42)) ([]) rfl hD)) rfl rfl hl.1 rfl (lv_room (Nat.le_of_ble_eq_true rfl)) dX4_print_127 ⟨Nat.zero_le _, Nat.zero_le _⟩) hS (fun q _ h => (x_adr ([]) (wK G k0 k1 k2 k3 k4 k5 k6 k7 k8 k9 k10 k11 k12 (nI mc) (nI (bty10 + 1 + 1)) thr ky ro ln kd nb sc wa sm ld lo lw (upd (upd ty10 bty10 32) (bty10 + 1) 42)) ([]) rfl hD) q h) (x_adr ([]) (wK G k0 k1 k2 k3 k4 k5 k6 k7 k8 k9 k10 k11 k12 (nI mc) (nI (bty10 + 1 + 1)) thr ky ro ln kd nb sc wa sm ld lo lw (upd (upd ty10 bty10 32) (bty10 + 1) 42)) ([]) rfl hD) (fun u t H1 locs ht hvm hw hB hz1 hk1 hS => ?_)
      rw [ht] at hB
      rcases hw with rfl
      obtain ⟨hP, hD⟩ := x_join ([]) (wK G k0 k1 k2 k3 k4 k5 k6 k7 k8 k9 k10 k11 k12 (nI mc) (nI (bty10 + 1 + 1)) thr ky ro ln kd nb sc wa sm ld lo lw (upd (upd ty10 bty10 32) (bty10 + 1) 42)) ([]) (wK G k0 k1 k2 k3 k4 k5 k6 k7 k8 k9 k10 k11 k12 (nI mc) (nI (bty10 + 1 + 1 + 1)) thr ky ro ln kd nb sc wa sm ld lo lw (upd (upd (upd ty10 bty10 32) (bty10 + 1) 42) (bty10 + 1 + 1) 10)) rfl hP hD hk1 hB rfl
      generalize H1 = H at hP hS ⊢
      replace hP : va_P G.1 vwCl (wK G k0 k1 k2 k3 k4 k5 k6 k7 k8 k9 k10 k11 k12 (nI mc) (nI (bty10 + 1 + 1 + 1)) thr ky ro ln kd nb sc wa sm ld lo lw (upd (upd (upd ty10 bty10 32) (bty10 + 1) 42) (bty10 + 1 + 1) 10)) H := hP
      replace hD : va_D A (wK G k0 k1 k2 k3 k4 k5 k6 k7 k8 k9 k10 k11 k12 (nI mc) (nI (bty10 + 1 + 1 + 1)) thr ky ro ln kd nb sc wa sm ld lo lw (upd (upd (upd ty10 bty10 32) (bty10 + 1) 42) (bty10 + 1 + 1) 10)) := hD
      exact W.vret hx hb hr (fun tZ hZ hW => ⟨⟨wK G k0 k1 k2 k3 k4 k5 k6 k7 k8 k9 k10 k11 k12 (nI mc) (nI (bty10 + 1 + 1 + 1)) thr ky ro ln kd nb sc wa sm ld lo lw (upd (upd (upd ty10 bty10 32) (bty10 + 1) 42) (bty10 + 1 + 1) 10), rfl, ⟨bty10 + 1 + 1 + 1, (upd (upd (upd ty10 bty10 32) (bty10 + 1) 42) (bty10 + 1 + 1) 10), by simp only [md_line, if_neg c20, if_neg c35, if_pos c50, if_neg c109, List.length_append, List.length_cons, List.length_nil]; omega, rfl, by simp only [md_line, md_let, if_neg c20, if_neg c35, if_pos c50, if_neg c109]; exact (wrote.ap (wrote.ap (wrote.ap (wrote.ap (wrote.put tx 0 66) hwty10 (by first | rfl | (simp only [List.length_append, List.length_cons, List.length_nil]; done) | (simp only [List.length_append, List.length_cons, List.length_nil]; omega))) (wrote.put ty10 bty10 32) (by first | rfl | (simp only [List.length_append, List.length_cons, List.length_nil]; done) | (simp only [List.length_append, List.length_cons, List.length_nil]; omega))) (wrote.put (upd ty10 bty10 32) (bty10 + 1) 42) (by first | rfl | (simp only [List.length_append, List.length_cons, List.length_nil]; done) | (simp only [List.length_append, List.length_cons, List.length_nil]; omega))) (wrote.put (upd (upd ty10 bty10 32) (bty10 + 1) 42) (bty10 + 1 + 1) 10) (by first | rfl | (simp only [List.length_append, List.length_cons, List.length_nil]; done) | (simp only [List.length_append, List.length_cons, List.length_nil]; omega)))⟩, by show va_P _ _ _ tZ.heap; rw [hZ]; exact hP⟩, hS.F hZ⟩) hS.2.2 dX4_print_130
    refine lv_bipush (v := 90) hx hb dX4_print_38 (by decide) ?_
    refine lv_goto (tgt := 60) hx hb dX4_print_40 (by decide) ?_
    refine va_callv (va_runV (As := [.int 90]) (rest := []) ⟨hx, hb, hml, hown, hts⟩ (ct_X4_put l G k0 k1 k2 k3 k4 k5 k6 k7 k8 k9 k10 k11 k12 mc 0 thr ky ro ln kd nb sc wa sm ld lo lw tx 90 (by omega)) (cwV 1 hts gX4_print_X4_put rfl rfl rfl (by decide +kernel) ⟨Nat.le_of_ble_eq_true rfl, Nat.le_of_ble_eq_true rfl⟩) (WrP.preV 0 5 rfl rfl (x_mid ([]) (wK G k0 k1 k2 k3 k4 k5 k6 k7 k8 k9 k10 k11 k12 (nI mc) (nI 0) thr ky ro ln kd nb sc wa sm ld lo lw tx) ([]) rfl hP) hE (x_midD ([]) (wK G k0 k1 k2 k3 k4 k5 k6 k7 k8 k9 k10 k11 k12 (nI mc) (nI 0) thr ky ro ln kd nb sc wa sm ld lo lw tx) ([]) rfl hD)) rfl rfl hl.1 rfl (lv_room (Nat.le_of_ble_eq_true rfl)) dX4_print_60 ⟨Nat.zero_le _, Nat.zero_le _⟩) hS (fun q _ h => (x_adr ([]) (wK G k0 k1 k2 k3 k4 k5 k6 k7 k8 k9 k10 k11 k12 (nI mc) (nI 0) thr ky ro ln kd nb sc wa sm ld lo lw tx) ([]) rfl hD) q h) (x_adr ([]) (wK G k0 k1 k2 k3 k4 k5 k6 k7 k8 k9 k10 k11 k12 (nI mc) (nI 0) thr ky ro ln kd nb sc wa sm ld lo lw tx) ([]) rfl hD) (fun u t H1 locs ht hvm hw hB hz1 hk1 hS => ?_)
    rw [ht] at hB
    rcases hw with rfl
    obtain ⟨hP, hD⟩ := x_join ([]) (wK G k0 k1 k2 k3 k4 k5 k6 k7 k8 k9 k10 k11 k12 (nI mc) (nI 0) thr ky ro ln kd nb sc wa sm ld lo lw tx) ([]) (wK G k0 k1 k2 k3 k4 k5 k6 k7 k8 k9 k10 k11 k12 (nI mc) (nI (0 + 1)) thr ky ro ln kd nb sc wa sm ld lo lw (upd tx 0 90)) rfl hP hD hk1 hB rfl
    generalize H1 = H at hP hS ⊢
    replace hP : va_P G.1 vwCl (wK G k0 k1 k2 k3 k4 k5 k6 k7 k8 k9 k10 k11 k12 (nI mc) (nI (0 + 1)) thr ky ro ln kd nb sc wa sm ld lo lw (upd tx 0 90)) H := hP
    replace hD : va_D A (wK G k0 k1 k2 k3 k4 k5 k6 k7 k8 k9 k10 k11 k12 (nI mc) (nI (0 + 1)) thr ky ro ln kd nb sc wa sm ld lo lw (upd tx 0 90)) := hD
    refine lv_aload_n hx hb dX4_print_63 rfl (lv_at hl 1 rfl) ?_
    refine lv_aload_n hx hb dX4_print_64 rfl (lv_at hl 1 rfl) ?_
    refine va_get (D := G.1) (ci := 5) (v := .ref k5) (C := RX4) (T := TX4) (N := 15) hx hb hts hiX4 hown hE.1 hP 0 rfl rfl 5 (by decide) (hts (.fieldLink RX4 23 "MeterSealsModel" "number" "[J") (by decide +kernel)) (fun _ h9 => h9) rfl dX4_print_65 ?_
    refine lv_iload_n hx hb dX4_print_68 rfl (lv_at hl 0 rfl) ?_
    refine va_lald hx hb hE.1 hP 5 1 rfl rfl (vp_in_nI (show j * 200 + i < 1600 by omega) (by decide)) dX4_print_69 ?_
    rw [nI_clamp (n := j * 200 + i) (by omega)]
    refine va_callv (va_runV (As := [.long (nb (j * 200 + i))]) (rest := []) ⟨hx, hb, hml, hown, hts⟩ (ct_X4_say l G k0 k1 k2 k3 k4 k5 k6 k7 k8 k9 k10 k11 k12 mc (0 + 1) thr ky ro ln kd nb sc wa sm ld lo lw (upd tx 0 90) (nb (j * 200 + i)) hok.1 (by omega)) (cwV 1 hts gX4_print_X4_say rfl rfl rfl (by decide +kernel) ⟨Nat.le_of_ble_eq_true rfl, Nat.le_of_ble_eq_true rfl⟩) (WrP.preV 0 5 rfl rfl (x_mid ([]) (wK G k0 k1 k2 k3 k4 k5 k6 k7 k8 k9 k10 k11 k12 (nI mc) (nI (0 + 1)) thr ky ro ln kd nb sc wa sm ld lo lw (upd tx 0 90)) ([]) rfl hP) hE (x_midD ([]) (wK G k0 k1 k2 k3 k4 k5 k6 k7 k8 k9 k10 k11 k12 (nI mc) (nI (0 + 1)) thr ky ro ln kd nb sc wa sm ld lo lw (upd tx 0 90)) ([]) rfl hD)) rfl rfl hl.1 rfl (lv_room (Nat.le_of_ble_eq_true rfl)) dX4_print_70 ⟨Nat.zero_le _, Nat.zero_le _⟩) hS (fun q _ h => (x_adr ([]) (wK G k0 k1 k2 k3 k4 k5 k6 k7 k8 k9 k10 k11 k12 (nI mc) (nI (0 + 1)) thr ky ro ln kd nb sc wa sm ld lo lw (upd tx 0 90)) ([]) rfl hD) q h) (x_adr ([]) (wK G k0 k1 k2 k3 k4 k5 k6 k7 k8 k9 k10 k11 k12 (nI mc) (nI (0 + 1)) thr ky ro ln kd nb sc wa sm ld lo lw (upd tx 0 90)) ([]) rfl hD) (fun u t H1 locs ht hvm hw hB hz1 hk1 hS => ?_)
    rw [ht] at hB
    rcases hw with ⟨bty18, ty18, hbty18, rfl, hwty18⟩
    obtain ⟨hP, hD⟩ := x_join ([]) (wK G k0 k1 k2 k3 k4 k5 k6 k7 k8 k9 k10 k11 k12 (nI mc) (nI (0 + 1)) thr ky ro ln kd nb sc wa sm ld lo lw (upd tx 0 90)) ([]) (wK G k0 k1 k2 k3 k4 k5 k6 k7 k8 k9 k10 k11 k12 (nI mc) (nI bty18) thr ky ro ln kd nb sc wa sm ld lo lw ty18) rfl hP hD hk1 hB rfl
    generalize H1 = H at hP hS ⊢
    replace hP : va_P G.1 vwCl (wK G k0 k1 k2 k3 k4 k5 k6 k7 k8 k9 k10 k11 k12 (nI mc) (nI bty18) thr ky ro ln kd nb sc wa sm ld lo lw ty18) H := hP
    replace hD : va_D A (wK G k0 k1 k2 k3 k4 k5 k6 k7 k8 k9 k10 k11 k12 (nI mc) (nI bty18) thr ky ro ln kd nb sc wa sm ld lo lw ty18) := hD
    refine lv_aload_n hx hb dX4_print_73 rfl (lv_at hl 1 rfl) ?_
    refine va_get (D := G.1) (ci := 5) (v := .ref k4) (C := RX4) (T := TX4) (N := 15) hx hb hts hiX4 hown hE.1 hP 0 rfl rfl 4 (by decide) (hts (.fieldLink RX4 20 "MeterSealsModel" "kind" "[I") (by decide +kernel)) (fun _ h9 => h9) rfl dX4_print_74 ?_
    refine lv_iload_n hx hb dX4_print_77 rfl (lv_at hl 0 rfl) ?_
    refine va_iald hx hb hE.1 hP 4 0 rfl rfl (vp_in_nI (show j * 200 + i < 1600 by omega) (by decide)) dX4_print_78 ?_
    rw [nI_clamp (n := j * 200 + i) (by omega)]
    refine lv_if_ne (tgt := 103) hx hb dX4_print_79 (by decide) (fun c79 => ?_) (fun c79 => absurd c79 c20)
    refine lv_aload_n hx hb dX4_print_103 rfl (lv_at hl 1 rfl) ?_
    refine lv_iload_n hx hb dX4_print_104 rfl (lv_at hl 2 rfl) ?_
    refine lv_iload_n hx hb dX4_print_105 rfl (lv_at hl 3 rfl) ?_
    refine x_ri (va_runV (As := [.int (nI j), .int (nI i)]) (rest := []) ⟨hx, hb, hml, hown, hts⟩ (ct_X4_isMarked l G k0 k1 k2 k3 k4 k5 k6 k7 k8 k9 k10 k11 k12 mc (nI bty18) thr ky ro ln kd nb sc wa sm ld lo lw ty18 j i hj (by omega)) (cwV 2 hts gX4_print_X4_isMarked rfl rfl rfl (by decide +kernel) ⟨Nat.le_of_ble_eq_true rfl, Nat.le_of_ble_eq_true rfl⟩) (RdP.preV 0 5 rfl rfl hP hE) rfl rfl hl.1 rfl (lv_room (Nat.le_of_ble_eq_true rfl)) dX4_print_106 ⟨Nat.zero_le _, Nat.zero_le _⟩) (fun r20 er20 => ?_)
    subst er20
    refine lv_if_eq (tgt := 124) hx hb dX4_print_109 (by decide) (fun c109 => ?_) (fun c109 => ?_)
    · refine lv_aload_n hx hb dX4_print_124 rfl (lv_at hl 1 rfl) ?_
      refine lv_bipush (v := 10) hx hb dX4_print_125 (by decide) ?_
      refine va_callv (va_runV (As := [.int 10]) (rest := []) ⟨hx, hb, hml, hown, hts⟩ (ct_X4_put l G k0 k1 k2 k3 k4 k5 k6 k7 k8 k9 k10 k11 k12 mc bty18 thr ky ro ln kd nb sc wa sm ld lo lw ty18 10 (by omega)) (cwV 1 hts gX4_print_X4_put rfl rfl rfl (by decide +kernel) ⟨Nat.le_of_ble_eq_true rfl, Nat.le_of_ble_eq_true rfl⟩) (WrP.preV 0 5 rfl rfl (x_mid ([]) (wK G k0 k1 k2 k3 k4 k5 k6 k7 k8 k9 k10 k11 k12 (nI mc) (nI bty18) thr ky ro ln kd nb sc wa sm ld lo lw ty18) ([]) rfl hP) hE (x_midD ([]) (wK G k0 k1 k2 k3 k4 k5 k6 k7 k8 k9 k10 k11 k12 (nI mc) (nI bty18) thr ky ro ln kd nb sc wa sm ld lo lw ty18) ([]) rfl hD)) rfl rfl hl.1 rfl (lv_room (Nat.le_of_ble_eq_true rfl)) dX4_print_127 ⟨Nat.zero_le _, Nat.zero_le _⟩) hS (fun q _ h => (x_adr ([]) (wK G k0 k1 k2 k3 k4 k5 k6 k7 k8 k9 k10 k11 k12 (nI mc) (nI bty18) thr ky ro ln kd nb sc wa sm ld lo lw ty18) ([]) rfl hD) q h) (x_adr ([]) (wK G k0 k1 k2 k3 k4 k5 k6 k7 k8 k9 k10 k11 k12 (nI mc) (nI bty18) thr ky ro ln kd nb sc wa sm ld lo lw ty18) ([]) rfl hD) (fun u t H1 locs ht hvm hw hB hz1 hk1 hS => ?_)
      rw [ht] at hB
      rcases hw with rfl
      obtain ⟨hP, hD⟩ := x_join ([]) (wK G k0 k1 k2 k3 k4 k5 k6 k7 k8 k9 k10 k11 k12 (nI mc) (nI bty18) thr ky ro ln kd nb sc wa sm ld lo lw ty18) ([]) (wK G k0 k1 k2 k3 k4 k5 k6 k7 k8 k9 k10 k11 k12 (nI mc) (nI (bty18 + 1)) thr ky ro ln kd nb sc wa sm ld lo lw (upd ty18 bty18 10)) rfl hP hD hk1 hB rfl
      generalize H1 = H at hP hS ⊢
      replace hP : va_P G.1 vwCl (wK G k0 k1 k2 k3 k4 k5 k6 k7 k8 k9 k10 k11 k12 (nI mc) (nI (bty18 + 1)) thr ky ro ln kd nb sc wa sm ld lo lw (upd ty18 bty18 10)) H := hP
      replace hD : va_D A (wK G k0 k1 k2 k3 k4 k5 k6 k7 k8 k9 k10 k11 k12 (nI mc) (nI (bty18 + 1)) thr ky ro ln kd nb sc wa sm ld lo lw (upd ty18 bty18 10)) := hD
      exact W.vret hx hb hr (fun tZ hZ hW => ⟨⟨wK G k0 k1 k2 k3 k4 k5 k6 k7 k8 k9 k10 k11 k12 (nI mc) (nI (bty18 + 1)) thr ky ro ln kd nb sc wa sm ld lo lw (upd ty18 bty18 10), rfl, ⟨bty18 + 1, (upd ty18 bty18 10), by simp only [md_line, if_neg c20, if_pos c35, if_pos c109, List.length_append, List.length_cons, List.length_nil]; omega, rfl, by simp only [md_line, md_let, if_neg c20, if_pos c35, if_pos c109]; exact (wrote.ap (wrote.ap (wrote.put tx 0 90) hwty18 (by first | rfl | (simp only [List.length_append, List.length_cons, List.length_nil]; done) | (simp only [List.length_append, List.length_cons, List.length_nil]; omega))) (wrote.put ty18 bty18 10) (by first | rfl | (simp only [List.length_append, List.length_cons, List.length_nil]; done) | (simp only [List.length_append, List.length_cons, List.length_nil]; omega)))⟩, by show va_P _ _ _ tZ.heap; rw [hZ]; exact hP⟩, hS.F hZ⟩) hS.2.2 dX4_print_130
    refine lv_aload_n hx hb dX4_print_112 rfl (lv_at hl 1 rfl) ?_
    refine lv_bipush (v := 32) hx hb dX4_print_113 (by decide) ?_
    refine va_callv (va_runV (As := [.int 32]) (rest := []) ⟨hx, hb, hml, hown, hts⟩ (ct_X4_put l G k0 k1 k2 k3 k4 k5 k6 k7 k8 k9 k10 k11 k12 mc bty18 thr ky ro ln kd nb sc wa sm ld lo lw ty18 32 (by omega)) (cwV 1 hts gX4_print_X4_put rfl rfl rfl (by decide +kernel) ⟨Nat.le_of_ble_eq_true rfl, Nat.le_of_ble_eq_true rfl⟩) (WrP.preV 0 5 rfl rfl (x_mid ([]) (wK G k0 k1 k2 k3 k4 k5 k6 k7 k8 k9 k10 k11 k12 (nI mc) (nI bty18) thr ky ro ln kd nb sc wa sm ld lo lw ty18) ([]) rfl hP) hE (x_midD ([]) (wK G k0 k1 k2 k3 k4 k5 k6 k7 k8 k9 k10 k11 k12 (nI mc) (nI bty18) thr ky ro ln kd nb sc wa sm ld lo lw ty18) ([]) rfl hD)) rfl rfl hl.1 rfl (lv_room (Nat.le_of_ble_eq_true rfl)) dX4_print_115 ⟨Nat.zero_le _, Nat.zero_le _⟩) hS (fun q _ h => (x_adr ([]) (wK G k0 k1 k2 k3 k4 k5 k6 k7 k8 k9 k10 k11 k12 (nI mc) (nI bty18) thr ky ro ln kd nb sc wa sm ld lo lw ty18) ([]) rfl hD) q h) (x_adr ([]) (wK G k0 k1 k2 k3 k4 k5 k6 k7 k8 k9 k10 k11 k12 (nI mc) (nI bty18) thr ky ro ln kd nb sc wa sm ld lo lw ty18) ([]) rfl hD) (fun u t H1 locs ht hvm hw hB hz1 hk1 hS => ?_)
    rw [ht] at hB
    rcases hw with rfl
    obtain ⟨hP, hD⟩ := x_join ([]) (wK G k0 k1 k2 k3 k4 k5 k6 k7 k8 k9 k10 k11 k12 (nI mc) (nI bty18) thr ky ro ln kd nb sc wa sm ld lo lw ty18) ([]) (wK G k0 k1 k2 k3 k4 k5 k6 k7 k8 k9 k10 k11 k12 (nI mc) (nI (bty18 + 1)) thr ky ro ln kd nb sc wa sm ld lo lw (upd ty18 bty18 32)) rfl hP hD hk1 hB rfl
    generalize H1 = H at hP hS ⊢
    replace hP : va_P G.1 vwCl (wK G k0 k1 k2 k3 k4 k5 k6 k7 k8 k9 k10 k11 k12 (nI mc) (nI (bty18 + 1)) thr ky ro ln kd nb sc wa sm ld lo lw (upd ty18 bty18 32)) H := hP
    replace hD : va_D A (wK G k0 k1 k2 k3 k4 k5 k6 k7 k8 k9 k10 k11 k12 (nI mc) (nI (bty18 + 1)) thr ky ro ln kd nb sc wa sm ld lo lw (upd ty18 bty18 32)) := hD
    refine lv_aload_n hx hb dX4_print_118 rfl (lv_at hl 1 rfl) ?_
    refine lv_bipush (v := 42) hx hb dX4_print_119 (by decide) ?_
    refine va_callv (va_runV (As := [.int 42]) (rest := []) ⟨hx, hb, hml, hown, hts⟩ (ct_X4_put l G k0 k1 k2 k3 k4 k5 k6 k7 k8 k9 k10 k11 k12 mc (bty18 + 1) thr ky ro ln kd nb sc wa sm ld lo lw (upd ty18 bty18 32) 42 (by omega)) (cwV 1 hts gX4_print_X4_put rfl rfl rfl (by decide +kernel) ⟨Nat.le_of_ble_eq_true rfl, Nat.le_of_ble_eq_true rfl⟩) (WrP.preV 0 5 rfl rfl (x_mid ([]) (wK G k0 k1 k2 k3 k4 k5 k6 k7 k8 k9 k10 k11 k12 (nI mc) (nI (bty18 + 1)) thr ky ro ln kd nb sc wa sm ld lo lw (upd ty18 bty18 32)) ([]) rfl hP) hE (x_midD ([]) (wK G k0 k1 k2 k3 k4 k5 k6 k7 k8 k9 k10 k11 k12 (nI mc) (nI (bty18 + 1)) thr ky ro ln kd nb sc wa sm ld lo lw (upd ty18 bty18 32)) ([]) rfl hD)) rfl rfl hl.1 rfl (lv_room (Nat.le_of_ble_eq_true rfl)) dX4_print_121 ⟨Nat.zero_le _, Nat.zero_le _⟩) hS (fun q _ h => (x_adr ([]) (wK G k0 k1 k2 k3 k4 k5 k6 k7 k8 k9 k10 k11 k12 (nI mc) (nI (bty18 + 1)) thr ky ro ln kd nb sc wa sm ld lo lw (upd ty18 bty18 32)) ([]) rfl hD) q h) (x_adr ([]) (wK G k0 k1 k2 k3 k4 k5 k6 k7 k8 k9 k10 k11 k12 (nI mc) (nI (bty18 + 1)) thr ky ro ln kd nb sc wa sm ld lo lw (upd ty18 bty18 32)) ([]) rfl hD) (fun u t H1 locs ht hvm hw hB hz1 hk1 hS => ?_)
    rw [ht] at hB
    rcases hw with rfl
    obtain ⟨hP, hD⟩ := x_join ([]) (wK G k0 k1 k2 k3 k4 k5 k6 k7 k8 k9 k10 k11 k12 (nI mc) (nI (bty18 + 1)) thr ky ro ln kd nb sc wa sm ld lo lw (upd ty18 bty18 32)) ([]) (wK G k0 k1 k2 k3 k4 k5 k6 k7 k8 k9 k10 k11 k12 (nI mc) (nI (bty18 + 1 + 1)) thr ky ro ln kd nb sc wa sm ld lo lw (upd (upd ty18 bty18 32) (bty18 + 1) 42)) rfl hP hD hk1 hB rfl
    generalize H1 = H at hP hS ⊢
    replace hP : va_P G.1 vwCl (wK G k0 k1 k2 k3 k4 k5 k6 k7 k8 k9 k10 k11 k12 (nI mc) (nI (bty18 + 1 + 1)) thr ky ro ln kd nb sc wa sm ld lo lw (upd (upd ty18 bty18 32) (bty18 + 1) 42)) H := hP
    replace hD : va_D A (wK G k0 k1 k2 k3 k4 k5 k6 k7 k8 k9 k10 k11 k12 (nI mc) (nI (bty18 + 1 + 1)) thr ky ro ln kd nb sc wa sm ld lo lw (upd (upd ty18 bty18 32) (bty18 + 1) 42)) := hD
    refine lv_aload_n hx hb dX4_print_124 rfl (lv_at hl 1 rfl) ?_
    refine lv_bipush (v := 10) hx hb dX4_print_125 (by decide) ?_
    refine va_callv (va_runV (As := [.int 10]) (rest := []) ⟨hx, hb, hml, hown, hts⟩ (ct_X4_put l G k0 k1 k2 k3 k4 k5 k6 k7 k8 k9 k10 k11 k12 mc (bty18 + 1 + 1) thr ky ro ln kd nb sc wa sm ld lo lw (upd (upd ty18 bty18 32) (bty18 + 1) 42) 10 (by omega)) (cwV 1 hts gX4_print_X4_put rfl rfl rfl (by decide +kernel) ⟨Nat.le_of_ble_eq_true rfl, Nat.le_of_ble_eq_true rfl⟩) (WrP.preV 0 5 rfl rfl (x_mid ([]) (wK G k0 k1 k2 k3 k4 k5 k6 k7 k8 k9 k10 k11 k12 (nI mc) (nI (bty18 + 1 + 1)) thr ky ro ln kd nb sc wa sm ld lo lw (upd (upd ty18 bty18 32) (bty18 + 1) 42)) ([]) rfl hP) hE (x_midD ([]) (wK G k0 k1 k2 k3 k4 k5 k6 k7 k8 k9 k10 k11 k12 (nI mc) (nI (bty18 + 1 + 1)) thr ky ro ln kd nb sc wa sm ld lo lw (upd (upd ty18 bty18 32) (bty18 + 1) 42)) ([]) rfl hD)) rfl rfl hl.1 rfl (lv_room (Nat.le_of_ble_eq_true rfl)) dX4_print_127 ⟨Nat.zero_le _, Nat.zero_le _⟩) hS (fun q _ h => (x_adr ([]) (wK G k0 k1 k2 k3 k4 k5 k6 k7 k8 k9 k10 k11 k12 (nI mc) (nI (bty18 + 1 + 1)) thr ky ro ln kd nb sc wa sm ld lo lw (upd (upd ty18 bty18 32) (bty18 + 1) 42)) ([]) rfl hD) q h) (x_adr ([]) (wK G k0 k1 k2 k3 k4 k5 k6 k7 k8 k9 k10 k11 k12 (nI mc) (nI (bty18 + 1 + 1)) thr ky ro ln kd nb sc wa sm ld lo lw (upd (upd ty18 bty18 32) (bty18 + 1) 42)) ([]) rfl hD) (fun u t H1 locs ht hvm hw hB hz1 hk1 hS => ?_)
    rw [ht] at hB
    rcases hw with rfl
    obtain ⟨hP, hD⟩ := x_join ([]) (wK G k0 k1 k2 k3 k4 k5 k6 k7 k8 k9 k10 k11 k12 (nI mc) (nI (bty18 + 1 + 1)) thr ky ro ln kd nb sc wa sm ld lo lw (upd (upd ty18 bty18 32) (bty18 + 1) 42)) ([]) (wK G k0 k1 k2 k3 k4 k5 k6 k7 k8 k9 k10 k11 k12 (nI mc) (nI (bty18 + 1 + 1 + 1)) thr ky ro ln kd nb sc wa sm ld lo lw (upd (upd (upd ty18 bty18 32) (bty18 + 1) 42) (bty18 + 1 + 1) 10)) rfl hP hD hk1 hB rfl
    generalize H1 = H at hP hS ⊢
    replace hP : va_P G.1 vwCl (wK G k0 k1 k2 k3 k4 k5 k6 k7 k8 k9 k10 k11 k12 (nI mc) (nI (bty18 + 1 + 1 + 1)) thr ky ro ln kd nb sc wa sm ld lo lw (upd (upd (upd ty18 bty18 32) (bty18 + 1) 42) (bty18 + 1 + 1) 10)) H := hP
    replace hD : va_D A (wK G k0 k1 k2 k3 k4 k5 k6 k7 k8 k9 k10 k11 k12 (nI mc) (nI (bty18 + 1 + 1 + 1)) thr ky ro ln kd nb sc wa sm ld lo lw (upd (upd (upd ty18 bty18 32) (bty18 + 1) 42) (bty18 + 1 + 1) 10)) := hD
    exact W.vret hx hb hr (fun tZ hZ hW => ⟨⟨wK G k0 k1 k2 k3 k4 k5 k6 k7 k8 k9 k10 k11 k12 (nI mc) (nI (bty18 + 1 + 1 + 1)) thr ky ro ln kd nb sc wa sm ld lo lw (upd (upd (upd ty18 bty18 32) (bty18 + 1) 42) (bty18 + 1 + 1) 10), rfl, ⟨bty18 + 1 + 1 + 1, (upd (upd (upd ty18 bty18 32) (bty18 + 1) 42) (bty18 + 1 + 1) 10), by simp only [md_line, if_neg c20, if_pos c35, if_neg c109, List.length_append, List.length_cons, List.length_nil]; omega, rfl, by simp only [md_line, md_let, if_neg c20, if_pos c35, if_neg c109]; exact (wrote.ap (wrote.ap (wrote.ap (wrote.ap (wrote.put tx 0 90) hwty18 (by first | rfl | (simp only [List.length_append, List.length_cons, List.length_nil]; done) | (simp only [List.length_append, List.length_cons, List.length_nil]; omega))) (wrote.put ty18 bty18 32) (by first | rfl | (simp only [List.length_append, List.length_cons, List.length_nil]; done) | (simp only [List.length_append, List.length_cons, List.length_nil]; omega))) (wrote.put (upd ty18 bty18 32) (bty18 + 1) 42) (by first | rfl | (simp only [List.length_append, List.length_cons, List.length_nil]; done) | (simp only [List.length_append, List.length_cons, List.length_nil]; omega))) (wrote.put (upd (upd ty18 bty18 32) (bty18 + 1) 42) (bty18 + 1 + 1) 10) (by first | rfl | (simp only [List.length_append, List.length_cons, List.length_nil]; done) | (simp only [List.length_append, List.length_cons, List.length_nil]; omega)))⟩, by show va_P _ _ _ tZ.heap; rw [hZ]; exact hP⟩, hS.F hZ⟩) hS.2.2 dX4_print_130
  refine lv_bipush (v := 82) hx hb dX4_print_23 (by decide) ?_
  refine lv_goto (tgt := 60) hx hb dX4_print_25 (by decide) ?_
  refine va_callv (va_runV (As := [.int 82]) (rest := []) ⟨hx, hb, hml, hown, hts⟩ (ct_X4_put l G k0 k1 k2 k3 k4 k5 k6 k7 k8 k9 k10 k11 k12 mc 0 thr ky ro ln kd nb sc wa sm ld lo lw tx 82 (by omega)) (cwV 1 hts gX4_print_X4_put rfl rfl rfl (by decide +kernel) ⟨Nat.le_of_ble_eq_true rfl, Nat.le_of_ble_eq_true rfl⟩) (WrP.preV 0 5 rfl rfl (x_mid ([]) (wK G k0 k1 k2 k3 k4 k5 k6 k7 k8 k9 k10 k11 k12 (nI mc) (nI 0) thr ky ro ln kd nb sc wa sm ld lo lw tx) ([]) rfl hP) hE (x_midD ([]) (wK G k0 k1 k2 k3 k4 k5 k6 k7 k8 k9 k10 k11 k12 (nI mc) (nI 0) thr ky ro ln kd nb sc wa sm ld lo lw tx) ([]) rfl hD)) rfl rfl hl.1 rfl (lv_room (Nat.le_of_ble_eq_true rfl)) dX4_print_60 ⟨Nat.zero_le _, Nat.zero_le _⟩) hS (fun q _ h => (x_adr ([]) (wK G k0 k1 k2 k3 k4 k5 k6 k7 k8 k9 k10 k11 k12 (nI mc) (nI 0) thr ky ro ln kd nb sc wa sm ld lo lw tx) ([]) rfl hD) q h) (x_adr ([]) (wK G k0 k1 k2 k3 k4 k5 k6 k7 k8 k9 k10 k11 k12 (nI mc) (nI 0) thr ky ro ln kd nb sc wa sm ld lo lw tx) ([]) rfl hD) (fun u t H1 locs ht hvm hw hB hz1 hk1 hS => ?_)
  rw [ht] at hB
  rcases hw with rfl
  obtain ⟨hP, hD⟩ := x_join ([]) (wK G k0 k1 k2 k3 k4 k5 k6 k7 k8 k9 k10 k11 k12 (nI mc) (nI 0) thr ky ro ln kd nb sc wa sm ld lo lw tx) ([]) (wK G k0 k1 k2 k3 k4 k5 k6 k7 k8 k9 k10 k11 k12 (nI mc) (nI (0 + 1)) thr ky ro ln kd nb sc wa sm ld lo lw (upd tx 0 82)) rfl hP hD hk1 hB rfl
  generalize H1 = H at hP hS ⊢
  replace hP : va_P G.1 vwCl (wK G k0 k1 k2 k3 k4 k5 k6 k7 k8 k9 k10 k11 k12 (nI mc) (nI (0 + 1)) thr ky ro ln kd nb sc wa sm ld lo lw (upd tx 0 82)) H := hP
  replace hD : va_D A (wK G k0 k1 k2 k3 k4 k5 k6 k7 k8 k9 k10 k11 k12 (nI mc) (nI (0 + 1)) thr ky ro ln kd nb sc wa sm ld lo lw (upd tx 0 82)) := hD
  refine lv_aload_n hx hb dX4_print_63 rfl (lv_at hl 1 rfl) ?_
  refine lv_aload_n hx hb dX4_print_64 rfl (lv_at hl 1 rfl) ?_
  refine va_get (D := G.1) (ci := 5) (v := .ref k5) (C := RX4) (T := TX4) (N := 15) hx hb hts hiX4 hown hE.1 hP 0 rfl rfl 5 (by decide) (hts (.fieldLink RX4 23 "MeterSealsModel" "number" "[J") (by decide +kernel)) (fun _ h9 => h9) rfl dX4_print_65 ?_
  refine lv_iload_n hx hb dX4_print_68 rfl (lv_at hl 0 rfl) ?_
  refine va_lald hx hb hE.1 hP 5 1 rfl rfl (vp_in_nI (show j * 200 + i < 1600 by omega) (by decide)) dX4_print_69 ?_
  rw [nI_clamp (n := j * 200 + i) (by omega)]
  refine va_callv (va_runV (As := [.long (nb (j * 200 + i))]) (rest := []) ⟨hx, hb, hml, hown, hts⟩ (ct_X4_say l G k0 k1 k2 k3 k4 k5 k6 k7 k8 k9 k10 k11 k12 mc (0 + 1) thr ky ro ln kd nb sc wa sm ld lo lw (upd tx 0 82) (nb (j * 200 + i)) hok.1 (by omega)) (cwV 1 hts gX4_print_X4_say rfl rfl rfl (by decide +kernel) ⟨Nat.le_of_ble_eq_true rfl, Nat.le_of_ble_eq_true rfl⟩) (WrP.preV 0 5 rfl rfl (x_mid ([]) (wK G k0 k1 k2 k3 k4 k5 k6 k7 k8 k9 k10 k11 k12 (nI mc) (nI (0 + 1)) thr ky ro ln kd nb sc wa sm ld lo lw (upd tx 0 82)) ([]) rfl hP) hE (x_midD ([]) (wK G k0 k1 k2 k3 k4 k5 k6 k7 k8 k9 k10 k11 k12 (nI mc) (nI (0 + 1)) thr ky ro ln kd nb sc wa sm ld lo lw (upd tx 0 82)) ([]) rfl hD)) rfl rfl hl.1 rfl (lv_room (Nat.le_of_ble_eq_true rfl)) dX4_print_70 ⟨Nat.zero_le _, Nat.zero_le _⟩) hS (fun q _ h => (x_adr ([]) (wK G k0 k1 k2 k3 k4 k5 k6 k7 k8 k9 k10 k11 k12 (nI mc) (nI (0 + 1)) thr ky ro ln kd nb sc wa sm ld lo lw (upd tx 0 82)) ([]) rfl hD) q h) (x_adr ([]) (wK G k0 k1 k2 k3 k4 k5 k6 k7 k8 k9 k10 k11 k12 (nI mc) (nI (0 + 1)) thr ky ro ln kd nb sc wa sm ld lo lw (upd tx 0 82)) ([]) rfl hD) (fun u t H1 locs ht hvm hw hB hz1 hk1 hS => ?_)
  rw [ht] at hB
  rcases hw with ⟨bty26, ty26, hbty26, rfl, hwty26⟩
  obtain ⟨hP, hD⟩ := x_join ([]) (wK G k0 k1 k2 k3 k4 k5 k6 k7 k8 k9 k10 k11 k12 (nI mc) (nI (0 + 1)) thr ky ro ln kd nb sc wa sm ld lo lw (upd tx 0 82)) ([]) (wK G k0 k1 k2 k3 k4 k5 k6 k7 k8 k9 k10 k11 k12 (nI mc) (nI bty26) thr ky ro ln kd nb sc wa sm ld lo lw ty26) rfl hP hD hk1 hB rfl
  generalize H1 = H at hP hS ⊢
  replace hP : va_P G.1 vwCl (wK G k0 k1 k2 k3 k4 k5 k6 k7 k8 k9 k10 k11 k12 (nI mc) (nI bty26) thr ky ro ln kd nb sc wa sm ld lo lw ty26) H := hP
  replace hD : va_D A (wK G k0 k1 k2 k3 k4 k5 k6 k7 k8 k9 k10 k11 k12 (nI mc) (nI bty26) thr ky ro ln kd nb sc wa sm ld lo lw ty26) := hD
  refine lv_aload_n hx hb dX4_print_73 rfl (lv_at hl 1 rfl) ?_
  refine va_get (D := G.1) (ci := 5) (v := .ref k4) (C := RX4) (T := TX4) (N := 15) hx hb hts hiX4 hown hE.1 hP 0 rfl rfl 4 (by decide) (hts (.fieldLink RX4 20 "MeterSealsModel" "kind" "[I") (by decide +kernel)) (fun _ h9 => h9) rfl dX4_print_74 ?_
  refine lv_iload_n hx hb dX4_print_77 rfl (lv_at hl 0 rfl) ?_
  refine va_iald hx hb hE.1 hP 4 0 rfl rfl (vp_in_nI (show j * 200 + i < 1600 by omega) (by decide)) dX4_print_78 ?_
  rw [nI_clamp (n := j * 200 + i) (by omega)]
  refine lv_if_ne (tgt := 103) hx hb dX4_print_79 (by decide) (fun c79 => absurd c20 c79) (fun c79 => ?_)
  refine lv_aload_n hx hb dX4_print_82 rfl (lv_at hl 1 rfl) ?_
  refine lv_aload_n hx hb dX4_print_83 rfl (lv_at hl 1 rfl) ?_
  refine va_get (D := G.1) (ci := 5) (v := .ref k6) (C := RX4) (T := TX4) (N := 15) hx hb hts hiX4 hown hE.1 hP 0 rfl rfl 6 (by decide) (hts (.fieldLink RX4 26 "MeterSealsModel" "second" "[J") (by decide +kernel)) (fun _ h9 => h9) rfl dX4_print_84 ?_
  refine lv_iload_n hx hb dX4_print_87 rfl (lv_at hl 0 rfl) ?_
  refine va_lald hx hb hE.1 hP 6 1 rfl rfl (vp_in_nI (show j * 200 + i < 1600 by omega) (by decide)) dX4_print_88 ?_
  rw [nI_clamp (n := j * 200 + i) (by omega)]
  refine va_callv (va_runV (As := [.long (sc (j * 200 + i))]) (rest := []) ⟨hx, hb, hml, hown, hts⟩ (ct_X4_say l G k0 k1 k2 k3 k4 k5 k6 k7 k8 k9 k10 k11 k12 mc bty26 thr ky ro ln kd nb sc wa sm ld lo lw ty26 (sc (j * 200 + i)) hok.2.1 (by omega)) (cwV 1 hts gX4_print_X4_say rfl rfl rfl (by decide +kernel) ⟨Nat.le_of_ble_eq_true rfl, Nat.le_of_ble_eq_true rfl⟩) (WrP.preV 0 5 rfl rfl (x_mid ([]) (wK G k0 k1 k2 k3 k4 k5 k6 k7 k8 k9 k10 k11 k12 (nI mc) (nI bty26) thr ky ro ln kd nb sc wa sm ld lo lw ty26) ([]) rfl hP) hE (x_midD ([]) (wK G k0 k1 k2 k3 k4 k5 k6 k7 k8 k9 k10 k11 k12 (nI mc) (nI bty26) thr ky ro ln kd nb sc wa sm ld lo lw ty26) ([]) rfl hD)) rfl rfl hl.1 rfl (lv_room (Nat.le_of_ble_eq_true rfl)) dX4_print_89 ⟨Nat.zero_le _, Nat.zero_le _⟩) hS (fun q _ h => (x_adr ([]) (wK G k0 k1 k2 k3 k4 k5 k6 k7 k8 k9 k10 k11 k12 (nI mc) (nI bty26) thr ky ro ln kd nb sc wa sm ld lo lw ty26) ([]) rfl hD) q h) (x_adr ([]) (wK G k0 k1 k2 k3 k4 k5 k6 k7 k8 k9 k10 k11 k12 (nI mc) (nI bty26) thr ky ro ln kd nb sc wa sm ld lo lw ty26) ([]) rfl hD) (fun u t H1 locs ht hvm hw hB hz1 hk1 hS => ?_)
  rw [ht] at hB
  rcases hw with ⟨bty28, ty28, hbty28, rfl, hwty28⟩
  obtain ⟨hP, hD⟩ := x_join ([]) (wK G k0 k1 k2 k3 k4 k5 k6 k7 k8 k9 k10 k11 k12 (nI mc) (nI bty26) thr ky ro ln kd nb sc wa sm ld lo lw ty26) ([]) (wK G k0 k1 k2 k3 k4 k5 k6 k7 k8 k9 k10 k11 k12 (nI mc) (nI bty28) thr ky ro ln kd nb sc wa sm ld lo lw ty28) rfl hP hD hk1 hB rfl
  generalize H1 = H at hP hS ⊢
  replace hP : va_P G.1 vwCl (wK G k0 k1 k2 k3 k4 k5 k6 k7 k8 k9 k10 k11 k12 (nI mc) (nI bty28) thr ky ro ln kd nb sc wa sm ld lo lw ty28) H := hP
  replace hD : va_D A (wK G k0 k1 k2 k3 k4 k5 k6 k7 k8 k9 k10 k11 k12 (nI mc) (nI bty28) thr ky ro ln kd nb sc wa sm ld lo lw ty28) := hD
  refine lv_aload_n hx hb dX4_print_92 rfl (lv_at hl 1 rfl) ?_
  refine lv_aload_n hx hb dX4_print_93 rfl (lv_at hl 1 rfl) ?_
  refine va_get (D := G.1) (ci := 5) (v := .ref k7) (C := RX4) (T := TX4) (N := 15) hx hb hts hiX4 hown hE.1 hP 0 rfl rfl 7 (by decide) (hts (.fieldLink RX4 29 "MeterSealsModel" "warm" "[I") (by decide +kernel)) (fun _ h9 => h9) rfl dX4_print_94 ?_
  refine lv_iload_n hx hb dX4_print_97 rfl (lv_at hl 0 rfl) ?_
  refine va_iald hx hb hE.1 hP 7 0 rfl rfl (vp_in_nI (show j * 200 + i < 1600 by omega) (by decide)) dX4_print_98 ?_
  rw [nI_clamp (n := j * 200 + i) (by omega)]
  refine lv_i2l (v := (wa (j * 200 + i)).toInt64) hx hb dX4_print_99 rfl ?_
  refine va_callv (va_runV (As := [.long ((wa (j * 200 + i)).toInt64)]) (rest := []) ⟨hx, hb, hml, hown, hts⟩ (ct_X4_say l G k0 k1 k2 k3 k4 k5 k6 k7 k8 k9 k10 k11 k12 mc bty28 thr ky ro ln kd nb sc wa sm ld lo lw ty28 ((wa (j * 200 + i)).toInt64) hok.2.2.1 (by omega)) (cwV 1 hts gX4_print_X4_say rfl rfl rfl (by decide +kernel) ⟨Nat.le_of_ble_eq_true rfl, Nat.le_of_ble_eq_true rfl⟩) (WrP.preV 0 5 rfl rfl (x_mid ([]) (wK G k0 k1 k2 k3 k4 k5 k6 k7 k8 k9 k10 k11 k12 (nI mc) (nI bty28) thr ky ro ln kd nb sc wa sm ld lo lw ty28) ([]) rfl hP) hE (x_midD ([]) (wK G k0 k1 k2 k3 k4 k5 k6 k7 k8 k9 k10 k11 k12 (nI mc) (nI bty28) thr ky ro ln kd nb sc wa sm ld lo lw ty28) ([]) rfl hD)) rfl rfl hl.1 rfl (lv_room (Nat.le_of_ble_eq_true rfl)) dX4_print_100 ⟨Nat.zero_le _, Nat.zero_le _⟩) hS (fun q _ h => (x_adr ([]) (wK G k0 k1 k2 k3 k4 k5 k6 k7 k8 k9 k10 k11 k12 (nI mc) (nI bty28) thr ky ro ln kd nb sc wa sm ld lo lw ty28) ([]) rfl hD) q h) (x_adr ([]) (wK G k0 k1 k2 k3 k4 k5 k6 k7 k8 k9 k10 k11 k12 (nI mc) (nI bty28) thr ky ro ln kd nb sc wa sm ld lo lw ty28) ([]) rfl hD) (fun u t H1 locs ht hvm hw hB hz1 hk1 hS => ?_)
  rw [ht] at hB
  rcases hw with ⟨bty30, ty30, hbty30, rfl, hwty30⟩
  obtain ⟨hP, hD⟩ := x_join ([]) (wK G k0 k1 k2 k3 k4 k5 k6 k7 k8 k9 k10 k11 k12 (nI mc) (nI bty28) thr ky ro ln kd nb sc wa sm ld lo lw ty28) ([]) (wK G k0 k1 k2 k3 k4 k5 k6 k7 k8 k9 k10 k11 k12 (nI mc) (nI bty30) thr ky ro ln kd nb sc wa sm ld lo lw ty30) rfl hP hD hk1 hB rfl
  generalize H1 = H at hP hS ⊢
  replace hP : va_P G.1 vwCl (wK G k0 k1 k2 k3 k4 k5 k6 k7 k8 k9 k10 k11 k12 (nI mc) (nI bty30) thr ky ro ln kd nb sc wa sm ld lo lw ty30) H := hP
  replace hD : va_D A (wK G k0 k1 k2 k3 k4 k5 k6 k7 k8 k9 k10 k11 k12 (nI mc) (nI bty30) thr ky ro ln kd nb sc wa sm ld lo lw ty30) := hD
  refine lv_aload_n hx hb dX4_print_103 rfl (lv_at hl 1 rfl) ?_
  refine lv_iload_n hx hb dX4_print_104 rfl (lv_at hl 2 rfl) ?_
  refine lv_iload_n hx hb dX4_print_105 rfl (lv_at hl 3 rfl) ?_
  refine x_ri (va_runV (As := [.int (nI j), .int (nI i)]) (rest := []) ⟨hx, hb, hml, hown, hts⟩ (ct_X4_isMarked l G k0 k1 k2 k3 k4 k5 k6 k7 k8 k9 k10 k11 k12 mc (nI bty30) thr ky ro ln kd nb sc wa sm ld lo lw ty30 j i hj (by omega)) (cwV 2 hts gX4_print_X4_isMarked rfl rfl rfl (by decide +kernel) ⟨Nat.le_of_ble_eq_true rfl, Nat.le_of_ble_eq_true rfl⟩) (RdP.preV 0 5 rfl rfl hP hE) rfl rfl hl.1 rfl (lv_room (Nat.le_of_ble_eq_true rfl)) dX4_print_106 ⟨Nat.zero_le _, Nat.zero_le _⟩) (fun r32 er32 => ?_)
  subst er32
  refine lv_if_eq (tgt := 124) hx hb dX4_print_109 (by decide) (fun c109 => ?_) (fun c109 => ?_)
  · refine lv_aload_n hx hb dX4_print_124 rfl (lv_at hl 1 rfl) ?_
    refine lv_bipush (v := 10) hx hb dX4_print_125 (by decide) ?_
    refine va_callv (va_runV (As := [.int 10]) (rest := []) ⟨hx, hb, hml, hown, hts⟩ (ct_X4_put l G k0 k1 k2 k3 k4 k5 k6 k7 k8 k9 k10 k11 k12 mc bty30 thr ky ro ln kd nb sc wa sm ld lo lw ty30 10 (by omega)) (cwV 1 hts gX4_print_X4_put rfl rfl rfl (by decide +kernel) ⟨Nat.le_of_ble_eq_true rfl, Nat.le_of_ble_eq_true rfl⟩) (WrP.preV 0 5 rfl rfl (x_mid ([]) (wK G k0 k1 k2 k3 k4 k5 k6 k7 k8 k9 k10 k11 k12 (nI mc) (nI bty30) thr ky ro ln kd nb sc wa sm ld lo lw ty30) ([]) rfl hP) hE (x_midD ([]) (wK G k0 k1 k2 k3 k4 k5 k6 k7 k8 k9 k10 k11 k12 (nI mc) (nI bty30) thr ky ro ln kd nb sc wa sm ld lo lw ty30) ([]) rfl hD)) rfl rfl hl.1 rfl (lv_room (Nat.le_of_ble_eq_true rfl)) dX4_print_127 ⟨Nat.zero_le _, Nat.zero_le _⟩) hS (fun q _ h => (x_adr ([]) (wK G k0 k1 k2 k3 k4 k5 k6 k7 k8 k9 k10 k11 k12 (nI mc) (nI bty30) thr ky ro ln kd nb sc wa sm ld lo lw ty30) ([]) rfl hD) q h) (x_adr ([]) (wK G k0 k1 k2 k3 k4 k5 k6 k7 k8 k9 k10 k11 k12 (nI mc) (nI bty30) thr ky ro ln kd nb sc wa sm ld lo lw ty30) ([]) rfl hD) (fun u t H1 locs ht hvm hw hB hz1 hk1 hS => ?_)
    rw [ht] at hB
    rcases hw with rfl
    obtain ⟨hP, hD⟩ := x_join ([]) (wK G k0 k1 k2 k3 k4 k5 k6 k7 k8 k9 k10 k11 k12 (nI mc) (nI bty30) thr ky ro ln kd nb sc wa sm ld lo lw ty30) ([]) (wK G k0 k1 k2 k3 k4 k5 k6 k7 k8 k9 k10 k11 k12 (nI mc) (nI (bty30 + 1)) thr ky ro ln kd nb sc wa sm ld lo lw (upd ty30 bty30 10)) rfl hP hD hk1 hB rfl
    generalize H1 = H at hP hS ⊢
    replace hP : va_P G.1 vwCl (wK G k0 k1 k2 k3 k4 k5 k6 k7 k8 k9 k10 k11 k12 (nI mc) (nI (bty30 + 1)) thr ky ro ln kd nb sc wa sm ld lo lw (upd ty30 bty30 10)) H := hP
    replace hD : va_D A (wK G k0 k1 k2 k3 k4 k5 k6 k7 k8 k9 k10 k11 k12 (nI mc) (nI (bty30 + 1)) thr ky ro ln kd nb sc wa sm ld lo lw (upd ty30 bty30 10)) := hD
    exact W.vret hx hb hr (fun tZ hZ hW => ⟨⟨wK G k0 k1 k2 k3 k4 k5 k6 k7 k8 k9 k10 k11 k12 (nI mc) (nI (bty30 + 1)) thr ky ro ln kd nb sc wa sm ld lo lw (upd ty30 bty30 10), rfl, ⟨bty30 + 1, (upd ty30 bty30 10), by simp only [md_line, if_pos c20, if_pos c109, List.length_append, List.length_cons, List.length_nil]; omega, rfl, by simp only [md_line, md_let, if_pos c20, if_pos c109]; exact (wrote.ap (wrote.ap (wrote.ap (wrote.ap (wrote.put tx 0 82) hwty26 (by first | rfl | (simp only [List.length_append, List.length_cons, List.length_nil]; done) | (simp only [List.length_append, List.length_cons, List.length_nil]; omega))) hwty28 (by first | rfl | (simp only [List.length_append, List.length_cons, List.length_nil]; done) | (simp only [List.length_append, List.length_cons, List.length_nil]; omega))) hwty30 (by first | rfl | (simp only [List.length_append, List.length_cons, List.length_nil]; done) | (simp only [List.length_append, List.length_cons, List.length_nil]; omega))) (wrote.put ty30 bty30 10) (by first | rfl | (simp only [List.length_append, List.length_cons, List.length_nil]; done) | (simp only [List.length_append, List.length_cons, List.length_nil]; omega)))⟩, by show va_P _ _ _ tZ.heap; rw [hZ]; exact hP⟩, hS.F hZ⟩) hS.2.2 dX4_print_130
  refine lv_aload_n hx hb dX4_print_112 rfl (lv_at hl 1 rfl) ?_
  refine lv_bipush (v := 32) hx hb dX4_print_113 (by decide) ?_
  refine va_callv (va_runV (As := [.int 32]) (rest := []) ⟨hx, hb, hml, hown, hts⟩ (ct_X4_put l G k0 k1 k2 k3 k4 k5 k6 k7 k8 k9 k10 k11 k12 mc bty30 thr ky ro ln kd nb sc wa sm ld lo lw ty30 32 (by omega)) (cwV 1 hts gX4_print_X4_put rfl rfl rfl (by decide +kernel) ⟨Nat.le_of_ble_eq_true rfl, Nat.le_of_ble_eq_true rfl⟩) (WrP.preV 0 5 rfl rfl (x_mid ([]) (wK G k0 k1 k2 k3 k4 k5 k6 k7 k8 k9 k10 k11 k12 (nI mc) (nI bty30) thr ky ro ln kd nb sc wa sm ld lo lw ty30) ([]) rfl hP) hE (x_midD ([]) (wK G k0 k1 k2 k3 k4 k5 k6 k7 k8 k9 k10 k11 k12 (nI mc) (nI bty30) thr ky ro ln kd nb sc wa sm ld lo lw ty30) ([]) rfl hD)) rfl rfl hl.1 rfl (lv_room (Nat.le_of_ble_eq_true rfl)) dX4_print_115 ⟨Nat.zero_le _, Nat.zero_le _⟩) hS (fun q _ h => (x_adr ([]) (wK G k0 k1 k2 k3 k4 k5 k6 k7 k8 k9 k10 k11 k12 (nI mc) (nI bty30) thr ky ro ln kd nb sc wa sm ld lo lw ty30) ([]) rfl hD) q h) (x_adr ([]) (wK G k0 k1 k2 k3 k4 k5 k6 k7 k8 k9 k10 k11 k12 (nI mc) (nI bty30) thr ky ro ln kd nb sc wa sm ld lo lw ty30) ([]) rfl hD) (fun u t H1 locs ht hvm hw hB hz1 hk1 hS => ?_)
  rw [ht] at hB
  rcases hw with rfl
  obtain ⟨hP, hD⟩ := x_join ([]) (wK G k0 k1 k2 k3 k4 k5 k6 k7 k8 k9 k10 k11 k12 (nI mc) (nI bty30) thr ky ro ln kd nb sc wa sm ld lo lw ty30) ([]) (wK G k0 k1 k2 k3 k4 k5 k6 k7 k8 k9 k10 k11 k12 (nI mc) (nI (bty30 + 1)) thr ky ro ln kd nb sc wa sm ld lo lw (upd ty30 bty30 32)) rfl hP hD hk1 hB rfl
  generalize H1 = H at hP hS ⊢
  replace hP : va_P G.1 vwCl (wK G k0 k1 k2 k3 k4 k5 k6 k7 k8 k9 k10 k11 k12 (nI mc) (nI (bty30 + 1)) thr ky ro ln kd nb sc wa sm ld lo lw (upd ty30 bty30 32)) H := hP
  replace hD : va_D A (wK G k0 k1 k2 k3 k4 k5 k6 k7 k8 k9 k10 k11 k12 (nI mc) (nI (bty30 + 1)) thr ky ro ln kd nb sc wa sm ld lo lw (upd ty30 bty30 32)) := hD
  refine lv_aload_n hx hb dX4_print_118 rfl (lv_at hl 1 rfl) ?_
  refine lv_bipush (v := 42) hx hb dX4_print_119 (by decide) ?_
  refine va_callv (va_runV (As := [.int 42]) (rest := []) ⟨hx, hb, hml, hown, hts⟩ (ct_X4_put l G k0 k1 k2 k3 k4 k5 k6 k7 k8 k9 k10 k11 k12 mc (bty30 + 1) thr ky ro ln kd nb sc wa sm ld lo lw (upd ty30 bty30 32) 42 (by omega)) (cwV 1 hts gX4_print_X4_put rfl rfl rfl (by decide +kernel) ⟨Nat.le_of_ble_eq_true rfl, Nat.le_of_ble_eq_true rfl⟩) (WrP.preV 0 5 rfl rfl (x_mid ([]) (wK G k0 k1 k2 k3 k4 k5 k6 k7 k8 k9 k10 k11 k12 (nI mc) (nI (bty30 + 1)) thr ky ro ln kd nb sc wa sm ld lo lw (upd ty30 bty30 32)) ([]) rfl hP) hE (x_midD ([]) (wK G k0 k1 k2 k3 k4 k5 k6 k7 k8 k9 k10 k11 k12 (nI mc) (nI (bty30 + 1)) thr ky ro ln kd nb sc wa sm ld lo lw (upd ty30 bty30 32)) ([]) rfl hD)) rfl rfl hl.1 rfl (lv_room (Nat.le_of_ble_eq_true rfl)) dX4_print_121 ⟨Nat.zero_le _, Nat.zero_le _⟩) hS (fun q _ h => (x_adr ([]) (wK G k0 k1 k2 k3 k4 k5 k6 k7 k8 k9 k10 k11 k12 (nI mc) (nI (bty30 + 1)) thr ky ro ln kd nb sc wa sm ld lo lw (upd ty30 bty30 32)) ([]) rfl hD) q h) (x_adr ([]) (wK G k0 k1 k2 k3 k4 k5 k6 k7 k8 k9 k10 k11 k12 (nI mc) (nI (bty30 + 1)) thr ky ro ln kd nb sc wa sm ld lo lw (upd ty30 bty30 32)) ([]) rfl hD) (fun u t H1 locs ht hvm hw hB hz1 hk1 hS => ?_)
  rw [ht] at hB
  rcases hw with rfl
  obtain ⟨hP, hD⟩ := x_join ([]) (wK G k0 k1 k2 k3 k4 k5 k6 k7 k8 k9 k10 k11 k12 (nI mc) (nI (bty30 + 1)) thr ky ro ln kd nb sc wa sm ld lo lw (upd ty30 bty30 32)) ([]) (wK G k0 k1 k2 k3 k4 k5 k6 k7 k8 k9 k10 k11 k12 (nI mc) (nI (bty30 + 1 + 1)) thr ky ro ln kd nb sc wa sm ld lo lw (upd (upd ty30 bty30 32) (bty30 + 1) 42)) rfl hP hD hk1 hB rfl
  generalize H1 = H at hP hS ⊢
  replace hP : va_P G.1 vwCl (wK G k0 k1 k2 k3 k4 k5 k6 k7 k8 k9 k10 k11 k12 (nI mc) (nI (bty30 + 1 + 1)) thr ky ro ln kd nb sc wa sm ld lo lw (upd (upd ty30 bty30 32) (bty30 + 1) 42)) H := hP
  replace hD : va_D A (wK G k0 k1 k2 k3 k4 k5 k6 k7 k8 k9 k10 k11 k12 (nI mc) (nI (bty30 + 1 + 1)) thr ky ro ln kd nb sc wa sm ld lo lw (upd (upd ty30 bty30 32) (bty30 + 1) 42)) := hD
  refine lv_aload_n hx hb dX4_print_124 rfl (lv_at hl 1 rfl) ?_
  refine lv_bipush (v := 10) hx hb dX4_print_125 (by decide) ?_
  refine va_callv (va_runV (As := [.int 10]) (rest := []) ⟨hx, hb, hml, hown, hts⟩ (ct_X4_put l G k0 k1 k2 k3 k4 k5 k6 k7 k8 k9 k10 k11 k12 mc (bty30 + 1 + 1) thr ky ro ln kd nb sc wa sm ld lo lw (upd (upd ty30 bty30 32) (bty30 + 1) 42) 10 (by omega)) (cwV 1 hts gX4_print_X4_put rfl rfl rfl (by decide +kernel) ⟨Nat.le_of_ble_eq_true rfl, Nat.le_of_ble_eq_true rfl⟩) (WrP.preV 0 5 rfl rfl (x_mid ([]) (wK G k0 k1 k2 k3 k4 k5 k6 k7 k8 k9 k10 k11 k12 (nI mc) (nI (bty30 + 1 + 1)) thr ky ro ln kd nb sc wa sm ld lo lw (upd (upd ty30 bty30 32) (bty30 + 1) 42)) ([]) rfl hP) hE (x_midD ([]) (wK G k0 k1 k2 k3 k4 k5 k6 k7 k8 k9 k10 k11 k12 (nI mc) (nI (bty30 + 1 + 1)) thr ky ro ln kd nb sc wa sm ld lo lw (upd (upd ty30 bty30 32) (bty30 + 1) 42)) ([]) rfl hD)) rfl rfl hl.1 rfl (lv_room (Nat.le_of_ble_eq_true rfl)) dX4_print_127 ⟨Nat.zero_le _, Nat.zero_le _⟩) hS (fun q _ h => (x_adr ([]) (wK G k0 k1 k2 k3 k4 k5 k6 k7 k8 k9 k10 k11 k12 (nI mc) (nI (bty30 + 1 + 1)) thr ky ro ln kd nb sc wa sm ld lo lw (upd (upd ty30 bty30 32) (bty30 + 1) 42)) ([]) rfl hD) q h) (x_adr ([]) (wK G k0 k1 k2 k3 k4 k5 k6 k7 k8 k9 k10 k11 k12 (nI mc) (nI (bty30 + 1 + 1)) thr ky ro ln kd nb sc wa sm ld lo lw (upd (upd ty30 bty30 32) (bty30 + 1) 42)) ([]) rfl hD) (fun u t H1 locs ht hvm hw hB hz1 hk1 hS => ?_)
  rw [ht] at hB
  rcases hw with rfl
  obtain ⟨hP, hD⟩ := x_join ([]) (wK G k0 k1 k2 k3 k4 k5 k6 k7 k8 k9 k10 k11 k12 (nI mc) (nI (bty30 + 1 + 1)) thr ky ro ln kd nb sc wa sm ld lo lw (upd (upd ty30 bty30 32) (bty30 + 1) 42)) ([]) (wK G k0 k1 k2 k3 k4 k5 k6 k7 k8 k9 k10 k11 k12 (nI mc) (nI (bty30 + 1 + 1 + 1)) thr ky ro ln kd nb sc wa sm ld lo lw (upd (upd (upd ty30 bty30 32) (bty30 + 1) 42) (bty30 + 1 + 1) 10)) rfl hP hD hk1 hB rfl
  generalize H1 = H at hP hS ⊢
  replace hP : va_P G.1 vwCl (wK G k0 k1 k2 k3 k4 k5 k6 k7 k8 k9 k10 k11 k12 (nI mc) (nI (bty30 + 1 + 1 + 1)) thr ky ro ln kd nb sc wa sm ld lo lw (upd (upd (upd ty30 bty30 32) (bty30 + 1) 42) (bty30 + 1 + 1) 10)) H := hP
  replace hD : va_D A (wK G k0 k1 k2 k3 k4 k5 k6 k7 k8 k9 k10 k11 k12 (nI mc) (nI (bty30 + 1 + 1 + 1)) thr ky ro ln kd nb sc wa sm ld lo lw (upd (upd (upd ty30 bty30 32) (bty30 + 1) 42) (bty30 + 1 + 1) 10)) := hD
  exact W.vret hx hb hr (fun tZ hZ hW => ⟨⟨wK G k0 k1 k2 k3 k4 k5 k6 k7 k8 k9 k10 k11 k12 (nI mc) (nI (bty30 + 1 + 1 + 1)) thr ky ro ln kd nb sc wa sm ld lo lw (upd (upd (upd ty30 bty30 32) (bty30 + 1) 42) (bty30 + 1 + 1) 10), rfl, ⟨bty30 + 1 + 1 + 1, (upd (upd (upd ty30 bty30 32) (bty30 + 1) 42) (bty30 + 1 + 1) 10), by simp only [md_line, if_pos c20, if_neg c109, List.length_append, List.length_cons, List.length_nil]; omega, rfl, by simp only [md_line, md_let, if_pos c20, if_neg c109]; exact (wrote.ap (wrote.ap (wrote.ap (wrote.ap (wrote.ap (wrote.ap (wrote.put tx 0 82) hwty26 (by first | rfl | (simp only [List.length_append, List.length_cons, List.length_nil]; done) | (simp only [List.length_append, List.length_cons, List.length_nil]; omega))) hwty28 (by first | rfl | (simp only [List.length_append, List.length_cons, List.length_nil]; done) | (simp only [List.length_append, List.length_cons, List.length_nil]; omega))) hwty30 (by first | rfl | (simp only [List.length_append, List.length_cons, List.length_nil]; done) | (simp only [List.length_append, List.length_cons, List.length_nil]; omega))) (wrote.put ty30 bty30 32) (by first | rfl | (simp only [List.length_append, List.length_cons, List.length_nil]; done) | (simp only [List.length_append, List.length_cons, List.length_nil]; omega))) (wrote.put (upd ty30 bty30 32) (bty30 + 1) 42) (by first | rfl | (simp only [List.length_append, List.length_cons, List.length_nil]; done) | (simp only [List.length_append, List.length_cons, List.length_nil]; omega))) (wrote.put (upd (upd ty30 bty30 32) (bty30 + 1) 42) (bty30 + 1 + 1) 10) (by first | rfl | (simp only [List.length_append, List.length_cons, List.length_nil]; done) | (simp only [List.length_append, List.length_cons, List.length_nil]; omega)))⟩, by show va_P _ _ _ tZ.heap; rw [hZ]; exact hP⟩, hS.F hZ⟩) hS.2.2 dX4_print_130

set_option maxHeartbeats 4000000 in
set_option maxRecDepth 100000 in
/-- X4_roll, present -/
theorem ct_X4_roll (l : Launch) (G : Gx) (k0 k1 k2 k3 k4 k5 k6 k7 k8 k9 k10 k11 k12 : Nat) (mc : Nat) (len thr : Int32) (ky : Nat → Int64) (ro ln kd : Nat → Int32) (nb sc : Nat → Int64) (wa : Nat → Int32) (sm : Nat → Int64) (ld : Nat → Int32) (lo lw : Nat → Int64) (tx : Nat → Int32) (j n t : Nat) (ix : Int32) (hmc : mc ≤ 8) (hj : j < mc) (hn2 : n ≤ 200) (hro : ro j = nI n) (ht : t ≤ 16) (hln : ln j = nI t) (hrok : ∀ i, i < n → md_rok nb sc wa j i) : Met l yX4_roll wsX4_roll ({ frames := 3, cells := 0, slots := 0, locals := 71 }) (WrP G (wK G k0 k1 k2 k3 k4 k5 k6 k7 k8 k9 k10 k11 k12 (nI mc) len thr ky ro ln kd nb sc wa sm ld lo lw tx) [.ref k0, .int (nI j), .int ix]) (va_Qi (fun r (u : va_W) => r = md_roll kd nb sc wa j n ix ∧ ∃ (le : Int32) (ty : Nat → Int32), u = wK G k0 k1 k2 k3 k4 k5 k6 k7 k8 k9 k10 k11 k12 (nI mc) le 0 ky ro ln kd nb sc wa sm ld lo lw ty) (fun u t => va_P G.1 vwCl u t.heap) (adr (wK G k0 k1 k2 k3 k4 k5 k6 k7 k8 k9 k10 k11 k12 (nI mc) len thr ky ro ln kd nb sc wa sm ld lo lw tx))) 0 0 (adr (wK G k0 k1 k2 k3 k4 k5 k6 k7 k8 k9 k10 k11 k12 (nI mc) len thr ky ro ln kd nb sc wa sm ld lo lw tx)) := by
  refine Met.ofW (cc := cX4_roll) (maxL := 5) (ret := (some .int)) (by decide) rfl ?_
  intro p e s m args below meth c s₁ B hml hv
  obtain ⟨rfl, hP, hE, hD0⟩ := hv
  have hx := B.exec
  have hb := B.bytes
  have hr := B.returns
  have hts := atoms_spec (ws := wsX4_roll) B.pre
  have hown : s.vm.findClass RX4 = some m.cls := findClass_of_methodNamed B.named
  have hlocks := B.notSynchronized
  have hD : va_D (adr (wK G k0 k1 k2 k3 k4 k5 k6 k7 k8 k9 k10 k11 k12 (nI mc) len thr ky ro ln kd nb sc wa sm ld lo lw tx)) (wK G k0 k1 k2 k3 k4 k5 k6 k7 k8 k9 k10 k11 k12 (nI mc) len thr ky ro ln kd nb sc wa sm ld lo lw tx) := ⟨hD0.1, fun k q hk => ⟨k, q.2, hk⟩⟩
  generalize adr (wK G k0 k1 k2 k3 k4 k5 k6 k7 k8 k9 k10 k11 k12 (nI mc) len thr ky ro ln kd nb sc wa sm ld lo lw tx) = A at hD ⊢
  have hS : va_S A s.heap s.heap [] := va_S.rf
  have hiX4 : ∀ w ∈ wsX40, w ∈ wsX4_roll := by decide +kernel
  have hl := lv_entry ([.ref k0, .int (nI j), .int ix]) (n := 5) (Nat.le_of_ble_eq_true rfl)
  rw [lg_entry_eq]
  generalize (lg_sl ([.ref k0, .int (nI j), .int ix]) ++ List.replicate (5 - (lg_sl ([.ref k0, .int (nI j), .int ix])).length) Slot.unset).toArray = ls at hl ⊢
  replace hl : lv_has ls 5 [(0, .ref k0), (1, .int (nI j)), (2, .int ix)] := hl
  have hm : ¬ f_holds (nI mc) (nI j) = 0 := (f_holds_iff (by omega) _).mpr ⟨j, hj, rfl⟩
  replace hj : j < 8 := by omega
  refine lv_aload_n hx hb dX4_roll_0 rfl (lv_at hl 0 rfl) ?_
  refine lv_iconst (v := 0) hx hb dX4_roll_1 (by decide) ?_
  refine va_put (D := G.1) (ci := 5) (v := .int 0) (ty := .int) (C := RX4) (T := TX4) (N := 15) hx hb hts hiX4 tyX4 tyX4_ok nmX4 hown hE.1 hP hD hS 0 rfl rfl 14 (by decide) (hts (.fieldLink RX4 47 "MeterSealsModel" "thrown" "I") (by decide +kernel)) (fun _ h9 => h9) rfl (by decide +kernel) rfl rfl (Nat.le_of_ble_eq_true rfl) dX4_roll_2 (fun H locs hP hD hS => ?_)
  replace hP : va_P G.1 vwCl (wK G k0 k1 k2 k3 k4 k5 k6 k7 k8 k9 k10 k11 k12 (nI mc) len 0 ky ro ln kd nb sc wa sm ld lo lw tx) H := hP
  replace hD : va_D A (wK G k0 k1 k2 k3 k4 k5 k6 k7 k8 k9 k10 k11 k12 (nI mc) len 0 ky ro ln kd nb sc wa sm ld lo lw tx) := hD
  refine lv_aload_n hx hb dX4_roll_5 rfl (lv_at hl 0 rfl) ?_
  refine lv_iload_n hx hb dX4_roll_6 rfl (lv_at hl 1 rfl) ?_
  refine x_ri (va_runV (As := [.int (nI j)]) (rest := []) ⟨hx, hb, hml, hown, hts⟩ (ct_X4_isMeter l G k0 k1 k2 k3 k4 k5 k6 k7 k8 k9 k10 k11 k12 mc len 0 ky ro ln kd nb sc wa sm ld lo lw tx (nI j)) (cwV 1 hts gX4_roll_X4_isMeter rfl rfl rfl (by decide +kernel) ⟨Nat.le_of_ble_eq_true rfl, Nat.le_of_ble_eq_true rfl⟩) (RdP.preV 0 5 rfl rfl hP hE) rfl rfl hl.1 rfl (lv_room (Nat.le_of_ble_eq_true rfl)) dX4_roll_7 ⟨Nat.zero_le _, Nat.zero_le _⟩) (fun r1 er1 => ?_)
  subst er1
  refine lv_if_eq (tgt := 17) hx hb dX4_roll_10 (by decide) (fun c10 => absurd c10 hm) (fun c10 => ?_)
  refine lv_iload_n hx hb dX4_roll_13 rfl (lv_at hl 2 rfl) ?_
  refine lv_if_ge (tgt := 19) hx hb dX4_roll_14 (by decide) (fun c14 => ?_) (fun c14 => ?_)
  · refine lv_iload_n hx hb dX4_roll_19 rfl (lv_at hl 2 rfl) ?_
    refine lv_istore_n (lv' := [(3, .int ix), (0, .ref k0), (1, .int (nI j)), (2, .int ix)]) hx hb dX4_roll_20 rfl hl (by decide) rfl (fun ls hl => ?_)
    refine lv_iconst (v := 0) hx hb dX4_roll_21 (by decide) ?_
    refine lv_istore (lv' := [(4, .int 0), (3, .int ix), (0, .ref k0), (1, .int (nI j)), (2, .int ix)]) hx hb dX4_roll_22 hl (by decide) rfl (fun ls hl => ?_)
    obtain ⟨i, hi⟩ : ∃ i : Nat, i = 0 := ⟨_, rfl⟩
    obtain ⟨left, hle⟩ : ∃ x : Int32, x = ix := ⟨_, rfl⟩
    obtain ⟨le, hlen⟩ : ∃ x : Int32, x = len := ⟨_, rfl⟩
    obtain ⟨ty, hty⟩ : ∃ x : Nat → Int32, x = tx := ⟨_, rfl⟩
    replace hl : lv_has ls 5 [(4, .int (nI i)), (3, .int left), (0, .ref k0), (1, .int (nI j)), (2, .int ix)] := by rw [hi, hle]; exact hl
    replace hP : va_P G.1 vwCl (wK G k0 k1 k2 k3 k4 k5 k6 k7 k8 k9 k10 k11 k12 (nI mc) le 0 ky ro ln kd nb sc wa sm ld lo lw ty) H := by rw [hlen, hty]; exact hP
    replace hD : va_D A (wK G k0 k1 k2 k3 k4 k5 k6 k7 k8 k9 k10 k11 k12 (nI mc) le 0 ky ro ln kd nb sc wa sm ld lo lw ty) := by rw [hlen, hty]; exact hD
    replace hS := hS
    have h0 : 0 ≤ left := by rw [hle]; exact c14
    obtain ⟨k, hk⟩ : ∃ k : Nat, i + k = n := ⟨n - i, by omega⟩
    have hv : md_rollF kd nb sc wa j k i left = md_roll kd nb sc wa j n ix := by rw [hi, hle, show k = n by omega]; simp only [md_roll, if_pos c14]
    clear hi hle hlen hty
    induction k generalizing i ls H locs left le ty with
    | zero =>
      refine lv_iload hx hb dX4_roll_24 (lv_at hl 0 rfl) ?_
      refine lv_aload_n hx hb dX4_roll_26 rfl (lv_at hl 2 rfl) ?_
      refine va_get (D := G.1) (ci := 5) (v := .ref k2) (C := RX4) (T := TX4) (N := 15) hx hb hts hiX4 hown hE.1 hP 0 rfl rfl 1 (by decide) (hts (.fieldLink RX4 13 "MeterSealsModel" "rows" "[I") (by decide +kernel)) (fun _ h9 => h9) rfl dX4_roll_27 ?_
      refine lv_iload_n hx hb dX4_roll_30 rfl (lv_at hl 3 rfl) ?_
      refine va_iald hx hb hE.1 hP 2 0 rfl rfl (vp_in_nI (show j < 8 by omega) (by decide)) dX4_roll_31 ?_
      rw [nI_clamp (n := j) (by omega)]
      rw [hro]
      refine lv_icmp_ge (tgt := 70) hx hb dX4_roll_32 (by decide) (fun c32 => ?_) (fun c32 => absurd (nI_le (by omega) (by omega)) c32)
      refine lv_iconst (v := (-1)) hx hb dX4_roll_70 (by decide) ?_
      exact W.iret (v := (-1)) hx hb hr (fun tZ hZ hW => ⟨⟨(-1), wK G k0 k1 k2 k3 k4 k5 k6 k7 k8 k9 k10 k11 k12 (nI mc) le 0 ky ro ln kd nb sc wa sm ld lo lw ty, rfl, ⟨by rw [← hv]; rfl, _, _, rfl⟩, by show va_P _ _ _ tZ.heap; rw [hZ]; exact hP⟩, hS.F hZ⟩) hS.2.2 dX4_roll_71
    | succ k ih =>
      refine lv_iload hx hb dX4_roll_24 (lv_at hl 0 rfl) ?_
      refine lv_aload_n hx hb dX4_roll_26 rfl (lv_at hl 2 rfl) ?_
      refine va_get (D := G.1) (ci := 5) (v := .ref k2) (C := RX4) (T := TX4) (N := 15) hx hb hts hiX4 hown hE.1 hP 0 rfl rfl 1 (by decide) (hts (.fieldLink RX4 13 "MeterSealsModel" "rows" "[I") (by decide +kernel)) (fun _ h9 => h9) rfl dX4_roll_27 ?_
      refine lv_iload_n hx hb dX4_roll_30 rfl (lv_at hl 3 rfl) ?_
      refine va_iald hx hb hE.1 hP 2 0 rfl rfl (vp_in_nI (show j < 8 by omega) (by decide)) dX4_roll_31 ?_
      rw [nI_clamp (n := j) (by omega)]
      rw [hro]
      refine lv_icmp_ge (tgt := 70) hx hb dX4_roll_32 (by decide) (fun c32 => absurd c32 (nI_ge (by omega) (by omega))) (fun c32 => ?_)
      refine lv_aload_n hx hb dX4_roll_35 rfl (lv_at hl 2 rfl) ?_
      refine lv_iload_n hx hb dX4_roll_36 rfl (lv_at hl 3 rfl) ?_
      refine lv_iload hx hb dX4_roll_37 (lv_at hl 0 rfl) ?_
      refine va_callv (va_runV (As := [.int (nI j), .int (nI i)]) (rest := []) ⟨hx, hb, hml, hown, hts⟩ (ct_X4_print l G k0 k1 k2 k3 k4 k5 k6 k7 k8 k9 k10 k11 k12 mc le 0 ky ro ln kd nb sc wa sm ld lo lw ty j i hj (by omega) (hrok i (by omega))) (cwV 2 hts gX4_roll_X4_print rfl rfl rfl (by decide +kernel) ⟨Nat.le_of_ble_eq_true rfl, Nat.le_of_ble_eq_true rfl⟩) (WrP.preV 0 5 rfl rfl (x_mid ([]) (wK G k0 k1 k2 k3 k4 k5 k6 k7 k8 k9 k10 k11 k12 (nI mc) le 0 ky ro ln kd nb sc wa sm ld lo lw ty) ([]) rfl hP) hE (x_midD ([]) (wK G k0 k1 k2 k3 k4 k5 k6 k7 k8 k9 k10 k11 k12 (nI mc) le 0 ky ro ln kd nb sc wa sm ld lo lw ty) ([]) rfl hD)) rfl rfl hl.1 rfl (lv_room (Nat.le_of_ble_eq_true rfl)) dX4_roll_39 ⟨Nat.zero_le _, Nat.zero_le _⟩) hS (fun q _ h => (x_adr ([]) (wK G k0 k1 k2 k3 k4 k5 k6 k7 k8 k9 k10 k11 k12 (nI mc) le 0 ky ro ln kd nb sc wa sm ld lo lw ty) ([]) rfl hD) q h) (x_adr ([]) (wK G k0 k1 k2 k3 k4 k5 k6 k7 k8 k9 k10 k11 k12 (nI mc) le 0 ky ro ln kd nb sc wa sm ld lo lw ty) ([]) rfl hD) (fun u t H1 locs ht hvm hw hB hz1 hk1 hS => ?_)
      rw [ht] at hB
      rcases hw with ⟨bty2, ty2, hbty2, rfl, hwty2⟩
      obtain ⟨hP, hD⟩ := x_join ([]) (wK G k0 k1 k2 k3 k4 k5 k6 k7 k8 k9 k10 k11 k12 (nI mc) le 0 ky ro ln kd nb sc wa sm ld lo lw ty) ([]) (wK G k0 k1 k2 k3 k4 k5 k6 k7 k8 k9 k10 k11 k12 (nI mc) (nI bty2) 0 ky ro ln kd nb sc wa sm ld lo lw ty2) rfl hP hD hk1 hB rfl
      generalize H1 = H at hP hS ⊢
      replace hP : va_P G.1 vwCl (wK G k0 k1 k2 k3 k4 k5 k6 k7 k8 k9 k10 k11 k12 (nI mc) (nI bty2) 0 ky ro ln kd nb sc wa sm ld lo lw ty2) H := hP
      replace hD : va_D A (wK G k0 k1 k2 k3 k4 k5 k6 k7 k8 k9 k10 k11 k12 (nI mc) (nI bty2) 0 ky ro ln kd nb sc wa sm ld lo lw ty2) := hD
      have hL80 := md_line_le (kd := kd) (hrok i (by omega))
      refine lv_iload_n hx hb dX4_roll_42 rfl (lv_at hl 1 rfl) ?_
      refine lv_aload_n hx hb dX4_roll_43 rfl (lv_at hl 2 rfl) ?_
      refine va_get (D := G.1) (ci := 5) (v := .int (nI bty2)) (C := RX4) (T := TX4) (N := 15) hx hb hts hiX4 hown hE.1 hP 0 rfl rfl 13 (by decide) (hts (.fieldLink RX4 115 "MeterSealsModel" "length" "I") (by decide +kernel)) (fun _ h9 => h9) rfl dX4_roll_44 ?_
      refine lv_icmp_ge (tgt := 57) hx hb dX4_roll_47 (by decide) (fun c47 => ?_) (fun c47 => ?_)
      · refine lv_iload_n hx hb dX4_roll_57 rfl (lv_at hl 1 rfl) ?_
        refine lv_aload_n hx hb dX4_roll_58 rfl (lv_at hl 2 rfl) ?_
        refine va_get (D := G.1) (ci := 5) (v := .int (nI bty2)) (C := RX4) (T := TX4) (N := 15) hx hb hts hiX4 hown hE.1 hP 0 rfl rfl 13 (by decide) (hts (.fieldLink RX4 115 "MeterSealsModel" "length" "I") (by decide +kernel)) (fun _ h9 => h9) rfl dX4_roll_59 ?_
        refine lv_isub hx hb dX4_roll_62 ?_
        refine lv_istore_n (lv' := [(3, .int (left - (nI bty2))), (4, .int (nI i)), (0, .ref k0), (1, .int (nI j)), (2, .int ix)]) hx hb dX4_roll_63 rfl hl (by decide) rfl (fun ls hl => ?_)
        refine lv_iinc (v := (nI (i + 1))) (lv' := [(4, .int (nI (i + 1))), (3, .int (left - (nI bty2))), (0, .ref k0), (1, .int (nI j)), (2, .int ix)]) hx hb dX4_roll_64 hl (k := 1) rfl (nI_1 i) (by decide) rfl (fun ls hl => ?_)
        refine lv_goto (tgt := 24) hx hb dX4_roll_67 (by decide) ?_
        exact ih _ _ _ _ _ _ _ (lv_sub hl [0, 1, 2, 3, 4] rfl) hP hD hS (left_sub h0 c47 (by rw [hbty2]; exact hL80)) (by omega) (by rw [← hv]; simp only [md_rollF]; rw [← hbty2, if_pos c47])
      obtain ⟨q, hq, hlq⟩ := left_in h0 (by rw [← hbty2]; exact c47) hL80
      refine lv_aload_n hx hb dX4_roll_50 rfl (lv_at hl 2 rfl) ?_
      refine va_get (D := G.1) (ci := 5) (v := .ref k12) (C := RX4) (T := TX4) (N := 15) hx hb hts hiX4 hown hE.1 hP 0 rfl rfl 12 (by decide) (hts (.fieldLink RX4 44 "MeterSealsModel" "text" "[I") (by decide +kernel)) (fun _ h9 => h9) rfl dX4_roll_51 ?_
      refine lv_iload_n hx hb dX4_roll_54 rfl (lv_at hl 1 rfl) ?_
      refine va_iald hx hb hE.1 hP 12 0 rfl rfl (by rw [hlq]; exact vp_in_nI (by omega) (by decide)) dX4_roll_55 ?_
      rw [show ty2 left.toNatClampNeg = (md_line kd nb sc wa j i).getD left.toNatClampNeg 0 from by rw [hlq, nI_clamp (by omega)]; exact hwty2.at hq]
      exact W.iret (v := ((md_line kd nb sc wa j i).getD left.toNatClampNeg 0)) hx hb hr (fun tZ hZ hW => ⟨⟨((md_line kd nb sc wa j i).getD left.toNatClampNeg 0), wK G k0 k1 k2 k3 k4 k5 k6 k7 k8 k9 k10 k11 k12 (nI mc) (nI bty2) 0 ky ro ln kd nb sc wa sm ld lo lw ty2, rfl, ⟨by rw [← hv]; simp only [md_rollF]; rw [← hbty2, if_neg c47], _, _, rfl⟩, by show va_P _ _ _ tZ.heap; rw [hZ]; exact hP⟩, hS.F hZ⟩) hS.2.2 dX4_roll_56
  refine lv_iconst (v := (-1)) hx hb dX4_roll_17 (by decide) ?_
  exact W.iret (v := (-1)) hx hb hr (fun tZ hZ hW => ⟨⟨(-1), wK G k0 k1 k2 k3 k4 k5 k6 k7 k8 k9 k10 k11 k12 (nI mc) len 0 ky ro ln kd nb sc wa sm ld lo lw tx, rfl, ⟨by simp only [md_roll, if_neg c14], _, _, rfl⟩, by show va_P _ _ _ tZ.heap; rw [hZ]; exact hP⟩, hS.F hZ⟩) hS.2.2 dX4_roll_18
