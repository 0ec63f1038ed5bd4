set_option maxHeartbeats 4000000 in
set_option maxRecDepth 100000 in
/-- MeterSealsModel() -/
theorem ct_X4_init (l : Launch) (G : Gx) (sz : Nat) (k0 : Nat) : Met l yX4_init wsX4_init ({ frames := 1, cells := 12, slots := 8488, locals := 12 }) (NwP G sz ([(k0, .inr (5, [.null, .null, .null, .int 0, .null, .null, .null, .null, .null, .null, .null, .null, .null, .int 0, .int 0]))]) [.ref k0]) (va_Qv (fun (u : va_W) => ∃ k1 k2 k3 k4 k5 k6 k7 k8 k9 k10 k11 k12 : Nat, u = wK G k0 k1 k2 k3 k4 k5 k6 k7 k8 k9 k10 k11 k12 0 0 0 (fun _ => 0) (fun _ => 0) (fun _ => 0) (fun _ => 0) (fun _ => 0) (fun _ => 0) (fun _ => 0) (fun _ => 0) (fun _ => 0) (fun _ => 0) (fun _ => 0) (fun _ => 0)) (fun u t => va_P G.1 vwCl u t.heap ∧ va_D (va_A ([(k0, .inr (5, [.null, .null, .null, .int 0, .null, .null, .null, .null, .null, .null, .null, .null, .null, .int 0, .int 0]))]) sz) u) (va_A ([(k0, .inr (5, [.null, .null, .null, .int 0, .null, .null, .null, .null, .null, .null, .null, .null, .null, .int 0, .int 0]))]) sz)) 12 8488 (va_A ([(k0, .inr (5, [.null, .null, .null, .int 0, .null, .null, .null, .null, .null, .null, .null, .null, .null, .int 0, .int 0]))]) sz) := by
  refine Met.ofW (cc := cX4_init) (maxL := 1) (ret := none) (by decide) rfl ?_
  intro p e s m args below meth c s₁ B hml hv
  obtain ⟨rfl, hsz, hP, hE, hD0⟩ := hv
  have hx := B.exec
  have hb := B.bytes
  have hr := B.returns
  have hts := atoms_spec (ws := wsX4_init) B.pre
  have hown : s.vm.findClass RX4 = some m.cls := findClass_of_methodNamed B.named
  have hlocks := B.notSynchronized
  have hin : meth.name = "<init>" := (name_of_methodNamed B.named B.method).1
  subst hsz
  have hD := hD0.self (sz := s.heap.size)
  generalize hAe : va_A ([(k0, .inr (5, [.null, .null, .null, .int 0, .null, .null, .null, .null, .null, .null, .null, .null, .null, .int 0, .int 0]))]) s.heap.size = A at hD ⊢
  have hA : ∀ q : Nat, s.heap.size ≤ q → A q := fun q h => by rw [← hAe]; exact Or.inr h
  have hS : va_S A s.heap s.heap [] := va_S.rf
  have hiX4 : ∀ w ∈ wsX40, w ∈ wsX4_init := by decide +kernel
  have hl := lv_entry ([.ref k0]) (n := 1) (Nat.le_of_ble_eq_true rfl)
  rw [lg_entry_eq]
  generalize (lg_sl ([.ref k0]) ++ List.replicate (1 - (lg_sl ([.ref k0])).length) Slot.unset).toArray = ls at hl ⊢
  replace hl : lv_has ls 1 [(0, .ref k0)] := hl
  refine lv_aload_n hx hb dX4_init_0 rfl (lv_at hl 0 rfl) ?_
  refine W.objInit hx hb hown (hts (.methodLink RX4 1 objectInit) (by decide +kernel)) (hts (.instanceMethod objectInit) (by decide +kernel)) (hts (.code objectInit ⟨#[0xb1]⟩ 1 none) (by decide +kernel)) rfl (by rw [hml]; exact hl.1) rfl dX4_init_1 (Nat.le_of_ble_eq_true rfl) (Nat.le_of_ble_eq_true rfl) ?_
  refine W.eq (g2 := F0 m 4 ls []) rfl ?_
  refine lv_aload_n hx hb dX4_init_4 rfl (lv_at hl 0 rfl) ?_
  refine lv_bipush (v := 8) hx hb dX4_init_5 (by decide) ?_
  refine x_newJ (N := 8) hx hb (hts (.arrayClass .long) (by decide +kernel)) hE hP hD hS hA (by decide) (by decide) (by decide) (Nat.le_of_ble_eq_true rfl) (Nat.le_of_ble_eq_true rfl) dX4_init_7 (fun q1 H hP hD hS => ?_)
  replace hP : va_P G.1 vwCl ([(k0, .inr (5, [.null, .null, .null, .int 0, .null, .null, .null, .null, .null, .null, .null, .null, .null, .int 0, .int 0])), (q1, .inl (kJ G, 8, .inr (.inl (fun _ => 0))))]) H := hP
  replace hD : va_D A ([(k0, .inr (5, [.null, .null, .null, .int 0, .null, .null, .null, .null, .null, .null, .null, .null, .null, .int 0, .int 0])), (q1, .inl (kJ G, 8, .inr (.inl (fun _ => 0))))]) := hD
  refine va_putF (D := G.1) (ci := 5) (v := .ref q1) (ty := .array .long) (C := RX4) (T := TX4) (N := 15) hx hb hts hiX4 tyX4 tyX4_ok nmX4 hown hE.1 hP hD hS 0 rfl rfl 0 (by decide) (hts (.fieldLink RX4 9 "MeterSealsModel" "keys" "[J") (by decide +kernel)) (fun _ h9 => h9) rfl hin rfl (by decide +kernel) rfl rfl (Nat.le_of_ble_eq_true rfl) dX4_init_9 (fun H locs hP hD hS => ?_)
  replace hP : va_P G.1 vwCl ([(k0, .inr (5, [.ref q1, .null, .null, .int 0, .null, .null, .null, .null, .null, .null, .null, .null, .null, .int 0, .int 0])), (q1, .inl (kJ G, 8, .inr (.inl (fun _ => 0))))]) H := hP
  replace hD : va_D A ([(k0, .inr (5, [.ref q1, .null, .null, .int 0, .null, .null, .null, .null, .null, .null, .null, .null, .null, .int 0, .int 0])), (q1, .inl (kJ G, 8, .inr (.inl (fun _ => 0))))]) := hD
  refine lv_aload_n hx hb dX4_init_12 rfl (lv_at hl 0 rfl) ?_
  refine lv_bipush (v := 8) hx hb dX4_init_13 (by decide) ?_
  refine x_newI (N := 8) hx hb (hts (.arrayClass .int) (by decide +kernel)) hE hP hD hS hA (by decide) (by decide) (by decide) (Nat.le_of_ble_eq_true rfl) (Nat.le_of_ble_eq_true rfl) dX4_init_15 (fun q2 H hP hD hS => ?_)
  replace hP : va_P G.1 vwCl ([(k0, .inr (5, [.ref q1, .null, .null, .int 0, .null, .null, .null, .null, .null, .null, .null, .null, .null, .int 0, .int 0])), (q1, .inl (kJ G, 8, .inr (.inl (fun _ => 0)))), (q2, .inl (kI G, 8, .inl (fun _ => 0)))]) H := hP
  replace hD : va_D A ([(k0, .inr (5, [.ref q1, .null, .null, .int 0, .null, .null, .null, .null, .null, .null, .null, .null, .null, .int 0, .int 0])), (q1, .inl (kJ G, 8, .inr (.inl (fun _ => 0)))), (q2, .inl (kI G, 8, .inl (fun _ => 0)))]) := hD
  refine va_putF (D := G.1) (ci := 5) (v := .ref q2) (ty := .array .int) (C := RX4) (T := TX4) (N := 15) hx hb hts hiX4 tyX4 tyX4_ok nmX4 hown hE.1 hP hD hS 0 rfl rfl 1 (by decide) (hts (.fieldLink RX4 13 "MeterSealsModel" "rows" "[I") (by decide +kernel)) (fun _ h9 => h9) rfl hin rfl (by decide +kernel) rfl rfl (Nat.le_of_ble_eq_true rfl) dX4_init_17 (fun H locs hP hD hS => ?_)
  replace hP : va_P G.1 vwCl ([(k0, .inr (5, [.ref q1, .ref q2, .null, .int 0, .null, .null, .null, .null, .null, .null, .null, .null, .null, .int 0, .int 0])), (q1, .inl (kJ G, 8, .inr (.inl (fun _ => 0)))), (q2, .inl (kI G, 8, .inl (fun _ => 0)))]) H := hP
  replace hD : va_D A ([(k0, .inr (5, [.ref q1, .ref q2, .null, .int 0, .null, .null, .null, .null, .null, .null, .null, .null, .null, .int 0, .int 0])), (q1, .inl (kJ G, 8, .inr (.inl (fun _ => 0)))), (q2, .inl (kI G, 8, .inl (fun _ => 0)))]) := hD
  refine lv_aload_n hx hb dX4_init_20 rfl (lv_at hl 0 rfl) ?_
  refine lv_bipush (v := 8) hx hb dX4_init_21 (by decide) ?_
  refine x_newI (N := 8) hx hb (hts (.arrayClass .int) (by decide +kernel)) hE hP hD hS hA (by decide) (by decide) (by decide) (Nat.le_of_ble_eq_true rfl) (Nat.le_of_ble_eq_true rfl) dX4_init_23 (fun q3 H hP hD hS => ?_)
  replace hP : va_P G.1 vwCl ([(k0, .inr (5, [.ref q1, .ref q2, .null, .int 0, .null, .null, .null, .null, .null, .null, .null, .null, .null, .int 0, .int 0])), (q1, .inl (kJ G, 8, .inr (.inl (fun _ => 0)))), (q2, .inl (kI G, 8, .inl (fun _ => 0))), (q3, .inl (kI G, 8, .inl (fun _ => 0)))]) H := hP
  replace hD : va_D A ([(k0, .inr (5, [.ref q1, .ref q2, .null, .int 0, .null, .null, .null, .null, .null, .null, .null, .null, .null, .int 0, .int 0])), (q1, .inl (kJ G, 8, .inr (.inl (fun _ => 0)))), (q2, .inl (kI G, 8, .inl (fun _ => 0))), (q3, .inl (kI G, 8, .inl (fun _ => 0)))]) := hD
  refine va_putF (D := G.1) (ci := 5) (v := .ref q3) (ty := .array .int) (C := RX4) (T := TX4) (N := 15) hx hb hts hiX4 tyX4 tyX4_ok nmX4 hown hE.1 hP hD hS 0 rfl rfl 2 (by decide) (hts (.fieldLink RX4 17 "MeterSealsModel" "lines" "[I") (by decide +kernel)) (fun _ h9 => h9) rfl hin rfl (by decide +kernel) rfl rfl (Nat.le_of_ble_eq_true rfl) dX4_init_25 (fun H locs hP hD hS => ?_)
  replace hP : va_P G.1 vwCl ([(k0, .inr (5, [.ref q1, .ref q2, .ref q3, .int 0, .null, .null, .null, .null, .null, .null, .null, .null, .null, .int 0, .int 0])), (q1, .inl (kJ G, 8, .inr (.inl (fun _ => 0)))), (q2, .inl (kI G, 8, .inl (fun _ => 0))), (q3, .inl (kI G, 8, .inl (fun _ => 0)))]) H := hP
  replace hD : va_D A ([(k0, .inr (5, [.ref q1, .ref q2, .ref q3, .int 0, .null, .null, .null, .null, .null, .null, .null, .null, .null, .int 0, .int 0])), (q1, .inl (kJ G, 8, .inr (.inl (fun _ => 0)))), (q2, .inl (kI G, 8, .inl (fun _ => 0))), (q3, .inl (kI G, 8, .inl (fun _ => 0)))]) := hD
  refine lv_aload_n hx hb dX4_init_28 rfl (lv_at hl 0 rfl) ?_
  refine lv_sipush (v := 1600) hx hb dX4_init_29 (by decide) ?_
  refine x_newI (N := 1600) hx hb (hts (.arrayClass .int) (by decide +kernel)) hE hP hD hS hA (by decide) (by decide) (by decide) (Nat.le_of_ble_eq_true rfl) (Nat.le_of_ble_eq_true rfl) dX4_init_32 (fun q4 H hP hD hS => ?_)
  replace hP : va_P G.1 vwCl ([(k0, .inr (5, [.ref q1, .ref q2, .ref q3, .int 0, .null, .null, .null, .null, .null, .null, .null, .null, .null, .int 0, .int 0])), (q1, .inl (kJ G, 8, .inr (.inl (fun _ => 0)))), (q2, .inl (kI G, 8, .inl (fun _ => 0))), (q3, .inl (kI G, 8, .inl (fun _ => 0))), (q4, .inl (kI G, 1600, .inl (fun _ => 0)))]) H := hP
  replace hD : va_D A ([(k0, .inr (5, [.ref q1, .ref q2, .ref q3, .int 0, .null, .null, .null, .null, .null, .null, .null, .null, .null, .int 0, .int 0])), (q1, .inl (kJ G, 8, .inr (.inl (fun _ => 0)))), (q2, .inl (kI G, 8, .inl (fun _ => 0))), (q3, .inl (kI G, 8, .inl (fun _ => 0))), (q4, .inl (kI G, 1600, .inl (fun _ => 0)))]) := hD
  refine va_putF (D := G.1) (ci := 5) (v := .ref q4) (ty := .array .int) (C := RX4) (T := TX4) (N := 15) hx hb hts hiX4 tyX4 tyX4_ok nmX4 hown hE.1 hP hD hS 0 rfl rfl 4 (by decide) (hts (.fieldLink RX4 20 "MeterSealsModel" "kind" "[I") (by decide +kernel)) (fun _ h9 => h9) rfl hin rfl (by decide +kernel) rfl rfl (Nat.le_of_ble_eq_true rfl) dX4_init_34 (fun H locs hP hD hS => ?_)
  replace hP : va_P G.1 vwCl ([(k0, .inr (5, [.ref q1, .ref q2, .ref q3, .int 0, .ref q4, .null, .null, .null, .null, .null, .null, .null, .null, .int 0, .int 0])), (q1, .inl (kJ G, 8, .inr (.inl (fun _ => 0)))), (q2, .inl (kI G, 8, .inl (fun _ => 0))), (q3, .inl (kI G, 8, .inl (fun _ => 0))), (q4, .inl (kI G, 1600, .inl (fun _ => 0)))]) H := hP
  replace hD : va_D A ([(k0, .inr (5, [.ref q1, .ref q2, .ref q3, .int 0, .ref q4, .null, .null, .null, .null, .null, .null, .null, .null, .int 0, .int 0])), (q1, .inl (kJ G, 8, .inr (.inl (fun _ => 0)))), (q2, .inl (kI G, 8, .inl (fun _ => 0))), (q3, .inl (kI G, 8, .inl (fun _ => 0))), (q4, .inl (kI G, 1600, .inl (fun _ => 0)))]) := hD
  refine lv_aload_n hx hb dX4_init_37 rfl (lv_at hl 0 rfl) ?_
  refine lv_sipush (v := 1600) hx hb dX4_init_38 (by decide) ?_
  refine x_newJ (N := 1600) hx hb (hts (.arrayClass .long) (by decide +kernel)) hE hP hD hS hA (by decide) (by decide) (by decide) (Nat.le_of_ble_eq_true rfl) (Nat.le_of_ble_eq_true rfl) dX4_init_41 (fun q5 H hP hD hS => ?_)
  replace hP : va_P G.1 vwCl ([(k0, .inr (5, [.ref q1, .ref q2, .ref q3, .int 0, .ref q4, .null, .null, .null, .null, .null, .null, .null, .null, .int 0, .int 0])), (q1, .inl (kJ G, 8, .inr (.inl (fun _ => 0)))), (q2, .inl (kI G, 8, .inl (fun _ => 0))), (q3, .inl (kI G, 8, .inl (fun _ => 0))), (q4, .inl (kI G, 1600, .inl (fun _ => 0))), (q5, .inl (kJ G, 1600, .inr (.inl (fun _ => 0))))]) H := hP
  replace hD : va_D A ([(k0, .inr (5, [.ref q1, .ref q2, .ref q3, .int 0, .ref q4, .null, .null, .null, .null, .null, .null, .null, .null, .int 0, .int 0])), (q1, .inl (kJ G, 8, .inr (.inl (fun _ => 0)))), (q2, .inl (kI G, 8, .inl (fun _ => 0))), (q3, .inl (kI G, 8, .inl (fun _ => 0))), (q4, .inl (kI G, 1600, .inl (fun _ => 0))), (q5, .inl (kJ G, 1600, .inr (.inl (fun _ => 0))))]) := hD
  refine va_putF (D := G.1) (ci := 5) (v := .ref q5) (ty := .array .long) (C := RX4) (T := TX4) (N := 15) hx hb hts hiX4 tyX4 tyX4_ok nmX4 hown hE.1 hP hD hS 0 rfl rfl 5 (by decide) (hts (.fieldLink RX4 23 "MeterSealsModel" "number" "[J") (by decide +kernel)) (fun _ h9 => h9) rfl hin rfl (by decide +kernel) rfl rfl (Nat.le_of_ble_eq_true rfl) dX4_init_43 (fun H locs hP hD hS => ?_)
  replace hP : va_P G.1 vwCl ([(k0, .inr (5, [.ref q1, .ref q2, .ref q3, .int 0, .ref q4, .ref q5, .null, .null, .null, .null, .null, .null, .null, .int 0, .int 0])), (q1, .inl (kJ G, 8, .inr (.inl (fun _ => 0)))), (q2, .inl (kI G, 8, .inl (fun _ => 0))), (q3, .inl (kI G, 8, .inl (fun _ => 0))), (q4, .inl (kI G, 1600, .inl (fun _ => 0))), (q5, .inl (kJ G, 1600, .inr (.inl (fun _ => 0))))]) H := hP
  replace hD : va_D A ([(k0, .inr (5, [.ref q1, .ref q2, .ref q3, .int 0, .ref q4, .ref q5, .null, .null, .null, .null, .null, .null, .null, .int 0, .int 0])), (q1, .inl (kJ G, 8, .inr (.inl (fun _ => 0)))), (q2, .inl (kI G, 8, .inl (fun _ => 0))), (q3, .inl (kI G, 8, .inl (fun _ => 0))), (q4, .inl (kI G, 1600, .inl (fun _ => 0))), (q5, .inl (kJ G, 1600, .inr (.inl (fun _ => 0))))]) := hD
  refine lv_aload_n hx hb dX4_init_46 rfl (lv_at hl 0 rfl) ?_
  refine lv_sipush (v := 1600) hx hb dX4_init_47 (by decide) ?_
  refine x_newJ (N := 1600) hx hb (hts (.arrayClass .long) (by decide +kernel)) hE hP hD hS hA (by decide) (by decide) (by decide) (Nat.le_of_ble_eq_true rfl) (Nat.le_of_ble_eq_true rfl) dX4_init_50 (fun q6 H hP hD hS => ?_)
  replace hP : va_P G.1 vwCl ([(k0, .inr (5, [.ref q1, .ref q2, .ref q3, .int 0, .ref q4, .ref q5, .null, .null, .null, .null, .null, .null, .null, .int 0, .int 0])), (q1, .inl (kJ G, 8, .inr (.inl (fun _ => 0)))), (q2, .inl (kI G, 8, .inl (fun _ => 0))), (q3, .inl (kI G, 8, .inl (fun _ => 0))), (q4, .inl (kI G, 1600, .inl (fun _ => 0))), (q5, .inl (kJ G, 1600, .inr (.inl (fun _ => 0)))), (q6, .inl (kJ G, 1600, .inr (.inl (fun _ => 0))))]) H := hP
  replace hD : va_D A ([(k0, .inr (5, [.ref q1, .ref q2, .ref q3, .int 0, .ref q4, .ref q5, .null, .null, .null, .null, .null, .null, .null, .int 0, .int 0])), (q1, .inl (kJ G, 8, .inr (.inl (fun _ => 0)))), (q2, .inl (kI G, 8, .inl (fun _ => 0))), (q3, .inl (kI G, 8, .inl (fun _ => 0))), (q4, .inl (kI G, 1600, .inl (fun _ => 0))), (q5, .inl (kJ G, 1600, .inr (.inl (fun _ => 0)))), (q6, .inl (kJ G, 1600, .inr (.inl (fun _ => 0))))]) := hD
  refine va_putF (D := G.1) (ci := 5) (v := .ref q6) (ty := .array .long) (C := RX4) (T := TX4) (N := 15) hx hb hts hiX4 tyX4 tyX4_ok nmX4 hown hE.1 hP hD hS 0 rfl rfl 6 (by decide) (hts (.fieldLink RX4 26 "MeterSealsModel" "second" "[J") (by decide +kernel)) (fun _ h9 => h9) rfl hin rfl (by decide +kernel) rfl rfl (Nat.le_of_ble_eq_true rfl) dX4_init_52 (fun H locs hP hD hS => ?_)
  replace hP : va_P G.1 vwCl ([(k0, .inr (5, [.ref q1, .ref q2, .ref q3, .int 0, .ref q4, .ref q5, .ref q6, .null, .null, .null, .null, .null, .null, .int 0, .int 0])), (q1, .inl (kJ G, 8, .inr (.inl (fun _ => 0)))), (q2, .inl (kI G, 8, .inl (fun _ => 0))), (q3, .inl (kI G, 8, .inl (fun _ => 0))), (q4, .inl (kI G, 1600, .inl (fun _ => 0))), (q5, .inl (kJ G, 1600, .inr (.inl (fun _ => 0)))), (q6, .inl (kJ G, 1600, .inr (.inl (fun _ => 0))))]) H := hP
  replace hD : va_D A ([(k0, .inr (5, [.ref q1, .ref q2, .ref q3, .int 0, .ref q4, .ref q5, .ref q6, .null, .null, .null, .null, .null, .null, .int 0, .int 0])), (q1, .inl (kJ G, 8, .inr (.inl (fun _ => 0)))), (q2, .inl (kI G, 8, .inl (fun _ => 0))), (q3, .inl (kI G, 8, .inl (fun _ => 0))), (q4, .inl (kI G, 1600, .inl (fun _ => 0))), (q5, .inl (kJ G, 1600, .inr (.inl (fun _ => 0)))), (q6, .inl (kJ G, 1600, .inr (.inl (fun _ => 0))))]) := hD
  refine lv_aload_n hx hb dX4_init_55 rfl (lv_at hl 0 rfl) ?_
  refine lv_sipush (v := 1600) hx hb dX4_init_56 (by decide) ?_
  refine x_newI (N := 1600) hx hb (hts (.arrayClass .int) (by decide +kernel)) hE hP hD hS hA (by decide) (by decide) (by decide) (Nat.le_of_ble_eq_true rfl) (Nat.le_of_ble_eq_true rfl) dX4_init_59 (fun q7 H hP hD hS => ?_)
  replace hP : va_P G.1 vwCl ([(k0, .inr (5, [.ref q1, .ref q2, .ref q3, .int 0, .ref q4, .ref q5, .ref q6, .null, .null, .null, .null, .null, .null, .int 0, .int 0])), (q1, .inl (kJ G, 8, .inr (.inl (fun _ => 0)))), (q2, .inl (kI G, 8, .inl (fun _ => 0))), (q3, .inl (kI G, 8, .inl (fun _ => 0))), (q4, .inl (kI G, 1600, .inl (fun _ => 0))), (q5, .inl (kJ G, 1600, .inr (.inl (fun _ => 0)))), (q6, .inl (kJ G, 1600, .inr (.inl (fun _ => 0)))), (q7, .inl (kI G, 1600, .inl (fun _ => 0)))]) H := hP
  replace hD : va_D A ([(k0, .inr (5, [.ref q1, .ref q2, .ref q3, .int 0, .ref q4, .ref q5, .ref q6, .null, .null, .null, .null, .null, .null, .int 0, .int 0])), (q1, .inl (kJ G, 8, .inr (.inl (fun _ => 0)))), (q2, .inl (kI G, 8, .inl (fun _ => 0))), (q3, .inl (kI G, 8, .inl (fun _ => 0))), (q4, .inl (kI G, 1600, .inl (fun _ => 0))), (q5, .inl (kJ G, 1600, .inr (.inl (fun _ => 0)))), (q6, .inl (kJ G, 1600, .inr (.inl (fun _ => 0)))), (q7, .inl (kI G, 1600, .inl (fun _ => 0)))]) := hD
  refine va_putF (D := G.1) (ci := 5) (v := .ref q7) (ty := .array .int) (C := RX4) (T := TX4) (N := 15) hx hb hts hiX4 tyX4 tyX4_ok nmX4 hown hE.1 hP hD hS 0 rfl rfl 7 (by decide) (hts (.fieldLink RX4 29 "MeterSealsModel" "warm" "[I") (by decide +kernel)) (fun _ h9 => h9) rfl hin rfl (by decide +kernel) rfl rfl (Nat.le_of_ble_eq_true rfl) dX4_init_61 (fun H locs hP hD hS => ?_)
  replace hP : va_P G.1 vwCl ([(k0, .inr (5, [.ref q1, .ref q2, .ref q3, .int 0, .ref q4, .ref q5, .ref q6, .ref q7, .null, .null, .null, .null, .null, .int 0, .int 0])), (q1, .inl (kJ G, 8, .inr (.inl (fun _ => 0)))), (q2, .inl (kI G, 8, .inl (fun _ => 0))), (q3, .inl (kI G, 8, .inl (fun _ => 0))), (q4, .inl (kI G, 1600, .inl (fun _ => 0))), (q5, .inl (kJ G, 1600, .inr (.inl (fun _ => 0)))), (q6, .inl (kJ G, 1600, .inr (.inl (fun _ => 0)))), (q7, .inl (kI G, 1600, .inl (fun _ => 0)))]) H := hP
  replace hD : va_D A ([(k0, .inr (5, [.ref q1, .ref q2, .ref q3, .int 0, .ref q4, .ref q5, .ref q6, .ref q7, .null, .null, .null, .null, .null, .int 0, .int 0])), (q1, .inl (kJ G, 8, .inr (.inl (fun _ => 0)))), (q2, .inl (kI G, 8, .inl (fun _ => 0))), (q3, .inl (kI G, 8, .inl (fun _ => 0))), (q4, .inl (kI G, 1600, .inl (fun _ => 0))), (q5, .inl (kJ G, 1600, .inr (.inl (fun _ => 0)))), (q6, .inl (kJ G, 1600, .inr (.inl (fun _ => 0)))), (q7, .inl (kI G, 1600, .inl (fun _ => 0)))]) := hD
  refine lv_aload_n hx hb dX4_init_64 rfl (lv_at hl 0 rfl) ?_
  refine lv_sipush (v := 1600) hx hb dX4_init_65 (by decide) ?_
  refine x_newJ (N := 1600) hx hb (hts (.arrayClass .long) (by decide +kernel)) hE hP hD hS hA (by decide) (by decide) (by decide) (Nat.le_of_ble_eq_true rfl) (Nat.le_of_ble_eq_true rfl) dX4_init_68 (fun q8 H hP hD hS => ?_)
  replace hP : va_P G.1 vwCl ([(k0, .inr (5, [.ref q1, .ref q2, .ref q3, .int 0, .ref q4, .ref q5, .ref q6, .ref q7, .null, .null, .null, .null, .null, .int 0, .int 0])), (q1, .inl (kJ G, 8, .inr (.inl (fun _ => 0)))), (q2, .inl (kI G, 8, .inl (fun _ => 0))), (q3, .inl (kI G, 8, .inl (fun _ => 0))), (q4, .inl (kI G, 1600, .inl (fun _ => 0))), (q5, .inl (kJ G, 1600, .inr (.inl (fun _ => 0)))), (q6, .inl (kJ G, 1600, .inr (.inl (fun _ => 0)))), (q7, .inl (kI G, 1600, .inl (fun _ => 0))), (q8, .inl (kJ G, 1600, .inr (.inl (fun _ => 0))))]) H := hP
  replace hD : va_D A ([(k0, .inr (5, [.ref q1, .ref q2, .ref q3, .int 0, .ref q4, .ref q5, .ref q6, .ref q7, .null, .null, .null, .null, .null, .int 0, .int 0])), (q1, .inl (kJ G, 8, .inr (.inl (fun _ => 0)))), (q2, .inl (kI G, 8, .inl (fun _ => 0))), (q3, .inl (kI G, 8, .inl (fun _ => 0))), (q4, .inl (kI G, 1600, .inl (fun _ => 0))), (q5, .inl (kJ G, 1600, .inr (.inl (fun _ => 0)))), (q6, .inl (kJ G, 1600, .inr (.inl (fun _ => 0)))), (q7, .inl (kI G, 1600, .inl (fun _ => 0))), (q8, .inl (kJ G, 1600, .inr (.inl (fun _ => 0))))]) := hD
  refine va_putF (D := G.1) (ci := 5) (v := .ref q8) (ty := .array .long) (C := RX4) (T := TX4) (N := 15) hx hb hts hiX4 tyX4 tyX4_ok nmX4 hown hE.1 hP hD hS 0 rfl rfl 8 (by decide) (hts (.fieldLink RX4 32 "MeterSealsModel" "sum" "[J") (by decide +kernel)) (fun _ h9 => h9) rfl hin rfl (by decide +kernel) rfl rfl (Nat.le_of_ble_eq_true rfl) dX4_init_70 (fun H locs hP hD hS => ?_)
  replace hP : va_P G.1 vwCl ([(k0, .inr (5, [.ref q1, .ref q2, .ref q3, .int 0, .ref q4, .ref q5, .ref q6, .ref q7, .ref q8, .null, .null, .null, .null, .int 0, .int 0])), (q1, .inl (kJ G, 8, .inr (.inl (fun _ => 0)))), (q2, .inl (kI G, 8, .inl (fun _ => 0))), (q3, .inl (kI G, 8, .inl (fun _ => 0))), (q4, .inl (kI G, 1600, .inl (fun _ => 0))), (q5, .inl (kJ G, 1600, .inr (.inl (fun _ => 0)))), (q6, .inl (kJ G, 1600, .inr (.inl (fun _ => 0)))), (q7, .inl (kI G, 1600, .inl (fun _ => 0))), (q8, .inl (kJ G, 1600, .inr (.inl (fun _ => 0))))]) H := hP
  replace hD : va_D A ([(k0, .inr (5, [.ref q1, .ref q2, .ref q3, .int 0, .ref q4, .ref q5, .ref q6, .ref q7, .ref q8, .null, .null, .null, .null, .int 0, .int 0])), (q1, .inl (kJ G, 8, .inr (.inl (fun _ => 0)))), (q2, .inl (kI G, 8, .inl (fun _ => 0))), (q3, .inl (kI G, 8, .inl (fun _ => 0))), (q4, .inl (kI G, 1600, .inl (fun _ => 0))), (q5, .inl (kJ G, 1600, .inr (.inl (fun _ => 0)))), (q6, .inl (kJ G, 1600, .inr (.inl (fun _ => 0)))), (q7, .inl (kI G, 1600, .inl (fun _ => 0))), (q8, .inl (kJ G, 1600, .inr (.inl (fun _ => 0))))]) := hD
  refine lv_aload_n hx hb dX4_init_73 rfl (lv_at hl 0 rfl) ?_
  refine lv_sipush (v := 128) hx hb dX4_init_74 (by decide) ?_
  refine x_newI (N := 128) hx hb (hts (.arrayClass .int) (by decide +kernel)) hE hP hD hS hA (by decide) (by decide) (by decide) (Nat.le_of_ble_eq_true rfl) (Nat.le_of_ble_eq_true rfl) dX4_init_77 (fun q9 H hP hD hS => ?_)
  replace hP : va_P G.1 vwCl ([(k0, .inr (5, [.ref q1, .ref q2, .ref q3, .int 0, .ref q4, .ref q5, .ref q6, .ref q7, .ref q8, .null, .null, .null, .null, .int 0, .int 0])), (q1, .inl (kJ G, 8, .inr (.inl (fun _ => 0)))), (q2, .inl (kI G, 8, .inl (fun _ => 0))), (q3, .inl (kI G, 8, .inl (fun _ => 0))), (q4, .inl (kI G, 1600, .inl (fun _ => 0))), (q5, .inl (kJ G, 1600, .inr (.inl (fun _ => 0)))), (q6, .inl (kJ G, 1600, .inr (.inl (fun _ => 0)))), (q7, .inl (kI G, 1600, .inl (fun _ => 0))), (q8, .inl (kJ G, 1600, .inr (.inl (fun _ => 0)))), (q9, .inl (kI G, 128, .inl (fun _ => 0)))]) H := hP
  replace hD : va_D A ([(k0, .inr (5, [.ref q1, .ref q2, .ref q3, .int 0, .ref q4, .ref q5, .ref q6, .ref q7, .ref q8, .null, .null, .null, .null, .int 0, .int 0])), (q1, .inl (kJ G, 8, .inr (.inl (fun _ => 0)))), (q2, .inl (kI G, 8, .inl (fun _ => 0))), (q3, .inl (kI G, 8, .inl (fun _ => 0))), (q4, .inl (kI G, 1600, .inl (fun _ => 0))), (q5, .inl (kJ G, 1600, .inr (.inl (fun _ => 0)))), (q6, .inl (kJ G, 1600, .inr (.inl (fun _ => 0)))), (q7, .inl (kI G, 1600, .inl (fun _ => 0))), (q8, .inl (kJ G, 1600, .inr (.inl (fun _ => 0)))), (q9, .inl (kI G, 128, .inl (fun _ => 0)))]) := hD
  refine va_putF (D := G.1) (ci := 5) (v := .ref q9) (ty := .array .int) (C := RX4) (T := TX4) (N := 15) hx hb hts hiX4 tyX4 tyX4_ok nmX4 hown hE.1 hP hD hS 0 rfl rfl 9 (by decide) (hts (.fieldLink RX4 35 "MeterSealsModel" "lineDegrees" "[I") (by decide +kernel)) (fun _ h9 => h9) rfl hin rfl (by decide +kernel) rfl rfl (Nat.le_of_ble_eq_true rfl) dX4_init_79 (fun H locs hP hD hS => ?_)
  replace hP : va_P G.1 vwCl ([(k0, .inr (5, [.ref q1, .ref q2, .ref q3, .int 0, .ref q4, .ref q5, .ref q6, .ref q7, .ref q8, .ref q9, .null, .null, .null, .int 0, .int 0])), (q1, .inl (kJ G, 8, .inr (.inl (fun _ => 0)))), (q2, .inl (kI G, 8, .inl (fun _ => 0))), (q3, .inl (kI G, 8, .inl (fun _ => 0))), (q4, .inl (kI G, 1600, .inl (fun _ => 0))), (q5, .inl (kJ G, 1600, .inr (.inl (fun _ => 0)))), (q6, .inl (kJ G, 1600, .inr (.inl (fun _ => 0)))), (q7, .inl (kI G, 1600, .inl (fun _ => 0))), (q8, .inl (kJ G, 1600, .inr (.inl (fun _ => 0)))), (q9, .inl (kI G, 128, .inl (fun _ => 0)))]) H := hP
  replace hD : va_D A ([(k0, .inr (5, [.ref q1, .ref q2, .ref q3, .int 0, .ref q4, .ref q5, .ref q6, .ref q7, .ref q8, .ref q9, .null, .null, .null, .int 0, .int 0])), (q1, .inl (kJ G, 8, .inr (.inl (fun _ => 0)))), (q2, .inl (kI G, 8, .inl (fun _ => 0))), (q3, .inl (kI G, 8, .inl (fun _ => 0))), (q4, .inl (kI G, 1600, .inl (fun _ => 0))), (q5, .inl (kJ G, 1600, .inr (.inl (fun _ => 0)))), (q6, .inl (kJ G, 1600, .inr (.inl (fun _ => 0)))), (q7, .inl (kI G, 1600, .inl (fun _ => 0))), (q8, .inl (kJ G, 1600, .inr (.inl (fun _ => 0)))), (q9, .inl (kI G, 128, .inl (fun _ => 0)))]) := hD
  refine lv_aload_n hx hb dX4_init_82 rfl (lv_at hl 0 rfl) ?_
  refine lv_sipush (v := 128) hx hb dX4_init_83 (by decide) ?_
  refine x_newJ (N := 128) hx hb (hts (.arrayClass .long) (by decide +kernel)) hE hP hD hS hA (by decide) (by decide) (by decide) (Nat.le_of_ble_eq_true rfl) (Nat.le_of_ble_eq_true rfl) dX4_init_86 (fun q10 H hP hD hS => ?_)
  replace hP : va_P G.1 vwCl ([(k0, .inr (5, [.ref q1, .ref q2, .ref q3, .int 0, .ref q4, .ref q5, .ref q6, .ref q7, .ref q8, .ref q9, .null, .null, .null, .int 0, .int 0])), (q1, .inl (kJ G, 8, .inr (.inl (fun _ => 0)))), (q2, .inl (kI G, 8, .inl (fun _ => 0))), (q3, .inl (kI G, 8, .inl (fun _ => 0))), (q4, .inl (kI G, 1600, .inl (fun _ => 0))), (q5, .inl (kJ G, 1600, .inr (.inl (fun _ => 0)))), (q6, .inl (kJ G, 1600, .inr (.inl (fun _ => 0)))), (q7, .inl (kI G, 1600, .inl (fun _ => 0))), (q8, .inl (kJ G, 1600, .inr (.inl (fun _ => 0)))), (q9, .inl (kI G, 128, .inl (fun _ => 0))), (q10, .inl (kJ G, 128, .inr (.inl (fun _ => 0))))]) H := hP
  replace hD : va_D A ([(k0, .inr (5, [.ref q1, .ref q2, .ref q3, .int 0, .ref q4, .ref q5, .ref q6, .ref q7, .ref q8, .ref q9, .null, .null, .null, .int 0, .int 0])), (q1, .inl (kJ G, 8, .inr (.inl (fun _ => 0)))), (q2, .inl (kI G, 8, .inl (fun _ => 0))), (q3, .inl (kI G, 8, .inl (fun _ => 0))), (q4, .inl (kI G, 1600, .inl (fun _ => 0))), (q5, .inl (kJ G, 1600, .inr (.inl (fun _ => 0)))), (q6, .inl (kJ G, 1600, .inr (.inl (fun _ => 0)))), (q7, .inl (kI G, 1600, .inl (fun _ => 0))), (q8, .inl (kJ G, 1600, .inr (.inl (fun _ => 0)))), (q9, .inl (kI G, 128, .inl (fun _ => 0))), (q10, .inl (kJ G, 128, .inr (.inl (fun _ => 0))))]) := hD
  refine va_putF (D := G.1) (ci := 5) (v := .ref q10) (ty := .array .long) (C := RX4) (T := TX4) (N := 15) hx hb hts hiX4 tyX4 tyX4_ok nmX4 hown hE.1 hP hD hS 0 rfl rfl 10 (by decide) (hts (.fieldLink RX4 38 "MeterSealsModel" "lineAbove" "[J") (by decide +kernel)) (fun _ h9 => h9) rfl hin rfl (by decide +kernel) rfl rfl (Nat.le_of_ble_eq_true rfl) dX4_init_88 (fun H locs hP hD hS => ?_)
  replace hP : va_P G.1 vwCl ([(k0, .inr (5, [.ref q1, .ref q2, .ref q3, .int 0, .ref q4, .ref q5, .ref q6, .ref q7, .ref q8, .ref q9, .ref q10, .null, .null, .int 0, .int 0])), (q1, .inl (kJ G, 8, .inr (.inl (fun _ => 0)))), (q2, .inl (kI G, 8, .inl (fun _ => 0))), (q3, .inl (kI G, 8, .inl (fun _ => 0))), (q4, .inl (kI G, 1600, .inl (fun _ => 0))), (q5, .inl (kJ G, 1600, .inr (.inl (fun _ => 0)))), (q6, .inl (kJ G, 1600, .inr (.inl (fun _ => 0)))), (q7, .inl (kI G, 1600, .inl (fun _ => 0))), (q8, .inl (kJ G, 1600, .inr (.inl (fun _ => 0)))), (q9, .inl (kI G, 128, .inl (fun _ => 0))), (q10, .inl (kJ G, 128, .inr (.inl (fun _ => 0))))]) H := hP
  replace hD : va_D A ([(k0, .inr (5, [.ref q1, .ref q2, .ref q3, .int 0, .ref q4, .ref q5, .ref q6, .ref q7, .ref q8, .ref q9, .ref q10, .null, .null, .int 0, .int 0])), (q1, .inl (kJ G, 8, .inr (.inl (fun _ => 0)))), (q2, .inl (kI G, 8, .inl (fun _ => 0))), (q3, .inl (kI G, 8, .inl (fun _ => 0))), (q4, .inl (kI G, 1600, .inl (fun _ => 0))), (q5, .inl (kJ G, 1600, .inr (.inl (fun _ => 0)))), (q6, .inl (kJ G, 1600, .inr (.inl (fun _ => 0)))), (q7, .inl (kI G, 1600, .inl (fun _ => 0))), (q8, .inl (kJ G, 1600, .inr (.inl (fun _ => 0)))), (q9, .inl (kI G, 128, .inl (fun _ => 0))), (q10, .inl (kJ G, 128, .inr (.inl (fun _ => 0))))]) := hD
  refine lv_aload_n hx hb dX4_init_91 rfl (lv_at hl 0 rfl) ?_
  refine lv_sipush (v := 128) hx hb dX4_init_92 (by decide) ?_
  refine x_newJ (N := 128) hx hb (hts (.arrayClass .long) (by decide +kernel)) hE hP hD hS hA (by decide) (by decide) (by decide) (Nat.le_of_ble_eq_true rfl) (Nat.le_of_ble_eq_true rfl) dX4_init_95 (fun q11 H hP hD hS => ?_)
  replace hP : va_P G.1 vwCl ([(k0, .inr (5, [.ref q1, .ref q2, .ref q3, .int 0, .ref q4, .ref q5, .ref q6, .ref q7, .ref q8, .ref q9, .ref q10, .null, .null, .int 0, .int 0])), (q1, .inl (kJ G, 8, .inr (.inl (fun _ => 0)))), (q2, .inl (kI G, 8, .inl (fun _ => 0))), (q3, .inl (kI G, 8, .inl (fun _ => 0))), (q4, .inl (kI G, 1600, .inl (fun _ => 0))), (q5, .inl (kJ G, 1600, .inr (.inl (fun _ => 0)))), (q6, .inl (kJ G, 1600, .inr (.inl (fun _ => 0)))), (q7, .inl (kI G, 1600, .inl (fun _ => 0))), (q8, .inl (kJ G, 1600, .inr (.inl (fun _ => 0)))), (q9, .inl (kI G, 128, .inl (fun _ => 0))), (q10, .inl (kJ G, 128, .inr (.inl (fun _ => 0)))), (q11, .inl (kJ G, 128, .inr (.inl (fun _ => 0))))]) H := hP
  replace hD : va_D A ([(k0, .inr (5, [.ref q1, .ref q2, .ref q3, .int 0, .ref q4, .ref q5, .ref q6, .ref q7, .ref q8, .ref q9, .ref q10, .null, .null, .int 0, .int 0])), (q1, .inl (kJ G, 8, .inr (.inl (fun _ => 0)))), (q2, .inl (kI G, 8, .inl (fun _ => 0))), (q3, .inl (kI G, 8, .inl (fun _ => 0))), (q4, .inl (kI G, 1600, .inl (fun _ => 0))), (q5, .inl (kJ G, 1600, .inr (.inl (fun _ => 0)))), (q6, .inl (kJ G, 1600, .inr (.inl (fun _ => 0)))), (q7, .inl (kI G, 1600, .inl (fun _ => 0))), (q8, .inl (kJ G, 1600, .inr (.inl (fun _ => 0)))), (q9, .inl (kI G, 128, .inl (fun _ => 0))), (q10, .inl (kJ G, 128, .inr (.inl (fun _ => 0)))), (q11, .inl (kJ G, 128, .inr (.inl (fun _ => 0))))]) := hD
  refine va_putF (D := G.1) (ci := 5) (v := .ref q11) (ty := .array .long) (C := RX4) (T := TX4) (N := 15) hx hb hts hiX4 tyX4 tyX4_ok nmX4 hown hE.1 hP hD hS 0 rfl rfl 11 (by decide) (hts (.fieldLink RX4 41 "MeterSealsModel" "lineBelow" "[J") (by decide +kernel)) (fun _ h9 => h9) rfl hin rfl (by decide +kernel) rfl rfl (Nat.le_of_ble_eq_true rfl) dX4_init_97 (fun H locs hP hD hS => ?_)
  replace hP : va_P G.1 vwCl ([(k0, .inr (5, [.ref q1, .ref q2, .ref q3, .int 0, .ref q4, .ref q5, .ref q6, .ref q7, .ref q8, .ref q9, .ref q10, .ref q11, .null, .int 0, .int 0])), (q1, .inl (kJ G, 8, .inr (.inl (fun _ => 0)))), (q2, .inl (kI G, 8, .inl (fun _ => 0))), (q3, .inl (kI G, 8, .inl (fun _ => 0))), (q4, .inl (kI G, 1600, .inl (fun _ => 0))), (q5, .inl (kJ G, 1600, .inr (.inl (fun _ => 0)))), (q6, .inl (kJ G, 1600, .inr (.inl (fun _ => 0)))), (q7, .inl (kI G, 1600, .inl (fun _ => 0))), (q8, .inl (kJ G, 1600, .inr (.inl (fun _ => 0)))), (q9, .inl (kI G, 128, .inl (fun _ => 0))), (q10, .inl (kJ G, 128, .inr (.inl (fun _ => 0)))), (q11, .inl (kJ G, 128, .inr (.inl (fun _ => 0))))]) H := hP
  replace hD : va_D A ([(k0, .inr (5, [.ref q1, .ref q2, .ref q3, .int 0, .ref q4, .ref q5, .ref q6, .ref q7, .ref q8, .ref q9, .ref q10, .ref q11, .null, .int 0, .int 0])), (q1, .inl (kJ G, 8, .inr (.inl (fun _ => 0)))), (q2, .inl (kI G, 8, .inl (fun _ => 0))), (q3, .inl (kI G, 8, .inl (fun _ => 0))), (q4, .inl (kI G, 1600, .inl (fun _ => 0))), (q5, .inl (kJ G, 1600, .inr (.inl (fun _ => 0)))), (q6, .inl (kJ G, 1600, .inr (.inl (fun _ => 0)))), (q7, .inl (kI G, 1600, .inl (fun _ => 0))), (q8, .inl (kJ G, 1600, .inr (.inl (fun _ => 0)))), (q9, .inl (kI G, 128, .inl (fun _ => 0))), (q10, .inl (kJ G, 128, .inr (.inl (fun _ => 0)))), (q11, .inl (kJ G, 128, .inr (.inl (fun _ => 0))))]) := hD
  refine lv_aload_n hx hb dX4_init_100 rfl (lv_at hl 0 rfl) ?_
  refine lv_bipush (v := 80) hx hb dX4_init_101 (by decide) ?_
  refine x_newI (N := 80) hx hb (hts (.arrayClass .int) (by decide +kernel)) hE hP hD hS hA (by decide) (by decide) (by decide) (Nat.le_of_ble_eq_true rfl) (Nat.le_of_ble_eq_true rfl) dX4_init_103 (fun q12 H hP hD hS => ?_)
  replace hP : va_P G.1 vwCl ([(k0, .inr (5, [.ref q1, .ref q2, .ref q3, .int 0, .ref q4, .ref q5, .ref q6, .ref q7, .ref q8, .ref q9, .ref q10, .ref q11, .null, .int 0, .int 0])), (q1, .inl (kJ G, 8, .inr (.inl (fun _ => 0)))), (q2, .inl (kI G, 8, .inl (fun _ => 0))), (q3, .inl (kI G, 8, .inl (fun _ => 0))), (q4, .inl (kI G, 1600, .inl (fun _ => 0))), (q5, .inl (kJ G, 1600, .inr (.inl (fun _ => 0)))), (q6, .inl (kJ G, 1600, .inr (.inl (fun _ => 0)))), (q7, .inl (kI G, 1600, .inl (fun _ => 0))), (q8, .inl (kJ G, 1600, .inr (.inl (fun _ => 0)))), (q9, .inl (kI G, 128, .inl (fun _ => 0))), (q10, .inl (kJ G, 128, .inr (.inl (fun _ => 0)))), (q11, .inl (kJ G, 128, .inr (.inl (fun _ => 0)))), (q12, .inl (kI G, 80, .inl (fun _ => 0)))]) H := hP
  replace hD : va_D A ([(k0, .inr (5, [.ref q1, .ref q2, .ref q3, .int 0, .ref q4, .ref q5, .ref q6, .ref q7, .ref q8, .ref q9, .ref q10, .ref q11, .null, .int 0, .int 0])), (q1, .inl (kJ G, 8, .inr (.inl (fun _ => 0)))), (q2, .inl (kI G, 8, .inl (fun _ => 0))), (q3, .inl (kI G, 8, .inl (fun _ => 0))), (q4, .inl (kI G, 1600, .inl (fun _ => 0))), (q5, .inl (kJ G, 1600, .inr (.inl (fun _ => 0)))), (q6, .inl (kJ G, 1600, .inr (.inl (fun _ => 0)))), (q7, .inl (kI G, 1600, .inl (fun _ => 0))), (q8, .inl (kJ G, 1600, .inr (.inl (fun _ => 0)))), (q9, .inl (kI G, 128, .inl (fun _ => 0))), (q10, .inl (kJ G, 128, .inr (.inl (fun _ => 0)))), (q11, .inl (kJ G, 128, .inr (.inl (fun _ => 0)))), (q12, .inl (kI G, 80, .inl (fun _ => 0)))]) := hD
  refine va_putF (D := G.1) (ci := 5) (v := .ref q12) (ty := .array .int) (C := RX4) (T := TX4) (N := 15) hx hb hts hiX4 tyX4 tyX4_ok nmX4 hown hE.1 hP hD hS 0 rfl rfl 12 (by decide) (hts (.fieldLink RX4 44 "MeterSealsModel" "text" "[I") (by decide +kernel)) (fun _ h9 => h9) rfl hin rfl (by decide +kernel) rfl rfl (Nat.le_of_ble_eq_true rfl) dX4_init_105 (fun H locs hP hD hS => ?_)
  replace hP : va_P G.1 vwCl ([(k0, .inr (5, [.ref q1, .ref q2, .ref q3, .int 0, .ref q4, .ref q5, .ref q6, .ref q7, .ref q8, .ref q9, .ref q10, .ref q11, .ref q12, .int 0, .int 0])), (q1, .inl (kJ G, 8, .inr (.inl (fun _ => 0)))), (q2, .inl (kI G, 8, .inl (fun _ => 0))), (q3, .inl (kI G, 8, .inl (fun _ => 0))), (q4, .inl (kI G, 1600, .inl (fun _ => 0))), (q5, .inl (kJ G, 1600, .inr (.inl (fun _ => 0)))), (q6, .inl (kJ G, 1600, .inr (.inl (fun _ => 0)))), (q7, .inl (kI G, 1600, .inl (fun _ => 0))), (q8, .inl (kJ G, 1600, .inr (.inl (fun _ => 0)))), (q9, .inl (kI G, 128, .inl (fun _ => 0))), (q10, .inl (kJ G, 128, .inr (.inl (fun _ => 0)))), (q11, .inl (kJ G, 128, .inr (.inl (fun _ => 0)))), (q12, .inl (kI G, 80, .inl (fun _ => 0)))]) H := hP
  replace hD : va_D A ([(k0, .inr (5, [.ref q1, .ref q2, .ref q3, .int 0, .ref q4, .ref q5, .ref q6, .ref q7, .ref q8, .ref q9, .ref q10, .ref q11, .ref q12, .int 0, .int 0])), (q1, .inl (kJ G, 8, .inr (.inl (fun _ => 0)))), (q2, .inl (kI G, 8, .inl (fun _ => 0))), (q3, .inl (kI G, 8, .inl (fun _ => 0))), (q4, .inl (kI G, 1600, .inl (fun _ => 0))), (q5, .inl (kJ G, 1600, .inr (.inl (fun _ => 0)))), (q6, .inl (kJ G, 1600, .inr (.inl (fun _ => 0)))), (q7, .inl (kI G, 1600, .inl (fun _ => 0))), (q8, .inl (kJ G, 1600, .inr (.inl (fun _ => 0)))), (q9, .inl (kI G, 128, .inl (fun _ => 0))), (q10, .inl (kJ G, 128, .inr (.inl (fun _ => 0)))), (q11, .inl (kJ G, 128, .inr (.inl (fun _ => 0)))), (q12, .inl (kI G, 80, .inl (fun _ => 0)))]) := hD
  exact W.vret hx hb hr (fun t ht hW => ⟨⟨[(k0, .inr (5, [.ref q1, .ref q2, .ref q3, .int 0, .ref q4, .ref q5, .ref q6, .ref q7, .ref q8, .ref q9, .ref q10, .ref q11, .ref q12, .int 0, .int 0])), (q1, .inl (kJ G, 8, .inr (.inl (fun _ => 0)))), (q2, .inl (kI G, 8, .inl (fun _ => 0))), (q3, .inl (kI G, 8, .inl (fun _ => 0))), (q4, .inl (kI G, 1600, .inl (fun _ => 0))), (q5, .inl (kJ G, 1600, .inr (.inl (fun _ => 0)))), (q6, .inl (kJ G, 1600, .inr (.inl (fun _ => 0)))), (q7, .inl (kI G, 1600, .inl (fun _ => 0))), (q8, .inl (kJ G, 1600, .inr (.inl (fun _ => 0)))), (q9, .inl (kI G, 128, .inl (fun _ => 0))), (q10, .inl (kJ G, 128, .inr (.inl (fun _ => 0)))), (q11, .inl (kJ G, 128, .inr (.inl (fun _ => 0)))), (q12, .inl (kI G, 80, .inl (fun _ => 0)))], rfl, ⟨_, _, _, _, _, _, _, _, _, _, _, _, rfl⟩, by show va_P _ _ _ t.heap; rw [ht]; exact hP, hD⟩, hS.F ht⟩) hS.2.2 dX4_init_108

set_option maxHeartbeats 4000000 in
set_option maxRecDepth 100000 in
/-- add -/
theorem ct_X4_add (l : Launch) (G : Gx) (k0 k1 k2 k3 k4 k5 k6 k7 k8 k9 k10 k11 k12 : Nat) (mc : Nat) (len thr : Int32) (ky : Nat → Int64) (ro ln kd : Nat → Int32) (nb sc : Nat → Int64) (wa : Nat → Int32) (sm : Nat → Int64) (ld : Nat → Int32) (lo lw : Nat → Int64) (tx : Nat → Int32) (j n : Nat) (kk : Int32) (nn ss : Int64) (dd : Int32) (hj : j < 8) (hn : n < 200) (hro : ro j = nI n) : Met l yX4_add wsX4_add ({ frames := 2, cells := 0, slots := 0, locals := 50 }) (WrP G (wK G k0 k1 k2 k3 k4 k5 k6 k7 k8 k9 k10 k11 k12 (nI mc) len thr ky ro ln kd nb sc wa sm ld lo lw tx) [.ref k0, .int (nI j), .int kk, .long nn, .long ss, .int dd]) (va_Qv (fun (u : va_W) => u = wK G k0 k1 k2 k3 k4 k5 k6 k7 k8 k9 k10 k11 k12 (nI mc) len thr ky (upd ro j (nI (n + 1))) ln (upd kd (j * 200 + n) kk) (vp_updL nb (j * 200 + n) nn) (vp_updL sc (j * 200 + n) ss) (upd wa (j * 200 + n) dd) (vp_updL sm (j * 200 + n) (md_due ky (upd kd (j * 200 + n) kk) (vp_updL nb (j * 200 + n) nn) (vp_updL sc (j * 200 + n) ss) (upd wa (j * 200 + n) dd) sm j n)) ld lo lw tx) (fun u t => va_P G.1 vwCl u t.heap) (adr (wK G k0 k1 k2 k3 k4 k5 k6 k7 k8 k9 k10 k11 k12 (nI mc) len thr ky ro ln kd nb sc wa sm ld lo lw tx))) 0 0 (adr (wK G k0 k1 k2 k3 k4 k5 k6 k7 k8 k9 k10 k11 k12 (nI mc) len thr ky ro ln kd nb sc wa sm ld lo lw tx)) := by
  refine Met.ofW (cc := cX4_add) (maxL := 9) (ret := none) (by decide) rfl ?_
  intro p e s m args below meth c s₁ B hml hv
  obtain ⟨rfl, hP, hE, hD0⟩ := hv
  have hx := B.exec
  have hb := B.bytes
  have hr := B.returns
  have hts := atoms_spec (ws := wsX4_add) B.pre
  have hown : s.vm.findClass RX4 = some m.cls := findClass_of_methodNamed B.named
  have hlocks := B.notSynchronized
  have hD : va_D (adr (wK G k0 k1 k2 k3 k4 k5 k6 k7 k8 k9 k10 k11 k12 (nI mc) len thr ky ro ln kd nb sc wa sm ld lo lw tx)) (wK G k0 k1 k2 k3 k4 k5 k6 k7 k8 k9 k10 k11 k12 (nI mc) len thr ky ro ln kd nb sc wa sm ld lo lw tx) := ⟨hD0.1, fun k q hk => ⟨k, q.2, hk⟩⟩
  generalize adr (wK G k0 k1 k2 k3 k4 k5 k6 k7 k8 k9 k10 k11 k12 (nI mc) len thr ky ro ln kd nb sc wa sm ld lo lw tx) = A at hD ⊢
  have hS : va_S A s.heap s.heap [] := va_S.rf
  have hiX4 : ∀ w ∈ wsX40, w ∈ wsX4_add := by decide +kernel
  have hl := lv_entry ([.ref k0, .int (nI j), .int kk, .long nn, .long ss, .int dd]) (n := 9) (Nat.le_of_ble_eq_true rfl)
  rw [lg_entry_eq]
  generalize (lg_sl ([.ref k0, .int (nI j), .int kk, .long nn, .long ss, .int dd]) ++ List.replicate (9 - (lg_sl ([.ref k0, .int (nI j), .int kk, .long nn, .long ss, .int dd])).length) Slot.unset).toArray = ls at hl ⊢
  replace hl : lv_has ls 9 [(0, .ref k0), (1, .int (nI j)), (2, .int kk), (3, .long nn), (5, .long ss), (7, .int dd)] := hl
  refine lv_iload_n hx hb dX4_add_0 rfl (lv_at hl 1 rfl) ?_
  refine lv_sipush (v := 200) hx hb dX4_add_1 (by decide) ?_
  refine lv_imul hx hb dX4_add_4 ?_
  rw [nI_mul200 j]
  refine lv_aload_n hx hb dX4_add_5 rfl (lv_at hl 0 rfl) ?_
  refine va_get (D := G.1) (ci := 5) (v := .ref k2) (C := RX4) (T := TX4) (N := 15) hx hb hts hiX4 hown hE.1 hP 0 rfl rfl 1 (by decide) (hts (.fieldLink RX4 13 "MeterSealsModel" "rows" "[I") (by decide +kernel)) (fun _ h9 => h9) rfl dX4_add_6 ?_
  refine lv_iload_n hx hb dX4_add_9 rfl (lv_at hl 1 rfl) ?_
  refine va_iald hx hb hE.1 hP 2 0 rfl rfl (vp_in_nI (show j < 8 by omega) (by decide)) dX4_add_10 ?_
  rw [nI_clamp (n := j) (by omega)]
  rw [hro]
  refine lv_iadd hx hb dX4_add_11 ?_
  rw [nI_add (j * 200) n]
  refine lv_istore (lv' := [(8, .int (nI (j * 200 + n))), (0, .ref k0), (1, .int (nI j)), (2, .int kk), (3, .long nn), (5, .long ss), (7, .int dd)]) hx hb dX4_add_12 hl (by decide) rfl (fun ls hl => ?_)
  refine lv_aload_n hx hb dX4_add_14 rfl (lv_at hl 1 rfl) ?_
  refine va_get (D := G.1) (ci := 5) (v := .ref k4) (C := RX4) (T := TX4) (N := 15) hx hb hts hiX4 hown hE.1 hP 0 rfl rfl 4 (by decide) (hts (.fieldLink RX4 20 "MeterSealsModel" "kind" "[I") (by decide +kernel)) (fun _ h9 => h9) rfl dX4_add_15 ?_
  refine lv_iload hx hb dX4_add_18 (lv_at hl 0 rfl) ?_
  refine lv_iload_n hx hb dX4_add_20 rfl (lv_at hl 3 rfl) ?_
  refine va_iast hx hb hE.1 hP hD hS 4 0 rfl rfl (vp_in_nI (show j * 200 + n < 1600 by omega) (by decide)) dX4_add_21 (fun H locs hP hD hS => ?_)
  rw [nI_clamp (n := j * 200 + n) (by omega)] at hP hD
  replace hP : va_P G.1 vwCl (wK G k0 k1 k2 k3 k4 k5 k6 k7 k8 k9 k10 k11 k12 (nI mc) len thr ky ro ln (upd kd (j * 200 + n) kk) nb sc wa sm ld lo lw tx) H := hP
  replace hD : va_D A (wK G k0 k1 k2 k3 k4 k5 k6 k7 k8 k9 k10 k11 k12 (nI mc) len thr ky ro ln (upd kd (j * 200 + n) kk) nb sc wa sm ld lo lw tx) := hD
  refine lv_aload_n hx hb dX4_add_22 rfl (lv_at hl 1 rfl) ?_
  refine va_get (D := G.1) (ci := 5) (v := .ref k5) (C := RX4) (T := TX4) (N := 15) hx hb hts hiX4 hown hE.1 hP 0 rfl rfl 5 (by decide) (hts (.fieldLink RX4 23 "MeterSealsModel" "number" "[J") (by decide +kernel)) (fun _ h9 => h9) rfl dX4_add_23 ?_
  refine lv_iload hx hb dX4_add_26 (lv_at hl 0 rfl) ?_
  refine lv_lload_n hx hb dX4_add_28 rfl (lv_at hl 4 rfl) ?_
  refine va_last hx hb hE.1 hP hD hS 5 1 rfl rfl (vp_in_nI (show j * 200 + n < 1600 by omega) (by decide)) dX4_add_29 (fun H locs hP hD hS => ?_)
  rw [nI_clamp (n := j * 200 + n) (by omega)] at hP hD
  replace hP : va_P G.1 vwCl (wK G k0 k1 k2 k3 k4 k5 k6 k7 k8 k9 k10 k11 k12 (nI mc) len thr ky ro ln (upd kd (j * 200 + n) kk) (vp_updL nb (j * 200 + n) nn) sc wa sm ld lo lw tx) H := hP
  replace hD : va_D A (wK G k0 k1 k2 k3 k4 k5 k6 k7 k8 k9 k10 k11 k12 (nI mc) len thr ky ro ln (upd kd (j * 200 + n) kk) (vp_updL nb (j * 200 + n) nn) sc wa sm ld lo lw tx) := hD
  refine lv_aload_n hx hb dX4_add_30 rfl (lv_at hl 1 rfl) ?_
  refine va_get (D := G.1) (ci := 5) (v := .ref k6) (C := RX4) (T := TX4) (N := 15) hx hb hts hiX4 hown hE.1 hP 0 rfl rfl 6 (by decide) (hts (.fieldLink RX4 26 "MeterSealsModel" "second" "[J") (by decide +kernel)) (fun _ h9 => h9) rfl dX4_add_31 ?_
  refine lv_iload hx hb dX4_add_34 (lv_at hl 0 rfl) ?_
  refine lv_lload hx hb dX4_add_36 (lv_at hl 5 rfl) ?_
  refine va_last hx hb hE.1 hP hD hS 6 1 rfl rfl (vp_in_nI (show j * 200 + n < 1600 by omega) (by decide)) dX4_add_38 (fun H locs hP hD hS => ?_)
  rw [nI_clamp (n := j * 200 + n) (by omega)] at hP hD
  replace hP : va_P G.1 vwCl (wK G k0 k1 k2 k3 k4 k5 k6 k7 k8 k9 k10 k11 k12 (nI mc) len thr ky ro ln (upd kd (j * 200 + n) kk) (vp_updL nb (j * 200 + n) nn) (vp_updL sc (j * 200 + n) ss) wa sm ld lo lw tx) H := hP
  replace hD : va_D A (wK G k0 k1 k2 k3 k4 k5 k6 k7 k8 k9 k10 k11 k12 (nI mc) len thr ky ro ln (upd kd (j * 200 + n) kk) (vp_updL nb (j * 200 + n) nn) (vp_updL sc (j * 200 + n) ss) wa sm ld lo lw tx) := hD
  refine lv_aload_n hx hb dX4_add_39 rfl (lv_at hl 1 rfl) ?_
  refine va_get (D := G.1) (ci := 5) (v := .ref k7) (C := RX4) (T := TX4) (N := 15) hx hb hts hiX4 hown hE.1 hP 0 rfl rfl 7 (by decide) (hts (.fieldLink RX4 29 "MeterSealsModel" "warm" "[I") (by decide +kernel)) (fun _ h9 => h9) rfl dX4_add_40 ?_
  refine lv_iload hx hb dX4_add_43 (lv_at hl 0 rfl) ?_
  refine lv_iload hx hb dX4_add_45 (lv_at hl 6 rfl) ?_
  refine va_iast hx hb hE.1 hP hD hS 7 0 rfl rfl (vp_in_nI (show j * 200 + n < 1600 by omega) (by decide)) dX4_add_47 (fun H locs hP hD hS => ?_)
  rw [nI_clamp (n := j * 200 + n) (by omega)] at hP hD
  replace hP : va_P G.1 vwCl (wK G k0 k1 k2 k3 k4 k5 k6 k7 k8 k9 k10 k11 k12 (nI mc) len thr ky ro ln (upd kd (j * 200 + n) kk) (vp_updL nb (j * 200 + n) nn) (vp_updL sc (j * 200 + n) ss) (upd wa (j * 200 + n) dd) sm ld lo lw tx) H := hP
  replace hD : va_D A (wK G k0 k1 k2 k3 k4 k5 k6 k7 k8 k9 k10 k11 k12 (nI mc) len thr ky ro ln (upd kd (j * 200 + n) kk) (vp_updL nb (j * 200 + n) nn) (vp_updL sc (j * 200 + n) ss) (upd wa (j * 200 + n) dd) sm ld lo lw tx) := hD
  refine lv_aload_n hx hb dX4_add_48 rfl (lv_at hl 1 rfl) ?_
  refine va_get (D := G.1) (ci := 5) (v := .ref k2) (C := RX4) (T := TX4) (N := 15) hx hb hts hiX4 hown hE.1 hP 0 rfl rfl 1 (by decide) (hts (.fieldLink RX4 13 "MeterSealsModel" "rows" "[I") (by decide +kernel)) (fun _ h9 => h9) rfl dX4_add_49 ?_
  refine lv_iload_n hx hb dX4_add_52 rfl (lv_at hl 2 rfl) ?_
  refine lv_dup2_11 hx hb dX4_add_53 rfl rfl ?_
  refine va_iald hx hb hE.1 hP 2 0 rfl rfl (vp_in_nI (show j < 8 by omega) (by decide)) dX4_add_54 ?_
  rw [nI_clamp (n := j) (by omega)]
  rw [hro]
  refine lv_iconst (v := 1) hx hb dX4_add_55 (by decide) ?_
  refine lv_iadd hx hb dX4_add_56 ?_
  rw [nI_1 n]
  refine va_iast hx hb hE.1 hP hD hS 2 0 rfl rfl (vp_in_nI (show j < 8 by omega) (by decide)) dX4_add_57 (fun H locs hP hD hS => ?_)
  rw [nI_clamp (n := j) (by omega)] at hP hD
  replace hP : va_P G.1 vwCl (wK G k0 k1 k2 k3 k4 k5 k6 k7 k8 k9 k10 k11 k12 (nI mc) len thr ky (upd ro j (nI (n + 1))) ln (upd kd (j * 200 + n) kk) (vp_updL nb (j * 200 + n) nn) (vp_updL sc (j * 200 + n) ss) (upd wa (j * 200 + n) dd) sm ld lo lw tx) H := hP
  replace hD : va_D A (wK G k0 k1 k2 k3 k4 k5 k6 k7 k8 k9 k10 k11 k12 (nI mc) len thr ky (upd ro j (nI (n + 1))) ln (upd kd (j * 200 + n) kk) (vp_updL nb (j * 200 + n) nn) (vp_updL sc (j * 200 + n) ss) (upd wa (j * 200 + n) dd) sm ld lo lw tx) := hD
  refine lv_aload_n hx hb dX4_add_58 rfl (lv_at hl 1 rfl) ?_
  refine va_get (D := G.1) (ci := 5) (v := .ref k8) (C := RX4) (T := TX4) (N := 15) hx hb hts hiX4 hown hE.1 hP 0 rfl rfl 8 (by decide) (hts (.fieldLink RX4 32 "MeterSealsModel" "sum" "[J") (by decide +kernel)) (fun _ h9 => h9) rfl dX4_add_59 ?_
  refine lv_iload hx hb dX4_add_62 (lv_at hl 0 rfl) ?_
  refine lv_aload_n hx hb dX4_add_64 rfl (lv_at hl 1 rfl) ?_
  refine lv_iload_n hx hb dX4_add_65 rfl (lv_at hl 2 rfl) ?_
  refine lv_aload_n hx hb dX4_add_66 rfl (lv_at hl 1 rfl) ?_
  refine va_get (D := G.1) (ci := 5) (v := .ref k2) (C := RX4) (T := TX4) (N := 15) hx hb hts hiX4 hown hE.1 hP 0 rfl rfl 1 (by decide) (hts (.fieldLink RX4 13 "MeterSealsModel" "rows" "[I") (by decide +kernel)) (fun _ h9 => h9) rfl dX4_add_67 ?_
  refine lv_iload_n hx hb dX4_add_70 rfl (lv_at hl 2 rfl) ?_
  refine va_iald hx hb hE.1 hP 2 0 rfl rfl (vp_in_nI (show j < 8 by omega) (by decide)) dX4_add_71 ?_
  rw [nI_clamp (n := j) (by omega)]
  rw [pk_us]
  refine lv_iconst (v := 1) hx hb dX4_add_72 (by decide) ?_
  refine lv_isub hx hb dX4_add_73 ?_
  rw [nI_pred n]
  refine x_rl (va_runV (As := [.int (nI j), .int (nI n)]) (rest := [.int (nI (j * 200 + n)), .ref k8]) ⟨hx, hb, hml, hown, hts⟩ (ct_X4_due l G k0 k1 k2 k3 k4 k5 k6 k7 k8 k9 k10 k11 k12 mc len thr ky (upd ro j (nI (n + 1))) ln (upd kd (j * 200 + n) kk) (vp_updL nb (j * 200 + n) nn) (vp_updL sc (j * 200 + n) ss) (upd wa (j * 200 + n) dd) sm ld lo lw tx j n hj (by omega)) (cwV 2 hts gX4_add_X4_due rfl rfl rfl (by decide +kernel) ⟨Nat.le_of_ble_eq_true rfl, Nat.le_of_ble_eq_true rfl⟩) (RdP.preV 0 5 rfl rfl hP hE) rfl rfl hl.1 rfl (lv_room (Nat.le_of_ble_eq_true rfl)) dX4_add_74 ⟨Nat.zero_le _, Nat.zero_le _⟩) (fun r1 er1 => ?_)
  subst er1
  refine va_last hx hb hE.1 hP hD hS 8 1 rfl rfl (vp_in_nI (show j * 200 + n < 1600 by omega) (by decide)) dX4_add_77 (fun H locs hP hD hS => ?_)
  rw [nI_clamp (n := j * 200 + n) (by omega)] at hP hD
  replace hP : va_P G.1 vwCl (wK G k0 k1 k2 k3 k4 k5 k6 k7 k8 k9 k10 k11 k12 (nI mc) len thr ky (upd ro j (nI (n + 1))) ln (upd kd (j * 200 + n) kk) (vp_updL nb (j * 200 + n) nn) (vp_updL sc (j * 200 + n) ss) (upd wa (j * 200 + n) dd) (vp_updL sm (j * 200 + n) (md_due ky (upd kd (j * 200 + n) kk) (vp_updL nb (j * 200 + n) nn) (vp_updL sc (j * 200 + n) ss) (upd wa (j * 200 + n) dd) sm j n)) ld lo lw tx) H := hP
  replace hD : va_D A (wK G k0 k1 k2 k3 k4 k5 k6 k7 k8 k9 k10 k11 k12 (nI mc) len thr ky (upd ro j (nI (n + 1))) ln (upd kd (j * 200 + n) kk) (vp_updL nb (j * 200 + n) nn) (vp_updL sc (j * 200 + n) ss) (upd wa (j * 200 + n) dd) (vp_updL sm (j * 200 + n) (md_due ky (upd kd (j * 200 + n) kk) (vp_updL nb (j * 200 + n) nn) (vp_updL sc (j * 200 + n) ss) (upd wa (j * 200 + n) dd) sm j n)) ld lo lw tx) := hD
  exact W.vret hx hb hr (fun tZ hZ hW => ⟨⟨wK G k0 k1 k2 k3 k4 k5 k6 k7 k8 k9 k10 k11 k12 (nI mc) len thr ky (upd ro j (nI (n + 1))) ln (upd kd (j * 200 + n) kk) (vp_updL nb (j * 200 + n) nn) (vp_updL sc (j * 200 + n) ss) (upd wa (j * 200 + n) dd) (vp_updL sm (j * 200 + n) (md_due ky (upd kd (j * 200 + n) kk) (vp_updL nb (j * 200 + n) nn) (vp_updL sc (j * 200 + n) ss) (upd wa (j * 200 + n) dd) sm j n)) ld lo lw tx, rfl, rfl, by show va_P _ _ _ tZ.heap; rw [hZ]; exact hP⟩, hS.F hZ⟩) hS.2.2 dX4_add_78

set_option maxHeartbeats 4000000 in
set_option maxRecDepth 100000 in
/-- X4_pulses, present -/
theorem ct_X4_pulses (l : Launch) (G : Gx) (k0 k1 k2 k3 k4 k5 k6 k7 k8 k9 k10 k11 k12 : Nat) (mc : Nat) (len thr : Int32) (ky : Nat → Int64) (ro ln kd : Nat → Int32) (nb sc : Nat → Int64) (wa : Nat → Int32) (sm : Nat → Int64) (ld : Nat → Int32) (lo lw : Nat → Int64) (tx : Nat → Int32) (j n t : Nat) (nn ss : Int64) (dd : Int32) (hmc : mc ≤ 8) (hj : j < mc) (hn2 : n ≤ 200) (hro : ro j = nI n) (ht : t ≤ 16) (hln : ln j = nI t) : Met l yX4_pulses wsX4_pulses ({ frames := 3, cells := 0, slots := 0, locals := 78 }) (WrP G (wK G k0 k1 k2 k3 k4 k5 k6 k7 k8 k9 k10 k11 k12 (nI mc) len thr ky ro ln kd nb sc wa sm ld lo lw tx) [.ref k0, .int (nI j), .long nn, .long ss, .int dd]) (va_Qi (fun r (u : va_W) => (r = 0 ∧ (md_fit t nn ss dd n = 0 ∨ md_ok kd sc ss j n = 0) ∧ u = wK G k0 k1 k2 k3 k4 k5 k6 k7 k8 k9 k10 k11 k12 (nI mc) len 0 ky ro ln kd nb sc wa sm ld lo lw tx) ∨ (r = 1 ∧ md_fit t nn ss dd n = 1 ∧ md_ok kd sc ss j n = 1 ∧ u = wK G k0 k1 k2 k3 k4 k5 k6 k7 k8 k9 k10 k11 k12 (nI mc) len 0 ky (upd ro j (nI (n + 1))) ln (upd kd (j * 200 + n) 0) (vp_updL nb (j * 200 + n) nn) (vp_updL sc (j * 200 + n) ss) (upd wa (j * 200 + n) dd) (vp_updL sm (j * 200 + n) (md_due ky (upd kd (j * 200 + n) 0) (vp_updL nb (j * 200 + n) nn) (vp_updL sc (j * 200 + n) ss) (upd wa (j * 200 + n) dd) sm j n)) ld lo lw tx)) (fun u t => va_P G.1 vwCl u t.heap) (adr (wK G k0 k1 k2 k3 k4 k5 k6 k7 k8 k9 k10 k11 k12 (nI mc) len thr ky ro ln kd nb sc wa sm ld lo lw tx))) 0 0 (adr (wK G k0 k1 k2 k3 k4 k5 k6 k7 k8 k9 k10 k11 k12 (nI mc) len thr ky ro ln kd nb sc wa sm ld lo lw tx)) := by
  refine Met.ofW (cc := cX4_pulses) (maxL := 9) (ret := (some .boolean)) (by decide) rfl ?_
  intro p e s m args below meth c s₁ B hml hv
  obtain ⟨rfl, hP, hE, hD0⟩ := hv
  have hx := B.exec
  have hb := B.bytes
  have hr := B.returns
  have hts := atoms_spec (ws := wsX4_pulses) B.pre
  have hown : s.vm.findClass RX4 = some m.cls := findClass_of_methodNamed B.named
  have hlocks := B.notSynchronized
  have hD : va_D (adr (wK G k0 k1 k2 k3 k4 k5 k6 k7 k8 k9 k10 k11 k12 (nI mc) len thr ky ro ln kd nb sc wa sm ld lo lw tx)) (wK G k0 k1 k2 k3 k4 k5 k6 k7 k8 k9 k10 k11 k12 (nI mc) len thr ky ro ln kd nb sc wa sm ld lo lw tx) := ⟨hD0.1, fun k q hk => ⟨k, q.2, hk⟩⟩
  generalize adr (wK G k0 k1 k2 k3 k4 k5 k6 k7 k8 k9 k10 k11 k12 (nI mc) len thr ky ro ln kd nb sc wa sm ld lo lw tx) = A at hD ⊢
  have hS : va_S A s.heap s.heap [] := va_S.rf
  have hiX4 : ∀ w ∈ wsX40, w ∈ wsX4_pulses := by decide +kernel
  have hl := lv_entry ([.ref k0, .int (nI j), .long nn, .long ss, .int dd]) (n := 9) (Nat.le_of_ble_eq_true rfl)
  rw [lg_entry_eq]
  generalize (lg_sl ([.ref k0, .int (nI j), .long nn, .long ss, .int dd]) ++ List.replicate (9 - (lg_sl ([.ref k0, .int (nI j), .long nn, .long ss, .int dd])).length) Slot.unset).toArray = ls at hl ⊢
  replace hl : lv_has ls 9 [(0, .ref k0), (1, .int (nI j)), (2, .long nn), (4, .long ss), (6, .int dd)] := hl
  have hm : ¬ f_holds (nI mc) (nI j) = 0 := (f_holds_iff (by omega) _).mpr ⟨j, hj, rfl⟩
  replace hj : j < 8 := by omega
  refine lv_aload_n hx hb dX4_pulses_0 rfl (lv_at hl 0 rfl) ?_
  refine lv_iconst (v := 0) hx hb dX4_pulses_1 (by decide) ?_
  refine va_put (D := G.1) (ci := 5) (v := .int 0) (ty := .int) (C := RX4) (T := TX4) (N := 15) hx hb hts hiX4 tyX4 tyX4_ok nmX4 hown hE.1 hP hD hS 0 rfl rfl 14 (by decide) (hts (.fieldLink RX4 47 "MeterSealsModel" "thrown" "I") (by decide +kernel)) (fun _ h9 => h9) rfl (by decide +kernel) rfl rfl (Nat.le_of_ble_eq_true rfl) dX4_pulses_2 (fun H locs hP hD hS => ?_)
  replace hP : va_P G.1 vwCl (wK G k0 k1 k2 k3 k4 k5 k6 k7 k8 k9 k10 k11 k12 (nI mc) len 0 ky ro ln kd nb sc wa sm ld lo lw tx) H := hP
  replace hD : va_D A (wK G k0 k1 k2 k3 k4 k5 k6 k7 k8 k9 k10 k11 k12 (nI mc) len 0 ky ro ln kd nb sc wa sm ld lo lw tx) := hD
  refine lv_aload_n hx hb dX4_pulses_5 rfl (lv_at hl 0 rfl) ?_
  refine lv_iload_n hx hb dX4_pulses_6 rfl (lv_at hl 1 rfl) ?_
  refine x_ri (va_runV (As := [.int (nI j)]) (rest := []) ⟨hx, hb, hml, hown, hts⟩ (ct_X4_isMeter l G k0 k1 k2 k3 k4 k5 k6 k7 k8 k9 k10 k11 k12 mc len 0 ky ro ln kd nb sc wa sm ld lo lw tx (nI j)) (cwV 1 hts gX4_pulses_X4_isMeter rfl rfl rfl (by decide +kernel) ⟨Nat.le_of_ble_eq_true rfl, Nat.le_of_ble_eq_true rfl⟩) (RdP.preV 0 5 rfl rfl hP hE) rfl rfl hl.1 rfl (lv_room (Nat.le_of_ble_eq_true rfl)) dX4_pulses_7 ⟨Nat.zero_le _, Nat.zero_le _⟩) (fun r1 er1 => ?_)
  subst er1
  refine lv_if_eq (tgt := 83) hx hb dX4_pulses_10 (by decide) (fun c10 => absurd c10 hm) (fun c10 => ?_)
  refine lv_aload_n hx hb dX4_pulses_13 rfl (lv_at hl 0 rfl) ?_
  refine va_get (D := G.1) (ci := 5) (v := .ref k3) (C := RX4) (T := TX4) (N := 15) hx hb hts hiX4 hown hE.1 hP 0 rfl rfl 2 (by decide) (hts (.fieldLink RX4 17 "MeterSealsModel" "lines" "[I") (by decide +kernel)) (fun _ h9 => h9) rfl dX4_pulses_14 ?_
  refine lv_iload_n hx hb dX4_pulses_17 rfl (lv_at hl 1 rfl) ?_
  refine va_iald hx hb hE.1 hP 3 0 rfl rfl (vp_in_nI (show j < 8 by omega) (by decide)) dX4_pulses_18 ?_
  rw [nI_clamp (n := j) (by omega)]
  rw [hln]
  refine lv_if_le (tgt := 83) hx hb dX4_pulses_19 (by decide) (fun c19 => ?_) (fun c19 => ?_)
  · refine lv_iconst (v := 0) hx hb dX4_pulses_83 (by decide) ?_
    refine lv_istore (lv' := [(7, .int 0), (0, .ref k0), (1, .int (nI j)), (2, .long nn), (4, .long ss), (6, .int dd)]) hx hb dX4_pulses_84 hl (by decide) rfl (fun ls hl => ?_)
    refine lv_iconst (v := 0) hx hb dX4_pulses_86 (by decide) ?_
    refine lv_istore (lv' := [(8, .int 0), (7, .int 0), (0, .ref k0), (1, .int (nI j)), (2, .long nn), (4, .long ss), (6, .int dd)]) hx hb dX4_pulses_87 hl (by decide) rfl (fun ls hl => ?_)
    refine lv_iload hx hb dX4_pulses_89 (lv_at hl 1 rfl) ?_
    refine lv_if_eq (tgt := 153) hx hb dX4_pulses_91 (by decide) (fun c91 => ?_) (fun c91 => absurd c91 (by decide))
    refine lv_iload hx hb dX4_pulses_153 (lv_at hl 1 rfl) ?_
    refine lv_if_eq (tgt := 169) hx hb dX4_pulses_155 (by decide) (fun c155 => ?_) (fun c155 => absurd c155 (by decide))
    refine lv_iload hx hb dX4_pulses_169 (lv_at hl 1 rfl) ?_
    exact W.zret (v := 0) hx hb hr (zb (Or.inl rfl)) (fun tZ hZ hW => ⟨⟨0, wK G k0 k1 k2 k3 k4 k5 k6 k7 k8 k9 k10 k11 k12 (nI mc) len 0 ky ro ln kd nb sc wa sm ld lo lw tx, rfl, Or.inl ⟨rfl, Or.inl (by simp only [md_fit, if_pos c19]), rfl⟩, by show va_P _ _ _ tZ.heap; rw [hZ]; exact hP⟩, hS.F hZ⟩) hS.2.2 dX4_pulses_171
  refine lv_lload_n hx hb dX4_pulses_22 rfl (lv_at hl 2 rfl) ?_
  refine lv_lconst (v := 0) hx hb dX4_pulses_23 (by decide) ?_
  refine x_llt (tgt := 83) hx hb dX4_pulses_24 dX4_pulses_25 (by decide) (fun c25 => ?_) (fun c25 => ?_)
  · refine lv_iconst (v := 0) hx hb dX4_pulses_83 (by decide) ?_
    refine lv_istore (lv' := [(7, .int 0), (0, .ref k0), (1, .int (nI j)), (2, .long nn), (4, .long ss), (6, .int dd)]) hx hb dX4_pulses_84 hl (by decide) rfl (fun ls hl => ?_)
    refine lv_iconst (v := 0) hx hb dX4_pulses_86 (by decide) ?_
    refine lv_istore (lv' := [(8, .int 0), (7, .int 0), (0, .ref k0), (1, .int (nI j)), (2, .long nn), (4, .long ss), (6, .int dd)]) hx hb dX4_pulses_87 hl (by decide) rfl (fun ls hl => ?_)
    refine lv_iload hx hb dX4_pulses_89 (lv_at hl 1 rfl) ?_
    refine lv_if_eq (tgt := 153) hx hb dX4_pulses_91 (by decide) (fun c91 => ?_) (fun c91 => absurd c91 (by decide))
    refine lv_iload hx hb dX4_pulses_153 (lv_at hl 1 rfl) ?_
    refine lv_if_eq (tgt := 169) hx hb dX4_pulses_155 (by decide) (fun c155 => ?_) (fun c155 => absurd c155 (by decide))
    refine lv_iload hx hb dX4_pulses_169 (lv_at hl 1 rfl) ?_
    exact W.zret (v := 0) hx hb hr (zb (Or.inl rfl)) (fun tZ hZ hW => ⟨⟨0, wK G k0 k1 k2 k3 k4 k5 k6 k7 k8 k9 k10 k11 k12 (nI mc) len 0 ky ro ln kd nb sc wa sm ld lo lw tx, rfl, Or.inl ⟨rfl, Or.inl (by simp only [md_fit, if_neg c19, if_pos c25]), rfl⟩, by show va_P _ _ _ tZ.heap; rw [hZ]; exact hP⟩, hS.F hZ⟩) hS.2.2 dX4_pulses_171
  refine lv_lload_n hx hb dX4_pulses_28 rfl (lv_at hl 2 rfl) ?_
  refine lv_ldc2 (v := 1000000) hx hb hown (hts (.constantLong RX4 70 1000000) (by decide +kernel)) dX4_pulses_29 ?_
  refine x_lgt (tgt := 83) hx hb dX4_pulses_32 dX4_pulses_33 (by decide) (fun c33 => ?_) (fun c33 => ?_)
  · refine lv_iconst (v := 0) hx hb dX4_pulses_83 (by decide) ?_
    refine lv_istore (lv' := [(7, .int 0), (0, .ref k0), (1, .int (nI j)), (2, .long nn), (4, .long ss), (6, .int dd)]) hx hb dX4_pulses_84 hl (by decide) rfl (fun ls hl => ?_)
    refine lv_iconst (v := 0) hx hb dX4_pulses_86 (by decide) ?_
    refine lv_istore (lv' := [(8, .int 0), (7, .int 0), (0, .ref k0), (1, .int (nI j)), (2, .long nn), (4, .long ss), (6, .int dd)]) hx hb dX4_pulses_87 hl (by decide) rfl (fun ls hl => ?_)
    refine lv_iload hx hb dX4_pulses_89 (lv_at hl 1 rfl) ?_
    refine lv_if_eq (tgt := 153) hx hb dX4_pulses_91 (by decide) (fun c91 => ?_) (fun c91 => absurd c91 (by decide))
    refine lv_iload hx hb dX4_pulses_153 (lv_at hl 1 rfl) ?_
    refine lv_if_eq (tgt := 169) hx hb dX4_pulses_155 (by decide) (fun c155 => ?_) (fun c155 => absurd c155 (by decide))
    refine lv_iload hx hb dX4_pulses_169 (lv_at hl 1 rfl) ?_
    exact W.zret (v := 0) hx hb hr (zb (Or.inl rfl)) (fun tZ hZ hW => ⟨⟨0, wK G k0 k1 k2 k3 k4 k5 k6 k7 k8 k9 k10 k11 k12 (nI mc) len 0 ky ro ln kd nb sc wa sm ld lo lw tx, rfl, Or.inl ⟨rfl, Or.inl (by simp only [md_fit, if_neg c19, if_neg c25, if_pos c33]), rfl⟩, by show va_P _ _ _ tZ.heap; rw [hZ]; exact hP⟩, hS.F hZ⟩) hS.2.2 dX4_pulses_171
  refine lv_lload hx hb dX4_pulses_36 (lv_at hl 3 rfl) ?_
  refine lv_lconst (v := 0) hx hb dX4_pulses_38 (by decide) ?_
  refine x_llt (tgt := 83) hx hb dX4_pulses_39 dX4_pulses_40 (by decide) (fun c40 => ?_) (fun c40 => ?_)
  · refine lv_iconst (v := 0) hx hb dX4_pulses_83 (by decide) ?_
    refine lv_istore (lv' := [(7, .int 0), (0, .ref k0), (1, .int (nI j)), (2, .long nn), (4, .long ss), (6, .int dd)]) hx hb dX4_pulses_84 hl (by decide) rfl (fun ls hl => ?_)
    refine lv_iconst (v := 0) hx hb dX4_pulses_86 (by decide) ?_
    refine lv_istore (lv' := [(8, .int 0), (7, .int 0), (0, .ref k0), (1, .int (nI j)), (2, .long nn), (4, .long ss), (6, .int dd)]) hx hb dX4_pulses_87 hl (by decide) rfl (fun ls hl => ?_)
    refine lv_iload hx hb dX4_pulses_89 (lv_at hl 1 rfl) ?_
    refine lv_if_eq (tgt := 153) hx hb dX4_pulses_91 (by decide) (fun c91 => ?_) (fun c91 => absurd c91 (by decide))
    refine lv_iload hx hb dX4_pulses_153 (lv_at hl 1 rfl) ?_
    refine lv_if_eq (tgt := 169) hx hb dX4_pulses_155 (by decide) (fun c155 => ?_) (fun c155 => absurd c155 (by decide))
    refine lv_iload hx hb dX4_pulses_169 (lv_at hl 1 rfl) ?_
    exact W.zret (v := 0) hx hb hr (zb (Or.inl rfl)) (fun tZ hZ hW => ⟨⟨0, wK G k0 k1 k2 k3 k4 k5 k6 k7 k8 k9 k10 k11 k12 (nI mc) len 0 ky ro ln kd nb sc wa sm ld lo lw tx, rfl, Or.inl ⟨rfl, Or.inl (by simp only [md_fit, if_neg c19, if_neg c25, if_neg c33, if_pos c40]), rfl⟩, by show va_P _ _ _ tZ.heap; rw [hZ]; exact hP⟩, hS.F hZ⟩) hS.2.2 dX4_pulses_171
  refine lv_lload hx hb dX4_pulses_43 (lv_at hl 3 rfl) ?_
  refine lv_ldc2 (v := 1000000000000) hx hb hown (hts (.constantLong RX4 72 1000000000000) (by decide +kernel)) dX4_pulses_45 ?_
  refine x_lgt (tgt := 83) hx hb dX4_pulses_48 dX4_pulses_49 (by decide) (fun c49 => ?_) (fun c49 => ?_)
  · refine lv_iconst (v := 0) hx hb dX4_pulses_83 (by decide) ?_
    refine lv_istore (lv' := [(7, .int 0), (0, .ref k0), (1, .int (nI j)), (2, .long nn), (4, .long ss), (6, .int dd)]) hx hb dX4_pulses_84 hl (by decide) rfl (fun ls hl => ?_)
    refine lv_iconst (v := 0) hx hb dX4_pulses_86 (by decide) ?_
    refine lv_istore (lv' := [(8, .int 0), (7, .int 0), (0, .ref k0), (1, .int (nI j)), (2, .long nn), (4, .long ss), (6, .int dd)]) hx hb dX4_pulses_87 hl (by decide) rfl (fun ls hl => ?_)
    refine lv_iload hx hb dX4_pulses_89 (lv_at hl 1 rfl) ?_
    refine lv_if_eq (tgt := 153) hx hb dX4_pulses_91 (by decide) (fun c91 => ?_) (fun c91 => absurd c91 (by decide))
    refine lv_iload hx hb dX4_pulses_153 (lv_at hl 1 rfl) ?_
    refine lv_if_eq (tgt := 169) hx hb dX4_pulses_155 (by decide) (fun c155 => ?_) (fun c155 => absurd c155 (by decide))
    refine lv_iload hx hb dX4_pulses_169 (lv_at hl 1 rfl) ?_
    exact W.zret (v := 0) hx hb hr (zb (Or.inl rfl)) (fun tZ hZ hW => ⟨⟨0, wK G k0 k1 k2 k3 k4 k5 k6 k7 k8 k9 k10 k11 k12 (nI mc) len 0 ky ro ln kd nb sc wa sm ld lo lw tx, rfl, Or.inl ⟨rfl, Or.inl (by simp only [md_fit, if_neg c19, if_neg c25, if_neg c33, if_neg c40, if_pos c49]), rfl⟩, by show va_P _ _ _ tZ.heap; rw [hZ]; exact hP⟩, hS.F hZ⟩) hS.2.2 dX4_pulses_171
  refine lv_iload hx hb dX4_pulses_52 (lv_at hl 4 rfl) ?_
  refine lv_bipush (v := (-50)) hx hb dX4_pulses_54 (by decide) ?_
  refine lv_icmp_lt (tgt := 83) hx hb dX4_pulses_56 (by decide) (fun c56 => ?_) (fun c56 => ?_)
  · refine lv_iconst (v := 0) hx hb dX4_pulses_83 (by decide) ?_
    refine lv_istore (lv' := [(7, .int 0), (0, .ref k0), (1, .int (nI j)), (2, .long nn), (4, .long ss), (6, .int dd)]) hx hb dX4_pulses_84 hl (by decide) rfl (fun ls hl => ?_)
    refine lv_iconst (v := 0) hx hb dX4_pulses_86 (by decide) ?_
    refine lv_istore (lv' := [(8, .int 0), (7, .int 0), (0, .ref k0), (1, .int (nI j)), (2, .long nn), (4, .long ss), (6, .int dd)]) hx hb dX4_pulses_87 hl (by decide) rfl (fun ls hl => ?_)
    refine lv_iload hx hb dX4_pulses_89 (lv_at hl 1 rfl) ?_
    refine lv_if_eq (tgt := 153) hx hb dX4_pulses_91 (by decide) (fun c91 => ?_) (fun c91 => absurd c91 (by decide))
    refine lv_iload hx hb dX4_pulses_153 (lv_at hl 1 rfl) ?_
    refine lv_if_eq (tgt := 169) hx hb dX4_pulses_155 (by decide) (fun c155 => ?_) (fun c155 => absurd c155 (by decide))
    refine lv_iload hx hb dX4_pulses_169 (lv_at hl 1 rfl) ?_
    exact W.zret (v := 0) hx hb hr (zb (Or.inl rfl)) (fun tZ hZ hW => ⟨⟨0, wK G k0 k1 k2 k3 k4 k5 k6 k7 k8 k9 k10 k11 k12 (nI mc) len 0 ky ro ln kd nb sc wa sm ld lo lw tx, rfl, Or.inl ⟨rfl, Or.inl (by simp only [md_fit, if_neg c19, if_neg c25, if_neg c33, if_neg c40, if_neg c49, if_pos c56]), rfl⟩, by show va_P _ _ _ tZ.heap; rw [hZ]; exact hP⟩, hS.F hZ⟩) hS.2.2 dX4_pulses_171
  refine lv_iload hx hb dX4_pulses_59 (lv_at hl 4 rfl) ?_
  refine lv_sipush (v := 150) hx hb dX4_pulses_61 (by decide) ?_
  refine lv_icmp_gt (tgt := 83) hx hb dX4_pulses_64 (by decide) (fun c64 => ?_) (fun c64 => ?_)
  · refine lv_iconst (v := 0) hx hb dX4_pulses_83 (by decide) ?_
    refine lv_istore (lv' := [(7, .int 0), (0, .ref k0), (1, .int (nI j)), (2, .long nn), (4, .long ss), (6, .int dd)]) hx hb dX4_pulses_84 hl (by decide) rfl (fun ls hl => ?_)
    refine lv_iconst (v := 0) hx hb dX4_pulses_86 (by decide) ?_
    refine lv_istore (lv' := [(8, .int 0), (7, .int 0), (0, .ref k0), (1, .int (nI j)), (2, .long nn), (4, .long ss), (6, .int dd)]) hx hb dX4_pulses_87 hl (by decide) rfl (fun ls hl => ?_)
    refine lv_iload hx hb dX4_pulses_89 (lv_at hl 1 rfl) ?_
    refine lv_if_eq (tgt := 153) hx hb dX4_pulses_91 (by decide) (fun c91 => ?_) (fun c91 => absurd c91 (by decide))
    refine lv_iload hx hb dX4_pulses_153 (lv_at hl 1 rfl) ?_
    refine lv_if_eq (tgt := 169) hx hb dX4_pulses_155 (by decide) (fun c155 => ?_) (fun c155 => absurd c155 (by decide))
    refine lv_iload hx hb dX4_pulses_169 (lv_at hl 1 rfl) ?_
    exact W.zret (v := 0) hx hb hr (zb (Or.inl rfl)) (fun tZ hZ hW => ⟨⟨0, wK G k0 k1 k2 k3 k4 k5 k6 k7 k8 k9 k10 k11 k12 (nI mc) len 0 ky ro ln kd nb sc wa sm ld lo lw tx, rfl, Or.inl ⟨rfl, Or.inl (by simp only [md_fit, if_neg c19, if_neg c25, if_neg c33, if_neg c40, if_neg c49, if_neg c56, if_pos c64]), rfl⟩, by show va_P _ _ _ tZ.heap; rw [hZ]; exact hP⟩, hS.F hZ⟩) hS.2.2 dX4_pulses_171
  refine lv_aload_n hx hb dX4_pulses_67 rfl (lv_at hl 0 rfl) ?_
  refine va_get (D := G.1) (ci := 5) (v := .ref k2) (C := RX4) (T := TX4) (N := 15) hx hb hts hiX4 hown hE.1 hP 0 rfl rfl 1 (by decide) (hts (.fieldLink RX4 13 "MeterSealsModel" "rows" "[I") (by decide +kernel)) (fun _ h9 => h9) rfl dX4_pulses_68 ?_
  refine lv_iload_n hx hb dX4_pulses_71 rfl (lv_at hl 1 rfl) ?_
  refine va_iald hx hb hE.1 hP 2 0 rfl rfl (vp_in_nI (show j < 8 by omega) (by decide)) dX4_pulses_72 ?_
  rw [nI_clamp (n := j) (by omega)]
  rw [hro]
  refine lv_sipush (v := 200) hx hb dX4_pulses_73 (by decide) ?_
  refine lv_icmp_ge (tgt := 83) hx hb dX4_pulses_76 (by decide) (fun c76 => ?_) (fun c76 => ?_)
  · refine lv_iconst (v := 0) hx hb dX4_pulses_83 (by decide) ?_
    refine lv_istore (lv' := [(7, .int 0), (0, .ref k0), (1, .int (nI j)), (2, .long nn), (4, .long ss), (6, .int dd)]) hx hb dX4_pulses_84 hl (by decide) rfl (fun ls hl => ?_)
    refine lv_iconst (v := 0) hx hb dX4_pulses_86 (by decide) ?_
    refine lv_istore (lv' := [(8, .int 0), (7, .int 0), (0, .ref k0), (1, .int (nI j)), (2, .long nn), (4, .long ss), (6, .int dd)]) hx hb dX4_pulses_87 hl (by decide) rfl (fun ls hl => ?_)
    refine lv_iload hx hb dX4_pulses_89 (lv_at hl 1 rfl) ?_
    refine lv_if_eq (tgt := 153) hx hb dX4_pulses_91 (by decide) (fun c91 => ?_) (fun c91 => absurd c91 (by decide))
    refine lv_iload hx hb dX4_pulses_153 (lv_at hl 1 rfl) ?_
    refine lv_if_eq (tgt := 169) hx hb dX4_pulses_155 (by decide) (fun c155 => ?_) (fun c155 => absurd c155 (by decide))
    refine lv_iload hx hb dX4_pulses_169 (lv_at hl 1 rfl) ?_
    exact W.zret (v := 0) hx hb hr (zb (Or.inl rfl)) (fun tZ hZ hW => ⟨⟨0, wK G k0 k1 k2 k3 k4 k5 k6 k7 k8 k9 k10 k11 k12 (nI mc) len 0 ky ro ln kd nb sc wa sm ld lo lw tx, rfl, Or.inl ⟨rfl, Or.inl (by simp only [md_fit, if_neg c19, if_neg c25, if_neg c33, if_neg c40, if_neg c49, if_neg c56, if_neg c64, if_pos c76]), rfl⟩, by show va_P _ _ _ tZ.heap; rw [hZ]; exact hP⟩, hS.F hZ⟩) hS.2.2 dX4_pulses_171
  refine lv_iconst (v := 1) hx hb dX4_pulses_79 (by decide) ?_
  refine lv_goto (tgt := 84) hx hb dX4_pulses_80 (by decide) ?_
  refine lv_istore (lv' := [(7, .int 1), (0, .ref k0), (1, .int (nI j)), (2, .long nn), (4, .long ss), (6, .int dd)]) hx hb dX4_pulses_84 hl (by decide) rfl (fun ls hl => ?_)
  refine lv_iconst (v := 0) hx hb dX4_pulses_86 (by decide) ?_
  refine lv_istore (lv' := [(8, .int 0), (7, .int 1), (0, .ref k0), (1, .int (nI j)), (2, .long nn), (4, .long ss), (6, .int dd)]) hx hb dX4_pulses_87 hl (by decide) rfl (fun ls hl => ?_)
  have hfit : md_fit t nn ss dd n = 1 := by simp only [md_fit, if_neg c19, if_neg c25, if_neg c33, if_neg c40, if_neg c49, if_neg c56, if_neg c64, if_neg c76]
  have hn : n < 200 := lt200 hn2 (Int32.not_le.mp c76)
  obtain ⟨i, hi⟩ : ∃ i : Nat, i = 0 := ⟨_, rfl⟩
  replace hl : lv_has ls 9 [(8, .int (nI i)), (7, .int 1), (0, .ref k0), (1, .int (nI j)), (2, .long nn), (4, .long ss), (6, .int dd)] := by rw [hi]; exact lv_sub hl [0, 1, 2, 3, 4, 5, 6] rfl
  obtain ⟨k, hk⟩ : ∃ k : Nat, i + k = n := ⟨n - i, by omega⟩
  have hv : md_okF kd sc ss j k i = md_ok kd sc ss j n := by rw [hi, show k = n by omega]; rfl
  clear hi
  induction k generalizing i ls with
  | zero =>
    refine lv_iload hx hb dX4_pulses_89 (lv_at hl 1 rfl) ?_
    refine lv_if_eq (tgt := 153) hx hb dX4_pulses_91 (by decide) (fun c91 => absurd c91 (by decide)) (fun c91 => ?_)
    refine lv_iload hx hb dX4_pulses_94 (lv_at hl 0 rfl) ?_
    refine lv_aload_n hx hb dX4_pulses_96 rfl (lv_at hl 2 rfl) ?_
    refine va_get (D := G.1) (ci := 5) (v := .ref k2) (C := RX4) (T := TX4) (N := 15) hx hb hts hiX4 hown hE.1 hP 0 rfl rfl 1 (by decide) (hts (.fieldLink RX4 13 "MeterSealsModel" "rows" "[I") (by decide +kernel)) (fun _ h9 => h9) rfl dX4_pulses_97 ?_
    refine lv_iload_n hx hb dX4_pulses_100 rfl (lv_at hl 3 rfl) ?_
    refine va_iald hx hb hE.1 hP 2 0 rfl rfl (vp_in_nI (show j < 8 by omega) (by decide)) dX4_pulses_101 ?_
    rw [nI_clamp (n := j) (by omega)]
    rw [hro]
    refine lv_icmp_ge (tgt := 153) hx hb dX4_pulses_102 (by decide) (fun c102 => ?_) (fun c102 => absurd (nI_le (by omega) (by omega)) c102)
    have hok : md_ok kd sc ss j n = 1 := by rw [← hv]; rfl
    refine lv_iload hx hb dX4_pulses_153 (lv_at hl 1 rfl) ?_
    refine lv_if_eq (tgt := 169) hx hb dX4_pulses_155 (by decide) (fun c155 => absurd c155 (by decide)) (fun c155 => ?_)
    refine lv_aload_n hx hb dX4_pulses_158 rfl (lv_at hl 2 rfl) ?_
    refine lv_iload_n hx hb dX4_pulses_159 rfl (lv_at hl 3 rfl) ?_
    refine lv_iconst (v := 0) hx hb dX4_pulses_160 (by decide) ?_
    refine lv_lload_n hx hb dX4_pulses_161 rfl (lv_at hl 4 rfl) ?_
    refine lv_lload hx hb dX4_pulses_162 (lv_at hl 5 rfl) ?_
    refine lv_iload hx hb dX4_pulses_164 (lv_at hl 6 rfl) ?_
    refine va_callv (va_runV (As := [.int (nI j), .int 0, .long nn, .long ss, .int dd]) (rest := []) ⟨hx, hb, hml, hown, hts⟩ (ct_X4_add l G k0 k1 k2 k3 k4 k5 k6 k7 k8 k9 k10 k11 k12 mc len 0 ky ro ln kd nb sc wa sm ld lo lw tx j n 0 nn ss dd hj hn hro) (cwV 5 hts gX4_pulses_X4_add rfl rfl rfl (by decide +kernel) ⟨Nat.le_of_ble_eq_true rfl, Nat.le_of_ble_eq_true rfl⟩) (WrP.preV 0 5 rfl rfl (x_mid ([]) (wK G k0 k1 k2 k3 k4 k5 k6 k7 k8 k9 k10 k11 k12 (nI mc) len 0 ky ro ln kd nb sc wa sm ld lo lw tx) ([]) rfl hP) hE (x_midD ([]) (wK G k0 k1 k2 k3 k4 k5 k6 k7 k8 k9 k10 k11 k12 (nI mc) len 0 ky ro ln kd nb sc wa sm ld lo lw tx) ([]) rfl hD)) rfl rfl hl.1 rfl (lv_room (Nat.le_of_ble_eq_true rfl)) dX4_pulses_166 ⟨Nat.zero_le _, Nat.zero_le _⟩) hS (fun q _ h => (x_adr ([]) (wK G k0 k1 k2 k3 k4 k5 k6 k7 k8 k9 k10 k11 k12 (nI mc) len 0 ky ro ln kd nb sc wa sm ld lo lw tx) ([]) rfl hD) q h) (x_adr ([]) (wK G k0 k1 k2 k3 k4 k5 k6 k7 k8 k9 k10 k11 k12 (nI mc) len 0 ky ro ln kd nb sc wa sm ld lo lw tx) ([]) rfl hD) (fun u t H1 locs ht hvm hw hB hz1 hk1 hS => ?_)
    rw [ht] at hB
    rcases hw with rfl
    obtain ⟨hP, hD⟩ := x_join ([]) (wK G k0 k1 k2 k3 k4 k5 k6 k7 k8 k9 k10 k11 k12 (nI mc) len 0 ky ro ln kd nb sc wa sm ld lo lw tx) ([]) (wK G k0 k1 k2 k3 k4 k5 k6 k7 k8 k9 k10 k11 k12 (nI mc) len 0 ky (upd ro j (nI (n + 1))) ln (upd kd (j * 200 + n) 0) (vp_updL nb (j * 200 + n) nn) (vp_updL sc (j * 200 + n) ss) (upd wa (j * 200 + n) dd) (vp_updL sm (j * 200 + n) (md_due ky (upd kd (j * 200 + n) 0) (vp_updL nb (j * 200 + n) nn) (vp_updL sc (j * 200 + n) ss) (upd wa (j * 200 + n) dd) sm j n)) ld lo lw tx) rfl hP hD hk1 hB rfl
    generalize H1 = H at hP hS ⊢
    replace hP : va_P G.1 vwCl (wK G k0 k1 k2 k3 k4 k5 k6 k7 k8 k9 k10 k11 k12 (nI mc) len 0 ky (upd ro j (nI (n + 1))) ln (upd kd (j * 200 + n) 0) (vp_updL nb (j * 200 + n) nn) (vp_updL sc (j * 200 + n) ss) (upd wa (j * 200 + n) dd) (vp_updL sm (j * 200 + n) (md_due ky (upd kd (j * 200 + n) 0) (vp_updL nb (j * 200 + n) nn) (vp_updL sc (j * 200 + n) ss) (upd wa (j * 200 + n) dd) sm j n)) ld lo lw tx) H := hP
    replace hD : va_D A (wK G k0 k1 k2 k3 k4 k5 k6 k7 k8 k9 k10 k11 k12 (nI mc) len 0 ky (upd ro j (nI (n + 1))) ln (upd kd (j * 200 + n) 0) (vp_updL nb (j * 200 + n) nn) (vp_updL sc (j * 200 + n) ss) (upd wa (j * 200 + n) dd) (vp_updL sm (j * 200 + n) (md_due ky (upd kd (j * 200 + n) 0) (vp_updL nb (j * 200 + n) nn) (vp_updL sc (j * 200 + n) ss) (upd wa (j * 200 + n) dd) sm j n)) ld lo lw tx) := hD
    refine lv_iload hx hb dX4_pulses_169 (lv_at hl 1 rfl) ?_
    exact W.zret (v := 1) hx hb hr (zb (Or.inr rfl)) (fun tZ hZ hW => ⟨⟨1, wK G k0 k1 k2 k3 k4 k5 k6 k7 k8 k9 k10 k11 k12 (nI mc) len 0 ky (upd ro j (nI (n + 1))) ln (upd kd (j * 200 + n) 0) (vp_updL nb (j * 200 + n) nn) (vp_updL sc (j * 200 + n) ss) (upd wa (j * 200 + n) dd) (vp_updL sm (j * 200 + n) (md_due ky (upd kd (j * 200 + n) 0) (vp_updL nb (j * 200 + n) nn) (vp_updL sc (j * 200 + n) ss) (upd wa (j * 200 + n) dd) sm j n)) ld lo lw tx, rfl, Or.inr ⟨rfl, hfit, hok, rfl⟩, by show va_P _ _ _ tZ.heap; rw [hZ]; exact hP⟩, hS.F hZ⟩) hS.2.2 dX4_pulses_171
  | succ k ih =>
    refine lv_iload hx hb dX4_pulses_89 (lv_at hl 1 rfl) ?_
    refine lv_if_eq (tgt := 153) hx hb dX4_pulses_91 (by decide) (fun c91 => absurd c91 (by decide)) (fun c91 => ?_)
    refine lv_iload hx hb dX4_pulses_94 (lv_at hl 0 rfl) ?_
    refine lv_aload_n hx hb dX4_pulses_96 rfl (lv_at hl 2 rfl) ?_
    refine va_get (D := G.1) (ci := 5) (v := .ref k2) (C := RX4) (T := TX4) (N := 15) hx hb hts hiX4 hown hE.1 hP 0 rfl rfl 1 (by decide) (hts (.fieldLink RX4 13 "MeterSealsModel" "rows" "[I") (by decide +kernel)) (fun _ h9 => h9) rfl dX4_pulses_97 ?_
    refine lv_iload_n hx hb dX4_pulses_100 rfl (lv_at hl 3 rfl) ?_
    refine va_iald hx hb hE.1 hP 2 0 rfl rfl (vp_in_nI (show j < 8 by omega) (by decide)) dX4_pulses_101 ?_
    rw [nI_clamp (n := j) (by omega)]
    rw [hro]
    refine lv_icmp_ge (tgt := 153) hx hb dX4_pulses_102 (by decide) (fun c102 => absurd c102 (nI_ge (by omega) (by omega))) (fun c102 => ?_)
    refine lv_aload_n hx hb dX4_pulses_105 rfl (lv_at hl 2 rfl) ?_
    refine va_get (D := G.1) (ci := 5) (v := .ref k4) (C := RX4) (T := TX4) (N := 15) hx hb hts hiX4 hown hE.1 hP 0 rfl rfl 4 (by decide) (hts (.fieldLink RX4 20 "MeterSealsModel" "kind" "[I") (by decide +kernel)) (fun _ h9 => h9) rfl dX4_pulses_106 ?_
    refine lv_iload_n hx hb dX4_pulses_109 rfl (lv_at hl 3 rfl) ?_
    refine lv_sipush (v := 200) hx hb dX4_pulses_110 (by decide) ?_
    refine lv_imul hx hb dX4_pulses_113 ?_
    rw [nI_mul200 j]
    refine lv_iload hx hb dX4_pulses_114 (lv_at hl 0 rfl) ?_
    refine lv_iadd hx hb dX4_pulses_116 ?_
    rw [nI_add (j * 200) i]
    refine va_iald hx hb hE.1 hP 4 0 rfl rfl (vp_in_nI (show j * 200 + i < 1600 by omega) (by decide)) dX4_pulses_117 ?_
    rw [nI_clamp (n := j * 200 + i) (by omega)]
    refine lv_if_ne (tgt := 140) hx hb dX4_pulses_118 (by decide) (fun c118 => ?_) (fun c118 => ?_)
    · refine lv_iconst (v := 1) hx hb dX4_pulses_140 (by decide) ?_
      refine lv_goto (tgt := 145) hx hb dX4_pulses_141 (by decide) ?_
      refine lv_istore (lv' := [(7, .int 1), (8, .int (nI i)), (0, .ref k0), (1, .int (nI j)), (2, .long nn), (4, .long ss), (6, .int dd)]) hx hb dX4_pulses_145 hl (by decide) rfl (fun ls hl => ?_)
      refine lv_iinc (v := (nI (i + 1))) (lv' := [(8, .int (nI (i + 1))), (7, .int 1), (0, .ref k0), (1, .int (nI j)), (2, .long nn), (4, .long ss), (6, .int dd)]) hx hb dX4_pulses_147 hl (k := 1) rfl (nI_1 i) (by decide) rfl (fun ls hl => ?_)
      refine lv_goto (tgt := 89) hx hb dX4_pulses_150 (by decide) ?_
      exact ih ls (i + 1) (lv_sub hl [0, 1, 2, 3, 4, 5, 6] rfl) (by omega) (by simpa only [md_okF, if_neg c118] using hv)
    refine lv_aload_n hx hb dX4_pulses_121 rfl (lv_at hl 2 rfl) ?_
    refine va_get (D := G.1) (ci := 5) (v := .ref k6) (C := RX4) (T := TX4) (N := 15) hx hb hts hiX4 hown hE.1 hP 0 rfl rfl 6 (by decide) (hts (.fieldLink RX4 26 "MeterSealsModel" "second" "[J") (by decide +kernel)) (fun _ h9 => h9) rfl dX4_pulses_122 ?_
    refine lv_iload_n hx hb dX4_pulses_125 rfl (lv_at hl 3 rfl) ?_
    refine lv_sipush (v := 200) hx hb dX4_pulses_126 (by decide) ?_
    refine lv_imul hx hb dX4_pulses_129 ?_
    rw [nI_mul200 j]
    refine lv_iload hx hb dX4_pulses_130 (lv_at hl 0 rfl) ?_
    refine lv_iadd hx hb dX4_pulses_132 ?_
    rw [nI_add (j * 200) i]
    refine va_lald hx hb hE.1 hP 6 1 rfl rfl (vp_in_nI (show j * 200 + i < 1600 by omega) (by decide)) dX4_pulses_133 ?_
    rw [nI_clamp (n := j * 200 + i) (by omega)]
    refine lv_lload hx hb dX4_pulses_134 (lv_at hl 5 rfl) ?_
    refine x_lgt (tgt := 144) hx hb dX4_pulses_136 dX4_pulses_137 (by decide) (fun c137 => ?_) (fun c137 => ?_)
    · refine lv_iconst (v := 0) hx hb dX4_pulses_144 (by decide) ?_
      refine lv_istore (lv' := [(7, .int 0), (8, .int (nI i)), (0, .ref k0), (1, .int (nI j)), (2, .long nn), (4, .long ss), (6, .int dd)]) hx hb dX4_pulses_145 hl (by decide) rfl (fun ls hl => ?_)
      refine lv_iinc (v := (nI (i + 1))) (lv' := [(8, .int (nI (i + 1))), (7, .int 0), (0, .ref k0), (1, .int (nI j)), (2, .long nn), (4, .long ss), (6, .int dd)]) hx hb dX4_pulses_147 hl (k := 1) rfl (nI_1 i) (by decide) rfl (fun ls hl => ?_)
      refine lv_goto (tgt := 89) hx hb dX4_pulses_150 (by decide) ?_
      have hok : md_ok kd sc ss j n = 0 := by rw [← hv]; simp only [md_okF, if_pos c118, if_pos c137]
      refine lv_iload hx hb dX4_pulses_89 (lv_at hl 1 rfl) ?_
      refine lv_if_eq (tgt := 153) hx hb dX4_pulses_91 (by decide) (fun c91 => ?_) (fun c91 => absurd c91 (by decide))
      refine lv_iload hx hb dX4_pulses_153 (lv_at hl 1 rfl) ?_
      refine lv_if_eq (tgt := 169) hx hb dX4_pulses_155 (by decide) (fun c155 => ?_) (fun c155 => absurd c155 (by decide))
      refine lv_iload hx hb dX4_pulses_169 (lv_at hl 1 rfl) ?_
      exact W.zret (v := 0) hx hb hr (zb (Or.inl rfl)) (fun tZ hZ hW => ⟨⟨0, wK G k0 k1 k2 k3 k4 k5 k6 k7 k8 k9 k10 k11 k12 (nI mc) len 0 ky ro ln kd nb sc wa sm ld lo lw tx, rfl, Or.inl ⟨rfl, Or.inr hok, rfl⟩, by show va_P _ _ _ tZ.heap; rw [hZ]; exact hP⟩, hS.F hZ⟩) hS.2.2 dX4_pulses_171
    refine lv_iconst (v := 1) hx hb dX4_pulses_140 (by decide) ?_
    refine lv_goto (tgt := 145) hx hb dX4_pulses_141 (by decide) ?_
    refine lv_istore (lv' := [(7, .int 1), (8, .int (nI i)), (0, .ref k0), (1, .int (nI j)), (2, .long nn), (4, .long ss), (6, .int dd)]) hx hb dX4_pulses_145 hl (by decide) rfl (fun ls hl => ?_)
    refine lv_iinc (v := (nI (i + 1))) (lv' := [(8, .int (nI (i + 1))), (7, .int 1), (0, .ref k0), (1, .int (nI j)), (2, .long nn), (4, .long ss), (6, .int dd)]) hx hb dX4_pulses_147 hl (k := 1) rfl (nI_1 i) (by decide) rfl (fun ls hl => ?_)
    refine lv_goto (tgt := 89) hx hb dX4_pulses_150 (by decide) ?_
    exact ih ls (i + 1) (lv_sub hl [0, 1, 2, 3, 4, 5, 6] rfl) (by omega) (by simpa only [md_okF, if_pos c118, if_neg c137] using hv)

set_option maxHeartbeats 4000000 in
set_option maxRecDepth 100000 in
/-- X4_reset, present -/
theorem ct_X4_reset (l : Launch) (G : Gx) (k0 k1 k2 k3 k4 k5 k6 k7 k8 k9 k10 k11 k12 : Nat) (mc : Nat) (len thr : Int32) (ky : Nat → Int64) (ro ln kd : Nat → Int32) (nb sc : Nat → Int64) (wa : Nat → Int32) (sm : Nat → Int64) (ld : Nat → Int32) (lo lw : Nat → Int64) (tx : Nat → Int32) (j n t : Nat) (nn : Int64) (hmc : mc ≤ 8) (hj : j < mc) (hn2 : n ≤ 200) (hro : ro j = nI n) (ht : t ≤ 16) (hln : ln j = nI t) : Met l yX4_reset wsX4_reset ({ frames := 3, cells := 0, slots := 0, locals := 78 }) (WrP G (wK G k0 k1 k2 k3 k4 k5 k6 k7 k8 k9 k10 k11 k12 (nI mc) len thr ky ro ln kd nb sc wa sm ld lo lw tx) [.ref k0, .int (nI j), .long nn]) (va_Qi (fun r (u : va_W) => (r = 0 ∧ md_rsfit nn n = 0 ∧ u = wK G k0 k1 k2 k3 k4 k5 k6 k7 k8 k9 k10 k11 k12 (nI mc) len 0 ky ro ln kd nb sc wa sm ld lo lw tx) ∨ (r = 1 ∧ md_rsfit nn n = 1 ∧ u = wK G k0 k1 k2 k3 k4 k5 k6 k7 k8 k9 k10 k11 k12 (nI mc) len 0 ky (upd ro j (nI (n + 1))) ln (upd kd (j * 200 + n) 1) (vp_updL nb (j * 200 + n) nn) (vp_updL sc (j * 200 + n) 0) (upd wa (j * 200 + n) 0) (vp_updL sm (j * 200 + n) (md_due ky (upd kd (j * 200 + n) 1) (vp_updL nb (j * 200 + n) nn) (vp_updL sc (j * 200 + n) 0) (upd wa (j * 200 + n) 0) sm j n)) ld lo lw tx)) (fun u t => va_P G.1 vwCl u t.heap) (adr (wK G k0 k1 k2 k3 k4 k5 k6 k7 k8 k9 k10 k11 k12 (nI mc) len thr ky ro ln kd nb sc wa sm ld lo lw tx))) 0 0 (adr (wK G k0 k1 k2 k3 k4 k5 k6 k7 k8 k9 k10 k11 k12 (nI mc) len thr ky ro ln kd nb sc wa sm ld lo lw tx)) := by
  refine Met.ofW (cc := cX4_reset) (maxL := 5) (ret := (some .boolean)) (by decide) rfl ?_
  intro p e s m args below meth c s₁ B hml hv
  obtain ⟨rfl, hP, hE, hD0⟩ := hv
  have hx := B.exec
  have hb := B.bytes
  have hr := B.returns
  have hts := atoms_spec (ws := wsX4_reset) B.pre
  have hown : s.vm.findClass RX4 = some m.cls := findClass_of_methodNamed B.named
  have hlocks := B.notSynchronized
  have hD : va_D (adr (wK G k0 k1 k2 k3 k4 k5 k6 k7 k8 k9 k10 k11 k12 (nI mc) len thr ky ro ln kd nb sc wa sm ld lo lw tx)) (wK G k0 k1 k2 k3 k4 k5 k6 k7 k8 k9 k10 k11 k12 (nI mc) len thr ky ro ln kd nb sc wa sm ld lo lw tx) := ⟨hD0.1, fun k q hk => ⟨k, q.2, hk⟩⟩
  generalize adr (wK G k0 k1 k2 k3 k4 k5 k6 k7 k8 k9 k10 k11 k12 (nI mc) len thr ky ro ln kd nb sc wa sm ld lo lw tx) = A at hD ⊢
  have hS : va_S A s.heap s.heap [] := va_S.rf
  have hiX4 : ∀ w ∈ wsX40, w ∈ wsX4_reset := by decide +kernel
  have hl := lv_entry ([.ref k0, .int (nI j), .long nn]) (n := 5) (Nat.le_of_ble_eq_true rfl)
  rw [lg_entry_eq]
  generalize (lg_sl ([.ref k0, .int (nI j), .long nn]) ++ List.replicate (5 - (lg_sl ([.ref k0, .int (nI j), .long nn])).length) Slot.unset).toArray = ls at hl ⊢
  replace hl : lv_has ls 5 [(0, .ref k0), (1, .int (nI j)), (2, .long nn)] := hl
  have hm : ¬ f_holds (nI mc) (nI j) = 0 := (f_holds_iff (by omega) _).mpr ⟨j, hj, rfl⟩
  replace hj : j < 8 := by omega
  refine lv_aload_n hx hb dX4_reset_0 rfl (lv_at hl 0 rfl) ?_
  refine lv_iconst (v := 0) hx hb dX4_reset_1 (by decide) ?_
  refine va_put (D := G.1) (ci := 5) (v := .int 0) (ty := .int) (C := RX4) (T := TX4) (N := 15) hx hb hts hiX4 tyX4 tyX4_ok nmX4 hown hE.1 hP hD hS 0 rfl rfl 14 (by decide) (hts (.fieldLink RX4 47 "MeterSealsModel" "thrown" "I") (by decide +kernel)) (fun _ h9 => h9) rfl (by decide +kernel) rfl rfl (Nat.le_of_ble_eq_true rfl) dX4_reset_2 (fun H locs hP hD hS => ?_)
  replace hP : va_P G.1 vwCl (wK G k0 k1 k2 k3 k4 k5 k6 k7 k8 k9 k10 k11 k12 (nI mc) len 0 ky ro ln kd nb sc wa sm ld lo lw tx) H := hP
  replace hD : va_D A (wK G k0 k1 k2 k3 k4 k5 k6 k7 k8 k9 k10 k11 k12 (nI mc) len 0 ky ro ln kd nb sc wa sm ld lo lw tx) := hD
  refine lv_aload_n hx hb dX4_reset_5 rfl (lv_at hl 0 rfl) ?_
  refine lv_iload_n hx hb dX4_reset_6 rfl (lv_at hl 1 rfl) ?_
  refine x_ri (va_runV (As := [.int (nI j)]) (rest := []) ⟨hx, hb, hml, hown, hts⟩ (ct_X4_isMeter l G k0 k1 k2 k3 k4 k5 k6 k7 k8 k9 k10 k11 k12 mc len 0 ky ro ln kd nb sc wa sm ld lo lw tx (nI j)) (cwV 1 hts gX4_reset_X4_isMeter rfl rfl rfl (by decide +kernel) ⟨Nat.le_of_ble_eq_true rfl, Nat.le_of_ble_eq_true rfl⟩) (RdP.preV 0 5 rfl rfl hP hE) rfl rfl hl.1 rfl (lv_room (Nat.le_of_ble_eq_true rfl)) dX4_reset_7 ⟨Nat.zero_le _, Nat.zero_le _⟩) (fun r1 er1 => ?_)
  subst er1
  refine lv_if_eq (tgt := 43) hx hb dX4_reset_10 (by decide) (fun c10 => absurd c10 hm) (fun c10 => ?_)
  refine lv_lload_n hx hb dX4_reset_13 rfl (lv_at hl 2 rfl) ?_
  refine lv_lconst (v := 0) hx hb dX4_reset_14 (by decide) ?_
  refine x_llt (tgt := 43) hx hb dX4_reset_15 dX4_reset_16 (by decide) (fun c16 => ?_) (fun c16 => ?_)
  · refine lv_iconst (v := 0) hx hb dX4_reset_43 (by decide) ?_
    refine lv_istore (lv' := [(4, .int 0), (0, .ref k0), (1, .int (nI j)), (2, .long nn)]) hx hb dX4_reset_44 hl (by decide) rfl (fun ls hl => ?_)
    refine lv_iload hx hb dX4_reset_46 (lv_at hl 0 rfl) ?_
    refine lv_if_eq (tgt := 60) hx hb dX4_reset_48 (by decide) (fun c48 => ?_) (fun c48 => absurd c48 (by decide))
    refine lv_iload hx hb dX4_reset_60 (lv_at hl 0 rfl) ?_
    exact W.zret (v := 0) hx hb hr (zb (Or.inl rfl)) (fun tZ hZ hW => ⟨⟨0, wK G k0 k1 k2 k3 k4 k5 k6 k7 k8 k9 k10 k11 k12 (nI mc) len 0 ky ro ln kd nb sc wa sm ld lo lw tx, rfl, Or.inl ⟨rfl, by simp only [md_rsfit, if_pos c16], rfl⟩, by show va_P _ _ _ tZ.heap; rw [hZ]; exact hP⟩, hS.F hZ⟩) hS.2.2 dX4_reset_62
  refine lv_lload_n hx hb dX4_reset_19 rfl (lv_at hl 2 rfl) ?_
  refine lv_ldc2 (v := 1000000000000) hx hb hown (hts (.constantLong RX4 72 1000000000000) (by decide +kernel)) dX4_reset_20 ?_
  refine x_lgt (tgt := 43) hx hb dX4_reset_23 dX4_reset_24 (by decide) (fun c24 => ?_) (fun c24 => ?_)
  · refine lv_iconst (v := 0) hx hb dX4_reset_43 (by decide) ?_
    refine lv_istore (lv' := [(4, .int 0), (0, .ref k0), (1, .int (nI j)), (2, .long nn)]) hx hb dX4_reset_44 hl (by decide) rfl (fun ls hl => ?_)
    refine lv_iload hx hb dX4_reset_46 (lv_at hl 0 rfl) ?_
    refine lv_if_eq (tgt := 60) hx hb dX4_reset_48 (by decide) (fun c48 => ?_) (fun c48 => absurd c48 (by decide))
    refine lv_iload hx hb dX4_reset_60 (lv_at hl 0 rfl) ?_
    exact W.zret (v := 0) hx hb hr (zb (Or.inl rfl)) (fun tZ hZ hW => ⟨⟨0, wK G k0 k1 k2 k3 k4 k5 k6 k7 k8 k9 k10 k11 k12 (nI mc) len 0 ky ro ln kd nb sc wa sm ld lo lw tx, rfl, Or.inl ⟨rfl, by simp only [md_rsfit, if_neg c16, if_pos c24], rfl⟩, by show va_P _ _ _ tZ.heap; rw [hZ]; exact hP⟩, hS.F hZ⟩) hS.2.2 dX4_reset_62
  refine lv_aload_n hx hb dX4_reset_27 rfl (lv_at hl 0 rfl) ?_
  refine va_get (D := G.1) (ci := 5) (v := .ref k2) (C := RX4) (T := TX4) (N := 15) hx hb hts hiX4 hown hE.1 hP 0 rfl rfl 1 (by decide) (hts (.fieldLink RX4 13 "MeterSealsModel" "rows" "[I") (by decide +kernel)) (fun _ h9 => h9) rfl dX4_reset_28 ?_
  refine lv_iload_n hx hb dX4_reset_31 rfl (lv_at hl 1 rfl) ?_
  refine va_iald hx hb hE.1 hP 2 0 rfl rfl (vp_in_nI (show j < 8 by omega) (by decide)) dX4_reset_32 ?_
  rw [nI_clamp (n := j) (by omega)]
  rw [hro]
  refine lv_sipush (v := 200) hx hb dX4_reset_33 (by decide) ?_
  refine lv_icmp_ge (tgt := 43) hx hb dX4_reset_36 (by decide) (fun c36 => ?_) (fun c36 => ?_)
  · refine lv_iconst (v := 0) hx hb dX4_reset_43 (by decide) ?_
    refine lv_istore (lv' := [(4, .int 0), (0, .ref k0), (1, .int (nI j)), (2, .long nn)]) hx hb dX4_reset_44 hl (by decide) rfl (fun ls hl => ?_)
    refine lv_iload hx hb dX4_reset_46 (lv_at hl 0 rfl) ?_
    refine lv_if_eq (tgt := 60) hx hb dX4_reset_48 (by decide) (fun c48 => ?_) (fun c48 => absurd c48 (by decide))
    refine lv_iload hx hb dX4_reset_60 (lv_at hl 0 rfl) ?_
    exact W.zret (v := 0) hx hb hr (zb (Or.inl rfl)) (fun tZ hZ hW => ⟨⟨0, wK G k0 k1 k2 k3 k4 k5 k6 k7 k8 k9 k10 k11 k12 (nI mc) len 0 ky ro ln kd nb sc wa sm ld lo lw tx, rfl, Or.inl ⟨rfl, by simp only [md_rsfit, if_neg c16, if_neg c24, if_pos c36], rfl⟩, by show va_P _ _ _ tZ.heap; rw [hZ]; exact hP⟩, hS.F hZ⟩) hS.2.2 dX4_reset_62
  have hn : n < 200 := lt200 hn2 (Int32.not_le.mp c36)
  refine lv_iconst (v := 1) hx hb dX4_reset_39 (by decide) ?_
  refine lv_goto (tgt := 44) hx hb dX4_reset_40 (by decide) ?_
  refine lv_istore (lv' := [(4, .int 1), (0, .ref k0), (1, .int (nI j)), (2, .long nn)]) hx hb dX4_reset_44 hl (by decide) rfl (fun ls hl => ?_)
  refine lv_iload hx hb dX4_reset_46 (lv_at hl 0 rfl) ?_
  refine lv_if_eq (tgt := 60) hx hb dX4_reset_48 (by decide) (fun c48 => absurd c48 (by decide)) (fun c48 => ?_)
  refine lv_aload_n hx hb dX4_reset_51 rfl (lv_at hl 1 rfl) ?_
  refine lv_iload_n hx hb dX4_reset_52 rfl (lv_at hl 2 rfl) ?_
  refine lv_iconst (v := 1) hx hb dX4_reset_53 (by decide) ?_
  refine lv_lload_n hx hb dX4_reset_54 rfl (lv_at hl 3 rfl) ?_
  refine lv_lconst (v := 0) hx hb dX4_reset_55 (by decide) ?_
  refine lv_iconst (v := 0) hx hb dX4_reset_56 (by decide) ?_
  refine va_callv (va_runV (As := [.int (nI j), .int 1, .long nn, .long 0, .int 0]) (rest := []) ⟨hx, hb, hml, hown, hts⟩ (ct_X4_add l G k0 k1 k2 k3 k4 k5 k6 k7 k8 k9 k10 k11 k12 mc len 0 ky ro ln kd nb sc wa sm ld lo lw tx j n 1 nn 0 0 hj hn hro) (cwV 5 hts gX4_reset_X4_add rfl rfl rfl (by decide +kernel) ⟨Nat.le_of_ble_eq_true rfl, Nat.le_of_ble_eq_true rfl⟩) (WrP.preV 0 5 rfl rfl (x_mid ([]) (wK G k0 k1 k2 k3 k4 k5 k6 k7 k8 k9 k10 k11 k12 (nI mc) len 0 ky ro ln kd nb sc wa sm ld lo lw tx) ([]) rfl hP) hE (x_midD ([]) (wK G k0 k1 k2 k3 k4 k5 k6 k7 k8 k9 k10 k11 k12 (nI mc) len 0 ky ro ln kd nb sc wa sm ld lo lw tx) ([]) rfl hD)) rfl rfl hl.1 rfl (lv_room (Nat.le_of_ble_eq_true rfl)) dX4_reset_57 ⟨Nat.zero_le _, Nat.zero_le _⟩) hS (fun q _ h => (x_adr ([]) (wK G k0 k1 k2 k3 k4 k5 k6 k7 k8 k9 k10 k11 k12 (nI mc) len 0 ky ro ln kd nb sc wa sm ld lo lw tx) ([]) rfl hD) q h) (x_adr ([]) (wK G k0 k1 k2 k3 k4 k5 k6 k7 k8 k9 k10 k11 k12 (nI mc) len 0 ky ro ln kd nb sc wa sm ld lo lw tx) ([]) rfl hD) (fun u t H1 locs ht hvm hw hB hz1 hk1 hS => ?_)
  rw [ht] at hB
  rcases hw with rfl
  obtain ⟨hP, hD⟩ := x_join ([]) (wK G k0 k1 k2 k3 k4 k5 k6 k7 k8 k9 k10 k11 k12 (nI mc) len 0 ky ro ln kd nb sc wa sm ld lo lw tx) ([]) (wK G k0 k1 k2 k3 k4 k5 k6 k7 k8 k9 k10 k11 k12 (nI mc) len 0 ky (upd ro j (nI (n + 1))) ln (upd kd (j * 200 + n) 1) (vp_updL nb (j * 200 + n) nn) (vp_updL sc (j * 200 + n) 0) (upd wa (j * 200 + n) 0) (vp_updL sm (j * 200 + n) (md_due ky (upd kd (j * 200 + n) 1) (vp_updL nb (j * 200 + n) nn) (vp_updL sc (j * 200 + n) 0) (upd wa (j * 200 + n) 0) sm j n)) ld lo lw tx) rfl hP hD hk1 hB rfl
  generalize H1 = H at hP hS ⊢
  replace hP : va_P G.1 vwCl (wK G k0 k1 k2 k3 k4 k5 k6 k7 k8 k9 k10 k11 k12 (nI mc) len 0 ky (upd ro j (nI (n + 1))) ln (upd kd (j * 200 + n) 1) (vp_updL nb (j * 200 + n) nn) (vp_updL sc (j * 200 + n) 0) (upd wa (j * 200 + n) 0) (vp_updL sm (j * 200 + n) (md_due ky (upd kd (j * 200 + n) 1) (vp_updL nb (j * 200 + n) nn) (vp_updL sc (j * 200 + n) 0) (upd wa (j * 200 + n) 0) sm j n)) ld lo lw tx) H := hP
  replace hD : va_D A (wK G k0 k1 k2 k3 k4 k5 k6 k7 k8 k9 k10 k11 k12 (nI mc) len 0 ky (upd ro j (nI (n + 1))) ln (upd kd (j * 200 + n) 1) (vp_updL nb (j * 200 + n) nn) (vp_updL sc (j * 200 + n) 0) (upd wa (j * 200 + n) 0) (vp_updL sm (j * 200 + n) (md_due ky (upd kd (j * 200 + n) 1) (vp_updL nb (j * 200 + n) nn) (vp_updL sc (j * 200 + n) 0) (upd wa (j * 200 + n) 0) sm j n)) ld lo lw tx) := hD
  refine lv_iload hx hb dX4_reset_60 (lv_at hl 0 rfl) ?_
  exact W.zret (v := 1) hx hb hr (zb (Or.inr rfl)) (fun tZ hZ hW => ⟨⟨1, wK G k0 k1 k2 k3 k4 k5 k6 k7 k8 k9 k10 k11 k12 (nI mc) len 0 ky (upd ro j (nI (n + 1))) ln (upd kd (j * 200 + n) 1) (vp_updL nb (j * 200 + n) nn) (vp_updL sc (j * 200 + n) 0) (upd wa (j * 200 + n) 0) (vp_updL sm (j * 200 + n) (md_due ky (upd kd (j * 200 + n) 1) (vp_updL nb (j * 200 + n) nn) (vp_updL sc (j * 200 + n) 0) (upd wa (j * 200 + n) 0) sm j n)) ld lo lw tx, rfl, Or.inr ⟨rfl, by simp only [md_rsfit, if_neg c16, if_neg c24, if_neg c36], rfl⟩, by show va_P _ _ _ tZ.heap; rw [hZ]; exact hP⟩, hS.F hZ⟩) hS.2.2 dX4_reset_62

set_option maxHeartbeats 4000000 in
set_option maxRecDepth 100000 in
/-- X4_seal, present -/
theorem ct_X4_seal (l : Launch) (G : Gx) (k0 k1 k2 k3 k4 k5 k6 k7 k8 k9 k10 k11 k12 : Nat) (mc : Nat) (len thr : Int32) (ky : Nat → Int64) (ro ln kd : Nat → Int32) (nb sc : Nat → Int64) (wa : Nat → Int32) (sm : Nat → Int64) (ld : Nat → Int32) (lo lw : Nat → Int64) (tx : Nat → Int32) (j n t : Nat) (person set_ : Int32) (hmc : mc ≤ 8) (hj : j < mc) (hn2 : n ≤ 200) (hro : ro j = nI n) (ht : t ≤ 16) (hln : ln j = nI t) : Met l yX4_seal wsX4_seal ({ frames := 3, cells := 0, slots := 0, locals := 78 }) (WrP G (wK G k0 k1 k2 k3 k4 k5 k6 k7 k8 k9 k10 k11 k12 (nI mc) len thr ky ro ln kd nb sc wa sm ld lo lw tx) [.ref k0, .int (nI j), .int person, .int set_]) (va_Qi (fun r (u : va_W) => (r = 0 ∧ md_sefit kd j n person set_ = 0 ∧ u = wK G k0 k1 k2 k3 k4 k5 k6 k7 k8 k9 k10 k11 k12 (nI mc) len 0 ky ro ln kd nb sc wa sm ld lo lw tx) ∨ (r = 1 ∧ md_sefit kd j n person set_ = 1 ∧ u = wK G k0 k1 k2 k3 k4 k5 k6 k7 k8 k9 k10 k11 k12 (nI mc) len 0 ky (upd ro j (nI (n + 1))) ln (upd kd (j * 200 + n) (if set_ = 0 then 2 else 3)) (vp_updL nb (j * 200 + n) person.toInt64) (vp_updL sc (j * 200 + n) 0) (upd wa (j * 200 + n) 0) (vp_updL sm (j * 200 + n) (md_due ky (upd kd (j * 200 + n) (if set_ = 0 then 2 else 3)) (vp_updL nb (j * 200 + n) person.toInt64) (vp_updL sc (j * 200 + n) 0) (upd wa (j * 200 + n) 0) sm j n)) ld lo lw tx)) (fun u t => va_P G.1 vwCl u t.heap) (adr (wK G k0 k1 k2 k3 k4 k5 k6 k7 k8 k9 k10 k11 k12 (nI mc) len thr ky ro ln kd nb sc wa sm ld lo lw tx))) 0 0 (adr (wK G k0 k1 k2 k3 k4 k5 k6 k7 k8 k9 k10 k11 k12 (nI mc) len thr ky ro ln kd nb sc wa sm ld lo lw tx)) := by
  refine Met.ofW (cc := cX4_seal) (maxL := 5) (ret := (some .boolean)) (by decide) rfl ?_
  intro p e s m args below meth c s₁ B hml hv
  obtain ⟨rfl, hP, hE, hD0⟩ := hv
  have hx := B.exec
  have hb := B.bytes
  have hr := B.returns
  have hts := atoms_spec (ws := wsX4_seal) B.pre
  have hown : s.vm.findClass RX4 = some m.cls := findClass_of_methodNamed B.named
  have hlocks := B.notSynchronized
  have hD : va_D (adr (wK G k0 k1 k2 k3 k4 k5 k6 k7 k8 k9 k10 k11 k12 (nI mc) len thr ky ro ln kd nb sc wa sm ld lo lw tx)) (wK G k0 k1 k2 k3 k4 k5 k6 k7 k8 k9 k10 k11 k12 (nI mc) len thr ky ro ln kd nb sc wa sm ld lo lw tx) := ⟨hD0.1, fun k q hk => ⟨k, q.2, hk⟩⟩
  generalize adr (wK G k0 k1 k2 k3 k4 k5 k6 k7 k8 k9 k10 k11 k12 (nI mc) len thr ky ro ln kd nb sc wa sm ld lo lw tx) = A at hD ⊢
  have hS : va_S A s.heap s.heap [] := va_S.rf
  have hiX4 : ∀ w ∈ wsX40, w ∈ wsX4_seal := by decide +kernel
  have hl := lv_entry ([.ref k0, .int (nI j), .int person, .int set_]) (n := 5) (Nat.le_of_ble_eq_true rfl)
  rw [lg_entry_eq]
  generalize (lg_sl ([.ref k0, .int (nI j), .int person, .int set_]) ++ List.replicate (5 - (lg_sl ([.ref k0, .int (nI j), .int person, .int set_])).length) Slot.unset).toArray = ls at hl ⊢
  replace hl : lv_has ls 5 [(0, .ref k0), (1, .int (nI j)), (2, .int person), (3, .int set_)] := hl
  have hm : ¬ f_holds (nI mc) (nI j) = 0 := (f_holds_iff (by omega) _).mpr ⟨j, hj, rfl⟩
  replace hj : j < 8 := by omega
  refine lv_aload_n hx hb dX4_seal_0 rfl (lv_at hl 0 rfl) ?_
  refine lv_iconst (v := 0) hx hb dX4_seal_1 (by decide) ?_
  refine va_put (D := G.1) (ci := 5) (v := .int 0) (ty := .int) (C := RX4) (T := TX4) (N := 15) hx hb hts hiX4 tyX4 tyX4_ok nmX4 hown hE.1 hP hD hS 0 rfl rfl 14 (by decide) (hts (.fieldLink RX4 47 "MeterSealsModel" "thrown" "I") (by decide +kernel)) (fun _ h9 => h9) rfl (by decide +kernel) rfl rfl (Nat.le_of_ble_eq_true rfl) dX4_seal_2 (fun H locs hP hD hS => ?_)
  replace hP : va_P G.1 vwCl (wK G k0 k1 k2 k3 k4 k5 k6 k7 k8 k9 k10 k11 k12 (nI mc) len 0 ky ro ln kd nb sc wa sm ld lo lw tx) H := hP
  replace hD : va_D A (wK G k0 k1 k2 k3 k4 k5 k6 k7 k8 k9 k10 k11 k12 (nI mc) len 0 ky ro ln kd nb sc wa sm ld lo lw tx) := hD
  refine lv_aload_n hx hb dX4_seal_5 rfl (lv_at hl 0 rfl) ?_
  refine lv_iload_n hx hb dX4_seal_6 rfl (lv_at hl 1 rfl) ?_
  refine x_ri (va_runV (As := [.int (nI j)]) (rest := []) ⟨hx, hb, hml, hown, hts⟩ (ct_X4_isMeter l G k0 k1 k2 k3 k4 k5 k6 k7 k8 k9 k10 k11 k12 mc len 0 ky ro ln kd nb sc wa sm ld lo lw tx (nI j)) (cwV 1 hts gX4_seal_X4_isMeter rfl rfl rfl (by decide +kernel) ⟨Nat.le_of_ble_eq_true rfl, Nat.le_of_ble_eq_true rfl⟩) (RdP.preV 0 5 rfl rfl hP hE) rfl rfl hl.1 rfl (lv_room (Nat.le_of_ble_eq_true rfl)) dX4_seal_7 ⟨Nat.zero_le _, Nat.zero_le _⟩) (fun r1 er1 => ?_)
  subst er1
  refine lv_if_eq (tgt := 56) hx hb dX4_seal_10 (by decide) (fun c10 => absurd c10 hm) (fun c10 => ?_)
  refine lv_iload_n hx hb dX4_seal_13 rfl (lv_at hl 2 rfl) ?_
  refine lv_iconst (v := 1) hx hb dX4_seal_14 (by decide) ?_
  refine lv_icmp_lt (tgt := 56) hx hb dX4_seal_15 (by decide) (fun c15 => ?_) (fun c15 => ?_)
  · refine lv_iconst (v := 0) hx hb dX4_seal_56 (by decide) ?_
    refine lv_istore (lv' := [(4, .int 0), (0, .ref k0), (1, .int (nI j)), (2, .int person), (3, .int set_)]) hx hb dX4_seal_57 hl (by decide) rfl (fun ls hl => ?_)
    refine lv_iload hx hb dX4_seal_59 (lv_at hl 0 rfl) ?_
    refine lv_if_eq (tgt := 82) hx hb dX4_seal_61 (by decide) (fun c61 => ?_) (fun c61 => absurd c61 (by decide))
    refine lv_iload hx hb dX4_seal_82 (lv_at hl 0 rfl) ?_
    exact W.zret (v := 0) hx hb hr (zb (Or.inl rfl)) (fun tZ hZ hW => ⟨⟨0, wK G k0 k1 k2 k3 k4 k5 k6 k7 k8 k9 k10 k11 k12 (nI mc) len 0 ky ro ln kd nb sc wa sm ld lo lw tx, rfl, Or.inl ⟨rfl, by simp only [md_sefit, if_pos c15], rfl⟩, by show va_P _ _ _ tZ.heap; rw [hZ]; exact hP⟩, hS.F hZ⟩) hS.2.2 dX4_seal_84
  refine lv_iload_n hx hb dX4_seal_18 rfl (lv_at hl 2 rfl) ?_
  refine lv_sipush (v := 999) hx hb dX4_seal_19 (by decide) ?_
  refine lv_icmp_gt (tgt := 56) hx hb dX4_seal_22 (by decide) (fun c22 => ?_) (fun c22 => ?_)
  · refine lv_iconst (v := 0) hx hb dX4_seal_56 (by decide) ?_
    refine lv_istore (lv' := [(4, .int 0), (0, .ref k0), (1, .int (nI j)), (2, .int person), (3, .int set_)]) hx hb dX4_seal_57 hl (by decide) rfl (fun ls hl => ?_)
    refine lv_iload hx hb dX4_seal_59 (lv_at hl 0 rfl) ?_
    refine lv_if_eq (tgt := 82) hx hb dX4_seal_61 (by decide) (fun c61 => ?_) (fun c61 => absurd c61 (by decide))
    refine lv_iload hx hb dX4_seal_82 (lv_at hl 0 rfl) ?_
    exact W.zret (v := 0) hx hb hr (zb (Or.inl rfl)) (fun tZ hZ hW => ⟨⟨0, wK G k0 k1 k2 k3 k4 k5 k6 k7 k8 k9 k10 k11 k12 (nI mc) len 0 ky ro ln kd nb sc wa sm ld lo lw tx, rfl, Or.inl ⟨rfl, by simp only [md_sefit, if_neg c15, if_pos c22], rfl⟩, by show va_P _ _ _ tZ.heap; rw [hZ]; exact hP⟩, hS.F hZ⟩) hS.2.2 dX4_seal_84
  refine lv_aload_n hx hb dX4_seal_25 rfl (lv_at hl 0 rfl) ?_
  refine va_get (D := G.1) (ci := 5) (v := .ref k2) (C := RX4) (T := TX4) (N := 15) hx hb hts hiX4 hown hE.1 hP 0 rfl rfl 1 (by decide) (hts (.fieldLink RX4 13 "MeterSealsModel" "rows" "[I") (by decide +kernel)) (fun _ h9 => h9) rfl dX4_seal_26 ?_
  refine lv_iload_n hx hb dX4_seal_29 rfl (lv_at hl 1 rfl) ?_
  refine va_iald hx hb hE.1 hP 2 0 rfl rfl (vp_in_nI (show j < 8 by omega) (by decide)) dX4_seal_30 ?_
  rw [nI_clamp (n := j) (by omega)]
  rw [hro]
  refine lv_sipush (v := 200) hx hb dX4_seal_31 (by decide) ?_
  refine lv_icmp_ge (tgt := 56) hx hb dX4_seal_34 (by decide) (fun c34 => ?_) (fun c34 => ?_)
  · refine lv_iconst (v := 0) hx hb dX4_seal_56 (by decide) ?_
    refine lv_istore (lv' := [(4, .int 0), (0, .ref k0), (1, .int (nI j)), (2, .int person), (3, .int set_)]) hx hb dX4_seal_57 hl (by decide) rfl (fun ls hl => ?_)
    refine lv_iload hx hb dX4_seal_59 (lv_at hl 0 rfl) ?_
    refine lv_if_eq (tgt := 82) hx hb dX4_seal_61 (by decide) (fun c61 => ?_) (fun c61 => absurd c61 (by decide))
    refine lv_iload hx hb dX4_seal_82 (lv_at hl 0 rfl) ?_
    exact W.zret (v := 0) hx hb hr (zb (Or.inl rfl)) (fun tZ hZ hW => ⟨⟨0, wK G k0 k1 k2 k3 k4 k5 k6 k7 k8 k9 k10 k11 k12 (nI mc) len 0 ky ro ln kd nb sc wa sm ld lo lw tx, rfl, Or.inl ⟨rfl, by simp only [md_sefit, if_neg c15, if_neg c22, if_pos c34], rfl⟩, by show va_P _ _ _ tZ.heap; rw [hZ]; exact hP⟩, hS.F hZ⟩) hS.2.2 dX4_seal_84
  have hn : n < 200 := lt200 hn2 (Int32.not_le.mp c34)
  refine lv_aload_n hx hb dX4_seal_37 rfl (lv_at hl 0 rfl) ?_
  refine lv_iload_n hx hb dX4_seal_38 rfl (lv_at hl 1 rfl) ?_
  refine lv_aload_n hx hb dX4_seal_39 rfl (lv_at hl 0 rfl) ?_
  refine va_get (D := G.1) (ci := 5) (v := .ref k2) (C := RX4) (T := TX4) (N := 15) hx hb hts hiX4 hown hE.1 hP 0 rfl rfl 1 (by decide) (hts (.fieldLink RX4 13 "MeterSealsModel" "rows" "[I") (by decide +kernel)) (fun _ h9 => h9) rfl dX4_seal_40 ?_
  refine lv_iload_n hx hb dX4_seal_43 rfl (lv_at hl 1 rfl) ?_
  refine va_iald hx hb hE.1 hP 2 0 rfl rfl (vp_in_nI (show j < 8 by omega) (by decide)) dX4_seal_44 ?_
  rw [nI_clamp (n := j) (by omega)]
  rw [hro]
  refine x_ri (va_runV (As := [.int (nI j), .int (nI n)]) (rest := []) ⟨hx, hb, hml, hown, hts⟩ (ct_X4_isSet l G k0 k1 k2 k3 k4 k5 k6 k7 k8 k9 k10 k11 k12 mc len 0 ky ro ln kd nb sc wa sm ld lo lw tx j n hj (by omega)) (cwV 2 hts gX4_seal_X4_isSet rfl rfl rfl (by decide +kernel) ⟨Nat.le_of_ble_eq_true rfl, Nat.le_of_ble_eq_true rfl⟩) (RdP.preV 0 5 rfl rfl hP hE) rfl rfl hl.1 rfl (lv_room (Nat.le_of_ble_eq_true rfl)) dX4_seal_45 ⟨Nat.zero_le _, Nat.zero_le _⟩) (fun r2 er2 => ?_)
  subst er2
  refine lv_iload_n hx hb dX4_seal_48 rfl (lv_at hl 3 rfl) ?_
  refine lv_icmp_eq (tgt := 56) hx hb dX4_seal_49 (by decide) (fun c49 => ?_) (fun c49 => ?_)
  · refine lv_iconst (v := 0) hx hb dX4_seal_56 (by decide) ?_
    refine lv_istore (lv' := [(4, .int 0), (0, .ref k0), (1, .int (nI j)), (2, .int person), (3, .int set_)]) hx hb dX4_seal_57 hl (by decide) rfl (fun ls hl => ?_)
    refine lv_iload hx hb dX4_seal_59 (lv_at hl 0 rfl) ?_
    refine lv_if_eq (tgt := 82) hx hb dX4_seal_61 (by decide) (fun c61 => ?_) (fun c61 => absurd c61 (by decide))
    refine lv_iload hx hb dX4_seal_82 (lv_at hl 0 rfl) ?_
    exact W.zret (v := 0) hx hb hr (zb (Or.inl rfl)) (fun tZ hZ hW => ⟨⟨0, wK G k0 k1 k2 k3 k4 k5 k6 k7 k8 k9 k10 k11 k12 (nI mc) len 0 ky ro ln kd nb sc wa sm ld lo lw tx, rfl, Or.inl ⟨rfl, by simp only [md_sefit, if_neg c15, if_neg c22, if_neg c34, if_pos c49], rfl⟩, by show va_P _ _ _ tZ.heap; rw [hZ]; exact hP⟩, hS.F hZ⟩) hS.2.2 dX4_seal_84
  refine lv_iconst (v := 1) hx hb dX4_seal_52 (by decide) ?_
  refine lv_goto (tgt := 57) hx hb dX4_seal_53 (by decide) ?_
  refine lv_istore (lv' := [(4, .int 1), (0, .ref k0), (1, .int (nI j)), (2, .int person), (3, .int set_)]) hx hb dX4_seal_57 hl (by decide) rfl (fun ls hl => ?_)
  refine lv_iload hx hb dX4_seal_59 (lv_at hl 0 rfl) ?_
  refine lv_if_eq (tgt := 82) hx hb dX4_seal_61 (by decide) (fun c61 => absurd c61 (by decide)) (fun c61 => ?_)
  refine lv_aload_n hx hb dX4_seal_64 rfl (lv_at hl 1 rfl) ?_
  refine lv_iload_n hx hb dX4_seal_65 rfl (lv_at hl 2 rfl) ?_
  refine lv_iload_n hx hb dX4_seal_66 rfl (lv_at hl 4 rfl) ?_
  refine lv_if_eq (tgt := 74) hx hb dX4_seal_67 (by decide) (fun c67 => ?_) (fun c67 => ?_)
  · refine lv_iconst (v := 2) hx hb dX4_seal_74 (by decide) ?_
    refine lv_iload_n hx hb dX4_seal_75 rfl (lv_at hl 3 rfl) ?_
    refine lv_i2l (v := person.toInt64) hx hb dX4_seal_76 rfl ?_
    refine lv_lconst (v := 0) hx hb dX4_seal_77 (by decide) ?_
    refine lv_iconst (v := 0) hx hb dX4_seal_78 (by decide) ?_
    refine va_callv (va_runV (As := [.int (nI j), .int 2, .long person.toInt64, .long 0, .int 0]) (rest := []) ⟨hx, hb, hml, hown, hts⟩ (ct_X4_add l G k0 k1 k2 k3 k4 k5 k6 k7 k8 k9 k10 k11 k12 mc len 0 ky ro ln kd nb sc wa sm ld lo lw tx j n 2 person.toInt64 0 0 hj hn hro) (cwV 5 hts gX4_seal_X4_add rfl rfl rfl (by decide +kernel) ⟨Nat.le_of_ble_eq_true rfl, Nat.le_of_ble_eq_true rfl⟩) (WrP.preV 0 5 rfl rfl (x_mid ([]) (wK G k0 k1 k2 k3 k4 k5 k6 k7 k8 k9 k10 k11 k12 (nI mc) len 0 ky ro ln kd nb sc wa sm ld lo lw tx) ([]) rfl hP) hE (x_midD ([]) (wK G k0 k1 k2 k3 k4 k5 k6 k7 k8 k9 k10 k11 k12 (nI mc) len 0 ky ro ln kd nb sc wa sm ld lo lw tx) ([]) rfl hD)) rfl rfl hl.1 rfl (lv_room (Nat.le_of_ble_eq_true rfl)) dX4_seal_79 ⟨Nat.zero_le _, Nat.zero_le _⟩) hS (fun q _ h => (x_adr ([]) (wK G k0 k1 k2 k3 k4 k5 k6 k7 k8 k9 k10 k11 k12 (nI mc) len 0 ky ro ln kd nb sc wa sm ld lo lw tx) ([]) rfl hD) q h) (x_adr ([]) (wK G k0 k1 k2 k3 k4 k5 k6 k7 k8 k9 k10 k11 k12 (nI mc) len 0 ky ro ln kd nb sc wa sm ld lo lw tx) ([]) rfl hD) (fun u t H1 locs ht hvm hw hB hz1 hk1 hS => ?_)
    rw [ht] at hB
    rcases hw with rfl
    obtain ⟨hP, hD⟩ := x_join ([]) (wK G k0 k1 k2 k3 k4 k5 k6 k7 k8 k9 k10 k11 k12 (nI mc) len 0 ky ro ln kd nb sc wa sm ld lo lw tx) ([]) (wK G k0 k1 k2 k3 k4 k5 k6 k7 k8 k9 k10 k11 k12 (nI mc) len 0 ky (upd ro j (nI (n + 1))) ln (upd kd (j * 200 + n) 2) (vp_updL nb (j * 200 + n) person.toInt64) (vp_updL sc (j * 200 + n) 0) (upd wa (j * 200 + n) 0) (vp_updL sm (j * 200 + n) (md_due ky (upd kd (j * 200 + n) 2) (vp_updL nb (j * 200 + n) person.toInt64) (vp_updL sc (j * 200 + n) 0) (upd wa (j * 200 + n) 0) sm j n)) ld lo lw tx) rfl hP hD hk1 hB rfl
    generalize H1 = H at hP hS ⊢
    replace hP : va_P G.1 vwCl (wK G k0 k1 k2 k3 k4 k5 k6 k7 k8 k9 k10 k11 k12 (nI mc) len 0 ky (upd ro j (nI (n + 1))) ln (upd kd (j * 200 + n) 2) (vp_updL nb (j * 200 + n) person.toInt64) (vp_updL sc (j * 200 + n) 0) (upd wa (j * 200 + n) 0) (vp_updL sm (j * 200 + n) (md_due ky (upd kd (j * 200 + n) 2) (vp_updL nb (j * 200 + n) person.toInt64) (vp_updL sc (j * 200 + n) 0) (upd wa (j * 200 + n) 0) sm j n)) ld lo lw tx) H := hP
    replace hD : va_D A (wK G k0 k1 k2 k3 k4 k5 k6 k7 k8 k9 k10 k11 k12 (nI mc) len 0 ky (upd ro j (nI (n + 1))) ln (upd kd (j * 200 + n) 2) (vp_updL nb (j * 200 + n) person.toInt64) (vp_updL sc (j * 200 + n) 0) (upd wa (j * 200 + n) 0) (vp_updL sm (j * 200 + n) (md_due ky (upd kd (j * 200 + n) 2) (vp_updL nb (j * 200 + n) person.toInt64) (vp_updL sc (j * 200 + n) 0) (upd wa (j * 200 + n) 0) sm j n)) ld lo lw tx) := hD
    refine lv_iload hx hb dX4_seal_82 (lv_at hl 0 rfl) ?_
    exact W.zret (v := 1) hx hb hr (zb (Or.inr rfl)) (fun tZ hZ hW => ⟨⟨1, wK G k0 k1 k2 k3 k4 k5 k6 k7 k8 k9 k10 k11 k12 (nI mc) len 0 ky (upd ro j (nI (n + 1))) ln (upd kd (j * 200 + n) 2) (vp_updL nb (j * 200 + n) person.toInt64) (vp_updL sc (j * 200 + n) 0) (upd wa (j * 200 + n) 0) (vp_updL sm (j * 200 + n) (md_due ky (upd kd (j * 200 + n) 2) (vp_updL nb (j * 200 + n) person.toInt64) (vp_updL sc (j * 200 + n) 0) (upd wa (j * 200 + n) 0) sm j n)) ld lo lw tx, rfl, Or.inr ⟨rfl, by simp only [md_sefit, if_neg c15, if_neg c22, if_neg c34, if_neg c49], by rw [if_pos c67]⟩, by show va_P _ _ _ tZ.heap; rw [hZ]; exact hP⟩, hS.F hZ⟩) hS.2.2 dX4_seal_84
  refine lv_iconst (v := 3) hx hb dX4_seal_70 (by decide) ?_
  refine lv_goto (tgt := 75) hx hb dX4_seal_71 (by decide) ?_
  refine lv_iload_n hx hb dX4_seal_75 rfl (lv_at hl 3 rfl) ?_
  refine lv_i2l (v := person.toInt64) hx hb dX4_seal_76 rfl ?_
  refine lv_lconst (v := 0) hx hb dX4_seal_77 (by decide) ?_
  refine lv_iconst (v := 0) hx hb dX4_seal_78 (by decide) ?_
  refine va_callv (va_runV (As := [.int (nI j), .int 3, .long person.toInt64, .long 0, .int 0]) (rest := []) ⟨hx, hb, hml, hown, hts⟩ (ct_X4_add l G k0 k1 k2 k3 k4 k5 k6 k7 k8 k9 k10 k11 k12 mc len 0 ky ro ln kd nb sc wa sm ld lo lw tx j n 3 person.toInt64 0 0 hj hn hro) (cwV 5 hts gX4_seal_X4_add rfl rfl rfl (by decide +kernel) ⟨Nat.le_of_ble_eq_true rfl, Nat.le_of_ble_eq_true rfl⟩) (WrP.preV 0 5 rfl rfl (x_mid ([]) (wK G k0 k1 k2 k3 k4 k5 k6 k7 k8 k9 k10 k11 k12 (nI mc) len 0 ky ro ln kd nb sc wa sm ld lo lw tx) ([]) rfl hP) hE (x_midD ([]) (wK G k0 k1 k2 k3 k4 k5 k6 k7 k8 k9 k10 k11 k12 (nI mc) len 0 ky ro ln kd nb sc wa sm ld lo lw tx) ([]) rfl hD)) rfl rfl hl.1 rfl (lv_room (Nat.le_of_ble_eq_true rfl)) dX4_seal_79 ⟨Nat.zero_le _, Nat.zero_le _⟩) hS (fun q _ h => (x_adr ([]) (wK G k0 k1 k2 k3 k4 k5 k6 k7 k8 k9 k10 k11 k12 (nI mc) len 0 ky ro ln kd nb sc wa sm ld lo lw tx) ([]) rfl hD) q h) (x_adr ([]) (wK G k0 k1 k2 k3 k4 k5 k6 k7 k8 k9 k10 k11 k12 (nI mc) len 0 ky ro ln kd nb sc wa sm ld lo lw tx) ([]) rfl hD) (fun u t H1 locs ht hvm hw hB hz1 hk1 hS => ?_)
  rw [ht] at hB
  rcases hw with rfl
  obtain ⟨hP, hD⟩ := x_join ([]) (wK G k0 k1 k2 k3 k4 k5 k6 k7 k8 k9 k10 k11 k12 (nI mc) len 0 ky ro ln kd nb sc wa sm ld lo lw tx) ([]) (wK G k0 k1 k2 k3 k4 k5 k6 k7 k8 k9 k10 k11 k12 (nI mc) len 0 ky (upd ro j (nI (n + 1))) ln (upd kd (j * 200 + n) 3) (vp_updL nb (j * 200 + n) person.toInt64) (vp_updL sc (j * 200 + n) 0) (upd wa (j * 200 + n) 0) (vp_updL sm (j * 200 + n) (md_due ky (upd kd (j * 200 + n) 3) (vp_updL nb (j * 200 + n) person.toInt64) (vp_updL sc (j * 200 + n) 0) (upd wa (j * 200 + n) 0) sm j n)) ld lo lw tx) rfl hP hD hk1 hB rfl
  generalize H1 = H at hP hS ⊢
  replace hP : va_P G.1 vwCl (wK G k0 k1 k2 k3 k4 k5 k6 k7 k8 k9 k10 k11 k12 (nI mc) len 0 ky (upd ro j (nI (n + 1))) ln (upd kd (j * 200 + n) 3) (vp_updL nb (j * 200 + n) person.toInt64) (vp_updL sc (j * 200 + n) 0) (upd wa (j * 200 + n) 0) (vp_updL sm (j * 200 + n) (md_due ky (upd kd (j * 200 + n) 3) (vp_updL nb (j * 200 + n) person.toInt64) (vp_updL sc (j * 200 + n) 0) (upd wa (j * 200 + n) 0) sm j n)) ld lo lw tx) H := hP
  replace hD : va_D A (wK G k0 k1 k2 k3 k4 k5 k6 k7 k8 k9 k10 k11 k12 (nI mc) len 0 ky (upd ro j (nI (n + 1))) ln (upd kd (j * 200 + n) 3) (vp_updL nb (j * 200 + n) person.toInt64) (vp_updL sc (j * 200 + n) 0) (upd wa (j * 200 + n) 0) (vp_updL sm (j * 200 + n) (md_due ky (upd kd (j * 200 + n) 3) (vp_updL nb (j * 200 + n) person.toInt64) (vp_updL sc (j * 200 + n) 0) (upd wa (j * 200 + n) 0) sm j n)) ld lo lw tx) := hD
  refine lv_iload hx hb dX4_seal_82 (lv_at hl 0 rfl) ?_
  exact W.zret (v := 1) hx hb hr (zb (Or.inr rfl)) (fun tZ hZ hW => ⟨⟨1, wK G k0 k1 k2 k3 k4 k5 k6 k7 k8 k9 k10 k11 k12 (nI mc) len 0 ky (upd ro j (nI (n + 1))) ln (upd kd (j * 200 + n) 3) (vp_updL nb (j * 200 + n) person.toInt64) (vp_updL sc (j * 200 + n) 0) (upd wa (j * 200 + n) 0) (vp_updL sm (j * 200 + n) (md_due ky (upd kd (j * 200 + n) 3) (vp_updL nb (j * 200 + n) person.toInt64) (vp_updL sc (j * 200 + n) 0) (upd wa (j * 200 + n) 0) sm j n)) ld lo lw tx, rfl, Or.inr ⟨rfl, by simp only [md_sefit, if_neg c15, if_neg c22, if_neg c34, if_neg c49], by rw [if_neg c67]⟩, by show va_P _ _ _ tZ.heap; rw [hZ]; exact hP⟩, hS.F hZ⟩) hS.2.2 dX4_seal_84

set_option maxHeartbeats 4000000 in
set_option maxRecDepth 100000 in
/-- X4_rows, present -/
theorem ct_X4_rows (l : Launch) (G : Gx) (k0 k1 k2 k3 k4 k5 k6 k7 k8 k9 k10 k11 k12 : Nat) (mc : Nat) (len thr : Int32) (ky : Nat → Int64) (ro ln kd : Nat → Int32) (nb sc : Nat → Int64) (wa : Nat → Int32) (sm : Nat → Int64) (ld : Nat → Int32) (lo lw : Nat → Int64) (tx : Nat → Int32) (j n t : Nat)  (hmc : mc ≤ 8) (hj : j < mc) (hn2 : n ≤ 200) (hro : ro j = nI n) (ht : t ≤ 16) (hln : ln j = nI t) : Met l yX4_rows wsX4_rows ({ frames := 1, cells := 0, slots := 0, locals := 21 }) (WrP G (wK G k0 k1 k2 k3 k4 k5 k6 k7 k8 k9 k10 k11 k12 (nI mc) len thr ky ro ln kd nb sc wa sm ld lo lw tx) [.ref k0, .int (nI j)]) (va_Qi (fun r (u : va_W) => r = nI n ∧ u = wK G k0 k1 k2 k3 k4 k5 k6 k7 k8 k9 k10 k11 k12 (nI mc) len 0 ky ro ln kd nb sc wa sm ld lo lw tx) (fun u t => va_P G.1 vwCl u t.heap) (adr (wK G k0 k1 k2 k3 k4 k5 k6 k7 k8 k9 k10 k11 k12 (nI mc) len thr ky ro ln kd nb sc wa sm ld lo lw tx))) 0 0 (adr (wK G k0 k1 k2 k3 k4 k5 k6 k7 k8 k9 k10 k11 k12 (nI mc) len thr ky ro ln kd nb sc wa sm ld lo lw tx)) := by
  refine Met.ofW (cc := cX4_rows) (maxL := 2) (ret := (some .int)) (by decide) rfl ?_
  intro p e s m args below meth c s₁ B hml hv
  obtain ⟨rfl, hP, hE, hD0⟩ := hv
  have hx := B.exec
  have hb := B.bytes
  have hr := B.returns
  have hts := atoms_spec (ws := wsX4_rows) B.pre
  have hown : s.vm.findClass RX4 = some m.cls := findClass_of_methodNamed B.named
  have hlocks := B.notSynchronized
  have hD : va_D (adr (wK G k0 k1 k2 k3 k4 k5 k6 k7 k8 k9 k10 k11 k12 (nI mc) len thr ky ro ln kd nb sc wa sm ld lo lw tx)) (wK G k0 k1 k2 k3 k4 k5 k6 k7 k8 k9 k10 k11 k12 (nI mc) len thr ky ro ln kd nb sc wa sm ld lo lw tx) := ⟨hD0.1, fun k q hk => ⟨k, q.2, hk⟩⟩
  generalize adr (wK G k0 k1 k2 k3 k4 k5 k6 k7 k8 k9 k10 k11 k12 (nI mc) len thr ky ro ln kd nb sc wa sm ld lo lw tx) = A at hD ⊢
  have hS : va_S A s.heap s.heap [] := va_S.rf
  have hiX4 : ∀ w ∈ wsX40, w ∈ wsX4_rows := by decide +kernel
  have hl := lv_entry ([.ref k0, .int (nI j)]) (n := 2) (Nat.le_of_ble_eq_true rfl)
  rw [lg_entry_eq]
  generalize (lg_sl ([.ref k0, .int (nI j)]) ++ List.replicate (2 - (lg_sl ([.ref k0, .int (nI j)])).length) Slot.unset).toArray = ls at hl ⊢
  replace hl : lv_has ls 2 [(0, .ref k0), (1, .int (nI j))] := hl
  have hm : ¬ f_holds (nI mc) (nI j) = 0 := (f_holds_iff (by omega) _).mpr ⟨j, hj, rfl⟩
  replace hj : j < 8 := by omega
  refine lv_aload_n hx hb dX4_rows_0 rfl (lv_at hl 0 rfl) ?_
  refine lv_iconst (v := 0) hx hb dX4_rows_1 (by decide) ?_
  refine va_put (D := G.1) (ci := 5) (v := .int 0) (ty := .int) (C := RX4) (T := TX4) (N := 15) hx hb hts hiX4 tyX4 tyX4_ok nmX4 hown hE.1 hP hD hS 0 rfl rfl 14 (by decide) (hts (.fieldLink RX4 47 "MeterSealsModel" "thrown" "I") (by decide +kernel)) (fun _ h9 => h9) rfl (by decide +kernel) rfl rfl (Nat.le_of_ble_eq_true rfl) dX4_rows_2 (fun H locs hP hD hS => ?_)
  replace hP : va_P G.1 vwCl (wK G k0 k1 k2 k3 k4 k5 k6 k7 k8 k9 k10 k11 k12 (nI mc) len 0 ky ro ln kd nb sc wa sm ld lo lw tx) H := hP
  replace hD : va_D A (wK G k0 k1 k2 k3 k4 k5 k6 k7 k8 k9 k10 k11 k12 (nI mc) len 0 ky ro ln kd nb sc wa sm ld lo lw tx) := hD
  refine lv_aload_n hx hb dX4_rows_5 rfl (lv_at hl 0 rfl) ?_
  refine lv_iload_n hx hb dX4_rows_6 rfl (lv_at hl 1 rfl) ?_
  refine x_ri (va_runV (As := [.int (nI j)]) (rest := []) ⟨hx, hb, hml, hown, hts⟩ (ct_X4_isMeter l G k0 k1 k2 k3 k4 k5 k6 k7 k8 k9 k10 k11 k12 mc len 0 ky ro ln kd nb sc wa sm ld lo lw tx (nI j)) (cwV 1 hts gX4_rows_X4_isMeter rfl rfl rfl (by decide +kernel) ⟨Nat.le_of_ble_eq_true rfl, Nat.le_of_ble_eq_true rfl⟩) (RdP.preV 0 5 rfl rfl hP hE) rfl rfl hl.1 rfl (lv_room (Nat.le_of_ble_eq_true rfl)) dX4_rows_7 ⟨Nat.zero_le _, Nat.zero_le _⟩) (fun r1 er1 => ?_)
  subst er1
  refine lv_if_eq (tgt := 22) hx hb dX4_rows_10 (by decide) (fun c10 => absurd c10 hm) (fun c10 => ?_)
  refine lv_aload_n hx hb dX4_rows_13 rfl (lv_at hl 0 rfl) ?_
  refine va_get (D := G.1) (ci := 5) (v := .ref k2) (C := RX4) (T := TX4) (N := 15) hx hb hts hiX4 hown hE.1 hP 0 rfl rfl 1 (by decide) (hts (.fieldLink RX4 13 "MeterSealsModel" "rows" "[I") (by decide +kernel)) (fun _ h9 => h9) rfl dX4_rows_14 ?_
  refine lv_iload_n hx hb dX4_rows_17 rfl (lv_at hl 1 rfl) ?_
  refine va_iald hx hb hE.1 hP 2 0 rfl rfl (vp_in_nI (show j < 8 by omega) (by decide)) dX4_rows_18 ?_
  rw [nI_clamp (n := j) (by omega)]
  rw [hro]
  refine lv_goto (tgt := 23) hx hb dX4_rows_19 (by decide) ?_
  exact W.iret (v := (nI n)) hx hb hr (fun tZ hZ hW => ⟨⟨(nI n), wK G k0 k1 k2 k3 k4 k5 k6 k7 k8 k9 k10 k11 k12 (nI mc) len 0 ky ro ln kd nb sc wa sm ld lo lw tx, rfl, ⟨rfl, rfl⟩, by show va_P _ _ _ tZ.heap; rw [hZ]; exact hP⟩, hS.F hZ⟩) hS.2.2 dX4_rows_23

set_option maxHeartbeats 4000000 in
set_option maxRecDepth 100000 in
/-- X4_check, present -/
theorem ct_X4_check (l : Launch) (G : Gx) (k0 k1 k2 k3 k4 k5 k6 k7 k8 k9 k10 k11 k12 : Nat) (mc : Nat) (len thr : Int32) (ky : Nat → Int64) (ro ln kd : Nat → Int32) (nb sc : Nat → Int64) (wa : Nat → Int32) (sm : Nat → Int64) (ld : Nat → Int32) (lo lw : Nat → Int64) (tx : Nat → Int32) (j n t : Nat) (frm : Int32) (hmc : mc ≤ 8) (hj : j < mc) (hn2 : n ≤ 200) (hro : ro j = nI n) (ht : t ≤ 16) (hln : ln j = nI t) : Met l yX4_check wsX4_check ({ frames := 2, cells := 0, slots := 0, locals := 50 }) (WrP G (wK G k0 k1 k2 k3 k4 k5 k6 k7 k8 k9 k10 k11 k12 (nI mc) len thr ky ro ln kd nb sc wa sm ld lo lw tx) [.ref k0, .int (nI j), .int frm]) (va_Qi (fun r (u : va_W) => r = md_wr ky kd nb sc wa sm j n frm ∧ u = wK G k0 k1 k2 k3 k4 k5 k6 k7 k8 k9 k10 k11 k12 (nI mc) len 0 ky ro ln kd nb sc wa sm ld lo lw tx) (fun u t => va_P G.1 vwCl u t.heap) (adr (wK G k0 k1 k2 k3 k4 k5 k6 k7 k8 k9 k10 k11 k12 (nI mc) len thr ky ro ln kd nb sc wa sm ld lo lw tx))) 0 0 (adr (wK G k0 k1 k2 k3 k4 k5 k6 k7 k8 k9 k10 k11 k12 (nI mc) len thr ky ro ln kd nb sc wa sm ld lo lw tx)) := by
  refine Met.ofW (cc := cX4_check) (maxL := 4) (ret := (some .int)) (by decide) rfl ?_
  intro p e s m args below meth c s₁ B hml hv
  obtain ⟨rfl, hP, hE, hD0⟩ := hv
  have hx := B.exec
  have hb := B.bytes
  have hr := B.returns
  have hts := atoms_spec (ws := wsX4_check) B.pre
  have hown : s.vm.findClass RX4 = some m.cls := findClass_of_methodNamed B.named
  have hlocks := B.notSynchronized
  have hD : va_D (adr (wK G k0 k1 k2 k3 k4 k5 k6 k7 k8 k9 k10 k11 k12 (nI mc) len thr ky ro ln kd nb sc wa sm ld lo lw tx)) (wK G k0 k1 k2 k3 k4 k5 k6 k7 k8 k9 k10 k11 k12 (nI mc) len thr ky ro ln kd nb sc wa sm ld lo lw tx) := ⟨hD0.1, fun k q hk => ⟨k, q.2, hk⟩⟩
  generalize adr (wK G k0 k1 k2 k3 k4 k5 k6 k7 k8 k9 k10 k11 k12 (nI mc) len thr ky ro ln kd nb sc wa sm ld lo lw tx) = A at hD ⊢
  have hS : va_S A s.heap s.heap [] := va_S.rf
  have hiX4 : ∀ w ∈ wsX40, w ∈ wsX4_check := by decide +kernel
  have hl := lv_entry ([.ref k0, .int (nI j), .int frm]) (n := 4) (Nat.le_of_ble_eq_true rfl)
  rw [lg_entry_eq]
  generalize (lg_sl ([.ref k0, .int (nI j), .int frm]) ++ List.replicate (4 - (lg_sl ([.ref k0, .int (nI j), .int frm])).length) Slot.unset).toArray = ls at hl ⊢
  replace hl : lv_has ls 4 [(0, .ref k0), (1, .int (nI j)), (2, .int frm)] := hl
  have hm : ¬ f_holds (nI mc) (nI j) = 0 := (f_holds_iff (by omega) _).mpr ⟨j, hj, rfl⟩
  replace hj : j < 8 := by omega
  refine lv_aload_n hx hb dX4_check_0 rfl (lv_at hl 0 rfl) ?_
  refine lv_iconst (v := 0) hx hb dX4_check_1 (by decide) ?_
  refine va_put (D := G.1) (ci := 5) (v := .int 0) (ty := .int) (C := RX4) (T := TX4) (N := 15) hx hb hts hiX4 tyX4 tyX4_ok nmX4 hown hE.1 hP hD hS 0 rfl rfl 14 (by decide) (hts (.fieldLink RX4 47 "MeterSealsModel" "thrown" "I") (by decide +kernel)) (fun _ h9 => h9) rfl (by decide +kernel) rfl rfl (Nat.le_of_ble_eq_true rfl) dX4_check_2 (fun H locs hP hD hS => ?_)
  replace hP : va_P G.1 vwCl (wK G k0 k1 k2 k3 k4 k5 k6 k7 k8 k9 k10 k11 k12 (nI mc) len 0 ky ro ln kd nb sc wa sm ld lo lw tx) H := hP
  replace hD : va_D A (wK G k0 k1 k2 k3 k4 k5 k6 k7 k8 k9 k10 k11 k12 (nI mc) len 0 ky ro ln kd nb sc wa sm ld lo lw tx) := hD
  refine lv_aload_n hx hb dX4_check_5 rfl (lv_at hl 0 rfl) ?_
  refine lv_iload_n hx hb dX4_check_6 rfl (lv_at hl 1 rfl) ?_
  refine x_ri (va_runV (As := [.int (nI j)]) (rest := []) ⟨hx, hb, hml, hown, hts⟩ (ct_X4_isMeter l G k0 k1 k2 k3 k4 k5 k6 k7 k8 k9 k10 k11 k12 mc len 0 ky ro ln kd nb sc wa sm ld lo lw tx (nI j)) (cwV 1 hts gX4_check_X4_isMeter rfl rfl rfl (by decide +kernel) ⟨Nat.le_of_ble_eq_true rfl, Nat.le_of_ble_eq_true rfl⟩) (RdP.preV 0 5 rfl rfl hP hE) rfl rfl hl.1 rfl (lv_room (Nat.le_of_ble_eq_true rfl)) dX4_check_7 ⟨Nat.zero_le _, Nat.zero_le _⟩) (fun r1 er1 => ?_)
  subst er1
  refine lv_if_eq (tgt := 27) hx hb dX4_check_10 (by decide) (fun c10 => absurd c10 hm) (fun c10 => ?_)
  refine lv_iload_n hx hb dX4_check_13 rfl (lv_at hl 2 rfl) ?_
  refine lv_if_lt (tgt := 27) hx hb dX4_check_14 (by decide) (fun c14 => ?_) (fun c14 => ?_)
  · refine lv_iconst (v := (-1)) hx hb dX4_check_27 (by decide) ?_
    exact W.iret (v := (-1)) hx hb hr (fun tZ hZ hW => ⟨⟨(-1), wK G k0 k1 k2 k3 k4 k5 k6 k7 k8 k9 k10 k11 k12 (nI mc) len 0 ky ro ln kd nb sc wa sm ld lo lw tx, rfl, ⟨by simp only [md_wr, if_pos c14], rfl⟩, by show va_P _ _ _ tZ.heap; rw [hZ]; exact hP⟩, hS.F hZ⟩) hS.2.2 dX4_check_28
  refine lv_iload_n hx hb dX4_check_17 rfl (lv_at hl 2 rfl) ?_
  refine lv_aload_n hx hb dX4_check_18 rfl (lv_at hl 0 rfl) ?_
  refine va_get (D := G.1) (ci := 5) (v := .ref k2) (C := RX4) (T := TX4) (N := 15) hx hb hts hiX4 hown hE.1 hP 0 rfl rfl 1 (by decide) (hts (.fieldLink RX4 13 "MeterSealsModel" "rows" "[I") (by decide +kernel)) (fun _ h9 => h9) rfl dX4_check_19 ?_
  refine lv_iload_n hx hb dX4_check_22 rfl (lv_at hl 1 rfl) ?_
  refine va_iald hx hb hE.1 hP 2 0 rfl rfl (vp_in_nI (show j < 8 by omega) (by decide)) dX4_check_23 ?_
  rw [nI_clamp (n := j) (by omega)]
  rw [hro]
  refine lv_icmp_le (tgt := 29) hx hb dX4_check_24 (by decide) (fun c24 => ?_) (fun c24 => ?_)
  · refine lv_iload_n hx hb dX4_check_29 rfl (lv_at hl 2 rfl) ?_
    refine lv_istore_n (lv' := [(3, .int frm), (0, .ref k0), (1, .int (nI j)), (2, .int frm)]) hx hb dX4_check_30 rfl hl (by decide) rfl (fun ls hl => ?_)
    obtain ⟨i, hi31, hi⟩ := nI_of c14
    have hle : i ≤ n := (nI_leI hi31 (by omega)).mp (by rw [← hi]; exact c24)
    replace hl : lv_has ls 4 [(3, .int (nI i)), (0, .ref k0), (1, .int (nI j)), (2, .int frm)] := by rw [← hi]; exact hl
    obtain ⟨k, hk⟩ : ∃ k : Nat, i + k = n := ⟨n - i, by omega⟩
    have hv : md_wrF ky kd nb sc wa sm j k i = md_wr ky kd nb sc wa sm j n frm := by simp only [md_wr, if_neg c14, if_pos c24]; rw [hi, nI_clamp hi31, show n - i = k by omega]
    clear hi hle hi31
    induction k generalizing i ls with
    | zero =>
      refine lv_iload_n hx hb dX4_check_31 rfl (lv_at hl 0 rfl) ?_
      refine lv_aload_n hx hb dX4_check_32 rfl (lv_at hl 1 rfl) ?_
      refine va_get (D := G.1) (ci := 5) (v := .ref k2) (C := RX4) (T := TX4) (N := 15) hx hb hts hiX4 hown hE.1 hP 0 rfl rfl 1 (by decide) (hts (.fieldLink RX4 13 "MeterSealsModel" "rows" "[I") (by decide +kernel)) (fun _ h9 => h9) rfl dX4_check_33 ?_
      refine lv_iload_n hx hb dX4_check_36 rfl (lv_at hl 2 rfl) ?_
      refine va_iald hx hb hE.1 hP 2 0 rfl rfl (vp_in_nI (show j < 8 by omega) (by decide)) dX4_check_37 ?_
      rw [nI_clamp (n := j) (by omega)]
      rw [hro]
      refine lv_icmp_ge (tgt := 73) hx hb dX4_check_38 (by decide) (fun c38 => ?_) (fun c38 => absurd (nI_le (by omega) (by omega)) c38)
      refine lv_iconst (v := 0) hx hb dX4_check_73 (by decide) ?_
      exact W.iret (v := 0) hx hb hr (fun tZ hZ hW => ⟨⟨0, wK G k0 k1 k2 k3 k4 k5 k6 k7 k8 k9 k10 k11 k12 (nI mc) len 0 ky ro ln kd nb sc wa sm ld lo lw tx, rfl, ⟨by rw [← hv]; rfl, rfl⟩, by show va_P _ _ _ tZ.heap; rw [hZ]; exact hP⟩, hS.F hZ⟩) hS.2.2 dX4_check_74
    | succ k ih =>
      refine lv_iload_n hx hb dX4_check_31 rfl (lv_at hl 0 rfl) ?_
      refine lv_aload_n hx hb dX4_check_32 rfl (lv_at hl 1 rfl) ?_
      refine va_get (D := G.1) (ci := 5) (v := .ref k2) (C := RX4) (T := TX4) (N := 15) hx hb hts hiX4 hown hE.1 hP 0 rfl rfl 1 (by decide) (hts (.fieldLink RX4 13 "MeterSealsModel" "rows" "[I") (by decide +kernel)) (fun _ h9 => h9) rfl dX4_check_33 ?_
      refine lv_iload_n hx hb dX4_check_36 rfl (lv_at hl 2 rfl) ?_
      refine va_iald hx hb hE.1 hP 2 0 rfl rfl (vp_in_nI (show j < 8 by omega) (by decide)) dX4_check_37 ?_
      rw [nI_clamp (n := j) (by omega)]
      rw [hro]
      refine lv_icmp_ge (tgt := 73) hx hb dX4_check_38 (by decide) (fun c38 => absurd c38 (nI_ge (by omega) (by omega))) (fun c38 => ?_)
      refine lv_aload_n hx hb dX4_check_41 rfl (lv_at hl 1 rfl) ?_
      refine va_get (D := G.1) (ci := 5) (v := .ref k8) (C := RX4) (T := TX4) (N := 15) hx hb hts hiX4 hown hE.1 hP 0 rfl rfl 8 (by decide) (hts (.fieldLink RX4 32 "MeterSealsModel" "sum" "[J") (by decide +kernel)) (fun _ h9 => h9) rfl dX4_check_42 ?_
      refine lv_iload_n hx hb dX4_check_45 rfl (lv_at hl 2 rfl) ?_
      refine lv_sipush (v := 200) hx hb dX4_check_46 (by decide) ?_
      refine lv_imul hx hb dX4_check_49 ?_
      rw [nI_mul200 j]
      refine lv_iload_n hx hb dX4_check_50 rfl (lv_at hl 0 rfl) ?_
      refine lv_iadd hx hb dX4_check_51 ?_
      rw [nI_add (j * 200) i]
      refine va_lald hx hb hE.1 hP 8 1 rfl rfl (vp_in_nI (show j * 200 + i < 1600 by omega) (by decide)) dX4_check_52 ?_
      rw [nI_clamp (n := j * 200 + i) (by omega)]
      refine lv_aload_n hx hb dX4_check_53 rfl (lv_at hl 1 rfl) ?_
      refine lv_iload_n hx hb dX4_check_54 rfl (lv_at hl 2 rfl) ?_
      refine lv_iload_n hx hb dX4_check_55 rfl (lv_at hl 0 rfl) ?_
      refine x_rl (va_runV (As := [.int (nI j), .int (nI i)]) (rest := [.long (sm (j * 200 + i))]) ⟨hx, hb, hml, hown, hts⟩ (ct_X4_due l G k0 k1 k2 k3 k4 k5 k6 k7 k8 k9 k10 k11 k12 mc len 0 ky ro ln kd nb sc wa sm ld lo lw tx j i hj (by omega)) (cwV 2 hts gX4_check_X4_due rfl rfl rfl (by decide +kernel) ⟨Nat.le_of_ble_eq_true rfl, Nat.le_of_ble_eq_true rfl⟩) (RdP.preV 0 5 rfl rfl hP hE) rfl rfl hl.1 rfl (lv_room (Nat.le_of_ble_eq_true rfl)) dX4_check_56 ⟨Nat.zero_le _, Nat.zero_le _⟩) (fun r2 er2 => ?_)
      subst er2
      refine x_leq (tgt := 67) hx hb dX4_check_59 dX4_check_60 (by decide) (fun c60 => ?_) (fun c60 => ?_)
      · refine lv_iinc (v := (nI (i + 1))) (lv' := [(3, .int (nI (i + 1))), (0, .ref k0), (1, .int (nI j)), (2, .int frm)]) hx hb dX4_check_67 hl (k := 0) rfl (nI_1 i) (by decide) rfl (fun ls hl => ?_)
        refine lv_goto (tgt := 31) hx hb dX4_check_70 (by decide) ?_
        exact ih ls (i + 1) (lv_sub hl [0, 1, 2, 3] rfl) (by omega) (by simpa only [md_wrF, if_pos c60] using hv)
      refine lv_iload_n hx hb dX4_check_63 rfl (lv_at hl 0 rfl) ?_
      refine lv_iconst (v := 1) hx hb dX4_check_64 (by decide) ?_
      refine lv_iadd hx hb dX4_check_65 ?_
      rw [nI_1 i]
      exact W.iret (v := (nI (i + 1))) hx hb hr (fun tZ hZ hW => ⟨⟨(nI (i + 1)), wK G k0 k1 k2 k3 k4 k5 k6 k7 k8 k9 k10 k11 k12 (nI mc) len 0 ky ro ln kd nb sc wa sm ld lo lw tx, rfl, ⟨by rw [← hv]; simp only [md_wrF, if_neg c60, nI_1], rfl⟩, by show va_P _ _ _ tZ.heap; rw [hZ]; exact hP⟩, hS.F hZ⟩) hS.2.2 dX4_check_66
  refine lv_iconst (v := (-1)) hx hb dX4_check_27 (by decide) ?_
  exact W.iret (v := (-1)) hx hb hr (fun tZ hZ hW => ⟨⟨(-1), wK G k0 k1 k2 k3 k4 k5 k6 k7 k8 k9 k10 k11 k12 (nI mc) len 0 ky ro ln kd nb sc wa sm ld lo lw tx, rfl, ⟨by simp only [md_wr, if_neg c14, if_neg c24], rfl⟩, by show va_P _ _ _ tZ.heap; rw [hZ]; exact hP⟩, hS.F hZ⟩) hS.2.2 dX4_check_28

set_option maxHeartbeats 4000000 in
set_option maxRecDepth 100000 in
/-- X4_poke, present -/
theorem ct_X4_poke (l : Launch) (G : Gx) (k0 k1 k2 k3 k4 k5 k6 k7 k8 k9 k10 k11 k12 : Nat) (mc : Nat) (len thr : Int32) (ky : Nat → Int64) (ro ln kd : Nat → Int32) (nb sc : Nat → Int64) (wa : Nat → Int32) (sm : Nat → Int64) (ld : Nat → Int32) (lo lw : Nat → Int64) (tx : Nat → Int32) (j n t : Nat) (i : Nat) (b : Int64) (hmc : mc ≤ 8) (hj : j < mc) (hn2 : n ≤ 200) (hro : ro j = nI n) (ht : t ≤ 16) (hln : ln j = nI t) (hi : i < n) (hrw : ¬ f_row mc ro (nI j) (nI i) = 0) : Met l yX4_poke wsX4_poke ({ frames := 2, cells := 0, slots := 0, locals := 43 }) (WrP G (wK G k0 k1 k2 k3 k4 k5 k6 k7 k8 k9 k10 k11 k12 (nI mc) len thr ky ro ln kd nb sc wa sm ld lo lw tx) [.ref k0, .int (nI j), .int (nI i), .long b]) (va_Qi (fun r (u : va_W) => (r = 0 ∧ md_poke kd nb j i b = 0 ∧ u = wK G k0 k1 k2 k3 k4 k5 k6 k7 k8 k9 k10 k11 k12 (nI mc) len 0 ky ro ln kd nb sc wa sm ld lo lw tx) ∨ (r = 1 ∧ md_poke kd nb j i b = 1 ∧ u = wK G k0 k1 k2 k3 k4 k5 k6 k7 k8 k9 k10 k11 k12 (nI mc) len 0 ky ro ln kd (vp_updL nb (j * 200 + i) (nb (j * 200 + i) + b)) sc wa sm ld lo lw tx)) (fun u t => va_P G.1 vwCl u t.heap) (adr (wK G k0 k1 k2 k3 k4 k5 k6 k7 k8 k9 k10 k11 k12 (nI mc) len thr ky ro ln kd nb sc wa sm ld lo lw tx))) 0 0 (adr (wK G k0 k1 k2 k3 k4 k5 k6 k7 k8 k9 k10 k11 k12 (nI mc) len thr ky ro ln kd nb sc wa sm ld lo lw tx)) := by
  refine Met.ofW (cc := cX4_poke) (maxL := 7) (ret := (some .boolean)) (by decide) rfl ?_
  intro p e s m args below meth c s₁ B hml hv
  obtain ⟨rfl, hP, hE, hD0⟩ := hv
  have hx := B.exec
  have hb := B.bytes
  have hr := B.returns
  have hts := atoms_spec (ws := wsX4_poke) B.pre
  have hown : s.vm.findClass RX4 = some m.cls := findClass_of_methodNamed B.named
  have hlocks := B.notSynchronized
  have hD : va_D (adr (wK G k0 k1 k2 k3 k4 k5 k6 k7 k8 k9 k10 k11 k12 (nI mc) len thr ky ro ln kd nb sc wa sm ld lo lw tx)) (wK G k0 k1 k2 k3 k4 k5 k6 k7 k8 k9 k10 k11 k12 (nI mc) len thr ky ro ln kd nb sc wa sm ld lo lw tx) := ⟨hD0.1, fun k q hk => ⟨k, q.2, hk⟩⟩
  generalize adr (wK G k0 k1 k2 k3 k4 k5 k6 k7 k8 k9 k10 k11 k12 (nI mc) len thr ky ro ln kd nb sc wa sm ld lo lw tx) = A at hD ⊢
  have hS : va_S A s.heap s.heap [] := va_S.rf
  have hiX4 : ∀ w ∈ wsX40, w ∈ wsX4_poke := by decide +kernel
  have hl := lv_entry ([.ref k0, .int (nI j), .int (nI i), .long b]) (n := 7) (Nat.le_of_ble_eq_true rfl)
  rw [lg_entry_eq]
  generalize (lg_sl ([.ref k0, .int (nI j), .int (nI i), .long b]) ++ List.replicate (7 - (lg_sl ([.ref k0, .int (nI j), .int (nI i), .long b])).length) Slot.unset).toArray = ls at hl ⊢
  replace hl : lv_has ls 7 [(0, .ref k0), (1, .int (nI j)), (2, .int (nI i)), (3, .long b)] := hl
  have hm : ¬ f_holds (nI mc) (nI j) = 0 := (f_holds_iff (by omega) _).mpr ⟨j, hj, rfl⟩
  replace hj : j < 8 := by omega
  refine lv_aload_n hx hb dX4_poke_0 rfl (lv_at hl 0 rfl) ?_
  refine lv_iconst (v := 0) hx hb dX4_poke_1 (by decide) ?_
  refine va_put (D := G.1) (ci := 5) (v := .int 0) (ty := .int) (C := RX4) (T := TX4) (N := 15) hx hb hts hiX4 tyX4 tyX4_ok nmX4 hown hE.1 hP hD hS 0 rfl rfl 14 (by decide) (hts (.fieldLink RX4 47 "MeterSealsModel" "thrown" "I") (by decide +kernel)) (fun _ h9 => h9) rfl (by decide +kernel) rfl rfl (Nat.le_of_ble_eq_true rfl) dX4_poke_2 (fun H locs hP hD hS => ?_)
  replace hP : va_P G.1 vwCl (wK G k0 k1 k2 k3 k4 k5 k6 k7 k8 k9 k10 k11 k12 (nI mc) len 0 ky ro ln kd nb sc wa sm ld lo lw tx) H := hP
  replace hD : va_D A (wK G k0 k1 k2 k3 k4 k5 k6 k7 k8 k9 k10 k11 k12 (nI mc) len 0 ky ro ln kd nb sc wa sm ld lo lw tx) := hD
  refine lv_aload_n hx hb dX4_poke_5 rfl (lv_at hl 0 rfl) ?_
  refine lv_iload_n hx hb dX4_poke_6 rfl (lv_at hl 1 rfl) ?_
  refine lv_iload_n hx hb dX4_poke_7 rfl (lv_at hl 2 rfl) ?_
  refine x_ri (va_runV (As := [.int (nI j), .int (nI i)]) (rest := []) ⟨hx, hb, hml, hown, hts⟩ (ct_X4_isRow l G k0 k1 k2 k3 k4 k5 k6 k7 k8 k9 k10 k11 k12 mc len 0 ky ro ln kd nb sc wa sm ld lo lw tx (nI j) (nI i) hmc) (cwV 2 hts gX4_poke_X4_isRow rfl rfl rfl (by decide +kernel) ⟨Nat.le_of_ble_eq_true rfl, Nat.le_of_ble_eq_true rfl⟩) (RdP.preV 0 5 rfl rfl hP hE) rfl rfl hl.1 rfl (lv_room (Nat.le_of_ble_eq_true rfl)) dX4_poke_8 ⟨Nat.zero_le _, Nat.zero_le _⟩) (fun r1 er1 => ?_)
  subst er1
  refine lv_if_eq (tgt := 45) hx hb dX4_poke_11 (by decide) (fun c11 => absurd c11 hrw) (fun c11 => ?_)
  refine lv_aload_n hx hb dX4_poke_14 rfl (lv_at hl 0 rfl) ?_
  refine va_get (D := G.1) (ci := 5) (v := .ref k4) (C := RX4) (T := TX4) (N := 15) hx hb hts hiX4 hown hE.1 hP 0 rfl rfl 4 (by decide) (hts (.fieldLink RX4 20 "MeterSealsModel" "kind" "[I") (by decide +kernel)) (fun _ h9 => h9) rfl dX4_poke_15 ?_
  refine lv_iload_n hx hb dX4_poke_18 rfl (lv_at hl 1 rfl) ?_
  refine lv_sipush (v := 200) hx hb dX4_poke_19 (by decide) ?_
  refine lv_imul hx hb dX4_poke_22 ?_
  rw [nI_mul200 j]
  refine lv_iload_n hx hb dX4_poke_23 rfl (lv_at hl 2 rfl) ?_
  refine lv_iadd hx hb dX4_poke_24 ?_
  rw [nI_add (j * 200) i]
  refine va_iald hx hb hE.1 hP 4 0 rfl rfl (vp_in_nI (show j * 200 + i < 1600 by omega) (by decide)) dX4_poke_25 ?_
  rw [nI_clamp (n := j * 200 + i) (by omega)]
  refine lv_if_ne (tgt := 45) hx hb dX4_poke_26 (by decide) (fun c26 => ?_) (fun c26 => ?_)
  · refine lv_iconst (v := 0) hx hb dX4_poke_45 (by decide) ?_
    exact W.zret (v := 0) hx hb hr (zb (Or.inl rfl)) (fun tZ hZ hW => ⟨⟨0, wK G k0 k1 k2 k3 k4 k5 k6 k7 k8 k9 k10 k11 k12 (nI mc) len 0 ky ro ln kd nb sc wa sm ld lo lw tx, rfl, Or.inl ⟨rfl, by simp only [md_poke, if_neg c26], rfl⟩, by show va_P _ _ _ tZ.heap; rw [hZ]; exact hP⟩, hS.F hZ⟩) hS.2.2 dX4_poke_46
  refine lv_lload_n hx hb dX4_poke_29 rfl (lv_at hl 3 rfl) ?_
  refine lv_ldc2 (v := (-1000000)) hx hb hown (hts (.constantLong RX4 104 (-1000000)) (by decide +kernel)) dX4_poke_30 ?_
  refine x_llt (tgt := 45) hx hb dX4_poke_33 dX4_poke_34 (by decide) (fun c34 => ?_) (fun c34 => ?_)
  · refine lv_iconst (v := 0) hx hb dX4_poke_45 (by decide) ?_
    exact W.zret (v := 0) hx hb hr (zb (Or.inl rfl)) (fun tZ hZ hW => ⟨⟨0, wK G k0 k1 k2 k3 k4 k5 k6 k7 k8 k9 k10 k11 k12 (nI mc) len 0 ky ro ln kd nb sc wa sm ld lo lw tx, rfl, Or.inl ⟨rfl, by simp only [md_poke, if_pos c26, if_pos c34], rfl⟩, by show va_P _ _ _ tZ.heap; rw [hZ]; exact hP⟩, hS.F hZ⟩) hS.2.2 dX4_poke_46
  refine lv_lload_n hx hb dX4_poke_37 rfl (lv_at hl 3 rfl) ?_
  refine lv_ldc2 (v := 1000000) hx hb hown (hts (.constantLong RX4 70 1000000) (by decide +kernel)) dX4_poke_38 ?_
  refine x_lle (tgt := 47) hx hb dX4_poke_41 dX4_poke_42 (by decide) (fun c42 => ?_) (fun c42 => ?_)
  · refine lv_aload_n hx hb dX4_poke_47 rfl (lv_at hl 0 rfl) ?_
    refine va_get (D := G.1) (ci := 5) (v := .ref k5) (C := RX4) (T := TX4) (N := 15) hx hb hts hiX4 hown hE.1 hP 0 rfl rfl 5 (by decide) (hts (.fieldLink RX4 23 "MeterSealsModel" "number" "[J") (by decide +kernel)) (fun _ h9 => h9) rfl dX4_poke_48 ?_
    refine lv_iload_n hx hb dX4_poke_51 rfl (lv_at hl 1 rfl) ?_
    refine lv_sipush (v := 200) hx hb dX4_poke_52 (by decide) ?_
    refine lv_imul hx hb dX4_poke_55 ?_
    rw [nI_mul200 j]
    refine lv_iload_n hx hb dX4_poke_56 rfl (lv_at hl 2 rfl) ?_
    refine lv_iadd hx hb dX4_poke_57 ?_
    rw [nI_add (j * 200) i]
    refine va_lald hx hb hE.1 hP 5 1 rfl rfl (vp_in_nI (show j * 200 + i < 1600 by omega) (by decide)) dX4_poke_58 ?_
    rw [nI_clamp (n := j * 200 + i) (by omega)]
    refine lv_lload_n hx hb dX4_poke_59 rfl (lv_at hl 3 rfl) ?_
    refine lv_ladd hx hb dX4_poke_60 ?_
    refine lv_lstore (lv' := [(5, .long ((nb (j * 200 + i)) + b)), (0, .ref k0), (1, .int (nI j)), (2, .int (nI i)), (3, .long b)]) hx hb dX4_poke_61 hl (by decide) rfl (fun ls hl => ?_)
    refine lv_lload hx hb dX4_poke_63 (lv_at hl 0 rfl) ?_
    refine lv_lconst (v := 0) hx hb dX4_poke_65 (by decide) ?_
    refine x_llt (tgt := 79) hx hb dX4_poke_66 dX4_poke_67 (by decide) (fun c67 => ?_) (fun c67 => ?_)
    · refine lv_iconst (v := 0) hx hb dX4_poke_79 (by decide) ?_
      exact W.zret (v := 0) hx hb hr (zb (Or.inl rfl)) (fun tZ hZ hW => ⟨⟨0, wK G k0 k1 k2 k3 k4 k5 k6 k7 k8 k9 k10 k11 k12 (nI mc) len 0 ky ro ln kd nb sc wa sm ld lo lw tx, rfl, Or.inl ⟨rfl, by simp only [md_poke, if_pos c26, if_neg c34, if_pos c42, if_pos c67], rfl⟩, by show va_P _ _ _ tZ.heap; rw [hZ]; exact hP⟩, hS.F hZ⟩) hS.2.2 dX4_poke_80
    refine lv_lload hx hb dX4_poke_70 (lv_at hl 0 rfl) ?_
    refine lv_ldc2 (v := 1000000) hx hb hown (hts (.constantLong RX4 70 1000000) (by decide +kernel)) dX4_poke_72 ?_
    refine x_lle (tgt := 81) hx hb dX4_poke_75 dX4_poke_76 (by decide) (fun c76 => ?_) (fun c76 => ?_)
    · refine lv_aload_n hx hb dX4_poke_81 rfl (lv_at hl 1 rfl) ?_
      refine va_get (D := G.1) (ci := 5) (v := .ref k5) (C := RX4) (T := TX4) (N := 15) hx hb hts hiX4 hown hE.1 hP 0 rfl rfl 5 (by decide) (hts (.fieldLink RX4 23 "MeterSealsModel" "number" "[J") (by decide +kernel)) (fun _ h9 => h9) rfl dX4_poke_82 ?_
      refine lv_iload_n hx hb dX4_poke_85 rfl (lv_at hl 2 rfl) ?_
      refine lv_sipush (v := 200) hx hb dX4_poke_86 (by decide) ?_
      refine lv_imul hx hb dX4_poke_89 ?_
      rw [nI_mul200 j]
      refine lv_iload_n hx hb dX4_poke_90 rfl (lv_at hl 3 rfl) ?_
      refine lv_iadd hx hb dX4_poke_91 ?_
      rw [nI_add (j * 200) i]
      refine lv_lload hx hb dX4_poke_92 (lv_at hl 0 rfl) ?_
      refine va_last hx hb hE.1 hP hD hS 5 1 rfl rfl (vp_in_nI (show j * 200 + i < 1600 by omega) (by decide)) dX4_poke_94 (fun H locs hP hD hS => ?_)
      rw [nI_clamp (n := j * 200 + i) (by omega)] at hP hD
      replace hP : va_P G.1 vwCl (wK G k0 k1 k2 k3 k4 k5 k6 k7 k8 k9 k10 k11 k12 (nI mc) len 0 ky ro ln kd (vp_updL nb (j * 200 + i) ((nb (j * 200 + i)) + b)) sc wa sm ld lo lw tx) H := hP
      replace hD : va_D A (wK G k0 k1 k2 k3 k4 k5 k6 k7 k8 k9 k10 k11 k12 (nI mc) len 0 ky ro ln kd (vp_updL nb (j * 200 + i) ((nb (j * 200 + i)) + b)) sc wa sm ld lo lw tx) := hD
      refine lv_iconst (v := 1) hx hb dX4_poke_95 (by decide) ?_
      exact W.zret (v := 1) hx hb hr (zb (Or.inr rfl)) (fun tZ hZ hW => ⟨⟨1, wK G k0 k1 k2 k3 k4 k5 k6 k7 k8 k9 k10 k11 k12 (nI mc) len 0 ky ro ln kd (vp_updL nb (j * 200 + i) ((nb (j * 200 + i)) + b)) sc wa sm ld lo lw tx, rfl, Or.inr ⟨rfl, by simp only [md_poke, if_pos c26, if_neg c34, if_pos c42, if_neg c67, if_pos c76], rfl⟩, by show va_P _ _ _ tZ.heap; rw [hZ]; exact hP⟩, hS.F hZ⟩) hS.2.2 dX4_poke_96
    refine lv_iconst (v := 0) hx hb dX4_poke_79 (by decide) ?_
    exact W.zret (v := 0) hx hb hr (zb (Or.inl rfl)) (fun tZ hZ hW => ⟨⟨0, wK G k0 k1 k2 k3 k4 k5 k6 k7 k8 k9 k10 k11 k12 (nI mc) len 0 ky ro ln kd nb sc wa sm ld lo lw tx, rfl, Or.inl ⟨rfl, by simp only [md_poke, if_pos c26, if_neg c34, if_pos c42, if_neg c67, if_neg c76], rfl⟩, by show va_P _ _ _ tZ.heap; rw [hZ]; exact hP⟩, hS.F hZ⟩) hS.2.2 dX4_poke_80
  refine lv_iconst (v := 0) hx hb dX4_poke_45 (by decide) ?_
  exact W.zret (v := 0) hx hb hr (zb (Or.inl rfl)) (fun tZ hZ hW => ⟨⟨0, wK G k0 k1 k2 k3 k4 k5 k6 k7 k8 k9 k10 k11 k12 (nI mc) len 0 ky ro ln kd nb sc wa sm ld lo lw tx, rfl, Or.inl ⟨rfl, by simp only [md_poke, if_pos c26, if_neg c34, if_neg c42], rfl⟩, by show va_P _ _ _ tZ.heap; rw [hZ]; exact hP⟩, hS.F hZ⟩) hS.2.2 dX4_poke_46

set_option maxHeartbeats 4000000 in
set_option maxRecDepth 100000 in
/-- X4_marked, present -/
theorem ct_X4_marked (l : Launch) (G : Gx) (k0 k1 k2 k3 k4 k5 k6 k7 k8 k9 k10 k11 k12 : Nat) (mc : Nat) (len thr : Int32) (ky : Nat → Int64) (ro ln kd : Nat → Int32) (nb sc : Nat → Int64) (wa : Nat → Int32) (sm : Nat → Int64) (ld : Nat → Int32) (lo lw : Nat → Int64) (tx : Nat → Int32) (j n t : Nat) (i : Nat) (hmc : mc ≤ 8) (hj : j < mc) (hn2 : n ≤ 200) (hro : ro j = nI n) (ht : t ≤ 16) (hln : ln j = nI t) (hi : i < n) (hrw : ¬ f_row mc ro (nI j) (nI i) = 0) : Met l yX4_marked wsX4_marked ({ frames := 2, cells := 0, slots := 0, locals := 48 }) (WrP G (wK G k0 k1 k2 k3 k4 k5 k6 k7 k8 k9 k10 k11 k12 (nI mc) len thr ky ro ln kd nb sc wa sm ld lo lw tx) [.ref k0, .int (nI j), .int (nI i)]) (va_Qi (fun r (u : va_W) => r = (if md_mk kd j i = 0 then 0 else 1) ∧ u = wK G k0 k1 k2 k3 k4 k5 k6 k7 k8 k9 k10 k11 k12 (nI mc) len 0 ky ro ln kd nb sc wa sm ld lo lw tx) (fun u t => va_P G.1 vwCl u t.heap) (adr (wK G k0 k1 k2 k3 k4 k5 k6 k7 k8 k9 k10 k11 k12 (nI mc) len thr ky ro ln kd nb sc wa sm ld lo lw tx))) 0 0 (adr (wK G k0 k1 k2 k3 k4 k5 k6 k7 k8 k9 k10 k11 k12 (nI mc) len thr ky ro ln kd nb sc wa sm ld lo lw tx)) := by
  refine Met.ofW (cc := cX4_marked) (maxL := 3) (ret := (some .boolean)) (by decide) rfl ?_
  intro p e s m args below meth c s₁ B hml hv
  obtain ⟨rfl, hP, hE, hD0⟩ := hv
  have hx := B.exec
  have hb := B.bytes
  have hr := B.returns
  have hts := atoms_spec (ws := wsX4_marked) B.pre
  have hown : s.vm.findClass RX4 = some m.cls := findClass_of_methodNamed B.named
  have hlocks := B.notSynchronized
  have hD : va_D (adr (wK G k0 k1 k2 k3 k4 k5 k6 k7 k8 k9 k10 k11 k12 (nI mc) len thr ky ro ln kd nb sc wa sm ld lo lw tx)) (wK G k0 k1 k2 k3 k4 k5 k6 k7 k8 k9 k10 k11 k12 (nI mc) len thr ky ro ln kd nb sc wa sm ld lo lw tx) := ⟨hD0.1, fun k q hk => ⟨k, q.2, hk⟩⟩
  generalize adr (wK G k0 k1 k2 k3 k4 k5 k6 k7 k8 k9 k10 k11 k12 (nI mc) len thr ky ro ln kd nb sc wa sm ld lo lw tx) = A at hD ⊢
  have hS : va_S A s.heap s.heap [] := va_S.rf
  have hiX4 : ∀ w ∈ wsX40, w ∈ wsX4_marked := by decide +kernel
  have hl := lv_entry ([.ref k0, .int (nI j), .int (nI i)]) (n := 3) (Nat.le_of_ble_eq_true rfl)
  rw [lg_entry_eq]
  generalize (lg_sl ([.ref k0, .int (nI j), .int (nI i)]) ++ List.replicate (3 - (lg_sl ([.ref k0, .int (nI j), .int (nI i)])).length) Slot.unset).toArray = ls at hl ⊢
  replace hl : lv_has ls 3 [(0, .ref k0), (1, .int (nI j)), (2, .int (nI i))] := hl
  have hm : ¬ f_holds (nI mc) (nI j) = 0 := (f_holds_iff (by omega) _).mpr ⟨j, hj, rfl⟩
  replace hj : j < 8 := by omega
  refine lv_aload_n hx hb dX4_marked_0 rfl (lv_at hl 0 rfl) ?_
  refine lv_iconst (v := 0) hx hb dX4_marked_1 (by decide) ?_
  refine va_put (D := G.1) (ci := 5) (v := .int 0) (ty := .int) (C := RX4) (T := TX4) (N := 15) hx hb hts hiX4 tyX4 tyX4_ok nmX4 hown hE.1 hP hD hS 0 rfl rfl 14 (by decide) (hts (.fieldLink RX4 47 "MeterSealsModel" "thrown" "I") (by decide +kernel)) (fun _ h9 => h9) rfl (by decide +kernel) rfl rfl (Nat.le_of_ble_eq_true rfl) dX4_marked_2 (fun H locs hP hD hS => ?_)
  replace hP : va_P G.1 vwCl (wK G k0 k1 k2 k3 k4 k5 k6 k7 k8 k9 k10 k11 k12 (nI mc) len 0 ky ro ln kd nb sc wa sm ld lo lw tx) H := hP
  replace hD : va_D A (wK G k0 k1 k2 k3 k4 k5 k6 k7 k8 k9 k10 k11 k12 (nI mc) len 0 ky ro ln kd nb sc wa sm ld lo lw tx) := hD
  refine lv_aload_n hx hb dX4_marked_5 rfl (lv_at hl 0 rfl) ?_
  refine lv_iload_n hx hb dX4_marked_6 rfl (lv_at hl 1 rfl) ?_
  refine lv_iload_n hx hb dX4_marked_7 rfl (lv_at hl 2 rfl) ?_
  refine x_ri (va_runV (As := [.int (nI j), .int (nI i)]) (rest := []) ⟨hx, hb, hml, hown, hts⟩ (ct_X4_isRow l G k0 k1 k2 k3 k4 k5 k6 k7 k8 k9 k10 k11 k12 mc len 0 ky ro ln kd nb sc wa sm ld lo lw tx (nI j) (nI i) hmc) (cwV 2 hts gX4_marked_X4_isRow rfl rfl rfl (by decide +kernel) ⟨Nat.le_of_ble_eq_true rfl, Nat.le_of_ble_eq_true rfl⟩) (RdP.preV 0 5 rfl rfl hP hE) rfl rfl hl.1 rfl (lv_room (Nat.le_of_ble_eq_true rfl)) dX4_marked_8 ⟨Nat.zero_le _, Nat.zero_le _⟩) (fun r1 er1 => ?_)
  subst er1
  refine lv_if_eq (tgt := 27) hx hb dX4_marked_11 (by decide) (fun c11 => absurd c11 hrw) (fun c11 => ?_)
  refine lv_aload_n hx hb dX4_marked_14 rfl (lv_at hl 0 rfl) ?_
  refine lv_iload_n hx hb dX4_marked_15 rfl (lv_at hl 1 rfl) ?_
  refine lv_iload_n hx hb dX4_marked_16 rfl (lv_at hl 2 rfl) ?_
  refine x_ri (va_runV (As := [.int (nI j), .int (nI i)]) (rest := []) ⟨hx, hb, hml, hown, hts⟩ (ct_X4_isMarked l G k0 k1 k2 k3 k4 k5 k6 k7 k8 k9 k10 k11 k12 mc len 0 ky ro ln kd nb sc wa sm ld lo lw tx j i hj (by omega)) (cwV 2 hts gX4_marked_X4_isMarked rfl rfl rfl (by decide +kernel) ⟨Nat.le_of_ble_eq_true rfl, Nat.le_of_ble_eq_true rfl⟩) (RdP.preV 0 5 rfl rfl hP hE) rfl rfl hl.1 rfl (lv_room (Nat.le_of_ble_eq_true rfl)) dX4_marked_17 ⟨Nat.zero_le _, Nat.zero_le _⟩) (fun r2 er2 => ?_)
  subst er2
  refine lv_if_eq (tgt := 27) hx hb dX4_marked_20 (by decide) (fun c20 => ?_) (fun c20 => ?_)
  · refine lv_iconst (v := 0) hx hb dX4_marked_27 (by decide) ?_
    exact W.zret (v := 0) hx hb hr (zb (Or.inl rfl)) (fun tZ hZ hW => ⟨⟨0, wK G k0 k1 k2 k3 k4 k5 k6 k7 k8 k9 k10 k11 k12 (nI mc) len 0 ky ro ln kd nb sc wa sm ld lo lw tx, rfl, ⟨by simp only [if_pos c20], rfl⟩, by show va_P _ _ _ tZ.heap; rw [hZ]; exact hP⟩, hS.F hZ⟩) hS.2.2 dX4_marked_28
  refine lv_iconst (v := 1) hx hb dX4_marked_23 (by decide) ?_
  refine lv_goto (tgt := 28) hx hb dX4_marked_24 (by decide) ?_
  exact W.zret (v := 1) hx hb hr (zb (Or.inr rfl)) (fun tZ hZ hW => ⟨⟨1, wK G k0 k1 k2 k3 k4 k5 k6 k7 k8 k9 k10 k11 k12 (nI mc) len 0 ky ro ln kd nb sc wa sm ld lo lw tx, rfl, ⟨by simp only [if_neg c20], rfl⟩, by show va_P _ _ _ tZ.heap; rw [hZ]; exact hP⟩, hS.F hZ⟩) hS.2.2 dX4_marked_28
