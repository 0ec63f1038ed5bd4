set_option maxHeartbeats 4000000 in
set_option maxRecDepth 100000 in
/-- Table() -/
theorem ct_X2_init (l : Launch) (G : Gx) (sz : Nat) (t0 : Nat) : Met l yX2_init wsX2_init ({ frames := 1, cells := 3, slots := 48, locals := 12 }) (NwP G sz ([(t0, .inr (3, [.null, .null, .null, .int 0]))]) [.ref t0]) (va_Qv (fun (u : va_W) => ∃ t1 t2 t3 : Nat, u = wT G t0 t1 t2 t3 0 (fun _ => 0) (fun _ => 0) (fun _ => 0)) (fun u t => va_P G.1 vwCl u t.heap ∧ va_D (va_A ([(t0, .inr (3, [.null, .null, .null, .int 0]))]) sz) u) (va_A ([(t0, .inr (3, [.null, .null, .null, .int 0]))]) sz)) 3 48 (va_A ([(t0, .inr (3, [.null, .null, .null, .int 0]))]) sz) := by
  refine Met.ofW (cc := cX2_init) (maxL := 1) (ret := none) (by decide) rfl ?_
  intro p e s m args below meth c s₁ B hml hv
  obtain ⟨rfl, hsz, hP, hE, hD0⟩ := hv
  have hx := B.exec
  have hb := B.bytes
  have hr := B.returns
  have hts := atoms_spec (ws := wsX2_init) B.pre
  have hown : s.vm.findClass RX2 = some m.cls := findClass_of_methodNamed B.named
  have hlocks := B.notSynchronized
  have hin : meth.name = "<init>" := (name_of_methodNamed B.named B.method).1
  subst hsz
  have hD := hD0.self (sz := s.heap.size)
  generalize hAe : va_A ([(t0, .inr (3, [.null, .null, .null, .int 0]))]) s.heap.size = A at hD ⊢
  have hA : ∀ q : Nat, s.heap.size ≤ q → A q := fun q h => by rw [← hAe]; exact Or.inr h
  have hS : va_S A s.heap s.heap [] := va_S.rf
  have hiX2 : ∀ w ∈ wsX20, w ∈ wsX2_init := by decide +kernel
  have hl := lv_entry ([.ref t0]) (n := 1) (Nat.le_of_ble_eq_true rfl)
  rw [lg_entry_eq]
  generalize (lg_sl ([.ref t0]) ++ List.replicate (1 - (lg_sl ([.ref t0])).length) Slot.unset).toArray = ls at hl ⊢
  replace hl : lv_has ls 1 [(0, .ref t0)] := hl
  refine lv_aload_n hx hb dX2_init_0 rfl (lv_at hl 0 rfl) ?_
  refine W.objInit hx hb hown (hts (.methodLink RX2 3 objectInit) (by decide +kernel)) (hts (.instanceMethod objectInit) (by decide +kernel)) (hts (.code objectInit ⟨#[0xb1]⟩ 1 none) (by decide +kernel)) rfl (by rw [hml]; exact hl.1) rfl dX2_init_1 (Nat.le_of_ble_eq_true rfl) (Nat.le_of_ble_eq_true rfl) ?_
  refine W.eq (g2 := F0 m 4 ls []) rfl ?_
  refine lv_aload_n hx hb dX2_init_4 rfl (lv_at hl 0 rfl) ?_
  refine lv_bipush (v := 16) hx hb dX2_init_5 (by decide) ?_
  refine x_newI (N := 16) hx hb (hts (.arrayClass .int) (by decide +kernel)) hE hP hD hS hA (by decide) (by decide) (by decide) (Nat.le_of_ble_eq_true rfl) (Nat.le_of_ble_eq_true rfl) dX2_init_7 (fun q1 H hP hD hS => ?_)
  replace hP : va_P G.1 vwCl ([(t0, .inr (3, [.null, .null, .null, .int 0])), (q1, .inl (kI G, 16, .inl (fun _ => 0)))]) H := hP
  replace hD : va_D A ([(t0, .inr (3, [.null, .null, .null, .int 0])), (q1, .inl (kI G, 16, .inl (fun _ => 0)))]) := hD
  refine va_putF (D := G.1) (ci := 3) (v := .ref q1) (ty := .array .int) (C := RX2) (T := TX2) (N := 4) hx hb hts hiX2 tyX2 tyX2_ok nmX2 hown hE.1 hP hD hS 0 rfl rfl 0 (by decide) (hts (.fieldLink RX2 9 "MeterSeals$Table" "starts" "[I") (by decide +kernel)) (fun _ h9 => h9) rfl hin rfl (by decide +kernel) rfl rfl (Nat.le_of_ble_eq_true rfl) dX2_init_9 (fun H locs hP hD hS => ?_)
  replace hP : va_P G.1 vwCl ([(t0, .inr (3, [.ref q1, .null, .null, .int 0])), (q1, .inl (kI G, 16, .inl (fun _ => 0)))]) H := hP
  replace hD : va_D A ([(t0, .inr (3, [.ref q1, .null, .null, .int 0])), (q1, .inl (kI G, 16, .inl (fun _ => 0)))]) := hD
  refine lv_aload_n hx hb dX2_init_12 rfl (lv_at hl 0 rfl) ?_
  refine lv_bipush (v := 16) hx hb dX2_init_13 (by decide) ?_
  refine x_newJ (N := 16) hx hb (hts (.arrayClass .long) (by decide +kernel)) hE hP hD hS hA (by decide) (by decide) (by decide) (Nat.le_of_ble_eq_true rfl) (Nat.le_of_ble_eq_true rfl) dX2_init_15 (fun q2 H hP hD hS => ?_)
  replace hP : va_P G.1 vwCl ([(t0, .inr (3, [.ref q1, .null, .null, .int 0])), (q1, .inl (kI G, 16, .inl (fun _ => 0))), (q2, .inl (kJ G, 16, .inr (.inl (fun _ => 0))))]) H := hP
  replace hD : va_D A ([(t0, .inr (3, [.ref q1, .null, .null, .int 0])), (q1, .inl (kI G, 16, .inl (fun _ => 0))), (q2, .inl (kJ G, 16, .inr (.inl (fun _ => 0))))]) := hD
  refine va_putF (D := G.1) (ci := 3) (v := .ref q2) (ty := .array .long) (C := RX2) (T := TX2) (N := 4) hx hb hts hiX2 tyX2 tyX2_ok nmX2 hown hE.1 hP hD hS 0 rfl rfl 1 (by decide) (hts (.fieldLink RX2 15 "MeterSeals$Table" "aboves" "[J") (by decide +kernel)) (fun _ h9 => h9) rfl hin rfl (by decide +kernel) rfl rfl (Nat.le_of_ble_eq_true rfl) dX2_init_17 (fun H locs hP hD hS => ?_)
  replace hP : va_P G.1 vwCl ([(t0, .inr (3, [.ref q1, .ref q2, .null, .int 0])), (q1, .inl (kI G, 16, .inl (fun _ => 0))), (q2, .inl (kJ G, 16, .inr (.inl (fun _ => 0))))]) H := hP
  replace hD : va_D A ([(t0, .inr (3, [.ref q1, .ref q2, .null, .int 0])), (q1, .inl (kI G, 16, .inl (fun _ => 0))), (q2, .inl (kJ G, 16, .inr (.inl (fun _ => 0))))]) := hD
  refine lv_aload_n hx hb dX2_init_20 rfl (lv_at hl 0 rfl) ?_
  refine lv_bipush (v := 16) hx hb dX2_init_21 (by decide) ?_
  refine x_newJ (N := 16) hx hb (hts (.arrayClass .long) (by decide +kernel)) hE hP hD hS hA (by decide) (by decide) (by decide) (Nat.le_of_ble_eq_true rfl) (Nat.le_of_ble_eq_true rfl) dX2_init_23 (fun q3 H hP hD hS => ?_)
  replace hP : va_P G.1 vwCl ([(t0, .inr (3, [.ref q1, .ref q2, .null, .int 0])), (q1, .inl (kI G, 16, .inl (fun _ => 0))), (q2, .inl (kJ G, 16, .inr (.inl (fun _ => 0)))), (q3, .inl (kJ G, 16, .inr (.inl (fun _ => 0))))]) H := hP
  replace hD : va_D A ([(t0, .inr (3, [.ref q1, .ref q2, .null, .int 0])), (q1, .inl (kI G, 16, .inl (fun _ => 0))), (q2, .inl (kJ G, 16, .inr (.inl (fun _ => 0)))), (q3, .inl (kJ G, 16, .inr (.inl (fun _ => 0))))]) := hD
  refine va_putF (D := G.1) (ci := 3) (v := .ref q3) (ty := .array .long) (C := RX2) (T := TX2) (N := 4) hx hb hts hiX2 tyX2 tyX2_ok nmX2 hown hE.1 hP hD hS 0 rfl rfl 2 (by decide) (hts (.fieldLink RX2 19 "MeterSeals$Table" "belows" "[J") (by decide +kernel)) (fun _ h9 => h9) rfl hin rfl (by decide +kernel) rfl rfl (Nat.le_of_ble_eq_true rfl) dX2_init_25 (fun H locs hP hD hS => ?_)
  replace hP : va_P G.1 vwCl ([(t0, .inr (3, [.ref q1, .ref q2, .ref q3, .int 0])), (q1, .inl (kI G, 16, .inl (fun _ => 0))), (q2, .inl (kJ G, 16, .inr (.inl (fun _ => 0)))), (q3, .inl (kJ G, 16, .inr (.inl (fun _ => 0))))]) H := hP
  replace hD : va_D A ([(t0, .inr (3, [.ref q1, .ref q2, .ref q3, .int 0])), (q1, .inl (kI G, 16, .inl (fun _ => 0))), (q2, .inl (kJ G, 16, .inr (.inl (fun _ => 0)))), (q3, .inl (kJ G, 16, .inr (.inl (fun _ => 0))))]) := hD
  refine lv_aload_n hx hb dX2_init_28 rfl (lv_at hl 0 rfl) ?_
  refine lv_iconst (v := 0) hx hb dX2_init_29 (by decide) ?_
  refine va_put (D := G.1) (ci := 3) (v := .int 0) (ty := .int) (C := RX2) (T := TX2) (N := 4) hx hb hts hiX2 tyX2 tyX2_ok nmX2 hown hE.1 hP hD hS 0 rfl rfl 3 (by decide) (hts (.fieldLink RX2 22 "MeterSeals$Table" "count" "I") (by decide +kernel)) (fun _ h9 => h9) rfl (by decide +kernel) rfl rfl (Nat.le_of_ble_eq_true rfl) dX2_init_30 (fun H locs hP hD hS => ?_)
  replace hP : va_P G.1 vwCl ([(t0, .inr (3, [.ref q1, .ref q2, .ref q3, .int 0])), (q1, .inl (kI G, 16, .inl (fun _ => 0))), (q2, .inl (kJ G, 16, .inr (.inl (fun _ => 0)))), (q3, .inl (kJ G, 16, .inr (.inl (fun _ => 0))))]) H := hP
  replace hD : va_D A ([(t0, .inr (3, [.ref q1, .ref q2, .ref q3, .int 0])), (q1, .inl (kI G, 16, .inl (fun _ => 0))), (q2, .inl (kJ G, 16, .inr (.inl (fun _ => 0)))), (q3, .inl (kJ G, 16, .inr (.inl (fun _ => 0))))]) := hD
  exact W.vret hx hb hr (fun t ht hW => ⟨⟨[(t0, .inr (3, [.ref q1, .ref q2, .ref q3, .int 0])), (q1, .inl (kI G, 16, .inl (fun _ => 0))), (q2, .inl (kJ G, 16, .inr (.inl (fun _ => 0)))), (q3, .inl (kJ G, 16, .inr (.inl (fun _ => 0))))], rfl, ⟨_, _, _, rfl⟩, by show va_P _ _ _ t.heap; rw [ht]; exact hP, hD⟩, hS.F ht⟩) hS.2.2 dX2_init_33

set_option maxHeartbeats 4000000 in
set_option maxRecDepth 100000 in
/-- Rows(key) -/
theorem ct_X1_init (l : Launch) (G : Gx) (sz : Nat) (h0 : Nat) (key : Int64) : Met l yX1_init wsX1_init ({ frames := 1, cells := 5, slots := 1000, locals := 12 }) (NwP G sz ([(h0, .inr (2, [.long 0, .null, .null, .null, .null, .null, .int 0]))]) [.ref h0, .long key]) (va_Qv (fun (u : va_W) => ∃ h1 h2 h3 h4 h5 : Nat, u = wR G h0 h1 h2 h3 h4 h5 key 0 (fun _ => 0) (fun _ => 0) (fun _ => 0) (fun _ => 0) (fun _ => 0)) (fun u t => va_P G.1 vwCl u t.heap ∧ va_D (va_A ([(h0, .inr (2, [.long 0, .null, .null, .null, .null, .null, .int 0]))]) sz) u) (va_A ([(h0, .inr (2, [.long 0, .null, .null, .null, .null, .null, .int 0]))]) sz)) 5 1000 (va_A ([(h0, .inr (2, [.long 0, .null, .null, .null, .null, .null, .int 0]))]) sz) := by
  refine Met.ofW (cc := cX1_init) (maxL := 3) (ret := none) (by decide) rfl ?_
  intro p e s m args below meth c s₁ B hml hv
  obtain ⟨rfl, hsz, hP, hE, hD0⟩ := hv
  have hx := B.exec
  have hb := B.bytes
  have hr := B.returns
  have hts := atoms_spec (ws := wsX1_init) B.pre
  have hown : s.vm.findClass RX1 = some m.cls := findClass_of_methodNamed B.named
  have hlocks := B.notSynchronized
  have hin : meth.name = "<init>" := (name_of_methodNamed B.named B.method).1
  subst hsz
  have hD := hD0.self (sz := s.heap.size)
  generalize hAe : va_A ([(h0, .inr (2, [.long 0, .null, .null, .null, .null, .null, .int 0]))]) s.heap.size = A at hD ⊢
  have hA : ∀ q : Nat, s.heap.size ≤ q → A q := fun q h => by rw [← hAe]; exact Or.inr h
  have hS : va_S A s.heap s.heap [] := va_S.rf
  have hiX1 : ∀ w ∈ wsX10, w ∈ wsX1_init := by decide +kernel
  have hl := lv_entry ([.ref h0, .long key]) (n := 3) (Nat.le_of_ble_eq_true rfl)
  rw [lg_entry_eq]
  generalize (lg_sl ([.ref h0, .long key]) ++ List.replicate (3 - (lg_sl ([.ref h0, .long key])).length) Slot.unset).toArray = ls at hl ⊢
  replace hl : lv_has ls 3 [(0, .ref h0), (1, .long key)] := hl
  refine lv_aload_n hx hb dX1_init_0 rfl (lv_at hl 0 rfl) ?_
  refine W.objInit hx hb hown (hts (.methodLink RX1 3 objectInit) (by decide +kernel)) (hts (.instanceMethod objectInit) (by decide +kernel)) (hts (.code objectInit ⟨#[0xb1]⟩ 1 none) (by decide +kernel)) rfl (by rw [hml]; exact hl.1) rfl dX1_init_1 (Nat.le_of_ble_eq_true rfl) (Nat.le_of_ble_eq_true rfl) ?_
  refine W.eq (g2 := F0 m 4 ls []) rfl ?_
  refine lv_aload_n hx hb dX1_init_4 rfl (lv_at hl 0 rfl) ?_
  refine lv_lload_n hx hb dX1_init_5 rfl (lv_at hl 1 rfl) ?_
  refine va_putF (D := G.1) (ci := 2) (v := .long key) (ty := .long) (C := RX1) (T := TX1) (N := 7) hx hb hts hiX1 tyX1 tyX1_ok nmX1 hown hE.1 hP hD hS 0 rfl rfl 0 (by decide) (hts (.fieldLink RX1 9 "MeterSeals$Rows" "key" "J") (by decide +kernel)) (fun _ h9 => h9) rfl hin rfl (by decide +kernel) rfl rfl (Nat.le_of_ble_eq_true rfl) dX1_init_6 (fun H locs hP hD hS => ?_)
  replace hP : va_P G.1 vwCl ([(h0, .inr (2, [.long key, .null, .null, .null, .null, .null, .int 0]))]) H := hP
  replace hD : va_D A ([(h0, .inr (2, [.long key, .null, .null, .null, .null, .null, .int 0]))]) := hD
  refine lv_aload_n hx hb dX1_init_9 rfl (lv_at hl 0 rfl) ?_
  refine lv_sipush (v := 200) hx hb dX1_init_10 (by decide) ?_
  refine x_newJ (N := 200) hx hb (hts (.arrayClass .long) (by decide +kernel)) hE hP hD hS hA (by decide) (by decide) (by decide) (Nat.le_of_ble_eq_true rfl) (Nat.le_of_ble_eq_true rfl) dX1_init_13 (fun q1 H hP hD hS => ?_)
  replace hP : va_P G.1 vwCl ([(h0, .inr (2, [.long key, .null, .null, .null, .null, .null, .int 0])), (q1, .inl (kJ G, 200, .inr (.inl (fun _ => 0))))]) H := hP
  replace hD : va_D A ([(h0, .inr (2, [.long key, .null, .null, .null, .null, .null, .int 0])), (q1, .inl (kJ G, 200, .inr (.inl (fun _ => 0))))]) := hD
  refine va_putF (D := G.1) (ci := 2) (v := .ref q1) (ty := .array .long) (C := RX1) (T := TX1) (N := 7) hx hb hts hiX1 tyX1 tyX1_ok nmX1 hown hE.1 hP hD hS 0 rfl rfl 1 (by decide) (hts (.fieldLink RX1 15 "MeterSeals$Rows" "numbers" "[J") (by decide +kernel)) (fun _ h9 => h9) rfl hin rfl (by decide +kernel) rfl rfl (Nat.le_of_ble_eq_true rfl) dX1_init_15 (fun H locs hP hD hS => ?_)
  replace hP : va_P G.1 vwCl ([(h0, .inr (2, [.long key, .ref q1, .null, .null, .null, .null, .int 0])), (q1, .inl (kJ G, 200, .inr (.inl (fun _ => 0))))]) H := hP
  replace hD : va_D A ([(h0, .inr (2, [.long key, .ref q1, .null, .null, .null, .null, .int 0])), (q1, .inl (kJ G, 200, .inr (.inl (fun _ => 0))))]) := hD
  refine lv_aload_n hx hb dX1_init_18 rfl (lv_at hl 0 rfl) ?_
  refine lv_sipush (v := 200) hx hb dX1_init_19 (by decide) ?_
  refine x_newJ (N := 200) hx hb (hts (.arrayClass .long) (by decide +kernel)) hE hP hD hS hA (by decide) (by decide) (by decide) (Nat.le_of_ble_eq_true rfl) (Nat.le_of_ble_eq_true rfl) dX1_init_22 (fun q2 H hP hD hS => ?_)
  replace hP : va_P G.1 vwCl ([(h0, .inr (2, [.long key, .ref q1, .null, .null, .null, .null, .int 0])), (q1, .inl (kJ G, 200, .inr (.inl (fun _ => 0)))), (q2, .inl (kJ G, 200, .inr (.inl (fun _ => 0))))]) H := hP
  replace hD : va_D A ([(h0, .inr (2, [.long key, .ref q1, .null, .null, .null, .null, .int 0])), (q1, .inl (kJ G, 200, .inr (.inl (fun _ => 0)))), (q2, .inl (kJ G, 200, .inr (.inl (fun _ => 0))))]) := hD
  refine va_putF (D := G.1) (ci := 2) (v := .ref q2) (ty := .array .long) (C := RX1) (T := TX1) (N := 7) hx hb hts hiX1 tyX1 tyX1_ok nmX1 hown hE.1 hP hD hS 0 rfl rfl 2 (by decide) (hts (.fieldLink RX1 19 "MeterSeals$Rows" "stamps" "[J") (by decide +kernel)) (fun _ h9 => h9) rfl hin rfl (by decide +kernel) rfl rfl (Nat.le_of_ble_eq_true rfl) dX1_init_24 (fun H locs hP hD hS => ?_)
  replace hP : va_P G.1 vwCl ([(h0, .inr (2, [.long key, .ref q1, .ref q2, .null, .null, .null, .int 0])), (q1, .inl (kJ G, 200, .inr (.inl (fun _ => 0)))), (q2, .inl (kJ G, 200, .inr (.inl (fun _ => 0))))]) H := hP
  replace hD : va_D A ([(h0, .inr (2, [.long key, .ref q1, .ref q2, .null, .null, .null, .int 0])), (q1, .inl (kJ G, 200, .inr (.inl (fun _ => 0)))), (q2, .inl (kJ G, 200, .inr (.inl (fun _ => 0))))]) := hD
  refine lv_aload_n hx hb dX1_init_27 rfl (lv_at hl 0 rfl) ?_
  refine lv_sipush (v := 200) hx hb dX1_init_28 (by decide) ?_
  refine x_newI (N := 200) hx hb (hts (.arrayClass .int) (by decide +kernel)) hE hP hD hS hA (by decide) (by decide) (by decide) (Nat.le_of_ble_eq_true rfl) (Nat.le_of_ble_eq_true rfl) dX1_init_31 (fun q3 H hP hD hS => ?_)
  replace hP : va_P G.1 vwCl ([(h0, .inr (2, [.long key, .ref q1, .ref q2, .null, .null, .null, .int 0])), (q1, .inl (kJ G, 200, .inr (.inl (fun _ => 0)))), (q2, .inl (kJ G, 200, .inr (.inl (fun _ => 0)))), (q3, .inl (kI G, 200, .inl (fun _ => 0)))]) H := hP
  replace hD : va_D A ([(h0, .inr (2, [.long key, .ref q1, .ref q2, .null, .null, .null, .int 0])), (q1, .inl (kJ G, 200, .inr (.inl (fun _ => 0)))), (q2, .inl (kJ G, 200, .inr (.inl (fun _ => 0)))), (q3, .inl (kI G, 200, .inl (fun _ => 0)))]) := hD
  refine va_putF (D := G.1) (ci := 2) (v := .ref q3) (ty := .array .int) (C := RX1) (T := TX1) (N := 7) hx hb hts hiX1 tyX1 tyX1_ok nmX1 hown hE.1 hP hD hS 0 rfl rfl 3 (by decide) (hts (.fieldLink RX1 22 "MeterSeals$Rows" "degrees" "[I") (by decide +kernel)) (fun _ h9 => h9) rfl hin rfl (by decide +kernel) rfl rfl (Nat.le_of_ble_eq_true rfl) dX1_init_33 (fun H locs hP hD hS => ?_)
  replace hP : va_P G.1 vwCl ([(h0, .inr (2, [.long key, .ref q1, .ref q2, .ref q3, .null, .null, .int 0])), (q1, .inl (kJ G, 200, .inr (.inl (fun _ => 0)))), (q2, .inl (kJ G, 200, .inr (.inl (fun _ => 0)))), (q3, .inl (kI G, 200, .inl (fun _ => 0)))]) H := hP
  replace hD : va_D A ([(h0, .inr (2, [.long key, .ref q1, .ref q2, .ref q3, .null, .null, .int 0])), (q1, .inl (kJ G, 200, .inr (.inl (fun _ => 0)))), (q2, .inl (kJ G, 200, .inr (.inl (fun _ => 0)))), (q3, .inl (kI G, 200, .inl (fun _ => 0)))]) := hD
  refine lv_aload_n hx hb dX1_init_36 rfl (lv_at hl 0 rfl) ?_
  refine lv_sipush (v := 200) hx hb dX1_init_37 (by decide) ?_
  refine x_newJ (N := 200) hx hb (hts (.arrayClass .long) (by decide +kernel)) hE hP hD hS hA (by decide) (by decide) (by decide) (Nat.le_of_ble_eq_true rfl) (Nat.le_of_ble_eq_true rfl) dX1_init_40 (fun q4 H hP hD hS => ?_)
  replace hP : va_P G.1 vwCl ([(h0, .inr (2, [.long key, .ref q1, .ref q2, .ref q3, .null, .null, .int 0])), (q1, .inl (kJ G, 200, .inr (.inl (fun _ => 0)))), (q2, .inl (kJ G, 200, .inr (.inl (fun _ => 0)))), (q3, .inl (kI G, 200, .inl (fun _ => 0))), (q4, .inl (kJ G, 200, .inr (.inl (fun _ => 0))))]) H := hP
  replace hD : va_D A ([(h0, .inr (2, [.long key, .ref q1, .ref q2, .ref q3, .null, .null, .int 0])), (q1, .inl (kJ G, 200, .inr (.inl (fun _ => 0)))), (q2, .inl (kJ G, 200, .inr (.inl (fun _ => 0)))), (q3, .inl (kI G, 200, .inl (fun _ => 0))), (q4, .inl (kJ G, 200, .inr (.inl (fun _ => 0))))]) := hD
  refine va_putF (D := G.1) (ci := 2) (v := .ref q4) (ty := .array .long) (C := RX1) (T := TX1) (N := 7) hx hb hts hiX1 tyX1 tyX1_ok nmX1 hown hE.1 hP hD hS 0 rfl rfl 4 (by decide) (hts (.fieldLink RX1 26 "MeterSeals$Rows" "sums" "[J") (by decide +kernel)) (fun _ h9 => h9) rfl hin rfl (by decide +kernel) rfl rfl (Nat.le_of_ble_eq_true rfl) dX1_init_42 (fun H locs hP hD hS => ?_)
  replace hP : va_P G.1 vwCl ([(h0, .inr (2, [.long key, .ref q1, .ref q2, .ref q3, .ref q4, .null, .int 0])), (q1, .inl (kJ G, 200, .inr (.inl (fun _ => 0)))), (q2, .inl (kJ G, 200, .inr (.inl (fun _ => 0)))), (q3, .inl (kI G, 200, .inl (fun _ => 0))), (q4, .inl (kJ G, 200, .inr (.inl (fun _ => 0))))]) H := hP
  replace hD : va_D A ([(h0, .inr (2, [.long key, .ref q1, .ref q2, .ref q3, .ref q4, .null, .int 0])), (q1, .inl (kJ G, 200, .inr (.inl (fun _ => 0)))), (q2, .inl (kJ G, 200, .inr (.inl (fun _ => 0)))), (q3, .inl (kI G, 200, .inl (fun _ => 0))), (q4, .inl (kJ G, 200, .inr (.inl (fun _ => 0))))]) := hD
  refine lv_aload_n hx hb dX1_init_45 rfl (lv_at hl 0 rfl) ?_
  refine lv_sipush (v := 200) hx hb dX1_init_46 (by decide) ?_
  refine x_newZ (N := 200) hx hb (hts (.arrayClass .boolean) (by decide +kernel)) hE hP hD hS hA (by decide) (by decide) (by decide) (Nat.le_of_ble_eq_true rfl) (Nat.le_of_ble_eq_true rfl) dX1_init_49 (fun q5 H hP hD hS => ?_)
  replace hP : va_P G.1 vwCl ([(h0, .inr (2, [.long key, .ref q1, .ref q2, .ref q3, .ref q4, .null, .int 0])), (q1, .inl (kJ G, 200, .inr (.inl (fun _ => 0)))), (q2, .inl (kJ G, 200, .inr (.inl (fun _ => 0)))), (q3, .inl (kI G, 200, .inl (fun _ => 0))), (q4, .inl (kJ G, 200, .inr (.inl (fun _ => 0)))), (q5, .inl (kZ G, 200, .inl (fun _ => 0)))]) H := hP
  replace hD : va_D A ([(h0, .inr (2, [.long key, .ref q1, .ref q2, .ref q3, .ref q4, .null, .int 0])), (q1, .inl (kJ G, 200, .inr (.inl (fun _ => 0)))), (q2, .inl (kJ G, 200, .inr (.inl (fun _ => 0)))), (q3, .inl (kI G, 200, .inl (fun _ => 0))), (q4, .inl (kJ G, 200, .inr (.inl (fun _ => 0)))), (q5, .inl (kZ G, 200, .inl (fun _ => 0)))]) := hD
  refine va_putF (D := G.1) (ci := 2) (v := .ref q5) (ty := .array .boolean) (C := RX1) (T := TX1) (N := 7) hx hb hts hiX1 tyX1 tyX1_ok nmX1 hown hE.1 hP hD hS 0 rfl rfl 5 (by decide) (hts (.fieldLink RX1 29 "MeterSeals$Rows" "marks" "[Z") (by decide +kernel)) (fun _ h9 => h9) rfl hin rfl (by decide +kernel) rfl rfl (Nat.le_of_ble_eq_true rfl) dX1_init_51 (fun H locs hP hD hS => ?_)
  replace hP : va_P G.1 vwCl ([(h0, .inr (2, [.long key, .ref q1, .ref q2, .ref q3, .ref q4, .ref q5, .int 0])), (q1, .inl (kJ G, 200, .inr (.inl (fun _ => 0)))), (q2, .inl (kJ G, 200, .inr (.inl (fun _ => 0)))), (q3, .inl (kI G, 200, .inl (fun _ => 0))), (q4, .inl (kJ G, 200, .inr (.inl (fun _ => 0)))), (q5, .inl (kZ G, 200, .inl (fun _ => 0)))]) H := hP
  replace hD : va_D A ([(h0, .inr (2, [.long key, .ref q1, .ref q2, .ref q3, .ref q4, .ref q5, .int 0])), (q1, .inl (kJ G, 200, .inr (.inl (fun _ => 0)))), (q2, .inl (kJ G, 200, .inr (.inl (fun _ => 0)))), (q3, .inl (kI G, 200, .inl (fun _ => 0))), (q4, .inl (kJ G, 200, .inr (.inl (fun _ => 0)))), (q5, .inl (kZ G, 200, .inl (fun _ => 0)))]) := hD
  refine lv_aload_n hx hb dX1_init_54 rfl (lv_at hl 0 rfl) ?_
  refine lv_iconst (v := 0) hx hb dX1_init_55 (by decide) ?_
  refine va_put (D := G.1) (ci := 2) (v := .int 0) (ty := .int) (C := RX1) (T := TX1) (N := 7) hx hb hts hiX1 tyX1 tyX1_ok nmX1 hown hE.1 hP hD hS 0 rfl rfl 6 (by decide) (hts (.fieldLink RX1 33 "MeterSeals$Rows" "count" "I") (by decide +kernel)) (fun _ h9 => h9) rfl (by decide +kernel) rfl rfl (Nat.le_of_ble_eq_true rfl) dX1_init_56 (fun H locs hP hD hS => ?_)
  replace hP : va_P G.1 vwCl ([(h0, .inr (2, [.long key, .ref q1, .ref q2, .ref q3, .ref q4, .ref q5, .int 0])), (q1, .inl (kJ G, 200, .inr (.inl (fun _ => 0)))), (q2, .inl (kJ G, 200, .inr (.inl (fun _ => 0)))), (q3, .inl (kI G, 200, .inl (fun _ => 0))), (q4, .inl (kJ G, 200, .inr (.inl (fun _ => 0)))), (q5, .inl (kZ G, 200, .inl (fun _ => 0)))]) H := hP
  replace hD : va_D A ([(h0, .inr (2, [.long key, .ref q1, .ref q2, .ref q3, .ref q4, .ref q5, .int 0])), (q1, .inl (kJ G, 200, .inr (.inl (fun _ => 0)))), (q2, .inl (kJ G, 200, .inr (.inl (fun _ => 0)))), (q3, .inl (kI G, 200, .inl (fun _ => 0))), (q4, .inl (kJ G, 200, .inr (.inl (fun _ => 0)))), (q5, .inl (kZ G, 200, .inl (fun _ => 0)))]) := hD
  exact W.vret hx hb hr (fun t ht hW => ⟨⟨[(h0, .inr (2, [.long key, .ref q1, .ref q2, .ref q3, .ref q4, .ref q5, .int 0])), (q1, .inl (kJ G, 200, .inr (.inl (fun _ => 0)))), (q2, .inl (kJ G, 200, .inr (.inl (fun _ => 0)))), (q3, .inl (kI G, 200, .inl (fun _ => 0))), (q4, .inl (kJ G, 200, .inr (.inl (fun _ => 0)))), (q5, .inl (kZ G, 200, .inl (fun _ => 0)))], rfl, ⟨_, _, _, _, _, rfl⟩, by show va_P _ _ _ t.heap; rw [ht]; exact hP, hD⟩, hS.F ht⟩) hS.2.2 dX1_init_59

set_option maxHeartbeats 4000000 in
set_option maxRecDepth 100000 in
/-- Meter(key) -/
theorem ct_X0_init (l : Launch) (G : Gx) (sz : Nat) (m0 : Nat) (key : Int64) : Met l yX0_init wsX0_init ({ frames := 2, cells := 10, slots := 1059, locals := 34 }) (NwP G sz ([(m0, .inr (1, [.null, .null, .int 0, .long 0]))]) [.ref m0, .long key]) (va_Qv (fun (u : va_W) => ∃ t0 t1 t2 t3 h0 h1 h2 h3 h4 h5 : Nat, u = wM G m0 t0 t1 t2 t3 h0 h1 h2 h3 h4 h5 1 0 0 (fun _ => 0) (fun _ => 0) (fun _ => 0) key 0 (fun _ => 0) (fun _ => 0) (fun _ => 0) (fun _ => 0) (fun _ => 0)) (fun u t => va_P G.1 vwCl u t.heap ∧ va_D (va_A ([(m0, .inr (1, [.null, .null, .int 0, .long 0]))]) sz) u) (va_A ([(m0, .inr (1, [.null, .null, .int 0, .long 0]))]) sz)) 10 1059 (va_A ([(m0, .inr (1, [.null, .null, .int 0, .long 0]))]) sz) := by
  refine Met.ofW (cc := cX0_init) (maxL := 3) (ret := none) (by decide) rfl ?_
  intro p e s m args below meth c s₁ B hml hv
  obtain ⟨rfl, hsz, hP, hE, hD0⟩ := hv
  have hx := B.exec
  have hb := B.bytes
  have hr := B.returns
  have hts := atoms_spec (ws := wsX0_init) B.pre
  have hown : s.vm.findClass RX0 = some m.cls := findClass_of_methodNamed B.named
  have hlocks := B.notSynchronized
  have hin : meth.name = "<init>" := (name_of_methodNamed B.named B.method).1
  subst hsz
  have hD := hD0.self (sz := s.heap.size)
  generalize hAe : va_A ([(m0, .inr (1, [.null, .null, .int 0, .long 0]))]) s.heap.size = A at hD ⊢
  have hA : ∀ q : Nat, s.heap.size ≤ q → A q := fun q h => by rw [← hAe]; exact Or.inr h
  have hS : va_S A s.heap s.heap [] := va_S.rf
  have hiX0 : ∀ w ∈ wsX00, w ∈ wsX0_init := by decide +kernel
  have hiX1 : ∀ w ∈ wsX10, w ∈ wsX0_init := by decide +kernel
  have hiX2 : ∀ w ∈ wsX20, w ∈ wsX0_init := by decide +kernel
  have hl := lv_entry ([.ref m0, .long key]) (n := 3) (Nat.le_of_ble_eq_true rfl)
  rw [lg_entry_eq]
  generalize (lg_sl ([.ref m0, .long key]) ++ List.replicate (3 - (lg_sl ([.ref m0, .long key])).length) Slot.unset).toArray = ls at hl ⊢
  replace hl : lv_has ls 3 [(0, .ref m0), (1, .long key)] := hl
  refine lv_aload_n hx hb dX0_init_0 rfl (lv_at hl 0 rfl) ?_
  refine W.objInit hx hb hown (hts (.methodLink RX0 3 objectInit) (by decide +kernel)) (hts (.instanceMethod objectInit) (by decide +kernel)) (hts (.code objectInit ⟨#[0xb1]⟩ 1 none) (by decide +kernel)) rfl (by rw [hml]; exact hl.1) rfl dX0_init_1 (Nat.le_of_ble_eq_true rfl) (Nat.le_of_ble_eq_true rfl) ?_
  refine W.eq (g2 := F0 m 4 ls []) rfl ?_
  refine lv_aload_n hx hb dX0_init_4 rfl (lv_at hl 0 rfl) ?_
  refine va_new (D := G.1) (ci := 3) (fs := [.null, .null, .null, .int 0]) (C := RX2) (T := TX2) (N := 4) hx hb hts hiX2 tyX2 tyX2_ok hown (hts (.classLink RX0 9 RX2) (by decide +kernel)) (hts (.instantiable RX2 4) (by decide +kernel)) (hts (.initialized RX2) (by decide +kernel)) hE.1 hP hD hS hA rfl (fun j hj => by rcases (show j = 0 ∨ j = 1 ∨ j = 2 ∨ j = 3 by omega) with rfl | rfl | rfl | rfl <;> rfl) (Nat.le_of_ble_eq_true rfl) (Nat.le_of_ble_eq_true rfl) dX0_init_5 (fun q1 H hP hD hS => ?_)
  replace hP : va_P G.1 vwCl ([(m0, .inr (1, [.null, .null, .int 0, .long 0])), (q1, .inr (3, [.null, .null, .null, .int 0]))]) H := hP
  replace hD : va_D A ([(m0, .inr (1, [.null, .null, .int 0, .long 0])), (q1, .inr (3, [.null, .null, .null, .int 0]))]) := hD
  refine lv_dup hx hb dX0_init_8 rfl ?_
  have hFc := x_freeN ([(m0, .inr (1, [.null, .null, .int 0, .long 0]))]) [(q1, .inr (3, [.null, .null, .null, .int 0]))] hD hS hA
  refine va_callv (va_runI (As := []) (rest := [.ref q1, .ref m0]) ⟨hx, hb, hml, hown, hts⟩ (ct_X2_init l G H.size q1) (cwI 0 hts gX0_init_X2_init rfl rfl rfl (hts (.initialized RX2) (by decide +kernel)) (hts (.methodLink RX0 11 yX2_init) (by decide +kernel)) (hts (.instanceMethod yX2_init) (by decide +kernel)) rfl (by decide +kernel) ⟨Nat.le_of_ble_eq_true rfl, Nat.le_of_ble_eq_true rfl⟩) (NwP.preS (x_last ([(m0, .inr (1, [.null, .null, .int 0, .long 0]))]) [(q1, .inr (3, [.null, .null, .null, .int 0]))] hP) hE (x_lastD ([(m0, .inr (1, [.null, .null, .int 0, .long 0]))]) [(q1, .inr (3, [.null, .null, .null, .int 0]))] hD)) rfl rfl hl.1 rfl (lv_room (Nat.le_of_ble_eq_true rfl)) dX0_init_9 ⟨Nat.le_of_ble_eq_true rfl, Nat.le_of_ble_eq_true rfl⟩) hS (fun q _ h => hFc q h) hFc (fun u t H1 locs ht hvm hw hB hz1 hk1 hS => ?_)
  obtain ⟨t2, t3, t4, rfl⟩ := hw
  obtain ⟨hP1, hD1⟩ := hB
  rw [ht] at hP1
  obtain ⟨hP, hD⟩ := x_joinN ([(m0, .inr (1, [.null, .null, .int 0, .long 0]))]) [(q1, .inr (3, [.null, .null, .null, .int 0]))] ([(q1, .inr (3, [.ref t2, .ref t3, .ref t4, .int 0])), (t2, .inl (kI G, 16, .inl (fun _ => 0))), (t3, .inl (kJ G, 16, .inr (.inl (fun _ => 0)))), (t4, .inl (kJ G, 16, .inr (.inl (fun _ => 0))))]) hP hD hk1 hFc hP1 hD1
  generalize H1 = H at hP hS ⊢
  replace hP : va_P G.1 vwCl ([(m0, .inr (1, [.null, .null, .int 0, .long 0])), (q1, .inr (3, [.ref t2, .ref t3, .ref t4, .int 0])), (t2, .inl (kI G, 16, .inl (fun _ => 0))), (t3, .inl (kJ G, 16, .inr (.inl (fun _ => 0)))), (t4, .inl (kJ G, 16, .inr (.inl (fun _ => 0))))]) H := hP
  replace hD : va_D A ([(m0, .inr (1, [.null, .null, .int 0, .long 0])), (q1, .inr (3, [.ref t2, .ref t3, .ref t4, .int 0])), (t2, .inl (kI G, 16, .inl (fun _ => 0))), (t3, .inl (kJ G, 16, .inr (.inl (fun _ => 0)))), (t4, .inl (kJ G, 16, .inr (.inl (fun _ => 0))))]) := hD
  refine va_putF (D := G.1) (ci := 1) (v := .ref q1) (ty := .object "MeterSeals$Table") (C := RX0) (T := TX0) (N := 4) hx hb hts hiX0 tyX0 tyX0_ok nmX0 hown hE.1 hP hD hS 0 rfl rfl 0 (by decide) (hts (.fieldLink RX0 12 "MeterSeals$Meter" "table" "LMeterSeals$Table;") (by decide +kernel)) (fun _ h9 => h9) rfl hin rfl (by decide +kernel) rfl rfl (Nat.le_of_ble_eq_true rfl) dX0_init_12 (fun H locs hP hD hS => ?_)
  replace hP : va_P G.1 vwCl ([(m0, .inr (1, [.ref q1, .null, .int 0, .long 0])), (q1, .inr (3, [.ref t2, .ref t3, .ref t4, .int 0])), (t2, .inl (kI G, 16, .inl (fun _ => 0))), (t3, .inl (kJ G, 16, .inr (.inl (fun _ => 0)))), (t4, .inl (kJ G, 16, .inr (.inl (fun _ => 0))))]) H := hP
  replace hD : va_D A ([(m0, .inr (1, [.ref q1, .null, .int 0, .long 0])), (q1, .inr (3, [.ref t2, .ref t3, .ref t4, .int 0])), (t2, .inl (kI G, 16, .inl (fun _ => 0))), (t3, .inl (kJ G, 16, .inr (.inl (fun _ => 0)))), (t4, .inl (kJ G, 16, .inr (.inl (fun _ => 0))))]) := hD
  refine lv_aload_n hx hb dX0_init_15 rfl (lv_at hl 0 rfl) ?_
  refine va_new (D := G.1) (ci := 2) (fs := [.long 0, .null, .null, .null, .null, .null, .int 0]) (C := RX1) (T := TX1) (N := 7) hx hb hts hiX1 tyX1 tyX1_ok hown (hts (.classLink RX0 18 RX1) (by decide +kernel)) (hts (.instantiable RX1 7) (by decide +kernel)) (hts (.initialized RX1) (by decide +kernel)) hE.1 hP hD hS hA rfl (fun j hj => by rcases (show j = 0 ∨ j = 1 ∨ j = 2 ∨ j = 3 ∨ j = 4 ∨ j = 5 ∨ j = 6 by omega) with rfl | rfl | rfl | rfl | rfl | rfl | rfl <;> rfl) (Nat.le_of_ble_eq_true rfl) (Nat.le_of_ble_eq_true rfl) dX0_init_16 (fun q5 H hP hD hS => ?_)
  replace hP : va_P G.1 vwCl ([(m0, .inr (1, [.ref q1, .null, .int 0, .long 0])), (q1, .inr (3, [.ref t2, .ref t3, .ref t4, .int 0])), (t2, .inl (kI G, 16, .inl (fun _ => 0))), (t3, .inl (kJ G, 16, .inr (.inl (fun _ => 0)))), (t4, .inl (kJ G, 16, .inr (.inl (fun _ => 0)))), (q5, .inr (2, [.long 0, .null, .null, .null, .null, .null, .int 0]))]) H := hP
  replace hD : va_D A ([(m0, .inr (1, [.ref q1, .null, .int 0, .long 0])), (q1, .inr (3, [.ref t2, .ref t3, .ref t4, .int 0])), (t2, .inl (kI G, 16, .inl (fun _ => 0))), (t3, .inl (kJ G, 16, .inr (.inl (fun _ => 0)))), (t4, .inl (kJ G, 16, .inr (.inl (fun _ => 0)))), (q5, .inr (2, [.long 0, .null, .null, .null, .null, .null, .int 0]))]) := hD
  refine lv_dup hx hb dX0_init_19 rfl ?_
  refine lv_lload_n hx hb dX0_init_20 rfl (lv_at hl 1 rfl) ?_
  have hFc := x_freeN ([(m0, .inr (1, [.ref q1, .null, .int 0, .long 0])), (q1, .inr (3, [.ref t2, .ref t3, .ref t4, .int 0])), (t2, .inl (kI G, 16, .inl (fun _ => 0))), (t3, .inl (kJ G, 16, .inr (.inl (fun _ => 0)))), (t4, .inl (kJ G, 16, .inr (.inl (fun _ => 0))))]) [(q5, .inr (2, [.long 0, .null, .null, .null, .null, .null, .int 0]))] hD hS hA
  refine va_callv (va_runI (As := [.long key]) (rest := [.ref q5, .ref m0]) ⟨hx, hb, hml, hown, hts⟩ (ct_X1_init l G H.size q5 key) (cwI 1 hts gX0_init_X1_init rfl rfl rfl (hts (.initialized RX1) (by decide +kernel)) (hts (.methodLink RX0 20 yX1_init) (by decide +kernel)) (hts (.instanceMethod yX1_init) (by decide +kernel)) rfl (by decide +kernel) ⟨Nat.le_of_ble_eq_true rfl, Nat.le_of_ble_eq_true rfl⟩) (NwP.preS (x_last ([(m0, .inr (1, [.ref q1, .null, .int 0, .long 0])), (q1, .inr (3, [.ref t2, .ref t3, .ref t4, .int 0])), (t2, .inl (kI G, 16, .inl (fun _ => 0))), (t3, .inl (kJ G, 16, .inr (.inl (fun _ => 0)))), (t4, .inl (kJ G, 16, .inr (.inl (fun _ => 0))))]) [(q5, .inr (2, [.long 0, .null, .null, .null, .null, .null, .int 0]))] hP) hE (x_lastD ([(m0, .inr (1, [.ref q1, .null, .int 0, .long 0])), (q1, .inr (3, [.ref t2, .ref t3, .ref t4, .int 0])), (t2, .inl (kI G, 16, .inl (fun _ => 0))), (t3, .inl (kJ G, 16, .inr (.inl (fun _ => 0)))), (t4, .inl (kJ G, 16, .inr (.inl (fun _ => 0))))]) [(q5, .inr (2, [.long 0, .null, .null, .null, .null, .null, .int 0]))] hD)) rfl rfl hl.1 rfl (lv_room (Nat.le_of_ble_eq_true rfl)) dX0_init_21 ⟨Nat.le_of_ble_eq_true rfl, Nat.le_of_ble_eq_true rfl⟩) hS (fun q _ h => hFc q h) hFc (fun u t H1 locs ht hvm hw hB hz1 hk1 hS => ?_)
  obtain ⟨h6, h7, h8, h9, h10, rfl⟩ := hw
  obtain ⟨hP1, hD1⟩ := hB
  rw [ht] at hP1
  obtain ⟨hP, hD⟩ := x_joinN ([(m0, .inr (1, [.ref q1, .null, .int 0, .long 0])), (q1, .inr (3, [.ref t2, .ref t3, .ref t4, .int 0])), (t2, .inl (kI G, 16, .inl (fun _ => 0))), (t3, .inl (kJ G, 16, .inr (.inl (fun _ => 0)))), (t4, .inl (kJ G, 16, .inr (.inl (fun _ => 0))))]) [(q5, .inr (2, [.long 0, .null, .null, .null, .null, .null, .int 0]))] ([(q5, .inr (2, [.long key, .ref h6, .ref h7, .ref h8, .ref h9, .ref h10, .int 0])), (h6, .inl (kJ G, 200, .inr (.inl (fun _ => 0)))), (h7, .inl (kJ G, 200, .inr (.inl (fun _ => 0)))), (h8, .inl (kI G, 200, .inl (fun _ => 0))), (h9, .inl (kJ G, 200, .inr (.inl (fun _ => 0)))), (h10, .inl (kZ G, 200, .inl (fun _ => 0)))]) hP hD hk1 hFc hP1 hD1
  generalize H1 = H at hP hS ⊢
  replace hP : va_P G.1 vwCl ([(m0, .inr (1, [.ref q1, .null, .int 0, .long 0])), (q1, .inr (3, [.ref t2, .ref t3, .ref t4, .int 0])), (t2, .inl (kI G, 16, .inl (fun _ => 0))), (t3, .inl (kJ G, 16, .inr (.inl (fun _ => 0)))), (t4, .inl (kJ G, 16, .inr (.inl (fun _ => 0)))), (q5, .inr (2, [.long key, .ref h6, .ref h7, .ref h8, .ref h9, .ref h10, .int 0])), (h6, .inl (kJ G, 200, .inr (.inl (fun _ => 0)))), (h7, .inl (kJ G, 200, .inr (.inl (fun _ => 0)))), (h8, .inl (kI G, 200, .inl (fun _ => 0))), (h9, .inl (kJ G, 200, .inr (.inl (fun _ => 0)))), (h10, .inl (kZ G, 200, .inl (fun _ => 0)))]) H := hP
  replace hD : va_D A ([(m0, .inr (1, [.ref q1, .null, .int 0, .long 0])), (q1, .inr (3, [.ref t2, .ref t3, .ref t4, .int 0])), (t2, .inl (kI G, 16, .inl (fun _ => 0))), (t3, .inl (kJ G, 16, .inr (.inl (fun _ => 0)))), (t4, .inl (kJ G, 16, .inr (.inl (fun _ => 0)))), (q5, .inr (2, [.long key, .ref h6, .ref h7, .ref h8, .ref h9, .ref h10, .int 0])), (h6, .inl (kJ G, 200, .inr (.inl (fun _ => 0)))), (h7, .inl (kJ G, 200, .inr (.inl (fun _ => 0)))), (h8, .inl (kI G, 200, .inl (fun _ => 0))), (h9, .inl (kJ G, 200, .inr (.inl (fun _ => 0)))), (h10, .inl (kZ G, 200, .inl (fun _ => 0)))]) := hD
  refine va_putF (D := G.1) (ci := 1) (v := .ref q5) (ty := .object "MeterSeals$Rows") (C := RX0) (T := TX0) (N := 4) hx hb hts hiX0 tyX0 tyX0_ok nmX0 hown hE.1 hP hD hS 0 rfl rfl 1 (by decide) (hts (.fieldLink RX0 23 "MeterSeals$Meter" "rows" "LMeterSeals$Rows;") (by decide +kernel)) (fun _ h9 => h9) rfl hin rfl (by decide +kernel) rfl rfl (Nat.le_of_ble_eq_true rfl) dX0_init_24 (fun H locs hP hD hS => ?_)
  replace hP : va_P G.1 vwCl ([(m0, .inr (1, [.ref q1, .ref q5, .int 0, .long 0])), (q1, .inr (3, [.ref t2, .ref t3, .ref t4, .int 0])), (t2, .inl (kI G, 16, .inl (fun _ => 0))), (t3, .inl (kJ G, 16, .inr (.inl (fun _ => 0)))), (t4, .inl (kJ G, 16, .inr (.inl (fun _ => 0)))), (q5, .inr (2, [.long key, .ref h6, .ref h7, .ref h8, .ref h9, .ref h10, .int 0])), (h6, .inl (kJ G, 200, .inr (.inl (fun _ => 0)))), (h7, .inl (kJ G, 200, .inr (.inl (fun _ => 0)))), (h8, .inl (kI G, 200, .inl (fun _ => 0))), (h9, .inl (kJ G, 200, .inr (.inl (fun _ => 0)))), (h10, .inl (kZ G, 200, .inl (fun _ => 0)))]) H := hP
  replace hD : va_D A ([(m0, .inr (1, [.ref q1, .ref q5, .int 0, .long 0])), (q1, .inr (3, [.ref t2, .ref t3, .ref t4, .int 0])), (t2, .inl (kI G, 16, .inl (fun _ => 0))), (t3, .inl (kJ G, 16, .inr (.inl (fun _ => 0)))), (t4, .inl (kJ G, 16, .inr (.inl (fun _ => 0)))), (q5, .inr (2, [.long key, .ref h6, .ref h7, .ref h8, .ref h9, .ref h10, .int 0])), (h6, .inl (kJ G, 200, .inr (.inl (fun _ => 0)))), (h7, .inl (kJ G, 200, .inr (.inl (fun _ => 0)))), (h8, .inl (kI G, 200, .inl (fun _ => 0))), (h9, .inl (kJ G, 200, .inr (.inl (fun _ => 0)))), (h10, .inl (kZ G, 200, .inl (fun _ => 0)))]) := hD
  refine lv_aload_n hx hb dX0_init_27 rfl (lv_at hl 0 rfl) ?_
  refine lv_iconst (v := 1) hx hb dX0_init_28 (by decide) ?_
  refine va_put (D := G.1) (ci := 1) (v := .int 1) (ty := .boolean) (C := RX0) (T := TX0) (N := 4) hx hb hts hiX0 tyX0 tyX0_ok nmX0 hown hE.1 hP hD hS 0 rfl rfl 2 (by decide) (hts (.fieldLink RX0 27 "MeterSeals$Meter" "sealed" "Z") (by decide +kernel)) (fun _ h9 => h9) rfl (by decide +kernel) (zb (Or.inr rfl)) (zfit (Or.inr rfl)) (Nat.le_of_ble_eq_true rfl) dX0_init_29 (fun H locs hP hD hS => ?_)
  replace hP : va_P G.1 vwCl ([(m0, .inr (1, [.ref q1, .ref q5, .int 1, .long 0])), (q1, .inr (3, [.ref t2, .ref t3, .ref t4, .int 0])), (t2, .inl (kI G, 16, .inl (fun _ => 0))), (t3, .inl (kJ G, 16, .inr (.inl (fun _ => 0)))), (t4, .inl (kJ G, 16, .inr (.inl (fun _ => 0)))), (q5, .inr (2, [.long key, .ref h6, .ref h7, .ref h8, .ref h9, .ref h10, .int 0])), (h6, .inl (kJ G, 200, .inr (.inl (fun _ => 0)))), (h7, .inl (kJ G, 200, .inr (.inl (fun _ => 0)))), (h8, .inl (kI G, 200, .inl (fun _ => 0))), (h9, .inl (kJ G, 200, .inr (.inl (fun _ => 0)))), (h10, .inl (kZ G, 200, .inl (fun _ => 0)))]) H := hP
  replace hD : va_D A ([(m0, .inr (1, [.ref q1, .ref q5, .int 1, .long 0])), (q1, .inr (3, [.ref t2, .ref t3, .ref t4, .int 0])), (t2, .inl (kI G, 16, .inl (fun _ => 0))), (t3, .inl (kJ G, 16, .inr (.inl (fun _ => 0)))), (t4, .inl (kJ G, 16, .inr (.inl (fun _ => 0)))), (q5, .inr (2, [.long key, .ref h6, .ref h7, .ref h8, .ref h9, .ref h10, .int 0])), (h6, .inl (kJ G, 200, .inr (.inl (fun _ => 0)))), (h7, .inl (kJ G, 200, .inr (.inl (fun _ => 0)))), (h8, .inl (kI G, 200, .inl (fun _ => 0))), (h9, .inl (kJ G, 200, .inr (.inl (fun _ => 0)))), (h10, .inl (kZ G, 200, .inl (fun _ => 0)))]) := hD
  refine lv_aload_n hx hb dX0_init_32 rfl (lv_at hl 0 rfl) ?_
  refine lv_lconst (v := 0) hx hb dX0_init_33 (by decide) ?_
  refine va_put (D := G.1) (ci := 1) (v := .long 0) (ty := .long) (C := RX0) (T := TX0) (N := 4) hx hb hts hiX0 tyX0 tyX0_ok nmX0 hown hE.1 hP hD hS 0 rfl rfl 3 (by decide) (hts (.fieldLink RX0 31 "MeterSeals$Meter" "lastSecond" "J") (by decide +kernel)) (fun _ h9 => h9) rfl (by decide +kernel) rfl rfl (Nat.le_of_ble_eq_true rfl) dX0_init_34 (fun H locs hP hD hS => ?_)
  replace hP : va_P G.1 vwCl ([(m0, .inr (1, [.ref q1, .ref q5, .int 1, .long 0])), (q1, .inr (3, [.ref t2, .ref t3, .ref t4, .int 0])), (t2, .inl (kI G, 16, .inl (fun _ => 0))), (t3, .inl (kJ G, 16, .inr (.inl (fun _ => 0)))), (t4, .inl (kJ G, 16, .inr (.inl (fun _ => 0)))), (q5, .inr (2, [.long key, .ref h6, .ref h7, .ref h8, .ref h9, .ref h10, .int 0])), (h6, .inl (kJ G, 200, .inr (.inl (fun _ => 0)))), (h7, .inl (kJ G, 200, .inr (.inl (fun _ => 0)))), (h8, .inl (kI G, 200, .inl (fun _ => 0))), (h9, .inl (kJ G, 200, .inr (.inl (fun _ => 0)))), (h10, .inl (kZ G, 200, .inl (fun _ => 0)))]) H := hP
  replace hD : va_D A ([(m0, .inr (1, [.ref q1, .ref q5, .int 1, .long 0])), (q1, .inr (3, [.ref t2, .ref t3, .ref t4, .int 0])), (t2, .inl (kI G, 16, .inl (fun _ => 0))), (t3, .inl (kJ G, 16, .inr (.inl (fun _ => 0)))), (t4, .inl (kJ G, 16, .inr (.inl (fun _ => 0)))), (q5, .inr (2, [.long key, .ref h6, .ref h7, .ref h8, .ref h9, .ref h10, .int 0])), (h6, .inl (kJ G, 200, .inr (.inl (fun _ => 0)))), (h7, .inl (kJ G, 200, .inr (.inl (fun _ => 0)))), (h8, .inl (kI G, 200, .inl (fun _ => 0))), (h9, .inl (kJ G, 200, .inr (.inl (fun _ => 0)))), (h10, .inl (kZ G, 200, .inl (fun _ => 0)))]) := hD
  exact W.vret hx hb hr (fun t ht hW => ⟨⟨[(m0, .inr (1, [.ref q1, .ref q5, .int 1, .long 0])), (q1, .inr (3, [.ref t2, .ref t3, .ref t4, .int 0])), (t2, .inl (kI G, 16, .inl (fun _ => 0))), (t3, .inl (kJ G, 16, .inr (.inl (fun _ => 0)))), (t4, .inl (kJ G, 16, .inr (.inl (fun _ => 0)))), (q5, .inr (2, [.long key, .ref h6, .ref h7, .ref h8, .ref h9, .ref h10, .int 0])), (h6, .inl (kJ G, 200, .inr (.inl (fun _ => 0)))), (h7, .inl (kJ G, 200, .inr (.inl (fun _ => 0)))), (h8, .inl (kI G, 200, .inl (fun _ => 0))), (h9, .inl (kJ G, 200, .inr (.inl (fun _ => 0)))), (h10, .inl (kZ G, 200, .inl (fun _ => 0)))], rfl, ⟨_, _, _, _, _, _, _, _, _, _, rfl⟩, by show va_P _ _ _ t.heap; rw [ht]; exact hP, hD⟩, hS.F ht⟩) hS.2.2 dX0_init_37

set_option maxHeartbeats 4000000 in
set_option maxRecDepth 100000 in
/-- MeterSeals() -/
theorem ct_X3_init (l : Launch) (G : Gx) (sz : Nat) (x0 : Nat) : Met l yX3_init wsX3_init ({ frames := 1, cells := 1, slots := 8, locals := 12 }) (NwP G sz ([(x0, .inr (4, [.null, .int 0]))]) [.ref x0]) (va_Qv (fun (u : va_W) => ∃ x1 : Nat, u = [(x0, .inr (4, [.ref x1, .int 0])), (x1, .inl (kM G, 8, .inr (.inr (.inr (.inr (fun _ => none))))))]) (fun u t => va_P G.1 vwCl u t.heap ∧ va_D (va_A ([(x0, .inr (4, [.null, .int 0]))]) sz) u) (va_A ([(x0, .inr (4, [.null, .int 0]))]) sz)) 1 8 (va_A ([(x0, .inr (4, [.null, .int 0]))]) sz) := by
  refine Met.ofW (cc := cX3_init) (maxL := 1) (ret := none) (by decide) rfl ?_
  intro p e s m args below meth c s₁ B hml hv
  obtain ⟨rfl, hsz, hP, hE, hD0⟩ := hv
  have hx := B.exec
  have hb := B.bytes
  have hr := B.returns
  have hts := atoms_spec (ws := wsX3_init) B.pre
  have hown : s.vm.findClass RX3 = some m.cls := findClass_of_methodNamed B.named
  have hlocks := B.notSynchronized
  have hin : meth.name = "<init>" := (name_of_methodNamed B.named B.method).1
  subst hsz
  have hD := hD0.self (sz := s.heap.size)
  generalize hAe : va_A ([(x0, .inr (4, [.null, .int 0]))]) s.heap.size = A at hD ⊢
  have hA : ∀ q : Nat, s.heap.size ≤ q → A q := fun q h => by rw [← hAe]; exact Or.inr h
  have hS : va_S A s.heap s.heap [] := va_S.rf
  have hiX3 : ∀ w ∈ wsX30, w ∈ wsX3_init := by decide +kernel
  have hl := lv_entry ([.ref x0]) (n := 1) (Nat.le_of_ble_eq_true rfl)
  rw [lg_entry_eq]
  generalize (lg_sl ([.ref x0]) ++ List.replicate (1 - (lg_sl ([.ref x0])).length) Slot.unset).toArray = ls at hl ⊢
  replace hl : lv_has ls 1 [(0, .ref x0)] := hl
  refine lv_aload_n hx hb dX3_init_0 rfl (lv_at hl 0 rfl) ?_
  refine W.objInit hx hb hown (hts (.methodLink RX3 1 objectInit) (by decide +kernel)) (hts (.instanceMethod objectInit) (by decide +kernel)) (hts (.code objectInit ⟨#[0xb1]⟩ 1 none) (by decide +kernel)) rfl (by rw [hml]; exact hl.1) rfl dX3_init_1 (Nat.le_of_ble_eq_true rfl) (Nat.le_of_ble_eq_true rfl) ?_
  refine W.eq (g2 := F0 m 4 ls []) rfl ?_
  refine lv_aload_n hx hb dX3_init_4 rfl (lv_at hl 0 rfl) ?_
  refine lv_bipush (v := 8) hx hb dX3_init_5 (by decide) ?_
  refine x_newM (N := 8) hx hb hown (hts (.classLink RX3 9 RX0) (by decide +kernel)) hE hP hD hS hA (by decide) (by decide) (by decide) (Nat.le_of_ble_eq_true rfl) (Nat.le_of_ble_eq_true rfl) dX3_init_7 (fun q1 H hP hD hS => ?_)
  replace hP : va_P G.1 vwCl ([(x0, .inr (4, [.null, .int 0])), (q1, .inl (kM G, 8, .inr (.inr (.inr (.inr (fun _ => none))))))]) H := hP
  replace hD : va_D A ([(x0, .inr (4, [.null, .int 0])), (q1, .inl (kM G, 8, .inr (.inr (.inr (.inr (fun _ => none))))))]) := hD
  refine va_putF (D := G.1) (ci := 4) (v := .ref q1) (ty := .array (.object "MeterSeals$Meter")) (C := RX3) (T := TX3) (N := 2) hx hb hts hiX3 tyX3 tyX3_ok nmX3 hown hE.1 hP hD hS 0 rfl rfl 0 (by decide) (hts (.fieldLink RX3 11 "MeterSeals" "meters" "[LMeterSeals$Meter;") (by decide +kernel)) (fun _ h9 => h9) rfl hin rfl (by decide +kernel) rfl rfl (Nat.le_of_ble_eq_true rfl) dX3_init_10 (fun H locs hP hD hS => ?_)
  replace hP : va_P G.1 vwCl ([(x0, .inr (4, [.ref q1, .int 0])), (q1, .inl (kM G, 8, .inr (.inr (.inr (.inr (fun _ => none))))))]) H := hP
  replace hD : va_D A ([(x0, .inr (4, [.ref q1, .int 0])), (q1, .inl (kM G, 8, .inr (.inr (.inr (.inr (fun _ => none))))))]) := hD
  refine lv_aload_n hx hb dX3_init_13 rfl (lv_at hl 0 rfl) ?_
  refine lv_iconst (v := 0) hx hb dX3_init_14 (by decide) ?_
  refine va_put (D := G.1) (ci := 4) (v := .int 0) (ty := .int) (C := RX3) (T := TX3) (N := 2) hx hb hts hiX3 tyX3 tyX3_ok nmX3 hown hE.1 hP hD hS 0 rfl rfl 1 (by decide) (hts (.fieldLink RX3 15 "MeterSeals" "meterCount" "I") (by decide +kernel)) (fun _ h9 => h9) rfl (by decide +kernel) rfl rfl (Nat.le_of_ble_eq_true rfl) dX3_init_15 (fun H locs hP hD hS => ?_)
  replace hP : va_P G.1 vwCl ([(x0, .inr (4, [.ref q1, .int 0])), (q1, .inl (kM G, 8, .inr (.inr (.inr (.inr (fun _ => none))))))]) H := hP
  replace hD : va_D A ([(x0, .inr (4, [.ref q1, .int 0])), (q1, .inl (kM G, 8, .inr (.inr (.inr (.inr (fun _ => none))))))]) := hD
  exact W.vret hx hb hr (fun t ht hW => ⟨⟨[(x0, .inr (4, [.ref q1, .int 0])), (q1, .inl (kM G, 8, .inr (.inr (.inr (.inr (fun _ => none))))))], rfl, ⟨_, rfl⟩, by show va_P _ _ _ t.heap; rw [ht]; exact hP, hD⟩, hS.F ht⟩) hS.2.2 dX3_init_18
