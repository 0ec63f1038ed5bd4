set_option maxHeartbeats 4000000 in
set_option maxRecDepth 100000 in
/-- meter -/
theorem ct_X3_meter (l : Launch) (G : Gx) (sz : Nat) (x0 x1 : Nat) (xn : Nat) (f : Nat → Option Nat) (BB : va_W) (key : Int64) (hxn : xn ≤ 8) : Met l yX3_meter wsX3_meter ({ frames := 3, cells := 11, slots := 1063, locals := 56 }) (NwP G sz (wX G x0 x1 (nI xn) f ++ BB) [.ref x0, .long key]) (va_Qi (fun r (u : va_W) => (xn = 8 ∧ r = -2 ∧ u = wX G x0 x1 (nI xn) f ++ BB) ∨ (xn < 8 ∧ r = nI xn ∧ ∃ m0 t0 t1 t2 t3 h0 h1 h2 h3 h4 h5 : Nat, u = (wX G x0 x1 (nI (xn + 1)) (va_up f xn (some m0)) ++ BB) ++ wM G m0 t0 t1 t2 t3 h0 h1 h2 h3 h4 h5 1 0 0 (fun _ => 0) (fun _ => 0) (fun _ => 0) key 0 (fun _ => 0) (fun _ => 0) (fun _ => 0) (fun _ => 0) (fun _ => 0))) (fun u t => va_P G.1 vwCl u t.heap ∧ va_D (va_A (wX G x0 x1 (nI xn) f ++ BB) sz) u) (va_A (wX G x0 x1 (nI xn) f ++ BB) sz)) 11 1063 (va_A (wX G x0 x1 (nI xn) f ++ BB) sz) := by
  refine Met.ofW (cc := cX3_meter) (maxL := 4) (ret := (some .int)) (by decide) rfl ?_
  intro p e s m args below meth c s₁ B hml hv
  obtain ⟨rfl, hsz, hP, hE, hD0⟩ := hv
  have hx := B.exec
  have hb := B.bytes
  have hr := B.returns
  have hts := atoms_spec (ws := wsX3_meter) B.pre
  have hown : s.vm.findClass RX3 = some m.cls := findClass_of_methodNamed B.named
  have hlocks := B.notSynchronized
  have hin : meth.name = "meter" := (name_of_methodNamed B.named B.method).1
  subst hsz
  have hD := hD0.self (sz := s.heap.size)
  generalize hAe : va_A (wX G x0 x1 (nI xn) f ++ BB) s.heap.size = A at hD ⊢
  have hA : ∀ q : Nat, s.heap.size ≤ q → A q := fun q h => by rw [← hAe]; exact Or.inr h
  have hS : va_S A s.heap s.heap [] := va_S.rf
  have hiX0 : ∀ w ∈ wsX00, w ∈ wsX3_meter := by decide +kernel
  have hiX3 : ∀ w ∈ wsX30, w ∈ wsX3_meter := by decide +kernel
  have hl := lv_entry ([.ref x0, .long key]) (n := 4) (Nat.le_of_ble_eq_true rfl)
  rw [lg_entry_eq]
  generalize (lg_sl ([.ref x0, .long key]) ++ List.replicate (4 - (lg_sl ([.ref x0, .long key])).length) Slot.unset).toArray = ls at hl ⊢
  replace hl : lv_has ls 4 [(0, .ref x0), (1, .long key)] := hl
  refine lv_aload_n hx hb dX3_meter_0 rfl (lv_at hl 0 rfl) ?_
  refine va_get (D := G.1) (ci := 4) (v := .int (nI xn)) (C := RX3) (T := TX3) (N := 2) hx hb hts hiX3 hown hE.1 hP 0 rfl rfl 1 (by decide) (hts (.fieldLink RX3 15 "MeterSeals" "meterCount" "I") (by decide +kernel)) (fun _ h9 => h9) rfl dX3_meter_1 ?_
  refine lv_bipush (v := 8) hx hb dX3_meter_4 (by decide) ?_
  refine lv_icmp_lt (tgt := 12) hx hb dX3_meter_6 (by decide) (fun c6 => ?_) (fun c6 => ?_)
  · have hlt : xn < 8 := lt8 hxn c6
    refine lv_aload_n hx hb dX3_meter_12 rfl (lv_at hl 0 rfl) ?_
    refine va_get (D := G.1) (ci := 4) (v := .int (nI xn)) (C := RX3) (T := TX3) (N := 2) hx hb hts hiX3 hown hE.1 hP 0 rfl rfl 1 (by decide) (hts (.fieldLink RX3 15 "MeterSeals" "meterCount" "I") (by decide +kernel)) (fun _ h9 => h9) rfl dX3_meter_13 ?_
    refine lv_istore_n (lv' := [(3, .int (nI xn)), (0, .ref x0), (1, .long key)]) hx hb dX3_meter_16 rfl hl (by decide) rfl (fun ls hl => ?_)
    refine lv_aload_n hx hb dX3_meter_17 rfl (lv_at hl 1 rfl) ?_
    refine va_get (D := G.1) (ci := 4) (v := .ref x1) (C := RX3) (T := TX3) (N := 2) hx hb hts hiX3 hown hE.1 hP 0 rfl rfl 0 (by decide) (hts (.fieldLink RX3 11 "MeterSeals" "meters" "[LMeterSeals$Meter;") (by decide +kernel)) (fun _ h9 => h9) rfl dX3_meter_18 ?_
    refine lv_iload_n hx hb dX3_meter_21 rfl (lv_at hl 0 rfl) ?_
    refine va_new (D := G.1) (ci := 1) (fs := [.null, .null, .int 0, .long 0]) (C := RX0) (T := TX0) (N := 4) hx hb hts hiX0 tyX0 tyX0_ok hown (hts (.classLink RX3 9 RX0) (by decide +kernel)) (hts (.instantiable RX0 4) (by decide +kernel)) (hts (.initialized RX0) (by decide +kernel)) hE.1 hP hD hS hA rfl (fun j hj => by rcases (show j = 0 ∨ j = 1 ∨ j = 2 ∨ j = 3 by omega) with rfl | rfl | rfl | rfl <;> rfl) (Nat.le_of_ble_eq_true rfl) (Nat.le_of_ble_eq_true rfl) dX3_meter_22 (fun q1 H hP hD hS => ?_)
    replace hP : va_P G.1 vwCl ((wX G x0 x1 (nI xn) f ++ BB) ++ [(q1, .inr (1, [.null, .null, .int 0, .long 0]))]) H := hP
    replace hD : va_D A ((wX G x0 x1 (nI xn) f ++ BB) ++ [(q1, .inr (1, [.null, .null, .int 0, .long 0]))]) := hD
    refine lv_dup hx hb dX3_meter_25 rfl ?_
    refine lv_lload_n hx hb dX3_meter_26 rfl (lv_at hl 2 rfl) ?_
    have hFc := x_freeN (wX G x0 x1 (nI xn) f ++ BB) [(q1, .inr (1, [.null, .null, .int 0, .long 0]))] hD hS hA
    refine va_callv (va_runI (As := [.long key]) (rest := [.ref q1, .int (nI xn), .ref x1]) ⟨hx, hb, hml, hown, hts⟩ (ct_X0_init l G H.size q1 key) (cwI 1 hts gX3_meter_X0_init rfl rfl rfl (hts (.initialized RX0) (by decide +kernel)) (hts (.methodLink RX3 19 yX0_init) (by decide +kernel)) (hts (.instanceMethod yX0_init) (by decide +kernel)) rfl (by decide +kernel) ⟨Nat.le_of_ble_eq_true rfl, Nat.le_of_ble_eq_true rfl⟩) (NwP.preS (x_last (wX G x0 x1 (nI xn) f ++ BB) [(q1, .inr (1, [.null, .null, .int 0, .long 0]))] hP) hE (x_lastD (wX G x0 x1 (nI xn) f ++ BB) [(q1, .inr (1, [.null, .null, .int 0, .long 0]))] hD)) rfl rfl hl.1 rfl (lv_room (Nat.le_of_ble_eq_true rfl)) dX3_meter_27 ⟨Nat.le_of_ble_eq_true rfl, Nat.le_of_ble_eq_true rfl⟩) hS (fun q _ h => hFc q h) hFc (fun u t H1 locs ht hvm hw hB hz1 hk1 hS => ?_)
    obtain ⟨a2, a3, a4, a5, a6, a7, a8, a9, a10, a11, rfl⟩ := hw
    obtain ⟨hP1, hD1⟩ := hB
    rw [ht] at hP1
    obtain ⟨hP, hD⟩ := x_joinN (wX G x0 x1 (nI xn) f ++ BB) [(q1, .inr (1, [.null, .null, .int 0, .long 0]))] ([(q1, .inr (1, [.ref a2, .ref a6, .int 1, .long 0])), (a2, .inr (3, [.ref a3, .ref a4, .ref a5, .int 0])), (a3, .inl (kI G, 16, .inl (fun _ => 0))), (a4, .inl (kJ G, 16, .inr (.inl (fun _ => 0)))), (a5, .inl (kJ G, 16, .inr (.inl (fun _ => 0)))), (a6, .inr (2, [.long key, .ref a7, .ref a8, .ref a9, .ref a10, .ref a11, .int 0])), (a7, .inl (kJ G, 200, .inr (.inl (fun _ => 0)))), (a8, .inl (kJ G, 200, .inr (.inl (fun _ => 0)))), (a9, .inl (kI G, 200, .inl (fun _ => 0))), (a10, .inl (kJ G, 200, .inr (.inl (fun _ => 0)))), (a11, .inl (kZ G, 200, .inl (fun _ => 0)))]) hP hD hk1 hFc hP1 hD1
    generalize H1 = H at hP hS ⊢
    replace hP : va_P G.1 vwCl ((wX G x0 x1 (nI xn) f ++ BB) ++ wM G q1 a2 a3 a4 a5 a6 a7 a8 a9 a10 a11 1 0 0 (fun _ => 0) (fun _ => 0) (fun _ => 0) key 0 (fun _ => 0) (fun _ => 0) (fun _ => 0) (fun _ => 0) (fun _ => 0)) H := hP
    replace hD : va_D A ((wX G x0 x1 (nI xn) f ++ BB) ++ wM G q1 a2 a3 a4 a5 a6 a7 a8 a9 a10 a11 1 0 0 (fun _ => 0) (fun _ => 0) (fun _ => 0) key 0 (fun _ => 0) (fun _ => 0) (fun _ => 0) (fun _ => 0) (fun _ => 0)) := hD
    refine va_astq hx hb hE.1 hP hD hS 1 3 (wX G x0 x1 (nI xn) f ++ BB).length 1 rfl rfl (x_atl _ _ rfl rfl) rfl (vp_in_nI hlt (by decide)) dX3_meter_30 (fun H locs hP hD hS => ?_)
    rw [nI_clamp (show xn < 2 ^ 31 by omega)] at hP hD
    replace hP : va_P G.1 vwCl ((wX G x0 x1 (nI xn) (va_up f xn (some q1)) ++ BB) ++ wM G q1 a2 a3 a4 a5 a6 a7 a8 a9 a10 a11 1 0 0 (fun _ => 0) (fun _ => 0) (fun _ => 0) key 0 (fun _ => 0) (fun _ => 0) (fun _ => 0) (fun _ => 0) (fun _ => 0)) H := hP
    replace hD : va_D A ((wX G x0 x1 (nI xn) (va_up f xn (some q1)) ++ BB) ++ wM G q1 a2 a3 a4 a5 a6 a7 a8 a9 a10 a11 1 0 0 (fun _ => 0) (fun _ => 0) (fun _ => 0) key 0 (fun _ => 0) (fun _ => 0) (fun _ => 0) (fun _ => 0) (fun _ => 0)) := hD
    refine lv_aload_n hx hb dX3_meter_31 rfl (lv_at hl 1 rfl) ?_
    refine lv_dup hx hb dX3_meter_32 rfl ?_
    refine va_get (D := G.1) (ci := 4) (v := .int (nI xn)) (C := RX3) (T := TX3) (N := 2) hx hb hts hiX3 hown hE.1 hP 0 rfl rfl 1 (by decide) (hts (.fieldLink RX3 15 "MeterSeals" "meterCount" "I") (by decide +kernel)) (fun _ h9 => h9) rfl dX3_meter_33 ?_
    refine lv_iconst (v := 1) hx hb dX3_meter_36 (by decide) ?_
    refine lv_iadd hx hb dX3_meter_37 ?_
    rw [nI_1]
    refine va_put (D := G.1) (ci := 4) (v := .int (nI (xn + 1))) (ty := .int) (C := RX3) (T := TX3) (N := 2) hx hb hts hiX3 tyX3 tyX3_ok nmX3 hown hE.1 hP hD hS 0 rfl rfl 1 (by decide) (hts (.fieldLink RX3 15 "MeterSeals" "meterCount" "I") (by decide +kernel)) (fun _ h9 => h9) rfl (by decide +kernel) rfl rfl (Nat.le_of_ble_eq_true rfl) dX3_meter_38 (fun H locs hP hD hS => ?_)
    replace hP : va_P G.1 vwCl ((wX G x0 x1 (nI (xn + 1)) (va_up f xn (some q1)) ++ BB) ++ wM G q1 a2 a3 a4 a5 a6 a7 a8 a9 a10 a11 1 0 0 (fun _ => 0) (fun _ => 0) (fun _ => 0) key 0 (fun _ => 0) (fun _ => 0) (fun _ => 0) (fun _ => 0) (fun _ => 0)) H := hP
    replace hD : va_D A ((wX G x0 x1 (nI (xn + 1)) (va_up f xn (some q1)) ++ BB) ++ wM G q1 a2 a3 a4 a5 a6 a7 a8 a9 a10 a11 1 0 0 (fun _ => 0) (fun _ => 0) (fun _ => 0) key 0 (fun _ => 0) (fun _ => 0) (fun _ => 0) (fun _ => 0) (fun _ => 0)) := hD
    refine lv_iload_n hx hb dX3_meter_41 rfl (lv_at hl 0 rfl) ?_
    refine W.widen (k := 11) (n := 1063) (Nat.le_of_ble_eq_true rfl) (Nat.le_of_ble_eq_true rfl) ?_
    exact W.iret (v := (nI xn)) hx hb hr (fun t ht hW => ⟨⟨(nI xn), (wX G x0 x1 (nI (xn + 1)) (va_up f xn (some q1)) ++ BB) ++ wM G q1 a2 a3 a4 a5 a6 a7 a8 a9 a10 a11 1 0 0 (fun _ => 0) (fun _ => 0) (fun _ => 0) key 0 (fun _ => 0) (fun _ => 0) (fun _ => 0) (fun _ => 0) (fun _ => 0), rfl, Or.inr ⟨hlt, rfl, _, _, _, _, _, _, _, _, _, _, _, rfl⟩, by show va_P _ _ _ t.heap; rw [ht]; exact hP, hD⟩, hS.F ht⟩) hS.2.2 dX3_meter_42
  refine lv_bipush (v := (-2)) hx hb dX3_meter_9 (by decide) ?_
  refine W.widen (k := 11) (n := 1063) (Nat.le_of_ble_eq_true rfl) (Nat.le_of_ble_eq_true rfl) ?_
  exact W.iret (v := (-2)) hx hb hr (fun t ht hW => ⟨⟨(-2), wX G x0 x1 (nI xn) f ++ BB, rfl, Or.inl ⟨ge8 hxn c6, rfl, rfl⟩, by show va_P _ _ _ t.heap; rw [ht]; exact hP, hD⟩, hS.F ht⟩) hS.2.2 dX3_meter_11
