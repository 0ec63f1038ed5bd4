set_option maxHeartbeats 4000000 in
set_option maxRecDepth 100000 in
/-- find -/
theorem ct_X3_find (l : Launch) (G : Gx) (x0 x1 : Nat) (xn : Nat) (f : Nat → Option Nat) (mi : Int32) (hxn : xn ≤ 8) : Met l yX3_find wsX3_find ({ frames := 0, cells := 0, slots := 0, locals := 0 }) (RdP G (wX G x0 x1 (nI xn) f) [.ref x0, .int mi]) (va_Sq (fun r => r = f_find xn f mi)) 0 0 (fun _ => False) := by
  refine Met.ofW (cc := cX3_find) (maxL := 2) (ret := (some (.object "MeterSeals$Meter"))) (by decide) rfl ?_
  intro p e s m args below meth c s₁ B hml hv
  obtain ⟨rfl, hP, hE⟩ := hv
  have hx := B.exec
  have hb := B.bytes
  have hr := B.returns
  have hts := atoms_spec (ws := wsX3_find) B.pre
  have hown : s.vm.findClass RX3 = some m.cls := findClass_of_methodNamed B.named
  have hlocks := B.notSynchronized
  have hiX3 : ∀ w ∈ wsX30, w ∈ wsX3_find := by decide +kernel
  have hl := lv_entry ([.ref x0, .int mi]) (n := 2) (Nat.le_of_ble_eq_true rfl)
  rw [lg_entry_eq]
  generalize (lg_sl ([.ref x0, .int mi]) ++ List.replicate (2 - (lg_sl ([.ref x0, .int mi])).length) Slot.unset).toArray = ls at hl ⊢
  replace hl : lv_has ls 2 [(0, .ref x0), (1, .int mi)] := hl
  refine lv_iload_n hx hb dX3_find_0 rfl (lv_at hl 1 rfl) ?_
  refine lv_if_lt (tgt := 21) hx hb dX3_find_1 (by decide) (fun c1 => ?_) (fun c1 => ?_)
  · refine lv_null hx hb dX3_find_21 ?_
    exact W.aret (v := .null) hx hb hr (Or.inl ⟨_, rfl⟩) (Or.inl rfl) (fun t ht hW => ⟨none, rfl, by simp only [f_find, if_pos c1], ht⟩) t_nil dX3_find_22
  refine lv_iload_n hx hb dX3_find_4 rfl (lv_at hl 1 rfl) ?_
  refine lv_aload_n hx hb dX3_find_5 rfl (lv_at hl 0 rfl) ?_
  refine va_get (D := G.1) (ci := 4) (v := .int (nI xn)) (C := RX3) (T := TX3) (N := 2) hx hb hts hiX3 hown hE.1 hP 0 rfl rfl 1 (by decide) (hts (.fieldLink RX3 15 "MeterSeals" "meterCount" "I") (by decide +kernel)) (fun _ h9 => h9) rfl dX3_find_6 ?_
  refine lv_icmp_ge (tgt := 21) hx hb dX3_find_9 (by decide) (fun c9 => ?_) (fun c9 => ?_)
  · refine lv_null hx hb dX3_find_21 ?_
    exact W.aret (v := .null) hx hb hr (Or.inl ⟨_, rfl⟩) (Or.inl rfl) (fun t ht hW => ⟨none, rfl, by simp only [f_find, if_neg c1, if_pos c9], ht⟩) t_nil dX3_find_22
  refine lv_aload_n hx hb dX3_find_12 rfl (lv_at hl 0 rfl) ?_
  refine va_get (D := G.1) (ci := 4) (v := .ref x1) (C := RX3) (T := TX3) (N := 2) hx hb hts hiX3 hown hE.1 hP 0 rfl rfl 0 (by decide) (hts (.fieldLink RX3 11 "MeterSeals" "meters" "[LMeterSeals$Meter;") (by decide +kernel)) (fun _ h9 => h9) rfl dX3_find_13 ?_
  refine lv_iload_n hx hb dX3_find_16 rfl (lv_at hl 1 rfl) ?_
  refine va_aldq hx hb hE.1 hP 1 3 rfl rfl (find_in hxn c1 c9) dX3_find_17 ?_
  refine lv_goto (tgt := 22) hx hb dX3_find_18 (by decide) ?_
  exact W.aret (v := va_rf (f mi.toNatClampNeg)) hx hb hr (Or.inl ⟨_, rfl⟩) (va_rf_or _) (fun t ht hW => ⟨f mi.toNatClampNeg, rfl, by simp only [f_find, if_neg c1, if_neg c9], ht⟩) t_nil dX3_find_22

set_option maxHeartbeats 4000000 in
set_option maxRecDepth 100000 in
/-- X3_pulses, no such meter -/
theorem ca_X3_pulses (l : Launch) (G : Gx) (x0 x1 : Nat) (xn : Nat) (f : Nat → Option Nat) (mi : Int32) (number second : Int64) (degrees : Int32) (hxn : xn ≤ 8) (hmiss : f_find xn f mi = none) : Met l yX3_pulses wsX3_pulses ({ frames := 1, cells := 0, slots := 0, locals := 21 }) (RdP G (wX G x0 x1 (nI xn) f) [.ref x0, .int mi, .long number, .long second, .int degrees]) (vp_Si (fun r => r = 0)) 0 0 (fun _ => False) := by
  refine Met.ofW (cc := cX3_pulses) (maxL := 8) (ret := (some .boolean)) (by decide) rfl ?_
  intro p e s m args below meth c s₁ B hml hv
  obtain ⟨rfl, hP, hE⟩ := hv
  have hx := B.exec
  have hb := B.bytes
  have hr := B.returns
  have hts := atoms_spec (ws := wsX3_pulses) B.pre
  have hown : s.vm.findClass RX3 = some m.cls := findClass_of_methodNamed B.named
  have hlocks := B.notSynchronized
  have hl := lv_entry ([.ref x0, .int mi, .long number, .long second, .int degrees]) (n := 8) (Nat.le_of_ble_eq_true rfl)
  rw [lg_entry_eq]
  generalize (lg_sl ([.ref x0, .int mi, .long number, .long second, .int degrees]) ++ List.replicate (8 - (lg_sl ([.ref x0, .int mi, .long number, .long second, .int degrees])).length) Slot.unset).toArray = ls at hl ⊢
  replace hl : lv_has ls 8 [(0, .ref x0), (1, .int mi), (2, .long number), (4, .long second), (6, .int degrees)] := hl
  refine lv_aload_n hx hb dX3_pulses_0 rfl (lv_at hl 0 rfl) ?_
  refine lv_iload_n hx hb dX3_pulses_1 rfl (lv_at hl 1 rfl) ?_
  refine x_rq (va_runV (As := [.int mi]) (rest := []) ⟨hx, hb, hml, hown, hts⟩ (ct_X3_find l G x0 x1 xn f mi hxn) (cwV 1 hts gX3_pulses_X3_find rfl rfl rfl (by decide +kernel) ⟨Nat.le_of_ble_eq_true rfl, Nat.le_of_ble_eq_true rfl⟩) (RdP.preV 0 4 rfl rfl hP hE) rfl rfl hl.1 rfl (lv_room (Nat.le_of_ble_eq_true rfl)) dX3_pulses_2 ⟨Nat.zero_le _, Nat.zero_le _⟩) (fun rq erq => ?_)
  rw [hmiss] at erq
  subst erq
  refine W.eq (g2 := F0 m 5 ls [.null]) rfl ?_
  refine lv_astoreN (lv' := [(7, .null), (0, .ref x0), (1, .int mi), (2, .long number), (4, .long second), (6, .int degrees)]) hx hb dX3_pulses_5 hl (by decide) rfl (fun ls hl => ?_)
  refine lv_aloadN hx hb dX3_pulses_7 (lv_at hl 0 rfl) ?_
  refine lv_ifnullN (tgt := 29) hx hb dX3_pulses_9 (by decide) ?_
  refine lv_iconst (v := 0) hx hb dX3_pulses_29 (by decide) ?_
  exact W.zret (v := 0) hx hb hr (zb (Or.inl rfl)) (fun t ht hW => ⟨_, rfl, rfl, ht⟩) t_nil dX3_pulses_30

set_option maxHeartbeats 4000000 in
set_option maxRecDepth 100000 in
/-- X3_row, no such meter -/
theorem ca_X3_row (l : Launch) (G : Gx) (x0 x1 : Nat) (xn : Nat) (f : Nat → Option Nat) (mi : Int32) (d : Int32) (a b : Int64) (hxn : xn ≤ 8) (hmiss : f_find xn f mi = none) : Met l yX3_row wsX3_row ({ frames := 1, cells := 0, slots := 0, locals := 21 }) (RdP G (wX G x0 x1 (nI xn) f) [.ref x0, .int mi, .int d, .long a, .long b]) (vp_Si (fun r => r = 0)) 0 0 (fun _ => False) := by
  refine Met.ofW (cc := cX3_row) (maxL := 8) (ret := (some .boolean)) (by decide) rfl ?_
  intro p e s m args below meth c s₁ B hml hv
  obtain ⟨rfl, hP, hE⟩ := hv
  have hx := B.exec
  have hb := B.bytes
  have hr := B.returns
  have hts := atoms_spec (ws := wsX3_row) B.pre
  have hown : s.vm.findClass RX3 = some m.cls := findClass_of_methodNamed B.named
  have hlocks := B.notSynchronized
  have hl := lv_entry ([.ref x0, .int mi, .int d, .long a, .long b]) (n := 8) (Nat.le_of_ble_eq_true rfl)
  rw [lg_entry_eq]
  generalize (lg_sl ([.ref x0, .int mi, .int d, .long a, .long b]) ++ List.replicate (8 - (lg_sl ([.ref x0, .int mi, .int d, .long a, .long b])).length) Slot.unset).toArray = ls at hl ⊢
  replace hl : lv_has ls 8 [(0, .ref x0), (1, .int mi), (2, .int d), (3, .long a), (5, .long b)] := hl
  refine lv_aload_n hx hb dX3_row_0 rfl (lv_at hl 0 rfl) ?_
  refine lv_iload_n hx hb dX3_row_1 rfl (lv_at hl 1 rfl) ?_
  refine x_rq (va_runV (As := [.int mi]) (rest := []) ⟨hx, hb, hml, hown, hts⟩ (ct_X3_find l G x0 x1 xn f mi hxn) (cwV 1 hts gX3_row_X3_find rfl rfl rfl (by decide +kernel) ⟨Nat.le_of_ble_eq_true rfl, Nat.le_of_ble_eq_true rfl⟩) (RdP.preV 0 4 rfl rfl hP hE) rfl rfl hl.1 rfl (lv_room (Nat.le_of_ble_eq_true rfl)) dX3_row_2 ⟨Nat.zero_le _, Nat.zero_le _⟩) (fun rq erq => ?_)
  rw [hmiss] at erq
  subst erq
  refine W.eq (g2 := F0 m 5 ls [.null]) rfl ?_
  refine lv_astoreN (lv' := [(7, .null), (0, .ref x0), (1, .int mi), (2, .int d), (3, .long a), (5, .long b)]) hx hb dX3_row_5 hl (by decide) rfl (fun ls hl => ?_)
  refine lv_aloadN hx hb dX3_row_7 (lv_at hl 0 rfl) ?_
  refine lv_ifnullN (tgt := 31) hx hb dX3_row_9 (by decide) ?_
  refine lv_iconst (v := 0) hx hb dX3_row_31 (by decide) ?_
  exact W.zret (v := 0) hx hb hr (zb (Or.inl rfl)) (fun t ht hW => ⟨_, rfl, rfl, ht⟩) t_nil dX3_row_32

set_option maxHeartbeats 4000000 in
set_option maxRecDepth 100000 in
/-- X3_litres, no such meter -/
theorem ca_X3_litres (l : Launch) (G : Gx) (x0 x1 : Nat) (xn : Nat) (f : Nat → Option Nat) (mi : Int32) (row part : Int32) (hxn : xn ≤ 8) (hmiss : f_find xn f mi = none) : Met l yX3_litres wsX3_litres ({ frames := 1, cells := 0, slots := 0, locals := 21 }) (RdP G (wX G x0 x1 (nI xn) f) [.ref x0, .int mi, .int row, .int part]) (vp_Sl (fun r => r = -1)) 0 0 (fun _ => False) := by
  refine Met.ofW (cc := cX3_litres) (maxL := 5) (ret := (some .long)) (by decide) rfl ?_
  intro p e s m args below meth c s₁ B hml hv
  obtain ⟨rfl, hP, hE⟩ := hv
  have hx := B.exec
  have hb := B.bytes
  have hr := B.returns
  have hts := atoms_spec (ws := wsX3_litres) B.pre
  have hown : s.vm.findClass RX3 = some m.cls := findClass_of_methodNamed B.named
  have hlocks := B.notSynchronized
  have hl := lv_entry ([.ref x0, .int mi, .int row, .int part]) (n := 5) (Nat.le_of_ble_eq_true rfl)
  rw [lg_entry_eq]
  generalize (lg_sl ([.ref x0, .int mi, .int row, .int part]) ++ List.replicate (5 - (lg_sl ([.ref x0, .int mi, .int row, .int part])).length) Slot.unset).toArray = ls at hl ⊢
  replace hl : lv_has ls 5 [(0, .ref x0), (1, .int mi), (2, .int row), (3, .int part)] := hl
  refine lv_aload_n hx hb dX3_litres_0 rfl (lv_at hl 0 rfl) ?_
  refine lv_iload_n hx hb dX3_litres_1 rfl (lv_at hl 1 rfl) ?_
  refine x_rq (va_runV (As := [.int mi]) (rest := []) ⟨hx, hb, hml, hown, hts⟩ (ct_X3_find l G x0 x1 xn f mi hxn) (cwV 1 hts gX3_litres_X3_find rfl rfl rfl (by decide +kernel) ⟨Nat.le_of_ble_eq_true rfl, Nat.le_of_ble_eq_true rfl⟩) (RdP.preV 0 4 rfl rfl hP hE) rfl rfl hl.1 rfl (lv_room (Nat.le_of_ble_eq_true rfl)) dX3_litres_2 ⟨Nat.zero_le _, Nat.zero_le _⟩) (fun rq erq => ?_)
  rw [hmiss] at erq
  subst erq
  refine W.eq (g2 := F0 m 5 ls [.null]) rfl ?_
  refine lv_astoreN (lv' := [(4, .null), (0, .ref x0), (1, .int mi), (2, .int row), (3, .int part)]) hx hb dX3_litres_5 hl (by decide) rfl (fun ls hl => ?_)
  refine lv_aloadN hx hb dX3_litres_7 (lv_at hl 0 rfl) ?_
  refine lv_ifnullN (tgt := 21) hx hb dX3_litres_9 (by decide) ?_
  refine lv_ldc2 (v := (-1)) hx hb hown (hts (.constantLong RX3 40 (-1)) (by decide +kernel)) dX3_litres_21 ?_
  exact W.lret (v := (-1)) hx hb hr (fun t ht hW => ⟨_, rfl, rfl, ht⟩) t_nil dX3_litres_24

set_option maxHeartbeats 4000000 in
set_option maxRecDepth 100000 in
/-- X3_rows, no such meter -/
theorem ca_X3_rows (l : Launch) (G : Gx) (x0 x1 : Nat) (xn : Nat) (f : Nat → Option Nat) (mi : Int32)  (hxn : xn ≤ 8) (hmiss : f_find xn f mi = none) : Met l yX3_rows wsX3_rows ({ frames := 1, cells := 0, slots := 0, locals := 21 }) (RdP G (wX G x0 x1 (nI xn) f) [.ref x0, .int mi]) (vp_Si (fun r => r = -1)) 0 0 (fun _ => False) := by
  refine Met.ofW (cc := cX3_rows) (maxL := 3) (ret := (some .int)) (by decide) rfl ?_
  intro p e s m args below meth c s₁ B hml hv
  obtain ⟨rfl, hP, hE⟩ := hv
  have hx := B.exec
  have hb := B.bytes
  have hr := B.returns
  have hts := atoms_spec (ws := wsX3_rows) B.pre
  have hown : s.vm.findClass RX3 = some m.cls := findClass_of_methodNamed B.named
  have hlocks := B.notSynchronized
  have hl := lv_entry ([.ref x0, .int mi]) (n := 3) (Nat.le_of_ble_eq_true rfl)
  rw [lg_entry_eq]
  generalize (lg_sl ([.ref x0, .int mi]) ++ List.replicate (3 - (lg_sl ([.ref x0, .int mi])).length) Slot.unset).toArray = ls at hl ⊢
  replace hl : lv_has ls 3 [(0, .ref x0), (1, .int mi)] := hl
  refine lv_aload_n hx hb dX3_rows_0 rfl (lv_at hl 0 rfl) ?_
  refine lv_iload_n hx hb dX3_rows_1 rfl (lv_at hl 1 rfl) ?_
  refine x_rq (va_runV (As := [.int mi]) (rest := []) ⟨hx, hb, hml, hown, hts⟩ (ct_X3_find l G x0 x1 xn f mi hxn) (cwV 1 hts gX3_rows_X3_find rfl rfl rfl (by decide +kernel) ⟨Nat.le_of_ble_eq_true rfl, Nat.le_of_ble_eq_true rfl⟩) (RdP.preV 0 4 rfl rfl hP hE) rfl rfl hl.1 rfl (lv_room (Nat.le_of_ble_eq_true rfl)) dX3_rows_2 ⟨Nat.zero_le _, Nat.zero_le _⟩) (fun rq erq => ?_)
  rw [hmiss] at erq
  subst erq
  refine W.eq (g2 := F0 m 5 ls [.null]) rfl ?_
  refine lv_astore_nN (lv' := [(2, .null), (0, .ref x0), (1, .int mi)]) hx hb dX3_rows_5 rfl hl (by decide) rfl (fun ls hl => ?_)
  refine lv_aload_nN hx hb dX3_rows_6 rfl (lv_at hl 0 rfl) ?_
  refine lv_ifnonnullN hx hb dX3_rows_7 ?_
  refine lv_iconst (v := (-1)) hx hb dX3_rows_10 (by decide) ?_
  refine lv_goto (tgt := 21) hx hb dX3_rows_11 (by decide) ?_
  exact W.iret (v := (-1)) hx hb hr (fun t ht hW => ⟨_, rfl, rfl, ht⟩) t_nil dX3_rows_21

set_option maxHeartbeats 4000000 in
set_option maxRecDepth 100000 in
/-- X3_check, no such meter -/
theorem ca_X3_check (l : Launch) (G : Gx) (x0 x1 : Nat) (xn : Nat) (f : Nat → Option Nat) (mi : Int32) (frm : Int32) (hxn : xn ≤ 8) (hmiss : f_find xn f mi = none) : Met l yX3_check wsX3_check ({ frames := 1, cells := 0, slots := 0, locals := 21 }) (RdP G (wX G x0 x1 (nI xn) f) [.ref x0, .int mi, .int frm]) (vp_Si (fun r => r = -1)) 0 0 (fun _ => False) := by
  refine Met.ofW (cc := cX3_check) (maxL := 4) (ret := (some .int)) (by decide) rfl ?_
  intro p e s m args below meth c s₁ B hml hv
  obtain ⟨rfl, hP, hE⟩ := hv
  have hx := B.exec
  have hb := B.bytes
  have hr := B.returns
  have hts := atoms_spec (ws := wsX3_check) B.pre
  have hown : s.vm.findClass RX3 = some m.cls := findClass_of_methodNamed B.named
  have hlocks := B.notSynchronized
  have hl := lv_entry ([.ref x0, .int mi, .int frm]) (n := 4) (Nat.le_of_ble_eq_true rfl)
  rw [lg_entry_eq]
  generalize (lg_sl ([.ref x0, .int mi, .int frm]) ++ List.replicate (4 - (lg_sl ([.ref x0, .int mi, .int frm])).length) Slot.unset).toArray = ls at hl ⊢
  replace hl : lv_has ls 4 [(0, .ref x0), (1, .int mi), (2, .int frm)] := hl
  refine lv_aload_n hx hb dX3_check_0 rfl (lv_at hl 0 rfl) ?_
  refine lv_iload_n hx hb dX3_check_1 rfl (lv_at hl 1 rfl) ?_
  refine x_rq (va_runV (As := [.int mi]) (rest := []) ⟨hx, hb, hml, hown, hts⟩ (ct_X3_find l G x0 x1 xn f mi hxn) (cwV 1 hts gX3_check_X3_find rfl rfl rfl (by decide +kernel) ⟨Nat.le_of_ble_eq_true rfl, Nat.le_of_ble_eq_true rfl⟩) (RdP.preV 0 4 rfl rfl hP hE) rfl rfl hl.1 rfl (lv_room (Nat.le_of_ble_eq_true rfl)) dX3_check_2 ⟨Nat.zero_le _, Nat.zero_le _⟩) (fun rq erq => ?_)
  rw [hmiss] at erq
  subst erq
  refine W.eq (g2 := F0 m 5 ls [.null]) rfl ?_
  refine lv_astore_nN (lv' := [(3, .null), (0, .ref x0), (1, .int mi), (2, .int frm)]) hx hb dX3_check_5 rfl hl (by decide) rfl (fun ls hl => ?_)
  refine lv_aload_nN hx hb dX3_check_6 rfl (lv_at hl 0 rfl) ?_
  refine lv_ifnonnullN hx hb dX3_check_7 ?_
  refine lv_iconst (v := (-1)) hx hb dX3_check_10 (by decide) ?_
  refine lv_goto (tgt := 22) hx hb dX3_check_11 (by decide) ?_
  exact W.iret (v := (-1)) hx hb hr (fun t ht hW => ⟨_, rfl, rfl, ht⟩) t_nil dX3_check_22

set_option maxHeartbeats 4000000 in
set_option maxRecDepth 100000 in
/-- X3_poke, no such meter -/
theorem ca_X3_poke (l : Launch) (G : Gx) (x0 x1 : Nat) (xn : Nat) (f : Nat → Option Nat) (mi : Int32) (row : Int32) (b : Int64) (hxn : xn ≤ 8) (hmiss : f_find xn f mi = none) : Met l yX3_poke wsX3_poke ({ frames := 1, cells := 0, slots := 0, locals := 21 }) (RdP G (wX G x0 x1 (nI xn) f) [.ref x0, .int mi, .int row, .long b]) (vp_Si (fun r => r = 0)) 0 0 (fun _ => False) := by
  refine Met.ofW (cc := cX3_poke) (maxL := 6) (ret := (some .boolean)) (by decide) rfl ?_
  intro p e s m args below meth c s₁ B hml hv
  obtain ⟨rfl, hP, hE⟩ := hv
  have hx := B.exec
  have hb := B.bytes
  have hr := B.returns
  have hts := atoms_spec (ws := wsX3_poke) B.pre
  have hown : s.vm.findClass RX3 = some m.cls := findClass_of_methodNamed B.named
  have hlocks := B.notSynchronized
  have hl := lv_entry ([.ref x0, .int mi, .int row, .long b]) (n := 6) (Nat.le_of_ble_eq_true rfl)
  rw [lg_entry_eq]
  generalize (lg_sl ([.ref x0, .int mi, .int row, .long b]) ++ List.replicate (6 - (lg_sl ([.ref x0, .int mi, .int row, .long b])).length) Slot.unset).toArray = ls at hl ⊢
  replace hl : lv_has ls 6 [(0, .ref x0), (1, .int mi), (2, .int row), (3, .long b)] := hl
  refine lv_aload_n hx hb dX3_poke_0 rfl (lv_at hl 0 rfl) ?_
  refine lv_iload_n hx hb dX3_poke_1 rfl (lv_at hl 1 rfl) ?_
  refine x_rq (va_runV (As := [.int mi]) (rest := []) ⟨hx, hb, hml, hown, hts⟩ (ct_X3_find l G x0 x1 xn f mi hxn) (cwV 1 hts gX3_poke_X3_find rfl rfl rfl (by decide +kernel) ⟨Nat.le_of_ble_eq_true rfl, Nat.le_of_ble_eq_true rfl⟩) (RdP.preV 0 4 rfl rfl hP hE) rfl rfl hl.1 rfl (lv_room (Nat.le_of_ble_eq_true rfl)) dX3_poke_2 ⟨Nat.zero_le _, Nat.zero_le _⟩) (fun rq erq => ?_)
  rw [hmiss] at erq
  subst erq
  refine W.eq (g2 := F0 m 5 ls [.null]) rfl ?_
  refine lv_astoreN (lv' := [(5, .null), (0, .ref x0), (1, .int mi), (2, .int row), (3, .long b)]) hx hb dX3_poke_5 hl (by decide) rfl (fun ls hl => ?_)
  refine lv_aloadN hx hb dX3_poke_7 (lv_at hl 0 rfl) ?_
  refine lv_ifnullN (tgt := 29) hx hb dX3_poke_9 (by decide) ?_
  refine lv_iconst (v := 0) hx hb dX3_poke_29 (by decide) ?_
  exact W.zret (v := 0) hx hb hr (zb (Or.inl rfl)) (fun t ht hW => ⟨_, rfl, rfl, ht⟩) t_nil dX3_poke_30

set_option maxHeartbeats 4000000 in
set_option maxRecDepth 100000 in
/-- X3_seal, no such meter -/
theorem ca_X3_seal (l : Launch) (G : Gx) (x0 x1 : Nat) (xn : Nat) (f : Nat → Option Nat) (mi : Int32) (person set_ : Int32) (hxn : xn ≤ 8) (hmiss : f_find xn f mi = none) : Met l yX3_seal wsX3_seal ({ frames := 1, cells := 0, slots := 0, locals := 21 }) (RdP G (wX G x0 x1 (nI xn) f) [.ref x0, .int mi, .int person, .int set_]) (vp_Si (fun r => r = 0)) 0 0 (fun _ => False) := by
  refine Met.ofW (cc := cX3_seal) (maxL := 5) (ret := (some .boolean)) (by decide) rfl ?_
  intro p e s m args below meth c s₁ B hml hv
  obtain ⟨rfl, hP, hE⟩ := hv
  have hx := B.exec
  have hb := B.bytes
  have hr := B.returns
  have hts := atoms_spec (ws := wsX3_seal) B.pre
  have hown : s.vm.findClass RX3 = some m.cls := findClass_of_methodNamed B.named
  have hlocks := B.notSynchronized
  have hl := lv_entry ([.ref x0, .int mi, .int person, .int set_]) (n := 5) (Nat.le_of_ble_eq_true rfl)
  rw [lg_entry_eq]
  generalize (lg_sl ([.ref x0, .int mi, .int person, .int set_]) ++ List.replicate (5 - (lg_sl ([.ref x0, .int mi, .int person, .int set_])).length) Slot.unset).toArray = ls at hl ⊢
  replace hl : lv_has ls 5 [(0, .ref x0), (1, .int mi), (2, .int person), (3, .int set_)] := hl
  refine lv_aload_n hx hb dX3_seal_0 rfl (lv_at hl 0 rfl) ?_
  refine lv_iload_n hx hb dX3_seal_1 rfl (lv_at hl 1 rfl) ?_
  refine x_rq (va_runV (As := [.int mi]) (rest := []) ⟨hx, hb, hml, hown, hts⟩ (ct_X3_find l G x0 x1 xn f mi hxn) (cwV 1 hts gX3_seal_X3_find rfl rfl rfl (by decide +kernel) ⟨Nat.le_of_ble_eq_true rfl, Nat.le_of_ble_eq_true rfl⟩) (RdP.preV 0 4 rfl rfl hP hE) rfl rfl hl.1 rfl (lv_room (Nat.le_of_ble_eq_true rfl)) dX3_seal_2 ⟨Nat.zero_le _, Nat.zero_le _⟩) (fun rq erq => ?_)
  rw [hmiss] at erq
  subst erq
  refine W.eq (g2 := F0 m 5 ls [.null]) rfl ?_
  refine lv_astoreN (lv' := [(4, .null), (0, .ref x0), (1, .int mi), (2, .int person), (3, .int set_)]) hx hb dX3_seal_5 hl (by decide) rfl (fun ls hl => ?_)
  refine lv_aloadN hx hb dX3_seal_7 (lv_at hl 0 rfl) ?_
  refine lv_ifnullN (tgt := 26) hx hb dX3_seal_9 (by decide) ?_
  refine lv_iconst (v := 0) hx hb dX3_seal_26 (by decide) ?_
  exact W.zret (v := 0) hx hb hr (zb (Or.inl rfl)) (fun t ht hW => ⟨_, rfl, rfl, ht⟩) t_nil dX3_seal_27

set_option maxHeartbeats 4000000 in
set_option maxRecDepth 100000 in
/-- X3_marked, no such meter -/
theorem ca_X3_marked (l : Launch) (G : Gx) (x0 x1 : Nat) (xn : Nat) (f : Nat → Option Nat) (mi : Int32) (row : Int32) (hxn : xn ≤ 8) (hmiss : f_find xn f mi = none) : Met l yX3_marked wsX3_marked ({ frames := 1, cells := 0, slots := 0, locals := 21 }) (RdP G (wX G x0 x1 (nI xn) f) [.ref x0, .int mi, .int row]) (vp_Si (fun r => r = 0)) 0 0 (fun _ => False) := by
  refine Met.ofW (cc := cX3_marked) (maxL := 4) (ret := (some .boolean)) (by decide) rfl ?_
  intro p e s m args below meth c s₁ B hml hv
  obtain ⟨rfl, hP, hE⟩ := hv
  have hx := B.exec
  have hb := B.bytes
  have hr := B.returns
  have hts := atoms_spec (ws := wsX3_marked) B.pre
  have hown : s.vm.findClass RX3 = some m.cls := findClass_of_methodNamed B.named
  have hlocks := B.notSynchronized
  have hl := lv_entry ([.ref x0, .int mi, .int row]) (n := 4) (Nat.le_of_ble_eq_true rfl)
  rw [lg_entry_eq]
  generalize (lg_sl ([.ref x0, .int mi, .int row]) ++ List.replicate (4 - (lg_sl ([.ref x0, .int mi, .int row])).length) Slot.unset).toArray = ls at hl ⊢
  replace hl : lv_has ls 4 [(0, .ref x0), (1, .int mi), (2, .int row)] := hl
  refine lv_aload_n hx hb dX3_marked_0 rfl (lv_at hl 0 rfl) ?_
  refine lv_iload_n hx hb dX3_marked_1 rfl (lv_at hl 1 rfl) ?_
  refine x_rq (va_runV (As := [.int mi]) (rest := []) ⟨hx, hb, hml, hown, hts⟩ (ct_X3_find l G x0 x1 xn f mi hxn) (cwV 1 hts gX3_marked_X3_find rfl rfl rfl (by decide +kernel) ⟨Nat.le_of_ble_eq_true rfl, Nat.le_of_ble_eq_true rfl⟩) (RdP.preV 0 4 rfl rfl hP hE) rfl rfl hl.1 rfl (lv_room (Nat.le_of_ble_eq_true rfl)) dX3_marked_2 ⟨Nat.zero_le _, Nat.zero_le _⟩) (fun rq erq => ?_)
  rw [hmiss] at erq
  subst erq
  refine W.eq (g2 := F0 m 5 ls [.null]) rfl ?_
  refine lv_astore_nN (lv' := [(3, .null), (0, .ref x0), (1, .int mi), (2, .int row)]) hx hb dX3_marked_5 rfl hl (by decide) rfl (fun ls hl => ?_)
  refine lv_aload_nN hx hb dX3_marked_6 rfl (lv_at hl 0 rfl) ?_
  refine lv_ifnullN (tgt := 25) hx hb dX3_marked_7 (by decide) ?_
  refine lv_iconst (v := 0) hx hb dX3_marked_25 (by decide) ?_
  exact W.zret (v := 0) hx hb hr (zb (Or.inl rfl)) (fun t ht hW => ⟨_, rfl, rfl, ht⟩) t_nil dX3_marked_26

set_option maxHeartbeats 4000000 in
set_option maxRecDepth 100000 in
/-- X3_gap, no such meter -/
theorem ca_X3_gap (l : Launch) (G : Gx) (x0 x1 : Nat) (xn : Nat) (f : Nat → Option Nat) (mi : Int32) (kk what : Int32) (hxn : xn ≤ 8) (hmiss : f_find xn f mi = none) : Met l yX3_gap wsX3_gap ({ frames := 1, cells := 0, slots := 0, locals := 21 }) (RdP G (wX G x0 x1 (nI xn) f) [.ref x0, .int mi, .int kk, .int what]) (vp_Si (fun r => r = -1)) 0 0 (fun _ => False) := by
  refine Met.ofW (cc := cX3_gap) (maxL := 5) (ret := (some .int)) (by decide) rfl ?_
  intro p e s m args below meth c s₁ B hml hv
  obtain ⟨rfl, hP, hE⟩ := hv
  have hx := B.exec
  have hb := B.bytes
  have hr := B.returns
  have hts := atoms_spec (ws := wsX3_gap) B.pre
  have hown : s.vm.findClass RX3 = some m.cls := findClass_of_methodNamed B.named
  have hlocks := B.notSynchronized
  have hl := lv_entry ([.ref x0, .int mi, .int kk, .int what]) (n := 5) (Nat.le_of_ble_eq_true rfl)
  rw [lg_entry_eq]
  generalize (lg_sl ([.ref x0, .int mi, .int kk, .int what]) ++ List.replicate (5 - (lg_sl ([.ref x0, .int mi, .int kk, .int what])).length) Slot.unset).toArray = ls at hl ⊢
  replace hl : lv_has ls 5 [(0, .ref x0), (1, .int mi), (2, .int kk), (3, .int what)] := hl
  refine lv_aload_n hx hb dX3_gap_0 rfl (lv_at hl 0 rfl) ?_
  refine lv_iload_n hx hb dX3_gap_1 rfl (lv_at hl 1 rfl) ?_
  refine x_rq (va_runV (As := [.int mi]) (rest := []) ⟨hx, hb, hml, hown, hts⟩ (ct_X3_find l G x0 x1 xn f mi hxn) (cwV 1 hts gX3_gap_X3_find rfl rfl rfl (by decide +kernel) ⟨Nat.le_of_ble_eq_true rfl, Nat.le_of_ble_eq_true rfl⟩) (RdP.preV 0 4 rfl rfl hP hE) rfl rfl hl.1 rfl (lv_room (Nat.le_of_ble_eq_true rfl)) dX3_gap_2 ⟨Nat.zero_le _, Nat.zero_le _⟩) (fun rq erq => ?_)
  rw [hmiss] at erq
  subst erq
  refine W.eq (g2 := F0 m 5 ls [.null]) rfl ?_
  refine lv_astoreN (lv' := [(4, .null), (0, .ref x0), (1, .int mi), (2, .int kk), (3, .int what)]) hx hb dX3_gap_5 hl (by decide) rfl (fun ls hl => ?_)
  refine lv_aloadN hx hb dX3_gap_7 (lv_at hl 0 rfl) ?_
  refine lv_ifnullN (tgt := 25) hx hb dX3_gap_9 (by decide) ?_
  refine lv_iconst (v := (-1)) hx hb dX3_gap_25 (by decide) ?_
  exact W.iret (v := (-1)) hx hb hr (fun t ht hW => ⟨_, rfl, rfl, ht⟩) t_nil dX3_gap_26

set_option maxHeartbeats 4000000 in
set_option maxRecDepth 100000 in
/-- X3_rest, no such meter -/
theorem ca_X3_rest (l : Launch) (G : Gx) (x0 x1 : Nat) (xn : Nat) (f : Nat → Option Nat) (mi : Int32) (tank : Int64) (hxn : xn ≤ 8) (hmiss : f_find xn f mi = none) : Met l yX3_rest wsX3_rest ({ frames := 1, cells := 0, slots := 0, locals := 21 }) (RdP G (wX G x0 x1 (nI xn) f) [.ref x0, .int mi, .long tank]) (vp_Sl (fun r => r = -9223372036854775808)) 0 0 (fun _ => False) := by
  refine Met.ofW (cc := cX3_rest) (maxL := 5) (ret := (some .long)) (by decide) rfl ?_
  intro p e s m args below meth c s₁ B hml hv
  obtain ⟨rfl, hP, hE⟩ := hv
  have hx := B.exec
  have hb := B.bytes
  have hr := B.returns
  have hts := atoms_spec (ws := wsX3_rest) B.pre
  have hown : s.vm.findClass RX3 = some m.cls := findClass_of_methodNamed B.named
  have hlocks := B.notSynchronized
  have hl := lv_entry ([.ref x0, .int mi, .long tank]) (n := 5) (Nat.le_of_ble_eq_true rfl)
  rw [lg_entry_eq]
  generalize (lg_sl ([.ref x0, .int mi, .long tank]) ++ List.replicate (5 - (lg_sl ([.ref x0, .int mi, .long tank])).length) Slot.unset).toArray = ls at hl ⊢
  replace hl : lv_has ls 5 [(0, .ref x0), (1, .int mi), (2, .long tank)] := hl
  refine lv_aload_n hx hb dX3_rest_0 rfl (lv_at hl 0 rfl) ?_
  refine lv_iload_n hx hb dX3_rest_1 rfl (lv_at hl 1 rfl) ?_
  refine x_rq (va_runV (As := [.int mi]) (rest := []) ⟨hx, hb, hml, hown, hts⟩ (ct_X3_find l G x0 x1 xn f mi hxn) (cwV 1 hts gX3_rest_X3_find rfl rfl rfl (by decide +kernel) ⟨Nat.le_of_ble_eq_true rfl, Nat.le_of_ble_eq_true rfl⟩) (RdP.preV 0 4 rfl rfl hP hE) rfl rfl hl.1 rfl (lv_room (Nat.le_of_ble_eq_true rfl)) dX3_rest_2 ⟨Nat.zero_le _, Nat.zero_le _⟩) (fun rq erq => ?_)
  rw [hmiss] at erq
  subst erq
  refine W.eq (g2 := F0 m 5 ls [.null]) rfl ?_
  refine lv_astoreN (lv' := [(4, .null), (0, .ref x0), (1, .int mi), (2, .long tank)]) hx hb dX3_rest_5 hl (by decide) rfl (fun ls hl => ?_)
  refine lv_aloadN hx hb dX3_rest_7 (lv_at hl 0 rfl) ?_
  refine lv_ifnullN (tgt := 23) hx hb dX3_rest_9 (by decide) ?_
  refine lv_ldc2 (v := (-9223372036854775808)) hx hb hown (hts (.constantLong RX3 91 (-9223372036854775808)) (by decide +kernel)) dX3_rest_23 ?_
  exact W.lret (v := (-9223372036854775808)) hx hb hr (fun t ht hW => ⟨_, rfl, rfl, ht⟩) t_nil dX3_rest_26

set_option maxHeartbeats 4000000 in
set_option maxRecDepth 100000 in
/-- X3_reset, no such meter -/
theorem ca_X3_reset (l : Launch) (G : Gx) (x0 x1 : Nat) (xn : Nat) (f : Nat → Option Nat) (mi : Int32) (number : Int64) (hxn : xn ≤ 8) (hmiss : f_find xn f mi = none) : Met l yX3_reset wsX3_reset ({ frames := 1, cells := 0, slots := 0, locals := 21 }) (RdP G (wX G x0 x1 (nI xn) f) [.ref x0, .int mi, .long number]) (vp_Si (fun r => r = 0)) 0 0 (fun _ => False) := by
  refine Met.ofW (cc := cX3_reset) (maxL := 5) (ret := (some .boolean)) (by decide) rfl ?_
  intro p e s m args below meth c s₁ B hml hv
  obtain ⟨rfl, hP, hE⟩ := hv
  have hx := B.exec
  have hb := B.bytes
  have hr := B.returns
  have hts := atoms_spec (ws := wsX3_reset) B.pre
  have hown : s.vm.findClass RX3 = some m.cls := findClass_of_methodNamed B.named
  have hlocks := B.notSynchronized
  have hl := lv_entry ([.ref x0, .int mi, .long number]) (n := 5) (Nat.le_of_ble_eq_true rfl)
  rw [lg_entry_eq]
  generalize (lg_sl ([.ref x0, .int mi, .long number]) ++ List.replicate (5 - (lg_sl ([.ref x0, .int mi, .long number])).length) Slot.unset).toArray = ls at hl ⊢
  replace hl : lv_has ls 5 [(0, .ref x0), (1, .int mi), (2, .long number)] := hl
  refine lv_aload_n hx hb dX3_reset_0 rfl (lv_at hl 0 rfl) ?_
  refine lv_iload_n hx hb dX3_reset_1 rfl (lv_at hl 1 rfl) ?_
  refine x_rq (va_runV (As := [.int mi]) (rest := []) ⟨hx, hb, hml, hown, hts⟩ (ct_X3_find l G x0 x1 xn f mi hxn) (cwV 1 hts gX3_reset_X3_find rfl rfl rfl (by decide +kernel) ⟨Nat.le_of_ble_eq_true rfl, Nat.le_of_ble_eq_true rfl⟩) (RdP.preV 0 4 rfl rfl hP hE) rfl rfl hl.1 rfl (lv_room (Nat.le_of_ble_eq_true rfl)) dX3_reset_2 ⟨Nat.zero_le _, Nat.zero_le _⟩) (fun rq erq => ?_)
  rw [hmiss] at erq
  subst erq
  refine W.eq (g2 := F0 m 5 ls [.null]) rfl ?_
  refine lv_astoreN (lv' := [(4, .null), (0, .ref x0), (1, .int mi), (2, .long number)]) hx hb dX3_reset_5 hl (by decide) rfl (fun ls hl => ?_)
  refine lv_aloadN hx hb dX3_reset_7 (lv_at hl 0 rfl) ?_
  refine lv_ifnullN (tgt := 25) hx hb dX3_reset_9 (by decide) ?_
  refine lv_iconst (v := 0) hx hb dX3_reset_25 (by decide) ?_
  exact W.zret (v := 0) hx hb hr (zb (Or.inl rfl)) (fun t ht hW => ⟨_, rfl, rfl, ht⟩) t_nil dX3_reset_26

set_option maxHeartbeats 4000000 in
set_option maxRecDepth 100000 in
/-- X3_roll, no such meter -/
theorem ca_X3_roll (l : Launch) (G : Gx) (x0 x1 : Nat) (xn : Nat) (f : Nat → Option Nat) (mi : Int32) (ix : Int32) (hxn : xn ≤ 8) (hmiss : f_find xn f mi = none) : Met l yX3_roll wsX3_roll ({ frames := 1, cells := 0, slots := 0, locals := 21 }) (RdP G (wX G x0 x1 (nI xn) f) [.ref x0, .int mi, .int ix]) (vp_Si (fun r => r = -1)) 0 0 (fun _ => False) := by
  refine Met.ofW (cc := cX3_roll) (maxL := 4) (ret := (some .int)) (by decide) rfl ?_
  intro p e s m args below meth c s₁ B hml hv
  obtain ⟨rfl, hP, hE⟩ := hv
  have hx := B.exec
  have hb := B.bytes
  have hr := B.returns
  have hts := atoms_spec (ws := wsX3_roll) B.pre
  have hown : s.vm.findClass RX3 = some m.cls := findClass_of_methodNamed B.named
  have hlocks := B.notSynchronized
  have hl := lv_entry ([.ref x0, .int mi, .int ix]) (n := 4) (Nat.le_of_ble_eq_true rfl)
  rw [lg_entry_eq]
  generalize (lg_sl ([.ref x0, .int mi, .int ix]) ++ List.replicate (4 - (lg_sl ([.ref x0, .int mi, .int ix])).length) Slot.unset).toArray = ls at hl ⊢
  replace hl : lv_has ls 4 [(0, .ref x0), (1, .int mi), (2, .int ix)] := hl
  refine lv_aload_n hx hb dX3_roll_0 rfl (lv_at hl 0 rfl) ?_
  refine lv_iload_n hx hb dX3_roll_1 rfl (lv_at hl 1 rfl) ?_
  refine x_rq (va_runV (As := [.int mi]) (rest := []) ⟨hx, hb, hml, hown, hts⟩ (ct_X3_find l G x0 x1 xn f mi hxn) (cwV 1 hts gX3_roll_X3_find rfl rfl rfl (by decide +kernel) ⟨Nat.le_of_ble_eq_true rfl, Nat.le_of_ble_eq_true rfl⟩) (RdP.preV 0 4 rfl rfl hP hE) rfl rfl hl.1 rfl (lv_room (Nat.le_of_ble_eq_true rfl)) dX3_roll_2 ⟨Nat.zero_le _, Nat.zero_le _⟩) (fun rq erq => ?_)
  rw [hmiss] at erq
  subst erq
  refine W.eq (g2 := F0 m 5 ls [.null]) rfl ?_
  refine lv_astore_nN (lv' := [(3, .null), (0, .ref x0), (1, .int mi), (2, .int ix)]) hx hb dX3_roll_5 rfl hl (by decide) rfl (fun ls hl => ?_)
  refine lv_aload_nN hx hb dX3_roll_6 rfl (lv_at hl 0 rfl) ?_
  refine lv_ifnonnullN hx hb dX3_roll_7 ?_
  refine lv_iconst (v := (-1)) hx hb dX3_roll_10 (by decide) ?_
  refine lv_goto (tgt := 22) hx hb dX3_roll_11 (by decide) ?_
  exact W.iret (v := (-1)) hx hb hr (fun t ht hW => ⟨_, rfl, rfl, ht⟩) t_nil dX3_roll_22
