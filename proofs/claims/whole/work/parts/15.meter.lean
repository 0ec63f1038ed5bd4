set_option maxHeartbeats 4000000 in
set_option maxRecDepth 100000 in
/-- litresAbove -/
theorem ct_X0_litresAbove (l : Launch) (G : Gx) (m0 t0 t1 t2 t3 h0 h1 h2 h3 h4 h5 : Nat) (sl : Int32) (la : Int64) (tn : Nat) (ts : Nat → Int32) (ta tb : Nat → Int64) (key : Int64) (n : Nat) (nu st : Nat → Int64) (de : Nat → Int32) (su : Nat → Int64) (mk : Nat → Int32) (row : Int32) (hc : n ≤ 200) (ht : tn ≤ 16) : Met l yX0_litresAbove wsX0_litresAbove ({ frames := 3, cells := 0, slots := 0, locals := 67 }) (RdP G (wM G m0 t0 t1 t2 t3 h0 h1 h2 h3 h4 h5 sl la (nI tn) ts ta tb key (nI n) nu st de su mk) [.ref m0, .int row]) (vp_Sl (fun r => r = f_la tn ts ta n nu st de row)) 0 0 (fun _ => False) := by
  refine Met.ofW (cc := cX0_litresAbove) (maxL := 2) (ret := (some .long)) (by decide) rfl ?_
  intro p e s m args below meth c s₁ B hml hv
  obtain ⟨rfl, hP, hE⟩ := hv
  have hx := B.exec
  have hb := B.bytes
  have hr := B.returns
  have hts := atoms_spec (ws := wsX0_litresAbove) B.pre
  have hown : s.vm.findClass RX0 = some m.cls := findClass_of_methodNamed B.named
  have hlocks := B.notSynchronized
  have hiX0 : ∀ w ∈ wsX00, w ∈ wsX0_litresAbove := by decide +kernel
  have hl := lv_entry ([.ref m0, .int row]) (n := 2) (Nat.le_of_ble_eq_true rfl)
  rw [lg_entry_eq]
  generalize (lg_sl ([.ref m0, .int row]) ++ List.replicate (2 - (lg_sl ([.ref m0, .int row])).length) Slot.unset).toArray = ls at hl ⊢
  replace hl : lv_has ls 2 [(0, .ref m0), (1, .int row)] := hl
  refine lv_aload_n hx hb dX0_litresAbove_0 rfl (lv_at hl 0 rfl) ?_
  refine va_get (D := G.1) (ci := 1) (v := .ref h0) (C := RX0) (T := TX0) (N := 4) hx hb hts hiX0 hown hE.1 hP 0 rfl rfl 1 (by decide) (hts (.fieldLink RX0 23 "MeterSeals$Meter" "rows" "LMeterSeals$Rows;") (by decide +kernel)) (fun _ h9 => h9) rfl dX0_litresAbove_1 ?_
  refine lv_iload_n hx hb dX0_litresAbove_4 rfl (lv_at hl 1 rfl) ?_
  refine x_rl (va_runV (As := [.int row]) (rest := []) ⟨hx, hb, hml, hown, hts⟩ (ct_X1_pulsesOf l G h0 h1 h2 h3 h4 h5 key n nu st de su mk row hc) (cwV 1 hts gX0_litresAbove_X1_pulsesOf rfl rfl rfl (by decide +kernel) ⟨Nat.le_of_ble_eq_true rfl, Nat.le_of_ble_eq_true rfl⟩) (RdP.preV 0 2 rfl rfl (x_mid ([(m0, .inr (1, [.ref t0, .ref h0, .int sl, .long la]))] ++ wT G t0 t1 t2 t3 (nI tn) ts ta tb) (wR G h0 h1 h2 h3 h4 h5 key (nI n) nu st de su mk) ([]) rfl hP) hE) rfl rfl hl.1 rfl (lv_room (Nat.le_of_ble_eq_true rfl)) dX0_litresAbove_5 ⟨Nat.zero_le _, Nat.zero_le _⟩) (fun r1 er1 => ?_)
  subst er1
  refine lv_aload_n hx hb dX0_litresAbove_8 rfl (lv_at hl 0 rfl) ?_
  refine va_get (D := G.1) (ci := 1) (v := .ref t0) (C := RX0) (T := TX0) (N := 4) hx hb hts hiX0 hown hE.1 hP 0 rfl rfl 0 (by decide) (hts (.fieldLink RX0 12 "MeterSeals$Meter" "table" "LMeterSeals$Table;") (by decide +kernel)) (fun _ h9 => h9) rfl dX0_litresAbove_9 ?_
  refine lv_aload_n hx hb dX0_litresAbove_12 rfl (lv_at hl 0 rfl) ?_
  refine va_get (D := G.1) (ci := 1) (v := .ref h0) (C := RX0) (T := TX0) (N := 4) hx hb hts hiX0 hown hE.1 hP 0 rfl rfl 1 (by decide) (hts (.fieldLink RX0 23 "MeterSeals$Meter" "rows" "LMeterSeals$Rows;") (by decide +kernel)) (fun _ h9 => h9) rfl dX0_litresAbove_13 ?_
  refine lv_iload_n hx hb dX0_litresAbove_16 rfl (lv_at hl 1 rfl) ?_
  refine x_ri (va_runV (As := [.int row]) (rest := [.ref t0, .long (f_pul n nu st row)]) ⟨hx, hb, hml, hown, hts⟩ (ct_X1_degreesOf l G h0 h1 h2 h3 h4 h5 key n nu st de su mk row hc) (cwV 1 hts gX0_litresAbove_X1_degreesOf rfl rfl rfl (by decide +kernel) ⟨Nat.le_of_ble_eq_true rfl, Nat.le_of_ble_eq_true rfl⟩) (RdP.preV 0 2 rfl rfl (x_mid ([(m0, .inr (1, [.ref t0, .ref h0, .int sl, .long la]))] ++ wT G t0 t1 t2 t3 (nI tn) ts ta tb) (wR G h0 h1 h2 h3 h4 h5 key (nI n) nu st de su mk) ([]) rfl hP) hE) rfl rfl hl.1 rfl (lv_room (Nat.le_of_ble_eq_true rfl)) dX0_litresAbove_17 ⟨Nat.zero_le _, Nat.zero_le _⟩) (fun r2 er2 => ?_)
  subst er2
  refine x_rl (va_runV (As := [.int (f_deg n de row)]) (rest := [.long (f_pul n nu st row)]) ⟨hx, hb, hml, hown, hts⟩ (ct_X2_aboveAt l G t0 t1 t2 t3 tn ts ta tb (f_deg n de row) ht) (cwV 1 hts gX0_litresAbove_X2_aboveAt rfl rfl rfl (by decide +kernel) ⟨Nat.le_of_ble_eq_true rfl, Nat.le_of_ble_eq_true rfl⟩) (RdP.preV 0 3 rfl rfl (x_mid ([(m0, .inr (1, [.ref t0, .ref h0, .int sl, .long la]))]) (wT G t0 t1 t2 t3 (nI tn) ts ta tb) (wR G h0 h1 h2 h3 h4 h5 key (nI n) nu st de su mk) rfl hP) hE) rfl rfl hl.1 rfl (lv_room (Nat.le_of_ble_eq_true rfl)) dX0_litresAbove_20 ⟨Nat.zero_le _, Nat.zero_le _⟩) (fun r3 er3 => ?_)
  subst er3
  refine lv_lmul hx hb dX0_litresAbove_23 ?_
  exact W.lret (v := ((f_pul n nu st row) * (f_above tn ts ta (f_deg n de row)))) hx hb hr (fun t ht hW => ⟨_, rfl, rfl, ht⟩) t_nil dX0_litresAbove_24

set_option maxHeartbeats 4000000 in
set_option maxRecDepth 100000 in
/-- litresBelow -/
theorem ct_X0_litresBelow (l : Launch) (G : Gx) (m0 t0 t1 t2 t3 h0 h1 h2 h3 h4 h5 : Nat) (sl : Int32) (la : Int64) (tn : Nat) (ts : Nat → Int32) (ta tb : Nat → Int64) (key : Int64) (n : Nat) (nu st : Nat → Int64) (de : Nat → Int32) (su : Nat → Int64) (mk : Nat → Int32) (row : Int32) (hc : n ≤ 200) (ht : tn ≤ 16) : Met l yX0_litresBelow wsX0_litresBelow ({ frames := 3, cells := 0, slots := 0, locals := 67 }) (RdP G (wM G m0 t0 t1 t2 t3 h0 h1 h2 h3 h4 h5 sl la (nI tn) ts ta tb key (nI n) nu st de su mk) [.ref m0, .int row]) (vp_Sl (fun r => r = f_lbw tn ts tb n st de row)) 0 0 (fun _ => False) := by
  refine Met.ofW (cc := cX0_litresBelow) (maxL := 2) (ret := (some .long)) (by decide) rfl ?_
  intro p e s m args below meth c s₁ B hml hv
  obtain ⟨rfl, hP, hE⟩ := hv
  have hx := B.exec
  have hb := B.bytes
  have hr := B.returns
  have hts := atoms_spec (ws := wsX0_litresBelow) B.pre
  have hown : s.vm.findClass RX0 = some m.cls := findClass_of_methodNamed B.named
  have hlocks := B.notSynchronized
  have hiX0 : ∀ w ∈ wsX00, w ∈ wsX0_litresBelow := by decide +kernel
  have hl := lv_entry ([.ref m0, .int row]) (n := 2) (Nat.le_of_ble_eq_true rfl)
  rw [lg_entry_eq]
  generalize (lg_sl ([.ref m0, .int row]) ++ List.replicate (2 - (lg_sl ([.ref m0, .int row])).length) Slot.unset).toArray = ls at hl ⊢
  replace hl : lv_has ls 2 [(0, .ref m0), (1, .int row)] := hl
  refine lv_aload_n hx hb dX0_litresBelow_0 rfl (lv_at hl 0 rfl) ?_
  refine va_get (D := G.1) (ci := 1) (v := .ref h0) (C := RX0) (T := TX0) (N := 4) hx hb hts hiX0 hown hE.1 hP 0 rfl rfl 1 (by decide) (hts (.fieldLink RX0 23 "MeterSeals$Meter" "rows" "LMeterSeals$Rows;") (by decide +kernel)) (fun _ h9 => h9) rfl dX0_litresBelow_1 ?_
  refine lv_iload_n hx hb dX0_litresBelow_4 rfl (lv_at hl 1 rfl) ?_
  refine x_ri (va_runV (As := [.int row]) (rest := []) ⟨hx, hb, hml, hown, hts⟩ (ct_X1_isReading l G h0 h1 h2 h3 h4 h5 key n nu st de su mk row hc) (cwV 1 hts gX0_litresBelow_X1_isReading rfl rfl rfl (by decide +kernel) ⟨Nat.le_of_ble_eq_true rfl, Nat.le_of_ble_eq_true rfl⟩) (RdP.preV 0 2 rfl rfl (x_mid ([(m0, .inr (1, [.ref t0, .ref h0, .int sl, .long la]))] ++ wT G t0 t1 t2 t3 (nI tn) ts ta tb) (wR G h0 h1 h2 h3 h4 h5 key (nI n) nu st de su mk) ([]) rfl hP) hE) rfl rfl hl.1 rfl (lv_room (Nat.le_of_ble_eq_true rfl)) dX0_litresBelow_5 ⟨Nat.zero_le _, Nat.zero_le _⟩) (fun r1 er1 => ?_)
  subst er1
  refine lv_if_eq (tgt := 29) hx hb dX0_litresBelow_8 (by decide) (fun c8 => ?_) (fun c8 => ?_)
  · refine lv_lconst (v := 1) hx hb dX0_litresBelow_29 (by decide) ?_
    exact W.lret (v := 1) hx hb hr (fun t ht hW => ⟨_, rfl, by simp only [f_lbw, if_pos c8], ht⟩) t_nil dX0_litresBelow_30
  refine lv_aload_n hx hb dX0_litresBelow_11 rfl (lv_at hl 0 rfl) ?_
  refine va_get (D := G.1) (ci := 1) (v := .ref t0) (C := RX0) (T := TX0) (N := 4) hx hb hts hiX0 hown hE.1 hP 0 rfl rfl 0 (by decide) (hts (.fieldLink RX0 12 "MeterSeals$Meter" "table" "LMeterSeals$Table;") (by decide +kernel)) (fun _ h9 => h9) rfl dX0_litresBelow_12 ?_
  refine lv_aload_n hx hb dX0_litresBelow_15 rfl (lv_at hl 0 rfl) ?_
  refine va_get (D := G.1) (ci := 1) (v := .ref h0) (C := RX0) (T := TX0) (N := 4) hx hb hts hiX0 hown hE.1 hP 0 rfl rfl 1 (by decide) (hts (.fieldLink RX0 23 "MeterSeals$Meter" "rows" "LMeterSeals$Rows;") (by decide +kernel)) (fun _ h9 => h9) rfl dX0_litresBelow_16 ?_
  refine lv_iload_n hx hb dX0_litresBelow_19 rfl (lv_at hl 1 rfl) ?_
  refine x_ri (va_runV (As := [.int row]) (rest := [.ref t0]) ⟨hx, hb, hml, hown, hts⟩ (ct_X1_degreesOf l G h0 h1 h2 h3 h4 h5 key n nu st de su mk row hc) (cwV 1 hts gX0_litresBelow_X1_degreesOf rfl rfl rfl (by decide +kernel) ⟨Nat.le_of_ble_eq_true rfl, Nat.le_of_ble_eq_true rfl⟩) (RdP.preV 0 2 rfl rfl (x_mid ([(m0, .inr (1, [.ref t0, .ref h0, .int sl, .long la]))] ++ wT G t0 t1 t2 t3 (nI tn) ts ta tb) (wR G h0 h1 h2 h3 h4 h5 key (nI n) nu st de su mk) ([]) rfl hP) hE) rfl rfl hl.1 rfl (lv_room (Nat.le_of_ble_eq_true rfl)) dX0_litresBelow_20 ⟨Nat.zero_le _, Nat.zero_le _⟩) (fun r2 er2 => ?_)
  subst er2
  refine x_rl (va_runV (As := [.int (f_deg n de row)]) (rest := []) ⟨hx, hb, hml, hown, hts⟩ (ct_X2_belowAt l G t0 t1 t2 t3 tn ts ta tb (f_deg n de row) ht) (cwV 1 hts gX0_litresBelow_X2_belowAt rfl rfl rfl (by decide +kernel) ⟨Nat.le_of_ble_eq_true rfl, Nat.le_of_ble_eq_true rfl⟩) (RdP.preV 0 3 rfl rfl (x_mid ([(m0, .inr (1, [.ref t0, .ref h0, .int sl, .long la]))]) (wT G t0 t1 t2 t3 (nI tn) ts ta tb) (wR G h0 h1 h2 h3 h4 h5 key (nI n) nu st de su mk) rfl hP) hE) rfl rfl hl.1 rfl (lv_room (Nat.le_of_ble_eq_true rfl)) dX0_litresBelow_23 ⟨Nat.zero_le _, Nat.zero_le _⟩) (fun r3 er3 => ?_)
  subst er3
  refine lv_goto (tgt := 30) hx hb dX0_litresBelow_26 (by decide) ?_
  exact W.lret (v := (f_below tn ts tb (f_deg n de row))) hx hb hr (fun t ht hW => ⟨_, rfl, by simp only [f_lbw, if_neg c8], ht⟩) t_nil dX0_litresBelow_30

set_option maxHeartbeats 4000000 in
set_option maxRecDepth 100000 in
/-- fractionPart -/
theorem ct_X0_fractionPart (l : Launch) (G : Gx) (m0 t0 t1 t2 t3 h0 h1 h2 h3 h4 h5 : Nat) (sl : Int32) (la : Int64) (tn : Nat) (ts : Nat → Int32) (ta tb : Nat → Int64) (key : Int64) (n : Nat) (nu st : Nat → Int64) (de : Nat → Int32) (su : Nat → Int64) (mk : Nat → Int32) (row part : Int32) (A0 B0 : Nat) (hc : n ≤ 200) (ht : tn ≤ 16) (hA : f_la tn ts ta n nu st de row = lN A0) (hB : f_lbw tn ts tb n st de row = lN B0) (hA2 : A0 < 2 ^ 62) (hB2 : B0 < 2 ^ 14) : Met l yX0_fractionPart wsX0_fractionPart ({ frames := 4, cells := 0, slots := 0, locals := 88 }) (RdP G (wM G m0 t0 t1 t2 t3 h0 h1 h2 h3 h4 h5 sl la (nI tn) ts ta tb key (nI n) nu st de su mk) [.ref m0, .int row, .int part]) (vp_Sl (fun r => r = (if part = 0 then f_quot (lN A0) (lN (Nat.gcd A0 B0)) else f_quot (lN B0) (lN (Nat.gcd A0 B0))))) 0 0 (fun _ => False) := by
  refine Met.ofW (cc := cX0_fractionPart) (maxL := 7) (ret := (some .long)) (by decide) rfl ?_
  intro p e s m args below meth c s₁ B hml hv
  obtain ⟨rfl, hP, hE⟩ := hv
  have hx := B.exec
  have hb := B.bytes
  have hr := B.returns
  have hts := atoms_spec (ws := wsX0_fractionPart) B.pre
  have hown : s.vm.findClass RX0 = some m.cls := findClass_of_methodNamed B.named
  have hlocks := B.notSynchronized
  have hl := lv_entry ([.ref m0, .int row, .int part]) (n := 7) (Nat.le_of_ble_eq_true rfl)
  rw [lg_entry_eq]
  generalize (lg_sl ([.ref m0, .int row, .int part]) ++ List.replicate (7 - (lg_sl ([.ref m0, .int row, .int part])).length) Slot.unset).toArray = ls at hl ⊢
  replace hl : lv_has ls 7 [(0, .ref m0), (1, .int row), (2, .int part)] := hl
  refine lv_aload_n hx hb dX0_fractionPart_0 rfl (lv_at hl 0 rfl) ?_
  refine lv_iload_n hx hb dX0_fractionPart_1 rfl (lv_at hl 1 rfl) ?_
  refine x_rl (va_runV (As := [.int row]) (rest := []) ⟨hx, hb, hml, hown, hts⟩ (ct_X0_litresAbove l G m0 t0 t1 t2 t3 h0 h1 h2 h3 h4 h5 sl la tn ts ta tb key n nu st de su mk row hc ht) (cwV 1 hts gX0_fractionPart_X0_litresAbove rfl rfl rfl (by decide +kernel) ⟨Nat.le_of_ble_eq_true rfl, Nat.le_of_ble_eq_true rfl⟩) (RdP.preV 0 1 rfl rfl hP hE) rfl rfl hl.1 rfl (lv_room (Nat.le_of_ble_eq_true rfl)) dX0_fractionPart_2 ⟨Nat.zero_le _, Nat.zero_le _⟩) (fun r1 er1 => ?_)
  subst er1
  refine lv_lstore_n (lv' := [(3, .long (f_la tn ts ta n nu st de row)), (0, .ref m0), (1, .int row), (2, .int part)]) hx hb dX0_fractionPart_5 rfl hl (by decide) rfl (fun ls hl => ?_)
  refine lv_aload_n hx hb dX0_fractionPart_6 rfl (lv_at hl 1 rfl) ?_
  refine lv_iload_n hx hb dX0_fractionPart_7 rfl (lv_at hl 2 rfl) ?_
  refine x_rl (va_runV (As := [.int row]) (rest := []) ⟨hx, hb, hml, hown, hts⟩ (ct_X0_litresBelow l G m0 t0 t1 t2 t3 h0 h1 h2 h3 h4 h5 sl la tn ts ta tb key n nu st de su mk row hc ht) (cwV 1 hts gX0_fractionPart_X0_litresBelow rfl rfl rfl (by decide +kernel) ⟨Nat.le_of_ble_eq_true rfl, Nat.le_of_ble_eq_true rfl⟩) (RdP.preV 0 1 rfl rfl hP hE) rfl rfl hl.1 rfl (lv_room (Nat.le_of_ble_eq_true rfl)) dX0_fractionPart_8 ⟨Nat.zero_le _, Nat.zero_le _⟩) (fun r2 er2 => ?_)
  subst er2
  refine lv_lstore (lv' := [(5, .long (f_lbw tn ts tb n st de row)), (3, .long (f_la tn ts ta n nu st de row)), (0, .ref m0), (1, .int row), (2, .int part)]) hx hb dX0_fractionPart_11 hl (by decide) rfl (fun ls hl => ?_)
  refine lv_iload_n hx hb dX0_fractionPart_13 rfl (lv_at hl 4 rfl) ?_
  refine lv_if_ne (tgt := 21) hx hb dX0_fractionPart_14 (by decide) (fun c14 => ?_) (fun c14 => ?_)
  · refine lv_lload hx hb dX0_fractionPart_21 (lv_at hl 0 rfl) ?_
    refine lv_lload_n hx hb dX0_fractionPart_23 rfl (lv_at hl 1 rfl) ?_
    refine lv_lload hx hb dX0_fractionPart_24 (lv_at hl 0 rfl) ?_
    rw [hA, hB]
    refine x_rl (va_runSN (As := [.long (lN A0), .long (lN B0)]) (rest := [.long (lN B0)]) ⟨hx, hb, hml, hown, hts⟩ (ct_X3_commonDivisor l G A0 B0 hA2 hB2) ⟨va_cnB 2 hts gX0_fractionPart_X3_commonDivisor_n70 rfl rfl rfl hE.2.1.2.2.1 (hts (.initialized RX3) (by decide +kernel)) (by decide +kernel) ⟨Nat.le_of_ble_eq_true rfl, Nat.le_of_ble_eq_true rfl⟩, hts (.static yX3_commonDivisor) (by decide +kernel), trivial⟩ (RdP.preS (fun k q h => by simp at h) hE) rfl rfl hl.1 rfl (lv_room (Nat.le_of_ble_eq_true rfl)) dX0_fractionPart_26 ⟨Nat.zero_le _, Nat.zero_le _⟩) (fun r3 er3 => ?_)
    subst er3
    refine x_rl (va_runSN (As := [.long (lN B0), .long (lN (Nat.gcd A0 B0))]) (rest := []) ⟨hx, hb, hml, hown, hts⟩ (ct_X3_quotient l G (lN B0) (lN (Nat.gcd A0 B0))) ⟨va_cnB 2 hts gX0_fractionPart_X3_quotient_n74 rfl rfl rfl hE.2.1.2.2.2.1 (hts (.initialized RX3) (by decide +kernel)) (by decide +kernel) ⟨Nat.le_of_ble_eq_true rfl, Nat.le_of_ble_eq_true rfl⟩, hts (.static yX3_quotient) (by decide +kernel), trivial⟩ (RdP.preS (fun k q h => by simp at h) hE) rfl rfl hl.1 rfl (lv_room (Nat.le_of_ble_eq_true rfl)) dX0_fractionPart_29 ⟨Nat.zero_le _, Nat.zero_le _⟩) (fun r4 er4 => ?_)
    subst er4
    exact W.lret (v := (f_quot (lN B0) (lN (Nat.gcd A0 B0)))) hx hb hr (fun t ht hW => ⟨_, rfl, by simp only [if_neg c14], ht⟩) t_nil dX0_fractionPart_32
  refine lv_lload_n hx hb dX0_fractionPart_17 rfl (lv_at hl 1 rfl) ?_
  refine lv_goto (tgt := 23) hx hb dX0_fractionPart_18 (by decide) ?_
  refine lv_lload_n hx hb dX0_fractionPart_23 rfl (lv_at hl 1 rfl) ?_
  refine lv_lload hx hb dX0_fractionPart_24 (lv_at hl 0 rfl) ?_
  rw [hA, hB]
  refine x_rl (va_runSN (As := [.long (lN A0), .long (lN B0)]) (rest := [.long (lN A0)]) ⟨hx, hb, hml, hown, hts⟩ (ct_X3_commonDivisor l G A0 B0 hA2 hB2) ⟨va_cnB 2 hts gX0_fractionPart_X3_commonDivisor_n70 rfl rfl rfl hE.2.1.2.2.1 (hts (.initialized RX3) (by decide +kernel)) (by decide +kernel) ⟨Nat.le_of_ble_eq_true rfl, Nat.le_of_ble_eq_true rfl⟩, hts (.static yX3_commonDivisor) (by decide +kernel), trivial⟩ (RdP.preS (fun k q h => by simp at h) hE) rfl rfl hl.1 rfl (lv_room (Nat.le_of_ble_eq_true rfl)) dX0_fractionPart_26 ⟨Nat.zero_le _, Nat.zero_le _⟩) (fun r5 er5 => ?_)
  subst er5
  refine x_rl (va_runSN (As := [.long (lN A0), .long (lN (Nat.gcd A0 B0))]) (rest := []) ⟨hx, hb, hml, hown, hts⟩ (ct_X3_quotient l G (lN A0) (lN (Nat.gcd A0 B0))) ⟨va_cnB 2 hts gX0_fractionPart_X3_quotient_n74 rfl rfl rfl hE.2.1.2.2.2.1 (hts (.initialized RX3) (by decide +kernel)) (by decide +kernel) ⟨Nat.le_of_ble_eq_true rfl, Nat.le_of_ble_eq_true rfl⟩, hts (.static yX3_quotient) (by decide +kernel), trivial⟩ (RdP.preS (fun k q h => by simp at h) hE) rfl rfl hl.1 rfl (lv_room (Nat.le_of_ble_eq_true rfl)) dX0_fractionPart_29 ⟨Nat.zero_le _, Nat.zero_le _⟩) (fun r6 er6 => ?_)
  subst er6
  exact W.lret (v := (f_quot (lN A0) (lN (Nat.gcd A0 B0)))) hx hb hr (fun t ht hW => ⟨_, rfl, by simp only [if_pos c14], ht⟩) t_nil dX0_fractionPart_32

set_option maxHeartbeats 4000000 in
set_option maxRecDepth 100000 in
/-- allThousandths -/
theorem ct_X0_allThousandths (l : Launch) (G : Gx) (m0 t0 t1 t2 t3 h0 h1 h2 h3 h4 h5 : Nat) (sl : Int32) (la : Int64) (tn : Nat) (ts : Nat → Int32) (ta tb : Nat → Int64) (key : Int64) (n : Nat) (nu st : Nat → Int64) (de : Nat → Int32) (su : Nat → Int64) (mk : Nat → Int32)  (hc : n ≤ 200) (ht : tn ≤ 16) : Met l yX0_allThousandths wsX0_allThousandths ({ frames := 4, cells := 0, slots := 0, locals := 88 }) (RdP G (wM G m0 t0 t1 t2 t3 h0 h1 h2 h3 h4 h5 sl la (nI tn) ts ta tb key (nI n) nu st de su mk) [.ref m0]) (vp_Sl (fun r => r = f_all tn ts ta tb n nu st de)) 0 0 (fun _ => False) := by
  refine Met.ofW (cc := cX0_allThousandths) (maxL := 4) (ret := (some .long)) (by decide) rfl ?_
  intro p e s m args below meth c s₁ B hml hv
  obtain ⟨rfl, hP, hE⟩ := hv
  have hx := B.exec
  have hb := B.bytes
  have hr := B.returns
  have hts := atoms_spec (ws := wsX0_allThousandths) B.pre
  have hown : s.vm.findClass RX0 = some m.cls := findClass_of_methodNamed B.named
  have hlocks := B.notSynchronized
  have hiX0 : ∀ w ∈ wsX00, w ∈ wsX0_allThousandths := by decide +kernel
  have hiX1 : ∀ w ∈ wsX10, w ∈ wsX0_allThousandths := by decide +kernel
  have hl := lv_entry ([.ref m0]) (n := 4) (Nat.le_of_ble_eq_true rfl)
  rw [lg_entry_eq]
  generalize (lg_sl ([.ref m0]) ++ List.replicate (4 - (lg_sl ([.ref m0])).length) Slot.unset).toArray = ls at hl ⊢
  replace hl : lv_has ls 4 [(0, .ref m0)] := hl
  refine lv_lconst (v := 0) hx hb dX0_allThousandths_0 (by decide) ?_
  refine lv_lstore_n (lv' := [(1, .long 0), (0, .ref m0)]) hx hb dX0_allThousandths_1 rfl hl (by decide) rfl (fun ls hl => ?_)
  refine lv_iconst (v := 0) hx hb dX0_allThousandths_2 (by decide) ?_
  refine lv_istore_n (lv' := [(3, .int 0), (1, .long 0), (0, .ref m0)]) hx hb dX0_allThousandths_3 rfl hl (by decide) rfl (fun ls hl => ?_)
  obtain ⟨i, hi⟩ : ∃ i : Nat, i = 0 := ⟨_, rfl⟩
  obtain ⟨acc, hac⟩ : ∃ b : Int64, b = 0 := ⟨_, rfl⟩
  replace hl : lv_has ls 4 [(3, .int (nI i)), (1, .long acc), (0, .ref m0)] := by rw [hi, hac]; exact hl
  obtain ⟨k, hk⟩ : ∃ k : Nat, i + k = n := ⟨n - i, by omega⟩
  have hv : f_allF tn ts ta tb n nu st de k i acc = f_all tn ts ta tb n nu st de := by rw [hi, hac, show k = n by omega]; rfl
  clear hi hac
  induction k generalizing i ls acc with
  | zero =>
    refine lv_iload_n hx hb dX0_allThousandths_4 rfl (lv_at hl 0 rfl) ?_
    refine lv_aload_n hx hb dX0_allThousandths_5 rfl (lv_at hl 2 rfl) ?_
    refine va_get (D := G.1) (ci := 1) (v := .ref h0) (C := RX0) (T := TX0) (N := 4) hx hb hts hiX0 hown hE.1 hP 0 rfl rfl 1 (by decide) (hts (.fieldLink RX0 23 "MeterSeals$Meter" "rows" "LMeterSeals$Rows;") (by decide +kernel)) (fun _ h9 => h9) rfl dX0_allThousandths_6 ?_
    refine va_getN (D := G.1) (ci := 2) (v := .int (nI n)) (C := RX1) (T := TX1) (N := 7) hx hb hts hiX1 hown hE.1 hP 5 rfl rfl 6 (by decide) (va_Nw.use (A := _) rfl hE.2.1.1.2.1) (fun _ h9 => h9) rfl dX0_allThousandths_9 ?_
    refine lv_icmp_ge (tgt := 41) hx hb dX0_allThousandths_12 (by decide) (fun c12 => ?_) (fun c12 => absurd (nI_le (by omega) (by omega)) c12)
    refine lv_lload_n hx hb dX0_allThousandths_41 rfl (lv_at hl 1 rfl) ?_
    exact W.lret (v := acc) hx hb hr (fun t ht hW => ⟨_, rfl, by rw [← hv]; rfl, ht⟩) t_nil dX0_allThousandths_42
  | succ k ih =>
    refine lv_iload_n hx hb dX0_allThousandths_4 rfl (lv_at hl 0 rfl) ?_
    refine lv_aload_n hx hb dX0_allThousandths_5 rfl (lv_at hl 2 rfl) ?_
    refine va_get (D := G.1) (ci := 1) (v := .ref h0) (C := RX0) (T := TX0) (N := 4) hx hb hts hiX0 hown hE.1 hP 0 rfl rfl 1 (by decide) (hts (.fieldLink RX0 23 "MeterSeals$Meter" "rows" "LMeterSeals$Rows;") (by decide +kernel)) (fun _ h9 => h9) rfl dX0_allThousandths_6 ?_
    refine va_getN (D := G.1) (ci := 2) (v := .int (nI n)) (C := RX1) (T := TX1) (N := 7) hx hb hts hiX1 hown hE.1 hP 5 rfl rfl 6 (by decide) (va_Nw.use (A := _) rfl hE.2.1.1.2.1) (fun _ h9 => h9) rfl dX0_allThousandths_9 ?_
    refine lv_icmp_ge (tgt := 41) hx hb dX0_allThousandths_12 (by decide) (fun c12 => absurd c12 (nI_ge (by omega) (by omega))) (fun c12 => ?_)
    refine lv_lload_n hx hb dX0_allThousandths_15 rfl (lv_at hl 1 rfl) ?_
    refine lv_aload_n hx hb dX0_allThousandths_16 rfl (lv_at hl 2 rfl) ?_
    refine lv_iload_n hx hb dX0_allThousandths_17 rfl (lv_at hl 0 rfl) ?_
    refine x_rl (va_runV (As := [.int (nI i)]) (rest := [.long acc]) ⟨hx, hb, hml, hown, hts⟩ (ct_X0_litresAbove l G m0 t0 t1 t2 t3 h0 h1 h2 h3 h4 h5 sl la tn ts ta tb key n nu st de su mk (nI i) hc ht) (cwV 1 hts gX0_allThousandths_X0_litresAbove rfl rfl rfl (by decide +kernel) ⟨Nat.le_of_ble_eq_true rfl, Nat.le_of_ble_eq_true rfl⟩) (RdP.preV 0 1 rfl rfl hP hE) rfl rfl hl.1 rfl (lv_room (Nat.le_of_ble_eq_true rfl)) dX0_allThousandths_18 ⟨Nat.zero_le _, Nat.zero_le _⟩) (fun r1 er1 => ?_)
    subst er1
    refine lv_ldc2 (v := 1000) hx hb hown (hts (.constantLong RX0 78 1000) (by decide +kernel)) dX0_allThousandths_21 ?_
    refine lv_lmul hx hb dX0_allThousandths_24 ?_
    refine lv_aload_n hx hb dX0_allThousandths_25 rfl (lv_at hl 2 rfl) ?_
    refine lv_iload_n hx hb dX0_allThousandths_26 rfl (lv_at hl 0 rfl) ?_
    refine x_rl (va_runV (As := [.int (nI i)]) (rest := [.long ((f_la tn ts ta n nu st de (nI i)) * 1000), .long acc]) ⟨hx, hb, hml, hown, hts⟩ (ct_X0_litresBelow l G m0 t0 t1 t2 t3 h0 h1 h2 h3 h4 h5 sl la tn ts ta tb key n nu st de su mk (nI i) hc ht) (cwV 1 hts gX0_allThousandths_X0_litresBelow rfl rfl rfl (by decide +kernel) ⟨Nat.le_of_ble_eq_true rfl, Nat.le_of_ble_eq_true rfl⟩) (RdP.preV 0 1 rfl rfl hP hE) rfl rfl hl.1 rfl (lv_room (Nat.le_of_ble_eq_true rfl)) dX0_allThousandths_27 ⟨Nat.zero_le _, Nat.zero_le _⟩) (fun r2 er2 => ?_)
    subst er2
    refine x_rl (va_runSN (As := [.long ((f_la tn ts ta n nu st de (nI i)) * 1000), .long (f_lbw tn ts tb n st de (nI i))]) (rest := [.long acc]) ⟨hx, hb, hml, hown, hts⟩ (ct_X3_quotient l G ((f_la tn ts ta n nu st de (nI i)) * 1000) (f_lbw tn ts tb n st de (nI i))) ⟨va_cnB 2 hts gX0_allThousandths_X3_quotient_n74 rfl rfl rfl hE.2.1.2.2.2.1 (hts (.initialized RX3) (by decide +kernel)) (by decide +kernel) ⟨Nat.le_of_ble_eq_true rfl, Nat.le_of_ble_eq_true rfl⟩, hts (.static yX3_quotient) (by decide +kernel), trivial⟩ (RdP.preS (fun k q h => by simp at h) hE) rfl rfl hl.1 rfl (lv_room (Nat.le_of_ble_eq_true rfl)) dX0_allThousandths_30 ⟨Nat.zero_le _, Nat.zero_le _⟩) (fun r3 er3 => ?_)
    subst er3
    refine lv_ladd hx hb dX0_allThousandths_33 ?_
    refine lv_lstore_n (lv' := [(1, .long (acc + (f_quot ((f_la tn ts ta n nu st de (nI i)) * 1000) (f_lbw tn ts tb n st de (nI i))))), (3, .int (nI i)), (0, .ref m0)]) hx hb dX0_allThousandths_34 rfl hl (by decide) rfl (fun ls hl => ?_)
    refine lv_iinc (v := (nI (i + 1))) (lv' := [(3, .int (nI (i + 1))), (1, .long (acc + (f_quot ((f_la tn ts ta n nu st de (nI i)) * 1000) (f_lbw tn ts tb n st de (nI i))))), (0, .ref m0)]) hx hb dX0_allThousandths_35 hl (k := 1) rfl (nI_1 i) (by decide) rfl (fun ls hl => ?_)
    refine lv_goto (tgt := 4) hx hb dX0_allThousandths_38 (by decide) ?_
    exact ih ls (i + 1) (acc + (f_quot ((f_la tn ts ta n nu st de (nI i)) * 1000) (f_lbw tn ts tb n st de (nI i)))) (lv_sub hl [0, 1, 2] rfl) (by omega) (by rw [← hv]; rfl)

set_option maxHeartbeats 4000000 in
set_option maxRecDepth 100000 in
/-- X0_addReading -/
theorem ct_X0_addReading (l : Launch) (G : Gx) (m0 t0 t1 t2 t3 h0 h1 h2 h3 h4 h5 : Nat) (sl : Int32) (la : Int64) (tn : Nat) (ts : Nat → Int32) (ta tb : Nat → Int64) (key : Int64) (n : Nat) (nu st : Nat → Int64) (de : Nat → Int32) (su : Nat → Int64) (mk : Nat → Int32) (number second : Int64) (degrees : Int32) (hc : n ≤ 200) (ht : tn ≤ 16) (hsl : sl = 0 ∨ sl = 1) : Met l yX0_addReading wsX0_addReading ({ frames := 3, cells := 0, slots := 0, locals := 77 }) (WrP G (wM G m0 t0 t1 t2 t3 h0 h1 h2 h3 h4 h5 sl la (nI tn) ts ta tb key (nI n) nu st de su mk) [.ref m0, .long number, .long second, .int degrees]) (va_Qi (fun r (u : va_W) => (r = 0 ∧ (f_fits tn la number second degrees = 0 ∨ n = 200) ∧ u = wM G m0 t0 t1 t2 t3 h0 h1 h2 h3 h4 h5 sl la (nI tn) ts ta tb key (nI n) nu st de su mk) ∨ (r = 1 ∧ ¬ f_fits tn la number second degrees = 0 ∧ n < 200 ∧ u = wM G m0 t0 t1 t2 t3 h0 h1 h2 h3 h4 h5 sl second (nI tn) ts ta tb key (nI (n + 1)) (vp_updL nu n number) (vp_updL st n second) (upd de n degrees) (vp_updL su n (f_due key (n + 1) (vp_updL nu n number) (vp_updL st n second) (upd de n degrees) su (nI n))) (upd mk n (if sl = 0 then 1 else 0)))) (fun u t => va_P G.1 vwCl u t.heap) (adr (wM G m0 t0 t1 t2 t3 h0 h1 h2 h3 h4 h5 sl la (nI tn) ts ta tb key (nI n) nu st de su mk))) 0 0 (adr (wM G m0 t0 t1 t2 t3 h0 h1 h2 h3 h4 h5 sl la (nI tn) ts ta tb key (nI n) nu st de su mk)) := by
  refine Met.ofW (cc := cX0_addReading) (maxL := 7) (ret := (some .boolean)) (by decide) rfl ?_
  intro p e s m args below meth c s₁ B hml hv
  obtain ⟨rfl, hP, hE, hD0⟩ := hv
  have hx := B.exec
  have hb := B.bytes
  have hr := B.returns
  have hts := atoms_spec (ws := wsX0_addReading) B.pre
  have hown : s.vm.findClass RX0 = some m.cls := findClass_of_methodNamed B.named
  have hlocks := B.notSynchronized
  have hD : va_D (adr (wM G m0 t0 t1 t2 t3 h0 h1 h2 h3 h4 h5 sl la (nI tn) ts ta tb key (nI n) nu st de su mk)) (wM G m0 t0 t1 t2 t3 h0 h1 h2 h3 h4 h5 sl la (nI tn) ts ta tb key (nI n) nu st de su mk) := ⟨hD0.1, fun k q hk => ⟨k, q.2, hk⟩⟩
  generalize adr (wM G m0 t0 t1 t2 t3 h0 h1 h2 h3 h4 h5 sl la (nI tn) ts ta tb key (nI n) nu st de su mk) = A at hD ⊢
  have hS : va_S A s.heap s.heap [] := va_S.rf
  have hiX0 : ∀ w ∈ wsX00, w ∈ wsX0_addReading := by decide +kernel
  have hiX2 : ∀ w ∈ wsX20, w ∈ wsX0_addReading := by decide +kernel
  have hl := lv_entry ([.ref m0, .long number, .long second, .int degrees]) (n := 7) (Nat.le_of_ble_eq_true rfl)
  rw [lg_entry_eq]
  generalize (lg_sl ([.ref m0, .long number, .long second, .int degrees]) ++ List.replicate (7 - (lg_sl ([.ref m0, .long number, .long second, .int degrees])).length) Slot.unset).toArray = ls at hl ⊢
  replace hl : lv_has ls 7 [(0, .ref m0), (1, .long number), (3, .long second), (5, .int degrees)] := hl
  refine lv_aload_n hx hb dX0_addReading_0 rfl (lv_at hl 0 rfl) ?_
  refine va_get (D := G.1) (ci := 1) (v := .ref t0) (C := RX0) (T := TX0) (N := 4) hx hb hts hiX0 hown hE.1 hP 0 rfl rfl 0 (by decide) (hts (.fieldLink RX0 12 "MeterSeals$Meter" "table" "LMeterSeals$Table;") (by decide +kernel)) (fun _ h9 => h9) rfl dX0_addReading_1 ?_
  refine va_getN (D := G.1) (ci := 3) (v := .int (nI tn)) (C := RX2) (T := TX2) (N := 4) hx hb hts hiX2 hown hE.1 hP 1 rfl rfl 3 (by decide) (va_Nw.use (A := _) rfl hE.2.1.1.1) (fun _ h9 => h9) rfl dX0_addReading_4 ?_
  refine lv_if_le (tgt := 54) hx hb dX0_addReading_7 (by decide) (fun c7 => ?_) (fun c7 => ?_)
  · refine lv_iconst (v := 0) hx hb dX0_addReading_54 (by decide) ?_
    refine lv_istore (lv' := [(6, .int 0), (0, .ref m0), (1, .long number), (3, .long second), (5, .int degrees)]) hx hb dX0_addReading_55 hl (by decide) rfl (fun ls hl => ?_)
    refine lv_iload hx hb dX0_addReading_57 (lv_at hl 0 rfl) ?_
    refine lv_if_eq (tgt := 88) hx hb dX0_addReading_59 (by decide) (fun c59 => ?_) (fun c59 => absurd c59 (by decide))
    refine lv_iconst (v := 0) hx hb dX0_addReading_88 (by decide) ?_
    exact W.zret (v := 0) hx hb hr (zb (Or.inl rfl)) (fun tZ hZ hW => ⟨⟨0, wM G m0 t0 t1 t2 t3 h0 h1 h2 h3 h4 h5 sl la (nI tn) ts ta tb key (nI n) nu st de su mk, rfl, Or.inl ⟨rfl, Or.inl (by simp [f_fits, c7]), rfl⟩, by show va_P _ _ _ tZ.heap; rw [hZ]; exact hP⟩, hS.F hZ⟩) hS.2.2 dX0_addReading_89
  refine lv_lload_n hx hb dX0_addReading_10 rfl (lv_at hl 1 rfl) ?_
  refine lv_lconst (v := 0) hx hb dX0_addReading_11 (by decide) ?_
  refine lv_ldc2 (v := 1000000) hx hb hown (hts (.constantLong RX0 39 1000000) (by decide +kernel)) dX0_addReading_12 ?_
  refine x_ri (va_runSN (As := [.long number, .long 0, .long 1000000]) (rest := []) ⟨hx, hb, hml, hown, hts⟩ (ct_X3_within l G number 0 1000000) ⟨va_cnB 3 hts gX0_addReading_X3_within_n41 rfl rfl rfl hE.2.1.2.1 (hts (.initialized RX3) (by decide +kernel)) (by decide +kernel) ⟨Nat.le_of_ble_eq_true rfl, Nat.le_of_ble_eq_true rfl⟩, hts (.static yX3_within) (by decide +kernel), trivial⟩ (RdP.preS (fun k q h => by simp at h) hE) rfl rfl hl.1 rfl (lv_room (Nat.le_of_ble_eq_true rfl)) dX0_addReading_15 ⟨Nat.zero_le _, Nat.zero_le _⟩) (fun r1 er1 => ?_)
  subst er1
  refine lv_if_eq (tgt := 54) hx hb dX0_addReading_18 (by decide) (fun c18 => ?_) (fun c18 => ?_)
  · refine lv_iconst (v := 0) hx hb dX0_addReading_54 (by decide) ?_
    refine lv_istore (lv' := [(6, .int 0), (0, .ref m0), (1, .long number), (3, .long second), (5, .int degrees)]) hx hb dX0_addReading_55 hl (by decide) rfl (fun ls hl => ?_)
    refine lv_iload hx hb dX0_addReading_57 (lv_at hl 0 rfl) ?_
    refine lv_if_eq (tgt := 88) hx hb dX0_addReading_59 (by decide) (fun c59 => ?_) (fun c59 => absurd c59 (by decide))
    refine lv_iconst (v := 0) hx hb dX0_addReading_88 (by decide) ?_
    exact W.zret (v := 0) hx hb hr (zb (Or.inl rfl)) (fun tZ hZ hW => ⟨⟨0, wM G m0 t0 t1 t2 t3 h0 h1 h2 h3 h4 h5 sl la (nI tn) ts ta tb key (nI n) nu st de su mk, rfl, Or.inl ⟨rfl, Or.inl (by simp [f_fits, c7, c18]), rfl⟩, by show va_P _ _ _ tZ.heap; rw [hZ]; exact hP⟩, hS.F hZ⟩) hS.2.2 dX0_addReading_89
  refine lv_lload_n hx hb dX0_addReading_21 rfl (lv_at hl 2 rfl) ?_
  refine lv_aload_n hx hb dX0_addReading_22 rfl (lv_at hl 0 rfl) ?_
  refine va_get (D := G.1) (ci := 1) (v := .long la) (C := RX0) (T := TX0) (N := 4) hx hb hts hiX0 hown hE.1 hP 0 rfl rfl 3 (by decide) (hts (.fieldLink RX0 31 "MeterSeals$Meter" "lastSecond" "J") (by decide +kernel)) (fun _ h9 => h9) rfl dX0_addReading_23 ?_
  refine lv_ldc2 (v := 1000000000000) hx hb hown (hts (.constantLong RX0 45 1000000000000) (by decide +kernel)) dX0_addReading_26 ?_
  refine x_ri (va_runSN (As := [.long second, .long la, .long 1000000000000]) (rest := []) ⟨hx, hb, hml, hown, hts⟩ (ct_X3_within l G second la 1000000000000) ⟨va_cnB 3 hts gX0_addReading_X3_within_n41 rfl rfl rfl hE.2.1.2.1 (hts (.initialized RX3) (by decide +kernel)) (by decide +kernel) ⟨Nat.le_of_ble_eq_true rfl, Nat.le_of_ble_eq_true rfl⟩, hts (.static yX3_within) (by decide +kernel), trivial⟩ (RdP.preS (fun k q h => by simp at h) hE) rfl rfl hl.1 rfl (lv_room (Nat.le_of_ble_eq_true rfl)) dX0_addReading_29 ⟨Nat.zero_le _, Nat.zero_le _⟩) (fun r2 er2 => ?_)
  subst er2
  refine lv_if_eq (tgt := 54) hx hb dX0_addReading_32 (by decide) (fun c32 => ?_) (fun c32 => ?_)
  · refine lv_iconst (v := 0) hx hb dX0_addReading_54 (by decide) ?_
    refine lv_istore (lv' := [(6, .int 0), (0, .ref m0), (1, .long number), (3, .long second), (5, .int degrees)]) hx hb dX0_addReading_55 hl (by decide) rfl (fun ls hl => ?_)
    refine lv_iload hx hb dX0_addReading_57 (lv_at hl 0 rfl) ?_
    refine lv_if_eq (tgt := 88) hx hb dX0_addReading_59 (by decide) (fun c59 => ?_) (fun c59 => absurd c59 (by decide))
    refine lv_iconst (v := 0) hx hb dX0_addReading_88 (by decide) ?_
    exact W.zret (v := 0) hx hb hr (zb (Or.inl rfl)) (fun tZ hZ hW => ⟨⟨0, wM G m0 t0 t1 t2 t3 h0 h1 h2 h3 h4 h5 sl la (nI tn) ts ta tb key (nI n) nu st de su mk, rfl, Or.inl ⟨rfl, Or.inl (by simp [f_fits, c7, c18, c32]), rfl⟩, by show va_P _ _ _ tZ.heap; rw [hZ]; exact hP⟩, hS.F hZ⟩) hS.2.2 dX0_addReading_89
  refine lv_iload hx hb dX0_addReading_35 (lv_at hl 3 rfl) ?_
  refine lv_i2l (v := degrees.toInt64) hx hb dX0_addReading_37 rfl ?_
  refine lv_ldc2 (v := (-50)) hx hb hown (hts (.constantLong RX0 47 (-50)) (by decide +kernel)) dX0_addReading_38 ?_
  refine lv_ldc2 (v := 150) hx hb hown (hts (.constantLong RX0 49 150) (by decide +kernel)) dX0_addReading_41 ?_
  refine x_ri (va_runSN (As := [.long degrees.toInt64, .long (-50), .long 150]) (rest := []) ⟨hx, hb, hml, hown, hts⟩ (ct_X3_within l G degrees.toInt64 (-50) 150) ⟨va_cnB 3 hts gX0_addReading_X3_within_n41 rfl rfl rfl hE.2.1.2.1 (hts (.initialized RX3) (by decide +kernel)) (by decide +kernel) ⟨Nat.le_of_ble_eq_true rfl, Nat.le_of_ble_eq_true rfl⟩, hts (.static yX3_within) (by decide +kernel), trivial⟩ (RdP.preS (fun k q h => by simp at h) hE) rfl rfl hl.1 rfl (lv_room (Nat.le_of_ble_eq_true rfl)) dX0_addReading_44 ⟨Nat.zero_le _, Nat.zero_le _⟩) (fun r3 er3 => ?_)
  subst er3
  refine lv_if_eq (tgt := 54) hx hb dX0_addReading_47 (by decide) (fun c47 => ?_) (fun c47 => ?_)
  · refine lv_iconst (v := 0) hx hb dX0_addReading_54 (by decide) ?_
    refine lv_istore (lv' := [(6, .int 0), (0, .ref m0), (1, .long number), (3, .long second), (5, .int degrees)]) hx hb dX0_addReading_55 hl (by decide) rfl (fun ls hl => ?_)
    refine lv_iload hx hb dX0_addReading_57 (lv_at hl 0 rfl) ?_
    refine lv_if_eq (tgt := 88) hx hb dX0_addReading_59 (by decide) (fun c59 => ?_) (fun c59 => absurd c59 (by decide))
    refine lv_iconst (v := 0) hx hb dX0_addReading_88 (by decide) ?_
    exact W.zret (v := 0) hx hb hr (zb (Or.inl rfl)) (fun tZ hZ hW => ⟨⟨0, wM G m0 t0 t1 t2 t3 h0 h1 h2 h3 h4 h5 sl la (nI tn) ts ta tb key (nI n) nu st de su mk, rfl, Or.inl ⟨rfl, Or.inl (by simp [f_fits, c7, c18, c32, c47]), rfl⟩, by show va_P _ _ _ tZ.heap; rw [hZ]; exact hP⟩, hS.F hZ⟩) hS.2.2 dX0_addReading_89
  refine lv_iconst (v := 1) hx hb dX0_addReading_50 (by decide) ?_
  refine lv_goto (tgt := 55) hx hb dX0_addReading_51 (by decide) ?_
  refine lv_istore (lv' := [(6, .int 1), (0, .ref m0), (1, .long number), (3, .long second), (5, .int degrees)]) hx hb dX0_addReading_55 hl (by decide) rfl (fun ls hl => ?_)
  refine lv_iload hx hb dX0_addReading_57 (lv_at hl 0 rfl) ?_
  refine lv_if_eq (tgt := 88) hx hb dX0_addReading_59 (by decide) (fun c59 => absurd c59 (by decide)) (fun c59 => ?_)
  refine lv_aload_n hx hb dX0_addReading_62 rfl (lv_at hl 1 rfl) ?_
  refine va_get (D := G.1) (ci := 1) (v := .ref h0) (C := RX0) (T := TX0) (N := 4) hx hb hts hiX0 hown hE.1 hP 0 rfl rfl 1 (by decide) (hts (.fieldLink RX0 23 "MeterSeals$Meter" "rows" "LMeterSeals$Rows;") (by decide +kernel)) (fun _ h9 => h9) rfl dX0_addReading_63 ?_
  refine lv_lload_n hx hb dX0_addReading_66 rfl (lv_at hl 2 rfl) ?_
  refine lv_lload_n hx hb dX0_addReading_67 rfl (lv_at hl 3 rfl) ?_
  refine lv_iload hx hb dX0_addReading_68 (lv_at hl 4 rfl) ?_
  refine lv_aload_n hx hb dX0_addReading_70 rfl (lv_at hl 1 rfl) ?_
  refine va_get (D := G.1) (ci := 1) (v := .int sl) (C := RX0) (T := TX0) (N := 4) hx hb hts hiX0 hown hE.1 hP 0 rfl rfl 2 (by decide) (hts (.fieldLink RX0 27 "MeterSeals$Meter" "sealed" "Z") (by decide +kernel)) (fun _ h9 => h9) rfl dX0_addReading_71 ?_
  refine lv_if_ne (tgt := 81) hx hb dX0_addReading_74 (by decide) (fun c74 => ?_) (fun c74 => ?_)
  · refine lv_iconst (v := 0) hx hb dX0_addReading_81 (by decide) ?_
    refine va_calli (va_runV (As := [.long number, .long second, .int degrees, .int 0]) (rest := []) ⟨hx, hb, hml, hown, hts⟩ (ct_X1_add l G h0 h1 h2 h3 h4 h5 key n nu st de su mk number second degrees 0 hc (Or.inl rfl)) (cwV 4 hts gX0_addReading_X1_add rfl rfl rfl (by decide +kernel) ⟨Nat.le_of_ble_eq_true rfl, Nat.le_of_ble_eq_true rfl⟩) (WrP.preV 0 2 rfl rfl (x_mid ([(m0, .inr (1, [.ref t0, .ref h0, .int sl, .long la]))] ++ wT G t0 t1 t2 t3 (nI tn) ts ta tb) (wR G h0 h1 h2 h3 h4 h5 key (nI n) nu st de su mk) ([]) rfl hP) hE (x_midD ([(m0, .inr (1, [.ref t0, .ref h0, .int sl, .long la]))] ++ wT G t0 t1 t2 t3 (nI tn) ts ta tb) (wR G h0 h1 h2 h3 h4 h5 key (nI n) nu st de su mk) ([]) rfl hD)) rfl rfl hl.1 rfl (lv_room (Nat.le_of_ble_eq_true rfl)) dX0_addReading_82 ⟨Nat.zero_le _, Nat.zero_le _⟩) hS (fun q _ h => (x_adr ([(m0, .inr (1, [.ref t0, .ref h0, .int sl, .long la]))] ++ wT G t0 t1 t2 t3 (nI tn) ts ta tb) (wR G h0 h1 h2 h3 h4 h5 key (nI n) nu st de su mk) ([]) rfl hD) q h) (x_adr ([(m0, .inr (1, [.ref t0, .ref h0, .int sl, .long la]))] ++ wT G t0 t1 t2 t3 (nI tn) ts ta tb) (wR G h0 h1 h2 h3 h4 h5 key (nI n) nu st de su mk) ([]) rfl hD) (fun r4 u t H1 locs ht hvm hw hB hz1 hk1 hS => ?_)
    rw [ht] at hB
    rcases hw with ⟨hn, rfl, rfl⟩ | ⟨hn, rfl, rfl⟩
    · obtain ⟨hP, hD⟩ := x_join ([(m0, .inr (1, [.ref t0, .ref h0, .int sl, .long la]))] ++ wT G t0 t1 t2 t3 (nI tn) ts ta tb) (wR G h0 h1 h2 h3 h4 h5 key (nI n) nu st de su mk) ([]) (wR G h0 h1 h2 h3 h4 h5 key (nI n) nu st de su mk) rfl hP hD hk1 hB rfl
      generalize H1 = H at hP hS ⊢
      replace hP : va_P G.1 vwCl (wM G m0 t0 t1 t2 t3 h0 h1 h2 h3 h4 h5 sl la (nI tn) ts ta tb key (nI n) nu st de su mk) H := hP
      replace hD : va_D A (wM G m0 t0 t1 t2 t3 h0 h1 h2 h3 h4 h5 sl la (nI tn) ts ta tb key (nI n) nu st de su mk) := hD
      refine lv_if_ne (tgt := 90) hx hb dX0_addReading_85 (by decide) (fun c85 => absurd c85 (by decide)) (fun c85 => ?_)
      refine lv_iconst (v := 0) hx hb dX0_addReading_88 (by decide) ?_
      exact W.zret (v := 0) hx hb hr (zb (Or.inl rfl)) (fun tZ hZ hW => ⟨⟨0, wM G m0 t0 t1 t2 t3 h0 h1 h2 h3 h4 h5 sl la (nI tn) ts ta tb key (nI n) nu st de su mk, rfl, Or.inl ⟨rfl, Or.inr hn, rfl⟩, by show va_P _ _ _ tZ.heap; rw [hZ]; exact hP⟩, hS.F hZ⟩) hS.2.2 dX0_addReading_89
    obtain ⟨hP, hD⟩ := x_join ([(m0, .inr (1, [.ref t0, .ref h0, .int sl, .long la]))] ++ wT G t0 t1 t2 t3 (nI tn) ts ta tb) (wR G h0 h1 h2 h3 h4 h5 key (nI n) nu st de su mk) ([]) (wR G h0 h1 h2 h3 h4 h5 key (nI (n + 1)) (vp_updL nu n number) (vp_updL st n second) (upd de n degrees) (vp_updL su n (f_due key (n + 1) (vp_updL nu n number) (vp_updL st n second) (upd de n degrees) su (nI n))) (upd mk n 0)) rfl hP hD hk1 hB rfl
    generalize H1 = H at hP hS ⊢
    replace hP : va_P G.1 vwCl (wM G m0 t0 t1 t2 t3 h0 h1 h2 h3 h4 h5 sl la (nI tn) ts ta tb key (nI (n + 1)) (vp_updL nu n number) (vp_updL st n second) (upd de n degrees) (vp_updL su n (f_due key (n + 1) (vp_updL nu n number) (vp_updL st n second) (upd de n degrees) su (nI n))) (upd mk n 0)) H := hP
    replace hD : va_D A (wM G m0 t0 t1 t2 t3 h0 h1 h2 h3 h4 h5 sl la (nI tn) ts ta tb key (nI (n + 1)) (vp_updL nu n number) (vp_updL st n second) (upd de n degrees) (vp_updL su n (f_due key (n + 1) (vp_updL nu n number) (vp_updL st n second) (upd de n degrees) su (nI n))) (upd mk n 0)) := hD
    refine lv_if_ne (tgt := 90) hx hb dX0_addReading_85 (by decide) (fun c85 => ?_) (fun c85 => absurd c85 (by decide))
    refine lv_aload_n hx hb dX0_addReading_90 rfl (lv_at hl 1 rfl) ?_
    refine lv_lload_n hx hb dX0_addReading_91 rfl (lv_at hl 3 rfl) ?_
    refine va_put (D := G.1) (ci := 1) (v := .long second) (ty := .long) (C := RX0) (T := TX0) (N := 4) hx hb hts hiX0 tyX0 tyX0_ok nmX0 hown hE.1 hP hD hS 0 rfl rfl 3 (by decide) (hts (.fieldLink RX0 31 "MeterSeals$Meter" "lastSecond" "J") (by decide +kernel)) (fun _ h9 => h9) rfl (by decide +kernel) rfl rfl (Nat.le_of_ble_eq_true rfl) dX0_addReading_92 (fun H locs hP hD hS => ?_)
    replace hP : va_P G.1 vwCl (wM G m0 t0 t1 t2 t3 h0 h1 h2 h3 h4 h5 sl second (nI tn) ts ta tb key (nI (n + 1)) (vp_updL nu n number) (vp_updL st n second) (upd de n degrees) (vp_updL su n (f_due key (n + 1) (vp_updL nu n number) (vp_updL st n second) (upd de n degrees) su (nI n))) (upd mk n 0)) H := hP
    replace hD : va_D A (wM G m0 t0 t1 t2 t3 h0 h1 h2 h3 h4 h5 sl second (nI tn) ts ta tb key (nI (n + 1)) (vp_updL nu n number) (vp_updL st n second) (upd de n degrees) (vp_updL su n (f_due key (n + 1) (vp_updL nu n number) (vp_updL st n second) (upd de n degrees) su (nI n))) (upd mk n 0)) := hD
    refine lv_iconst (v := 1) hx hb dX0_addReading_95 (by decide) ?_
    exact W.zret (v := 1) hx hb hr (zb (Or.inr rfl)) (fun tZ hZ hW => ⟨⟨1, wM G m0 t0 t1 t2 t3 h0 h1 h2 h3 h4 h5 sl second (nI tn) ts ta tb key (nI (n + 1)) (vp_updL nu n number) (vp_updL st n second) (upd de n degrees) (vp_updL su n (f_due key (n + 1) (vp_updL nu n number) (vp_updL st n second) (upd de n degrees) su (nI n))) (upd mk n 0), rfl, Or.inr ⟨rfl, by simp [f_fits, c7, c18, c32, c47], hn, by rw [if_neg c74]⟩, by show va_P _ _ _ tZ.heap; rw [hZ]; exact hP⟩, hS.F hZ⟩) hS.2.2 dX0_addReading_96
  refine lv_iconst (v := 1) hx hb dX0_addReading_77 (by decide) ?_
  refine lv_goto (tgt := 82) hx hb dX0_addReading_78 (by decide) ?_
  refine va_calli (va_runV (As := [.long number, .long second, .int degrees, .int 1]) (rest := []) ⟨hx, hb, hml, hown, hts⟩ (ct_X1_add l G h0 h1 h2 h3 h4 h5 key n nu st de su mk number second degrees 1 hc (Or.inr rfl)) (cwV 4 hts gX0_addReading_X1_add rfl rfl rfl (by decide +kernel) ⟨Nat.le_of_ble_eq_true rfl, Nat.le_of_ble_eq_true rfl⟩) (WrP.preV 0 2 rfl rfl (x_mid ([(m0, .inr (1, [.ref t0, .ref h0, .int sl, .long la]))] ++ wT G t0 t1 t2 t3 (nI tn) ts ta tb) (wR G h0 h1 h2 h3 h4 h5 key (nI n) nu st de su mk) ([]) rfl hP) hE (x_midD ([(m0, .inr (1, [.ref t0, .ref h0, .int sl, .long la]))] ++ wT G t0 t1 t2 t3 (nI tn) ts ta tb) (wR G h0 h1 h2 h3 h4 h5 key (nI n) nu st de su mk) ([]) rfl hD)) rfl rfl hl.1 rfl (lv_room (Nat.le_of_ble_eq_true rfl)) dX0_addReading_82 ⟨Nat.zero_le _, Nat.zero_le _⟩) hS (fun q _ h => (x_adr ([(m0, .inr (1, [.ref t0, .ref h0, .int sl, .long la]))] ++ wT G t0 t1 t2 t3 (nI tn) ts ta tb) (wR G h0 h1 h2 h3 h4 h5 key (nI n) nu st de su mk) ([]) rfl hD) q h) (x_adr ([(m0, .inr (1, [.ref t0, .ref h0, .int sl, .long la]))] ++ wT G t0 t1 t2 t3 (nI tn) ts ta tb) (wR G h0 h1 h2 h3 h4 h5 key (nI n) nu st de su mk) ([]) rfl hD) (fun r5 u t H1 locs ht hvm hw hB hz1 hk1 hS => ?_)
  rw [ht] at hB
  rcases hw with ⟨hn, rfl, rfl⟩ | ⟨hn, rfl, rfl⟩
  · obtain ⟨hP, hD⟩ := x_join ([(m0, .inr (1, [.ref t0, .ref h0, .int sl, .long la]))] ++ wT G t0 t1 t2 t3 (nI tn) ts ta tb) (wR G h0 h1 h2 h3 h4 h5 key (nI n) nu st de su mk) ([]) (wR G h0 h1 h2 h3 h4 h5 key (nI n) nu st de su mk) rfl hP hD hk1 hB rfl
    generalize H1 = H at hP hS ⊢
    replace hP : va_P G.1 vwCl (wM G m0 t0 t1 t2 t3 h0 h1 h2 h3 h4 h5 sl la (nI tn) ts ta tb key (nI n) nu st de su mk) H := hP
    replace hD : va_D A (wM G m0 t0 t1 t2 t3 h0 h1 h2 h3 h4 h5 sl la (nI tn) ts ta tb key (nI n) nu st de su mk) := hD
    refine lv_if_ne (tgt := 90) hx hb dX0_addReading_85 (by decide) (fun c85 => absurd c85 (by decide)) (fun c85 => ?_)
    refine lv_iconst (v := 0) hx hb dX0_addReading_88 (by decide) ?_
    exact W.zret (v := 0) hx hb hr (zb (Or.inl rfl)) (fun tZ hZ hW => ⟨⟨0, wM G m0 t0 t1 t2 t3 h0 h1 h2 h3 h4 h5 sl la (nI tn) ts ta tb key (nI n) nu st de su mk, rfl, Or.inl ⟨rfl, Or.inr hn, rfl⟩, by show va_P _ _ _ tZ.heap; rw [hZ]; exact hP⟩, hS.F hZ⟩) hS.2.2 dX0_addReading_89
  obtain ⟨hP, hD⟩ := x_join ([(m0, .inr (1, [.ref t0, .ref h0, .int sl, .long la]))] ++ wT G t0 t1 t2 t3 (nI tn) ts ta tb) (wR G h0 h1 h2 h3 h4 h5 key (nI n) nu st de su mk) ([]) (wR G h0 h1 h2 h3 h4 h5 key (nI (n + 1)) (vp_updL nu n number) (vp_updL st n second) (upd de n degrees) (vp_updL su n (f_due key (n + 1) (vp_updL nu n number) (vp_updL st n second) (upd de n degrees) su (nI n))) (upd mk n 1)) rfl hP hD hk1 hB rfl
  generalize H1 = H at hP hS ⊢
  replace hP : va_P G.1 vwCl (wM G m0 t0 t1 t2 t3 h0 h1 h2 h3 h4 h5 sl la (nI tn) ts ta tb key (nI (n + 1)) (vp_updL nu n number) (vp_updL st n second) (upd de n degrees) (vp_updL su n (f_due key (n + 1) (vp_updL nu n number) (vp_updL st n second) (upd de n degrees) su (nI n))) (upd mk n 1)) H := hP
  replace hD : va_D A (wM G m0 t0 t1 t2 t3 h0 h1 h2 h3 h4 h5 sl la (nI tn) ts ta tb key (nI (n + 1)) (vp_updL nu n number) (vp_updL st n second) (upd de n degrees) (vp_updL su n (f_due key (n + 1) (vp_updL nu n number) (vp_updL st n second) (upd de n degrees) su (nI n))) (upd mk n 1)) := hD
  refine lv_if_ne (tgt := 90) hx hb dX0_addReading_85 (by decide) (fun c85 => ?_) (fun c85 => absurd c85 (by decide))
  refine lv_aload_n hx hb dX0_addReading_90 rfl (lv_at hl 1 rfl) ?_
  refine lv_lload_n hx hb dX0_addReading_91 rfl (lv_at hl 3 rfl) ?_
  refine va_put (D := G.1) (ci := 1) (v := .long second) (ty := .long) (C := RX0) (T := TX0) (N := 4) hx hb hts hiX0 tyX0 tyX0_ok nmX0 hown hE.1 hP hD hS 0 rfl rfl 3 (by decide) (hts (.fieldLink RX0 31 "MeterSeals$Meter" "lastSecond" "J") (by decide +kernel)) (fun _ h9 => h9) rfl (by decide +kernel) rfl rfl (Nat.le_of_ble_eq_true rfl) dX0_addReading_92 (fun H locs hP hD hS => ?_)
  replace hP : va_P G.1 vwCl (wM G m0 t0 t1 t2 t3 h0 h1 h2 h3 h4 h5 sl second (nI tn) ts ta tb key (nI (n + 1)) (vp_updL nu n number) (vp_updL st n second) (upd de n degrees) (vp_updL su n (f_due key (n + 1) (vp_updL nu n number) (vp_updL st n second) (upd de n degrees) su (nI n))) (upd mk n 1)) H := hP
  replace hD : va_D A (wM G m0 t0 t1 t2 t3 h0 h1 h2 h3 h4 h5 sl second (nI tn) ts ta tb key (nI (n + 1)) (vp_updL nu n number) (vp_updL st n second) (upd de n degrees) (vp_updL su n (f_due key (n + 1) (vp_updL nu n number) (vp_updL st n second) (upd de n degrees) su (nI n))) (upd mk n 1)) := hD
  refine lv_iconst (v := 1) hx hb dX0_addReading_95 (by decide) ?_
  exact W.zret (v := 1) hx hb hr (zb (Or.inr rfl)) (fun tZ hZ hW => ⟨⟨1, wM G m0 t0 t1 t2 t3 h0 h1 h2 h3 h4 h5 sl second (nI tn) ts ta tb key (nI (n + 1)) (vp_updL nu n number) (vp_updL st n second) (upd de n degrees) (vp_updL su n (f_due key (n + 1) (vp_updL nu n number) (vp_updL st n second) (upd de n degrees) su (nI n))) (upd mk n 1), rfl, Or.inr ⟨rfl, by simp [f_fits, c7, c18, c32, c47], hn, by rw [if_pos c74]⟩, by show va_P _ _ _ tZ.heap; rw [hZ]; exact hP⟩, hS.F hZ⟩) hS.2.2 dX0_addReading_96

set_option maxHeartbeats 4000000 in
set_option maxRecDepth 100000 in
/-- X0_addReset -/
theorem ct_X0_addReset (l : Launch) (G : Gx) (m0 t0 t1 t2 t3 h0 h1 h2 h3 h4 h5 : Nat) (sl : Int32) (la : Int64) (tn : Nat) (ts : Nat → Int32) (ta tb : Nat → Int64) (key : Int64) (n : Nat) (nu st : Nat → Int64) (de : Nat → Int32) (su : Nat → Int64) (mk : Nat → Int32) (number : Int64) (hc : n ≤ 200) (ht : tn ≤ 16) (hsl : sl = 0 ∨ sl = 1) : Met l yX0_addReset wsX0_addReset ({ frames := 3, cells := 0, slots := 0, locals := 77 }) (WrP G (wM G m0 t0 t1 t2 t3 h0 h1 h2 h3 h4 h5 sl la (nI tn) ts ta tb key (nI n) nu st de su mk) [.ref m0, .long number]) (va_Qi (fun r (u : va_W) => (r = 0 ∧ (f_within number 0 1000000000000 = 0 ∨ n = 200) ∧ u = wM G m0 t0 t1 t2 t3 h0 h1 h2 h3 h4 h5 sl la (nI tn) ts ta tb key (nI n) nu st de su mk) ∨ (r = 1 ∧ ¬ f_within number 0 1000000000000 = 0 ∧ n < 200 ∧ u = wM G m0 t0 t1 t2 t3 h0 h1 h2 h3 h4 h5 sl la (nI tn) ts ta tb key (nI (n + 1)) (vp_updL nu n number) (vp_updL st n (-1)) (upd de n 0) (vp_updL su n (f_due key (n + 1) (vp_updL nu n number) (vp_updL st n (-1)) (upd de n 0) su (nI n))) (upd mk n (if sl = 0 then 1 else 0)))) (fun u t => va_P G.1 vwCl u t.heap) (adr (wM G m0 t0 t1 t2 t3 h0 h1 h2 h3 h4 h5 sl la (nI tn) ts ta tb key (nI n) nu st de su mk))) 0 0 (adr (wM G m0 t0 t1 t2 t3 h0 h1 h2 h3 h4 h5 sl la (nI tn) ts ta tb key (nI n) nu st de su mk)) := by
  refine Met.ofW (cc := cX0_addReset) (maxL := 3) (ret := (some .boolean)) (by decide) rfl ?_
  intro p e s m args below meth c s₁ B hml hv
  obtain ⟨rfl, hP, hE, hD0⟩ := hv
  have hx := B.exec
  have hb := B.bytes
  have hr := B.returns
  have hts := atoms_spec (ws := wsX0_addReset) B.pre
  have hown : s.vm.findClass RX0 = some m.cls := findClass_of_methodNamed B.named
  have hlocks := B.notSynchronized
  have hD : va_D (adr (wM G m0 t0 t1 t2 t3 h0 h1 h2 h3 h4 h5 sl la (nI tn) ts ta tb key (nI n) nu st de su mk)) (wM G m0 t0 t1 t2 t3 h0 h1 h2 h3 h4 h5 sl la (nI tn) ts ta tb key (nI n) nu st de su mk) := ⟨hD0.1, fun k q hk => ⟨k, q.2, hk⟩⟩
  generalize adr (wM G m0 t0 t1 t2 t3 h0 h1 h2 h3 h4 h5 sl la (nI tn) ts ta tb key (nI n) nu st de su mk) = A at hD ⊢
  have hS : va_S A s.heap s.heap [] := va_S.rf
  have hiX0 : ∀ w ∈ wsX00, w ∈ wsX0_addReset := by decide +kernel
  have hl := lv_entry ([.ref m0, .long number]) (n := 3) (Nat.le_of_ble_eq_true rfl)
  rw [lg_entry_eq]
  generalize (lg_sl ([.ref m0, .long number]) ++ List.replicate (3 - (lg_sl ([.ref m0, .long number])).length) Slot.unset).toArray = ls at hl ⊢
  replace hl : lv_has ls 3 [(0, .ref m0), (1, .long number)] := hl
  refine lv_lload_n hx hb dX0_addReset_0 rfl (lv_at hl 1 rfl) ?_
  refine lv_lconst (v := 0) hx hb dX0_addReset_1 (by decide) ?_
  refine lv_ldc2 (v := 1000000000000) hx hb hown (hts (.constantLong RX0 45 1000000000000) (by decide +kernel)) dX0_addReset_2 ?_
  refine x_ri (va_runSN (As := [.long number, .long 0, .long 1000000000000]) (rest := []) ⟨hx, hb, hml, hown, hts⟩ (ct_X3_within l G number 0 1000000000000) ⟨va_cnB 3 hts gX0_addReset_X3_within_n41 rfl rfl rfl hE.2.1.2.1 (hts (.initialized RX3) (by decide +kernel)) (by decide +kernel) ⟨Nat.le_of_ble_eq_true rfl, Nat.le_of_ble_eq_true rfl⟩, hts (.static yX3_within) (by decide +kernel), trivial⟩ (RdP.preS (fun k q h => by simp at h) hE) rfl rfl hl.1 rfl (lv_room (Nat.le_of_ble_eq_true rfl)) dX0_addReset_5 ⟨Nat.zero_le _, Nat.zero_le _⟩) (fun r1 er1 => ?_)
  subst er1
  refine lv_if_eq (tgt := 42) hx hb dX0_addReset_8 (by decide) (fun c8 => ?_) (fun c8 => ?_)
  · refine lv_iconst (v := 0) hx hb dX0_addReset_42 (by decide) ?_
    exact W.zret (v := 0) hx hb hr (zb (Or.inl rfl)) (fun tZ hZ hW => ⟨⟨0, wM G m0 t0 t1 t2 t3 h0 h1 h2 h3 h4 h5 sl la (nI tn) ts ta tb key (nI n) nu st de su mk, rfl, Or.inl ⟨rfl, Or.inl (by simp [c8, c8]), rfl⟩, by show va_P _ _ _ tZ.heap; rw [hZ]; exact hP⟩, hS.F hZ⟩) hS.2.2 dX0_addReset_43
  refine lv_aload_n hx hb dX0_addReset_11 rfl (lv_at hl 0 rfl) ?_
  refine va_get (D := G.1) (ci := 1) (v := .ref h0) (C := RX0) (T := TX0) (N := 4) hx hb hts hiX0 hown hE.1 hP 0 rfl rfl 1 (by decide) (hts (.fieldLink RX0 23 "MeterSeals$Meter" "rows" "LMeterSeals$Rows;") (by decide +kernel)) (fun _ h9 => h9) rfl dX0_addReset_12 ?_
  refine lv_lload_n hx hb dX0_addReset_15 rfl (lv_at hl 1 rfl) ?_
  refine lv_ldc2 (v := (-1)) hx hb hown (hts (.constantLong RX0 55 (-1)) (by decide +kernel)) dX0_addReset_16 ?_
  refine lv_iconst (v := 0) hx hb dX0_addReset_19 (by decide) ?_
  refine lv_aload_n hx hb dX0_addReset_20 rfl (lv_at hl 0 rfl) ?_
  refine va_get (D := G.1) (ci := 1) (v := .int sl) (C := RX0) (T := TX0) (N := 4) hx hb hts hiX0 hown hE.1 hP 0 rfl rfl 2 (by decide) (hts (.fieldLink RX0 27 "MeterSeals$Meter" "sealed" "Z") (by decide +kernel)) (fun _ h9 => h9) rfl dX0_addReset_21 ?_
  refine lv_if_ne (tgt := 31) hx hb dX0_addReset_24 (by decide) (fun c24 => ?_) (fun c24 => ?_)
  · refine lv_iconst (v := 0) hx hb dX0_addReset_31 (by decide) ?_
    refine va_calli (va_runV (As := [.long number, .long (-1), .int 0, .int 0]) (rest := []) ⟨hx, hb, hml, hown, hts⟩ (ct_X1_add l G h0 h1 h2 h3 h4 h5 key n nu st de su mk number (-1) 0 0 hc (Or.inl rfl)) (cwV 4 hts gX0_addReset_X1_add rfl rfl rfl (by decide +kernel) ⟨Nat.le_of_ble_eq_true rfl, Nat.le_of_ble_eq_true rfl⟩) (WrP.preV 0 2 rfl rfl (x_mid ([(m0, .inr (1, [.ref t0, .ref h0, .int sl, .long la]))] ++ wT G t0 t1 t2 t3 (nI tn) ts ta tb) (wR G h0 h1 h2 h3 h4 h5 key (nI n) nu st de su mk) ([]) rfl hP) hE (x_midD ([(m0, .inr (1, [.ref t0, .ref h0, .int sl, .long la]))] ++ wT G t0 t1 t2 t3 (nI tn) ts ta tb) (wR G h0 h1 h2 h3 h4 h5 key (nI n) nu st de su mk) ([]) rfl hD)) rfl rfl hl.1 rfl (lv_room (Nat.le_of_ble_eq_true rfl)) dX0_addReset_32 ⟨Nat.zero_le _, Nat.zero_le _⟩) hS (fun q _ h => (x_adr ([(m0, .inr (1, [.ref t0, .ref h0, .int sl, .long la]))] ++ wT G t0 t1 t2 t3 (nI tn) ts ta tb) (wR G h0 h1 h2 h3 h4 h5 key (nI n) nu st de su mk) ([]) rfl hD) q h) (x_adr ([(m0, .inr (1, [.ref t0, .ref h0, .int sl, .long la]))] ++ wT G t0 t1 t2 t3 (nI tn) ts ta tb) (wR G h0 h1 h2 h3 h4 h5 key (nI n) nu st de su mk) ([]) rfl hD) (fun r2 u t H1 locs ht hvm hw hB hz1 hk1 hS => ?_)
    rw [ht] at hB
    rcases hw with ⟨hn, rfl, rfl⟩ | ⟨hn, rfl, rfl⟩
    · obtain ⟨hP, hD⟩ := x_join ([(m0, .inr (1, [.ref t0, .ref h0, .int sl, .long la]))] ++ wT G t0 t1 t2 t3 (nI tn) ts ta tb) (wR G h0 h1 h2 h3 h4 h5 key (nI n) nu st de su mk) ([]) (wR G h0 h1 h2 h3 h4 h5 key (nI n) nu st de su mk) rfl hP hD hk1 hB rfl
      generalize H1 = H at hP hS ⊢
      replace hP : va_P G.1 vwCl (wM G m0 t0 t1 t2 t3 h0 h1 h2 h3 h4 h5 sl la (nI tn) ts ta tb key (nI n) nu st de su mk) H := hP
      replace hD : va_D A (wM G m0 t0 t1 t2 t3 h0 h1 h2 h3 h4 h5 sl la (nI tn) ts ta tb key (nI n) nu st de su mk) := hD
      refine lv_if_eq (tgt := 42) hx hb dX0_addReset_35 (by decide) (fun c35 => ?_) (fun c35 => absurd c35 (by decide))
      refine lv_iconst (v := 0) hx hb dX0_addReset_42 (by decide) ?_
      exact W.zret (v := 0) hx hb hr (zb (Or.inl rfl)) (fun tZ hZ hW => ⟨⟨0, wM G m0 t0 t1 t2 t3 h0 h1 h2 h3 h4 h5 sl la (nI tn) ts ta tb key (nI n) nu st de su mk, rfl, Or.inl ⟨rfl, Or.inr hn, rfl⟩, by show va_P _ _ _ tZ.heap; rw [hZ]; exact hP⟩, hS.F hZ⟩) hS.2.2 dX0_addReset_43
    obtain ⟨hP, hD⟩ := x_join ([(m0, .inr (1, [.ref t0, .ref h0, .int sl, .long la]))] ++ wT G t0 t1 t2 t3 (nI tn) ts ta tb) (wR G h0 h1 h2 h3 h4 h5 key (nI n) nu st de su mk) ([]) (wR G h0 h1 h2 h3 h4 h5 key (nI (n + 1)) (vp_updL nu n number) (vp_updL st n (-1)) (upd de n 0) (vp_updL su n (f_due key (n + 1) (vp_updL nu n number) (vp_updL st n (-1)) (upd de n 0) su (nI n))) (upd mk n 0)) rfl hP hD hk1 hB rfl
    generalize H1 = H at hP hS ⊢
    replace hP : va_P G.1 vwCl (wM G m0 t0 t1 t2 t3 h0 h1 h2 h3 h4 h5 sl la (nI tn) ts ta tb key (nI (n + 1)) (vp_updL nu n number) (vp_updL st n (-1)) (upd de n 0) (vp_updL su n (f_due key (n + 1) (vp_updL nu n number) (vp_updL st n (-1)) (upd de n 0) su (nI n))) (upd mk n 0)) H := hP
    replace hD : va_D A (wM G m0 t0 t1 t2 t3 h0 h1 h2 h3 h4 h5 sl la (nI tn) ts ta tb key (nI (n + 1)) (vp_updL nu n number) (vp_updL st n (-1)) (upd de n 0) (vp_updL su n (f_due key (n + 1) (vp_updL nu n number) (vp_updL st n (-1)) (upd de n 0) su (nI n))) (upd mk n 0)) := hD
    refine lv_if_eq (tgt := 42) hx hb dX0_addReset_35 (by decide) (fun c35 => absurd c35 (by decide)) (fun c35 => ?_)
    refine lv_iconst (v := 1) hx hb dX0_addReset_38 (by decide) ?_
    refine lv_goto (tgt := 43) hx hb dX0_addReset_39 (by decide) ?_
    exact W.zret (v := 1) hx hb hr (zb (Or.inr rfl)) (fun tZ hZ hW => ⟨⟨1, wM G m0 t0 t1 t2 t3 h0 h1 h2 h3 h4 h5 sl la (nI tn) ts ta tb key (nI (n + 1)) (vp_updL nu n number) (vp_updL st n (-1)) (upd de n 0) (vp_updL su n (f_due key (n + 1) (vp_updL nu n number) (vp_updL st n (-1)) (upd de n 0) su (nI n))) (upd mk n 0), rfl, Or.inr ⟨rfl, by simp [c8, c8], hn, by rw [if_neg c24]⟩, by show va_P _ _ _ tZ.heap; rw [hZ]; exact hP⟩, hS.F hZ⟩) hS.2.2 dX0_addReset_43
  refine lv_iconst (v := 1) hx hb dX0_addReset_27 (by decide) ?_
  refine lv_goto (tgt := 32) hx hb dX0_addReset_28 (by decide) ?_
  refine va_calli (va_runV (As := [.long number, .long (-1), .int 0, .int 1]) (rest := []) ⟨hx, hb, hml, hown, hts⟩ (ct_X1_add l G h0 h1 h2 h3 h4 h5 key n nu st de su mk number (-1) 0 1 hc (Or.inr rfl)) (cwV 4 hts gX0_addReset_X1_add rfl rfl rfl (by decide +kernel) ⟨Nat.le_of_ble_eq_true rfl, Nat.le_of_ble_eq_true rfl⟩) (WrP.preV 0 2 rfl rfl (x_mid ([(m0, .inr (1, [.ref t0, .ref h0, .int sl, .long la]))] ++ wT G t0 t1 t2 t3 (nI tn) ts ta tb) (wR G h0 h1 h2 h3 h4 h5 key (nI n) nu st de su mk) ([]) rfl hP) hE (x_midD ([(m0, .inr (1, [.ref t0, .ref h0, .int sl, .long la]))] ++ wT G t0 t1 t2 t3 (nI tn) ts ta tb) (wR G h0 h1 h2 h3 h4 h5 key (nI n) nu st de su mk) ([]) rfl hD)) rfl rfl hl.1 rfl (lv_room (Nat.le_of_ble_eq_true rfl)) dX0_addReset_32 ⟨Nat.zero_le _, Nat.zero_le _⟩) hS (fun q _ h => (x_adr ([(m0, .inr (1, [.ref t0, .ref h0, .int sl, .long la]))] ++ wT G t0 t1 t2 t3 (nI tn) ts ta tb) (wR G h0 h1 h2 h3 h4 h5 key (nI n) nu st de su mk) ([]) rfl hD) q h) (x_adr ([(m0, .inr (1, [.ref t0, .ref h0, .int sl, .long la]))] ++ wT G t0 t1 t2 t3 (nI tn) ts ta tb) (wR G h0 h1 h2 h3 h4 h5 key (nI n) nu st de su mk) ([]) rfl hD) (fun r3 u t H1 locs ht hvm hw hB hz1 hk1 hS => ?_)
  rw [ht] at hB
  rcases hw with ⟨hn, rfl, rfl⟩ | ⟨hn, rfl, rfl⟩
  · obtain ⟨hP, hD⟩ := x_join ([(m0, .inr (1, [.ref t0, .ref h0, .int sl, .long la]))] ++ wT G t0 t1 t2 t3 (nI tn) ts ta tb) (wR G h0 h1 h2 h3 h4 h5 key (nI n) nu st de su mk) ([]) (wR G h0 h1 h2 h3 h4 h5 key (nI n) nu st de su mk) rfl hP hD hk1 hB rfl
    generalize H1 = H at hP hS ⊢
    replace hP : va_P G.1 vwCl (wM G m0 t0 t1 t2 t3 h0 h1 h2 h3 h4 h5 sl la (nI tn) ts ta tb key (nI n) nu st de su mk) H := hP
    replace hD : va_D A (wM G m0 t0 t1 t2 t3 h0 h1 h2 h3 h4 h5 sl la (nI tn) ts ta tb key (nI n) nu st de su mk) := hD
    refine lv_if_eq (tgt := 42) hx hb dX0_addReset_35 (by decide) (fun c35 => ?_) (fun c35 => absurd c35 (by decide))
    refine lv_iconst (v := 0) hx hb dX0_addReset_42 (by decide) ?_
    exact W.zret (v := 0) hx hb hr (zb (Or.inl rfl)) (fun tZ hZ hW => ⟨⟨0, wM G m0 t0 t1 t2 t3 h0 h1 h2 h3 h4 h5 sl la (nI tn) ts ta tb key (nI n) nu st de su mk, rfl, Or.inl ⟨rfl, Or.inr hn, rfl⟩, by show va_P _ _ _ tZ.heap; rw [hZ]; exact hP⟩, hS.F hZ⟩) hS.2.2 dX0_addReset_43
  obtain ⟨hP, hD⟩ := x_join ([(m0, .inr (1, [.ref t0, .ref h0, .int sl, .long la]))] ++ wT G t0 t1 t2 t3 (nI tn) ts ta tb) (wR G h0 h1 h2 h3 h4 h5 key (nI n) nu st de su mk) ([]) (wR G h0 h1 h2 h3 h4 h5 key (nI (n + 1)) (vp_updL nu n number) (vp_updL st n (-1)) (upd de n 0) (vp_updL su n (f_due key (n + 1) (vp_updL nu n number) (vp_updL st n (-1)) (upd de n 0) su (nI n))) (upd mk n 1)) rfl hP hD hk1 hB rfl
  generalize H1 = H at hP hS ⊢
  replace hP : va_P G.1 vwCl (wM G m0 t0 t1 t2 t3 h0 h1 h2 h3 h4 h5 sl la (nI tn) ts ta tb key (nI (n + 1)) (vp_updL nu n number) (vp_updL st n (-1)) (upd de n 0) (vp_updL su n (f_due key (n + 1) (vp_updL nu n number) (vp_updL st n (-1)) (upd de n 0) su (nI n))) (upd mk n 1)) H := hP
  replace hD : va_D A (wM G m0 t0 t1 t2 t3 h0 h1 h2 h3 h4 h5 sl la (nI tn) ts ta tb key (nI (n + 1)) (vp_updL nu n number) (vp_updL st n (-1)) (upd de n 0) (vp_updL su n (f_due key (n + 1) (vp_updL nu n number) (vp_updL st n (-1)) (upd de n 0) su (nI n))) (upd mk n 1)) := hD
  refine lv_if_eq (tgt := 42) hx hb dX0_addReset_35 (by decide) (fun c35 => absurd c35 (by decide)) (fun c35 => ?_)
  refine lv_iconst (v := 1) hx hb dX0_addReset_38 (by decide) ?_
  refine lv_goto (tgt := 43) hx hb dX0_addReset_39 (by decide) ?_
  exact W.zret (v := 1) hx hb hr (zb (Or.inr rfl)) (fun tZ hZ hW => ⟨⟨1, wM G m0 t0 t1 t2 t3 h0 h1 h2 h3 h4 h5 sl la (nI tn) ts ta tb key (nI (n + 1)) (vp_updL nu n number) (vp_updL st n (-1)) (upd de n 0) (vp_updL su n (f_due key (n + 1) (vp_updL nu n number) (vp_updL st n (-1)) (upd de n 0) su (nI n))) (upd mk n 1), rfl, Or.inr ⟨rfl, by simp [c8, c8], hn, by rw [if_pos c24]⟩, by show va_P _ _ _ tZ.heap; rw [hZ]; exact hP⟩, hS.F hZ⟩) hS.2.2 dX0_addReset_43

set_option maxHeartbeats 4000000 in
set_option maxRecDepth 100000 in
/-- X0_turnSeal -/
theorem ct_X0_turnSeal (l : Launch) (G : Gx) (m0 t0 t1 t2 t3 h0 h1 h2 h3 h4 h5 : Nat) (sl : Int32) (la : Int64) (tn : Nat) (ts : Nat → Int32) (ta tb : Nat → Int64) (key : Int64) (n : Nat) (nu st : Nat → Int64) (de : Nat → Int32) (su : Nat → Int64) (mk : Nat → Int32) (person set_ : Int32) (hc : n ≤ 200) (ht : tn ≤ 16) (hsl : sl = 0 ∨ sl = 1) (hset : set_ = 0 ∨ set_ = 1) : Met l yX0_turnSeal wsX0_turnSeal ({ frames := 3, cells := 0, slots := 0, locals := 77 }) (WrP G (wM G m0 t0 t1 t2 t3 h0 h1 h2 h3 h4 h5 sl la (nI tn) ts ta tb key (nI n) nu st de su mk) [.ref m0, .int person, .int set_]) (va_Qi (fun r (u : va_W) => (r = 0 ∧ (f_tfit sl person set_ = 0 ∨ n = 200) ∧ u = wM G m0 t0 t1 t2 t3 h0 h1 h2 h3 h4 h5 sl la (nI tn) ts ta tb key (nI n) nu st de su mk) ∨ (r = 1 ∧ ¬ f_tfit sl person set_ = 0 ∧ n < 200 ∧ u = wM G m0 t0 t1 t2 t3 h0 h1 h2 h3 h4 h5 set_ la (nI tn) ts ta tb key (nI (n + 1)) (vp_updL nu n person.toInt64) (vp_updL st n (if set_ = 0 then -2 else -3)) (upd de n 0) (vp_updL su n (f_due key (n + 1) (vp_updL nu n person.toInt64) (vp_updL st n (if set_ = 0 then -2 else -3)) (upd de n 0) su (nI n))) (upd mk n 1))) (fun u t => va_P G.1 vwCl u t.heap) (adr (wM G m0 t0 t1 t2 t3 h0 h1 h2 h3 h4 h5 sl la (nI tn) ts ta tb key (nI n) nu st de su mk))) 0 0 (adr (wM G m0 t0 t1 t2 t3 h0 h1 h2 h3 h4 h5 sl la (nI tn) ts ta tb key (nI n) nu st de su mk)) := by
  refine Met.ofW (cc := cX0_turnSeal) (maxL := 3) (ret := (some .boolean)) (by decide) rfl ?_
  intro p e s m args below meth c s₁ B hml hv
  obtain ⟨rfl, hP, hE, hD0⟩ := hv
  have hx := B.exec
  have hb := B.bytes
  have hr := B.returns
  have hts := atoms_spec (ws := wsX0_turnSeal) B.pre
  have hown : s.vm.findClass RX0 = some m.cls := findClass_of_methodNamed B.named
  have hlocks := B.notSynchronized
  have hD : va_D (adr (wM G m0 t0 t1 t2 t3 h0 h1 h2 h3 h4 h5 sl la (nI tn) ts ta tb key (nI n) nu st de su mk)) (wM G m0 t0 t1 t2 t3 h0 h1 h2 h3 h4 h5 sl la (nI tn) ts ta tb key (nI n) nu st de su mk) := ⟨hD0.1, fun k q hk => ⟨k, q.2, hk⟩⟩
  generalize adr (wM G m0 t0 t1 t2 t3 h0 h1 h2 h3 h4 h5 sl la (nI tn) ts ta tb key (nI n) nu st de su mk) = A at hD ⊢
  have hS : va_S A s.heap s.heap [] := va_S.rf
  have hiX0 : ∀ w ∈ wsX00, w ∈ wsX0_turnSeal := by decide +kernel
  have hl := lv_entry ([.ref m0, .int person, .int set_]) (n := 3) (Nat.le_of_ble_eq_true rfl)
  rw [lg_entry_eq]
  generalize (lg_sl ([.ref m0, .int person, .int set_]) ++ List.replicate (3 - (lg_sl ([.ref m0, .int person, .int set_])).length) Slot.unset).toArray = ls at hl ⊢
  replace hl : lv_has ls 3 [(0, .ref m0), (1, .int person), (2, .int set_)] := hl
  refine lv_iload_n hx hb dX0_turnSeal_0 rfl (lv_at hl 1 rfl) ?_
  refine lv_i2l (v := person.toInt64) hx hb dX0_turnSeal_1 rfl ?_
  refine lv_lconst (v := 1) hx hb dX0_turnSeal_2 (by decide) ?_
  refine lv_ldc2 (v := 999) hx hb hown (hts (.constantLong RX0 57 999) (by decide +kernel)) dX0_turnSeal_3 ?_
  refine x_ri (va_runSN (As := [.long person.toInt64, .long 1, .long 999]) (rest := []) ⟨hx, hb, hml, hown, hts⟩ (ct_X3_within l G person.toInt64 1 999) ⟨va_cnB 3 hts gX0_turnSeal_X3_within_n41 rfl rfl rfl hE.2.1.2.1 (hts (.initialized RX3) (by decide +kernel)) (by decide +kernel) ⟨Nat.le_of_ble_eq_true rfl, Nat.le_of_ble_eq_true rfl⟩, hts (.static yX3_within) (by decide +kernel), trivial⟩ (RdP.preS (fun k q h => by simp at h) hE) rfl rfl hl.1 rfl (lv_room (Nat.le_of_ble_eq_true rfl)) dX0_turnSeal_6 ⟨Nat.zero_le _, Nat.zero_le _⟩) (fun r1 er1 => ?_)
  subst er1
  refine lv_if_eq (tgt := 20) hx hb dX0_turnSeal_9 (by decide) (fun c9 => ?_) (fun c9 => ?_)
  · refine lv_iconst (v := 0) hx hb dX0_turnSeal_20 (by decide) ?_
    exact W.zret (v := 0) hx hb hr (zb (Or.inl rfl)) (fun tZ hZ hW => ⟨⟨0, wM G m0 t0 t1 t2 t3 h0 h1 h2 h3 h4 h5 sl la (nI tn) ts ta tb key (nI n) nu st de su mk, rfl, Or.inl ⟨rfl, Or.inl (by simp [f_tfit, c9]), rfl⟩, by show va_P _ _ _ tZ.heap; rw [hZ]; exact hP⟩, hS.F hZ⟩) hS.2.2 dX0_turnSeal_21
  refine lv_aload_n hx hb dX0_turnSeal_12 rfl (lv_at hl 0 rfl) ?_
  refine va_get (D := G.1) (ci := 1) (v := .int sl) (C := RX0) (T := TX0) (N := 4) hx hb hts hiX0 hown hE.1 hP 0 rfl rfl 2 (by decide) (hts (.fieldLink RX0 27 "MeterSeals$Meter" "sealed" "Z") (by decide +kernel)) (fun _ h9 => h9) rfl dX0_turnSeal_13 ?_
  refine lv_iload_n hx hb dX0_turnSeal_16 rfl (lv_at hl 2 rfl) ?_
  refine lv_icmp_ne (tgt := 22) hx hb dX0_turnSeal_17 (by decide) (fun c17 => ?_) (fun c17 => ?_)
  · refine lv_aload_n hx hb dX0_turnSeal_22 rfl (lv_at hl 0 rfl) ?_
    refine va_get (D := G.1) (ci := 1) (v := .ref h0) (C := RX0) (T := TX0) (N := 4) hx hb hts hiX0 hown hE.1 hP 0 rfl rfl 1 (by decide) (hts (.fieldLink RX0 23 "MeterSeals$Meter" "rows" "LMeterSeals$Rows;") (by decide +kernel)) (fun _ h9 => h9) rfl dX0_turnSeal_23 ?_
    refine lv_iload_n hx hb dX0_turnSeal_26 rfl (lv_at hl 1 rfl) ?_
    refine lv_i2l (v := person.toInt64) hx hb dX0_turnSeal_27 rfl ?_
    refine lv_iload_n hx hb dX0_turnSeal_28 rfl (lv_at hl 2 rfl) ?_
    refine lv_if_eq (tgt := 38) hx hb dX0_turnSeal_29 (by decide) (fun c29 => ?_) (fun c29 => ?_)
    · refine lv_ldc2 (v := (-2)) hx hb hown (hts (.constantLong RX0 61 (-2)) (by decide +kernel)) dX0_turnSeal_38 ?_
      refine lv_iconst (v := 0) hx hb dX0_turnSeal_41 (by decide) ?_
      refine lv_iconst (v := 1) hx hb dX0_turnSeal_42 (by decide) ?_
      refine va_calli (va_runV (As := [.long person.toInt64, .long (-2), .int 0, .int 1]) (rest := []) ⟨hx, hb, hml, hown, hts⟩ (ct_X1_add l G h0 h1 h2 h3 h4 h5 key n nu st de su mk person.toInt64 (-2) 0 1 hc (Or.inr rfl)) (cwV 4 hts gX0_turnSeal_X1_add rfl rfl rfl (by decide +kernel) ⟨Nat.le_of_ble_eq_true rfl, Nat.le_of_ble_eq_true rfl⟩) (WrP.preV 0 2 rfl rfl (x_mid ([(m0, .inr (1, [.ref t0, .ref h0, .int sl, .long la]))] ++ wT G t0 t1 t2 t3 (nI tn) ts ta tb) (wR G h0 h1 h2 h3 h4 h5 key (nI n) nu st de su mk) ([]) rfl hP) hE (x_midD ([(m0, .inr (1, [.ref t0, .ref h0, .int sl, .long la]))] ++ wT G t0 t1 t2 t3 (nI tn) ts ta tb) (wR G h0 h1 h2 h3 h4 h5 key (nI n) nu st de su mk) ([]) rfl hD)) rfl rfl hl.1 rfl (lv_room (Nat.le_of_ble_eq_true rfl)) dX0_turnSeal_43 ⟨Nat.zero_le _, Nat.zero_le _⟩) hS (fun q _ h => (x_adr ([(m0, .inr (1, [.ref t0, .ref h0, .int sl, .long la]))] ++ wT G t0 t1 t2 t3 (nI tn) ts ta tb) (wR G h0 h1 h2 h3 h4 h5 key (nI n) nu st de su mk) ([]) rfl hD) q h) (x_adr ([(m0, .inr (1, [.ref t0, .ref h0, .int sl, .long la]))] ++ wT G t0 t1 t2 t3 (nI tn) ts ta tb) (wR G h0 h1 h2 h3 h4 h5 key (nI n) nu st de su mk) ([]) rfl hD) (fun r2 u t H1 locs ht hvm hw hB hz1 hk1 hS => ?_)
      rw [ht] at hB
      rcases hw with ⟨hn, rfl, rfl⟩ | ⟨hn, rfl, rfl⟩
      · obtain ⟨hP, hD⟩ := x_join ([(m0, .inr (1, [.ref t0, .ref h0, .int sl, .long la]))] ++ wT G t0 t1 t2 t3 (nI tn) ts ta tb) (wR G h0 h1 h2 h3 h4 h5 key (nI n) nu st de su mk) ([]) (wR G h0 h1 h2 h3 h4 h5 key (nI n) nu st de su mk) rfl hP hD hk1 hB rfl
        generalize H1 = H at hP hS ⊢
        replace hP : va_P G.1 vwCl (wM G m0 t0 t1 t2 t3 h0 h1 h2 h3 h4 h5 sl la (nI tn) ts ta tb key (nI n) nu st de su mk) H := hP
        replace hD : va_D A (wM G m0 t0 t1 t2 t3 h0 h1 h2 h3 h4 h5 sl la (nI tn) ts ta tb key (nI n) nu st de su mk) := hD
        refine lv_if_ne (tgt := 51) hx hb dX0_turnSeal_46 (by decide) (fun c46 => absurd c46 (by decide)) (fun c46 => ?_)
        refine lv_iconst (v := 0) hx hb dX0_turnSeal_49 (by decide) ?_
        exact W.zret (v := 0) hx hb hr (zb (Or.inl rfl)) (fun tZ hZ hW => ⟨⟨0, wM G m0 t0 t1 t2 t3 h0 h1 h2 h3 h4 h5 sl la (nI tn) ts ta tb key (nI n) nu st de su mk, rfl, Or.inl ⟨rfl, Or.inr hn, rfl⟩, by show va_P _ _ _ tZ.heap; rw [hZ]; exact hP⟩, hS.F hZ⟩) hS.2.2 dX0_turnSeal_50
      obtain ⟨hP, hD⟩ := x_join ([(m0, .inr (1, [.ref t0, .ref h0, .int sl, .long la]))] ++ wT G t0 t1 t2 t3 (nI tn) ts ta tb) (wR G h0 h1 h2 h3 h4 h5 key (nI n) nu st de su mk) ([]) (wR G h0 h1 h2 h3 h4 h5 key (nI (n + 1)) (vp_updL nu n person.toInt64) (vp_updL st n (-2)) (upd de n 0) (vp_updL su n (f_due key (n + 1) (vp_updL nu n person.toInt64) (vp_updL st n (-2)) (upd de n 0) su (nI n))) (upd mk n 1)) rfl hP hD hk1 hB rfl
      generalize H1 = H at hP hS ⊢
      replace hP : va_P G.1 vwCl (wM G m0 t0 t1 t2 t3 h0 h1 h2 h3 h4 h5 sl la (nI tn) ts ta tb key (nI (n + 1)) (vp_updL nu n person.toInt64) (vp_updL st n (-2)) (upd de n 0) (vp_updL su n (f_due key (n + 1) (vp_updL nu n person.toInt64) (vp_updL st n (-2)) (upd de n 0) su (nI n))) (upd mk n 1)) H := hP
      replace hD : va_D A (wM G m0 t0 t1 t2 t3 h0 h1 h2 h3 h4 h5 sl la (nI tn) ts ta tb key (nI (n + 1)) (vp_updL nu n person.toInt64) (vp_updL st n (-2)) (upd de n 0) (vp_updL su n (f_due key (n + 1) (vp_updL nu n person.toInt64) (vp_updL st n (-2)) (upd de n 0) su (nI n))) (upd mk n 1)) := hD
      refine lv_if_ne (tgt := 51) hx hb dX0_turnSeal_46 (by decide) (fun c46 => ?_) (fun c46 => absurd c46 (by decide))
      refine lv_aload_n hx hb dX0_turnSeal_51 rfl (lv_at hl 0 rfl) ?_
      refine lv_iload_n hx hb dX0_turnSeal_52 rfl (lv_at hl 2 rfl) ?_
      refine va_put (D := G.1) (ci := 1) (v := .int set_) (ty := .boolean) (C := RX0) (T := TX0) (N := 4) hx hb hts hiX0 tyX0 tyX0_ok nmX0 hown hE.1 hP hD hS 0 rfl rfl 2 (by decide) (hts (.fieldLink RX0 27 "MeterSeals$Meter" "sealed" "Z") (by decide +kernel)) (fun _ h9 => h9) rfl (by decide +kernel) (zb hset) (zfit hset) (Nat.le_of_ble_eq_true rfl) dX0_turnSeal_53 (fun H locs hP hD hS => ?_)
      replace hP : va_P G.1 vwCl (wM G m0 t0 t1 t2 t3 h0 h1 h2 h3 h4 h5 set_ la (nI tn) ts ta tb key (nI (n + 1)) (vp_updL nu n person.toInt64) (vp_updL st n (-2)) (upd de n 0) (vp_updL su n (f_due key (n + 1) (vp_updL nu n person.toInt64) (vp_updL st n (-2)) (upd de n 0) su (nI n))) (upd mk n 1)) H := hP
      replace hD : va_D A (wM G m0 t0 t1 t2 t3 h0 h1 h2 h3 h4 h5 set_ la (nI tn) ts ta tb key (nI (n + 1)) (vp_updL nu n person.toInt64) (vp_updL st n (-2)) (upd de n 0) (vp_updL su n (f_due key (n + 1) (vp_updL nu n person.toInt64) (vp_updL st n (-2)) (upd de n 0) su (nI n))) (upd mk n 1)) := hD
      refine lv_iconst (v := 1) hx hb dX0_turnSeal_56 (by decide) ?_
      exact W.zret (v := 1) hx hb hr (zb (Or.inr rfl)) (fun tZ hZ hW => ⟨⟨1, wM G m0 t0 t1 t2 t3 h0 h1 h2 h3 h4 h5 set_ la (nI tn) ts ta tb key (nI (n + 1)) (vp_updL nu n person.toInt64) (vp_updL st n (-2)) (upd de n 0) (vp_updL su n (f_due key (n + 1) (vp_updL nu n person.toInt64) (vp_updL st n (-2)) (upd de n 0) su (nI n))) (upd mk n 1), rfl, Or.inr ⟨rfl, by simp [f_tfit, c9, c17], hn, by rw [if_pos c29]⟩, by show va_P _ _ _ tZ.heap; rw [hZ]; exact hP⟩, hS.F hZ⟩) hS.2.2 dX0_turnSeal_57
    refine lv_ldc2 (v := (-3)) hx hb hown (hts (.constantLong RX0 59 (-3)) (by decide +kernel)) dX0_turnSeal_32 ?_
    refine lv_goto (tgt := 41) hx hb dX0_turnSeal_35 (by decide) ?_
    refine lv_iconst (v := 0) hx hb dX0_turnSeal_41 (by decide) ?_
    refine lv_iconst (v := 1) hx hb dX0_turnSeal_42 (by decide) ?_
    refine va_calli (va_runV (As := [.long person.toInt64, .long (-3), .int 0, .int 1]) (rest := []) ⟨hx, hb, hml, hown, hts⟩ (ct_X1_add l G h0 h1 h2 h3 h4 h5 key n nu st de su mk person.toInt64 (-3) 0 1 hc (Or.inr rfl)) (cwV 4 hts gX0_turnSeal_X1_add rfl rfl rfl (by decide +kernel) ⟨Nat.le_of_ble_eq_true rfl, Nat.le_of_ble_eq_true rfl⟩) (WrP.preV 0 2 rfl rfl (x_mid ([(m0, .inr (1, [.ref t0, .ref h0, .int sl, .long la]))] ++ wT G t0 t1 t2 t3 (nI tn) ts ta tb) (wR G h0 h1 h2 h3 h4 h5 key (nI n) nu st de su mk) ([]) rfl hP) hE (x_midD ([(m0, .inr (1, [.ref t0, .ref h0, .int sl, .long la]))] ++ wT G t0 t1 t2 t3 (nI tn) ts ta tb) (wR G h0 h1 h2 h3 h4 h5 key (nI n) nu st de su mk) ([]) rfl hD)) rfl rfl hl.1 rfl (lv_room (Nat.le_of_ble_eq_true rfl)) dX0_turnSeal_43 ⟨Nat.zero_le _, Nat.zero_le _⟩) hS (fun q _ h => (x_adr ([(m0, .inr (1, [.ref t0, .ref h0, .int sl, .long la]))] ++ wT G t0 t1 t2 t3 (nI tn) ts ta tb) (wR G h0 h1 h2 h3 h4 h5 key (nI n) nu st de su mk) ([]) rfl hD) q h) (x_adr ([(m0, .inr (1, [.ref t0, .ref h0, .int sl, .long la]))] ++ wT G t0 t1 t2 t3 (nI tn) ts ta tb) (wR G h0 h1 h2 h3 h4 h5 key (nI n) nu st de su mk) ([]) rfl hD) (fun r3 u t H1 locs ht hvm hw hB hz1 hk1 hS => ?_)
    rw [ht] at hB
    rcases hw with ⟨hn, rfl, rfl⟩ | ⟨hn, rfl, rfl⟩
    · obtain ⟨hP, hD⟩ := x_join ([(m0, .inr (1, [.ref t0, .ref h0, .int sl, .long la]))] ++ wT G t0 t1 t2 t3 (nI tn) ts ta tb) (wR G h0 h1 h2 h3 h4 h5 key (nI n) nu st de su mk) ([]) (wR G h0 h1 h2 h3 h4 h5 key (nI n) nu st de su mk) rfl hP hD hk1 hB rfl
      generalize H1 = H at hP hS ⊢
      replace hP : va_P G.1 vwCl (wM G m0 t0 t1 t2 t3 h0 h1 h2 h3 h4 h5 sl la (nI tn) ts ta tb key (nI n) nu st de su mk) H := hP
      replace hD : va_D A (wM G m0 t0 t1 t2 t3 h0 h1 h2 h3 h4 h5 sl la (nI tn) ts ta tb key (nI n) nu st de su mk) := hD
      refine lv_if_ne (tgt := 51) hx hb dX0_turnSeal_46 (by decide) (fun c46 => absurd c46 (by decide)) (fun c46 => ?_)
      refine lv_iconst (v := 0) hx hb dX0_turnSeal_49 (by decide) ?_
      exact W.zret (v := 0) hx hb hr (zb (Or.inl rfl)) (fun tZ hZ hW => ⟨⟨0, wM G m0 t0 t1 t2 t3 h0 h1 h2 h3 h4 h5 sl la (nI tn) ts ta tb key (nI n) nu st de su mk, rfl, Or.inl ⟨rfl, Or.inr hn, rfl⟩, by show va_P _ _ _ tZ.heap; rw [hZ]; exact hP⟩, hS.F hZ⟩) hS.2.2 dX0_turnSeal_50
    obtain ⟨hP, hD⟩ := x_join ([(m0, .inr (1, [.ref t0, .ref h0, .int sl, .long la]))] ++ wT G t0 t1 t2 t3 (nI tn) ts ta tb) (wR G h0 h1 h2 h3 h4 h5 key (nI n) nu st de su mk) ([]) (wR G h0 h1 h2 h3 h4 h5 key (nI (n + 1)) (vp_updL nu n person.toInt64) (vp_updL st n (-3)) (upd de n 0) (vp_updL su n (f_due key (n + 1) (vp_updL nu n person.toInt64) (vp_updL st n (-3)) (upd de n 0) su (nI n))) (upd mk n 1)) rfl hP hD hk1 hB rfl
    generalize H1 = H at hP hS ⊢
    replace hP : va_P G.1 vwCl (wM G m0 t0 t1 t2 t3 h0 h1 h2 h3 h4 h5 sl la (nI tn) ts ta tb key (nI (n + 1)) (vp_updL nu n person.toInt64) (vp_updL st n (-3)) (upd de n 0) (vp_updL su n (f_due key (n + 1) (vp_updL nu n person.toInt64) (vp_updL st n (-3)) (upd de n 0) su (nI n))) (upd mk n 1)) H := hP
    replace hD : va_D A (wM G m0 t0 t1 t2 t3 h0 h1 h2 h3 h4 h5 sl la (nI tn) ts ta tb key (nI (n + 1)) (vp_updL nu n person.toInt64) (vp_updL st n (-3)) (upd de n 0) (vp_updL su n (f_due key (n + 1) (vp_updL nu n person.toInt64) (vp_updL st n (-3)) (upd de n 0) su (nI n))) (upd mk n 1)) := hD
    refine lv_if_ne (tgt := 51) hx hb dX0_turnSeal_46 (by decide) (fun c46 => ?_) (fun c46 => absurd c46 (by decide))
    refine lv_aload_n hx hb dX0_turnSeal_51 rfl (lv_at hl 0 rfl) ?_
    refine lv_iload_n hx hb dX0_turnSeal_52 rfl (lv_at hl 2 rfl) ?_
    refine va_put (D := G.1) (ci := 1) (v := .int set_) (ty := .boolean) (C := RX0) (T := TX0) (N := 4) hx hb hts hiX0 tyX0 tyX0_ok nmX0 hown hE.1 hP hD hS 0 rfl rfl 2 (by decide) (hts (.fieldLink RX0 27 "MeterSeals$Meter" "sealed" "Z") (by decide +kernel)) (fun _ h9 => h9) rfl (by decide +kernel) (zb hset) (zfit hset) (Nat.le_of_ble_eq_true rfl) dX0_turnSeal_53 (fun H locs hP hD hS => ?_)
    replace hP : va_P G.1 vwCl (wM G m0 t0 t1 t2 t3 h0 h1 h2 h3 h4 h5 set_ la (nI tn) ts ta tb key (nI (n + 1)) (vp_updL nu n person.toInt64) (vp_updL st n (-3)) (upd de n 0) (vp_updL su n (f_due key (n + 1) (vp_updL nu n person.toInt64) (vp_updL st n (-3)) (upd de n 0) su (nI n))) (upd mk n 1)) H := hP
    replace hD : va_D A (wM G m0 t0 t1 t2 t3 h0 h1 h2 h3 h4 h5 set_ la (nI tn) ts ta tb key (nI (n + 1)) (vp_updL nu n person.toInt64) (vp_updL st n (-3)) (upd de n 0) (vp_updL su n (f_due key (n + 1) (vp_updL nu n person.toInt64) (vp_updL st n (-3)) (upd de n 0) su (nI n))) (upd mk n 1)) := hD
    refine lv_iconst (v := 1) hx hb dX0_turnSeal_56 (by decide) ?_
    exact W.zret (v := 1) hx hb hr (zb (Or.inr rfl)) (fun tZ hZ hW => ⟨⟨1, wM G m0 t0 t1 t2 t3 h0 h1 h2 h3 h4 h5 set_ la (nI tn) ts ta tb key (nI (n + 1)) (vp_updL nu n person.toInt64) (vp_updL st n (-3)) (upd de n 0) (vp_updL su n (f_due key (n + 1) (vp_updL nu n person.toInt64) (vp_updL st n (-3)) (upd de n 0) su (nI n))) (upd mk n 1), rfl, Or.inr ⟨rfl, by simp [f_tfit, c9, c17], hn, by rw [if_neg c29]⟩, by show va_P _ _ _ tZ.heap; rw [hZ]; exact hP⟩, hS.F hZ⟩) hS.2.2 dX0_turnSeal_57
  refine lv_iconst (v := 0) hx hb dX0_turnSeal_20 (by decide) ?_
  exact W.zret (v := 0) hx hb hr (zb (Or.inl rfl)) (fun tZ hZ hW => ⟨⟨0, wM G m0 t0 t1 t2 t3 h0 h1 h2 h3 h4 h5 sl la (nI tn) ts ta tb key (nI n) nu st de su mk, rfl, Or.inl ⟨rfl, Or.inl (by simp [f_tfit, c9, c17]), rfl⟩, by show va_P _ _ _ tZ.heap; rw [hZ]; exact hP⟩, hS.F hZ⟩) hS.2.2 dX0_turnSeal_21
