set_option maxHeartbeats 4000000 in
set_option maxRecDepth 100000 in
/-- dueSum -/
theorem ct_X1_dueSum (l : Launch) (G : Gx) (h0 h1 h2 h3 h4 h5 : Nat) (key : Int64) (n : Nat) (nu st : Nat → Int64) (de : Nat → Int32) (su : Nat → Int64) (mk : Nat → Int32) (row : Int32) (hc : n ≤ 200) : Met l yX1_dueSum wsX1_dueSum ({ frames := 1, cells := 0, slots := 0, locals := 25 }) (RdP G (wR G h0 h1 h2 h3 h4 h5 key (nI n) nu st de su mk) [.ref h0, .int row]) (vp_Sl (fun r => r = f_due key n nu st de su row)) 0 0 (fun _ => False) := by
  refine Met.ofW (cc := cX1_dueSum) (maxL := 6) (ret := (some .long)) (by decide) rfl ?_
  intro p e s m args below meth c s₁ B hml hv
  obtain ⟨rfl, hP, hE⟩ := hv
  have hx := B.exec
  have hb := B.bytes
  have hr := B.returns
  have hts := atoms_spec (ws := wsX1_dueSum) B.pre
  have hown : s.vm.findClass RX1 = some m.cls := findClass_of_methodNamed B.named
  have hlocks := B.notSynchronized
  have hiX1 : ∀ w ∈ wsX10, w ∈ wsX1_dueSum := by decide +kernel
  have hl := lv_entry ([.ref h0, .int row]) (n := 6) (Nat.le_of_ble_eq_true rfl)
  rw [lg_entry_eq]
  generalize (lg_sl ([.ref h0, .int row]) ++ List.replicate (6 - (lg_sl ([.ref h0, .int row])).length) Slot.unset).toArray = ls at hl ⊢
  replace hl : lv_has ls 6 [(0, .ref h0), (1, .int row)] := hl
  refine lv_aload_n hx hb dX1_dueSum_0 rfl (lv_at hl 0 rfl) ?_
  refine lv_iload_n hx hb dX1_dueSum_1 rfl (lv_at hl 1 rfl) ?_
  refine x_ri (va_runV (As := [.int row]) (rest := []) ⟨hx, hb, hml, hown, hts⟩ (ct_X1_holds l G h0 h1 h2 h3 h4 h5 key n nu st de su mk row) (cwV 1 hts gX1_dueSum_X1_holds rfl rfl rfl (by decide +kernel) ⟨Nat.le_of_ble_eq_true rfl, Nat.le_of_ble_eq_true rfl⟩) (RdP.preV 0 2 rfl rfl hP hE) rfl rfl hl.1 rfl (lv_room (Nat.le_of_ble_eq_true rfl)) dX1_dueSum_2 ⟨Nat.zero_le _, Nat.zero_le _⟩) (fun r1 er1 => ?_)
  subst er1
  refine lv_if_ne (tgt := 10) hx hb dX1_dueSum_5 (by decide) (fun c5 => ?_) (fun c5 => ?_)
  · refine lv_iload_n hx hb dX1_dueSum_10 rfl (lv_at hl 1 rfl) ?_
    refine lv_if_ne (tgt := 21) hx hb dX1_dueSum_11 (by decide) (fun c11 => ?_) (fun c11 => ?_)
    · refine lv_aload_n hx hb dX1_dueSum_21 rfl (lv_at hl 0 rfl) ?_
      refine va_get (D := G.1) (ci := 2) (v := .ref h4) (C := RX1) (T := TX1) (N := 7) hx hb hts hiX1 hown hE.1 hP 0 rfl rfl 4 (by decide) (hts (.fieldLink RX1 26 "MeterSeals$Rows" "sums" "[J") (by decide +kernel)) (fun _ h9 => h9) rfl dX1_dueSum_22 ?_
      refine lv_iload_n hx hb dX1_dueSum_25 rfl (lv_at hl 1 rfl) ?_
      refine lv_iconst (v := 1) hx hb dX1_dueSum_26 (by decide) ?_
      refine lv_isub hx hb dX1_dueSum_27 ?_
      refine va_lald hx hb hE.1 hP 4 1 rfl rfl (pred_in hc c5 c11) dX1_dueSum_28 ?_
      refine lv_lstore_n (lv' := [(2, .long (su (row - 1).toNatClampNeg)), (0, .ref h0), (1, .int row)]) hx hb dX1_dueSum_29 rfl hl (by decide) rfl (fun ls hl => ?_)
      refine lv_ldc2 (v := 3) hx hb hown (hts (.constantLong RX1 57 3) (by decide +kernel)) dX1_dueSum_30 ?_
      refine lv_lload_n hx hb dX1_dueSum_33 rfl (lv_at hl 0 rfl) ?_
      refine lv_lmul hx hb dX1_dueSum_34 ?_
      refine lv_aload_n hx hb dX1_dueSum_35 rfl (lv_at hl 1 rfl) ?_
      refine va_get (D := G.1) (ci := 2) (v := .long key) (C := RX1) (T := TX1) (N := 7) hx hb hts hiX1 hown hE.1 hP 0 rfl rfl 0 (by decide) (hts (.fieldLink RX1 9 "MeterSeals$Rows" "key" "J") (by decide +kernel)) (fun _ h9 => h9) rfl dX1_dueSum_36 ?_
      refine lv_ladd hx hb dX1_dueSum_39 ?_
      refine lv_lstore (lv' := [(4, .long ((3 * (su (row - 1).toNatClampNeg)) + key)), (2, .long (su (row - 1).toNatClampNeg)), (0, .ref h0), (1, .int row)]) hx hb dX1_dueSum_40 hl (by decide) rfl (fun ls hl => ?_)
      refine lv_lload hx hb dX1_dueSum_42 (lv_at hl 0 rfl) ?_
      refine lv_aload_n hx hb dX1_dueSum_44 rfl (lv_at hl 2 rfl) ?_
      refine va_get (D := G.1) (ci := 2) (v := .ref h1) (C := RX1) (T := TX1) (N := 7) hx hb hts hiX1 hown hE.1 hP 0 rfl rfl 1 (by decide) (hts (.fieldLink RX1 15 "MeterSeals$Rows" "numbers" "[J") (by decide +kernel)) (fun _ h9 => h9) rfl dX1_dueSum_45 ?_
      refine lv_iload_n hx hb dX1_dueSum_48 rfl (lv_at hl 3 rfl) ?_
      refine va_lald hx hb hE.1 hP 1 1 rfl rfl (holds_in hc c5) dX1_dueSum_49 ?_
      refine x_rl (va_runS (As := [.long ((3 * (su (row - 1).toNatClampNeg)) + key), .long (nu row.toNatClampNeg)]) (rest := []) ⟨hx, hb, hml, hown, hts⟩ (ct_X1_stir l G ((3 * (su (row - 1).toNatClampNeg)) + key) (nu row.toNatClampNeg)) (va_cwS 2 hts gX1_dueSum_X1_stir rfl rfl rfl (by decide +kernel) ⟨Nat.le_of_ble_eq_true rfl, Nat.le_of_ble_eq_true rfl⟩) (RdP.preS (fun k q h => by simp at h) hE) rfl rfl hl.1 rfl (lv_room (Nat.le_of_ble_eq_true rfl)) dX1_dueSum_50 ⟨Nat.zero_le _, Nat.zero_le _⟩) (fun r2 er2 => ?_)
      subst er2
      refine lv_lstore (lv' := [(4, .long (f_mix ((3 * (su (row - 1).toNatClampNeg)) + key) (nu row.toNatClampNeg))), (2, .long (su (row - 1).toNatClampNeg)), (0, .ref h0), (1, .int row)]) hx hb dX1_dueSum_53 hl (by decide) rfl (fun ls hl => ?_)
      refine lv_lload hx hb dX1_dueSum_55 (lv_at hl 0 rfl) ?_
      refine lv_aload_n hx hb dX1_dueSum_57 rfl (lv_at hl 2 rfl) ?_
      refine va_get (D := G.1) (ci := 2) (v := .ref h2) (C := RX1) (T := TX1) (N := 7) hx hb hts hiX1 hown hE.1 hP 0 rfl rfl 2 (by decide) (hts (.fieldLink RX1 19 "MeterSeals$Rows" "stamps" "[J") (by decide +kernel)) (fun _ h9 => h9) rfl dX1_dueSum_58 ?_
      refine lv_iload_n hx hb dX1_dueSum_61 rfl (lv_at hl 3 rfl) ?_
      refine va_lald hx hb hE.1 hP 2 1 rfl rfl (holds_in hc c5) dX1_dueSum_62 ?_
      refine x_rl (va_runS (As := [.long (f_mix ((3 * (su (row - 1).toNatClampNeg)) + key) (nu row.toNatClampNeg)), .long (st row.toNatClampNeg)]) (rest := []) ⟨hx, hb, hml, hown, hts⟩ (ct_X1_stir l G (f_mix ((3 * (su (row - 1).toNatClampNeg)) + key) (nu row.toNatClampNeg)) (st row.toNatClampNeg)) (va_cwS 2 hts gX1_dueSum_X1_stir rfl rfl rfl (by decide +kernel) ⟨Nat.le_of_ble_eq_true rfl, Nat.le_of_ble_eq_true rfl⟩) (RdP.preS (fun k q h => by simp at h) hE) rfl rfl hl.1 rfl (lv_room (Nat.le_of_ble_eq_true rfl)) dX1_dueSum_63 ⟨Nat.zero_le _, Nat.zero_le _⟩) (fun r3 er3 => ?_)
      subst er3
      refine lv_lstore (lv' := [(4, .long (f_mix (f_mix ((3 * (su (row - 1).toNatClampNeg)) + key) (nu row.toNatClampNeg)) (st row.toNatClampNeg))), (2, .long (su (row - 1).toNatClampNeg)), (0, .ref h0), (1, .int row)]) hx hb dX1_dueSum_66 hl (by decide) rfl (fun ls hl => ?_)
      refine lv_lload hx hb dX1_dueSum_68 (lv_at hl 0 rfl) ?_
      refine lv_aload_n hx hb dX1_dueSum_70 rfl (lv_at hl 2 rfl) ?_
      refine va_get (D := G.1) (ci := 2) (v := .ref h3) (C := RX1) (T := TX1) (N := 7) hx hb hts hiX1 hown hE.1 hP 0 rfl rfl 3 (by decide) (hts (.fieldLink RX1 22 "MeterSeals$Rows" "degrees" "[I") (by decide +kernel)) (fun _ h9 => h9) rfl dX1_dueSum_71 ?_
      refine lv_iload_n hx hb dX1_dueSum_74 rfl (lv_at hl 3 rfl) ?_
      refine va_iald hx hb hE.1 hP 3 0 rfl rfl (holds_in hc c5) dX1_dueSum_75 ?_
      refine lv_i2l (v := (de row.toNatClampNeg).toInt64) hx hb dX1_dueSum_76 rfl ?_
      refine x_rl (va_runS (As := [.long (f_mix (f_mix ((3 * (su (row - 1).toNatClampNeg)) + key) (nu row.toNatClampNeg)) (st row.toNatClampNeg)), .long ((de row.toNatClampNeg).toInt64)]) (rest := []) ⟨hx, hb, hml, hown, hts⟩ (ct_X1_stir l G (f_mix (f_mix ((3 * (su (row - 1).toNatClampNeg)) + key) (nu row.toNatClampNeg)) (st row.toNatClampNeg)) ((de row.toNatClampNeg).toInt64)) (va_cwS 2 hts gX1_dueSum_X1_stir rfl rfl rfl (by decide +kernel) ⟨Nat.le_of_ble_eq_true rfl, Nat.le_of_ble_eq_true rfl⟩) (RdP.preS (fun k q h => by simp at h) hE) rfl rfl hl.1 rfl (lv_room (Nat.le_of_ble_eq_true rfl)) dX1_dueSum_77 ⟨Nat.zero_le _, Nat.zero_le _⟩) (fun r4 er4 => ?_)
      subst er4
      exact W.lret (v := (f_mix (f_mix (f_mix ((3 * (su (row - 1).toNatClampNeg)) + key) (nu row.toNatClampNeg)) (st row.toNatClampNeg)) ((de row.toNatClampNeg).toInt64))) hx hb hr (fun t ht hW => ⟨_, rfl, by simp only [f_due, if_neg c5, if_neg c11], ht⟩) t_nil dX1_dueSum_80
    refine lv_aload_n hx hb dX1_dueSum_14 rfl (lv_at hl 0 rfl) ?_
    refine va_get (D := G.1) (ci := 2) (v := .long key) (C := RX1) (T := TX1) (N := 7) hx hb hts hiX1 hown hE.1 hP 0 rfl rfl 0 (by decide) (hts (.fieldLink RX1 9 "MeterSeals$Rows" "key" "J") (by decide +kernel)) (fun _ h9 => h9) rfl dX1_dueSum_15 ?_
    refine lv_goto (tgt := 29) hx hb dX1_dueSum_18 (by decide) ?_
    refine lv_lstore_n (lv' := [(2, .long key), (0, .ref h0), (1, .int row)]) hx hb dX1_dueSum_29 rfl hl (by decide) rfl (fun ls hl => ?_)
    refine lv_ldc2 (v := 3) hx hb hown (hts (.constantLong RX1 57 3) (by decide +kernel)) dX1_dueSum_30 ?_
    refine lv_lload_n hx hb dX1_dueSum_33 rfl (lv_at hl 0 rfl) ?_
    refine lv_lmul hx hb dX1_dueSum_34 ?_
    refine lv_aload_n hx hb dX1_dueSum_35 rfl (lv_at hl 1 rfl) ?_
    refine va_get (D := G.1) (ci := 2) (v := .long key) (C := RX1) (T := TX1) (N := 7) hx hb hts hiX1 hown hE.1 hP 0 rfl rfl 0 (by decide) (hts (.fieldLink RX1 9 "MeterSeals$Rows" "key" "J") (by decide +kernel)) (fun _ h9 => h9) rfl dX1_dueSum_36 ?_
    refine lv_ladd hx hb dX1_dueSum_39 ?_
    refine lv_lstore (lv' := [(4, .long ((3 * key) + key)), (2, .long key), (0, .ref h0), (1, .int row)]) hx hb dX1_dueSum_40 hl (by decide) rfl (fun ls hl => ?_)
    refine lv_lload hx hb dX1_dueSum_42 (lv_at hl 0 rfl) ?_
    refine lv_aload_n hx hb dX1_dueSum_44 rfl (lv_at hl 2 rfl) ?_
    refine va_get (D := G.1) (ci := 2) (v := .ref h1) (C := RX1) (T := TX1) (N := 7) hx hb hts hiX1 hown hE.1 hP 0 rfl rfl 1 (by decide) (hts (.fieldLink RX1 15 "MeterSeals$Rows" "numbers" "[J") (by decide +kernel)) (fun _ h9 => h9) rfl dX1_dueSum_45 ?_
    refine lv_iload_n hx hb dX1_dueSum_48 rfl (lv_at hl 3 rfl) ?_
    refine va_lald hx hb hE.1 hP 1 1 rfl rfl (holds_in hc c5) dX1_dueSum_49 ?_
    refine x_rl (va_runS (As := [.long ((3 * key) + key), .long (nu row.toNatClampNeg)]) (rest := []) ⟨hx, hb, hml, hown, hts⟩ (ct_X1_stir l G ((3 * key) + key) (nu row.toNatClampNeg)) (va_cwS 2 hts gX1_dueSum_X1_stir rfl rfl rfl (by decide +kernel) ⟨Nat.le_of_ble_eq_true rfl, Nat.le_of_ble_eq_true rfl⟩) (RdP.preS (fun k q h => by simp at h) hE) rfl rfl hl.1 rfl (lv_room (Nat.le_of_ble_eq_true rfl)) dX1_dueSum_50 ⟨Nat.zero_le _, Nat.zero_le _⟩) (fun r5 er5 => ?_)
    subst er5
    refine lv_lstore (lv' := [(4, .long (f_mix ((3 * key) + key) (nu row.toNatClampNeg))), (2, .long key), (0, .ref h0), (1, .int row)]) hx hb dX1_dueSum_53 hl (by decide) rfl (fun ls hl => ?_)
    refine lv_lload hx hb dX1_dueSum_55 (lv_at hl 0 rfl) ?_
    refine lv_aload_n hx hb dX1_dueSum_57 rfl (lv_at hl 2 rfl) ?_
    refine va_get (D := G.1) (ci := 2) (v := .ref h2) (C := RX1) (T := TX1) (N := 7) hx hb hts hiX1 hown hE.1 hP 0 rfl rfl 2 (by decide) (hts (.fieldLink RX1 19 "MeterSeals$Rows" "stamps" "[J") (by decide +kernel)) (fun _ h9 => h9) rfl dX1_dueSum_58 ?_
    refine lv_iload_n hx hb dX1_dueSum_61 rfl (lv_at hl 3 rfl) ?_
    refine va_lald hx hb hE.1 hP 2 1 rfl rfl (holds_in hc c5) dX1_dueSum_62 ?_
    refine x_rl (va_runS (As := [.long (f_mix ((3 * key) + key) (nu row.toNatClampNeg)), .long (st row.toNatClampNeg)]) (rest := []) ⟨hx, hb, hml, hown, hts⟩ (ct_X1_stir l G (f_mix ((3 * key) + key) (nu row.toNatClampNeg)) (st row.toNatClampNeg)) (va_cwS 2 hts gX1_dueSum_X1_stir rfl rfl rfl (by decide +kernel) ⟨Nat.le_of_ble_eq_true rfl, Nat.le_of_ble_eq_true rfl⟩) (RdP.preS (fun k q h => by simp at h) hE) rfl rfl hl.1 rfl (lv_room (Nat.le_of_ble_eq_true rfl)) dX1_dueSum_63 ⟨Nat.zero_le _, Nat.zero_le _⟩) (fun r6 er6 => ?_)
    subst er6
    refine lv_lstore (lv' := [(4, .long (f_mix (f_mix ((3 * key) + key) (nu row.toNatClampNeg)) (st row.toNatClampNeg))), (2, .long key), (0, .ref h0), (1, .int row)]) hx hb dX1_dueSum_66 hl (by decide) rfl (fun ls hl => ?_)
    refine lv_lload hx hb dX1_dueSum_68 (lv_at hl 0 rfl) ?_
    refine lv_aload_n hx hb dX1_dueSum_70 rfl (lv_at hl 2 rfl) ?_
    refine va_get (D := G.1) (ci := 2) (v := .ref h3) (C := RX1) (T := TX1) (N := 7) hx hb hts hiX1 hown hE.1 hP 0 rfl rfl 3 (by decide) (hts (.fieldLink RX1 22 "MeterSeals$Rows" "degrees" "[I") (by decide +kernel)) (fun _ h9 => h9) rfl dX1_dueSum_71 ?_
    refine lv_iload_n hx hb dX1_dueSum_74 rfl (lv_at hl 3 rfl) ?_
    refine va_iald hx hb hE.1 hP 3 0 rfl rfl (holds_in hc c5) dX1_dueSum_75 ?_
    refine lv_i2l (v := (de row.toNatClampNeg).toInt64) hx hb dX1_dueSum_76 rfl ?_
    refine x_rl (va_runS (As := [.long (f_mix (f_mix ((3 * key) + key) (nu row.toNatClampNeg)) (st row.toNatClampNeg)), .long ((de row.toNatClampNeg).toInt64)]) (rest := []) ⟨hx, hb, hml, hown, hts⟩ (ct_X1_stir l G (f_mix (f_mix ((3 * key) + key) (nu row.toNatClampNeg)) (st row.toNatClampNeg)) ((de row.toNatClampNeg).toInt64)) (va_cwS 2 hts gX1_dueSum_X1_stir rfl rfl rfl (by decide +kernel) ⟨Nat.le_of_ble_eq_true rfl, Nat.le_of_ble_eq_true rfl⟩) (RdP.preS (fun k q h => by simp at h) hE) rfl rfl hl.1 rfl (lv_room (Nat.le_of_ble_eq_true rfl)) dX1_dueSum_77 ⟨Nat.zero_le _, Nat.zero_le _⟩) (fun r7 er7 => ?_)
    subst er7
    exact W.lret (v := (f_mix (f_mix (f_mix ((3 * key) + key) (nu row.toNatClampNeg)) (st row.toNatClampNeg)) ((de row.toNatClampNeg).toInt64))) hx hb hr (fun t ht hW => ⟨_, rfl, by simp only [f_due, if_neg c5, if_pos c11], ht⟩) t_nil dX1_dueSum_80
  refine lv_lconst (v := 0) hx hb dX1_dueSum_8 (by decide) ?_
  exact W.lret (v := 0) hx hb hr (fun t ht hW => ⟨_, rfl, by simp only [f_due, if_pos c5], ht⟩) t_nil dX1_dueSum_9

set_option maxHeartbeats 4000000 in
set_option maxRecDepth 100000 in
/-- fieldOf -/
theorem ct_X1_fieldOf (l : Launch) (G : Gx) (h0 h1 h2 h3 h4 h5 : Nat) (key : Int64) (n : Nat) (nu st : Nat → Int64) (de : Nat → Int32) (su : Nat → Int64) (mk : Nat → Int32) (row field : Int32) (hc : n ≤ 200) : Met l yX1_fieldOf wsX1_fieldOf ({ frames := 1, cells := 0, slots := 0, locals := 21 }) (RdP G (wR G h0 h1 h2 h3 h4 h5 key (nI n) nu st de su mk) [.ref h0, .int row, .int field]) (vp_Sl (fun r => r = f_fld n nu st de row field)) 0 0 (fun _ => False) := by
  refine Met.ofW (cc := cX1_fieldOf) (maxL := 3) (ret := (some .long)) (by decide) rfl ?_
  intro p e s m args below meth c s₁ B hml hv
  obtain ⟨rfl, hP, hE⟩ := hv
  have hx := B.exec
  have hb := B.bytes
  have hr := B.returns
  have hts := atoms_spec (ws := wsX1_fieldOf) B.pre
  have hown : s.vm.findClass RX1 = some m.cls := findClass_of_methodNamed B.named
  have hlocks := B.notSynchronized
  have hiX1 : ∀ w ∈ wsX10, w ∈ wsX1_fieldOf := by decide +kernel
  have hl := lv_entry ([.ref h0, .int row, .int field]) (n := 3) (Nat.le_of_ble_eq_true rfl)
  rw [lg_entry_eq]
  generalize (lg_sl ([.ref h0, .int row, .int field]) ++ List.replicate (3 - (lg_sl ([.ref h0, .int row, .int field])).length) Slot.unset).toArray = ls at hl ⊢
  replace hl : lv_has ls 3 [(0, .ref h0), (1, .int row), (2, .int field)] := hl
  refine lv_aload_n hx hb dX1_fieldOf_0 rfl (lv_at hl 0 rfl) ?_
  refine lv_iload_n hx hb dX1_fieldOf_1 rfl (lv_at hl 1 rfl) ?_
  refine x_ri (va_runV (As := [.int row]) (rest := []) ⟨hx, hb, hml, hown, hts⟩ (ct_X1_holds l G h0 h1 h2 h3 h4 h5 key n nu st de su mk row) (cwV 1 hts gX1_fieldOf_X1_holds rfl rfl rfl (by decide +kernel) ⟨Nat.le_of_ble_eq_true rfl, Nat.le_of_ble_eq_true rfl⟩) (RdP.preV 0 2 rfl rfl hP hE) rfl rfl hl.1 rfl (lv_room (Nat.le_of_ble_eq_true rfl)) dX1_fieldOf_2 ⟨Nat.zero_le _, Nat.zero_le _⟩) (fun r1 er1 => ?_)
  subst er1
  refine lv_if_ne (tgt := 10) hx hb dX1_fieldOf_5 (by decide) (fun c5 => ?_) (fun c5 => ?_)
  · refine lv_iload_n hx hb dX1_fieldOf_10 rfl (lv_at hl 2 rfl) ?_
    refine lv_if_ne (tgt := 21) hx hb dX1_fieldOf_11 (by decide) (fun c11 => ?_) (fun c11 => ?_)
    · refine lv_iload_n hx hb dX1_fieldOf_21 rfl (lv_at hl 2 rfl) ?_
      refine lv_iconst (v := 1) hx hb dX1_fieldOf_22 (by decide) ?_
      refine lv_icmp_ne (tgt := 35) hx hb dX1_fieldOf_23 (by decide) (fun c23 => ?_) (fun c23 => ?_)
      · refine lv_aload_n hx hb dX1_fieldOf_35 rfl (lv_at hl 0 rfl) ?_
        refine va_get (D := G.1) (ci := 2) (v := .ref h3) (C := RX1) (T := TX1) (N := 7) hx hb hts hiX1 hown hE.1 hP 0 rfl rfl 3 (by decide) (hts (.fieldLink RX1 22 "MeterSeals$Rows" "degrees" "[I") (by decide +kernel)) (fun _ h9 => h9) rfl dX1_fieldOf_36 ?_
        refine lv_iload_n hx hb dX1_fieldOf_39 rfl (lv_at hl 1 rfl) ?_
        refine va_iald hx hb hE.1 hP 3 0 rfl rfl (holds_in hc c5) dX1_fieldOf_40 ?_
        refine lv_i2l (v := (de row.toNatClampNeg).toInt64) hx hb dX1_fieldOf_41 rfl ?_
        exact W.lret (v := (de row.toNatClampNeg).toInt64) hx hb hr (fun t ht hW => ⟨_, rfl, by simp [f_fld, c5, c11, c23], ht⟩) t_nil dX1_fieldOf_42
      refine lv_aload_n hx hb dX1_fieldOf_26 rfl (lv_at hl 0 rfl) ?_
      refine va_get (D := G.1) (ci := 2) (v := .ref h2) (C := RX1) (T := TX1) (N := 7) hx hb hts hiX1 hown hE.1 hP 0 rfl rfl 2 (by decide) (hts (.fieldLink RX1 19 "MeterSeals$Rows" "stamps" "[J") (by decide +kernel)) (fun _ h9 => h9) rfl dX1_fieldOf_27 ?_
      refine lv_iload_n hx hb dX1_fieldOf_30 rfl (lv_at hl 1 rfl) ?_
      refine va_lald hx hb hE.1 hP 2 1 rfl rfl (holds_in hc c5) dX1_fieldOf_31 ?_
      refine lv_goto (tgt := 42) hx hb dX1_fieldOf_32 (by decide) ?_
      exact W.lret (v := (st row.toNatClampNeg)) hx hb hr (fun t ht hW => ⟨_, rfl, by simp [f_fld, c5, c11, c23], ht⟩) t_nil dX1_fieldOf_42
    refine lv_aload_n hx hb dX1_fieldOf_14 rfl (lv_at hl 0 rfl) ?_
    refine va_get (D := G.1) (ci := 2) (v := .ref h1) (C := RX1) (T := TX1) (N := 7) hx hb hts hiX1 hown hE.1 hP 0 rfl rfl 1 (by decide) (hts (.fieldLink RX1 15 "MeterSeals$Rows" "numbers" "[J") (by decide +kernel)) (fun _ h9 => h9) rfl dX1_fieldOf_15 ?_
    refine lv_iload_n hx hb dX1_fieldOf_18 rfl (lv_at hl 1 rfl) ?_
    refine va_lald hx hb hE.1 hP 1 1 rfl rfl (holds_in hc c5) dX1_fieldOf_19 ?_
    exact W.lret (v := (nu row.toNatClampNeg)) hx hb hr (fun t ht hW => ⟨_, rfl, by simp [f_fld, c5, c11], ht⟩) t_nil dX1_fieldOf_20
  refine lv_lconst (v := 0) hx hb dX1_fieldOf_8 (by decide) ?_
  exact W.lret (v := 0) hx hb hr (fun t ht hW => ⟨_, rfl, by simp [f_fld, c5], ht⟩) t_nil dX1_fieldOf_9

set_option maxHeartbeats 4000000 in
set_option maxRecDepth 100000 in
/-- letterOf -/
theorem ct_X1_letterOf (l : Launch) (G : Gx) (h0 h1 h2 h3 h4 h5 : Nat) (key : Int64) (n : Nat) (nu st : Nat → Int64) (de : Nat → Int32) (su : Nat → Int64) (mk : Nat → Int32) (row : Int32) (hc : n ≤ 200) : Met l yX1_letterOf wsX1_letterOf ({ frames := 2, cells := 0, slots := 0, locals := 42 }) (RdP G (wR G h0 h1 h2 h3 h4 h5 key (nI n) nu st de su mk) [.ref h0, .int row]) (vp_Si (fun r => r = f_let n st row)) 0 0 (fun _ => False) := by
  refine Met.ofW (cc := cX1_letterOf) (maxL := 2) (ret := (some .char)) (by decide) rfl ?_
  intro p e s m args below meth c s₁ B hml hv
  obtain ⟨rfl, hP, hE⟩ := hv
  have hx := B.exec
  have hb := B.bytes
  have hr := B.returns
  have hts := atoms_spec (ws := wsX1_letterOf) B.pre
  have hown : s.vm.findClass RX1 = some m.cls := findClass_of_methodNamed B.named
  have hlocks := B.notSynchronized
  have hiX1 : ∀ w ∈ wsX10, w ∈ wsX1_letterOf := by decide +kernel
  have hl := lv_entry ([.ref h0, .int row]) (n := 2) (Nat.le_of_ble_eq_true rfl)
  rw [lg_entry_eq]
  generalize (lg_sl ([.ref h0, .int row]) ++ List.replicate (2 - (lg_sl ([.ref h0, .int row])).length) Slot.unset).toArray = ls at hl ⊢
  replace hl : lv_has ls 2 [(0, .ref h0), (1, .int row)] := hl
  refine lv_aload_n hx hb dX1_letterOf_0 rfl (lv_at hl 0 rfl) ?_
  refine lv_iload_n hx hb dX1_letterOf_1 rfl (lv_at hl 1 rfl) ?_
  refine x_ri (va_runV (As := [.int row]) (rest := []) ⟨hx, hb, hml, hown, hts⟩ (ct_X1_holds l G h0 h1 h2 h3 h4 h5 key n nu st de su mk row) (cwV 1 hts gX1_letterOf_X1_holds rfl rfl rfl (by decide +kernel) ⟨Nat.le_of_ble_eq_true rfl, Nat.le_of_ble_eq_true rfl⟩) (RdP.preV 0 2 rfl rfl hP hE) rfl rfl hl.1 rfl (lv_room (Nat.le_of_ble_eq_true rfl)) dX1_letterOf_2 ⟨Nat.zero_le _, Nat.zero_le _⟩) (fun r1 er1 => ?_)
  subst er1
  refine lv_if_eq (tgt := 16) hx hb dX1_letterOf_5 (by decide) (fun c5 => ?_) (fun c5 => ?_)
  · refine lv_bipush (v := 82) hx hb dX1_letterOf_16 (by decide) ?_
    exact W.zret (v := 82) hx hb hr rfl (fun t ht hW => ⟨_, rfl, by simp [f_let, c5], ht⟩) t_nil dX1_letterOf_18
  refine lv_aload_n hx hb dX1_letterOf_8 rfl (lv_at hl 0 rfl) ?_
  refine lv_iload_n hx hb dX1_letterOf_9 rfl (lv_at hl 1 rfl) ?_
  refine x_ri (va_runV (As := [.int row]) (rest := []) ⟨hx, hb, hml, hown, hts⟩ (ct_X1_isReading l G h0 h1 h2 h3 h4 h5 key n nu st de su mk row hc) (cwV 1 hts gX1_letterOf_X1_isReading rfl rfl rfl (by decide +kernel) ⟨Nat.le_of_ble_eq_true rfl, Nat.le_of_ble_eq_true rfl⟩) (RdP.preV 0 2 rfl rfl hP hE) rfl rfl hl.1 rfl (lv_room (Nat.le_of_ble_eq_true rfl)) dX1_letterOf_10 ⟨Nat.zero_le _, Nat.zero_le _⟩) (fun r2 er2 => ?_)
  subst er2
  refine lv_if_eq (tgt := 19) hx hb dX1_letterOf_13 (by decide) (fun c13 => ?_) (fun c13 => ?_)
  · refine lv_aload_n hx hb dX1_letterOf_19 rfl (lv_at hl 0 rfl) ?_
    refine va_get (D := G.1) (ci := 2) (v := .ref h2) (C := RX1) (T := TX1) (N := 7) hx hb hts hiX1 hown hE.1 hP 0 rfl rfl 2 (by decide) (hts (.fieldLink RX1 19 "MeterSeals$Rows" "stamps" "[J") (by decide +kernel)) (fun _ h9 => h9) rfl dX1_letterOf_20 ?_
    refine lv_iload_n hx hb dX1_letterOf_23 rfl (lv_at hl 1 rfl) ?_
    refine va_lald hx hb hE.1 hP 2 1 rfl rfl (holds_in hc c5) dX1_letterOf_24 ?_
    refine lv_ldc2 (v := (-1)) hx hb hown (hts (.constantLong RX1 65 (-1)) (by decide +kernel)) dX1_letterOf_25 ?_
    refine x_lne (tgt := 35) hx hb dX1_letterOf_28 dX1_letterOf_29 (by decide) (fun c29 => ?_) (fun c29 => ?_)
    · refine lv_aload_n hx hb dX1_letterOf_35 rfl (lv_at hl 0 rfl) ?_
      refine va_get (D := G.1) (ci := 2) (v := .ref h2) (C := RX1) (T := TX1) (N := 7) hx hb hts hiX1 hown hE.1 hP 0 rfl rfl 2 (by decide) (hts (.fieldLink RX1 19 "MeterSeals$Rows" "stamps" "[J") (by decide +kernel)) (fun _ h9 => h9) rfl dX1_letterOf_36 ?_
      refine lv_iload_n hx hb dX1_letterOf_39 rfl (lv_at hl 1 rfl) ?_
      refine va_lald hx hb hE.1 hP 2 1 rfl rfl (holds_in hc c5) dX1_letterOf_40 ?_
      refine lv_ldc2 (v := (-2)) hx hb hown (hts (.constantLong RX1 111 (-2)) (by decide +kernel)) dX1_letterOf_41 ?_
      refine x_lne (tgt := 53) hx hb dX1_letterOf_44 dX1_letterOf_45 (by decide) (fun c45 => ?_) (fun c45 => ?_)
      · refine lv_bipush (v := 83) hx hb dX1_letterOf_53 (by decide) ?_
        exact W.zret (v := 83) hx hb hr rfl (fun t ht hW => ⟨_, rfl, by simp [f_let, c5, c13, c29, c45], ht⟩) t_nil dX1_letterOf_55
      refine lv_bipush (v := 66) hx hb dX1_letterOf_48 (by decide) ?_
      refine lv_goto (tgt := 55) hx hb dX1_letterOf_50 (by decide) ?_
      exact W.zret (v := 66) hx hb hr rfl (fun t ht hW => ⟨_, rfl, by simp [f_let, c5, c13, c29, c45], ht⟩) t_nil dX1_letterOf_55
    refine lv_bipush (v := 90) hx hb dX1_letterOf_32 (by decide) ?_
    exact W.zret (v := 90) hx hb hr rfl (fun t ht hW => ⟨_, rfl, by simp [f_let, c5, c13, c29], ht⟩) t_nil dX1_letterOf_34
  refine lv_bipush (v := 82) hx hb dX1_letterOf_16 (by decide) ?_
  exact W.zret (v := 82) hx hb hr rfl (fun t ht hW => ⟨_, rfl, by simp [f_let, c5, c13], ht⟩) t_nil dX1_letterOf_18

set_option maxHeartbeats 4000000 in
set_option maxRecDepth 100000 in
/-- wholeMinutes -/
theorem ct_X1_wholeMinutes (l : Launch) (G : Gx) (v : Int64) : Met l yX1_wholeMinutes wsX1_wholeMinutes ({ frames := 1, cells := 0, slots := 0, locals := 15 }) (RdP G [] [.long v]) (vp_Si (fun r => r = f_mins v)) 0 0 (fun _ => False) := by
  refine Met.ofW (cc := cX1_wholeMinutes) (maxL := 2) (ret := (some .int)) (by decide) rfl ?_
  intro p e s m args below meth c s₁ B hml hv
  obtain ⟨rfl, hP, hE⟩ := hv
  have hx := B.exec
  have hb := B.bytes
  have hr := B.returns
  have hts := atoms_spec (ws := wsX1_wholeMinutes) B.pre
  have hown : s.vm.findClass RX1 = some m.cls := findClass_of_methodNamed B.named
  have hlocks := B.notSynchronized
  have hl := lv_entry ([.long v]) (n := 2) (Nat.le_of_ble_eq_true rfl)
  rw [lg_entry_eq]
  generalize (lg_sl ([.long v]) ++ List.replicate (2 - (lg_sl ([.long v])).length) Slot.unset).toArray = ls at hl ⊢
  replace hl : lv_has ls 2 [(0, .long v)] := hl
  refine lv_lload_n hx hb dX1_wholeMinutes_0 rfl (lv_at hl 0 rfl) ?_
  refine lv_ldc2 (v := 60) hx hb hown (hts (.constantLong RX1 73 60) (by decide +kernel)) dX1_wholeMinutes_1 ?_
  refine lv_ldiv hx hb dX1_wholeMinutes_4 (by decide) ?_
  refine lv_ldc2 (v := 2147483647) hx hb hown (hts (.constantLong RX1 75 2147483647) (by decide +kernel)) dX1_wholeMinutes_5 ?_
  refine va_mmin_long hx hb (hml.trans hl.1.symm) hown (hts (.methodLink RX1 77 Lib.MathLoose.min_long.x) (by decide +kernel)) (hts (.static Lib.MathLoose.min_long.x) (by decide +kernel)) (hts (.initialized "java/lang/Math") (by decide +kernel)) (hts (.code Lib.MathLoose.min_long.x Lib.MathLoose.min_long.code 4 (some .long)) (by decide +kernel)) (Nat.le_of_ble_eq_true rfl) (Nat.le_of_ble_eq_true rfl) (Nat.zero_le _) (Nat.zero_le _) dX1_wholeMinutes_8 ?_
  refine lv_l2i (v := (if 2147483647 < (v / 60) then 2147483647 else (v / 60)).toInt32) hx hb dX1_wholeMinutes_11 rfl ?_
  exact W.iret (v := (if 2147483647 < (v / 60) then 2147483647 else (v / 60)).toInt32) hx hb hr (fun t ht hW => ⟨_, rfl, rfl, ht⟩) t_nil dX1_wholeMinutes_12

set_option maxHeartbeats 4000000 in
set_option maxRecDepth 100000 in
/-- add -/
theorem ct_X1_add (l : Launch) (G : Gx) (h0 h1 h2 h3 h4 h5 : Nat) (key : Int64) (n : Nat) (nu st : Nat → Int64) (de : Nat → Int32) (su : Nat → Int64) (mk : Nat → Int32) (number stamp : Int64) (warmth mark : Int32) (hc : n ≤ 200) (hz : mark = 0 ∨ mark = 1) : Met l yX1_add wsX1_add ({ frames := 2, cells := 0, slots := 0, locals := 50 }) (WrP G (wR G h0 h1 h2 h3 h4 h5 key (nI n) nu st de su mk) [.ref h0, .long number, .long stamp, .int warmth, .int mark]) (va_Qi (fun r (u : va_W) => (n = 200 ∧ r = 0 ∧ u = wR G h0 h1 h2 h3 h4 h5 key (nI n) nu st de su mk) ∨ (n < 200 ∧ r = 1 ∧ u = wR G h0 h1 h2 h3 h4 h5 key (nI (n + 1)) (vp_updL nu n number) (vp_updL st n stamp) (upd de n warmth) (vp_updL su n (f_due key (n + 1) (vp_updL nu n number) (vp_updL st n stamp) (upd de n warmth) su (nI n))) (upd mk n mark))) (fun u t => va_P G.1 vwCl u t.heap) (adr (wR G h0 h1 h2 h3 h4 h5 key (nI n) nu st de su mk))) 0 0 (adr (wR G h0 h1 h2 h3 h4 h5 key (nI n) nu st de su mk)) := by
  refine Met.ofW (cc := cX1_add) (maxL := 8) (ret := (some .boolean)) (by decide) rfl ?_
  intro p e s m args below meth c s₁ B hml hv
  obtain ⟨rfl, hP, hE, hD0⟩ := hv
  have hx := B.exec
  have hb := B.bytes
  have hr := B.returns
  have hts := atoms_spec (ws := wsX1_add) B.pre
  have hown : s.vm.findClass RX1 = some m.cls := findClass_of_methodNamed B.named
  have hlocks := B.notSynchronized
  have hD : va_D (adr (wR G h0 h1 h2 h3 h4 h5 key (nI n) nu st de su mk)) (wR G h0 h1 h2 h3 h4 h5 key (nI n) nu st de su mk) := ⟨hD0.1, fun k q hk => ⟨k, q.2, hk⟩⟩
  generalize adr (wR G h0 h1 h2 h3 h4 h5 key (nI n) nu st de su mk) = A at hD ⊢
  have hS : va_S A s.heap s.heap [] := va_S.rf
  have hiX1 : ∀ w ∈ wsX10, w ∈ wsX1_add := by decide +kernel
  have hl := lv_entry ([.ref h0, .long number, .long stamp, .int warmth, .int mark]) (n := 8) (Nat.le_of_ble_eq_true rfl)
  rw [lg_entry_eq]
  generalize (lg_sl ([.ref h0, .long number, .long stamp, .int warmth, .int mark]) ++ List.replicate (8 - (lg_sl ([.ref h0, .long number, .long stamp, .int warmth, .int mark])).length) Slot.unset).toArray = ls at hl ⊢
  replace hl : lv_has ls 8 [(0, .ref h0), (1, .long number), (3, .long stamp), (5, .int warmth), (6, .int mark)] := hl
  refine lv_aload_n hx hb dX1_add_0 rfl (lv_at hl 0 rfl) ?_
  refine va_get (D := G.1) (ci := 2) (v := .int (nI n)) (C := RX1) (T := TX1) (N := 7) hx hb hts hiX1 hown hE.1 hP 0 rfl rfl 6 (by decide) (hts (.fieldLink RX1 33 "MeterSeals$Rows" "count" "I") (by decide +kernel)) (fun _ h9 => h9) rfl dX1_add_1 ?_
  refine lv_sipush (v := 200) hx hb dX1_add_4 (by decide) ?_
  refine lv_icmp_lt (tgt := 12) hx hb dX1_add_7 (by decide) (fun c7 => ?_) (fun c7 => ?_)
  · have hlt : n < 200 := lt200 hc c7
    have h31 : n < 2 ^ 31 := by omega
    refine lv_aload_n hx hb dX1_add_12 rfl (lv_at hl 0 rfl) ?_
    refine va_get (D := G.1) (ci := 2) (v := .int (nI n)) (C := RX1) (T := TX1) (N := 7) hx hb hts hiX1 hown hE.1 hP 0 rfl rfl 6 (by decide) (hts (.fieldLink RX1 33 "MeterSeals$Rows" "count" "I") (by decide +kernel)) (fun _ h9 => h9) rfl dX1_add_13 ?_
    refine lv_istore (lv' := [(7, .int (nI n)), (0, .ref h0), (1, .long number), (3, .long stamp), (5, .int warmth), (6, .int mark)]) hx hb dX1_add_16 hl (by decide) rfl (fun ls hl => ?_)
    refine lv_aload_n hx hb dX1_add_18 rfl (lv_at hl 1 rfl) ?_
    refine va_get (D := G.1) (ci := 2) (v := .ref h1) (C := RX1) (T := TX1) (N := 7) hx hb hts hiX1 hown hE.1 hP 0 rfl rfl 1 (by decide) (hts (.fieldLink RX1 15 "MeterSeals$Rows" "numbers" "[J") (by decide +kernel)) (fun _ h9 => h9) rfl dX1_add_19 ?_
    refine lv_iload hx hb dX1_add_22 (lv_at hl 0 rfl) ?_
    refine lv_lload_n hx hb dX1_add_24 rfl (lv_at hl 2 rfl) ?_
    refine va_last hx hb hE.1 hP hD hS 1 1 rfl rfl (vp_in_nI hlt (by decide)) dX1_add_25 (fun H locs hP hD hS => ?_)
    rw [nI_clamp h31] at hP hD
    replace hP : va_P G.1 vwCl (wR G h0 h1 h2 h3 h4 h5 key (nI n) (vp_updL nu n number) st de su mk) H := hP
    replace hD : va_D A (wR G h0 h1 h2 h3 h4 h5 key (nI n) (vp_updL nu n number) st de su mk) := hD
    refine lv_aload_n hx hb dX1_add_26 rfl (lv_at hl 1 rfl) ?_
    refine va_get (D := G.1) (ci := 2) (v := .ref h2) (C := RX1) (T := TX1) (N := 7) hx hb hts hiX1 hown hE.1 hP 0 rfl rfl 2 (by decide) (hts (.fieldLink RX1 19 "MeterSeals$Rows" "stamps" "[J") (by decide +kernel)) (fun _ h9 => h9) rfl dX1_add_27 ?_
    refine lv_iload hx hb dX1_add_30 (lv_at hl 0 rfl) ?_
    refine lv_lload_n hx hb dX1_add_32 rfl (lv_at hl 3 rfl) ?_
    refine va_last hx hb hE.1 hP hD hS 2 1 rfl rfl (vp_in_nI hlt (by decide)) dX1_add_33 (fun H locs hP hD hS => ?_)
    rw [nI_clamp h31] at hP hD
    replace hP : va_P G.1 vwCl (wR G h0 h1 h2 h3 h4 h5 key (nI n) (vp_updL nu n number) (vp_updL st n stamp) de su mk) H := hP
    replace hD : va_D A (wR G h0 h1 h2 h3 h4 h5 key (nI n) (vp_updL nu n number) (vp_updL st n stamp) de su mk) := hD
    refine lv_aload_n hx hb dX1_add_34 rfl (lv_at hl 1 rfl) ?_
    refine va_get (D := G.1) (ci := 2) (v := .ref h3) (C := RX1) (T := TX1) (N := 7) hx hb hts hiX1 hown hE.1 hP 0 rfl rfl 3 (by decide) (hts (.fieldLink RX1 22 "MeterSeals$Rows" "degrees" "[I") (by decide +kernel)) (fun _ h9 => h9) rfl dX1_add_35 ?_
    refine lv_iload hx hb dX1_add_38 (lv_at hl 0 rfl) ?_
    refine lv_iload hx hb dX1_add_40 (lv_at hl 4 rfl) ?_
    refine va_iast hx hb hE.1 hP hD hS 3 0 rfl rfl (vp_in_nI hlt (by decide)) dX1_add_42 (fun H locs hP hD hS => ?_)
    rw [nI_clamp h31] at hP hD
    replace hP : va_P G.1 vwCl (wR G h0 h1 h2 h3 h4 h5 key (nI n) (vp_updL nu n number) (vp_updL st n stamp) (upd de n warmth) su mk) H := hP
    replace hD : va_D A (wR G h0 h1 h2 h3 h4 h5 key (nI n) (vp_updL nu n number) (vp_updL st n stamp) (upd de n warmth) su mk) := hD
    refine lv_aload_n hx hb dX1_add_43 rfl (lv_at hl 1 rfl) ?_
    refine va_get (D := G.1) (ci := 2) (v := .ref h5) (C := RX1) (T := TX1) (N := 7) hx hb hts hiX1 hown hE.1 hP 0 rfl rfl 5 (by decide) (hts (.fieldLink RX1 29 "MeterSeals$Rows" "marks" "[Z") (by decide +kernel)) (fun _ h9 => h9) rfl dX1_add_44 ?_
    refine lv_iload hx hb dX1_add_47 (lv_at hl 0 rfl) ?_
    refine lv_iload hx hb dX1_add_49 (lv_at hl 5 rfl) ?_
    refine va_zast hx hb hE.1 hP hD hS 5 2 rfl rfl (vp_in_nI hlt (by decide)) dX1_add_51 (fun H locs hP hD hS => ?_)
    rw [nI_clamp h31, znar hz] at hP hD
    replace hP : va_P G.1 vwCl (wR G h0 h1 h2 h3 h4 h5 key (nI n) (vp_updL nu n number) (vp_updL st n stamp) (upd de n warmth) su (upd mk n mark)) H := hP
    replace hD : va_D A (wR G h0 h1 h2 h3 h4 h5 key (nI n) (vp_updL nu n number) (vp_updL st n stamp) (upd de n warmth) su (upd mk n mark)) := hD
    refine lv_aload_n hx hb dX1_add_52 rfl (lv_at hl 1 rfl) ?_
    refine lv_dup hx hb dX1_add_53 rfl ?_
    refine va_get (D := G.1) (ci := 2) (v := .int (nI n)) (C := RX1) (T := TX1) (N := 7) hx hb hts hiX1 hown hE.1 hP 0 rfl rfl 6 (by decide) (hts (.fieldLink RX1 33 "MeterSeals$Rows" "count" "I") (by decide +kernel)) (fun _ h9 => h9) rfl dX1_add_54 ?_
    refine lv_iconst (v := 1) hx hb dX1_add_57 (by decide) ?_
    refine lv_iadd hx hb dX1_add_58 ?_
    rw [nI_1]
    refine va_put (D := G.1) (ci := 2) (v := .int (nI (n + 1))) (ty := .int) (C := RX1) (T := TX1) (N := 7) hx hb hts hiX1 tyX1 tyX1_ok nmX1 hown hE.1 hP hD hS 0 rfl rfl 6 (by decide) (hts (.fieldLink RX1 33 "MeterSeals$Rows" "count" "I") (by decide +kernel)) (fun _ h9 => h9) rfl (by decide +kernel) rfl rfl (Nat.le_of_ble_eq_true rfl) dX1_add_59 (fun H locs hP hD hS => ?_)
    replace hP : va_P G.1 vwCl (wR G h0 h1 h2 h3 h4 h5 key (nI (n + 1)) (vp_updL nu n number) (vp_updL st n stamp) (upd de n warmth) su (upd mk n mark)) H := hP
    replace hD : va_D A (wR G h0 h1 h2 h3 h4 h5 key (nI (n + 1)) (vp_updL nu n number) (vp_updL st n stamp) (upd de n warmth) su (upd mk n mark)) := hD
    refine lv_aload_n hx hb dX1_add_62 rfl (lv_at hl 1 rfl) ?_
    refine va_get (D := G.1) (ci := 2) (v := .ref h4) (C := RX1) (T := TX1) (N := 7) hx hb hts hiX1 hown hE.1 hP 0 rfl rfl 4 (by decide) (hts (.fieldLink RX1 26 "MeterSeals$Rows" "sums" "[J") (by decide +kernel)) (fun _ h9 => h9) rfl dX1_add_63 ?_
    refine lv_iload hx hb dX1_add_66 (lv_at hl 0 rfl) ?_
    refine lv_aload_n hx hb dX1_add_68 rfl (lv_at hl 1 rfl) ?_
    refine lv_iload hx hb dX1_add_69 (lv_at hl 0 rfl) ?_
    refine x_rl (va_runV (As := [.int (nI n)]) (rest := [.int (nI n), .ref h4]) ⟨hx, hb, hml, hown, hts⟩ (ct_X1_dueSum l G h0 h1 h2 h3 h4 h5 key (n + 1) (vp_updL nu n number) (vp_updL st n stamp) (upd de n warmth) su (upd mk n mark) (nI n) (by omega)) (cwV 1 hts gX1_add_X1_dueSum rfl rfl rfl (by decide +kernel) ⟨Nat.le_of_ble_eq_true rfl, Nat.le_of_ble_eq_true rfl⟩) (RdP.preV 0 2 rfl rfl hP hE) rfl rfl hl.1 rfl (lv_room (Nat.le_of_ble_eq_true rfl)) dX1_add_71 ⟨Nat.zero_le _, Nat.zero_le _⟩) (fun r1 er1 => ?_)
    subst er1
    refine va_last hx hb hE.1 hP hD hS 4 1 rfl rfl (vp_in_nI hlt (by decide)) dX1_add_74 (fun H locs hP hD hS => ?_)
    rw [nI_clamp h31] at hP hD
    replace hP : va_P G.1 vwCl (wR G h0 h1 h2 h3 h4 h5 key (nI (n + 1)) (vp_updL nu n number) (vp_updL st n stamp) (upd de n warmth) (vp_updL su n (f_due key (n + 1) (vp_updL nu n number) (vp_updL st n stamp) (upd de n warmth) su (nI n))) (upd mk n mark)) H := hP
    replace hD : va_D A (wR G h0 h1 h2 h3 h4 h5 key (nI (n + 1)) (vp_updL nu n number) (vp_updL st n stamp) (upd de n warmth) (vp_updL su n (f_due key (n + 1) (vp_updL nu n number) (vp_updL st n stamp) (upd de n warmth) su (nI n))) (upd mk n mark)) := hD
    refine lv_iconst (v := 1) hx hb dX1_add_75 (by decide) ?_
    exact W.zret (v := 1) hx hb hr (zb (Or.inr rfl)) (fun tZ hZ hW => ⟨⟨1, wR G h0 h1 h2 h3 h4 h5 key (nI (n + 1)) (vp_updL nu n number) (vp_updL st n stamp) (upd de n warmth) (vp_updL su n (f_due key (n + 1) (vp_updL nu n number) (vp_updL st n stamp) (upd de n warmth) su (nI n))) (upd mk n mark), rfl, Or.inr ⟨hlt, rfl, rfl⟩, by show va_P _ _ _ tZ.heap; rw [hZ]; exact hP⟩, hS.F hZ⟩) hS.2.2 dX1_add_76
  refine lv_iconst (v := 0) hx hb dX1_add_10 (by decide) ?_
  exact W.zret (v := 0) hx hb hr (zb (Or.inl rfl)) (fun tZ hZ hW => ⟨⟨0, wR G h0 h1 h2 h3 h4 h5 key (nI n) nu st de su mk, rfl, Or.inl ⟨ge200 hc c7, rfl, rfl⟩, by show va_P _ _ _ tZ.heap; rw [hZ]; exact hP⟩, hS.F hZ⟩) hS.2.2 dX1_add_11

set_option maxHeartbeats 4000000 in
set_option maxRecDepth 100000 in
/-- addPulses -/
theorem ct_X1_addPulses (l : Launch) (G : Gx) (h0 h1 h2 h3 h4 h5 : Nat) (key : Int64) (n : Nat) (nu st : Nat → Int64) (de : Nat → Int32) (su : Nat → Int64) (mk : Nat → Int32) (row : Int32) (b : Int64) (hc : n ≤ 200) : Met l yX1_addPulses wsX1_addPulses ({ frames := 3, cells := 0, slots := 0, locals := 63 }) (WrP G (wR G h0 h1 h2 h3 h4 h5 key (nI n) nu st de su mk) [.ref h0, .int row, .long b]) (va_Qi (fun r (u : va_W) => (f_poke n nu st row b = 0 ∧ r = 0 ∧ u = wR G h0 h1 h2 h3 h4 h5 key (nI n) nu st de su mk) ∨ (¬ f_poke n nu st row b = 0 ∧ r = 1 ∧ u = wR G h0 h1 h2 h3 h4 h5 key (nI n) (vp_updL nu row.toNatClampNeg (f_pul n nu st row + b)) st de su mk)) (fun u t => va_P G.1 vwCl u t.heap) (adr (wR G h0 h1 h2 h3 h4 h5 key (nI n) nu st de su mk))) 0 0 (adr (wR G h0 h1 h2 h3 h4 h5 key (nI n) nu st de su mk)) := by
  refine Met.ofW (cc := cX1_addPulses) (maxL := 6) (ret := (some .boolean)) (by decide) rfl ?_
  intro p e s m args below meth c s₁ B hml hv
  obtain ⟨rfl, hP, hE, hD0⟩ := hv
  have hx := B.exec
  have hb := B.bytes
  have hr := B.returns
  have hts := atoms_spec (ws := wsX1_addPulses) B.pre
  have hown : s.vm.findClass RX1 = some m.cls := findClass_of_methodNamed B.named
  have hlocks := B.notSynchronized
  have hD : va_D (adr (wR G h0 h1 h2 h3 h4 h5 key (nI n) nu st de su mk)) (wR G h0 h1 h2 h3 h4 h5 key (nI n) nu st de su mk) := ⟨hD0.1, fun k q hk => ⟨k, q.2, hk⟩⟩
  generalize adr (wR G h0 h1 h2 h3 h4 h5 key (nI n) nu st de su mk) = A at hD ⊢
  have hS : va_S A s.heap s.heap [] := va_S.rf
  have hiX1 : ∀ w ∈ wsX10, w ∈ wsX1_addPulses := by decide +kernel
  have hl := lv_entry ([.ref h0, .int row, .long b]) (n := 6) (Nat.le_of_ble_eq_true rfl)
  rw [lg_entry_eq]
  generalize (lg_sl ([.ref h0, .int row, .long b]) ++ List.replicate (6 - (lg_sl ([.ref h0, .int row, .long b])).length) Slot.unset).toArray = ls at hl ⊢
  replace hl : lv_has ls 6 [(0, .ref h0), (1, .int row), (2, .long b)] := hl
  refine lv_aload_n hx hb dX1_addPulses_0 rfl (lv_at hl 0 rfl) ?_
  refine lv_iload_n hx hb dX1_addPulses_1 rfl (lv_at hl 1 rfl) ?_
  refine x_rl (va_runV (As := [.int row]) (rest := []) ⟨hx, hb, hml, hown, hts⟩ (ct_X1_pulsesOf l G h0 h1 h2 h3 h4 h5 key n nu st de su mk row hc) (cwV 1 hts gX1_addPulses_X1_pulsesOf rfl rfl rfl (by decide +kernel) ⟨Nat.le_of_ble_eq_true rfl, Nat.le_of_ble_eq_true rfl⟩) (RdP.preV 0 2 rfl rfl hP hE) rfl rfl hl.1 rfl (lv_room (Nat.le_of_ble_eq_true rfl)) dX1_addPulses_2 ⟨Nat.zero_le _, Nat.zero_le _⟩) (fun r1 er1 => ?_)
  subst er1
  refine lv_lstore (lv' := [(4, .long (f_pul n nu st row)), (0, .ref h0), (1, .int row), (2, .long b)]) hx hb dX1_addPulses_5 hl (by decide) rfl (fun ls hl => ?_)
  refine lv_aload_n hx hb dX1_addPulses_7 rfl (lv_at hl 1 rfl) ?_
  refine lv_iload_n hx hb dX1_addPulses_8 rfl (lv_at hl 2 rfl) ?_
  refine x_ri (va_runV (As := [.int row]) (rest := []) ⟨hx, hb, hml, hown, hts⟩ (ct_X1_isReading l G h0 h1 h2 h3 h4 h5 key n nu st de su mk row hc) (cwV 1 hts gX1_addPulses_X1_isReading rfl rfl rfl (by decide +kernel) ⟨Nat.le_of_ble_eq_true rfl, Nat.le_of_ble_eq_true rfl⟩) (RdP.preV 0 2 rfl rfl hP hE) rfl rfl hl.1 rfl (lv_room (Nat.le_of_ble_eq_true rfl)) dX1_addPulses_9 ⟨Nat.zero_le _, Nat.zero_le _⟩) (fun r2 er2 => ?_)
  subst er2
  refine lv_if_eq (tgt := 31) hx hb dX1_addPulses_12 (by decide) (fun c12 => ?_) (fun c12 => ?_)
  · refine lv_iconst (v := 0) hx hb dX1_addPulses_31 (by decide) ?_
    exact W.zret (v := 0) hx hb hr (zb (Or.inl rfl)) (fun tZ hZ hW => ⟨⟨0, wR G h0 h1 h2 h3 h4 h5 key (nI n) nu st de su mk, rfl, Or.inl ⟨by simp [f_poke, c12], rfl, rfl⟩, by show va_P _ _ _ tZ.heap; rw [hZ]; exact hP⟩, hS.F hZ⟩) hS.2.2 dX1_addPulses_32
  refine lv_lload_n hx hb dX1_addPulses_15 rfl (lv_at hl 3 rfl) ?_
  refine lv_lload hx hb dX1_addPulses_16 (lv_at hl 0 rfl) ?_
  refine lv_lneg hx hb dX1_addPulses_18 ?_
  refine lv_ldc2 (v := 1000000) hx hb hown (hts (.constantLong RX1 51 1000000) (by decide +kernel)) dX1_addPulses_19 ?_
  refine lv_lload hx hb dX1_addPulses_22 (lv_at hl 0 rfl) ?_
  refine lv_lsub hx hb dX1_addPulses_24 ?_
  refine x_ri (va_runSN (As := [.long b, .long (-(f_pul n nu st row)), .long (1000000 - (f_pul n nu st row))]) (rest := []) ⟨hx, hb, hml, hown, hts⟩ (ct_X3_within l G b (-(f_pul n nu st row)) (1000000 - (f_pul n nu st row))) ⟨va_cnB 3 hts gX1_addPulses_X3_within_n53 rfl rfl rfl hE.2.1.2.2.2.2.2.1 (hts (.initialized RX3) (by decide +kernel)) (by decide +kernel) ⟨Nat.le_of_ble_eq_true rfl, Nat.le_of_ble_eq_true rfl⟩, hts (.static yX3_within) (by decide +kernel), trivial⟩ (RdP.preS (fun k q h => by simp at h) hE) rfl rfl hl.1 rfl (lv_room (Nat.le_of_ble_eq_true rfl)) dX1_addPulses_25 ⟨Nat.zero_le _, Nat.zero_le _⟩) (fun r3 er3 => ?_)
  subst er3
  refine lv_if_ne (tgt := 33) hx hb dX1_addPulses_28 (by decide) (fun c28 => ?_) (fun c28 => ?_)
  · refine lv_aload_n hx hb dX1_addPulses_33 rfl (lv_at hl 1 rfl) ?_
    refine va_get (D := G.1) (ci := 2) (v := .ref h1) (C := RX1) (T := TX1) (N := 7) hx hb hts hiX1 hown hE.1 hP 0 rfl rfl 1 (by decide) (hts (.fieldLink RX1 15 "MeterSeals$Rows" "numbers" "[J") (by decide +kernel)) (fun _ h9 => h9) rfl dX1_addPulses_34 ?_
    refine lv_iload_n hx hb dX1_addPulses_37 rfl (lv_at hl 2 rfl) ?_
    refine lv_lload hx hb dX1_addPulses_38 (lv_at hl 0 rfl) ?_
    refine lv_lload_n hx hb dX1_addPulses_40 rfl (lv_at hl 3 rfl) ?_
    refine lv_ladd hx hb dX1_addPulses_41 ?_
    refine va_last hx hb hE.1 hP hD hS 1 1 rfl rfl (isR_in hc c12) dX1_addPulses_42 (fun H locs hP hD hS => ?_)
    replace hP : va_P G.1 vwCl (wR G h0 h1 h2 h3 h4 h5 key (nI n) (vp_updL nu row.toNatClampNeg ((f_pul n nu st row) + b)) st de su mk) H := hP
    replace hD : va_D A (wR G h0 h1 h2 h3 h4 h5 key (nI n) (vp_updL nu row.toNatClampNeg ((f_pul n nu st row) + b)) st de su mk) := hD
    refine lv_iconst (v := 1) hx hb dX1_addPulses_43 (by decide) ?_
    exact W.zret (v := 1) hx hb hr (zb (Or.inr rfl)) (fun tZ hZ hW => ⟨⟨1, wR G h0 h1 h2 h3 h4 h5 key (nI n) (vp_updL nu row.toNatClampNeg ((f_pul n nu st row) + b)) st de su mk, rfl, Or.inr ⟨by simp [f_poke, c12, c28], rfl, rfl⟩, by show va_P _ _ _ tZ.heap; rw [hZ]; exact hP⟩, hS.F hZ⟩) hS.2.2 dX1_addPulses_44
  refine lv_iconst (v := 0) hx hb dX1_addPulses_31 (by decide) ?_
  exact W.zret (v := 0) hx hb hr (zb (Or.inl rfl)) (fun tZ hZ hW => ⟨⟨0, wR G h0 h1 h2 h3 h4 h5 key (nI n) nu st de su mk, rfl, Or.inl ⟨by simp [f_poke, c12, c28], rfl, rfl⟩, by show va_P _ _ _ tZ.heap; rw [hZ]; exact hP⟩, hS.F hZ⟩) hS.2.2 dX1_addPulses_32
