set_option maxHeartbeats 4000000 in
set_option maxRecDepth 100000 in
/-- within -/
theorem ct_X3_within (l : Launch) (G : Gx) (v a b : Int64) : Met l yX3_within wsX3_within ({ frames := 0, cells := 0, slots := 0, locals := 0 }) (RdP G [] [.long v, .long a, .long b]) (vp_Si (fun r => r = f_within v a b)) 0 0 (fun _ => False) := by
  refine Met.ofW (cc := cX3_within) (maxL := 6) (ret := (some .boolean)) (by decide) rfl ?_
  intro p e s m args below meth c s₁ B hml hv
  obtain ⟨rfl, hP, hE⟩ := hv
  have hx := B.exec
  have hb := B.bytes
  have hr := B.returns
  have hts := atoms_spec (ws := wsX3_within) B.pre
  have hown : s.vm.findClass RX3 = some m.cls := findClass_of_methodNamed B.named
  have hlocks := B.notSynchronized
  have hl := lv_entry ([.long v, .long a, .long b]) (n := 6) (Nat.le_of_ble_eq_true rfl)
  rw [lg_entry_eq]
  generalize (lg_sl ([.long v, .long a, .long b]) ++ List.replicate (6 - (lg_sl ([.long v, .long a, .long b])).length) Slot.unset).toArray = ls at hl ⊢
  replace hl : lv_has ls 6 [(0, .long v), (2, .long a), (4, .long b)] := hl
  refine lv_lload_n hx hb dX3_within_0 rfl (lv_at hl 0 rfl) ?_
  refine lv_lload_n hx hb dX3_within_1 rfl (lv_at hl 1 rfl) ?_
  refine x_llt (tgt := 17) hx hb dX3_within_2 dX3_within_3 (by decide) (fun c3 => ?_) (fun c3 => ?_)
  · refine lv_iconst (v := 0) hx hb dX3_within_17 (by decide) ?_
    exact W.zret (v := 0) hx hb hr (zb (Or.inl rfl)) (fun t ht hW => ⟨_, rfl, by simp [f_within, c3], ht⟩) t_nil dX3_within_18
  refine lv_lload_n hx hb dX3_within_6 rfl (lv_at hl 0 rfl) ?_
  refine lv_lload hx hb dX3_within_7 (lv_at hl 2 rfl) ?_
  refine x_lgt (tgt := 17) hx hb dX3_within_9 dX3_within_10 (by decide) (fun c10 => ?_) (fun c10 => ?_)
  · refine lv_iconst (v := 0) hx hb dX3_within_17 (by decide) ?_
    exact W.zret (v := 0) hx hb hr (zb (Or.inl rfl)) (fun t ht hW => ⟨_, rfl, by simp [f_within, c3, c10], ht⟩) t_nil dX3_within_18
  refine lv_iconst (v := 1) hx hb dX3_within_13 (by decide) ?_
  refine lv_goto (tgt := 18) hx hb dX3_within_14 (by decide) ?_
  exact W.zret (v := 1) hx hb hr (zb (Or.inr rfl)) (fun t ht hW => ⟨_, rfl, by simp [f_within, c3, c10], ht⟩) t_nil dX3_within_18

set_option maxHeartbeats 4000000 in
set_option maxRecDepth 100000 in
/-- quotient -/
theorem ct_X3_quotient (l : Launch) (G : Gx) (a d : Int64) : Met l yX3_quotient wsX3_quotient ({ frames := 0, cells := 0, slots := 0, locals := 0 }) (RdP G [] [.long a, .long d]) (vp_Sl (fun r => r = f_quot a d)) 0 0 (fun _ => False) := by
  refine Met.ofW (cc := cX3_quotient) (maxL := 4) (ret := (some .long)) (by decide) rfl ?_
  intro p e s m args below meth c s₁ B hml hv
  obtain ⟨rfl, hP, hE⟩ := hv
  have hx := B.exec
  have hb := B.bytes
  have hr := B.returns
  have hts := atoms_spec (ws := wsX3_quotient) B.pre
  have hown : s.vm.findClass RX3 = some m.cls := findClass_of_methodNamed B.named
  have hlocks := B.notSynchronized
  have hl := lv_entry ([.long a, .long d]) (n := 4) (Nat.le_of_ble_eq_true rfl)
  rw [lg_entry_eq]
  generalize (lg_sl ([.long a, .long d]) ++ List.replicate (4 - (lg_sl ([.long a, .long d])).length) Slot.unset).toArray = ls at hl ⊢
  replace hl : lv_has ls 4 [(0, .long a), (2, .long d)] := hl
  refine lv_lload_n hx hb dX3_quotient_0 rfl (lv_at hl 1 rfl) ?_
  refine lv_lconst (v := 0) hx hb dX3_quotient_1 (by decide) ?_
  refine x_lne (tgt := 10) hx hb dX3_quotient_2 dX3_quotient_3 (by decide) (fun c3 => ?_) (fun c3 => ?_)
  · refine lv_lload_n hx hb dX3_quotient_10 rfl (lv_at hl 0 rfl) ?_
    refine lv_lload_n hx hb dX3_quotient_11 rfl (lv_at hl 1 rfl) ?_
    refine lv_ldiv hx hb dX3_quotient_12 c3 ?_
    exact W.lret (v := (a / d)) hx hb hr (fun t ht hW => ⟨_, rfl, by simp [f_quot, c3], ht⟩) t_nil dX3_quotient_13
  refine lv_lconst (v := 0) hx hb dX3_quotient_6 (by decide) ?_
  refine lv_goto (tgt := 13) hx hb dX3_quotient_7 (by decide) ?_
  exact W.lret (v := 0) hx hb hr (fun t ht hW => ⟨_, rfl, by simp [f_quot, c3], ht⟩) t_nil dX3_quotient_13

set_option maxHeartbeats 4000000 in
set_option maxRecDepth 100000 in
/-- stir -/
theorem ct_X1_stir (l : Launch) (G : Gx) (h v : Int64) : Met l yX1_stir wsX1_stir ({ frames := 0, cells := 0, slots := 0, locals := 0 }) (RdP G [] [.long h, .long v]) (vp_Sl (fun r => r = f_mix h v)) 0 0 (fun _ => False) := by
  refine Met.ofW (cc := cX1_stir) (maxL := 6) (ret := (some .long)) (by decide) rfl ?_
  intro p e s m args below meth c s₁ B hml hv
  obtain ⟨rfl, hP, hE⟩ := hv
  have hx := B.exec
  have hb := B.bytes
  have hr := B.returns
  have hts := atoms_spec (ws := wsX1_stir) B.pre
  have hown : s.vm.findClass RX1 = some m.cls := findClass_of_methodNamed B.named
  have hlocks := B.notSynchronized
  have hl := lv_entry ([.long h, .long v]) (n := 6) (Nat.le_of_ble_eq_true rfl)
  rw [lg_entry_eq]
  generalize (lg_sl ([.long h, .long v]) ++ List.replicate (6 - (lg_sl ([.long h, .long v])).length) Slot.unset).toArray = ls at hl ⊢
  replace hl : lv_has ls 6 [(0, .long h), (2, .long v)] := hl
  refine lv_lload_n hx hb dX1_stir_0 rfl (lv_at hl 0 rfl) ?_
  refine lv_lload_n hx hb dX1_stir_1 rfl (lv_at hl 1 rfl) ?_
  refine lv_lxor hx hb dX1_stir_2 ?_
  refine lv_ldc2 (v := 1099511628211) hx hb hown (hts (.constantLong RX1 63 1099511628211) (by decide +kernel)) dX1_stir_3 ?_
  refine lv_lmul hx hb dX1_stir_6 ?_
  refine lv_topl (fun v1 ev1 => ?_)
  refine lv_lstore (lv' := [(4, .long v1), (0, .long h), (2, .long v)]) hx hb dX1_stir_7 hl (by decide) rfl (fun ls hl => ?_)
  refine lv_lload hx hb dX1_stir_9 (lv_at hl 0 rfl) ?_
  refine lv_lload hx hb dX1_stir_11 (lv_at hl 0 rfl) ?_
  refine lv_bipush (v := 29) hx hb dX1_stir_13 (by decide) ?_
  refine lv_lushr (v := (v1.toUInt64 >>> ((29 : Int32).toInt64.toUInt64 &&& Int64.toUInt64 63)).toInt64) hx hb dX1_stir_15 rfl ?_
  refine lv_lxor hx hb dX1_stir_16 ?_
  exact W.lret (v := (v1 ^^^ (v1.toUInt64 >>> ((29 : Int32).toInt64.toUInt64 &&& Int64.toUInt64 63)).toInt64)) hx hb hr (fun t ht hW => ⟨_, rfl, by simp only [f_mix, ev1], ht⟩) t_nil dX1_stir_17

set_option maxHeartbeats 4000000 in
set_option maxRecDepth 100000 in
/-- goesBefore -/
theorem ct_X2_goesBefore (l : Launch) (G : Gx) (a b d : Int32) : Met l yX2_goesBefore wsX2_goesBefore ({ frames := 0, cells := 0, slots := 0, locals := 0 }) (RdP G [] [.int a, .int b, .int d]) (vp_Si (fun r => r = f_before a b d)) 0 0 (fun _ => False) := by
  refine Met.ofW (cc := cX2_goesBefore) (maxL := 3) (ret := (some .boolean)) (by decide) rfl ?_
  intro p e s m args below meth c s₁ B hml hv
  obtain ⟨rfl, hP, hE⟩ := hv
  have hx := B.exec
  have hb := B.bytes
  have hr := B.returns
  have hts := atoms_spec (ws := wsX2_goesBefore) B.pre
  have hown : s.vm.findClass RX2 = some m.cls := findClass_of_methodNamed B.named
  have hlocks := B.notSynchronized
  have hl := lv_entry ([.int a, .int b, .int d]) (n := 3) (Nat.le_of_ble_eq_true rfl)
  rw [lg_entry_eq]
  generalize (lg_sl ([.int a, .int b, .int d]) ++ List.replicate (3 - (lg_sl ([.int a, .int b, .int d])).length) Slot.unset).toArray = ls at hl ⊢
  replace hl : lv_has ls 3 [(0, .int a), (1, .int b), (2, .int d)] := hl
  refine lv_iload_n hx hb dX2_goesBefore_0 rfl (lv_at hl 0 rfl) ?_
  refine lv_iload_n hx hb dX2_goesBefore_1 rfl (lv_at hl 2 rfl) ?_
  refine lv_icmp_gt (tgt := 21) hx hb dX2_goesBefore_2 (by decide) (fun c2 => ?_) (fun c2 => ?_)
  · refine lv_iload_n hx hb dX2_goesBefore_21 rfl (lv_at hl 1 rfl) ?_
    refine lv_iload_n hx hb dX2_goesBefore_22 rfl (lv_at hl 2 rfl) ?_
    refine lv_icmp_le (tgt := 35) hx hb dX2_goesBefore_23 (by decide) (fun c23 => ?_) (fun c23 => ?_)
    · refine lv_iconst (v := 0) hx hb dX2_goesBefore_35 (by decide) ?_
      exact W.zret (v := 0) hx hb hr (zb (Or.inl rfl)) (fun t ht hW => ⟨_, rfl, by simp [f_before, c2, c23], ht⟩) t_nil dX2_goesBefore_36
    refine lv_iload_n hx hb dX2_goesBefore_26 rfl (lv_at hl 0 rfl) ?_
    refine lv_iload_n hx hb dX2_goesBefore_27 rfl (lv_at hl 1 rfl) ?_
    refine lv_icmp_ge (tgt := 35) hx hb dX2_goesBefore_28 (by decide) (fun c28 => ?_) (fun c28 => ?_)
    · refine lv_iconst (v := 0) hx hb dX2_goesBefore_35 (by decide) ?_
      exact W.zret (v := 0) hx hb hr (zb (Or.inl rfl)) (fun t ht hW => ⟨_, rfl, by simp [f_before, c2, c23, c28], ht⟩) t_nil dX2_goesBefore_36
    refine lv_iconst (v := 1) hx hb dX2_goesBefore_31 (by decide) ?_
    refine lv_goto (tgt := 36) hx hb dX2_goesBefore_32 (by decide) ?_
    exact W.zret (v := 1) hx hb hr (zb (Or.inr rfl)) (fun t ht hW => ⟨_, rfl, by simp [f_before, c2, c23, c28], ht⟩) t_nil dX2_goesBefore_36
  refine lv_iload_n hx hb dX2_goesBefore_5 rfl (lv_at hl 1 rfl) ?_
  refine lv_iload_n hx hb dX2_goesBefore_6 rfl (lv_at hl 2 rfl) ?_
  refine lv_icmp_gt (tgt := 15) hx hb dX2_goesBefore_7 (by decide) (fun c7 => ?_) (fun c7 => ?_)
  · refine lv_iconst (v := 1) hx hb dX2_goesBefore_15 (by decide) ?_
    refine lv_goto (tgt := 20) hx hb dX2_goesBefore_16 (by decide) ?_
    exact W.zret (v := 1) hx hb hr (zb (Or.inr rfl)) (fun t ht hW => ⟨_, rfl, by simp [f_before, c2, c7], ht⟩) t_nil dX2_goesBefore_20
  refine lv_iload_n hx hb dX2_goesBefore_10 rfl (lv_at hl 0 rfl) ?_
  refine lv_iload_n hx hb dX2_goesBefore_11 rfl (lv_at hl 1 rfl) ?_
  refine lv_icmp_le (tgt := 19) hx hb dX2_goesBefore_12 (by decide) (fun c12 => ?_) (fun c12 => ?_)
  · refine lv_iconst (v := 0) hx hb dX2_goesBefore_19 (by decide) ?_
    exact W.zret (v := 0) hx hb hr (zb (Or.inl rfl)) (fun t ht hW => ⟨_, rfl, by simp [f_before, c2, c7, c12], ht⟩) t_nil dX2_goesBefore_20
  refine lv_iconst (v := 1) hx hb dX2_goesBefore_15 (by decide) ?_
  refine lv_goto (tgt := 20) hx hb dX2_goesBefore_16 (by decide) ?_
  exact W.zret (v := 1) hx hb hr (zb (Or.inr rfl)) (fun t ht hW => ⟨_, rfl, by simp [f_before, c2, c7, c12], ht⟩) t_nil dX2_goesBefore_20

set_option maxHeartbeats 4000000 in
set_option maxRecDepth 100000 in
/-- holds -/
theorem ct_X1_holds (l : Launch) (G : Gx) (h0 h1 h2 h3 h4 h5 : Nat) (key : Int64) (n : Nat) (nu st : Nat → Int64) (de : Nat → Int32) (su : Nat → Int64) (mk : Nat → Int32) (row : Int32) : Met l yX1_holds wsX1_holds ({ frames := 0, cells := 0, slots := 0, locals := 0 }) (RdP G (wR G h0 h1 h2 h3 h4 h5 key (nI n) nu st de su mk) [.ref h0, .int row]) (vp_Si (fun r => r = f_holds (nI n) row)) 0 0 (fun _ => False) := by
  refine Met.ofW (cc := cX1_holds) (maxL := 2) (ret := (some .boolean)) (by decide) rfl ?_
  intro p e s m args below meth c s₁ B hml hv
  obtain ⟨rfl, hP, hE⟩ := hv
  have hx := B.exec
  have hb := B.bytes
  have hr := B.returns
  have hts := atoms_spec (ws := wsX1_holds) B.pre
  have hown : s.vm.findClass RX1 = some m.cls := findClass_of_methodNamed B.named
  have hlocks := B.notSynchronized
  have hiX1 : ∀ w ∈ wsX10, w ∈ wsX1_holds := by decide +kernel
  have hl := lv_entry ([.ref h0, .int row]) (n := 2) (Nat.le_of_ble_eq_true rfl)
  rw [lg_entry_eq]
  generalize (lg_sl ([.ref h0, .int row]) ++ List.replicate (2 - (lg_sl ([.ref h0, .int row])).length) Slot.unset).toArray = ls at hl ⊢
  replace hl : lv_has ls 2 [(0, .ref h0), (1, .int row)] := hl
  refine lv_iload_n hx hb dX1_holds_0 rfl (lv_at hl 1 rfl) ?_
  refine lv_if_lt (tgt := 16) hx hb dX1_holds_1 (by decide) (fun c1 => ?_) (fun c1 => ?_)
  · refine lv_iconst (v := 0) hx hb dX1_holds_16 (by decide) ?_
    exact W.zret (v := 0) hx hb hr (zb (Or.inl rfl)) (fun t ht hW => ⟨_, rfl, by simp [f_holds, c1], ht⟩) t_nil dX1_holds_17
  refine lv_iload_n hx hb dX1_holds_4 rfl (lv_at hl 1 rfl) ?_
  refine lv_aload_n hx hb dX1_holds_5 rfl (lv_at hl 0 rfl) ?_
  refine va_get (D := G.1) (ci := 2) (v := .int (nI n)) (C := RX1) (T := TX1) (N := 7) hx hb hts hiX1 hown hE.1 hP 0 rfl rfl 6 (by decide) (hts (.fieldLink RX1 33 "MeterSeals$Rows" "count" "I") (by decide +kernel)) (fun _ h9 => h9) rfl dX1_holds_6 ?_
  refine lv_icmp_ge (tgt := 16) hx hb dX1_holds_9 (by decide) (fun c9 => ?_) (fun c9 => ?_)
  · refine lv_iconst (v := 0) hx hb dX1_holds_16 (by decide) ?_
    exact W.zret (v := 0) hx hb hr (zb (Or.inl rfl)) (fun t ht hW => ⟨_, rfl, by simp [f_holds, c1, c9], ht⟩) t_nil dX1_holds_17
  refine lv_iconst (v := 1) hx hb dX1_holds_12 (by decide) ?_
  refine lv_goto (tgt := 17) hx hb dX1_holds_13 (by decide) ?_
  exact W.zret (v := 1) hx hb hr (zb (Or.inr rfl)) (fun t ht hW => ⟨_, rfl, by simp [f_holds, c1, c9], ht⟩) t_nil dX1_holds_17

set_option maxHeartbeats 4000000 in
set_option maxRecDepth 100000 in
/-- isReading -/
theorem ct_X1_isReading (l : Launch) (G : Gx) (h0 h1 h2 h3 h4 h5 : Nat) (key : Int64) (n : Nat) (nu st : Nat → Int64) (de : Nat → Int32) (su : Nat → Int64) (mk : Nat → Int32) (row : Int32) (hc : n ≤ 200) : Met l yX1_isReading wsX1_isReading ({ frames := 1, cells := 0, slots := 0, locals := 21 }) (RdP G (wR G h0 h1 h2 h3 h4 h5 key (nI n) nu st de su mk) [.ref h0, .int row]) (vp_Si (fun r => r = f_isR n st row)) 0 0 (fun _ => False) := by
  refine Met.ofW (cc := cX1_isReading) (maxL := 2) (ret := (some .boolean)) (by decide) rfl ?_
  intro p e s m args below meth c s₁ B hml hv
  obtain ⟨rfl, hP, hE⟩ := hv
  have hx := B.exec
  have hb := B.bytes
  have hr := B.returns
  have hts := atoms_spec (ws := wsX1_isReading) B.pre
  have hown : s.vm.findClass RX1 = some m.cls := findClass_of_methodNamed B.named
  have hlocks := B.notSynchronized
  have hiX1 : ∀ w ∈ wsX10, w ∈ wsX1_isReading := by decide +kernel
  have hl := lv_entry ([.ref h0, .int row]) (n := 2) (Nat.le_of_ble_eq_true rfl)
  rw [lg_entry_eq]
  generalize (lg_sl ([.ref h0, .int row]) ++ List.replicate (2 - (lg_sl ([.ref h0, .int row])).length) Slot.unset).toArray = ls at hl ⊢
  replace hl : lv_has ls 2 [(0, .ref h0), (1, .int row)] := hl
  refine lv_aload_n hx hb dX1_isReading_0 rfl (lv_at hl 0 rfl) ?_
  refine lv_iload_n hx hb dX1_isReading_1 rfl (lv_at hl 1 rfl) ?_
  refine x_ri (va_runV (As := [.int row]) (rest := []) ⟨hx, hb, hml, hown, hts⟩ (ct_X1_holds l G h0 h1 h2 h3 h4 h5 key n nu st de su mk row) (cwV 1 hts gX1_isReading_X1_holds rfl rfl rfl (by decide +kernel) ⟨Nat.le_of_ble_eq_true rfl, Nat.le_of_ble_eq_true rfl⟩) (RdP.preV 0 2 rfl rfl hP hE) rfl rfl hl.1 rfl (lv_room (Nat.le_of_ble_eq_true rfl)) dX1_isReading_2 ⟨Nat.zero_le _, Nat.zero_le _⟩) (fun r1 er1 => ?_)
  subst er1
  refine lv_if_eq (tgt := 23) hx hb dX1_isReading_5 (by decide) (fun c5 => ?_) (fun c5 => ?_)
  · refine lv_iconst (v := 0) hx hb dX1_isReading_23 (by decide) ?_
    exact W.zret (v := 0) hx hb hr (zb (Or.inl rfl)) (fun t ht hW => ⟨_, rfl, by simp [f_isR, c5], ht⟩) t_nil dX1_isReading_24
  refine lv_aload_n hx hb dX1_isReading_8 rfl (lv_at hl 0 rfl) ?_
  refine va_get (D := G.1) (ci := 2) (v := .ref h2) (C := RX1) (T := TX1) (N := 7) hx hb hts hiX1 hown hE.1 hP 0 rfl rfl 2 (by decide) (hts (.fieldLink RX1 19 "MeterSeals$Rows" "stamps" "[J") (by decide +kernel)) (fun _ h9 => h9) rfl dX1_isReading_9 ?_
  refine lv_iload_n hx hb dX1_isReading_12 rfl (lv_at hl 1 rfl) ?_
  refine va_lald hx hb hE.1 hP 2 1 rfl rfl (holds_in hc c5) dX1_isReading_13 ?_
  refine lv_lconst (v := 0) hx hb dX1_isReading_14 (by decide) ?_
  refine x_llt (tgt := 23) hx hb dX1_isReading_15 dX1_isReading_16 (by decide) (fun c16 => ?_) (fun c16 => ?_)
  · refine lv_iconst (v := 0) hx hb dX1_isReading_23 (by decide) ?_
    exact W.zret (v := 0) hx hb hr (zb (Or.inl rfl)) (fun t ht hW => ⟨_, rfl, by simp [f_isR, c5, c16], ht⟩) t_nil dX1_isReading_24
  refine lv_iconst (v := 1) hx hb dX1_isReading_19 (by decide) ?_
  refine lv_goto (tgt := 24) hx hb dX1_isReading_20 (by decide) ?_
  exact W.zret (v := 1) hx hb hr (zb (Or.inr rfl)) (fun t ht hW => ⟨_, rfl, by simp [f_isR, c5, c16], ht⟩) t_nil dX1_isReading_24

set_option maxHeartbeats 4000000 in
set_option maxRecDepth 100000 in
/-- hasMark -/
theorem ct_X1_hasMark (l : Launch) (G : Gx) (h0 h1 h2 h3 h4 h5 : Nat) (key : Int64) (n : Nat) (nu st : Nat → Int64) (de : Nat → Int32) (su : Nat → Int64) (mk : Nat → Int32) (row : Int32) (hc : n ≤ 200) : Met l yX1_hasMark wsX1_hasMark ({ frames := 1, cells := 0, slots := 0, locals := 21 }) (RdP G (wR G h0 h1 h2 h3 h4 h5 key (nI n) nu st de su mk) [.ref h0, .int row]) (vp_Si (fun r => r = f_mark n mk row)) 0 0 (fun _ => False) := by
  refine Met.ofW (cc := cX1_hasMark) (maxL := 2) (ret := (some .boolean)) (by decide) rfl ?_
  intro p e s m args below meth c s₁ B hml hv
  obtain ⟨rfl, hP, hE⟩ := hv
  have hx := B.exec
  have hb := B.bytes
  have hr := B.returns
  have hts := atoms_spec (ws := wsX1_hasMark) B.pre
  have hown : s.vm.findClass RX1 = some m.cls := findClass_of_methodNamed B.named
  have hlocks := B.notSynchronized
  have hiX1 : ∀ w ∈ wsX10, w ∈ wsX1_hasMark := by decide +kernel
  have hl := lv_entry ([.ref h0, .int row]) (n := 2) (Nat.le_of_ble_eq_true rfl)
  rw [lg_entry_eq]
  generalize (lg_sl ([.ref h0, .int row]) ++ List.replicate (2 - (lg_sl ([.ref h0, .int row])).length) Slot.unset).toArray = ls at hl ⊢
  replace hl : lv_has ls 2 [(0, .ref h0), (1, .int row)] := hl
  refine lv_aload_n hx hb dX1_hasMark_0 rfl (lv_at hl 0 rfl) ?_
  refine lv_iload_n hx hb dX1_hasMark_1 rfl (lv_at hl 1 rfl) ?_
  refine x_ri (va_runV (As := [.int row]) (rest := []) ⟨hx, hb, hml, hown, hts⟩ (ct_X1_holds l G h0 h1 h2 h3 h4 h5 key n nu st de su mk row) (cwV 1 hts gX1_hasMark_X1_holds rfl rfl rfl (by decide +kernel) ⟨Nat.le_of_ble_eq_true rfl, Nat.le_of_ble_eq_true rfl⟩) (RdP.preV 0 2 rfl rfl hP hE) rfl rfl hl.1 rfl (lv_room (Nat.le_of_ble_eq_true rfl)) dX1_hasMark_2 ⟨Nat.zero_le _, Nat.zero_le _⟩) (fun r1 er1 => ?_)
  subst er1
  refine lv_if_eq (tgt := 21) hx hb dX1_hasMark_5 (by decide) (fun c5 => ?_) (fun c5 => ?_)
  · refine lv_iconst (v := 0) hx hb dX1_hasMark_21 (by decide) ?_
    exact W.zret (v := 0) hx hb hr (zb (Or.inl rfl)) (fun t ht hW => ⟨_, rfl, by simp [f_mark, c5], ht⟩) t_nil dX1_hasMark_22
  refine lv_aload_n hx hb dX1_hasMark_8 rfl (lv_at hl 0 rfl) ?_
  refine va_get (D := G.1) (ci := 2) (v := .ref h5) (C := RX1) (T := TX1) (N := 7) hx hb hts hiX1 hown hE.1 hP 0 rfl rfl 5 (by decide) (hts (.fieldLink RX1 29 "MeterSeals$Rows" "marks" "[Z") (by decide +kernel)) (fun _ h9 => h9) rfl dX1_hasMark_9 ?_
  refine lv_iload_n hx hb dX1_hasMark_12 rfl (lv_at hl 1 rfl) ?_
  refine va_zald hx hb hE.1 hP 5 2 rfl rfl (holds_in hc c5) dX1_hasMark_13 ?_
  refine lv_if_eq (tgt := 21) hx hb dX1_hasMark_14 (by decide) (fun c14 => ?_) (fun c14 => ?_)
  · refine lv_iconst (v := 0) hx hb dX1_hasMark_21 (by decide) ?_
    exact W.zret (v := 0) hx hb hr (zb (Or.inl rfl)) (fun t ht hW => ⟨_, rfl, by simp [f_mark, c5, c14], ht⟩) t_nil dX1_hasMark_22
  refine lv_iconst (v := 1) hx hb dX1_hasMark_17 (by decide) ?_
  refine lv_goto (tgt := 22) hx hb dX1_hasMark_18 (by decide) ?_
  exact W.zret (v := 1) hx hb hr (zb (Or.inr rfl)) (fun t ht hW => ⟨_, rfl, by simp [f_mark, c5, c14], ht⟩) t_nil dX1_hasMark_22

set_option maxHeartbeats 4000000 in
set_option maxRecDepth 100000 in
/-- pulsesOf -/
theorem ct_X1_pulsesOf (l : Launch) (G : Gx) (h0 h1 h2 h3 h4 h5 : Nat) (key : Int64) (n : Nat) (nu st : Nat → Int64) (de : Nat → Int32) (su : Nat → Int64) (mk : Nat → Int32) (row : Int32) (hc : n ≤ 200) : Met l yX1_pulsesOf wsX1_pulsesOf ({ frames := 2, cells := 0, slots := 0, locals := 42 }) (RdP G (wR G h0 h1 h2 h3 h4 h5 key (nI n) nu st de su mk) [.ref h0, .int row]) (vp_Sl (fun r => r = f_pul n nu st row)) 0 0 (fun _ => False) := by
  refine Met.ofW (cc := cX1_pulsesOf) (maxL := 2) (ret := (some .long)) (by decide) rfl ?_
  intro p e s m args below meth c s₁ B hml hv
  obtain ⟨rfl, hP, hE⟩ := hv
  have hx := B.exec
  have hb := B.bytes
  have hr := B.returns
  have hts := atoms_spec (ws := wsX1_pulsesOf) B.pre
  have hown : s.vm.findClass RX1 = some m.cls := findClass_of_methodNamed B.named
  have hlocks := B.notSynchronized
  have hiX1 : ∀ w ∈ wsX10, w ∈ wsX1_pulsesOf := by decide +kernel
  have hl := lv_entry ([.ref h0, .int row]) (n := 2) (Nat.le_of_ble_eq_true rfl)
  rw [lg_entry_eq]
  generalize (lg_sl ([.ref h0, .int row]) ++ List.replicate (2 - (lg_sl ([.ref h0, .int row])).length) Slot.unset).toArray = ls at hl ⊢
  replace hl : lv_has ls 2 [(0, .ref h0), (1, .int row)] := hl
  refine lv_aload_n hx hb dX1_pulsesOf_0 rfl (lv_at hl 0 rfl) ?_
  refine lv_iload_n hx hb dX1_pulsesOf_1 rfl (lv_at hl 1 rfl) ?_
  refine x_ri (va_runV (As := [.int row]) (rest := []) ⟨hx, hb, hml, hown, hts⟩ (ct_X1_isReading l G h0 h1 h2 h3 h4 h5 key n nu st de su mk row hc) (cwV 1 hts gX1_pulsesOf_X1_isReading rfl rfl rfl (by decide +kernel) ⟨Nat.le_of_ble_eq_true rfl, Nat.le_of_ble_eq_true rfl⟩) (RdP.preV 0 2 rfl rfl hP hE) rfl rfl hl.1 rfl (lv_room (Nat.le_of_ble_eq_true rfl)) dX1_pulsesOf_2 ⟨Nat.zero_le _, Nat.zero_le _⟩) (fun r1 er1 => ?_)
  subst er1
  refine lv_if_eq (tgt := 17) hx hb dX1_pulsesOf_5 (by decide) (fun c5 => ?_) (fun c5 => ?_)
  · refine lv_lconst (v := 0) hx hb dX1_pulsesOf_17 (by decide) ?_
    exact W.lret (v := 0) hx hb hr (fun t ht hW => ⟨_, rfl, by simp [f_pul, c5], ht⟩) t_nil dX1_pulsesOf_18
  refine lv_aload_n hx hb dX1_pulsesOf_8 rfl (lv_at hl 0 rfl) ?_
  refine va_get (D := G.1) (ci := 2) (v := .ref h1) (C := RX1) (T := TX1) (N := 7) hx hb hts hiX1 hown hE.1 hP 0 rfl rfl 1 (by decide) (hts (.fieldLink RX1 15 "MeterSeals$Rows" "numbers" "[J") (by decide +kernel)) (fun _ h9 => h9) rfl dX1_pulsesOf_9 ?_
  refine lv_iload_n hx hb dX1_pulsesOf_12 rfl (lv_at hl 1 rfl) ?_
  refine va_lald hx hb hE.1 hP 1 1 rfl rfl (isR_in hc c5) dX1_pulsesOf_13 ?_
  refine lv_goto (tgt := 18) hx hb dX1_pulsesOf_14 (by decide) ?_
  exact W.lret (v := (nu row.toNatClampNeg)) hx hb hr (fun t ht hW => ⟨_, rfl, by simp [f_pul, c5], ht⟩) t_nil dX1_pulsesOf_18

set_option maxHeartbeats 4000000 in
set_option maxRecDepth 100000 in
/-- degreesOf -/
theorem ct_X1_degreesOf (l : Launch) (G : Gx) (h0 h1 h2 h3 h4 h5 : Nat) (key : Int64) (n : Nat) (nu st : Nat → Int64) (de : Nat → Int32) (su : Nat → Int64) (mk : Nat → Int32) (row : Int32) (hc : n ≤ 200) : Met l yX1_degreesOf wsX1_degreesOf ({ frames := 1, cells := 0, slots := 0, locals := 21 }) (RdP G (wR G h0 h1 h2 h3 h4 h5 key (nI n) nu st de su mk) [.ref h0, .int row]) (vp_Si (fun r => r = f_deg n de row)) 0 0 (fun _ => False) := by
  refine Met.ofW (cc := cX1_degreesOf) (maxL := 2) (ret := (some .int)) (by decide) rfl ?_
  intro p e s m args below meth c s₁ B hml hv
  obtain ⟨rfl, hP, hE⟩ := hv
  have hx := B.exec
  have hb := B.bytes
  have hr := B.returns
  have hts := atoms_spec (ws := wsX1_degreesOf) B.pre
  have hown : s.vm.findClass RX1 = some m.cls := findClass_of_methodNamed B.named
  have hlocks := B.notSynchronized
  have hiX1 : ∀ w ∈ wsX10, w ∈ wsX1_degreesOf := by decide +kernel
  have hl := lv_entry ([.ref h0, .int row]) (n := 2) (Nat.le_of_ble_eq_true rfl)
  rw [lg_entry_eq]
  generalize (lg_sl ([.ref h0, .int row]) ++ List.replicate (2 - (lg_sl ([.ref h0, .int row])).length) Slot.unset).toArray = ls at hl ⊢
  replace hl : lv_has ls 2 [(0, .ref h0), (1, .int row)] := hl
  refine lv_aload_n hx hb dX1_degreesOf_0 rfl (lv_at hl 0 rfl) ?_
  refine lv_iload_n hx hb dX1_degreesOf_1 rfl (lv_at hl 1 rfl) ?_
  refine x_ri (va_runV (As := [.int row]) (rest := []) ⟨hx, hb, hml, hown, hts⟩ (ct_X1_holds l G h0 h1 h2 h3 h4 h5 key n nu st de su mk row) (cwV 1 hts gX1_degreesOf_X1_holds rfl rfl rfl (by decide +kernel) ⟨Nat.le_of_ble_eq_true rfl, Nat.le_of_ble_eq_true rfl⟩) (RdP.preV 0 2 rfl rfl hP hE) rfl rfl hl.1 rfl (lv_room (Nat.le_of_ble_eq_true rfl)) dX1_degreesOf_2 ⟨Nat.zero_le _, Nat.zero_le _⟩) (fun r1 er1 => ?_)
  subst er1
  refine lv_if_eq (tgt := 17) hx hb dX1_degreesOf_5 (by decide) (fun c5 => ?_) (fun c5 => ?_)
  · refine lv_iconst (v := 0) hx hb dX1_degreesOf_17 (by decide) ?_
    exact W.iret (v := 0) hx hb hr (fun t ht hW => ⟨_, rfl, by simp [f_deg, c5], ht⟩) t_nil dX1_degreesOf_18
  refine lv_aload_n hx hb dX1_degreesOf_8 rfl (lv_at hl 0 rfl) ?_
  refine va_get (D := G.1) (ci := 2) (v := .ref h3) (C := RX1) (T := TX1) (N := 7) hx hb hts hiX1 hown hE.1 hP 0 rfl rfl 3 (by decide) (hts (.fieldLink RX1 22 "MeterSeals$Rows" "degrees" "[I") (by decide +kernel)) (fun _ h9 => h9) rfl dX1_degreesOf_9 ?_
  refine lv_iload_n hx hb dX1_degreesOf_12 rfl (lv_at hl 1 rfl) ?_
  refine va_iald hx hb hE.1 hP 3 0 rfl rfl (holds_in hc c5) dX1_degreesOf_13 ?_
  refine lv_goto (tgt := 18) hx hb dX1_degreesOf_14 (by decide) ?_
  exact W.iret (v := (de row.toNatClampNeg)) hx hb hr (fun t ht hW => ⟨_, rfl, by simp [f_deg, c5], ht⟩) t_nil dX1_degreesOf_18

set_option maxHeartbeats 4000000 in
set_option maxRecDepth 100000 in
/-- fieldCount -/
theorem ct_X1_fieldCount (l : Launch) (G : Gx) (h0 h1 h2 h3 h4 h5 : Nat) (key : Int64) (n : Nat) (nu st : Nat → Int64) (de : Nat → Int32) (su : Nat → Int64) (mk : Nat → Int32) (row : Int32) (hc : n ≤ 200) : Met l yX1_fieldCount wsX1_fieldCount ({ frames := 2, cells := 0, slots := 0, locals := 42 }) (RdP G (wR G h0 h1 h2 h3 h4 h5 key (nI n) nu st de su mk) [.ref h0, .int row]) (vp_Si (fun r => r = f_fct n st row)) 0 0 (fun _ => False) := by
  refine Met.ofW (cc := cX1_fieldCount) (maxL := 2) (ret := (some .int)) (by decide) rfl ?_
  intro p e s m args below meth c s₁ B hml hv
  obtain ⟨rfl, hP, hE⟩ := hv
  have hx := B.exec
  have hb := B.bytes
  have hr := B.returns
  have hts := atoms_spec (ws := wsX1_fieldCount) B.pre
  have hown : s.vm.findClass RX1 = some m.cls := findClass_of_methodNamed B.named
  have hlocks := B.notSynchronized
  have hl := lv_entry ([.ref h0, .int row]) (n := 2) (Nat.le_of_ble_eq_true rfl)
  rw [lg_entry_eq]
  generalize (lg_sl ([.ref h0, .int row]) ++ List.replicate (2 - (lg_sl ([.ref h0, .int row])).length) Slot.unset).toArray = ls at hl ⊢
  replace hl : lv_has ls 2 [(0, .ref h0), (1, .int row)] := hl
  refine lv_aload_n hx hb dX1_fieldCount_0 rfl (lv_at hl 0 rfl) ?_
  refine lv_iload_n hx hb dX1_fieldCount_1 rfl (lv_at hl 1 rfl) ?_
  refine x_ri (va_runV (As := [.int row]) (rest := []) ⟨hx, hb, hml, hown, hts⟩ (ct_X1_isReading l G h0 h1 h2 h3 h4 h5 key n nu st de su mk row hc) (cwV 1 hts gX1_fieldCount_X1_isReading rfl rfl rfl (by decide +kernel) ⟨Nat.le_of_ble_eq_true rfl, Nat.le_of_ble_eq_true rfl⟩) (RdP.preV 0 2 rfl rfl hP hE) rfl rfl hl.1 rfl (lv_room (Nat.le_of_ble_eq_true rfl)) dX1_fieldCount_2 ⟨Nat.zero_le _, Nat.zero_le _⟩) (fun r1 er1 => ?_)
  subst er1
  refine lv_if_eq (tgt := 12) hx hb dX1_fieldCount_5 (by decide) (fun c5 => ?_) (fun c5 => ?_)
  · refine lv_iconst (v := 1) hx hb dX1_fieldCount_12 (by decide) ?_
    exact W.iret (v := 1) hx hb hr (fun t ht hW => ⟨_, rfl, by simp [f_fct, c5], ht⟩) t_nil dX1_fieldCount_13
  refine lv_iconst (v := 3) hx hb dX1_fieldCount_8 (by decide) ?_
  refine lv_goto (tgt := 13) hx hb dX1_fieldCount_9 (by decide) ?_
  exact W.iret (v := 3) hx hb hr (fun t ht hW => ⟨_, rfl, by simp [f_fct, c5], ht⟩) t_nil dX1_fieldCount_13
