set_option maxHeartbeats 4000000 in
set_option maxRecDepth 100000 in
/-- textLength -/
theorem ct_X3_textLength (l : Launch) (G : Gx) (v : Int64) : Met l yX3_textLength wsX3_textLength ({ frames := 0, cells := 0, slots := 0, locals := 0 }) (RdP G [] [.long v]) (vp_Si (fun r => r = nI (f_len v))) 0 0 (fun _ => False) := by
  refine Met.ofW (cc := cX3_textLength) (maxL := 6) (ret := (some .int)) (by decide) rfl ?_
  intro p e s m args below meth c s₁ B hml hv
  obtain ⟨rfl, hP, hE⟩ := hv
  have hx := B.exec
  have hb := B.bytes
  have hr := B.returns
  have hts := atoms_spec (ws := wsX3_textLength) B.pre
  have hown : s.vm.findClass RX3 = some m.cls := findClass_of_methodNamed B.named
  have hlocks := B.notSynchronized
  have hl := lv_entry ([.long v]) (n := 6) (Nat.le_of_ble_eq_true rfl)
  rw [lg_entry_eq]
  generalize (lg_sl ([.long v]) ++ List.replicate (6 - (lg_sl ([.long v])).length) Slot.unset).toArray = ls at hl ⊢
  replace hl : lv_has ls 6 [(0, .long v)] := hl
  refine lv_lload_n hx hb dX3_textLength_0 rfl (lv_at hl 0 rfl) ?_
  refine lv_lconst (v := 0) hx hb dX3_textLength_1 (by decide) ?_
  refine x_lge (tgt := 10) hx hb dX3_textLength_2 dX3_textLength_3 (by decide) (fun c3 => ?_) (fun c3 => ?_)
  · refine lv_iconst (v := 1) hx hb dX3_textLength_10 (by decide) ?_
    refine lv_istore_n (lv' := [(2, .int 1), (0, .long v)]) hx hb dX3_textLength_11 rfl hl (by decide) rfl (fun ls hl => ?_)
    refine lv_lload_n hx hb dX3_textLength_12 rfl (lv_at hl 1 rfl) ?_
    refine lv_ldc2 (v := 10) hx hb hown (hts (.constantLong RX3 106 10) (by decide +kernel)) dX3_textLength_13 ?_
    refine lv_ldiv hx hb dX3_textLength_16 (by decide) ?_
    refine lv_lstore_n (lv' := [(3, .long (v / 10)), (2, .int 1), (0, .long v)]) hx hb dX3_textLength_17 rfl hl (by decide) rfl (fun ls hl => ?_)
    refine lv_iconst (v := 0) hx hb dX3_textLength_18 (by decide) ?_
    refine lv_istore (lv' := [(5, .int 0), (3, .long (v / 10)), (2, .int 1), (0, .long v)]) hx hb dX3_textLength_19 hl (by decide) rfl (fun ls hl => ?_)
    obtain ⟨i, hi⟩ : ∃ i : Nat, i = 0 := ⟨_, rfl⟩
    obtain ⟨len, hle⟩ : ∃ i : Nat, i = 1 := ⟨_, rfl⟩
    obtain ⟨left, hlf⟩ : ∃ x : Int64, x = v / 10 := ⟨_, rfl⟩
    replace hl : lv_has ls 6 [(5, .int (nI i)), (3, .long left), (2, .int (nI len)), (0, .long v)] := by rw [hi, hle, hlf]; exact hl
    obtain ⟨k, hk⟩ : ∃ k : Nat, i + k = 18 := ⟨18, by omega⟩
    have hlt : ab left < 10 ^ k := by rw [hlf, ab_div, show k = 18 by omega]; exact ab10 v
    have hv : len + nl (ab left) = f_len v := by rw [hlf, ab_div, hle, f_len, if_pos c3]
    clear hi hle hlf
    induction k generalizing i ls len left with
    | zero =>
      refine lv_iload hx hb dX3_textLength_21 (lv_at hl 0 rfl) ?_
      refine lv_bipush (v := 19) hx hb dX3_textLength_23 (by decide) ?_
      refine lv_icmp_ge (tgt := 49) hx hb dX3_textLength_25 (by decide) (fun c25 => absurd c25 (nI_ge (a := i) (b := 19) (by omega) (by decide))) (fun c25 => ?_)
      refine lv_lload_n hx hb dX3_textLength_28 rfl (lv_at hl 1 rfl) ?_
      refine lv_lconst (v := 0) hx hb dX3_textLength_29 (by decide) ?_
      refine x_leq (tgt := 49) hx hb dX3_textLength_30 dX3_textLength_31 (by decide) (fun c31 => ?_) (fun c31 => absurd (ab_0.mp (by simpa using hlt)) c31)
      refine lv_iload_n hx hb dX3_textLength_49 rfl (lv_at hl 2 rfl) ?_
      exact W.iret (v := (nI len)) hx hb hr (fun t ht hW => ⟨_, rfl, by rw [← hv, ab_0.mpr c31]; rfl, ht⟩) t_nil dX3_textLength_50
    | succ k ih =>
      refine lv_iload hx hb dX3_textLength_21 (lv_at hl 0 rfl) ?_
      refine lv_bipush (v := 19) hx hb dX3_textLength_23 (by decide) ?_
      refine lv_icmp_ge (tgt := 49) hx hb dX3_textLength_25 (by decide) (fun c25 => absurd c25 (nI_ge (a := i) (b := 19) (by omega) (by decide))) (fun c25 => ?_)
      refine lv_lload_n hx hb dX3_textLength_28 rfl (lv_at hl 1 rfl) ?_
      refine lv_lconst (v := 0) hx hb dX3_textLength_29 (by decide) ?_
      refine x_leq (tgt := 49) hx hb dX3_textLength_30 dX3_textLength_31 (by decide) (fun c31 => ?_) (fun c31 => ?_)
      · refine lv_iload_n hx hb dX3_textLength_49 rfl (lv_at hl 2 rfl) ?_
        exact W.iret (v := (nI len)) hx hb hr (fun t ht hW => ⟨_, rfl, by rw [← hv, ab_0.mpr c31]; rfl, ht⟩) t_nil dX3_textLength_50
      refine lv_iinc (v := (nI (len + 1))) (lv' := [(2, .int (nI (len + 1))), (5, .int (nI i)), (3, .long left), (0, .long v)]) hx hb dX3_textLength_34 hl (k := 2) rfl (nI_1 len) (by decide) rfl (fun ls hl => ?_)
      refine lv_lload_n hx hb dX3_textLength_37 rfl (lv_at hl 2 rfl) ?_
      refine lv_ldc2 (v := 10) hx hb hown (hts (.constantLong RX3 106 10) (by decide +kernel)) dX3_textLength_38 ?_
      refine lv_ldiv hx hb dX3_textLength_41 (by decide) ?_
      refine lv_lstore_n (lv' := [(3, .long (left / 10)), (2, .int (nI (len + 1))), (5, .int (nI i)), (0, .long v)]) hx hb dX3_textLength_42 rfl hl (by decide) rfl (fun ls hl => ?_)
      refine lv_iinc (v := (nI (i + 1))) (lv' := [(5, .int (nI (i + 1))), (3, .long (left / 10)), (2, .int (nI (len + 1))), (0, .long v)]) hx hb dX3_textLength_43 hl (k := 2) rfl (nI_1 i) (by decide) rfl (fun ls hl => ?_)
      refine lv_goto (tgt := 21) hx hb dX3_textLength_46 (by decide) ?_
      exact ih ls (i + 1) (len + 1) (left / 10) (lv_sub hl [0, 1, 2, 3] rfl) (by omega) (by rw [ab_div, Nat.div_lt_iff_lt_mul (by decide)]; rw [Nat.pow_succ] at hlt; exact hlt) (by rw [ab_div, ← hv, nl_pos (ab_lt19 left) (fun q => c31 (ab_0.mp q))]; omega)
  refine lv_iconst (v := 2) hx hb dX3_textLength_6 (by decide) ?_
  refine lv_goto (tgt := 11) hx hb dX3_textLength_7 (by decide) ?_
  refine lv_istore_n (lv' := [(2, .int 2), (0, .long v)]) hx hb dX3_textLength_11 rfl hl (by decide) rfl (fun ls hl => ?_)
  refine lv_lload_n hx hb dX3_textLength_12 rfl (lv_at hl 1 rfl) ?_
  refine lv_ldc2 (v := 10) hx hb hown (hts (.constantLong RX3 106 10) (by decide +kernel)) dX3_textLength_13 ?_
  refine lv_ldiv hx hb dX3_textLength_16 (by decide) ?_
  refine lv_lstore_n (lv' := [(3, .long (v / 10)), (2, .int 2), (0, .long v)]) hx hb dX3_textLength_17 rfl hl (by decide) rfl (fun ls hl => ?_)
  refine lv_iconst (v := 0) hx hb dX3_textLength_18 (by decide) ?_
  refine lv_istore (lv' := [(5, .int 0), (3, .long (v / 10)), (2, .int 2), (0, .long v)]) hx hb dX3_textLength_19 hl (by decide) rfl (fun ls hl => ?_)
  obtain ⟨i, hi⟩ : ∃ i : Nat, i = 0 := ⟨_, rfl⟩
  obtain ⟨len, hle⟩ : ∃ i : Nat, i = 2 := ⟨_, rfl⟩
  obtain ⟨left, hlf⟩ : ∃ x : Int64, x = v / 10 := ⟨_, rfl⟩
  replace hl : lv_has ls 6 [(5, .int (nI i)), (3, .long left), (2, .int (nI len)), (0, .long v)] := by rw [hi, hle, hlf]; exact hl
  obtain ⟨k, hk⟩ : ∃ k : Nat, i + k = 18 := ⟨18, by omega⟩
  have hlt : ab left < 10 ^ k := by rw [hlf, ab_div, show k = 18 by omega]; exact ab10 v
  have hv : len + nl (ab left) = f_len v := by rw [hlf, ab_div, hle, f_len, if_neg c3]
  clear hi hle hlf
  induction k generalizing i ls len left with
  | zero =>
    refine lv_iload hx hb dX3_textLength_21 (lv_at hl 0 rfl) ?_
    refine lv_bipush (v := 19) hx hb dX3_textLength_23 (by decide) ?_
    refine lv_icmp_ge (tgt := 49) hx hb dX3_textLength_25 (by decide) (fun c25 => absurd c25 (nI_ge (a := i) (b := 19) (by omega) (by decide))) (fun c25 => ?_)
    refine lv_lload_n hx hb dX3_textLength_28 rfl (lv_at hl 1 rfl) ?_
    refine lv_lconst (v := 0) hx hb dX3_textLength_29 (by decide) ?_
    refine x_leq (tgt := 49) hx hb dX3_textLength_30 dX3_textLength_31 (by decide) (fun c31 => ?_) (fun c31 => absurd (ab_0.mp (by simpa using hlt)) c31)
    refine lv_iload_n hx hb dX3_textLength_49 rfl (lv_at hl 2 rfl) ?_
    exact W.iret (v := (nI len)) hx hb hr (fun t ht hW => ⟨_, rfl, by rw [← hv, ab_0.mpr c31]; rfl, ht⟩) t_nil dX3_textLength_50
  | succ k ih =>
    refine lv_iload hx hb dX3_textLength_21 (lv_at hl 0 rfl) ?_
    refine lv_bipush (v := 19) hx hb dX3_textLength_23 (by decide) ?_
    refine lv_icmp_ge (tgt := 49) hx hb dX3_textLength_25 (by decide) (fun c25 => absurd c25 (nI_ge (a := i) (b := 19) (by omega) (by decide))) (fun c25 => ?_)
    refine lv_lload_n hx hb dX3_textLength_28 rfl (lv_at hl 1 rfl) ?_
    refine lv_lconst (v := 0) hx hb dX3_textLength_29 (by decide) ?_
    refine x_leq (tgt := 49) hx hb dX3_textLength_30 dX3_textLength_31 (by decide) (fun c31 => ?_) (fun c31 => ?_)
    · refine lv_iload_n hx hb dX3_textLength_49 rfl (lv_at hl 2 rfl) ?_
      exact W.iret (v := (nI len)) hx hb hr (fun t ht hW => ⟨_, rfl, by rw [← hv, ab_0.mpr c31]; rfl, ht⟩) t_nil dX3_textLength_50
    refine lv_iinc (v := (nI (len + 1))) (lv' := [(2, .int (nI (len + 1))), (5, .int (nI i)), (3, .long left), (0, .long v)]) hx hb dX3_textLength_34 hl (k := 2) rfl (nI_1 len) (by decide) rfl (fun ls hl => ?_)
    refine lv_lload_n hx hb dX3_textLength_37 rfl (lv_at hl 2 rfl) ?_
    refine lv_ldc2 (v := 10) hx hb hown (hts (.constantLong RX3 106 10) (by decide +kernel)) dX3_textLength_38 ?_
    refine lv_ldiv hx hb dX3_textLength_41 (by decide) ?_
    refine lv_lstore_n (lv' := [(3, .long (left / 10)), (2, .int (nI (len + 1))), (5, .int (nI i)), (0, .long v)]) hx hb dX3_textLength_42 rfl hl (by decide) rfl (fun ls hl => ?_)
    refine lv_iinc (v := (nI (i + 1))) (lv' := [(5, .int (nI (i + 1))), (3, .long (left / 10)), (2, .int (nI (len + 1))), (0, .long v)]) hx hb dX3_textLength_43 hl (k := 2) rfl (nI_1 i) (by decide) rfl (fun ls hl => ?_)
    refine lv_goto (tgt := 21) hx hb dX3_textLength_46 (by decide) ?_
    exact ih ls (i + 1) (len + 1) (left / 10) (lv_sub hl [0, 1, 2, 3] rfl) (by omega) (by rw [ab_div, Nat.div_lt_iff_lt_mul (by decide)]; rw [Nat.pow_succ] at hlt; exact hlt) (by rw [ab_div, ← hv, nl_pos (ab_lt19 left) (fun q => c31 (ab_0.mp q))]; omega)

set_option maxHeartbeats 4000000 in
set_option maxRecDepth 100000 in
/-- textByte -/
theorem ct_X3_textByte (l : Launch) (G : Gx) (v : Int64) (at_ : Int32) : Met l yX3_textByte wsX3_textByte ({ frames := 1, cells := 0, slots := 0, locals := 25 }) (RdP G [] [.long v, .int at_]) (vp_Si (fun r => r = f_tb v at_)) 0 0 (fun _ => False) := by
  refine Met.ofW (cc := cX3_textByte) (maxL := 6) (ret := (some .int)) (by decide) rfl ?_
  intro p e s m args below meth c s₁ B hml hv
  obtain ⟨rfl, hP, hE⟩ := hv
  have hx := B.exec
  have hb := B.bytes
  have hr := B.returns
  have hts := atoms_spec (ws := wsX3_textByte) B.pre
  have hown : s.vm.findClass RX3 = some m.cls := findClass_of_methodNamed B.named
  have hlocks := B.notSynchronized
  have hl := lv_entry ([.long v, .int at_]) (n := 6) (Nat.le_of_ble_eq_true rfl)
  rw [lg_entry_eq]
  generalize (lg_sl ([.long v, .int at_]) ++ List.replicate (6 - (lg_sl ([.long v, .int at_])).length) Slot.unset).toArray = ls at hl ⊢
  replace hl : lv_has ls 6 [(0, .long v), (2, .int at_)] := hl
  refine lv_lload_n hx hb dX3_textByte_0 rfl (lv_at hl 0 rfl) ?_
  refine lv_lconst (v := 0) hx hb dX3_textByte_1 (by decide) ?_
  refine x_lge (tgt := 13) hx hb dX3_textByte_2 dX3_textByte_3 (by decide) (fun c3 => ?_) (fun c3 => ?_)
  · refine lv_lload_n hx hb dX3_textByte_13 rfl (lv_at hl 0 rfl) ?_
    refine lv_lstore_n (lv' := [(3, .long v), (0, .long v), (2, .int at_)]) hx hb dX3_textByte_14 rfl hl (by decide) rfl (fun ls hl => ?_)
    refine lv_lload_n hx hb dX3_textByte_15 rfl (lv_at hl 1 rfl) ?_
    refine x_ri (va_runS (As := [.long v]) (rest := []) ⟨hx, hb, hml, hown, hts⟩ (ct_X3_textLength l G v) (va_cwS 1 hts gX3_textByte_X3_textLength rfl rfl rfl (by decide +kernel) ⟨Nat.le_of_ble_eq_true rfl, Nat.le_of_ble_eq_true rfl⟩) (RdP.preS (fun k q h => by simp at h) hE) rfl rfl hl.1 rfl (lv_room (Nat.le_of_ble_eq_true rfl)) dX3_textByte_16 ⟨Nat.zero_le _, Nat.zero_le _⟩) (fun r1 er1 => ?_)
    subst er1
    refine lv_iconst (v := 1) hx hb dX3_textByte_19 (by decide) ?_
    refine lv_isub hx hb dX3_textByte_20 ?_
    refine lv_iload_n hx hb dX3_textByte_21 rfl (lv_at hl 2 rfl) ?_
    refine lv_isub hx hb dX3_textByte_22 ?_
    refine lv_istore (lv' := [(5, .int (((nI (f_len v)) - 1) - at_)), (3, .long v), (0, .long v), (2, .int at_)]) hx hb dX3_textByte_23 hl (by decide) rfl (fun ls hl => ?_)
    obtain ⟨beh, hbe⟩ : ∃ x : Int32, x = f_bh v at_ := ⟨_, rfl⟩
    obtain ⟨left, hlf⟩ : ∃ x : Int64, x = v := ⟨_, rfl⟩
    replace hl : lv_has ls 6 [(5, .int beh), (3, .long left), (0, .long v), (2, .int at_)] := by rw [hbe, hlf]; exact hl
    obtain ⟨k, hk0⟩ : ∃ k : Nat, k = beh.toNatClampNeg := ⟨_, rfl⟩
    have hk := bk_of hk0
    have hv : f_tbF (f_divs k left) = f_tb v at_ := by rw [hk0, hbe, hlf]; simp only [f_tb, if_pos c3]
    clear hk0 hbe hlf
    induction k generalizing ls beh left with
    | zero =>
      refine lv_iload hx hb dX3_textByte_25 (lv_at hl 0 rfl) ?_
      refine lv_if_le (tgt := 42) hx hb dX3_textByte_27 (by decide) (fun c27 => ?_) (fun c27 => absurd (bk_0 hk) c27)
      refine lv_bipush (v := 48) hx hb dX3_textByte_42 (by decide) ?_
      refine lv_lload_n hx hb dX3_textByte_44 rfl (lv_at hl 1 rfl) ?_
      refine lv_ldc2 (v := 10) hx hb hown (hts (.constantLong RX3 106 10) (by decide +kernel)) dX3_textByte_45 ?_
      refine lv_lrem hx hb dX3_textByte_48 (by decide) ?_
      refine va_mabs_long hx hb (hml.trans hl.1.symm) hown (hts (.methodLink RX3 112 Lib.MathLoose.abs_long.x) (by decide +kernel)) (hts (.static Lib.MathLoose.abs_long.x) (by decide +kernel)) (hts (.initialized "java/lang/Math") (by decide +kernel)) (hts (.code Lib.MathLoose.abs_long.x Lib.MathLoose.abs_long.code 2 (some .long)) (by decide +kernel)) (Nat.le_of_ble_eq_true rfl) (Nat.le_of_ble_eq_true rfl) (Nat.zero_le _) (Nat.zero_le _) dX3_textByte_49 ?_
      refine lv_l2i (v := (if 0 < (left - left / 10 * 10) then (left - left / 10 * 10) else -(left - left / 10 * 10)).toInt32) hx hb dX3_textByte_52 rfl ?_
      refine lv_iadd hx hb dX3_textByte_53 ?_
      exact W.iret (v := (48 + (if 0 < (left - left / 10 * 10) then (left - left / 10 * 10) else -(left - left / 10 * 10)).toInt32)) hx hb hr (fun t ht hW => ⟨_, rfl, by rw [← hv]; rfl, ht⟩) t_nil dX3_textByte_54
    | succ k ih =>
      refine lv_iload hx hb dX3_textByte_25 (lv_at hl 0 rfl) ?_
      refine lv_if_le (tgt := 42) hx hb dX3_textByte_27 (by decide) (fun c27 => absurd c27 (bk_1 hk)) (fun c27 => ?_)
      refine lv_lload_n hx hb dX3_textByte_30 rfl (lv_at hl 1 rfl) ?_
      refine lv_ldc2 (v := 10) hx hb hown (hts (.constantLong RX3 106 10) (by decide +kernel)) dX3_textByte_31 ?_
      refine lv_ldiv hx hb dX3_textByte_34 (by decide) ?_
      refine lv_lstore_n (lv' := [(3, .long (left / 10)), (5, .int beh), (0, .long v), (2, .int at_)]) hx hb dX3_textByte_35 rfl hl (by decide) rfl (fun ls hl => ?_)
      refine lv_iinc (v := beh - 1) (lv' := [(5, .int (beh - 1)), (3, .long (left / 10)), (0, .long v), (2, .int at_)]) hx hb dX3_textByte_36 hl (k := 1) rfl (dec1 beh) (by decide) rfl (fun ls hl => ?_)
      refine lv_goto (tgt := 25) hx hb dX3_textByte_39 (by decide) ?_
      exact ih ls (beh - 1) (left / 10) (lv_sub hl [0, 1, 2, 3] rfl) (bk_s hk) (by rw [← hv]; rfl)
  refine lv_iload_n hx hb dX3_textByte_6 rfl (lv_at hl 1 rfl) ?_
  refine lv_if_ne (tgt := 13) hx hb dX3_textByte_7 (by decide) (fun c7 => ?_) (fun c7 => ?_)
  · refine lv_lload_n hx hb dX3_textByte_13 rfl (lv_at hl 0 rfl) ?_
    refine lv_lstore_n (lv' := [(3, .long v), (0, .long v), (2, .int at_)]) hx hb dX3_textByte_14 rfl hl (by decide) rfl (fun ls hl => ?_)
    refine lv_lload_n hx hb dX3_textByte_15 rfl (lv_at hl 1 rfl) ?_
    refine x_ri (va_runS (As := [.long v]) (rest := []) ⟨hx, hb, hml, hown, hts⟩ (ct_X3_textLength l G v) (va_cwS 1 hts gX3_textByte_X3_textLength rfl rfl rfl (by decide +kernel) ⟨Nat.le_of_ble_eq_true rfl, Nat.le_of_ble_eq_true rfl⟩) (RdP.preS (fun k q h => by simp at h) hE) rfl rfl hl.1 rfl (lv_room (Nat.le_of_ble_eq_true rfl)) dX3_textByte_16 ⟨Nat.zero_le _, Nat.zero_le _⟩) (fun r2 er2 => ?_)
    subst er2
    refine lv_iconst (v := 1) hx hb dX3_textByte_19 (by decide) ?_
    refine lv_isub hx hb dX3_textByte_20 ?_
    refine lv_iload_n hx hb dX3_textByte_21 rfl (lv_at hl 2 rfl) ?_
    refine lv_isub hx hb dX3_textByte_22 ?_
    refine lv_istore (lv' := [(5, .int (((nI (f_len v)) - 1) - at_)), (3, .long v), (0, .long v), (2, .int at_)]) hx hb dX3_textByte_23 hl (by decide) rfl (fun ls hl => ?_)
    obtain ⟨beh, hbe⟩ : ∃ x : Int32, x = f_bh v at_ := ⟨_, rfl⟩
    obtain ⟨left, hlf⟩ : ∃ x : Int64, x = v := ⟨_, rfl⟩
    replace hl : lv_has ls 6 [(5, .int beh), (3, .long left), (0, .long v), (2, .int at_)] := by rw [hbe, hlf]; exact hl
    obtain ⟨k, hk0⟩ : ∃ k : Nat, k = beh.toNatClampNeg := ⟨_, rfl⟩
    have hk := bk_of hk0
    have hv : f_tbF (f_divs k left) = f_tb v at_ := by rw [hk0, hbe, hlf]; simp only [f_tb, if_neg c3, if_neg c7]
    clear hk0 hbe hlf
    induction k generalizing ls beh left with
    | zero =>
      refine lv_iload hx hb dX3_textByte_25 (lv_at hl 0 rfl) ?_
      refine lv_if_le (tgt := 42) hx hb dX3_textByte_27 (by decide) (fun c27 => ?_) (fun c27 => absurd (bk_0 hk) c27)
      refine lv_bipush (v := 48) hx hb dX3_textByte_42 (by decide) ?_
      refine lv_lload_n hx hb dX3_textByte_44 rfl (lv_at hl 1 rfl) ?_
      refine lv_ldc2 (v := 10) hx hb hown (hts (.constantLong RX3 106 10) (by decide +kernel)) dX3_textByte_45 ?_
      refine lv_lrem hx hb dX3_textByte_48 (by decide) ?_
      refine va_mabs_long hx hb (hml.trans hl.1.symm) hown (hts (.methodLink RX3 112 Lib.MathLoose.abs_long.x) (by decide +kernel)) (hts (.static Lib.MathLoose.abs_long.x) (by decide +kernel)) (hts (.initialized "java/lang/Math") (by decide +kernel)) (hts (.code Lib.MathLoose.abs_long.x Lib.MathLoose.abs_long.code 2 (some .long)) (by decide +kernel)) (Nat.le_of_ble_eq_true rfl) (Nat.le_of_ble_eq_true rfl) (Nat.zero_le _) (Nat.zero_le _) dX3_textByte_49 ?_
      refine lv_l2i (v := (if 0 < (left - left / 10 * 10) then (left - left / 10 * 10) else -(left - left / 10 * 10)).toInt32) hx hb dX3_textByte_52 rfl ?_
      refine lv_iadd hx hb dX3_textByte_53 ?_
      exact W.iret (v := (48 + (if 0 < (left - left / 10 * 10) then (left - left / 10 * 10) else -(left - left / 10 * 10)).toInt32)) hx hb hr (fun t ht hW => ⟨_, rfl, by rw [← hv]; rfl, ht⟩) t_nil dX3_textByte_54
    | succ k ih =>
      refine lv_iload hx hb dX3_textByte_25 (lv_at hl 0 rfl) ?_
      refine lv_if_le (tgt := 42) hx hb dX3_textByte_27 (by decide) (fun c27 => absurd c27 (bk_1 hk)) (fun c27 => ?_)
      refine lv_lload_n hx hb dX3_textByte_30 rfl (lv_at hl 1 rfl) ?_
      refine lv_ldc2 (v := 10) hx hb hown (hts (.constantLong RX3 106 10) (by decide +kernel)) dX3_textByte_31 ?_
      refine lv_ldiv hx hb dX3_textByte_34 (by decide) ?_
      refine lv_lstore_n (lv' := [(3, .long (left / 10)), (5, .int beh), (0, .long v), (2, .int at_)]) hx hb dX3_textByte_35 rfl hl (by decide) rfl (fun ls hl => ?_)
      refine lv_iinc (v := beh - 1) (lv' := [(5, .int (beh - 1)), (3, .long (left / 10)), (0, .long v), (2, .int at_)]) hx hb dX3_textByte_36 hl (k := 1) rfl (dec1 beh) (by decide) rfl (fun ls hl => ?_)
      refine lv_goto (tgt := 25) hx hb dX3_textByte_39 (by decide) ?_
      exact ih ls (beh - 1) (left / 10) (lv_sub hl [0, 1, 2, 3] rfl) (bk_s hk) (by rw [← hv]; rfl)
  refine lv_bipush (v := 45) hx hb dX3_textByte_10 (by decide) ?_
  exact W.iret (v := 45) hx hb hr (fun t ht hW => ⟨_, rfl, by simp only [f_tb, if_neg c3, if_pos c7], ht⟩) t_nil dX3_textByte_12

set_option maxHeartbeats 4000000 in
set_option maxRecDepth 100000 in
/-- lineLength -/
theorem ct_X1_lineLength (l : Launch) (G : Gx) (h0 h1 h2 h3 h4 h5 : Nat) (key : Int64) (n : Nat) (nu st : Nat → Int64) (de : Nat → Int32) (su : Nat → Int64) (mk : Nat → Int32) (row : Int32) (hc : n ≤ 200) : Met l yX1_lineLength wsX1_lineLength ({ frames := 3, cells := 0, slots := 0, locals := 63 }) (RdP G (wR G h0 h1 h2 h3 h4 h5 key (nI n) nu st de su mk) [.ref h0, .int row]) (vp_Si (fun r => r = f_ll n nu st de mk row)) 0 0 (fun _ => False) := by
  refine Met.ofW (cc := cX1_lineLength) (maxL := 4) (ret := (some .int)) (by decide) rfl ?_
  intro p e s m args below meth c s₁ B hml hv
  obtain ⟨rfl, hP, hE⟩ := hv
  have hx := B.exec
  have hb := B.bytes
  have hr := B.returns
  have hts := atoms_spec (ws := wsX1_lineLength) B.pre
  have hown : s.vm.findClass RX1 = some m.cls := findClass_of_methodNamed B.named
  have hlocks := B.notSynchronized
  have hl := lv_entry ([.ref h0, .int row]) (n := 4) (Nat.le_of_ble_eq_true rfl)
  rw [lg_entry_eq]
  generalize (lg_sl ([.ref h0, .int row]) ++ List.replicate (4 - (lg_sl ([.ref h0, .int row])).length) Slot.unset).toArray = ls at hl ⊢
  replace hl : lv_has ls 4 [(0, .ref h0), (1, .int row)] := hl
  by_cases hR : f_isR n st row = 0
  · have hf : f_fct n st row = 1 := by simp only [f_fct, if_pos hR]
    refine lv_iconst (v := 1) hx hb dX1_lineLength_0 (by decide) ?_
    refine lv_istore_n (lv' := [(2, .int 1), (0, .ref h0), (1, .int row)]) hx hb dX1_lineLength_1 rfl hl (by decide) rfl (fun ls hl => ?_)
    refine lv_iconst (v := 0) hx hb dX1_lineLength_2 (by decide) ?_
    refine lv_istore_n (lv' := [(3, .int 0), (2, .int 1), (0, .ref h0), (1, .int row)]) hx hb dX1_lineLength_3 rfl hl (by decide) rfl (fun ls hl => ?_)
    refine lv_iload_n hx hb dX1_lineLength_4 rfl (lv_at hl 0 rfl) ?_
    refine lv_aload_n hx hb dX1_lineLength_5 rfl (lv_at hl 2 rfl) ?_
    refine lv_iload_n hx hb dX1_lineLength_6 rfl (lv_at hl 3 rfl) ?_
    refine x_ri (va_runV (As := [.int row]) (rest := [.int 0]) ⟨hx, hb, hml, hown, hts⟩ (ct_X1_fieldCount l G h0 h1 h2 h3 h4 h5 key n nu st de su mk row hc) (cwV 1 hts gX1_lineLength_X1_fieldCount rfl rfl rfl (by decide +kernel) ⟨Nat.le_of_ble_eq_true rfl, Nat.le_of_ble_eq_true rfl⟩) (RdP.preV 0 2 rfl rfl hP hE) rfl rfl hl.1 rfl (lv_room (Nat.le_of_ble_eq_true rfl)) dX1_lineLength_7 ⟨Nat.zero_le _, Nat.zero_le _⟩) (fun r1 er1 => ?_)
    subst er1
    rw [hf]
    refine lv_icmp_ge (tgt := 33) hx hb dX1_lineLength_10 (by decide) (fun c10 => absurd c10 (by decide)) (fun c10 => ?_)
    refine lv_iload_n hx hb dX1_lineLength_13 rfl (lv_at hl 1 rfl) ?_
    refine lv_iconst (v := 1) hx hb dX1_lineLength_14 (by decide) ?_
    refine lv_aload_n hx hb dX1_lineLength_15 rfl (lv_at hl 2 rfl) ?_
    refine lv_iload_n hx hb dX1_lineLength_16 rfl (lv_at hl 3 rfl) ?_
    refine lv_iload_n hx hb dX1_lineLength_17 rfl (lv_at hl 0 rfl) ?_
    refine x_rl (va_runV (As := [.int row, .int 0]) (rest := [.int 1, .int 1]) ⟨hx, hb, hml, hown, hts⟩ (ct_X1_fieldOf l G h0 h1 h2 h3 h4 h5 key n nu st de su mk row 0 hc) (cwV 2 hts gX1_lineLength_X1_fieldOf rfl rfl rfl (by decide +kernel) ⟨Nat.le_of_ble_eq_true rfl, Nat.le_of_ble_eq_true rfl⟩) (RdP.preV 0 2 rfl rfl hP hE) rfl rfl hl.1 rfl (lv_room (Nat.le_of_ble_eq_true rfl)) dX1_lineLength_18 ⟨Nat.zero_le _, Nat.zero_le _⟩) (fun r2 er2 => ?_)
    subst er2
    refine x_ri (va_runSN (As := [.long (f_fld n nu st de row 0)]) (rest := [.int 1, .int 1]) ⟨hx, hb, hml, hown, hts⟩ (ct_X3_textLength l G (f_fld n nu st de row 0)) ⟨va_cnB 1 hts gX1_lineLength_X3_textLength_n97 rfl rfl rfl hE.2.1.2.2.2.2.2.2.1 (hts (.initialized RX3) (by decide +kernel)) (by decide +kernel) ⟨Nat.le_of_ble_eq_true rfl, Nat.le_of_ble_eq_true rfl⟩, hts (.static yX3_textLength) (by decide +kernel), trivial⟩ (RdP.preS (fun k q h => by simp at h) hE) rfl rfl hl.1 rfl (lv_room (Nat.le_of_ble_eq_true rfl)) dX1_lineLength_21 ⟨Nat.zero_le _, Nat.zero_le _⟩) (fun r3 er3 => ?_)
    subst er3
    refine lv_iadd hx hb dX1_lineLength_24 ?_
    refine lv_iadd hx hb dX1_lineLength_25 ?_
    refine lv_istore_n (lv' := [(2, .int (1 + (1 + (nI (f_len (f_fld n nu st de row 0)))))), (3, .int 0), (0, .ref h0), (1, .int row)]) hx hb dX1_lineLength_26 rfl hl (by decide) rfl (fun ls hl => ?_)
    refine lv_iinc (v := 1) (lv' := [(3, .int 1), (2, .int (1 + (1 + (nI (f_len (f_fld n nu st de row 0)))))), (0, .ref h0), (1, .int row)]) hx hb dX1_lineLength_27 hl (k := 1) rfl (by decide) (by decide) rfl (fun ls hl => ?_)
    refine lv_goto (tgt := 4) hx hb dX1_lineLength_30 (by decide) ?_
    refine lv_iload_n hx hb dX1_lineLength_4 rfl (lv_at hl 0 rfl) ?_
    refine lv_aload_n hx hb dX1_lineLength_5 rfl (lv_at hl 2 rfl) ?_
    refine lv_iload_n hx hb dX1_lineLength_6 rfl (lv_at hl 3 rfl) ?_
    refine x_ri (va_runV (As := [.int row]) (rest := [.int 1]) ⟨hx, hb, hml, hown, hts⟩ (ct_X1_fieldCount l G h0 h1 h2 h3 h4 h5 key n nu st de su mk row hc) (cwV 1 hts gX1_lineLength_X1_fieldCount rfl rfl rfl (by decide +kernel) ⟨Nat.le_of_ble_eq_true rfl, Nat.le_of_ble_eq_true rfl⟩) (RdP.preV 0 2 rfl rfl hP hE) rfl rfl hl.1 rfl (lv_room (Nat.le_of_ble_eq_true rfl)) dX1_lineLength_7 ⟨Nat.zero_le _, Nat.zero_le _⟩) (fun r4 er4 => ?_)
    subst er4
    rw [hf]
    refine lv_icmp_ge (tgt := 33) hx hb dX1_lineLength_10 (by decide) (fun c10 => ?_) (fun c10 => absurd c10 (by decide))
    refine lv_iload_n hx hb dX1_lineLength_33 rfl (lv_at hl 1 rfl) ?_
    refine lv_aload_n hx hb dX1_lineLength_34 rfl (lv_at hl 2 rfl) ?_
    refine lv_iload_n hx hb dX1_lineLength_35 rfl (lv_at hl 3 rfl) ?_
    refine x_ri (va_runV (As := [.int row]) (rest := [.int (1 + (1 + (nI (f_len (f_fld n nu st de row 0)))))]) ⟨hx, hb, hml, hown, hts⟩ (ct_X1_hasMark l G h0 h1 h2 h3 h4 h5 key n nu st de su mk row hc) (cwV 1 hts gX1_lineLength_X1_hasMark rfl rfl rfl (by decide +kernel) ⟨Nat.le_of_ble_eq_true rfl, Nat.le_of_ble_eq_true rfl⟩) (RdP.preV 0 2 rfl rfl hP hE) rfl rfl hl.1 rfl (lv_room (Nat.le_of_ble_eq_true rfl)) dX1_lineLength_36 ⟨Nat.zero_le _, Nat.zero_le _⟩) (fun r5 er5 => ?_)
    subst er5
    refine lv_if_eq (tgt := 46) hx hb dX1_lineLength_39 (by decide) (fun c39 => ?_) (fun c39 => ?_)
    · refine lv_iconst (v := 0) hx hb dX1_lineLength_46 (by decide) ?_
      refine lv_iadd hx hb dX1_lineLength_47 ?_
      refine lv_iconst (v := 1) hx hb dX1_lineLength_48 (by decide) ?_
      refine lv_iadd hx hb dX1_lineLength_49 ?_
      exact W.iret (v := (((1 + (1 + (nI (f_len (f_fld n nu st de row 0))))) + 0) + 1)) hx hb hr (fun t ht hW => ⟨_, rfl, by simp only [f_ll, if_pos hR, if_pos c39], ht⟩) t_nil dX1_lineLength_50
    refine lv_iconst (v := 2) hx hb dX1_lineLength_42 (by decide) ?_
    refine lv_goto (tgt := 47) hx hb dX1_lineLength_43 (by decide) ?_
    refine lv_iadd hx hb dX1_lineLength_47 ?_
    refine lv_iconst (v := 1) hx hb dX1_lineLength_48 (by decide) ?_
    refine lv_iadd hx hb dX1_lineLength_49 ?_
    exact W.iret (v := (((1 + (1 + (nI (f_len (f_fld n nu st de row 0))))) + 2) + 1)) hx hb hr (fun t ht hW => ⟨_, rfl, by simp only [f_ll, if_pos hR, if_neg c39], ht⟩) t_nil dX1_lineLength_50
  · have hf : f_fct n st row = 3 := by simp only [f_fct, if_neg hR]
    refine lv_iconst (v := 1) hx hb dX1_lineLength_0 (by decide) ?_
    refine lv_istore_n (lv' := [(2, .int 1), (0, .ref h0), (1, .int row)]) hx hb dX1_lineLength_1 rfl hl (by decide) rfl (fun ls hl => ?_)
    refine lv_iconst (v := 0) hx hb dX1_lineLength_2 (by decide) ?_
    refine lv_istore_n (lv' := [(3, .int 0), (2, .int 1), (0, .ref h0), (1, .int row)]) hx hb dX1_lineLength_3 rfl hl (by decide) rfl (fun ls hl => ?_)
    refine lv_iload_n hx hb dX1_lineLength_4 rfl (lv_at hl 0 rfl) ?_
    refine lv_aload_n hx hb dX1_lineLength_5 rfl (lv_at hl 2 rfl) ?_
    refine lv_iload_n hx hb dX1_lineLength_6 rfl (lv_at hl 3 rfl) ?_
    refine x_ri (va_runV (As := [.int row]) (rest := [.int 0]) ⟨hx, hb, hml, hown, hts⟩ (ct_X1_fieldCount l G h0 h1 h2 h3 h4 h5 key n nu st de su mk row hc) (cwV 1 hts gX1_lineLength_X1_fieldCount rfl rfl rfl (by decide +kernel) ⟨Nat.le_of_ble_eq_true rfl, Nat.le_of_ble_eq_true rfl⟩) (RdP.preV 0 2 rfl rfl hP hE) rfl rfl hl.1 rfl (lv_room (Nat.le_of_ble_eq_true rfl)) dX1_lineLength_7 ⟨Nat.zero_le _, Nat.zero_le _⟩) (fun r6 er6 => ?_)
    subst er6
    rw [hf]
    refine lv_icmp_ge (tgt := 33) hx hb dX1_lineLength_10 (by decide) (fun c10 => absurd c10 (by decide)) (fun c10 => ?_)
    refine lv_iload_n hx hb dX1_lineLength_13 rfl (lv_at hl 1 rfl) ?_
    refine lv_iconst (v := 1) hx hb dX1_lineLength_14 (by decide) ?_
    refine lv_aload_n hx hb dX1_lineLength_15 rfl (lv_at hl 2 rfl) ?_
    refine lv_iload_n hx hb dX1_lineLength_16 rfl (lv_at hl 3 rfl) ?_
    refine lv_iload_n hx hb dX1_lineLength_17 rfl (lv_at hl 0 rfl) ?_
    refine x_rl (va_runV (As := [.int row, .int 0]) (rest := [.int 1, .int 1]) ⟨hx, hb, hml, hown, hts⟩ (ct_X1_fieldOf l G h0 h1 h2 h3 h4 h5 key n nu st de su mk row 0 hc) (cwV 2 hts gX1_lineLength_X1_fieldOf rfl rfl rfl (by decide +kernel) ⟨Nat.le_of_ble_eq_true rfl, Nat.le_of_ble_eq_true rfl⟩) (RdP.preV 0 2 rfl rfl hP hE) rfl rfl hl.1 rfl (lv_room (Nat.le_of_ble_eq_true rfl)) dX1_lineLength_18 ⟨Nat.zero_le _, Nat.zero_le _⟩) (fun r7 er7 => ?_)
    subst er7
    refine x_ri (va_runSN (As := [.long (f_fld n nu st de row 0)]) (rest := [.int 1, .int 1]) ⟨hx, hb, hml, hown, hts⟩ (ct_X3_textLength l G (f_fld n nu st de row 0)) ⟨va_cnB 1 hts gX1_lineLength_X3_textLength_n97 rfl rfl rfl hE.2.1.2.2.2.2.2.2.1 (hts (.initialized RX3) (by decide +kernel)) (by decide +kernel) ⟨Nat.le_of_ble_eq_true rfl, Nat.le_of_ble_eq_true rfl⟩, hts (.static yX3_textLength) (by decide +kernel), trivial⟩ (RdP.preS (fun k q h => by simp at h) hE) rfl rfl hl.1 rfl (lv_room (Nat.le_of_ble_eq_true rfl)) dX1_lineLength_21 ⟨Nat.zero_le _, Nat.zero_le _⟩) (fun r8 er8 => ?_)
    subst er8
    refine lv_iadd hx hb dX1_lineLength_24 ?_
    refine lv_iadd hx hb dX1_lineLength_25 ?_
    refine lv_istore_n (lv' := [(2, .int (1 + (1 + (nI (f_len (f_fld n nu st de row 0)))))), (3, .int 0), (0, .ref h0), (1, .int row)]) hx hb dX1_lineLength_26 rfl hl (by decide) rfl (fun ls hl => ?_)
    refine lv_iinc (v := 1) (lv' := [(3, .int 1), (2, .int (1 + (1 + (nI (f_len (f_fld n nu st de row 0)))))), (0, .ref h0), (1, .int row)]) hx hb dX1_lineLength_27 hl (k := 1) rfl (by decide) (by decide) rfl (fun ls hl => ?_)
    refine lv_goto (tgt := 4) hx hb dX1_lineLength_30 (by decide) ?_
    refine lv_iload_n hx hb dX1_lineLength_4 rfl (lv_at hl 0 rfl) ?_
    refine lv_aload_n hx hb dX1_lineLength_5 rfl (lv_at hl 2 rfl) ?_
    refine lv_iload_n hx hb dX1_lineLength_6 rfl (lv_at hl 3 rfl) ?_
    refine x_ri (va_runV (As := [.int row]) (rest := [.int 1]) ⟨hx, hb, hml, hown, hts⟩ (ct_X1_fieldCount l G h0 h1 h2 h3 h4 h5 key n nu st de su mk row hc) (cwV 1 hts gX1_lineLength_X1_fieldCount rfl rfl rfl (by decide +kernel) ⟨Nat.le_of_ble_eq_true rfl, Nat.le_of_ble_eq_true rfl⟩) (RdP.preV 0 2 rfl rfl hP hE) rfl rfl hl.1 rfl (lv_room (Nat.le_of_ble_eq_true rfl)) dX1_lineLength_7 ⟨Nat.zero_le _, Nat.zero_le _⟩) (fun r9 er9 => ?_)
    subst er9
    rw [hf]
    refine lv_icmp_ge (tgt := 33) hx hb dX1_lineLength_10 (by decide) (fun c10 => absurd c10 (by decide)) (fun c10 => ?_)
    refine lv_iload_n hx hb dX1_lineLength_13 rfl (lv_at hl 1 rfl) ?_
    refine lv_iconst (v := 1) hx hb dX1_lineLength_14 (by decide) ?_
    refine lv_aload_n hx hb dX1_lineLength_15 rfl (lv_at hl 2 rfl) ?_
    refine lv_iload_n hx hb dX1_lineLength_16 rfl (lv_at hl 3 rfl) ?_
    refine lv_iload_n hx hb dX1_lineLength_17 rfl (lv_at hl 0 rfl) ?_
    refine x_rl (va_runV (As := [.int row, .int 1]) (rest := [.int 1, .int (1 + (1 + (nI (f_len (f_fld n nu st de row 0)))))]) ⟨hx, hb, hml, hown, hts⟩ (ct_X1_fieldOf l G h0 h1 h2 h3 h4 h5 key n nu st de su mk row 1 hc) (cwV 2 hts gX1_lineLength_X1_fieldOf rfl rfl rfl (by decide +kernel) ⟨Nat.le_of_ble_eq_true rfl, Nat.le_of_ble_eq_true rfl⟩) (RdP.preV 0 2 rfl rfl hP hE) rfl rfl hl.1 rfl (lv_room (Nat.le_of_ble_eq_true rfl)) dX1_lineLength_18 ⟨Nat.zero_le _, Nat.zero_le _⟩) (fun r10 er10 => ?_)
    subst er10
    refine x_ri (va_runSN (As := [.long (f_fld n nu st de row 1)]) (rest := [.int 1, .int (1 + (1 + (nI (f_len (f_fld n nu st de row 0)))))]) ⟨hx, hb, hml, hown, hts⟩ (ct_X3_textLength l G (f_fld n nu st de row 1)) ⟨va_cnB 1 hts gX1_lineLength_X3_textLength_n97 rfl rfl rfl hE.2.1.2.2.2.2.2.2.1 (hts (.initialized RX3) (by decide +kernel)) (by decide +kernel) ⟨Nat.le_of_ble_eq_true rfl, Nat.le_of_ble_eq_true rfl⟩, hts (.static yX3_textLength) (by decide +kernel), trivial⟩ (RdP.preS (fun k q h => by simp at h) hE) rfl rfl hl.1 rfl (lv_room (Nat.le_of_ble_eq_true rfl)) dX1_lineLength_21 ⟨Nat.zero_le _, Nat.zero_le _⟩) (fun r11 er11 => ?_)
    subst er11
    refine lv_iadd hx hb dX1_lineLength_24 ?_
    refine lv_iadd hx hb dX1_lineLength_25 ?_
    refine lv_istore_n (lv' := [(2, .int ((1 + (1 + (nI (f_len (f_fld n nu st de row 0))))) + (1 + (nI (f_len (f_fld n nu st de row 1)))))), (3, .int 1), (0, .ref h0), (1, .int row)]) hx hb dX1_lineLength_26 rfl hl (by decide) rfl (fun ls hl => ?_)
    refine lv_iinc (v := 2) (lv' := [(3, .int 2), (2, .int ((1 + (1 + (nI (f_len (f_fld n nu st de row 0))))) + (1 + (nI (f_len (f_fld n nu st de row 1)))))), (0, .ref h0), (1, .int row)]) hx hb dX1_lineLength_27 hl (k := 1) rfl (by decide) (by decide) rfl (fun ls hl => ?_)
    refine lv_goto (tgt := 4) hx hb dX1_lineLength_30 (by decide) ?_
    refine lv_iload_n hx hb dX1_lineLength_4 rfl (lv_at hl 0 rfl) ?_
    refine lv_aload_n hx hb dX1_lineLength_5 rfl (lv_at hl 2 rfl) ?_
    refine lv_iload_n hx hb dX1_lineLength_6 rfl (lv_at hl 3 rfl) ?_
    refine x_ri (va_runV (As := [.int row]) (rest := [.int 2]) ⟨hx, hb, hml, hown, hts⟩ (ct_X1_fieldCount l G h0 h1 h2 h3 h4 h5 key n nu st de su mk row hc) (cwV 1 hts gX1_lineLength_X1_fieldCount rfl rfl rfl (by decide +kernel) ⟨Nat.le_of_ble_eq_true rfl, Nat.le_of_ble_eq_true rfl⟩) (RdP.preV 0 2 rfl rfl hP hE) rfl rfl hl.1 rfl (lv_room (Nat.le_of_ble_eq_true rfl)) dX1_lineLength_7 ⟨Nat.zero_le _, Nat.zero_le _⟩) (fun r12 er12 => ?_)
    subst er12
    rw [hf]
    refine lv_icmp_ge (tgt := 33) hx hb dX1_lineLength_10 (by decide) (fun c10 => absurd c10 (by decide)) (fun c10 => ?_)
    refine lv_iload_n hx hb dX1_lineLength_13 rfl (lv_at hl 1 rfl) ?_
    refine lv_iconst (v := 1) hx hb dX1_lineLength_14 (by decide) ?_
    refine lv_aload_n hx hb dX1_lineLength_15 rfl (lv_at hl 2 rfl) ?_
    refine lv_iload_n hx hb dX1_lineLength_16 rfl (lv_at hl 3 rfl) ?_
    refine lv_iload_n hx hb dX1_lineLength_17 rfl (lv_at hl 0 rfl) ?_
    refine x_rl (va_runV (As := [.int row, .int 2]) (rest := [.int 1, .int ((1 + (1 + (nI (f_len (f_fld n nu st de row 0))))) + (1 + (nI (f_len (f_fld n nu st de row 1)))))]) ⟨hx, hb, hml, hown, hts⟩ (ct_X1_fieldOf l G h0 h1 h2 h3 h4 h5 key n nu st de su mk row 2 hc) (cwV 2 hts gX1_lineLength_X1_fieldOf rfl rfl rfl (by decide +kernel) ⟨Nat.le_of_ble_eq_true rfl, Nat.le_of_ble_eq_true rfl⟩) (RdP.preV 0 2 rfl rfl hP hE) rfl rfl hl.1 rfl (lv_room (Nat.le_of_ble_eq_true rfl)) dX1_lineLength_18 ⟨Nat.zero_le _, Nat.zero_le _⟩) (fun r13 er13 => ?_)
    subst er13
    refine x_ri (va_runSN (As := [.long (f_fld n nu st de row 2)]) (rest := [.int 1, .int ((1 + (1 + (nI (f_len (f_fld n nu st de row 0))))) + (1 + (nI (f_len (f_fld n nu st de row 1)))))]) ⟨hx, hb, hml, hown, hts⟩ (ct_X3_textLength l G (f_fld n nu st de row 2)) ⟨va_cnB 1 hts gX1_lineLength_X3_textLength_n97 rfl rfl rfl hE.2.1.2.2.2.2.2.2.1 (hts (.initialized RX3) (by decide +kernel)) (by decide +kernel) ⟨Nat.le_of_ble_eq_true rfl, Nat.le_of_ble_eq_true rfl⟩, hts (.static yX3_textLength) (by decide +kernel), trivial⟩ (RdP.preS (fun k q h => by simp at h) hE) rfl rfl hl.1 rfl (lv_room (Nat.le_of_ble_eq_true rfl)) dX1_lineLength_21 ⟨Nat.zero_le _, Nat.zero_le _⟩) (fun r14 er14 => ?_)
    subst er14
    refine lv_iadd hx hb dX1_lineLength_24 ?_
    refine lv_iadd hx hb dX1_lineLength_25 ?_
    refine lv_istore_n (lv' := [(2, .int (((1 + (1 + (nI (f_len (f_fld n nu st de row 0))))) + (1 + (nI (f_len (f_fld n nu st de row 1))))) + (1 + (nI (f_len (f_fld n nu st de row 2)))))), (3, .int 2), (0, .ref h0), (1, .int row)]) hx hb dX1_lineLength_26 rfl hl (by decide) rfl (fun ls hl => ?_)
    refine lv_iinc (v := 3) (lv' := [(3, .int 3), (2, .int (((1 + (1 + (nI (f_len (f_fld n nu st de row 0))))) + (1 + (nI (f_len (f_fld n nu st de row 1))))) + (1 + (nI (f_len (f_fld n nu st de row 2)))))), (0, .ref h0), (1, .int row)]) hx hb dX1_lineLength_27 hl (k := 1) rfl (by decide) (by decide) rfl (fun ls hl => ?_)
    refine lv_goto (tgt := 4) hx hb dX1_lineLength_30 (by decide) ?_
    refine lv_iload_n hx hb dX1_lineLength_4 rfl (lv_at hl 0 rfl) ?_
    refine lv_aload_n hx hb dX1_lineLength_5 rfl (lv_at hl 2 rfl) ?_
    refine lv_iload_n hx hb dX1_lineLength_6 rfl (lv_at hl 3 rfl) ?_
    refine x_ri (va_runV (As := [.int row]) (rest := [.int 3]) ⟨hx, hb, hml, hown, hts⟩ (ct_X1_fieldCount l G h0 h1 h2 h3 h4 h5 key n nu st de su mk row hc) (cwV 1 hts gX1_lineLength_X1_fieldCount rfl rfl rfl (by decide +kernel) ⟨Nat.le_of_ble_eq_true rfl, Nat.le_of_ble_eq_true rfl⟩) (RdP.preV 0 2 rfl rfl hP hE) rfl rfl hl.1 rfl (lv_room (Nat.le_of_ble_eq_true rfl)) dX1_lineLength_7 ⟨Nat.zero_le _, Nat.zero_le _⟩) (fun r15 er15 => ?_)
    subst er15
    rw [hf]
    refine lv_icmp_ge (tgt := 33) hx hb dX1_lineLength_10 (by decide) (fun c10 => ?_) (fun c10 => absurd c10 (by decide))
    refine lv_iload_n hx hb dX1_lineLength_33 rfl (lv_at hl 1 rfl) ?_
    refine lv_aload_n hx hb dX1_lineLength_34 rfl (lv_at hl 2 rfl) ?_
    refine lv_iload_n hx hb dX1_lineLength_35 rfl (lv_at hl 3 rfl) ?_
    refine x_ri (va_runV (As := [.int row]) (rest := [.int (((1 + (1 + (nI (f_len (f_fld n nu st de row 0))))) + (1 + (nI (f_len (f_fld n nu st de row 1))))) + (1 + (nI (f_len (f_fld n nu st de row 2)))))]) ⟨hx, hb, hml, hown, hts⟩ (ct_X1_hasMark l G h0 h1 h2 h3 h4 h5 key n nu st de su mk row hc) (cwV 1 hts gX1_lineLength_X1_hasMark rfl rfl rfl (by decide +kernel) ⟨Nat.le_of_ble_eq_true rfl, Nat.le_of_ble_eq_true rfl⟩) (RdP.preV 0 2 rfl rfl hP hE) rfl rfl hl.1 rfl (lv_room (Nat.le_of_ble_eq_true rfl)) dX1_lineLength_36 ⟨Nat.zero_le _, Nat.zero_le _⟩) (fun r16 er16 => ?_)
    subst er16
    refine lv_if_eq (tgt := 46) hx hb dX1_lineLength_39 (by decide) (fun c39 => ?_) (fun c39 => ?_)
    · refine lv_iconst (v := 0) hx hb dX1_lineLength_46 (by decide) ?_
      refine lv_iadd hx hb dX1_lineLength_47 ?_
      refine lv_iconst (v := 1) hx hb dX1_lineLength_48 (by decide) ?_
      refine lv_iadd hx hb dX1_lineLength_49 ?_
      exact W.iret (v := (((((1 + (1 + (nI (f_len (f_fld n nu st de row 0))))) + (1 + (nI (f_len (f_fld n nu st de row 1))))) + (1 + (nI (f_len (f_fld n nu st de row 2))))) + 0) + 1)) hx hb hr (fun t ht hW => ⟨_, rfl, by simp only [f_ll, if_neg hR, if_pos c39], ht⟩) t_nil dX1_lineLength_50
    refine lv_iconst (v := 2) hx hb dX1_lineLength_42 (by decide) ?_
    refine lv_goto (tgt := 47) hx hb dX1_lineLength_43 (by decide) ?_
    refine lv_iadd hx hb dX1_lineLength_47 ?_
    refine lv_iconst (v := 1) hx hb dX1_lineLength_48 (by decide) ?_
    refine lv_iadd hx hb dX1_lineLength_49 ?_
    exact W.iret (v := (((((1 + (1 + (nI (f_len (f_fld n nu st de row 0))))) + (1 + (nI (f_len (f_fld n nu st de row 1))))) + (1 + (nI (f_len (f_fld n nu st de row 2))))) + 2) + 1)) hx hb hr (fun t ht hW => ⟨_, rfl, by simp only [f_ll, if_neg hR, if_neg c39], ht⟩) t_nil dX1_lineLength_50

set_option maxHeartbeats 4000000 in
set_option maxRecDepth 100000 in
/-- lineByte -/
theorem ct_X1_lineByte (l : Launch) (G : Gx) (h0 h1 h2 h3 h4 h5 : Nat) (key : Int64) (n : Nat) (nu st : Nat → Int64) (de : Nat → Int32) (su : Nat → Int64) (mk : Nat → Int32) (row at_ : Int32) (hc : n ≤ 200) : Met l yX1_lineByte wsX1_lineByte ({ frames := 3, cells := 0, slots := 0, locals := 63 }) (RdP G (wR G h0 h1 h2 h3 h4 h5 key (nI n) nu st de su mk) [.ref h0, .int row, .int at_]) (vp_Si (fun r => r = f_lb n nu st de mk row at_)) 0 0 (fun _ => False) := by
  refine Met.ofW (cc := cX1_lineByte) (maxL := 8) (ret := (some .int)) (by decide) rfl ?_
  intro p e s m args below meth c s₁ B hml hv
  obtain ⟨rfl, hP, hE⟩ := hv
  have hx := B.exec
  have hb := B.bytes
  have hr := B.returns
  have hts := atoms_spec (ws := wsX1_lineByte) B.pre
  have hown : s.vm.findClass RX1 = some m.cls := findClass_of_methodNamed B.named
  have hlocks := B.notSynchronized
  have hl := lv_entry ([.ref h0, .int row, .int at_]) (n := 8) (Nat.le_of_ble_eq_true rfl)
  rw [lg_entry_eq]
  generalize (lg_sl ([.ref h0, .int row, .int at_]) ++ List.replicate (8 - (lg_sl ([.ref h0, .int row, .int at_])).length) Slot.unset).toArray = ls at hl ⊢
  replace hl : lv_has ls 8 [(0, .ref h0), (1, .int row), (2, .int at_)] := hl
  by_cases hR : f_isR n st row = 0
  · have hf : f_fct n st row = 1 := by simp only [f_fct, if_pos hR]
    refine lv_iload_n hx hb dX1_lineByte_0 rfl (lv_at hl 2 rfl) ?_
    refine lv_if_ne (tgt := 10) hx hb dX1_lineByte_1 (by decide) (fun c1 => ?_) (fun c1 => ?_)
    · refine lv_iload_n hx hb dX1_lineByte_10 rfl (lv_at hl 2 rfl) ?_
      refine lv_iconst (v := 1) hx hb dX1_lineByte_11 (by decide) ?_
      refine lv_isub hx hb dX1_lineByte_12 ?_
      refine lv_istore_n (lv' := [(3, .int (at_ - 1)), (0, .ref h0), (1, .int row), (2, .int at_)]) hx hb dX1_lineByte_13 rfl hl (by decide) rfl (fun ls hl => ?_)
      refine lv_iconst (v := 0) hx hb dX1_lineByte_14 (by decide) ?_
      refine lv_istore (lv' := [(4, .int 0), (3, .int (at_ - 1)), (0, .ref h0), (1, .int row), (2, .int at_)]) hx hb dX1_lineByte_15 hl (by decide) rfl (fun ls hl => ?_)
      refine lv_iload hx hb dX1_lineByte_17 (lv_at hl 0 rfl) ?_
      refine lv_aload_n hx hb dX1_lineByte_19 rfl (lv_at hl 2 rfl) ?_
      refine lv_iload_n hx hb dX1_lineByte_20 rfl (lv_at hl 3 rfl) ?_
      refine x_ri (va_runV (As := [.int row]) (rest := [.int 0]) ⟨hx, hb, hml, hown, hts⟩ (ct_X1_fieldCount l G h0 h1 h2 h3 h4 h5 key n nu st de su mk row hc) (cwV 1 hts gX1_lineByte_X1_fieldCount rfl rfl rfl (by decide +kernel) ⟨Nat.le_of_ble_eq_true rfl, Nat.le_of_ble_eq_true rfl⟩) (RdP.preV 0 2 rfl rfl hP hE) rfl rfl hl.1 rfl (lv_room (Nat.le_of_ble_eq_true rfl)) dX1_lineByte_21 ⟨Nat.zero_le _, Nat.zero_le _⟩) (fun r1 er1 => ?_)
      subst er1
      rw [hf]
      refine lv_icmp_ge (tgt := 80) hx hb dX1_lineByte_24 (by decide) (fun c24 => absurd c24 (by decide)) (fun c24 => ?_)
      refine lv_aload_n hx hb dX1_lineByte_27 rfl (lv_at hl 2 rfl) ?_
      refine lv_iload_n hx hb dX1_lineByte_28 rfl (lv_at hl 3 rfl) ?_
      refine lv_iload hx hb dX1_lineByte_29 (lv_at hl 0 rfl) ?_
      refine x_rl (va_runV (As := [.int row, .int 0]) (rest := []) ⟨hx, hb, hml, hown, hts⟩ (ct_X1_fieldOf l G h0 h1 h2 h3 h4 h5 key n nu st de su mk row 0 hc) (cwV 2 hts gX1_lineByte_X1_fieldOf rfl rfl rfl (by decide +kernel) ⟨Nat.le_of_ble_eq_true rfl, Nat.le_of_ble_eq_true rfl⟩) (RdP.preV 0 2 rfl rfl hP hE) rfl rfl hl.1 rfl (lv_room (Nat.le_of_ble_eq_true rfl)) dX1_lineByte_31 ⟨Nat.zero_le _, Nat.zero_le _⟩) (fun r2 er2 => ?_)
      subst er2
      refine lv_lstore (lv' := [(5, .long (f_fld n nu st de row 0)), (4, .int 0), (3, .int (at_ - 1)), (0, .ref h0), (1, .int row), (2, .int at_)]) hx hb dX1_lineByte_34 hl (by decide) rfl (fun ls hl => ?_)
      refine lv_iconst (v := 1) hx hb dX1_lineByte_36 (by decide) ?_
      refine lv_lload hx hb dX1_lineByte_37 (lv_at hl 0 rfl) ?_
      refine x_ri (va_runSN (As := [.long (f_fld n nu st de row 0)]) (rest := [.int 1]) ⟨hx, hb, hml, hown, hts⟩ (ct_X3_textLength l G (f_fld n nu st de row 0)) ⟨va_cnB 1 hts gX1_lineByte_X3_textLength_n97 rfl rfl rfl hE.2.1.2.2.2.2.2.2.1 (hts (.initialized RX3) (by decide +kernel)) (by decide +kernel) ⟨Nat.le_of_ble_eq_true rfl, Nat.le_of_ble_eq_true rfl⟩, hts (.static yX3_textLength) (by decide +kernel), trivial⟩ (RdP.preS (fun k q h => by simp at h) hE) rfl rfl hl.1 rfl (lv_room (Nat.le_of_ble_eq_true rfl)) dX1_lineByte_39 ⟨Nat.zero_le _, Nat.zero_le _⟩) (fun r3 er3 => ?_)
      subst er3
      refine lv_iadd hx hb dX1_lineByte_42 ?_
      refine lv_istore (lv' := [(7, .int (1 + (nI (f_len (f_fld n nu st de row 0))))), (5, .long (f_fld n nu st de row 0)), (4, .int 0), (3, .int (at_ - 1)), (0, .ref h0), (1, .int row), (2, .int at_)]) hx hb dX1_lineByte_43 hl (by decide) rfl (fun ls hl => ?_)
      refine lv_iload_n hx hb dX1_lineByte_45 rfl (lv_at hl 3 rfl) ?_
      refine lv_iload hx hb dX1_lineByte_46 (lv_at hl 0 rfl) ?_
      refine lv_icmp_ge (tgt := 69) hx hb dX1_lineByte_48 (by decide) (fun c48 => ?_) (fun c48 => ?_)
      · refine lv_iload_n hx hb dX1_lineByte_69 rfl (lv_at hl 3 rfl) ?_
        refine lv_iload hx hb dX1_lineByte_70 (lv_at hl 0 rfl) ?_
        refine lv_isub hx hb dX1_lineByte_72 ?_
        refine lv_istore_n (lv' := [(3, .int ((at_ - 1) - (1 + (nI (f_len (f_fld n nu st de row 0)))))), (7, .int (1 + (nI (f_len (f_fld n nu st de row 0))))), (5, .long (f_fld n nu st de row 0)), (4, .int 0), (0, .ref h0), (1, .int row), (2, .int at_)]) hx hb dX1_lineByte_73 rfl hl (by decide) rfl (fun ls hl => ?_)
        refine lv_iinc (v := 1) (lv' := [(4, .int 1), (3, .int ((at_ - 1) - (1 + (nI (f_len (f_fld n nu st de row 0)))))), (7, .int (1 + (nI (f_len (f_fld n nu st de row 0))))), (5, .long (f_fld n nu st de row 0)), (0, .ref h0), (1, .int row), (2, .int at_)]) hx hb dX1_lineByte_74 hl (k := 3) rfl (by decide) (by decide) rfl (fun ls hl => ?_)
        refine lv_goto (tgt := 17) hx hb dX1_lineByte_77 (by decide) ?_
        refine lv_iload hx hb dX1_lineByte_17 (lv_at hl 0 rfl) ?_
        refine lv_aload_n hx hb dX1_lineByte_19 rfl (lv_at hl 4 rfl) ?_
        refine lv_iload_n hx hb dX1_lineByte_20 rfl (lv_at hl 5 rfl) ?_
        refine x_ri (va_runV (As := [.int row]) (rest := [.int 1]) ⟨hx, hb, hml, hown, hts⟩ (ct_X1_fieldCount l G h0 h1 h2 h3 h4 h5 key n nu st de su mk row hc) (cwV 1 hts gX1_lineByte_X1_fieldCount rfl rfl rfl (by decide +kernel) ⟨Nat.le_of_ble_eq_true rfl, Nat.le_of_ble_eq_true rfl⟩) (RdP.preV 0 2 rfl rfl hP hE) rfl rfl hl.1 rfl (lv_room (Nat.le_of_ble_eq_true rfl)) dX1_lineByte_21 ⟨Nat.zero_le _, Nat.zero_le _⟩) (fun r4 er4 => ?_)
        subst er4
        rw [hf]
        refine lv_icmp_ge (tgt := 80) hx hb dX1_lineByte_24 (by decide) (fun c24 => ?_) (fun c24 => absurd c24 (by decide))
        refine lv_aload_n hx hb dX1_lineByte_80 rfl (lv_at hl 4 rfl) ?_
        refine lv_iload_n hx hb dX1_lineByte_81 rfl (lv_at hl 5 rfl) ?_
        refine x_ri (va_runV (As := [.int row]) (rest := []) ⟨hx, hb, hml, hown, hts⟩ (ct_X1_hasMark l G h0 h1 h2 h3 h4 h5 key n nu st de su mk row hc) (cwV 1 hts gX1_lineByte_X1_hasMark rfl rfl rfl (by decide +kernel) ⟨Nat.le_of_ble_eq_true rfl, Nat.le_of_ble_eq_true rfl⟩) (RdP.preV 0 2 rfl rfl hP hE) rfl rfl hl.1 rfl (lv_room (Nat.le_of_ble_eq_true rfl)) dX1_lineByte_82 ⟨Nat.zero_le _, Nat.zero_le _⟩) (fun r5 er5 => ?_)
        subst er5
        refine lv_if_eq (tgt := 105) hx hb dX1_lineByte_85 (by decide) (fun c85 => ?_) (fun c85 => ?_)
        · refine lv_bipush (v := 10) hx hb dX1_lineByte_105 (by decide) ?_
          exact W.iret (v := 10) hx hb hr (fun t ht hW => ⟨_, rfl, by simp only [f_lb, f_lbF, if_pos hR, if_neg c1, if_pos c48, if_pos c85], ht⟩) t_nil dX1_lineByte_107
        refine lv_iload_n hx hb dX1_lineByte_88 rfl (lv_at hl 1 rfl) ?_
        refine lv_iconst (v := 2) hx hb dX1_lineByte_89 (by decide) ?_
        refine lv_icmp_ge (tgt := 105) hx hb dX1_lineByte_90 (by decide) (fun c90 => ?_) (fun c90 => ?_)
        · refine lv_bipush (v := 10) hx hb dX1_lineByte_105 (by decide) ?_
          exact W.iret (v := 10) hx hb hr (fun t ht hW => ⟨_, rfl, by simp only [f_lb, f_lbF, if_pos hR, if_neg c1, if_pos c48, if_neg c85, if_pos c90], ht⟩) t_nil dX1_lineByte_107
        refine lv_iload_n hx hb dX1_lineByte_93 rfl (lv_at hl 1 rfl) ?_
        refine lv_if_ne (tgt := 102) hx hb dX1_lineByte_94 (by decide) (fun c94 => ?_) (fun c94 => ?_)
        · refine lv_bipush (v := 42) hx hb dX1_lineByte_102 (by decide) ?_
          exact W.iret (v := 42) hx hb hr (fun t ht hW => ⟨_, rfl, by simp only [f_lb, f_lbF, if_pos hR, if_neg c1, if_pos c48, if_neg c85, if_neg c90, if_neg c94], ht⟩) t_nil dX1_lineByte_104
        refine lv_bipush (v := 32) hx hb dX1_lineByte_97 (by decide) ?_
        refine lv_goto (tgt := 104) hx hb dX1_lineByte_99 (by decide) ?_
        exact W.iret (v := 32) hx hb hr (fun t ht hW => ⟨_, rfl, by simp only [f_lb, f_lbF, if_pos hR, if_neg c1, if_pos c48, if_neg c85, if_neg c90, if_pos c94], ht⟩) t_nil dX1_lineByte_104
      refine lv_iload_n hx hb dX1_lineByte_51 rfl (lv_at hl 3 rfl) ?_
      refine lv_if_ne (tgt := 60) hx hb dX1_lineByte_52 (by decide) (fun c52 => ?_) (fun c52 => ?_)
      · refine lv_lload hx hb dX1_lineByte_60 (lv_at hl 1 rfl) ?_
        refine lv_iload_n hx hb dX1_lineByte_62 rfl (lv_at hl 3 rfl) ?_
        refine lv_iconst (v := 1) hx hb dX1_lineByte_63 (by decide) ?_
        refine lv_isub hx hb dX1_lineByte_64 ?_
        refine x_ri (va_runSN (As := [.long (f_fld n nu st de row 0), .int ((at_ - 1) - 1)]) (rest := []) ⟨hx, hb, hml, hown, hts⟩ (ct_X3_textByte l G (f_fld n nu st de row 0) ((at_ - 1) - 1)) ⟨va_cnB 2 hts gX1_lineByte_X3_textByte_n107 rfl rfl rfl hE.2.1.2.2.2.2.1 (hts (.initialized RX3) (by decide +kernel)) (by decide +kernel) ⟨Nat.le_of_ble_eq_true rfl, Nat.le_of_ble_eq_true rfl⟩, hts (.static yX3_textByte) (by decide +kernel), trivial⟩ (RdP.preS (fun k q h => by simp at h) hE) rfl rfl hl.1 rfl (lv_room (Nat.le_of_ble_eq_true rfl)) dX1_lineByte_65 ⟨Nat.zero_le _, Nat.zero_le _⟩) (fun r6 er6 => ?_)
        subst er6
        exact W.iret (v := (f_tb (f_fld n nu st de row 0) ((at_ - 1) - 1))) hx hb hr (fun t ht hW => ⟨_, rfl, by simp only [f_lb, f_lbF, if_pos hR, if_neg c1, if_neg c48, if_neg c52], ht⟩) t_nil dX1_lineByte_68
      refine lv_bipush (v := 32) hx hb dX1_lineByte_55 (by decide) ?_
      refine lv_goto (tgt := 68) hx hb dX1_lineByte_57 (by decide) ?_
      exact W.iret (v := 32) hx hb hr (fun t ht hW => ⟨_, rfl, by simp only [f_lb, f_lbF, if_pos hR, if_neg c1, if_neg c48, if_pos c52], ht⟩) t_nil dX1_lineByte_68
    refine lv_aload_n hx hb dX1_lineByte_4 rfl (lv_at hl 0 rfl) ?_
    refine lv_iload_n hx hb dX1_lineByte_5 rfl (lv_at hl 1 rfl) ?_
    refine x_ri (va_runV (As := [.int row]) (rest := []) ⟨hx, hb, hml, hown, hts⟩ (ct_X1_letterOf l G h0 h1 h2 h3 h4 h5 key n nu st de su mk row hc) (cwV 1 hts gX1_lineByte_X1_letterOf rfl rfl rfl (by decide +kernel) ⟨Nat.le_of_ble_eq_true rfl, Nat.le_of_ble_eq_true rfl⟩) (RdP.preV 0 2 rfl rfl hP hE) rfl rfl hl.1 rfl (lv_room (Nat.le_of_ble_eq_true rfl)) dX1_lineByte_6 ⟨Nat.zero_le _, Nat.zero_le _⟩) (fun r7 er7 => ?_)
    subst er7
    exact W.iret (v := (f_let n st row)) hx hb hr (fun t ht hW => ⟨_, rfl, by simp only [f_lb, f_lbF, if_pos hR, if_pos c1], ht⟩) t_nil dX1_lineByte_9
  · have hf : f_fct n st row = 3 := by simp only [f_fct, if_neg hR]
    refine lv_iload_n hx hb dX1_lineByte_0 rfl (lv_at hl 2 rfl) ?_
    refine lv_if_ne (tgt := 10) hx hb dX1_lineByte_1 (by decide) (fun c1 => ?_) (fun c1 => ?_)
    · refine lv_iload_n hx hb dX1_lineByte_10 rfl (lv_at hl 2 rfl) ?_
      refine lv_iconst (v := 1) hx hb dX1_lineByte_11 (by decide) ?_
      refine lv_isub hx hb dX1_lineByte_12 ?_
      refine lv_istore_n (lv' := [(3, .int (at_ - 1)), (0, .ref h0), (1, .int row), (2, .int at_)]) hx hb dX1_lineByte_13 rfl hl (by decide) rfl (fun ls hl => ?_)
      refine lv_iconst (v := 0) hx hb dX1_lineByte_14 (by decide) ?_
      refine lv_istore (lv' := [(4, .int 0), (3, .int (at_ - 1)), (0, .ref h0), (1, .int row), (2, .int at_)]) hx hb dX1_lineByte_15 hl (by decide) rfl (fun ls hl => ?_)
      refine lv_iload hx hb dX1_lineByte_17 (lv_at hl 0 rfl) ?_
      refine lv_aload_n hx hb dX1_lineByte_19 rfl (lv_at hl 2 rfl) ?_
      refine lv_iload_n hx hb dX1_lineByte_20 rfl (lv_at hl 3 rfl) ?_
      refine x_ri (va_runV (As := [.int row]) (rest := [.int 0]) ⟨hx, hb, hml, hown, hts⟩ (ct_X1_fieldCount l G h0 h1 h2 h3 h4 h5 key n nu st de su mk row hc) (cwV 1 hts gX1_lineByte_X1_fieldCount rfl rfl rfl (by decide +kernel) ⟨Nat.le_of_ble_eq_true rfl, Nat.le_of_ble_eq_true rfl⟩) (RdP.preV 0 2 rfl rfl hP hE) rfl rfl hl.1 rfl (lv_room (Nat.le_of_ble_eq_true rfl)) dX1_lineByte_21 ⟨Nat.zero_le _, Nat.zero_le _⟩) (fun r8 er8 => ?_)
      subst er8
      rw [hf]
      refine lv_icmp_ge (tgt := 80) hx hb dX1_lineByte_24 (by decide) (fun c24 => absurd c24 (by decide)) (fun c24 => ?_)
      refine lv_aload_n hx hb dX1_lineByte_27 rfl (lv_at hl 2 rfl) ?_
      refine lv_iload_n hx hb dX1_lineByte_28 rfl (lv_at hl 3 rfl) ?_
      refine lv_iload hx hb dX1_lineByte_29 (lv_at hl 0 rfl) ?_
      refine x_rl (va_runV (As := [.int row, .int 0]) (rest := []) ⟨hx, hb, hml, hown, hts⟩ (ct_X1_fieldOf l G h0 h1 h2 h3 h4 h5 key n nu st de su mk row 0 hc) (cwV 2 hts gX1_lineByte_X1_fieldOf rfl rfl rfl (by decide +kernel) ⟨Nat.le_of_ble_eq_true rfl, Nat.le_of_ble_eq_true rfl⟩) (RdP.preV 0 2 rfl rfl hP hE) rfl rfl hl.1 rfl (lv_room (Nat.le_of_ble_eq_true rfl)) dX1_lineByte_31 ⟨Nat.zero_le _, Nat.zero_le _⟩) (fun r9 er9 => ?_)
      subst er9
      refine lv_lstore (lv' := [(5, .long (f_fld n nu st de row 0)), (4, .int 0), (3, .int (at_ - 1)), (0, .ref h0), (1, .int row), (2, .int at_)]) hx hb dX1_lineByte_34 hl (by decide) rfl (fun ls hl => ?_)
      refine lv_iconst (v := 1) hx hb dX1_lineByte_36 (by decide) ?_
      refine lv_lload hx hb dX1_lineByte_37 (lv_at hl 0 rfl) ?_
      refine x_ri (va_runSN (As := [.long (f_fld n nu st de row 0)]) (rest := [.int 1]) ⟨hx, hb, hml, hown, hts⟩ (ct_X3_textLength l G (f_fld n nu st de row 0)) ⟨va_cnB 1 hts gX1_lineByte_X3_textLength_n97 rfl rfl rfl hE.2.1.2.2.2.2.2.2.1 (hts (.initialized RX3) (by decide +kernel)) (by decide +kernel) ⟨Nat.le_of_ble_eq_true rfl, Nat.le_of_ble_eq_true rfl⟩, hts (.static yX3_textLength) (by decide +kernel), trivial⟩ (RdP.preS (fun k q h => by simp at h) hE) rfl rfl hl.1 rfl (lv_room (Nat.le_of_ble_eq_true rfl)) dX1_lineByte_39 ⟨Nat.zero_le _, Nat.zero_le _⟩) (fun r10 er10 => ?_)
      subst er10
      refine lv_iadd hx hb dX1_lineByte_42 ?_
      refine lv_istore (lv' := [(7, .int (1 + (nI (f_len (f_fld n nu st de row 0))))), (5, .long (f_fld n nu st de row 0)), (4, .int 0), (3, .int (at_ - 1)), (0, .ref h0), (1, .int row), (2, .int at_)]) hx hb dX1_lineByte_43 hl (by decide) rfl (fun ls hl => ?_)
      refine lv_iload_n hx hb dX1_lineByte_45 rfl (lv_at hl 3 rfl) ?_
      refine lv_iload hx hb dX1_lineByte_46 (lv_at hl 0 rfl) ?_
      refine lv_icmp_ge (tgt := 69) hx hb dX1_lineByte_48 (by decide) (fun c48 => ?_) (fun c48 => ?_)
      · refine lv_iload_n hx hb dX1_lineByte_69 rfl (lv_at hl 3 rfl) ?_
        refine lv_iload hx hb dX1_lineByte_70 (lv_at hl 0 rfl) ?_
        refine lv_isub hx hb dX1_lineByte_72 ?_
        refine lv_istore_n (lv' := [(3, .int ((at_ - 1) - (1 + (nI (f_len (f_fld n nu st de row 0)))))), (7, .int (1 + (nI (f_len (f_fld n nu st de row 0))))), (5, .long (f_fld n nu st de row 0)), (4, .int 0), (0, .ref h0), (1, .int row), (2, .int at_)]) hx hb dX1_lineByte_73 rfl hl (by decide) rfl (fun ls hl => ?_)
        refine lv_iinc (v := 1) (lv' := [(4, .int 1), (3, .int ((at_ - 1) - (1 + (nI (f_len (f_fld n nu st de row 0)))))), (7, .int (1 + (nI (f_len (f_fld n nu st de row 0))))), (5, .long (f_fld n nu st de row 0)), (0, .ref h0), (1, .int row), (2, .int at_)]) hx hb dX1_lineByte_74 hl (k := 3) rfl (by decide) (by decide) rfl (fun ls hl => ?_)
        refine lv_goto (tgt := 17) hx hb dX1_lineByte_77 (by decide) ?_
        refine lv_iload hx hb dX1_lineByte_17 (lv_at hl 0 rfl) ?_
        refine lv_aload_n hx hb dX1_lineByte_19 rfl (lv_at hl 4 rfl) ?_
        refine lv_iload_n hx hb dX1_lineByte_20 rfl (lv_at hl 5 rfl) ?_
        refine x_ri (va_runV (As := [.int row]) (rest := [.int 1]) ⟨hx, hb, hml, hown, hts⟩ (ct_X1_fieldCount l G h0 h1 h2 h3 h4 h5 key n nu st de su mk row hc) (cwV 1 hts gX1_lineByte_X1_fieldCount rfl rfl rfl (by decide +kernel) ⟨Nat.le_of_ble_eq_true rfl, Nat.le_of_ble_eq_true rfl⟩) (RdP.preV 0 2 rfl rfl hP hE) rfl rfl hl.1 rfl (lv_room (Nat.le_of_ble_eq_true rfl)) dX1_lineByte_21 ⟨Nat.zero_le _, Nat.zero_le _⟩) (fun r11 er11 => ?_)
        subst er11
        rw [hf]
        refine lv_icmp_ge (tgt := 80) hx hb dX1_lineByte_24 (by decide) (fun c24 => absurd c24 (by decide)) (fun c24 => ?_)
        refine lv_aload_n hx hb dX1_lineByte_27 rfl (lv_at hl 4 rfl) ?_
        refine lv_iload_n hx hb dX1_lineByte_28 rfl (lv_at hl 5 rfl) ?_
        refine lv_iload hx hb dX1_lineByte_29 (lv_at hl 0 rfl) ?_
        refine x_rl (va_runV (As := [.int row, .int 1]) (rest := []) ⟨hx, hb, hml, hown, hts⟩ (ct_X1_fieldOf l G h0 h1 h2 h3 h4 h5 key n nu st de su mk row 1 hc) (cwV 2 hts gX1_lineByte_X1_fieldOf rfl rfl rfl (by decide +kernel) ⟨Nat.le_of_ble_eq_true rfl, Nat.le_of_ble_eq_true rfl⟩) (RdP.preV 0 2 rfl rfl hP hE) rfl rfl hl.1 rfl (lv_room (Nat.le_of_ble_eq_true rfl)) dX1_lineByte_31 ⟨Nat.zero_le _, Nat.zero_le _⟩) (fun r12 er12 => ?_)
        subst er12
        refine lv_lstore (lv' := [(5, .long (f_fld n nu st de row 1)), (4, .int 1), (3, .int ((at_ - 1) - (1 + (nI (f_len (f_fld n nu st de row 0)))))), (7, .int (1 + (nI (f_len (f_fld n nu st de row 0))))), (0, .ref h0), (1, .int row), (2, .int at_)]) hx hb dX1_lineByte_34 hl (by decide) rfl (fun ls hl => ?_)
        refine lv_iconst (v := 1) hx hb dX1_lineByte_36 (by decide) ?_
        refine lv_lload hx hb dX1_lineByte_37 (lv_at hl 0 rfl) ?_
        refine x_ri (va_runSN (As := [.long (f_fld n nu st de row 1)]) (rest := [.int 1]) ⟨hx, hb, hml, hown, hts⟩ (ct_X3_textLength l G (f_fld n nu st de row 1)) ⟨va_cnB 1 hts gX1_lineByte_X3_textLength_n97 rfl rfl rfl hE.2.1.2.2.2.2.2.2.1 (hts (.initialized RX3) (by decide +kernel)) (by decide +kernel) ⟨Nat.le_of_ble_eq_true rfl, Nat.le_of_ble_eq_true rfl⟩, hts (.static yX3_textLength) (by decide +kernel), trivial⟩ (RdP.preS (fun k q h => by simp at h) hE) rfl rfl hl.1 rfl (lv_room (Nat.le_of_ble_eq_true rfl)) dX1_lineByte_39 ⟨Nat.zero_le _, Nat.zero_le _⟩) (fun r13 er13 => ?_)
        subst er13
        refine lv_iadd hx hb dX1_lineByte_42 ?_
        refine lv_istore (lv' := [(7, .int (1 + (nI (f_len (f_fld n nu st de row 1))))), (5, .long (f_fld n nu st de row 1)), (4, .int 1), (3, .int ((at_ - 1) - (1 + (nI (f_len (f_fld n nu st de row 0)))))), (0, .ref h0), (1, .int row), (2, .int at_)]) hx hb dX1_lineByte_43 hl (by decide) rfl (fun ls hl => ?_)
        refine lv_iload_n hx hb dX1_lineByte_45 rfl (lv_at hl 3 rfl) ?_
        refine lv_iload hx hb dX1_lineByte_46 (lv_at hl 0 rfl) ?_
        refine lv_icmp_ge (tgt := 69) hx hb dX1_lineByte_48 (by decide) (fun c48_2 => ?_) (fun c48_2 => ?_)
        · refine lv_iload_n hx hb dX1_lineByte_69 rfl (lv_at hl 3 rfl) ?_
          refine lv_iload hx hb dX1_lineByte_70 (lv_at hl 0 rfl) ?_
          refine lv_isub hx hb dX1_lineByte_72 ?_
          refine lv_istore_n (lv' := [(3, .int (((at_ - 1) - (1 + (nI (f_len (f_fld n nu st de row 0))))) - (1 + (nI (f_len (f_fld n nu st de row 1)))))), (7, .int (1 + (nI (f_len (f_fld n nu st de row 1))))), (5, .long (f_fld n nu st de row 1)), (4, .int 1), (0, .ref h0), (1, .int row), (2, .int at_)]) hx hb dX1_lineByte_73 rfl hl (by decide) rfl (fun ls hl => ?_)
          refine lv_iinc (v := 2) (lv' := [(4, .int 2), (3, .int (((at_ - 1) - (1 + (nI (f_len (f_fld n nu st de row 0))))) - (1 + (nI (f_len (f_fld n nu st de row 1)))))), (7, .int (1 + (nI (f_len (f_fld n nu st de row 1))))), (5, .long (f_fld n nu st de row 1)), (0, .ref h0), (1, .int row), (2, .int at_)]) hx hb dX1_lineByte_74 hl (k := 3) rfl (by decide) (by decide) rfl (fun ls hl => ?_)
          refine lv_goto (tgt := 17) hx hb dX1_lineByte_77 (by decide) ?_
          refine lv_iload hx hb dX1_lineByte_17 (lv_at hl 0 rfl) ?_
          refine lv_aload_n hx hb dX1_lineByte_19 rfl (lv_at hl 4 rfl) ?_
          refine lv_iload_n hx hb dX1_lineByte_20 rfl (lv_at hl 5 rfl) ?_
          refine x_ri (va_runV (As := [.int row]) (rest := [.int 2]) ⟨hx, hb, hml, hown, hts⟩ (ct_X1_fieldCount l G h0 h1 h2 h3 h4 h5 key n nu st de su mk row hc) (cwV 1 hts gX1_lineByte_X1_fieldCount rfl rfl rfl (by decide +kernel) ⟨Nat.le_of_ble_eq_true rfl, Nat.le_of_ble_eq_true rfl⟩) (RdP.preV 0 2 rfl rfl hP hE) rfl rfl hl.1 rfl (lv_room (Nat.le_of_ble_eq_true rfl)) dX1_lineByte_21 ⟨Nat.zero_le _, Nat.zero_le _⟩) (fun r14 er14 => ?_)
          subst er14
          rw [hf]
          refine lv_icmp_ge (tgt := 80) hx hb dX1_lineByte_24 (by decide) (fun c24 => absurd c24 (by decide)) (fun c24 => ?_)
          refine lv_aload_n hx hb dX1_lineByte_27 rfl (lv_at hl 4 rfl) ?_
          refine lv_iload_n hx hb dX1_lineByte_28 rfl (lv_at hl 5 rfl) ?_
          refine lv_iload hx hb dX1_lineByte_29 (lv_at hl 0 rfl) ?_
          refine x_rl (va_runV (As := [.int row, .int 2]) (rest := []) ⟨hx, hb, hml, hown, hts⟩ (ct_X1_fieldOf l G h0 h1 h2 h3 h4 h5 key n nu st de su mk row 2 hc) (cwV 2 hts gX1_lineByte_X1_fieldOf rfl rfl rfl (by decide +kernel) ⟨Nat.le_of_ble_eq_true rfl, Nat.le_of_ble_eq_true rfl⟩) (RdP.preV 0 2 rfl rfl hP hE) rfl rfl hl.1 rfl (lv_room (Nat.le_of_ble_eq_true rfl)) dX1_lineByte_31 ⟨Nat.zero_le _, Nat.zero_le _⟩) (fun r15 er15 => ?_)
          subst er15
          refine lv_lstore (lv' := [(5, .long (f_fld n nu st de row 2)), (4, .int 2), (3, .int (((at_ - 1) - (1 + (nI (f_len (f_fld n nu st de row 0))))) - (1 + (nI (f_len (f_fld n nu st de row 1)))))), (7, .int (1 + (nI (f_len (f_fld n nu st de row 1))))), (0, .ref h0), (1, .int row), (2, .int at_)]) hx hb dX1_lineByte_34 hl (by decide) rfl (fun ls hl => ?_)
          refine lv_iconst (v := 1) hx hb dX1_lineByte_36 (by decide) ?_
          refine lv_lload hx hb dX1_lineByte_37 (lv_at hl 0 rfl) ?_
          refine x_ri (va_runSN (As := [.long (f_fld n nu st de row 2)]) (rest := [.int 1]) ⟨hx, hb, hml, hown, hts⟩ (ct_X3_textLength l G (f_fld n nu st de row 2)) ⟨va_cnB 1 hts gX1_lineByte_X3_textLength_n97 rfl rfl rfl hE.2.1.2.2.2.2.2.2.1 (hts (.initialized RX3) (by decide +kernel)) (by decide +kernel) ⟨Nat.le_of_ble_eq_true rfl, Nat.le_of_ble_eq_true rfl⟩, hts (.static yX3_textLength) (by decide +kernel), trivial⟩ (RdP.preS (fun k q h => by simp at h) hE) rfl rfl hl.1 rfl (lv_room (Nat.le_of_ble_eq_true rfl)) dX1_lineByte_39 ⟨Nat.zero_le _, Nat.zero_le _⟩) (fun r16 er16 => ?_)
          subst er16
          refine lv_iadd hx hb dX1_lineByte_42 ?_
          refine lv_istore (lv' := [(7, .int (1 + (nI (f_len (f_fld n nu st de row 2))))), (5, .long (f_fld n nu st de row 2)), (4, .int 2), (3, .int (((at_ - 1) - (1 + (nI (f_len (f_fld n nu st de row 0))))) - (1 + (nI (f_len (f_fld n nu st de row 1)))))), (0, .ref h0), (1, .int row), (2, .int at_)]) hx hb dX1_lineByte_43 hl (by decide) rfl (fun ls hl => ?_)
          refine lv_iload_n hx hb dX1_lineByte_45 rfl (lv_at hl 3 rfl) ?_
          refine lv_iload hx hb dX1_lineByte_46 (lv_at hl 0 rfl) ?_
          refine lv_icmp_ge (tgt := 69) hx hb dX1_lineByte_48 (by decide) (fun c48_3 => ?_) (fun c48_3 => ?_)
          · refine lv_iload_n hx hb dX1_lineByte_69 rfl (lv_at hl 3 rfl) ?_
            refine lv_iload hx hb dX1_lineByte_70 (lv_at hl 0 rfl) ?_
            refine lv_isub hx hb dX1_lineByte_72 ?_
            refine lv_istore_n (lv' := [(3, .int ((((at_ - 1) - (1 + (nI (f_len (f_fld n nu st de row 0))))) - (1 + (nI (f_len (f_fld n nu st de row 1))))) - (1 + (nI (f_len (f_fld n nu st de row 2)))))), (7, .int (1 + (nI (f_len (f_fld n nu st de row 2))))), (5, .long (f_fld n nu st de row 2)), (4, .int 2), (0, .ref h0), (1, .int row), (2, .int at_)]) hx hb dX1_lineByte_73 rfl hl (by decide) rfl (fun ls hl => ?_)
            refine lv_iinc (v := 3) (lv' := [(4, .int 3), (3, .int ((((at_ - 1) - (1 + (nI (f_len (f_fld n nu st de row 0))))) - (1 + (nI (f_len (f_fld n nu st de row 1))))) - (1 + (nI (f_len (f_fld n nu st de row 2)))))), (7, .int (1 + (nI (f_len (f_fld n nu st de row 2))))), (5, .long (f_fld n nu st de row 2)), (0, .ref h0), (1, .int row), (2, .int at_)]) hx hb dX1_lineByte_74 hl (k := 3) rfl (by decide) (by decide) rfl (fun ls hl => ?_)
            refine lv_goto (tgt := 17) hx hb dX1_lineByte_77 (by decide) ?_
            refine lv_iload hx hb dX1_lineByte_17 (lv_at hl 0 rfl) ?_
            refine lv_aload_n hx hb dX1_lineByte_19 rfl (lv_at hl 4 rfl) ?_
            refine lv_iload_n hx hb dX1_lineByte_20 rfl (lv_at hl 5 rfl) ?_
            refine x_ri (va_runV (As := [.int row]) (rest := [.int 3]) ⟨hx, hb, hml, hown, hts⟩ (ct_X1_fieldCount l G h0 h1 h2 h3 h4 h5 key n nu st de su mk row hc) (cwV 1 hts gX1_lineByte_X1_fieldCount rfl rfl rfl (by decide +kernel) ⟨Nat.le_of_ble_eq_true rfl, Nat.le_of_ble_eq_true rfl⟩) (RdP.preV 0 2 rfl rfl hP hE) rfl rfl hl.1 rfl (lv_room (Nat.le_of_ble_eq_true rfl)) dX1_lineByte_21 ⟨Nat.zero_le _, Nat.zero_le _⟩) (fun r17 er17 => ?_)
            subst er17
            rw [hf]
            refine lv_icmp_ge (tgt := 80) hx hb dX1_lineByte_24 (by decide) (fun c24 => ?_) (fun c24 => absurd c24 (by decide))
            refine lv_aload_n hx hb dX1_lineByte_80 rfl (lv_at hl 4 rfl) ?_
            refine lv_iload_n hx hb dX1_lineByte_81 rfl (lv_at hl 5 rfl) ?_
            refine x_ri (va_runV (As := [.int row]) (rest := []) ⟨hx, hb, hml, hown, hts⟩ (ct_X1_hasMark l G h0 h1 h2 h3 h4 h5 key n nu st de su mk row hc) (cwV 1 hts gX1_lineByte_X1_hasMark rfl rfl rfl (by decide +kernel) ⟨Nat.le_of_ble_eq_true rfl, Nat.le_of_ble_eq_true rfl⟩) (RdP.preV 0 2 rfl rfl hP hE) rfl rfl hl.1 rfl (lv_room (Nat.le_of_ble_eq_true rfl)) dX1_lineByte_82 ⟨Nat.zero_le _, Nat.zero_le _⟩) (fun r18 er18 => ?_)
            subst er18
            refine lv_if_eq (tgt := 105) hx hb dX1_lineByte_85 (by decide) (fun c85 => ?_) (fun c85 => ?_)
            · refine lv_bipush (v := 10) hx hb dX1_lineByte_105 (by decide) ?_
              exact W.iret (v := 10) hx hb hr (fun t ht hW => ⟨_, rfl, by simp only [f_lb, f_lbF, if_neg hR, if_neg c1, if_pos c48, if_pos c48_2, if_pos c48_3, if_pos c85], ht⟩) t_nil dX1_lineByte_107
            refine lv_iload_n hx hb dX1_lineByte_88 rfl (lv_at hl 1 rfl) ?_
            refine lv_iconst (v := 2) hx hb dX1_lineByte_89 (by decide) ?_
            refine lv_icmp_ge (tgt := 105) hx hb dX1_lineByte_90 (by decide) (fun c90 => ?_) (fun c90 => ?_)
            · refine lv_bipush (v := 10) hx hb dX1_lineByte_105 (by decide) ?_
              exact W.iret (v := 10) hx hb hr (fun t ht hW => ⟨_, rfl, by simp only [f_lb, f_lbF, if_neg hR, if_neg c1, if_pos c48, if_pos c48_2, if_pos c48_3, if_neg c85, if_pos c90], ht⟩) t_nil dX1_lineByte_107
            refine lv_iload_n hx hb dX1_lineByte_93 rfl (lv_at hl 1 rfl) ?_
            refine lv_if_ne (tgt := 102) hx hb dX1_lineByte_94 (by decide) (fun c94 => ?_) (fun c94 => ?_)
            · refine lv_bipush (v := 42) hx hb dX1_lineByte_102 (by decide) ?_
              exact W.iret (v := 42) hx hb hr (fun t ht hW => ⟨_, rfl, by simp only [f_lb, f_lbF, if_neg hR, if_neg c1, if_pos c48, if_pos c48_2, if_pos c48_3, if_neg c85, if_neg c90, if_neg c94], ht⟩) t_nil dX1_lineByte_104
            refine lv_bipush (v := 32) hx hb dX1_lineByte_97 (by decide) ?_
            refine lv_goto (tgt := 104) hx hb dX1_lineByte_99 (by decide) ?_
            exact W.iret (v := 32) hx hb hr (fun t ht hW => ⟨_, rfl, by simp only [f_lb, f_lbF, if_neg hR, if_neg c1, if_pos c48, if_pos c48_2, if_pos c48_3, if_neg c85, if_neg c90, if_pos c94], ht⟩) t_nil dX1_lineByte_104
          refine lv_iload_n hx hb dX1_lineByte_51 rfl (lv_at hl 3 rfl) ?_
          refine lv_if_ne (tgt := 60) hx hb dX1_lineByte_52 (by decide) (fun c52 => ?_) (fun c52 => ?_)
          · refine lv_lload hx hb dX1_lineByte_60 (lv_at hl 1 rfl) ?_
            refine lv_iload_n hx hb dX1_lineByte_62 rfl (lv_at hl 3 rfl) ?_
            refine lv_iconst (v := 1) hx hb dX1_lineByte_63 (by decide) ?_
            refine lv_isub hx hb dX1_lineByte_64 ?_
            refine x_ri (va_runSN (As := [.long (f_fld n nu st de row 2), .int ((((at_ - 1) - (1 + (nI (f_len (f_fld n nu st de row 0))))) - (1 + (nI (f_len (f_fld n nu st de row 1))))) - 1)]) (rest := []) ⟨hx, hb, hml, hown, hts⟩ (ct_X3_textByte l G (f_fld n nu st de row 2) ((((at_ - 1) - (1 + (nI (f_len (f_fld n nu st de row 0))))) - (1 + (nI (f_len (f_fld n nu st de row 1))))) - 1)) ⟨va_cnB 2 hts gX1_lineByte_X3_textByte_n107 rfl rfl rfl hE.2.1.2.2.2.2.1 (hts (.initialized RX3) (by decide +kernel)) (by decide +kernel) ⟨Nat.le_of_ble_eq_true rfl, Nat.le_of_ble_eq_true rfl⟩, hts (.static yX3_textByte) (by decide +kernel), trivial⟩ (RdP.preS (fun k q h => by simp at h) hE) rfl rfl hl.1 rfl (lv_room (Nat.le_of_ble_eq_true rfl)) dX1_lineByte_65 ⟨Nat.zero_le _, Nat.zero_le _⟩) (fun r19 er19 => ?_)
            subst er19
            exact W.iret (v := (f_tb (f_fld n nu st de row 2) ((((at_ - 1) - (1 + (nI (f_len (f_fld n nu st de row 0))))) - (1 + (nI (f_len (f_fld n nu st de row 1))))) - 1))) hx hb hr (fun t ht hW => ⟨_, rfl, by simp only [f_lb, f_lbF, if_neg hR, if_neg c1, if_pos c48, if_pos c48_2, if_neg c48_3, if_neg c52], ht⟩) t_nil dX1_lineByte_68
          refine lv_bipush (v := 32) hx hb dX1_lineByte_55 (by decide) ?_
          refine lv_goto (tgt := 68) hx hb dX1_lineByte_57 (by decide) ?_
          exact W.iret (v := 32) hx hb hr (fun t ht hW => ⟨_, rfl, by simp only [f_lb, f_lbF, if_neg hR, if_neg c1, if_pos c48, if_pos c48_2, if_neg c48_3, if_pos c52], ht⟩) t_nil dX1_lineByte_68
        refine lv_iload_n hx hb dX1_lineByte_51 rfl (lv_at hl 3 rfl) ?_
        refine lv_if_ne (tgt := 60) hx hb dX1_lineByte_52 (by decide) (fun c52 => ?_) (fun c52 => ?_)
        · refine lv_lload hx hb dX1_lineByte_60 (lv_at hl 1 rfl) ?_
          refine lv_iload_n hx hb dX1_lineByte_62 rfl (lv_at hl 3 rfl) ?_
          refine lv_iconst (v := 1) hx hb dX1_lineByte_63 (by decide) ?_
          refine lv_isub hx hb dX1_lineByte_64 ?_
          refine x_ri (va_runSN (As := [.long (f_fld n nu st de row 1), .int (((at_ - 1) - (1 + (nI (f_len (f_fld n nu st de row 0))))) - 1)]) (rest := []) ⟨hx, hb, hml, hown, hts⟩ (ct_X3_textByte l G (f_fld n nu st de row 1) (((at_ - 1) - (1 + (nI (f_len (f_fld n nu st de row 0))))) - 1)) ⟨va_cnB 2 hts gX1_lineByte_X3_textByte_n107 rfl rfl rfl hE.2.1.2.2.2.2.1 (hts (.initialized RX3) (by decide +kernel)) (by decide +kernel) ⟨Nat.le_of_ble_eq_true rfl, Nat.le_of_ble_eq_true rfl⟩, hts (.static yX3_textByte) (by decide +kernel), trivial⟩ (RdP.preS (fun k q h => by simp at h) hE) rfl rfl hl.1 rfl (lv_room (Nat.le_of_ble_eq_true rfl)) dX1_lineByte_65 ⟨Nat.zero_le _, Nat.zero_le _⟩) (fun r20 er20 => ?_)
          subst er20
          exact W.iret (v := (f_tb (f_fld n nu st de row 1) (((at_ - 1) - (1 + (nI (f_len (f_fld n nu st de row 0))))) - 1))) hx hb hr (fun t ht hW => ⟨_, rfl, by simp only [f_lb, f_lbF, if_neg hR, if_neg c1, if_pos c48, if_neg c48_2, if_neg c52], ht⟩) t_nil dX1_lineByte_68
        refine lv_bipush (v := 32) hx hb dX1_lineByte_55 (by decide) ?_
        refine lv_goto (tgt := 68) hx hb dX1_lineByte_57 (by decide) ?_
        exact W.iret (v := 32) hx hb hr (fun t ht hW => ⟨_, rfl, by simp only [f_lb, f_lbF, if_neg hR, if_neg c1, if_pos c48, if_neg c48_2, if_pos c52], ht⟩) t_nil dX1_lineByte_68
      refine lv_iload_n hx hb dX1_lineByte_51 rfl (lv_at hl 3 rfl) ?_
      refine lv_if_ne (tgt := 60) hx hb dX1_lineByte_52 (by decide) (fun c52 => ?_) (fun c52 => ?_)
      · refine lv_lload hx hb dX1_lineByte_60 (lv_at hl 1 rfl) ?_
        refine lv_iload_n hx hb dX1_lineByte_62 rfl (lv_at hl 3 rfl) ?_
        refine lv_iconst (v := 1) hx hb dX1_lineByte_63 (by decide) ?_
        refine lv_isub hx hb dX1_lineByte_64 ?_
        refine x_ri (va_runSN (As := [.long (f_fld n nu st de row 0), .int ((at_ - 1) - 1)]) (rest := []) ⟨hx, hb, hml, hown, hts⟩ (ct_X3_textByte l G (f_fld n nu st de row 0) ((at_ - 1) - 1)) ⟨va_cnB 2 hts gX1_lineByte_X3_textByte_n107 rfl rfl rfl hE.2.1.2.2.2.2.1 (hts (.initialized RX3) (by decide +kernel)) (by decide +kernel) ⟨Nat.le_of_ble_eq_true rfl, Nat.le_of_ble_eq_true rfl⟩, hts (.static yX3_textByte) (by decide +kernel), trivial⟩ (RdP.preS (fun k q h => by simp at h) hE) rfl rfl hl.1 rfl (lv_room (Nat.le_of_ble_eq_true rfl)) dX1_lineByte_65 ⟨Nat.zero_le _, Nat.zero_le _⟩) (fun r21 er21 => ?_)
        subst er21
        exact W.iret (v := (f_tb (f_fld n nu st de row 0) ((at_ - 1) - 1))) hx hb hr (fun t ht hW => ⟨_, rfl, by simp only [f_lb, f_lbF, if_neg hR, if_neg c1, if_neg c48, if_neg c52], ht⟩) t_nil dX1_lineByte_68
      refine lv_bipush (v := 32) hx hb dX1_lineByte_55 (by decide) ?_
      refine lv_goto (tgt := 68) hx hb dX1_lineByte_57 (by decide) ?_
      exact W.iret (v := 32) hx hb hr (fun t ht hW => ⟨_, rfl, by simp only [f_lb, f_lbF, if_neg hR, if_neg c1, if_neg c48, if_pos c52], ht⟩) t_nil dX1_lineByte_68
    refine lv_aload_n hx hb dX1_lineByte_4 rfl (lv_at hl 0 rfl) ?_
    refine lv_iload_n hx hb dX1_lineByte_5 rfl (lv_at hl 1 rfl) ?_
    refine x_ri (va_runV (As := [.int row]) (rest := []) ⟨hx, hb, hml, hown, hts⟩ (ct_X1_letterOf l G h0 h1 h2 h3 h4 h5 key n nu st de su mk row hc) (cwV 1 hts gX1_lineByte_X1_letterOf rfl rfl rfl (by decide +kernel) ⟨Nat.le_of_ble_eq_true rfl, Nat.le_of_ble_eq_true rfl⟩) (RdP.preV 0 2 rfl rfl hP hE) rfl rfl hl.1 rfl (lv_room (Nat.le_of_ble_eq_true rfl)) dX1_lineByte_6 ⟨Nat.zero_le _, Nat.zero_le _⟩) (fun r22 er22 => ?_)
    subst er22
    exact W.iret (v := (f_let n st row)) hx hb hr (fun t ht hW => ⟨_, rfl, by simp only [f_lb, f_lbF, if_neg hR, if_pos c1], ht⟩) t_nil dX1_lineByte_9

set_option maxHeartbeats 4000000 in
set_option maxRecDepth 100000 in
/-- rollByte -/
theorem ct_X1_rollByte (l : Launch) (G : Gx) (h0 h1 h2 h3 h4 h5 : Nat) (key : Int64) (n : Nat) (nu st : Nat → Int64) (de : Nat → Int32) (su : Nat → Int64) (mk : Nat → Int32) (ix : Int32) (hc : n ≤ 200) : Met l yX1_rollByte wsX1_rollByte ({ frames := 4, cells := 0, slots := 0, locals := 90 }) (RdP G (wR G h0 h1 h2 h3 h4 h5 key (nI n) nu st de su mk) [.ref h0, .int ix]) (vp_Si (fun r => r = f_roll n nu st de mk ix)) 0 0 (fun _ => False) := by
  refine Met.ofW (cc := cX1_rollByte) (maxL := 5) (ret := (some .int)) (by decide) rfl ?_
  intro p e s m args below meth c s₁ B hml hv
  obtain ⟨rfl, hP, hE⟩ := hv
  have hx := B.exec
  have hb := B.bytes
  have hr := B.returns
  have hts := atoms_spec (ws := wsX1_rollByte) B.pre
  have hown : s.vm.findClass RX1 = some m.cls := findClass_of_methodNamed B.named
  have hlocks := B.notSynchronized
  have hiX1 : ∀ w ∈ wsX10, w ∈ wsX1_rollByte := by decide +kernel
  have hl := lv_entry ([.ref h0, .int ix]) (n := 5) (Nat.le_of_ble_eq_true rfl)
  rw [lg_entry_eq]
  generalize (lg_sl ([.ref h0, .int ix]) ++ List.replicate (5 - (lg_sl ([.ref h0, .int ix])).length) Slot.unset).toArray = ls at hl ⊢
  replace hl : lv_has ls 5 [(0, .ref h0), (1, .int ix)] := hl
  refine lv_iload_n hx hb dX1_rollByte_0 rfl (lv_at hl 1 rfl) ?_
  refine lv_if_ge (tgt := 6) hx hb dX1_rollByte_1 (by decide) (fun c1 => ?_) (fun c1 => ?_)
  · refine lv_iload_n hx hb dX1_rollByte_6 rfl (lv_at hl 1 rfl) ?_
    refine lv_istore_n (lv' := [(2, .int ix), (0, .ref h0), (1, .int ix)]) hx hb dX1_rollByte_7 rfl hl (by decide) rfl (fun ls hl => ?_)
    refine lv_iconst (v := 0) hx hb dX1_rollByte_8 (by decide) ?_
    refine lv_istore_n (lv' := [(3, .int 0), (2, .int ix), (0, .ref h0), (1, .int ix)]) hx hb dX1_rollByte_9 rfl hl (by decide) rfl (fun ls hl => ?_)
    obtain ⟨i, hi⟩ : ∃ i : Nat, i = 0 := ⟨_, rfl⟩
    obtain ⟨left, hle⟩ : ∃ b : Int32, b = ix := ⟨_, rfl⟩
    replace hl : lv_has ls 5 [(3, .int (nI i)), (2, .int left), (0, .ref h0), (1, .int ix)] := by rw [hi, hle]; exact hl
    obtain ⟨k, hk⟩ : ∃ k : Nat, i + k = n := ⟨n - i, by omega⟩
    have hv : f_rollF n nu st de mk k i left = f_roll n nu st de mk ix := by rw [hi, hle, show k = n by omega]; simp only [f_roll, if_pos c1]
    clear hi hle
    induction k generalizing i ls left with
    | zero =>
      refine lv_iload_n hx hb dX1_rollByte_10 rfl (lv_at hl 0 rfl) ?_
      refine lv_aload_n hx hb dX1_rollByte_11 rfl (lv_at hl 2 rfl) ?_
      refine va_get (D := G.1) (ci := 2) (v := .int (nI n)) (C := RX1) (T := TX1) (N := 7) hx hb hts hiX1 hown hE.1 hP 0 rfl rfl 6 (by decide) (hts (.fieldLink RX1 33 "MeterSeals$Rows" "count" "I") (by decide +kernel)) (fun _ h9 => h9) rfl dX1_rollByte_12 ?_
      refine lv_icmp_ge (tgt := 49) hx hb dX1_rollByte_15 (by decide) (fun c15 => ?_) (fun c15 => absurd (nI_le (by omega) (by omega)) c15)
      refine lv_iconst (v := (-1)) hx hb dX1_rollByte_49 (by decide) ?_
      exact W.iret (v := (-1)) hx hb hr (fun t ht hW => ⟨_, rfl, by rw [← hv]; rfl, ht⟩) t_nil dX1_rollByte_50
    | succ k ih =>
      refine lv_iload_n hx hb dX1_rollByte_10 rfl (lv_at hl 0 rfl) ?_
      refine lv_aload_n hx hb dX1_rollByte_11 rfl (lv_at hl 2 rfl) ?_
      refine va_get (D := G.1) (ci := 2) (v := .int (nI n)) (C := RX1) (T := TX1) (N := 7) hx hb hts hiX1 hown hE.1 hP 0 rfl rfl 6 (by decide) (hts (.fieldLink RX1 33 "MeterSeals$Rows" "count" "I") (by decide +kernel)) (fun _ h9 => h9) rfl dX1_rollByte_12 ?_
      refine lv_icmp_ge (tgt := 49) hx hb dX1_rollByte_15 (by decide) (fun c15 => absurd c15 (nI_ge (by omega) (by omega))) (fun c15 => ?_)
      refine lv_aload_n hx hb dX1_rollByte_18 rfl (lv_at hl 2 rfl) ?_
      refine lv_iload_n hx hb dX1_rollByte_19 rfl (lv_at hl 0 rfl) ?_
      refine x_ri (va_runV (As := [.int (nI i)]) (rest := []) ⟨hx, hb, hml, hown, hts⟩ (ct_X1_lineLength l G h0 h1 h2 h3 h4 h5 key n nu st de su mk (nI i) hc) (cwV 1 hts gX1_rollByte_X1_lineLength rfl rfl rfl (by decide +kernel) ⟨Nat.le_of_ble_eq_true rfl, Nat.le_of_ble_eq_true rfl⟩) (RdP.preV 0 2 rfl rfl hP hE) rfl rfl hl.1 rfl (lv_room (Nat.le_of_ble_eq_true rfl)) dX1_rollByte_20 ⟨Nat.zero_le _, Nat.zero_le _⟩) (fun r1 er1 => ?_)
      subst er1
      refine lv_istore (lv' := [(4, .int (f_ll n nu st de mk (nI i))), (3, .int (nI i)), (2, .int left), (0, .ref h0), (1, .int ix)]) hx hb dX1_rollByte_23 hl (by decide) rfl (fun ls hl => ?_)
      refine lv_iload_n hx hb dX1_rollByte_25 rfl (lv_at hl 2 rfl) ?_
      refine lv_iload hx hb dX1_rollByte_26 (lv_at hl 0 rfl) ?_
      refine lv_icmp_ge (tgt := 38) hx hb dX1_rollByte_28 (by decide) (fun c28 => ?_) (fun c28 => ?_)
      · refine lv_iload_n hx hb dX1_rollByte_38 rfl (lv_at hl 2 rfl) ?_
        refine lv_iload hx hb dX1_rollByte_39 (lv_at hl 0 rfl) ?_
        refine lv_isub hx hb dX1_rollByte_41 ?_
        refine lv_istore_n (lv' := [(2, .int (left - (f_ll n nu st de mk (nI i)))), (4, .int (f_ll n nu st de mk (nI i))), (3, .int (nI i)), (0, .ref h0), (1, .int ix)]) hx hb dX1_rollByte_42 rfl hl (by decide) rfl (fun ls hl => ?_)
        refine lv_iinc (v := (nI (i + 1))) (lv' := [(3, .int (nI (i + 1))), (2, .int (left - (f_ll n nu st de mk (nI i)))), (4, .int (f_ll n nu st de mk (nI i))), (0, .ref h0), (1, .int ix)]) hx hb dX1_rollByte_43 hl (k := 2) rfl (nI_1 i) (by decide) rfl (fun ls hl => ?_)
        refine lv_goto (tgt := 10) hx hb dX1_rollByte_46 (by decide) ?_
        exact ih ls (i + 1) (left - (f_ll n nu st de mk (nI i))) (lv_sub hl [0, 1, 3, 4] rfl) (by omega) (by simpa only [f_rollF, if_pos c28] using hv)
      refine lv_aload_n hx hb dX1_rollByte_31 rfl (lv_at hl 3 rfl) ?_
      refine lv_iload_n hx hb dX1_rollByte_32 rfl (lv_at hl 1 rfl) ?_
      refine lv_iload_n hx hb dX1_rollByte_33 rfl (lv_at hl 2 rfl) ?_
      refine x_ri (va_runV (As := [.int (nI i), .int left]) (rest := []) ⟨hx, hb, hml, hown, hts⟩ (ct_X1_lineByte l G h0 h1 h2 h3 h4 h5 key n nu st de su mk (nI i) left hc) (cwV 2 hts gX1_rollByte_X1_lineByte rfl rfl rfl (by decide +kernel) ⟨Nat.le_of_ble_eq_true rfl, Nat.le_of_ble_eq_true rfl⟩) (RdP.preV 0 2 rfl rfl hP hE) rfl rfl hl.1 rfl (lv_room (Nat.le_of_ble_eq_true rfl)) dX1_rollByte_34 ⟨Nat.zero_le _, Nat.zero_le _⟩) (fun r2 er2 => ?_)
      subst er2
      exact W.iret (v := (f_lb n nu st de mk (nI i) left)) hx hb hr (fun t ht hW => ⟨_, rfl, by rw [← hv]; simp only [f_rollF, if_neg c28], ht⟩) t_nil dX1_rollByte_37
  refine lv_iconst (v := (-1)) hx hb dX1_rollByte_4 (by decide) ?_
  exact W.iret (v := (-1)) hx hb hr (fun t ht hW => ⟨_, rfl, by simp only [f_roll, if_neg c1], ht⟩) t_nil dX1_rollByte_5

set_option maxHeartbeats 4000000 in
set_option maxRecDepth 100000 in
/-- Table.put -/
theorem ct_X2_put (l : Launch) (G : Gx) (t0 t1 t2 t3 : Nat) (n : Nat) (ts : Nat → Int32) (ta tb : Nat → Int64) (d : Int32) (a b : Int64) (hc : n ≤ 16) : Met l yX2_put wsX2_put ({ frames := 1, cells := 0, slots := 0, locals := 25 }) (WrP G (wT G t0 t1 t2 t3 (nI n) ts ta tb) [.ref t0, .int d, .long a, .long b]) (va_Qi (fun r (u : va_W) => (f_put n ts d a b = 0 ∧ r = 0 ∧ u = wT G t0 t1 t2 t3 (nI n) ts ta tb) ∨ (f_put n ts d a b = 1 ∧ r = 1 ∧ u = wT G t0 t1 t2 t3 (f_max (nI n) (f_place n ts d + 1)) (upd ts (f_place n ts d).toNatClampNeg d) (vp_updL ta (f_place n ts d).toNatClampNeg a) (vp_updL tb (f_place n ts d).toNatClampNeg b))) (fun u t => va_P G.1 vwCl u t.heap) (adr (wT G t0 t1 t2 t3 (nI n) ts ta tb))) 0 0 (adr (wT G t0 t1 t2 t3 (nI n) ts ta tb)) := by
  refine Met.ofW (cc := cX2_put) (maxL := 8) (ret := (some .boolean)) (by decide) rfl ?_
  intro p e s m args below meth c s₁ B hml hv
  obtain ⟨rfl, hP, hE, hD0⟩ := hv
  have hx := B.exec
  have hb := B.bytes
  have hr := B.returns
  have hts := atoms_spec (ws := wsX2_put) B.pre
  have hown : s.vm.findClass RX2 = some m.cls := findClass_of_methodNamed B.named
  have hlocks := B.notSynchronized
  have hD : va_D (adr (wT G t0 t1 t2 t3 (nI n) ts ta tb)) (wT G t0 t1 t2 t3 (nI n) ts ta tb) := ⟨hD0.1, fun k q hk => ⟨k, q.2, hk⟩⟩
  generalize adr (wT G t0 t1 t2 t3 (nI n) ts ta tb) = A at hD ⊢
  have hS : va_S A s.heap s.heap [] := va_S.rf
  have hiX2 : ∀ w ∈ wsX20, w ∈ wsX2_put := by decide +kernel
  have hl := lv_entry ([.ref t0, .int d, .long a, .long b]) (n := 8) (Nat.le_of_ble_eq_true rfl)
  rw [lg_entry_eq]
  generalize (lg_sl ([.ref t0, .int d, .long a, .long b]) ++ List.replicate (8 - (lg_sl ([.ref t0, .int d, .long a, .long b])).length) Slot.unset).toArray = ls at hl ⊢
  replace hl : lv_has ls 8 [(0, .ref t0), (1, .int d), (2, .long a), (4, .long b)] := hl
  refine lv_iload_n hx hb dX2_put_0 rfl (lv_at hl 1 rfl) ?_
  refine lv_i2l (v := d.toInt64) hx hb dX2_put_1 rfl ?_
  refine lv_ldc2 (v := (-50)) hx hb hown (hts (.constantLong RX2 26 (-50)) (by decide +kernel)) dX2_put_2 ?_
  refine lv_ldc2 (v := 150) hx hb hown (hts (.constantLong RX2 28 150) (by decide +kernel)) dX2_put_5 ?_
  refine x_ri (va_runSN (As := [.long d.toInt64, .long (-50), .long 150]) (rest := []) ⟨hx, hb, hml, hown, hts⟩ (ct_X3_within l G d.toInt64 (-50) 150) ⟨va_cnB 3 hts gX2_put_X3_within_n30 rfl rfl rfl hE.2.1.2.2.2.2.2.2.2 (hts (.initialized RX3) (by decide +kernel)) (by decide +kernel) ⟨Nat.le_of_ble_eq_true rfl, Nat.le_of_ble_eq_true rfl⟩, hts (.static yX3_within) (by decide +kernel), trivial⟩ (RdP.preS (fun k q h => by simp at h) hE) rfl rfl hl.1 rfl (lv_room (Nat.le_of_ble_eq_true rfl)) dX2_put_8 ⟨Nat.zero_le _, Nat.zero_le _⟩) (fun r1 er1 => ?_)
  subst er1
  refine lv_if_eq (tgt := 41) hx hb dX2_put_11 (by decide) (fun c11 => ?_) (fun c11 => ?_)
  · refine lv_iconst (v := 0) hx hb dX2_put_41 (by decide) ?_
    refine lv_istore (lv' := [(6, .int 0), (0, .ref t0), (1, .int d), (2, .long a), (4, .long b)]) hx hb dX2_put_42 hl (by decide) rfl (fun ls hl => ?_)
    refine lv_aload_n hx hb dX2_put_44 rfl (lv_at hl 1 rfl) ?_
    refine lv_iload_n hx hb dX2_put_45 rfl (lv_at hl 2 rfl) ?_
    refine x_ri (va_runV (As := [.int d]) (rest := []) ⟨hx, hb, hml, hown, hts⟩ (ct_X2_placeFor l G t0 t1 t2 t3 n ts ta tb d hc) (cwV 1 hts gX2_put_X2_placeFor rfl rfl rfl (by decide +kernel) ⟨Nat.le_of_ble_eq_true rfl, Nat.le_of_ble_eq_true rfl⟩) (RdP.preV 0 3 rfl rfl hP hE) rfl rfl hl.1 rfl (lv_room (Nat.le_of_ble_eq_true rfl)) dX2_put_46 ⟨Nat.zero_le _, Nat.zero_le _⟩) (fun r2 er2 => ?_)
    subst er2
    refine lv_istore (lv' := [(7, .int (f_place n ts d)), (6, .int 0), (0, .ref t0), (1, .int d), (2, .long a), (4, .long b)]) hx hb dX2_put_49 hl (by decide) rfl (fun ls hl => ?_)
    refine lv_iload hx hb dX2_put_51 (lv_at hl 1 rfl) ?_
    refine lv_if_eq (tgt := 63) hx hb dX2_put_53 (by decide) (fun c53 => ?_) (fun c53 => absurd c53 (by decide))
    refine lv_iconst (v := 0) hx hb dX2_put_63 (by decide) ?_
    exact W.zret (v := 0) hx hb hr (zb (Or.inl rfl)) (fun tZ hZ hW => ⟨⟨0, wT G t0 t1 t2 t3 (nI n) ts ta tb, rfl, Or.inl ⟨by simp only [f_put, if_pos c11], rfl, rfl⟩, by show va_P _ _ _ tZ.heap; rw [hZ]; exact hP⟩, hS.F hZ⟩) hS.2.2 dX2_put_64
  refine lv_lload_n hx hb dX2_put_14 rfl (lv_at hl 2 rfl) ?_
  refine lv_lconst (v := 1) hx hb dX2_put_15 (by decide) ?_
  refine lv_ldc2 (v := 10000) hx hb hown (hts (.constantLong RX2 34 10000) (by decide +kernel)) dX2_put_16 ?_
  refine x_ri (va_runSN (As := [.long a, .long 1, .long 10000]) (rest := []) ⟨hx, hb, hml, hown, hts⟩ (ct_X3_within l G a 1 10000) ⟨va_cnB 3 hts gX2_put_X3_within_n30 rfl rfl rfl hE.2.1.2.2.2.2.2.2.2 (hts (.initialized RX3) (by decide +kernel)) (by decide +kernel) ⟨Nat.le_of_ble_eq_true rfl, Nat.le_of_ble_eq_true rfl⟩, hts (.static yX3_within) (by decide +kernel), trivial⟩ (RdP.preS (fun k q h => by simp at h) hE) rfl rfl hl.1 rfl (lv_room (Nat.le_of_ble_eq_true rfl)) dX2_put_19 ⟨Nat.zero_le _, Nat.zero_le _⟩) (fun r3 er3 => ?_)
  subst er3
  refine lv_if_eq (tgt := 41) hx hb dX2_put_22 (by decide) (fun c22 => ?_) (fun c22 => ?_)
  · refine lv_iconst (v := 0) hx hb dX2_put_41 (by decide) ?_
    refine lv_istore (lv' := [(6, .int 0), (0, .ref t0), (1, .int d), (2, .long a), (4, .long b)]) hx hb dX2_put_42 hl (by decide) rfl (fun ls hl => ?_)
    refine lv_aload_n hx hb dX2_put_44 rfl (lv_at hl 1 rfl) ?_
    refine lv_iload_n hx hb dX2_put_45 rfl (lv_at hl 2 rfl) ?_
    refine x_ri (va_runV (As := [.int d]) (rest := []) ⟨hx, hb, hml, hown, hts⟩ (ct_X2_placeFor l G t0 t1 t2 t3 n ts ta tb d hc) (cwV 1 hts gX2_put_X2_placeFor rfl rfl rfl (by decide +kernel) ⟨Nat.le_of_ble_eq_true rfl, Nat.le_of_ble_eq_true rfl⟩) (RdP.preV 0 3 rfl rfl hP hE) rfl rfl hl.1 rfl (lv_room (Nat.le_of_ble_eq_true rfl)) dX2_put_46 ⟨Nat.zero_le _, Nat.zero_le _⟩) (fun r4 er4 => ?_)
    subst er4
    refine lv_istore (lv' := [(7, .int (f_place n ts d)), (6, .int 0), (0, .ref t0), (1, .int d), (2, .long a), (4, .long b)]) hx hb dX2_put_49 hl (by decide) rfl (fun ls hl => ?_)
    refine lv_iload hx hb dX2_put_51 (lv_at hl 1 rfl) ?_
    refine lv_if_eq (tgt := 63) hx hb dX2_put_53 (by decide) (fun c53 => ?_) (fun c53 => absurd c53 (by decide))
    refine lv_iconst (v := 0) hx hb dX2_put_63 (by decide) ?_
    exact W.zret (v := 0) hx hb hr (zb (Or.inl rfl)) (fun tZ hZ hW => ⟨⟨0, wT G t0 t1 t2 t3 (nI n) ts ta tb, rfl, Or.inl ⟨by simp only [f_put, if_neg c11, if_pos c22], rfl, rfl⟩, by show va_P _ _ _ tZ.heap; rw [hZ]; exact hP⟩, hS.F hZ⟩) hS.2.2 dX2_put_64
  refine lv_lload hx hb dX2_put_25 (lv_at hl 3 rfl) ?_
  refine lv_lconst (v := 1) hx hb dX2_put_27 (by decide) ?_
  refine lv_ldc2 (v := 10000) hx hb hown (hts (.constantLong RX2 34 10000) (by decide +kernel)) dX2_put_28 ?_
  refine x_ri (va_runSN (As := [.long b, .long 1, .long 10000]) (rest := []) ⟨hx, hb, hml, hown, hts⟩ (ct_X3_within l G b 1 10000) ⟨va_cnB 3 hts gX2_put_X3_within_n30 rfl rfl rfl hE.2.1.2.2.2.2.2.2.2 (hts (.initialized RX3) (by decide +kernel)) (by decide +kernel) ⟨Nat.le_of_ble_eq_true rfl, Nat.le_of_ble_eq_true rfl⟩, hts (.static yX3_within) (by decide +kernel), trivial⟩ (RdP.preS (fun k q h => by simp at h) hE) rfl rfl hl.1 rfl (lv_room (Nat.le_of_ble_eq_true rfl)) dX2_put_31 ⟨Nat.zero_le _, Nat.zero_le _⟩) (fun r5 er5 => ?_)
  subst er5
  refine lv_if_eq (tgt := 41) hx hb dX2_put_34 (by decide) (fun c34 => ?_) (fun c34 => ?_)
  · refine lv_iconst (v := 0) hx hb dX2_put_41 (by decide) ?_
    refine lv_istore (lv' := [(6, .int 0), (0, .ref t0), (1, .int d), (2, .long a), (4, .long b)]) hx hb dX2_put_42 hl (by decide) rfl (fun ls hl => ?_)
    refine lv_aload_n hx hb dX2_put_44 rfl (lv_at hl 1 rfl) ?_
    refine lv_iload_n hx hb dX2_put_45 rfl (lv_at hl 2 rfl) ?_
    refine x_ri (va_runV (As := [.int d]) (rest := []) ⟨hx, hb, hml, hown, hts⟩ (ct_X2_placeFor l G t0 t1 t2 t3 n ts ta tb d hc) (cwV 1 hts gX2_put_X2_placeFor rfl rfl rfl (by decide +kernel) ⟨Nat.le_of_ble_eq_true rfl, Nat.le_of_ble_eq_true rfl⟩) (RdP.preV 0 3 rfl rfl hP hE) rfl rfl hl.1 rfl (lv_room (Nat.le_of_ble_eq_true rfl)) dX2_put_46 ⟨Nat.zero_le _, Nat.zero_le _⟩) (fun r6 er6 => ?_)
    subst er6
    refine lv_istore (lv' := [(7, .int (f_place n ts d)), (6, .int 0), (0, .ref t0), (1, .int d), (2, .long a), (4, .long b)]) hx hb dX2_put_49 hl (by decide) rfl (fun ls hl => ?_)
    refine lv_iload hx hb dX2_put_51 (lv_at hl 1 rfl) ?_
    refine lv_if_eq (tgt := 63) hx hb dX2_put_53 (by decide) (fun c53 => ?_) (fun c53 => absurd c53 (by decide))
    refine lv_iconst (v := 0) hx hb dX2_put_63 (by decide) ?_
    exact W.zret (v := 0) hx hb hr (zb (Or.inl rfl)) (fun tZ hZ hW => ⟨⟨0, wT G t0 t1 t2 t3 (nI n) ts ta tb, rfl, Or.inl ⟨by simp only [f_put, if_neg c11, if_neg c22, if_pos c34], rfl, rfl⟩, by show va_P _ _ _ tZ.heap; rw [hZ]; exact hP⟩, hS.F hZ⟩) hS.2.2 dX2_put_64
  refine lv_iconst (v := 1) hx hb dX2_put_37 (by decide) ?_
  refine lv_goto (tgt := 42) hx hb dX2_put_38 (by decide) ?_
  refine lv_istore (lv' := [(6, .int 1), (0, .ref t0), (1, .int d), (2, .long a), (4, .long b)]) hx hb dX2_put_42 hl (by decide) rfl (fun ls hl => ?_)
  refine lv_aload_n hx hb dX2_put_44 rfl (lv_at hl 1 rfl) ?_
  refine lv_iload_n hx hb dX2_put_45 rfl (lv_at hl 2 rfl) ?_
  refine x_ri (va_runV (As := [.int d]) (rest := []) ⟨hx, hb, hml, hown, hts⟩ (ct_X2_placeFor l G t0 t1 t2 t3 n ts ta tb d hc) (cwV 1 hts gX2_put_X2_placeFor rfl rfl rfl (by decide +kernel) ⟨Nat.le_of_ble_eq_true rfl, Nat.le_of_ble_eq_true rfl⟩) (RdP.preV 0 3 rfl rfl hP hE) rfl rfl hl.1 rfl (lv_room (Nat.le_of_ble_eq_true rfl)) dX2_put_46 ⟨Nat.zero_le _, Nat.zero_le _⟩) (fun r7 er7 => ?_)
  subst er7
  refine lv_istore (lv' := [(7, .int (f_place n ts d)), (6, .int 1), (0, .ref t0), (1, .int d), (2, .long a), (4, .long b)]) hx hb dX2_put_49 hl (by decide) rfl (fun ls hl => ?_)
  refine lv_iload hx hb dX2_put_51 (lv_at hl 1 rfl) ?_
  refine lv_if_eq (tgt := 63) hx hb dX2_put_53 (by decide) (fun c53 => absurd c53 (by decide)) (fun c53 => ?_)
  refine lv_iload hx hb dX2_put_56 (lv_at hl 0 rfl) ?_
  refine lv_bipush (v := 16) hx hb dX2_put_58 (by decide) ?_
  refine lv_icmp_lt (tgt := 65) hx hb dX2_put_60 (by decide) (fun c60 => ?_) (fun c60 => ?_)
  · refine lv_aload_n hx hb dX2_put_65 rfl (lv_at hl 2 rfl) ?_
    refine va_get (D := G.1) (ci := 3) (v := .ref t1) (C := RX2) (T := TX2) (N := 4) hx hb hts hiX2 hown hE.1 hP 0 rfl rfl 0 (by decide) (hts (.fieldLink RX2 9 "MeterSeals$Table" "starts" "[I") (by decide +kernel)) (fun _ h9 => h9) rfl dX2_put_66 ?_
    refine lv_iload hx hb dX2_put_69 (lv_at hl 0 rfl) ?_
    refine lv_iload_n hx hb dX2_put_71 rfl (lv_at hl 3 rfl) ?_
    refine va_iast hx hb hE.1 hP hD hS 1 0 rfl rfl (place_in hc c60) dX2_put_72 (fun H locs hP hD hS => ?_)
    replace hP : va_P G.1 vwCl (wT G t0 t1 t2 t3 (nI n) (upd ts (f_place n ts d).toNatClampNeg d) ta tb) H := hP
    replace hD : va_D A (wT G t0 t1 t2 t3 (nI n) (upd ts (f_place n ts d).toNatClampNeg d) ta tb) := hD
    refine lv_aload_n hx hb dX2_put_73 rfl (lv_at hl 2 rfl) ?_
    refine va_get (D := G.1) (ci := 3) (v := .ref t2) (C := RX2) (T := TX2) (N := 4) hx hb hts hiX2 hown hE.1 hP 0 rfl rfl 1 (by decide) (hts (.fieldLink RX2 15 "MeterSeals$Table" "aboves" "[J") (by decide +kernel)) (fun _ h9 => h9) rfl dX2_put_74 ?_
    refine lv_iload hx hb dX2_put_77 (lv_at hl 0 rfl) ?_
    refine lv_lload_n hx hb dX2_put_79 rfl (lv_at hl 4 rfl) ?_
    refine va_last hx hb hE.1 hP hD hS 2 1 rfl rfl (place_in hc c60) dX2_put_80 (fun H locs hP hD hS => ?_)
    replace hP : va_P G.1 vwCl (wT G t0 t1 t2 t3 (nI n) (upd ts (f_place n ts d).toNatClampNeg d) (vp_updL ta (f_place n ts d).toNatClampNeg a) tb) H := hP
    replace hD : va_D A (wT G t0 t1 t2 t3 (nI n) (upd ts (f_place n ts d).toNatClampNeg d) (vp_updL ta (f_place n ts d).toNatClampNeg a) tb) := hD
    refine lv_aload_n hx hb dX2_put_81 rfl (lv_at hl 2 rfl) ?_
    refine va_get (D := G.1) (ci := 3) (v := .ref t3) (C := RX2) (T := TX2) (N := 4) hx hb hts hiX2 hown hE.1 hP 0 rfl rfl 2 (by decide) (hts (.fieldLink RX2 19 "MeterSeals$Table" "belows" "[J") (by decide +kernel)) (fun _ h9 => h9) rfl dX2_put_82 ?_
    refine lv_iload hx hb dX2_put_85 (lv_at hl 0 rfl) ?_
    refine lv_lload hx hb dX2_put_87 (lv_at hl 5 rfl) ?_
    refine va_last hx hb hE.1 hP hD hS 3 1 rfl rfl (place_in hc c60) dX2_put_89 (fun H locs hP hD hS => ?_)
    replace hP : va_P G.1 vwCl (wT G t0 t1 t2 t3 (nI n) (upd ts (f_place n ts d).toNatClampNeg d) (vp_updL ta (f_place n ts d).toNatClampNeg a) (vp_updL tb (f_place n ts d).toNatClampNeg b)) H := hP
    replace hD : va_D A (wT G t0 t1 t2 t3 (nI n) (upd ts (f_place n ts d).toNatClampNeg d) (vp_updL ta (f_place n ts d).toNatClampNeg a) (vp_updL tb (f_place n ts d).toNatClampNeg b)) := hD
    refine lv_aload_n hx hb dX2_put_90 rfl (lv_at hl 2 rfl) ?_
    refine lv_aload_n hx hb dX2_put_91 rfl (lv_at hl 2 rfl) ?_
    refine va_get (D := G.1) (ci := 3) (v := .int (nI n)) (C := RX2) (T := TX2) (N := 4) hx hb hts hiX2 hown hE.1 hP 0 rfl rfl 3 (by decide) (hts (.fieldLink RX2 22 "MeterSeals$Table" "count" "I") (by decide +kernel)) (fun _ h9 => h9) rfl dX2_put_92 ?_
    refine lv_iload hx hb dX2_put_95 (lv_at hl 0 rfl) ?_
    refine lv_iconst (v := 1) hx hb dX2_put_97 (by decide) ?_
    refine lv_iadd hx hb dX2_put_98 ?_
    refine va_mmax hx hb (hml.trans hl.1.symm) hown (hts (.methodLink RX2 40 Lib.Math.max.name) (by decide +kernel)) (hts (.static Lib.Math.max.name) (by decide +kernel)) (hts (.initialized "java/lang/Math") (by decide +kernel)) (hts (.code Lib.Math.max.name Lib.Math.max.code 2 (some .int)) (by decide +kernel)) (Nat.le_of_ble_eq_true rfl) (Nat.le_of_ble_eq_true rfl) (Nat.zero_le _) (Nat.zero_le _) dX2_put_99 ?_
    refine va_put (D := G.1) (ci := 3) (v := .int (if (nI n) < ((f_place n ts d) + 1) then ((f_place n ts d) + 1) else (nI n))) (ty := .int) (C := RX2) (T := TX2) (N := 4) hx hb hts hiX2 tyX2 tyX2_ok nmX2 hown hE.1 hP hD hS 0 rfl rfl 3 (by decide) (hts (.fieldLink RX2 22 "MeterSeals$Table" "count" "I") (by decide +kernel)) (fun _ h9 => h9) rfl (by decide +kernel) rfl rfl (Nat.le_of_ble_eq_true rfl) dX2_put_102 (fun H locs hP hD hS => ?_)
    replace hP : va_P G.1 vwCl (wT G t0 t1 t2 t3 (if (nI n) < ((f_place n ts d) + 1) then ((f_place n ts d) + 1) else (nI n)) (upd ts (f_place n ts d).toNatClampNeg d) (vp_updL ta (f_place n ts d).toNatClampNeg a) (vp_updL tb (f_place n ts d).toNatClampNeg b)) H := hP
    replace hD : va_D A (wT G t0 t1 t2 t3 (if (nI n) < ((f_place n ts d) + 1) then ((f_place n ts d) + 1) else (nI n)) (upd ts (f_place n ts d).toNatClampNeg d) (vp_updL ta (f_place n ts d).toNatClampNeg a) (vp_updL tb (f_place n ts d).toNatClampNeg b)) := hD
    refine lv_iconst (v := 1) hx hb dX2_put_105 (by decide) ?_
    exact W.zret (v := 1) hx hb hr (zb (Or.inr rfl)) (fun tZ hZ hW => ⟨⟨1, wT G t0 t1 t2 t3 (if (nI n) < ((f_place n ts d) + 1) then ((f_place n ts d) + 1) else (nI n)) (upd ts (f_place n ts d).toNatClampNeg d) (vp_updL ta (f_place n ts d).toNatClampNeg a) (vp_updL tb (f_place n ts d).toNatClampNeg b), rfl, Or.inr ⟨by simp only [f_put, if_neg c11, if_neg c22, if_neg c34, if_pos c60], rfl, rfl⟩, by show va_P _ _ _ tZ.heap; rw [hZ]; exact hP⟩, hS.F hZ⟩) hS.2.2 dX2_put_106
  refine lv_iconst (v := 0) hx hb dX2_put_63 (by decide) ?_
  exact W.zret (v := 0) hx hb hr (zb (Or.inl rfl)) (fun tZ hZ hW => ⟨⟨0, wT G t0 t1 t2 t3 (nI n) ts ta tb, rfl, Or.inl ⟨by simp only [f_put, if_neg c11, if_neg c22, if_neg c34, if_neg c60], rfl, rfl⟩, by show va_P _ _ _ tZ.heap; rw [hZ]; exact hP⟩, hS.F hZ⟩) hS.2.2 dX2_put_64
