set_option maxHeartbeats 4000000 in
set_option maxRecDepth 100000 in
/-- placeFor -/
theorem ct_X2_placeFor (l : Launch) (G : Gx) (t0 t1 t2 t3 : Nat) (n : Nat) (ts : Nat → Int32) (ta tb : Nat → Int64) (d : Int32) (hc : n ≤ 16) : Met l yX2_placeFor wsX2_placeFor ({ frames := 0, cells := 0, slots := 0, locals := 0 }) (RdP G (wT G t0 t1 t2 t3 (nI n) ts ta tb) [.ref t0, .int d]) (vp_Si (fun r => r = f_place n ts d)) 0 0 (fun _ => False) := by
  refine Met.ofW (cc := cX2_placeFor) (maxL := 3) (ret := (some .int)) (by decide) rfl ?_
  intro p e s m args below meth c s₁ B hml hv
  obtain ⟨rfl, hP, hE⟩ := hv
  have hx := B.exec
  have hb := B.bytes
  have hr := B.returns
  have hts := atoms_spec (ws := wsX2_placeFor) B.pre
  have hown : s.vm.findClass RX2 = some m.cls := findClass_of_methodNamed B.named
  have hlocks := B.notSynchronized
  have hiX2 : ∀ w ∈ wsX20, w ∈ wsX2_placeFor := by decide +kernel
  have hl := lv_entry ([.ref t0, .int d]) (n := 3) (Nat.le_of_ble_eq_true rfl)
  rw [lg_entry_eq]
  generalize (lg_sl ([.ref t0, .int d]) ++ List.replicate (3 - (lg_sl ([.ref t0, .int d])).length) Slot.unset).toArray = ls at hl ⊢
  replace hl : lv_has ls 3 [(0, .ref t0), (1, .int d)] := hl
  refine lv_iconst (v := 0) hx hb dX2_placeFor_0 (by decide) ?_
  refine lv_istore_n (lv' := [(2, .int 0), (0, .ref t0), (1, .int d)]) hx hb dX2_placeFor_1 rfl hl (by decide) rfl (fun ls hl => ?_)
  obtain ⟨i, hi⟩ : ∃ i : Nat, i = 0 := ⟨_, rfl⟩
  replace hl : lv_has ls 3 [(2, .int (nI i)), (0, .ref t0), (1, .int d)] := by rw [hi]; exact hl
  obtain ⟨k, hk⟩ : ∃ k : Nat, i + k = n := ⟨n - i, by omega⟩
  have hv : f_placeF n ts d k i = f_place n ts d := by rw [f_place, hi, show k = n by omega]
  clear hi
  induction k generalizing i ls with
  | zero =>
    have hk : i = n := hk
    refine lv_iload_n hx hb dX2_placeFor_2 rfl (lv_at hl 0 rfl) ?_
    refine lv_aload_n hx hb dX2_placeFor_3 rfl (lv_at hl 1 rfl) ?_
    refine va_get (D := G.1) (ci := 3) (v := .int (nI n)) (C := RX2) (T := TX2) (N := 4) hx hb hts hiX2 hown hE.1 hP 0 rfl rfl 3 (by decide) (hts (.fieldLink RX2 22 "MeterSeals$Table" "count" "I") (by decide +kernel)) (fun _ h9 => h9) rfl dX2_placeFor_4 ?_
    refine lv_icmp_ge (tgt := 28) hx hb dX2_placeFor_7 (by decide) (fun c7 => ?_) (fun c7 => absurd (nI_le (by omega) (by omega)) c7)
    refine lv_aload_n hx hb dX2_placeFor_28 rfl (lv_at hl 1 rfl) ?_
    refine va_get (D := G.1) (ci := 3) (v := .int (nI n)) (C := RX2) (T := TX2) (N := 4) hx hb hts hiX2 hown hE.1 hP 0 rfl rfl 3 (by decide) (hts (.fieldLink RX2 22 "MeterSeals$Table" "count" "I") (by decide +kernel)) (fun _ h9 => h9) rfl dX2_placeFor_29 ?_
    exact W.iret (v := (nI n)) hx hb hr (fun t ht hW => ⟨_, rfl, by rw [← hv]; rfl, ht⟩) t_nil dX2_placeFor_32
  | succ k ih =>
    refine lv_iload_n hx hb dX2_placeFor_2 rfl (lv_at hl 0 rfl) ?_
    refine lv_aload_n hx hb dX2_placeFor_3 rfl (lv_at hl 1 rfl) ?_
    refine va_get (D := G.1) (ci := 3) (v := .int (nI n)) (C := RX2) (T := TX2) (N := 4) hx hb hts hiX2 hown hE.1 hP 0 rfl rfl 3 (by decide) (hts (.fieldLink RX2 22 "MeterSeals$Table" "count" "I") (by decide +kernel)) (fun _ h9 => h9) rfl dX2_placeFor_4 ?_
    refine lv_icmp_ge (tgt := 28) hx hb dX2_placeFor_7 (by decide) (fun c7 => absurd c7 (nI_ge (by omega) (by omega))) (fun c7 => ?_)
    refine lv_aload_n hx hb dX2_placeFor_10 rfl (lv_at hl 1 rfl) ?_
    refine va_get (D := G.1) (ci := 3) (v := .ref t1) (C := RX2) (T := TX2) (N := 4) hx hb hts hiX2 hown hE.1 hP 0 rfl rfl 0 (by decide) (hts (.fieldLink RX2 9 "MeterSeals$Table" "starts" "[I") (by decide +kernel)) (fun _ h9 => h9) rfl dX2_placeFor_11 ?_
    refine lv_iload_n hx hb dX2_placeFor_14 rfl (lv_at hl 0 rfl) ?_
    refine va_iald hx hb hE.1 hP 1 0 rfl rfl (vp_in_nI (show i < 16 by omega) (by decide)) dX2_placeFor_15 ?_
    rw [nI_clamp (show i < 2 ^ 31 by omega)]
    refine lv_iload_n hx hb dX2_placeFor_16 rfl (lv_at hl 2 rfl) ?_
    refine lv_icmp_ne (tgt := 22) hx hb dX2_placeFor_17 (by decide) (fun c17 => ?_) (fun c17 => ?_)
    · refine lv_iinc (v := (nI (i + 1))) (lv' := [(2, .int (nI (i + 1))), (0, .ref t0), (1, .int d)]) hx hb dX2_placeFor_22 hl (k := 0) rfl (nI_1 i) (by decide) rfl (fun ls hl => ?_)
      refine lv_goto (tgt := 2) hx hb dX2_placeFor_25 (by decide) ?_
      exact ih ls (i + 1) (lv_sub hl [0, 1, 2] rfl) (by omega) (by simpa only [f_placeF, if_neg c17] using hv)
    refine lv_iload_n hx hb dX2_placeFor_20 rfl (lv_at hl 0 rfl) ?_
    exact W.iret (v := (nI i)) hx hb hr (fun t ht hW => ⟨_, rfl, by rw [← hv]; simp only [f_placeF, if_pos c17], ht⟩) t_nil dX2_placeFor_21

set_option maxHeartbeats 4000000 in
set_option maxRecDepth 100000 in
/-- lineAt -/
theorem ct_X2_lineAt (l : Launch) (G : Gx) (t0 t1 t2 t3 : Nat) (n : Nat) (ts : Nat → Int32) (ta tb : Nat → Int64) (d : Int32) (hc : n ≤ 16) : Met l yX2_lineAt wsX2_lineAt ({ frames := 1, cells := 0, slots := 0, locals := 22 }) (RdP G (wT G t0 t1 t2 t3 (nI n) ts ta tb) [.ref t0, .int d]) (vp_Si (fun r => r = f_best n ts d)) 0 0 (fun _ => False) := by
  refine Met.ofW (cc := cX2_lineAt) (maxL := 4) (ret := (some .int)) (by decide) rfl ?_
  intro p e s m args below meth c s₁ B hml hv
  obtain ⟨rfl, hP, hE⟩ := hv
  have hx := B.exec
  have hb := B.bytes
  have hr := B.returns
  have hts := atoms_spec (ws := wsX2_lineAt) B.pre
  have hown : s.vm.findClass RX2 = some m.cls := findClass_of_methodNamed B.named
  have hlocks := B.notSynchronized
  have hiX2 : ∀ w ∈ wsX20, w ∈ wsX2_lineAt := by decide +kernel
  have hl := lv_entry ([.ref t0, .int d]) (n := 4) (Nat.le_of_ble_eq_true rfl)
  rw [lg_entry_eq]
  generalize (lg_sl ([.ref t0, .int d]) ++ List.replicate (4 - (lg_sl ([.ref t0, .int d])).length) Slot.unset).toArray = ls at hl ⊢
  replace hl : lv_has ls 4 [(0, .ref t0), (1, .int d)] := hl
  refine lv_iconst (v := (-1)) hx hb dX2_lineAt_0 (by decide) ?_
  refine lv_istore_n (lv' := [(2, .int (-1)), (0, .ref t0), (1, .int d)]) hx hb dX2_lineAt_1 rfl hl (by decide) rfl (fun ls hl => ?_)
  refine lv_iconst (v := 0) hx hb dX2_lineAt_2 (by decide) ?_
  refine lv_istore_n (lv' := [(3, .int 0), (2, .int (-1)), (0, .ref t0), (1, .int d)]) hx hb dX2_lineAt_3 rfl hl (by decide) rfl (fun ls hl => ?_)
  obtain ⟨i, hi⟩ : ∃ i : Nat, i = 0 := ⟨_, rfl⟩
  obtain ⟨best, hbe⟩ : ∃ b : Int32, b = -1 := ⟨_, rfl⟩
  replace hl : lv_has ls 4 [(3, .int (nI i)), (2, .int best), (0, .ref t0), (1, .int d)] := by rw [hi, hbe]; exact hl
  have hB : best = -1 ∨ ∃ j : Nat, j < i ∧ best = nI j := Or.inl hbe
  obtain ⟨k, hk⟩ : ∃ k : Nat, i + k = n := ⟨n - i, by omega⟩
  have hv : f_bestF ts d k i best = f_best n ts d := by rw [f_best, hi, hbe, show k = n by omega]
  clear hi hbe
  induction k generalizing i ls best with
  | zero =>
    refine lv_iload_n hx hb dX2_lineAt_4 rfl (lv_at hl 0 rfl) ?_
    refine lv_aload_n hx hb dX2_lineAt_5 rfl (lv_at hl 2 rfl) ?_
    refine va_get (D := G.1) (ci := 3) (v := .int (nI n)) (C := RX2) (T := TX2) (N := 4) hx hb hts hiX2 hown hE.1 hP 0 rfl rfl 3 (by decide) (hts (.fieldLink RX2 22 "MeterSeals$Table" "count" "I") (by decide +kernel)) (fun _ h9 => h9) rfl dX2_lineAt_6 ?_
    refine lv_icmp_ge (tgt := 44) hx hb dX2_lineAt_9 (by decide) (fun c9 => ?_) (fun c9 => absurd (nI_le (by omega) (by omega)) c9)
    refine lv_iload_n hx hb dX2_lineAt_44 rfl (lv_at hl 1 rfl) ?_
    exact W.iret (v := best) hx hb hr (fun t ht hW => ⟨_, rfl, by rw [← hv]; rfl, ht⟩) t_nil dX2_lineAt_45
  | succ k ih =>
    refine lv_iload_n hx hb dX2_lineAt_4 rfl (lv_at hl 0 rfl) ?_
    refine lv_aload_n hx hb dX2_lineAt_5 rfl (lv_at hl 2 rfl) ?_
    refine va_get (D := G.1) (ci := 3) (v := .int (nI n)) (C := RX2) (T := TX2) (N := 4) hx hb hts hiX2 hown hE.1 hP 0 rfl rfl 3 (by decide) (hts (.fieldLink RX2 22 "MeterSeals$Table" "count" "I") (by decide +kernel)) (fun _ h9 => h9) rfl dX2_lineAt_6 ?_
    refine lv_icmp_ge (tgt := 44) hx hb dX2_lineAt_9 (by decide) (fun c9 => absurd c9 (nI_ge (by omega) (by omega))) (fun c9 => ?_)
    refine lv_iload_n hx hb dX2_lineAt_12 rfl (lv_at hl 1 rfl) ?_
    refine lv_iconst (v := (-1)) hx hb dX2_lineAt_13 (by decide) ?_
    refine lv_icmp_eq (tgt := 36) hx hb dX2_lineAt_14 (by decide) (fun c14 => ?_) (fun c14 => ?_)
    · refine lv_iload_n hx hb dX2_lineAt_36 rfl (lv_at hl 0 rfl) ?_
      refine lv_istore_n (lv' := [(2, .int (nI i)), (3, .int (nI i)), (0, .ref t0), (1, .int d)]) hx hb dX2_lineAt_37 rfl hl (by decide) rfl (fun ls hl => ?_)
      refine lv_iinc (v := (nI (i + 1))) (lv' := [(3, .int (nI (i + 1))), (2, .int (nI i)), (0, .ref t0), (1, .int d)]) hx hb dX2_lineAt_38 hl (k := 1) rfl (nI_1 i) (by decide) rfl (fun ls hl => ?_)
      refine lv_goto (tgt := 4) hx hb dX2_lineAt_41 (by decide) ?_
      exact ih ls (i + 1) (nI i) (lv_sub hl [0, 1, 2, 3] rfl) (Or.inr ⟨i, by omega, rfl⟩) (by omega) (by simpa only [f_bestF, if_pos c14] using hv)
    refine lv_aload_n hx hb dX2_lineAt_17 rfl (lv_at hl 2 rfl) ?_
    refine va_get (D := G.1) (ci := 3) (v := .ref t1) (C := RX2) (T := TX2) (N := 4) hx hb hts hiX2 hown hE.1 hP 0 rfl rfl 0 (by decide) (hts (.fieldLink RX2 9 "MeterSeals$Table" "starts" "[I") (by decide +kernel)) (fun _ h9 => h9) rfl dX2_lineAt_18 ?_
    refine lv_iload_n hx hb dX2_lineAt_21 rfl (lv_at hl 0 rfl) ?_
    refine va_iald hx hb hE.1 hP 1 0 rfl rfl (vp_in_nI (show i < 16 by omega) (by decide)) dX2_lineAt_22 ?_
    rw [nI_clamp (show i < 2 ^ 31 by omega)]
    refine lv_aload_n hx hb dX2_lineAt_23 rfl (lv_at hl 2 rfl) ?_
    refine va_get (D := G.1) (ci := 3) (v := .ref t1) (C := RX2) (T := TX2) (N := 4) hx hb hts hiX2 hown hE.1 hP 0 rfl rfl 0 (by decide) (hts (.fieldLink RX2 9 "MeterSeals$Table" "starts" "[I") (by decide +kernel)) (fun _ h9 => h9) rfl dX2_lineAt_24 ?_
    refine lv_iload_n hx hb dX2_lineAt_27 rfl (lv_at hl 1 rfl) ?_
    refine va_iald hx hb hE.1 hP 1 0 rfl rfl (best_in hB c14 (by omega)) dX2_lineAt_28 ?_
    refine lv_iload_n hx hb dX2_lineAt_29 rfl (lv_at hl 3 rfl) ?_
    refine x_ri (va_runS (As := [.int (ts i), .int (ts best.toNatClampNeg), .int d]) (rest := []) ⟨hx, hb, hml, hown, hts⟩ (ct_X2_goesBefore l G (ts i) (ts best.toNatClampNeg) d) (va_cwS 3 hts gX2_lineAt_X2_goesBefore rfl rfl rfl (by decide +kernel) ⟨Nat.le_of_ble_eq_true rfl, Nat.le_of_ble_eq_true rfl⟩) (RdP.preS (fun k q h => by simp at h) hE) rfl rfl hl.1 rfl (lv_room (Nat.le_of_ble_eq_true rfl)) dX2_lineAt_30 ⟨Nat.zero_le _, Nat.zero_le _⟩) (fun r1 er1 => ?_)
    subst er1
    refine lv_if_eq (tgt := 38) hx hb dX2_lineAt_33 (by decide) (fun c33 => ?_) (fun c33 => ?_)
    · refine lv_iinc (v := (nI (i + 1))) (lv' := [(3, .int (nI (i + 1))), (2, .int best), (0, .ref t0), (1, .int d)]) hx hb dX2_lineAt_38 hl (k := 0) rfl (nI_1 i) (by decide) rfl (fun ls hl => ?_)
      refine lv_goto (tgt := 4) hx hb dX2_lineAt_41 (by decide) ?_
      exact ih ls (i + 1) best (lv_sub hl [0, 1, 2, 3] rfl) (hB.imp id (fun ⟨j, h1, h2⟩ => ⟨j, by omega, h2⟩)) (by omega) (by simpa only [f_bestF, if_neg c14, if_pos c33] using hv)
    refine lv_iload_n hx hb dX2_lineAt_36 rfl (lv_at hl 0 rfl) ?_
    refine lv_istore_n (lv' := [(2, .int (nI i)), (3, .int (nI i)), (0, .ref t0), (1, .int d)]) hx hb dX2_lineAt_37 rfl hl (by decide) rfl (fun ls hl => ?_)
    refine lv_iinc (v := (nI (i + 1))) (lv' := [(3, .int (nI (i + 1))), (2, .int (nI i)), (0, .ref t0), (1, .int d)]) hx hb dX2_lineAt_38 hl (k := 1) rfl (nI_1 i) (by decide) rfl (fun ls hl => ?_)
    refine lv_goto (tgt := 4) hx hb dX2_lineAt_41 (by decide) ?_
    exact ih ls (i + 1) (nI i) (lv_sub hl [0, 1, 2, 3] rfl) (Or.inr ⟨i, by omega, rfl⟩) (by omega) (by simpa only [f_bestF, if_neg c14, if_neg c33] using hv)

set_option maxHeartbeats 4000000 in
set_option maxRecDepth 100000 in
/-- aboveAt -/
theorem ct_X2_aboveAt (l : Launch) (G : Gx) (t0 t1 t2 t3 : Nat) (n : Nat) (ts : Nat → Int32) (ta tb : Nat → Int64) (d : Int32) (hc : n ≤ 16) : Met l yX2_aboveAt wsX2_aboveAt ({ frames := 2, cells := 0, slots := 0, locals := 45 }) (RdP G (wT G t0 t1 t2 t3 (nI n) ts ta tb) [.ref t0, .int d]) (vp_Sl (fun r => r = f_above n ts ta d)) 0 0 (fun _ => False) := by
  refine Met.ofW (cc := cX2_aboveAt) (maxL := 3) (ret := (some .long)) (by decide) rfl ?_
  intro p e s m args below meth c s₁ B hml hv
  obtain ⟨rfl, hP, hE⟩ := hv
  have hx := B.exec
  have hb := B.bytes
  have hr := B.returns
  have hts := atoms_spec (ws := wsX2_aboveAt) B.pre
  have hown : s.vm.findClass RX2 = some m.cls := findClass_of_methodNamed B.named
  have hlocks := B.notSynchronized
  have hiX2 : ∀ w ∈ wsX20, w ∈ wsX2_aboveAt := by decide +kernel
  have hl := lv_entry ([.ref t0, .int d]) (n := 3) (Nat.le_of_ble_eq_true rfl)
  rw [lg_entry_eq]
  generalize (lg_sl ([.ref t0, .int d]) ++ List.replicate (3 - (lg_sl ([.ref t0, .int d])).length) Slot.unset).toArray = ls at hl ⊢
  replace hl : lv_has ls 3 [(0, .ref t0), (1, .int d)] := hl
  refine lv_aload_n hx hb dX2_aboveAt_0 rfl (lv_at hl 0 rfl) ?_
  refine lv_iload_n hx hb dX2_aboveAt_1 rfl (lv_at hl 1 rfl) ?_
  refine x_ri (va_runV (As := [.int d]) (rest := []) ⟨hx, hb, hml, hown, hts⟩ (ct_X2_lineAt l G t0 t1 t2 t3 n ts ta tb d hc) (cwV 1 hts gX2_aboveAt_X2_lineAt rfl rfl rfl (by decide +kernel) ⟨Nat.le_of_ble_eq_true rfl, Nat.le_of_ble_eq_true rfl⟩) (RdP.preV 0 3 rfl rfl hP hE) rfl rfl hl.1 rfl (lv_room (Nat.le_of_ble_eq_true rfl)) dX2_aboveAt_2 ⟨Nat.zero_le _, Nat.zero_le _⟩) (fun r1 er1 => ?_)
  subst er1
  refine lv_istore_n (lv' := [(2, .int (f_best n ts d)), (0, .ref t0), (1, .int d)]) hx hb dX2_aboveAt_5 rfl hl (by decide) rfl (fun ls hl => ?_)
  refine lv_iload_n hx hb dX2_aboveAt_6 rfl (lv_at hl 0 rfl) ?_
  refine lv_if_ge (tgt := 14) hx hb dX2_aboveAt_7 (by decide) (fun c7 => ?_) (fun c7 => ?_)
  · refine lv_aload_n hx hb dX2_aboveAt_14 rfl (lv_at hl 1 rfl) ?_
    refine va_get (D := G.1) (ci := 3) (v := .ref t2) (C := RX2) (T := TX2) (N := 4) hx hb hts hiX2 hown hE.1 hP 0 rfl rfl 1 (by decide) (hts (.fieldLink RX2 15 "MeterSeals$Table" "aboves" "[J") (by decide +kernel)) (fun _ h9 => h9) rfl dX2_aboveAt_15 ?_
    refine lv_iload_n hx hb dX2_aboveAt_18 rfl (lv_at hl 0 rfl) ?_
    refine va_lald hx hb hE.1 hP 2 1 rfl rfl (fbest_in hc c7) dX2_aboveAt_19 ?_
    exact W.lret (v := (ta (f_best n ts d).toNatClampNeg)) hx hb hr (fun t ht hW => ⟨_, rfl, by simp only [f_above, if_pos c7], ht⟩) t_nil dX2_aboveAt_20
  refine lv_lconst (v := 0) hx hb dX2_aboveAt_10 (by decide) ?_
  refine lv_goto (tgt := 20) hx hb dX2_aboveAt_11 (by decide) ?_
  exact W.lret (v := 0) hx hb hr (fun t ht hW => ⟨_, rfl, by simp only [f_above, if_neg c7], ht⟩) t_nil dX2_aboveAt_20

set_option maxHeartbeats 4000000 in
set_option maxRecDepth 100000 in
/-- belowAt -/
theorem ct_X2_belowAt (l : Launch) (G : Gx) (t0 t1 t2 t3 : Nat) (n : Nat) (ts : Nat → Int32) (ta tb : Nat → Int64) (d : Int32) (hc : n ≤ 16) : Met l yX2_belowAt wsX2_belowAt ({ frames := 2, cells := 0, slots := 0, locals := 45 }) (RdP G (wT G t0 t1 t2 t3 (nI n) ts ta tb) [.ref t0, .int d]) (vp_Sl (fun r => r = f_below n ts tb d)) 0 0 (fun _ => False) := by
  refine Met.ofW (cc := cX2_belowAt) (maxL := 3) (ret := (some .long)) (by decide) rfl ?_
  intro p e s m args below meth c s₁ B hml hv
  obtain ⟨rfl, hP, hE⟩ := hv
  have hx := B.exec
  have hb := B.bytes
  have hr := B.returns
  have hts := atoms_spec (ws := wsX2_belowAt) B.pre
  have hown : s.vm.findClass RX2 = some m.cls := findClass_of_methodNamed B.named
  have hlocks := B.notSynchronized
  have hiX2 : ∀ w ∈ wsX20, w ∈ wsX2_belowAt := by decide +kernel
  have hl := lv_entry ([.ref t0, .int d]) (n := 3) (Nat.le_of_ble_eq_true rfl)
  rw [lg_entry_eq]
  generalize (lg_sl ([.ref t0, .int d]) ++ List.replicate (3 - (lg_sl ([.ref t0, .int d])).length) Slot.unset).toArray = ls at hl ⊢
  replace hl : lv_has ls 3 [(0, .ref t0), (1, .int d)] := hl
  refine lv_aload_n hx hb dX2_belowAt_0 rfl (lv_at hl 0 rfl) ?_
  refine lv_iload_n hx hb dX2_belowAt_1 rfl (lv_at hl 1 rfl) ?_
  refine x_ri (va_runV (As := [.int d]) (rest := []) ⟨hx, hb, hml, hown, hts⟩ (ct_X2_lineAt l G t0 t1 t2 t3 n ts ta tb d hc) (cwV 1 hts gX2_belowAt_X2_lineAt rfl rfl rfl (by decide +kernel) ⟨Nat.le_of_ble_eq_true rfl, Nat.le_of_ble_eq_true rfl⟩) (RdP.preV 0 3 rfl rfl hP hE) rfl rfl hl.1 rfl (lv_room (Nat.le_of_ble_eq_true rfl)) dX2_belowAt_2 ⟨Nat.zero_le _, Nat.zero_le _⟩) (fun r1 er1 => ?_)
  subst er1
  refine lv_istore_n (lv' := [(2, .int (f_best n ts d)), (0, .ref t0), (1, .int d)]) hx hb dX2_belowAt_5 rfl hl (by decide) rfl (fun ls hl => ?_)
  refine lv_iload_n hx hb dX2_belowAt_6 rfl (lv_at hl 0 rfl) ?_
  refine lv_if_ge (tgt := 14) hx hb dX2_belowAt_7 (by decide) (fun c7 => ?_) (fun c7 => ?_)
  · refine lv_aload_n hx hb dX2_belowAt_14 rfl (lv_at hl 1 rfl) ?_
    refine va_get (D := G.1) (ci := 3) (v := .ref t3) (C := RX2) (T := TX2) (N := 4) hx hb hts hiX2 hown hE.1 hP 0 rfl rfl 2 (by decide) (hts (.fieldLink RX2 19 "MeterSeals$Table" "belows" "[J") (by decide +kernel)) (fun _ h9 => h9) rfl dX2_belowAt_15 ?_
    refine lv_iload_n hx hb dX2_belowAt_18 rfl (lv_at hl 0 rfl) ?_
    refine va_lald hx hb hE.1 hP 3 1 rfl rfl (fbest_in hc c7) dX2_belowAt_19 ?_
    exact W.lret (v := (tb (f_best n ts d).toNatClampNeg)) hx hb hr (fun t ht hW => ⟨_, rfl, by simp only [f_below, if_pos c7], ht⟩) t_nil dX2_belowAt_20
  refine lv_lconst (v := 1) hx hb dX2_belowAt_10 (by decide) ?_
  refine lv_goto (tgt := 20) hx hb dX2_belowAt_11 (by decide) ?_
  exact W.lret (v := 1) hx hb hr (fun t ht hW => ⟨_, rfl, by simp only [f_below, if_neg c7], ht⟩) t_nil dX2_belowAt_20

set_option maxHeartbeats 4000000 in
set_option maxRecDepth 100000 in
/-- firstWrong -/
theorem ct_X1_firstWrong (l : Launch) (G : Gx) (h0 h1 h2 h3 h4 h5 : Nat) (key : Int64) (n : Nat) (nu st : Nat → Int64) (de : Nat → Int32) (su : Nat → Int64) (mk : Nat → Int32) (frm : Int32) (hc : n ≤ 200) : Met l yX1_firstWrong wsX1_firstWrong ({ frames := 2, cells := 0, slots := 0, locals := 50 }) (RdP G (wR G h0 h1 h2 h3 h4 h5 key (nI n) nu st de su mk) [.ref h0, .int frm]) (vp_Si (fun r => r = f_wrong key n nu st de su frm)) 0 0 (fun _ => False) := by
  refine Met.ofW (cc := cX1_firstWrong) (maxL := 3) (ret := (some .int)) (by decide) rfl ?_
  intro p e s m args below meth c s₁ B hml hv
  obtain ⟨rfl, hP, hE⟩ := hv
  have hx := B.exec
  have hb := B.bytes
  have hr := B.returns
  have hts := atoms_spec (ws := wsX1_firstWrong) B.pre
  have hown : s.vm.findClass RX1 = some m.cls := findClass_of_methodNamed B.named
  have hlocks := B.notSynchronized
  have hiX1 : ∀ w ∈ wsX10, w ∈ wsX1_firstWrong := by decide +kernel
  have hl := lv_entry ([.ref h0, .int frm]) (n := 3) (Nat.le_of_ble_eq_true rfl)
  rw [lg_entry_eq]
  generalize (lg_sl ([.ref h0, .int frm]) ++ List.replicate (3 - (lg_sl ([.ref h0, .int frm])).length) Slot.unset).toArray = ls at hl ⊢
  replace hl : lv_has ls 3 [(0, .ref h0), (1, .int frm)] := hl
  refine lv_iload_n hx hb dX1_firstWrong_0 rfl (lv_at hl 1 rfl) ?_
  refine lv_if_lt (tgt := 12) hx hb dX1_firstWrong_1 (by decide) (fun c1 => ?_) (fun c1 => ?_)
  · refine lv_iconst (v := (-1)) hx hb dX1_firstWrong_12 (by decide) ?_
    exact W.iret (v := (-1)) hx hb hr (fun t ht hW => ⟨_, rfl, by simp only [f_wrong, if_pos c1], ht⟩) t_nil dX1_firstWrong_13
  refine lv_iload_n hx hb dX1_firstWrong_4 rfl (lv_at hl 1 rfl) ?_
  refine lv_aload_n hx hb dX1_firstWrong_5 rfl (lv_at hl 0 rfl) ?_
  refine va_get (D := G.1) (ci := 2) (v := .int (nI n)) (C := RX1) (T := TX1) (N := 7) hx hb hts hiX1 hown hE.1 hP 0 rfl rfl 6 (by decide) (hts (.fieldLink RX1 33 "MeterSeals$Rows" "count" "I") (by decide +kernel)) (fun _ h9 => h9) rfl dX1_firstWrong_6 ?_
  refine lv_icmp_le (tgt := 14) hx hb dX1_firstWrong_9 (by decide) (fun c9 => ?_) (fun c9 => ?_)
  · refine lv_iload_n hx hb dX1_firstWrong_14 rfl (lv_at hl 1 rfl) ?_
    refine lv_istore_n (lv' := [(2, .int frm), (0, .ref h0), (1, .int frm)]) hx hb dX1_firstWrong_15 rfl hl (by decide) rfl (fun ls hl => ?_)
    obtain ⟨i, hi31, hi⟩ := nI_of c1
    have hle : i ≤ n := (nI_leI hi31 (by omega)).mp (by rw [← hi]; exact c9)
    replace hl : lv_has ls 3 [(2, .int (nI i)), (0, .ref h0), (1, .int frm)] := by rw [← hi]; exact hl
    obtain ⟨k, hk⟩ : ∃ k : Nat, i + k = n := ⟨n - i, by omega⟩
    have hv : f_wrongF key n nu st de su k i = f_wrong key n nu st de su frm := by simp only [f_wrong, if_neg c1, if_pos c9]; rw [hi, nI_clamp hi31, show n - i = k by omega]
    clear hi hle hi31
    induction k generalizing i ls with
    | zero =>
      refine lv_iload_n hx hb dX1_firstWrong_16 rfl (lv_at hl 0 rfl) ?_
      refine lv_aload_n hx hb dX1_firstWrong_17 rfl (lv_at hl 1 rfl) ?_
      refine va_get (D := G.1) (ci := 2) (v := .int (nI n)) (C := RX1) (T := TX1) (N := 7) hx hb hts hiX1 hown hE.1 hP 0 rfl rfl 6 (by decide) (hts (.fieldLink RX1 33 "MeterSeals$Rows" "count" "I") (by decide +kernel)) (fun _ h9 => h9) rfl dX1_firstWrong_18 ?_
      refine lv_icmp_ge (tgt := 49) hx hb dX1_firstWrong_21 (by decide) (fun c21 => ?_) (fun c21 => absurd (nI_le (by omega) (by omega)) c21)
      refine lv_iconst (v := 0) hx hb dX1_firstWrong_49 (by decide) ?_
      exact W.iret (v := 0) hx hb hr (fun t ht hW => ⟨_, rfl, by rw [← hv]; rfl, ht⟩) t_nil dX1_firstWrong_50
    | succ k ih =>
      refine lv_iload_n hx hb dX1_firstWrong_16 rfl (lv_at hl 0 rfl) ?_
      refine lv_aload_n hx hb dX1_firstWrong_17 rfl (lv_at hl 1 rfl) ?_
      refine va_get (D := G.1) (ci := 2) (v := .int (nI n)) (C := RX1) (T := TX1) (N := 7) hx hb hts hiX1 hown hE.1 hP 0 rfl rfl 6 (by decide) (hts (.fieldLink RX1 33 "MeterSeals$Rows" "count" "I") (by decide +kernel)) (fun _ h9 => h9) rfl dX1_firstWrong_18 ?_
      refine lv_icmp_ge (tgt := 49) hx hb dX1_firstWrong_21 (by decide) (fun c21 => absurd c21 (nI_ge (by omega) (by omega))) (fun c21 => ?_)
      refine lv_aload_n hx hb dX1_firstWrong_24 rfl (lv_at hl 1 rfl) ?_
      refine va_get (D := G.1) (ci := 2) (v := .ref h4) (C := RX1) (T := TX1) (N := 7) hx hb hts hiX1 hown hE.1 hP 0 rfl rfl 4 (by decide) (hts (.fieldLink RX1 26 "MeterSeals$Rows" "sums" "[J") (by decide +kernel)) (fun _ h9 => h9) rfl dX1_firstWrong_25 ?_
      refine lv_iload_n hx hb dX1_firstWrong_28 rfl (lv_at hl 0 rfl) ?_
      refine va_lald hx hb hE.1 hP 4 1 rfl rfl (vp_in_nI (show i < 200 by omega) (by decide)) dX1_firstWrong_29 ?_
      rw [nI_clamp (show i < 2 ^ 31 by omega)]
      refine lv_aload_n hx hb dX1_firstWrong_30 rfl (lv_at hl 1 rfl) ?_
      refine lv_iload_n hx hb dX1_firstWrong_31 rfl (lv_at hl 0 rfl) ?_
      refine x_rl (va_runV (As := [.int (nI i)]) (rest := [.long (su i)]) ⟨hx, hb, hml, hown, hts⟩ (ct_X1_dueSum l G h0 h1 h2 h3 h4 h5 key n nu st de su mk (nI i) hc) (cwV 1 hts gX1_firstWrong_X1_dueSum rfl rfl rfl (by decide +kernel) ⟨Nat.le_of_ble_eq_true rfl, Nat.le_of_ble_eq_true rfl⟩) (RdP.preV 0 2 rfl rfl hP hE) rfl rfl hl.1 rfl (lv_room (Nat.le_of_ble_eq_true rfl)) dX1_firstWrong_32 ⟨Nat.zero_le _, Nat.zero_le _⟩) (fun r1 er1 => ?_)
      subst er1
      refine x_leq (tgt := 43) hx hb dX1_firstWrong_35 dX1_firstWrong_36 (by decide) (fun c36 => ?_) (fun c36 => ?_)
      · refine lv_iinc (v := (nI (i + 1))) (lv' := [(2, .int (nI (i + 1))), (0, .ref h0), (1, .int frm)]) hx hb dX1_firstWrong_43 hl (k := 0) rfl (nI_1 i) (by decide) rfl (fun ls hl => ?_)
        refine lv_goto (tgt := 16) hx hb dX1_firstWrong_46 (by decide) ?_
        exact ih ls (i + 1) (lv_sub hl [0, 1, 2] rfl) (by omega) (by simpa only [f_wrongF, if_pos c36] using hv)
      refine lv_iload_n hx hb dX1_firstWrong_39 rfl (lv_at hl 0 rfl) ?_
      refine lv_iconst (v := 1) hx hb dX1_firstWrong_40 (by decide) ?_
      refine lv_iadd hx hb dX1_firstWrong_41 ?_
      exact W.iret (v := ((nI i) + 1)) hx hb hr (fun t ht hW => ⟨_, rfl, by rw [← hv]; simp only [f_wrongF, if_neg c36], ht⟩) t_nil dX1_firstWrong_42
  refine lv_iconst (v := (-1)) hx hb dX1_firstWrong_12 (by decide) ?_
  exact W.iret (v := (-1)) hx hb hr (fun t ht hW => ⟨_, rfl, by simp only [f_wrong, if_neg c1, if_neg c9], ht⟩) t_nil dX1_firstWrong_13
