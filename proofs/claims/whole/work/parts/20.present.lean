set_option maxHeartbeats 4000000 in
set_option maxRecDepth 100000 in
/-- X3_rows -/
theorem ct_X3_rows (l : Launch) (G : Gx) (x0 x1 : Nat) (xn : Nat) (f : Nat → Option Nat) (BA BC : va_W) (j : Nat) (m0 t0 t1 t2 t3 h0 h1 h2 h3 h4 h5 : Nat) (sl : Int32) (la : Int64) (tn : Nat) (ts : Nat → Int32) (ta tb : Nat → Int64) (key : Int64) (n : Nat) (nu st : Nat → Int64) (de : Nat → Int32) (su : Nat → Int64) (mk : Nat → Int32)  (hxn : xn ≤ 8) (hj : j < xn) (hf : f j = some m0) (hc : n ≤ 200) (ht : tn ≤ 16) : Met l yX3_rows wsX3_rows ({ frames := 1, cells := 0, slots := 0, locals := 21 }) (RdP G ((wX G x0 x1 (nI xn) f ++ BA) ++ wM G m0 t0 t1 t2 t3 h0 h1 h2 h3 h4 h5 sl la (nI tn) ts ta tb key (nI n) nu st de su mk ++ BC) [.ref x0, .int (nI j)]) (vp_Si (fun r => r = nI n)) 0 0 (fun _ => False) := by
  refine Met.ofW (cc := cX3_rows) (maxL := 3) (ret := (some .int)) (by decide) rfl ?_
  intro p e s m args below meth c s₁ B hml hv
  obtain ⟨rfl, hP, hE⟩ := hv
  have hx := B.exec
  have hb := B.bytes
  have hr := B.returns
  have hts := atoms_spec (ws := wsX3_rows) B.pre
  have hown : s.vm.findClass RX3 = some m.cls := findClass_of_methodNamed B.named
  have hlocks := B.notSynchronized
  have hiX0 : ∀ w ∈ wsX00, w ∈ wsX3_rows := by decide +kernel
  have hiX1 : ∀ w ∈ wsX10, w ∈ wsX3_rows := by decide +kernel
  have hl := lv_entry ([.ref x0, .int (nI j)]) (n := 3) (Nat.le_of_ble_eq_true rfl)
  rw [lg_entry_eq]
  generalize (lg_sl ([.ref x0, .int (nI j)]) ++ List.replicate (3 - (lg_sl ([.ref x0, .int (nI j)])).length) Slot.unset).toArray = ls at hl ⊢
  replace hl : lv_has ls 3 [(0, .ref x0), (1, .int (nI j))] := hl
  refine lv_aload_n hx hb dX3_rows_0 rfl (lv_at hl 0 rfl) ?_
  refine lv_iload_n hx hb dX3_rows_1 rfl (lv_at hl 1 rfl) ?_
  refine x_rq (va_runV (As := [.int (nI j)]) (rest := []) ⟨hx, hb, hml, hown, hts⟩ (ct_X3_find l G x0 x1 xn f (nI j) hxn) (cwV 1 hts gX3_rows_X3_find rfl rfl rfl (by decide +kernel) ⟨Nat.le_of_ble_eq_true rfl, Nat.le_of_ble_eq_true rfl⟩) (RdP.preV 0 4 rfl rfl (x_mid [] (wX G x0 x1 (nI xn) f) (BA ++ wM G m0 t0 t1 t2 t3 h0 h1 h2 h3 h4 h5 sl la (nI tn) ts ta tb key (nI n) nu st de su mk ++ BC) rfl hP) hE) rfl rfl hl.1 rfl (lv_room (Nat.le_of_ble_eq_true rfl)) dX3_rows_2 ⟨Nat.zero_le _, Nat.zero_le _⟩) (fun rq erq => ?_)
  rw [f_find_in hj hxn, hf] at erq
  subst erq
  refine W.eq (g2 := F0 m 5 ls [.ref m0]) rfl ?_
  refine lv_astore_n (lv' := [(2, .ref m0), (0, .ref x0), (1, .int (nI j))]) hx hb dX3_rows_5 rfl hl (by decide) rfl (fun ls hl => ?_)
  refine lv_aload_n hx hb dX3_rows_6 rfl (lv_at hl 0 rfl) ?_
  refine lv_ifnonnull (tgt := 14) hx hb dX3_rows_7 (by decide) ?_
  refine lv_aload_n hx hb dX3_rows_14 rfl (lv_at hl 0 rfl) ?_
  refine va_getN (D := G.1) (ci := 1) (v := .ref h0) (C := RX0) (T := TX0) (N := 4) hx hb hts hiX0 hown hE.1 (x_mid (wX G x0 x1 (nI xn) f ++ BA) (wM G m0 t0 t1 t2 t3 h0 h1 h2 h3 h4 h5 sl la (nI tn) ts ta tb key (nI n) nu st de su mk) BC rfl hP) 0 rfl rfl 1 (by decide) (va_Nw.use (A := _) rfl hE.2.1.1.2.2.2.2) (fun _ h9 => h9) rfl dX3_rows_15 ?_
  refine va_getN (D := G.1) (ci := 2) (v := .int (nI n)) (C := RX1) (T := TX1) (N := 7) hx hb hts hiX1 hown hE.1 (x_mid (wX G x0 x1 (nI xn) f ++ BA) (wM G m0 t0 t1 t2 t3 h0 h1 h2 h3 h4 h5 sl la (nI tn) ts ta tb key (nI n) nu st de su mk) BC rfl hP) 5 rfl rfl 6 (by decide) (va_Nw.use (A := _) rfl hE.2.1.1.2.2.1) (fun _ h9 => h9) rfl dX3_rows_18 ?_
  exact W.iret (v := (nI n)) hx hb hr (fun t ht hW => ⟨_, rfl, rfl, ht⟩) t_nil dX3_rows_21

set_option maxHeartbeats 4000000 in
set_option maxRecDepth 100000 in
/-- X3_check -/
theorem ct_X3_check (l : Launch) (G : Gx) (x0 x1 : Nat) (xn : Nat) (f : Nat → Option Nat) (BA BC : va_W) (j : Nat) (m0 t0 t1 t2 t3 h0 h1 h2 h3 h4 h5 : Nat) (sl : Int32) (la : Int64) (tn : Nat) (ts : Nat → Int32) (ta tb : Nat → Int64) (key : Int64) (n : Nat) (nu st : Nat → Int64) (de : Nat → Int32) (su : Nat → Int64) (mk : Nat → Int32) (frm : Int32) (hxn : xn ≤ 8) (hj : j < xn) (hf : f j = some m0) (hc : n ≤ 200) (ht : tn ≤ 16) : Met l yX3_check wsX3_check ({ frames := 3, cells := 0, slots := 0, locals := 72 }) (RdP G ((wX G x0 x1 (nI xn) f ++ BA) ++ wM G m0 t0 t1 t2 t3 h0 h1 h2 h3 h4 h5 sl la (nI tn) ts ta tb key (nI n) nu st de su mk ++ BC) [.ref x0, .int (nI j), .int frm]) (vp_Si (fun r => r = f_wrong key n nu st de su frm)) 0 0 (fun _ => False) := by
  refine Met.ofW (cc := cX3_check) (maxL := 4) (ret := (some .int)) (by decide) rfl ?_
  intro p e s m args below meth c s₁ B hml hv
  obtain ⟨rfl, hP, hE⟩ := hv
  have hx := B.exec
  have hb := B.bytes
  have hr := B.returns
  have hts := atoms_spec (ws := wsX3_check) B.pre
  have hown : s.vm.findClass RX3 = some m.cls := findClass_of_methodNamed B.named
  have hlocks := B.notSynchronized
  have hiX0 : ∀ w ∈ wsX00, w ∈ wsX3_check := by decide +kernel
  have hl := lv_entry ([.ref x0, .int (nI j), .int frm]) (n := 4) (Nat.le_of_ble_eq_true rfl)
  rw [lg_entry_eq]
  generalize (lg_sl ([.ref x0, .int (nI j), .int frm]) ++ List.replicate (4 - (lg_sl ([.ref x0, .int (nI j), .int frm])).length) Slot.unset).toArray = ls at hl ⊢
  replace hl : lv_has ls 4 [(0, .ref x0), (1, .int (nI j)), (2, .int frm)] := hl
  refine lv_aload_n hx hb dX3_check_0 rfl (lv_at hl 0 rfl) ?_
  refine lv_iload_n hx hb dX3_check_1 rfl (lv_at hl 1 rfl) ?_
  refine x_rq (va_runV (As := [.int (nI j)]) (rest := []) ⟨hx, hb, hml, hown, hts⟩ (ct_X3_find l G x0 x1 xn f (nI j) hxn) (cwV 1 hts gX3_check_X3_find rfl rfl rfl (by decide +kernel) ⟨Nat.le_of_ble_eq_true rfl, Nat.le_of_ble_eq_true rfl⟩) (RdP.preV 0 4 rfl rfl (x_mid [] (wX G x0 x1 (nI xn) f) (BA ++ wM G m0 t0 t1 t2 t3 h0 h1 h2 h3 h4 h5 sl la (nI tn) ts ta tb key (nI n) nu st de su mk ++ BC) rfl hP) hE) rfl rfl hl.1 rfl (lv_room (Nat.le_of_ble_eq_true rfl)) dX3_check_2 ⟨Nat.zero_le _, Nat.zero_le _⟩) (fun rq erq => ?_)
  rw [f_find_in hj hxn, hf] at erq
  subst erq
  refine W.eq (g2 := F0 m 5 ls [.ref m0]) rfl ?_
  refine lv_astore_n (lv' := [(3, .ref m0), (0, .ref x0), (1, .int (nI j)), (2, .int frm)]) hx hb dX3_check_5 rfl hl (by decide) rfl (fun ls hl => ?_)
  refine lv_aload_n hx hb dX3_check_6 rfl (lv_at hl 0 rfl) ?_
  refine lv_ifnonnull (tgt := 14) hx hb dX3_check_7 (by decide) ?_
  refine lv_aload_n hx hb dX3_check_14 rfl (lv_at hl 0 rfl) ?_
  refine va_getN (D := G.1) (ci := 1) (v := .ref h0) (C := RX0) (T := TX0) (N := 4) hx hb hts hiX0 hown hE.1 (x_mid (wX G x0 x1 (nI xn) f ++ BA) (wM G m0 t0 t1 t2 t3 h0 h1 h2 h3 h4 h5 sl la (nI tn) ts ta tb key (nI n) nu st de su mk) BC rfl hP) 0 rfl rfl 1 (by decide) (va_Nw.use (A := _) rfl hE.2.1.1.2.2.2.2) (fun _ h9 => h9) rfl dX3_check_15 ?_
  refine lv_iload_n hx hb dX3_check_18 rfl (lv_at hl 3 rfl) ?_
  refine x_ri (va_runV (As := [.int frm]) (rest := []) ⟨hx, hb, hml, hown, hts⟩ (ct_X1_firstWrong l G h0 h1 h2 h3 h4 h5 key n nu st de su mk frm hc) (cwV 1 hts gX3_check_X1_firstWrong rfl rfl rfl (by decide +kernel) ⟨Nat.le_of_ble_eq_true rfl, Nat.le_of_ble_eq_true rfl⟩) (RdP.preV 0 2 rfl rfl (x_mid [(m0, .inr (1, [.ref t0, .ref h0, .int sl, .long la])), (t0, .inr (3, [.ref t1, .ref t2, .ref t3, .int (nI tn)])), (t1, .inl (kI G, 16, .inl ts)), (t2, .inl (kJ G, 16, .inr (.inl ta))), (t3, .inl (kJ G, 16, .inr (.inl tb)))] (wR G h0 h1 h2 h3 h4 h5 key (nI n) nu st de su mk) [] rfl (x_mid (wX G x0 x1 (nI xn) f ++ BA) (wM G m0 t0 t1 t2 t3 h0 h1 h2 h3 h4 h5 sl la (nI tn) ts ta tb key (nI n) nu st de su mk) BC rfl hP)) hE) rfl rfl hl.1 rfl (lv_room (Nat.le_of_ble_eq_true rfl)) dX3_check_19 ⟨Nat.zero_le _, Nat.zero_le _⟩) (fun r1 er1 => ?_)
  subst er1
  exact W.iret (v := (f_wrong key n nu st de su frm)) hx hb hr (fun t ht hW => ⟨_, rfl, rfl, ht⟩) t_nil dX3_check_22

set_option maxHeartbeats 4000000 in
set_option maxRecDepth 100000 in
/-- X3_marked -/
theorem ct_X3_marked (l : Launch) (G : Gx) (x0 x1 : Nat) (xn : Nat) (f : Nat → Option Nat) (BA BC : va_W) (j : Nat) (m0 t0 t1 t2 t3 h0 h1 h2 h3 h4 h5 : Nat) (sl : Int32) (la : Int64) (tn : Nat) (ts : Nat → Int32) (ta tb : Nat → Int64) (key : Int64) (n : Nat) (nu st : Nat → Int64) (de : Nat → Int32) (su : Nat → Int64) (mk : Nat → Int32) (row : Int32) (hxn : xn ≤ 8) (hj : j < xn) (hf : f j = some m0) (hc : n ≤ 200) (ht : tn ≤ 16) : Met l yX3_marked wsX3_marked ({ frames := 2, cells := 0, slots := 0, locals := 42 }) (RdP G ((wX G x0 x1 (nI xn) f ++ BA) ++ wM G m0 t0 t1 t2 t3 h0 h1 h2 h3 h4 h5 sl la (nI tn) ts ta tb key (nI n) nu st de su mk ++ BC) [.ref x0, .int (nI j), .int row]) (vp_Si (fun r => r = (if f_mark n mk row = 0 then 0 else 1))) 0 0 (fun _ => False) := by
  refine Met.ofW (cc := cX3_marked) (maxL := 4) (ret := (some .boolean)) (by decide) rfl ?_
  intro p e s m args below meth c s₁ B hml hv
  obtain ⟨rfl, hP, hE⟩ := hv
  have hx := B.exec
  have hb := B.bytes
  have hr := B.returns
  have hts := atoms_spec (ws := wsX3_marked) B.pre
  have hown : s.vm.findClass RX3 = some m.cls := findClass_of_methodNamed B.named
  have hlocks := B.notSynchronized
  have hiX0 : ∀ w ∈ wsX00, w ∈ wsX3_marked := by decide +kernel
  have hl := lv_entry ([.ref x0, .int (nI j), .int row]) (n := 4) (Nat.le_of_ble_eq_true rfl)
  rw [lg_entry_eq]
  generalize (lg_sl ([.ref x0, .int (nI j), .int row]) ++ List.replicate (4 - (lg_sl ([.ref x0, .int (nI j), .int row])).length) Slot.unset).toArray = ls at hl ⊢
  replace hl : lv_has ls 4 [(0, .ref x0), (1, .int (nI j)), (2, .int row)] := hl
  refine lv_aload_n hx hb dX3_marked_0 rfl (lv_at hl 0 rfl) ?_
  refine lv_iload_n hx hb dX3_marked_1 rfl (lv_at hl 1 rfl) ?_
  refine x_rq (va_runV (As := [.int (nI j)]) (rest := []) ⟨hx, hb, hml, hown, hts⟩ (ct_X3_find l G x0 x1 xn f (nI j) hxn) (cwV 1 hts gX3_marked_X3_find rfl rfl rfl (by decide +kernel) ⟨Nat.le_of_ble_eq_true rfl, Nat.le_of_ble_eq_true rfl⟩) (RdP.preV 0 4 rfl rfl (x_mid [] (wX G x0 x1 (nI xn) f) (BA ++ wM G m0 t0 t1 t2 t3 h0 h1 h2 h3 h4 h5 sl la (nI tn) ts ta tb key (nI n) nu st de su mk ++ BC) rfl hP) hE) rfl rfl hl.1 rfl (lv_room (Nat.le_of_ble_eq_true rfl)) dX3_marked_2 ⟨Nat.zero_le _, Nat.zero_le _⟩) (fun rq erq => ?_)
  rw [f_find_in hj hxn, hf] at erq
  subst erq
  refine W.eq (g2 := F0 m 5 ls [.ref m0]) rfl ?_
  refine lv_astore_n (lv' := [(3, .ref m0), (0, .ref x0), (1, .int (nI j)), (2, .int row)]) hx hb dX3_marked_5 rfl hl (by decide) rfl (fun ls hl => ?_)
  refine lv_aload_n hx hb dX3_marked_6 rfl (lv_at hl 0 rfl) ?_
  refine lv_ifnull hx hb dX3_marked_7 ?_
  refine lv_aload_n hx hb dX3_marked_10 rfl (lv_at hl 0 rfl) ?_
  refine va_getN (D := G.1) (ci := 1) (v := .ref h0) (C := RX0) (T := TX0) (N := 4) hx hb hts hiX0 hown hE.1 (x_mid (wX G x0 x1 (nI xn) f ++ BA) (wM G m0 t0 t1 t2 t3 h0 h1 h2 h3 h4 h5 sl la (nI tn) ts ta tb key (nI n) nu st de su mk) BC rfl hP) 0 rfl rfl 1 (by decide) (va_Nw.use (A := _) rfl hE.2.1.1.2.2.2.2) (fun _ h9 => h9) rfl dX3_marked_11 ?_
  refine lv_iload_n hx hb dX3_marked_14 rfl (lv_at hl 3 rfl) ?_
  refine x_ri (va_runV (As := [.int row]) (rest := []) ⟨hx, hb, hml, hown, hts⟩ (ct_X1_hasMark l G h0 h1 h2 h3 h4 h5 key n nu st de su mk row hc) (cwV 1 hts gX3_marked_X1_hasMark rfl rfl rfl (by decide +kernel) ⟨Nat.le_of_ble_eq_true rfl, Nat.le_of_ble_eq_true rfl⟩) (RdP.preV 0 2 rfl rfl (x_mid [(m0, .inr (1, [.ref t0, .ref h0, .int sl, .long la])), (t0, .inr (3, [.ref t1, .ref t2, .ref t3, .int (nI tn)])), (t1, .inl (kI G, 16, .inl ts)), (t2, .inl (kJ G, 16, .inr (.inl ta))), (t3, .inl (kJ G, 16, .inr (.inl tb)))] (wR G h0 h1 h2 h3 h4 h5 key (nI n) nu st de su mk) [] rfl (x_mid (wX G x0 x1 (nI xn) f ++ BA) (wM G m0 t0 t1 t2 t3 h0 h1 h2 h3 h4 h5 sl la (nI tn) ts ta tb key (nI n) nu st de su mk) BC rfl hP)) hE) rfl rfl hl.1 rfl (lv_room (Nat.le_of_ble_eq_true rfl)) dX3_marked_15 ⟨Nat.zero_le _, Nat.zero_le _⟩) (fun r1 er1 => ?_)
  subst er1
  refine lv_if_eq (tgt := 25) hx hb dX3_marked_18 (by decide) (fun c18 => ?_) (fun c18 => ?_)
  · refine lv_iconst (v := 0) hx hb dX3_marked_25 (by decide) ?_
    exact W.zret (v := 0) hx hb hr (zb (Or.inl rfl)) (fun t ht hW => ⟨_, rfl, by simp only [if_pos c18], ht⟩) t_nil dX3_marked_26
  refine lv_iconst (v := 1) hx hb dX3_marked_21 (by decide) ?_
  refine lv_goto (tgt := 26) hx hb dX3_marked_22 (by decide) ?_
  exact W.zret (v := 1) hx hb hr (zb (Or.inr rfl)) (fun t ht hW => ⟨_, rfl, by simp only [if_neg c18], ht⟩) t_nil dX3_marked_26

set_option maxHeartbeats 4000000 in
set_option maxRecDepth 100000 in
/-- X3_gap -/
theorem ct_X3_gap (l : Launch) (G : Gx) (x0 x1 : Nat) (xn : Nat) (f : Nat → Option Nat) (BA BC : va_W) (j : Nat) (m0 t0 t1 t2 t3 h0 h1 h2 h3 h4 h5 : Nat) (sl : Int32) (la : Int64) (tn : Nat) (ts : Nat → Int32) (ta tb : Nat → Int64) (key : Int64) (n : Nat) (nu st : Nat → Int64) (de : Nat → Int32) (su : Nat → Int64) (mk : Nat → Int32) (kk what : Int32) (hxn : xn ≤ 8) (hj : j < xn) (hf : f j = some m0) (hc : n ≤ 200) (ht : tn ≤ 16) : Met l yX3_gap wsX3_gap ({ frames := 3, cells := 0, slots := 0, locals := 70 }) (RdP G ((wX G x0 x1 (nI xn) f ++ BA) ++ wM G m0 t0 t1 t2 t3 h0 h1 h2 h3 h4 h5 sl la (nI tn) ts ta tb key (nI n) nu st de su mk ++ BC) [.ref x0, .int (nI j), .int kk, .int what]) (vp_Si (fun r => r = f_rgap n st kk what)) 0 0 (fun _ => False) := by
  refine Met.ofW (cc := cX3_gap) (maxL := 5) (ret := (some .int)) (by decide) rfl ?_
  intro p e s m args below meth c s₁ B hml hv
  obtain ⟨rfl, hP, hE⟩ := hv
  have hx := B.exec
  have hb := B.bytes
  have hr := B.returns
  have hts := atoms_spec (ws := wsX3_gap) B.pre
  have hown : s.vm.findClass RX3 = some m.cls := findClass_of_methodNamed B.named
  have hlocks := B.notSynchronized
  have hiX0 : ∀ w ∈ wsX00, w ∈ wsX3_gap := by decide +kernel
  have hl := lv_entry ([.ref x0, .int (nI j), .int kk, .int what]) (n := 5) (Nat.le_of_ble_eq_true rfl)
  rw [lg_entry_eq]
  generalize (lg_sl ([.ref x0, .int (nI j), .int kk, .int what]) ++ List.replicate (5 - (lg_sl ([.ref x0, .int (nI j), .int kk, .int what])).length) Slot.unset).toArray = ls at hl ⊢
  replace hl : lv_has ls 5 [(0, .ref x0), (1, .int (nI j)), (2, .int kk), (3, .int what)] := hl
  refine lv_aload_n hx hb dX3_gap_0 rfl (lv_at hl 0 rfl) ?_
  refine lv_iload_n hx hb dX3_gap_1 rfl (lv_at hl 1 rfl) ?_
  refine x_rq (va_runV (As := [.int (nI j)]) (rest := []) ⟨hx, hb, hml, hown, hts⟩ (ct_X3_find l G x0 x1 xn f (nI j) hxn) (cwV 1 hts gX3_gap_X3_find rfl rfl rfl (by decide +kernel) ⟨Nat.le_of_ble_eq_true rfl, Nat.le_of_ble_eq_true rfl⟩) (RdP.preV 0 4 rfl rfl (x_mid [] (wX G x0 x1 (nI xn) f) (BA ++ wM G m0 t0 t1 t2 t3 h0 h1 h2 h3 h4 h5 sl la (nI tn) ts ta tb key (nI n) nu st de su mk ++ BC) rfl hP) hE) rfl rfl hl.1 rfl (lv_room (Nat.le_of_ble_eq_true rfl)) dX3_gap_2 ⟨Nat.zero_le _, Nat.zero_le _⟩) (fun rq erq => ?_)
  rw [f_find_in hj hxn, hf] at erq
  subst erq
  refine W.eq (g2 := F0 m 5 ls [.ref m0]) rfl ?_
  refine lv_astore (lv' := [(4, .ref m0), (0, .ref x0), (1, .int (nI j)), (2, .int kk), (3, .int what)]) hx hb dX3_gap_5 hl (by decide) rfl (fun ls hl => ?_)
  refine lv_aload hx hb dX3_gap_7 (lv_at hl 0 rfl) ?_
  refine lv_ifnull hx hb dX3_gap_9 ?_
  refine lv_iload_n hx hb dX3_gap_12 rfl (lv_at hl 3 rfl) ?_
  refine lv_if_lt (tgt := 25) hx hb dX3_gap_13 (by decide) (fun c13 => ?_) (fun c13 => ?_)
  · refine lv_iconst (v := (-1)) hx hb dX3_gap_25 (by decide) ?_
    exact W.iret (v := (-1)) hx hb hr (fun t ht hW => ⟨_, rfl, by simp only [f_rgap, if_pos c13], ht⟩) t_nil dX3_gap_26
  refine lv_iload_n hx hb dX3_gap_16 rfl (lv_at hl 4 rfl) ?_
  refine lv_if_eq (tgt := 27) hx hb dX3_gap_17 (by decide) (fun c17 => ?_) (fun c17 => ?_)
  · refine lv_aload hx hb dX3_gap_27 (lv_at hl 0 rfl) ?_
    refine va_getN (D := G.1) (ci := 1) (v := .ref h0) (C := RX0) (T := TX0) (N := 4) hx hb hts hiX0 hown hE.1 (x_mid (wX G x0 x1 (nI xn) f ++ BA) (wM G m0 t0 t1 t2 t3 h0 h1 h2 h3 h4 h5 sl la (nI tn) ts ta tb key (nI n) nu st de su mk) BC rfl hP) 0 rfl rfl 1 (by decide) (va_Nw.use (A := _) rfl hE.2.1.1.2.2.2.2) (fun _ h9 => h9) rfl dX3_gap_29 ?_
    refine lv_iload_n hx hb dX3_gap_32 rfl (lv_at hl 3 rfl) ?_
    refine lv_iload_n hx hb dX3_gap_33 rfl (lv_at hl 4 rfl) ?_
    refine x_ri (va_runV (As := [.int kk, .int what]) (rest := []) ⟨hx, hb, hml, hown, hts⟩ (ct_X1_findGap l G h0 h1 h2 h3 h4 h5 key n nu st de su mk kk what hc) (cwV 2 hts gX3_gap_X1_findGap rfl rfl rfl (by decide +kernel) ⟨Nat.le_of_ble_eq_true rfl, Nat.le_of_ble_eq_true rfl⟩) (RdP.preV 0 2 rfl rfl (x_mid [(m0, .inr (1, [.ref t0, .ref h0, .int sl, .long la])), (t0, .inr (3, [.ref t1, .ref t2, .ref t3, .int (nI tn)])), (t1, .inl (kI G, 16, .inl ts)), (t2, .inl (kJ G, 16, .inr (.inl ta))), (t3, .inl (kJ G, 16, .inr (.inl tb)))] (wR G h0 h1 h2 h3 h4 h5 key (nI n) nu st de su mk) [] rfl (x_mid (wX G x0 x1 (nI xn) f ++ BA) (wM G m0 t0 t1 t2 t3 h0 h1 h2 h3 h4 h5 sl la (nI tn) ts ta tb key (nI n) nu st de su mk) BC rfl hP)) hE) rfl rfl hl.1 rfl (lv_room (Nat.le_of_ble_eq_true rfl)) dX3_gap_34 ⟨Nat.zero_le _, Nat.zero_le _⟩) (fun r1 er1 => ?_)
    subst er1
    exact W.iret (v := (f_gap n st kk what)) hx hb hr (fun t ht hW => ⟨_, rfl, by simp only [f_rgap, if_neg c13, if_pos c17], ht⟩) t_nil dX3_gap_37
  refine lv_iload_n hx hb dX3_gap_20 rfl (lv_at hl 4 rfl) ?_
  refine lv_iconst (v := 1) hx hb dX3_gap_21 (by decide) ?_
  refine lv_icmp_eq (tgt := 27) hx hb dX3_gap_22 (by decide) (fun c22 => ?_) (fun c22 => ?_)
  · refine lv_aload hx hb dX3_gap_27 (lv_at hl 0 rfl) ?_
    refine va_getN (D := G.1) (ci := 1) (v := .ref h0) (C := RX0) (T := TX0) (N := 4) hx hb hts hiX0 hown hE.1 (x_mid (wX G x0 x1 (nI xn) f ++ BA) (wM G m0 t0 t1 t2 t3 h0 h1 h2 h3 h4 h5 sl la (nI tn) ts ta tb key (nI n) nu st de su mk) BC rfl hP) 0 rfl rfl 1 (by decide) (va_Nw.use (A := _) rfl hE.2.1.1.2.2.2.2) (fun _ h9 => h9) rfl dX3_gap_29 ?_
    refine lv_iload_n hx hb dX3_gap_32 rfl (lv_at hl 3 rfl) ?_
    refine lv_iload_n hx hb dX3_gap_33 rfl (lv_at hl 4 rfl) ?_
    refine x_ri (va_runV (As := [.int kk, .int what]) (rest := []) ⟨hx, hb, hml, hown, hts⟩ (ct_X1_findGap l G h0 h1 h2 h3 h4 h5 key n nu st de su mk kk what hc) (cwV 2 hts gX3_gap_X1_findGap rfl rfl rfl (by decide +kernel) ⟨Nat.le_of_ble_eq_true rfl, Nat.le_of_ble_eq_true rfl⟩) (RdP.preV 0 2 rfl rfl (x_mid [(m0, .inr (1, [.ref t0, .ref h0, .int sl, .long la])), (t0, .inr (3, [.ref t1, .ref t2, .ref t3, .int (nI tn)])), (t1, .inl (kI G, 16, .inl ts)), (t2, .inl (kJ G, 16, .inr (.inl ta))), (t3, .inl (kJ G, 16, .inr (.inl tb)))] (wR G h0 h1 h2 h3 h4 h5 key (nI n) nu st de su mk) [] rfl (x_mid (wX G x0 x1 (nI xn) f ++ BA) (wM G m0 t0 t1 t2 t3 h0 h1 h2 h3 h4 h5 sl la (nI tn) ts ta tb key (nI n) nu st de su mk) BC rfl hP)) hE) rfl rfl hl.1 rfl (lv_room (Nat.le_of_ble_eq_true rfl)) dX3_gap_34 ⟨Nat.zero_le _, Nat.zero_le _⟩) (fun r2 er2 => ?_)
    subst er2
    exact W.iret (v := (f_gap n st kk what)) hx hb hr (fun t ht hW => ⟨_, rfl, by simp only [f_rgap, if_neg c13, if_neg c17, if_pos c22], ht⟩) t_nil dX3_gap_37
  refine lv_iconst (v := (-1)) hx hb dX3_gap_25 (by decide) ?_
  exact W.iret (v := (-1)) hx hb hr (fun t ht hW => ⟨_, rfl, by simp only [f_rgap, if_neg c13, if_neg c17, if_neg c22], ht⟩) t_nil dX3_gap_26

set_option maxHeartbeats 4000000 in
set_option maxRecDepth 100000 in
/-- X3_roll -/
theorem ct_X3_roll (l : Launch) (G : Gx) (x0 x1 : Nat) (xn : Nat) (f : Nat → Option Nat) (BA BC : va_W) (j : Nat) (m0 t0 t1 t2 t3 h0 h1 h2 h3 h4 h5 : Nat) (sl : Int32) (la : Int64) (tn : Nat) (ts : Nat → Int32) (ta tb : Nat → Int64) (key : Int64) (n : Nat) (nu st : Nat → Int64) (de : Nat → Int32) (su : Nat → Int64) (mk : Nat → Int32) (ix : Int32) (hxn : xn ≤ 8) (hj : j < xn) (hf : f j = some m0) (hc : n ≤ 200) (ht : tn ≤ 16) : Met l yX3_roll wsX3_roll ({ frames := 5, cells := 0, slots := 0, locals := 114 }) (RdP G ((wX G x0 x1 (nI xn) f ++ BA) ++ wM G m0 t0 t1 t2 t3 h0 h1 h2 h3 h4 h5 sl la (nI tn) ts ta tb key (nI n) nu st de su mk ++ BC) [.ref x0, .int (nI j), .int ix]) (vp_Si (fun r => r = f_roll n nu st de mk ix)) 0 0 (fun _ => False) := by
  refine Met.ofW (cc := cX3_roll) (maxL := 4) (ret := (some .int)) (by decide) rfl ?_
  intro p e s m args below meth c s₁ B hml hv
  obtain ⟨rfl, hP, hE⟩ := hv
  have hx := B.exec
  have hb := B.bytes
  have hr := B.returns
  have hts := atoms_spec (ws := wsX3_roll) B.pre
  have hown : s.vm.findClass RX3 = some m.cls := findClass_of_methodNamed B.named
  have hlocks := B.notSynchronized
  have hiX0 : ∀ w ∈ wsX00, w ∈ wsX3_roll := by decide +kernel
  have hl := lv_entry ([.ref x0, .int (nI j), .int ix]) (n := 4) (Nat.le_of_ble_eq_true rfl)
  rw [lg_entry_eq]
  generalize (lg_sl ([.ref x0, .int (nI j), .int ix]) ++ List.replicate (4 - (lg_sl ([.ref x0, .int (nI j), .int ix])).length) Slot.unset).toArray = ls at hl ⊢
  replace hl : lv_has ls 4 [(0, .ref x0), (1, .int (nI j)), (2, .int ix)] := hl
  refine lv_aload_n hx hb dX3_roll_0 rfl (lv_at hl 0 rfl) ?_
  refine lv_iload_n hx hb dX3_roll_1 rfl (lv_at hl 1 rfl) ?_
  refine x_rq (va_runV (As := [.int (nI j)]) (rest := []) ⟨hx, hb, hml, hown, hts⟩ (ct_X3_find l G x0 x1 xn f (nI j) hxn) (cwV 1 hts gX3_roll_X3_find rfl rfl rfl (by decide +kernel) ⟨Nat.le_of_ble_eq_true rfl, Nat.le_of_ble_eq_true rfl⟩) (RdP.preV 0 4 rfl rfl (x_mid [] (wX G x0 x1 (nI xn) f) (BA ++ wM G m0 t0 t1 t2 t3 h0 h1 h2 h3 h4 h5 sl la (nI tn) ts ta tb key (nI n) nu st de su mk ++ BC) rfl hP) hE) rfl rfl hl.1 rfl (lv_room (Nat.le_of_ble_eq_true rfl)) dX3_roll_2 ⟨Nat.zero_le _, Nat.zero_le _⟩) (fun rq erq => ?_)
  rw [f_find_in hj hxn, hf] at erq
  subst erq
  refine W.eq (g2 := F0 m 5 ls [.ref m0]) rfl ?_
  refine lv_astore_n (lv' := [(3, .ref m0), (0, .ref x0), (1, .int (nI j)), (2, .int ix)]) hx hb dX3_roll_5 rfl hl (by decide) rfl (fun ls hl => ?_)
  refine lv_aload_n hx hb dX3_roll_6 rfl (lv_at hl 0 rfl) ?_
  refine lv_ifnonnull (tgt := 14) hx hb dX3_roll_7 (by decide) ?_
  refine lv_aload_n hx hb dX3_roll_14 rfl (lv_at hl 0 rfl) ?_
  refine va_getN (D := G.1) (ci := 1) (v := .ref h0) (C := RX0) (T := TX0) (N := 4) hx hb hts hiX0 hown hE.1 (x_mid (wX G x0 x1 (nI xn) f ++ BA) (wM G m0 t0 t1 t2 t3 h0 h1 h2 h3 h4 h5 sl la (nI tn) ts ta tb key (nI n) nu st de su mk) BC rfl hP) 0 rfl rfl 1 (by decide) (va_Nw.use (A := _) rfl hE.2.1.1.2.2.2.2) (fun _ h9 => h9) rfl dX3_roll_15 ?_
  refine lv_iload_n hx hb dX3_roll_18 rfl (lv_at hl 3 rfl) ?_
  refine x_ri (va_runV (As := [.int ix]) (rest := []) ⟨hx, hb, hml, hown, hts⟩ (ct_X1_rollByte l G h0 h1 h2 h3 h4 h5 key n nu st de su mk ix hc) (cwV 1 hts gX3_roll_X1_rollByte rfl rfl rfl (by decide +kernel) ⟨Nat.le_of_ble_eq_true rfl, Nat.le_of_ble_eq_true rfl⟩) (RdP.preV 0 2 rfl rfl (x_mid [(m0, .inr (1, [.ref t0, .ref h0, .int sl, .long la])), (t0, .inr (3, [.ref t1, .ref t2, .ref t3, .int (nI tn)])), (t1, .inl (kI G, 16, .inl ts)), (t2, .inl (kJ G, 16, .inr (.inl ta))), (t3, .inl (kJ G, 16, .inr (.inl tb)))] (wR G h0 h1 h2 h3 h4 h5 key (nI n) nu st de su mk) [] rfl (x_mid (wX G x0 x1 (nI xn) f ++ BA) (wM G m0 t0 t1 t2 t3 h0 h1 h2 h3 h4 h5 sl la (nI tn) ts ta tb key (nI n) nu st de su mk) BC rfl hP)) hE) rfl rfl hl.1 rfl (lv_room (Nat.le_of_ble_eq_true rfl)) dX3_roll_19 ⟨Nat.zero_le _, Nat.zero_le _⟩) (fun r1 er1 => ?_)
  subst er1
  exact W.iret (v := (f_roll n nu st de mk ix)) hx hb hr (fun t ht hW => ⟨_, rfl, rfl, ht⟩) t_nil dX3_roll_22

set_option maxHeartbeats 4000000 in
set_option maxRecDepth 100000 in
/-- X3_rest -/
theorem ct_X3_rest (l : Launch) (G : Gx) (x0 x1 : Nat) (xn : Nat) (f : Nat → Option Nat) (BA BC : va_W) (j : Nat) (m0 t0 t1 t2 t3 h0 h1 h2 h3 h4 h5 : Nat) (sl : Int32) (la : Int64) (tn : Nat) (ts : Nat → Int32) (ta tb : Nat → Int64) (key : Int64) (n : Nat) (nu st : Nat → Int64) (de : Nat → Int32) (su : Nat → Int64) (mk : Nat → Int32) (tank : Int64) (hxn : xn ≤ 8) (hj : j < xn) (hf : f j = some m0) (hc : n ≤ 200) (ht : tn ≤ 16) : Met l yX3_rest wsX3_rest ({ frames := 5, cells := 0, slots := 0, locals := 111 }) (RdP G ((wX G x0 x1 (nI xn) f ++ BA) ++ wM G m0 t0 t1 t2 t3 h0 h1 h2 h3 h4 h5 sl la (nI tn) ts ta tb key (nI n) nu st de su mk ++ BC) [.ref x0, .int (nI j), .long tank]) (vp_Sl (fun r => r = f_rest tn ts ta tb n nu st de tank)) 0 0 (fun _ => False) := by
  refine Met.ofW (cc := cX3_rest) (maxL := 5) (ret := (some .long)) (by decide) rfl ?_
  intro p e s m args below meth c s₁ B hml hv
  obtain ⟨rfl, hP, hE⟩ := hv
  have hx := B.exec
  have hb := B.bytes
  have hr := B.returns
  have hts := atoms_spec (ws := wsX3_rest) B.pre
  have hown : s.vm.findClass RX3 = some m.cls := findClass_of_methodNamed B.named
  have hlocks := B.notSynchronized
  have hl := lv_entry ([.ref x0, .int (nI j), .long tank]) (n := 5) (Nat.le_of_ble_eq_true rfl)
  rw [lg_entry_eq]
  generalize (lg_sl ([.ref x0, .int (nI j), .long tank]) ++ List.replicate (5 - (lg_sl ([.ref x0, .int (nI j), .long tank])).length) Slot.unset).toArray = ls at hl ⊢
  replace hl : lv_has ls 5 [(0, .ref x0), (1, .int (nI j)), (2, .long tank)] := hl
  refine lv_aload_n hx hb dX3_rest_0 rfl (lv_at hl 0 rfl) ?_
  refine lv_iload_n hx hb dX3_rest_1 rfl (lv_at hl 1 rfl) ?_
  refine x_rq (va_runV (As := [.int (nI j)]) (rest := []) ⟨hx, hb, hml, hown, hts⟩ (ct_X3_find l G x0 x1 xn f (nI j) hxn) (cwV 1 hts gX3_rest_X3_find rfl rfl rfl (by decide +kernel) ⟨Nat.le_of_ble_eq_true rfl, Nat.le_of_ble_eq_true rfl⟩) (RdP.preV 0 4 rfl rfl (x_mid [] (wX G x0 x1 (nI xn) f) (BA ++ wM G m0 t0 t1 t2 t3 h0 h1 h2 h3 h4 h5 sl la (nI tn) ts ta tb key (nI n) nu st de su mk ++ BC) rfl hP) hE) rfl rfl hl.1 rfl (lv_room (Nat.le_of_ble_eq_true rfl)) dX3_rest_2 ⟨Nat.zero_le _, Nat.zero_le _⟩) (fun rq erq => ?_)
  rw [f_find_in hj hxn, hf] at erq
  subst erq
  refine W.eq (g2 := F0 m 5 ls [.ref m0]) rfl ?_
  refine lv_astore (lv' := [(4, .ref m0), (0, .ref x0), (1, .int (nI j)), (2, .long tank)]) hx hb dX3_rest_5 hl (by decide) rfl (fun ls hl => ?_)
  refine lv_aload hx hb dX3_rest_7 (lv_at hl 0 rfl) ?_
  refine lv_ifnull hx hb dX3_rest_9 ?_
  refine lv_lload_n hx hb dX3_rest_12 rfl (lv_at hl 3 rfl) ?_
  refine lv_lconst (v := 0) hx hb dX3_rest_13 (by decide) ?_
  refine lv_ldc2 (v := 1000000000) hx hb hown (hts (.constantLong RX3 85 1000000000) (by decide +kernel)) dX3_rest_14 ?_
  refine x_ri (va_runS (As := [.long tank, .long 0, .long 1000000000]) (rest := []) ⟨hx, hb, hml, hown, hts⟩ (ct_X3_within l G tank 0 1000000000) (va_cwS 3 hts gX3_rest_X3_within rfl rfl rfl (by decide +kernel) ⟨Nat.le_of_ble_eq_true rfl, Nat.le_of_ble_eq_true rfl⟩) (RdP.preS (fun k q h => by simp at h) hE) rfl rfl hl.1 rfl (lv_room (Nat.le_of_ble_eq_true rfl)) dX3_rest_17 ⟨Nat.zero_le _, Nat.zero_le _⟩) (fun r1 er1 => ?_)
  subst er1
  refine lv_if_ne (tgt := 27) hx hb dX3_rest_20 (by decide) (fun c20 => ?_) (fun c20 => ?_)
  · refine lv_aload hx hb dX3_rest_27 (lv_at hl 0 rfl) ?_
    refine x_rl (va_runV (As := []) (rest := []) ⟨hx, hb, hml, hown, hts⟩ (ct_X0_allThousandths l G m0 t0 t1 t2 t3 h0 h1 h2 h3 h4 h5 sl la tn ts ta tb key n nu st de su mk hc ht) (cwV 0 hts gX3_rest_X0_allThousandths rfl rfl rfl (by decide +kernel) ⟨Nat.le_of_ble_eq_true rfl, Nat.le_of_ble_eq_true rfl⟩) (RdP.preV 0 1 rfl rfl (x_mid (wX G x0 x1 (nI xn) f ++ BA) (wM G m0 t0 t1 t2 t3 h0 h1 h2 h3 h4 h5 sl la (nI tn) ts ta tb key (nI n) nu st de su mk) BC rfl hP) hE) rfl rfl hl.1 rfl (lv_room (Nat.le_of_ble_eq_true rfl)) dX3_rest_29 ⟨Nat.zero_le _, Nat.zero_le _⟩) (fun r2 er2 => ?_)
    subst er2
    refine lv_lload_n hx hb dX3_rest_32 rfl (lv_at hl 3 rfl) ?_
    refine lv_ldc2 (v := 1000) hx hb hown (hts (.constantLong RX3 97 1000) (by decide +kernel)) dX3_rest_33 ?_
    refine lv_lmul hx hb dX3_rest_36 ?_
    refine lv_lsub hx hb dX3_rest_37 ?_
    exact W.lret (v := ((f_all tn ts ta tb n nu st de) - (tank * 1000))) hx hb hr (fun t ht hW => ⟨_, rfl, by simp only [f_rest, if_neg c20], ht⟩) t_nil dX3_rest_38
  refine lv_ldc2 (v := (-9223372036854775808)) hx hb hown (hts (.constantLong RX3 91 (-9223372036854775808)) (by decide +kernel)) dX3_rest_23 ?_
  exact W.lret (v := (-9223372036854775808)) hx hb hr (fun t ht hW => ⟨_, rfl, by simp only [f_rest, if_pos c20], ht⟩) t_nil dX3_rest_26

set_option maxHeartbeats 4000000 in
set_option maxRecDepth 100000 in
/-- litres, another part -/
theorem cn_X3_litres (l : Launch) (G : Gx) (x0 x1 : Nat) (xn : Nat) (f : Nat → Option Nat) (BA BC : va_W) (j : Nat) (m0 t0 t1 t2 t3 h0 h1 h2 h3 h4 h5 : Nat) (sl : Int32) (la : Int64) (tn : Nat) (ts : Nat → Int32) (ta tb : Nat → Int64) (key : Int64) (n : Nat) (nu st : Nat → Int64) (de : Nat → Int32) (su : Nat → Int64) (mk : Nat → Int32) (row part : Int32) (hxn : xn ≤ 8) (hj : j < xn) (hf : f j = some m0) (hc : n ≤ 200) (ht : tn ≤ 16) (hp0 : ¬ part = 0) (hp1 : ¬ part = 1) : Met l yX3_litres wsX3_litres ({ frames := 1, cells := 0, slots := 0, locals := 21 }) (RdP G ((wX G x0 x1 (nI xn) f ++ BA) ++ wM G m0 t0 t1 t2 t3 h0 h1 h2 h3 h4 h5 sl la (nI tn) ts ta tb key (nI n) nu st de su mk ++ BC) [.ref x0, .int (nI j), .int row, .int part]) (vp_Sl (fun r => r = -1)) 0 0 (fun _ => False) := by
  refine Met.ofW (cc := cX3_litres) (maxL := 5) (ret := (some .long)) (by decide) rfl ?_
  intro p e s m args below meth c s₁ B hml hv
  obtain ⟨rfl, hP, hE⟩ := hv
  have hx := B.exec
  have hb := B.bytes
  have hr := B.returns
  have hts := atoms_spec (ws := wsX3_litres) B.pre
  have hown : s.vm.findClass RX3 = some m.cls := findClass_of_methodNamed B.named
  have hlocks := B.notSynchronized
  have hl := lv_entry ([.ref x0, .int (nI j), .int row, .int part]) (n := 5) (Nat.le_of_ble_eq_true rfl)
  rw [lg_entry_eq]
  generalize (lg_sl ([.ref x0, .int (nI j), .int row, .int part]) ++ List.replicate (5 - (lg_sl ([.ref x0, .int (nI j), .int row, .int part])).length) Slot.unset).toArray = ls at hl ⊢
  replace hl : lv_has ls 5 [(0, .ref x0), (1, .int (nI j)), (2, .int row), (3, .int part)] := hl
  refine lv_aload_n hx hb dX3_litres_0 rfl (lv_at hl 0 rfl) ?_
  refine lv_iload_n hx hb dX3_litres_1 rfl (lv_at hl 1 rfl) ?_
  refine x_rq (va_runV (As := [.int (nI j)]) (rest := []) ⟨hx, hb, hml, hown, hts⟩ (ct_X3_find l G x0 x1 xn f (nI j) hxn) (cwV 1 hts gX3_litres_X3_find rfl rfl rfl (by decide +kernel) ⟨Nat.le_of_ble_eq_true rfl, Nat.le_of_ble_eq_true rfl⟩) (RdP.preV 0 4 rfl rfl (x_mid [] (wX G x0 x1 (nI xn) f) (BA ++ wM G m0 t0 t1 t2 t3 h0 h1 h2 h3 h4 h5 sl la (nI tn) ts ta tb key (nI n) nu st de su mk ++ BC) rfl hP) hE) rfl rfl hl.1 rfl (lv_room (Nat.le_of_ble_eq_true rfl)) dX3_litres_2 ⟨Nat.zero_le _, Nat.zero_le _⟩) (fun rq erq => ?_)
  rw [f_find_in hj hxn, hf] at erq
  subst erq
  refine W.eq (g2 := F0 m 5 ls [.ref m0]) rfl ?_
  refine lv_astore (lv' := [(4, .ref m0), (0, .ref x0), (1, .int (nI j)), (2, .int row), (3, .int part)]) hx hb dX3_litres_5 hl (by decide) rfl (fun ls hl => ?_)
  refine lv_aload hx hb dX3_litres_7 (lv_at hl 0 rfl) ?_
  refine lv_ifnull hx hb dX3_litres_9 ?_
  refine lv_iload_n hx hb dX3_litres_12 rfl (lv_at hl 4 rfl) ?_
  refine lv_if_eq (tgt := 25) hx hb dX3_litres_13 (by decide) (fun c13 => absurd c13 hp0) (fun c13 => ?_)
  refine lv_iload_n hx hb dX3_litres_16 rfl (lv_at hl 4 rfl) ?_
  refine lv_iconst (v := 1) hx hb dX3_litres_17 (by decide) ?_
  refine lv_icmp_eq (tgt := 25) hx hb dX3_litres_18 (by decide) (fun c18 => absurd c18 hp1) (fun c18 => ?_)
  refine lv_ldc2 (v := (-1)) hx hb hown (hts (.constantLong RX3 40 (-1)) (by decide +kernel)) dX3_litres_21 ?_
  exact W.lret (v := (-1)) hx hb hr (fun t ht hW => ⟨_, rfl, rfl, ht⟩) t_nil dX3_litres_24

set_option maxHeartbeats 4000000 in
set_option maxRecDepth 100000 in
/-- litres of a row -/
theorem ct_X3_litres (l : Launch) (G : Gx) (x0 x1 : Nat) (xn : Nat) (f : Nat → Option Nat) (BA BC : va_W) (j : Nat) (m0 t0 t1 t2 t3 h0 h1 h2 h3 h4 h5 : Nat) (sl : Int32) (la : Int64) (tn : Nat) (ts : Nat → Int32) (ta tb : Nat → Int64) (key : Int64) (n : Nat) (nu st : Nat → Int64) (de : Nat → Int32) (su : Nat → Int64) (mk : Nat → Int32) (row part : Int32) (A0 B0 : Nat) (hxn : xn ≤ 8) (hj : j < xn) (hf : f j = some m0) (hc : n ≤ 200) (ht : tn ≤ 16) (hpart : part = 0 ∨ part = 1) (hrow : ¬ f_holds (nI n) row = 0) (hA : f_la tn ts ta n nu st de row = lN A0) (hB : f_lbw tn ts tb n st de row = lN B0) (hA2 : A0 < 2 ^ 62) (hB2 : B0 < 2 ^ 14) : Met l yX3_litres wsX3_litres ({ frames := 5, cells := 0, slots := 0, locals := 114 }) (RdP G ((wX G x0 x1 (nI xn) f ++ BA) ++ wM G m0 t0 t1 t2 t3 h0 h1 h2 h3 h4 h5 sl la (nI tn) ts ta tb key (nI n) nu st de su mk ++ BC) [.ref x0, .int (nI j), .int row, .int part]) (vp_Sl (fun r => r = (if part = 0 then f_quot (lN A0) (lN (Nat.gcd A0 B0)) else f_quot (lN B0) (lN (Nat.gcd A0 B0))))) 0 0 (fun _ => False) := by
  refine Met.ofW (cc := cX3_litres) (maxL := 5) (ret := (some .long)) (by decide) rfl ?_
  intro p e s m args below meth c s₁ B hml hv
  obtain ⟨rfl, hP, hE⟩ := hv
  have hx := B.exec
  have hb := B.bytes
  have hr := B.returns
  have hts := atoms_spec (ws := wsX3_litres) B.pre
  have hown : s.vm.findClass RX3 = some m.cls := findClass_of_methodNamed B.named
  have hlocks := B.notSynchronized
  have hiX0 : ∀ w ∈ wsX00, w ∈ wsX3_litres := by decide +kernel
  have hl := lv_entry ([.ref x0, .int (nI j), .int row, .int part]) (n := 5) (Nat.le_of_ble_eq_true rfl)
  rw [lg_entry_eq]
  generalize (lg_sl ([.ref x0, .int (nI j), .int row, .int part]) ++ List.replicate (5 - (lg_sl ([.ref x0, .int (nI j), .int row, .int part])).length) Slot.unset).toArray = ls at hl ⊢
  replace hl : lv_has ls 5 [(0, .ref x0), (1, .int (nI j)), (2, .int row), (3, .int part)] := hl
  refine lv_aload_n hx hb dX3_litres_0 rfl (lv_at hl 0 rfl) ?_
  refine lv_iload_n hx hb dX3_litres_1 rfl (lv_at hl 1 rfl) ?_
  refine x_rq (va_runV (As := [.int (nI j)]) (rest := []) ⟨hx, hb, hml, hown, hts⟩ (ct_X3_find l G x0 x1 xn f (nI j) hxn) (cwV 1 hts gX3_litres_X3_find rfl rfl rfl (by decide +kernel) ⟨Nat.le_of_ble_eq_true rfl, Nat.le_of_ble_eq_true rfl⟩) (RdP.preV 0 4 rfl rfl (x_mid [] (wX G x0 x1 (nI xn) f) (BA ++ wM G m0 t0 t1 t2 t3 h0 h1 h2 h3 h4 h5 sl la (nI tn) ts ta tb key (nI n) nu st de su mk ++ BC) rfl hP) hE) rfl rfl hl.1 rfl (lv_room (Nat.le_of_ble_eq_true rfl)) dX3_litres_2 ⟨Nat.zero_le _, Nat.zero_le _⟩) (fun rq erq => ?_)
  rw [f_find_in hj hxn, hf] at erq
  subst erq
  refine W.eq (g2 := F0 m 5 ls [.ref m0]) rfl ?_
  refine lv_astore (lv' := [(4, .ref m0), (0, .ref x0), (1, .int (nI j)), (2, .int row), (3, .int part)]) hx hb dX3_litres_5 hl (by decide) rfl (fun ls hl => ?_)
  refine lv_aload hx hb dX3_litres_7 (lv_at hl 0 rfl) ?_
  refine lv_ifnull hx hb dX3_litres_9 ?_
  refine lv_iload_n hx hb dX3_litres_12 rfl (lv_at hl 4 rfl) ?_
  refine lv_if_eq (tgt := 25) hx hb dX3_litres_13 (by decide) (fun c13 => ?_) (fun c13 => ?_)
  · refine lv_aload hx hb dX3_litres_25 (lv_at hl 0 rfl) ?_
    refine va_getN (D := G.1) (ci := 1) (v := .ref h0) (C := RX0) (T := TX0) (N := 4) hx hb hts hiX0 hown hE.1 (x_mid (wX G x0 x1 (nI xn) f ++ BA) (wM G m0 t0 t1 t2 t3 h0 h1 h2 h3 h4 h5 sl la (nI tn) ts ta tb key (nI n) nu st de su mk) BC rfl hP) 0 rfl rfl 1 (by decide) (va_Nw.use (A := _) rfl hE.2.1.1.2.2.2.2) (fun _ h9 => h9) rfl dX3_litres_27 ?_
    refine lv_iload_n hx hb dX3_litres_30 rfl (lv_at hl 3 rfl) ?_
    refine x_ri (va_runV (As := [.int row]) (rest := []) ⟨hx, hb, hml, hown, hts⟩ (ct_X1_holds l G h0 h1 h2 h3 h4 h5 key n nu st de su mk row) (cwV 1 hts gX3_litres_X1_holds rfl rfl rfl (by decide +kernel) ⟨Nat.le_of_ble_eq_true rfl, Nat.le_of_ble_eq_true rfl⟩) (RdP.preV 0 2 rfl rfl (x_mid [(m0, .inr (1, [.ref t0, .ref h0, .int sl, .long la])), (t0, .inr (3, [.ref t1, .ref t2, .ref t3, .int (nI tn)])), (t1, .inl (kI G, 16, .inl ts)), (t2, .inl (kJ G, 16, .inr (.inl ta))), (t3, .inl (kJ G, 16, .inr (.inl tb)))] (wR G h0 h1 h2 h3 h4 h5 key (nI n) nu st de su mk) [] rfl (x_mid (wX G x0 x1 (nI xn) f ++ BA) (wM G m0 t0 t1 t2 t3 h0 h1 h2 h3 h4 h5 sl la (nI tn) ts ta tb key (nI n) nu st de su mk) BC rfl hP)) hE) rfl rfl hl.1 rfl (lv_room (Nat.le_of_ble_eq_true rfl)) dX3_litres_31 ⟨Nat.zero_le _, Nat.zero_le _⟩) (fun r1 er1 => ?_)
    subst er1
    refine lv_if_ne (tgt := 47) hx hb dX3_litres_34 (by decide) (fun c34 => ?_) (fun c34 => absurd c34 hrow)
    refine lv_aload hx hb dX3_litres_47 (lv_at hl 0 rfl) ?_
    refine lv_iload_n hx hb dX3_litres_49 rfl (lv_at hl 3 rfl) ?_
    refine lv_iload_n hx hb dX3_litres_50 rfl (lv_at hl 4 rfl) ?_
    refine x_rl (va_runV (As := [.int row, .int part]) (rest := []) ⟨hx, hb, hml, hown, hts⟩ (ct_X0_fractionPart l G m0 t0 t1 t2 t3 h0 h1 h2 h3 h4 h5 sl la tn ts ta tb key n nu st de su mk row part A0 B0 hc ht hA hB hA2 hB2) (cwV 2 hts gX3_litres_X0_fractionPart rfl rfl rfl (by decide +kernel) ⟨Nat.le_of_ble_eq_true rfl, Nat.le_of_ble_eq_true rfl⟩) (RdP.preV 0 1 rfl rfl (x_mid (wX G x0 x1 (nI xn) f ++ BA) (wM G m0 t0 t1 t2 t3 h0 h1 h2 h3 h4 h5 sl la (nI tn) ts ta tb key (nI n) nu st de su mk) BC rfl hP) hE) rfl rfl hl.1 rfl (lv_room (Nat.le_of_ble_eq_true rfl)) dX3_litres_51 ⟨Nat.zero_le _, Nat.zero_le _⟩) (fun r2 er2 => ?_)
    subst er2
    exact W.lret (v := (if part = 0 then f_quot (lN A0) (lN (Nat.gcd A0 B0)) else f_quot (lN B0) (lN (Nat.gcd A0 B0)))) hx hb hr (fun t ht hW => ⟨_, rfl, rfl, ht⟩) t_nil dX3_litres_54
  refine lv_iload_n hx hb dX3_litres_16 rfl (lv_at hl 4 rfl) ?_
  refine lv_iconst (v := 1) hx hb dX3_litres_17 (by decide) ?_
  refine lv_icmp_eq (tgt := 25) hx hb dX3_litres_18 (by decide) (fun c18 => ?_) (fun c18 => ?_)
  · refine lv_aload hx hb dX3_litres_25 (lv_at hl 0 rfl) ?_
    refine va_getN (D := G.1) (ci := 1) (v := .ref h0) (C := RX0) (T := TX0) (N := 4) hx hb hts hiX0 hown hE.1 (x_mid (wX G x0 x1 (nI xn) f ++ BA) (wM G m0 t0 t1 t2 t3 h0 h1 h2 h3 h4 h5 sl la (nI tn) ts ta tb key (nI n) nu st de su mk) BC rfl hP) 0 rfl rfl 1 (by decide) (va_Nw.use (A := _) rfl hE.2.1.1.2.2.2.2) (fun _ h9 => h9) rfl dX3_litres_27 ?_
    refine lv_iload_n hx hb dX3_litres_30 rfl (lv_at hl 3 rfl) ?_
    refine x_ri (va_runV (As := [.int row]) (rest := []) ⟨hx, hb, hml, hown, hts⟩ (ct_X1_holds l G h0 h1 h2 h3 h4 h5 key n nu st de su mk row) (cwV 1 hts gX3_litres_X1_holds rfl rfl rfl (by decide +kernel) ⟨Nat.le_of_ble_eq_true rfl, Nat.le_of_ble_eq_true rfl⟩) (RdP.preV 0 2 rfl rfl (x_mid [(m0, .inr (1, [.ref t0, .ref h0, .int sl, .long la])), (t0, .inr (3, [.ref t1, .ref t2, .ref t3, .int (nI tn)])), (t1, .inl (kI G, 16, .inl ts)), (t2, .inl (kJ G, 16, .inr (.inl ta))), (t3, .inl (kJ G, 16, .inr (.inl tb)))] (wR G h0 h1 h2 h3 h4 h5 key (nI n) nu st de su mk) [] rfl (x_mid (wX G x0 x1 (nI xn) f ++ BA) (wM G m0 t0 t1 t2 t3 h0 h1 h2 h3 h4 h5 sl la (nI tn) ts ta tb key (nI n) nu st de su mk) BC rfl hP)) hE) rfl rfl hl.1 rfl (lv_room (Nat.le_of_ble_eq_true rfl)) dX3_litres_31 ⟨Nat.zero_le _, Nat.zero_le _⟩) (fun r3 er3 => ?_)
    subst er3
    refine lv_if_ne (tgt := 47) hx hb dX3_litres_34 (by decide) (fun c34 => ?_) (fun c34 => absurd c34 hrow)
    refine lv_aload hx hb dX3_litres_47 (lv_at hl 0 rfl) ?_
    refine lv_iload_n hx hb dX3_litres_49 rfl (lv_at hl 3 rfl) ?_
    refine lv_iload_n hx hb dX3_litres_50 rfl (lv_at hl 4 rfl) ?_
    refine x_rl (va_runV (As := [.int row, .int part]) (rest := []) ⟨hx, hb, hml, hown, hts⟩ (ct_X0_fractionPart l G m0 t0 t1 t2 t3 h0 h1 h2 h3 h4 h5 sl la tn ts ta tb key n nu st de su mk row part A0 B0 hc ht hA hB hA2 hB2) (cwV 2 hts gX3_litres_X0_fractionPart rfl rfl rfl (by decide +kernel) ⟨Nat.le_of_ble_eq_true rfl, Nat.le_of_ble_eq_true rfl⟩) (RdP.preV 0 1 rfl rfl (x_mid (wX G x0 x1 (nI xn) f ++ BA) (wM G m0 t0 t1 t2 t3 h0 h1 h2 h3 h4 h5 sl la (nI tn) ts ta tb key (nI n) nu st de su mk) BC rfl hP) hE) rfl rfl hl.1 rfl (lv_room (Nat.le_of_ble_eq_true rfl)) dX3_litres_51 ⟨Nat.zero_le _, Nat.zero_le _⟩) (fun r4 er4 => ?_)
    subst er4
    exact W.lret (v := (if part = 0 then f_quot (lN A0) (lN (Nat.gcd A0 B0)) else f_quot (lN B0) (lN (Nat.gcd A0 B0)))) hx hb hr (fun t ht hW => ⟨_, rfl, rfl, ht⟩) t_nil dX3_litres_54
  exact absurd hpart (by rintro (h | h); exact c13 h; exact c18 h)

set_option maxHeartbeats 4000000 in
set_option maxRecDepth 100000 in
/-- X3_pulses -/
theorem ct_X3_pulses (l : Launch) (G : Gx) (x0 x1 : Nat) (xn : Nat) (f : Nat → Option Nat) (BA BC : va_W) (j : Nat) (m0 t0 t1 t2 t3 h0 h1 h2 h3 h4 h5 : Nat) (sl : Int32) (la : Int64) (tn : Nat) (ts : Nat → Int32) (ta tb : Nat → Int64) (key : Int64) (n : Nat) (nu st : Nat → Int64) (de : Nat → Int32) (su : Nat → Int64) (mk : Nat → Int32) (number second : Int64) (degrees : Int32) (hxn : xn ≤ 8) (hj : j < xn) (hf : f j = some m0) (hc : n ≤ 200) (ht : tn ≤ 16) (hsl : sl = 0 ∨ sl = 1) : Met l yX3_pulses wsX3_pulses ({ frames := 4, cells := 0, slots := 0, locals := 103 }) (WrP G ((wX G x0 x1 (nI xn) f ++ BA) ++ wM G m0 t0 t1 t2 t3 h0 h1 h2 h3 h4 h5 sl la (nI tn) ts ta tb key (nI n) nu st de su mk ++ BC) [.ref x0, .int (nI j), .long number, .long second, .int degrees]) (va_Qi (fun r (u : va_W) => (r = 0 ∧ (f_fits tn la number second degrees = 0 ∨ n = 200) ∧ u = (wX G x0 x1 (nI xn) f ++ BA) ++ wM G m0 t0 t1 t2 t3 h0 h1 h2 h3 h4 h5 sl la (nI tn) ts ta tb key (nI n) nu st de su mk ++ BC) ∨ (r = 1 ∧ ¬ f_fits tn la number second degrees = 0 ∧ n < 200 ∧ u = (wX G x0 x1 (nI xn) f ++ BA) ++ wM G m0 t0 t1 t2 t3 h0 h1 h2 h3 h4 h5 sl second (nI tn) ts ta tb key (nI (n + 1)) (vp_updL nu n number) (vp_updL st n second) (upd de n degrees) (vp_updL su n (f_due key (n + 1) (vp_updL nu n number) (vp_updL st n second) (upd de n degrees) su (nI n))) (upd mk n (if sl = 0 then 1 else 0)) ++ BC)) (fun u t => va_P G.1 vwCl u t.heap) (adr ((wX G x0 x1 (nI xn) f ++ BA) ++ wM G m0 t0 t1 t2 t3 h0 h1 h2 h3 h4 h5 sl la (nI tn) ts ta tb key (nI n) nu st de su mk ++ BC))) 0 0 (adr ((wX G x0 x1 (nI xn) f ++ BA) ++ wM G m0 t0 t1 t2 t3 h0 h1 h2 h3 h4 h5 sl la (nI tn) ts ta tb key (nI n) nu st de su mk ++ BC)) := by
  refine Met.ofW (cc := cX3_pulses) (maxL := 8) (ret := (some .boolean)) (by decide) rfl ?_
  intro p e s m args below meth c s₁ B hml hv
  obtain ⟨rfl, hP, hE, hD0⟩ := hv
  have hx := B.exec
  have hb := B.bytes
  have hr := B.returns
  have hts := atoms_spec (ws := wsX3_pulses) B.pre
  have hown : s.vm.findClass RX3 = some m.cls := findClass_of_methodNamed B.named
  have hlocks := B.notSynchronized
  have hD : va_D (adr ((wX G x0 x1 (nI xn) f ++ BA) ++ wM G m0 t0 t1 t2 t3 h0 h1 h2 h3 h4 h5 sl la (nI tn) ts ta tb key (nI n) nu st de su mk ++ BC)) ((wX G x0 x1 (nI xn) f ++ BA) ++ wM G m0 t0 t1 t2 t3 h0 h1 h2 h3 h4 h5 sl la (nI tn) ts ta tb key (nI n) nu st de su mk ++ BC) := ⟨hD0.1, fun k q hk => ⟨k, q.2, hk⟩⟩
  generalize adr ((wX G x0 x1 (nI xn) f ++ BA) ++ wM G m0 t0 t1 t2 t3 h0 h1 h2 h3 h4 h5 sl la (nI tn) ts ta tb key (nI n) nu st de su mk ++ BC) = A at hD ⊢
  have hS : va_S A s.heap s.heap [] := va_S.rf
  have hl := lv_entry ([.ref x0, .int (nI j), .long number, .long second, .int degrees]) (n := 8) (Nat.le_of_ble_eq_true rfl)
  rw [lg_entry_eq]
  generalize (lg_sl ([.ref x0, .int (nI j), .long number, .long second, .int degrees]) ++ List.replicate (8 - (lg_sl ([.ref x0, .int (nI j), .long number, .long second, .int degrees])).length) Slot.unset).toArray = ls at hl ⊢
  replace hl : lv_has ls 8 [(0, .ref x0), (1, .int (nI j)), (2, .long number), (4, .long second), (6, .int degrees)] := hl
  refine lv_aload_n hx hb dX3_pulses_0 rfl (lv_at hl 0 rfl) ?_
  refine lv_iload_n hx hb dX3_pulses_1 rfl (lv_at hl 1 rfl) ?_
  refine x_rq (va_runV (As := [.int (nI j)]) (rest := []) ⟨hx, hb, hml, hown, hts⟩ (ct_X3_find l G x0 x1 xn f (nI j) hxn) (cwV 1 hts gX3_pulses_X3_find rfl rfl rfl (by decide +kernel) ⟨Nat.le_of_ble_eq_true rfl, Nat.le_of_ble_eq_true rfl⟩) (RdP.preV 0 4 rfl rfl (x_mid [] (wX G x0 x1 (nI xn) f) (BA ++ wM G m0 t0 t1 t2 t3 h0 h1 h2 h3 h4 h5 sl la (nI tn) ts ta tb key (nI n) nu st de su mk ++ BC) rfl hP) hE) rfl rfl hl.1 rfl (lv_room (Nat.le_of_ble_eq_true rfl)) dX3_pulses_2 ⟨Nat.zero_le _, Nat.zero_le _⟩) (fun rq erq => ?_)
  rw [f_find_in hj hxn, hf] at erq
  subst erq
  refine W.eq (g2 := F0 m 5 ls [.ref m0]) rfl ?_
  refine lv_astore (lv' := [(7, .ref m0), (0, .ref x0), (1, .int (nI j)), (2, .long number), (4, .long second), (6, .int degrees)]) hx hb dX3_pulses_5 hl (by decide) rfl (fun ls hl => ?_)
  refine lv_aload hx hb dX3_pulses_7 (lv_at hl 0 rfl) ?_
  refine lv_ifnull hx hb dX3_pulses_9 ?_
  refine lv_aload hx hb dX3_pulses_12 (lv_at hl 0 rfl) ?_
  refine lv_lload_n hx hb dX3_pulses_14 rfl (lv_at hl 3 rfl) ?_
  refine lv_lload hx hb dX3_pulses_15 (lv_at hl 4 rfl) ?_
  refine lv_iload hx hb dX3_pulses_17 (lv_at hl 5 rfl) ?_
  refine va_calli (va_runV (As := [.long number, .long second, .int degrees]) (rest := []) ⟨hx, hb, hml, hown, hts⟩ (ct_X0_addReading l G m0 t0 t1 t2 t3 h0 h1 h2 h3 h4 h5 sl la tn ts ta tb key n nu st de su mk number second degrees hc ht hsl) (cwV 3 hts gX3_pulses_X0_addReading rfl rfl rfl (by decide +kernel) ⟨Nat.le_of_ble_eq_true rfl, Nat.le_of_ble_eq_true rfl⟩) (WrP.preV 0 1 rfl rfl (x_mid (wX G x0 x1 (nI xn) f ++ BA) (wM G m0 t0 t1 t2 t3 h0 h1 h2 h3 h4 h5 sl la (nI tn) ts ta tb key (nI n) nu st de su mk) BC rfl hP) hE (x_midD (wX G x0 x1 (nI xn) f ++ BA) (wM G m0 t0 t1 t2 t3 h0 h1 h2 h3 h4 h5 sl la (nI tn) ts ta tb key (nI n) nu st de su mk) BC rfl hD)) rfl rfl hl.1 rfl (lv_room (Nat.le_of_ble_eq_true rfl)) dX3_pulses_19 ⟨Nat.zero_le _, Nat.zero_le _⟩) hS (fun q _ h => (x_adr (wX G x0 x1 (nI xn) f ++ BA) (wM G m0 t0 t1 t2 t3 h0 h1 h2 h3 h4 h5 sl la (nI tn) ts ta tb key (nI n) nu st de su mk) BC rfl hD) q h) (x_adr (wX G x0 x1 (nI xn) f ++ BA) (wM G m0 t0 t1 t2 t3 h0 h1 h2 h3 h4 h5 sl la (nI tn) ts ta tb key (nI n) nu st de su mk) BC rfl hD) (fun r1 u t H1 locs ht hvm hw hB hz1 hk1 hS => ?_)
  rw [ht] at hB
  rcases hw with ⟨rfl, hq, rfl⟩ | ⟨rfl, hq1, hq2, rfl⟩
  · obtain ⟨hP, hD⟩ := x_join (wX G x0 x1 (nI xn) f ++ BA) (wM G m0 t0 t1 t2 t3 h0 h1 h2 h3 h4 h5 sl la (nI tn) ts ta tb key (nI n) nu st de su mk) BC (wM G m0 t0 t1 t2 t3 h0 h1 h2 h3 h4 h5 sl la (nI tn) ts ta tb key (nI n) nu st de su mk) rfl hP hD hk1 hB rfl
    generalize H1 = H at hP hS ⊢
    replace hP : va_P G.1 vwCl ((wX G x0 x1 (nI xn) f ++ BA) ++ wM G m0 t0 t1 t2 t3 h0 h1 h2 h3 h4 h5 sl la (nI tn) ts ta tb key (nI n) nu st de su mk ++ BC) H := hP
    replace hD : va_D A ((wX G x0 x1 (nI xn) f ++ BA) ++ wM G m0 t0 t1 t2 t3 h0 h1 h2 h3 h4 h5 sl la (nI tn) ts ta tb key (nI n) nu st de su mk ++ BC) := hD
    refine lv_if_eq (tgt := 29) hx hb dX3_pulses_22 (by decide) (fun c22 => ?_) (fun c22 => absurd c22 (by decide))
    refine lv_iconst (v := 0) hx hb dX3_pulses_29 (by decide) ?_
    exact W.zret (v := 0) hx hb hr (zb (Or.inl rfl)) (fun tZ hZ hW => ⟨⟨0, (wX G x0 x1 (nI xn) f ++ BA) ++ wM G m0 t0 t1 t2 t3 h0 h1 h2 h3 h4 h5 sl la (nI tn) ts ta tb key (nI n) nu st de su mk ++ BC, rfl, Or.inl ⟨rfl, hq, rfl⟩, by show va_P _ _ _ tZ.heap; rw [hZ]; exact hP⟩, hS.F hZ⟩) hS.2.2 dX3_pulses_30
  obtain ⟨hP, hD⟩ := x_join (wX G x0 x1 (nI xn) f ++ BA) (wM G m0 t0 t1 t2 t3 h0 h1 h2 h3 h4 h5 sl la (nI tn) ts ta tb key (nI n) nu st de su mk) BC (wM G m0 t0 t1 t2 t3 h0 h1 h2 h3 h4 h5 sl second (nI tn) ts ta tb key (nI (n + 1)) (vp_updL nu n number) (vp_updL st n second) (upd de n degrees) (vp_updL su n (f_due key (n + 1) (vp_updL nu n number) (vp_updL st n second) (upd de n degrees) su (nI n))) (upd mk n (if sl = 0 then 1 else 0))) rfl hP hD hk1 hB rfl
  generalize H1 = H at hP hS ⊢
  replace hP : va_P G.1 vwCl ((wX G x0 x1 (nI xn) f ++ BA) ++ wM G m0 t0 t1 t2 t3 h0 h1 h2 h3 h4 h5 sl second (nI tn) ts ta tb key (nI (n + 1)) (vp_updL nu n number) (vp_updL st n second) (upd de n degrees) (vp_updL su n (f_due key (n + 1) (vp_updL nu n number) (vp_updL st n second) (upd de n degrees) su (nI n))) (upd mk n (if sl = 0 then 1 else 0)) ++ BC) H := hP
  replace hD : va_D A ((wX G x0 x1 (nI xn) f ++ BA) ++ wM G m0 t0 t1 t2 t3 h0 h1 h2 h3 h4 h5 sl second (nI tn) ts ta tb key (nI (n + 1)) (vp_updL nu n number) (vp_updL st n second) (upd de n degrees) (vp_updL su n (f_due key (n + 1) (vp_updL nu n number) (vp_updL st n second) (upd de n degrees) su (nI n))) (upd mk n (if sl = 0 then 1 else 0)) ++ BC) := hD
  refine lv_if_eq (tgt := 29) hx hb dX3_pulses_22 (by decide) (fun c22 => absurd c22 (by decide)) (fun c22 => ?_)
  refine lv_iconst (v := 1) hx hb dX3_pulses_25 (by decide) ?_
  refine lv_goto (tgt := 30) hx hb dX3_pulses_26 (by decide) ?_
  exact W.zret (v := 1) hx hb hr (zb (Or.inr rfl)) (fun tZ hZ hW => ⟨⟨1, (wX G x0 x1 (nI xn) f ++ BA) ++ wM G m0 t0 t1 t2 t3 h0 h1 h2 h3 h4 h5 sl second (nI tn) ts ta tb key (nI (n + 1)) (vp_updL nu n number) (vp_updL st n second) (upd de n degrees) (vp_updL su n (f_due key (n + 1) (vp_updL nu n number) (vp_updL st n second) (upd de n degrees) su (nI n))) (upd mk n (if sl = 0 then 1 else 0)) ++ BC, rfl, Or.inr ⟨rfl, hq1, hq2, rfl⟩, by show va_P _ _ _ tZ.heap; rw [hZ]; exact hP⟩, hS.F hZ⟩) hS.2.2 dX3_pulses_30

set_option maxHeartbeats 4000000 in
set_option maxRecDepth 100000 in
/-- X3_reset -/
theorem ct_X3_reset (l : Launch) (G : Gx) (x0 x1 : Nat) (xn : Nat) (f : Nat → Option Nat) (BA BC : va_W) (j : Nat) (m0 t0 t1 t2 t3 h0 h1 h2 h3 h4 h5 : Nat) (sl : Int32) (la : Int64) (tn : Nat) (ts : Nat → Int32) (ta tb : Nat → Int64) (key : Int64) (n : Nat) (nu st : Nat → Int64) (de : Nat → Int32) (su : Nat → Int64) (mk : Nat → Int32) (number : Int64) (hxn : xn ≤ 8) (hj : j < xn) (hf : f j = some m0) (hc : n ≤ 200) (ht : tn ≤ 16) (hsl : sl = 0 ∨ sl = 1) : Met l yX3_reset wsX3_reset ({ frames := 4, cells := 0, slots := 0, locals := 99 }) (WrP G ((wX G x0 x1 (nI xn) f ++ BA) ++ wM G m0 t0 t1 t2 t3 h0 h1 h2 h3 h4 h5 sl la (nI tn) ts ta tb key (nI n) nu st de su mk ++ BC) [.ref x0, .int (nI j), .long number]) (va_Qi (fun r (u : va_W) => (r = 0 ∧ (f_within number 0 1000000000000 = 0 ∨ n = 200) ∧ u = (wX G x0 x1 (nI xn) f ++ BA) ++ wM G m0 t0 t1 t2 t3 h0 h1 h2 h3 h4 h5 sl la (nI tn) ts ta tb key (nI n) nu st de su mk ++ BC) ∨ (r = 1 ∧ ¬ f_within number 0 1000000000000 = 0 ∧ n < 200 ∧ u = (wX G x0 x1 (nI xn) f ++ BA) ++ wM G m0 t0 t1 t2 t3 h0 h1 h2 h3 h4 h5 sl la (nI tn) ts ta tb key (nI (n + 1)) (vp_updL nu n number) (vp_updL st n (-1)) (upd de n 0) (vp_updL su n (f_due key (n + 1) (vp_updL nu n number) (vp_updL st n (-1)) (upd de n 0) su (nI n))) (upd mk n (if sl = 0 then 1 else 0)) ++ BC)) (fun u t => va_P G.1 vwCl u t.heap) (adr ((wX G x0 x1 (nI xn) f ++ BA) ++ wM G m0 t0 t1 t2 t3 h0 h1 h2 h3 h4 h5 sl la (nI tn) ts ta tb key (nI n) nu st de su mk ++ BC))) 0 0 (adr ((wX G x0 x1 (nI xn) f ++ BA) ++ wM G m0 t0 t1 t2 t3 h0 h1 h2 h3 h4 h5 sl la (nI tn) ts ta tb key (nI n) nu st de su mk ++ BC)) := by
  refine Met.ofW (cc := cX3_reset) (maxL := 5) (ret := (some .boolean)) (by decide) rfl ?_
  intro p e s m args below meth c s₁ B hml hv
  obtain ⟨rfl, hP, hE, hD0⟩ := hv
  have hx := B.exec
  have hb := B.bytes
  have hr := B.returns
  have hts := atoms_spec (ws := wsX3_reset) B.pre
  have hown : s.vm.findClass RX3 = some m.cls := findClass_of_methodNamed B.named
  have hlocks := B.notSynchronized
  have hD : va_D (adr ((wX G x0 x1 (nI xn) f ++ BA) ++ wM G m0 t0 t1 t2 t3 h0 h1 h2 h3 h4 h5 sl la (nI tn) ts ta tb key (nI n) nu st de su mk ++ BC)) ((wX G x0 x1 (nI xn) f ++ BA) ++ wM G m0 t0 t1 t2 t3 h0 h1 h2 h3 h4 h5 sl la (nI tn) ts ta tb key (nI n) nu st de su mk ++ BC) := ⟨hD0.1, fun k q hk => ⟨k, q.2, hk⟩⟩
  generalize adr ((wX G x0 x1 (nI xn) f ++ BA) ++ wM G m0 t0 t1 t2 t3 h0 h1 h2 h3 h4 h5 sl la (nI tn) ts ta tb key (nI n) nu st de su mk ++ BC) = A at hD ⊢
  have hS : va_S A s.heap s.heap [] := va_S.rf
  have hl := lv_entry ([.ref x0, .int (nI j), .long number]) (n := 5) (Nat.le_of_ble_eq_true rfl)
  rw [lg_entry_eq]
  generalize (lg_sl ([.ref x0, .int (nI j), .long number]) ++ List.replicate (5 - (lg_sl ([.ref x0, .int (nI j), .long number])).length) Slot.unset).toArray = ls at hl ⊢
  replace hl : lv_has ls 5 [(0, .ref x0), (1, .int (nI j)), (2, .long number)] := hl
  refine lv_aload_n hx hb dX3_reset_0 rfl (lv_at hl 0 rfl) ?_
  refine lv_iload_n hx hb dX3_reset_1 rfl (lv_at hl 1 rfl) ?_
  refine x_rq (va_runV (As := [.int (nI j)]) (rest := []) ⟨hx, hb, hml, hown, hts⟩ (ct_X3_find l G x0 x1 xn f (nI j) hxn) (cwV 1 hts gX3_reset_X3_find rfl rfl rfl (by decide +kernel) ⟨Nat.le_of_ble_eq_true rfl, Nat.le_of_ble_eq_true rfl⟩) (RdP.preV 0 4 rfl rfl (x_mid [] (wX G x0 x1 (nI xn) f) (BA ++ wM G m0 t0 t1 t2 t3 h0 h1 h2 h3 h4 h5 sl la (nI tn) ts ta tb key (nI n) nu st de su mk ++ BC) rfl hP) hE) rfl rfl hl.1 rfl (lv_room (Nat.le_of_ble_eq_true rfl)) dX3_reset_2 ⟨Nat.zero_le _, Nat.zero_le _⟩) (fun rq erq => ?_)
  rw [f_find_in hj hxn, hf] at erq
  subst erq
  refine W.eq (g2 := F0 m 5 ls [.ref m0]) rfl ?_
  refine lv_astore (lv' := [(4, .ref m0), (0, .ref x0), (1, .int (nI j)), (2, .long number)]) hx hb dX3_reset_5 hl (by decide) rfl (fun ls hl => ?_)
  refine lv_aload hx hb dX3_reset_7 (lv_at hl 0 rfl) ?_
  refine lv_ifnull hx hb dX3_reset_9 ?_
  refine lv_aload hx hb dX3_reset_12 (lv_at hl 0 rfl) ?_
  refine lv_lload_n hx hb dX3_reset_14 rfl (lv_at hl 3 rfl) ?_
  refine va_calli (va_runV (As := [.long number]) (rest := []) ⟨hx, hb, hml, hown, hts⟩ (ct_X0_addReset l G m0 t0 t1 t2 t3 h0 h1 h2 h3 h4 h5 sl la tn ts ta tb key n nu st de su mk number hc ht hsl) (cwV 1 hts gX3_reset_X0_addReset rfl rfl rfl (by decide +kernel) ⟨Nat.le_of_ble_eq_true rfl, Nat.le_of_ble_eq_true rfl⟩) (WrP.preV 0 1 rfl rfl (x_mid (wX G x0 x1 (nI xn) f ++ BA) (wM G m0 t0 t1 t2 t3 h0 h1 h2 h3 h4 h5 sl la (nI tn) ts ta tb key (nI n) nu st de su mk) BC rfl hP) hE (x_midD (wX G x0 x1 (nI xn) f ++ BA) (wM G m0 t0 t1 t2 t3 h0 h1 h2 h3 h4 h5 sl la (nI tn) ts ta tb key (nI n) nu st de su mk) BC rfl hD)) rfl rfl hl.1 rfl (lv_room (Nat.le_of_ble_eq_true rfl)) dX3_reset_15 ⟨Nat.zero_le _, Nat.zero_le _⟩) hS (fun q _ h => (x_adr (wX G x0 x1 (nI xn) f ++ BA) (wM G m0 t0 t1 t2 t3 h0 h1 h2 h3 h4 h5 sl la (nI tn) ts ta tb key (nI n) nu st de su mk) BC rfl hD) q h) (x_adr (wX G x0 x1 (nI xn) f ++ BA) (wM G m0 t0 t1 t2 t3 h0 h1 h2 h3 h4 h5 sl la (nI tn) ts ta tb key (nI n) nu st de su mk) BC rfl hD) (fun r1 u t H1 locs ht hvm hw hB hz1 hk1 hS => ?_)
  rw [ht] at hB
  rcases hw with ⟨rfl, hq, rfl⟩ | ⟨rfl, hq1, hq2, rfl⟩
  · obtain ⟨hP, hD⟩ := x_join (wX G x0 x1 (nI xn) f ++ BA) (wM G m0 t0 t1 t2 t3 h0 h1 h2 h3 h4 h5 sl la (nI tn) ts ta tb key (nI n) nu st de su mk) BC (wM G m0 t0 t1 t2 t3 h0 h1 h2 h3 h4 h5 sl la (nI tn) ts ta tb key (nI n) nu st de su mk) rfl hP hD hk1 hB rfl
    generalize H1 = H at hP hS ⊢
    replace hP : va_P G.1 vwCl ((wX G x0 x1 (nI xn) f ++ BA) ++ wM G m0 t0 t1 t2 t3 h0 h1 h2 h3 h4 h5 sl la (nI tn) ts ta tb key (nI n) nu st de su mk ++ BC) H := hP
    replace hD : va_D A ((wX G x0 x1 (nI xn) f ++ BA) ++ wM G m0 t0 t1 t2 t3 h0 h1 h2 h3 h4 h5 sl la (nI tn) ts ta tb key (nI n) nu st de su mk ++ BC) := hD
    refine lv_if_eq (tgt := 25) hx hb dX3_reset_18 (by decide) (fun c18 => ?_) (fun c18 => absurd c18 (by decide))
    refine lv_iconst (v := 0) hx hb dX3_reset_25 (by decide) ?_
    exact W.zret (v := 0) hx hb hr (zb (Or.inl rfl)) (fun tZ hZ hW => ⟨⟨0, (wX G x0 x1 (nI xn) f ++ BA) ++ wM G m0 t0 t1 t2 t3 h0 h1 h2 h3 h4 h5 sl la (nI tn) ts ta tb key (nI n) nu st de su mk ++ BC, rfl, Or.inl ⟨rfl, hq, rfl⟩, by show va_P _ _ _ tZ.heap; rw [hZ]; exact hP⟩, hS.F hZ⟩) hS.2.2 dX3_reset_26
  obtain ⟨hP, hD⟩ := x_join (wX G x0 x1 (nI xn) f ++ BA) (wM G m0 t0 t1 t2 t3 h0 h1 h2 h3 h4 h5 sl la (nI tn) ts ta tb key (nI n) nu st de su mk) BC (wM G m0 t0 t1 t2 t3 h0 h1 h2 h3 h4 h5 sl la (nI tn) ts ta tb key (nI (n + 1)) (vp_updL nu n number) (vp_updL st n (-1)) (upd de n 0) (vp_updL su n (f_due key (n + 1) (vp_updL nu n number) (vp_updL st n (-1)) (upd de n 0) su (nI n))) (upd mk n (if sl = 0 then 1 else 0))) rfl hP hD hk1 hB rfl
  generalize H1 = H at hP hS ⊢
  replace hP : va_P G.1 vwCl ((wX G x0 x1 (nI xn) f ++ BA) ++ wM G m0 t0 t1 t2 t3 h0 h1 h2 h3 h4 h5 sl la (nI tn) ts ta tb key (nI (n + 1)) (vp_updL nu n number) (vp_updL st n (-1)) (upd de n 0) (vp_updL su n (f_due key (n + 1) (vp_updL nu n number) (vp_updL st n (-1)) (upd de n 0) su (nI n))) (upd mk n (if sl = 0 then 1 else 0)) ++ BC) H := hP
  replace hD : va_D A ((wX G x0 x1 (nI xn) f ++ BA) ++ wM G m0 t0 t1 t2 t3 h0 h1 h2 h3 h4 h5 sl la (nI tn) ts ta tb key (nI (n + 1)) (vp_updL nu n number) (vp_updL st n (-1)) (upd de n 0) (vp_updL su n (f_due key (n + 1) (vp_updL nu n number) (vp_updL st n (-1)) (upd de n 0) su (nI n))) (upd mk n (if sl = 0 then 1 else 0)) ++ BC) := hD
  refine lv_if_eq (tgt := 25) hx hb dX3_reset_18 (by decide) (fun c18 => absurd c18 (by decide)) (fun c18 => ?_)
  refine lv_iconst (v := 1) hx hb dX3_reset_21 (by decide) ?_
  refine lv_goto (tgt := 26) hx hb dX3_reset_22 (by decide) ?_
  exact W.zret (v := 1) hx hb hr (zb (Or.inr rfl)) (fun tZ hZ hW => ⟨⟨1, (wX G x0 x1 (nI xn) f ++ BA) ++ wM G m0 t0 t1 t2 t3 h0 h1 h2 h3 h4 h5 sl la (nI tn) ts ta tb key (nI (n + 1)) (vp_updL nu n number) (vp_updL st n (-1)) (upd de n 0) (vp_updL su n (f_due key (n + 1) (vp_updL nu n number) (vp_updL st n (-1)) (upd de n 0) su (nI n))) (upd mk n (if sl = 0 then 1 else 0)) ++ BC, rfl, Or.inr ⟨rfl, hq1, hq2, rfl⟩, by show va_P _ _ _ tZ.heap; rw [hZ]; exact hP⟩, hS.F hZ⟩) hS.2.2 dX3_reset_26

set_option maxHeartbeats 4000000 in
set_option maxRecDepth 100000 in
/-- X3_seal -/
theorem ct_X3_seal (l : Launch) (G : Gx) (x0 x1 : Nat) (xn : Nat) (f : Nat → Option Nat) (BA BC : va_W) (j : Nat) (m0 t0 t1 t2 t3 h0 h1 h2 h3 h4 h5 : Nat) (sl : Int32) (la : Int64) (tn : Nat) (ts : Nat → Int32) (ta tb : Nat → Int64) (key : Int64) (n : Nat) (nu st : Nat → Int64) (de : Nat → Int32) (su : Nat → Int64) (mk : Nat → Int32) (person set_ : Int32) (hxn : xn ≤ 8) (hj : j < xn) (hf : f j = some m0) (hc : n ≤ 200) (ht : tn ≤ 16) (hsl : sl = 0 ∨ sl = 1) (hset : set_ = 0 ∨ set_ = 1) : Met l yX3_seal wsX3_seal ({ frames := 4, cells := 0, slots := 0, locals := 99 }) (WrP G ((wX G x0 x1 (nI xn) f ++ BA) ++ wM G m0 t0 t1 t2 t3 h0 h1 h2 h3 h4 h5 sl la (nI tn) ts ta tb key (nI n) nu st de su mk ++ BC) [.ref x0, .int (nI j), .int person, .int set_]) (va_Qi (fun r (u : va_W) => (r = 0 ∧ (f_tfit sl person set_ = 0 ∨ n = 200) ∧ u = (wX G x0 x1 (nI xn) f ++ BA) ++ wM G m0 t0 t1 t2 t3 h0 h1 h2 h3 h4 h5 sl la (nI tn) ts ta tb key (nI n) nu st de su mk ++ BC) ∨ (r = 1 ∧ ¬ f_tfit sl person set_ = 0 ∧ n < 200 ∧ u = (wX G x0 x1 (nI xn) f ++ BA) ++ wM G m0 t0 t1 t2 t3 h0 h1 h2 h3 h4 h5 set_ la (nI tn) ts ta tb key (nI (n + 1)) (vp_updL nu n person.toInt64) (vp_updL st n (if set_ = 0 then -2 else -3)) (upd de n 0) (vp_updL su n (f_due key (n + 1) (vp_updL nu n person.toInt64) (vp_updL st n (if set_ = 0 then -2 else -3)) (upd de n 0) su (nI n))) (upd mk n 1) ++ BC)) (fun u t => va_P G.1 vwCl u t.heap) (adr ((wX G x0 x1 (nI xn) f ++ BA) ++ wM G m0 t0 t1 t2 t3 h0 h1 h2 h3 h4 h5 sl la (nI tn) ts ta tb key (nI n) nu st de su mk ++ BC))) 0 0 (adr ((wX G x0 x1 (nI xn) f ++ BA) ++ wM G m0 t0 t1 t2 t3 h0 h1 h2 h3 h4 h5 sl la (nI tn) ts ta tb key (nI n) nu st de su mk ++ BC)) := by
  refine Met.ofW (cc := cX3_seal) (maxL := 5) (ret := (some .boolean)) (by decide) rfl ?_
  intro p e s m args below meth c s₁ B hml hv
  obtain ⟨rfl, hP, hE, hD0⟩ := hv
  have hx := B.exec
  have hb := B.bytes
  have hr := B.returns
  have hts := atoms_spec (ws := wsX3_seal) B.pre
  have hown : s.vm.findClass RX3 = some m.cls := findClass_of_methodNamed B.named
  have hlocks := B.notSynchronized
  have hD : va_D (adr ((wX G x0 x1 (nI xn) f ++ BA) ++ wM G m0 t0 t1 t2 t3 h0 h1 h2 h3 h4 h5 sl la (nI tn) ts ta tb key (nI n) nu st de su mk ++ BC)) ((wX G x0 x1 (nI xn) f ++ BA) ++ wM G m0 t0 t1 t2 t3 h0 h1 h2 h3 h4 h5 sl la (nI tn) ts ta tb key (nI n) nu st de su mk ++ BC) := ⟨hD0.1, fun k q hk => ⟨k, q.2, hk⟩⟩
  generalize adr ((wX G x0 x1 (nI xn) f ++ BA) ++ wM G m0 t0 t1 t2 t3 h0 h1 h2 h3 h4 h5 sl la (nI tn) ts ta tb key (nI n) nu st de su mk ++ BC) = A at hD ⊢
  have hS : va_S A s.heap s.heap [] := va_S.rf
  have hl := lv_entry ([.ref x0, .int (nI j), .int person, .int set_]) (n := 5) (Nat.le_of_ble_eq_true rfl)
  rw [lg_entry_eq]
  generalize (lg_sl ([.ref x0, .int (nI j), .int person, .int set_]) ++ List.replicate (5 - (lg_sl ([.ref x0, .int (nI j), .int person, .int set_])).length) Slot.unset).toArray = ls at hl ⊢
  replace hl : lv_has ls 5 [(0, .ref x0), (1, .int (nI j)), (2, .int person), (3, .int set_)] := hl
  refine lv_aload_n hx hb dX3_seal_0 rfl (lv_at hl 0 rfl) ?_
  refine lv_iload_n hx hb dX3_seal_1 rfl (lv_at hl 1 rfl) ?_
  refine x_rq (va_runV (As := [.int (nI j)]) (rest := []) ⟨hx, hb, hml, hown, hts⟩ (ct_X3_find l G x0 x1 xn f (nI j) hxn) (cwV 1 hts gX3_seal_X3_find rfl rfl rfl (by decide +kernel) ⟨Nat.le_of_ble_eq_true rfl, Nat.le_of_ble_eq_true rfl⟩) (RdP.preV 0 4 rfl rfl (x_mid [] (wX G x0 x1 (nI xn) f) (BA ++ wM G m0 t0 t1 t2 t3 h0 h1 h2 h3 h4 h5 sl la (nI tn) ts ta tb key (nI n) nu st de su mk ++ BC) rfl hP) hE) rfl rfl hl.1 rfl (lv_room (Nat.le_of_ble_eq_true rfl)) dX3_seal_2 ⟨Nat.zero_le _, Nat.zero_le _⟩) (fun rq erq => ?_)
  rw [f_find_in hj hxn, hf] at erq
  subst erq
  refine W.eq (g2 := F0 m 5 ls [.ref m0]) rfl ?_
  refine lv_astore (lv' := [(4, .ref m0), (0, .ref x0), (1, .int (nI j)), (2, .int person), (3, .int set_)]) hx hb dX3_seal_5 hl (by decide) rfl (fun ls hl => ?_)
  refine lv_aload hx hb dX3_seal_7 (lv_at hl 0 rfl) ?_
  refine lv_ifnull hx hb dX3_seal_9 ?_
  refine lv_aload hx hb dX3_seal_12 (lv_at hl 0 rfl) ?_
  refine lv_iload_n hx hb dX3_seal_14 rfl (lv_at hl 3 rfl) ?_
  refine lv_iload_n hx hb dX3_seal_15 rfl (lv_at hl 4 rfl) ?_
  refine va_calli (va_runV (As := [.int person, .int set_]) (rest := []) ⟨hx, hb, hml, hown, hts⟩ (ct_X0_turnSeal l G m0 t0 t1 t2 t3 h0 h1 h2 h3 h4 h5 sl la tn ts ta tb key n nu st de su mk person set_ hc ht hsl hset) (cwV 2 hts gX3_seal_X0_turnSeal rfl rfl rfl (by decide +kernel) ⟨Nat.le_of_ble_eq_true rfl, Nat.le_of_ble_eq_true rfl⟩) (WrP.preV 0 1 rfl rfl (x_mid (wX G x0 x1 (nI xn) f ++ BA) (wM G m0 t0 t1 t2 t3 h0 h1 h2 h3 h4 h5 sl la (nI tn) ts ta tb key (nI n) nu st de su mk) BC rfl hP) hE (x_midD (wX G x0 x1 (nI xn) f ++ BA) (wM G m0 t0 t1 t2 t3 h0 h1 h2 h3 h4 h5 sl la (nI tn) ts ta tb key (nI n) nu st de su mk) BC rfl hD)) rfl rfl hl.1 rfl (lv_room (Nat.le_of_ble_eq_true rfl)) dX3_seal_16 ⟨Nat.zero_le _, Nat.zero_le _⟩) hS (fun q _ h => (x_adr (wX G x0 x1 (nI xn) f ++ BA) (wM G m0 t0 t1 t2 t3 h0 h1 h2 h3 h4 h5 sl la (nI tn) ts ta tb key (nI n) nu st de su mk) BC rfl hD) q h) (x_adr (wX G x0 x1 (nI xn) f ++ BA) (wM G m0 t0 t1 t2 t3 h0 h1 h2 h3 h4 h5 sl la (nI tn) ts ta tb key (nI n) nu st de su mk) BC rfl hD) (fun r1 u t H1 locs ht hvm hw hB hz1 hk1 hS => ?_)
  rw [ht] at hB
  rcases hw with ⟨rfl, hq, rfl⟩ | ⟨rfl, hq1, hq2, rfl⟩
  · obtain ⟨hP, hD⟩ := x_join (wX G x0 x1 (nI xn) f ++ BA) (wM G m0 t0 t1 t2 t3 h0 h1 h2 h3 h4 h5 sl la (nI tn) ts ta tb key (nI n) nu st de su mk) BC (wM G m0 t0 t1 t2 t3 h0 h1 h2 h3 h4 h5 sl la (nI tn) ts ta tb key (nI n) nu st de su mk) rfl hP hD hk1 hB rfl
    generalize H1 = H at hP hS ⊢
    replace hP : va_P G.1 vwCl ((wX G x0 x1 (nI xn) f ++ BA) ++ wM G m0 t0 t1 t2 t3 h0 h1 h2 h3 h4 h5 sl la (nI tn) ts ta tb key (nI n) nu st de su mk ++ BC) H := hP
    replace hD : va_D A ((wX G x0 x1 (nI xn) f ++ BA) ++ wM G m0 t0 t1 t2 t3 h0 h1 h2 h3 h4 h5 sl la (nI tn) ts ta tb key (nI n) nu st de su mk ++ BC) := hD
    refine lv_if_eq (tgt := 26) hx hb dX3_seal_19 (by decide) (fun c19 => ?_) (fun c19 => absurd c19 (by decide))
    refine lv_iconst (v := 0) hx hb dX3_seal_26 (by decide) ?_
    exact W.zret (v := 0) hx hb hr (zb (Or.inl rfl)) (fun tZ hZ hW => ⟨⟨0, (wX G x0 x1 (nI xn) f ++ BA) ++ wM G m0 t0 t1 t2 t3 h0 h1 h2 h3 h4 h5 sl la (nI tn) ts ta tb key (nI n) nu st de su mk ++ BC, rfl, Or.inl ⟨rfl, hq, rfl⟩, by show va_P _ _ _ tZ.heap; rw [hZ]; exact hP⟩, hS.F hZ⟩) hS.2.2 dX3_seal_27
  obtain ⟨hP, hD⟩ := x_join (wX G x0 x1 (nI xn) f ++ BA) (wM G m0 t0 t1 t2 t3 h0 h1 h2 h3 h4 h5 sl la (nI tn) ts ta tb key (nI n) nu st de su mk) BC (wM G m0 t0 t1 t2 t3 h0 h1 h2 h3 h4 h5 set_ la (nI tn) ts ta tb key (nI (n + 1)) (vp_updL nu n person.toInt64) (vp_updL st n (if set_ = 0 then -2 else -3)) (upd de n 0) (vp_updL su n (f_due key (n + 1) (vp_updL nu n person.toInt64) (vp_updL st n (if set_ = 0 then -2 else -3)) (upd de n 0) su (nI n))) (upd mk n 1)) rfl hP hD hk1 hB rfl
  generalize H1 = H at hP hS ⊢
  replace hP : va_P G.1 vwCl ((wX G x0 x1 (nI xn) f ++ BA) ++ wM G m0 t0 t1 t2 t3 h0 h1 h2 h3 h4 h5 set_ la (nI tn) ts ta tb key (nI (n + 1)) (vp_updL nu n person.toInt64) (vp_updL st n (if set_ = 0 then -2 else -3)) (upd de n 0) (vp_updL su n (f_due key (n + 1) (vp_updL nu n person.toInt64) (vp_updL st n (if set_ = 0 then -2 else -3)) (upd de n 0) su (nI n))) (upd mk n 1) ++ BC) H := hP
  replace hD : va_D A ((wX G x0 x1 (nI xn) f ++ BA) ++ wM G m0 t0 t1 t2 t3 h0 h1 h2 h3 h4 h5 set_ la (nI tn) ts ta tb key (nI (n + 1)) (vp_updL nu n person.toInt64) (vp_updL st n (if set_ = 0 then -2 else -3)) (upd de n 0) (vp_updL su n (f_due key (n + 1) (vp_updL nu n person.toInt64) (vp_updL st n (if set_ = 0 then -2 else -3)) (upd de n 0) su (nI n))) (upd mk n 1) ++ BC) := hD
  refine lv_if_eq (tgt := 26) hx hb dX3_seal_19 (by decide) (fun c19 => absurd c19 (by decide)) (fun c19 => ?_)
  refine lv_iconst (v := 1) hx hb dX3_seal_22 (by decide) ?_
  refine lv_goto (tgt := 27) hx hb dX3_seal_23 (by decide) ?_
  exact W.zret (v := 1) hx hb hr (zb (Or.inr rfl)) (fun tZ hZ hW => ⟨⟨1, (wX G x0 x1 (nI xn) f ++ BA) ++ wM G m0 t0 t1 t2 t3 h0 h1 h2 h3 h4 h5 set_ la (nI tn) ts ta tb key (nI (n + 1)) (vp_updL nu n person.toInt64) (vp_updL st n (if set_ = 0 then -2 else -3)) (upd de n 0) (vp_updL su n (f_due key (n + 1) (vp_updL nu n person.toInt64) (vp_updL st n (if set_ = 0 then -2 else -3)) (upd de n 0) su (nI n))) (upd mk n 1) ++ BC, rfl, Or.inr ⟨rfl, hq1, hq2, rfl⟩, by show va_P _ _ _ tZ.heap; rw [hZ]; exact hP⟩, hS.F hZ⟩) hS.2.2 dX3_seal_27

set_option maxHeartbeats 4000000 in
set_option maxRecDepth 100000 in
/-- X3_row -/
theorem ct_X3_row (l : Launch) (G : Gx) (x0 x1 : Nat) (xn : Nat) (f : Nat → Option Nat) (BA BC : va_W) (j : Nat) (m0 t0 t1 t2 t3 h0 h1 h2 h3 h4 h5 : Nat) (sl : Int32) (la : Int64) (tn : Nat) (ts : Nat → Int32) (ta tb : Nat → Int64) (key : Int64) (n : Nat) (nu st : Nat → Int64) (de : Nat → Int32) (su : Nat → Int64) (mk : Nat → Int32) (d : Int32) (a b : Int64) (hxn : xn ≤ 8) (hj : j < xn) (hf : f j = some m0) (hc : n ≤ 200) (ht : tn ≤ 16) : Met l yX3_row wsX3_row ({ frames := 2, cells := 0, slots := 0, locals := 52 }) (WrP G ((wX G x0 x1 (nI xn) f ++ BA) ++ wM G m0 t0 t1 t2 t3 h0 h1 h2 h3 h4 h5 sl la (nI tn) ts ta tb key (nI n) nu st de su mk ++ BC) [.ref x0, .int (nI j), .int d, .long a, .long b]) (va_Qi (fun r (u : va_W) => (f_put tn ts d a b = 0 ∧ r = 0 ∧ u = (wX G x0 x1 (nI xn) f ++ BA) ++ wM G m0 t0 t1 t2 t3 h0 h1 h2 h3 h4 h5 sl la (nI tn) ts ta tb key (nI n) nu st de su mk ++ BC) ∨ (f_put tn ts d a b = 1 ∧ r = 1 ∧ u = (wX G x0 x1 (nI xn) f ++ BA) ++ wM G m0 t0 t1 t2 t3 h0 h1 h2 h3 h4 h5 sl la (f_max (nI tn) (f_place tn ts d + 1)) (upd ts (f_place tn ts d).toNatClampNeg d) (vp_updL ta (f_place tn ts d).toNatClampNeg a) (vp_updL tb (f_place tn ts d).toNatClampNeg b) key (nI n) nu st de su mk ++ BC)) (fun u t => va_P G.1 vwCl u t.heap) (adr ((wX G x0 x1 (nI xn) f ++ BA) ++ wM G m0 t0 t1 t2 t3 h0 h1 h2 h3 h4 h5 sl la (nI tn) ts ta tb key (nI n) nu st de su mk ++ BC))) 0 0 (adr ((wX G x0 x1 (nI xn) f ++ BA) ++ wM G m0 t0 t1 t2 t3 h0 h1 h2 h3 h4 h5 sl la (nI tn) ts ta tb key (nI n) nu st de su mk ++ BC)) := by
  refine Met.ofW (cc := cX3_row) (maxL := 8) (ret := (some .boolean)) (by decide) rfl ?_
  intro p e s m args below meth c s₁ B hml hv
  obtain ⟨rfl, hP, hE, hD0⟩ := hv
  have hx := B.exec
  have hb := B.bytes
  have hr := B.returns
  have hts := atoms_spec (ws := wsX3_row) B.pre
  have hown : s.vm.findClass RX3 = some m.cls := findClass_of_methodNamed B.named
  have hlocks := B.notSynchronized
  have hD : va_D (adr ((wX G x0 x1 (nI xn) f ++ BA) ++ wM G m0 t0 t1 t2 t3 h0 h1 h2 h3 h4 h5 sl la (nI tn) ts ta tb key (nI n) nu st de su mk ++ BC)) ((wX G x0 x1 (nI xn) f ++ BA) ++ wM G m0 t0 t1 t2 t3 h0 h1 h2 h3 h4 h5 sl la (nI tn) ts ta tb key (nI n) nu st de su mk ++ BC) := ⟨hD0.1, fun k q hk => ⟨k, q.2, hk⟩⟩
  generalize adr ((wX G x0 x1 (nI xn) f ++ BA) ++ wM G m0 t0 t1 t2 t3 h0 h1 h2 h3 h4 h5 sl la (nI tn) ts ta tb key (nI n) nu st de su mk ++ BC) = A at hD ⊢
  have hS : va_S A s.heap s.heap [] := va_S.rf
  have hiX0 : ∀ w ∈ wsX00, w ∈ wsX3_row := by decide +kernel
  have hl := lv_entry ([.ref x0, .int (nI j), .int d, .long a, .long b]) (n := 8) (Nat.le_of_ble_eq_true rfl)
  rw [lg_entry_eq]
  generalize (lg_sl ([.ref x0, .int (nI j), .int d, .long a, .long b]) ++ List.replicate (8 - (lg_sl ([.ref x0, .int (nI j), .int d, .long a, .long b])).length) Slot.unset).toArray = ls at hl ⊢
  replace hl : lv_has ls 8 [(0, .ref x0), (1, .int (nI j)), (2, .int d), (3, .long a), (5, .long b)] := hl
  refine lv_aload_n hx hb dX3_row_0 rfl (lv_at hl 0 rfl) ?_
  refine lv_iload_n hx hb dX3_row_1 rfl (lv_at hl 1 rfl) ?_
  refine x_rq (va_runV (As := [.int (nI j)]) (rest := []) ⟨hx, hb, hml, hown, hts⟩ (ct_X3_find l G x0 x1 xn f (nI j) hxn) (cwV 1 hts gX3_row_X3_find rfl rfl rfl (by decide +kernel) ⟨Nat.le_of_ble_eq_true rfl, Nat.le_of_ble_eq_true rfl⟩) (RdP.preV 0 4 rfl rfl (x_mid [] (wX G x0 x1 (nI xn) f) (BA ++ wM G m0 t0 t1 t2 t3 h0 h1 h2 h3 h4 h5 sl la (nI tn) ts ta tb key (nI n) nu st de su mk ++ BC) rfl hP) hE) rfl rfl hl.1 rfl (lv_room (Nat.le_of_ble_eq_true rfl)) dX3_row_2 ⟨Nat.zero_le _, Nat.zero_le _⟩) (fun rq erq => ?_)
  rw [f_find_in hj hxn, hf] at erq
  subst erq
  refine W.eq (g2 := F0 m 5 ls [.ref m0]) rfl ?_
  refine lv_astore (lv' := [(7, .ref m0), (0, .ref x0), (1, .int (nI j)), (2, .int d), (3, .long a), (5, .long b)]) hx hb dX3_row_5 hl (by decide) rfl (fun ls hl => ?_)
  refine lv_aload hx hb dX3_row_7 (lv_at hl 0 rfl) ?_
  refine lv_ifnull hx hb dX3_row_9 ?_
  refine lv_aload hx hb dX3_row_12 (lv_at hl 0 rfl) ?_
  refine va_getN (D := G.1) (ci := 1) (v := .ref t0) (C := RX0) (T := TX0) (N := 4) hx hb hts hiX0 hown hE.1 (x_mid (wX G x0 x1 (nI xn) f ++ BA) (wM G m0 t0 t1 t2 t3 h0 h1 h2 h3 h4 h5 sl la (nI tn) ts ta tb key (nI n) nu st de su mk) BC rfl hP) 0 rfl rfl 0 (by decide) (va_Nw.use (A := _) rfl hE.2.1.1.2.2.2.1) (fun _ h9 => h9) rfl dX3_row_14 ?_
  refine lv_iload_n hx hb dX3_row_17 rfl (lv_at hl 3 rfl) ?_
  refine lv_lload_n hx hb dX3_row_18 rfl (lv_at hl 4 rfl) ?_
  refine lv_lload hx hb dX3_row_19 (lv_at hl 5 rfl) ?_
  refine va_calli (va_runV (As := [.int d, .long a, .long b]) (rest := []) ⟨hx, hb, hml, hown, hts⟩ (ct_X2_put l G t0 t1 t2 t3 tn ts ta tb d a b ht) (cwV 3 hts gX3_row_X2_put rfl rfl rfl (by decide +kernel) ⟨Nat.le_of_ble_eq_true rfl, Nat.le_of_ble_eq_true rfl⟩) (WrP.preV 0 3 rfl rfl (x_mid ([(m0, .inr (1, [.ref t0, .ref h0, .int sl, .long la]))]) (wT G t0 t1 t2 t3 (nI tn) ts ta tb) (wR G h0 h1 h2 h3 h4 h5 key (nI n) nu st de su mk) rfl (x_mid (wX G x0 x1 (nI xn) f ++ BA) (wM G m0 t0 t1 t2 t3 h0 h1 h2 h3 h4 h5 sl la (nI tn) ts ta tb key (nI n) nu st de su mk) BC rfl hP)) hE (x_midD ([(m0, .inr (1, [.ref t0, .ref h0, .int sl, .long la]))]) (wT G t0 t1 t2 t3 (nI tn) ts ta tb) (wR G h0 h1 h2 h3 h4 h5 key (nI n) nu st de su mk) rfl (x_midD (wX G x0 x1 (nI xn) f ++ BA) (wM G m0 t0 t1 t2 t3 h0 h1 h2 h3 h4 h5 sl la (nI tn) ts ta tb key (nI n) nu st de su mk) BC rfl hD))) rfl rfl hl.1 rfl (lv_room (Nat.le_of_ble_eq_true rfl)) dX3_row_21 ⟨Nat.zero_le _, Nat.zero_le _⟩) hS (fun q _ h => (x_adr ([(m0, .inr (1, [.ref t0, .ref h0, .int sl, .long la]))]) (wT G t0 t1 t2 t3 (nI tn) ts ta tb) (wR G h0 h1 h2 h3 h4 h5 key (nI n) nu st de su mk) rfl (x_midD (wX G x0 x1 (nI xn) f ++ BA) (wM G m0 t0 t1 t2 t3 h0 h1 h2 h3 h4 h5 sl la (nI tn) ts ta tb key (nI n) nu st de su mk) BC rfl hD)) q h) (x_adr ([(m0, .inr (1, [.ref t0, .ref h0, .int sl, .long la]))]) (wT G t0 t1 t2 t3 (nI tn) ts ta tb) (wR G h0 h1 h2 h3 h4 h5 key (nI n) nu st de su mk) rfl (x_midD (wX G x0 x1 (nI xn) f ++ BA) (wM G m0 t0 t1 t2 t3 h0 h1 h2 h3 h4 h5 sl la (nI tn) ts ta tb key (nI n) nu st de su mk) BC rfl hD)) (fun r1 u t H1 locs ht hvm hw hB hz1 hk1 hS => ?_)
  rw [ht] at hB
  rcases hw with ⟨hq, rfl, rfl⟩ | ⟨hq, rfl, rfl⟩
  · obtain ⟨hP, hD⟩ := x_join2 (wX G x0 x1 (nI xn) f ++ BA) (wM G m0 t0 t1 t2 t3 h0 h1 h2 h3 h4 h5 sl la (nI tn) ts ta tb key (nI n) nu st de su mk) BC ([(m0, .inr (1, [.ref t0, .ref h0, .int sl, .long la]))]) (wT G t0 t1 t2 t3 (nI tn) ts ta tb) (wR G h0 h1 h2 h3 h4 h5 key (nI n) nu st de su mk) (wT G t0 t1 t2 t3 (nI tn) ts ta tb) rfl rfl hP hD hk1 hB rfl
    generalize H1 = H at hP hS ⊢
    replace hP : va_P G.1 vwCl ((wX G x0 x1 (nI xn) f ++ BA) ++ wM G m0 t0 t1 t2 t3 h0 h1 h2 h3 h4 h5 sl la (nI tn) ts ta tb key (nI n) nu st de su mk ++ BC) H := hP
    replace hD : va_D A ((wX G x0 x1 (nI xn) f ++ BA) ++ wM G m0 t0 t1 t2 t3 h0 h1 h2 h3 h4 h5 sl la (nI tn) ts ta tb key (nI n) nu st de su mk ++ BC) := hD
    refine lv_if_eq (tgt := 31) hx hb dX3_row_24 (by decide) (fun c24 => ?_) (fun c24 => absurd c24 (by decide))
    refine lv_iconst (v := 0) hx hb dX3_row_31 (by decide) ?_
    exact W.zret (v := 0) hx hb hr (zb (Or.inl rfl)) (fun tZ hZ hW => ⟨⟨0, (wX G x0 x1 (nI xn) f ++ BA) ++ wM G m0 t0 t1 t2 t3 h0 h1 h2 h3 h4 h5 sl la (nI tn) ts ta tb key (nI n) nu st de su mk ++ BC, rfl, Or.inl ⟨hq, rfl, rfl⟩, by show va_P _ _ _ tZ.heap; rw [hZ]; exact hP⟩, hS.F hZ⟩) hS.2.2 dX3_row_32
  obtain ⟨hP, hD⟩ := x_join2 (wX G x0 x1 (nI xn) f ++ BA) (wM G m0 t0 t1 t2 t3 h0 h1 h2 h3 h4 h5 sl la (nI tn) ts ta tb key (nI n) nu st de su mk) BC ([(m0, .inr (1, [.ref t0, .ref h0, .int sl, .long la]))]) (wT G t0 t1 t2 t3 (nI tn) ts ta tb) (wR G h0 h1 h2 h3 h4 h5 key (nI n) nu st de su mk) (wT G t0 t1 t2 t3 (f_max (nI tn) (f_place tn ts d + 1)) (upd ts (f_place tn ts d).toNatClampNeg d) (vp_updL ta (f_place tn ts d).toNatClampNeg a) (vp_updL tb (f_place tn ts d).toNatClampNeg b)) rfl rfl hP hD hk1 hB rfl
  generalize H1 = H at hP hS ⊢
  replace hP : va_P G.1 vwCl ((wX G x0 x1 (nI xn) f ++ BA) ++ wM G m0 t0 t1 t2 t3 h0 h1 h2 h3 h4 h5 sl la (f_max (nI tn) (f_place tn ts d + 1)) (upd ts (f_place tn ts d).toNatClampNeg d) (vp_updL ta (f_place tn ts d).toNatClampNeg a) (vp_updL tb (f_place tn ts d).toNatClampNeg b) key (nI n) nu st de su mk ++ BC) H := hP
  replace hD : va_D A ((wX G x0 x1 (nI xn) f ++ BA) ++ wM G m0 t0 t1 t2 t3 h0 h1 h2 h3 h4 h5 sl la (f_max (nI tn) (f_place tn ts d + 1)) (upd ts (f_place tn ts d).toNatClampNeg d) (vp_updL ta (f_place tn ts d).toNatClampNeg a) (vp_updL tb (f_place tn ts d).toNatClampNeg b) key (nI n) nu st de su mk ++ BC) := hD
  refine lv_if_eq (tgt := 31) hx hb dX3_row_24 (by decide) (fun c24 => absurd c24 (by decide)) (fun c24 => ?_)
  refine lv_iconst (v := 1) hx hb dX3_row_27 (by decide) ?_
  refine lv_goto (tgt := 32) hx hb dX3_row_28 (by decide) ?_
  exact W.zret (v := 1) hx hb hr (zb (Or.inr rfl)) (fun tZ hZ hW => ⟨⟨1, (wX G x0 x1 (nI xn) f ++ BA) ++ wM G m0 t0 t1 t2 t3 h0 h1 h2 h3 h4 h5 sl la (f_max (nI tn) (f_place tn ts d + 1)) (upd ts (f_place tn ts d).toNatClampNeg d) (vp_updL ta (f_place tn ts d).toNatClampNeg a) (vp_updL tb (f_place tn ts d).toNatClampNeg b) key (nI n) nu st de su mk ++ BC, rfl, Or.inr ⟨hq, rfl, rfl⟩, by show va_P _ _ _ tZ.heap; rw [hZ]; exact hP⟩, hS.F hZ⟩) hS.2.2 dX3_row_32

set_option maxHeartbeats 4000000 in
set_option maxRecDepth 100000 in
/-- X3_poke -/
theorem ct_X3_poke (l : Launch) (G : Gx) (x0 x1 : Nat) (xn : Nat) (f : Nat → Option Nat) (BA BC : va_W) (j : Nat) (m0 t0 t1 t2 t3 h0 h1 h2 h3 h4 h5 : Nat) (sl : Int32) (la : Int64) (tn : Nat) (ts : Nat → Int32) (ta tb : Nat → Int64) (key : Int64) (n : Nat) (nu st : Nat → Int64) (de : Nat → Int32) (su : Nat → Int64) (mk : Nat → Int32) (row : Int32) (b : Int64) (hxn : xn ≤ 8) (hj : j < xn) (hf : f j = some m0) (hc : n ≤ 200) (ht : tn ≤ 16) : Met l yX3_poke wsX3_poke ({ frames := 4, cells := 0, slots := 0, locals := 88 }) (WrP G ((wX G x0 x1 (nI xn) f ++ BA) ++ wM G m0 t0 t1 t2 t3 h0 h1 h2 h3 h4 h5 sl la (nI tn) ts ta tb key (nI n) nu st de su mk ++ BC) [.ref x0, .int (nI j), .int row, .long b]) (va_Qi (fun r (u : va_W) => (f_poke n nu st row b = 0 ∧ r = 0 ∧ u = (wX G x0 x1 (nI xn) f ++ BA) ++ wM G m0 t0 t1 t2 t3 h0 h1 h2 h3 h4 h5 sl la (nI tn) ts ta tb key (nI n) nu st de su mk ++ BC) ∨ (¬ f_poke n nu st row b = 0 ∧ r = 1 ∧ u = (wX G x0 x1 (nI xn) f ++ BA) ++ wM G m0 t0 t1 t2 t3 h0 h1 h2 h3 h4 h5 sl la (nI tn) ts ta tb key (nI n) (vp_updL nu row.toNatClampNeg (f_pul n nu st row + b)) st de su mk ++ BC)) (fun u t => va_P G.1 vwCl u t.heap) (adr ((wX G x0 x1 (nI xn) f ++ BA) ++ wM G m0 t0 t1 t2 t3 h0 h1 h2 h3 h4 h5 sl la (nI tn) ts ta tb key (nI n) nu st de su mk ++ BC))) 0 0 (adr ((wX G x0 x1 (nI xn) f ++ BA) ++ wM G m0 t0 t1 t2 t3 h0 h1 h2 h3 h4 h5 sl la (nI tn) ts ta tb key (nI n) nu st de su mk ++ BC)) := by
  refine Met.ofW (cc := cX3_poke) (maxL := 6) (ret := (some .boolean)) (by decide) rfl ?_
  intro p e s m args below meth c s₁ B hml hv
  obtain ⟨rfl, hP, hE, hD0⟩ := hv
  have hx := B.exec
  have hb := B.bytes
  have hr := B.returns
  have hts := atoms_spec (ws := wsX3_poke) B.pre
  have hown : s.vm.findClass RX3 = some m.cls := findClass_of_methodNamed B.named
  have hlocks := B.notSynchronized
  have hD : va_D (adr ((wX G x0 x1 (nI xn) f ++ BA) ++ wM G m0 t0 t1 t2 t3 h0 h1 h2 h3 h4 h5 sl la (nI tn) ts ta tb key (nI n) nu st de su mk ++ BC)) ((wX G x0 x1 (nI xn) f ++ BA) ++ wM G m0 t0 t1 t2 t3 h0 h1 h2 h3 h4 h5 sl la (nI tn) ts ta tb key (nI n) nu st de su mk ++ BC) := ⟨hD0.1, fun k q hk => ⟨k, q.2, hk⟩⟩
  generalize adr ((wX G x0 x1 (nI xn) f ++ BA) ++ wM G m0 t0 t1 t2 t3 h0 h1 h2 h3 h4 h5 sl la (nI tn) ts ta tb key (nI n) nu st de su mk ++ BC) = A at hD ⊢
  have hS : va_S A s.heap s.heap [] := va_S.rf
  have hiX0 : ∀ w ∈ wsX00, w ∈ wsX3_poke := by decide +kernel
  have hl := lv_entry ([.ref x0, .int (nI j), .int row, .long b]) (n := 6) (Nat.le_of_ble_eq_true rfl)
  rw [lg_entry_eq]
  generalize (lg_sl ([.ref x0, .int (nI j), .int row, .long b]) ++ List.replicate (6 - (lg_sl ([.ref x0, .int (nI j), .int row, .long b])).length) Slot.unset).toArray = ls at hl ⊢
  replace hl : lv_has ls 6 [(0, .ref x0), (1, .int (nI j)), (2, .int row), (3, .long b)] := hl
  refine lv_aload_n hx hb dX3_poke_0 rfl (lv_at hl 0 rfl) ?_
  refine lv_iload_n hx hb dX3_poke_1 rfl (lv_at hl 1 rfl) ?_
  refine x_rq (va_runV (As := [.int (nI j)]) (rest := []) ⟨hx, hb, hml, hown, hts⟩ (ct_X3_find l G x0 x1 xn f (nI j) hxn) (cwV 1 hts gX3_poke_X3_find rfl rfl rfl (by decide +kernel) ⟨Nat.le_of_ble_eq_true rfl, Nat.le_of_ble_eq_true rfl⟩) (RdP.preV 0 4 rfl rfl (x_mid [] (wX G x0 x1 (nI xn) f) (BA ++ wM G m0 t0 t1 t2 t3 h0 h1 h2 h3 h4 h5 sl la (nI tn) ts ta tb key (nI n) nu st de su mk ++ BC) rfl hP) hE) rfl rfl hl.1 rfl (lv_room (Nat.le_of_ble_eq_true rfl)) dX3_poke_2 ⟨Nat.zero_le _, Nat.zero_le _⟩) (fun rq erq => ?_)
  rw [f_find_in hj hxn, hf] at erq
  subst erq
  refine W.eq (g2 := F0 m 5 ls [.ref m0]) rfl ?_
  refine lv_astore (lv' := [(5, .ref m0), (0, .ref x0), (1, .int (nI j)), (2, .int row), (3, .long b)]) hx hb dX3_poke_5 hl (by decide) rfl (fun ls hl => ?_)
  refine lv_aload hx hb dX3_poke_7 (lv_at hl 0 rfl) ?_
  refine lv_ifnull hx hb dX3_poke_9 ?_
  refine lv_aload hx hb dX3_poke_12 (lv_at hl 0 rfl) ?_
  refine va_getN (D := G.1) (ci := 1) (v := .ref h0) (C := RX0) (T := TX0) (N := 4) hx hb hts hiX0 hown hE.1 (x_mid (wX G x0 x1 (nI xn) f ++ BA) (wM G m0 t0 t1 t2 t3 h0 h1 h2 h3 h4 h5 sl la (nI tn) ts ta tb key (nI n) nu st de su mk) BC rfl hP) 0 rfl rfl 1 (by decide) (va_Nw.use (A := _) rfl hE.2.1.1.2.2.2.2) (fun _ h9 => h9) rfl dX3_poke_14 ?_
  refine lv_iload_n hx hb dX3_poke_17 rfl (lv_at hl 3 rfl) ?_
  refine lv_lload_n hx hb dX3_poke_18 rfl (lv_at hl 4 rfl) ?_
  refine va_calli (va_runV (As := [.int row, .long b]) (rest := []) ⟨hx, hb, hml, hown, hts⟩ (ct_X1_addPulses l G h0 h1 h2 h3 h4 h5 key n nu st de su mk row b hc) (cwV 2 hts gX3_poke_X1_addPulses rfl rfl rfl (by decide +kernel) ⟨Nat.le_of_ble_eq_true rfl, Nat.le_of_ble_eq_true rfl⟩) (WrP.preV 0 2 rfl rfl (x_mid ([(m0, .inr (1, [.ref t0, .ref h0, .int sl, .long la])), (t0, .inr (3, [.ref t1, .ref t2, .ref t3, .int (nI tn)])), (t1, .inl (kI G, 16, .inl ts)), (t2, .inl (kJ G, 16, .inr (.inl ta))), (t3, .inl (kJ G, 16, .inr (.inl tb)))]) (wR G h0 h1 h2 h3 h4 h5 key (nI n) nu st de su mk) ([]) rfl (x_mid (wX G x0 x1 (nI xn) f ++ BA) (wM G m0 t0 t1 t2 t3 h0 h1 h2 h3 h4 h5 sl la (nI tn) ts ta tb key (nI n) nu st de su mk) BC rfl hP)) hE (x_midD ([(m0, .inr (1, [.ref t0, .ref h0, .int sl, .long la])), (t0, .inr (3, [.ref t1, .ref t2, .ref t3, .int (nI tn)])), (t1, .inl (kI G, 16, .inl ts)), (t2, .inl (kJ G, 16, .inr (.inl ta))), (t3, .inl (kJ G, 16, .inr (.inl tb)))]) (wR G h0 h1 h2 h3 h4 h5 key (nI n) nu st de su mk) ([]) rfl (x_midD (wX G x0 x1 (nI xn) f ++ BA) (wM G m0 t0 t1 t2 t3 h0 h1 h2 h3 h4 h5 sl la (nI tn) ts ta tb key (nI n) nu st de su mk) BC rfl hD))) rfl rfl hl.1 rfl (lv_room (Nat.le_of_ble_eq_true rfl)) dX3_poke_19 ⟨Nat.zero_le _, Nat.zero_le _⟩) hS (fun q _ h => (x_adr ([(m0, .inr (1, [.ref t0, .ref h0, .int sl, .long la])), (t0, .inr (3, [.ref t1, .ref t2, .ref t3, .int (nI tn)])), (t1, .inl (kI G, 16, .inl ts)), (t2, .inl (kJ G, 16, .inr (.inl ta))), (t3, .inl (kJ G, 16, .inr (.inl tb)))]) (wR G h0 h1 h2 h3 h4 h5 key (nI n) nu st de su mk) ([]) rfl (x_midD (wX G x0 x1 (nI xn) f ++ BA) (wM G m0 t0 t1 t2 t3 h0 h1 h2 h3 h4 h5 sl la (nI tn) ts ta tb key (nI n) nu st de su mk) BC rfl hD)) q h) (x_adr ([(m0, .inr (1, [.ref t0, .ref h0, .int sl, .long la])), (t0, .inr (3, [.ref t1, .ref t2, .ref t3, .int (nI tn)])), (t1, .inl (kI G, 16, .inl ts)), (t2, .inl (kJ G, 16, .inr (.inl ta))), (t3, .inl (kJ G, 16, .inr (.inl tb)))]) (wR G h0 h1 h2 h3 h4 h5 key (nI n) nu st de su mk) ([]) rfl (x_midD (wX G x0 x1 (nI xn) f ++ BA) (wM G m0 t0 t1 t2 t3 h0 h1 h2 h3 h4 h5 sl la (nI tn) ts ta tb key (nI n) nu st de su mk) BC rfl hD)) (fun r1 u t H1 locs ht hvm hw hB hz1 hk1 hS => ?_)
  rw [ht] at hB
  rcases hw with ⟨hq, rfl, rfl⟩ | ⟨hq, rfl, rfl⟩
  · obtain ⟨hP, hD⟩ := x_join2 (wX G x0 x1 (nI xn) f ++ BA) (wM G m0 t0 t1 t2 t3 h0 h1 h2 h3 h4 h5 sl la (nI tn) ts ta tb key (nI n) nu st de su mk) BC ([(m0, .inr (1, [.ref t0, .ref h0, .int sl, .long la])), (t0, .inr (3, [.ref t1, .ref t2, .ref t3, .int (nI tn)])), (t1, .inl (kI G, 16, .inl ts)), (t2, .inl (kJ G, 16, .inr (.inl ta))), (t3, .inl (kJ G, 16, .inr (.inl tb)))]) (wR G h0 h1 h2 h3 h4 h5 key (nI n) nu st de su mk) ([]) (wR G h0 h1 h2 h3 h4 h5 key (nI n) nu st de su mk) rfl rfl hP hD hk1 hB rfl
    generalize H1 = H at hP hS ⊢
    replace hP : va_P G.1 vwCl ((wX G x0 x1 (nI xn) f ++ BA) ++ wM G m0 t0 t1 t2 t3 h0 h1 h2 h3 h4 h5 sl la (nI tn) ts ta tb key (nI n) nu st de su mk ++ BC) H := hP
    replace hD : va_D A ((wX G x0 x1 (nI xn) f ++ BA) ++ wM G m0 t0 t1 t2 t3 h0 h1 h2 h3 h4 h5 sl la (nI tn) ts ta tb key (nI n) nu st de su mk ++ BC) := hD
    refine lv_if_eq (tgt := 29) hx hb dX3_poke_22 (by decide) (fun c22 => ?_) (fun c22 => absurd c22 (by decide))
    refine lv_iconst (v := 0) hx hb dX3_poke_29 (by decide) ?_
    exact W.zret (v := 0) hx hb hr (zb (Or.inl rfl)) (fun tZ hZ hW => ⟨⟨0, (wX G x0 x1 (nI xn) f ++ BA) ++ wM G m0 t0 t1 t2 t3 h0 h1 h2 h3 h4 h5 sl la (nI tn) ts ta tb key (nI n) nu st de su mk ++ BC, rfl, Or.inl ⟨hq, rfl, rfl⟩, by show va_P _ _ _ tZ.heap; rw [hZ]; exact hP⟩, hS.F hZ⟩) hS.2.2 dX3_poke_30
  obtain ⟨hP, hD⟩ := x_join2 (wX G x0 x1 (nI xn) f ++ BA) (wM G m0 t0 t1 t2 t3 h0 h1 h2 h3 h4 h5 sl la (nI tn) ts ta tb key (nI n) nu st de su mk) BC ([(m0, .inr (1, [.ref t0, .ref h0, .int sl, .long la])), (t0, .inr (3, [.ref t1, .ref t2, .ref t3, .int (nI tn)])), (t1, .inl (kI G, 16, .inl ts)), (t2, .inl (kJ G, 16, .inr (.inl ta))), (t3, .inl (kJ G, 16, .inr (.inl tb)))]) (wR G h0 h1 h2 h3 h4 h5 key (nI n) nu st de su mk) ([]) (wR G h0 h1 h2 h3 h4 h5 key (nI n) (vp_updL nu row.toNatClampNeg (f_pul n nu st row + b)) st de su mk) rfl rfl hP hD hk1 hB rfl
  generalize H1 = H at hP hS ⊢
  replace hP : va_P G.1 vwCl ((wX G x0 x1 (nI xn) f ++ BA) ++ wM G m0 t0 t1 t2 t3 h0 h1 h2 h3 h4 h5 sl la (nI tn) ts ta tb key (nI n) (vp_updL nu row.toNatClampNeg (f_pul n nu st row + b)) st de su mk ++ BC) H := hP
  replace hD : va_D A ((wX G x0 x1 (nI xn) f ++ BA) ++ wM G m0 t0 t1 t2 t3 h0 h1 h2 h3 h4 h5 sl la (nI tn) ts ta tb key (nI n) (vp_updL nu row.toNatClampNeg (f_pul n nu st row + b)) st de su mk ++ BC) := hD
  refine lv_if_eq (tgt := 29) hx hb dX3_poke_22 (by decide) (fun c22 => absurd c22 (by decide)) (fun c22 => ?_)
  refine lv_iconst (v := 1) hx hb dX3_poke_25 (by decide) ?_
  refine lv_goto (tgt := 30) hx hb dX3_poke_26 (by decide) ?_
  exact W.zret (v := 1) hx hb hr (zb (Or.inr rfl)) (fun tZ hZ hW => ⟨⟨1, (wX G x0 x1 (nI xn) f ++ BA) ++ wM G m0 t0 t1 t2 t3 h0 h1 h2 h3 h4 h5 sl la (nI tn) ts ta tb key (nI n) (vp_updL nu row.toNatClampNeg (f_pul n nu st row + b)) st de su mk ++ BC, rfl, Or.inr ⟨hq, rfl, rfl⟩, by show va_P _ _ _ tZ.heap; rw [hZ]; exact hP⟩, hS.F hZ⟩) hS.2.2 dX3_poke_30
