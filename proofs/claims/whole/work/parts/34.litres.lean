/-! LITRES, THROWN AND CAUGHT -/
abbrev ThP (G : Gx) (sa : Nat) (ws : va_W) (As : List Value) : Array Value → State → Prop := va_Pc As (fun U => va_P G.1 vwCl ws U.heap ∧ EV G U ∧ TX sa U)
theorem TX.same {sa : Nat} {u U : State} (hv : u.vm = U.vm) (hh : u.heap = U.heap) (h : TX sa u) : TX sa U := TX.next h rfl (by rw [← hv]; exact State.WarmedH.refl u) (fun q _ => by rw [hh])
theorem ThP.blind {G : Gx} {sa : Nat} {ws : va_W} {As : List Value} : FrameBlind (ThP G sa ws As) := fun a U g mk q => ⟨q.1, q.2.1, EV.same (u := U) (U := U.calling g mk a) rfl q.2.2.1, TX.same (u := U) (U := U.calling g mk a) rfl rfl q.2.2.2⟩
set_option maxHeartbeats 4000000 in
set_option maxRecDepth 100000 in
theorem cth_X3_litres (l : Launch) (hfl : l.flags = pinnedFlags ++ [noTraceFlag]) (G : Gx) (sa : Nat) (x0 x1 : Nat) (xn : Nat) (f : Nat → Option Nat) (BA BC : va_W) (j : Nat) (m0 t0 t1 t2 t3 h0 h1 h2 h3 h4 h5 : Nat) (sl : Int32) (la : Int64) (tn : Nat) (ts : Nat → Int32) (ta tb : Nat → Int64) (key : Int64) (n : Nat) (nu st : Nat → Int64) (de : Nat → Int32) (su : Nat → Int64) (mk : Nat → Int32) (row part : Int32) (hxn : xn ≤ 8) (hj : j < xn) (hf : f j = some m0) (hc : n ≤ 200) (ht : tn ≤ 16) (hpart : part = 0 ∨ part = 1) (hrow : f_holds (nI n) row = 0) : MetFree l yX3_litres (headSpec wsX3_litres ({ frames := 7, cells := 1, slots := 6, locals := 95 })) (ThP G sa ((wX G x0 x1 (nI xn) f ++ BA) ++ wM G m0 t0 t1 t2 t3 h0 h1 h2 h3 h4 h5 sl la (nI tn) ts ta tb key (nI n) nu st de su mk ++ BC) [.ref x0, .int (nI j), .int row, .int part]) (fun _ _ _ _ _ => True) TQ := by
  refine MetT.ofW (cc := cX3_litres) (maxL := 5) (ret := (some .long)) (by decide) rfl ?_
  intro p e s m args below meth c s₁ B hml hv
  obtain ⟨rfl, hP, hE, hT⟩ := hv
  have hx := B.exec
  have hb := B.bytes
  have hr := B.returns
  have hts := atoms_spec (ws := wsX3_litres) B.pre
  have hown : s.vm.findClass RX3 = some m.cls := findClass_of_methodNamed B.named
  have hlocks := B.notSynchronized
  have hiX0 : ∀ w ∈ wsX00, w ∈ wsX3_litres := by decide +kernel
  have hl := lv_entry ([.ref x0, .int (nI j), .int row, .int part]) (n := 5) (Nat.le_of_ble_eq_true rfl)
  rw [lg_entry_eq]
  generalize (lg_sl ([.ref x0, .int (nI j), .int row, .int part]) ++ List.replicate (5 - (lg_sl ([.ref x0, .int (nI j), .int row, .int part])).length) Slot.unset).toArray = ls at hl ⊢
  replace hl : lv_has ls 5 [(0, .ref x0), (1, .int (nI j)), (2, .int row), (3, .int part)] := hl
  refine lv_aload_n hx hb dX3_litres_0 rfl (lv_at hl 0 rfl) ?_
  refine lv_iload_n hx hb dX3_litres_1 rfl (lv_at hl 1 rfl) ?_
  refine x_rq (va_runV (As := [.int (nI j)]) (rest := []) ⟨hx, hb, hml, hown, hts⟩ (ct_X3_find l G x0 x1 xn f (nI j) hxn) (cwV 1 hts gX3_litres_X3_find rfl rfl rfl (by decide +kernel) ⟨Nat.le_of_ble_eq_true rfl, Nat.le_of_ble_eq_true rfl⟩) (RdP.preV 0 4 rfl rfl (x_mid [] (wX G x0 x1 (nI xn) f) (BA ++ wM G m0 t0 t1 t2 t3 h0 h1 h2 h3 h4 h5 sl la (nI tn) ts ta tb key (nI n) nu st de su mk ++ BC) rfl hP) hE) rfl rfl hl.1 rfl (lv_room (Nat.le_of_ble_eq_true rfl)) dX3_litres_2 ⟨Nat.zero_le _, Nat.zero_le _⟩) (fun rq erq => ?_)
  rw [f_find_in hj hxn, hf] at erq
  subst erq
  refine W.eq (g2 := F0 m 5 ls [.ref m0]) rfl ?_
  refine lv_astore (lv' := [(4, .ref m0), (0, .ref x0), (1, .int (nI j)), (2, .int row), (3, .int part)]) hx hb dX3_litres_5 hl (by decide) rfl (fun ls hl => ?_)
  refine lv_aload hx hb dX3_litres_7 (lv_at hl 0 rfl) ?_
  refine lv_ifnull hx hb dX3_litres_9 ?_
  refine lv_iload_n hx hb dX3_litres_12 rfl (lv_at hl 4 rfl) ?_
  refine lv_if_eq (tgt := 25) hx hb dX3_litres_13 (by decide) (fun c13 => ?_) (fun c13 => ?_)
  · refine lv_aload hx hb dX3_litres_25 (lv_at hl 0 rfl) ?_
    refine va_getN (D := G.1) (ci := 1) (v := .ref h0) (C := RX0) (T := TX0) (N := 4) hx hb hts hiX0 hown hE.1 (x_mid (wX G x0 x1 (nI xn) f ++ BA) (wM G m0 t0 t1 t2 t3 h0 h1 h2 h3 h4 h5 sl la (nI tn) ts ta tb key (nI n) nu st de su mk) BC rfl hP) 0 rfl rfl 1 (by decide) (va_Nw.use (A := _) rfl hE.2.1.1.2.2.2.2) (fun _ h9 => h9) rfl dX3_litres_27 ?_
    refine lv_iload_n hx hb dX3_litres_30 rfl (lv_at hl 3 rfl) ?_
    refine x_ri (va_runV (As := [.int row]) (rest := []) ⟨hx, hb, hml, hown, hts⟩ (ct_X1_holds l G h0 h1 h2 h3 h4 h5 key n nu st de su mk row) (cwV 1 hts gX3_litres_X1_holds rfl rfl rfl (by decide +kernel) ⟨Nat.le_of_ble_eq_true rfl, Nat.le_of_ble_eq_true rfl⟩) (RdP.preV 0 2 rfl rfl (x_mid [(m0, .inr (1, [.ref t0, .ref h0, .int sl, .long la])), (t0, .inr (3, [.ref t1, .ref t2, .ref t3, .int (nI tn)])), (t1, .inl (kI G, 16, .inl ts)), (t2, .inl (kJ G, 16, .inr (.inl ta))), (t3, .inl (kJ G, 16, .inr (.inl tb)))] (wR G h0 h1 h2 h3 h4 h5 key (nI n) nu st de su mk) [] rfl (x_mid (wX G x0 x1 (nI xn) f ++ BA) (wM G m0 t0 t1 t2 t3 h0 h1 h2 h3 h4 h5 sl la (nI tn) ts ta tb key (nI n) nu st de su mk) BC rfl hP)) hE) rfl rfl hl.1 rfl (lv_room (Nat.le_of_ble_eq_true rfl)) dX3_litres_31 ⟨Nat.zero_le _, Nat.zero_le _⟩) (fun r1 er1 => ?_)
    subst er1
    refine lv_if_ne (tgt := 47) hx hb dX3_litres_34 (by decide) (fun c34 => absurd hrow c34) (fun c34 => ?_)
    refine W.newc (n := 6) hx hb hown (hts (.classLink RX3 52 RJx00060) (by decide +kernel)) (hts (.instantiable RJx00060 6) (by decide +kernel)) (hts (.initialized RJx00060) (by decide +kernel)) rfl dX3_litres_37 (Nat.le_of_ble_eq_true rfl) (Nat.le_of_ble_eq_true rfl) (fun cX kX h1 h2 _ _ => ?_)
    refine W.eq (g2 := F0 m 40 ls [.ref s.heap.size]) rfl ?_
    refine lv_dup hx hb dX3_litres_40 rfl ?_
    refine va_ldcS hx hb hown hT.2.1 dX3_litres_41 ?_
    exact x_throwS hx hb (hml.trans hl.1.symm) hfl hown hlocks (B.noHandlers (hts _ List.mem_cons_self)) hT h1 h2 ⟨Nat.le_of_ble_eq_true rfl, Nat.le_of_ble_eq_true rfl⟩ dX3_litres_43 dX3_litres_46
  refine lv_iload_n hx hb dX3_litres_16 rfl (lv_at hl 4 rfl) ?_
  refine lv_iconst (v := 1) hx hb dX3_litres_17 (by decide) ?_
  refine lv_icmp_eq (tgt := 25) hx hb dX3_litres_18 (by decide) (fun c18 => ?_) (fun c18 => ?_)
  · refine lv_aload hx hb dX3_litres_25 (lv_at hl 0 rfl) ?_
    refine va_getN (D := G.1) (ci := 1) (v := .ref h0) (C := RX0) (T := TX0) (N := 4) hx hb hts hiX0 hown hE.1 (x_mid (wX G x0 x1 (nI xn) f ++ BA) (wM G m0 t0 t1 t2 t3 h0 h1 h2 h3 h4 h5 sl la (nI tn) ts ta tb key (nI n) nu st de su mk) BC rfl hP) 0 rfl rfl 1 (by decide) (va_Nw.use (A := _) rfl hE.2.1.1.2.2.2.2) (fun _ h9 => h9) rfl dX3_litres_27 ?_
    refine lv_iload_n hx hb dX3_litres_30 rfl (lv_at hl 3 rfl) ?_
    refine x_ri (va_runV (As := [.int row]) (rest := []) ⟨hx, hb, hml, hown, hts⟩ (ct_X1_holds l G h0 h1 h2 h3 h4 h5 key n nu st de su mk row) (cwV 1 hts gX3_litres_X1_holds rfl rfl rfl (by decide +kernel) ⟨Nat.le_of_ble_eq_true rfl, Nat.le_of_ble_eq_true rfl⟩) (RdP.preV 0 2 rfl rfl (x_mid [(m0, .inr (1, [.ref t0, .ref h0, .int sl, .long la])), (t0, .inr (3, [.ref t1, .ref t2, .ref t3, .int (nI tn)])), (t1, .inl (kI G, 16, .inl ts)), (t2, .inl (kJ G, 16, .inr (.inl ta))), (t3, .inl (kJ G, 16, .inr (.inl tb)))] (wR G h0 h1 h2 h3 h4 h5 key (nI n) nu st de su mk) [] rfl (x_mid (wX G x0 x1 (nI xn) f ++ BA) (wM G m0 t0 t1 t2 t3 h0 h1 h2 h3 h4 h5 sl la (nI tn) ts ta tb key (nI n) nu st de su mk) BC rfl hP)) hE) rfl rfl hl.1 rfl (lv_room (Nat.le_of_ble_eq_true rfl)) dX3_litres_31 ⟨Nat.zero_le _, Nat.zero_le _⟩) (fun r3 er3 => ?_)
    subst er3
    refine lv_if_ne (tgt := 47) hx hb dX3_litres_34 (by decide) (fun c34 => absurd hrow c34) (fun c34 => ?_)
    refine W.newc (n := 6) hx hb hown (hts (.classLink RX3 52 RJx00060) (by decide +kernel)) (hts (.instantiable RJx00060 6) (by decide +kernel)) (hts (.initialized RJx00060) (by decide +kernel)) rfl dX3_litres_37 (Nat.le_of_ble_eq_true rfl) (Nat.le_of_ble_eq_true rfl) (fun cX kX h1 h2 _ _ => ?_)
    refine W.eq (g2 := F0 m 40 ls [.ref s.heap.size]) rfl ?_
    refine lv_dup hx hb dX3_litres_40 rfl ?_
    refine va_ldcS hx hb hown hT.2.1 dX3_litres_41 ?_
    exact x_throwS hx hb (hml.trans hl.1.symm) hfl hown hlocks (B.noHandlers (hts _ List.mem_cons_self)) hT h1 h2 ⟨Nat.le_of_ble_eq_true rfl, Nat.le_of_ble_eq_true rfl⟩ dX3_litres_43 dX3_litres_46
  exact absurd hpart (by rintro (h | h); exact c13 h; exact c18 h)

set_option maxHeartbeats 4000000 in
set_option maxRecDepth 100000 in
/-- the class answers: its answer is laid into out -/
theorem cl_ok (l : Launch) (G : Gx) (o : Nat) (ov : Nat → Int64) (WX : va_W) (x0 : Nat) (fs : List Value) (h0 : WX[0]? = some (x0, .inr (4, fs))) (mi row part : Int32) (v : Int64) {rm : Room} (hrm : rm.cells = 0 ∧ rm.slots = 0 ∧ rm.frames + 1 ≤ 8 ∧ 8 + (5 + 11) + rm.locals ≤ 138) (hM : Met l yX3_litres wsX3_litres rm (RdP G WX [.ref x0, .int mi, .int row, .int part]) (vp_Sl (fun r => r = v)) 0 0 (fun _ => False)) :
    Met l yL_litres wsL_litres ({ frames := 8, cells := 0, slots := 0, locals := 138 }) (WrP G ((o, .inl (kJ G, 1, .inr (.inl ov))) :: WX) [.ref x0, .int mi, .int row, .int part, .ref o]) (va_Qi (fun r (u : va_W) => r = 0 ∧ u = (o, .inl (kJ G, 1, .inr (.inl (vp_updL ov 0 v)))) :: WX) (fun u t => va_P G.1 vwCl u t.heap) (adr ((o, .inl (kJ G, 1, .inr (.inl ov))) :: WX))) 0 0 (adr ((o, .inl (kJ G, 1, .inr (.inl ov))) :: WX)) := by
  refine va_MetW (cc := cL_litres) (maxL := 6) (ret := (some .int)) (hh := [(0, 11, 14, 13)]) (by decide) rfl ?_
  intro p e s m args below meth c s₁ B hml hv
  obtain ⟨rfl, hP, hE, hD0⟩ := hv
  have hx := B.exec
  have hb := B.bytes
  have hr := B.returns
  have hts := atoms_spec (ws := wsL_litres) B.pre
  have hown : s.vm.findClass RL = some m.cls := findClass_of_methodNamed B.named
  have hlocks := B.notSynchronized
  have hD : va_D (adr ((o, .inl (kJ G, 1, .inr (.inl ov))) :: WX)) ((o, .inl (kJ G, 1, .inr (.inl ov))) :: WX) := ⟨hD0.1, fun k q hk => ⟨k, q.2, hk⟩⟩
  generalize adr ((o, .inl (kJ G, 1, .inr (.inl ov))) :: WX) = A at hD ⊢
  have hS : va_S A s.heap s.heap [] := va_S.rf
  have hl := lv_entry ([.ref x0, .int mi, .int row, .int part, .ref o]) (n := 6) (Nat.le_of_ble_eq_true rfl)
  rw [lg_entry_eq]
  generalize (lg_sl ([.ref x0, .int mi, .int row, .int part, .ref o]) ++ List.replicate (6 - (lg_sl ([.ref x0, .int mi, .int row, .int part, .ref o])).length) Slot.unset).toArray = ls at hl ⊢
  replace hl : lv_has ls 6 [(0, .ref x0), (1, .int mi), (2, .int row), (3, .int part), (4, .ref o)] := hl
  have hPX : va_P G.1 vwCl WX s.heap := x_mid [(o, .inl (kJ G, 1, .inr (.inl ov)))] WX [] (by simp) hP
  refine lv_aload hx hb dL_litres_0 (lv_at hl 4 rfl) ?_
  refine lv_iconst (v := 0) hx hb dL_litres_2 (by decide) ?_
  refine lv_aload_n hx hb dL_litres_3 rfl (lv_at hl 0 rfl) ?_
  refine lv_iload_n hx hb dL_litres_4 rfl (lv_at hl 1 rfl) ?_
  refine lv_iload_n hx hb dL_litres_5 rfl (lv_at hl 2 rfl) ?_
  refine lv_iload_n hx hb dL_litres_6 rfl (lv_at hl 3 rfl) ?_
  refine x_rl (va_runV (As := [.int mi, .int row, .int part]) (rest := [.int 0, .ref o]) ⟨hx, hb, hml, hown, hts⟩ hM (cwV 3 hts gL_litres_X3_litres rfl hrm.1 hrm.2.1 (by decide +kernel) hrm.2.2) (RdP.preV 0 4 h0 rfl hPX hE) rfl rfl hl.1 rfl (lv_room (Nat.le_of_ble_eq_true rfl)) dL_litres_7 ⟨Nat.zero_le _, Nat.zero_le _⟩) (fun r1 er1 => ?_)
  subst er1
  refine va_last hx hb hE.1 hP hD hS 0 1 rfl rfl (i := 0) (vp_in_nI (n := 0) (by decide) (by decide)) dL_litres_10 (fun H1 locs1 hP hD hS => ?_)
  refine lv_goto (tgt := 18) hx hb dL_litres_11 (by decide) ?_
  refine lv_iconst (v := 0) hx hb dL_litres_18 (by decide) ?_
  exact W.iret (v := 0) hx hb hr (fun tZ hZ hW => ⟨⟨0, _, rfl, ⟨rfl, rfl⟩, by show va_P _ _ _ tZ.heap; rw [hZ]; exact hP⟩, hS.F hZ⟩) hS.2.2 dL_litres_19

abbrev nC0 : Cond := .classLink RL 13 RJx00060
abbrev nC1 : Cond := .castable RJx00060 RJx00060
theorem nC0_good : goodWord nC0 = true := by decide +kernel
def TL (sa : Nat) (U : State) : Prop := TX sa U ∧ va_Nw nC0 U ∧ va_Nw nC1 U
theorem TL.next {sa : Nat} {s U : State} {H : Heap} (h : TL sa s) (hU : U.heap = H) (hW : s.WarmedH U.vm) (hk : ∀ q : Nat, q < s.heap.size → H[q]? = s.heap[q]?) : TL sa U :=
  ⟨h.1.next hU hW hk, word_at hW (good_of_word nC0_good) h.2.1, va_Nw.warmC hW h.2.2⟩
theorem TL.same {sa : Nat} {u U : State} (hv : u.vm = U.vm) (hh : u.heap = U.heap) (h : TL sa u) : TL sa U := TL.next h rfl (by rw [← hv]; exact State.WarmedH.refl u) (fun q _ => by rw [hh])
abbrev TlP (G : Gx) (sa : Nat) (ws : va_W) (As : List Value) : Array Value → State → Prop := va_Pc As (fun U => va_P G.1 vwCl ws U.heap ∧ EV G U ∧ TL sa U ∧ va_D (fun _ => True) ws)
theorem TlP.blind {G : Gx} {sa : Nat} {ws : va_W} {As : List Value} : FrameBlind (TlP G sa ws As) := fun a U g mk q => ⟨q.1, q.2.1, EV.same (u := U) (U := U.calling g mk a) rfl q.2.2.1, TL.same (u := U) (U := U.calling g mk a) rfl rfl q.2.2.2.1, q.2.2.2.2⟩
set_option maxHeartbeats 4000000 in
set_option maxRecDepth 100000 in
/-- the class throws: caught -/
theorem cl_threw (l : Launch) (G : Gx) (sa : Nat) (o : Nat) (ov : Nat → Int64) (WX : va_W) (x0 : Nat) (fs : List Value) (h0 : WX[0]? = some (x0, .inr (4, fs))) (mi row part : Int32) (hM : MetFree l yX3_litres (headSpec wsX3_litres ({ frames := 7, cells := 1, slots := 6, locals := 95 })) (ThP G sa WX [.ref x0, .int mi, .int row, .int part]) (fun _ _ _ _ _ => True) TQ) :
    Met l yL_litres wsL_litres ({ frames := 8, cells := 1, slots := 6, locals := 138 }) (TlP G sa ((o, .inl (kJ G, 1, .inr (.inl ov))) :: WX) [.ref x0, .int mi, .int row, .int part, .ref o]) (va_Qi (fun r (u : va_W) => r = 1 ∧ u = (o, .inl (kJ G, 1, .inr (.inl ov))) :: WX) (fun u t => va_P G.1 vwCl u t.heap) (adr ((o, .inl (kJ G, 1, .inr (.inl ov))) :: WX))) 1 6 (adr ((o, .inl (kJ G, 1, .inr (.inl ov))) :: WX)) := by
  refine va_MetW (cc := cL_litres) (maxL := 6) (ret := (some .int)) (hh := [(0, 11, 14, 13)]) (by decide) rfl ?_
  intro p e s m args below meth c s₁ B hml hv
  obtain ⟨rfl, hP, hE, hT, hD0⟩ := hv
  have hx := B.exec
  have hb := B.bytes
  have hr := B.returns
  have hts := atoms_spec (ws := wsL_litres) B.pre
  have hown : s.vm.findClass RL = some m.cls := findClass_of_methodNamed B.named
  have hlocks := B.notSynchronized
  have hD : va_D (adr ((o, .inl (kJ G, 1, .inr (.inl ov))) :: WX)) ((o, .inl (kJ G, 1, .inr (.inl ov))) :: WX) := ⟨hD0.1, fun k q hk => ⟨k, q.2, hk⟩⟩
  generalize adr ((o, .inl (kJ G, 1, .inr (.inl ov))) :: WX) = A at hD ⊢
  have hS : va_S A s.heap s.heap [] := va_S.rf
  have hl := lv_entry ([.ref x0, .int mi, .int row, .int part, .ref o]) (n := 6) (Nat.le_of_ble_eq_true rfl)
  rw [lg_entry_eq]
  generalize (lg_sl ([.ref x0, .int mi, .int row, .int part, .ref o]) ++ List.replicate (6 - (lg_sl ([.ref x0, .int mi, .int row, .int part, .ref o])).length) Slot.unset).toArray = ls at hl ⊢
  replace hl : lv_has ls 6 [(0, .ref x0), (1, .int mi), (2, .int row), (3, .int part), (4, .ref o)] := hl
  have hPX : va_P G.1 vwCl WX s.heap := x_mid [(o, .inl (kJ G, 1, .inr (.inl ov)))] WX [] (by simp) hP
  refine lv_aload hx hb dL_litres_0 (lv_at hl 4 rfl) ?_
  refine lv_iconst (v := 0) hx hb dL_litres_2 (by decide) ?_
  refine lv_aload_n hx hb dL_litres_3 rfl (lv_at hl 0 rfl) ?_
  refine lv_iload_n hx hb dL_litres_4 rfl (lv_at hl 1 rfl) ?_
  refine lv_iload_n hx hb dL_litres_5 rfl (lv_at hl 2 rfl) ?_
  refine lv_iload_n hx hb dL_litres_6 rfl (lv_at hl 3 rfl) ?_
  obtain ⟨rr, htab, hr1, hr2, hr3, hr4⟩ : ∃ rr : ExceptionTableEntry, c.exceptionTable.toList = [rr] ∧ rr.startPc = 0 ∧ rr.endPc = 11 ∧ rr.handlerPc = 14 ∧ rr.catchType = 13 := by
    obtain ⟨m9, methM, cM, hn9, hm9, hc9, -, -, htb, -⟩ := Cond.codeWith_spec (hts _ List.mem_cons_self)
    cases hn9.symm.trans B.named
    cases hm9.symm.trans B.method
    cases hc9.symm.trans (Stand.of_body B).code
    cases hq : c.exceptionTable.toList with
    | nil => rw [hq] at htb; cases htb
    | cons a t =>
      rw [hq] at htb
      cases t with
      | nil =>
        simp only [List.map_cons, List.map_nil, List.cons.injEq, Prod.mk.injEq, and_true] at htb
        exact ⟨a, rfl, htb.1, htb.2.1, htb.2.2.1, htb.2.2.2⟩
      | cons b t => simp at htb
  refine x_callT (As := [.int mi, .int row, .int part]) (rest := [.int 0, .ref o]) ⟨hx, hb, hml, hown, hts⟩ hM (cwV 3 hts gL_litres_X3_litres rfl rfl rfl (by decide +kernel) ⟨Nat.le_of_ble_eq_true rfl, Nat.le_of_ble_eq_true rfl⟩) ⟨ThP.blind, va_recv hE.1 hPX (ci := 4) rfl h0, fun U hU hW => ⟨rfl, by rw [hU]; exact hPX, hE.warm hW, hT.1.next hU hW (fun q _ => rfl)⟩⟩ rfl hl.1 rfl (lv_room (Nat.le_of_ble_eq_true rfl)) dL_litres_7 ⟨Nat.le_of_ble_eq_true rfl, Nat.le_of_ble_eq_true rfl⟩ htab (by simp [covers, hr1, hr2]) (by rw [hr4]; decide) (by rw [hr4]; exact hT.2.1.use rfl) (hT.2.2.use rfl) (fun xx H1 hz hk => ?_)
  rw [hr3]
  have hP1 : va_P G.1 vwCl ((o, .inl (kJ G, 1, .inr (.inl ov))) :: WX) H1 := fun k q hq => (hP k q hq).kept (hk q.1 (hP k q hq).lt)
  have hS : va_S A s.heap H1 [] := ⟨hz, fun q hq _ => hk q hq, fun q hq => by cases hq⟩
  refine lv_astore (lv' := [(5, .ref xx), (0, .ref x0), (1, .int mi), (2, .int row), (3, .int part), (4, .ref o)]) hx hb dL_litres_14 hl (by decide) rfl (fun ls hl => ?_)
  refine lv_iconst (v := 1) hx hb dL_litres_16 (by decide) ?_
  exact W.iret (v := 1) hx hb hr (fun tZ hZ hW => ⟨⟨1, _, rfl, ⟨rfl, rfl⟩, by show va_P _ _ _ tZ.heap; rw [hZ]; exact hP1⟩, hS.F hZ⟩) hS.2.2 dL_litres_17

