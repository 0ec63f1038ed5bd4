/-! THE LAW: its cases that write -/
theorem xw_map {W0 b0 b1 BC : va_W} (h : b1.map Prod.fst = b0.map Prod.fst) : (W0 ++ b1 ++ BC).map Prod.fst = (W0 ++ b0 ++ BC).map Prod.fst := by
  rw [List.map_append, List.map_append, List.map_append, List.map_append, h]
set_option maxHeartbeats 4000000 in
set_option maxRecDepth 100000 in
/-- pulses -/
theorem lc_1 {p : Program} {l : Launch} {e : Env} {s : State} {m : MethodId} {below : List Frame} {meth : Method} {c : Code} {G : Gx} {b L : Nat} {xs : Nat → Int32} {sa : Nat} (C0 : lw_At p s m meth c b L xs) (hE : EV G s) (hT : TL sa s) (hfl : l.flags = pinnedFlags ++ [noTraceFlag]) (hL : L ≤ 3584) {i : Nat} (hi : i + 7 ≤ L) {x0 x1 o k0 k1 k2 k3 k4 k5 k6 k7 k8 k9 k10 k11 k12 cells slots : Nat} (hcs : cells + 11 ≤ room_1.cells ∧ slots + 1063 ≤ room_1.slots) (kk : HEAD p l e s m below meth c G b i x0 x1 o k0 k1 k2 k3 k4 k5 k6 k7 k8 k9 k10 k11 k12 (cells + 11) (slots + 1063) 968) : HEAD p l e s m below meth c G b i x0 x1 o k0 k1 k2 k3 k4 k5 k6 k7 k8 k9 k10 k11 k12 cells slots 165 := by
  intro M mc f len thr ky ro ln kd nb sc wa sm ld lo lw tx ov H locs ls hIV hP hD hS hl
  obtain ⟨hx, hb, hr, hml, hown, hts0, hX, hbl, hlocks, hgv⟩ := id C0
  have hts : ∀ w ∈ wsL_law, w.before #[Value.ref b] s = true := fun w h => hts0 w (wsL_law_in w h)
  have hz : cells + 0 ≤ room_1.cells ∧ slots + 0 ≤ room_1.slots := ⟨by omega, by omega⟩
  have hmc := hIV.1.2
  generalize e1 : xs (i + 1) = v1
  generalize e2 : xs (i + 2) = v2
  generalize e3 : xs (i + 3) = v3
  generalize e4 : xs (i + 4) = v4
  generalize e5 : xs (i + 5) = v5
  generalize e6 : xs (i + 6) = v6
  refine la_1 C0 hL hi hS hl e1 e2 e3 e4 e5 e6 ?_
  rcases mi_or hmc f v1 with ⟨hm1, hm2⟩ | ⟨j, hj, rfl⟩
  · refine x_ri (va_runV (As := [.int v1, .long (lg2 v2 v3), .long (lg2 v4 v5), .int v6]) (rest := []) ⟨hx, hb, hml, hown, hts⟩ (ca_X3_pulses l G x0 x1 mc f v1 (lg2 v2 v3) (lg2 v4 v5) v6 hmc hm1) (cwV 4 hts gL_law_X3_pulses rfl rfl rfl (by decide +kernel) ⟨Nat.le_of_ble_eq_true rfl, Nat.le_of_ble_eq_true rfl⟩) (RdP.preV 0 4 rfl rfl (x_front _ _ (pX hP)) hE) rfl rfl hl.1 rfl (lv_room (Nat.le_of_ble_eq_true rfl)) dL_law_223 hz) (fun r1 er1 => ?_)
    subst er1
    refine lb_1 C0 hL hi hS hl e1 e2 e3 e4 e5 e6 ?_
    refine va_calli (va_runV (As := [.int v1, .long (lg2 v2 v3), .long (lg2 v4 v5), .int v6]) (rest := [.int 0]) ⟨hx, hb, hml, hown, hts⟩ (ca_X4_pulses l G k0 k1 k2 k3 k4 k5 k6 k7 k8 k9 k10 k11 k12 mc len thr ky ro ln kd nb sc wa sm ld lo lw tx v1 (lg2 v2 v3) (lg2 v4 v5) v6 hmc hm2) (cwV 4 hts gL_law_X4_pulses rfl rfl rfl (by decide +kernel) ⟨Nat.le_of_ble_eq_true rfl, Nat.le_of_ble_eq_true rfl⟩) (WrP.preV 0 5 rfl rfl (pK hP) hE (dK hD)) rfl rfl hl.1 rfl (lv_room (Nat.le_of_ble_eq_true rfl)) dL_law_284 hz) hS (fun q _ h => aK hD q h) (aK hD) (fun r2 u t H1 locs ht hvm hw hB hz1 hk1 hS => ?_)
    rw [ht] at hB
    obtain ⟨rfl, rfl⟩ := hw
    obtain ⟨hP, hD⟩ := jK (KW' := wK G k0 k1 k2 k3 k4 k5 k6 k7 k8 k9 k10 k11 k12 (nI mc) len 0 ky ro ln kd nb sc wa sm ld lo lw tx) hP hD hk1 hB rfl
    refine lv_icmp_eq (tgt := 968) hx hb dL_law_287 (by decide) (fun c0 => ?_) (fun c0 => absurd (rfl) c0)
    refine W.widen (k := cells + 11) (n := slots + 1063) (by omega) (by omega) ?_
    exact kk M mc f len 0 ky ro ln kd nb sc wa sm ld lo lw tx ov H1 locs ls hIV hP hD hS hl
  · obtain ⟨x, hMx⟩ : ∃ x, M[j]? = some x := ⟨M[j]'(by rw [hIV.1.1]; exact hj), List.getElem?_eq_getElem _⟩
    obtain ⟨hfj, hMI⟩ := hIV.2.1 j x hMx
    obtain ⟨BA, BC, hBK, hBs⟩ := blks_at (G := G) hMx
    obtain ⟨⟨m0, t0, t1, t2, t3, h0, h1, h2, h3, h4, h5⟩, sl, la, tn, ts, ta, tb, key, n, nu, st, de, su, mk⟩ := x
    replace hMI : MI j sl la tn ts ta tb key n nu st de su mk ky ro ln kd nb sc wa sm ld lo lw := hMI
    have hj8 : j < 8 := by omega
    have hn := hMI.1.2.2.1
    have ht16 := hMI.1.2.2.2.2.1
    rw [xw_cut hBK] at hP hD
    replace hP : va_P G.1 vwCl (wK G k0 k1 k2 k3 k4 k5 k6 k7 k8 k9 k10 k11 k12 (nI mc) len thr ky ro ln kd nb sc wa sm ld lo lw tx ++ [(o, .inl (kJ G, 1, .inr (.inl ov)))] ++ ((wX G x0 x1 (nI mc) f ++ BA) ++ wM G m0 t0 t1 t2 t3 h0 h1 h2 h3 h4 h5 sl la (nI tn) ts ta tb key (nI n) nu st de su mk ++ BC)) H := hP
    replace hD : va_D (fun q : Nat => s.heap.size ≤ q) (wK G k0 k1 k2 k3 k4 k5 k6 k7 k8 k9 k10 k11 k12 (nI mc) len thr ky ro ln kd nb sc wa sm ld lo lw tx ++ [(o, .inl (kJ G, 1, .inr (.inl ov)))] ++ ((wX G x0 x1 (nI mc) f ++ BA) ++ wM G m0 t0 t1 t2 t3 h0 h1 h2 h3 h4 h5 sl la (nI tn) ts ta tb key (nI n) nu st de su mk ++ BC)) := hD
    refine va_calli (va_runV (As := [.int (nI j), .long (lg2 v2 v3), .long (lg2 v4 v5), .int v6]) (rest := []) ⟨hx, hb, hml, hown, hts⟩ (ct_X3_pulses l G x0 x1 mc f BA BC j m0 t0 t1 t2 t3 h0 h1 h2 h3 h4 h5 sl la tn ts ta tb key n nu st de su mk (lg2 v2 v3) (lg2 v4 v5) v6 hmc hj hfj hn ht16 hMI.sl01) (cwV 4 hts gL_law_X3_pulses rfl rfl rfl (by decide +kernel) ⟨Nat.le_of_ble_eq_true rfl, Nat.le_of_ble_eq_true rfl⟩) (WrP.preV 0 4 rfl rfl (pX hP) hE (dX hD)) rfl rfl hl.1 rfl (lv_room (Nat.le_of_ble_eq_true rfl)) dL_law_223 hz) hS (fun q _ h => aX hD q h) (aX hD) (fun r1 u t H1 locs ht hvm hw hB hz1 hk1 hS => ?_)
    rw [ht] at hB
    rcases hw with ⟨rfl, hq, rfl⟩ | ⟨rfl, hq1, hq2, rfl⟩
    · obtain ⟨hP, hD⟩ := jX (X' := ((wX G x0 x1 (nI mc) f ++ BA) ++ wM G m0 t0 t1 t2 t3 h0 h1 h2 h3 h4 h5 sl la (nI tn) ts ta tb key (nI n) nu st de su mk ++ BC)) hP hD hk1 hB (xw_map rfl)
      generalize H1 = H at hP hS ⊢
      refine lb_1 C0 hL hi hS hl e1 e2 e3 e4 e5 e6 ?_
      refine va_calli (va_runV (As := [.int (nI j), .long (lg2 v2 v3), .long (lg2 v4 v5), .int v6]) (rest := [.int 0]) ⟨hx, hb, hml, hown, hts⟩ (ct_X4_pulses l G k0 k1 k2 k3 k4 k5 k6 k7 k8 k9 k10 k11 k12 mc len thr ky ro ln kd nb sc wa sm ld lo lw tx j n tn (lg2 v2 v3) (lg2 v4 v5) v6 hmc hj hn hMI.1.2.1 ht16 hMI.1.2.2.2.1) (cwV 4 hts gL_law_X4_pulses rfl rfl rfl (by decide +kernel) ⟨Nat.le_of_ble_eq_true rfl, Nat.le_of_ble_eq_true rfl⟩) (WrP.preV 0 5 rfl rfl (pK hP) hE (dK hD)) rfl rfl hl.1 rfl (lv_room (Nat.le_of_ble_eq_true rfl)) dL_law_284 hz) hS (fun q _ h => aK hD q h) (aK hD) (fun r2 u t H1 locs ht hvm hw hB hz1 hk1 hS => ?_)
      rw [ht] at hB
      rcases hw with ⟨rfl, hq', rfl⟩ | ⟨rfl, hq1', hq2', rfl⟩
      · obtain ⟨hP, hD⟩ := jK (KW' := wK G k0 k1 k2 k3 k4 k5 k6 k7 k8 k9 k10 k11 k12 (nI mc) len 0 ky ro ln kd nb sc wa sm ld lo lw tx) hP hD hk1 hB rfl
        refine lv_icmp_eq (tgt := 968) hx hb dL_law_287 (by decide) (fun c0 => ?_) (fun c0 => absurd (rfl) c0)
        refine W.widen (k := cells + 11) (n := slots + 1063) (by omega) (by omega) ?_
        exact kk M mc f len 0 ky ro ln kd nb sc wa sm ld lo lw tx ov H1 locs ls hIV (by rw [xw_cut hBK]; exact hP) (by rw [xw_cut hBK]; exact hD) hS hl
      exact absurd (hMI.fit.mpr ⟨by rw [hq1']; decide, by rw [hq2']; decide⟩) (fun z => hq.elim z.1 z.2)
    · obtain ⟨hP, hD⟩ := jX (X' := ((wX G x0 x1 (nI mc) f ++ BA) ++ wM G m0 t0 t1 t2 t3 h0 h1 h2 h3 h4 h5 sl (lg2 v4 v5) (nI tn) ts ta tb key (nI (n + 1)) (vp_updL nu n (lg2 v2 v3)) (vp_updL st n (lg2 v4 v5)) (upd de n v6) (vp_updL su n (f_due key (n + 1) (vp_updL nu n (lg2 v2 v3)) (vp_updL st n (lg2 v4 v5)) (upd de n v6) su (nI n))) (upd mk n (if sl = 0 then 1 else 0)) ++ BC)) hP hD hk1 hB (xw_map rfl)
      generalize H1 = H at hP hS ⊢
      refine lb_1 C0 hL hi hS hl e1 e2 e3 e4 e5 e6 ?_
      refine va_calli (va_runV (As := [.int (nI j), .long (lg2 v2 v3), .long (lg2 v4 v5), .int v6]) (rest := [.int 1]) ⟨hx, hb, hml, hown, hts⟩ (ct_X4_pulses l G k0 k1 k2 k3 k4 k5 k6 k7 k8 k9 k10 k11 k12 mc len thr ky ro ln kd nb sc wa sm ld lo lw tx j n tn (lg2 v2 v3) (lg2 v4 v5) v6 hmc hj hn hMI.1.2.1 ht16 hMI.1.2.2.2.1) (cwV 4 hts gL_law_X4_pulses rfl rfl rfl (by decide +kernel) ⟨Nat.le_of_ble_eq_true rfl, Nat.le_of_ble_eq_true rfl⟩) (WrP.preV 0 5 rfl rfl (pK hP) hE (dK hD)) rfl rfl hl.1 rfl (lv_room (Nat.le_of_ble_eq_true rfl)) dL_law_284 hz) hS (fun q _ h => aK hD q h) (aK hD) (fun r2 u t H1 locs ht hvm hw hB hz1 hk1 hS => ?_)
      rw [ht] at hB
      rcases hw with ⟨rfl, hq', rfl⟩ | ⟨rfl, hq1', hq2', rfl⟩
      · exact absurd (hMI.fit.mp ⟨hq1, by omega⟩) (fun z => hq'.elim z.1 z.2)
      obtain ⟨hP, hD⟩ := jK (KW' := wK G k0 k1 k2 k3 k4 k5 k6 k7 k8 k9 k10 k11 k12 (nI mc) len 0 ky (upd ro j (nI (n + 1))) ln (upd kd (j * 200 + n) 0) (vp_updL nb (j * 200 + n) (lg2 v2 v3)) (vp_updL sc (j * 200 + n) (lg2 v4 v5)) (upd wa (j * 200 + n) v6) (vp_updL sm (j * 200 + n) (md_due ky (upd kd (j * 200 + n) 0) (vp_updL nb (j * 200 + n) (lg2 v2 v3)) (vp_updL sc (j * 200 + n) (lg2 v4 v5)) (upd wa (j * 200 + n) v6) sm j n)) ld lo lw tx) hP hD hk1 hB rfl
      refine lv_icmp_eq (tgt := 968) hx hb dL_law_287 (by decide) (fun c0 => ?_) (fun c0 => absurd (rfl) c0)
      refine W.widen (k := cells + 11) (n := slots + 1063) (by omega) (by omega) ?_
      exact kk (M.set j ((m0, t0, t1, t2, t3, h0, h1, h2, h3, h4, h5), (sl, (lg2 v4 v5), tn, ts, ta, tb, key, (n + 1), (vp_updL nu n (lg2 v2 v3)), (vp_updL st n (lg2 v4 v5)), (upd de n v6), (vp_updL su n (f_due key (n + 1) (vp_updL nu n (lg2 v2 v3)) (vp_updL st n (lg2 v4 v5)) (upd de n v6) su (nI n))), (upd mk n (if sl = 0 then 1 else 0))))) mc f len 0 ky (upd ro j (nI (n + 1))) ln (upd kd (j * 200 + n) 0) (vp_updL nb (j * 200 + n) (lg2 v2 v3)) (vp_updL sc (j * 200 + n) (lg2 v4 v5)) (upd wa (j * 200 + n) v6) (vp_updL sm (j * 200 + n) (md_due ky (upd kd (j * 200 + n) 0) (vp_updL nb (j * 200 + n) (lg2 v2 v3)) (vp_updL sc (j * 200 + n) (lg2 v4 v5)) (upd wa (j * 200 + n) v6) sm j n)) ld lo lw tx ov H1 locs ls (hIV.set (y := (sl, (lg2 v4 v5), tn, ts, ta, tb, key, (n + 1), (vp_updL nu n (lg2 v2 v3)), (vp_updL st n (lg2 v4 v5)), (upd de n v6), (vp_updL su n (f_due key (n + 1) (vp_updL nu n (lg2 v2 v3)) (vp_updL st n (lg2 v4 v5)) (upd de n v6) su (nI n))), (upd mk n (if sl = 0 then 1 else 0)))) hMx (hMI.addP hq2 hq1) (fun q hq => AG.add hq2 hq)) (by rw [xw_cut (hBs _)]; exact hP) (by rw [xw_cut (hBs _)]; exact hD) hS hl

set_option maxHeartbeats 4000000 in
set_option maxRecDepth 100000 in
/-- reset -/
theorem lc_11 {p : Program} {l : Launch} {e : Env} {s : State} {m : MethodId} {below : List Frame} {meth : Method} {c : Code} {G : Gx} {b L : Nat} {xs : Nat → Int32} {sa : Nat} (C0 : lw_At p s m meth c b L xs) (hE : EV G s) (hT : TL sa s) (hfl : l.flags = pinnedFlags ++ [noTraceFlag]) (hL : L ≤ 3584) {i : Nat} (hi : i + 7 ≤ L) {x0 x1 o k0 k1 k2 k3 k4 k5 k6 k7 k8 k9 k10 k11 k12 cells slots : Nat} (hcs : cells + 11 ≤ room_1.cells ∧ slots + 1063 ≤ room_1.slots) (kk : HEAD p l e s m below meth c G b i x0 x1 o k0 k1 k2 k3 k4 k5 k6 k7 k8 k9 k10 k11 k12 (cells + 11) (slots + 1063) 968) : HEAD p l e s m below meth c G b i x0 x1 o k0 k1 k2 k3 k4 k5 k6 k7 k8 k9 k10 k11 k12 cells slots 862 := by
  intro M mc f len thr ky ro ln kd nb sc wa sm ld lo lw tx ov H locs ls hIV hP hD hS hl
  obtain ⟨hx, hb, hr, hml, hown, hts0, hX, hbl, hlocks, hgv⟩ := id C0
  have hts : ∀ w ∈ wsL_law, w.before #[Value.ref b] s = true := fun w h => hts0 w (wsL_law_in w h)
  have hz : cells + 0 ≤ room_1.cells ∧ slots + 0 ≤ room_1.slots := ⟨by omega, by omega⟩
  have hmc := hIV.1.2
  generalize e1 : xs (i + 1) = v1
  generalize e2 : xs (i + 2) = v2
  generalize e3 : xs (i + 3) = v3
  refine la_11 C0 hL hi hS hl e1 e2 e3 ?_
  rcases mi_or hmc f v1 with ⟨hm1, hm2⟩ | ⟨j, hj, rfl⟩
  · refine x_ri (va_runV (As := [.int v1, .long (lg2 v2 v3)]) (rest := []) ⟨hx, hb, hml, hown, hts⟩ (ca_X3_reset l G x0 x1 mc f v1 (lg2 v2 v3) hmc hm1) (cwV 2 hts gL_law_X3_reset rfl rfl rfl (by decide +kernel) ⟨Nat.le_of_ble_eq_true rfl, Nat.le_of_ble_eq_true rfl⟩) (RdP.preV 0 4 rfl rfl (x_front _ _ (pX hP)) hE) rfl rfl hl.1 rfl (lv_room (Nat.le_of_ble_eq_true rfl)) dL_law_891 hz) (fun r1 er1 => ?_)
    subst er1
    refine lb_11 C0 hL hi hS hl e1 e2 e3 ?_
    refine va_calli (va_runV (As := [.int v1, .long (lg2 v2 v3)]) (rest := [.int 0]) ⟨hx, hb, hml, hown, hts⟩ (ca_X4_reset l G k0 k1 k2 k3 k4 k5 k6 k7 k8 k9 k10 k11 k12 mc len thr ky ro ln kd nb sc wa sm ld lo lw tx v1 (lg2 v2 v3) hmc hm2) (cwV 2 hts gL_law_X4_reset rfl rfl rfl (by decide +kernel) ⟨Nat.le_of_ble_eq_true rfl, Nat.le_of_ble_eq_true rfl⟩) (WrP.preV 0 5 rfl rfl (pK hP) hE (dK hD)) rfl rfl hl.1 rfl (lv_room (Nat.le_of_ble_eq_true rfl)) dL_law_923 hz) hS (fun q _ h => aK hD q h) (aK hD) (fun r2 u t H1 locs ht hvm hw hB hz1 hk1 hS => ?_)
    rw [ht] at hB
    obtain ⟨rfl, rfl⟩ := hw
    obtain ⟨hP, hD⟩ := jK (KW' := wK G k0 k1 k2 k3 k4 k5 k6 k7 k8 k9 k10 k11 k12 (nI mc) len 0 ky ro ln kd nb sc wa sm ld lo lw tx) hP hD hk1 hB rfl
    refine lv_icmp_eq (tgt := 968) hx hb dL_law_926 (by decide) (fun c0 => ?_) (fun c0 => absurd (rfl) c0)
    refine W.widen (k := cells + 11) (n := slots + 1063) (by omega) (by omega) ?_
    exact kk M mc f len 0 ky ro ln kd nb sc wa sm ld lo lw tx ov H1 locs ls hIV hP hD hS hl
  · obtain ⟨x, hMx⟩ : ∃ x, M[j]? = some x := ⟨M[j]'(by rw [hIV.1.1]; exact hj), List.getElem?_eq_getElem _⟩
    obtain ⟨hfj, hMI⟩ := hIV.2.1 j x hMx
    obtain ⟨BA, BC, hBK, hBs⟩ := blks_at (G := G) hMx
    obtain ⟨⟨m0, t0, t1, t2, t3, h0, h1, h2, h3, h4, h5⟩, sl, la, tn, ts, ta, tb, key, n, nu, st, de, su, mk⟩ := x
    replace hMI : MI j sl la tn ts ta tb key n nu st de su mk ky ro ln kd nb sc wa sm ld lo lw := hMI
    have hj8 : j < 8 := by omega
    have hn := hMI.1.2.2.1
    have ht16 := hMI.1.2.2.2.2.1
    rw [xw_cut hBK] at hP hD
    replace hP : va_P G.1 vwCl (wK G k0 k1 k2 k3 k4 k5 k6 k7 k8 k9 k10 k11 k12 (nI mc) len thr ky ro ln kd nb sc wa sm ld lo lw tx ++ [(o, .inl (kJ G, 1, .inr (.inl ov)))] ++ ((wX G x0 x1 (nI mc) f ++ BA) ++ wM G m0 t0 t1 t2 t3 h0 h1 h2 h3 h4 h5 sl la (nI tn) ts ta tb key (nI n) nu st de su mk ++ BC)) H := hP
    replace hD : va_D (fun q : Nat => s.heap.size ≤ q) (wK G k0 k1 k2 k3 k4 k5 k6 k7 k8 k9 k10 k11 k12 (nI mc) len thr ky ro ln kd nb sc wa sm ld lo lw tx ++ [(o, .inl (kJ G, 1, .inr (.inl ov)))] ++ ((wX G x0 x1 (nI mc) f ++ BA) ++ wM G m0 t0 t1 t2 t3 h0 h1 h2 h3 h4 h5 sl la (nI tn) ts ta tb key (nI n) nu st de su mk ++ BC)) := hD
    refine va_calli (va_runV (As := [.int (nI j), .long (lg2 v2 v3)]) (rest := []) ⟨hx, hb, hml, hown, hts⟩ (ct_X3_reset l G x0 x1 mc f BA BC j m0 t0 t1 t2 t3 h0 h1 h2 h3 h4 h5 sl la tn ts ta tb key n nu st de su mk (lg2 v2 v3) hmc hj hfj hn ht16 hMI.sl01) (cwV 2 hts gL_law_X3_reset rfl rfl rfl (by decide +kernel) ⟨Nat.le_of_ble_eq_true rfl, Nat.le_of_ble_eq_true rfl⟩) (WrP.preV 0 4 rfl rfl (pX hP) hE (dX hD)) rfl rfl hl.1 rfl (lv_room (Nat.le_of_ble_eq_true rfl)) dL_law_891 hz) hS (fun q _ h => aX hD q h) (aX hD) (fun r1 u t H1 locs ht hvm hw hB hz1 hk1 hS => ?_)
    rw [ht] at hB
    rcases hw with ⟨rfl, hq, rfl⟩ | ⟨rfl, hq1, hq2, rfl⟩
    · obtain ⟨hP, hD⟩ := jX (X' := ((wX G x0 x1 (nI mc) f ++ BA) ++ wM G m0 t0 t1 t2 t3 h0 h1 h2 h3 h4 h5 sl la (nI tn) ts ta tb key (nI n) nu st de su mk ++ BC)) hP hD hk1 hB (xw_map rfl)
      generalize H1 = H at hP hS ⊢
      refine lb_11 C0 hL hi hS hl e1 e2 e3 ?_
      refine va_calli (va_runV (As := [.int (nI j), .long (lg2 v2 v3)]) (rest := [.int 0]) ⟨hx, hb, hml, hown, hts⟩ (ct_X4_reset l G k0 k1 k2 k3 k4 k5 k6 k7 k8 k9 k10 k11 k12 mc len thr ky ro ln kd nb sc wa sm ld lo lw tx j n tn (lg2 v2 v3) hmc hj hn hMI.1.2.1 ht16 hMI.1.2.2.2.1) (cwV 2 hts gL_law_X4_reset rfl rfl rfl (by decide +kernel) ⟨Nat.le_of_ble_eq_true rfl, Nat.le_of_ble_eq_true rfl⟩) (WrP.preV 0 5 rfl rfl (pK hP) hE (dK hD)) rfl rfl hl.1 rfl (lv_room (Nat.le_of_ble_eq_true rfl)) dL_law_923 hz) hS (fun q _ h => aK hD q h) (aK hD) (fun r2 u t H1 locs ht hvm hw hB hz1 hk1 hS => ?_)
      rw [ht] at hB
      rcases hw with ⟨rfl, hq', rfl⟩ | ⟨rfl, hq1', rfl⟩
      · obtain ⟨hP, hD⟩ := jK (KW' := wK G k0 k1 k2 k3 k4 k5 k6 k7 k8 k9 k10 k11 k12 (nI mc) len 0 ky ro ln kd nb sc wa sm ld lo lw tx) hP hD hk1 hB rfl
        refine lv_icmp_eq (tgt := 968) hx hb dL_law_926 (by decide) (fun c0 => ?_) (fun c0 => absurd (rfl) c0)
        refine W.widen (k := cells + 11) (n := slots + 1063) (by omega) (by omega) ?_
        exact kk M mc f len 0 ky ro ln kd nb sc wa sm ld lo lw tx ov H1 locs ls hIV (by rw [xw_cut hBK]; exact hP) (by rw [xw_cut hBK]; exact hD) hS hl
      exact absurd (hMI.fitR.mpr (by rw [hq1']; decide)) (fun z => hq.elim z.1 z.2)
    · obtain ⟨hP, hD⟩ := jX (X' := ((wX G x0 x1 (nI mc) f ++ BA) ++ wM G m0 t0 t1 t2 t3 h0 h1 h2 h3 h4 h5 sl la (nI tn) ts ta tb key (nI (n + 1)) (vp_updL nu n (lg2 v2 v3)) (vp_updL st n (-1)) (upd de n 0) (vp_updL su n (f_due key (n + 1) (vp_updL nu n (lg2 v2 v3)) (vp_updL st n (-1)) (upd de n 0) su (nI n))) (upd mk n (if sl = 0 then 1 else 0)) ++ BC)) hP hD hk1 hB (xw_map rfl)
      generalize H1 = H at hP hS ⊢
      refine lb_11 C0 hL hi hS hl e1 e2 e3 ?_
      refine va_calli (va_runV (As := [.int (nI j), .long (lg2 v2 v3)]) (rest := [.int 1]) ⟨hx, hb, hml, hown, hts⟩ (ct_X4_reset l G k0 k1 k2 k3 k4 k5 k6 k7 k8 k9 k10 k11 k12 mc len thr ky ro ln kd nb sc wa sm ld lo lw tx j n tn (lg2 v2 v3) hmc hj hn hMI.1.2.1 ht16 hMI.1.2.2.2.1) (cwV 2 hts gL_law_X4_reset rfl rfl rfl (by decide +kernel) ⟨Nat.le_of_ble_eq_true rfl, Nat.le_of_ble_eq_true rfl⟩) (WrP.preV 0 5 rfl rfl (pK hP) hE (dK hD)) rfl rfl hl.1 rfl (lv_room (Nat.le_of_ble_eq_true rfl)) dL_law_923 hz) hS (fun q _ h => aK hD q h) (aK hD) (fun r2 u t H1 locs ht hvm hw hB hz1 hk1 hS => ?_)
      rw [ht] at hB
      rcases hw with ⟨rfl, hq', rfl⟩ | ⟨rfl, hq1', rfl⟩
      · exact absurd hq' (hMI.fitR.mp ⟨hq1, by omega⟩)
      obtain ⟨hP, hD⟩ := jK (KW' := wK G k0 k1 k2 k3 k4 k5 k6 k7 k8 k9 k10 k11 k12 (nI mc) len 0 ky (upd ro j (nI (n + 1))) ln (upd kd (j * 200 + n) 1) (vp_updL nb (j * 200 + n) (lg2 v2 v3)) (vp_updL sc (j * 200 + n) 0) (upd wa (j * 200 + n) 0) (vp_updL sm (j * 200 + n) (md_due ky (upd kd (j * 200 + n) 1) (vp_updL nb (j * 200 + n) (lg2 v2 v3)) (vp_updL sc (j * 200 + n) 0) (upd wa (j * 200 + n) 0) sm j n)) ld lo lw tx) hP hD hk1 hB rfl
      refine lv_icmp_eq (tgt := 968) hx hb dL_law_926 (by decide) (fun c0 => ?_) (fun c0 => absurd (rfl) c0)
      refine W.widen (k := cells + 11) (n := slots + 1063) (by omega) (by omega) ?_
      exact kk (M.set j ((m0, t0, t1, t2, t3, h0, h1, h2, h3, h4, h5), (sl, la, tn, ts, ta, tb, key, (n + 1), (vp_updL nu n (lg2 v2 v3)), (vp_updL st n (-1)), (upd de n 0), (vp_updL su n (f_due key (n + 1) (vp_updL nu n (lg2 v2 v3)) (vp_updL st n (-1)) (upd de n 0) su (nI n))), (upd mk n (if sl = 0 then 1 else 0))))) mc f len 0 ky (upd ro j (nI (n + 1))) ln (upd kd (j * 200 + n) 1) (vp_updL nb (j * 200 + n) (lg2 v2 v3)) (vp_updL sc (j * 200 + n) 0) (upd wa (j * 200 + n) 0) (vp_updL sm (j * 200 + n) (md_due ky (upd kd (j * 200 + n) 1) (vp_updL nb (j * 200 + n) (lg2 v2 v3)) (vp_updL sc (j * 200 + n) 0) (upd wa (j * 200 + n) 0) sm j n)) ld lo lw tx ov H1 locs ls (hIV.set (y := (sl, la, tn, ts, ta, tb, key, (n + 1), (vp_updL nu n (lg2 v2 v3)), (vp_updL st n (-1)), (upd de n 0), (vp_updL su n (f_due key (n + 1) (vp_updL nu n (lg2 v2 v3)) (vp_updL st n (-1)) (upd de n 0) su (nI n))), (upd mk n (if sl = 0 then 1 else 0)))) hMx (hMI.addR hq2 hq1) (fun q hq => AG.add hq2 hq)) (by rw [xw_cut (hBs _)]; exact hP) (by rw [xw_cut (hBs _)]; exact hD) hS hl

set_option maxHeartbeats 4000000 in
set_option maxRecDepth 100000 in
/-- seal -/
theorem lc_7 {p : Program} {l : Launch} {e : Env} {s : State} {m : MethodId} {below : List Frame} {meth : Method} {c : Code} {G : Gx} {b L : Nat} {xs : Nat → Int32} {sa : Nat} (C0 : lw_At p s m meth c b L xs) (hE : EV G s) (hT : TL sa s) (hfl : l.flags = pinnedFlags ++ [noTraceFlag]) (hL : L ≤ 3584) {i : Nat} (hi : i + 7 ≤ L) {x0 x1 o k0 k1 k2 k3 k4 k5 k6 k7 k8 k9 k10 k11 k12 cells slots : Nat} (hcs : cells + 11 ≤ room_1.cells ∧ slots + 1063 ≤ room_1.slots) (kk : HEAD p l e s m below meth c G b i x0 x1 o k0 k1 k2 k3 k4 k5 k6 k7 k8 k9 k10 k11 k12 (cells + 11) (slots + 1063) 968) : HEAD p l e s m below meth c G b i x0 x1 o k0 k1 k2 k3 k4 k5 k6 k7 k8 k9 k10 k11 k12 cells slots 641 := by
  intro M mc f len thr ky ro ln kd nb sc wa sm ld lo lw tx ov H locs ls hIV hP hD hS hl
  obtain ⟨hx, hb, hr, hml, hown, hts0, hX, hbl, hlocks, hgv⟩ := id C0
  have hts : ∀ w ∈ wsL_law, w.before #[Value.ref b] s = true := fun w h => hts0 w (wsL_law_in w h)
  have hz : cells + 0 ≤ room_1.cells ∧ slots + 0 ≤ room_1.slots := ⟨by omega, by omega⟩
  have hmc := hIV.1.2
  generalize e1 : xs (i + 1) = v1
  generalize e2 : xs (i + 2) = v2
  generalize e3 : xs (i + 3) = v3
  refine la_7 C0 hL hi hS hl e1 e2 e3 ?_
  rcases mi_or hmc f v1 with ⟨hm1, hm2⟩ | ⟨j, hj, rfl⟩
  · refine x_ri (va_runV (As := [.int v1, .int v2, .int (if v3 = 0 then 0 else 1)]) (rest := []) ⟨hx, hb, hml, hown, hts⟩ (ca_X3_seal l G x0 x1 mc f v1 v2 (if v3 = 0 then 0 else 1) hmc hm1) (cwV 3 hts gL_law_X3_seal rfl rfl rfl (by decide +kernel) ⟨Nat.le_of_ble_eq_true rfl, Nat.le_of_ble_eq_true rfl⟩) (RdP.preV 0 4 rfl rfl (x_front _ _ (pX hP)) hE) rfl rfl hl.1 rfl (lv_room (Nat.le_of_ble_eq_true rfl)) dL_law_668 hz) (fun r1 er1 => ?_)
    subst er1
    refine lb_7 C0 hL hi hS hl e1 e2 e3 ?_
    refine va_calli (va_runV (As := [.int v1, .int v2, .int (if v3 = 0 then 0 else 1)]) (rest := [.int 0]) ⟨hx, hb, hml, hown, hts⟩ (ca_X4_seal l G k0 k1 k2 k3 k4 k5 k6 k7 k8 k9 k10 k11 k12 mc len thr ky ro ln kd nb sc wa sm ld lo lw tx v1 v2 (if v3 = 0 then 0 else 1) hmc hm2) (cwV 3 hts gL_law_X4_seal rfl rfl rfl (by decide +kernel) ⟨Nat.le_of_ble_eq_true rfl, Nat.le_of_ble_eq_true rfl⟩) (WrP.preV 0 5 rfl rfl (pK hP) hE (dK hD)) rfl rfl hl.1 rfl (lv_room (Nat.le_of_ble_eq_true rfl)) dL_law_698 hz) hS (fun q _ h => aK hD q h) (aK hD) (fun r2 u t H1 locs ht hvm hw hB hz1 hk1 hS => ?_)
    rw [ht] at hB
    obtain ⟨rfl, rfl⟩ := hw
    obtain ⟨hP, hD⟩ := jK (KW' := wK G k0 k1 k2 k3 k4 k5 k6 k7 k8 k9 k10 k11 k12 (nI mc) len 0 ky ro ln kd nb sc wa sm ld lo lw tx) hP hD hk1 hB rfl
    refine lv_icmp_eq (tgt := 968) hx hb dL_law_701 (by decide) (fun c0 => ?_) (fun c0 => absurd (rfl) c0)
    refine W.widen (k := cells + 11) (n := slots + 1063) (by omega) (by omega) ?_
    exact kk M mc f len 0 ky ro ln kd nb sc wa sm ld lo lw tx ov H1 locs ls hIV hP hD hS hl
  · obtain ⟨x, hMx⟩ : ∃ x, M[j]? = some x := ⟨M[j]'(by rw [hIV.1.1]; exact hj), List.getElem?_eq_getElem _⟩
    obtain ⟨hfj, hMI⟩ := hIV.2.1 j x hMx
    obtain ⟨BA, BC, hBK, hBs⟩ := blks_at (G := G) hMx
    obtain ⟨⟨m0, t0, t1, t2, t3, h0, h1, h2, h3, h4, h5⟩, sl, la, tn, ts, ta, tb, key, n, nu, st, de, su, mk⟩ := x
    replace hMI : MI j sl la tn ts ta tb key n nu st de su mk ky ro ln kd nb sc wa sm ld lo lw := hMI
    have hj8 : j < 8 := by omega
    have hn := hMI.1.2.2.1
    have ht16 := hMI.1.2.2.2.2.1
    rw [xw_cut hBK] at hP hD
    replace hP : va_P G.1 vwCl (wK G k0 k1 k2 k3 k4 k5 k6 k7 k8 k9 k10 k11 k12 (nI mc) len thr ky ro ln kd nb sc wa sm ld lo lw tx ++ [(o, .inl (kJ G, 1, .inr (.inl ov)))] ++ ((wX G x0 x1 (nI mc) f ++ BA) ++ wM G m0 t0 t1 t2 t3 h0 h1 h2 h3 h4 h5 sl la (nI tn) ts ta tb key (nI n) nu st de su mk ++ BC)) H := hP
    replace hD : va_D (fun q : Nat => s.heap.size ≤ q) (wK G k0 k1 k2 k3 k4 k5 k6 k7 k8 k9 k10 k11 k12 (nI mc) len thr ky ro ln kd nb sc wa sm ld lo lw tx ++ [(o, .inl (kJ G, 1, .inr (.inl ov)))] ++ ((wX G x0 x1 (nI mc) f ++ BA) ++ wM G m0 t0 t1 t2 t3 h0 h1 h2 h3 h4 h5 sl la (nI tn) ts ta tb key (nI n) nu st de su mk ++ BC)) := hD
    refine va_calli (va_runV (As := [.int (nI j), .int v2, .int (if v3 = 0 then 0 else 1)]) (rest := []) ⟨hx, hb, hml, hown, hts⟩ (ct_X3_seal l G x0 x1 mc f BA BC j m0 t0 t1 t2 t3 h0 h1 h2 h3 h4 h5 sl la tn ts ta tb key n nu st de su mk v2 (if v3 = 0 then 0 else 1) hmc hj hfj hn ht16 hMI.sl01 (by split; exact Or.inl rfl; exact Or.inr rfl)) (cwV 3 hts gL_law_X3_seal rfl rfl rfl (by decide +kernel) ⟨Nat.le_of_ble_eq_true rfl, Nat.le_of_ble_eq_true rfl⟩) (WrP.preV 0 4 rfl rfl (pX hP) hE (dX hD)) rfl rfl hl.1 rfl (lv_room (Nat.le_of_ble_eq_true rfl)) dL_law_668 hz) hS (fun q _ h => aX hD q h) (aX hD) (fun r1 u t H1 locs ht hvm hw hB hz1 hk1 hS => ?_)
    rw [ht] at hB
    rcases hw with ⟨rfl, hq, rfl⟩ | ⟨rfl, hq1, hq2, rfl⟩
    · obtain ⟨hP, hD⟩ := jX (X' := ((wX G x0 x1 (nI mc) f ++ BA) ++ wM G m0 t0 t1 t2 t3 h0 h1 h2 h3 h4 h5 sl la (nI tn) ts ta tb key (nI n) nu st de su mk ++ BC)) hP hD hk1 hB (xw_map rfl)
      generalize H1 = H at hP hS ⊢
      refine lb_7 C0 hL hi hS hl e1 e2 e3 ?_
      refine va_calli (va_runV (As := [.int (nI j), .int v2, .int (if v3 = 0 then 0 else 1)]) (rest := [.int 0]) ⟨hx, hb, hml, hown, hts⟩ (ct_X4_seal l G k0 k1 k2 k3 k4 k5 k6 k7 k8 k9 k10 k11 k12 mc len thr ky ro ln kd nb sc wa sm ld lo lw tx j n tn v2 (if v3 = 0 then 0 else 1) hmc hj hn hMI.1.2.1 ht16 hMI.1.2.2.2.1) (cwV 3 hts gL_law_X4_seal rfl rfl rfl (by decide +kernel) ⟨Nat.le_of_ble_eq_true rfl, Nat.le_of_ble_eq_true rfl⟩) (WrP.preV 0 5 rfl rfl (pK hP) hE (dK hD)) rfl rfl hl.1 rfl (lv_room (Nat.le_of_ble_eq_true rfl)) dL_law_698 hz) hS (fun q _ h => aK hD q h) (aK hD) (fun r2 u t H1 locs ht hvm hw hB hz1 hk1 hS => ?_)
      rw [ht] at hB
      rcases hw with ⟨rfl, hq', rfl⟩ | ⟨rfl, hq1', rfl⟩
      · obtain ⟨hP, hD⟩ := jK (KW' := wK G k0 k1 k2 k3 k4 k5 k6 k7 k8 k9 k10 k11 k12 (nI mc) len 0 ky ro ln kd nb sc wa sm ld lo lw tx) hP hD hk1 hB rfl
        refine lv_icmp_eq (tgt := 968) hx hb dL_law_701 (by decide) (fun c0 => ?_) (fun c0 => absurd (rfl) c0)
        refine W.widen (k := cells + 11) (n := slots + 1063) (by omega) (by omega) ?_
        exact kk M mc f len 0 ky ro ln kd nb sc wa sm ld lo lw tx ov H1 locs ls hIV (by rw [xw_cut hBK]; exact hP) (by rw [xw_cut hBK]; exact hD) hS hl
      exact absurd (hMI.fitS.mpr (by rw [hq1']; decide)) (fun z => hq.elim z.1 z.2)
    · obtain ⟨hP, hD⟩ := jX (X' := ((wX G x0 x1 (nI mc) f ++ BA) ++ wM G m0 t0 t1 t2 t3 h0 h1 h2 h3 h4 h5 (if v3 = 0 then 0 else 1) la (nI tn) ts ta tb key (nI (n + 1)) (vp_updL nu n v2.toInt64) (vp_updL st n (if (if v3 = 0 then 0 else 1 : Int32) = 0 then -2 else -3)) (upd de n 0) (vp_updL su n (f_due key (n + 1) (vp_updL nu n v2.toInt64) (vp_updL st n (if (if v3 = 0 then 0 else 1 : Int32) = 0 then -2 else -3)) (upd de n 0) su (nI n))) (upd mk n 1) ++ BC)) hP hD hk1 hB (xw_map rfl)
      generalize H1 = H at hP hS ⊢
      refine lb_7 C0 hL hi hS hl e1 e2 e3 ?_
      refine va_calli (va_runV (As := [.int (nI j), .int v2, .int (if v3 = 0 then 0 else 1)]) (rest := [.int 1]) ⟨hx, hb, hml, hown, hts⟩ (ct_X4_seal l G k0 k1 k2 k3 k4 k5 k6 k7 k8 k9 k10 k11 k12 mc len thr ky ro ln kd nb sc wa sm ld lo lw tx j n tn v2 (if v3 = 0 then 0 else 1) hmc hj hn hMI.1.2.1 ht16 hMI.1.2.2.2.1) (cwV 3 hts gL_law_X4_seal rfl rfl rfl (by decide +kernel) ⟨Nat.le_of_ble_eq_true rfl, Nat.le_of_ble_eq_true rfl⟩) (WrP.preV 0 5 rfl rfl (pK hP) hE (dK hD)) rfl rfl hl.1 rfl (lv_room (Nat.le_of_ble_eq_true rfl)) dL_law_698 hz) hS (fun q _ h => aK hD q h) (aK hD) (fun r2 u t H1 locs ht hvm hw hB hz1 hk1 hS => ?_)
      rw [ht] at hB
      rcases hw with ⟨rfl, hq', rfl⟩ | ⟨rfl, hq1', rfl⟩
      · exact absurd hq' (hMI.fitS.mp ⟨hq1, by omega⟩)
      obtain ⟨hP, hD⟩ := jK (KW' := wK G k0 k1 k2 k3 k4 k5 k6 k7 k8 k9 k10 k11 k12 (nI mc) len 0 ky (upd ro j (nI (n + 1))) ln (upd kd (j * 200 + n) (if (if v3 = 0 then 0 else 1 : Int32) = 0 then 2 else 3)) (vp_updL nb (j * 200 + n) v2.toInt64) (vp_updL sc (j * 200 + n) 0) (upd wa (j * 200 + n) 0) (vp_updL sm (j * 200 + n) (md_due ky (upd kd (j * 200 + n) (if (if v3 = 0 then 0 else 1 : Int32) = 0 then 2 else 3)) (vp_updL nb (j * 200 + n) v2.toInt64) (vp_updL sc (j * 200 + n) 0) (upd wa (j * 200 + n) 0) sm j n)) ld lo lw tx) hP hD hk1 hB rfl
      refine lv_icmp_eq (tgt := 968) hx hb dL_law_701 (by decide) (fun c0 => ?_) (fun c0 => absurd (rfl) c0)
      refine W.widen (k := cells + 11) (n := slots + 1063) (by omega) (by omega) ?_
      exact kk (M.set j ((m0, t0, t1, t2, t3, h0, h1, h2, h3, h4, h5), ((if v3 = 0 then 0 else 1), la, tn, ts, ta, tb, key, (n + 1), (vp_updL nu n v2.toInt64), (vp_updL st n (if (if v3 = 0 then 0 else 1 : Int32) = 0 then -2 else -3)), (upd de n 0), (vp_updL su n (f_due key (n + 1) (vp_updL nu n v2.toInt64) (vp_updL st n (if (if v3 = 0 then 0 else 1 : Int32) = 0 then -2 else -3)) (upd de n 0) su (nI n))), (upd mk n 1)))) mc f len 0 ky (upd ro j (nI (n + 1))) ln (upd kd (j * 200 + n) (if (if v3 = 0 then 0 else 1 : Int32) = 0 then 2 else 3)) (vp_updL nb (j * 200 + n) v2.toInt64) (vp_updL sc (j * 200 + n) 0) (upd wa (j * 200 + n) 0) (vp_updL sm (j * 200 + n) (md_due ky (upd kd (j * 200 + n) (if (if v3 = 0 then 0 else 1 : Int32) = 0 then 2 else 3)) (vp_updL nb (j * 200 + n) v2.toInt64) (vp_updL sc (j * 200 + n) 0) (upd wa (j * 200 + n) 0) sm j n)) ld lo lw tx ov H1 locs ls (hIV.set (y := ((if v3 = 0 then 0 else 1), la, tn, ts, ta, tb, key, (n + 1), (vp_updL nu n v2.toInt64), (vp_updL st n (if (if v3 = 0 then 0 else 1 : Int32) = 0 then -2 else -3)), (upd de n 0), (vp_updL su n (f_due key (n + 1) (vp_updL nu n v2.toInt64) (vp_updL st n (if (if v3 = 0 then 0 else 1 : Int32) = 0 then -2 else -3)) (upd de n 0) su (nI n))), (upd mk n 1))) hMx (hMI.addS hq2 (by split; exact Or.inl rfl; exact Or.inr rfl) hq1) (fun q hq => AG.add hq2 hq)) (by rw [xw_cut (hBs _)]; exact hP) (by rw [xw_cut (hBs _)]; exact hD) hS hl

set_option maxHeartbeats 4000000 in
set_option maxRecDepth 100000 in
/-- poke -/
theorem lc_6 {p : Program} {l : Launch} {e : Env} {s : State} {m : MethodId} {below : List Frame} {meth : Method} {c : Code} {G : Gx} {b L : Nat} {xs : Nat → Int32} {sa : Nat} (C0 : lw_At p s m meth c b L xs) (hE : EV G s) (hT : TL sa s) (hfl : l.flags = pinnedFlags ++ [noTraceFlag]) (hL : L ≤ 3584) {i : Nat} (hi : i + 7 ≤ L) {x0 x1 o k0 k1 k2 k3 k4 k5 k6 k7 k8 k9 k10 k11 k12 cells slots : Nat} (hcs : cells + 11 ≤ room_1.cells ∧ slots + 1063 ≤ room_1.slots) (kk : HEAD p l e s m below meth c G b i x0 x1 o k0 k1 k2 k3 k4 k5 k6 k7 k8 k9 k10 k11 k12 (cells + 11) (slots + 1063) 968) : HEAD p l e s m below meth c G b i x0 x1 o k0 k1 k2 k3 k4 k5 k6 k7 k8 k9 k10 k11 k12 cells slots 560 := by
  intro M mc f len thr ky ro ln kd nb sc wa sm ld lo lw tx ov H locs ls hIV hP hD hS hl
  obtain ⟨hx, hb, hr, hml, hown, hts0, hX, hbl, hlocks, hgv⟩ := id C0
  have hts : ∀ w ∈ wsL_law, w.before #[Value.ref b] s = true := fun w h => hts0 w (wsL_law_in w h)
  have hz : cells + 0 ≤ room_1.cells ∧ slots + 0 ≤ room_1.slots := ⟨by omega, by omega⟩
  have hmc := hIV.1.2
  generalize e1 : xs (i + 1) = v1
  generalize e2 : xs (i + 2) = v2
  generalize e3 : xs (i + 3) = v3
  generalize e4 : xs (i + 4) = v4
  refine la_6 C0 hL hi hS hl e1 e2 e3 e4 ?_
  rcases mi_or hmc f v1 with ⟨hm1, hm2⟩ | ⟨j, hj, rfl⟩
  · refine x_ri (va_runV (As := [.int v1, .int v2, .long (lg2 v3 v4)]) (rest := []) ⟨hx, hb, hml, hown, hts⟩ (ca_X3_poke l G x0 x1 mc f v1 v2 (lg2 v3 v4) hmc hm1) (cwV 3 hts gL_law_X3_poke rfl rfl rfl (by decide +kernel) ⟨Nat.le_of_ble_eq_true rfl, Nat.le_of_ble_eq_true rfl⟩) (RdP.preV 0 4 rfl rfl (x_front _ _ (pX hP)) hE) rfl rfl hl.1 rfl (lv_room (Nat.le_of_ble_eq_true rfl)) dL_law_595 hz) (fun r1 er1 => ?_)
    subst er1
    refine lb_6 C0 hL hi hS hl e1 e2 e3 e4 ?_
    refine va_calli (va_runV (As := [.int v1, .int v2, .long (lg2 v3 v4)]) (rest := [.int 0]) ⟨hx, hb, hml, hown, hts⟩ (ca_X4_poke l G k0 k1 k2 k3 k4 k5 k6 k7 k8 k9 k10 k11 k12 mc len thr ky ro ln kd nb sc wa sm ld lo lw tx v1 v2 (lg2 v3 v4) hmc (frow_a hm2)) (cwV 3 hts gL_law_X4_poke rfl rfl rfl (by decide +kernel) ⟨Nat.le_of_ble_eq_true rfl, Nat.le_of_ble_eq_true rfl⟩) (WrP.preV 0 5 rfl rfl (pK hP) hE (dK hD)) rfl rfl hl.1 rfl (lv_room (Nat.le_of_ble_eq_true rfl)) dL_law_633 hz) hS (fun q _ h => aK hD q h) (aK hD) (fun r2 u t H1 locs ht hvm hw hB hz1 hk1 hS => ?_)
    rw [ht] at hB
    obtain ⟨rfl, rfl⟩ := hw
    obtain ⟨hP, hD⟩ := jK (KW' := wK G k0 k1 k2 k3 k4 k5 k6 k7 k8 k9 k10 k11 k12 (nI mc) len 0 ky ro ln kd nb sc wa sm ld lo lw tx) hP hD hk1 hB rfl
    refine lv_icmp_eq (tgt := 968) hx hb dL_law_636 (by decide) (fun c0 => ?_) (fun c0 => absurd (rfl) c0)
    refine W.widen (k := cells + 11) (n := slots + 1063) (by omega) (by omega) ?_
    exact kk M mc f len 0 ky ro ln kd nb sc wa sm ld lo lw tx ov H1 locs ls hIV hP hD hS hl
  · obtain ⟨x, hMx⟩ : ∃ x, M[j]? = some x := ⟨M[j]'(by rw [hIV.1.1]; exact hj), List.getElem?_eq_getElem _⟩
    obtain ⟨hfj, hMI⟩ := hIV.2.1 j x hMx
    obtain ⟨BA, BC, hBK, hBs⟩ := blks_at (G := G) hMx
    obtain ⟨⟨m0, t0, t1, t2, t3, h0, h1, h2, h3, h4, h5⟩, sl, la, tn, ts, ta, tb, key, n, nu, st, de, su, mk⟩ := x
    replace hMI : MI j sl la tn ts ta tb key n nu st de su mk ky ro ln kd nb sc wa sm ld lo lw := hMI
    have hj8 : j < 8 := by omega
    have hn := hMI.1.2.2.1
    have ht16 := hMI.1.2.2.2.2.1
    rw [xw_cut hBK] at hP hD
    replace hP : va_P G.1 vwCl (wK G k0 k1 k2 k3 k4 k5 k6 k7 k8 k9 k10 k11 k12 (nI mc) len thr ky ro ln kd nb sc wa sm ld lo lw tx ++ [(o, .inl (kJ G, 1, .inr (.inl ov)))] ++ ((wX G x0 x1 (nI mc) f ++ BA) ++ wM G m0 t0 t1 t2 t3 h0 h1 h2 h3 h4 h5 sl la (nI tn) ts ta tb key (nI n) nu st de su mk ++ BC)) H := hP
    replace hD : va_D (fun q : Nat => s.heap.size ≤ q) (wK G k0 k1 k2 k3 k4 k5 k6 k7 k8 k9 k10 k11 k12 (nI mc) len thr ky ro ln kd nb sc wa sm ld lo lw tx ++ [(o, .inl (kJ G, 1, .inr (.inl ov)))] ++ ((wX G x0 x1 (nI mc) f ++ BA) ++ wM G m0 t0 t1 t2 t3 h0 h1 h2 h3 h4 h5 sl la (nI tn) ts ta tb key (nI n) nu st de su mk ++ BC)) := hD
    rcases holds_or hn v2 with hh | ⟨q, hq, rfl⟩
    · refine va_calli (va_runV (As := [.int (nI j), .int v2, .long (lg2 v3 v4)]) (rest := []) ⟨hx, hb, hml, hown, hts⟩ (ct_X3_poke l G x0 x1 mc f BA BC j m0 t0 t1 t2 t3 h0 h1 h2 h3 h4 h5 sl la tn ts ta tb key n nu st de su mk v2 (lg2 v3 v4) hmc hj hfj hn ht16) (cwV 3 hts gL_law_X3_poke rfl rfl rfl (by decide +kernel) ⟨Nat.le_of_ble_eq_true rfl, Nat.le_of_ble_eq_true rfl⟩) (WrP.preV 0 4 rfl rfl (pX hP) hE (dX hD)) rfl rfl hl.1 rfl (lv_room (Nat.le_of_ble_eq_true rfl)) dL_law_595 hz) hS (fun q _ h => aX hD q h) (aX hD) (fun r1 u t H1 locs ht hvm hw hB hz1 hk1 hS => ?_)
      rw [ht] at hB
      rcases hw with ⟨hq, rfl, rfl⟩ | ⟨hq, rfl, rfl⟩
      · obtain ⟨hP, hD⟩ := jX (X' := ((wX G x0 x1 (nI mc) f ++ BA) ++ wM G m0 t0 t1 t2 t3 h0 h1 h2 h3 h4 h5 sl la (nI tn) ts ta tb key (nI n) nu st de su mk ++ BC)) hP hD hk1 hB (xw_map rfl)
        generalize H1 = H at hP hS ⊢
        refine lb_6 C0 hL hi hS hl e1 e2 e3 e4 ?_
        refine va_calli (va_runV (As := [.int (nI j), .int v2, .long (lg2 v3 v4)]) (rest := [.int 0]) ⟨hx, hb, hml, hown, hts⟩ (ca_X4_poke l G k0 k1 k2 k3 k4 k5 k6 k7 k8 k9 k10 k11 k12 mc len thr ky ro ln kd nb sc wa sm ld lo lw tx (nI j) v2 (lg2 v3 v4) hmc (frow_0 hmc hj hMI.1.2.1 hn hh)) (cwV 3 hts gL_law_X4_poke rfl rfl rfl (by decide +kernel) ⟨Nat.le_of_ble_eq_true rfl, Nat.le_of_ble_eq_true rfl⟩) (WrP.preV 0 5 rfl rfl (pK hP) hE (dK hD)) rfl rfl hl.1 rfl (lv_room (Nat.le_of_ble_eq_true rfl)) dL_law_633 hz) hS (fun q _ h => aK hD q h) (aK hD) (fun r2 u t H1 locs ht hvm hw hB hz1 hk1 hS => ?_)
        rw [ht] at hB
        obtain ⟨rfl, rfl⟩ := hw
        obtain ⟨hP, hD⟩ := jK (KW' := wK G k0 k1 k2 k3 k4 k5 k6 k7 k8 k9 k10 k11 k12 (nI mc) len 0 ky ro ln kd nb sc wa sm ld lo lw tx) hP hD hk1 hB rfl
        refine lv_icmp_eq (tgt := 968) hx hb dL_law_636 (by decide) (fun c0 => ?_) (fun c0 => absurd (rfl) c0)
        refine W.widen (k := cells + 11) (n := slots + 1063) (by omega) (by omega) ?_
        exact kk M mc f len 0 ky ro ln kd nb sc wa sm ld lo lw tx ov H1 locs ls hIV (by rw [xw_cut hBK]; exact hP) (by rw [xw_cut hBK]; exact hD) hS hl
      exact absurd (by unfold f_poke f_isR; rw [if_pos hh]; rfl) hq
    · refine va_calli (va_runV (As := [.int (nI j), .int (nI q), .long (lg2 v3 v4)]) (rest := []) ⟨hx, hb, hml, hown, hts⟩ (ct_X3_poke l G x0 x1 mc f BA BC j m0 t0 t1 t2 t3 h0 h1 h2 h3 h4 h5 sl la tn ts ta tb key n nu st de su mk (nI q) (lg2 v3 v4) hmc hj hfj hn ht16) (cwV 3 hts gL_law_X3_poke rfl rfl rfl (by decide +kernel) ⟨Nat.le_of_ble_eq_true rfl, Nat.le_of_ble_eq_true rfl⟩) (WrP.preV 0 4 rfl rfl (pX hP) hE (dX hD)) rfl rfl hl.1 rfl (lv_room (Nat.le_of_ble_eq_true rfl)) dL_law_595 hz) hS (fun q _ h => aX hD q h) (aX hD) (fun r1 u t H1 locs ht hvm hw hB hz1 hk1 hS => ?_)
      rw [ht] at hB
      rcases hw with ⟨hw1, rfl, rfl⟩ | ⟨hw1, rfl, rfl⟩
      · obtain ⟨hP, hD⟩ := jX (X' := ((wX G x0 x1 (nI mc) f ++ BA) ++ wM G m0 t0 t1 t2 t3 h0 h1 h2 h3 h4 h5 sl la (nI tn) ts ta tb key (nI n) nu st de su mk ++ BC)) hP hD hk1 hB (xw_map rfl)
        generalize H1 = H at hP hS ⊢
        refine lb_6 C0 hL hi hS hl e1 e2 e3 e4 ?_
        refine va_calli (va_runV (As := [.int (nI j), .int (nI q), .long (lg2 v3 v4)]) (rest := [.int 0]) ⟨hx, hb, hml, hown, hts⟩ (ct_X4_poke l G k0 k1 k2 k3 k4 k5 k6 k7 k8 k9 k10 k11 k12 mc len thr ky ro ln kd nb sc wa sm ld lo lw tx j n tn q (lg2 v3 v4) hmc hj hn hMI.1.2.1 ht16 hMI.1.2.2.2.1 hq (frow_1 hmc hj hMI.1.2.1 hn hq)) (cwV 3 hts gL_law_X4_poke rfl rfl rfl (by decide +kernel) ⟨Nat.le_of_ble_eq_true rfl, Nat.le_of_ble_eq_true rfl⟩) (WrP.preV 0 5 rfl rfl (pK hP) hE (dK hD)) rfl rfl hl.1 rfl (lv_room (Nat.le_of_ble_eq_true rfl)) dL_law_633 hz) hS (fun q _ h => aK hD q h) (aK hD) (fun r2 u t H1 locs ht hvm hw hB hz1 hk1 hS => ?_)
        rw [ht] at hB
        rcases hw with ⟨rfl, hw2, rfl⟩ | ⟨rfl, hw2, rfl⟩
        · obtain ⟨hP, hD⟩ := jK (KW' := wK G k0 k1 k2 k3 k4 k5 k6 k7 k8 k9 k10 k11 k12 (nI mc) len 0 ky ro ln kd nb sc wa sm ld lo lw tx) hP hD hk1 hB rfl
          refine lv_icmp_eq (tgt := 968) hx hb dL_law_636 (by decide) (fun c0 => ?_) (fun c0 => absurd (rfl) c0)
          refine W.widen (k := cells + 11) (n := slots + 1063) (by omega) (by omega) ?_
          exact kk M mc f len 0 ky ro ln kd nb sc wa sm ld lo lw tx ov H1 locs ls hIV (by rw [xw_cut hBK]; exact hP) (by rw [xw_cut hBK]; exact hD) hS hl
        exact absurd hw2 (by rw [← hMI.poke_eq hq, hw1]; decide)
      · obtain ⟨hP, hD⟩ := jX (X' := ((wX G x0 x1 (nI mc) f ++ BA) ++ wM G m0 t0 t1 t2 t3 h0 h1 h2 h3 h4 h5 sl la (nI tn) ts ta tb key (nI n) (vp_updL nu (nI q).toNatClampNeg (f_pul n nu st (nI q) + (lg2 v3 v4))) st de su mk ++ BC)) hP hD hk1 hB (xw_map rfl)
        generalize H1 = H at hP hS ⊢
        refine lb_6 C0 hL hi hS hl e1 e2 e3 e4 ?_
        refine va_calli (va_runV (As := [.int (nI j), .int (nI q), .long (lg2 v3 v4)]) (rest := [.int 1]) ⟨hx, hb, hml, hown, hts⟩ (ct_X4_poke l G k0 k1 k2 k3 k4 k5 k6 k7 k8 k9 k10 k11 k12 mc len thr ky ro ln kd nb sc wa sm ld lo lw tx j n tn q (lg2 v3 v4) hmc hj hn hMI.1.2.1 ht16 hMI.1.2.2.2.1 hq (frow_1 hmc hj hMI.1.2.1 hn hq)) (cwV 3 hts gL_law_X4_poke rfl rfl rfl (by decide +kernel) ⟨Nat.le_of_ble_eq_true rfl, Nat.le_of_ble_eq_true rfl⟩) (WrP.preV 0 5 rfl rfl (pK hP) hE (dK hD)) rfl rfl hl.1 rfl (lv_room (Nat.le_of_ble_eq_true rfl)) dL_law_633 hz) hS (fun q _ h => aK hD q h) (aK hD) (fun r2 u t H1 locs ht hvm hw hB hz1 hk1 hS => ?_)
        rw [ht] at hB
        rcases hw with ⟨rfl, hw2, rfl⟩ | ⟨rfl, hw2, rfl⟩
        · exact absurd hw2 (by rw [← hMI.poke_eq hq]; exact hw1)
        obtain ⟨hP, hD⟩ := jK (KW' := wK G k0 k1 k2 k3 k4 k5 k6 k7 k8 k9 k10 k11 k12 (nI mc) len 0 ky ro ln kd (vp_updL nb (j * 200 + q) (nb (j * 200 + q) + (lg2 v3 v4))) sc wa sm ld lo lw tx) hP hD hk1 hB rfl
        refine lv_icmp_eq (tgt := 968) hx hb dL_law_636 (by decide) (fun c0 => ?_) (fun c0 => absurd (rfl) c0)
        refine W.widen (k := cells + 11) (n := slots + 1063) (by omega) (by omega) ?_
        exact kk (M.set j ((m0, t0, t1, t2, t3, h0, h1, h2, h3, h4, h5), (sl, la, tn, ts, ta, tb, key, n, (vp_updL nu (nI q).toNatClampNeg (f_pul n nu st (nI q) + (lg2 v3 v4))), st, de, su, mk))) mc f len 0 ky ro ln kd (vp_updL nb (j * 200 + q) (nb (j * 200 + q) + (lg2 v3 v4))) sc wa sm ld lo lw tx ov H1 locs ls (hIV.set (y := (sl, la, tn, ts, ta, tb, key, n, (vp_updL nu (nI q).toNatClampNeg (f_pul n nu st (nI q) + (lg2 v3 v4))), st, de, su, mk)) hMx (hMI.poke hq hw1) (fun r hr => AG.poke (by omega) hr)) (by rw [xw_cut (hBs _)]; exact hP) (by rw [xw_cut (hBs _)]; exact hD) hS hl

set_option maxHeartbeats 4000000 in
set_option maxRecDepth 100000 in
/-- row -/
theorem lc_2 {p : Program} {l : Launch} {e : Env} {s : State} {m : MethodId} {below : List Frame} {meth : Method} {c : Code} {G : Gx} {b L : Nat} {xs : Nat → Int32} {sa : Nat} (C0 : lw_At p s m meth c b L xs) (hE : EV G s) (hT : TL sa s) (hfl : l.flags = pinnedFlags ++ [noTraceFlag]) (hL : L ≤ 3584) {i : Nat} (hi : i + 7 ≤ L) {x0 x1 o k0 k1 k2 k3 k4 k5 k6 k7 k8 k9 k10 k11 k12 cells slots : Nat} (hcs : cells + 11 ≤ room_1.cells ∧ slots + 1063 ≤ room_1.slots) (kk : HEAD p l e s m below meth c G b i x0 x1 o k0 k1 k2 k3 k4 k5 k6 k7 k8 k9 k10 k11 k12 (cells + 11) (slots + 1063) 968) : HEAD p l e s m below meth c G b i x0 x1 o k0 k1 k2 k3 k4 k5 k6 k7 k8 k9 k10 k11 k12 cells slots 292 := by
  intro M mc f len thr ky ro ln kd nb sc wa sm ld lo lw tx ov H locs ls hIV hP hD hS hl
  obtain ⟨hx, hb, hr, hml, hown, hts0, hX, hbl, hlocks, hgv⟩ := id C0
  have hts : ∀ w ∈ wsL_law, w.before #[Value.ref b] s = true := fun w h => hts0 w (wsL_law_in w h)
  have hz : cells + 0 ≤ room_1.cells ∧ slots + 0 ≤ room_1.slots := ⟨by omega, by omega⟩
  have hmc := hIV.1.2
  generalize e1 : xs (i + 1) = v1
  generalize e2 : xs (i + 2) = v2
  generalize e3 : xs (i + 3) = v3
  generalize e4 : xs (i + 4) = v4
  generalize e5 : xs (i + 5) = v5
  generalize e6 : xs (i + 6) = v6
  refine la_2 C0 hL hi hS hl e1 e2 e3 e4 e5 e6 ?_
  rcases mi_or hmc f v1 with ⟨hm1, hm2⟩ | ⟨j, hj, rfl⟩
  · refine x_ri (va_runV (As := [.int v1, .int v2, .long (lg2 v3 v4), .long (lg2 v5 v6)]) (rest := []) ⟨hx, hb, hml, hown, hts⟩ (ca_X3_row l G x0 x1 mc f v1 v2 (lg2 v3 v4) (lg2 v5 v6) hmc hm1) (cwV 4 hts gL_law_X3_row rfl rfl rfl (by decide +kernel) ⟨Nat.le_of_ble_eq_true rfl, Nat.le_of_ble_eq_true rfl⟩) (RdP.preV 0 4 rfl rfl (x_front _ _ (pX hP)) hE) rfl rfl hl.1 rfl (lv_room (Nat.le_of_ble_eq_true rfl)) dL_law_350 hz) (fun r1 er1 => ?_)
    subst er1
    refine lb_2 C0 hL hi hS hl e1 e2 e3 e4 e5 e6 ?_
    refine va_calli (va_runV (As := [.int v1, .int v2, .long (lg2 v3 v4), .long (lg2 v5 v6)]) (rest := [.int 0]) ⟨hx, hb, hml, hown, hts⟩ (ca_X4_row l G k0 k1 k2 k3 k4 k5 k6 k7 k8 k9 k10 k11 k12 mc len thr ky ro ln kd nb sc wa sm ld lo lw tx v1 v2 (lg2 v3 v4) (lg2 v5 v6) hmc hm2) (cwV 4 hts gL_law_X4_row rfl rfl rfl (by decide +kernel) ⟨Nat.le_of_ble_eq_true rfl, Nat.le_of_ble_eq_true rfl⟩) (WrP.preV 0 5 rfl rfl (pK hP) hE (dK hD)) rfl rfl hl.1 rfl (lv_room (Nat.le_of_ble_eq_true rfl)) dL_law_411 hz) hS (fun q _ h => aK hD q h) (aK hD) (fun r2 u t H1 locs ht hvm hw hB hz1 hk1 hS => ?_)
    rw [ht] at hB
    obtain ⟨rfl, rfl⟩ := hw
    obtain ⟨hP, hD⟩ := jK (KW' := wK G k0 k1 k2 k3 k4 k5 k6 k7 k8 k9 k10 k11 k12 (nI mc) len 0 ky ro ln kd nb sc wa sm ld lo lw tx) hP hD hk1 hB rfl
    refine lv_icmp_eq (tgt := 968) hx hb dL_law_414 (by decide) (fun c0 => ?_) (fun c0 => absurd (rfl) c0)
    refine W.widen (k := cells + 11) (n := slots + 1063) (by omega) (by omega) ?_
    exact kk M mc f len 0 ky ro ln kd nb sc wa sm ld lo lw tx ov H1 locs ls hIV hP hD hS hl
  · obtain ⟨x, hMx⟩ : ∃ x, M[j]? = some x := ⟨M[j]'(by rw [hIV.1.1]; exact hj), List.getElem?_eq_getElem _⟩
    obtain ⟨hfj, hMI⟩ := hIV.2.1 j x hMx
    obtain ⟨BA, BC, hBK, hBs⟩ := blks_at (G := G) hMx
    obtain ⟨⟨m0, t0, t1, t2, t3, h0, h1, h2, h3, h4, h5⟩, sl, la, tn, ts, ta, tb, key, n, nu, st, de, su, mk⟩ := x
    replace hMI : MI j sl la tn ts ta tb key n nu st de su mk ky ro ln kd nb sc wa sm ld lo lw := hMI
    have hj8 : j < 8 := by omega
    have hn := hMI.1.2.2.1
    have ht16 := hMI.1.2.2.2.2.1
    rw [xw_cut hBK] at hP hD
    replace hP : va_P G.1 vwCl (wK G k0 k1 k2 k3 k4 k5 k6 k7 k8 k9 k10 k11 k12 (nI mc) len thr ky ro ln kd nb sc wa sm ld lo lw tx ++ [(o, .inl (kJ G, 1, .inr (.inl ov)))] ++ ((wX G x0 x1 (nI mc) f ++ BA) ++ wM G m0 t0 t1 t2 t3 h0 h1 h2 h3 h4 h5 sl la (nI tn) ts ta tb key (nI n) nu st de su mk ++ BC)) H := hP
    replace hD : va_D (fun q : Nat => s.heap.size ≤ q) (wK G k0 k1 k2 k3 k4 k5 k6 k7 k8 k9 k10 k11 k12 (nI mc) len thr ky ro ln kd nb sc wa sm ld lo lw tx ++ [(o, .inl (kJ G, 1, .inr (.inl ov)))] ++ ((wX G x0 x1 (nI mc) f ++ BA) ++ wM G m0 t0 t1 t2 t3 h0 h1 h2 h3 h4 h5 sl la (nI tn) ts ta tb key (nI n) nu st de su mk ++ BC)) := hD
    obtain ⟨pp, hpp, hpl, -, -⟩ := fplace_or tn ts v2
    have hpl2 : md_pl ld j v2 tn = nI pp := (hMI.place v2).trans hpl
    refine va_calli (va_runV (As := [.int (nI j), .int v2, .long (lg2 v3 v4), .long (lg2 v5 v6)]) (rest := []) ⟨hx, hb, hml, hown, hts⟩ (ct_X3_row l G x0 x1 mc f BA BC j m0 t0 t1 t2 t3 h0 h1 h2 h3 h4 h5 sl la tn ts ta tb key n nu st de su mk v2 (lg2 v3 v4) (lg2 v5 v6) hmc hj hfj hn ht16) (cwV 4 hts gL_law_X3_row rfl rfl rfl (by decide +kernel) ⟨Nat.le_of_ble_eq_true rfl, Nat.le_of_ble_eq_true rfl⟩) (WrP.preV 0 4 rfl rfl (pX hP) hE (dX hD)) rfl rfl hl.1 rfl (lv_room (Nat.le_of_ble_eq_true rfl)) dL_law_350 hz) hS (fun q _ h => aX hD q h) (aX hD) (fun r1 u t H1 locs ht hvm hw hB hz1 hk1 hS => ?_)
    rw [ht] at hB
    rcases hw with ⟨hq, rfl, rfl⟩ | ⟨hq, rfl, rfl⟩
    · have hno : ¬ ((¬ f_within v2.toInt64 (-50) 150 = 0 ∧ ¬ f_within (lg2 v3 v4) 1 10000 = 0 ∧ ¬ f_within (lg2 v5 v6) 1 10000 = 0) ∧ f_place tn ts v2 < 16) := fun z => absurd hq (put_iff.mpr z)
      obtain ⟨hP, hD⟩ := jX (X' := ((wX G x0 x1 (nI mc) f ++ BA) ++ wM G m0 t0 t1 t2 t3 h0 h1 h2 h3 h4 h5 sl la (nI tn) ts ta tb key (nI n) nu st de su mk ++ BC)) hP hD hk1 hB (xw_map rfl)
      generalize H1 = H at hP hS ⊢
      refine lb_2 C0 hL hi hS hl e1 e2 e3 e4 e5 e6 ?_
      refine va_calli (va_runV (As := [.int (nI j), .int v2, .long (lg2 v3 v4), .long (lg2 v5 v6)]) (rest := [.int 0]) ⟨hx, hb, hml, hown, hts⟩ (ct_X4_row l G k0 k1 k2 k3 k4 k5 k6 k7 k8 k9 k10 k11 k12 mc len thr ky ro ln kd nb sc wa sm ld lo lw tx j n tn v2 (lg2 v3 v4) (lg2 v5 v6) hmc hj hn hMI.1.2.1 ht16 hMI.1.2.2.2.1) (cwV 4 hts gL_law_X4_row rfl rfl rfl (by decide +kernel) ⟨Nat.le_of_ble_eq_true rfl, Nat.le_of_ble_eq_true rfl⟩) (WrP.preV 0 5 rfl rfl (pK hP) hE (dK hD)) rfl rfl hl.1 rfl (lv_room (Nat.le_of_ble_eq_true rfl)) dL_law_411 hz) hS (fun q _ h => aK hD q h) (aK hD) (fun r2 u t H1 locs ht hvm hw hB hz1 hk1 hS => ?_)
      rw [ht] at hB
      rcases hw with ⟨hf, rfl, rfl⟩ | ⟨hf, p2, hp2, hpe, hw⟩
      · obtain ⟨hP, hD⟩ := jK (KW' := wK G k0 k1 k2 k3 k4 k5 k6 k7 k8 k9 k10 k11 k12 (nI mc) len 0 ky ro ln kd nb sc wa sm ld lo lw tx) hP hD hk1 hB rfl
        refine lv_icmp_eq (tgt := 968) hx hb dL_law_414 (by decide) (fun c0 => ?_) (fun c0 => absurd (rfl) c0)
        refine W.widen (k := cells + 11) (n := slots + 1063) (by omega) (by omega) ?_
        exact kk M mc f len 0 ky ro ln kd nb sc wa sm ld lo lw tx ov H1 locs ls hIV (by rw [xw_cut hBK]; exact hP) (by rw [xw_cut hBK]; exact hD) hS hl
      · rcases hw with ⟨h16, rfl, rfl⟩ | ⟨h16, rfl, rfl⟩
        · obtain ⟨hP, hD⟩ := jK (KW' := wK G k0 k1 k2 k3 k4 k5 k6 k7 k8 k9 k10 k11 k12 (nI mc) len 0 ky ro ln kd nb sc wa sm ld lo lw tx) hP hD hk1 hB rfl
          refine lv_icmp_eq (tgt := 968) hx hb dL_law_414 (by decide) (fun c0 => ?_) (fun c0 => absurd (rfl) c0)
          refine W.widen (k := cells + 11) (n := slots + 1063) (by omega) (by omega) ?_
          exact kk M mc f len 0 ky ro ln kd nb sc wa sm ld lo lw tx ov H1 locs ls hIV (by rw [xw_cut hBK]; exact hP) (by rw [xw_cut hBK]; exact hD) hS hl
        exact absurd ⟨rwfit_iff.mp (by rw [hf]; decide), by rw [← hMI.place v2, hpe]; exact nI_lt h16 (by decide)⟩ hno
    · have hyes := put_iff.mp (show ¬ f_put tn ts v2 (lg2 v3 v4) (lg2 v5 v6) = 0 by rw [hq]; decide)
      have hp16 : pp < 16 := by have h9 := hyes.2; rw [hpl] at h9; exact (nI_ltI (b := 16) (by omega) (by decide)).mp h9
      rw [hpl, max_eq ht16 hpp, nI_clamp (show pp < 2 ^ 31 by omega)] at hB
      obtain ⟨hP, hD⟩ := jX (X' := ((wX G x0 x1 (nI mc) f ++ BA) ++ wM G m0 t0 t1 t2 t3 h0 h1 h2 h3 h4 h5 sl la (nI (if pp = tn then tn + 1 else tn)) (upd ts pp v2) (vp_updL ta pp (lg2 v3 v4)) (vp_updL tb pp (lg2 v5 v6)) key (nI n) nu st de su mk ++ BC)) hP hD hk1 hB (xw_map rfl)
      generalize H1 = H at hP hS ⊢
      refine lb_2 C0 hL hi hS hl e1 e2 e3 e4 e5 e6 ?_
      refine va_calli (va_runV (As := [.int (nI j), .int v2, .long (lg2 v3 v4), .long (lg2 v5 v6)]) (rest := [.int 1]) ⟨hx, hb, hml, hown, hts⟩ (ct_X4_row l G k0 k1 k2 k3 k4 k5 k6 k7 k8 k9 k10 k11 k12 mc len thr ky ro ln kd nb sc wa sm ld lo lw tx j n tn v2 (lg2 v3 v4) (lg2 v5 v6) hmc hj hn hMI.1.2.1 ht16 hMI.1.2.2.2.1) (cwV 4 hts gL_law_X4_row rfl rfl rfl (by decide +kernel) ⟨Nat.le_of_ble_eq_true rfl, Nat.le_of_ble_eq_true rfl⟩) (WrP.preV 0 5 rfl rfl (pK hP) hE (dK hD)) rfl rfl hl.1 rfl (lv_room (Nat.le_of_ble_eq_true rfl)) dL_law_411 hz) hS (fun q _ h => aK hD q h) (aK hD) (fun r2 u t H1 locs ht hvm hw hB hz1 hk1 hS => ?_)
      rw [ht] at hB
      rcases hw with ⟨hf, rfl, rfl⟩ | ⟨hf, p2, hp2, hpe, hw⟩
      · exact absurd hf (rwfit_iff.mpr hyes.1)
      · have hpq : p2 = pp := (nI_eq (by omega) (by omega)).mp (hpe.symm.trans hpl2)
        subst hpq
        rcases hw with ⟨h16, rfl, rfl⟩ | ⟨h16, rfl, rfl⟩
        · exact absurd h16 (by omega)
        rw [show (if p2 = tn then nI (tn + 1) else nI tn) = nI (if p2 = tn then tn + 1 else tn) by split <;> rfl] at hB
        obtain ⟨hP, hD⟩ := jK (KW' := wK G k0 k1 k2 k3 k4 k5 k6 k7 k8 k9 k10 k11 k12 (nI mc) len 0 ky ro (upd ln j (nI (if p2 = tn then tn + 1 else tn))) kd nb sc wa sm (upd ld (j * 16 + p2) v2) (vp_updL lo (j * 16 + p2) (lg2 v3 v4)) (vp_updL lw (j * 16 + p2) (lg2 v5 v6)) tx) hP hD hk1 hB rfl
        refine lv_icmp_eq (tgt := 968) hx hb dL_law_414 (by decide) (fun c0 => ?_) (fun c0 => absurd (rfl) c0)
        refine W.widen (k := cells + 11) (n := slots + 1063) (by omega) (by omega) ?_
        exact kk (M.set j ((m0, t0, t1, t2, t3, h0, h1, h2, h3, h4, h5), (sl, la, (if p2 = tn then tn + 1 else tn), (upd ts p2 v2), (vp_updL ta p2 (lg2 v3 v4)), (vp_updL tb p2 (lg2 v5 v6)), key, n, nu, st, de, su, mk))) mc f len 0 ky ro (upd ln j (nI (if p2 = tn then tn + 1 else tn))) kd nb sc wa sm (upd ld (j * 16 + p2) v2) (vp_updL lo (j * 16 + p2) (lg2 v3 v4)) (vp_updL lw (j * 16 + p2) (lg2 v5 v6)) tx ov H1 locs ls (hIV.set (y := (sl, la, (if p2 = tn then tn + 1 else tn), (upd ts p2 v2), (vp_updL ta p2 (lg2 v3 v4)), (vp_updL tb p2 (lg2 v5 v6)), key, n, nu, st, de, su, mk)) hMx (hMI.line hpp h16 hyes.1.2.1 hyes.1.2.2) (fun r hr => AG.line h16 hr)) (by rw [xw_cut (hBs _)]; exact hP) (by rw [xw_cut (hBs _)]; exact hD) hS hl
