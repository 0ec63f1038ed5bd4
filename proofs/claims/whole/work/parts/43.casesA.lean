/-! THE LAW: its cases that read -/
set_option maxHeartbeats 4000000 in
set_option maxRecDepth 100000 in
/-- rows -/
theorem lc_4 {p : Program} {l : Launch} {e : Env} {s : State} {m : MethodId} {below : List Frame} {meth : Method} {c : Code} {G : Gx} {b L : Nat} {xs : Nat → Int32} {sa : Nat} (C0 : lw_At p s m meth c b L xs) (hE : EV G s) (hT : TL sa s) (hfl : l.flags = pinnedFlags ++ [noTraceFlag]) (hL : L ≤ 3584) {i : Nat} (hi : i + 7 ≤ L) {x0 x1 o k0 k1 k2 k3 k4 k5 k6 k7 k8 k9 k10 k11 k12 cells slots : Nat} (hcs : cells + 11 ≤ room_1.cells ∧ slots + 1063 ≤ room_1.slots) (kk : HEAD p l e s m below meth c G b i x0 x1 o k0 k1 k2 k3 k4 k5 k6 k7 k8 k9 k10 k11 k12 (cells + 11) (slots + 1063) 968) : HEAD p l e s m below meth c G b i x0 x1 o k0 k1 k2 k3 k4 k5 k6 k7 k8 k9 k10 k11 k12 cells slots 498 := by
  intro M mc f len thr ky ro ln kd nb sc wa sm ld lo lw tx ov H locs ls hIV hP hD hS hl
  obtain ⟨hx, hb, hr, hml, hown, hts0, hX, hbl, hlocks, hgv⟩ := id C0
  have hts : ∀ w ∈ wsL_law, w.before #[Value.ref b] s = true := fun w h => hts0 w (wsL_law_in w h)
  have hz : cells + 0 ≤ room_1.cells ∧ slots + 0 ≤ room_1.slots := ⟨by omega, by omega⟩
  have hmc := hIV.1.2
  generalize e1 : xs (i + 1) = v1
  refine la_4 C0 hL hi hS hl e1 ?_
  rcases mi_or hmc f v1 with ⟨hm1, hm2⟩ | ⟨j, hj, rfl⟩
  · refine x_ri (va_runV (As := [.int v1]) (rest := []) ⟨hx, hb, hml, hown, hts⟩ (ca_X3_rows l G x0 x1 mc f v1  hmc hm1) (cwV 1 hts gL_law_X3_rows rfl rfl rfl (by decide +kernel) ⟨Nat.le_of_ble_eq_true rfl, Nat.le_of_ble_eq_true rfl⟩) (RdP.preV 0 4 rfl rfl (x_front _ _ (pX hP)) hE) rfl rfl hl.1 rfl (lv_room (Nat.le_of_ble_eq_true rfl)) dL_law_505 hz) (fun r1 er1 => ?_)
    subst er1
    refine lb_4 C0 hL hi hS hl e1 ?_
    refine va_calli (va_runV (As := [.int v1]) (rest := [.int (-1)]) ⟨hx, hb, hml, hown, hts⟩ (ca_X4_rows l G k0 k1 k2 k3 k4 k5 k6 k7 k8 k9 k10 k11 k12 mc len thr ky ro ln kd nb sc wa sm ld lo lw tx v1  hmc hm2) (cwV 1 hts gL_law_X4_rows rfl rfl rfl (by decide +kernel) ⟨Nat.le_of_ble_eq_true rfl, Nat.le_of_ble_eq_true rfl⟩) (WrP.preV 0 5 rfl rfl (pK hP) hE (dK hD)) rfl rfl hl.1 rfl (lv_room (Nat.le_of_ble_eq_true rfl)) dL_law_515 hz) hS (fun q _ h => aK hD q h) (aK hD) (fun r2 u t H1 locs ht hvm hw hB hz1 hk1 hS => ?_)
    rw [ht] at hB
    obtain ⟨rfl, rfl⟩ := hw
    obtain ⟨hP, hD⟩ := jK (KW' := wK G k0 k1 k2 k3 k4 k5 k6 k7 k8 k9 k10 k11 k12 (nI mc) len 0 ky ro ln kd nb sc wa sm ld lo lw tx) hP hD hk1 hB rfl
    refine lv_icmp_eq (tgt := 968) hx hb dL_law_518 (by decide) (fun c0 => ?_) (fun c0 => absurd (rfl) c0)
    refine W.widen (k := cells + 11) (n := slots + 1063) (by omega) (by omega) ?_
    exact kk M mc f len 0 ky ro ln kd nb sc wa sm ld lo lw tx ov H1 locs ls hIV hP hD hS hl
  · obtain ⟨x, hMx⟩ : ∃ x, M[j]? = some x := ⟨M[j]'(by rw [hIV.1.1]; exact hj), List.getElem?_eq_getElem _⟩
    obtain ⟨hfj, hMI⟩ := hIV.2.1 j x hMx
    obtain ⟨BA, BC, hBK, hBs⟩ := blks_at (G := G) hMx
    obtain ⟨⟨m0, t0, t1, t2, t3, h0, h1, h2, h3, h4, h5⟩, sl, la, tn, ts, ta, tb, key, n, nu, st, de, su, mk⟩ := x
    replace hMI : MI j sl la tn ts ta tb key n nu st de su mk ky ro ln kd nb sc wa sm ld lo lw := hMI
    have hj8 : j < 8 := by omega
    have hn := hMI.1.2.2.1
    have ht16 := hMI.1.2.2.2.2.1
    have hPX : va_P G.1 vwCl ((wX G x0 x1 (nI mc) f ++ BA) ++ wM G m0 t0 t1 t2 t3 h0 h1 h2 h3 h4 h5 sl la (nI tn) ts ta tb key (nI n) nu st de su mk ++ BC) H := by have h9 := pX hP; rw [xw_cut hBK] at h9; exact h9
    refine x_ri (va_runV (As := [.int (nI j)]) (rest := []) ⟨hx, hb, hml, hown, hts⟩ (ct_X3_rows l G x0 x1 mc f BA BC j m0 t0 t1 t2 t3 h0 h1 h2 h3 h4 h5 sl la tn ts ta tb key n nu st de su mk  hmc hj hfj hn ht16) (cwV 1 hts gL_law_X3_rows rfl rfl rfl (by decide +kernel) ⟨Nat.le_of_ble_eq_true rfl, Nat.le_of_ble_eq_true rfl⟩) (RdP.preV 0 4 rfl rfl hPX hE) rfl rfl hl.1 rfl (lv_room (Nat.le_of_ble_eq_true rfl)) dL_law_505 hz) (fun r1 er1 => ?_)
    subst er1
    refine lb_4 C0 hL hi hS hl e1 ?_
    refine va_calli (va_runV (As := [.int (nI j)]) (rest := [.int (nI n)]) ⟨hx, hb, hml, hown, hts⟩ (ct_X4_rows l G k0 k1 k2 k3 k4 k5 k6 k7 k8 k9 k10 k11 k12 mc len thr ky ro ln kd nb sc wa sm ld lo lw tx j n tn  hmc hj hn hMI.1.2.1 ht16 hMI.1.2.2.2.1 ) (cwV 1 hts gL_law_X4_rows rfl rfl rfl (by decide +kernel) ⟨Nat.le_of_ble_eq_true rfl, Nat.le_of_ble_eq_true rfl⟩) (WrP.preV 0 5 rfl rfl (pK hP) hE (dK hD)) rfl rfl hl.1 rfl (lv_room (Nat.le_of_ble_eq_true rfl)) dL_law_515 hz) hS (fun q _ h => aK hD q h) (aK hD) (fun r2 u t H1 locs ht hvm hw hB hz1 hk1 hS => ?_)
    rw [ht] at hB
    obtain ⟨rfl, rfl⟩ := hw
    obtain ⟨hP, hD⟩ := jK (KW' := wK G k0 k1 k2 k3 k4 k5 k6 k7 k8 k9 k10 k11 k12 (nI mc) len 0 ky ro ln kd nb sc wa sm ld lo lw tx) hP hD hk1 hB rfl
    refine lv_icmp_eq (tgt := 968) hx hb dL_law_518 (by decide) (fun c0 => ?_) (fun c0 => absurd (rfl) c0)
    refine W.widen (k := cells + 11) (n := slots + 1063) (by omega) (by omega) ?_
    exact kk M mc f len 0 ky ro ln kd nb sc wa sm ld lo lw tx ov H1 locs ls hIV hP hD hS hl

set_option maxHeartbeats 4000000 in
set_option maxRecDepth 100000 in
/-- check -/
theorem lc_5 {p : Program} {l : Launch} {e : Env} {s : State} {m : MethodId} {below : List Frame} {meth : Method} {c : Code} {G : Gx} {b L : Nat} {xs : Nat → Int32} {sa : Nat} (C0 : lw_At p s m meth c b L xs) (hE : EV G s) (hT : TL sa s) (hfl : l.flags = pinnedFlags ++ [noTraceFlag]) (hL : L ≤ 3584) {i : Nat} (hi : i + 7 ≤ L) {x0 x1 o k0 k1 k2 k3 k4 k5 k6 k7 k8 k9 k10 k11 k12 cells slots : Nat} (hcs : cells + 11 ≤ room_1.cells ∧ slots + 1063 ≤ room_1.slots) (kk : HEAD p l e s m below meth c G b i x0 x1 o k0 k1 k2 k3 k4 k5 k6 k7 k8 k9 k10 k11 k12 (cells + 11) (slots + 1063) 968) : HEAD p l e s m below meth c G b i x0 x1 o k0 k1 k2 k3 k4 k5 k6 k7 k8 k9 k10 k11 k12 cells slots 523 := by
  intro M mc f len thr ky ro ln kd nb sc wa sm ld lo lw tx ov H locs ls hIV hP hD hS hl
  obtain ⟨hx, hb, hr, hml, hown, hts0, hX, hbl, hlocks, hgv⟩ := id C0
  have hts : ∀ w ∈ wsL_law, w.before #[Value.ref b] s = true := fun w h => hts0 w (wsL_law_in w h)
  have hz : cells + 0 ≤ room_1.cells ∧ slots + 0 ≤ room_1.slots := ⟨by omega, by omega⟩
  have hmc := hIV.1.2
  generalize e1 : xs (i + 1) = v1
  generalize e2 : xs (i + 2) = v2
  refine la_5 C0 hL hi hS hl e1 e2 ?_
  rcases mi_or hmc f v1 with ⟨hm1, hm2⟩ | ⟨j, hj, rfl⟩
  · refine x_ri (va_runV (As := [.int v1, .int v2]) (rest := []) ⟨hx, hb, hml, hown, hts⟩ (ca_X3_check l G x0 x1 mc f v1 v2 hmc hm1) (cwV 2 hts gL_law_X3_check rfl rfl rfl (by decide +kernel) ⟨Nat.le_of_ble_eq_true rfl, Nat.le_of_ble_eq_true rfl⟩) (RdP.preV 0 4 rfl rfl (x_front _ _ (pX hP)) hE) rfl rfl hl.1 rfl (lv_room (Nat.le_of_ble_eq_true rfl)) dL_law_536 hz) (fun r1 er1 => ?_)
    subst er1
    refine lb_5 C0 hL hi hS hl e1 e2 ?_
    refine va_calli (va_runV (As := [.int v1, .int v2]) (rest := [.int (-1)]) ⟨hx, hb, hml, hown, hts⟩ (ca_X4_check l G k0 k1 k2 k3 k4 k5 k6 k7 k8 k9 k10 k11 k12 mc len thr ky ro ln kd nb sc wa sm ld lo lw tx v1 v2 hmc hm2) (cwV 2 hts gL_law_X4_check rfl rfl rfl (by decide +kernel) ⟨Nat.le_of_ble_eq_true rfl, Nat.le_of_ble_eq_true rfl⟩) (WrP.preV 0 5 rfl rfl (pK hP) hE (dK hD)) rfl rfl hl.1 rfl (lv_room (Nat.le_of_ble_eq_true rfl)) dL_law_552 hz) hS (fun q _ h => aK hD q h) (aK hD) (fun r2 u t H1 locs ht hvm hw hB hz1 hk1 hS => ?_)
    rw [ht] at hB
    obtain ⟨rfl, rfl⟩ := hw
    obtain ⟨hP, hD⟩ := jK (KW' := wK G k0 k1 k2 k3 k4 k5 k6 k7 k8 k9 k10 k11 k12 (nI mc) len 0 ky ro ln kd nb sc wa sm ld lo lw tx) hP hD hk1 hB rfl
    refine lv_icmp_eq (tgt := 968) hx hb dL_law_555 (by decide) (fun c0 => ?_) (fun c0 => absurd (rfl) c0)
    refine W.widen (k := cells + 11) (n := slots + 1063) (by omega) (by omega) ?_
    exact kk M mc f len 0 ky ro ln kd nb sc wa sm ld lo lw tx ov H1 locs ls hIV hP hD hS hl
  · obtain ⟨x, hMx⟩ : ∃ x, M[j]? = some x := ⟨M[j]'(by rw [hIV.1.1]; exact hj), List.getElem?_eq_getElem _⟩
    obtain ⟨hfj, hMI⟩ := hIV.2.1 j x hMx
    obtain ⟨BA, BC, hBK, hBs⟩ := blks_at (G := G) hMx
    obtain ⟨⟨m0, t0, t1, t2, t3, h0, h1, h2, h3, h4, h5⟩, sl, la, tn, ts, ta, tb, key, n, nu, st, de, su, mk⟩ := x
    replace hMI : MI j sl la tn ts ta tb key n nu st de su mk ky ro ln kd nb sc wa sm ld lo lw := hMI
    have hj8 : j < 8 := by omega
    have hn := hMI.1.2.2.1
    have ht16 := hMI.1.2.2.2.2.1
    have hPX : va_P G.1 vwCl ((wX G x0 x1 (nI mc) f ++ BA) ++ wM G m0 t0 t1 t2 t3 h0 h1 h2 h3 h4 h5 sl la (nI tn) ts ta tb key (nI n) nu st de su mk ++ BC) H := by have h9 := pX hP; rw [xw_cut hBK] at h9; exact h9
    refine x_ri (va_runV (As := [.int (nI j), .int v2]) (rest := []) ⟨hx, hb, hml, hown, hts⟩ (ct_X3_check l G x0 x1 mc f BA BC j m0 t0 t1 t2 t3 h0 h1 h2 h3 h4 h5 sl la tn ts ta tb key n nu st de su mk v2 hmc hj hfj hn ht16) (cwV 2 hts gL_law_X3_check rfl rfl rfl (by decide +kernel) ⟨Nat.le_of_ble_eq_true rfl, Nat.le_of_ble_eq_true rfl⟩) (RdP.preV 0 4 rfl rfl hPX hE) rfl rfl hl.1 rfl (lv_room (Nat.le_of_ble_eq_true rfl)) dL_law_536 hz) (fun r1 er1 => ?_)
    subst er1
    refine lb_5 C0 hL hi hS hl e1 e2 ?_
    refine va_calli (va_runV (As := [.int (nI j), .int v2]) (rest := [.int (f_wrong key n nu st de su v2)]) ⟨hx, hb, hml, hown, hts⟩ (ct_X4_check l G k0 k1 k2 k3 k4 k5 k6 k7 k8 k9 k10 k11 k12 mc len thr ky ro ln kd nb sc wa sm ld lo lw tx j n tn v2 hmc hj hn hMI.1.2.1 ht16 hMI.1.2.2.2.1 ) (cwV 2 hts gL_law_X4_check rfl rfl rfl (by decide +kernel) ⟨Nat.le_of_ble_eq_true rfl, Nat.le_of_ble_eq_true rfl⟩) (WrP.preV 0 5 rfl rfl (pK hP) hE (dK hD)) rfl rfl hl.1 rfl (lv_room (Nat.le_of_ble_eq_true rfl)) dL_law_552 hz) hS (fun q _ h => aK hD q h) (aK hD) (fun r2 u t H1 locs ht hvm hw hB hz1 hk1 hS => ?_)
    rw [ht] at hB
    obtain ⟨rfl, rfl⟩ := hw
    obtain ⟨hP, hD⟩ := jK (KW' := wK G k0 k1 k2 k3 k4 k5 k6 k7 k8 k9 k10 k11 k12 (nI mc) len 0 ky ro ln kd nb sc wa sm ld lo lw tx) hP hD hk1 hB rfl
    refine lv_icmp_eq (tgt := 968) hx hb dL_law_555 (by decide) (fun c0 => ?_) (fun c0 => absurd (hMI.wrong v2) c0)
    refine W.widen (k := cells + 11) (n := slots + 1063) (by omega) (by omega) ?_
    exact kk M mc f len 0 ky ro ln kd nb sc wa sm ld lo lw tx ov H1 locs ls hIV hP hD hS hl

set_option maxHeartbeats 4000000 in
set_option maxRecDepth 100000 in
/-- gap -/
theorem lc_9 {p : Program} {l : Launch} {e : Env} {s : State} {m : MethodId} {below : List Frame} {meth : Method} {c : Code} {G : Gx} {b L : Nat} {xs : Nat → Int32} {sa : Nat} (C0 : lw_At p s m meth c b L xs) (hE : EV G s) (hT : TL sa s) (hfl : l.flags = pinnedFlags ++ [noTraceFlag]) (hL : L ≤ 3584) {i : Nat} (hi : i + 7 ≤ L) {x0 x1 o k0 k1 k2 k3 k4 k5 k6 k7 k8 k9 k10 k11 k12 cells slots : Nat} (hcs : cells + 11 ≤ room_1.cells ∧ slots + 1063 ≤ room_1.slots) (kk : HEAD p l e s m below meth c G b i x0 x1 o k0 k1 k2 k3 k4 k5 k6 k7 k8 k9 k10 k11 k12 (cells + 11) (slots + 1063) 968) : HEAD p l e s m below meth c G b i x0 x1 o k0 k1 k2 k3 k4 k5 k6 k7 k8 k9 k10 k11 k12 cells slots 743 := by
  intro M mc f len thr ky ro ln kd nb sc wa sm ld lo lw tx ov H locs ls hIV hP hD hS hl
  obtain ⟨hx, hb, hr, hml, hown, hts0, hX, hbl, hlocks, hgv⟩ := id C0
  have hts : ∀ w ∈ wsL_law, w.before #[Value.ref b] s = true := fun w h => hts0 w (wsL_law_in w h)
  have hz : cells + 0 ≤ room_1.cells ∧ slots + 0 ≤ room_1.slots := ⟨by omega, by omega⟩
  have hmc := hIV.1.2
  generalize e1 : xs (i + 1) = v1
  generalize e2 : xs (i + 2) = v2
  generalize e3 : xs (i + 3) = v3
  refine la_9 C0 hL hi hS hl e1 e2 e3 ?_
  rcases mi_or hmc f v1 with ⟨hm1, hm2⟩ | ⟨j, hj, rfl⟩
  · refine x_ri (va_runV (As := [.int v1, .int v2, .int v3]) (rest := []) ⟨hx, hb, hml, hown, hts⟩ (ca_X3_gap l G x0 x1 mc f v1 v2 v3 hmc hm1) (cwV 3 hts gL_law_X3_gap rfl rfl rfl (by decide +kernel) ⟨Nat.le_of_ble_eq_true rfl, Nat.le_of_ble_eq_true rfl⟩) (RdP.preV 0 4 rfl rfl (x_front _ _ (pX hP)) hE) rfl rfl hl.1 rfl (lv_room (Nat.le_of_ble_eq_true rfl)) dL_law_762 hz) (fun r1 er1 => ?_)
    subst er1
    refine lb_9 C0 hL hi hS hl e1 e2 e3 ?_
    refine va_calli (va_runV (As := [.int v1, .int v2, .int v3]) (rest := [.int (-1)]) ⟨hx, hb, hml, hown, hts⟩ (ca_X4_gap l G k0 k1 k2 k3 k4 k5 k6 k7 k8 k9 k10 k11 k12 mc len thr ky ro ln kd nb sc wa sm ld lo lw tx v1 v2 v3 hmc hm2) (cwV 3 hts gL_law_X4_gap rfl rfl rfl (by decide +kernel) ⟨Nat.le_of_ble_eq_true rfl, Nat.le_of_ble_eq_true rfl⟩) (WrP.preV 0 5 rfl rfl (pK hP) hE (dK hD)) rfl rfl hl.1 rfl (lv_room (Nat.le_of_ble_eq_true rfl)) dL_law_784 hz) hS (fun q _ h => aK hD q h) (aK hD) (fun r2 u t H1 locs ht hvm hw hB hz1 hk1 hS => ?_)
    rw [ht] at hB
    obtain ⟨rfl, rfl⟩ := hw
    obtain ⟨hP, hD⟩ := jK (KW' := wK G k0 k1 k2 k3 k4 k5 k6 k7 k8 k9 k10 k11 k12 (nI mc) len 0 ky ro ln kd nb sc wa sm ld lo lw tx) hP hD hk1 hB rfl
    refine lv_icmp_eq (tgt := 968) hx hb dL_law_787 (by decide) (fun c0 => ?_) (fun c0 => absurd (rfl) c0)
    refine W.widen (k := cells + 11) (n := slots + 1063) (by omega) (by omega) ?_
    exact kk M mc f len 0 ky ro ln kd nb sc wa sm ld lo lw tx ov H1 locs ls hIV hP hD hS hl
  · obtain ⟨x, hMx⟩ : ∃ x, M[j]? = some x := ⟨M[j]'(by rw [hIV.1.1]; exact hj), List.getElem?_eq_getElem _⟩
    obtain ⟨hfj, hMI⟩ := hIV.2.1 j x hMx
    obtain ⟨BA, BC, hBK, hBs⟩ := blks_at (G := G) hMx
    obtain ⟨⟨m0, t0, t1, t2, t3, h0, h1, h2, h3, h4, h5⟩, sl, la, tn, ts, ta, tb, key, n, nu, st, de, su, mk⟩ := x
    replace hMI : MI j sl la tn ts ta tb key n nu st de su mk ky ro ln kd nb sc wa sm ld lo lw := hMI
    have hj8 : j < 8 := by omega
    have hn := hMI.1.2.2.1
    have ht16 := hMI.1.2.2.2.2.1
    have hPX : va_P G.1 vwCl ((wX G x0 x1 (nI mc) f ++ BA) ++ wM G m0 t0 t1 t2 t3 h0 h1 h2 h3 h4 h5 sl la (nI tn) ts ta tb key (nI n) nu st de su mk ++ BC) H := by have h9 := pX hP; rw [xw_cut hBK] at h9; exact h9
    refine x_ri (va_runV (As := [.int (nI j), .int v2, .int v3]) (rest := []) ⟨hx, hb, hml, hown, hts⟩ (ct_X3_gap l G x0 x1 mc f BA BC j m0 t0 t1 t2 t3 h0 h1 h2 h3 h4 h5 sl la tn ts ta tb key n nu st de su mk v2 v3 hmc hj hfj hn ht16) (cwV 3 hts gL_law_X3_gap rfl rfl rfl (by decide +kernel) ⟨Nat.le_of_ble_eq_true rfl, Nat.le_of_ble_eq_true rfl⟩) (RdP.preV 0 4 rfl rfl hPX hE) rfl rfl hl.1 rfl (lv_room (Nat.le_of_ble_eq_true rfl)) dL_law_762 hz) (fun r1 er1 => ?_)
    subst er1
    refine lb_9 C0 hL hi hS hl e1 e2 e3 ?_
    refine va_calli (va_runV (As := [.int (nI j), .int v2, .int v3]) (rest := [.int (f_rgap n st v2 v3)]) ⟨hx, hb, hml, hown, hts⟩ (ct_X4_gap l G k0 k1 k2 k3 k4 k5 k6 k7 k8 k9 k10 k11 k12 mc len thr ky ro ln kd nb sc wa sm ld lo lw tx j n tn v2 v3 hmc hj hn hMI.1.2.1 ht16 hMI.1.2.2.2.1 ) (cwV 3 hts gL_law_X4_gap rfl rfl rfl (by decide +kernel) ⟨Nat.le_of_ble_eq_true rfl, Nat.le_of_ble_eq_true rfl⟩) (WrP.preV 0 5 rfl rfl (pK hP) hE (dK hD)) rfl rfl hl.1 rfl (lv_room (Nat.le_of_ble_eq_true rfl)) dL_law_784 hz) hS (fun q _ h => aK hD q h) (aK hD) (fun r2 u t H1 locs ht hvm hw hB hz1 hk1 hS => ?_)
    rw [ht] at hB
    obtain ⟨rfl, rfl⟩ := hw
    obtain ⟨hP, hD⟩ := jK (KW' := wK G k0 k1 k2 k3 k4 k5 k6 k7 k8 k9 k10 k11 k12 (nI mc) len 0 ky ro ln kd nb sc wa sm ld lo lw tx) hP hD hk1 hB rfl
    refine lv_icmp_eq (tgt := 968) hx hb dL_law_787 (by decide) (fun c0 => ?_) (fun c0 => absurd (hMI.gap hj8 v2 v3) c0)
    refine W.widen (k := cells + 11) (n := slots + 1063) (by omega) (by omega) ?_
    exact kk M mc f len 0 ky ro ln kd nb sc wa sm ld lo lw tx ov H1 locs ls hIV hP hD hS hl

set_option maxHeartbeats 4000000 in
set_option maxRecDepth 100000 in
/-- rest -/
theorem lc_10 {p : Program} {l : Launch} {e : Env} {s : State} {m : MethodId} {below : List Frame} {meth : Method} {c : Code} {G : Gx} {b L : Nat} {xs : Nat → Int32} {sa : Nat} (C0 : lw_At p s m meth c b L xs) (hE : EV G s) (hT : TL sa s) (hfl : l.flags = pinnedFlags ++ [noTraceFlag]) (hL : L ≤ 3584) {i : Nat} (hi : i + 7 ≤ L) {x0 x1 o k0 k1 k2 k3 k4 k5 k6 k7 k8 k9 k10 k11 k12 cells slots : Nat} (hcs : cells + 11 ≤ room_1.cells ∧ slots + 1063 ≤ room_1.slots) (kk : HEAD p l e s m below meth c G b i x0 x1 o k0 k1 k2 k3 k4 k5 k6 k7 k8 k9 k10 k11 k12 (cells + 11) (slots + 1063) 968) : HEAD p l e s m below meth c G b i x0 x1 o k0 k1 k2 k3 k4 k5 k6 k7 k8 k9 k10 k11 k12 cells slots 792 := by
  intro M mc f len thr ky ro ln kd nb sc wa sm ld lo lw tx ov H locs ls hIV hP hD hS hl
  obtain ⟨hx, hb, hr, hml, hown, hts0, hX, hbl, hlocks, hgv⟩ := id C0
  have hts : ∀ w ∈ wsL_law, w.before #[Value.ref b] s = true := fun w h => hts0 w (wsL_law_in w h)
  have hz : cells + 0 ≤ room_1.cells ∧ slots + 0 ≤ room_1.slots := ⟨by omega, by omega⟩
  have hmc := hIV.1.2
  generalize e1 : xs (i + 1) = v1
  generalize e2 : xs (i + 2) = v2
  generalize e3 : xs (i + 3) = v3
  refine la_10 C0 hL hi hS hl e1 e2 e3 ?_
  rcases mi_or hmc f v1 with ⟨hm1, hm2⟩ | ⟨j, hj, rfl⟩
  · refine x_rl (va_runV (As := [.int v1, .long (lg2 v2 v3)]) (rest := []) ⟨hx, hb, hml, hown, hts⟩ (ca_X3_rest l G x0 x1 mc f v1 (lg2 v2 v3) hmc hm1) (cwV 2 hts gL_law_X3_rest rfl rfl rfl (by decide +kernel) ⟨Nat.le_of_ble_eq_true rfl, Nat.le_of_ble_eq_true rfl⟩) (RdP.preV 0 4 rfl rfl (x_front _ _ (pX hP)) hE) rfl rfl hl.1 rfl (lv_room (Nat.le_of_ble_eq_true rfl)) dL_law_821 hz) (fun r1 er1 => ?_)
    subst er1
    refine lb_10 C0 hL hi hS hl e1 e2 e3 ?_
    refine va_calll (va_runV (As := [.int v1, .long (lg2 v2 v3)]) (rest := [.long (-9223372036854775808)]) ⟨hx, hb, hml, hown, hts⟩ (ca_X4_rest l G k0 k1 k2 k3 k4 k5 k6 k7 k8 k9 k10 k11 k12 mc len thr ky ro ln kd nb sc wa sm ld lo lw tx v1 (lg2 v2 v3) hmc hm2) (cwV 2 hts gL_law_X4_rest rfl rfl rfl (by decide +kernel) ⟨Nat.le_of_ble_eq_true rfl, Nat.le_of_ble_eq_true rfl⟩) (WrP.preV 0 5 rfl rfl (pK hP) hE (dK hD)) rfl rfl hl.1 rfl (lv_room (Nat.le_of_ble_eq_true rfl)) dL_law_853 hz) hS (fun q _ h => aK hD q h) (aK hD) (fun r2 u t H1 locs ht hvm hw hB hz1 hk1 hS => ?_)
    rw [ht] at hB
    obtain ⟨rfl, rfl⟩ := hw
    obtain ⟨hP, hD⟩ := jK (KW' := wK G k0 k1 k2 k3 k4 k5 k6 k7 k8 k9 k10 k11 k12 (nI mc) len 0 ky ro ln kd nb sc wa sm ld lo lw tx) hP hD hk1 hB rfl
    refine x_leq (tgt := 968) hx hb dL_law_856 dL_law_857 (by decide) (fun c0 => ?_) (fun c0 => absurd (rfl) c0)
    refine W.widen (k := cells + 11) (n := slots + 1063) (by omega) (by omega) ?_
    exact kk M mc f len 0 ky ro ln kd nb sc wa sm ld lo lw tx ov H1 locs ls hIV hP hD hS hl
  · obtain ⟨x, hMx⟩ : ∃ x, M[j]? = some x := ⟨M[j]'(by rw [hIV.1.1]; exact hj), List.getElem?_eq_getElem _⟩
    obtain ⟨hfj, hMI⟩ := hIV.2.1 j x hMx
    obtain ⟨BA, BC, hBK, hBs⟩ := blks_at (G := G) hMx
    obtain ⟨⟨m0, t0, t1, t2, t3, h0, h1, h2, h3, h4, h5⟩, sl, la, tn, ts, ta, tb, key, n, nu, st, de, su, mk⟩ := x
    replace hMI : MI j sl la tn ts ta tb key n nu st de su mk ky ro ln kd nb sc wa sm ld lo lw := hMI
    have hj8 : j < 8 := by omega
    have hn := hMI.1.2.2.1
    have ht16 := hMI.1.2.2.2.2.1
    have hPX : va_P G.1 vwCl ((wX G x0 x1 (nI mc) f ++ BA) ++ wM G m0 t0 t1 t2 t3 h0 h1 h2 h3 h4 h5 sl la (nI tn) ts ta tb key (nI n) nu st de su mk ++ BC) H := by have h9 := pX hP; rw [xw_cut hBK] at h9; exact h9
    refine x_rl (va_runV (As := [.int (nI j), .long (lg2 v2 v3)]) (rest := []) ⟨hx, hb, hml, hown, hts⟩ (ct_X3_rest l G x0 x1 mc f BA BC j m0 t0 t1 t2 t3 h0 h1 h2 h3 h4 h5 sl la tn ts ta tb key n nu st de su mk (lg2 v2 v3) hmc hj hfj hn ht16) (cwV 2 hts gL_law_X3_rest rfl rfl rfl (by decide +kernel) ⟨Nat.le_of_ble_eq_true rfl, Nat.le_of_ble_eq_true rfl⟩) (RdP.preV 0 4 rfl rfl hPX hE) rfl rfl hl.1 rfl (lv_room (Nat.le_of_ble_eq_true rfl)) dL_law_821 hz) (fun r1 er1 => ?_)
    subst er1
    refine lb_10 C0 hL hi hS hl e1 e2 e3 ?_
    refine va_calll (va_runV (As := [.int (nI j), .long (lg2 v2 v3)]) (rest := [.long (f_rest tn ts ta tb n nu st de (lg2 v2 v3))]) ⟨hx, hb, hml, hown, hts⟩ (ct_X4_rest l G k0 k1 k2 k3 k4 k5 k6 k7 k8 k9 k10 k11 k12 mc len thr ky ro ln kd nb sc wa sm ld lo lw tx j n tn (lg2 v2 v3) hmc hj hn hMI.1.2.1 ht16 hMI.1.2.2.2.1 (fun q hq h0 => hMI.2.2.2.2 q hq h0) hMI.lwnz) (cwV 2 hts gL_law_X4_rest rfl rfl rfl (by decide +kernel) ⟨Nat.le_of_ble_eq_true rfl, Nat.le_of_ble_eq_true rfl⟩) (WrP.preV 0 5 rfl rfl (pK hP) hE (dK hD)) rfl rfl hl.1 rfl (lv_room (Nat.le_of_ble_eq_true rfl)) dL_law_853 hz) hS (fun q _ h => aK hD q h) (aK hD) (fun r2 u t H1 locs ht hvm hw hB hz1 hk1 hS => ?_)
    rw [ht] at hB
    obtain ⟨rfl, rfl⟩ := hw
    obtain ⟨hP, hD⟩ := jK (KW' := wK G k0 k1 k2 k3 k4 k5 k6 k7 k8 k9 k10 k11 k12 (nI mc) len 0 ky ro ln kd nb sc wa sm ld lo lw tx) hP hD hk1 hB rfl
    refine x_leq (tgt := 968) hx hb dL_law_856 dL_law_857 (by decide) (fun c0 => ?_) (fun c0 => absurd (hMI.rest hj8 _) c0)
    refine W.widen (k := cells + 11) (n := slots + 1063) (by omega) (by omega) ?_
    exact kk M mc f len 0 ky ro ln kd nb sc wa sm ld lo lw tx ov H1 locs ls hIV hP hD hS hl

set_option maxHeartbeats 4000000 in
set_option maxRecDepth 100000 in
/-- roll -/
theorem lc_12 {p : Program} {l : Launch} {e : Env} {s : State} {m : MethodId} {below : List Frame} {meth : Method} {c : Code} {G : Gx} {b L : Nat} {xs : Nat → Int32} {sa : Nat} (C0 : lw_At p s m meth c b L xs) (hE : EV G s) (hT : TL sa s) (hfl : l.flags = pinnedFlags ++ [noTraceFlag]) (hL : L ≤ 3584) {i : Nat} (hi : i + 7 ≤ L) {x0 x1 o k0 k1 k2 k3 k4 k5 k6 k7 k8 k9 k10 k11 k12 cells slots : Nat} (hcs : cells + 11 ≤ room_1.cells ∧ slots + 1063 ≤ room_1.slots) (kk : HEAD p l e s m below meth c G b i x0 x1 o k0 k1 k2 k3 k4 k5 k6 k7 k8 k9 k10 k11 k12 (cells + 11) (slots + 1063) 968) : HEAD p l e s m below meth c G b i x0 x1 o k0 k1 k2 k3 k4 k5 k6 k7 k8 k9 k10 k11 k12 cells slots 931 := by
  intro M mc f len thr ky ro ln kd nb sc wa sm ld lo lw tx ov H locs ls hIV hP hD hS hl
  obtain ⟨hx, hb, hr, hml, hown, hts0, hX, hbl, hlocks, hgv⟩ := id C0
  have hts : ∀ w ∈ wsL_law, w.before #[Value.ref b] s = true := fun w h => hts0 w (wsL_law_in w h)
  have hz : cells + 0 ≤ room_1.cells ∧ slots + 0 ≤ room_1.slots := ⟨by omega, by omega⟩
  have hmc := hIV.1.2
  generalize e1 : xs (i + 1) = v1
  generalize e2 : xs (i + 2) = v2
  refine la_12 C0 hL hi hS hl e1 e2 ?_
  rcases mi_or hmc f v1 with ⟨hm1, hm2⟩ | ⟨j, hj, rfl⟩
  · refine x_ri (va_runV (As := [.int v1, .int v2]) (rest := []) ⟨hx, hb, hml, hown, hts⟩ (ca_X3_roll l G x0 x1 mc f v1 v2 hmc hm1) (cwV 2 hts gL_law_X3_roll rfl rfl rfl (by decide +kernel) ⟨Nat.le_of_ble_eq_true rfl, Nat.le_of_ble_eq_true rfl⟩) (RdP.preV 0 4 rfl rfl (x_front _ _ (pX hP)) hE) rfl rfl hl.1 rfl (lv_room (Nat.le_of_ble_eq_true rfl)) dL_law_944 hz) (fun r1 er1 => ?_)
    subst er1
    refine lb_12 C0 hL hi hS hl e1 e2 ?_
    refine va_calli (va_runV (As := [.int v1, .int v2]) (rest := [.int (-1)]) ⟨hx, hb, hml, hown, hts⟩ (ca_X4_roll l G k0 k1 k2 k3 k4 k5 k6 k7 k8 k9 k10 k11 k12 mc len thr ky ro ln kd nb sc wa sm ld lo lw tx v1 v2 hmc hm2) (cwV 2 hts gL_law_X4_roll rfl rfl rfl (by decide +kernel) ⟨Nat.le_of_ble_eq_true rfl, Nat.le_of_ble_eq_true rfl⟩) (WrP.preV 0 5 rfl rfl (pK hP) hE (dK hD)) rfl rfl hl.1 rfl (lv_room (Nat.le_of_ble_eq_true rfl)) dL_law_960 hz) hS (fun q _ h => aK hD q h) (aK hD) (fun r2 u t H1 locs ht hvm hw hB hz1 hk1 hS => ?_)
    rw [ht] at hB
    obtain ⟨rfl, rfl⟩ := hw
    obtain ⟨hP, hD⟩ := jK (KW' := wK G k0 k1 k2 k3 k4 k5 k6 k7 k8 k9 k10 k11 k12 (nI mc) len 0 ky ro ln kd nb sc wa sm ld lo lw tx) hP hD hk1 hB rfl
    refine lv_icmp_eq (tgt := 968) hx hb dL_law_963 (by decide) (fun c0 => ?_) (fun c0 => absurd (rfl) c0)
    refine W.widen (k := cells + 11) (n := slots + 1063) (by omega) (by omega) ?_
    exact kk M mc f len 0 ky ro ln kd nb sc wa sm ld lo lw tx ov H1 locs ls hIV hP hD hS hl
  · obtain ⟨x, hMx⟩ : ∃ x, M[j]? = some x := ⟨M[j]'(by rw [hIV.1.1]; exact hj), List.getElem?_eq_getElem _⟩
    obtain ⟨hfj, hMI⟩ := hIV.2.1 j x hMx
    obtain ⟨BA, BC, hBK, hBs⟩ := blks_at (G := G) hMx
    obtain ⟨⟨m0, t0, t1, t2, t3, h0, h1, h2, h3, h4, h5⟩, sl, la, tn, ts, ta, tb, key, n, nu, st, de, su, mk⟩ := x
    replace hMI : MI j sl la tn ts ta tb key n nu st de su mk ky ro ln kd nb sc wa sm ld lo lw := hMI
    have hj8 : j < 8 := by omega
    have hn := hMI.1.2.2.1
    have ht16 := hMI.1.2.2.2.2.1
    have hPX : va_P G.1 vwCl ((wX G x0 x1 (nI mc) f ++ BA) ++ wM G m0 t0 t1 t2 t3 h0 h1 h2 h3 h4 h5 sl la (nI tn) ts ta tb key (nI n) nu st de su mk ++ BC) H := by have h9 := pX hP; rw [xw_cut hBK] at h9; exact h9
    refine x_ri (va_runV (As := [.int (nI j), .int v2]) (rest := []) ⟨hx, hb, hml, hown, hts⟩ (ct_X3_roll l G x0 x1 mc f BA BC j m0 t0 t1 t2 t3 h0 h1 h2 h3 h4 h5 sl la tn ts ta tb key n nu st de su mk v2 hmc hj hfj hn ht16) (cwV 2 hts gL_law_X3_roll rfl rfl rfl (by decide +kernel) ⟨Nat.le_of_ble_eq_true rfl, Nat.le_of_ble_eq_true rfl⟩) (RdP.preV 0 4 rfl rfl hPX hE) rfl rfl hl.1 rfl (lv_room (Nat.le_of_ble_eq_true rfl)) dL_law_944 hz) (fun r1 er1 => ?_)
    subst er1
    refine lb_12 C0 hL hi hS hl e1 e2 ?_
    refine va_calli (va_runV (As := [.int (nI j), .int v2]) (rest := [.int (f_roll n nu st de mk v2)]) ⟨hx, hb, hml, hown, hts⟩ (ct_X4_roll l G k0 k1 k2 k3 k4 k5 k6 k7 k8 k9 k10 k11 k12 mc len thr ky ro ln kd nb sc wa sm ld lo lw tx j n tn v2 hmc hj hn hMI.1.2.1 ht16 hMI.1.2.2.2.1 (fun q hq => hMI.ab_ok hq)) (cwV 2 hts gL_law_X4_roll rfl rfl rfl (by decide +kernel) ⟨Nat.le_of_ble_eq_true rfl, Nat.le_of_ble_eq_true rfl⟩) (WrP.preV 0 5 rfl rfl (pK hP) hE (dK hD)) rfl rfl hl.1 rfl (lv_room (Nat.le_of_ble_eq_true rfl)) dL_law_960 hz) hS (fun q _ h => aK hD q h) (aK hD) (fun r2 u t H1 locs ht hvm hw hB hz1 hk1 hS => ?_)
    rw [ht] at hB
    obtain ⟨rfl, le, ty, rfl⟩ := hw
    obtain ⟨hP, hD⟩ := jK (KW' := wK G k0 k1 k2 k3 k4 k5 k6 k7 k8 k9 k10 k11 k12 (nI mc) le 0 ky ro ln kd nb sc wa sm ld lo lw ty) hP hD hk1 hB rfl
    refine lv_icmp_eq (tgt := 968) hx hb dL_law_963 (by decide) (fun c0 => ?_) (fun c0 => absurd (hMI.roll v2) c0)
    refine W.widen (k := cells + 11) (n := slots + 1063) (by omega) (by omega) ?_
    exact kk M mc f le 0 ky ro ln kd nb sc wa sm ld lo lw ty ov H1 locs ls hIV hP hD hS hl

set_option maxHeartbeats 4000000 in
set_option maxRecDepth 100000 in
/-- marked -/
theorem lc_8 {p : Program} {l : Launch} {e : Env} {s : State} {m : MethodId} {below : List Frame} {meth : Method} {c : Code} {G : Gx} {b L : Nat} {xs : Nat → Int32} {sa : Nat} (C0 : lw_At p s m meth c b L xs) (hE : EV G s) (hT : TL sa s) (hfl : l.flags = pinnedFlags ++ [noTraceFlag]) (hL : L ≤ 3584) {i : Nat} (hi : i + 7 ≤ L) {x0 x1 o k0 k1 k2 k3 k4 k5 k6 k7 k8 k9 k10 k11 k12 cells slots : Nat} (hcs : cells + 11 ≤ room_1.cells ∧ slots + 1063 ≤ room_1.slots) (kk : HEAD p l e s m below meth c G b i x0 x1 o k0 k1 k2 k3 k4 k5 k6 k7 k8 k9 k10 k11 k12 (cells + 11) (slots + 1063) 968) : HEAD p l e s m below meth c G b i x0 x1 o k0 k1 k2 k3 k4 k5 k6 k7 k8 k9 k10 k11 k12 cells slots 706 := by
  intro M mc f len thr ky ro ln kd nb sc wa sm ld lo lw tx ov H locs ls hIV hP hD hS hl
  obtain ⟨hx, hb, hr, hml, hown, hts0, hX, hbl, hlocks, hgv⟩ := id C0
  have hts : ∀ w ∈ wsL_law, w.before #[Value.ref b] s = true := fun w h => hts0 w (wsL_law_in w h)
  have hz : cells + 0 ≤ room_1.cells ∧ slots + 0 ≤ room_1.slots := ⟨by omega, by omega⟩
  have hmc := hIV.1.2
  generalize e1 : xs (i + 1) = v1
  generalize e2 : xs (i + 2) = v2
  refine la_8 C0 hL hi hS hl e1 e2 ?_
  rcases mi_or hmc f v1 with ⟨hm1, hm2⟩ | ⟨j, hj, rfl⟩
  · refine x_ri (va_runV (As := [.int v1, .int v2]) (rest := []) ⟨hx, hb, hml, hown, hts⟩ (ca_X3_marked l G x0 x1 mc f v1 v2 hmc hm1) (cwV 2 hts gL_law_X3_marked rfl rfl rfl (by decide +kernel) ⟨Nat.le_of_ble_eq_true rfl, Nat.le_of_ble_eq_true rfl⟩) (RdP.preV 0 4 rfl rfl (x_front _ _ (pX hP)) hE) rfl rfl hl.1 rfl (lv_room (Nat.le_of_ble_eq_true rfl)) dL_law_719 hz) (fun r1 er1 => ?_)
    subst er1
    refine lb_8 C0 hL hi hS hl e1 e2 ?_
    refine va_calli (va_runV (As := [.int v1, .int v2]) (rest := [.int 0]) ⟨hx, hb, hml, hown, hts⟩ (ca_X4_marked l G k0 k1 k2 k3 k4 k5 k6 k7 k8 k9 k10 k11 k12 mc len thr ky ro ln kd nb sc wa sm ld lo lw tx v1 v2 hmc (frow_a hm2)) (cwV 2 hts gL_law_X4_marked rfl rfl rfl (by decide +kernel) ⟨Nat.le_of_ble_eq_true rfl, Nat.le_of_ble_eq_true rfl⟩) (WrP.preV 0 5 rfl rfl (pK hP) hE (dK hD)) rfl rfl hl.1 rfl (lv_room (Nat.le_of_ble_eq_true rfl)) dL_law_735 hz) hS (fun q _ h => aK hD q h) (aK hD) (fun r2 u t H1 locs ht hvm hw hB hz1 hk1 hS => ?_)
    rw [ht] at hB
    obtain ⟨rfl, rfl⟩ := hw
    obtain ⟨hP, hD⟩ := jK (KW' := wK G k0 k1 k2 k3 k4 k5 k6 k7 k8 k9 k10 k11 k12 (nI mc) len 0 ky ro ln kd nb sc wa sm ld lo lw tx) hP hD hk1 hB rfl
    refine lv_icmp_eq (tgt := 968) hx hb dL_law_738 (by decide) (fun c0 => ?_) (fun c0 => absurd (rfl) c0)
    refine W.widen (k := cells + 11) (n := slots + 1063) (by omega) (by omega) ?_
    exact kk M mc f len 0 ky ro ln kd nb sc wa sm ld lo lw tx ov H1 locs ls hIV hP hD hS hl
  · obtain ⟨x, hMx⟩ : ∃ x, M[j]? = some x := ⟨M[j]'(by rw [hIV.1.1]; exact hj), List.getElem?_eq_getElem _⟩
    obtain ⟨hfj, hMI⟩ := hIV.2.1 j x hMx
    obtain ⟨BA, BC, hBK, hBs⟩ := blks_at (G := G) hMx
    obtain ⟨⟨m0, t0, t1, t2, t3, h0, h1, h2, h3, h4, h5⟩, sl, la, tn, ts, ta, tb, key, n, nu, st, de, su, mk⟩ := x
    replace hMI : MI j sl la tn ts ta tb key n nu st de su mk ky ro ln kd nb sc wa sm ld lo lw := hMI
    have hj8 : j < 8 := by omega
    have hn := hMI.1.2.2.1
    have ht16 := hMI.1.2.2.2.2.1
    have hPX : va_P G.1 vwCl ((wX G x0 x1 (nI mc) f ++ BA) ++ wM G m0 t0 t1 t2 t3 h0 h1 h2 h3 h4 h5 sl la (nI tn) ts ta tb key (nI n) nu st de su mk ++ BC) H := by have h9 := pX hP; rw [xw_cut hBK] at h9; exact h9
    rcases holds_or hn v2 with hh | ⟨q, hq, rfl⟩
    · refine x_ri (va_runV (As := [.int (nI j), .int v2]) (rest := []) ⟨hx, hb, hml, hown, hts⟩ (ct_X3_marked l G x0 x1 mc f BA BC j m0 t0 t1 t2 t3 h0 h1 h2 h3 h4 h5 sl la tn ts ta tb key n nu st de su mk v2 hmc hj hfj hn ht16) (cwV 2 hts gL_law_X3_marked rfl rfl rfl (by decide +kernel) ⟨Nat.le_of_ble_eq_true rfl, Nat.le_of_ble_eq_true rfl⟩) (RdP.preV 0 4 rfl rfl hPX hE) rfl rfl hl.1 rfl (lv_room (Nat.le_of_ble_eq_true rfl)) dL_law_719 hz) (fun r1 er1 => ?_)
      subst er1
      refine lb_8 C0 hL hi hS hl e1 e2 ?_
      refine va_calli (va_runV (As := [.int (nI j), .int v2]) (rest := [.int (if f_mark n mk v2 = 0 then 0 else 1)]) ⟨hx, hb, hml, hown, hts⟩ (ca_X4_marked l G k0 k1 k2 k3 k4 k5 k6 k7 k8 k9 k10 k11 k12 mc len thr ky ro ln kd nb sc wa sm ld lo lw tx (nI j) v2 hmc (frow_0 hmc hj hMI.1.2.1 hn hh)) (cwV 2 hts gL_law_X4_marked rfl rfl rfl (by decide +kernel) ⟨Nat.le_of_ble_eq_true rfl, Nat.le_of_ble_eq_true rfl⟩) (WrP.preV 0 5 rfl rfl (pK hP) hE (dK hD)) rfl rfl hl.1 rfl (lv_room (Nat.le_of_ble_eq_true rfl)) dL_law_735 hz) hS (fun q _ h => aK hD q h) (aK hD) (fun r2 u t H1 locs ht hvm hw hB hz1 hk1 hS => ?_)
      rw [ht] at hB
      obtain ⟨rfl, rfl⟩ := hw
      obtain ⟨hP, hD⟩ := jK (KW' := wK G k0 k1 k2 k3 k4 k5 k6 k7 k8 k9 k10 k11 k12 (nI mc) len 0 ky ro ln kd nb sc wa sm ld lo lw tx) hP hD hk1 hB rfl
      refine lv_icmp_eq (tgt := 968) hx hb dL_law_738 (by decide) (fun c0 => ?_) (fun c0 => absurd (by rw [mark_out hh]; rfl) c0)
      refine W.widen (k := cells + 11) (n := slots + 1063) (by omega) (by omega) ?_
      exact kk M mc f len 0 ky ro ln kd nb sc wa sm ld lo lw tx ov H1 locs ls hIV hP hD hS hl
    · refine x_ri (va_runV (As := [.int (nI j), .int (nI q)]) (rest := []) ⟨hx, hb, hml, hown, hts⟩ (ct_X3_marked l G x0 x1 mc f BA BC j m0 t0 t1 t2 t3 h0 h1 h2 h3 h4 h5 sl la tn ts ta tb key n nu st de su mk (nI q) hmc hj hfj hn ht16) (cwV 2 hts gL_law_X3_marked rfl rfl rfl (by decide +kernel) ⟨Nat.le_of_ble_eq_true rfl, Nat.le_of_ble_eq_true rfl⟩) (RdP.preV 0 4 rfl rfl hPX hE) rfl rfl hl.1 rfl (lv_room (Nat.le_of_ble_eq_true rfl)) dL_law_719 hz) (fun r1 er1 => ?_)
      subst er1
      refine lb_8 C0 hL hi hS hl e1 e2 ?_
      refine va_calli (va_runV (As := [.int (nI j), .int (nI q)]) (rest := [.int (if f_mark n mk (nI q) = 0 then 0 else 1)]) ⟨hx, hb, hml, hown, hts⟩ (ct_X4_marked l G k0 k1 k2 k3 k4 k5 k6 k7 k8 k9 k10 k11 k12 mc len thr ky ro ln kd nb sc wa sm ld lo lw tx j n tn q hmc hj hn hMI.1.2.1 ht16 hMI.1.2.2.2.1 hq (frow_1 hmc hj hMI.1.2.1 hn hq)) (cwV 2 hts gL_law_X4_marked rfl rfl rfl (by decide +kernel) ⟨Nat.le_of_ble_eq_true rfl, Nat.le_of_ble_eq_true rfl⟩) (WrP.preV 0 5 rfl rfl (pK hP) hE (dK hD)) rfl rfl hl.1 rfl (lv_room (Nat.le_of_ble_eq_true rfl)) dL_law_735 hz) hS (fun q _ h => aK hD q h) (aK hD) (fun r2 u t H1 locs ht hvm hw hB hz1 hk1 hS => ?_)
      rw [ht] at hB
      obtain ⟨rfl, rfl⟩ := hw
      obtain ⟨hP, hD⟩ := jK (KW' := wK G k0 k1 k2 k3 k4 k5 k6 k7 k8 k9 k10 k11 k12 (nI mc) len 0 ky ro ln kd nb sc wa sm ld lo lw tx) hP hD hk1 hB rfl
      refine lv_icmp_eq (tgt := 968) hx hb dL_law_738 (by decide) (fun c0 => ?_) (fun c0 => absurd (by rw [hMI.mark hq]; by_cases h7 : md_mk kd j q = 0; (rw [if_pos h7]; rfl); (rw [if_neg h7]; rfl)) c0)
      refine W.widen (k := cells + 11) (n := slots + 1063) (by omega) (by omega) ?_
      exact kk M mc f len 0 ky ro ln kd nb sc wa sm ld lo lw tx ov H1 locs ls hIV hP hD hS hl
