/-! THE LAW: a new meter; litres -/
set_option maxHeartbeats 4000000 in
set_option maxRecDepth 100000 in
/-- meter -/
theorem lc_0 {p : Program} {l : Launch} {e : Env} {s : State} {m : MethodId} {below : List Frame} {meth : Method} {c : Code} {G : Gx} {b L : Nat} {xs : Nat → Int32} {sa : Nat} (C0 : lw_At p s m meth c b L xs) (hE : EV G s) (hT : TL sa s) (hfl : l.flags = pinnedFlags ++ [noTraceFlag]) (hL : L ≤ 3584) {i : Nat} (hi : i + 7 ≤ L) {x0 x1 o k0 k1 k2 k3 k4 k5 k6 k7 k8 k9 k10 k11 k12 cells slots : Nat} (hcs : cells + 11 ≤ room_1.cells ∧ slots + 1063 ≤ room_1.slots) (kk : HEAD p l e s m below meth c G b i x0 x1 o k0 k1 k2 k3 k4 k5 k6 k7 k8 k9 k10 k11 k12 (cells + 11) (slots + 1063) 968) : HEAD p l e s m below meth c G b i x0 x1 o k0 k1 k2 k3 k4 k5 k6 k7 k8 k9 k10 k11 k12 cells slots 108 := by
  intro M mc f len thr ky ro ln kd nb sc wa sm ld lo lw tx ov H locs ls hIV hP hD hS hl
  obtain ⟨hx, hb, hr, hml, hown, hts0, hX, hbl, hlocks, hgv⟩ := id C0
  have hts : ∀ w ∈ wsL_law, w.before #[Value.ref b] s = true := fun w h => hts0 w (wsL_law_in w h)
  have hz : cells + 0 ≤ room_1.cells ∧ slots + 0 ≤ room_1.slots := ⟨by omega, by omega⟩
  have hmc := hIV.1.2
  generalize e1 : xs (i + 1) = v1
  generalize e2 : xs (i + 2) = v2
  refine la_0 C0 hL hi hS hl e1 e2 ?_
  have hFc := x_freeN (wK G k0 k1 k2 k3 k4 k5 k6 k7 k8 k9 k10 k11 k12 (nI mc) len thr ky ro ln kd nb sc wa sm ld lo lw tx ++ [(o, .inl (kJ G, 1, .inr (.inl ov)))]) (wX G x0 x1 (nI mc) f ++ blks G M) hD hS (fun _ h => h)
  refine va_calli (va_runV (As := [.long (lg2 v1 v2)]) (rest := []) ⟨hx, hb, hml, hown, hts⟩ (ct_X3_meter l G H.size x0 x1 mc f (blks G M) (lg2 v1 v2) hmc) (cwV 1 hts gL_law_X3_meter rfl rfl rfl (by decide +kernel) ⟨Nat.le_of_ble_eq_true rfl, Nat.le_of_ble_eq_true rfl⟩) (NwP.preV ⟨0, rfl⟩ rfl (pX hP) hE (dX hD)) rfl rfl hl.1 rfl (lv_room (Nat.le_of_ble_eq_true rfl)) dL_law_131 hcs) hS (fun q _ h => hFc q h) hFc (fun r1 u t H1 locs ht hvm hw hB hz1 hk1 hS => ?_)
  obtain ⟨hP1, hD1⟩ := hB
  rw [ht] at hP1
  rcases hw with ⟨h8, rfl, rfl⟩ | ⟨h8, rfl, m0, t0, t1, t2, t3, h0, h1, h2, h3, h4, h5, rfl⟩
  · obtain ⟨hP, hD⟩ := x_joinN (wK G k0 k1 k2 k3 k4 k5 k6 k7 k8 k9 k10 k11 k12 (nI mc) len thr ky ro ln kd nb sc wa sm ld lo lw tx ++ [(o, .inl (kJ G, 1, .inr (.inl ov)))]) (wX G x0 x1 (nI mc) f ++ blks G M) (wX G x0 x1 (nI mc) f ++ blks G M) hP hD hk1 hFc hP1 hD1
    generalize H1 = H at hP hS ⊢
    refine lb_0 C0 hL hi hS hl e1 e2 ?_
    refine va_calli (va_runV (As := [.long (lg2 v1 v2)]) (rest := [.int (-2)]) ⟨hx, hb, hml, hown, hts⟩ (ct_X4_meter l G k0 k1 k2 k3 k4 k5 k6 k7 k8 k9 k10 k11 k12 mc len thr ky ro ln kd nb sc wa sm ld lo lw tx (lg2 v1 v2) hmc) (cwV 1 hts gL_law_X4_meter rfl rfl rfl (by decide +kernel) ⟨Nat.le_of_ble_eq_true rfl, Nat.le_of_ble_eq_true rfl⟩) (WrP.preV 0 5 rfl rfl (pK hP) hE (dK hD)) rfl rfl hl.1 rfl (lv_room (Nat.le_of_ble_eq_true rfl)) dL_law_157 hcs) hS (fun q _ h => aK hD q h) (aK hD) (fun r2 u t H1 locs ht hvm hw hB hz1 hk1 hS => ?_)
    rw [ht] at hB
    rcases hw with ⟨h9, rfl, rfl⟩ | ⟨h9, rfl, rfl⟩
    · obtain ⟨hP, hD⟩ := jK (KW' := wK G k0 k1 k2 k3 k4 k5 k6 k7 k8 k9 k10 k11 k12 (nI mc) len 0 ky ro ln kd nb sc wa sm ld lo lw tx) hP hD hk1 hB rfl
      refine lv_icmp_eq (tgt := 968) hx hb dL_law_160 (by decide) (fun c0 => ?_) (fun c0 => absurd rfl c0)
      refine W.widen (k := cells + 11) (n := slots + 1063) (by omega) (by omega) ?_
      exact kk M mc f len 0 ky ro ln kd nb sc wa sm ld lo lw tx ov H1 locs ls hIV hP hD hS hl
    · omega
  · obtain ⟨hP, hD⟩ := x_joinN (wK G k0 k1 k2 k3 k4 k5 k6 k7 k8 k9 k10 k11 k12 (nI mc) len thr ky ro ln kd nb sc wa sm ld lo lw tx ++ [(o, .inl (kJ G, 1, .inr (.inl ov)))]) (wX G x0 x1 (nI mc) f ++ blks G M) (wX G x0 x1 (nI (mc + 1)) (va_up f mc (some m0)) ++ blks G M ++ wM G m0 t0 t1 t2 t3 h0 h1 h2 h3 h4 h5 1 0 0 (fun _ => 0) (fun _ => 0) (fun _ => 0) (lg2 v1 v2) 0 (fun _ => 0) (fun _ => 0) (fun _ => 0) (fun _ => 0) (fun _ => 0)) hP hD hk1 hFc hP1 hD1
    generalize H1 = H at hP hS ⊢
    refine lb_0 C0 hL hi hS hl e1 e2 ?_
    refine va_calli (va_runV (As := [.long (lg2 v1 v2)]) (rest := [.int (nI mc)]) ⟨hx, hb, hml, hown, hts⟩ (ct_X4_meter l G k0 k1 k2 k3 k4 k5 k6 k7 k8 k9 k10 k11 k12 mc len thr ky ro ln kd nb sc wa sm ld lo lw tx (lg2 v1 v2) hmc) (cwV 1 hts gL_law_X4_meter rfl rfl rfl (by decide +kernel) ⟨Nat.le_of_ble_eq_true rfl, Nat.le_of_ble_eq_true rfl⟩) (WrP.preV 0 5 rfl rfl (pK hP) hE (dK hD)) rfl rfl hl.1 rfl (lv_room (Nat.le_of_ble_eq_true rfl)) dL_law_157 hcs) hS (fun q _ h => aK hD q h) (aK hD) (fun r2 u t H1 locs ht hvm hw hB hz1 hk1 hS => ?_)
    rw [ht] at hB
    rcases hw with ⟨h9, rfl, rfl⟩ | ⟨h9, rfl, rfl⟩
    · omega
    · obtain ⟨hP, hD⟩ := jK (KW' := wK G k0 k1 k2 k3 k4 k5 k6 k7 k8 k9 k10 k11 k12 (nI (mc + 1)) len 0 (vp_updL ky mc (lg2 v1 v2)) ro ln kd nb sc wa sm ld lo lw tx) hP hD hk1 hB rfl
      refine lv_icmp_eq (tgt := 968) hx hb dL_law_160 (by decide) (fun c0 => ?_) (fun c0 => absurd rfl c0)
      refine W.widen (k := cells + 11) (n := slots + 1063) (by omega) (by omega) ?_
      exact kk (M ++ [((m0, t0, t1, t2, t3, h0, h1, h2, h3, h4, h5), (1, 0, 0, (fun _ => 0), (fun _ => 0), (fun _ => 0), (lg2 v1 v2), 0, (fun _ => 0), (fun _ => 0), (fun _ => 0), (fun _ => 0), (fun _ => 0)))]) (mc + 1) (va_up f mc (some m0)) len 0 (vp_updL ky mc (lg2 v1 v2)) ro ln kd nb sc wa sm ld lo lw tx ov H1 locs ls (hIV.push (x := ((m0, t0, t1, t2, t3, h0, h1, h2, h3, h4, h5), (1, 0, 0, (fun _ => 0), (fun _ => 0), (fun _ => 0), (lg2 v1 v2), 0, (fun _ => 0), (fun _ => 0), (fun _ => 0), (fun _ => 0), (fun _ => 0)))) h9 (MI.fresh pk_uLs (hIV.2.2 mc (Nat.le_refl _)).1 (hIV.2.2 mc (Nat.le_refl _)).2) (fun q hq => AG.meter hq) (fun q => ⟨rfl, rfl⟩)) (by rw [blks_push, ← List.append_assoc]; exact hP) (by rw [blks_push, ← List.append_assoc]; exact hD) hS hl

set_option maxHeartbeats 4000000 in
set_option maxRecDepth 100000 in
/-- behind MeterSealsLaw.litres -/
theorem lt_3 {p : Program} {l : Launch} {e : Env} {s : State} {m : MethodId} {below : List Frame} {meth : Method} {c : Code} {G : Gx} {b L : Nat} {xs : Nat → Int32} (C0 : lw_At p s m meth c b L xs) (hE : EV G s) (hL : L ≤ 3584) {i : Nat} (hi : i + 7 ≤ L) {x0 x1 o k0 k1 k2 k3 k4 k5 k6 k7 k8 k9 k10 k11 k12 cells slots cells' slots' : Nat} (hcs : cells' + 0 ≤ room_1.cells ∧ slots' + 0 ≤ room_1.slots) (hc : cells' ≤ cells + 11 ∧ slots' ≤ slots + 1063) (kk : HEAD p l e s m below meth c G b i x0 x1 o k0 k1 k2 k3 k4 k5 k6 k7 k8 k9 k10 k11 k12 (cells + 11) (slots + 1063) 968)
    {M : List (MAd × MSt)} {mc : Nat} {f : Nat → Option Nat} {len thr : Int32} {ky : Nat → Int64} {ro : Nat → Int32} {ln : Nat → Int32} {kd : Nat → Int32} {nb : Nat → Int64} {sc : Nat → Int64} {wa : Nat → Int32} {sm : Nat → Int64} {ld : Nat → Int32} {lo : Nat → Int64} {lw : Nat → Int64} {tx : Nat → Int32} {ov : Nat → Int64} {H : Heap} {locs : List Loc} {ls : Array Slot} (hIV : IV M mc f ky ro ln kd nb sc wa sm ld lo lw) (hP : va_P G.1 vwCl (wK G k0 k1 k2 k3 k4 k5 k6 k7 k8 k9 k10 k11 k12 (nI mc) len thr ky ro ln kd nb sc wa sm ld lo lw tx ++ [(o, .inl (kJ G, 1, .inr (.inl ov)))] ++ (wX G x0 x1 (nI mc) f ++ blks G M)) H) (hD : va_D (fun q : Nat => s.heap.size ≤ q) (wK G k0 k1 k2 k3 k4 k5 k6 k7 k8 k9 k10 k11 k12 (nI mc) len thr ky ro ln kd nb sc wa sm ld lo lw tx ++ [(o, .inl (kJ G, 1, .inr (.inl ov)))] ++ (wX G x0 x1 (nI mc) f ++ blks G M))) (hS : va_S (fun q : Nat => s.heap.size ≤ q) s.heap H locs) (hl : lv_has ls 8 [(4, .int (nI i)), (3, .ref o), (2, .ref k0), (1, .ref x0), (0, .ref b)])
    {v1 v2 v3 : Int32} (e1 : xs (i + 1) = v1) (e2 : xs (i + 2) = v2) (e3 : xs (i + 3) = v3) {r thr' : Int32} {val : Int64} {rm : Room} (hrc : rm.cells = 0) (hrs : rm.slots = 0) (hR : rm.frames + 1 ≤ room_1.frames ∧ 8 + (10 + 11) + rm.locals ≤ room_1.locals)
    (hM : Met l yX4_litres wsX4_litres rm (WrP G (wK G k0 k1 k2 k3 k4 k5 k6 k7 k8 k9 k10 k11 k12 (nI mc) len thr ky ro ln kd nb sc wa sm ld lo lw tx) [.ref k0, .int v1, .int v2, .int v3]) (va_Ql (fun r (u : va_W) => r = val ∧ u = wK G k0 k1 k2 k3 k4 k5 k6 k7 k8 k9 k10 k11 k12 (nI mc) len thr' ky ro ln kd nb sc wa sm ld lo lw tx) (fun u t => va_P G.1 vwCl u t.heap) (adr (wK G k0 k1 k2 k3 k4 k5 k6 k7 k8 k9 k10 k11 k12 (nI mc) len thr ky ro ln kd nb sc wa sm ld lo lw tx))) 0 0 (adr (wK G k0 k1 k2 k3 k4 k5 k6 k7 k8 k9 k10 k11 k12 (nI mc) len thr ky ro ln kd nb sc wa sm ld lo lw tx)))
    (hr0 : (r = 0 ∧ thr' = 0 ∧ ov 0 = val) ∨ (r = 1 ∧ thr' = 1)) : W p l e room_1 s m #[Value.ref b] below meth c H locs cells' slots' (lw_Z below #[Value.ref b] s) (F0 m 442 ls [.int r]) := by
  obtain ⟨hx, hb, hr, hml, hown, hts0, hX, hbl, hlocks, hgv⟩ := id C0
  have hts : ∀ w ∈ wsL_law, w.before #[Value.ref b] s = true := fun w h => hts0 w (wsL_law_in w h)
  refine lv_istore (lv' := [(5, .int r), (4, .int (nI i)), (3, .ref o), (2, .ref k0), (1, .ref x0), (0, .ref b)]) hx hb dL_law_442 hl (by decide) rfl (fun ls hl => ?_)
  refine lb_3 C0 hL hi hS hl e1 e2 e3 ?_
  refine va_calll (va_runV (As := [.int v1, .int v2, .int v3]) (rest := []) ⟨hx, hb, hml, hown, hts⟩ hM (cwV 3 hts gL_law_X4_litres rfl hrc hrs (by decide +kernel) hR) (WrP.preV 0 5 rfl rfl (pK hP) hE (dK hD)) rfl rfl hl.1 rfl (lv_room (Nat.le_of_ble_eq_true rfl)) dL_law_463 hcs) hS (fun q _ h => aK hD q h) (aK hD) (fun r2 u t H1 locs ht hvm hw hB hz1 hk1 hS => ?_)
  rw [ht] at hB
  obtain ⟨rfl, rfl⟩ := hw
  obtain ⟨hP, hD⟩ := jK (KW' := wK G k0 k1 k2 k3 k4 k5 k6 k7 k8 k9 k10 k11 k12 (nI mc) len thr' ky ro ln kd nb sc wa sm ld lo lw tx) hP hD hk1 hB rfl
  refine lv_lstore (lv' := [(6, .long r2), (5, .int r), (4, .int (nI i)), (3, .ref o), (2, .ref k0), (1, .ref x0), (0, .ref b)]) hx hb dL_law_466 hl (by decide) rfl (fun ls hl => ?_)
  refine lv_aload_n hx hb dL_law_468 rfl (lv_at hl 4 rfl) ?_
  refine x_ri (va_runV (As := []) (rest := []) ⟨hx, hb, hml, hown, hts⟩ (ct_X4_thrown l G k0 k1 k2 k3 k4 k5 k6 k7 k8 k9 k10 k11 k12 mc len thr' ky ro ln kd nb sc wa sm ld lo lw tx) (cwV 0 hts gL_law_X4_thrown rfl rfl rfl (by decide +kernel) ⟨Nat.le_of_ble_eq_true rfl, Nat.le_of_ble_eq_true rfl⟩) (RdP.preV 0 5 rfl rfl (pK hP) hE) rfl rfl hl.1 rfl (lv_room (Nat.le_of_ble_eq_true rfl)) dL_law_469 hcs) (fun r3 er3 => ?_)
  subst er3
  refine lv_iload hx hb dL_law_472 (lv_at hl 1 rfl) ?_
  have hrt : r3 = r := by rcases hr0 with ⟨h1, h2, -⟩ | ⟨h1, h2⟩ <;> rw [h1, h2]
  refine lv_icmp_eq (tgt := 479) hx hb dL_law_474 (by decide) (fun c0 => ?_) (fun c0 => absurd hrt c0)
  refine lv_iload hx hb dL_law_479 (lv_at hl 1 rfl) ?_
  have hend : W p l e room_1 s m #[Value.ref b] below meth c H1 locs cells' slots' (lw_Z below #[Value.ref b] s) (F0 m 495 ls []) := by
    refine lv_goto (tgt := 968) hx hb dL_law_495 (by decide) ?_
    refine W.widen (k := cells + 11) (n := slots + 1063) hc.1 hc.2 ?_
    exact kk M mc f len r3 ky ro ln kd nb sc wa sm ld lo lw tx ov H1 locs ls hIV hP hD hS (lv_sub hl [2, 3, 4, 5, 6] rfl)
  refine lv_if_ne (tgt := 495) hx hb dL_law_481 (by decide) (fun c1 => hend) (fun c1 => ?_)
  have hv : ov 0 = r2 := by
    rcases hr0 with ⟨h1, h2, h3⟩ | ⟨h1, h2⟩
    · exact h3
    · rw [h1] at c1; exact absurd c1 (by decide)
  refine lv_aload_n hx hb dL_law_484 rfl (lv_at hl 3 rfl) ?_
  refine lv_iconst (v := 0) hx hb dL_law_485 (by decide) ?_
  refine va_lald hx hb hE.1 hP 13 1 rfl rfl (i := 0) (vp_in_nI (n := 0) (by decide) (by decide)) dL_law_486 ?_
  refine lv_lload hx hb dL_law_487 (lv_at hl 0 rfl) ?_
  exact x_leq (tgt := 495) hx hb dL_law_489 dL_law_490 (by decide) (fun c2 => hend) (fun c2 => absurd hv c2)

theorem tot_L2 {KW O W1 B : va_W} : KW ++ O ++ (W1 ++ B) = KW ++ (O ++ W1) ++ B := by simp
theorem quot_ne {a d : Int64} (h : ¬ d = 0) : f_quot a d = a / d := if_neg h
theorem lx_S {p : Program} {l : Launch} {e : Env} {s : State} {m : MethodId} {below : List Frame} {meth : Method} {c : Code} {b L : Nat} {xs : Nat → Int32} (C0 : lw_At p s m meth c b L xs) {H : Heap} {locs : List Loc} {ls : Array Slot} {cells slots mc ms : Nat} {o x0 : Nat} {v1 v2 v3 : Int32} {rm : Room} {Pc : Array Value → State → Prop} {Qc : Array Value → State → Outcome → State → Prop} {free : Addr → Prop}
    (hM : Met l yL_litres wsL_litres rm Pc Qc mc ms free) (hrc : rm.cells = mc) (hrs : rm.slots = ms) (hR : rm.frames + 1 ≤ room_1.frames ∧ 8 + (6 + 11) + rm.locals ≤ room_1.locals) (hp : PreS s H Pc [.ref x0, .int v1, .int v2, .int v3, .ref o]) (hsz : ls.size = 8) (hf : cells + mc ≤ room_1.cells ∧ slots + ms ≤ room_1.slots) :
    va_Run p l e room_1 s m #[Value.ref b] below meth c H locs cells slots mc ms (F0 m 439 ls [.ref o, .int v3, .int v2, .int v1, .ref x0]) [] (Qc ([.ref x0, .int v1, .int v2, .int v3, .ref o] : List Value).toArray) free := by
  obtain ⟨hx, hb, hr, hml, hown, hts0, hX, hbl, hlocks, hgv⟩ := C0
  have hts : ∀ w ∈ wsL_law, w.before #[Value.ref b] s = true := fun w h => hts0 w (wsL_law_in w h)
  exact x_runSW (n := 5) (As := [.ref x0, .int v1, .int v2, .int v3, .ref o]) (rest := []) ⟨hx, hb, hml, hown, hts⟩ hM gL_law_L_litres rfl hrc hrs (hts (.static yL_litres) (gL_law_L_litres _ (by simp [va_wsS])).1) (hts (.initialized yL_litres.cls) (gL_law_L_litres _ (by simp [va_wsS])).1) (hts (.methodLink RL 36 yL_litres) (gL_law_L_litres _ (by simp [va_wsS])).1) (by decide +kernel) hR ggL_law_L_litres hp rfl rfl hsz rfl (lv_room (Nat.le_of_ble_eq_true rfl)) dL_law_439 hf

set_option maxHeartbeats 4000000 in
set_option maxRecDepth 100000 in
/-- litres -/
theorem lc_3 {p : Program} {l : Launch} {e : Env} {s : State} {m : MethodId} {below : List Frame} {meth : Method} {c : Code} {G : Gx} {b L : Nat} {xs : Nat → Int32} {sa : Nat} (C0 : lw_At p s m meth c b L xs) (hE : EV G s) (hT : TL sa s) (hfl : l.flags = pinnedFlags ++ [noTraceFlag]) (hL : L ≤ 3584) {i : Nat} (hi : i + 7 ≤ L) {x0 x1 o k0 k1 k2 k3 k4 k5 k6 k7 k8 k9 k10 k11 k12 cells slots : Nat} (hcs : cells + 11 ≤ room_1.cells ∧ slots + 1063 ≤ room_1.slots) (kk : HEAD p l e s m below meth c G b i x0 x1 o k0 k1 k2 k3 k4 k5 k6 k7 k8 k9 k10 k11 k12 (cells + 11) (slots + 1063) 968) : HEAD p l e s m below meth c G b i x0 x1 o k0 k1 k2 k3 k4 k5 k6 k7 k8 k9 k10 k11 k12 cells slots 419 := by
  intro M mc f len thr ky ro ln kd nb sc wa sm ld lo lw tx ov H locs ls hIV hP hD hS hl
  obtain ⟨hx, hb, hr, hml, hown, hts0, hX, hbl, hlocks, hgv⟩ := id C0
  have hts : ∀ w ∈ wsL_law, w.before #[Value.ref b] s = true := fun w h => hts0 w (wsL_law_in w h)
  have hz : cells + 0 ≤ room_1.cells ∧ slots + 0 ≤ room_1.slots := ⟨by omega, by omega⟩
  have hmc := hIV.1.2
  generalize e1 : xs (i + 1) = v1
  generalize e2 : xs (i + 2) = v2
  generalize e3 : xs (i + 3) = v3
  refine la_3 C0 hL hi hS hl e1 e2 e3 ?_
  rcases mi_or hmc f v1 with ⟨hm1, hm2⟩ | ⟨j, hj, rfl⟩
  · have hPO : va_P G.1 vwCl ((o, .inl (kJ G, 1, .inr (.inl ov))) :: wX G x0 x1 (nI mc) f) H := x_mid (wK G k0 k1 k2 k3 k4 k5 k6 k7 k8 k9 k10 k11 k12 (nI mc) len thr ky ro ln kd nb sc wa sm ld lo lw tx) ([(o, .inl (kJ G, 1, .inr (.inl ov)))] ++ wX G x0 x1 (nI mc) f) (blks G M) tot_L2 hP
    have hDO : va_D (fun q : Nat => s.heap.size ≤ q) ((o, .inl (kJ G, 1, .inr (.inl ov))) :: wX G x0 x1 (nI mc) f) := x_midD (wK G k0 k1 k2 k3 k4 k5 k6 k7 k8 k9 k10 k11 k12 (nI mc) len thr ky ro ln kd nb sc wa sm ld lo lw tx) ([(o, .inl (kJ G, 1, .inr (.inl ov)))] ++ wX G x0 x1 (nI mc) f) (blks G M) tot_L2 hD
    have hAO : ∀ q, adr ((o, .inl (kJ G, 1, .inr (.inl ov))) :: wX G x0 x1 (nI mc) f) q → (fun q : Nat => s.heap.size ≤ q) q := fun q h => by obtain ⟨k, ee, hk⟩ := h; exact hDO.2 k _ hk
    refine va_calli (lx_S C0 (cl_ok l G o ov (wX G x0 x1 (nI mc) f) x0 _ rfl v1 v2 v3 (-1) ⟨rfl, rfl, Nat.le_of_ble_eq_true rfl, Nat.le_of_ble_eq_true rfl⟩ (ca_X3_litres l G x0 x1 mc f v1 v2 v3 hmc hm1)) rfl rfl ⟨Nat.le_of_ble_eq_true rfl, Nat.le_of_ble_eq_true rfl⟩ (WrP.preS hPO hE hDO) hl.1 hz) hS (fun q _ h => hAO q h) hAO (fun r1 u t H1 locs ht hvm hw hB hz1 hk1 hS => ?_)
    rw [ht] at hB
    obtain ⟨rfl, rfl⟩ := hw
    obtain ⟨hP, hD⟩ := x_join (wK G k0 k1 k2 k3 k4 k5 k6 k7 k8 k9 k10 k11 k12 (nI mc) len thr ky ro ln kd nb sc wa sm ld lo lw tx) ([(o, .inl (kJ G, 1, .inr (.inl ov)))] ++ wX G x0 x1 (nI mc) f) (blks G M) ([(o, .inl (kJ G, 1, .inr (.inl (vp_updL ov 0 (-1)))))] ++ wX G x0 x1 (nI mc) f) tot_L2 hP hD hk1 hB rfl
    rw [← tot_L2] at hP hD
    exact lt_3 C0 hE hL hi hz ⟨by omega, by omega⟩ kk hIV hP hD hS hl e1 e2 e3 rfl rfl ⟨Nat.le_of_ble_eq_true rfl, Nat.le_of_ble_eq_true rfl⟩ (ca_X4_litres l G k0 k1 k2 k3 k4 k5 k6 k7 k8 k9 k10 k11 k12 mc len thr ky ro ln kd nb sc wa sm ld lo lw tx v1 v2 v3 hmc hm2) (Or.inl ⟨rfl, rfl, pk_uLs⟩)
  · obtain ⟨x, hMx⟩ : ∃ x, M[j]? = some x := ⟨M[j]'(by rw [hIV.1.1]; exact hj), List.getElem?_eq_getElem _⟩
    obtain ⟨hfj, hMI⟩ := hIV.2.1 j x hMx
    obtain ⟨BA, BC, hBK, hBs⟩ := blks_at (G := G) hMx
    obtain ⟨⟨m0, t0, t1, t2, t3, h0, h1, h2, h3, h4, h5⟩, sl, la, tn, ts, ta, tb, key, n, nu, st, de, su, mk⟩ := x
    replace hMI : MI j sl la tn ts ta tb key n nu st de su mk ky ro ln kd nb sc wa sm ld lo lw := hMI
    have hj8 : j < 8 := by omega
    have hn := hMI.1.2.2.1
    have ht16 := hMI.1.2.2.2.2.1
    rw [xw_cut hBK] at hP hD
    replace hP : va_P G.1 vwCl (wK G k0 k1 k2 k3 k4 k5 k6 k7 k8 k9 k10 k11 k12 (nI mc) len thr ky ro ln kd nb sc wa sm ld lo lw tx ++ [(o, .inl (kJ G, 1, .inr (.inl ov)))] ++ ((wX G x0 x1 (nI mc) f ++ BA) ++ wM G m0 t0 t1 t2 t3 h0 h1 h2 h3 h4 h5 sl la (nI tn) ts ta tb key (nI n) nu st de su mk ++ BC)) H := hP
    replace hD : va_D (fun q : Nat => s.heap.size ≤ q) (wK G k0 k1 k2 k3 k4 k5 k6 k7 k8 k9 k10 k11 k12 (nI mc) len thr ky ro ln kd nb sc wa sm ld lo lw tx ++ [(o, .inl (kJ G, 1, .inr (.inl ov)))] ++ ((wX G x0 x1 (nI mc) f ++ BA) ++ wM G m0 t0 t1 t2 t3 h0 h1 h2 h3 h4 h5 sl la (nI tn) ts ta tb key (nI n) nu st de su mk ++ BC)) := hD
    by_cases hp : v3 = 0 ∨ v3 = 1
    · have hp0 : ¬ v3 < 0 := by rcases hp with rfl | rfl <;> decide
      have hp1 : v3 ≤ 1 := by rcases hp with rfl | rfl <;> decide
      rcases holds_or hn v2 with hh | ⟨q, hq, rfl⟩
      · refine va_calli (lx_S C0 (cl_threw l G sa o ov ((wX G x0 x1 (nI mc) f ++ BA) ++ wM G m0 t0 t1 t2 t3 h0 h1 h2 h3 h4 h5 sl la (nI tn) ts ta tb key (nI n) nu st de su mk ++ BC) x0 _ rfl (nI j) v2 v3 (cth_X3_litres l hfl G sa x0 x1 mc f BA BC j m0 t0 t1 t2 t3 h0 h1 h2 h3 h4 h5 sl la tn ts ta tb key n nu st de su mk v2 v3 hmc hj hfj hn ht16 hp hh)) rfl rfl ⟨Nat.le_of_ble_eq_true rfl, Nat.le_of_ble_eq_true rfl⟩ ⟨TlP.blind, fun U hU hW => ⟨rfl, by rw [hU]; exact pL hP, hE.warm hW, hT.next hU hW (fun q hq => hS.2.1 q hq (Nat.not_le.mpr hq)), (dL hD).weaken (fun _ _ _ _ => trivial)⟩⟩ hl.1 ⟨by omega, by omega⟩) hS (fun q _ h => aL hD q h) (aL hD) (fun r1 u t H1 locs ht hvm hw hB hz1 hk1 hS => ?_)
        rw [ht] at hB
        obtain ⟨rfl, rfl⟩ := hw
        obtain ⟨hP, hD⟩ := jL (O' := [(o, .inl (kJ G, 1, .inr (.inl ov)))]) (X' := ((wX G x0 x1 (nI mc) f ++ BA) ++ wM G m0 t0 t1 t2 t3 h0 h1 h2 h3 h4 h5 sl la (nI tn) ts ta tb key (nI n) nu st de su mk ++ BC)) hP hD hk1 hB rfl
        exact lt_3 C0 hE hL hi ⟨by omega, by omega⟩ ⟨by omega, by omega⟩ kk hIV (by rw [xw_cut hBK]; exact hP) (by rw [xw_cut hBK]; exact hD) hS hl e1 e2 e3 rfl rfl ⟨Nat.le_of_ble_eq_true rfl, Nat.le_of_ble_eq_true rfl⟩ (ch_X4_litres l G k0 k1 k2 k3 k4 k5 k6 k7 k8 k9 k10 k11 k12 mc len thr ky ro ln kd nb sc wa sm ld lo lw tx j n tn v2 v3 hmc hj hn hMI.1.2.1 ht16 hMI.1.2.2.2.1 hp0 hp1 (frow_0 hmc hj hMI.1.2.1 hn hh)) (Or.inr ⟨rfl, rfl⟩)
      · have hrw := frow_1 hmc hj hMI.1.2.1 hn hq
        by_cases hk0 : kd (j * 200 + q) = 0
        · obtain ⟨A0, B0, q1, q2, q3, a1, a2, a3, a4⟩ := hMI.read hj8 hq hk0
          have hg : ¬ lN (Nat.gcd A0 B0) = 0 := fun z => by
            have h7 : Nat.gcd A0 B0 ≤ B0 := Nat.le_of_dvd q2 (Nat.gcd_dvd_right A0 B0)
            have h8 : 0 < Nat.gcd A0 B0 := Nat.gcd_pos_of_pos_right A0 q2
            have h9 := (pk_lEQ (b := 0) (show Nat.gcd A0 B0 < 2 ^ 63 by omega) (by decide)).mp z
            omega
          refine va_calli (lx_S C0 (cl_ok l G o ov ((wX G x0 x1 (nI mc) f ++ BA) ++ wM G m0 t0 t1 t2 t3 h0 h1 h2 h3 h4 h5 sl la (nI tn) ts ta tb key (nI n) nu st de su mk ++ BC) x0 _ rfl (nI j) (nI q) v3 (if v3 = 0 then f_quot (lN A0) (lN (Nat.gcd A0 B0)) else f_quot (lN B0) (lN (Nat.gcd A0 B0))) ⟨rfl, rfl, Nat.le_of_ble_eq_true rfl, Nat.le_of_ble_eq_true rfl⟩ (ct_X3_litres l G x0 x1 mc f BA BC j m0 t0 t1 t2 t3 h0 h1 h2 h3 h4 h5 sl la tn ts ta tb key n nu st de su mk (nI q) v3 A0 B0 hmc hj hfj hn ht16 hp (holds_nI hq hn) a1 a2 (by omega) (by omega))) rfl rfl ⟨Nat.le_of_ble_eq_true rfl, Nat.le_of_ble_eq_true rfl⟩ (WrP.preS (pL hP) hE (dL hD)) hl.1 hz) hS (fun q _ h => aL hD q h) (aL hD) (fun r1 u t H1 locs ht hvm hw hB hz1 hk1 hS => ?_)
          rw [ht] at hB
          obtain ⟨rfl, rfl⟩ := hw
          obtain ⟨hP, hD⟩ := jL (O' := [(o, .inl (kJ G, 1, .inr (.inl (vp_updL ov 0 (if v3 = 0 then f_quot (lN A0) (lN (Nat.gcd A0 B0)) else f_quot (lN B0) (lN (Nat.gcd A0 B0)))))))]) (X' := ((wX G x0 x1 (nI mc) f ++ BA) ++ wM G m0 t0 t1 t2 t3 h0 h1 h2 h3 h4 h5 sl la (nI tn) ts ta tb key (nI n) nu st de su mk ++ BC)) hP hD hk1 hB rfl
          exact lt_3 C0 hE hL hi hz ⟨by omega, by omega⟩ kk hIV (by rw [xw_cut hBK]; exact hP) (by rw [xw_cut hBK]; exact hD) hS hl e1 e2 e3 rfl rfl ⟨Nat.le_of_ble_eq_true rfl, Nat.le_of_ble_eq_true rfl⟩ (ct_X4_litres l G k0 k1 k2 k3 k4 k5 k6 k7 k8 k9 k10 k11 k12 mc len thr ky ro ln kd nb sc wa sm ld lo lw tx j n tn q v3 A0 B0 hmc hj hn hMI.1.2.1 ht16 hMI.1.2.2.2.1 hp0 hp1 hq hrw hk0 (hMI.2.2.2.2 q hq hk0) a3 a4 (by omega) (by omega) hg) (Or.inl ⟨rfl, rfl, by rw [pk_uLs, quot_ne hg, quot_ne hg]⟩)
        · obtain ⟨a1, a2⟩ := hMI.other hq hk0
          refine va_calli (lx_S C0 (cl_ok l G o ov ((wX G x0 x1 (nI mc) f ++ BA) ++ wM G m0 t0 t1 t2 t3 h0 h1 h2 h3 h4 h5 sl la (nI tn) ts ta tb key (nI n) nu st de su mk ++ BC) x0 _ rfl (nI j) (nI q) v3 (if v3 = 0 then f_quot (lN 0) (lN (Nat.gcd 0 1)) else f_quot (lN 1) (lN (Nat.gcd 0 1))) ⟨rfl, rfl, Nat.le_of_ble_eq_true rfl, Nat.le_of_ble_eq_true rfl⟩ (ct_X3_litres l G x0 x1 mc f BA BC j m0 t0 t1 t2 t3 h0 h1 h2 h3 h4 h5 sl la tn ts ta tb key n nu st de su mk (nI q) v3 0 1 hmc hj hfj hn ht16 hp (holds_nI hq hn) a1 a2 (by omega) (by omega))) rfl rfl ⟨Nat.le_of_ble_eq_true rfl, Nat.le_of_ble_eq_true rfl⟩ (WrP.preS (pL hP) hE (dL hD)) hl.1 hz) hS (fun q _ h => aL hD q h) (aL hD) (fun r1 u t H1 locs ht hvm hw hB hz1 hk1 hS => ?_)
          rw [ht] at hB
          obtain ⟨rfl, rfl⟩ := hw
          obtain ⟨hP, hD⟩ := jL (O' := [(o, .inl (kJ G, 1, .inr (.inl (vp_updL ov 0 (if v3 = 0 then f_quot (lN 0) (lN (Nat.gcd 0 1)) else f_quot (lN 1) (lN (Nat.gcd 0 1)))))))]) (X' := ((wX G x0 x1 (nI mc) f ++ BA) ++ wM G m0 t0 t1 t2 t3 h0 h1 h2 h3 h4 h5 sl la (nI tn) ts ta tb key (nI n) nu st de su mk ++ BC)) hP hD hk1 hB rfl
          exact lt_3 C0 hE hL hi hz ⟨by omega, by omega⟩ kk hIV (by rw [xw_cut hBK]; exact hP) (by rw [xw_cut hBK]; exact hD) hS hl e1 e2 e3 rfl rfl ⟨Nat.le_of_ble_eq_true rfl, Nat.le_of_ble_eq_true rfl⟩ (ck_X4_litres l G k0 k1 k2 k3 k4 k5 k6 k7 k8 k9 k10 k11 k12 mc len thr ky ro ln kd nb sc wa sm ld lo lw tx j n tn q v3 hmc hj hn hMI.1.2.1 ht16 hMI.1.2.2.2.1 hp0 hp1 hq hrw hk0) (Or.inl ⟨rfl, rfl, by rw [pk_uLs]; rcases hp with rfl | rfl <;> decide⟩)
    · have hp0 : ¬ v3 = 0 := fun z => hp (Or.inl z)
      have hp1 : ¬ v3 = 1 := fun z => hp (Or.inr z)
      have hpo : v3 < 0 ∨ 1 < v3 := by
        by_cases h5 : v3 < 0
        · exact Or.inl h5
        · by_cases h6 : v3 ≤ 1
          · exact absurd (what_or h5 h6) hp
          · exact Or.inr (Int32.not_le.mp h6)
      refine va_calli (lx_S C0 (cl_ok l G o ov ((wX G x0 x1 (nI mc) f ++ BA) ++ wM G m0 t0 t1 t2 t3 h0 h1 h2 h3 h4 h5 sl la (nI tn) ts ta tb key (nI n) nu st de su mk ++ BC) x0 _ rfl (nI j) v2 v3 (-1) ⟨rfl, rfl, Nat.le_of_ble_eq_true rfl, Nat.le_of_ble_eq_true rfl⟩ (cn_X3_litres l G x0 x1 mc f BA BC j m0 t0 t1 t2 t3 h0 h1 h2 h3 h4 h5 sl la tn ts ta tb key n nu st de su mk v2 v3 hmc hj hfj hn ht16 hp0 hp1)) rfl rfl ⟨Nat.le_of_ble_eq_true rfl, Nat.le_of_ble_eq_true rfl⟩ (WrP.preS (pL hP) hE (dL hD)) hl.1 hz) hS (fun q _ h => aL hD q h) (aL hD) (fun r1 u t H1 locs ht hvm hw hB hz1 hk1 hS => ?_)
      rw [ht] at hB
      obtain ⟨rfl, rfl⟩ := hw
      obtain ⟨hP, hD⟩ := jL (O' := [(o, .inl (kJ G, 1, .inr (.inl (vp_updL ov 0 (-1)))))]) (X' := ((wX G x0 x1 (nI mc) f ++ BA) ++ wM G m0 t0 t1 t2 t3 h0 h1 h2 h3 h4 h5 sl la (nI tn) ts ta tb key (nI n) nu st de su mk ++ BC)) hP hD hk1 hB rfl
      exact lt_3 C0 hE hL hi hz ⟨by omega, by omega⟩ kk hIV (by rw [xw_cut hBK]; exact hP) (by rw [xw_cut hBK]; exact hD) hS hl e1 e2 e3 rfl rfl ⟨Nat.le_of_ble_eq_true rfl, Nat.le_of_ble_eq_true rfl⟩ (cn_X4_litres l G k0 k1 k2 k3 k4 k5 k6 k7 k8 k9 k10 k11 k12 mc len thr ky ro ln kd nb sc wa sm ld lo lw tx j n tn v2 v3 hmc hj hn hMI.1.2.1 ht16 hMI.1.2.2.2.1 hpo) (Or.inl ⟨rfl, rfl, pk_uLs⟩)
