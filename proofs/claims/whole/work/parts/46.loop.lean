/-! THE LAW'S LOOP -/
theorem seven {L i : Nat} (hL : L ≤ 3584) (hi : i ≤ 3584) : nI L - 7 < nI i ↔ L < i + 7 := by
  rw [Int32.lt_iff_toInt_lt, show (7 : Int32) = nI 7 from rfl, pk_sub_toInt (by omega) (by decide), nI_toInt (by omega)]
  omega
set_option maxHeartbeats 4000000 in
set_option maxRecDepth 100000 in
theorem law_loop {p : Program} {l : Launch} {e : Env} {s : State} {m : MethodId} {below : List Frame} {meth : Method} {c : Code} {G : Gx} {b L : Nat} {xs : Nat → Int32} {sa : Nat} (C0 : lw_At p s m meth c b L xs) (hE : EV G s) (hT : TL sa s) (hfl : l.flags = pinnedFlags ++ [noTraceFlag]) (hL : L ≤ 3584) {x0 x1 o k0 k1 k2 k3 k4 k5 k6 k7 k8 k9 k10 k11 k12 : Nat} :
    ∀ (n i cells slots : Nat), L < i + 7 * n + 7 → i ≤ 3584 → cells + 11 * n ≤ room_1.cells → slots + 1063 * n ≤ room_1.slots → HEAD p l e s m below meth c G b i x0 x1 o k0 k1 k2 k3 k4 k5 k6 k7 k8 k9 k10 k11 k12 cells slots 23 := by
  obtain ⟨hx, hb, hr, hml, hown, hts0, hX, hbl, hlocks, hgv⟩ := id C0
  have hbA : ¬ (fun q : Nat => s.heap.size ≤ q) b := Nat.not_le.mpr hbl
  have hr1 : room_1.cells = 601024 := rfl
  have hr2 : room_1.slots = 7293034 := rfl
  intro n
  induction n with
  | zero =>
    intro i cells slots h1 h2 h3 h4 M mc f len thr ky ro ln kd nb sc wa sm ld lo lw tx ov H locs ls hIV hP hD hS hl
    refine lv_iload hx hb dL_law_23 (lv_at hl 0 rfl) ?_
    refine lv_aload_n hx hb dL_law_25 rfl (lv_at hl 4 rfl) ?_
    refine va_slen hx hb hX hbl hbA hS dL_law_26 ?_
    refine lv_bipush (v := 7) hx hb dL_law_27 (by decide) ?_
    refine lv_isub hx hb dL_law_29 ?_
    refine lv_icmp_gt (tgt := 974) hx hb dL_law_30 (by decide) (fun c0 => ?_) (fun c0 => absurd ((seven hL h2).mpr (by omega)) c0)
    refine lv_iconst (v := 1) hx hb dL_law_974 (by decide) ?_
    refine va_forget (fun q hq => hS.2.2 q hq) ?_
    refine W.widen (k := 601024) (n := 7293034) (by omega) (by omega) ?_
    exact lw_ret hx hb hr hlocks dL_law_975
  | succ n ih =>
    intro i cells slots h1 h2 h3 h4 M mc f len thr ky ro ln kd nb sc wa sm ld lo lw tx ov H locs ls hIV hP hD hS hl
    refine lv_iload hx hb dL_law_23 (lv_at hl 0 rfl) ?_
    refine lv_aload_n hx hb dL_law_25 rfl (lv_at hl 4 rfl) ?_
    refine va_slen hx hb hX hbl hbA hS dL_law_26 ?_
    refine lv_bipush (v := 7) hx hb dL_law_27 (by decide) ?_
    refine lv_isub hx hb dL_law_29 ?_
    refine lv_icmp_gt (tgt := 974) hx hb dL_law_30 (by decide) (fun c0 => ?_) (fun c0 => ?_)
    · refine lv_iconst (v := 1) hx hb dL_law_974 (by decide) ?_
      refine va_forget (fun q hq => hS.2.2 q hq) ?_
      refine W.widen (k := 601024) (n := 7293034) (by omega) (by omega) ?_
      exact lw_ret hx hb hr hlocks dL_law_975
    · have hi : i + 7 ≤ L := by
        rcases Nat.lt_or_ge L (i + 7) with q | q
        · exact absurd ((seven hL h2).mpr q) c0
        · exact q
      have hcs : cells + 11 ≤ room_1.cells ∧ slots + 1063 ≤ room_1.slots := ⟨by omega, by omega⟩
      have kk : HEAD p l e s m below meth c G b i x0 x1 o k0 k1 k2 k3 k4 k5 k6 k7 k8 k9 k10 k11 k12 (cells + 11) (slots + 1063) 968 := by
        intro M mc f len thr ky ro ln kd nb sc wa sm ld lo lw tx ov H locs ls hIV hP hD hS hl
        refine lv_iinc (v := nI (i + 7)) (lv' := [(4, .int (nI (i + 7))), (3, .ref o), (2, .ref k0), (1, .ref x0), (0, .ref b)]) hx hb dL_law_968 hl (k := 0) rfl (show nI i + 7 = nI (i + 7) from nI_add i 7) (by decide) rfl (fun ls hl => ?_)
        refine lv_goto (tgt := 23) hx hb dL_law_971 (by decide) ?_
        exact ih (i + 7) (cells + 11) (slots + 1063) (by omega) (by omega) (by omega) (by omega) M mc f len thr ky ro ln kd nb sc wa sm ld lo lw tx ov H locs ls hIV hP hD hS hl
      refine lv_aload_n hx hb dL_law_33 rfl (lv_at hl 4 rfl) ?_
      refine lv_iload hx hb dL_law_34 (lv_at hl 0 rfl) ?_
      refine va_sld hx hb hX hbl hbA hS (vp_in_nI (n := i) (by omega) (by omega)) dL_law_36 ?_
      refine lv_bipush (v := 15) hx hb dL_law_37 (by decide) ?_
      refine lv_iand hx hb dL_law_39 ?_
      obtain ⟨q, hq, eq⟩ := pk_andE (xs (nI i).toNatClampNeg) (m := 15) 4 rfl
      rw [eq]
      rcases (show q = 0 ∨ q = 1 ∨ q = 2 ∨ q = 3 ∨ q = 4 ∨ q = 5 ∨ q = 6 ∨ q = 7 ∨ q = 8 ∨ q = 9 ∨ q = 10 ∨ q = 11 ∨ q = 12 ∨ q = 13 ∨ q = 14 ∨ q = 15 by omega) with rfl | rfl | rfl | rfl | rfl | rfl | rfl | rfl | rfl | rfl | rfl | rfl | rfl | rfl | rfl | rfl
      · refine lv_tableIn (off := 68) (tgt := 108) hx hb dL_law_40 (by decide) (by decide) rfl (by decide) ?_
        exact lc_0 C0 hE hT hfl hL hi hcs kk M mc f len thr ky ro ln kd nb sc wa sm ld lo lw tx ov H locs ls hIV hP hD hS hl
      · refine lv_tableIn (off := 125) (tgt := 165) hx hb dL_law_40 (by decide) (by decide) rfl (by decide) ?_
        exact lc_1 C0 hE hT hfl hL hi hcs kk M mc f len thr ky ro ln kd nb sc wa sm ld lo lw tx ov H locs ls hIV hP hD hS hl
      · refine lv_tableIn (off := 252) (tgt := 292) hx hb dL_law_40 (by decide) (by decide) rfl (by decide) ?_
        exact lc_2 C0 hE hT hfl hL hi hcs kk M mc f len thr ky ro ln kd nb sc wa sm ld lo lw tx ov H locs ls hIV hP hD hS hl
      · refine lv_tableIn (off := 379) (tgt := 419) hx hb dL_law_40 (by decide) (by decide) rfl (by decide) ?_
        exact lc_3 C0 hE hT hfl hL hi hcs kk M mc f len thr ky ro ln kd nb sc wa sm ld lo lw tx ov H locs ls hIV hP hD hS hl
      · refine lv_tableIn (off := 458) (tgt := 498) hx hb dL_law_40 (by decide) (by decide) rfl (by decide) ?_
        exact lc_4 C0 hE hT hfl hL hi hcs kk M mc f len thr ky ro ln kd nb sc wa sm ld lo lw tx ov H locs ls hIV hP hD hS hl
      · refine lv_tableIn (off := 483) (tgt := 523) hx hb dL_law_40 (by decide) (by decide) rfl (by decide) ?_
        exact lc_5 C0 hE hT hfl hL hi hcs kk M mc f len thr ky ro ln kd nb sc wa sm ld lo lw tx ov H locs ls hIV hP hD hS hl
      · refine lv_tableIn (off := 520) (tgt := 560) hx hb dL_law_40 (by decide) (by decide) rfl (by decide) ?_
        exact lc_6 C0 hE hT hfl hL hi hcs kk M mc f len thr ky ro ln kd nb sc wa sm ld lo lw tx ov H locs ls hIV hP hD hS hl
      · refine lv_tableIn (off := 601) (tgt := 641) hx hb dL_law_40 (by decide) (by decide) rfl (by decide) ?_
        exact lc_7 C0 hE hT hfl hL hi hcs kk M mc f len thr ky ro ln kd nb sc wa sm ld lo lw tx ov H locs ls hIV hP hD hS hl
      · refine lv_tableIn (off := 666) (tgt := 706) hx hb dL_law_40 (by decide) (by decide) rfl (by decide) ?_
        exact lc_8 C0 hE hT hfl hL hi hcs kk M mc f len thr ky ro ln kd nb sc wa sm ld lo lw tx ov H locs ls hIV hP hD hS hl
      · refine lv_tableIn (off := 703) (tgt := 743) hx hb dL_law_40 (by decide) (by decide) rfl (by decide) ?_
        exact lc_9 C0 hE hT hfl hL hi hcs kk M mc f len thr ky ro ln kd nb sc wa sm ld lo lw tx ov H locs ls hIV hP hD hS hl
      · refine lv_tableIn (off := 752) (tgt := 792) hx hb dL_law_40 (by decide) (by decide) rfl (by decide) ?_
        exact lc_10 C0 hE hT hfl hL hi hcs kk M mc f len thr ky ro ln kd nb sc wa sm ld lo lw tx ov H locs ls hIV hP hD hS hl
      · refine lv_tableIn (off := 822) (tgt := 862) hx hb dL_law_40 (by decide) (by decide) rfl (by decide) ?_
        exact lc_11 C0 hE hT hfl hL hi hcs kk M mc f len thr ky ro ln kd nb sc wa sm ld lo lw tx ov H locs ls hIV hP hD hS hl
      · refine lv_tableIn (off := 891) (tgt := 931) hx hb dL_law_40 (by decide) (by decide) rfl (by decide) ?_
        exact lc_12 C0 hE hT hfl hL hi hcs kk M mc f len thr ky ro ln kd nb sc wa sm ld lo lw tx ov H locs ls hIV hP hD hS hl
      · refine lv_tableOut (tgt := 968) hx hb dL_law_40 (by decide) (by decide) ?_
        refine W.widen (k := cells + 11) (n := slots + 1063) (by omega) (by omega) ?_
        exact kk M mc f len thr ky ro ln kd nb sc wa sm ld lo lw tx ov H locs ls hIV hP hD hS hl
      · refine lv_tableOut (tgt := 968) hx hb dL_law_40 (by decide) (by decide) ?_
        refine W.widen (k := cells + 11) (n := slots + 1063) (by omega) (by omega) ?_
        exact kk M mc f len thr ky ro ln kd nb sc wa sm ld lo lw tx ov H locs ls hIV hP hD hS hl
      · refine lv_tableOut (tgt := 968) hx hb dL_law_40 (by decide) (by decide) ?_
        refine W.widen (k := cells + 11) (n := slots + 1063) (by omega) (by omega) ?_
        exact kk M mc f len thr ky ro ln kd nb sc wa sm ld lo lw tx ov H locs ls hIV hP hD hS hl
