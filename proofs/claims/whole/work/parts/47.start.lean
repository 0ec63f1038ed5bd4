/-! THE LAW'S START -/
set_option maxHeartbeats 4000000 in
set_option maxRecDepth 100000 in
theorem env_of {s : State} {args : Array Value} (hts : ∀ w ∈ lw_tbl, w.before args s = true) : ∃ G : Gx, EV G s := by
  obtain ⟨c0, i0, hk0⟩ := u_known (C := RJx00060) (T := TJx00060) (N := 6) (n := 6) hts inJx00060 (hts (.instantiable RJx00060 6) (by decide +kernel))
  obtain ⟨c1, i1, hk1⟩ := u_known (C := RX0) (T := TX0) (N := 4) (n := 4) hts inX0 (hts (.instantiable RX0 4) (by decide +kernel))
  obtain ⟨c2, i2, hk2⟩ := u_known (C := RX1) (T := TX1) (N := 7) (n := 7) hts inX1 (hts (.instantiable RX1 7) (by decide +kernel))
  obtain ⟨c3, i3, hk3⟩ := u_known (C := RX2) (T := TX2) (N := 4) (n := 4) hts inX2 (hts (.instantiable RX2 4) (by decide +kernel))
  obtain ⟨c4, i4, hk4⟩ := u_known (C := RX3) (T := TX3) (N := 2) (n := 2) hts inX3 (hts (.instantiable RX3 2) (by decide +kernel))
  obtain ⟨c5, i5, hk5⟩ := u_known (C := RX4) (T := TX4) (N := 15) (n := 15) hts inX4 (hts (.instantiable RX4 15) (by decide +kernel))
  obtain ⟨aI, bI, dI, fI, gI, hI⟩ := Cond.arrayClass_spec (hts (.arrayClass .int) (by decide +kernel))
  obtain ⟨aJ, bJ, dJ, fJ, gJ, hJ⟩ := Cond.arrayClass_spec (hts (.arrayClass .long) (by decide +kernel))
  obtain ⟨aZ, bZ, dZ, fZ, gZ, hZ⟩ := Cond.arrayClass_spec (hts (.arrayClass .boolean) (by decide +kernel))
  obtain ⟨dM, aM, bM, f1, -, f2, f3, f4⟩ := Cond.arrayOver_spec (n := RX0) (hts (.arrayOver (.object RX0)) (by decide +kernel))
  refine ⟨((fun k => if k = 0 then c0 else if k = 1 then c1 else if k = 2 then c2 else if k = 3 then c3 else if k = 4 then c4 else c5, fun k => if k = 0 then i0 else if k = 1 then i1 else if k = 2 then i2 else if k = 3 then i3 else if k = 4 then i4 else i5), (aI, aJ, aZ, aM)), ⟨?_, ?_⟩, ?_, ?_⟩
  · intro k q hq
    match k, hq with
    | 0, hq => cases hq; exact hk0
    | 1, hq => cases hq; exact hk1
    | 2, hq => cases hq; exact hk2
    | 3, hq => cases hq; exact hk3
    | 4, hq => cases hq; exact hk4
    | 5, hq => cases hq; exact hk5
    | k + 6, hq => simp at hq
  · intro k q hq
    match k, hq with
    | 0, hq => cases hq; exact ⟨fun N z => ⟨fun k h => (by cases h), bI, gI, dI, hI⟩, fI⟩
    | 1, hq => cases hq; exact ⟨fun N z => ⟨fun k h => (by cases h), bJ, gJ, dJ, hJ⟩, fJ⟩
    | 2, hq => cases hq; exact ⟨fun N z => ⟨fun k h => (by cases h), bZ, gZ, dZ, hZ⟩, fZ⟩
    | 3, hq => cases hq; exact ⟨fun N z => ⟨fun k h => (by cases h), bM, f2, dM, f3⟩, bM, dM, f2, f3, f1, f4⟩
    | k + 4, hq => simp at hq
  · exact ⟨⟨va_Nw.of rfl (hts nF0 (by decide +kernel)), va_Nw.of rfl (hts nF1 (by decide +kernel)), va_Nw.of rfl (hts nF2 (by decide +kernel)), va_Nw.of rfl (hts nF3 (by decide +kernel)), va_Nw.of rfl (hts nF4 (by decide +kernel))⟩, va_Nw.of rfl (hts nM0 (by decide +kernel)), va_Nw.of rfl (hts nM1 (by decide +kernel)), va_Nw.of rfl (hts nM2 (by decide +kernel)), va_Nw.of rfl (hts nM3 (by decide +kernel)), va_Nw.of rfl (hts nM4 (by decide +kernel)), va_Nw.of rfl (hts nM5 (by decide +kernel)), va_Nw.of rfl (hts nM6 (by decide +kernel))⟩
  · exact va_AO.of (hts (.arrayOver (.object RX0)) (by decide +kernel))
set_option maxHeartbeats 4000000 in
set_option maxRecDepth 100000 in
theorem tl_of {s : State} {args : Array Value} (hts : ∀ w ∈ lw_tbl, w.before args s = true) (hgv : (Jvm.Cond.and given_1 narrow_1).before args s = true) : ∃ sa : Nat, TL sa s := by
  have hs := flat_of_before _ hgv
  obtain ⟨a, c, cA, kA, q1, q2, q3, q4, q5, q6, -⟩ := Cond.exactly_spec (args := args) (first := s) (o := none) (s := s) (idx := []) (t := .string RX3 54) (cls := "java/lang/String") (hs (.exactly (.string RX3 54) "java/lang/String") (by decide +kernel))
  refine ⟨a, ⟨fun w hw => va_Nw.of (List.all_eq_true.mp thW_tab w hw) (hts w (thW_in w hw)), vk_R.of (hts (.stringRef RX3 54 "no such row") (by decide +kernel)) q1, ?_, ?_, LaS.of (hts yU (by decide +kernel)), LaS.of (hts yS (by decide +kernel))⟩, va_Nw.of rfl (hts nC0 (by decide +kernel)), va_Nw.of rfl (hts nC1 (by decide +kernel))⟩
  · exact va_Zqof (hts yU (by decide +kernel)) (hts (.initialized "java/lang/Throwable") (by decide +kernel)) (hs zU (by decide +kernel)) (fun _ _ h => h)
  · exact va_Zqof (hts yS (by decide +kernel)) (hts (.initialized "java/lang/Throwable") (by decide +kernel)) (hs zS (by decide +kernel)) (fun _ _ h => h)
set_option maxHeartbeats 4000000 in
set_option maxRecDepth 100000 in
/-- from the entry, for every script of at most 3584 ints, the law comes to its end with true -/
theorem whole_start {p : Program} {e : Env} {s : State} {m : MethodId} {below : List Frame} {meth : Method} {c : Code} (l : Launch) (hfl : l.flags = pinnedFlags ++ [noTraceFlag]) {b L : Nat} {xs : Nat → Int32} (hL : L ≤ 3584) (C0 : lw_At p s m meth c b L xs) : W p l e room_1 s m #[Value.ref b] below meth c s.heap [] 0 0 (lw_Z below #[Value.ref b] s) (entryFrame m ([Value.ref b] : List Value).toArray 8) := by
  obtain ⟨hx, hb, hr, hml, hown, hts0, hX, hbl, hlocks, hgv⟩ := id C0
  have hts : ∀ w ∈ wsL_law, w.before #[Value.ref b] s = true := fun w h => hts0 w (wsL_law_in w h)
  obtain ⟨G, hE⟩ := env_of hts0
  obtain ⟨sa, hT⟩ := tl_of hts0 hgv
  have hA : ∀ q : Nat, s.heap.size ≤ q → (fun q : Nat => s.heap.size ≤ q) q := fun _ h => h
  have hS : va_S (fun q : Nat => s.heap.size ≤ q) s.heap s.heap [] := va_S.rf
  have hP : va_P G.1 vwCl [] s.heap := fun k q h => by simp at h
  have hD : va_D (fun q : Nat => s.heap.size ≤ q) [] := ⟨fun i j p q h => by simp at h, fun k q h => by simp at h⟩
  have hl := lv_entry ([.ref b]) (n := 8) (Nat.le_of_ble_eq_true rfl)
  rw [lg_entry_eq]
  generalize (lg_sl ([.ref b]) ++ List.replicate (8 - (lg_sl ([.ref b])).length) Slot.unset).toArray = ls at hl ⊢
  replace hl : lv_has ls 8 [(0, .ref b)] := hl
  refine va_new (D := G.1) (ci := 4) (fs := [.null, .int 0]) (C := RX3) (T := TX3) (N := 2) hx hb hts inlX3 tyX3 tyX3_ok hown (hts (.classLink RL 8 RX3) (by decide +kernel)) (hts (.instantiable RX3 2) (by decide +kernel)) (hts (.initialized RX3) (by decide +kernel)) hE.1 hP hD hS hA rfl (fun j hj => by rcases (show j = 0 ∨ j = 1 by omega) with rfl | rfl <;> rfl) (Nat.le_of_ble_eq_true rfl) (Nat.le_of_ble_eq_true rfl) dL_law_0 (fun x0 H hP hD hS => ?_)
  replace hP : va_P G.1 vwCl ([] ++ [(x0, .inr (4, [.null, .int 0]))]) H := hP
  replace hD : va_D (fun q : Nat => s.heap.size ≤ q) ([] ++ [(x0, .inr (4, [.null, .int 0]))]) := hD
  refine lv_dup hx hb dL_law_3 rfl ?_
  have hFc := x_freeN [] [(x0, .inr (4, [.null, .int 0]))] hD hS hA
  refine va_callv (va_runI (As := []) (rest := [.ref x0]) ⟨hx, hb, hml, hown, hts⟩ (ct_X3_init l G H.size x0) (cwI 0 hts gL_law_X3_init rfl rfl rfl (hts (.initialized RX3) (by decide +kernel)) (hts (.methodLink RL 15 yX3_init) (by decide +kernel)) (hts (.instanceMethod yX3_init) (by decide +kernel)) rfl (by decide +kernel) ⟨Nat.le_of_ble_eq_true rfl, Nat.le_of_ble_eq_true rfl⟩) (NwP.preS (x_last [] [(x0, .inr (4, [.null, .int 0]))] hP) hE (x_lastD [] [(x0, .inr (4, [.null, .int 0]))] hD)) rfl rfl hl.1 rfl (lv_room (Nat.le_of_ble_eq_true rfl)) dL_law_4 ⟨Nat.le_of_ble_eq_true rfl, Nat.le_of_ble_eq_true rfl⟩) hS (fun q _ h => hFc q h) hFc (fun u t H1 locs ht hvm hw hB hz1 hk1 hS => ?_)
  obtain ⟨x1, rfl⟩ := hw
  obtain ⟨hP1, hD1⟩ := hB
  rw [ht] at hP1
  obtain ⟨hP, hD⟩ := x_joinN [] [(x0, .inr (4, [.null, .int 0]))] [(x0, .inr (4, [.ref x1, .int 0])), (x1, .inl (kM G, 8, .inr (.inr (.inr (.inr (fun _ => none))))))] hP hD hk1 hFc hP1 hD1
  generalize H1 = H at hP hS ⊢
  replace hP : va_P G.1 vwCl [(x0, .inr (4, [.ref x1, .int 0])), (x1, .inl (kM G, 8, .inr (.inr (.inr (.inr (fun _ => none))))))] H := hP
  replace hD : va_D (fun q : Nat => s.heap.size ≤ q) [(x0, .inr (4, [.ref x1, .int 0])), (x1, .inl (kM G, 8, .inr (.inr (.inr (.inr (fun _ => none))))))] := hD
  refine lv_astore_n (lv' := [(1, .ref x0), (0, .ref b)]) hx hb dL_law_7 rfl hl (by decide) rfl (fun ls hl => ?_)
  refine va_new (D := G.1) (ci := 5) (fs := [.null, .null, .null, .int 0, .null, .null, .null, .null, .null, .null, .null, .null, .null, .int 0, .int 0]) (C := RX4) (T := TX4) (N := 15) hx hb hts inlX4 tyX4 tyX4_ok hown (hts (.classLink RL 16 RX4) (by decide +kernel)) (hts (.instantiable RX4 15) (by decide +kernel)) (hts (.initialized RX4) (by decide +kernel)) hE.1 hP hD hS hA rfl (fun j hj => by rcases (show j = 0 ∨ j = 1 ∨ j = 2 ∨ j = 3 ∨ j = 4 ∨ j = 5 ∨ j = 6 ∨ j = 7 ∨ j = 8 ∨ j = 9 ∨ j = 10 ∨ j = 11 ∨ j = 12 ∨ j = 13 ∨ j = 14 by omega) with rfl | rfl | rfl | rfl | rfl | rfl | rfl | rfl | rfl | rfl | rfl | rfl | rfl | rfl | rfl <;> rfl) (Nat.le_of_ble_eq_true rfl) (Nat.le_of_ble_eq_true rfl) dL_law_8 (fun k0 H hP hD hS => ?_)
  replace hP : va_P G.1 vwCl ([(x0, .inr (4, [.ref x1, .int 0])), (x1, .inl (kM G, 8, .inr (.inr (.inr (.inr (fun _ => none))))))] ++ [(k0, .inr (5, [.null, .null, .null, .int 0, .null, .null, .null, .null, .null, .null, .null, .null, .null, .int 0, .int 0]))]) H := hP
  replace hD : va_D (fun q : Nat => s.heap.size ≤ q) ([(x0, .inr (4, [.ref x1, .int 0])), (x1, .inl (kM G, 8, .inr (.inr (.inr (.inr (fun _ => none))))))] ++ [(k0, .inr (5, [.null, .null, .null, .int 0, .null, .null, .null, .null, .null, .null, .null, .null, .null, .int 0, .int 0]))]) := hD
  refine lv_dup hx hb dL_law_11 rfl ?_
  have hFc := x_freeN [(x0, .inr (4, [.ref x1, .int 0])), (x1, .inl (kM G, 8, .inr (.inr (.inr (.inr (fun _ => none))))))] [(k0, .inr (5, [.null, .null, .null, .int 0, .null, .null, .null, .null, .null, .null, .null, .null, .null, .int 0, .int 0]))] hD hS hA
  refine va_callv (va_runI (As := []) (rest := [.ref k0]) ⟨hx, hb, hml, hown, hts⟩ (ct_X4_init l G H.size k0) (cwI 0 hts gL_law_X4_init rfl rfl rfl (hts (.initialized RX4) (by decide +kernel)) (hts (.methodLink RL 18 yX4_init) (by decide +kernel)) (hts (.instanceMethod yX4_init) (by decide +kernel)) rfl (by decide +kernel) ⟨Nat.le_of_ble_eq_true rfl, Nat.le_of_ble_eq_true rfl⟩) (NwP.preS (x_last [(x0, .inr (4, [.ref x1, .int 0])), (x1, .inl (kM G, 8, .inr (.inr (.inr (.inr (fun _ => none))))))] [(k0, .inr (5, [.null, .null, .null, .int 0, .null, .null, .null, .null, .null, .null, .null, .null, .null, .int 0, .int 0]))] hP) hE (x_lastD [(x0, .inr (4, [.ref x1, .int 0])), (x1, .inl (kM G, 8, .inr (.inr (.inr (.inr (fun _ => none))))))] [(k0, .inr (5, [.null, .null, .null, .int 0, .null, .null, .null, .null, .null, .null, .null, .null, .null, .int 0, .int 0]))] hD)) rfl rfl hl.1 rfl (lv_room (Nat.le_of_ble_eq_true rfl)) dL_law_12 ⟨Nat.le_of_ble_eq_true rfl, Nat.le_of_ble_eq_true rfl⟩) hS (fun q _ h => hFc q h) hFc (fun u t H1 locs ht hvm hw hB hz1 hk1 hS => ?_)
  obtain ⟨k1, k2, k3, k4, k5, k6, k7, k8, k9, k10, k11, k12, rfl⟩ := hw
  obtain ⟨hP1, hD1⟩ := hB
  rw [ht] at hP1
  obtain ⟨hP, hD⟩ := x_joinN [(x0, .inr (4, [.ref x1, .int 0])), (x1, .inl (kM G, 8, .inr (.inr (.inr (.inr (fun _ => none))))))] [(k0, .inr (5, [.null, .null, .null, .int 0, .null, .null, .null, .null, .null, .null, .null, .null, .null, .int 0, .int 0]))] (wK G k0 k1 k2 k3 k4 k5 k6 k7 k8 k9 k10 k11 k12 0 0 0 (fun _ => 0) (fun _ => 0) (fun _ => 0) (fun _ => 0) (fun _ => 0) (fun _ => 0) (fun _ => 0) (fun _ => 0) (fun _ => 0) (fun _ => 0) (fun _ => 0) (fun _ => 0)) hP hD hk1 hFc hP1 hD1
  generalize H1 = H at hP hS ⊢
  refine lv_astore_n (lv' := [(2, .ref k0), (1, .ref x0), (0, .ref b)]) hx hb dL_law_15 rfl hl (by decide) rfl (fun ls hl => ?_)
  refine lv_iconst (v := 1) hx hb dL_law_16 (by decide) ?_
  refine x_newJ hx hb (hts (.arrayClass .long) (by decide +kernel)) hE hP hD hS hA (n := 1) (N := 1) (by decide) rfl (by decide) (Nat.le_of_ble_eq_true rfl) (Nat.le_of_ble_eq_true rfl) dL_law_17 (fun o H hP hD hS => ?_)
  refine lv_astore_n (lv' := [(3, .ref o), (2, .ref k0), (1, .ref x0), (0, .ref b)]) hx hb dL_law_19 rfl hl (by decide) rfl (fun ls hl => ?_)
  refine lv_iconst (v := 0) hx hb dL_law_20 (by decide) ?_
  refine lv_istore (lv' := [(4, .int 0), (3, .ref o), (2, .ref k0), (1, .ref x0), (0, .ref b)]) hx hb dL_law_21 hl (by decide) rfl (fun ls hl => ?_)
  have hP2 := hP.sub (ws' := (wK G k0 k1 k2 k3 k4 k5 k6 k7 k8 k9 k10 k11 k12 (nI 0) 0 0 (fun _ => 0) (fun _ => 0) (fun _ => 0) (fun _ => 0) (fun _ => 0) (fun _ => 0) (fun _ => 0) (fun _ => 0) (fun _ => 0) (fun _ => 0) (fun _ => 0) (fun _ => 0) ++ [(o, .inl (kJ G, 1, .inr (.inl (fun _ => 0))))] ++ (wX G x0 x1 (nI 0) (fun _ => none) ++ blks G []))) [2, 3, 4, 5, 6, 7, 8, 9, 10, 11, 12, 13, 14, 15, 0, 1] rfl
  have hD2 := hD.sub (ws' := (wK G k0 k1 k2 k3 k4 k5 k6 k7 k8 k9 k10 k11 k12 (nI 0) 0 0 (fun _ => 0) (fun _ => 0) (fun _ => 0) (fun _ => 0) (fun _ => 0) (fun _ => 0) (fun _ => 0) (fun _ => 0) (fun _ => 0) (fun _ => 0) (fun _ => 0) (fun _ => 0) ++ [(o, .inl (kJ G, 1, .inr (.inl (fun _ => 0))))] ++ (wX G x0 x1 (nI 0) (fun _ => none) ++ blks G []))) [2, 3, 4, 5, 6, 7, 8, 9, 10, 11, 12, 13, 14, 15, 0, 1] (by decide) rfl
  refine W.widen (k := 16) (n := 8514) (Nat.le_of_ble_eq_true rfl) (Nat.le_of_ble_eq_true rfl) ?_
  exact law_loop C0 hE hT hfl hL 512 0 16 8514 (by omega) (by omega) (Nat.le_of_ble_eq_true rfl) (Nat.le_of_ble_eq_true rfl) [] 0 (fun _ => none) 0 0 (fun _ => 0) (fun _ => 0) (fun _ => 0) (fun _ => 0) (fun _ => 0) (fun _ => 0) (fun _ => 0) (fun _ => 0) (fun _ => 0) (fun _ => 0) (fun _ => 0) (fun _ => 0) (fun _ => 0) H locs ls ⟨⟨rfl, by omega⟩, fun j x h => by simp at h, fun j _ => ⟨rfl, rfl⟩⟩ hP2 hD2 hS hl
