set_option maxHeartbeats 4000000 in
set_option maxRecDepth 100000 in
/-- put -/
theorem ct_X4_put (l : Launch) (G : Gx) (k0 k1 k2 k3 k4 k5 k6 k7 k8 k9 k10 k11 k12 : Nat) (mc : Nat) (a : Nat) (thr : Int32) (ky : Nat → Int64) (ro ln kd : Nat → Int32) (nb sc : Nat → Int64) (wa : Nat → Int32) (sm : Nat → Int64) (ld : Nat → Int32) (lo lw : Nat → Int64) (tx : Nat → Int32) (cv : Int32) (ha : a < 80) : Met l yX4_put wsX4_put ({ frames := 0, cells := 0, slots := 0, locals := 0 }) (WrP G (wK G k0 k1 k2 k3 k4 k5 k6 k7 k8 k9 k10 k11 k12 (nI mc) (nI a) thr ky ro ln kd nb sc wa sm ld lo lw tx) [.ref k0, .int cv]) (va_Qv (fun (u : va_W) => u = wK G k0 k1 k2 k3 k4 k5 k6 k7 k8 k9 k10 k11 k12 (nI mc) (nI (a + 1)) thr ky ro ln kd nb sc wa sm ld lo lw (upd tx a cv)) (fun u t => va_P G.1 vwCl u t.heap) (adr (wK G k0 k1 k2 k3 k4 k5 k6 k7 k8 k9 k10 k11 k12 (nI mc) (nI a) thr ky ro ln kd nb sc wa sm ld lo lw tx))) 0 0 (adr (wK G k0 k1 k2 k3 k4 k5 k6 k7 k8 k9 k10 k11 k12 (nI mc) (nI a) thr ky ro ln kd nb sc wa sm ld lo lw tx)) := by
  refine Met.ofW (cc := cX4_put) (maxL := 2) (ret := none) (by decide) rfl ?_
  intro p e s m args below meth c s₁ B hml hv
  obtain ⟨rfl, hP, hE, hD0⟩ := hv
  have hx := B.exec
  have hb := B.bytes
  have hr := B.returns
  have hts := atoms_spec (ws := wsX4_put) B.pre
  have hown : s.vm.findClass RX4 = some m.cls := findClass_of_methodNamed B.named
  have hlocks := B.notSynchronized
  have hD : va_D (adr (wK G k0 k1 k2 k3 k4 k5 k6 k7 k8 k9 k10 k11 k12 (nI mc) (nI a) thr ky ro ln kd nb sc wa sm ld lo lw tx)) (wK G k0 k1 k2 k3 k4 k5 k6 k7 k8 k9 k10 k11 k12 (nI mc) (nI a) thr ky ro ln kd nb sc wa sm ld lo lw tx) := ⟨hD0.1, fun k q hk => ⟨k, q.2, hk⟩⟩
  generalize adr (wK G k0 k1 k2 k3 k4 k5 k6 k7 k8 k9 k10 k11 k12 (nI mc) (nI a) thr ky ro ln kd nb sc wa sm ld lo lw tx) = A at hD ⊢
  have hS : va_S A s.heap s.heap [] := va_S.rf
  have hiX4 : ∀ w ∈ wsX40, w ∈ wsX4_put := by decide +kernel
  have hl := lv_entry ([.ref k0, .int cv]) (n := 2) (Nat.le_of_ble_eq_true rfl)
  rw [lg_entry_eq]
  generalize (lg_sl ([.ref k0, .int cv]) ++ List.replicate (2 - (lg_sl ([.ref k0, .int cv])).length) Slot.unset).toArray = ls at hl ⊢
  replace hl : lv_has ls 2 [(0, .ref k0), (1, .int cv)] := hl
  refine lv_aload_n hx hb dX4_put_0 rfl (lv_at hl 0 rfl) ?_
  refine va_get (D := G.1) (ci := 5) (v := .ref k12) (C := RX4) (T := TX4) (N := 15) hx hb hts hiX4 hown hE.1 hP 0 rfl rfl 12 (by decide) (hts (.fieldLink RX4 44 "MeterSealsModel" "text" "[I") (by decide +kernel)) (fun _ h9 => h9) rfl dX4_put_1 ?_
  refine lv_aload_n hx hb dX4_put_4 rfl (lv_at hl 0 rfl) ?_
  refine va_get (D := G.1) (ci := 5) (v := .int (nI a)) (C := RX4) (T := TX4) (N := 15) hx hb hts hiX4 hown hE.1 hP 0 rfl rfl 13 (by decide) (hts (.fieldLink RX4 115 "MeterSealsModel" "length" "I") (by decide +kernel)) (fun _ h9 => h9) rfl dX4_put_5 ?_
  refine lv_iload_n hx hb dX4_put_8 rfl (lv_at hl 1 rfl) ?_
  refine va_iast hx hb hE.1 hP hD hS 12 0 rfl rfl (vp_in_nI (show a < 80 by omega) (by decide)) dX4_put_9 (fun H locs hP hD hS => ?_)
  rw [nI_clamp (n := a) (by omega)] at hP hD
  replace hP : va_P G.1 vwCl (wK G k0 k1 k2 k3 k4 k5 k6 k7 k8 k9 k10 k11 k12 (nI mc) (nI a) thr ky ro ln kd nb sc wa sm ld lo lw (upd tx a cv)) H := hP
  replace hD : va_D A (wK G k0 k1 k2 k3 k4 k5 k6 k7 k8 k9 k10 k11 k12 (nI mc) (nI a) thr ky ro ln kd nb sc wa sm ld lo lw (upd tx a cv)) := hD
  refine lv_aload_n hx hb dX4_put_10 rfl (lv_at hl 0 rfl) ?_
  refine lv_dup hx hb dX4_put_11 rfl ?_
  refine va_get (D := G.1) (ci := 5) (v := .int (nI a)) (C := RX4) (T := TX4) (N := 15) hx hb hts hiX4 hown hE.1 hP 0 rfl rfl 13 (by decide) (hts (.fieldLink RX4 115 "MeterSealsModel" "length" "I") (by decide +kernel)) (fun _ h9 => h9) rfl dX4_put_12 ?_
  refine lv_iconst (v := 1) hx hb dX4_put_15 (by decide) ?_
  refine lv_iadd hx hb dX4_put_16 ?_
  rw [nI_1 a]
  refine va_put (D := G.1) (ci := 5) (v := .int (nI (a + 1))) (ty := .int) (C := RX4) (T := TX4) (N := 15) hx hb hts hiX4 tyX4 tyX4_ok nmX4 hown hE.1 hP hD hS 0 rfl rfl 13 (by decide) (hts (.fieldLink RX4 115 "MeterSealsModel" "length" "I") (by decide +kernel)) (fun _ h9 => h9) rfl (by decide +kernel) rfl rfl (Nat.le_of_ble_eq_true rfl) dX4_put_17 (fun H locs hP hD hS => ?_)
  replace hP : va_P G.1 vwCl (wK G k0 k1 k2 k3 k4 k5 k6 k7 k8 k9 k10 k11 k12 (nI mc) (nI (a + 1)) thr ky ro ln kd nb sc wa sm ld lo lw (upd tx a cv)) H := hP
  replace hD : va_D A (wK G k0 k1 k2 k3 k4 k5 k6 k7 k8 k9 k10 k11 k12 (nI mc) (nI (a + 1)) thr ky ro ln kd nb sc wa sm ld lo lw (upd tx a cv)) := hD
  exact W.vret hx hb hr (fun tZ hZ hW => ⟨⟨wK G k0 k1 k2 k3 k4 k5 k6 k7 k8 k9 k10 k11 k12 (nI mc) (nI (a + 1)) thr ky ro ln kd nb sc wa sm ld lo lw (upd tx a cv), rfl, rfl, by show va_P _ _ _ tZ.heap; rw [hZ]; exact hP⟩, hS.F hZ⟩) hS.2.2 dX4_put_20

set_option maxHeartbeats 4000000 in
set_option maxRecDepth 100000 in
/-- say -/
theorem ct_X4_say (l : Launch) (G : Gx) (k0 k1 k2 k3 k4 k5 k6 k7 k8 k9 k10 k11 k12 : Nat) (mc : Nat) (a : Nat) (thr : Int32) (ky : Nat → Int64) (ro ln kd : Nat → Int32) (nb sc : Nat → Int64) (wa : Nat → Int32) (sm : Nat → Int64) (ld : Nat → Int32) (lo lw : Nat → Int64) (tx : Nat → Int32) (v : Int64) (hv18 : ab v < 10 ^ 18) (hroom0 : a + ((txt v).length + 1) ≤ 80) : Met l yX4_say wsX4_say ({ frames := 1, cells := 0, slots := 0, locals := 21 }) (WrP G (wK G k0 k1 k2 k3 k4 k5 k6 k7 k8 k9 k10 k11 k12 (nI mc) (nI a) thr ky ro ln kd nb sc wa sm ld lo lw tx) [.ref k0, .long v]) (va_Qv (fun (u : va_W) => ∃ (b : Nat) (ty : Nat → Int32), b = a + ((txt v).length + 1) ∧ u = wK G k0 k1 k2 k3 k4 k5 k6 k7 k8 k9 k10 k11 k12 (nI mc) (nI b) thr ky ro ln kd nb sc wa sm ld lo lw ty ∧ wrote tx ty a (32 :: txt v)) (fun u t => va_P G.1 vwCl u t.heap) (adr (wK G k0 k1 k2 k3 k4 k5 k6 k7 k8 k9 k10 k11 k12 (nI mc) (nI a) thr ky ro ln kd nb sc wa sm ld lo lw tx))) 0 0 (adr (wK G k0 k1 k2 k3 k4 k5 k6 k7 k8 k9 k10 k11 k12 (nI mc) (nI a) thr ky ro ln kd nb sc wa sm ld lo lw tx)) := by
  refine Met.ofW (cc := cX4_say) (maxL := 7) (ret := none) (by decide) rfl ?_
  intro p e s m args below meth c s₁ B hml hv
  obtain ⟨rfl, hP, hE, hD0⟩ := hv
  have hx := B.exec
  have hb := B.bytes
  have hr := B.returns
  have hts := atoms_spec (ws := wsX4_say) B.pre
  have hown : s.vm.findClass RX4 = some m.cls := findClass_of_methodNamed B.named
  have hlocks := B.notSynchronized
  have hD : va_D (adr (wK G k0 k1 k2 k3 k4 k5 k6 k7 k8 k9 k10 k11 k12 (nI mc) (nI a) thr ky ro ln kd nb sc wa sm ld lo lw tx)) (wK G k0 k1 k2 k3 k4 k5 k6 k7 k8 k9 k10 k11 k12 (nI mc) (nI a) thr ky ro ln kd nb sc wa sm ld lo lw tx) := ⟨hD0.1, fun k q hk => ⟨k, q.2, hk⟩⟩
  generalize adr (wK G k0 k1 k2 k3 k4 k5 k6 k7 k8 k9 k10 k11 k12 (nI mc) (nI a) thr ky ro ln kd nb sc wa sm ld lo lw tx) = A at hD ⊢
  have hS : va_S A s.heap s.heap [] := va_S.rf
  have hl := lv_entry ([.ref k0, .long v]) (n := 7) (Nat.le_of_ble_eq_true rfl)
  rw [lg_entry_eq]
  generalize (lg_sl ([.ref k0, .long v]) ++ List.replicate (7 - (lg_sl ([.ref k0, .long v])).length) Slot.unset).toArray = ls at hl ⊢
  replace hl : lv_has ls 7 [(0, .ref k0), (1, .long v)] := hl
  have hroom : a + (32 :: txt v).length ≤ 80 := hroom0
  have hrm : a + 1 + 1 < 80 ∨ 0 ≤ v := by
    by_cases h0 : 0 ≤ v
    · exact Or.inr h0
    · refine Or.inl ?_
      have h1 : (32 :: txt v).length = 1 + (1 + (nl (ab v / 10) + 1)) := by rw [List.length_cons, txt, if_neg h0, List.length_append, dgl_len]; show 1 + _ + 1 = _; omega
      omega
  have hrm1 : a < 80 := by rw [List.length_cons] at hroom; omega
  refine lv_aload_n hx hb dX4_say_0 rfl (lv_at hl 0 rfl) ?_
  refine lv_bipush (v := 32) hx hb dX4_say_1 (by decide) ?_
  refine va_callv (va_runV (As := [.int 32]) (rest := []) ⟨hx, hb, hml, hown, hts⟩ (ct_X4_put l G k0 k1 k2 k3 k4 k5 k6 k7 k8 k9 k10 k11 k12 mc a thr ky ro ln kd nb sc wa sm ld lo lw tx 32 (by omega)) (cwV 1 hts gX4_say_X4_put rfl rfl rfl (by decide +kernel) ⟨Nat.le_of_ble_eq_true rfl, Nat.le_of_ble_eq_true rfl⟩) (WrP.preV 0 5 rfl rfl (x_mid ([]) (wK G k0 k1 k2 k3 k4 k5 k6 k7 k8 k9 k10 k11 k12 (nI mc) (nI a) thr ky ro ln kd nb sc wa sm ld lo lw tx) ([]) rfl hP) hE (x_midD ([]) (wK G k0 k1 k2 k3 k4 k5 k6 k7 k8 k9 k10 k11 k12 (nI mc) (nI a) thr ky ro ln kd nb sc wa sm ld lo lw tx) ([]) rfl hD)) rfl rfl hl.1 rfl (lv_room (Nat.le_of_ble_eq_true rfl)) dX4_say_3 ⟨Nat.zero_le _, Nat.zero_le _⟩) hS (fun q _ h => (x_adr ([]) (wK G k0 k1 k2 k3 k4 k5 k6 k7 k8 k9 k10 k11 k12 (nI mc) (nI a) thr ky ro ln kd nb sc wa sm ld lo lw tx) ([]) rfl hD) q h) (x_adr ([]) (wK G k0 k1 k2 k3 k4 k5 k6 k7 k8 k9 k10 k11 k12 (nI mc) (nI a) thr ky ro ln kd nb sc wa sm ld lo lw tx) ([]) rfl hD) (fun u t H1 locs ht hvm hw hB hz1 hk1 hS => ?_)
  rw [ht] at hB
  rcases hw with rfl
  obtain ⟨hP, hD⟩ := x_join ([]) (wK G k0 k1 k2 k3 k4 k5 k6 k7 k8 k9 k10 k11 k12 (nI mc) (nI a) thr ky ro ln kd nb sc wa sm ld lo lw tx) ([]) (wK G k0 k1 k2 k3 k4 k5 k6 k7 k8 k9 k10 k11 k12 (nI mc) (nI (a + 1)) thr ky ro ln kd nb sc wa sm ld lo lw (upd tx a 32)) rfl hP hD hk1 hB rfl
  generalize H1 = H at hP hS ⊢
  replace hP : va_P G.1 vwCl (wK G k0 k1 k2 k3 k4 k5 k6 k7 k8 k9 k10 k11 k12 (nI mc) (nI (a + 1)) thr ky ro ln kd nb sc wa sm ld lo lw (upd tx a 32)) H := hP
  replace hD : va_D A (wK G k0 k1 k2 k3 k4 k5 k6 k7 k8 k9 k10 k11 k12 (nI mc) (nI (a + 1)) thr ky ro ln kd nb sc wa sm ld lo lw (upd tx a 32)) := hD
  refine lv_lload_n hx hb dX4_say_6 rfl (lv_at hl 1 rfl) ?_
  refine lv_lconst (v := 0) hx hb dX4_say_7 (by decide) ?_
  refine x_lge (tgt := 17) hx hb dX4_say_8 dX4_say_9 (by decide) (fun c9 => ?_) (fun c9 => ?_)
  · refine lv_lload_n hx hb dX4_say_17 rfl (lv_at hl 1 rfl) ?_
    refine lv_lstore_n (lv' := [(3, .long v), (0, .ref k0), (1, .long v)]) hx hb dX4_say_18 rfl hl (by decide) rfl (fun ls hl => ?_)
    refine lv_lload_n hx hb dX4_say_19 rfl (lv_at hl 2 rfl) ?_
    refine lv_lconst (v := 0) hx hb dX4_say_20 (by decide) ?_
    refine x_lge (tgt := 31) hx hb dX4_say_21 dX4_say_22 (by decide) (fun c22 => ?_) (fun c22 => absurd c9 c22)
    refine lv_lconst (v := 1) hx hb dX4_say_31 (by decide) ?_
    refine lv_lstore (lv' := [(5, .long 1), (3, .long v), (0, .ref k0), (1, .long v)]) hx hb dX4_say_32 hl (by decide) rfl (fun ls hl => ?_)
    obtain ⟨N, hN⟩ : ∃ N : Nat, N = ab v := ⟨_, rfl⟩
    obtain ⟨E, hE2⟩ : ∃ E : Nat, E = nl (N / 10) := ⟨_, rfl⟩
    obtain ⟨e0, he0⟩ : ∃ e0 : Nat, e0 = 0 := ⟨_, rfl⟩
    have hE17 : E ≤ 17 := by rw [hE2]; exact nl_le (by rw [hN]; exact hv18)
    have hN18 : N < 10 ^ 18 := by rw [hN]; exact hv18
    have hN63 : N < 2 ^ 63 := Nat.lt_trans hN18 (by decide)
    have hN19 : N < 10 ^ 19 := Nat.lt_trans hN18 (by decide)
    replace hl : lv_has ls 7 [(5, .long (lN (10 ^ e0))), (3, .long (lN N)), (0, .ref k0), (1, .long v)] := by rw [he0, hN, ← ab_pos c9]; exact hl
    have hwr : wrote tx (upd tx a 32) a [32] := wrote.put tx a 32
    have hpre : [32] ++ dgl N (E + 1) = 32 :: txt v := by rw [txt, if_pos c9, hE2, hN]; rfl
    have hlen : a + 1 = a + ([32] : List Int32).length := rfl
    obtain ⟨ty, hty⟩ : ∃ t : Nat → Int32, t = (upd tx a 32) := ⟨_, rfl⟩
    obtain ⟨b, hb2⟩ : ∃ b : Nat, b = a + 1 := ⟨_, rfl⟩
    obtain ⟨pr, hpr⟩ : ∃ q : List Int32, q = [32] := ⟨_, rfl⟩
    obtain ⟨k, hk⟩ : ∃ k : Nat, e0 + k = E := ⟨E - e0, by omega⟩
    rw [← hty, ← hb2] at hP hD
    rw [← hty, ← hpr] at hwr
    rw [← hpr] at hpre hlen
    rw [← hb2] at hlen
    have hstop : ¬ 9 < N / 10 ^ E := fun q => absurd ((nl_9 hN19).mpr q) (by rw [← hE2]; omega)
    have hgo : ∀ e1, e1 < E → 9 < N / 10 ^ e1 := fun e1 q => (nl_9 hN19).mp (by rw [← hE2]; exact q)
    clear hE2 hty hb2 hpr he0 hN
    induction k generalizing e0 ls with
    | zero =>
      obtain rfl : e0 = E := hk
      refine lv_lload_n hx hb dX4_say_34 rfl (lv_at hl 1 rfl) ?_
      refine lv_lload hx hb dX4_say_35 (lv_at hl 0 rfl) ?_
      refine lv_ldiv hx hb dX4_say_37 (fun q => ten_pos (show e0 ≤ 18 by omega) (by rw [q]; exact Int64.le_refl 0)) ?_
      rw [pk_lDiv hN63 (p10pos e0) (p10 (show e0 ≤ 18 by omega))]
      refine lv_ldc2 (v := 9) hx hb hown (hts (.constantLong RX4 122 9) (by decide +kernel)) dX4_say_38 ?_
      refine x_lle (tgt := 56) hx hb dX4_say_41 dX4_say_42 (by decide) (fun c42 => ?_) (fun c42 => absurd ((pk_lLE (b := 9) (Nat.lt_of_le_of_lt (Nat.div_le_self N _) hN63) (by decide)).mpr (Nat.not_lt.mp hstop)) c42)
      obtain ⟨q, hq⟩ : ∃ q : Nat, q = e0 + 1 := ⟨_, rfl⟩
      replace hl : lv_has ls 7 [(5, .long (tenv q)), (3, .long (lN N)), (0, .ref k0), (1, .long v)] := by rw [hq]; exact hl
      replace hP := hP
      replace hD := hD
      replace hS := hS
      replace hwr := hwr
      replace hpre : pr ++ dgl N q = 32 :: txt v := by rw [hq]; exact hpre
      replace hlen := hlen
      have hq18 : q ≤ 18 := by omega
      clear hq
      clear hstop hgo
      induction q generalizing ls H locs ty b pr with
      | zero =>
        replace hpre : pr = 32 :: txt v := by rw [← hpre]; exact (List.append_nil pr).symm
        refine lv_lload hx hb dX4_say_56 (lv_at hl 0 rfl) ?_
        refine lv_lconst (v := 0) hx hb dX4_say_58 (by decide) ?_
        refine x_lle (tgt := 91) hx hb dX4_say_59 dX4_say_60 (by decide) (fun c60 => ?_) (fun c60 => absurd (show tenv 0 ≤ 0 from Int64.le_refl 0) c60)
        exact W.vret hx hb hr (fun tZ hZ hW => ⟨⟨wK G k0 k1 k2 k3 k4 k5 k6 k7 k8 k9 k10 k11 k12 (nI mc) (nI b) thr ky ro ln kd nb sc wa sm ld lo lw ty, rfl, ⟨b, ty, by rw [hlen, hpre]; rfl, rfl, by rw [← hpre]; exact hwr⟩, by show va_P _ _ _ tZ.heap; rw [hZ]; exact hP⟩, hS.F hZ⟩) hS.2.2 dX4_say_91
      | succ q ih =>
        have hb80 : b < 80 := by have h1 := congrArg List.length hpre; rw [List.length_append, dgl_len] at h1; omega
        refine lv_lload hx hb dX4_say_56 (lv_at hl 0 rfl) ?_
        refine lv_lconst (v := 0) hx hb dX4_say_58 (by decide) ?_
        refine x_lle (tgt := 91) hx hb dX4_say_59 dX4_say_60 (by decide) (fun c60 => absurd c60 (ten_pos (show q ≤ 18 by omega))) (fun c60 => ?_)
        refine lv_aload_n hx hb dX4_say_63 rfl (lv_at hl 2 rfl) ?_
        refine lv_ldc2 (v := 48) hx hb hown (hts (.constantLong RX4 126 48) (by decide +kernel)) dX4_say_64 ?_
        refine lv_lload_n hx hb dX4_say_67 rfl (lv_at hl 1 rfl) ?_
        refine lv_lload hx hb dX4_say_68 (lv_at hl 0 rfl) ?_
        refine lv_ldiv hx hb dX4_say_70 (fun w => ten_pos (show q ≤ 18 by omega) (by rw [show lN (10 ^ q) = tenv (q + 1) from rfl, w]; exact Int64.le_refl 0)) ?_
        rw [show tenv (q + 1) = lN (10 ^ q) from rfl, pk_lDiv hN63 (p10pos q) (p10 (show q ≤ 18 by omega))]
        refine lv_ldc2 (v := 10) hx hb hown (hts (.constantLong RX4 124 10) (by decide +kernel)) dX4_say_71 ?_
        refine lv_lrem hx hb dX4_say_74 (by decide) ?_
        refine lv_ladd hx hb dX4_say_75 ?_
        refine lv_l2i (v := (48 + ((lN (N / 10 ^ q)) - (lN (N / 10 ^ q)) / 10 * 10)).toInt32) hx hb dX4_say_76 rfl ?_
        rw [lN_dg (Nat.lt_of_le_of_lt (Nat.div_le_self N _) hN63)]
        refine va_callv (va_runV (As := [.int (nI (48 + N / 10 ^ q % 10))]) (rest := []) ⟨hx, hb, hml, hown, hts⟩ (ct_X4_put l G k0 k1 k2 k3 k4 k5 k6 k7 k8 k9 k10 k11 k12 mc b thr ky ro ln kd nb sc wa sm ld lo lw ty (nI (48 + N / 10 ^ q % 10)) (by omega)) (cwV 1 hts gX4_say_X4_put rfl rfl rfl (by decide +kernel) ⟨Nat.le_of_ble_eq_true rfl, Nat.le_of_ble_eq_true rfl⟩) (WrP.preV 0 5 rfl rfl (x_mid ([]) (wK G k0 k1 k2 k3 k4 k5 k6 k7 k8 k9 k10 k11 k12 (nI mc) (nI b) thr ky ro ln kd nb sc wa sm ld lo lw ty) ([]) rfl hP) hE (x_midD ([]) (wK G k0 k1 k2 k3 k4 k5 k6 k7 k8 k9 k10 k11 k12 (nI mc) (nI b) thr ky ro ln kd nb sc wa sm ld lo lw ty) ([]) rfl hD)) rfl rfl hl.1 rfl (lv_room (Nat.le_of_ble_eq_true rfl)) dX4_say_77 ⟨Nat.zero_le _, Nat.zero_le _⟩) hS (fun q _ h => (x_adr ([]) (wK G k0 k1 k2 k3 k4 k5 k6 k7 k8 k9 k10 k11 k12 (nI mc) (nI b) thr ky ro ln kd nb sc wa sm ld lo lw ty) ([]) rfl hD) q h) (x_adr ([]) (wK G k0 k1 k2 k3 k4 k5 k6 k7 k8 k9 k10 k11 k12 (nI mc) (nI b) thr ky ro ln kd nb sc wa sm ld lo lw ty) ([]) rfl hD) (fun u t H1 locs ht hvm hw hB hz1 hk1 hS => ?_)
        rw [ht] at hB
        rcases hw with rfl
        obtain ⟨hP, hD⟩ := x_join ([]) (wK G k0 k1 k2 k3 k4 k5 k6 k7 k8 k9 k10 k11 k12 (nI mc) (nI b) thr ky ro ln kd nb sc wa sm ld lo lw ty) ([]) (wK G k0 k1 k2 k3 k4 k5 k6 k7 k8 k9 k10 k11 k12 (nI mc) (nI (b + 1)) thr ky ro ln kd nb sc wa sm ld lo lw (upd ty b (nI (48 + N / 10 ^ q % 10)))) rfl hP hD hk1 hB rfl
        generalize H1 = H at hP hS ⊢
        replace hP : va_P G.1 vwCl (wK G k0 k1 k2 k3 k4 k5 k6 k7 k8 k9 k10 k11 k12 (nI mc) (nI (b + 1)) thr ky ro ln kd nb sc wa sm ld lo lw (upd ty b (nI (48 + N / 10 ^ q % 10)))) H := hP
        replace hD : va_D A (wK G k0 k1 k2 k3 k4 k5 k6 k7 k8 k9 k10 k11 k12 (nI mc) (nI (b + 1)) thr ky ro ln kd nb sc wa sm ld lo lw (upd ty b (nI (48 + N / 10 ^ q % 10)))) := hD
        refine lv_lload hx hb dX4_say_80 (lv_at hl 0 rfl) ?_
        refine lv_ldc2 (v := 10) hx hb hown (hts (.constantLong RX4 124 10) (by decide +kernel)) dX4_say_82 ?_
        refine lv_ldiv hx hb dX4_say_85 (by decide) ?_
        rw [show tenv (q + 1) = lN (10 ^ q) from rfl, ten_div (show q ≤ 18 by omega)]
        refine lv_lstore (lv' := [(5, .long (tenv q)), (3, .long (lN N)), (0, .ref k0), (1, .long v)]) hx hb dX4_say_86 hl (by decide) rfl (fun ls hl => ?_)
        refine lv_goto (tgt := 56) hx hb dX4_say_88 (by decide) ?_
        exact ih _ _ _ _ _ _ (lv_sub hl [0, 1, 2, 3] rfl) hP hD hS (hwr.app (by rw [← hlen]; exact wrote.put ty b (nI (48 + N / 10 ^ q % 10)))) (by rw [← hpre, List.append_assoc]; rfl) (by rw [List.length_append, hlen]; rfl) (by omega)
    | succ k ih =>
      refine lv_lload_n hx hb dX4_say_34 rfl (lv_at hl 1 rfl) ?_
      refine lv_lload hx hb dX4_say_35 (lv_at hl 0 rfl) ?_
      refine lv_ldiv hx hb dX4_say_37 (fun q => ten_pos (show e0 ≤ 18 by omega) (by rw [q]; exact Int64.le_refl 0)) ?_
      rw [pk_lDiv hN63 (p10pos e0) (p10 (show e0 ≤ 18 by omega))]
      refine lv_ldc2 (v := 9) hx hb hown (hts (.constantLong RX4 122 9) (by decide +kernel)) dX4_say_38 ?_
      refine x_lle (tgt := 56) hx hb dX4_say_41 dX4_say_42 (by decide) (fun c42 => absurd ((pk_lLE (b := 9) (Nat.lt_of_le_of_lt (Nat.div_le_self N _) hN63) (by decide)).mp c42) (Nat.not_le.mpr (hgo e0 (by omega)))) (fun c42 => ?_)
      refine lv_lload hx hb dX4_say_45 (lv_at hl 0 rfl) ?_
      refine lv_ldc2 (v := 10) hx hb hown (hts (.constantLong RX4 124 10) (by decide +kernel)) dX4_say_47 ?_
      refine lv_lmul hx hb dX4_say_50 ?_
      rw [lN_mul10]
      refine lv_lstore (lv' := [(5, .long (lN (10 ^ e0 * 10))), (3, .long (lN N)), (0, .ref k0), (1, .long v)]) hx hb dX4_say_51 hl (by decide) rfl (fun ls hl => ?_)
      refine lv_goto (tgt := 34) hx hb dX4_say_53 (by decide) ?_
      exact ih ls (e0 + 1) (lv_sub hl [0, 1, 2, 3] rfl) (by omega)
  refine lv_lload_n hx hb dX4_say_12 rfl (lv_at hl 1 rfl) ?_
  refine lv_lneg hx hb dX4_say_13 ?_
  refine lv_goto (tgt := 18) hx hb dX4_say_14 (by decide) ?_
  refine lv_lstore_n (lv' := [(3, .long (-v)), (0, .ref k0), (1, .long v)]) hx hb dX4_say_18 rfl hl (by decide) rfl (fun ls hl => ?_)
  refine lv_lload_n hx hb dX4_say_19 rfl (lv_at hl 2 rfl) ?_
  refine lv_lconst (v := 0) hx hb dX4_say_20 (by decide) ?_
  refine x_lge (tgt := 31) hx hb dX4_say_21 dX4_say_22 (by decide) (fun c22 => absurd c22 c9) (fun c22 => ?_)
  have hrm2 : a + 1 < 80 := by rcases hrm with h | h; omega; exact absurd h c9
  refine lv_aload_n hx hb dX4_say_25 rfl (lv_at hl 1 rfl) ?_
  refine lv_bipush (v := 45) hx hb dX4_say_26 (by decide) ?_
  refine va_callv (va_runV (As := [.int 45]) (rest := []) ⟨hx, hb, hml, hown, hts⟩ (ct_X4_put l G k0 k1 k2 k3 k4 k5 k6 k7 k8 k9 k10 k11 k12 mc (a + 1) thr ky ro ln kd nb sc wa sm ld lo lw (upd tx a 32) 45 (by omega)) (cwV 1 hts gX4_say_X4_put rfl rfl rfl (by decide +kernel) ⟨Nat.le_of_ble_eq_true rfl, Nat.le_of_ble_eq_true rfl⟩) (WrP.preV 0 5 rfl rfl (x_mid ([]) (wK G k0 k1 k2 k3 k4 k5 k6 k7 k8 k9 k10 k11 k12 (nI mc) (nI (a + 1)) thr ky ro ln kd nb sc wa sm ld lo lw (upd tx a 32)) ([]) rfl hP) hE (x_midD ([]) (wK G k0 k1 k2 k3 k4 k5 k6 k7 k8 k9 k10 k11 k12 (nI mc) (nI (a + 1)) thr ky ro ln kd nb sc wa sm ld lo lw (upd tx a 32)) ([]) rfl hD)) rfl rfl hl.1 rfl (lv_room (Nat.le_of_ble_eq_true rfl)) dX4_say_28 ⟨Nat.zero_le _, Nat.zero_le _⟩) hS (fun q _ h => (x_adr ([]) (wK G k0 k1 k2 k3 k4 k5 k6 k7 k8 k9 k10 k11 k12 (nI mc) (nI (a + 1)) thr ky ro ln kd nb sc wa sm ld lo lw (upd tx a 32)) ([]) rfl hD) q h) (x_adr ([]) (wK G k0 k1 k2 k3 k4 k5 k6 k7 k8 k9 k10 k11 k12 (nI mc) (nI (a + 1)) thr ky ro ln kd nb sc wa sm ld lo lw (upd tx a 32)) ([]) rfl hD) (fun u t H1 locs ht hvm hw hB hz1 hk1 hS => ?_)
  rw [ht] at hB
  rcases hw with rfl
  obtain ⟨hP, hD⟩ := x_join ([]) (wK G k0 k1 k2 k3 k4 k5 k6 k7 k8 k9 k10 k11 k12 (nI mc) (nI (a + 1)) thr ky ro ln kd nb sc wa sm ld lo lw (upd tx a 32)) ([]) (wK G k0 k1 k2 k3 k4 k5 k6 k7 k8 k9 k10 k11 k12 (nI mc) (nI (a + 1 + 1)) thr ky ro ln kd nb sc wa sm ld lo lw (upd (upd tx a 32) (a + 1) 45)) rfl hP hD hk1 hB rfl
  generalize H1 = H at hP hS ⊢
  replace hP : va_P G.1 vwCl (wK G k0 k1 k2 k3 k4 k5 k6 k7 k8 k9 k10 k11 k12 (nI mc) (nI (a + 1 + 1)) thr ky ro ln kd nb sc wa sm ld lo lw (upd (upd tx a 32) (a + 1) 45)) H := hP
  replace hD : va_D A (wK G k0 k1 k2 k3 k4 k5 k6 k7 k8 k9 k10 k11 k12 (nI mc) (nI (a + 1 + 1)) thr ky ro ln kd nb sc wa sm ld lo lw (upd (upd tx a 32) (a + 1) 45)) := hD
  refine lv_lconst (v := 1) hx hb dX4_say_31 (by decide) ?_
  refine lv_lstore (lv' := [(5, .long 1), (3, .long (-v)), (0, .ref k0), (1, .long v)]) hx hb dX4_say_32 hl (by decide) rfl (fun ls hl => ?_)
  obtain ⟨N, hN⟩ : ∃ N : Nat, N = ab v := ⟨_, rfl⟩
  obtain ⟨E, hE2⟩ : ∃ E : Nat, E = nl (N / 10) := ⟨_, rfl⟩
  obtain ⟨e0, he0⟩ : ∃ e0 : Nat, e0 = 0 := ⟨_, rfl⟩
  have hE17 : E ≤ 17 := by rw [hE2]; exact nl_le (by rw [hN]; exact hv18)
  have hN18 : N < 10 ^ 18 := by rw [hN]; exact hv18
  have hN63 : N < 2 ^ 63 := Nat.lt_trans hN18 (by decide)
  have hN19 : N < 10 ^ 19 := Nat.lt_trans hN18 (by decide)
  replace hl : lv_has ls 7 [(5, .long (lN (10 ^ e0))), (3, .long (lN N)), (0, .ref k0), (1, .long v)] := by rw [he0, hN, ← ab_neg c9 hv18]; exact hl
  have hwr : wrote tx (upd (upd tx a 32) (a + 1) 45) a [32, 45] := (wrote.put tx a 32).app (wrote.put _ (a + 1) 45)
  have hpre : [32, 45] ++ dgl N (E + 1) = 32 :: txt v := by rw [txt, if_neg c9, hE2, hN]; rfl
  have hlen : a + 1 + 1 = a + ([32, 45] : List Int32).length := rfl
  obtain ⟨ty, hty⟩ : ∃ t : Nat → Int32, t = (upd (upd tx a 32) (a + 1) 45) := ⟨_, rfl⟩
  obtain ⟨b, hb2⟩ : ∃ b : Nat, b = a + 1 + 1 := ⟨_, rfl⟩
  obtain ⟨pr, hpr⟩ : ∃ q : List Int32, q = [32, 45] := ⟨_, rfl⟩
  obtain ⟨k, hk⟩ : ∃ k : Nat, e0 + k = E := ⟨E - e0, by omega⟩
  rw [← hty, ← hb2] at hP hD
  rw [← hty, ← hpr] at hwr
  rw [← hpr] at hpre hlen
  rw [← hb2] at hlen
  have hstop : ¬ 9 < N / 10 ^ E := fun q => absurd ((nl_9 hN19).mpr q) (by rw [← hE2]; omega)
  have hgo : ∀ e1, e1 < E → 9 < N / 10 ^ e1 := fun e1 q => (nl_9 hN19).mp (by rw [← hE2]; exact q)
  clear hE2 hty hb2 hpr he0 hN
  induction k generalizing e0 ls with
  | zero =>
    obtain rfl : e0 = E := hk
    refine lv_lload_n hx hb dX4_say_34 rfl (lv_at hl 1 rfl) ?_
    refine lv_lload hx hb dX4_say_35 (lv_at hl 0 rfl) ?_
    refine lv_ldiv hx hb dX4_say_37 (fun q => ten_pos (show e0 ≤ 18 by omega) (by rw [q]; exact Int64.le_refl 0)) ?_
    rw [pk_lDiv hN63 (p10pos e0) (p10 (show e0 ≤ 18 by omega))]
    refine lv_ldc2 (v := 9) hx hb hown (hts (.constantLong RX4 122 9) (by decide +kernel)) dX4_say_38 ?_
    refine x_lle (tgt := 56) hx hb dX4_say_41 dX4_say_42 (by decide) (fun c42 => ?_) (fun c42 => absurd ((pk_lLE (b := 9) (Nat.lt_of_le_of_lt (Nat.div_le_self N _) hN63) (by decide)).mpr (Nat.not_lt.mp hstop)) c42)
    obtain ⟨q, hq⟩ : ∃ q : Nat, q = e0 + 1 := ⟨_, rfl⟩
    replace hl : lv_has ls 7 [(5, .long (tenv q)), (3, .long (lN N)), (0, .ref k0), (1, .long v)] := by rw [hq]; exact hl
    replace hP := hP
    replace hD := hD
    replace hS := hS
    replace hwr := hwr
    replace hpre : pr ++ dgl N q = 32 :: txt v := by rw [hq]; exact hpre
    replace hlen := hlen
    have hq18 : q ≤ 18 := by omega
    clear hq
    clear hstop hgo
    induction q generalizing ls H locs ty b pr with
    | zero =>
      replace hpre : pr = 32 :: txt v := by rw [← hpre]; exact (List.append_nil pr).symm
      refine lv_lload hx hb dX4_say_56 (lv_at hl 0 rfl) ?_
      refine lv_lconst (v := 0) hx hb dX4_say_58 (by decide) ?_
      refine x_lle (tgt := 91) hx hb dX4_say_59 dX4_say_60 (by decide) (fun c60 => ?_) (fun c60 => absurd (show tenv 0 ≤ 0 from Int64.le_refl 0) c60)
      exact W.vret hx hb hr (fun tZ hZ hW => ⟨⟨wK G k0 k1 k2 k3 k4 k5 k6 k7 k8 k9 k10 k11 k12 (nI mc) (nI b) thr ky ro ln kd nb sc wa sm ld lo lw ty, rfl, ⟨b, ty, by rw [hlen, hpre]; rfl, rfl, by rw [← hpre]; exact hwr⟩, by show va_P _ _ _ tZ.heap; rw [hZ]; exact hP⟩, hS.F hZ⟩) hS.2.2 dX4_say_91
    | succ q ih =>
      have hb80 : b < 80 := by have h1 := congrArg List.length hpre; rw [List.length_append, dgl_len] at h1; omega
      refine lv_lload hx hb dX4_say_56 (lv_at hl 0 rfl) ?_
      refine lv_lconst (v := 0) hx hb dX4_say_58 (by decide) ?_
      refine x_lle (tgt := 91) hx hb dX4_say_59 dX4_say_60 (by decide) (fun c60 => absurd c60 (ten_pos (show q ≤ 18 by omega))) (fun c60 => ?_)
      refine lv_aload_n hx hb dX4_say_63 rfl (lv_at hl 2 rfl) ?_
      refine lv_ldc2 (v := 48) hx hb hown (hts (.constantLong RX4 126 48) (by decide +kernel)) dX4_say_64 ?_
      refine lv_lload_n hx hb dX4_say_67 rfl (lv_at hl 1 rfl) ?_
      refine lv_lload hx hb dX4_say_68 (lv_at hl 0 rfl) ?_
      refine lv_ldiv hx hb dX4_say_70 (fun w => ten_pos (show q ≤ 18 by omega) (by rw [show lN (10 ^ q) = tenv (q + 1) from rfl, w]; exact Int64.le_refl 0)) ?_
      rw [show tenv (q + 1) = lN (10 ^ q) from rfl, pk_lDiv hN63 (p10pos q) (p10 (show q ≤ 18 by omega))]
      refine lv_ldc2 (v := 10) hx hb hown (hts (.constantLong RX4 124 10) (by decide +kernel)) dX4_say_71 ?_
      refine lv_lrem hx hb dX4_say_74 (by decide) ?_
      refine lv_ladd hx hb dX4_say_75 ?_
      refine lv_l2i (v := (48 + ((lN (N / 10 ^ q)) - (lN (N / 10 ^ q)) / 10 * 10)).toInt32) hx hb dX4_say_76 rfl ?_
      rw [lN_dg (Nat.lt_of_le_of_lt (Nat.div_le_self N _) hN63)]
      refine va_callv (va_runV (As := [.int (nI (48 + N / 10 ^ q % 10))]) (rest := []) ⟨hx, hb, hml, hown, hts⟩ (ct_X4_put l G k0 k1 k2 k3 k4 k5 k6 k7 k8 k9 k10 k11 k12 mc b thr ky ro ln kd nb sc wa sm ld lo lw ty (nI (48 + N / 10 ^ q % 10)) (by omega)) (cwV 1 hts gX4_say_X4_put rfl rfl rfl (by decide +kernel) ⟨Nat.le_of_ble_eq_true rfl, Nat.le_of_ble_eq_true rfl⟩) (WrP.preV 0 5 rfl rfl (x_mid ([]) (wK G k0 k1 k2 k3 k4 k5 k6 k7 k8 k9 k10 k11 k12 (nI mc) (nI b) thr ky ro ln kd nb sc wa sm ld lo lw ty) ([]) rfl hP) hE (x_midD ([]) (wK G k0 k1 k2 k3 k4 k5 k6 k7 k8 k9 k10 k11 k12 (nI mc) (nI b) thr ky ro ln kd nb sc wa sm ld lo lw ty) ([]) rfl hD)) rfl rfl hl.1 rfl (lv_room (Nat.le_of_ble_eq_true rfl)) dX4_say_77 ⟨Nat.zero_le _, Nat.zero_le _⟩) hS (fun q _ h => (x_adr ([]) (wK G k0 k1 k2 k3 k4 k5 k6 k7 k8 k9 k10 k11 k12 (nI mc) (nI b) thr ky ro ln kd nb sc wa sm ld lo lw ty) ([]) rfl hD) q h) (x_adr ([]) (wK G k0 k1 k2 k3 k4 k5 k6 k7 k8 k9 k10 k11 k12 (nI mc) (nI b) thr ky ro ln kd nb sc wa sm ld lo lw ty) ([]) rfl hD) (fun u t H1 locs ht hvm hw hB hz1 hk1 hS => ?_)
      rw [ht] at hB
      rcases hw with rfl
      obtain ⟨hP, hD⟩ := x_join ([]) (wK G k0 k1 k2 k3 k4 k5 k6 k7 k8 k9 k10 k11 k12 (nI mc) (nI b) thr ky ro ln kd nb sc wa sm ld lo lw ty) ([]) (wK G k0 k1 k2 k3 k4 k5 k6 k7 k8 k9 k10 k11 k12 (nI mc) (nI (b + 1)) thr ky ro ln kd nb sc wa sm ld lo lw (upd ty b (nI (48 + N / 10 ^ q % 10)))) rfl hP hD hk1 hB rfl
      generalize H1 = H at hP hS ⊢
      replace hP : va_P G.1 vwCl (wK G k0 k1 k2 k3 k4 k5 k6 k7 k8 k9 k10 k11 k12 (nI mc) (nI (b + 1)) thr ky ro ln kd nb sc wa sm ld lo lw (upd ty b (nI (48 + N / 10 ^ q % 10)))) H := hP
      replace hD : va_D A (wK G k0 k1 k2 k3 k4 k5 k6 k7 k8 k9 k10 k11 k12 (nI mc) (nI (b + 1)) thr ky ro ln kd nb sc wa sm ld lo lw (upd ty b (nI (48 + N / 10 ^ q % 10)))) := hD
      refine lv_lload hx hb dX4_say_80 (lv_at hl 0 rfl) ?_
      refine lv_ldc2 (v := 10) hx hb hown (hts (.constantLong RX4 124 10) (by decide +kernel)) dX4_say_82 ?_
      refine lv_ldiv hx hb dX4_say_85 (by decide) ?_
      rw [show tenv (q + 1) = lN (10 ^ q) from rfl, ten_div (show q ≤ 18 by omega)]
      refine lv_lstore (lv' := [(5, .long (tenv q)), (3, .long (lN N)), (0, .ref k0), (1, .long v)]) hx hb dX4_say_86 hl (by decide) rfl (fun ls hl => ?_)
      refine lv_goto (tgt := 56) hx hb dX4_say_88 (by decide) ?_
      exact ih _ _ _ _ _ _ (lv_sub hl [0, 1, 2, 3] rfl) hP hD hS (hwr.app (by rw [← hlen]; exact wrote.put ty b (nI (48 + N / 10 ^ q % 10)))) (by rw [← hpre, List.append_assoc]; rfl) (by rw [List.length_append, hlen]; rfl) (by omega)
  | succ k ih =>
    refine lv_lload_n hx hb dX4_say_34 rfl (lv_at hl 1 rfl) ?_
    refine lv_lload hx hb dX4_say_35 (lv_at hl 0 rfl) ?_
    refine lv_ldiv hx hb dX4_say_37 (fun q => ten_pos (show e0 ≤ 18 by omega) (by rw [q]; exact Int64.le_refl 0)) ?_
    rw [pk_lDiv hN63 (p10pos e0) (p10 (show e0 ≤ 18 by omega))]
    refine lv_ldc2 (v := 9) hx hb hown (hts (.constantLong RX4 122 9) (by decide +kernel)) dX4_say_38 ?_
    refine x_lle (tgt := 56) hx hb dX4_say_41 dX4_say_42 (by decide) (fun c42 => absurd ((pk_lLE (b := 9) (Nat.lt_of_le_of_lt (Nat.div_le_self N _) hN63) (by decide)).mp c42) (Nat.not_le.mpr (hgo e0 (by omega)))) (fun c42 => ?_)
    refine lv_lload hx hb dX4_say_45 (lv_at hl 0 rfl) ?_
    refine lv_ldc2 (v := 10) hx hb hown (hts (.constantLong RX4 124 10) (by decide +kernel)) dX4_say_47 ?_
    refine lv_lmul hx hb dX4_say_50 ?_
    rw [lN_mul10]
    refine lv_lstore (lv' := [(5, .long (lN (10 ^ e0 * 10))), (3, .long (lN N)), (0, .ref k0), (1, .long v)]) hx hb dX4_say_51 hl (by decide) rfl (fun ls hl => ?_)
    refine lv_goto (tgt := 34) hx hb dX4_say_53 (by decide) ?_
    exact ih ls (e0 + 1) (lv_sub hl [0, 1, 2, 3] rfl) (by omega)
