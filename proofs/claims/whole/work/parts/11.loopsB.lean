set_option maxHeartbeats 4000000 in
set_option maxRecDepth 100000 in
/-- findGap -/
theorem ct_X1_findGap (l : Launch) (G : Gx) (h0 h1 h2 h3 h4 h5 : Nat) (key : Int64) (n : Nat) (nu st : Nat → Int64) (de : Nat → Int32) (su : Nat → Int64) (mk : Nat → Int32) (kk what : Int32) (hc : n ≤ 200) : Met l yX1_findGap wsX1_findGap ({ frames := 2, cells := 0, slots := 0, locals := 42 }) (RdP G (wR G h0 h1 h2 h3 h4 h5 key (nI n) nu st de su mk) [.ref h0, .int kk, .int what]) (vp_Si (fun r => r = f_gap n st kk what)) 0 0 (fun _ => False) := by
  refine Met.ofW (cc := cX1_findGap) (maxL := 9) (ret := (some .int)) (by decide) rfl ?_
  intro p e s m args below meth c s₁ B hml hv
  obtain ⟨rfl, hP, hE⟩ := hv
  have hx := B.exec
  have hb := B.bytes
  have hr := B.returns
  have hts := atoms_spec (ws := wsX1_findGap) B.pre
  have hown : s.vm.findClass RX1 = some m.cls := findClass_of_methodNamed B.named
  have hlocks := B.notSynchronized
  have hiX1 : ∀ w ∈ wsX10, w ∈ wsX1_findGap := by decide +kernel
  have hl := lv_entry ([.ref h0, .int kk, .int what]) (n := 9) (Nat.le_of_ble_eq_true rfl)
  rw [lg_entry_eq]
  generalize (lg_sl ([.ref h0, .int kk, .int what]) ++ List.replicate (9 - (lg_sl ([.ref h0, .int kk, .int what])).length) Slot.unset).toArray = ls at hl ⊢
  replace hl : lv_has ls 9 [(0, .ref h0), (1, .int kk), (2, .int what)] := hl
  refine lv_iload_n hx hb dX1_findGap_0 rfl (lv_at hl 1 rfl) ?_
  refine lv_istore_n (lv' := [(3, .int kk), (0, .ref h0), (1, .int kk), (2, .int what)]) hx hb dX1_findGap_1 rfl hl (by decide) rfl (fun ls hl => ?_)
  refine lv_ldc2 (v := (-1)) hx hb hown (hts (.constantLong RX1 65 (-1)) (by decide +kernel)) dX1_findGap_2 ?_
  refine lv_lstore (lv' := [(4, .long (-1)), (3, .int kk), (0, .ref h0), (1, .int kk), (2, .int what)]) hx hb dX1_findGap_5 hl (by decide) rfl (fun ls hl => ?_)
  refine lv_iconst (v := 0) hx hb dX1_findGap_7 (by decide) ?_
  refine lv_istore (lv' := [(6, .int 0), (4, .long (-1)), (3, .int kk), (0, .ref h0), (1, .int kk), (2, .int what)]) hx hb dX1_findGap_8 hl (by decide) rfl (fun ls hl => ?_)
  obtain ⟨i, hi⟩ : ∃ i : Nat, i = 0 := ⟨_, rfl⟩
  obtain ⟨bef, hbe⟩ : ∃ b : Int64, b = -1 := ⟨_, rfl⟩
  obtain ⟨left, hle⟩ : ∃ b : Int32, b = kk := ⟨_, rfl⟩
  replace hl : lv_has ls 9 [(6, .int (nI i)), (4, .long bef), (3, .int left), (0, .ref h0), (1, .int kk), (2, .int what)] := by rw [hi, hbe, hle]; exact hl
  obtain ⟨k, hk⟩ : ∃ k : Nat, i + k = n := ⟨n - i, by omega⟩
  have hv : f_gapF n st what k i bef left = f_gap n st kk what := by rw [f_gap, hi, hbe, hle, show k = n by omega]
  clear hi hbe hle
  induction k generalizing i ls bef left with
  | zero =>
    refine lv_iload hx hb dX1_findGap_10 (lv_at hl 0 rfl) ?_
    refine lv_aload_n hx hb dX1_findGap_12 rfl (lv_at hl 3 rfl) ?_
    refine va_get (D := G.1) (ci := 2) (v := .int (nI n)) (C := RX1) (T := TX1) (N := 7) hx hb hts hiX1 hown hE.1 hP 0 rfl rfl 6 (by decide) (hts (.fieldLink RX1 33 "MeterSeals$Rows" "count" "I") (by decide +kernel)) (fun _ h9 => h9) rfl dX1_findGap_13 ?_
    refine lv_icmp_ge (tgt := 103) hx hb dX1_findGap_16 (by decide) (fun c16 => ?_) (fun c16 => absurd (nI_le (by omega) (by omega)) c16)
    refine lv_iconst (v := (-1)) hx hb dX1_findGap_103 (by decide) ?_
    exact W.iret (v := (-1)) hx hb hr (fun t ht hW => ⟨_, rfl, by rw [← hv]; rfl, ht⟩) t_nil dX1_findGap_104
  | succ k ih =>
    refine lv_iload hx hb dX1_findGap_10 (lv_at hl 0 rfl) ?_
    refine lv_aload_n hx hb dX1_findGap_12 rfl (lv_at hl 3 rfl) ?_
    refine va_get (D := G.1) (ci := 2) (v := .int (nI n)) (C := RX1) (T := TX1) (N := 7) hx hb hts hiX1 hown hE.1 hP 0 rfl rfl 6 (by decide) (hts (.fieldLink RX1 33 "MeterSeals$Rows" "count" "I") (by decide +kernel)) (fun _ h9 => h9) rfl dX1_findGap_13 ?_
    refine lv_icmp_ge (tgt := 103) hx hb dX1_findGap_16 (by decide) (fun c16 => absurd c16 (nI_ge (by omega) (by omega))) (fun c16 => ?_)
    refine lv_aload_n hx hb dX1_findGap_19 rfl (lv_at hl 3 rfl) ?_
    refine lv_iload hx hb dX1_findGap_20 (lv_at hl 0 rfl) ?_
    refine x_ri (va_runV (As := [.int (nI i)]) (rest := []) ⟨hx, hb, hml, hown, hts⟩ (ct_X1_isReading l G h0 h1 h2 h3 h4 h5 key n nu st de su mk (nI i) hc) (cwV 1 hts gX1_findGap_X1_isReading rfl rfl rfl (by decide +kernel) ⟨Nat.le_of_ble_eq_true rfl, Nat.le_of_ble_eq_true rfl⟩) (RdP.preV 0 2 rfl rfl hP hE) rfl rfl hl.1 rfl (lv_room (Nat.le_of_ble_eq_true rfl)) dX1_findGap_22 ⟨Nat.zero_le _, Nat.zero_le _⟩) (fun r1 er1 => ?_)
    subst er1
    refine lv_if_ne (tgt := 31) hx hb dX1_findGap_25 (by decide) (fun c25 => ?_) (fun c25 => ?_)
    · refine lv_lload hx hb dX1_findGap_31 (lv_at hl 1 rfl) ?_
      refine lv_lconst (v := 0) hx hb dX1_findGap_33 (by decide) ?_
      refine x_lge (tgt := 42) hx hb dX1_findGap_34 dX1_findGap_35 (by decide) (fun c35 => ?_) (fun c35 => ?_)
      · refine lv_aload_n hx hb dX1_findGap_42 rfl (lv_at hl 3 rfl) ?_
        refine va_get (D := G.1) (ci := 2) (v := .ref h2) (C := RX1) (T := TX1) (N := 7) hx hb hts hiX1 hown hE.1 hP 0 rfl rfl 2 (by decide) (hts (.fieldLink RX1 19 "MeterSeals$Rows" "stamps" "[J") (by decide +kernel)) (fun _ h9 => h9) rfl dX1_findGap_43 ?_
        refine lv_iload hx hb dX1_findGap_46 (lv_at hl 0 rfl) ?_
        refine va_lald hx hb hE.1 hP 2 1 rfl rfl (vp_in_nI (show i < 200 by omega) (by decide)) dX1_findGap_48 ?_
        rw [nI_clamp (show i < 2 ^ 31 by omega)]
        refine lv_lload hx hb dX1_findGap_49 (lv_at hl 1 rfl) ?_
        refine lv_lsub hx hb dX1_findGap_51 ?_
        refine lv_lstore (lv' := [(7, .long ((st i) - bef)), (6, .int (nI i)), (4, .long bef), (3, .int left), (0, .ref h0), (1, .int kk), (2, .int what)]) hx hb dX1_findGap_52 hl (by decide) rfl (fun ls hl => ?_)
        refine lv_aload_n hx hb dX1_findGap_54 rfl (lv_at hl 4 rfl) ?_
        refine va_get (D := G.1) (ci := 2) (v := .ref h2) (C := RX1) (T := TX1) (N := 7) hx hb hts hiX1 hown hE.1 hP 0 rfl rfl 2 (by decide) (hts (.fieldLink RX1 19 "MeterSeals$Rows" "stamps" "[J") (by decide +kernel)) (fun _ h9 => h9) rfl dX1_findGap_55 ?_
        refine lv_iload hx hb dX1_findGap_58 (lv_at hl 1 rfl) ?_
        refine va_lald hx hb hE.1 hP 2 1 rfl rfl (vp_in_nI (show i < 200 by omega) (by decide)) dX1_findGap_60 ?_
        rw [nI_clamp (show i < 2 ^ 31 by omega)]
        refine lv_lstore (lv' := [(4, .long (st i)), (7, .long ((st i) - bef)), (6, .int (nI i)), (3, .int left), (0, .ref h0), (1, .int kk), (2, .int what)]) hx hb dX1_findGap_61 hl (by decide) rfl (fun ls hl => ?_)
        refine lv_lload hx hb dX1_findGap_63 (lv_at hl 1 rfl) ?_
        refine lv_ldc2 (v := 3600) hx hb hown (hts (.constantLong RX1 67 3600) (by decide +kernel)) dX1_findGap_65 ?_
        refine x_lgt (tgt := 75) hx hb dX1_findGap_68 dX1_findGap_69 (by decide) (fun c69 => ?_) (fun c69 => ?_)
        · refine lv_iload_n hx hb dX1_findGap_75 rfl (lv_at hl 3 rfl) ?_
          refine lv_if_ne (tgt := 94) hx hb dX1_findGap_76 (by decide) (fun c76 => ?_) (fun c76 => ?_)
          · refine lv_iinc (v := left - 1) (lv' := [(3, .int (left - 1)), (4, .long (st i)), (7, .long ((st i) - bef)), (6, .int (nI i)), (0, .ref h0), (1, .int kk), (2, .int what)]) hx hb dX1_findGap_94 hl (k := 3) rfl (dec1 left) (by decide) rfl (fun ls hl => ?_)
            refine lv_iinc (v := (nI (i + 1))) (lv' := [(6, .int (nI (i + 1))), (3, .int (left - 1)), (4, .long (st i)), (7, .long ((st i) - bef)), (0, .ref h0), (1, .int kk), (2, .int what)]) hx hb dX1_findGap_97 hl (k := 3) rfl (nI_1 i) (by decide) rfl (fun ls hl => ?_)
            refine lv_goto (tgt := 10) hx hb dX1_findGap_100 (by decide) ?_
            exact ih ls (i + 1) (st i) (left - 1) (lv_sub hl [0, 2, 1, 4, 5, 6] rfl) (by omega) (by simpa only [f_gapF, if_neg c25, if_pos c35, if_pos c69, if_neg c76] using hv)
          refine lv_iload_n hx hb dX1_findGap_79 rfl (lv_at hl 6 rfl) ?_
          refine lv_if_ne (tgt := 88) hx hb dX1_findGap_80 (by decide) (fun c80 => ?_) (fun c80 => ?_)
          · refine lv_lload hx hb dX1_findGap_88 (lv_at hl 1 rfl) ?_
            refine x_ri (va_runS (As := [.long ((st i) - bef)]) (rest := []) ⟨hx, hb, hml, hown, hts⟩ (ct_X1_wholeMinutes l G ((st i) - bef)) (va_cwS 1 hts gX1_findGap_X1_wholeMinutes rfl rfl rfl (by decide +kernel) ⟨Nat.le_of_ble_eq_true rfl, Nat.le_of_ble_eq_true rfl⟩) (RdP.preS (fun k q h => by simp at h) hE) rfl rfl hl.1 rfl (lv_room (Nat.le_of_ble_eq_true rfl)) dX1_findGap_90 ⟨Nat.zero_le _, Nat.zero_le _⟩) (fun r2 er2 => ?_)
            subst er2
            exact W.iret (v := (f_mins ((st i) - bef))) hx hb hr (fun t ht hW => ⟨_, rfl, by rw [← hv]; simp only [f_gapF, if_neg c25, if_pos c35, if_pos c69, if_pos c76, if_neg c80], ht⟩) t_nil dX1_findGap_93
          refine lv_iload hx hb dX1_findGap_83 (lv_at hl 2 rfl) ?_
          refine lv_goto (tgt := 93) hx hb dX1_findGap_85 (by decide) ?_
          exact W.iret (v := (nI i)) hx hb hr (fun t ht hW => ⟨_, rfl, by rw [← hv]; simp only [f_gapF, if_neg c25, if_pos c35, if_pos c69, if_pos c76, if_pos c80], ht⟩) t_nil dX1_findGap_93
        refine lv_goto (tgt := 97) hx hb dX1_findGap_72 (by decide) ?_
        refine lv_iinc (v := (nI (i + 1))) (lv' := [(6, .int (nI (i + 1))), (4, .long (st i)), (7, .long ((st i) - bef)), (3, .int left), (0, .ref h0), (1, .int kk), (2, .int what)]) hx hb dX1_findGap_97 hl (k := 2) rfl (nI_1 i) (by decide) rfl (fun ls hl => ?_)
        refine lv_goto (tgt := 10) hx hb dX1_findGap_100 (by decide) ?_
        exact ih ls (i + 1) (st i) left (lv_sub hl [0, 1, 3, 4, 5, 6] rfl) (by omega) (by simpa only [f_gapF, if_neg c25, if_pos c35, if_neg c69] using hv)
      refine lv_lconst (v := 0) hx hb dX1_findGap_38 (by decide) ?_
      refine lv_goto (tgt := 52) hx hb dX1_findGap_39 (by decide) ?_
      refine lv_lstore (lv' := [(7, .long 0), (6, .int (nI i)), (4, .long bef), (3, .int left), (0, .ref h0), (1, .int kk), (2, .int what)]) hx hb dX1_findGap_52 hl (by decide) rfl (fun ls hl => ?_)
      refine lv_aload_n hx hb dX1_findGap_54 rfl (lv_at hl 4 rfl) ?_
      refine va_get (D := G.1) (ci := 2) (v := .ref h2) (C := RX1) (T := TX1) (N := 7) hx hb hts hiX1 hown hE.1 hP 0 rfl rfl 2 (by decide) (hts (.fieldLink RX1 19 "MeterSeals$Rows" "stamps" "[J") (by decide +kernel)) (fun _ h9 => h9) rfl dX1_findGap_55 ?_
      refine lv_iload hx hb dX1_findGap_58 (lv_at hl 1 rfl) ?_
      refine va_lald hx hb hE.1 hP 2 1 rfl rfl (vp_in_nI (show i < 200 by omega) (by decide)) dX1_findGap_60 ?_
      rw [nI_clamp (show i < 2 ^ 31 by omega)]
      refine lv_lstore (lv' := [(4, .long (st i)), (7, .long 0), (6, .int (nI i)), (3, .int left), (0, .ref h0), (1, .int kk), (2, .int what)]) hx hb dX1_findGap_61 hl (by decide) rfl (fun ls hl => ?_)
      refine lv_lload hx hb dX1_findGap_63 (lv_at hl 1 rfl) ?_
      refine lv_ldc2 (v := 3600) hx hb hown (hts (.constantLong RX1 67 3600) (by decide +kernel)) dX1_findGap_65 ?_
      refine x_lgt (tgt := 75) hx hb dX1_findGap_68 dX1_findGap_69 (by decide) (fun c69 => absurd c69 (by decide)) (fun c69 => ?_)
      refine lv_goto (tgt := 97) hx hb dX1_findGap_72 (by decide) ?_
      refine lv_iinc (v := (nI (i + 1))) (lv' := [(6, .int (nI (i + 1))), (4, .long (st i)), (7, .long 0), (3, .int left), (0, .ref h0), (1, .int kk), (2, .int what)]) hx hb dX1_findGap_97 hl (k := 2) rfl (nI_1 i) (by decide) rfl (fun ls hl => ?_)
      refine lv_goto (tgt := 10) hx hb dX1_findGap_100 (by decide) ?_
      exact ih ls (i + 1) (st i) left (lv_sub hl [0, 1, 3, 4, 5, 6] rfl) (by omega) (by simpa only [f_gapF, if_neg c25, if_neg c35] using hv)
    refine lv_goto (tgt := 97) hx hb dX1_findGap_28 (by decide) ?_
    refine lv_iinc (v := (nI (i + 1))) (lv' := [(6, .int (nI (i + 1))), (4, .long bef), (3, .int left), (0, .ref h0), (1, .int kk), (2, .int what)]) hx hb dX1_findGap_97 hl (k := 0) rfl (nI_1 i) (by decide) rfl (fun ls hl => ?_)
    refine lv_goto (tgt := 10) hx hb dX1_findGap_100 (by decide) ?_
    exact ih ls (i + 1) bef left (lv_sub hl [0, 1, 2, 3, 4, 5] rfl) (by omega) (by simpa only [f_gapF, if_pos c25] using hv)

set_option maxHeartbeats 4000000 in
set_option maxRecDepth 100000 in
/-- commonDivisor -/
theorem ct_X3_commonDivisor (l : Launch) (G : Gx) (a b : Nat) (ha : a < 2 ^ 62) (hb14 : b < 2 ^ 14) : Met l yX3_commonDivisor wsX3_commonDivisor ({ frames := 0, cells := 0, slots := 0, locals := 0 }) (RdP G [] [.long (lN a), .long (lN b)]) (vp_Sl (fun r => r = lN (Nat.gcd a b))) 0 0 (fun _ => False) := by
  refine Met.ofW (cc := cX3_commonDivisor) (maxL := 11) (ret := (some .long)) (by decide) rfl ?_
  intro p e s m args below meth c s₁ B hml hv
  obtain ⟨rfl, hP, hE⟩ := hv
  have hx := B.exec
  have hb := B.bytes
  have hr := B.returns
  have hts := atoms_spec (ws := wsX3_commonDivisor) B.pre
  have hown : s.vm.findClass RX3 = some m.cls := findClass_of_methodNamed B.named
  have hlocks := B.notSynchronized
  have hl := lv_entry ([.long (lN a), .long (lN b)]) (n := 11) (Nat.le_of_ble_eq_true rfl)
  rw [lg_entry_eq]
  generalize (lg_sl ([.long (lN a), .long (lN b)]) ++ List.replicate (11 - (lg_sl ([.long (lN a), .long (lN b)])).length) Slot.unset).toArray = ls at hl ⊢
  replace hl : lv_has ls 11 [(0, .long (lN a)), (2, .long (lN b))] := hl
  refine lv_lload_n hx hb dX3_commonDivisor_0 rfl (lv_at hl 0 rfl) ?_
  refine lv_lstore (lv' := [(4, .long (lN a)), (0, .long (lN a)), (2, .long (lN b))]) hx hb dX3_commonDivisor_1 hl (by decide) rfl (fun ls hl => ?_)
  refine lv_lload_n hx hb dX3_commonDivisor_3 rfl (lv_at hl 2 rfl) ?_
  refine lv_lstore (lv' := [(6, .long (lN b)), (4, .long (lN a)), (0, .long (lN a)), (2, .long (lN b))]) hx hb dX3_commonDivisor_4 hl (by decide) rfl (fun ls hl => ?_)
  refine lv_iconst (v := 0) hx hb dX3_commonDivisor_6 (by decide) ?_
  refine lv_istore (lv' := [(8, .int 0), (6, .long (lN b)), (4, .long (lN a)), (0, .long (lN a)), (2, .long (lN b))]) hx hb dX3_commonDivisor_7 hl (by decide) rfl (fun ls hl => ?_)
  obtain ⟨i, hi⟩ : ∃ i : Nat, i = 0 := ⟨_, rfl⟩
  obtain ⟨x, hx0⟩ : ∃ x : Nat, x = a := ⟨_, rfl⟩
  obtain ⟨y, hy0⟩ : ∃ y : Nat, y = b := ⟨_, rfl⟩
  replace hl : lv_has ls 11 [(8, .int (nI i)), (6, .long (lN y)), (4, .long (lN x)), (0, .long (lN a)), (2, .long (lN b))] := by rw [hi, hx0, hy0]; exact hl
  have hxb : x < 2 ^ 62 := by omega
  have hyb : y < 2 ^ 62 := by omega
  have hI : cd_I i x y := Or.inl hi
  have hg : Nat.gcd x y = Nat.gcd a b := by rw [hx0, hy0]
  have hb4 : i = 0 → y < 2 ^ 14 := fun _ => by omega
  clear hi hx0 hy0
  induction y using Nat.strongRecOn generalizing i ls x with
  | _ y ih =>
    refine lv_iload hx hb dX3_commonDivisor_9 (lv_at hl 0 rfl) ?_
    refine lv_bipush (v := 100) hx hb dX3_commonDivisor_11 (by decide) ?_
    refine lv_icmp_ge (tgt := 44) hx hb dX3_commonDivisor_13 (by decide) (fun c13 => absurd c13 (nI_ge (a := i) (b := 100) (by have := cd_i hI; omega) (by decide))) (fun c13 => ?_)
    refine lv_lload hx hb dX3_commonDivisor_16 (lv_at hl 1 rfl) ?_
    refine lv_lconst (v := 0) hx hb dX3_commonDivisor_18 (by decide) ?_
    refine x_leq (tgt := 44) hx hb dX3_commonDivisor_19 dX3_commonDivisor_20 (by decide) (fun c20 => ?_) (fun c20 => ?_)
    · have hy : y = 0 := (pk_lEQ (show y < 2 ^ 63 by omega) (by decide)).mp c20
      refine lv_lload hx hb dX3_commonDivisor_44 (lv_at hl 2 rfl) ?_
      exact W.lret (v := (lN x)) hx hb hr (fun t ht hW => ⟨_, rfl, by rw [← hg, hy, Nat.gcd_zero_right], ht⟩) t_nil dX3_commonDivisor_46
    have hy0 : 0 < y := Nat.pos_of_ne_zero (fun q => c20 (by rw [q]; rfl))
    refine lv_lload hx hb dX3_commonDivisor_23 (lv_at hl 2 rfl) ?_
    refine lv_lload hx hb dX3_commonDivisor_25 (lv_at hl 1 rfl) ?_
    refine lv_lrem hx hb dX3_commonDivisor_27 c20 ?_
    rw [pk_lRem (show x < 2 ^ 63 by omega) hy0 (show y < 2 ^ 63 by omega)]
    refine lv_lstore (lv' := [(9, .long (lN (x % y))), (8, .int (nI i)), (6, .long (lN y)), (4, .long (lN x)), (0, .long (lN a)), (2, .long (lN b))]) hx hb dX3_commonDivisor_28 hl (by decide) rfl (fun ls hl => ?_)
    refine lv_lload hx hb dX3_commonDivisor_30 (lv_at hl 2 rfl) ?_
    refine lv_lstore (lv' := [(4, .long (lN y)), (9, .long (lN (x % y))), (8, .int (nI i)), (6, .long (lN y)), (0, .long (lN a)), (2, .long (lN b))]) hx hb dX3_commonDivisor_32 hl (by decide) rfl (fun ls hl => ?_)
    refine lv_lload hx hb dX3_commonDivisor_34 (lv_at hl 1 rfl) ?_
    refine lv_lstore (lv' := [(6, .long (lN (x % y))), (4, .long (lN y)), (9, .long (lN (x % y))), (8, .int (nI i)), (0, .long (lN a)), (2, .long (lN b))]) hx hb dX3_commonDivisor_36 hl (by decide) rfl (fun ls hl => ?_)
    refine lv_iinc (v := (nI (i + 1))) (lv' := [(8, .int (nI (i + 1))), (6, .long (lN (x % y))), (4, .long (lN y)), (9, .long (lN (x % y))), (0, .long (lN a)), (2, .long (lN b))]) hx hb dX3_commonDivisor_38 hl (k := 3) rfl (nI_1 i) (by decide) rfl (fun ls hl => ?_)
    refine lv_goto (tgt := 9) hx hb dX3_commonDivisor_41 (by decide) ?_
    exact ih (x % y) (Nat.mod_lt x hy0) ls (i + 1) y (lv_sub hl [0, 1, 2, 4, 5] rfl) (by omega) (by have := Nat.mod_lt x hy0; omega) (cd_step hI hb4 hy0) (by rw [← hg, Nat.gcd_comm y (x % y), ← Nat.gcd_rec y x, Nat.gcd_comm]) (fun q => absurd q (Nat.succ_ne_zero i))
