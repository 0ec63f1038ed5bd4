/-! THE ENVIRONMENT: the classes' numbers and slots, the array classes, the words on nest mates; what no call changes. -/
abbrev Gx : Type := va_G × (ClassId × ClassId × ClassId × ClassId)
abbrev kI (G : Gx) : ClassId := G.2.1
abbrev kJ (G : Gx) : ClassId := G.2.2.1
abbrev kZ (G : Gx) : ClassId := G.2.2.2.1
abbrev kM (G : Gx) : ClassId := G.2.2.2.2
abbrev tyz (G : Gx) : List (ClassId × FieldType) := [(kI G, .int), (kJ G, .long), (kZ G, .boolean), (kM G, .object RX0)]
abbrev nF0 : Cond := .fieldLinkNest RX0 35 "MeterSeals$Table" "count" "I" RX3
abbrev nF1 : Cond := .fieldLinkNest RX0 77 "MeterSeals$Rows" "count" "I" RX3
abbrev nF2 : Cond := .fieldLinkNest RX3 63 "MeterSeals$Rows" "count" "I" RX3
abbrev nF3 : Cond := .fieldLinkNest RX3 30 "MeterSeals$Meter" "table" "LMeterSeals$Table;" RX3
abbrev nF4 : Cond := .fieldLinkNest RX3 42 "MeterSeals$Meter" "rows" "LMeterSeals$Rows;" RX3
abbrev nM0 : Cond := .methodLinkNest RX0 41 yX3_within RX3
abbrev nM1 : Cond := .methodLinkNest RX0 70 yX3_commonDivisor RX3
abbrev nM2 : Cond := .methodLinkNest RX0 74 yX3_quotient RX3
abbrev nM3 : Cond := .methodLinkNest RX1 107 yX3_textByte RX3
abbrev nM4 : Cond := .methodLinkNest RX1 53 yX3_within RX3
abbrev nM5 : Cond := .methodLinkNest RX1 97 yX3_textLength RX3
abbrev nM6 : Cond := .methodLinkNest RX2 30 yX3_within RX3
def NW (U : State) : Prop := (va_Nw nF0 U ∧ va_Nw nF1 U ∧ va_Nw nF2 U ∧ va_Nw nF3 U ∧ va_Nw nF4 U) ∧ (va_Nw nM0 U ∧ va_Nw nM1 U ∧ va_Nw nM2 U ∧ va_Nw nM3 U ∧ va_Nw nM4 U ∧ va_Nw nM5 U ∧ va_Nw nM6 U)
theorem NW.warm {s U : State} (hW : s.WarmedH U.vm) (h : NW s) : NW U := by
  obtain ⟨⟨a0, a1, a2, a3, a4⟩, b0, b1, b2, b3, b4, b5, b6⟩ := h
  exact ⟨⟨a0.warmF hW, a1.warmF hW, a2.warmF hW, a3.warmF hW, a4.warmF hW⟩, b0.warmM hW, b1.warmM hW, b2.warmM hW, b3.warmM hW, b4.warmM hW, b5.warmM hW, b6.warmM hW⟩
theorem NW.same {u U : State} (h : u.vm = U.vm) (hZ : NW u) : NW U := by
  obtain ⟨⟨a0, a1, a2, a3, a4⟩, b0, b1, b2, b3, b4, b5, b6⟩ := hZ
  exact ⟨⟨a0.same rfl h, a1.same rfl h, a2.same rfl h, a3.same rfl h, a4.same rfl h⟩, b0.same rfl h, b1.same rfl h, b2.same rfl h, b3.same rfl h, b4.same rfl h, b5.same rfl h, b6.same rfl h⟩
def EV (G : Gx) (U : State) : Prop := va_K G.1 vwCl (tyz G) U ∧ NW U ∧ va_AO RX0 U
theorem EV.K {G : Gx} {U : State} (h : EV G U) : va_K G.1 vwCl (tyz G) U := h.1
theorem EV.warm {G : Gx} {s U : State} (hW : s.WarmedH U.vm) (h : EV G s) : EV G U := ⟨va_K.moved hW.alike h.1, h.2.1.warm hW, h.2.2.moved hW.alike⟩
theorem EV.same {G : Gx} {u U : State} (hv : u.vm = U.vm) (h : EV G u) : EV G U := by
  have ha : u.vm.Alike U.vm := by rw [hv]; exact Vm.Alike.refl _
  exact ⟨va_K.moved ha h.1, h.2.1.same hv, h.2.2.moved ha⟩
/-! WORLDS CUT IN THREE -/
theorem x_mid {D : va_G} {cl : List vw_C} {ws : va_W} {H : Heap} (a b c : va_W) (hw : ws = a ++ b ++ c) (h : va_P D cl ws H) : va_P D cl b H := by
  intro k q hk
  subst hw
  refine h (a.length + k) q ?_
  have hlt : k < b.length := (List.getElem?_eq_some_iff.mp hk).1
  rw [List.getElem?_append_left (by rw [List.length_append]; omega), List.getElem?_append_right (by omega), Nat.add_sub_cancel_left]
  exact hk
def adr (ws : va_W) : Nat → Prop := fun q => ∃ (k : Nat) (e : va_E), ws[k]? = some (q, e)
theorem x_midD {A : Nat → Prop} {ws : va_W} (a b c : va_W) (hw : ws = a ++ b ++ c) (h : va_D A ws) : va_D A b := by
  subst hw
  have hp : ∀ (k : Nat) (q : Nat × va_E), b[k]? = some q → (a ++ b ++ c)[a.length + k]? = some q := by
    intro k q hk
    have hlt : k < b.length := (List.getElem?_eq_some_iff.mp hk).1
    rw [List.getElem?_append_left (by rw [List.length_append]; omega), List.getElem?_append_right (by omega), Nat.add_sub_cancel_left]
    exact hk
  refine ⟨fun i j p q hi hj he => ?_, fun k q hk => h.2 _ q (hp k q hk)⟩
  have := h.1 _ _ p q (hp i p hi) (hp j q hj) he
  omega
theorem x_adr {A : Nat → Prop} {ws : va_W} (a b c : va_W) (hw : ws = a ++ b ++ c) (h : va_D A ws) : ∀ q, adr b q → A q := by
  rintro q ⟨k, e, hk⟩
  exact (x_midD a b c hw h).2 k _ hk
theorem adr_map {w1 w0 : va_W} (hm : w1.map Prod.fst = w0.map Prod.fst) {q : Nat} (h : adr w1 q) : adr w0 q := by
  obtain ⟨k, e, hk⟩ := h
  have h1 : (w1.map Prod.fst)[k]? = some q := by rw [List.getElem?_map, hk]; rfl
  rw [hm, List.getElem?_map] at h1
  cases h2 : w0[k]? with
  | none => rw [h2] at h1; cases h1
  | some x => rw [h2] at h1; cases h1; exact ⟨k, x.2, h2⟩
/-- what a call wrote in the middle, beside what it left -/
theorem x_join {A0 : Nat → Prop} {D : va_G} {cl : List vw_C} {ws : va_W} {H H1 : Heap} (a b c b1 : va_W) (hw : ws = a ++ b ++ c) (hP : va_P D cl ws H) (hD : va_D A0 ws)
    (hk : ∀ q : Nat, q < H.size → ¬ adr b q → H1[q]? = H[q]?) (hP1 : va_P D cl b1 H1) (hm : b1.map Prod.fst = b.map Prod.fst) : va_P D cl (a ++ b1 ++ c) H1 ∧ va_D A0 (a ++ b1 ++ c) := by
  subst hw
  have hlen : b1.length = b.length := by have := congrArg List.length hm; simpa using this
  -- every place of the new world has its address at the same place of the old
  have hold : ∀ (k : Nat) (q : Nat × va_E), (a ++ b1 ++ c)[k]? = some q → ∃ e, (a ++ b ++ c)[k]? = some (q.1, e) := by
    intro k q hkq
    have h1 : ((a ++ b1 ++ c).map Prod.fst)[k]? = some q.1 := by rw [List.getElem?_map, hkq]; rfl
    rw [List.map_append, List.map_append, hm, ← List.map_append, ← List.map_append, List.getElem?_map] at h1
    cases h2 : (a ++ b ++ c)[k]? with
    | none => rw [h2] at h1; cases h1
    | some x =>
      rw [h2] at h1
      have h3 : x.1 = q.1 := Option.some.inj h1
      exact ⟨x.2, by rw [← h3]⟩
  refine ⟨fun k q hkq => ?_, ⟨fun i j p q hi hj he => ?_, fun k q hkq => ?_⟩⟩
  · by_cases hb : k < a.length
    · have e1 : (a ++ b ++ c)[k]? = some q := by
        rw [List.append_assoc, List.getElem?_append_left hb] at hkq ⊢
        exact hkq
      have hat := hP k q e1
      refine hat.kept (hk q.1 hat.lt ?_)
      rintro ⟨j, e, hj⟩
      have hjl : j < b.length := (List.getElem?_eq_some_iff.mp hj).1
      have e2 : (a ++ b ++ c)[a.length + j]? = some (q.1, e) := by
        rw [List.getElem?_append_left (by rw [List.length_append]; omega), List.getElem?_append_right (by omega), Nat.add_sub_cancel_left]
        exact hj
      have := hD.1 _ _ _ _ e1 e2 rfl
      omega
    · by_cases hb2 : k < a.length + b.length
      · rw [List.getElem?_append_left (by rw [List.length_append]; omega), List.getElem?_append_right (by omega)] at hkq
        exact hP1 _ q hkq
      · have e1 : (a ++ b ++ c)[k]? = some q := by
          rw [List.getElem?_append_right (by rw [List.length_append]; omega), List.length_append] at hkq ⊢
          rw [← hlen]
          exact hkq
        have hat := hP k q e1
        refine hat.kept (hk q.1 hat.lt ?_)
        rintro ⟨j, e, hj⟩
        have hjl : j < b.length := (List.getElem?_eq_some_iff.mp hj).1
        have e2 : (a ++ b ++ c)[a.length + j]? = some (q.1, e) := by
          rw [List.getElem?_append_left (by rw [List.length_append]; omega), List.getElem?_append_right (by omega), Nat.add_sub_cancel_left]
          exact hj
        have := hD.1 _ _ _ _ e1 e2 rfl
        omega
  · obtain ⟨e1, h1⟩ := hold i p hi
    obtain ⟨e2, h2⟩ := hold j q hj
    exact hD.1 i j _ _ h1 h2 he
  · obtain ⟨e1, h1⟩ := hold k q hkq
    exact hD.2 k (q.1, e1) h1
/-! CONTRACTS: what reads, what writes -/
abbrev RdP (G : Gx) (ws : va_W) (As : List Value) : Array Value → State → Prop := va_Pc As (fun U => va_P G.1 vwCl ws U.heap ∧ EV G U)
abbrev WrP (G : Gx) (ws : va_W) (As : List Value) : Array Value → State → Prop := va_Pc As (fun U => va_P G.1 vwCl ws U.heap ∧ EV G U ∧ va_D (fun _ => True) ws)
theorem RdP.blind {G : Gx} {ws : va_W} {As : List Value} : FrameBlind (RdP G ws As) := fun a U g mk q => ⟨q.1, q.2.1, EV.same (u := U) (U := U.calling g mk a) rfl q.2.2⟩
theorem WrP.blind {G : Gx} {ws : va_W} {As : List Value} : FrameBlind (WrP G ws As) := fun a U g mk q => ⟨q.1, q.2.1, EV.same (u := U) (U := U.calling g mk a) rfl q.2.2.1, q.2.2.2⟩
theorem RdP.preS {G : Gx} {s : State} {H : Heap} {ws : va_W} {As : List Value} (hP : va_P G.1 vwCl ws H) (hE : EV G s) : PreS s H (RdP G ws As) As := ⟨RdP.blind, fun U hU hW => ⟨rfl, by rw [hU]; exact hP, hE.warm hW⟩⟩
theorem WrP.preS {G : Gx} {s : State} {H : Heap} {ws : va_W} {As : List Value} {A : Nat → Prop} (hP : va_P G.1 vwCl ws H) (hE : EV G s) (hD : va_D A ws) : PreS s H (WrP G ws As) As := ⟨WrP.blind, fun U hU hW => ⟨rfl, by rw [hU]; exact hP, hE.warm hW, hD.weaken (fun _ _ _ _ => trivial)⟩⟩
theorem RdP.preV {G : Gx} {s : State} {H : Heap} {ws : va_W} {b : Nat} {As : List Value} (q0 ci : Nat) {C : String} {T : u_T} {N : Nat} {fs : List Value} (he : ws[q0]? = some (b, .inr (ci, fs))) (hc : vwCl[ci]? = some (C, T, N)) (hP : va_P G.1 vwCl ws H) (hE : EV G s) : PreV s H C b (RdP G ws (.ref b :: As)) As :=
  ⟨RdP.blind, va_recv hE.1 hP hc he, fun U hU hW => ⟨rfl, by rw [hU]; exact hP, hE.warm hW⟩⟩
theorem WrP.preV {G : Gx} {s : State} {H : Heap} {ws : va_W} {b : Nat} {As : List Value} {A : Nat → Prop} (q0 ci : Nat) {C : String} {T : u_T} {N : Nat} {fs : List Value} (he : ws[q0]? = some (b, .inr (ci, fs))) (hc : vwCl[ci]? = some (C, T, N)) (hP : va_P G.1 vwCl ws H) (hE : EV G s) (hD : va_D A ws) : PreV s H C b (WrP G ws (.ref b :: As)) As :=
  ⟨WrP.blind, va_recv hE.1 hP hc he, fun U hU hW => ⟨rfl, by rw [hU]; exact hP, hE.warm hW, hD.weaken (fun _ _ _ _ => trivial)⟩⟩
section XC
variable {p : Program} {l : Launch} {e : Env} {R : Room} {s : State} {m : MethodId} {args : Array Value} {below : List Frame} {meth : Method} {c : Code} {H : Heap} {locs : List Loc} {cells slots : Nat} {Q : State → Prop}
variable {cc : ByteArray} {pc : Nat} {ls : Array Slot} {rest st0 : List Value} {a : Array Value}
/-- behind a call that reads: an int, a long -/
theorem x_ri {post : Int32 → Prop} (hr : va_Run p l e R s m args below meth c H locs cells slots 0 0 (F0 m pc ls st0) rest (vp_Si post a) (fun _ => False))
    (kk : ∀ r : Int32, post r → W p l e R s m args below meth c H locs cells slots Q (F0 m (pc + 3) ls (.int r :: rest))) : W p l e R s m args below meth c H locs cells slots Q (F0 m pc ls st0) := by
  intro T hT X
  obtain ⟨v, st₀, t, T', L, h0, X', hL, e1, e2, ⟨r, hv, hp, hh⟩, st⟩ := hr T hT X
  cases hv
  obtain ⟨t2, a1, b1⟩ := kk r hp T' (by rw [e1, hh, h0]) (Stand.forget X' (fun q h => (hL q h).elim))
  exact ⟨t2, st t2 a1, b1⟩
theorem x_rl {post : Int64 → Prop} (hr : va_Run p l e R s m args below meth c H locs cells slots 0 0 (F0 m pc ls st0) rest (vp_Sl post a) (fun _ => False))
    (kk : ∀ r : Int64, post r → W p l e R s m args below meth c H locs cells slots Q (F0 m (pc + 3) ls (.long r :: rest))) : W p l e R s m args below meth c H locs cells slots Q (F0 m pc ls st0) := by
  intro T hT X
  obtain ⟨v, st₀, t, T', L, h0, X', hL, e1, e2, ⟨r, hv, hp, hh⟩, st⟩ := hr T hT X
  cases hv
  obtain ⟨t2, a1, b1⟩ := kk r hp T' (by rw [e1, hh, h0]) (Stand.forget X' (fun q h => (hL q h).elim))
  exact ⟨t2, st t2 a1, b1⟩
theorem x_rq {post : Option Nat → Prop} (hr : va_Run p l e R s m args below meth c H locs cells slots 0 0 (F0 m pc ls st0) rest (va_Sq post a) (fun _ => False))
    (kk : ∀ r : Option Nat, post r → W p l e R s m args below meth c H locs cells slots Q (F0 m (pc + 3) ls (va_rf r :: rest))) : W p l e R s m args below meth c H locs cells slots Q (F0 m pc ls st0) := by
  intro T hT X
  obtain ⟨v, st₀, t, T', L, h0, X', hL, e1, e2, ⟨r, hv, hp, hh⟩, st⟩ := hr T hT X
  cases hv
  obtain ⟨t2, a1, b1⟩ := kk r hp T' (by rw [e1, hh, h0]) (Stand.forget X' (fun q h => (hL q h).elim))
  exact ⟨t2, st t2 a1, b1⟩
/-- two longs compared, and the branch behind it -/
theorem x_lge (hx : p.tables.exec = Jvm.exec) (hb : c.code = cc) {x y : Int64} {off : Int} {tgt : Nat} (h1 : decode cc pc = .ok (.lcmp, 1)) (h2 : decode cc (pc + 1) = .ok (.ifCond .ge off, 3)) (ht : ((pc + 1 : Nat) : Int) + off = (tgt : Int))
    (ky : y ≤ x → W p l e R s m args below meth c H locs cells slots Q (F0 m tgt ls rest)) (kn : ¬ y ≤ x → W p l e R s m args below meth c H locs cells slots Q (F0 m (pc + 1 + 3) ls rest)) : W p l e R s m args below meth c H locs cells slots Q (F0 m pc ls (.long y :: .long x :: rest)) :=
  W.lcmp hx hb h1 (lv_if_ge hx hb h2 ht (fun h => ky ((lg_cmp_ge x y).mp h)) (fun h => kn (fun q => h ((lg_cmp_ge x y).mpr q))))
theorem x_lle (hx : p.tables.exec = Jvm.exec) (hb : c.code = cc) {x y : Int64} {off : Int} {tgt : Nat} (h1 : decode cc pc = .ok (.lcmp, 1)) (h2 : decode cc (pc + 1) = .ok (.ifCond .le off, 3)) (ht : ((pc + 1 : Nat) : Int) + off = (tgt : Int))
    (ky : x ≤ y → W p l e R s m args below meth c H locs cells slots Q (F0 m tgt ls rest)) (kn : ¬ x ≤ y → W p l e R s m args below meth c H locs cells slots Q (F0 m (pc + 1 + 3) ls rest)) : W p l e R s m args below meth c H locs cells slots Q (F0 m pc ls (.long y :: .long x :: rest)) :=
  W.lcmp hx hb h1 (lv_if_le hx hb h2 ht (fun h => ky ((lg_cmp_le x y).mp h)) (fun h => kn (fun q => h ((lg_cmp_le x y).mpr q))))
theorem x_lgt (hx : p.tables.exec = Jvm.exec) (hb : c.code = cc) {x y : Int64} {off : Int} {tgt : Nat} (h1 : decode cc pc = .ok (.lcmp, 1)) (h2 : decode cc (pc + 1) = .ok (.ifCond .gt off, 3)) (ht : ((pc + 1 : Nat) : Int) + off = (tgt : Int))
    (ky : y < x → W p l e R s m args below meth c H locs cells slots Q (F0 m tgt ls rest)) (kn : ¬ y < x → W p l e R s m args below meth c H locs cells slots Q (F0 m (pc + 1 + 3) ls rest)) : W p l e R s m args below meth c H locs cells slots Q (F0 m pc ls (.long y :: .long x :: rest)) :=
  W.lcmp hx hb h1 (lv_if_gt hx hb h2 ht (fun h => ky ((lg_cmp_gt x y).mp h)) (fun h => kn (fun q => h ((lg_cmp_gt x y).mpr q))))
theorem x_llt (hx : p.tables.exec = Jvm.exec) (hb : c.code = cc) {x y : Int64} {off : Int} {tgt : Nat} (h1 : decode cc pc = .ok (.lcmp, 1)) (h2 : decode cc (pc + 1) = .ok (.ifCond .lt off, 3)) (ht : ((pc + 1 : Nat) : Int) + off = (tgt : Int))
    (ky : x < y → W p l e R s m args below meth c H locs cells slots Q (F0 m tgt ls rest)) (kn : ¬ x < y → W p l e R s m args below meth c H locs cells slots Q (F0 m (pc + 1 + 3) ls rest)) : W p l e R s m args below meth c H locs cells slots Q (F0 m pc ls (.long y :: .long x :: rest)) :=
  W.lcmp hx hb h1 (lv_if_lt hx hb h2 ht (fun h => ky ((lg_cmp_lt x y).mp h)) (fun h => kn (fun q => h ((lg_cmp_lt x y).mpr q))))
theorem x_leq (hx : p.tables.exec = Jvm.exec) (hb : c.code = cc) {x y : Int64} {off : Int} {tgt : Nat} (h1 : decode cc pc = .ok (.lcmp, 1)) (h2 : decode cc (pc + 1) = .ok (.ifCond .eq off, 3)) (ht : ((pc + 1 : Nat) : Int) + off = (tgt : Int))
    (ky : x = y → W p l e R s m args below meth c H locs cells slots Q (F0 m tgt ls rest)) (kn : ¬ x = y → W p l e R s m args below meth c H locs cells slots Q (F0 m (pc + 1 + 3) ls rest)) : W p l e R s m args below meth c H locs cells slots Q (F0 m pc ls (.long y :: .long x :: rest)) :=
  W.lcmp hx hb h1 (lv_if_eq hx hb h2 ht (fun h => ky ((lg_cmp_eq x y).mp h)) (fun h => kn (fun q => h ((lg_cmp_eq x y).mpr q))))
theorem x_lne (hx : p.tables.exec = Jvm.exec) (hb : c.code = cc) {x y : Int64} {off : Int} {tgt : Nat} (h1 : decode cc pc = .ok (.lcmp, 1)) (h2 : decode cc (pc + 1) = .ok (.ifCond .ne off, 3)) (ht : ((pc + 1 : Nat) : Int) + off = (tgt : Int))
    (ky : ¬ x = y → W p l e R s m args below meth c H locs cells slots Q (F0 m tgt ls rest)) (kn : x = y → W p l e R s m args below meth c H locs cells slots Q (F0 m (pc + 1 + 3) ls rest)) : W p l e R s m args below meth c H locs cells slots Q (F0 m pc ls (.long y :: .long x :: rest)) :=
  W.lcmp hx hb h1 (lv_if_ne hx hb h2 ht (fun h => ky (fun q => h ((lg_cmp_eq x y).mpr q))) (fun h => kn ((lg_cmp_eq x y).mp h)))
end XC
