/-! WHAT MAKES CELLS -/
abbrev NwP (G : Gx) (sz : Nat) (ws : va_W) (As : List Value) : Array Value → State → Prop := va_Pc As (fun U => U.heap.size = sz ∧ va_P G.1 vwCl ws U.heap ∧ EV G U ∧ va_D (fun _ => True) ws)
theorem NwP.blind {G : Gx} {sz : Nat} {ws : va_W} {As : List Value} : FrameBlind (NwP G sz ws As) := fun a U g mk q => ⟨q.1, q.2.1, q.2.2.1, EV.same (u := U) (U := U.calling g mk a) rfl q.2.2.2.1, q.2.2.2.2⟩
theorem NwP.preS {G : Gx} {s : State} {H : Heap} {ws : va_W} {As : List Value} {A : Nat → Prop} (hP : va_P G.1 vwCl ws H) (hE : EV G s) (hD : va_D A ws) : PreS s H (NwP G H.size ws As) As := ⟨NwP.blind, fun U hU hW => ⟨rfl, by rw [hU], by rw [hU]; exact hP, hE.warm hW, hD.weaken (fun _ _ _ _ => trivial)⟩⟩
theorem NwP.preV {G : Gx} {s : State} {H : Heap} {ws : va_W} {b : Nat} {As : List Value} {A : Nat → Prop} {C : String} {T : u_T} {N ci : Nat} {fs : List Value} (hr : ∃ q0 : Nat, ws[q0]? = some (b, .inr (ci, fs))) (hc : vwCl[ci]? = some (C, T, N)) (hP : va_P G.1 vwCl ws H) (hE : EV G s) (hD : va_D A ws) : PreV s H C b (NwP G H.size ws (.ref b :: As)) As := by
  obtain ⟨q0, he⟩ := hr
  exact ⟨NwP.blind, va_recv hE.1 hP hc he, fun U hU hW => ⟨rfl, by rw [hU], by rw [hU]; exact hP, hE.warm hW, hD.weaken (fun _ _ _ _ => trivial)⟩⟩
theorem x_last {D : va_G} {cl : List vw_C} {H : Heap} (a b : va_W) (h : va_P D cl (a ++ b) H) : va_P D cl b H := x_mid a b [] (List.append_nil _).symm h
theorem x_lastD {A : Nat → Prop} (a b : va_W) (h : va_D A (a ++ b)) : va_D A b := x_midD a b [] (List.append_nil _).symm h
theorem x_front {D : va_G} {cl : List vw_C} {H : Heap} (a b : va_W) (h : va_P D cl (a ++ b) H) : va_P D cl a H := x_mid [] a b rfl h
theorem x_frontD {A : Nat → Prop} (a b : va_W) (h : va_D A (a ++ b)) : va_D A a := x_midD [] a b rfl h
theorem x_freeN {A0 : Nat → Prop} {H0 H : Heap} {locs : List Loc} (a b : va_W) (hD : va_D A0 (a ++ b)) (hS : va_S A0 H0 H locs) (hA : ∀ q, H0.size ≤ q → A0 q) : ∀ q, va_A b H.size q → A0 q := by
  rintro q (⟨k, e, hk⟩ | h)
  · exact (x_lastD a b hD).2 k _ hk
  · exact hA q (Nat.le_trans hS.1 h)
/-- what a maker wrote and made behind the rest -/
theorem x_joinN {A0 : Nat → Prop} {D : va_G} {cl : List vw_C} {H H1 : Heap} (a b b1 : va_W) (hP : va_P D cl (a ++ b) H) (hD : va_D A0 (a ++ b)) (hk : ∀ q : Nat, q < H.size → ¬ va_A b H.size q → H1[q]? = H[q]?) (hF : ∀ q, va_A b H.size q → A0 q) (hP1 : va_P D cl b1 H1) (hD1 : va_D (va_A b H.size) b1) :
    va_P D cl (a ++ b1) H1 ∧ va_D A0 (a ++ b1) := by
  have hnot : ∀ (i : Nat) (p : Nat × va_E), a[i]? = some p → ¬ va_A b H.size p.1 := by
    rintro i p hi (⟨k, e, hk2⟩ | h)
    · have hil : i < a.length := (List.getElem?_eq_some_iff.mp hi).1
      have e1 : (a ++ b)[i]? = some p := by rw [List.getElem?_append_left hil]; exact hi
      have e2 : (a ++ b)[a.length + k]? = some (p.1, e) := by rw [List.getElem?_append_right (by omega), Nat.add_sub_cancel_left]; exact hk2
      have := hD.1 _ _ _ _ e1 e2 rfl
      omega
    · have := (x_front a b hP i p hi).lt
      omega
  refine ⟨((x_front a b hP).kept (fun i p hi => hk p.1 (x_front a b hP i p hi).lt (hnot i p hi))).app hP1, (x_frontD a b hD).app (hD1.weaken (fun _ q _ h => hF q.1 h)) (fun i j p q hi hj he => ?_)⟩
  exact hnot i p hi (by rw [he]; exact hD1.2 j q hj)
section XN
variable {p : Program} {l : Launch} {e : Env} {R : Room} {s : State} {m : MethodId} {args : Array Value} {below : List Frame} {meth : Method} {c : Code} {H : Heap} {locs : List Loc} {cells slots : Nat} {Q : State → Prop}
variable {cc : ByteArray} {pc : Nat} {ls : Array Slot} {rest : List Value} {G : Gx} {A : Nat → Prop} {ws : va_W} {H0 : Heap}
theorem x_cls {tys : List (ClassId × FieldType)} {D : va_G} {cl : List vw_C} {cA cB : ClassId} {ty : FieldType} (hE : va_K D cl tys s) (k : Nat) (hk : tys[k]? = some (cB, ty)) (h : va_K D cl (tys ++ [(cA, ty)]) s) : cA = cB := by
  have h1 := (hE.2 k _ hk).2
  have h2 := (h.2 tys.length (cA, ty) (by rw [List.getElem?_append_right (Nat.le_refl _), Nat.sub_self]; rfl)).2
  have key : ∀ {c0 : ClassId}, va_RA s c0 ty → s.vm.findClass ("[" ++ ty.toString) = some c0 := by
    intro c0 h
    cases ty with
    | object C => obtain ⟨_, _, _, _, _, h4⟩ := h; exact h4
    | _ => exact h
  exact Option.some.inj ((key h2).symm.trans (key h1))
theorem x_newJ (hexec : p.tables.exec = Jvm.exec) (hb : c.code = cc) (harr : (Cond.arrayClass .long).before args s = true) (hE : EV G s) (hP : va_P G.1 vwCl ws H) (hD : va_D A ws) (hS : va_S A H0 H locs) (hA : ∀ q, H0.size ≤ q → A q) {n : Int32} {N : Nat} (hn : ¬ n < 0) (hN : n.toNatClampNeg = N) (hby : N * componentBytes .long ≤ 536870912) (hcells : cells + 1 ≤ R.cells) (hslots : slots + N ≤ R.slots) (hdg : decode cc pc = .ok (.newarray .long, 2))
    (kk : ∀ (q : Nat) (H1 : Heap), va_P G.1 vwCl (ws ++ [(q, .inl (kJ G, N, .inr (.inl (fun _ => 0))))]) H1 → va_D A (ws ++ [(q, .inl (kJ G, N, .inr (.inl (fun _ => 0))))]) → va_S A H0 H1 locs → W p l e R s m args below meth c H1 locs (cells + 1) (slots + N) Q (F0 m (pc + 2) ls (.ref q :: rest))) : W p l e R s m args below meth c H locs cells slots Q (F0 m pc ls (.int n :: rest)) := by
  refine va_newa (atype := .long) (ty := .long) (a0 := (N, .inr (.inl (fun _ => 0)))) hexec hb harr rfl hE.1 hP hD hS hA (fun cA => (vp_cell_l cA N _).trans (congrArg (arrV cA N) (funext (fun _ => rfl)))) hn hN hby hcells hslots hdg (fun q cA H1 hK hP hD hS => ?_)
  obtain rfl := x_cls hE.1 1 rfl hK
  exact kk q H1 hP hD hS
theorem x_newI (hexec : p.tables.exec = Jvm.exec) (hb : c.code = cc) (harr : (Cond.arrayClass .int).before args s = true) (hE : EV G s) (hP : va_P G.1 vwCl ws H) (hD : va_D A ws) (hS : va_S A H0 H locs) (hA : ∀ q, H0.size ≤ q → A q) {n : Int32} {N : Nat} (hn : ¬ n < 0) (hN : n.toNatClampNeg = N) (hby : N * componentBytes .int ≤ 536870912) (hcells : cells + 1 ≤ R.cells) (hslots : slots + N ≤ R.slots) (hdg : decode cc pc = .ok (.newarray .int, 2))
    (kk : ∀ (q : Nat) (H1 : Heap), va_P G.1 vwCl (ws ++ [(q, .inl (kI G, N, .inl (fun _ => 0)))]) H1 → va_D A (ws ++ [(q, .inl (kI G, N, .inl (fun _ => 0)))]) → va_S A H0 H1 locs → W p l e R s m args below meth c H1 locs (cells + 1) (slots + N) Q (F0 m (pc + 2) ls (.ref q :: rest))) : W p l e R s m args below meth c H locs cells slots Q (F0 m pc ls (.int n :: rest)) := by
  refine va_newa (atype := .int) (ty := .int) (a0 := (N, .inl (fun _ => 0))) hexec hb harr rfl hE.1 hP hD hS hA (fun cA => (vp_cell_i cA N _).trans (congrArg (arrV cA N) (funext (fun _ => rfl)))) hn hN hby hcells hslots hdg (fun q cA H1 hK hP hD hS => ?_)
  obtain rfl := x_cls hE.1 0 rfl hK
  exact kk q H1 hP hD hS
theorem x_newZ (hexec : p.tables.exec = Jvm.exec) (hb : c.code = cc) (harr : (Cond.arrayClass .boolean).before args s = true) (hE : EV G s) (hP : va_P G.1 vwCl ws H) (hD : va_D A ws) (hS : va_S A H0 H locs) (hA : ∀ q, H0.size ≤ q → A q) {n : Int32} {N : Nat} (hn : ¬ n < 0) (hN : n.toNatClampNeg = N) (hby : N * componentBytes .boolean ≤ 536870912) (hcells : cells + 1 ≤ R.cells) (hslots : slots + N ≤ R.slots) (hdg : decode cc pc = .ok (.newarray .boolean, 2))
    (kk : ∀ (q : Nat) (H1 : Heap), va_P G.1 vwCl (ws ++ [(q, .inl (kZ G, N, .inl (fun _ => 0)))]) H1 → va_D A (ws ++ [(q, .inl (kZ G, N, .inl (fun _ => 0)))]) → va_S A H0 H1 locs → W p l e R s m args below meth c H1 locs (cells + 1) (slots + N) Q (F0 m (pc + 2) ls (.ref q :: rest))) : W p l e R s m args below meth c H locs cells slots Q (F0 m pc ls (.int n :: rest)) := by
  refine va_newa (atype := .boolean) (ty := .boolean) (a0 := (N, .inl (fun _ => 0))) hexec hb harr rfl hE.1 hP hD hS hA (fun cA => (vp_cell_i cA N _).trans (congrArg (arrV cA N) (funext (fun _ => rfl)))) hn hN hby hcells hslots hdg (fun q cA H1 hK hP hD hS => ?_)
  obtain rfl := x_cls hE.1 2 rfl hK
  exact kk q H1 hP hD hS
theorem x_newM (hexec : p.tables.exec = Jvm.exec) (hb : c.code = cc) {own : String} {index : Nat} (hown : s.vm.findClass own = some m.cls) (hcl : (Cond.classLink own index RX0).before args s = true) (hE : EV G s) (hP : va_P G.1 vwCl ws H) (hD : va_D A ws) (hS : va_S A H0 H locs) (hA : ∀ q, H0.size ≤ q → A q) {n : Int32} {N : Nat} (hn : ¬ n < 0) (hN : n.toNatClampNeg = N) (hby : N * 4 ≤ 536870912) (hcells : cells + 1 ≤ R.cells) (hslots : slots + N ≤ R.slots) (hdg : decode cc pc = .ok (.anewarray index, 3))
    (kk : ∀ (q : Nat) (H1 : Heap), va_P G.1 vwCl (ws ++ [(q, .inl (kM G, N, .inr (.inr (.inr (.inr (fun _ => none))))))]) H1 → va_D A (ws ++ [(q, .inl (kM G, N, .inr (.inr (.inr (.inr (fun _ => none))))))]) → va_S A H0 H1 locs → W p l e R s m args below meth c H1 locs (cells + 1) (slots + N) Q (F0 m (pc + 3) ls (.ref q :: rest))) : W p l e R s m args below meth c H locs cells slots Q (F0 m pc ls (.int n :: rest)) := by
  refine va_newq hexec hb hown hcl hE.2.2 hE.1 hP hD hS hA hn hN hby hcells hslots hdg (fun q cA H1 hK hP hD hS => ?_)
  obtain rfl := x_cls hE.1 3 rfl hK
  exact kk q H1 hP hD hS
end XN
