section XT2
variable {p : Program} {l : Launch} {e : Env} {R : Room} {s : State} {m : MethodId} {args : Array Value} {below : List Frame} {meth : Method} {c : Code} {H : Heap} {locs : List Loc} {cells slots : Nat} {Q : State → Prop}
variable {cc : ByteArray} {pc : Nat} {ls : Array Slot} {rest st0 : List Value}
/-- a call that throws what the caller's one handler catches: the walk goes on there -/
theorem x_callT {y : MethodName} {bytes : ByteArray} {maxL nL n index : Nat} {ret : Option FieldType} {ws : List Cond} {rm : Room} {Pc : Array Value → State → Prop} {Ts : List Cond} {own C : String} {b : Addr} {As : List Value}
    (S : CallFix p m c cc nL s args Ts own) (hM : MetFree l y (headSpec ws rm) Pc (fun _ _ _ _ _ => True) TQ) (cw : CallW R s args own C index y bytes maxL ret ws rm 1 6 n) (hp : PreV s H C b Pc As)
    (hn : As.length = n) (hsize : ls.size = nL) (hstack : st0 = As.reverse ++ .ref b :: rest) (hW : 2 * (F0 m pc ls rest).monitorRoom + (rest.map fun v => v.category).sum ≤ 8) (hdg : decode cc pc = .ok (.invokevirtual index, 3)) (hf : cells + 1 ≤ R.cells ∧ slots + 6 ≤ R.slots)
    {r : ExceptionTableEntry} (htab : c.exceptionTable.toList = [r]) (hcov : covers r pc = true) (h0 : r.catchType ≠ 0) (hcl : (Cond.classLink own r.catchType RJx00060).before args s = true) (hcast : (Cond.castable RJx00060 RJx00060).before args s = true)
    (kk : ∀ (x : Addr) (H1 : Heap), H.size ≤ H1.size → (∀ q : Nat, q < H.size → H1[q]? = H[q]?) → W p l e R s m args below meth c H1 locs (cells + 1) (slots + 6) Q (F0 m r.handlerPc ls [.ref x])) : W p l e R s m args below meth c H locs cells slots Q (F0 m pc ls st0) := by
  obtain ⟨⟨hrc, hrs, hfr, hlo, hws, hcw, hcode, hini, hy, hlen, hlink⟩, hin, hse⟩ := cw
  obtain ⟨hx, hb, hml, ho, -⟩ := S
  obtain ⟨hblind, ⟨cellB, hcB, hoB, hclB⟩, hPc⟩ := hp
  intro T hT X
  obtain ⟨mk, methM, hnamed, hmethM, hstM, habM⟩ := Cond.instanceMethod_spec hin
  obtain ⟨methM', cM, hmethM', hcodeM, -, hlocalsM, -, -, -, hsigM⟩ := Cond.code_spec hnamed hcode
  cases hmethM.symm.trans hmethM'
  obtain ⟨c2, r2, m2, q1, q2, q3, q4, kP, hkP, hkPi⟩ := Cond.selects_spec hse
  cases hclB.symm.trans q1
  cases (State.methodFound?_of_named hnamed hy).symm.trans q2
  cases hnamed.symm.trans q3
  have hselP : selectMethod e.platform s.vm cellB.cls mk = .method mk := by rw [Launch.admits_selectMethod X.admits]; exact q4
  obtain ⟨vm₁, X₁, hstep₁⟩ := X.invokevirtual hx ho hlink hnamed hmethM hstM hkP hkPi hy (a := b) (cell := cellB) (by rw [hT]; exact hcB)
    (fun z h => by rw [h] at hoB; cases hoB) hselP hmethM habM hkP hkPi (g := F0 m pc ls st0) rfl (argsL := As) (rest := rest) (by rw [hn]; exact hlen _ hsigM) hstack (by rw [hb]; exact hdg)
  generalize hUe : T.setVm vm₁ = U at X₁ hstep₁
  have hUh : U.heap = H := by rw [← hUe]; exact hT
  generalize hge : (F0 m pc ls rest : JFrame) = g
  have hgm : g.method = m := by rw [← hge]
  have hdg2 : decode c.code g.pc = .ok (.invokevirtual index, 3) := by rw [← hge, hb]; exact hdg
  have hPU : Pc (Value.ref b :: As).toArray U := hPc U hUh X₁.warmed
  generalize (Value.ref b :: As).toArray = a at hPU hstep₁
  have h : At U g.method c below := by rw [hgm]; exact X₁.here
  have hn₁ := X₁.named hnamed
  have hcodeU : (Cond.code y bytes maxL ret).before a U = true := hws _ hcw _ _ X₁.warmed
  obtain ⟨methY, cY, hmY, hcY, -, hlY, -, -, -, -⟩ := Cond.code_spec hn₁ hcodeU
  obtain ⟨kY, hkY, -⟩ := className_of_methodNamed hn₁
  have hiniU : (Cond.initialized y.cls).before a U = true := word_at X₁.warmed (Or.inl (by first | rfl | simp [Cond.onTables, Cond.keeps, Cond.steady])) hini
  have hinitY : kY.init = .initialized := Cond.initialized_spec (findClass_of_methodNamed hn₁) hkY hiniU
  have happ : (headSpec ws rm).appliesLoose y e.platform (U.calling g mk a) = true :=
    Spec.appliesLoose_calling (g := g) h hdg2 hn₁ hkY hinitY
      (X₁.room_calling (g := g) (R' := (headSpec ws rm).room) (by rw [← hge]; exact hsize.trans hml.symm) hmY hcY hfr (by rw [hlY, ← hge]; exact Nat.le_trans (Nat.add_le_add_right (Nat.add_le_add_right hW _) _) hlo) (by rw [show (headSpec ws rm).room.cells = 1 from hrc]; exact hf.1) (by rw [show (headSpec ws rm).room.slots = 6 from hrs]; exact hf.2))
      (atoms_intro fun w hw => hws w hw _ _ X₁.warmed)
  obtain ⟨mid, hmid⟩ := h.above
  have hfrm : (U.setTop g).frames = (.java g :: mid) ++ below := by rw [State.frames_setTop' g h.top, hmid]; rfl
  obtain ⟨o, s₂, hsteps, -, hend, hq⟩ := Steps.callFree hM p X₁.admits X₁.cas X₁.clock (acts := []) hfrm happ (hblind _ _ _ _ hPU) trivial
  have hq' : TQ a (U.calling g mk a) o s₂ := hq
  rw [State.frames_setTop' g h.top] at hend
  obtain ⟨v, ce, rfl, hce, hcest, hcecls, hW₂, hsame0⟩ := hq'
  obtain ⟨e2, z2, z3, z4, z5, z6⟩ := id hsame0
  have e3 : s₂ = ({ (U.calling g mk a).setFrames s₂.frames with heap := s₂.heap, slotsUsed := s₂.slotsUsed } : State).setVm s₂.vm := by
    have : s₂ = ({ s₂ with vm := (U.calling g mk a).vm } : State).setVm s₂.vm := rfl
    rw [e2] at this
    exact this
  have hf₂ : s₂.frames = .throwing v :: .java g :: U.frames.tail := hend
  have hW' : U.WarmedH s₂.vm := hW₂
  obtain ⟨g₀, hg0⟩ := Option.isSome_iff_exists.mp h.top
  obtain ⟨rf, hr⟩ := State.topJava?_eq_some.mp hg0
  have hs₂ : s₂ = ((({ U with heap := s₂.heap, slotsUsed := s₂.slotsUsed } : State).setVm s₂.vm).setTop g).pushFrame (.throwing v) := by
    have hr' : (({ U with heap := s₂.heap, slotsUsed := s₂.slotsUsed } : State).setVm s₂.vm).frames = .java g₀ :: rf := hr
    refine e3.trans ?_
    rw [hf₂, State.calling_eq h.top, State.setFrames_setFrames, State.pushFrame, State.frames_setTop _ hr', State.setTop_of_frames _ hr', State.setFrames_setFrames, hr]
    rfl
  have hsame : U.sameButNew ({ U with heap := s₂.heap, slotsUsed := s₂.slotsUsed } : State) [] 1 6 := by
    refine ⟨?_, z2, z3, z4, z5, z6⟩
    obtain ⟨t, ht, -⟩ := State.frames_cons hr
    show ({ U with heap := s₂.heap, slotsUsed := s₂.slotsUsed } : State) = { U.setFrames U.frames with heap := s₂.heap, slotsUsed := s₂.slotsUsed }
    rw [State.setFrames_self ht]
  subst hgm
  have X₂ : Stand p l e R s g.method args below meth c (({ U with heap := s₂.heap, slotsUsed := s₂.slotsUsed } : State).setVm s₂.vm) (locs ++ []) (cells + 1) (slots + 6) :=
    ⟨X₁.admits, X₁.cas, X₁.clock, X₁.frames, X₁.room, X₁.hears, X₁.method, X₁.code, (X₁.here.setHeapUsed s₂.heap s₂.slotsUsed).setVm hW'.alike, X₁.tail, State.WarmedH.trans X₁.warmed hW', X₁.limits, X₁.bytes, X₁.same.trans (hsame.setVm s.vm)⟩
  rw [List.append_nil] at X₂
  generalize hVe : (({ U with heap := s₂.heap, slotsUsed := s₂.slotsUsed } : State).setVm s₂.vm) = V at X₂ hs₂
  have hVh : V.heap = s₂.heap := by rw [← hVe]; rfl
  have hcell : V.heap[v]? = some ce := by rw [hVh]; exact hce
  -- the class of the thrown object, and the handler's
  have hpl : e.platform.magicAccessors = ({} : Platform).magicAccessors := by rw [X.admits.platform]
  obtain ⟨cT, hcT, hclk⟩ := Cond.classLink_spec ho hcl e.platform hpl
  have hceU : U.vm.findClass RJx00060 = some ce.cls := hcecls
  have hce2 : s.vm.findClass RJx00060 = some ce.cls := by rw [← X₁.warmed.alike.findClass]; exact hceU
  cases hcT.symm.trans hce2
  obtain ⟨c3, c4, hc3, hc4, hasg⟩ := Cond.castable_spec hcast
  cases hc3.symm.trans hce2
  cases hc4.symm.trans hce2
  obtain ⟨dk, _, _, kt, hd, _, _, _, _, hkt, _, hopen⟩ := hclk.here
  have hal := X₂.warmed.alike
  obtain ⟨kt', hkt', -⟩ := hal.2.2 _ _ hkt
  have hWn : s.WarmedH (V.vm.noted g.method.cls r.catchType (.cls ce.cls)) := X₂.warmed.noted hd hopen (State.rightAt_cls hclk)
  have X₃ := X₂.noted hWn
  have hfind : xt_F e ((V.setTop g).pushFrame (.throwing v)) g v r.handlerPc (V.vm.noted g.method.cls r.catchType (.cls ce.cls)) :=
    xt_one (s := (V.setTop g).pushFrame (.throwing v)) (meth := meth) (code := c) X₂.method' X₂.code htab (by rw [← hge]; exact hcov) h0 (c := ce.cls) (cell := ce) (X₂.warmed.classLinks hclk) hcell (VmData.ne_statics_of hcest) ⟨kt', hkt'⟩ ⟨kt', hkt'⟩ (by rw [show ((V.setTop g).pushFrame (.throwing v)).vm = V.vm from rfl, hal.assignable]; exact hasg)
  have hkeep : ∀ q : Nat, q < H.size → s₂.heap[q]? = H[q]? := by
    intro q hq
    have := same_kept hsame q (by rw [hUh]; exact hq)
    rw [hUh] at this
    exact this
  obtain ⟨tg, st, hQt⟩ := kk v s₂.heap (by have := z2; rw [show (U.calling g mk a).heap = U.heap from rfl, hUh] at this; exact this) hkeep (V.setVm (V.vm.noted g.method.cls r.catchType (.cls ce.cls))) hVh X₃
  refine ⟨tg, hstep₁ _ fun acts => ?_, hQt⟩
  rw [doInvoke_state]
  have hge2 : ({ (F0 g.method pc ls st0) with stack := rest } : JFrame) = g := hge
  have key : Steps p.tables e below (doInvoke e (U.setTop g) [] mk a).1 tg := by
    refine hsteps.trans ?_
    rw [hs₂]
    refine xt_caught X₂.here hfind ?_
    have : ({ g with pc := r.handlerPc, stack := [.ref v] } : JFrame) = F0 g.method r.handlerPc ls [.ref v] := by rw [← hge]
    rw [this]
    exact st
  first
  | exact key
  | (rw [hge2]; exact key)
  | (show Steps p.tables e below (doInvoke e (U.setTop ({ (F0 g.method pc ls st0) with stack := rest } : JFrame)) [] mk a).1 tg; rw [hge2]; exact key)
end XT2
