/-! WHAT IS THROWN, AND CAUGHT -/
def thN : List String := ["java/lang/IndexOutOfBoundsException", "java/lang/RuntimeException", "java/lang/Exception"]
def thA : List Cond := Bundle.ownAtoms RX3 56 RJx00060 thN
def isSt (w : Cond) : Bool := match w with
  | .isRef _ => true
  | .laysStatic _ _ _ => true
  | _ => false
def isDc (w : Cond) : Bool := match w with
  | .declares _ => true
  | .castable _ _ => true
  | _ => false
theorem isDc_or {w : Cond} (h : isDc w = true) : (∃ x, w = .declares x) ∨ ∃ a b, w = .castable a b := by
  unfold isDc at h
  split at h
  · exact Or.inl ⟨_, rfl⟩
  · exact Or.inr ⟨_, _, rfl⟩
  · cases h
def thW : List Cond := thA.filter (fun w => !isSt w)
abbrev zU : Cond := .isRef (.static "java/lang/Throwable" "UNASSIGNED_STACK" "[Ljava/lang/StackTraceElement;")
abbrev zS : Cond := .isRef (.static "java/lang/Throwable" "SUPPRESSED_SENTINEL" "Ljava/util/List;")
abbrev yU : Cond := .laysStatic "java/lang/Throwable" "UNASSIGNED_STACK" "[Ljava/lang/StackTraceElement;"
abbrev yS : Cond := .laysStatic "java/lang/Throwable" "SUPPRESSED_SENTINEL" "Ljava/util/List;"
set_option maxRecDepth 20000 in
theorem thW_kind : thW.all (fun w => goodWord w || isDc w) = true := by decide +kernel
set_option maxRecDepth 20000 in
theorem thW_tab : thW.all (fun w => w.onTables) = true := by decide +kernel
set_option maxRecDepth 20000 in
theorem thA_st : ∀ w ∈ thA, isSt w = true → w = zU ∨ w = zS ∨ w = yU ∨ w = yS := by decide +kernel
set_option maxRecDepth 20000 in
theorem thW_in : ∀ w ∈ thW, w ∈ lw_tbl := by decide +kernel
def TH (U : State) : Prop := ∀ w ∈ thW, va_Nw w U
theorem TH.warm {s U : State} (hW : s.WarmedH U.vm) (h : TH s) : TH U := by
  intro w hw
  have h1 := List.all_eq_true.mp thW_kind w hw
  rw [Bool.or_eq_true] at h1
  rcases h1 with h1 | h1
  · exact word_at hW (good_of_word h1) (h w hw)
  · rcases isDc_or h1 with ⟨x, rfl⟩ | ⟨a, b, rfl⟩
    · exact (h _ hw).warmD hW
    · exact va_Nw.warmC hW (h _ hw)
theorem TH.same {u U : State} (hv : u.vm = U.vm) (h : TH u) : TH U := fun w hw => (h w hw).same (List.all_eq_true.mp thW_tab w hw) hv
theorem zq_isRef {C n d : String} {A : Nat → Prop} {U : State} {args : Array Value} (h : va_Zq C n d A U U.heap) : (Cond.isRef (.static C n d)).before args U = true := by
  rcases h with h | ⟨t, h⟩
  · obtain ⟨cf, kf, fi, f, a, cell, h1, h2, h3, h4, h5, h6, h7, h8⟩ := h
    simp [Cond.before, Cond.holds, Cond.value, Term.eval, State.fieldNamed?, h1, h2, h4, h5, h6, h7]
  · obtain ⟨cf, kf, fi, f, a, cell, h1, h2, h3, h4, h5, h6, h7, h8⟩ := h
    simp [Cond.before, Cond.holds, Cond.value, Term.eval, State.fieldNamed?, h1, h2, h4, h5, h6, h7]
/-- a static field's place, as the word laysStatic has it -/
def LaS (n d : String) (U : State) (H : Heap) : Prop := ∃ (c : ClassId) (k : Class) (i : Nat) (f : Field) (a : Nat) (cell : Cell), U.vm.findClass "java/lang/Throwable" = some c ∧ U.fieldFound? "java/lang/Throwable" n d = some (c, k, i, f) ∧ f.isStatic = true ∧ k.statics = some a ∧ H[a]? = some cell ∧ cell.vm.isStatics = true ∧ cell.cls = c ∧ f.slot < cell.slots.size ∧ k.staticTypes[f.slot]? = some f.type
theorem LaS.of {n d : String} {U : State} {args : Array Value} (h : (Cond.laysStatic "java/lang/Throwable" n d).before args U = true) : LaS n d U U.heap := Cond.laysStatic_spec h
theorem LaS.use {n d : String} {U : State} {args : Array Value} (h : LaS n d U U.heap) : (Cond.laysStatic "java/lang/Throwable" n d).before args U = true := by
  obtain ⟨c, k, i, f, a, cell, h1, h2, h3, h4, h5, h6, h7, h8, h9⟩ := h
  simp [Cond.before, Cond.holds, Cond.value, h1, h2, h3, h4, h5, h6, h7, h8, h9]
theorem LaS.next {n d : String} {s U : State} {H : Heap} (h : LaS n d s s.heap) (hW : s.vm.Alike U.vm) (hk : ∀ q : Nat, q < s.heap.size → H[q]? = s.heap[q]?) : LaS n d U H := by
  obtain ⟨c, k, i, f, a, cell, h1, h2, h3, h4, h5, h6, h7, h8, h9⟩ := h
  obtain ⟨k', hi', he⟩ := State.fieldFound?_setVm hW h2
  exact ⟨c, k', i, f, a, cell, by rw [hW.findClass]; exact h1, hi', h3, by rw [he]; exact h4, by rw [hk a (Array.getElem?_eq_some_iff.mp h5).1]; exact h5, h6, h7, h8, by rw [he]; exact h9⟩
/-- what a throw needs of the state beside the world -/
def TX (sa : Nat) (U : State) : Prop := TH U ∧ vk_R RX3 54 "no such row" sa U ∧ va_Zq "java/lang/Throwable" "UNASSIGNED_STACK" "[Ljava/lang/StackTraceElement;" (fun _ => False) U U.heap ∧ va_Zq "java/lang/Throwable" "SUPPRESSED_SENTINEL" "Ljava/util/List;" (fun _ => False) U U.heap ∧ LaS "UNASSIGNED_STACK" "[Ljava/lang/StackTraceElement;" U U.heap ∧ LaS "SUPPRESSED_SENTINEL" "Ljava/util/List;" U U.heap
theorem TX.atoms {sa : Nat} {U : State} {args : Array Value} (h : TX sa U) : ∀ w ∈ Bundle.ownAtoms RX3 56 RJx00060 thN, w.before args U = true := by
  intro w hw
  by_cases hs : isSt w = true
  · rcases thA_st w hw hs with rfl | rfl | rfl | rfl
    · exact zq_isRef h.2.2.1
    · exact zq_isRef h.2.2.2.1
    · exact LaS.use h.2.2.2.2.1
    · exact LaS.use h.2.2.2.2.2
  · have hm : w ∈ thW := List.mem_filter.mpr ⟨hw, by rw [Bool.not_eq_true] at hs; rw [hs]; rfl⟩
    exact (h.1 w hm).use (List.all_eq_true.mp thW_tab w hm)
/-- the threads' tables warm, the old cells kept: the same -/
theorem TX.next {sa : Nat} {s U : State} {H : Heap} (h : TX sa s) (hU : U.heap = H) (hW : s.WarmedH U.vm) (hk : ∀ q : Nat, q < s.heap.size → H[q]? = s.heap[q]?) : TX sa U := by
  refine ⟨h.1.warm hW, h.2.1.warm hW, ?_, ?_, ?_, ?_⟩
  · rw [hU]; exact (va_Zq.moved hW.alike h.2.2.1).kept (fun a ha _ => hk a ha)
  · rw [hU]; exact (va_Zq.moved hW.alike h.2.2.2.1).kept (fun a ha _ => hk a ha)
  · rw [hU]; exact h.2.2.2.2.1.next hW.alike hk
  · rw [hU]; exact h.2.2.2.2.2.next hW.alike hk
def TQ : Array Value → State → Outcome → State → Prop := fun _ st o t => ∃ (x : Addr) (ce : Cell), o = .threw x ∧ t.heap[x]? = some ce ∧ ce.vm.isStatics = false ∧ st.vm.findClass RJx00060 = some ce.cls ∧ st.WarmedH t.vm ∧ st.sameButNew ({ t with vm := st.vm } : State) [] 1 6
def TZ (below : List Frame) (args : Array Value) (s : State) : State → Prop := fun t => ∃ o, t.status = .running ∧ Ended t below o ∧ TQ args s o t
theorem MetT.ofW {l : Launch} {y : MethodName} {ws ws' : List Cond} {rm : Room} {Pc : Array Value → State → Prop} {cc : ByteArray} {maxL : Nat} {ret : Option FieldType}
    (hy : plainName y.cls = true) (hw : ws = Cond.code y cc maxL ret :: ws')
    (body : ∀ p e s m args below meth c s₁, BodyLoose p l y (headSpec ws rm) cc maxL ret e s m args below meth c s₁ → c.maxLocals = maxL → Pc args s →
      W p l e (headSpec ws rm).room s m args below meth c s.heap [] 0 0 (TZ below args s) (entryFrame m args maxL)) : MetFree l y (headSpec ws rm) Pc (fun _ _ _ _ _ => True) TQ := by
  refine MetFree.of_bodyS (code := cc) (maxLocals := maxL) (ret := ret) hy ?_ ?_
  · intro args s m h hn
    obtain ⟨meth, c, h1, h2, h3, h4, h5, h6, -, -⟩ := Cond.code_spec hn (atoms_spec (ws := ws) h _ (by rw [hw]; exact List.mem_cons_self))
    exact ⟨meth, c, h1, h2, h3, h4, h5, h6⟩
  · intro p e s m args below meth c s₁ B hml hP _
    have hh0 : s₁.heap = s.heap := by rw [B.state]; rfl
    obtain ⟨t, a1, o, b1, b2, b3⟩ := body p e s m args below meth c s₁ B hml hP s₁ hh0 (Stand.of_body B)
    exact ⟨t, o, a1, b1, b2, b3⟩
section XT
variable {p : Program} {l : Launch} {e : Env} {R : Room} {s : State} {m : MethodId} {args : Array Value} {below : List Frame} {meth : Method} {c : Code} {H : Heap} {locs : List Loc} {cells slots : Nat} {Q : State → Prop}
variable {cc : ByteArray} {pc : Nat} {ls : Array Slot} {rest st0 : List Value}
/-- the constructor of the exception, and its throw, out of the method -/
theorem x_throwS (hexec : p.tables.exec = Jvm.exec) (hb : c.code = cc) (hml : c.maxLocals = ls.size) (hfl : l.flags = pinnedFlags ++ [noTraceFlag]) (hown : s.vm.findClass RX3 = some m.cls) (hlocks : meth.locks = false) (hno : c.exceptionTable.isEmpty = true)
    {sa : Nat} (hT : TX sa s) {str : Nat} {cX : ClassId} {kX : Class} (h1 : s.vm.findClass RJx00060 = some cX) (h2 : s.vm.classes[cX]? = some kX)
    (hR : 6 < R.frames ∧ 95 ≤ R.locals) (hd1 : decode cc pc = .ok (.invokespecial 56, 3)) (hd2 : decode cc (pc + 3) = .ok (.athrow, 1)) :
    W p l e R s m args below meth c (s.heap.push { cls := cX, slots := kX.instanceTypes.map defaultValue, vm := .none }) [] 1 6 (TZ below args s) (F0 m pc ls [.ref str, .ref s.heap.size, .ref s.heap.size]) := by
  intro T hTh X
  have htr := Launch.traces_off hfl X.admits
  have hnil : c.exceptionTable.toList = [] := List.eq_nil_of_length_eq_zero (by have h0 : c.exceptionTable.size = 0 := by simpa [Array.isEmpty] using hno
                                                                                simpa using h0)
  obtain ⟨U, st, hrun, hend, hW, hsame, ce, hce, K⟩ := X.ctorThrowS hexec htr (own := RX3) (cls := RJx00060) (names := thN) (ic := 56) hown (by decide +kernel) (by decide +kernel) hT.atoms (fun x hx => by cases hx) h1 h2
    (a := s.heap.size) (by rw [hTh, Array.getElem?_push_size]) (Nat.le_refl _) (msg := .ref str) rfl (g := F0 m pc ls [.ref str, .ref s.heap.size, .ref s.heap.size]) rfl hml.symm rfl rfl (rest := []) rfl (by rw [hb]; exact hd1) (by rw [hb]; exact hd2)
    (fun x hx => by rw [hnil] at hx; cases hx) hR.1 (by show 2 * 0 + (1 + 0) + (13 * (3 + 1) + 42) ≤ R.locals; exact hR.2) hlocks
  exact ⟨U, st, .threw s.heap.size, hrun, hend, s.heap.size, ce, rfl, hce, by rw [K.vm]; rfl, K.cls, hW, hsame⟩
end XT
/-- the search in a table of one row, its class linked or not yet -/
def xt_F (e : Env) (s : State) (f : JFrame) (a : Addr) (pc : Nat) (vm' : Vm) : Prop := ∀ (Q : Handler → Pre) (E : CtlPost) (d : Bool) (acts : List Action), wp (findHandler f a) Q E e d acts s ↔ Q (.found pc) d acts (s.setVm vm')
theorem xt_one {e : Env} {s : State} {f : JFrame} {a : Addr} {meth : Method} {code : Code} (hm : s.vm.method? f.method = some meth) (hc : meth.code = some code) {x : ExceptionTableEntry} (htab : code.exceptionTable.toList = [x]) (hx : covers x f.pc = true) (h0 : x.catchType ≠ 0) {c : ClassId} {cell : Cell}
    (hl : s.vm.ClassLinks e.platform f.method.cls x.catchType c) (hcell : s.heap[a]? = some cell) (hobj : ∀ k, cell.vm ≠ .statics k) (hk : ∃ k, s.vm.classes[cell.cls]? = some k) (hcl : ∃ k, s.vm.classes[c]? = some k) (hfit : s.vm.assignable cell.cls c = true) :
    xt_F e s f a x.handlerPc (s.vm.noted f.method.cls x.catchType (.cls c)) := by
  intro Q E d acts
  rw [W.findHandler_eq hm hc, htab]
  have hx' := hx
  simp only [covers] at hx'
  obtain ⟨ha, ht⟩ := (resolveClass_links e.toSetting hl).op (op := VmOp.resolveClass f.method.cls x.catchType) rfl
  have hal : s.vm.Alike (s.vm.noted f.method.cls x.catchType (.cls c)) := (Vm.Alike.refl s.vm).noted _ _ _
  obtain ⟨k1, hk1⟩ := hk
  obtain ⟨k2, hk2⟩ := hcl
  obtain ⟨k1', hk1', -⟩ := hal.2.2 _ _ hk1
  obtain ⟨k2', hk2', -⟩ := hal.2.2 _ _ hk2
  have hfit' : (s.vm.noted f.method.cls x.catchType (.cls c)).assignable cell.cls c = true := by rw [hal.assignable]; exact hfit
  simp [findHandler.go, hx', h0, ha, ht, hcell, hobj, hk1', hk2', hfit', VmOp.dirties, VmOp.acts]
theorem xt_caught {tb : Tables} {e : Env} {s target : State} {g : JFrame} {c : Code} {below : List Frame} {a : Addr} (h : At s g.method c below) {pc : Nat} {vm' : Vm}
    (hfind : xt_F e ((s.setTop g).pushFrame (.throwing a)) g a pc vm') (hrest : Steps tb e below ((s.setVm vm').setTop { g with pc := pc, stack := [.ref a] }) target) : Steps tb e below ((s.setTop g).pushFrame (.throwing a)) target := by
  obtain ⟨hgo, hw⟩ := h.throwing a
  refine Steps.head hgo hw ?_
  have key : ∀ (S : State) (r : List Frame), xt_F e S g a pc vm' → (stepThrowing e S a (.java g :: r)).1 = (S.setVm vm').setFrames (.java { g with pc := pc, stack := [.ref a] } :: r) := by
    intro S r hf
    have : (stepThrowing e S a (.java g :: r)).Is ((S.setVm vm').setFrames (.java { g with pc := pc, stack := [.ref a] } :: r)) [] := by
      simp only [stepThrowing, searchFrame, vmDo]
      generalize hr : Sem.go _ e false [] S = res
      obtain ⟨as, rfl, ha⟩ := Sem.eq_ok_of hr (a := Handler.found pc) (s' := S.setVm vm') (acts' := []) (by simp [hf _ _ _ _])
      exact ⟨rfl, ha⟩
    exact this.1
  rw [stepThread_throwing (frames_entered h.top _), key _ _ hfind]
  obtain ⟨g₀, hg⟩ := Option.isSome_iff_exists.mp h.top
  obtain ⟨r, hr⟩ := State.topJava?_eq_some.mp hg
  have hr' : (s.setVm vm').frames = .java g₀ :: r := hr
  rw [State.setTop_of_frames _ hr'] at hrest
  have e1 : ∀ (u : State) (F K : List Frame), ((u.setFrames F).setVm vm').setFrames K = (u.setVm vm').setFrames K := by
    intro u F K
    rw [show (u.setFrames F).setVm vm' = (u.setVm vm').setFrames F from rfl, State.setFrames_setFrames]
  rw [hr, List.tail_cons, State.pushFrame, e1, State.setTop_of_frames _ hr, e1]
  exact hrest
theorem same_kept {s s' : State} {k n : Nat} (h : s.sameButNew s' [] k n) : ∀ q : Nat, q < s.heap.size → s'.heap[q]? = s.heap[q]? := by
  intro q hq
  obtain ⟨cell, hc⟩ : ∃ cell, s.heap[q]? = some cell := ⟨s.heap[q], Array.getElem?_eq_some_iff.mpr ⟨hq, rfl⟩⟩
  obtain ⟨c', h1, h2, h3, h4⟩ := h.2.2.2.2.2 q cell hc
  have e : c'.slots = cell.slots := Array.ext_getElem? (fun i => h4 i (by simp))
  rw [h1, hc, h2, e]
