/-! THE CLAIM OUT OF ONE WALK OF THE LAW'S BODY. Your part is whole_start (and what it stands on); all else here is the same for every law, but numbers. -/
def R_law : String := "MeterSealsLaw"
def lw_P (b : Addr) (xs : List Int32) (args : Array Value) (s : State) : Prop := args = #[.ref b] ∧ s.IntsAt b xs ∧ xs.length ≤ 3584 ∧ (Jvm.Cond.and given_1 narrow_1).before args s = true
def lw_Q (_ : Array Value) (s : State) (o : Outcome) (t : State) : Prop := o = .returned (some (.int 1)) ∧ Framed s o t [] 601024 7293034
def lw_Z (below : List Frame) (a : Array Value) (s : State) : State → Prop := fun t => ∃ o, t.status = .running ∧ Ended t below o ∧ lw_Q a s o t
/-- the law's own end, with 1 on the stack, nothing written that was there before, its room as the claim has it -/
theorem lw_ret {p : Program} {l : Launch} {e : Env} {s : State} {m : MethodId} {below : List Frame} {meth : Method} {c : Code} {b : Nat} (hx : p.tables.exec = Jvm.exec) (hb : c.code = code) (hr : meth.sig.returnType = ret) (hlocks : meth.locks = false) {pc : Nat} {H : Heap} {ls : Array Slot} (hdg : decode code pc = .ok (.ireturn, 1)) : W p l e room_1 s m #[Value.ref b] below meth c H [] 601024 7293034 (lw_Z below #[Value.ref b] s) (F0 m pc ls [.int 1]) := by
  intro T hT X
  obtain ⟨fs, hret, hrun, hended, hW, hframe⟩ := X.leave (v := some (.int 1)) (hlocks := hlocks) (fun h => by rw [hr] at h; cases h)
  have hmeth' : T.vm.method? m = some meth := X.method'
  refine ⟨T.setFrames fs, ?_, .returned (some (.int 1)), hrun, hended, rfl, ⟨_, rfl⟩, hW, hframe⟩
  jvm_step X.here [X.here.top, hx, hb, hdg, hmeth', hr, ret, narrow_b1]
  (try refine ⟨rfl, ?_⟩); (try refine ⟨rfl, ?_⟩)
  first | (intro acts; rw [hret _ acts rfl rfl rfl]) | rw [hret _ _ rfl rfl rfl]
  exact Steps.refl _
/-- what holds at the law's entry: the machine, the code, the tables' words (any of lw_tbl by 'hts w (by decide +kernel)'), the script of L ints xs at the cell b, what the Statement gives of the start (any of its parts by flat_of_before) -/
def lw_At (p : Program) (s : State) (m : MethodId) (meth : Method) (c : Code) (b L : Nat) (xs : Nat → Int32) : Prop :=
  p.tables.exec = Jvm.exec ∧ c.code = code ∧ meth.sig.returnType = ret ∧ c.maxLocals = 8 ∧ s.vm.findClass R_law = some m.cls ∧ (∀ w ∈ lw_tbl, w.before #[Value.ref b] s = true) ∧ va_X b L xs s s.heap ∧ b < s.heap.size ∧ meth.locks = false ∧ (Jvm.Cond.and given_1 narrow_1).before #[Value.ref b] s = true

/-! THE LAW'S WORLD -/
abbrev MAd : Type := Nat × Nat × Nat × Nat × Nat × Nat × Nat × Nat × Nat × Nat × Nat
abbrev MSt : Type := Int32 × Int64 × Nat × (Nat → Int32) × (Nat → Int64) × (Nat → Int64) × Int64 × Nat × (Nat → Int64) × (Nat → Int64) × (Nat → Int32) × (Nat → Int64) × (Nat → Int32)
def blk (G : Gx) (x : MAd × MSt) : va_W := wM G x.1.1 x.1.2.1 x.1.2.2.1 x.1.2.2.2.1 x.1.2.2.2.2.1 x.1.2.2.2.2.2.1 x.1.2.2.2.2.2.2.1 x.1.2.2.2.2.2.2.2.1 x.1.2.2.2.2.2.2.2.2.1 x.1.2.2.2.2.2.2.2.2.2.1 x.1.2.2.2.2.2.2.2.2.2.2 x.2.1 x.2.2.1 (nI x.2.2.2.1) x.2.2.2.2.1 x.2.2.2.2.2.1 x.2.2.2.2.2.2.1 x.2.2.2.2.2.2.2.1 (nI x.2.2.2.2.2.2.2.2.1) x.2.2.2.2.2.2.2.2.2.1 x.2.2.2.2.2.2.2.2.2.2.1 x.2.2.2.2.2.2.2.2.2.2.2.1 x.2.2.2.2.2.2.2.2.2.2.2.2.1 x.2.2.2.2.2.2.2.2.2.2.2.2.2
def blks (G : Gx) (M : List (MAd × MSt)) : va_W := (M.map (blk G)).flatten
theorem blks_cons (G : Gx) (a : MAd × MSt) (M : List (MAd × MSt)) : blks G (a :: M) = blk G a ++ blks G M := rfl
theorem blks_push (G : Gx) (a : MAd × MSt) (M : List (MAd × MSt)) : blks G (M ++ [a]) = blks G M ++ blk G a := by
  unfold blks
  simp
theorem blks_at {G : Gx} {x : MAd × MSt} : ∀ {M : List (MAd × MSt)} {j : Nat}, M[j]? = some x → ∃ BA BC : va_W, blks G M = BA ++ blk G x ++ BC ∧ ∀ y, blks G (M.set j y) = BA ++ blk G y ++ BC := by
  intro M
  induction M with
  | nil => intro j h; simp at h
  | cons a M ih =>
    intro j h
    cases j with
    | zero =>
      have : a = x := by simpa using h
      subst this
      exact ⟨[], blks G M, by rw [blks_cons]; rfl, fun y => by rw [List.set_cons_zero, blks_cons]; rfl⟩
    | succ j =>
      obtain ⟨BA, BC, h1, h2⟩ := ih (j := j) (by simpa using h)
      exact ⟨blk G a ++ BA, BC, by rw [blks_cons, h1]; simp, fun y => by rw [List.set_cons_succ, blks_cons, h2]; simp⟩
def MIx (j : Nat) (y : MSt) (ky : Nat → Int64) (ro : Nat → Int32) (ln : Nat → Int32) (kd : Nat → Int32) (nb : Nat → Int64) (sc : Nat → Int64) (wa : Nat → Int32) (sm : Nat → Int64) (ld : Nat → Int32) (lo : Nat → Int64) (lw : Nat → Int64) : Prop := MI j y.1 y.2.1 y.2.2.1 y.2.2.2.1 y.2.2.2.2.1 y.2.2.2.2.2.1 y.2.2.2.2.2.2.1 y.2.2.2.2.2.2.2.1 y.2.2.2.2.2.2.2.2.1 y.2.2.2.2.2.2.2.2.2.1 y.2.2.2.2.2.2.2.2.2.2.1 y.2.2.2.2.2.2.2.2.2.2.2.1 y.2.2.2.2.2.2.2.2.2.2.2.2 ky ro ln kd nb sc wa sm ld lo lw
def AG (j : Nat) (ky : Nat → Int64) (ro : Nat → Int32) (ln : Nat → Int32) (kd : Nat → Int32) (nb : Nat → Int64) (sc : Nat → Int64) (wa : Nat → Int32) (sm : Nat → Int64) (ld : Nat → Int32) (lo : Nat → Int64) (lw : Nat → Int64) (ky' : Nat → Int64) (ro' : Nat → Int32) (ln' : Nat → Int32) (kd' : Nat → Int32) (nb' : Nat → Int64) (sc' : Nat → Int64) (wa' : Nat → Int32) (sm' : Nat → Int64) (ld' : Nat → Int32) (lo' : Nat → Int64) (lw' : Nat → Int64) : Prop :=
  ky' j = ky j ∧ ro' j = ro j ∧ ln' j = ln j ∧
  (∀ i, i < 200 → kd' (j * 200 + i) = kd (j * 200 + i) ∧ nb' (j * 200 + i) = nb (j * 200 + i) ∧ sc' (j * 200 + i) = sc (j * 200 + i) ∧ wa' (j * 200 + i) = wa (j * 200 + i) ∧ sm' (j * 200 + i) = sm (j * 200 + i)) ∧
  (∀ q, q < 16 → ld' (j * 16 + q) = ld (j * 16 + q) ∧ lo' (j * 16 + q) = lo (j * 16 + q) ∧ lw' (j * 16 + q) = lw (j * 16 + q))
def IV (M : List (MAd × MSt)) (mc : Nat) (f : Nat → Option Nat) (ky : Nat → Int64) (ro : Nat → Int32) (ln : Nat → Int32) (kd : Nat → Int32) (nb : Nat → Int64) (sc : Nat → Int64) (wa : Nat → Int32) (sm : Nat → Int64) (ld : Nat → Int32) (lo : Nat → Int64) (lw : Nat → Int64) : Prop :=
  (M.length = mc ∧ mc ≤ 8) ∧ (∀ j x, M[j]? = some x → f j = some x.1.1 ∧ MIx j x.2 ky ro ln kd nb sc wa sm ld lo lw) ∧ ∀ j, mc ≤ j → ro j = 0 ∧ ln j = 0
section IVS
variable {ky : Nat → Int64} {ro : Nat → Int32} {ln : Nat → Int32} {kd : Nat → Int32} {nb : Nat → Int64} {sc : Nat → Int64} {wa : Nat → Int32} {sm : Nat → Int64} {ld : Nat → Int32} {lo : Nat → Int64} {lw : Nat → Int64}
variable {ky' : Nat → Int64} {ro' : Nat → Int32} {ln' : Nat → Int32} {kd' : Nat → Int32} {nb' : Nat → Int64} {sc' : Nat → Int64} {wa' : Nat → Int32} {sm' : Nat → Int64} {ld' : Nat → Int32} {lo' : Nat → Int64} {lw' : Nat → Int64}
variable {M : List (MAd × MSt)} {mc : Nat} {f : Nat → Option Nat}
theorem MIx.congr {j : Nat} {y : MSt} (h : MIx j y ky ro ln kd nb sc wa sm ld lo lw) (ha : AG j ky ro ln kd nb sc wa sm ld lo lw ky' ro' ln' kd' nb' sc' wa' sm' ld' lo' lw') : MIx j y ky' ro' ln' kd' nb' sc' wa' sm' ld' lo' lw' := MI.congr h ha.1 ha.2.1 ha.2.2.1 ha.2.2.2.1 ha.2.2.2.2
theorem IV.set (h : IV M mc f ky ro ln kd nb sc wa sm ld lo lw) {j : Nat} {x : MAd × MSt} {y : MSt} (hx : M[j]? = some x) (hn : MIx j y ky' ro' ln' kd' nb' sc' wa' sm' ld' lo' lw') (ho : ∀ q, ¬ q = j → AG q ky ro ln kd nb sc wa sm ld lo lw ky' ro' ln' kd' nb' sc' wa' sm' ld' lo' lw') : IV (M.set j (x.1, y)) mc f ky' ro' ln' kd' nb' sc' wa' sm' ld' lo' lw' := by
  have hjl : j < M.length := (List.getElem?_eq_some_iff.mp hx).1
  refine ⟨⟨by rw [List.length_set]; exact h.1.1, h.1.2⟩, fun q z hz => ?_, fun q hq => ?_⟩
  · by_cases hqj : q = j
    · subst hqj
      rw [List.getElem?_set_self hjl] at hz
      have : (x.1, y) = z := Option.some.inj hz
      subst this
      exact ⟨(h.2.1 q x hx).1, hn⟩
    · rw [List.getElem?_set_ne (fun w => hqj w.symm)] at hz
      exact ⟨(h.2.1 q z hz).1, (h.2.1 q z hz).2.congr (ho q hqj)⟩
  · have hqj : ¬ q = j := by have := h.1.1; omega
    obtain ⟨-, a2, a3, -⟩ := ho q hqj
    rw [a2, a3]
    exact h.2.2 q hq
theorem IV.push (h : IV M mc f ky ro ln kd nb sc wa sm ld lo lw) (hm : mc < 8) {x : MAd × MSt} (hn : MIx mc x.2 ky' ro' ln' kd' nb' sc' wa' sm' ld' lo' lw') (ho : ∀ q, ¬ q = mc → AG q ky ro ln kd nb sc wa sm ld lo lw ky' ro' ln' kd' nb' sc' wa' sm' ld' lo' lw') (hro : ∀ q, ro' q = ro q ∧ ln' q = ln q) : IV (M ++ [x]) (mc + 1) (va_up f mc (some x.1.1)) ky' ro' ln' kd' nb' sc' wa' sm' ld' lo' lw' := by
  refine ⟨⟨by rw [List.length_append, h.1.1]; rfl, hm⟩, fun q z hz => ?_, fun q hq => ?_⟩
  · by_cases hq : q < M.length
    · rw [List.getElem?_append_left hq] at hz
      have hne : ¬ q = mc := by have := h.1.1; omega
      exact ⟨by rw [show va_up f mc (some x.1.1) q = f q from if_neg hne]; exact (h.2.1 q z hz).1, (h.2.1 q z hz).2.congr (ho q hne)⟩
    · rw [List.getElem?_append_right (by omega)] at hz
      have he : q = mc := by
        have := h.1.1
        have h2 := (List.getElem?_eq_some_iff.mp hz).1
        simp at h2
        omega
      subst he
      rw [h.1.1, Nat.sub_self] at hz
      have : x = z := by simpa using hz
      subst this
      exact ⟨if_pos rfl, hn⟩
  · rw [(hro q).1, (hro q).2]
    exact h.2.2 q (by omega)
end IVS
theorem AG.add {ky : Nat → Int64} {ro : Nat → Int32} {ln : Nat → Int32} {kd : Nat → Int32} {nb : Nat → Int64} {sc : Nat → Int64} {wa : Nat → Int32} {sm : Nat → Int64} {ld : Nat → Int32} {lo : Nat → Int64} {lw : Nat → Int64} {j n q : Nat} {va vb ve : Int32} {vc vd vf : Int64} (hn : n < 200) (hq : ¬ q = j) : AG q ky ro ln kd nb sc wa sm ld lo lw ky (upd ro j va) ln (upd kd (j * 200 + n) vb) (vp_updL nb (j * 200 + n) vc) (vp_updL sc (j * 200 + n) vd) (upd wa (j * 200 + n) ve) (vp_updL sm (j * 200 + n) vf) ld lo lw :=
  ⟨rfl, pk_un hq, rfl, fun i hi => ⟨pk_un (by omega), pk_uLn (by omega), pk_uLn (by omega), pk_un (by omega), pk_uLn (by omega)⟩, fun _ _ => ⟨rfl, rfl, rfl⟩⟩
theorem AG.poke {ky : Nat → Int64} {ro : Nat → Int32} {ln : Nat → Int32} {kd : Nat → Int32} {nb : Nat → Int64} {sc : Nat → Int64} {wa : Nat → Int32} {sm : Nat → Int64} {ld : Nat → Int32} {lo : Nat → Int64} {lw : Nat → Int64} {j n q : Nat} {vc : Int64} (hn : n < 200) (hq : ¬ q = j) : AG q ky ro ln kd nb sc wa sm ld lo lw ky ro ln kd (vp_updL nb (j * 200 + n) vc) sc wa sm ld lo lw :=
  ⟨rfl, rfl, rfl, fun i hi => ⟨rfl, pk_uLn (by omega), rfl, rfl, rfl⟩, fun _ _ => ⟨rfl, rfl, rfl⟩⟩
theorem AG.line {ky : Nat → Int64} {ro : Nat → Int32} {ln : Nat → Int32} {kd : Nat → Int32} {nb : Nat → Int64} {sc : Nat → Int64} {wa : Nat → Int32} {sm : Nat → Int64} {ld : Nat → Int32} {lo : Nat → Int64} {lw : Nat → Int64} {j n q : Nat} {va vb : Int32} {vc vd : Int64} (hn : n < 16) (hq : ¬ q = j) : AG q ky ro ln kd nb sc wa sm ld lo lw ky ro (upd ln j va) kd nb sc wa sm (upd ld (j * 16 + n) vb) (vp_updL lo (j * 16 + n) vc) (vp_updL lw (j * 16 + n) vd) :=
  ⟨rfl, rfl, pk_un hq, fun i hi => ⟨rfl, rfl, rfl, rfl, rfl⟩, fun i hi => ⟨pk_un (by omega), pk_uLn (by omega), pk_uLn (by omega)⟩⟩
theorem AG.meter {ky : Nat → Int64} {ro : Nat → Int32} {ln : Nat → Int32} {kd : Nat → Int32} {nb : Nat → Int64} {sc : Nat → Int64} {wa : Nat → Int32} {sm : Nat → Int64} {ld : Nat → Int32} {lo : Nat → Int64} {lw : Nat → Int64} {j q : Nat} {vc : Int64} (hq : ¬ q = j) : AG q ky ro ln kd nb sc wa sm ld lo lw (vp_updL ky j vc) ro ln kd nb sc wa sm ld lo lw :=
  ⟨pk_uLn hq, rfl, rfl, fun i hi => ⟨rfl, rfl, rfl, rfl, rfl⟩, fun i hi => ⟨rfl, rfl, rfl⟩⟩
theorem mi_or {xn : Nat} (hxn : xn ≤ 8) (f : Nat → Option Nat) (mi : Int32) : (f_find xn f mi = none ∧ f_holds (nI xn) mi = 0) ∨ ∃ j : Nat, j < xn ∧ mi = nI j := by
  rcases pk_ix mi (show xn < 2 ^ 31 by omega) with h | h | h
  · exact Or.inl ⟨by unfold f_find; rw [if_pos h], by unfold f_holds; rw [if_pos h]⟩
  · by_cases h0 : mi < 0
    · exact Or.inl ⟨by unfold f_find; rw [if_pos h0], by unfold f_holds; rw [if_pos h0]⟩
    · exact Or.inl ⟨by unfold f_find; rw [if_neg h0, if_pos h], by unfold f_holds; rw [if_neg h0, if_pos h]⟩
  · exact Or.inr h
theorem holds_or {n : Nat} (hn : n ≤ 200) (row : Int32) : f_holds (nI n) row = 0 ∨ ∃ i : Nat, i < n ∧ row = nI i := by
  by_cases h : f_holds (nI n) row = 0
  · exact Or.inl h
  · exact Or.inr ((f_holds_iff (by omega) row).mp h)
theorem frow_0 {mc j n : Nat} {ro : Nat → Int32} {row : Int32} (hmc : mc ≤ 8) (hj : j < mc) (hro : ro j = nI n) (hn : n ≤ 200) (h : f_holds (nI n) row = 0) : f_row mc ro (nI j) row = 0 := by
  unfold f_row
  rw [if_neg (by rw [f_holds_iff (by omega)]; exact ⟨j, hj, rfl⟩), nI_clamp (by omega), hro]
  exact h
theorem frow_1 {mc j n i : Nat} {ro : Nat → Int32} (hmc : mc ≤ 8) (hj : j < mc) (hro : ro j = nI n) (hn : n ≤ 200) (hi : i < n) : ¬ f_row mc ro (nI j) (nI i) = 0 := by
  unfold f_row
  rw [if_neg (by rw [f_holds_iff (by omega)]; exact ⟨j, hj, rfl⟩), nI_clamp (by omega), hro]
  exact holds_nI hi hn
theorem frow_a {mc : Nat} {ro : Nat → Int32} {mi row : Int32} (h : f_holds (nI mc) mi = 0) : f_row mc ro mi row = 0 := by
  unfold f_row
  rw [if_pos h]
/-! cutting the law's world, and joining it -/
section CUT
variable {D : va_G} {cl : List vw_C} {A : Nat → Prop} {H H1 : Heap} {KW O X : va_W}
theorem tot_K : KW ++ O ++ X = [] ++ KW ++ (O ++ X) := by simp
theorem pX (h : va_P D cl (KW ++ O ++ X) H) : va_P D cl X H := x_last (KW ++ O) X h
theorem dX (h : va_D A (KW ++ O ++ X)) : va_D A X := x_lastD (KW ++ O) X h
theorem aX (h : va_D A (KW ++ O ++ X)) : ∀ q, adr X q → A q := x_adr (KW ++ O) X [] (List.append_nil _).symm h
theorem jX {X' : va_W} (hP : va_P D cl (KW ++ O ++ X) H) (hD : va_D A (KW ++ O ++ X)) (hk : ∀ q : Nat, q < H.size → ¬ adr X q → H1[q]? = H[q]?) (hB : va_P D cl X' H1) (hm : X'.map Prod.fst = X.map Prod.fst) : va_P D cl (KW ++ O ++ X') H1 ∧ va_D A (KW ++ O ++ X') := by
  have := x_join (KW ++ O) X [] X' (List.append_nil _).symm hP hD hk hB hm
  rwa [List.append_nil] at this
theorem pK (h : va_P D cl (KW ++ O ++ X) H) : va_P D cl KW H := x_mid [] KW (O ++ X) tot_K h
theorem dK (h : va_D A (KW ++ O ++ X)) : va_D A KW := x_midD [] KW (O ++ X) tot_K h
theorem aK (h : va_D A (KW ++ O ++ X)) : ∀ q, adr KW q → A q := x_adr [] KW (O ++ X) tot_K h
theorem jK {KW' : va_W} (hP : va_P D cl (KW ++ O ++ X) H) (hD : va_D A (KW ++ O ++ X)) (hk : ∀ q : Nat, q < H.size → ¬ adr KW q → H1[q]? = H[q]?) (hB : va_P D cl KW' H1) (hm : KW'.map Prod.fst = KW.map Prod.fst) : va_P D cl (KW' ++ O ++ X) H1 ∧ va_D A (KW' ++ O ++ X) := by
  have := x_join [] KW (O ++ X) KW' tot_K hP hD hk hB hm
  rwa [← tot_K] at this
theorem tot_L : KW ++ O ++ X = KW ++ (O ++ X) ++ [] := by simp
theorem pL (h : va_P D cl (KW ++ O ++ X) H) : va_P D cl (O ++ X) H := x_mid KW (O ++ X) [] tot_L h
theorem dL (h : va_D A (KW ++ O ++ X)) : va_D A (O ++ X) := x_midD KW (O ++ X) [] tot_L h
theorem aL (h : va_D A (KW ++ O ++ X)) : ∀ q, adr (O ++ X) q → A q := x_adr KW (O ++ X) [] tot_L h
theorem jL {O' X' : va_W} (hP : va_P D cl (KW ++ O ++ X) H) (hD : va_D A (KW ++ O ++ X)) (hk : ∀ q : Nat, q < H.size → ¬ adr (O ++ X) q → H1[q]? = H[q]?) (hB : va_P D cl (O' ++ X') H1) (hm : (O' ++ X').map Prod.fst = (O ++ X).map Prod.fst) : va_P D cl (KW ++ O' ++ X') H1 ∧ va_D A (KW ++ O' ++ X') := by
  have := x_join KW (O ++ X) [] (O' ++ X') tot_L hP hD hk hB hm
  rwa [← tot_L] at this
theorem xw_cut {W1 B BA bx BC : va_W} (h : B = BA ++ bx ++ BC) : W1 ++ B = (W1 ++ BA) ++ bx ++ BC := by rw [h]; simp
end CUT
def lg2 (a b : Int32) : Int64 := (a.toInt64 <<< ((32 : Int32).toInt64 &&& 63)) ||| (b.toInt64 &&& 4294967295)
/-- the law at pc, its call's number i read or yet to be read, the two states side by side -/
def HEAD (p : Program) (l : Launch) (e : Env) (s : State) (m : MethodId) (below : List Frame) (meth : Method) (c : Code) (G : Gx) (b i x0 x1 o k0 k1 k2 k3 k4 k5 k6 k7 k8 k9 k10 k11 k12 cells slots pc : Nat) : Prop :=
  ∀ (M : List (MAd × MSt)) (mc : Nat) (f : Nat → Option Nat) (len thr : Int32) (ky : Nat → Int64) (ro : Nat → Int32) (ln : Nat → Int32) (kd : Nat → Int32) (nb : Nat → Int64) (sc : Nat → Int64) (wa : Nat → Int32) (sm : Nat → Int64) (ld : Nat → Int32) (lo : Nat → Int64) (lw : Nat → Int64) (tx : Nat → Int32) (ov : Nat → Int64) (H : Heap) (locs : List Loc) (ls : Array Slot), IV M mc f ky ro ln kd nb sc wa sm ld lo lw → va_P G.1 vwCl (wK G k0 k1 k2 k3 k4 k5 k6 k7 k8 k9 k10 k11 k12 (nI mc) len thr ky ro ln kd nb sc wa sm ld lo lw tx ++ [(o, .inl (kJ G, 1, .inr (.inl ov)))] ++ (wX G x0 x1 (nI mc) f ++ blks G M)) H → va_D (fun q : Nat => s.heap.size ≤ q) (wK G k0 k1 k2 k3 k4 k5 k6 k7 k8 k9 k10 k11 k12 (nI mc) len thr ky ro ln kd nb sc wa sm ld lo lw tx ++ [(o, .inl (kJ G, 1, .inr (.inl ov)))] ++ (wX G x0 x1 (nI mc) f ++ blks G M)) → va_S (fun q : Nat => s.heap.size ≤ q) s.heap H locs → lv_has ls 8 [(4, .int (nI i)), (3, .ref o), (2, .ref k0), (1, .ref x0), (0, .ref b)] →
    W p l e room_1 s m #[Value.ref b] below meth c H locs cells slots (lw_Z below #[Value.ref b] s) (F0 m pc ls [])
