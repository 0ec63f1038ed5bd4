theorem adr_mid {b : va_W} (a' b' c' : va_W) (hw : b = a' ++ b' ++ c') {q : Nat} (h : adr b' q) : adr b q := by
  subst hw
  obtain ⟨k, e, hk⟩ := h
  have hlt : k < b'.length := (List.getElem?_eq_some_iff.mp hk).1
  refine ⟨a'.length + k, e, ?_⟩
  rw [List.getElem?_append_left (by rw [List.length_append]; omega), List.getElem?_append_right (by omega), Nat.add_sub_cancel_left]
  exact hk
theorem x_join2 {A0 : Nat → Prop} {D : va_G} {cl : List vw_C} {ws : va_W} {H H1 : Heap} (a b c a' b' c' b1 : va_W) (hw : ws = a ++ b ++ c) (hw' : b = a' ++ b' ++ c') (hP : va_P D cl ws H) (hD : va_D A0 ws)
    (hk : ∀ q : Nat, q < H.size → ¬ adr b' q → H1[q]? = H[q]?) (hP1 : va_P D cl b1 H1) (hm : b1.map Prod.fst = b'.map Prod.fst) : va_P D cl (a ++ (a' ++ b1 ++ c') ++ c) H1 ∧ va_D A0 (a ++ (a' ++ b1 ++ c') ++ c) := by
  have h1 := x_join a' b' c' b1 hw' (x_mid a b c hw hP) (x_midD a b c hw hD) hk hP1 hm
  refine x_join a b c (a' ++ b1 ++ c') hw hP hD (fun q hq hn => hk q hq (fun h => hn (adr_mid a' b' c' hw' h))) h1.1 ?_
  rw [hw', List.map_append, List.map_append, List.map_append, List.map_append, hm]
def f_find (n : Nat) (f : Nat → Option Nat) (mi : Int32) : Option Nat := if mi < 0 then none else if nI n ≤ mi then none else f mi.toNatClampNeg
theorem f_find_in {n j : Nat} {f : Nat → Option Nat} (hj : j < n) (hn : n ≤ 8) : f_find n f (nI j) = f j := by
  unfold f_find
  rw [if_neg (nI_pos (by omega)), if_neg (nI_ge hj (by omega)), nI_clamp (by omega)]
theorem find_in {n : Nat} {mi : Int32} (hn : n ≤ 8) (h0 : ¬ mi < 0) (h1 : ¬ nI n ≤ mi) : vp_in mi 8 := by
  rcases pk_ix mi (show n < 2 ^ 31 by omega) with h | h | ⟨j, hj, rfl⟩
  · exact absurd h h0
  · exact absurd h h1
  · exact vp_in_nI (by omega) (by decide)
abbrev wX (G : Gx) (x0 x1 : Nat) (n : Int32) (f : Nat → Option Nat) : va_W := [(x0, .inr (4, [.ref x1, .int n])), (x1, .inl (kM G, 8, .inr (.inr (.inr (.inr f)))))]
def f_rgap (n : Nat) (st : Nat → Int64) (kk what : Int32) : Int32 := if kk < 0 then -1 else if what = 0 then f_gap n st kk what else if what = 1 then f_gap n st kk what else -1
def f_rest (tn : Nat) (ts : Nat → Int32) (ta tb : Nat → Int64) (n : Nat) (nu st : Nat → Int64) (de : Nat → Int32) (tank : Int64) : Int64 :=
  if f_within tank 0 1000000000 = 0 then -9223372036854775808 else f_all tn ts ta tb n nu st de - tank * 1000
