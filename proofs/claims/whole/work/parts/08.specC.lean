def f_placeF (n : Nat) (ts : Nat → Int32) (d : Int32) : Nat → Nat → Int32
  | 0, _ => nI n
  | k + 1, i => if ts i = d then nI i else f_placeF n ts d k (i + 1)
def f_place (n : Nat) (ts : Nat → Int32) (d : Int32) : Int32 := f_placeF n ts d n 0
def f_bestF (ts : Nat → Int32) (d : Int32) : Nat → Nat → Int32 → Int32
  | 0, _, b => b
  | k + 1, i, b => if b = -1 then f_bestF ts d k (i + 1) (nI i) else if f_before (ts i) (ts b.toNatClampNeg) d = 0 then f_bestF ts d k (i + 1) b else f_bestF ts d k (i + 1) (nI i)
def f_best (n : Nat) (ts : Nat → Int32) (d : Int32) : Int32 := f_bestF ts d n 0 (-1)
theorem best_in {i : Nat} {best : Int32} (hB : best = -1 ∨ ∃ j : Nat, j < i ∧ best = nI j) (h : ¬ best = -1) (hi : i ≤ 16) : vp_in best 16 := by
  rcases hB with q | ⟨j, hj, rfl⟩
  · exact absurd q h
  · exact vp_in_nI (by omega) (by omega)
theorem f_bestF_or (ts : Nat → Int32) (d : Int32) : ∀ (k i : Nat) (b : Int32), (b = -1 ∨ ∃ j : Nat, j < i ∧ b = nI j) → (f_bestF ts d k i b = -1 ∨ ∃ j : Nat, j < i + k ∧ f_bestF ts d k i b = nI j) := by
  intro k
  induction k with
  | zero => intro i b h; exact h
  | succ k ih =>
    intro i b h
    have h1 : ∃ j : Nat, j < i + 1 ∧ nI i = nI j := ⟨i, by omega, rfl⟩
    have e : i + (k + 1) = i + 1 + k := by omega
    rw [e]
    unfold f_bestF
    split
    · exact ih (i + 1) _ (Or.inr h1)
    · split
      · exact ih (i + 1) _ (h.imp id (fun ⟨j, q, r⟩ => ⟨j, by omega, r⟩))
      · exact ih (i + 1) _ (Or.inr h1)
theorem fbest_or (n : Nat) (ts : Nat → Int32) (d : Int32) : f_best n ts d = -1 ∨ ∃ j : Nat, j < n ∧ f_best n ts d = nI j := by
  have := f_bestF_or ts d n 0 (-1) (Or.inl rfl)
  rwa [Nat.zero_add] at this
theorem fbest_in {n : Nat} {ts : Nat → Int32} {d : Int32} (hc : n ≤ 16) (h : 0 ≤ f_best n ts d) : vp_in (f_best n ts d) 16 := by
  rcases fbest_or n ts d with q | ⟨j, hj, q⟩
  · rw [q] at h; exact absurd h (by decide)
  · rw [q]; exact vp_in_nI (by omega) (by omega)
def f_above (n : Nat) (ts : Nat → Int32) (ta : Nat → Int64) (d : Int32) : Int64 := if 0 ≤ f_best n ts d then ta (f_best n ts d).toNatClampNeg else 0
def f_below (n : Nat) (ts : Nat → Int32) (tb : Nat → Int64) (d : Int32) : Int64 := if 0 ≤ f_best n ts d then tb (f_best n ts d).toNatClampNeg else 1
def f_wrongF (key : Int64) (n : Nat) (nu st : Nat → Int64) (de : Nat → Int32) (su : Nat → Int64) : Nat → Nat → Int32
  | 0, _ => 0
  | k + 1, i => if su i = f_due key n nu st de su (nI i) then f_wrongF key n nu st de su k (i + 1) else nI i + 1
def f_wrong (key : Int64) (n : Nat) (nu st : Nat → Int64) (de : Nat → Int32) (su : Nat → Int64) (frm : Int32) : Int32 :=
  if frm < 0 then -1 else if frm ≤ nI n then f_wrongF key n nu st de su (n - frm.toNatClampNeg) frm.toNatClampNeg else -1
