abbrev wM (G : Gx) (m0 t0 t1 t2 t3 h0 h1 h2 h3 h4 h5 : Nat) (sl : Int32) (la : Int64) (tn : Int32) (ts : Nat → Int32) (ta tb : Nat → Int64) (key : Int64) (n : Int32) (nu st : Nat → Int64) (de : Nat → Int32) (su : Nat → Int64) (mk : Nat → Int32) : va_W :=
  [(m0, .inr (1, [.ref t0, .ref h0, .int sl, .long la])), (t0, .inr (3, [.ref t1, .ref t2, .ref t3, .int tn])), (t1, .inl (kI G, 16, .inl ts)), (t2, .inl (kJ G, 16, .inr (.inl ta))), (t3, .inl (kJ G, 16, .inr (.inl tb))), (h0, .inr (2, [.long key, .ref h1, .ref h2, .ref h3, .ref h4, .ref h5, .int n])), (h1, .inl (kJ G, 200, .inr (.inl nu))), (h2, .inl (kJ G, 200, .inr (.inl st))), (h3, .inl (kI G, 200, .inl de)), (h4, .inl (kJ G, 200, .inr (.inl su))), (h5, .inl (kZ G, 200, .inl mk))]
def f_la (tn : Nat) (ts : Nat → Int32) (ta : Nat → Int64) (n : Nat) (nu st : Nat → Int64) (de : Nat → Int32) (row : Int32) : Int64 := f_pul n nu st row * f_above tn ts ta (f_deg n de row)
def f_lbw (tn : Nat) (ts : Nat → Int32) (tb : Nat → Int64) (n : Nat) (st : Nat → Int64) (de : Nat → Int32) (row : Int32) : Int64 := if f_isR n st row = 0 then 1 else f_below tn ts tb (f_deg n de row)
def f_allF (tn : Nat) (ts : Nat → Int32) (ta tb : Nat → Int64) (n : Nat) (nu st : Nat → Int64) (de : Nat → Int32) : Nat → Nat → Int64 → Int64
  | 0, _, acc => acc
  | k + 1, i, acc => f_allF tn ts ta tb n nu st de k (i + 1) (acc + f_quot (f_la tn ts ta n nu st de (nI i) * 1000) (f_lbw tn ts tb n st de (nI i)))
def f_all (tn : Nat) (ts : Nat → Int32) (ta tb : Nat → Int64) (n : Nat) (nu st : Nat → Int64) (de : Nat → Int32) : Int64 := f_allF tn ts ta tb n nu st de n 0 0
def f_fits (tn : Nat) (la number second : Int64) (degrees : Int32) : Int32 :=
  if nI tn ≤ 0 then 0 else if f_within number 0 1000000 = 0 then 0 else if f_within second la 1000000000000 = 0 then 0 else if f_within degrees.toInt64 (-50) 150 = 0 then 0 else 1
def f_tfit (sl person set_ : Int32) : Int32 := if f_within person.toInt64 1 999 = 0 then 0 else if sl = set_ then 0 else 1
