def md_fit (t : Nat) (nn ss : Int64) (dd : Int32) (n : Nat) : Int32 :=
  if nI t ≤ 0 then 0 else if nn < 0 then 0 else if 1000000 < nn then 0 else if ss < 0 then 0 else if 1000000000000 < ss then 0 else if dd < -50 then 0 else if 150 < dd then 0 else if 200 ≤ nI n then 0 else 1
def md_okF (kd : Nat → Int32) (sc : Nat → Int64) (ss : Int64) (j : Nat) : Nat → Nat → Int32
  | 0, _ => 1
  | k + 1, i => if kd (j * 200 + i) = 0 then (if ss < sc (j * 200 + i) then 0 else md_okF kd sc ss j k (i + 1)) else md_okF kd sc ss j k (i + 1)
def md_ok (kd : Nat → Int32) (sc : Nat → Int64) (ss : Int64) (j n : Nat) : Int32 := md_okF kd sc ss j n 0
def md_rsfit (nn : Int64) (n : Nat) : Int32 := if nn < 0 then 0 else if 1000000000000 < nn then 0 else if 200 ≤ nI n then 0 else 1
def md_sefit (kd : Nat → Int32) (j n : Nat) (person set_ : Int32) : Int32 := if person < 1 then 0 else if 999 < person then 0 else if 200 ≤ nI n then 0 else if md_is kd j n = set_ then 0 else 1
def md_wrF (ky : Nat → Int64) (kd : Nat → Int32) (nb sc : Nat → Int64) (wa : Nat → Int32) (sm : Nat → Int64) (j : Nat) : Nat → Nat → Int32
  | 0, _ => 0
  | k + 1, i => if sm (j * 200 + i) = md_due ky kd nb sc wa sm j i then md_wrF ky kd nb sc wa sm j k (i + 1) else nI i + 1
def md_wr (ky : Nat → Int64) (kd : Nat → Int32) (nb sc : Nat → Int64) (wa : Nat → Int32) (sm : Nat → Int64) (j n : Nat) (frm : Int32) : Int32 :=
  if frm < 0 then -1 else if frm ≤ nI n then md_wrF ky kd nb sc wa sm j (n - frm.toNatClampNeg) frm.toNatClampNeg else -1
def md_poke (kd : Nat → Int32) (nb : Nat → Int64) (j i : Nat) (b : Int64) : Int32 :=
  if kd (j * 200 + i) = 0 then (if b < -1000000 then 0 else if b ≤ 1000000 then (if nb (j * 200 + i) + b < 0 then 0 else if nb (j * 200 + i) + b ≤ 1000000 then 1 else 0) else 0) else 0
