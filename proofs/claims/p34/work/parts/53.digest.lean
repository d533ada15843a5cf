/-! ===== the digests ===== -/
def hN (h : Int64) (x : Int32) : Int64 := 31 * h + x.toInt64
def dg1 (f : Nat → Int32) (n : Nat) : Nat → Nat → Int64 → Int64
  | 0, i, h => h
  | fu + 1, i, h => if n ≤ i then h else dg1 f n fu (i + 1) (hN h (f i))
def dg2 (f : Nat → Nat → Int32) (n k : Nat) : Nat → Nat → Int64 → Int64
  | 0, i, h => h
  | fu + 1, i, h => if n ≤ i then h else dg2 f n k fu (i + 1) (dg1 (f i) k (k + 1) 0 h)
