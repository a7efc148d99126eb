/-! ===== the class's own functions: sets of squares ===== -/
theorem bv_has (x : BitVec 64) (j : Nat) : ((x >>> j) &&& 1#64) = 0#64 ↔ x.getLsbD j = false := by
  constructor
  · intro h
    have h2 := congrArg (fun z => z.getLsbD 0) h
    simp at h2
    simpa using h2
  · intro h
    apply BitVec.eq_of_getLsbD_eq
    intro i hi
    rw [BitVec.getLsbD_and, BitVec.getLsbD_ushiftRight]
    by_cases h0 : i = 0
    · subst h0; rw [Nat.add_zero, h]; simp
    · simp [h0]
def sW (x : BitVec 64) : BitVec 64 := (x &&& 18374403900871474942#64) >>> 1
def sE (x : BitVec 64) : BitVec 64 := (x &&& 9187201950435737471#64) <<< 1
def sU (x : BitVec 64) : BitVec 64 := x <<< 8
def sD (x : BitVec 64) : BitVec 64 := x >>> 8
def sUW (x : BitVec 64) : BitVec 64 := (x &&& 18374403900871474942#64) <<< 7
def sUE (x : BitVec 64) : BitVec 64 := (x &&& 9187201950435737471#64) <<< 9
def sDW (x : BitVec 64) : BitVec 64 := (x &&& 18374403900871474942#64) >>> 9
def sDE (x : BitVec 64) : BitVec 64 := (x &&& 9187201950435737471#64) >>> 7
def kW (x : BitVec 64) : BitVec 64 := sW x ||| sE x
def kKi (x : BitVec 64) : BitVec 64 := (kW x ||| (x ||| kW x) <<< 8) ||| (x ||| kW x) >>> 8
def kPa (x : BitVec 64) (b : Bool) : BitVec 64 := kW (if b then sU x else sD x)
def kRay (f1 f2 f3 f4 : BitVec 64 → BitVec 64) (fr : BitVec 64) : Nat → BitVec 64 → BitVec 64 → BitVec 64 → BitVec 64 → BitVec 64 → BitVec 64
  | 0, _, _, _, _, a => a
  | n + 1, u, d, l, r, a => if ((u ||| d) ||| l) ||| r = 0#64 then a else kRay f1 f2 f3 f4 fr n (f1 u &&& fr) (f2 d &&& fr) (f3 l &&& fr) (f4 r &&& fr) (a ||| (((f1 u ||| f2 d) ||| f3 l) ||| f4 r))
def kNot (x : BitVec 64) : BitVec 64 := x ^^^ 18446744073709551615#64
def kRk (x o : BitVec 64) : BitVec 64 := kRay sU sD sW sE (kNot o) 7 x x x x 0#64
def kBi (x o : BitVec 64) : BitVec 64 := kRay sUW sUE sDW sDE (kNot o) 7 x x x x 0#64
def hopIt : Nat → BitVec 64 → BitVec 64
  | 0, s => s
  | n + 1, s => hopIt n (s ||| kN s)
def kOf (k : Nat) (b : Bool) (x o : BitVec 64) : BitVec 64 :=
  if k = 1 then kKi x else if k = 2 then kRk x o ||| kBi x o else if k = 3 then kRk x o else if k = 4 then kBi x o else if k = 5 then kN x else if k = 6 then kPa x b else 0#64
def kLow (x : BitVec 64) : Int32 := if x = 0#64 then -1 else nI (pcnt ((x &&& -x) - 1#64))
def kB (j : Nat) : BitVec 64 := 1#64 <<< j
theorem kRay_n {f1 f2 f3 f4 : BitVec 64 → BitVec 64} {fr : BitVec 64} {n : Nat} {u d l r a : BitVec 64} (h : ¬ ((u ||| d) ||| l) ||| r = 0#64) : kRay f1 f2 f3 f4 fr (n + 1) u d l r a = kRay f1 f2 f3 f4 fr n (f1 u &&& fr) (f2 d &&& fr) (f3 l &&& fr) (f4 r &&& fr) (a ||| (((f1 u ||| f2 d) ||| f3 l) ||| f4 r)) := by
  show (if ((u ||| d) ||| l) ||| r = 0#64 then a else _) = _
  rw [if_neg h]
theorem kRay_z {f1 f2 f3 f4 : BitVec 64 → BitVec 64} {fr : BitVec 64} {n : Nat} {u d l r a : BitVec 64} (h : ((u ||| d) ||| l) ||| r = 0#64) : kRay f1 f2 f3 f4 fr (n + 1) u d l r a = a := by
  show (if ((u ||| d) ||| l) ||| r = 0#64 then a else _) = _
  rw [if_pos h]
