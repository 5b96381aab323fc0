/-! share: 0 for none of them, else not, number by number. -/
def shZ (a b : Nat) : Bool :=
  let q := FP.fdiv (FP.i2f (nI a)) (FP.i2f (nI b))
  nn32 q && (nn64 (FP.f2d q) &&
    match f_X6_bitsOf 20 (FP.f2d q) 127 23 with
    | some x => decide (Int64.toInt32 x = 0) == decide (a = 0)
    | none => false)
set_option maxRecDepth 100000 in
set_option maxHeartbeats 4000000 in
theorem shZ_all : (List.range 30).all (fun b => (List.range (b + 2)).all (fun a => shZ a (b + 1))) = true := by decide +kernel
