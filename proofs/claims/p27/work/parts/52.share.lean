/-! share: the numbers that occur, one by one. -/
def shOK (a b : Nat) : Bool :=
  let q := FP.fdiv (FP.i2f (nI a)) (FP.i2f (nI b))
  nn32 q && (nn64 (FP.f2d q) &&
    match f_X6_bitsOf 20 (FP.f2d q) 127 23, f_X7_bitsOf 20 q with
    | some x, some y => decide (Int64.toInt32 x = y)
    | _, _ => false)
set_option maxRecDepth 100000 in
set_option maxHeartbeats 4000000 in
theorem sh_all : (List.range 30).all (fun b => (List.range (b + 2)).all (fun a => shOK a (b + 1))) = true := by decide +kernel
