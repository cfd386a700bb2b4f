/-! 58: the mean of memories -/
def mmok (C S : Nat) : Bool := decide ((FP.ddiv (FP.i2d (nI S)) (FP.i2d (nI C))) &&& 0x7fffffffffffffff ≤ 0x7ff0000000000000) && decide (Op.cmpValue (FP.dcmp (FP.ddiv (FP.i2d (nI S)) (FP.i2d (nI C))) 4636737291354636288) .l ≤ 0)
def mmall (C : Nat) : Nat → Bool
  | 0 => mmok C 0
  | S + 1 => mmok C (S + 1) && mmall C S
set_option maxRecDepth 100000 in
theorem mm_fp1 : mmall 1 100 = true := by decide +kernel
set_option maxRecDepth 100000 in
theorem mm_fp2 : mmall 2 200 = true := by decide +kernel
set_option maxRecDepth 100000 in
theorem mm_fp3 : mmall 3 300 = true := by decide +kernel
set_option maxRecDepth 100000 in
theorem mm_fp4 : mmall 4 400 = true := by decide +kernel
set_option maxRecDepth 100000 in
theorem mm_fp5 : mmall 5 500 = true := by decide +kernel
set_option maxRecDepth 100000 in
theorem mm_fp6 : mmall 6 600 = true := by decide +kernel
set_option maxRecDepth 100000 in
theorem mm_fp7 : mmall 7 700 = true := by decide +kernel
set_option maxRecDepth 100000 in
theorem mm_fp8 : mmall 8 800 = true := by decide +kernel
set_option maxRecDepth 100000 in
theorem mm_fp9 : mmall 9 900 = true := by decide +kernel
set_option maxRecDepth 100000 in
theorem mm_fp10 : mmall 10 1000 = true := by decide +kernel
set_option maxRecDepth 100000 in
theorem mm_fp11 : mmall 11 1100 = true := by decide +kernel
set_option maxRecDepth 100000 in
theorem mm_fp12 : mmall 12 1200 = true := by decide +kernel
