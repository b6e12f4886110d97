/-! the text that stands at the start -/
def b0L : List Int := [99, 111, 115, 116, 115, 32, 49, 32, 59, 32, 119, 111, 114, 116, 104, 32, 115, 112, 97, 110, 32, 59, 32, 100, 114, 105, 102, 116, 32, 49, 32, 59]
def b0 (i : Int) : Int := b0L.getD i.toNat 0
def z0c (k : Int) : List Int := match rdZ b0 32 (rdP b0 32 k.toNat) k with
  | .ok z => pcd z
  | .error _ => []
theorem z0_0 : z0c 0 = [1] := by decide +kernel
theorem z0_1 : z0c 1 = [1, 10005] := by decide +kernel
theorem z0_2 : z0c 2 = [1, 10005, 1] := by decide +kernel
theorem z0_F : (match rdF b0 32 with
  | .ok _ => true
  | .error _ => false) = true := by decide +kernel
