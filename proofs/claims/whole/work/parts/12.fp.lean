/-! floating numbers: none of the values that are made is a NaN -/
theorem fpn_fd (v : Int64) : vf_n32 (FP.fdiv (FP.l2f v) 1090519040) := by sorry
theorem fpn_f2d (v : Int64) : vf_n64 (FP.f2d (FP.fdiv (FP.l2f v) 1090519040)) := by sorry
theorem fpn_dd (v : Int64) : vf_n64 (FP.ddiv (FP.l2d v) 4620693217682128896) := by sorry
theorem fpn_lf (v : Int64) : vf_n64 (FP.f2d (FP.l2f v)) := by sorry
/-- a number that may stand in a row: no NaN, not the negative zero -/
def gd (x : UInt64) : Prop := vf_n64 x ∧ x ≠ 0x8000000000000000
def hmn (x : UInt64) : Bool := decide (Op.cmpValue (FP.dcmp x FP.dconst0) CmpOp.g < 0)
theorem fp_z {x : UInt64} (h : gd x) (h0 : Op.cmpValue (FP.dcmp x FP.dconst0) CmpOp.l = 0) : x = 0 := by sorry
theorem fp_hm {x y : UInt64} (h : gd x) (h2 : gd y) (h0 : Op.cmpValue (FP.dcmp x y) CmpOp.l = 0) : hmn x = hmn y := by sorry
