/-! floating numbers: none of the values that are made is a NaN -/
theorem fpn_fd (v : Int64) : vf_n32 (FP.fdiv (FP.l2f v) 1090519040) := by sorry
theorem fpn_f2d (v : Int64) : vf_n64 (FP.f2d (FP.fdiv (FP.l2f v) 1090519040)) := by sorry
theorem fpn_dd (v : Int64) : vf_n64 (FP.ddiv (FP.l2d v) 4620693217682128896) := by sorry
theorem fpn_lf (v : Int64) : vf_n64 (FP.f2d (FP.l2f v)) := by sorry
