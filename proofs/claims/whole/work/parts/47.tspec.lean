/-! the total of a row -/
def suD (P : AS) (t : Nat) : Nat → UInt64
  | 0 => FP.dconst0
  | k + 1 => FP.dadd (suD P t k) (dbl (P.kd t) (P.wh t k) (P.re t k))
def sp_total (P : AS) (c : Int32) : UInt64 × AS × Int32 := if isC c = true then (if rsRow P (cN c) = 0 then (if 1 ≤ P.kd (P.co (cN c) - 1) ∧ P.kd (P.co (cN c) - 1) ≤ 7 then (suD P (P.co (cN c) - 1) (P.ln (P.co (cN c) - 1)), P, 0) else (0, P, 6)) else (0, P, nI (rsRow P (cN c)))) else (0, P, 1)
theorem gd_dbl {k : Nat} {w : Int64} {r : UInt64} (h : gd r) : gd (dbl k w r) := by
  unfold dbl
  split
  · exact gd_ld w
  · exact h
theorem suD_n {P : AS} (hg : ∀ a b, gd (P.re a b)) (t : Nat) : ∀ k, vf_n64 (suD P t k)
  | 0 => gd_0.1
  | k + 1 => fpn_da (suD_n hg t k) (gd_dbl (hg t k))
theorem wdn_dbl {k : Nat} {w : Int64} {r : UInt64} : (wdn k 7 w r).2 = dbl k w r := by
  unfold wdn dbl
  by_cases h : k ≤ 5
  · rw [if_pos ⟨by decide, h⟩, if_pos h]; rfl
  · rw [if_neg (fun z => h z.2), if_neg h]
