/-! floating numbers: none of the values that are made is a NaN -/
theorem nf64 {x : UInt64} : vf_n64 x ↔ FP.Core.dIsNaN x = false := by
  unfold vf_n64
  rw [UInt64.le_iff_toNat_le, UInt64.toNat_and]
  have e1 : (0x7fffffffffffffff : UInt64).toNat = 2 ^ 63 - 1 := by decide
  have e2 : (0x7ff0000000000000 : UInt64).toNat = 9218868437227405312 := by decide
  rw [e1, e2, Nat.and_two_pow_sub_one_eq_mod]
  have h := FP.Core.isNaN_bits x
  cases hd : FP.Core.dIsNaN x
  · rw [hd] at h; constructor; intro _; rfl; intro _; exact Nat.not_lt.mp (fun z => by have := h.mpr z; cases this)
  · rw [hd] at h; constructor; intro z; exact absurd (h.mp rfl) (Nat.not_lt.mpr z); intro z; cases z
theorem nf32 {x : UInt32} : vf_n32 x ↔ FP.Core.fIsNaN x = false := by
  unfold vf_n32
  rw [UInt32.le_iff_toNat_le, UInt32.toNat_and]
  have e1 : (0x7fffffff : UInt32).toNat = 2 ^ 31 - 1 := by decide
  have e2 : (0x7f800000 : UInt32).toNat = 2139095040 := by decide
  rw [e1, e2, Nat.and_two_pow_sub_one_eq_mod]
  have h := FP.Core.isNaN_bits32 x
  cases hd : FP.Core.fIsNaN x
  · rw [hd] at h; constructor; intro _; rfl; intro _; exact Nat.not_lt.mp (fun z => by have := h.mpr z; cases this)
  · rw [hd] at h; constructor; intro z; exact absurd (h.mp rfl) (Nat.not_lt.mpr z); intro z; cases z
/-- a number that may stand in a row: no NaN, not the negative zero, finite -/
def gd (x : UInt64) : Prop := vf_n64 x ∧ x ≠ 0x8000000000000000 ∧ FP.Core.DFin x
theorem gd_of {x : UInt64} {s : Bool} {c : Nat} {q : Int} (h : FP.Core.val64 x = .fin s c q) (h0 : s = true → c ≠ 0) : gd x := by
  have hf : FP.Core.DFin x := ⟨s, c, q, h⟩
  refine ⟨nf64.mpr hf.notNaN, fun e => ?_, hf⟩
  have e1 : FP.Core.val64 0x8000000000000000 = .fin true 0 FP.Core.b64.qmin := by decide +kernel
  rw [e, e1] at h
  cases h
  exact h0 rfl rfl
theorem eighth {x : UInt64} (h : 1023 * 2 ^ 52 ≤ x.toNat % 2 ^ 63) (h2 : x.toNat % 2 ^ 63 < 2047 * 2 ^ 52) : ∃ s c q, FP.Core.val64 (FP.Core.ddiv x 4620693217682128896) = .fin s c q ∧ c ≠ 0 := by
  have hE : FP.Core.fieldE FP.Core.b64 x.toNat = x.toNat % 2 ^ 63 / 2 ^ 52 := by rw [FP.Core.fieldE_mag, FP.Core.mag_toNat64, FP.Core.tails_b64]
  have e8 : FP.Core.val64 4620693217682128896 = .fin false (2 ^ 52) (-49) := by decide +kernel
  have hv : FP.Core.val64 x = .fin (FP.Core.fieldS FP.Core.b64 x.toNat) (FP.Core.b64.tails + FP.Core.fieldT FP.Core.b64 x.toNat) (FP.Core.b64.qmin + ((FP.Core.fieldE FP.Core.b64 x.toNat : Int) - 1)) := by
    show FP.Core.decode FP.Core.b64 x.toNat = _
    unfold FP.Core.decode
    rw [if_neg (by rw [FP.Core.exps_b64]; omega), if_neg (by omega)]
  have hf := FP.Core.val64_fits x
  rw [hv] at hf
  obtain ⟨f1, f2, f3, -⟩ := hf
  have ht : FP.Core.b64.tails = 2 ^ 52 := FP.Core.tails_b64
  have hq : FP.Core.b64.qmin = -1074 := FP.Core.qmin_b64
  refine ⟨FP.Core.fieldS FP.Core.b64 x.toNat != false, FP.Core.b64.tails + FP.Core.fieldT FP.Core.b64 x.toNat, FP.Core.b64.qmin + ((FP.Core.fieldE FP.Core.b64 x.toNat : Int) - 1) - 3, ?_, by omega⟩
  rw [FP.Core.val64_ddiv, hv, e8]
  simp only [FP.Core.quotient]
  rw [if_neg (by decide)]
  refine FP.Core.roundRatio_exact FP.Core.good_b64 (by decide) ⟨f1, by omega, by omega, Or.inr (by omega)⟩ ?_
  rw [show (FP.Core.b64.qmin + ((FP.Core.fieldE FP.Core.b64 x.toNat : Int) - 1) - -49 - (FP.Core.b64.qmin + ((FP.Core.fieldE FP.Core.b64 x.toNat : Int) - 1) - 3)).toNat = 52 by omega, show (FP.Core.b64.qmin + ((FP.Core.fieldE FP.Core.b64 x.toNat : Int) - 1) - 3 - (FP.Core.b64.qmin + ((FP.Core.fieldE FP.Core.b64 x.toNat : Int) - 1) - -49)).toNat = 0 by omega, Nat.pow_zero, Nat.mul_one]
theorem eighth32 {x : UInt32} (h : 127 * 2 ^ 23 ≤ x.toNat % 2 ^ 31) (h2 : x.toNat % 2 ^ 31 < 255 * 2 ^ 23) : ∃ s c q, FP.Core.val32 (FP.Core.fdiv x 1090519040) = .fin s c q ∧ c ≠ 0 := by
  have ht : FP.Core.b32.tails = 2 ^ 23 := by decide
  have hq : FP.Core.b32.qmin = -149 := by decide
  have hE : FP.Core.fieldE FP.Core.b32 x.toNat = x.toNat % 2 ^ 31 / 2 ^ 23 := by rw [FP.Core.fieldE_mag, FP.Core.mag_toNat32, ht]
  have e8 : FP.Core.val32 1090519040 = .fin false (2 ^ 23) (-20) := by decide +kernel
  have hv : FP.Core.val32 x = .fin (FP.Core.fieldS FP.Core.b32 x.toNat) (FP.Core.b32.tails + FP.Core.fieldT FP.Core.b32 x.toNat) (FP.Core.b32.qmin + ((FP.Core.fieldE FP.Core.b32 x.toNat : Int) - 1)) := by
    show FP.Core.decode FP.Core.b32 x.toNat = _
    unfold FP.Core.decode
    rw [if_neg (by rw [show FP.Core.b32.exps - 1 = 255 from rfl]; omega), if_neg (by omega)]
  have hf := FP.Core.val32_fits x
  rw [hv] at hf
  obtain ⟨f1, f2, f3, -⟩ := hf
  refine ⟨FP.Core.fieldS FP.Core.b32 x.toNat != false, FP.Core.b32.tails + FP.Core.fieldT FP.Core.b32 x.toNat, FP.Core.b32.qmin + ((FP.Core.fieldE FP.Core.b32 x.toNat : Int) - 1) - 3, ?_, by omega⟩
  rw [FP.Core.val32_fdiv, hv, e8]
  simp only [FP.Core.quotient]
  rw [if_neg (by decide)]
  refine FP.Core.roundRatio_exact FP.Core.good_b32 (by decide) ⟨f1, by omega, by omega, Or.inr (by omega)⟩ ?_
  rw [show (FP.Core.b32.qmin + ((FP.Core.fieldE FP.Core.b32 x.toNat : Int) - 1) - -20 - (FP.Core.b32.qmin + ((FP.Core.fieldE FP.Core.b32 x.toNat : Int) - 1) - 3)).toNat = 23 by omega, show (FP.Core.b32.qmin + ((FP.Core.fieldE FP.Core.b32 x.toNat : Int) - 1) - 3 - (FP.Core.b32.qmin + ((FP.Core.fieldE FP.Core.b32 x.toNat : Int) - 1) - -20)).toNat = 0 by omega, Nat.pow_zero, Nat.mul_one]
theorem gd_f2d {a : UInt32} {s : Bool} {c : Nat} {q : Int} (h : FP.Core.val32 a = .fin s c q) (h0 : s = true → c ≠ 0) : gd (FP.f2d a) := by
  have hn : FP.Core.fIsNaN a = false := by rw [FP.Core.notNaN_iff32, h]; exact FP.Core.Datum.noConfusion
  have hf := FP.Core.val32_fits a
  rw [h] at hf
  obtain ⟨c', q', k1, k2, k3⟩ := FP.Core.within_fit FP.Core.good_b64 FP.Core.within_32_64 hf
  unfold FP.f2d
  rw [hn]
  refine gd_of (s := s) (c := c') (q := q') ?_ (fun hs z => h0 hs (k2.mpr z))
  show FP.Core.val64 (FP.Core.f2d a) = _
  rw [FP.Core.val64_f2d, h]
  exact FP.Core.roundRatio_exact FP.Core.good_b64 (by decide) k1 k3
theorem fd_shape (v : Int64) : ∃ s c q, FP.Core.val32 (FP.fdiv (FP.l2f v) 1090519040) = .fin s c q ∧ (s = true → c ≠ 0) := by
  by_cases h : v = 0
  · subst h
    exact ⟨false, 0, FP.Core.b32.qmin, by decide +kernel, fun h => by cases h⟩
  · have := FP.Core.l2f_big (FP.Core.int64_ne h)
    obtain ⟨s, c, q, k1, k2⟩ := eighth32 this.1 this.2
    exact ⟨s, c, q, k1, fun _ => k2⟩
theorem dd_shape (v : Int64) : ∃ s c q, FP.Core.val64 (FP.ddiv (FP.l2d v) 4620693217682128896) = .fin s c q ∧ (s = true → c ≠ 0) := by
  by_cases h : v = 0
  · subst h
    exact ⟨false, 0, FP.Core.b64.qmin, by decide +kernel, fun h => by cases h⟩
  · have := FP.Core.l2d_big (FP.Core.int64_ne h)
    obtain ⟨s, c, q, k1, k2⟩ := eighth this.1 this.2
    exact ⟨s, c, q, k1, fun _ => k2⟩
theorem lf_shape (v : Int64) : ∃ s c q, FP.Core.val32 (FP.l2f v) = .fin s c q ∧ (s = true → c ≠ 0) := by
  by_cases h : v = 0
  · subst h
    exact ⟨false, 0, FP.Core.b32.qmin, by decide +kernel, fun h => by cases h⟩
  · have h1 := FP.Core.l2f_big (FP.Core.int64_ne h)
    obtain ⟨s, c, q, k1⟩ := FP.Core.l2f_fin v
    refine ⟨s, c, q, k1, fun _ z => ?_⟩
    subst z
    have hf := FP.Core.val32_fits (FP.l2f v)
    rw [show FP.Core.val32 (FP.l2f v) = .fin s 0 q from k1] at hf
    have hq : q = FP.Core.b32.qmin := by have := hf.2.2.2; rw [show FP.Core.b32.tails = 8388608 by decide] at this; omega
    have : FP.Core.l2f v = FP.Core.of32 (.fin s 0 q) := by rw [← k1]; exact (FP.Core.of32_val32 (by rw [k1]; exact FP.Core.Datum.noConfusion)).symm
    rw [hq] at this
    rw [this] at h1
    cases s
    · exact absurd h1.1 (by decide +kernel)
    · exact absurd h1.1 (by decide +kernel)
theorem ld_shape (v : Int64) : ∃ s c q, FP.Core.val64 (FP.l2d v) = .fin s c q ∧ (s = true → c ≠ 0) := by
  by_cases h : v = 0
  · subst h
    exact ⟨false, 0, FP.Core.b64.qmin, by decide +kernel, fun h => by cases h⟩
  · have h1 := FP.Core.l2d_big (FP.Core.int64_ne h)
    obtain ⟨s, c, q, k1⟩ := FP.Core.l2d_fin v
    refine ⟨s, c, q, k1, fun _ z => ?_⟩
    subst z
    have hf := FP.Core.val64_fits (FP.l2d v)
    rw [show FP.Core.val64 (FP.l2d v) = .fin s 0 q from k1] at hf
    have hq : q = FP.Core.b64.qmin := by have := hf.2.2.2; rw [FP.Core.tails_b64] at this; omega
    have : FP.Core.l2d v = FP.Core.of64 (.fin s 0 q) := by rw [← k1]; exact (FP.Core.of64_val64 (by rw [k1]; exact FP.Core.Datum.noConfusion)).symm
    rw [hq] at this
    rw [this] at h1
    cases s
    · exact absurd h1.1 (by decide +kernel)
    · exact absurd h1.1 (by decide +kernel)
theorem fpn_fd (v : Int64) : vf_n32 (FP.fdiv (FP.l2f v) 1090519040) := by
  obtain ⟨s, c, q, h, -⟩ := fd_shape v
  exact nf32.mpr ((FP.Core.notNaN_iff32 _).mpr (by rw [h]; exact FP.Core.Datum.noConfusion))
theorem gd_fd (v : Int64) : gd (FP.f2d (FP.fdiv (FP.l2f v) 1090519040)) := by
  obtain ⟨s, c, q, h, h0⟩ := fd_shape v
  exact gd_f2d h h0
theorem gd_dd (v : Int64) : gd (FP.ddiv (FP.l2d v) 4620693217682128896) := by
  obtain ⟨s, c, q, h, h0⟩ := dd_shape v
  exact gd_of h h0
theorem gd_lf (v : Int64) : gd (FP.f2d (FP.l2f v)) := by
  obtain ⟨s, c, q, h, h0⟩ := lf_shape v
  exact gd_f2d h h0
theorem gd_ld (v : Int64) : gd (FP.l2d v) := by
  obtain ⟨s, c, q, h, h0⟩ := ld_shape v
  exact gd_of h h0
theorem gd_0 : gd 0 := gd_of (s := false) (c := 0) (q := FP.Core.b64.qmin) (by decide +kernel) (fun h => by cases h)
theorem fpn_f2d (v : Int64) : vf_n64 (FP.f2d (FP.fdiv (FP.l2f v) 1090519040)) := (gd_fd v).1
theorem fpn_dd (v : Int64) : vf_n64 (FP.ddiv (FP.l2d v) 4620693217682128896) := (gd_dd v).1
theorem fpn_lf (v : Int64) : vf_n64 (FP.f2d (FP.l2f v)) := (gd_lf v).1
theorem fpn_ld (v : Int64) : vf_n64 (FP.l2d v) := (gd_ld v).1
/-- a sum of a number with a finite one is a number -/
theorem fpn_da {x y : UInt64} (h : vf_n64 x) (h2 : gd y) : vf_n64 (FP.dadd x y) := nf64.mpr (FP.Core.dadd_out (nf64.mp h) h2.2.2)
def hmn (x : UInt64) : Bool := decide (Op.cmpValue (FP.dcmp x FP.dconst0) CmpOp.g < 0)
theorem cv_eq {x y : UInt64} (h : Op.cmpValue (FP.dcmp x y) CmpOp.l = 0) : FP.dcmp x y = some .eq := by
  cases hd : FP.dcmp x y with
  | none => rw [hd] at h; exact absurd h (by decide)
  | some o => rw [hd] at h; cases o <;> first | rfl | exact absurd h (by decide)
theorem fp_z {x : UInt64} (h : gd x) (h0 : Op.cmpValue (FP.dcmp x FP.dconst0) CmpOp.l = 0) : x = 0 := by
  have h1 := cv_eq h0
  have h2 : FP.Core.DZero x := FP.Core.zero_iff.mp h1
  obtain ⟨s, q, h3⟩ := h2
  have hf := FP.Core.val64_fits x
  rw [h3] at hf
  have hq : q = FP.Core.b64.qmin := by have := hf.2.2.2; rw [FP.Core.tails_b64] at this; omega
  have h4 : x = FP.Core.of64 (.fin s 0 FP.Core.b64.qmin) := by rw [← hq, ← h3]; exact (FP.Core.of64_val64 (by rw [h3]; exact FP.Core.Datum.noConfusion)).symm
  cases s
  · rw [h4]; decide +kernel
  · exact absurd (h4.trans (show FP.Core.of64 (.fin true 0 FP.Core.b64.qmin) = 0x8000000000000000 by decide +kernel)) h.2.1
theorem fp_id {x y : UInt64} (h : gd x) (h2 : gd y) (h0 : Op.cmpValue (FP.dcmp x y) CmpOp.l = 0) : x = y := by
  have h1 := cv_eq h0
  by_cases hz : FP.Core.DZero y
  · have hy := fp_z h2 (by rw [show FP.dcmp y FP.dconst0 = some .eq from FP.Core.zero_iff.mpr hz]; rfl)
    subst hy
    exact fp_z h h0
  · exact FP.Core.eq_bits hz h1
theorem fp_hm {x y : UInt64} (h : gd x) (h2 : gd y) (h0 : Op.cmpValue (FP.dcmp x y) CmpOp.l = 0) : hmn x = hmn y := by rw [fp_id h h2 h0]
