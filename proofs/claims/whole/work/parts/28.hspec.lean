/-! what the house's cells tell -/
def cV (x : CE) : Bool := decide (x.1 ≠ -1)
def cW (x : CE) : Bool := decide (¬ x.1 < 0 ∧ ¬ 5 < x.1)
def cP (x : CE) (k : Nat) : UInt64 := if cW x = true then (if k = 6 then FP.f2d (FP.l2f x.2.1) else FP.l2d x.2.1) else x.2.2.1
def cLk (x y : CE) : Bool := if cV x = true ∧ cV y = true then (if decide (x.1 = 0) = decide (y.1 = 0) then (if cW x = true ∧ cW y = true then decide (x.2.1 = y.2.1) else decide (Op.cmpValue (FP.dcmp (cP x 7) (cP y 7)) CmpOp.l = 0)) else false) else decide (cV x = cV y ∧ x.2.2.2 = y.2.2.2)
def cLs (x y : CE) : Bool := if cW x = true ∧ cW y = true then decide (x.2.1 < y.2.1) else decide (¬ 0 ≤ Op.cmpValue (FP.dcmp (cP x 7) (cP y 7)) CmpOp.g)
def meas (P : AS) (t : Nat) : Int32 := if P.kd t < 12 then nI (P.ln t) else P.tg t
def cBf (P : AS) (x y : CE) : Bool := if cV x = true then cLs x y else if x.2.2.2 = 0 ∨ y.2.2.2 = 0 then decide (x.2.2.2 = 0 ∧ y.2.2.2 ≠ 0) else decide (meas P (x.2.2.2 - 1) < meas P (y.2.2.2 - 1))
def tdC (k : Nat) (a b : Int32) (x : CE) : CE := if k ≤ 5 then (nI k, (told k a b).1, x.2.2) else (nI k, x.2.1, (told k a b).2, x.2.2.2)
/-- a cell that has read place i of row t -/
def rdC (P : AS) (t i : Nat) (x : CE) : CE := if P.kd t ≤ 5 then (nI (P.kd t), P.wh t i, x.2.2) else if P.kd t ≤ 7 then (nI (P.kd t), x.2.1, P.re t i, x.2.2.2) else (-1, x.2.1, x.2.2.1, (P.wh t i).toNatClampNeg)
/-- place i of row t gets what a cell has -/
def wrW (P : AS) (t i : Nat) (x : CE) : Nat → Nat → Int64 := if P.kd t ≤ 5 then up2 P.wh t i x.2.1 else if P.kd t ≤ 7 then P.wh else up2 P.wh t i (lN x.2.2.2)
def wrR (P : AS) (t i : Nat) (x : CE) : Nat → Nat → UInt64 := if P.kd t ≤ 5 then P.re else if P.kd t ≤ 7 then up2 P.re t i (cP x (P.kd t)) else P.re
abbrev wrP (P : AS) (t i : Nat) (x : CE) : AS := (P.n, P.kd, P.ln, P.tg, wrW P t i x, wrR P t i x, P.co)
theorem wrP_6 {P : AS} {t i : Nat} {x : CE} (h : P.kd t ≤ 5) : wrP P t i x = P.setW t i x.2.1 := by unfold wrP wrW wrR; rw [if_pos h, if_pos h]
theorem wrP_2 {P : AS} {t i : Nat} {x : CE} (h : 6 ≤ P.kd t ∧ P.kd t ≤ 7) : wrP P t i x = P.setR t i (cP x (P.kd t)) := by unfold wrP wrW wrR; rw [if_neg (by omega), if_pos h.2, if_neg (by omega), if_pos h.2]
theorem wrP_5 {P : AS} {t i : Nat} {x : CE} (h : 8 ≤ P.kd t ∧ P.kd t ≤ 11) : wrP P t i x = P.setW t i (lN x.2.2.2) := by unfold wrP wrW wrR; rw [if_neg (by omega), if_neg (by omega), if_neg (by omega), if_neg (by omega)]
theorem rfO_inj {D : va_G} {A : Nat → Prop} {cy : Nat → ClassId} {ad : Nat → Nat} {P : AS} {wy : Int32} {cl : Nat → CE} {st : Nat → Nat} {tg : Nat → Int32} {H : Heap} (hH : hp D A (30 + 2 * P.n) ad (hct cy ad P wy cl st tg) H) {a b : Nat} (ha : a ≤ P.n) (hb : b ≤ P.n) (h : rfO ad a = rfO ad b) : a = b := by
  rcases co_cases a with rfl | ⟨a, rfl⟩ <;> rcases co_cases b with rfl | ⟨b, rfl⟩
  · rfl
  · rw [rfO_s] at h; cases h
  · rw [rfO_s] at h; cases h
  · rw [rfO_s, rfO_s] at h
    have h2 := hH.1 (30 + 2 * a) (30 + 2 * b) _ _ (by omega) (by omega) (hct_o a) (hct_o b) (Option.some.inj h)
    omega
/-- sorts go, as the class tests it -/
theorem goes_tab : ∀ a, a < 8 → ∀ b, b < 8 → goes a b = (decide (a = b) || (decide (a ≠ 0) && decide (b ≠ 2) && !(decide (a = 2) && decide (b = 3)) && decide (a < b))) := by decide +kernel
def minI (a b : Int32) : Int32 := if a ≤ b then a else b
def earl (a b : Nat) : Nat := if a = 0 then b else if b = 0 then a else if a ≤ b then a else b
def rsA (P : AS) (c : Int32) : Nat := if isC c = true then rsRow P (cN c) else 1
theorem rsA_le (P : AS) (c : Int32) : rsA P c ≤ 3 := by unfold rsA; have := rsRow_le P (cN c); split <;> omega
def rwO (P : AS) (ad : Nat → Nat) (c : Int32) : Option Nat := if rsA P c = 0 then some (ad (30 + 2 * (P.co (cN c) - 1))) else none
theorem rw_cases (P : AS) (ad : Nat → Nat) (c : Int32) : (rwO P ad c = none ∧ ¬ rsA P c = 0) ∨ ∃ j t, j < 12 ∧ c = nI j ∧ P.co j = t + 1 ∧ P.kd t < 12 ∧ rsA P c = 0 ∧ rwO P ad c = some (ad (30 + 2 * t)) := by
  by_cases h : rsA P c = 0
  · right
    have h0 := h
    unfold rsA at h
    split at h
    · rename_i hc
      obtain ⟨j, hj, rfl⟩ := isC_ex hc
      rw [cN_c hj] at h
      obtain ⟨t, h1, h2⟩ := rsRow_0 h
      refine ⟨j, t, hj, rfl, h1, h2, h0, ?_⟩
      unfold rwO; rw [if_pos h0, cN_c hj, h1]; rfl
    · omega
  · left
    exact ⟨by unfold rwO; rw [if_neg h], h⟩
def csA (P : AS) (c : Int32) : Nat := if isC c = true then (if isCd P (cN c) = true then 0 else 5) else 1
def cdO (P : AS) (ad : Nat → Nat) (c : Int32) : Option Nat := if csA P c = 0 then some (ad (30 + 2 * (P.co (cN c) - 1))) else none
theorem cd_cases (P : AS) (ad : Nat → Nat) (c : Int32) : (cdO P ad c = none ∧ ¬ csA P c = 0) ∨ ∃ j t, j < 12 ∧ c = nI j ∧ P.co j = t + 1 ∧ 12 ≤ P.kd t ∧ csA P c = 0 ∧ cdO P ad c = some (ad (30 + 2 * t)) := by
  by_cases h : csA P c = 0
  · right
    have h0 := h
    unfold csA at h
    split at h
    · rename_i hc
      obtain ⟨j, hj, rfl⟩ := isC_ex hc
      rw [cN_c hj] at h
      split at h
      · rename_i h3
        obtain ⟨t, h1, h2⟩ := isCd_ex h3
        refine ⟨j, t, hj, rfl, h1, h2, h0, ?_⟩
        unfold cdO; rw [if_pos h0, cN_c hj, h1]; rfl
      · omega
    · omega
  · left
    exact ⟨by unfold cdO; rw [if_neg h], h⟩
theorem b2i_inj {a b : Bool} (h : b2i a = b2i b) : a = b := by cases a <;> cases b <;> first | rfl | exact absurd h (by decide)
theorem b2i_nej {a b : Bool} (h : ¬ b2i a = b2i b) : ¬ a = b := fun e => h (by rw [e])
theorem cLk_n1 {x y : CE} (h : ¬ (cV x = true ∧ cV y = true)) (h2 : ¬ cV x = cV y) : cLk x y = false := by unfold cLk; rw [if_neg h]; exact decide_eq_false (fun e => h2 e.1)
theorem cLk_n2 {x y : CE} (h : ¬ (cV x = true ∧ cV y = true)) (h2 : cV x = cV y) (h3 : x.2.2.2 = y.2.2.2) : cLk x y = true := by unfold cLk; rw [if_neg h]; exact decide_eq_true ⟨h2, h3⟩
theorem cLk_n3 {x y : CE} (h : ¬ (cV x = true ∧ cV y = true)) (h3 : ¬ x.2.2.2 = y.2.2.2) : cLk x y = false := by unfold cLk; rw [if_neg h]; exact decide_eq_false (fun e => h3 e.2)
