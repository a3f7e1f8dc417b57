/-- what the house keeps to besides its state: its cells are in order, its stage is one of different cells -/
def HI (P : AS) (cl : Nat → CE) (st : Nat → Nat) : Prop := (∀ j, j < 26 → cOK P (cl j)) ∧ (∀ k, k < 24 → st k < 24) ∧ ∀ a b, a < 24 → b < 24 → st a = st b → a = b
theorem HI_up {P : AS} {cl : Nat → CE} {st : Nat → Nat} (h : HI P cl st) {j : Nat} {x : CE} (hx : cOK P x) : HI P (va_up cl j x) st := by
  refine ⟨fun i hi => ?_, h.2⟩
  by_cases e : i = j
  · rw [e, va_up_self]; exact hx
  · rw [va_up_ne _ _ e]; exact h.1 i hi
theorem cOK_rd {P : AS} (hw : WF P) {t i : Nat} {x : CE} (h : cOK P x) (hk : P.kd t < 12) : cOK P (rdC P t i x) := by
  unfold rdC
  by_cases h1 : P.kd t ≤ 5
  · rw [if_pos h1]; exact ⟨Or.inr ⟨P.kd t, by omega, rfl⟩, h.2⟩
  · rw [if_neg h1]
    by_cases h2 : P.kd t ≤ 7
    · rw [if_pos h2]; exact ⟨Or.inr ⟨P.kd t, by omega, rfl⟩, h.2⟩
    · rw [if_neg h2]
      obtain ⟨q, hq, hq2⟩ := hw.2.2.2.2 t i (by omega)
      have := hw.2.2.1
      exact ⟨Or.inl rfl, by show (P.wh t i).toNatClampNeg ≤ P.n; rw [hq, lN_clamp (by omega)]; exact hq2⟩
theorem cOK_td {P : AS} {k : Nat} {a b : Int32} {x : CE} (h : cOK P x) (hk : k ≤ 7) : cOK P (tdC k a b x) := by
  unfold tdC
  split
  · exact ⟨Or.inr ⟨k, by omega, rfl⟩, h.2⟩
  · exact ⟨Or.inr ⟨k, by omega, rfl⟩, h.2⟩
theorem cOK_th {P : AS} {w : Int64} {r : UInt64} {q : Nat} (h : q ≤ P.n) : cOK P (-1, w, r, q) := ⟨Or.inl rfl, h⟩
def hpost (cy : Nat → ClassId) (ad : Nat → Nat) (x : Int32 × AS × Int32) : Option Value → (Nat → Option va_E) → Prop := fun v c' => v = some (.int x.1) ∧ ∃ (cl : Nat → CE) (st : Nat → Nat) (tg : Nat → Int32), c' = hct cy ad x.2.1 x.2.2 cl st tg ∧ HI x.2.1 cl st
theorem hpost.mk {cy : Nat → ClassId} {ad : Nat → Nat} {x : Int32 × AS × Int32} {v : Int32} {P : AS} {wy : Int32} {cl : Nat → CE} {st : Nat → Nat} {tg : Nat → Int32} (h : x = (v, P, wy)) (hI : HI P cl st) : hpost cy ad x (some (.int v)) (hct cy ad P wy cl st tg) := by
  subst h; exact ⟨rfl, _, _, _, rfl, hI⟩
def hpostL (cy : Nat → ClassId) (ad : Nat → Nat) (x : Int64 × AS × Int32) : Option Value → (Nat → Option va_E) → Prop := fun v c' => v = some (.long x.1) ∧ ∃ (cl : Nat → CE) (st : Nat → Nat) (tg : Nat → Int32), c' = hct cy ad x.2.1 x.2.2 cl st tg ∧ HI x.2.1 cl st
theorem hpostL.mk {cy : Nat → ClassId} {ad : Nat → Nat} {x : Int64 × AS × Int32} {v : Int64} {P : AS} {wy : Int32} {cl : Nat → CE} {st : Nat → Nat} {tg : Nat → Int32} (h : x = (v, P, wy)) (hI : HI P cl st) : hpostL cy ad x (some (.long v)) (hct cy ad P wy cl st tg) := by
  subst h; exact ⟨rfl, _, _, _, rfl, hI⟩
def hpostD (cy : Nat → ClassId) (ad : Nat → Nat) (x : UInt64 × AS × Int32) : Option Value → (Nat → Option va_E) → Prop := fun v c' => v = some (.double x.1) ∧ ∃ (cl : Nat → CE) (st : Nat → Nat) (tg : Nat → Int32), c' = hct cy ad x.2.1 x.2.2 cl st tg ∧ HI x.2.1 cl st
theorem hpostD.mk {cy : Nat → ClassId} {ad : Nat → Nat} {x : UInt64 × AS × Int32} {v : UInt64} {P : AS} {wy : Int32} {cl : Nat → CE} {st : Nat → Nat} {tg : Nat → Int32} (h : x = (v, P, wy)) (hI : HI P cl st) : hpostD cy ad x (some (.double v)) (hct cy ad P wy cl st tg) := by
  subst h; exact ⟨rfl, _, _, _, rfl, hI⟩
/-- the same with the cells kept -/
def hpoS (cy : Nat → ClassId) (ad : Nat → Nat) (x : Int32 × AS × Int32) (cl : Nat → CE) (st : Nat → Nat) (tg : Nat → Int32) : Option Value → (Nat → Option va_E) → Prop := fun v c' => v = some (.int x.1) ∧ c' = hct cy ad x.2.1 x.2.2 cl st tg
theorem hpoS.mk {cy : Nat → ClassId} {ad : Nat → Nat} {x : Int32 × AS × Int32} {v : Int32} {P : AS} {wy : Int32} {cl : Nat → CE} {st : Nat → Nat} {tg : Nat → Int32} (h : x = (v, P, wy)) : hpoS cy ad x cl st tg (some (.int v)) (hct cy ad P wy cl st tg) := by
  subst h; exact ⟨rfl, rfl⟩
def plO (P : AS) (t : Nat) (i : Int32) (x : CE) (ans : Int32) : Int32 × AS × Int32 := if hasP P t i = true then (if tkC P t x = true then (ans, wrP P t (cN i) x, 0) else rf P 5) else rf P 4
theorem tkC_v {P : AS} {t : Nat} {x : CE} (h : cV x = true) : tkC P t x = (decide (P.kd t < 8) && goes (cN x.1) (P.kd t)) := if_pos h
theorem tkC_t {P : AS} {t : Nat} {x : CE} (h : cV x = false) : tkC P t x = (!decide (P.kd t < 8) && fitP P t x.2.2.2) := if_neg (by rw [h]; decide)
/-- rows keep to their sorts: no real in a row of wholes or things, no whole in a row of points -/
def WZ (P : AS) : Prop := ∀ t i, ((P.kd t ≤ 5 ∨ 8 ≤ P.kd t) → P.re t i = 0) ∧ ((6 ≤ P.kd t ∧ P.kd t ≤ 7) → P.wh t i = 0)
theorem earl_2 {P : AS} {c d : Int32} : earl (rsA P c) (rsA P d) = if isC c = true ∧ isC d = true then rsRows P (cN c) (cN d) (cN d) else 1 := by
  cases hc : isC c <;> cases hd : isC d
  · rw [rsA_c hc, rsA_c hd]; rfl
  · rw [rsA_c hc]; have := rsA_le P d; unfold earl; simp; omega
  · rw [rsA_c hd]; have := rsA_le P c; unfold earl; simp; omega
  · obtain ⟨j, hj, rfl⟩ := isC_ex hc
    obtain ⟨k, hk, rfl⟩ := isC_ex hd
    rw [rsA_j hj, rsA_j hk, cN_c hj, cN_c hk]
    simp only [and_self, if_true]
    unfold earl rsRow rsRows
    by_cases h1 : P.co j = 0 <;> by_cases h2 : P.co k = 0 <;> by_cases h3 : P.kd (P.co j - 1) < 12 <;> by_cases h4 : P.kd (P.co k - 1) < 12 <;> simp [h1, h2, h3, h4]
theorem mnI_N {a b : Nat} (ha : a < 2 ^ 31) (hb : b < 2 ^ 31) : mnI (nI a) (nI b) = nI (if a ≤ b then a else b) := by
  unfold mnI
  by_cases h : b < a
  · rw [if_pos ((nI_ltI hb ha).mpr h), if_neg (by omega)]
  · rw [if_neg (fun x => h ((nI_ltI hb ha).mp x)), if_pos (by omega)]
