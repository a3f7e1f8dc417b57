/-! the house's work over whole rows -/
theorem i_nle {a b : Int32} (h : ¬ b ≤ a) : a < b := by rw [i_le] at h; rw [i_lt]; omega
theorem i_nlt {a b : Int32} (h : b ≤ a) : ¬ a < b := by rw [i_le] at h; rw [i_lt]; omega
/-- places pos 0, pos 1, .. of row t get what the cells x 0, x 1, .. have -/
def wgW (P : AS) (t : Nat) (pos : Nat → Nat) (x : Nat → CE) : Nat → Nat → Nat → Int64
  | 0 => P.wh
  | k + 1 => if P.kd t ≤ 5 then up2 (wgW P t pos x k) t (pos k) (x k).2.1 else if P.kd t ≤ 7 then wgW P t pos x k else up2 (wgW P t pos x k) t (pos k) (lN (x k).2.2.2)
def wgR (P : AS) (t : Nat) (pos : Nat → Nat) (x : Nat → CE) : Nat → Nat → Nat → UInt64
  | 0 => P.re
  | k + 1 => if P.kd t ≤ 5 then wgR P t pos x k else if P.kd t ≤ 7 then up2 (wgR P t pos x k) t (pos k) (cP (x k) (P.kd t)) else wgR P t pos x k
abbrev wgP (P : AS) (t : Nat) (pos : Nat → Nat) (x : Nat → CE) (k : Nat) : AS := (P.n, P.kd, P.ln, P.tg, wgW P t pos x k, wgR P t pos x k, P.co)
theorem wg_s (P : AS) (t : Nat) (pos : Nat → Nat) (x : Nat → CE) (k : Nat) : wrP (wgP P t pos x k) t (pos k) (x k) = wgP P t pos x (k + 1) := rfl
theorem WF_wr {P : AS} (hw : WF P) {t i : Nat} {x : CE} (hq : x.2.2.2 ≤ P.n) : WF (wrP P t i x) := by
  obtain ⟨h1, h2, h3, h4, h5⟩ := hw
  refine ⟨h1, h2, h3, h4, fun a b hab => ?_⟩
  show ∃ q, wrW P t i x a b = lN q ∧ q ≤ P.n
  have hab : 8 ≤ P.kd a := hab
  unfold wrW
  split
  · unfold up2
    by_cases e : a = t ∧ b = i
    · have := e.1; subst this; omega
    · rw [if_neg e]; exact h5 a b hab
  · split
    · exact h5 a b hab
    · unfold up2
      by_cases e : a = t ∧ b = i
      · rw [if_pos e]; exact ⟨_, rfl, hq⟩
      · rw [if_neg e]; exact h5 a b hab
theorem WF_wg {P : AS} (hw : WF P) {t : Nat} {pos : Nat → Nat} {x : Nat → CE} : ∀ {k : Nat}, (∀ i, i < k → (x i).2.2.2 ≤ P.n) → WF (wgP P t pos x k)
  | 0, _ => hw
  | k + 1, h => WF_wr (P := wgP P t pos x k) (WF_wg hw (fun i hi => h i (by omega))) (h k (by omega))
/-- one move: what is amiss, and the cells behind it -/
def smR (P : AS) (f t : Nat) (i u : Int32) (x : CE) : Nat := if hasP P f i = true ∧ hasP P t u = true then (if tkC P t (rdC P f (cN i) x) = true then 0 else 5) else 4
def smL (P : AS) (f t : Nat) (i u : Int32) (cl : Nat → CE) (j : Nat) : Nat → CE := if hasP P f i = true ∧ hasP P t u = true then va_up cl j (rdC P f (cN i) (cl j)) else cl
theorem smR_le (P : AS) (f t : Nat) (i u : Int32) (x : CE) : smR P f t i u x ≤ 5 := by unfold smR; split <;> (try split) <;> omega
/-- two values of rows, the one less than the other -/
theorem rd_ls {P : AS} {x y i j : Nat} {a b : CE} (hx : P.kd x < 8) (hy : P.kd y < 8) (h0 : P.kd x = 0 ↔ P.kd y = 0) : cLs (rdC P y j b) (rdC P x i a) = decide (agn (P.kd y) (P.wh y j) (P.re y j) (P.kd x) (P.wh x i) (P.re x i) = -1) := by
  have hW : ∀ t i z, P.kd t < 8 → cW (rdC P t i z) = decide (P.kd t ≤ 5) := by
    intro t i z ht
    unfold rdC cW
    by_cases h5 : P.kd t ≤ 5
    · rw [if_pos h5, decide_eq_true h5, decide_eq_true_eq]
      exact ⟨nI_pos (by omega), fun h => by have := (nI_ltI (a := 5) (b := P.kd t) (by decide) (by omega)).mp h; omega⟩
    · rw [if_neg h5, if_pos (by omega), decide_eq_false h5, decide_eq_false_iff_not]
      exact fun h => h.2 ((nI_ltI (a := 5) (b := P.kd t) (by decide) (by omega)).mpr (by omega))
  have hP : ∀ t i z, P.kd t < 8 → cP (rdC P t i z) 7 = dbl (P.kd t) (P.wh t i) (P.re t i) := by
    intro t i z ht
    unfold cP dbl
    rw [hW t i z ht]
    by_cases h5 : P.kd t ≤ 5
    · rw [decide_eq_true h5, if_pos rfl, if_pos h5, if_neg (by decide)]; unfold rdC; rw [if_pos h5]
    · rw [decide_eq_false h5, if_neg (by decide), if_neg h5]; unfold rdC; rw [if_neg h5, if_pos (by omega)]
  unfold cLs
  rw [hW y j b hy, hW x i a hx, hP y j b hy, hP x i a hx]
  unfold agn
  by_cases h5 : P.kd y ≤ 5 ∧ P.kd x ≤ 5
  · rw [if_pos ⟨decide_eq_true h5.1, decide_eq_true h5.2⟩, if_neg (by omega)]
    have e1 : (rdC P y j b).2.1 = P.wh y j := by unfold rdC; rw [if_pos h5.1]
    have e2 : (rdC P x i a).2.1 = P.wh x i := by unfold rdC; rw [if_pos h5.2]
    rw [e1, e2, decide_eq_decide]
    unfold ordW
    rw [if_pos (by rw [decide_eq_decide]; exact h0.symm)]
    by_cases h : P.wh y j < P.wh x i
    · rw [if_pos h]; exact ⟨fun _ => rfl, fun _ => h⟩
    · rw [if_neg h]; refine ⟨fun h2 => absurd h2 h, fun h2 => ?_⟩
      split at h2 <;> exact absurd h2 (by decide)
  · rw [if_neg (fun h => h5 ⟨of_decide_eq_true h.1, of_decide_eq_true h.2⟩), if_pos (by omega), decide_eq_decide]
    unfold cmpD
    by_cases h : 0 ≤ Op.cmpValue (FP.dcmp (dbl (P.kd y) (P.wh y j) (P.re y j)) (dbl (P.kd x) (P.wh x i) (P.re x i))) CmpOp.g
    · rw [if_pos h]; refine ⟨fun h2 => absurd h h2, fun h2 => ?_⟩
      split at h2 <;> exact absurd h2 (by decide)
    · rw [if_neg h]; exact ⟨fun _ => rfl, fun _ => h⟩
/-- an end of the house where the stage's cells are kept -/
def hpoK (cy : Nat → ClassId) (ad : Nat → Nat) (v0 : Option Value) (P : AS) (wy : Int32) (cl0 : Nat → CE) (st : Nat → Nat) (tg : Nat → Int32) : Option Value → (Nat → Option va_E) → Prop := fun v c' => v = v0 ∧ ∃ cl : Nat → CE, c' = hct cy ad P wy cl st tg ∧ HI P cl st ∧ ∀ j, j < 24 → cl j = cl0 j
theorem hpoK.mk {cy : Nat → ClassId} {ad : Nat → Nat} {v0 v : Option Value} {P : AS} {wy : Int32} {cl0 cl : Nat → CE} {st : Nat → Nat} {tg : Nat → Int32} (h : v = v0) (h2 : HI P cl st) (h3 : ∀ j, j < 24 → cl j = cl0 j) : hpoK cy ad v0 P wy cl0 st tg v (hct cy ad P wy cl st tg) := ⟨h, _, rfl, h2, h3⟩
/-- a place of row t comes before another of it -/
def bfp (P : AS) (t a b : Nat) : Bool := cBf P (rdC P t a (-1, 0, 0, 0)) (rdC P t b (-1, 0, 0, 0))
theorem rd_irr {P : AS} (t i : Nat) (y z : CE) : (rdC P t i y).1 = (rdC P t i z).1 ∧ (P.kd t ≤ 5 → (rdC P t i y).2.1 = (rdC P t i z).2.1) ∧ ((6 ≤ P.kd t ∧ P.kd t ≤ 7) → (rdC P t i y).2.2.1 = (rdC P t i z).2.2.1) ∧ (8 ≤ P.kd t → (rdC P t i y).2.2.2 = (rdC P t i z).2.2.2) := by
  unfold rdC
  by_cases h : P.kd t ≤ 5
  · rw [if_pos h, if_pos h]; exact ⟨rfl, fun _ => rfl, fun _ => by omega, fun _ => by omega⟩
  · rw [if_neg h, if_neg h]
    by_cases h2 : P.kd t ≤ 7
    · rw [if_pos h2, if_pos h2]; exact ⟨rfl, fun _ => by omega, fun _ => rfl, fun _ => by omega⟩
    · rw [if_neg h2, if_neg h2]; exact ⟨rfl, fun _ => by omega, fun _ => by omega, fun _ => rfl⟩
/-- what kind of cell a read makes -/
theorem rd_k {P : AS} (t i : Nat) (z : CE) : (P.kd t ≤ 5 ∧ rdC P t i z = (nI (P.kd t), P.wh t i, z.2.2)) ∨ ((6 ≤ P.kd t ∧ P.kd t ≤ 7) ∧ rdC P t i z = (nI (P.kd t), z.2.1, P.re t i, z.2.2.2)) ∨ (8 ≤ P.kd t ∧ rdC P t i z = (-1, z.2.1, z.2.2.1, (P.wh t i).toNatClampNeg)) := by
  unfold rdC
  by_cases h : P.kd t ≤ 5
  · rw [if_pos h]; exact Or.inl ⟨h, rfl⟩
  · rw [if_neg h]
    by_cases h2 : P.kd t ≤ 7
    · rw [if_pos h2]; exact Or.inr (Or.inl ⟨⟨by omega, h2⟩, rfl⟩)
    · rw [if_neg h2]; exact Or.inr (Or.inr ⟨by omega, rfl⟩)
theorem cV_n {k : Nat} (h : k < 8) (x : Int64 × UInt64 × Nat) : cV (nI k, x) = true := by
  unfold cV; rw [decide_eq_true_eq]
  intro e
  have h1 : (nI k).toInt = k := nI_toInt (by omega)
  rw [show nI k = -1 from e] at h1
  have h2 : ((-1 : Int32)).toInt = -1 := by decide
  omega
theorem cW_y {k : Nat} (h : k ≤ 5) (x : Int64 × UInt64 × Nat) : cW (nI k, x) = true := by
  unfold cW; rw [decide_eq_true_eq]
  exact ⟨nI_pos (by omega), fun h2 => by have := (nI_ltI (a := 5) (b := k) (by decide) (by omega)).mp h2; omega⟩
theorem cW_n {k : Nat} (h : 6 ≤ k) (h8 : k < 8) (x : Int64 × UInt64 × Nat) : cW (nI k, x) = false := by
  unfold cW; rw [decide_eq_false_iff_not]
  exact fun h2 => h2.2 ((nI_ltI (a := 5) (b := k) (by decide) (by omega)).mpr (by omega))
theorem cV_m (x : Int64 × UInt64 × Nat) : cV (-1, x) = false := decide_eq_false (fun h => h rfl)
theorem bf_irr {P : AS} (t a b : Nat) (y z : CE) : cBf P (rdC P t a y) (rdC P t b z) = bfp P t a b := by
  unfold bfp
  rcases rd_k (P := P) t a y with ⟨h, e1⟩ | ⟨h, e1⟩ | ⟨h, e1⟩
  · rcases rd_k (P := P) t b z with ⟨_, e2⟩ | ⟨h2, e2⟩ | ⟨h2, e2⟩ <;> try omega
    rcases rd_k (P := P) t a (-1, 0, 0, 0) with ⟨_, e3⟩ | ⟨h3, _⟩ | ⟨h3, _⟩ <;> try omega
    rcases rd_k (P := P) t b (-1, 0, 0, 0) with ⟨_, e4⟩ | ⟨h3, _⟩ | ⟨h3, _⟩ <;> try omega
    rw [e1, e2, e3, e4]; unfold cBf
    rw [if_pos (cV_n (by omega) _), if_pos (cV_n (by omega) _)]; unfold cLs
    rw [if_pos ⟨cW_y h _, cW_y h _⟩, if_pos ⟨cW_y h _, cW_y h _⟩]
  · rcases rd_k (P := P) t b z with ⟨_, e2⟩ | ⟨h2, e2⟩ | ⟨h2, e2⟩ <;> try omega
    rcases rd_k (P := P) t a (-1, 0, 0, 0) with ⟨_, e3⟩ | ⟨h3, e3⟩ | ⟨h3, _⟩ <;> try omega
    rcases rd_k (P := P) t b (-1, 0, 0, 0) with ⟨_, e4⟩ | ⟨h3, e4⟩ | ⟨h3, _⟩ <;> try omega
    rw [e1, e2, e3, e4]; unfold cBf
    rw [if_pos (cV_n (by omega) _), if_pos (cV_n (by omega) _)]; unfold cLs cP
    rw [cW_n h.1 (by omega), cW_n h.1 (by omega), cW_n h.1 (by omega), cW_n h.1 (by omega)]; simp only [Bool.false_eq_true, false_and, if_false]
  · rcases rd_k (P := P) t b z with ⟨_, e2⟩ | ⟨h2, e2⟩ | ⟨h2, e2⟩ <;> try omega
    rcases rd_k (P := P) t a (-1, 0, 0, 0) with ⟨_, e3⟩ | ⟨h3, e3⟩ | ⟨h3, e3⟩ <;> try omega
    rcases rd_k (P := P) t b (-1, 0, 0, 0) with ⟨_, e4⟩ | ⟨h3, e4⟩ | ⟨h3, e4⟩ <;> try omega
    rw [e1, e2, e3, e4]; unfold cBf
    rw [cV_m, cV_m]; simp only [Bool.false_eq_true, if_false]
/-- the place that the last cell sinks to -/
def skA (bf : Nat → Bool) : Nat → Nat
  | 0 => 0
  | a + 1 => if bf a = true then skA bf a else a + 1
theorem skA_le (bf : Nat → Bool) : ∀ a, skA bf a ≤ a
  | 0 => Nat.le_refl _
  | a + 1 => by unfold skA; have := skA_le bf a; split <;> omega
/-- the cells behind place a up to the last stand one place on -/
def shf {α : Type} (st : Nat → α) (a n : Nat) : Nat → α := fun i => if a < i ∧ i ≤ n then st (i - 1) else st i
def ins {α : Type} (st : Nat → α) (p n : Nat) (x : α) : Nat → α := fun i => if i < p then st i else if i = p then x else if i ≤ n then st (i - 1) else st i
theorem shf_0 {α : Type} (st : Nat → α) (n : Nat) : shf st n n = st := by funext i; unfold shf; rw [if_neg (by omega)]
theorem shf_s {α : Type} (st : Nat → α) (a n : Nat) (h : a + 1 ≤ n) : va_up (shf st (a + 1) n) (a + 1) (shf st (a + 1) n a) = shf st a n := by
  funext i; unfold va_up
  by_cases e : i = a + 1
  · rw [if_pos e]; unfold shf; rw [if_neg (by omega), if_pos (by omega), e]; rfl
  · rw [if_neg e]; unfold shf
    by_cases h2 : a + 1 < i ∧ i ≤ n
    · rw [if_pos h2, if_pos (by omega)]
    · rw [if_neg h2, if_neg (by omega)]
theorem shf_e {α : Type} (st : Nat → α) (p n : Nat) (x : α) (hp : p ≤ n) : va_up (shf st p n) p x = ins st p n x := by
  funext i; unfold va_up ins shf
  by_cases e : i = p
  · rw [if_pos e, if_neg (by omega), if_pos e]
  · rw [if_neg e]
    by_cases h : i < p
    · rw [if_pos h, if_neg (by omega)]
    · rw [if_neg h, if_neg e]
      by_cases h2 : i ≤ n
      · rw [if_pos h2, if_pos (by omega)]
      · rw [if_neg h2, if_neg (by omega)]
/-- the order that sinking one place after the other makes -/
def sgm (P : AS) (t : Nat) : Nat → Nat → Nat
  | 0 => fun i => i
  | k + 1 => ins (sgm P t k) (skA (fun a => bfp P t k (sgm P t k a)) k) k k
def lkp (P : AS) (t i j : Nat) : Bool := decide (P.wh t i = P.wh t j ∧ deq (P.re t i) (P.re t j) = true)
def ulC (P : AS) (t : Nat) (σ : Nat → Nat) : Nat → Nat
  | 0 => 0
  | k + 1 => if lkp P t k (σ k) = true then ulC P t σ k else ulC P t σ k + 1
theorem ulC_le (P : AS) (t : Nat) (σ : Nat → Nat) : ∀ k, ulC P t σ k ≤ k
  | 0 => Nat.le_refl _
  | k + 1 => by unfold ulC; have := ulC_le P t σ k; split <;> omega
theorem deq_00 : deq 0 0 = true := by unfold deq; decide +kernel
theorem rd_lkp {P : AS} (hw : WF P) (hz : WZ P) {t i j : Nat} {y z : CE} (hk : P.kd t < 12) : cLk (rdC P t i y) (rdC P t j z) = lkp P t i j := by
  unfold lkp
  rcases rd_k (P := P) t i y with ⟨h, e1⟩ | ⟨h, e1⟩ | ⟨h, e1⟩
  · rcases rd_k (P := P) t j z with ⟨_, e2⟩ | ⟨h2, e2⟩ | ⟨h2, e2⟩ <;> try omega
    rw [e1, e2, (hz t i).1 (Or.inl h), (hz t j).1 (Or.inl h)]; unfold cLk
    rw [if_pos ⟨cV_n (by omega) _, cV_n (by omega) _⟩, if_pos rfl, if_pos ⟨cW_y h _, cW_y h _⟩, decide_eq_decide]
    exact ⟨fun h => ⟨h, deq_00⟩, fun h => h.1⟩
  · rcases rd_k (P := P) t j z with ⟨_, e2⟩ | ⟨h2, e2⟩ | ⟨h2, e2⟩ <;> try omega
    rw [e1, e2, (hz t i).2 h, (hz t j).2 h]; unfold cLk
    rw [if_pos ⟨cV_n (by omega) _, cV_n (by omega) _⟩, if_pos rfl, if_neg (fun x => by have := x.1; rw [cW_n h.1 (by omega)] at this; cases this), decide_eq_decide]
    unfold cP deq
    rw [cW_n h.1 (by omega), cW_n h.1 (by omega), decide_eq_true_eq]
    exact ⟨fun h => ⟨rfl, h⟩, fun h => h.2⟩
  · rcases rd_k (P := P) t j z with ⟨_, e2⟩ | ⟨h2, e2⟩ | ⟨h2, e2⟩ <;> try omega
    rw [e1, e2, (hz t i).1 (Or.inr h), (hz t j).1 (Or.inr h)]; unfold cLk
    rw [if_neg (fun x => by have := x.1; rw [cV_m] at this; cases this), decide_eq_decide]
    obtain ⟨a, ha, ha2⟩ := hw.2.2.2.2 t i h
    obtain ⟨b, hb, hb2⟩ := hw.2.2.2.2 t j h
    have hn := hw.2.2.1
    rw [ha, hb]
    show (_ ∧ (lN a).toNatClampNeg = (lN b).toNatClampNeg) ↔ _
    rw [lN_clamp (by omega), lN_clamp (by omega), cV_m, cV_m]
    exact ⟨fun h => ⟨by rw [h.2], deq_00⟩, fun h => ⟨rfl, (lN_eq (by omega) (by omega)).mp h.1⟩⟩
