/-! THE STATE, in mathematics: how many things; of each its kind, length, tag; of each place its whole and its real; what each column holds (0: NOTHING, t + 1: thing t) -/
abbrev AS : Type := Nat × (Nat → Nat) × (Nat → Nat) × (Nat → Int32) × (Nat → Nat → Int64) × (Nat → Nat → UInt64) × (Nat → Nat)
abbrev AS.n (P : AS) : Nat := P.1
abbrev AS.kd (P : AS) : Nat → Nat := P.2.1
abbrev AS.ln (P : AS) : Nat → Nat := P.2.2.1
abbrev AS.tg (P : AS) : Nat → Int32 := P.2.2.2.1
abbrev AS.wh (P : AS) : Nat → Nat → Int64 := P.2.2.2.2.1
abbrev AS.re (P : AS) : Nat → Nat → UInt64 := P.2.2.2.2.2.1
abbrev AS.co (P : AS) : Nat → Nat := P.2.2.2.2.2.2
def up2 {α : Type} (f : Nat → Nat → α) (t i : Nat) (v : α) : Nat → Nat → α := fun a b => if a = t ∧ b = i then v else f a b
abbrev AS.setCo (P : AS) (c v : Nat) : AS := (P.n, P.kd, P.ln, P.tg, P.wh, P.re, va_up P.co c v)
abbrev AS.setW (P : AS) (t i : Nat) (v : Int64) : AS := (P.n, P.kd, P.ln, P.tg, up2 P.wh t i v, P.re, P.co)
abbrev AS.setR (P : AS) (t i : Nat) (v : UInt64) : AS := (P.n, P.kd, P.ln, P.tg, P.wh, up2 P.re t i v, P.co)
def b2i (b : Bool) : Int32 := if b then 1 else 0
theorem b2i_01 (b : Bool) : b2i b = 0 ∨ b2i b = 1 := by cases b; exact Or.inl rfl; exact Or.inr rfl
theorem b2i_t {b : Bool} (h : ¬ b2i b = 0) : b = true := by cases b; exact absurd rfl h; rfl
theorem b2i_f {b : Bool} (h : b2i b = 0) : b = false := by cases b; rfl; exact absurd h (by decide)
theorem b2i_ne {b : Bool} (h : b = true) : ¬ b2i b = 0 := by subst h; decide
/-- the model's cells -/
def gof : Nat → Int32 := fun k => if k = 0 then 1 else if k = 1 then 250 else if k = 2 then 244 else if k = 3 then 248 else if k = 4 then 240 else if k = 5 then 224 else if k = 6 then 192 else 128
def mcl (cy : Nat → ClassId) (ad : Nat → Nat) (P : AS) (wy so : Int32) (w : Int64) (r : UInt64) (ns : Nat → Int32) (nw : Nat → Int64) (nr : Nat → UInt64) (fr tt : Nat → Int32) : List va_E :=
  [.inr (6, [.ref (ad 1), .ref (ad 2), .ref (ad 3), .ref (ad 4), .ref (ad 5), .ref (ad 6), .int (nI P.n), .ref (ad 7), .int wy, .int so, .long w, .double r, .ref (ad 8), .ref (ad 9), .ref (ad 10), .ref (ad 11), .ref (ad 12)]),
   .inl (cy 0, 8, .inl gof), .inl (cy 0, 513, .inl (fun t => nI (P.kd t))), .inl (cy 0, 513, .inl (fun t => nI (P.ln t))), .inl (cy 0, 513, .inl P.tg),
   .inl (cy 1, 12312, .inr (.inl (fun k => P.wh (k / 24) (k % 24)))), .inl (cy 2, 12312, .inr (.inr (.inr (.inl (fun k => P.re (k / 24) (k % 24)))))), .inl (cy 0, 12, .inl (fun k => nI (P.co k))),
   .inl (cy 0, 24, .inl ns), .inl (cy 1, 24, .inr (.inl nw)), .inl (cy 2, 24, .inr (.inr (.inr (.inl nr)))), .inl (cy 0, 24, .inl fr), .inl (cy 0, 24, .inl tt)]
def mct (cy : Nat → ClassId) (ad : Nat → Nat) (P : AS) (wy so : Int32) (w : Int64) (r : UInt64) (ns : Nat → Int32) (nw : Nat → Int64) (nr : Nat → UInt64) (fr tt : Nat → Int32) : Nat → Option va_E := fun i => (mcl cy ad P wy so w r ns nw nr fr tt)[i]?
theorem mct_0 {cy : Nat → ClassId} {ad : Nat → Nat} {P : AS} {wy wy' so so' : Int32} {w w' : Int64} {r r' : UInt64} {ns : Nat → Int32} {nw : Nat → Int64} {nr : Nat → UInt64} {fr tt : Nat → Int32} : ∀ j, j ≠ 0 → mct cy ad P wy' so' w' r' ns nw nr fr tt j = mct cy ad P wy so w r ns nw nr fr tt j := by
  intro j hj
  cases j with
  | zero => exact absurd rfl hj
  | succ j => rfl
/-- what always holds -/
def WF (P : AS) : Prop := (∀ t, P.kd t ≤ 14) ∧ (∀ t, P.ln t ≤ 24) ∧ P.n ≤ 513 ∧ (∀ c, P.co c ≤ P.n) ∧ ∀ t i, 8 ≤ P.kd t → ∃ q, P.wh t i = lN q ∧ q ≤ P.n
/-- a number within bounds, as Java tests it -/
def inR (v lo hi : Int32) : Bool := decide (lo ≤ v) && decide (v ≤ hi)
def isC (c : Int32) : Bool := inR c 0 11
abbrev rm_ (f k : Nat) : Room := { frames := f, cells := 0, slots := 0, locals := k }
/-- 32-bit numbers by their integers -/
theorem i_lt (a b : Int32) : a < b ↔ a.toInt < b.toInt := Int32.lt_iff_toInt_lt
theorem i_le (a b : Int32) : a ≤ b ↔ a.toInt ≤ b.toInt := Int32.le_iff_toInt_le
theorem i_eq (a b : Int32) : a = b ↔ a.toInt = b.toInt := Int32.toInt_inj.symm
theorem inR_lo {v lo hi : Int32} (h : v < lo) : inR v lo hi = false := by
  unfold inR; rw [decide_eq_false (fun h2 => by rw [i_lt] at h; rw [i_le] at h2; omega)]; rfl
theorem inR_hi {v lo hi : Int32} (h : hi < v) : inR v lo hi = false := by
  unfold inR; rw [decide_eq_false (p := v ≤ hi) (fun h2 => by rw [i_lt] at h; rw [i_le] at h2; omega), Bool.and_false]
theorem inR_in {v lo hi : Int32} (h : ¬ v < lo) (h2 : ¬ hi < v) : inR v lo hi = true := by
  unfold inR; rw [decide_eq_true (by rw [i_lt] at h; rw [i_le]; omega), decide_eq_true (by rw [i_lt] at h2; rw [i_le]; omega)]; rfl
theorem inR_ex {v : Int32} {n : Nat} (hn : n < 2 ^ 31) (h : inR v 0 (nI n) = true) : ∃ j, j ≤ n ∧ v = nI j := by
  unfold inR at h
  rw [Bool.and_eq_true, decide_eq_true_eq, decide_eq_true_eq] at h
  exact nI_of2 (nI_toInt hn) (fun h2 => by rw [i_lt] at h2; have h1 := h.1; rw [i_le] at h1; omega) h.2
theorem inR_nI {j n : Nat} (hn : n < 2 ^ 31) (h : j ≤ n) : inR (nI j) 0 (nI n) = true := by
  unfold inR
  rw [decide_eq_true (nI_pos' (by omega)), decide_eq_true (nI_le h hn)]; rfl
theorem isC_ex {c : Int32} (h : isC c = true) : ∃ j, j < 12 ∧ c = nI j := by
  obtain ⟨j, h1, h2⟩ := inR_ex (n := 11) (by decide) h
  exact ⟨j, by omega, h2⟩
theorem isC_nI {j : Nat} (h : j < 12) : isC (nI j) = true := inR_nI (n := 11) (by decide) (by omega)
theorem nc_lt {a b : Nat} (ha : a < 2 ^ 31) (hb : b < 2 ^ 31) (h : nI a < nI b) : a < b := (nI_ltI ha hb).mp h
theorem nc_nlt {a b : Nat} (ha : a < 2 ^ 31) (hb : b < 2 ^ 31) (h : ¬ nI a < nI b) : b ≤ a := Nat.not_lt.mp (fun x => h ((nI_ltI ha hb).mpr x))
theorem nc_le {a b : Nat} (ha : a < 2 ^ 31) (hb : b < 2 ^ 31) (h : nI a ≤ nI b) : a ≤ b := (nI_leI ha hb).mp h
theorem nc_nle {a b : Nat} (ha : a < 2 ^ 31) (hb : b < 2 ^ 31) (h : ¬ nI a ≤ nI b) : b < a := Nat.not_le.mp (fun x => h ((nI_leI ha hb).mpr x))
theorem nc_eq {a b : Nat} (ha : a < 2 ^ 31) (hb : b < 2 ^ 31) (h : nI a = nI b) : a = b := (nI_eq ha hb).mp h
theorem nc_ne {a b : Nat} (ha : a < 2 ^ 31) (hb : b < 2 ^ 31) (h : ¬ nI a = nI b) : a ≠ b := fun x => h (by rw [x])
theorem b2d_t {p : Prop} [Decidable p] (h : ¬ b2i (decide p) = 0) : p := of_decide_eq_true (b2i_t h)
theorem b2d_f {p : Prop} [Decidable p] (h : b2i (decide p) = 0) : ¬ p := of_decide_eq_false (b2i_f h)
theorem b2d_1 {p : Prop} [Decidable p] (h : p) : (1 : Int32) = b2i (decide p) := by rw [decide_eq_true h]; rfl
theorem b2d_0 {p : Prop} [Decidable p] (h : ¬ p) : (0 : Int32) = b2i (decide p) := by rw [decide_eq_false h]; rfl
/-- a place that thing t has -/
def hasP (P : AS) (t : Nat) (i : Int32) : Bool := decide (0 ≤ i.toInt ∧ i.toInt < P.ln t)
theorem hasP_ex {P : AS} {t : Nat} {i : Int32} (h : hasP P t i = true) : ∃ k, k < P.ln t ∧ i = nI k := by
  unfold hasP at h
  rw [decide_eq_true_eq] at h
  have hb : i.toInt < 2147483648 := by have := Int32.toInt_lt i; omega
  refine ⟨i.toInt.toNat, by omega, ?_⟩
  rw [i_eq, nI_toInt (by omega)]; omega
theorem hasP_nI {P : AS} {t k : Nat} (h : k < P.ln t) (hk : k < 2 ^ 31) : hasP P t (nI k) = true := by
  unfold hasP; rw [nI_toInt hk, decide_eq_true_eq]; omega
def rsRow (P : AS) (j : Nat) : Nat := if P.co j = 0 then 2 else if P.kd (P.co j - 1) < 12 then 0 else 3
def rsRows (P : AS) (j k u : Nat) : Nat := if P.co j = 0 ∨ P.co k = 0 ∨ P.co u = 0 then 2 else if P.kd (P.co j - 1) < 12 ∧ P.kd (P.co k - 1) < 12 ∧ P.kd (P.co u - 1) < 12 then 0 else 3
def rsPl (P : AS) (j : Nat) (i : Int32) : Nat := if rsRow P j = 0 then (if hasP P (P.co j - 1) i = true then 0 else 4) else rsRow P j
theorem rsRow_le (P : AS) (j : Nat) : rsRow P j ≤ 3 := by unfold rsRow; split <;> (try split) <;> omega
theorem rsRows_le (P : AS) (j k u : Nat) : rsRows P j k u ≤ 3 := by unfold rsRows; split <;> (try split) <;> omega
theorem rsPl_le (P : AS) (j : Nat) (i : Int32) : rsPl P j i ≤ 4 := by unfold rsPl; have := rsRow_le P j; split <;> (try split) <;> omega
theorem rsRow_0 {P : AS} {j : Nat} (h : rsRow P j = 0) : ∃ t, P.co j = t + 1 ∧ P.kd t < 12 := by
  unfold rsRow at h
  split at h
  · omega
  · split at h
    · exact ⟨P.co j - 1, by omega, by assumption⟩
    · omega
theorem rsPl_0 {P : AS} {j : Nat} {i : Int32} (h : rsPl P j i = 0) : ∃ t k, P.co j = t + 1 ∧ P.kd t < 12 ∧ k < P.ln t ∧ i = nI k := by
  unfold rsPl at h
  split at h
  · rename_i h0
    obtain ⟨t, h1, h2⟩ := rsRow_0 h0
    rw [h1] at h
    split at h
    · rename_i h3
      obtain ⟨k, h4, h5⟩ := hasP_ex h3
      exact ⟨t, k, h1, h2, h4, h5⟩
    · omega
  · omega
theorem rsRows_0 {P : AS} {j k u : Nat} (h : rsRows P j k u = 0) : ∃ a b c, P.co j = a + 1 ∧ P.co k = b + 1 ∧ P.co u = c + 1 ∧ P.kd a < 12 ∧ P.kd b < 12 ∧ P.kd c < 12 := by
  unfold rsRows at h
  split at h
  · omega
  · rename_i h0
    split at h
    · rename_i h1
      exact ⟨P.co j - 1, P.co k - 1, P.co u - 1, by omega, by omega, by omega, h1.1, h1.2.1, h1.2.2⟩
    · omega
theorem co_cases (x : Nat) : x = 0 ∨ ∃ t, x = t + 1 := by cases x; exact Or.inl rfl; exact Or.inr ⟨_, rfl⟩
