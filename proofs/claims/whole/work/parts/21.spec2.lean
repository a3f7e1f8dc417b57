/-! merging, sorting, turning, asking -/
def mgO (P : AS) (x y i j : Nat) : Bool := decide (i = P.ln x) || (decide (j < P.ln y) && decide (agn (P.kd y) (P.wh y j) (P.re y j) (P.kd x) (P.wh x i) (P.re x i) = -1))
/-- how many places of x are used behind k steps -/
def mgI (P : AS) (x y : Nat) : Nat → Nat
  | 0 => 0
  | k + 1 => if mgO P x y (mgI P x y k) (k - mgI P x y k) = true then mgI P x y k else mgI P x y k + 1
def mgS (P : AS) (x y k : Nat) : Nat := if mgO P x y (mgI P x y k) (k - mgI P x y k) = true then P.kd y else P.kd x
def mgV (P : AS) (x y k : Nat) : Int64 × UInt64 := if mgO P x y (mgI P x y k) (k - mgI P x y k) = true then (P.wh y (k - mgI P x y k), P.re y (k - mgI P x y k)) else (P.wh x (mgI P x y k), P.re x (mgI P x y k))
theorem mgI_ok (P : AS) (x y : Nat) : ∀ k, k ≤ P.ln x + P.ln y → mgI P x y k ≤ k ∧ mgI P x y k ≤ P.ln x ∧ k - mgI P x y k ≤ P.ln y
  | 0, _ => ⟨Nat.le_refl _, Nat.zero_le _, by show 0 - 0 ≤ _; omega⟩
  | k + 1, h => by
    obtain ⟨h1, h2, h3⟩ := mgI_ok P x y k (by omega)
    show (if _ then _ else _) ≤ _ ∧ (if _ then _ else _) ≤ _ ∧ _ - (if _ then _ else _) ≤ _
    by_cases e : mgO P x y (mgI P x y k) (k - mgI P x y k) = true
    · rw [if_pos e]
      refine ⟨by omega, h2, ?_⟩
      by_cases e2 : mgI P x y k = P.ln x
      · omega
      · have : k - mgI P x y k < P.ln y := by
          simp only [mgO, e2, decide_false, Bool.false_or, Bool.and_eq_true, decide_eq_true_eq] at e
          exact e.1
        omega
    · rw [if_neg e]
      have e2 : mgI P x y k ≠ P.ln x := fun e2 => e (by simp [mgO, e2])
      exact ⟨by omega, by omega, by omega⟩
theorem mgI_T {P : AS} {x y k : Nat} (h : mgO P x y (mgI P x y k) (k - mgI P x y k) = true) : mgI P x y (k + 1) = mgI P x y k ∧ mgS P x y k = P.kd y ∧ mgV P x y k = (P.wh y (k - mgI P x y k), P.re y (k - mgI P x y k)) := ⟨if_pos h, if_pos h, if_pos h⟩
theorem mgI_F {P : AS} {x y k : Nat} (h : mgO P x y (mgI P x y k) (k - mgI P x y k) = false) : mgI P x y (k + 1) = mgI P x y k + 1 ∧ mgS P x y k = P.kd x ∧ mgV P x y k = (P.wh x (mgI P x y k), P.re x (mgI P x y k)) := by
  have h2 : ¬ mgO P x y (mgI P x y k) (k - mgI P x y k) = true := by rw [h]; decide
  exact ⟨if_neg h2, if_neg h2, if_neg h2⟩
theorem mgS_lt {P : AS} {x y k : Nat} (h : P.kd x < 8) (h2 : P.kd y < 8) : mgS P x y k < 8 := by unfold mgS; split <;> assumption
def mgG (P : AS) (x y t : Nat) : Nat → Bool
  | 0 => true
  | k + 1 => mgG P x y t k && goes (mgS P x y k) (P.kd t)
theorem mgG_le {P : AS} {x y t : Nat} : ∀ {n k : Nat}, mgG P x y t n = true → k ≤ n → mgG P x y t k = true
  | 0, k, h, hk => by rw [show k = 0 by omega]; rfl
  | n + 1, k, h, hk => by
    by_cases e : k = n + 1
    · rw [e]; exact h
    · have h2 : (mgG P x y t n && goes (mgS P x y n) (P.kd t)) = true := h
      rw [Bool.and_eq_true] at h2
      exact mgG_le h2.1 (by omega)
def mgW (P : AS) (x y t : Nat) : Nat → AS
  | 0 => P
  | k + 1 => (mgW P x y t k).put t k (wdn (mgS P x y k) (P.kd t) (mgV P x y k).1 (mgV P x y k).2)
theorem mgW_same (P : AS) (x y t : Nat) : ∀ k, (mgW P x y t k).n = P.n ∧ (mgW P x y t k).kd = P.kd ∧ (mgW P x y t k).ln = P.ln ∧ (mgW P x y t k).tg = P.tg ∧ (mgW P x y t k).co = P.co
  | 0 => ⟨rfl, rfl, rfl, rfl, rfl⟩
  | k + 1 => by
    obtain ⟨h1, h2, h3, h4, h5⟩ := mgW_same P x y t k
    exact ⟨h1, h2, h3, h4, h5⟩
def sp_merge (P : AS) (c d e : Int32) : Int32 × AS × Int32 :=
  if isC c = true ∧ isC d = true ∧ isC e = true then (if rsRows P (cN c) (cN d) (cN e) = 0 then
    (if (P.kd (P.co (cN c) - 1) < 8 ∧ P.kd (P.co (cN d) - 1) < 8 ∧ P.kd (P.co (cN e) - 1) < 8) ∧ (P.kd (P.co (cN c) - 1) = 0 ↔ P.kd (P.co (cN d) - 1) = 0) then
      (if P.ln (P.co (cN e) - 1) = P.ln (P.co (cN c) - 1) + P.ln (P.co (cN d) - 1) then
        (if mgG P (P.co (cN c) - 1) (P.co (cN d) - 1) (P.co (cN e) - 1) (P.ln (P.co (cN e) - 1)) = true then (nI (P.ln (P.co (cN e) - 1)), mgW P (P.co (cN c) - 1) (P.co (cN d) - 1) (P.co (cN e) - 1) (P.ln (P.co (cN e) - 1)), 0) else rf P 5) else rf P 4) else rf P 6) else rf P (rsRows P (cN c) (cN d) (cN e))) else rf P 1
/-- the model's end where its rows of new values are kept -/
def mpoK (cy : Nat → ClassId) (ad : Nat → Nat) (v0 : Option Value) (P : AS) (wy : Int32) (ns : Nat → Int32) (nw : Nat → Int64) (nr : Nat → UInt64) (fr tt : Nat → Int32) : Option Value → (Nat → Option va_E) → Prop := fun v c' => v = v0 ∧ ∃ (so : Int32) (w : Int64) (r : UInt64), c' = mct cy ad P wy so w r ns nw nr fr tt
def rank (P : AS) (q : Nat) : Int64 := if q = 0 then -4294967296 else if P.kd (q - 1) < 12 then (nI (P.ln (q - 1))).toInt64 else (P.tg (q - 1)).toInt64
/-- place i of thing t comes before its place j -/
def bef (P : AS) (t i j : Nat) : Bool := if P.kd t < 8 then decide (agn (P.kd t) (P.wh t i) (P.re t i) (P.kd t) (P.wh t j) (P.re t j) = -1) else decide (rank P (P.wh t i).toNatClampNeg < rank P (P.wh t j).toNatClampNeg)
def swp (P : AS) (t i j : Nat) : AS := ((P.setW t i (P.wh t j)).setR t i (P.re t j)).put t j (P.wh t i, P.re t i)
def bubI (P : AS) (t : Nat) : Nat → AS
  | 0 => P
  | i + 1 => if bef (bubI P t i) t (i + 1) i = true then swp (bubI P t i) t (i + 1) i else bubI P t i
def bubO (P : AS) (t : Nat) : Nat → AS
  | 0 => P
  | k + 1 => bubI (bubO P t k) t (P.ln t - 1)
theorem bubI_same (P : AS) (t : Nat) : ∀ k, (bubI P t k).n = P.n ∧ (bubI P t k).kd = P.kd ∧ (bubI P t k).ln = P.ln ∧ (bubI P t k).tg = P.tg ∧ (bubI P t k).co = P.co
  | 0 => ⟨rfl, rfl, rfl, rfl, rfl⟩
  | k + 1 => by
    obtain ⟨h1, h2, h3, h4, h5⟩ := bubI_same P t k
    unfold bubI
    split <;> exact ⟨h1, h2, h3, h4, h5⟩
theorem bubO_same (P : AS) (t : Nat) : ∀ k, (bubO P t k).n = P.n ∧ (bubO P t k).kd = P.kd ∧ (bubO P t k).ln = P.ln ∧ (bubO P t k).tg = P.tg ∧ (bubO P t k).co = P.co
  | 0 => ⟨rfl, rfl, rfl, rfl, rfl⟩
  | k + 1 => by
    obtain ⟨h1, h2, h3, h4, h5⟩ := bubO_same P t k
    obtain ⟨g1, g2, g3, g4, g5⟩ := bubI_same (bubO P t k) t (P.ln t - 1)
    exact ⟨g1.trans h1, g2.trans h2, g3.trans h3, g4.trans h4, g5.trans h5⟩
/-- place i of thing t moves on by n -/
def trn (n : Int32) (m i : Nat) : Nat := (((i : Int) + n.toInt) % (m : Int)).toNat
def trW (P : AS) (t : Nat) (n : Int32) : Nat → AS
  | 0 => P
  | k + 1 => (trW P t n k).put t (trn n (P.ln t) k) (P.wh t k, P.re t k)
theorem trW_same (P : AS) (t : Nat) (n : Int32) : ∀ k, (trW P t n k).n = P.n ∧ (trW P t n k).kd = P.kd ∧ (trW P t n k).ln = P.ln ∧ (trW P t n k).tg = P.tg ∧ (trW P t n k).co = P.co
  | 0 => ⟨rfl, rfl, rfl, rfl, rfl⟩
  | k + 1 => by
    obtain ⟨h1, h2, h3, h4, h5⟩ := trW_same P t n k
    exact ⟨h1, h2, h3, h4, h5⟩
def sp_turn (P : AS) (c n : Int32) : Int32 × AS × Int32 := if isC c = true then (if rsRow P (cN c) = 0 then (nI (P.ln (P.co (cN c) - 1)), trW P (P.co (cN c) - 1) n (P.ln (P.co (cN c) - 1)), 0) else rf P (rsRow P (cN c))) else rf P 1
def suW (P : AS) (t : Nat) : Nat → Int64
  | 0 => 0
  | k + 1 => suW P t k + P.wh t k
def sp_sum (P : AS) (c : Int32) : Int64 × AS × Int32 := if isC c = true then (if rsRow P (cN c) = 0 then (if 1 ≤ P.kd (P.co (cN c) - 1) ∧ P.kd (P.co (cN c) - 1) ≤ 5 then (suW P (P.co (cN c) - 1) (P.ln (P.co (cN c) - 1)), P, 0) else (0, P, 6)) else (0, P, nI (rsRow P (cN c)))) else (0, P, 1)
/-- place k of thing t is like a value of sort s -/
def likeV (P : AS) (t k s : Nat) (x : Int64 × UInt64) : Bool := decide (agn s x.1 x.2 (P.kd t) (P.wh t k) (P.re t k) = 0)
/-- the first place from k on, within f steps -/
def fnd (P : AS) (t s : Nat) (x : Int64 × UInt64) : Nat → Nat → Int32
  | 0, _ => -1
  | f + 1, k => if k < P.ln t then (if likeV P t k s x = true then nI k else fnd P t s x f (k + 1)) else -1
def sp_find (P : AS) (c i sort a b : Int32) : Int32 × AS × Int32 :=
  if isC c = true ∧ inR sort 0 7 = true then (if rsRow P (cN c) = 0 then (if P.kd (P.co (cN c) - 1) < 8 then (if nI (P.ln (P.co (cN c) - 1)) ≤ i then -1 else fnd P (P.co (cN c) - 1) (cN sort) (told (cN sort) a b) (P.ln (P.co (cN c) - 1) + 1) (cN i), P, 0) else rf P 6) else rf P (rsRow P (cN c))) else rf P 1
def alkP (P : AS) (t u i : Nat) : Bool := if decide (P.kd t < 8) = decide (P.kd u < 8) then (if P.kd t < 8 then decide (agn (P.kd t) (P.wh t i) (P.re t i) (P.kd u) (P.wh u i) (P.re u i) = 0) else decide (P.wh t i = P.wh u i)) else false
def alkA (P : AS) (t u : Nat) : Nat → Bool
  | 0 => true
  | k + 1 => alkA P t u k && alkP P t u k
def sp_alike (P : AS) (c d : Int32) : Int32 × AS × Int32 :=
  if isC c = true ∧ isC d = true then (if rsRows P (cN c) (cN d) (cN d) = 0 then (if P.ln (P.co (cN c) - 1) = P.ln (P.co (cN d) - 1) then (b2i (alkA P (P.co (cN c) - 1) (P.co (cN d) - 1) (P.ln (P.co (cN c) - 1))), P, 0) else (0, P, 0)) else rf P (rsRows P (cN c) (cN d) (cN d))) else rf P 1
