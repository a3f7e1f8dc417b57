/-! what the calls over whole columns do, place by place -/
def ldI (f v : Nat → Int32) : Nat → Nat → Int32
  | 0 => f
  | k + 1 => upd (ldI f v k) k (v k)
def ldL (f v : Nat → Int64) : Nat → Nat → Int64
  | 0 => f
  | k + 1 => vp_updL (ldL f v k) k (v k)
def ldD (f v : Nat → UInt64) : Nat → Nat → UInt64
  | 0 => f
  | k + 1 => vf_upd (ldD f v k) k (v k)
theorem ldI_at {f v : Nat → Int32} : ∀ {k j : Nat}, j < k → ldI f v k j = v j
  | 0, j, h => absurd h (Nat.not_lt_zero j)
  | k + 1, j, h => by
    show (if j = k then v k else ldI f v k j) = v j
    by_cases e : j = k
    · rw [if_pos e, e]
    · rw [if_neg e]; exact ldI_at (by omega)
theorem ldL_at {f v : Nat → Int64} : ∀ {k j : Nat}, j < k → ldL f v k j = v j
  | 0, j, h => absurd h (Nat.not_lt_zero j)
  | k + 1, j, h => by
    show (if j = k then v k else ldL f v k j) = v j
    by_cases e : j = k
    · rw [if_pos e, e]
    · rw [if_neg e]; exact ldL_at (by omega)
theorem ldD_at {f v : Nat → UInt64} : ∀ {k j : Nat}, j < k → ldD f v k j = v j
  | 0, j, h => absurd h (Nat.not_lt_zero j)
  | k + 1, j, h => by
    show (if j = k then v k else ldD f v k j) = v j
    by_cases e : j = k
    · rw [if_pos e, e]
    · rw [if_neg e]; exact ldD_at (by omega)
theorem hasP_c {P : AS} {t : Nat} {i : Int32} (h : hasP P t i = true) : i = nI (cN i) ∧ cN i < P.ln t := by
  unfold hasP at h
  rw [decide_eq_true_eq] at h
  have hb := Int32.toInt_lt i
  have e : cN i = i.toInt.toNat := rfl
  refine ⟨?_, by rw [e]; omega⟩
  rw [i_eq, nI_toInt (by rw [e]; omega), e]; omega
/-- what place i of thing f is as one of row t -/
def mvV (P : AS) (f t i : Nat) : Int64 × UInt64 := if P.kd f < 8 then wdn (P.kd f) (P.kd t) (P.wh f i) (P.re f i) else (P.wh f i, P.re f i)
/-- the reason at the k-th move -/
def mvr (P : AS) (f t : Nat) (fr tt : Nat → Int32) (k : Nat) : Nat := if hasP P f (fr k) = true ∧ hasP P t (tt k) = true then (if goesI P (P.kd f) (P.wh f (cN (fr k))) t = true then 0 else 5) else 4
/-- the first reason among the first k moves -/
def mvR (P : AS) (f t : Nat) (fr tt : Nat → Int32) : Nat → Nat
  | 0 => 0
  | k + 1 => if mvR P f t fr tt k = 0 then mvr P f t fr tt k else mvR P f t fr tt k
/-- the state behind the first k moves -/
def mvW (P : AS) (f t : Nat) (fr tt : Nat → Int32) : Nat → AS
  | 0 => P
  | k + 1 => (mvW P f t fr tt k).put t (cN (tt k)) (mvV P f t (cN (fr k)))
def sp_move (P : AS) (wy : Int32) (f t : Nat) (fr tt : Nat → Int32) (n : Nat) : Int32 × AS × Int32 := if mvR P f t fr tt n = 0 then (nI n, mvW P f t fr tt n, wy) else rf P (mvR P f t fr tt n)
theorem mvR_mono {P : AS} {f t : Nat} {fr tt : Nat → Int32} {k : Nat} (h : mvR P f t fr tt k ≠ 0) : ∀ {n : Nat}, k ≤ n → mvR P f t fr tt n = mvR P f t fr tt k
  | 0, hn => by rw [show k = 0 by omega]
  | n + 1, hn => by
    by_cases e : k = n + 1
    · rw [e]
    · have ih := mvR_mono h (n := n) (by omega)
      show (if mvR P f t fr tt n = 0 then _ else _) = _
      rw [if_neg (by rw [ih]; exact h), ih]
theorem mvR_le {P : AS} {f t : Nat} {fr tt : Nat → Int32} {k n : Nat} (h : mvR P f t fr tt n = 0) (hk : k ≤ n) : mvR P f t fr tt k = 0 :=
  Classical.byContradiction (fun e => e (by rw [← mvR_mono e hk]; exact h))
theorem mvR_at {P : AS} {f t : Nat} {fr tt : Nat → Int32} {k n : Nat} (h : mvR P f t fr tt n = 0) (hk : k < n) : mvr P f t fr tt k = 0 := by
  have h1 := mvR_le h (k := k + 1) (by omega)
  have h2 := mvR_le h (k := k) (by omega)
  have h3 : (if mvR P f t fr tt k = 0 then mvr P f t fr tt k else mvR P f t fr tt k) = 0 := h1
  rwa [if_pos h2] at h3
theorem mvR_s {P : AS} {f t : Nat} {fr tt : Nat → Int32} {k : Nat} (h : mvR P f t fr tt k = 0) : mvR P f t fr tt (k + 1) = mvr P f t fr tt k := if_pos h
theorem mvr_0 {P : AS} {f t : Nat} {fr tt : Nat → Int32} {k : Nat} (h : mvr P f t fr tt k = 0) : hasP P f (fr k) = true ∧ hasP P t (tt k) = true := by
  unfold mvr at h
  split at h
  · assumption
  · omega
theorem mvR_end {P : AS} {f t : Nat} {fr tt : Nat → Int32} {k n q : Nat} (h : mvR P f t fr tt k = 0) (hk : k < n) (hr : mvr P f t fr tt k = q) (hq : q ≠ 0) : mvR P f t fr tt n = q := by
  have e := mvR_s h
  rw [mvR_mono (k := k + 1) (by rw [e, hr]; exact hq) (by omega), e, hr]
theorem mvW_same (P : AS) (f t : Nat) (fr tt : Nat → Int32) : ∀ k, (mvW P f t fr tt k).n = P.n ∧ (mvW P f t fr tt k).kd = P.kd ∧ (mvW P f t fr tt k).ln = P.ln ∧ (mvW P f t fr tt k).tg = P.tg ∧ (mvW P f t fr tt k).co = P.co
  | 0 => ⟨rfl, rfl, rfl, rfl, rfl⟩
  | k + 1 => by
    obtain ⟨h1, h2, h3, h4, h5⟩ := mvW_same P f t fr tt k
    exact ⟨h1, h2, h3, h4, h5⟩
theorem mvR_congr {P : AS} {f t : Nat} {fr tt fr' tt' : Nat → Int32} : ∀ {n : Nat}, (∀ j, j < n → fr j = fr' j ∧ tt j = tt' j) → mvR P f t fr tt n = mvR P f t fr' tt' n
  | 0, _ => rfl
  | n + 1, h => by
    have e : mvr P f t fr tt n = mvr P f t fr' tt' n := by unfold mvr; rw [(h n (by omega)).1, (h n (by omega)).2]
    show (if _ then _ else _) = (if _ then _ else _)
    rw [mvR_congr (n := n) (fun j hj => h j (by omega)), e]
theorem mvW_congr {P : AS} {f t : Nat} {fr tt fr' tt' : Nat → Int32} : ∀ {n : Nat}, (∀ j, j < n → fr j = fr' j ∧ tt j = tt' j) → mvW P f t fr tt n = mvW P f t fr' tt' n
  | 0, _ => rfl
  | n + 1, h => by
    show (mvW P f t fr tt n).put t (cN (tt n)) _ = (mvW P f t fr' tt' n).put t (cN (tt' n)) _
    rw [mvW_congr (n := n) (fun j hj => h j (by omega)), (h n (by omega)).1, (h n (by omega)).2]
theorem sp_move_congr {P : AS} {wy : Int32} {f t n : Nat} {fr tt fr' tt' : Nat → Int32} (h : ∀ j, j < n → fr j = fr' j ∧ tt j = tt' j) : sp_move P wy f t fr tt n = sp_move P wy f t fr' tt' n := by
  unfold sp_move; rw [mvR_congr h, mvW_congr h]
theorem mvV_t {P : AS} {f t i : Nat} (h : P.kd f < 8) : mvV P f t i = wdn (P.kd f) (P.kd t) (P.wh f i) (P.re f i) := if_pos h
theorem mvV_f {P : AS} {f t i : Nat} (h : ¬ P.kd f < 8) : mvV P f t i = (P.wh f i, P.re f i) := if_neg h
def sp_copy (P : AS) (c d : Int32) : Int32 × AS × Int32 :=
  if isC c = true ∧ isC d = true then (if rsRows P (cN c) (cN d) (cN d) = 0 then (if P.ln (P.co (cN c) - 1) = P.ln (P.co (cN d) - 1) then sp_move P 0 (P.co (cN c) - 1) (P.co (cN d) - 1) (fun k => nI k) (fun k => nI k) (P.ln (P.co (cN c) - 1)) else rf P 4) else rf P (rsRows P (cN c) (cN d) (cN d))) else rf P 1
def tlP (P : AS) (x : Nat) : Bool := decide (P.kd x < 8) && goes (P.kd x) 4
def sp_gather (P : AS) (c x d : Int32) : Int32 × AS × Int32 :=
  if isC c = true ∧ isC x = true ∧ isC d = true then (if rsRows P (cN c) (cN x) (cN d) = 0 then (if tlP P (P.co (cN x) - 1) = true then (if P.ln (P.co (cN x) - 1) = P.ln (P.co (cN d) - 1) then sp_move P 0 (P.co (cN c) - 1) (P.co (cN d) - 1) (fun k => (P.wh (P.co (cN x) - 1) k).toInt32) (fun k => nI k) (P.ln (P.co (cN x) - 1)) else rf P 4) else rf P 6) else rf P (rsRows P (cN c) (cN x) (cN d))) else rf P 1
def sp_scatter (P : AS) (c x d : Int32) : Int32 × AS × Int32 :=
  if isC c = true ∧ isC x = true ∧ isC d = true then (if rsRows P (cN c) (cN x) (cN d) = 0 then (if tlP P (P.co (cN x) - 1) = true then (if P.ln (P.co (cN x) - 1) = P.ln (P.co (cN c) - 1) then sp_move P 0 (P.co (cN c) - 1) (P.co (cN d) - 1) (fun k => nI k) (fun k => (P.wh (P.co (cN x) - 1) k).toInt32) (P.ln (P.co (cN x) - 1)) else rf P 4) else rf P 6) else rf P (rsRows P (cN c) (cN x) (cN d))) else rf P 1
