/-! WHAT EACH CALL ANSWERS AND DOES, over the state: the answer, the state behind it, WHY -/
def cN (c : Int32) : Nat := c.toNatClampNeg
theorem cN_nI {j : Nat} (h : j < 2 ^ 31) : cN (nI j) = j := nI_clamp h
theorem cN_c {j : Nat} (h : j < 12) : cN (nI j) = j := nI_clamp (by omega)
theorem cN_s {j n : Nat} (h : j ≤ n) (hn : n < 1000) : cN (nI j) = j := nI_clamp (by omega)
theorem cN_p {P : AS} {t k : Nat} (hw : WF P) (h : k < P.ln t) : cN (nI k) = k := nI_clamp (by have := hw.2.1 t; omega)
/-- a sort goes into another -/
def goes (a b : Nat) : Bool := decide ((gof a >>> (nI b &&& 31)) &&& 1 = 1)
/-- a value of sort a, its whole and real, as one of sort k -/
def wdn (a k : Nat) (w : Int64) (r : UInt64) : Int64 × UInt64 := if 6 ≤ k ∧ a ≤ 5 then (0, if k = 6 then FP.f2d (FP.l2f w) else FP.l2d w) else (w, r)
def tv (a b : Int32) : Int64 := (a.toInt64 <<< ((32 : Int32).toInt64 &&& 63)) ||| (b.toInt64 &&& 4294967295)
def told (k : Nat) (a b : Int32) : Int64 × UInt64 :=
  if k = 0 then (tv a b &&& 1, 0) else if k = 1 then ((tv a b).toInt32.toInt8.toInt32.toInt64, 0) else if k = 2 then (((tv a b).toInt32.toUInt32 % 65536).toInt32.toInt64, 0)
  else if k = 3 then ((tv a b).toInt32.toInt16.toInt32.toInt64, 0) else if k = 4 then ((tv a b).toInt32.toInt64, 0) else if k = 5 then (tv a b, 0)
  else if k = 6 then (0, FP.f2d (FP.fdiv (FP.l2f (tv a b)) 1090519040)) else (0, FP.ddiv (FP.l2d (tv a b)) 4620693217682128896)
/-- the DOUBLE that a value becomes -/
def dbl (k : Nat) (w : Int64) (r : UInt64) : UInt64 := if k ≤ 5 then FP.l2d w else r
def ordW (a : Nat) (w : Int64) (b : Nat) (w' : Int64) : Int32 := if decide (a = 0) = decide (b = 0) then (if w < w' then -1 else if w > w' then 1 else 0) else 2
def cmpD (x y : UInt64) : Int32 := if 0 ≤ Op.cmpValue (FP.dcmp x y) CmpOp.g then (if Op.cmpValue (FP.dcmp x y) CmpOp.l ≤ 0 then 0 else 1) else -1
/-- a value held against another: -1 less, 0 like, 1 greater, 2 not to be compared -/
def agn (a : Nat) (w : Int64) (r : UInt64) (b : Nat) (w' : Int64) (r' : UInt64) : Int32 :=
  if a ≠ 0 ∧ b ≠ 0 ∧ (6 ≤ a ∨ 6 ≤ b) then cmpD (dbl a w r) (dbl b w' r') else ordW a w b w'
/-- what fits a row of things -/
def fitK (k rk : Nat) : Bool := if rk = 8 then decide (12 ≤ k) else if rk = 9 then decide (k = 14) else if rk = 10 then decide (k = 4) else decide (k = 8) || decide (k = 9)
def fitP (P : AS) (u q : Nat) : Bool := decide (q = 0) || fitK (P.kd (q - 1)) (P.kd u)
/-- what a cell of sort or kind a with the whole w does in row u -/
def goesI (P : AS) (a : Nat) (w : Int64) (u : Nat) : Bool := if decide (a < 8) = decide (P.kd u < 8) then (if a < 8 then goes a (P.kd u) else fitP P u w.toNatClampNeg) else false
def rf (P : AS) (k : Nat) : Int32 × AS × Int32 := (0, P, nI k)
def AS.add (P : AS) (j k len : Nat) (tag : Int32) : AS := (P.n + 1, va_up P.kd P.n k, va_up P.ln P.n len, va_up P.tg P.n tag, P.wh, P.re, va_up P.co j (P.n + 1))
def sp_make (P : AS) (c k n : Int32) : Int32 × AS × Int32 :=
  if isC c = true ∧ inR k 0 14 = true ∧ (12 ≤ cN k ∨ inR n 0 24 = true) then (1, P.add (cN c) (cN k) (if cN k < 12 then cN n else 0) n, 0) else rf P 1
def sp_lay (P : AS) (c d : Int32) : Int32 × AS × Int32 := if isC c = true ∧ isC d = true then (if P.co (cN c) = 0 then 0 else 1, P.setCo (cN d) (P.co (cN c)), 0) else rf P 1
def sp_places (P : AS) (c : Int32) : Int32 × AS × Int32 := if isC c = true then (if rsRow P (cN c) = 0 then (nI (P.ln (P.co (cN c) - 1)), P, 0) else rf P (rsRow P (cN c))) else rf P 1
def sp_kind (P : AS) (c : Int32) : Int32 × AS × Int32 := if isC c = true then (if P.co (cN c) = 0 then -1 else nI (P.kd (P.co (cN c) - 1)), P, 0) else rf P 1
def isCd (P : AS) (j : Nat) : Bool := decide (P.co j ≠ 0 ∧ 12 ≤ P.kd (P.co j - 1))
def sp_tag (P : AS) (c : Int32) : Int32 × AS × Int32 := if isC c = true then (if isCd P (cN c) = true then (P.tg (P.co (cN c) - 1), P, 0) else rf P 5) else rf P 1
def sp_load (P : AS) (c : Int32) : Int32 × AS × Int32 :=
  if isC c = true then (if isCd P (cN c) = true then ((if P.kd (P.co (cN c) - 1) = 14 then 2 * P.tg (P.co (cN c) - 1) + 1 else P.tg (P.co (cN c) - 1)), P, 0) else rf P 5) else rf P 1
/-- place i of thing t gets a value told as one of sort a -/
def AS.put (P : AS) (t i : Nat) (x : Int64 × UInt64) : AS := (P.setW t i x.1).setR t i x.2
def sp_put (P : AS) (c i sort a b : Int32) : Int32 × AS × Int32 :=
  if isC c = true ∧ inR sort 0 7 = true then
    (if rsPl P (cN c) i = 0 then
      (if P.kd (P.co (cN c) - 1) < 8 ∧ goes (cN sort) (P.kd (P.co (cN c) - 1)) = true then
        (1, P.put (P.co (cN c) - 1) (cN i) (wdn (cN sort) (P.kd (P.co (cN c) - 1)) (told (cN sort) a b).1 (told (cN sort) a b).2), 0) else rf P 5) else rf P (rsPl P (cN c) i)) else rf P 1
def sp_putThing (P : AS) (c i d : Int32) : Int32 × AS × Int32 :=
  if isC c = true ∧ isC d = true then
    (if rsPl P (cN c) i = 0 then
      (if 8 ≤ P.kd (P.co (cN c) - 1) ∧ fitP P (P.co (cN c) - 1) (P.co (cN d)) = true then
        (if P.co (cN d) = 0 then 0 else 1, P.setW (P.co (cN c) - 1) (cN i) (lN (P.co (cN d))), 0) else rf P 5) else rf P (rsPl P (cN c) i)) else rf P 1
def rsVal (P : AS) (j : Nat) (i : Int32) (k : Nat) : Nat := if rsPl P j i = 0 then (if P.kd (P.co j - 1) < 8 ∧ goes (P.kd (P.co j - 1)) k = true then 0 else 5) else rsPl P j i
def valAs (P : AS) (t i k : Nat) : Int64 × UInt64 := wdn (P.kd t) k (P.wh t i) (P.re t i)
def sp_number (P : AS) (c i sort : Int32) : Int64 × AS × Int32 :=
  if isC c = true ∧ inR sort 0 5 = true then (if rsVal P (cN c) i (cN sort) = 0 then ((valAs P (P.co (cN c) - 1) (cN i) (cN sort)).1, P, 0) else (0, P, nI (rsVal P (cN c) i (cN sort)))) else (0, P, 1)
def sp_point (P : AS) (c i sort : Int32) : UInt64 × AS × Int32 :=
  if isC c = true ∧ inR sort 6 7 = true then (if rsVal P (cN c) i (cN sort) = 0 then ((valAs P (P.co (cN c) - 1) (cN i) (cN sort)).2, P, 0) else (0, P, nI (rsVal P (cN c) i (cN sort)))) else (0, P, 1)
def kOf (P : AS) (q : Nat) : Int32 := if q = 0 then -1 else nI (P.kd (q - 1))
def sp_what (P : AS) (c i : Int32) : Int32 × AS × Int32 :=
  if isC c = true then (if rsPl P (cN c) i = 0 then (if P.kd (P.co (cN c) - 1) < 8 then (nI (P.kd (P.co (cN c) - 1)), P, 0) else (kOf P (P.wh (P.co (cN c) - 1) (cN i)).toNatClampNeg, P, 0)) else rf P (rsPl P (cN c) i)) else rf P 1
def sp_take (P : AS) (c i d : Int32) : Int32 × AS × Int32 :=
  if isC c = true ∧ isC d = true then
    (if rsRow P (cN c) = 0 then
      (if P.kd (P.co (cN c) - 1) < 8 then rf P 6 else if hasP P (P.co (cN c) - 1) i = true then
        (if (P.wh (P.co (cN c) - 1) (cN i)).toNatClampNeg = 0 then 0 else 1, P.setCo (cN d) (P.wh (P.co (cN c) - 1) (cN i)).toNatClampNeg, 0) else rf P 4) else rf P (rsRow P (cN c))) else rf P 1
/-- the model's end: the answer, and the model's cells with the new state; its own scratch is free -/
def mpost (cy : Nat → ClassId) (ad : Nat → Nat) (x : Int32 × AS × Int32) : Option Value → (Nat → Option va_E) → Prop := fun v c' => v = some (.int x.1) ∧ ∃ (so : Int32) (w : Int64) (r : UInt64) (ns : Nat → Int32) (nw : Nat → Int64) (nr : Nat → UInt64) (fr tt : Nat → Int32), c' = mct cy ad x.2.1 x.2.2 so w r ns nw nr fr tt
theorem mpost.mk {cy : Nat → ClassId} {ad : Nat → Nat} {x : Int32 × AS × Int32} {v : Int32} {P : AS} {wy so : Int32} {w : Int64} {r : UInt64} {ns : Nat → Int32} {nw : Nat → Int64} {nr : Nat → UInt64} {fr tt : Nat → Int32} (h : x = (v, P, wy)) : mpost cy ad x (some (.int v)) (mct cy ad P wy so w r ns nw nr fr tt) := by
  subst h; exact ⟨rfl, _, _, _, _, _, _, _, _, rfl⟩
def mpostL (cy : Nat → ClassId) (ad : Nat → Nat) (x : Int64 × AS × Int32) : Option Value → (Nat → Option va_E) → Prop := fun v c' => v = some (.long x.1) ∧ ∃ (so : Int32) (w : Int64) (r : UInt64) (ns : Nat → Int32) (nw : Nat → Int64) (nr : Nat → UInt64) (fr tt : Nat → Int32), c' = mct cy ad x.2.1 x.2.2 so w r ns nw nr fr tt
theorem mpostL.mk {cy : Nat → ClassId} {ad : Nat → Nat} {x : Int64 × AS × Int32} {v : Int64} {P : AS} {wy so : Int32} {w : Int64} {r : UInt64} {ns : Nat → Int32} {nw : Nat → Int64} {nr : Nat → UInt64} {fr tt : Nat → Int32} (h : x = (v, P, wy)) : mpostL cy ad x (some (.long v)) (mct cy ad P wy so w r ns nw nr fr tt) := by
  subst h; exact ⟨rfl, _, _, _, _, _, _, _, _, rfl⟩
def mpostD (cy : Nat → ClassId) (ad : Nat → Nat) (x : UInt64 × AS × Int32) : Option Value → (Nat → Option va_E) → Prop := fun v c' => v = some (.double x.1) ∧ ∃ (so : Int32) (w : Int64) (r : UInt64) (ns : Nat → Int32) (nw : Nat → Int64) (nr : Nat → UInt64) (fr tt : Nat → Int32), c' = mct cy ad x.2.1 x.2.2 so w r ns nw nr fr tt
theorem mpostD.mk {cy : Nat → ClassId} {ad : Nat → Nat} {x : UInt64 × AS × Int32} {v : UInt64} {P : AS} {wy so : Int32} {w : Int64} {r : UInt64} {ns : Nat → Int32} {nw : Nat → Int64} {nr : Nat → UInt64} {fr tt : Nat → Int32} (h : x = (v, P, wy)) : mpostD cy ad x (some (.double v)) (mct cy ad P wy so w r ns nw nr fr tt) := by
  subst h; exact ⟨rfl, _, _, _, _, _, _, _, _, rfl⟩
theorem hasP_1 {P : AS} {t : Nat} {i : Int32} (h : ¬ i < 0) (h2 : ¬ nI (P.ln t) ≤ i) (hb : P.ln t < 2 ^ 31) : (1 : Int32) = b2i (hasP P t i) := by
  have : hasP P t i = true := by
    unfold hasP; rw [decide_eq_true_eq]; rw [i_lt] at h; rw [i_le, nI_toInt hb] at h2
    exact ⟨Int.not_lt.mp h, Int.not_le.mp h2⟩
  rw [this]; rfl
theorem hasP_0a {P : AS} {t : Nat} {i : Int32} (h : i < 0) : (0 : Int32) = b2i (hasP P t i) := by
  have : hasP P t i = false := by
    unfold hasP; rw [decide_eq_false_iff_not]; rw [i_lt] at h
    exact fun x => absurd h (Int.not_lt.mpr x.1)
  rw [this]; rfl
theorem hasP_0b {P : AS} {t : Nat} {i : Int32} (h2 : nI (P.ln t) ≤ i) (hb : P.ln t < 2 ^ 31) : (0 : Int32) = b2i (hasP P t i) := by
  have : hasP P t i = false := by
    unfold hasP; rw [decide_eq_false_iff_not]; rw [i_le, nI_toInt hb] at h2
    exact fun x => absurd x.2 (Int.not_lt.mpr h2)
  rw [this]; rfl
theorem lc_iff (x y : Int64) : (lg_cmp x y = 0 ↔ x = y) ∧ (0 ≤ lg_cmp x y ↔ ¬ x < y) ∧ (lg_cmp x y ≤ 0 ↔ ¬ x > y) := by
  unfold lg_cmp
  have e1 : x = y ↔ x.toInt = y.toInt := Int64.toInt_inj.symm
  have e2 : x < y ↔ x.toInt < y.toInt := Int64.lt_iff_toInt_lt
  have e3 : x > y ↔ y.toInt < x.toInt := Int64.lt_iff_toInt_lt
  by_cases h : x > y
  · rw [if_pos h]; refine ⟨⟨fun h0 => absurd h0 (by decide), fun h0 => by rw [e3] at h; rw [e1] at h0; omega⟩, ⟨fun _ h0 => by rw [e3] at h; rw [e2] at h0; omega, fun _ => by decide⟩, ⟨fun h0 => absurd h0 (by decide), fun h0 => absurd h h0⟩⟩
  · rw [if_neg h]
    by_cases h2 : x = y
    · rw [if_pos h2]; refine ⟨⟨fun _ => h2, fun _ => rfl⟩, ⟨fun _ h0 => by rw [e2] at h0; rw [e1] at h2; omega, fun _ => by decide⟩, ⟨fun _ => h, fun _ => by decide⟩⟩
    · rw [if_neg h2]; refine ⟨⟨fun h0 => absurd h0 (by decide), fun h0 => absurd h0 h2⟩, ⟨fun h0 => absurd h0 (by decide), fun h0 => by rw [e2] at h0; rw [e3] at h; rw [e1] at h2; omega⟩, ⟨fun _ => h, fun _ => by decide⟩⟩
theorem lc_eqT {x y : Int64} (h : lg_cmp x y = 0) : x = y := (lc_iff x y).1.mp h
theorem lc_eqF {x y : Int64} (h : ¬ lg_cmp x y = 0) : ¬ x = y := fun e => h ((lc_iff x y).1.mpr e)
theorem lc_neT {x y : Int64} (h : ¬ lg_cmp x y = 0) : ¬ x = y := lc_eqF h
theorem lc_neF {x y : Int64} (h : lg_cmp x y = 0) : x = y := lc_eqT h
theorem lc_geT {x y : Int64} (h : 0 ≤ lg_cmp x y) : ¬ x < y := (lc_iff x y).2.1.mp h
theorem lc_geF {x y : Int64} (h : ¬ 0 ≤ lg_cmp x y) : x < y := Classical.byContradiction (fun e => h ((lc_iff x y).2.1.mpr e))
theorem lc_leT {x y : Int64} (h : lg_cmp x y ≤ 0) : ¬ x > y := (lc_iff x y).2.2.mp h
theorem lc_leF {x y : Int64} (h : ¬ lg_cmp x y ≤ 0) : x > y := Classical.byContradiction (fun e => h ((lc_iff x y).2.2.mpr e))
theorem wdn_no {a k : Nat} {w : Int64} {r : UInt64} (h : ¬ (6 ≤ k ∧ a ≤ 5)) : wdn a k w r = (w, r) := by unfold wdn; rw [if_neg h]
theorem wdn_6 {a k : Nat} {w : Int64} {r : UInt64} (h : k = 6 ∧ a ≤ 5) : wdn a k w r = (0, FP.f2d (FP.l2f w)) := by unfold wdn; rw [if_pos (by omega), if_pos h.1]
theorem wdn_7 {a k : Nat} {w : Int64} {r : UInt64} (h : 6 ≤ k ∧ k ≠ 6 ∧ a ≤ 5) : wdn a k w r = (0, FP.l2d w) := by unfold wdn; rw [if_pos (by omega), if_neg h.2.1]
theorem lN_clamp {n : Nat} (h : n < 2 ^ 31) : (lN n).toNatClampNeg = n := by
  show (lN n).toInt.toNat = n
  rw [lN_toInt h]; rfl
theorem lN_z {n : Nat} (h : n < 2 ^ 31) : lN n = 0 ↔ n = 0 := lN_eq (b := 0) h (by decide)
/-- what a cell of a thing's kind holds: nothing, or a thing -/
def TH (P : AS) (a : Nat) (w : Int64) : Prop := 8 ≤ a → ∃ q, w = lN q ∧ q ≤ P.n
theorem fitK_r8 {k rk : Nat} (h : rk = 8) : fitK k rk = decide (12 ≤ k) := by unfold fitK; rw [if_pos h]
theorem fitK_r9 {k rk : Nat} (h : rk = 9) : fitK k rk = decide (k = 14) := by unfold fitK; rw [if_neg (by omega), if_pos h]
theorem fitK_r10 {k rk : Nat} (h : rk = 10) : fitK k rk = decide (k = 4) := by unfold fitK; rw [if_neg (by omega), if_neg (by omega), if_pos h]
theorem fitK_r11 {k rk : Nat} (h : rk = 11) : fitK k rk = decide (k = 8 ∨ k = 9) := by unfold fitK; rw [if_neg (by omega), if_neg (by omega), if_neg (by omega)]; by_cases h1 : k = 8 <;> by_cases h2 : k = 9 <;> simp [h1, h2]
theorem fitP_0 (P : AS) (u : Nat) : fitP P u 0 = true := rfl
theorem fitP_s (P : AS) (u x : Nat) : fitP P u (x + 1) = fitK (P.kd x) (P.kd u) := by unfold fitP; rw [decide_eq_false (by omega), Bool.false_or]; rfl
theorem goesI_ne {P : AS} {a : Nat} {w : Int64} {u : Nat} (h : ¬ (a < 8 ↔ P.kd u < 8)) : goesI P a w u = false := by
  unfold goesI; rw [if_neg (fun h2 => h (by rw [decide_eq_decide] at h2; exact h2))]
theorem goesI_v {P : AS} {a : Nat} {w : Int64} {u : Nat} (h : a < 8) (h2 : P.kd u < 8) : goesI P a w u = goes a (P.kd u) := by
  unfold goesI; rw [if_pos (by rw [decide_eq_true h, decide_eq_true h2]), if_pos h]
theorem goesI_t {P : AS} {a q : Nat} {u : Nat} (h : ¬ a < 8) (h2 : ¬ P.kd u < 8) (hq : q < 2 ^ 31) : goesI P a (lN q) u = fitP P u q := by
  unfold goesI; rw [if_pos (by rw [decide_eq_false h, decide_eq_false h2]), if_neg h, lN_clamp hq]
theorem i2d_0 : FP.i2d 0 = 0 := by decide +kernel
theorem isCd_t {P : AS} {j t : Nat} (h : P.co j = t + 1) (h2 : ¬ P.kd t < 12) : isCd P j = true := by unfold isCd; rw [h, decide_eq_true_eq]; exact ⟨by omega, by show 12 ≤ P.kd t; omega⟩
theorem isCd_r {P : AS} {j t : Nat} (h : P.co j = t + 1) (h2 : P.kd t < 12) : isCd P j = false := by unfold isCd; rw [h, decide_eq_false_iff_not]; intro h3; have : 12 ≤ P.kd t := h3.2; omega
theorem isCd_0 {P : AS} {j : Nat} (h : P.co j = 0) : isCd P j = false := by unfold isCd; rw [h, decide_eq_false_iff_not]; exact fun h3 => h3.1 rfl
theorem isCd_ex {P : AS} {j : Nat} (h : isCd P j = true) : ∃ t, P.co j = t + 1 ∧ 12 ≤ P.kd t := by
  unfold isCd at h; rw [decide_eq_true_eq] at h
  exact ⟨P.co j - 1, by omega, h.2⟩
theorem goesI_k {P : AS} {a : Nat} {w : Int64} {u : Nat} (h : a < 8) (h2 : goesI P a w u = true) : P.kd u < 8 ∧ goes a (P.kd u) = true := by
  by_cases h3 : P.kd u < 8
  · rw [goesI_v h h3] at h2; exact ⟨h3, h2⟩
  · rw [goesI_ne (by omega)] at h2; cases h2
theorem goesI_nk {P : AS} {a : Nat} {w : Int64} {u : Nat} (h : a < 8) (h2 : goesI P a w u = false) : ¬ (P.kd u < 8 ∧ goes a (P.kd u) = true) := by
  intro h3
  rw [goesI_v h h3.1, h3.2] at h2; cases h2
theorem rsVal_le (P : AS) (j : Nat) (i : Int32) (k : Nat) : rsVal P j i k ≤ 5 := by unfold rsVal; have := rsPl_le P j i; split <;> (try split) <;> omega
theorem inR_67 {v : Int32} (h : inR v 6 7 = true) : ∃ j, j ≤ 7 ∧ 6 ≤ j ∧ v = nI j := by
  unfold inR at h
  rw [Bool.and_eq_true, decide_eq_true_eq, decide_eq_true_eq] at h
  have h1 := h.1
  have h2 := h.2
  rw [i_le] at h1 h2
  have e6 : (6 : Int32).toInt = 6 := by decide
  have e7 : (7 : Int32).toInt = 7 := by decide
  rw [e6] at h1
  rw [e7] at h2
  refine ⟨v.toInt.toNat, by omega, by omega, ?_⟩
  rw [i_eq, nI_toInt (by omega)]; omega
