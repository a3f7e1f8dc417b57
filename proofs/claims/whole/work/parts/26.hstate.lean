/-! THE HOUSE'S CELLS: 0 the house, 1 columns, 2 stage, 3 targets, 4 + j the cells (0..23 of the stage, 24 one, 25 other), 30 + 2 t thing t, 31 + 2 t its row -/
abbrev CE : Type := Int32 × Int64 × UInt64 × Nat
def rfO (ad : Nat → Nat) (q : Nat) : Option Nat := if q = 0 then none else some (ad (30 + 2 * (q - 1)))
theorem rfO_0 (ad : Nat → Nat) : rfO ad 0 = none := rfl
theorem rfO_s (ad : Nat → Nat) (t : Nat) : rfO ad (t + 1) = some (ad (30 + 2 * t)) := by unfold rfO; rw [if_neg (by omega)]; rfl
def ceE (ad : Nat → Nat) (x : CE) : va_E := .inr (1, [.int x.1, .long x.2.1, .double x.2.2.1, va_rf (rfO ad x.2.2.2)])
def obE (ad : Nat → Nat) (P : AS) (t : Nat) : va_E := if P.kd t ≤ 5 then .inr (4, [.int (nI (P.kd t)), .ref (ad (31 + 2 * t))]) else if P.kd t ≤ 7 then .inr (2, [.int (nI (P.kd t)), .ref (ad (31 + 2 * t))]) else if P.kd t ≤ 11 then .inr (3, [.int (nI (P.kd t)), .ref (ad (31 + 2 * t))]) else .inr (0, [.int (nI (P.kd t)), .int (P.tg t)])
def arE (cy : Nat → ClassId) (ad : Nat → Nat) (P : AS) (t : Nat) : Option va_E := if P.kd t ≤ 5 then some (.inl (cy 1, P.ln t, .inr (.inl (P.wh t)))) else if P.kd t ≤ 7 then some (.inl (cy 2, P.ln t, .inr (.inr (.inr (.inl (P.re t)))))) else if P.kd t ≤ 11 then some (.inl (cy 4, P.ln t, .inr (.inr (.inr (.inr (fun i => rfO ad (P.wh t i).toNatClampNeg)))))) else none
def hcl (cy : Nat → ClassId) (ad : Nat → Nat) (P : AS) (wy : Int32) (st : Nat → Nat) (tg : Nat → Int32) : List va_E :=
  [.inr (5, [.ref (ad 1), .ref (ad 2), .ref (ad 3), .ref (ad (4 + 24)), .ref (ad (4 + 25)), .int wy]), .inl (cy 4, 12, .inr (.inr (.inr (.inr (fun c => rfO ad (P.co c)))))), .inl (cy 3, 24, .inr (.inr (.inr (.inr (fun k => some (ad (4 + st k))))))), .inl (cy 0, 24, .inl tg)]
def hct (cy : Nat → ClassId) (ad : Nat → Nat) (P : AS) (wy : Int32) (cl : Nat → CE) (st : Nat → Nat) (tg : Nat → Int32) : Nat → Option va_E := fun i =>
  if i < 4 then (hcl cy ad P wy st tg)[i]? else if i < 30 then some (ceE ad (cl (i - 4))) else if i % 2 = 0 then some (obE ad P ((i - 30) / 2)) else arE cy ad P ((i - 30) / 2)
section HA
variable {cy : Nat → ClassId} {ad : Nat → Nat} {P : AS} {wy : Int32} {cl : Nat → CE} {st : Nat → Nat} {tg : Nat → Int32}
theorem hct_c {j : Nat} (h : j < 26) : hct cy ad P wy cl st tg (4 + j) = some (ceE ad (cl j)) := by
  unfold hct; rw [if_neg (by omega), if_pos (by omega), show 4 + j - 4 = j by omega]
theorem hct_o (t : Nat) : hct cy ad P wy cl st tg (30 + 2 * t) = some (obE ad P t) := by
  unfold hct; rw [if_neg (by omega), if_neg (by omega), if_pos (by omega), show (30 + 2 * t - 30) / 2 = t by omega]
theorem hct_a (t : Nat) : hct cy ad P wy cl st tg (31 + 2 * t) = arE cy ad P t := by
  unfold hct; rw [if_neg (by omega), if_neg (by omega), if_neg (by omega), show (31 + 2 * t - 30) / 2 = t by omega]
theorem obE_w {t : Nat} (h : P.kd t ≤ 5) : obE ad P t = .inr (4, [.int (nI (P.kd t)), .ref (ad (31 + 2 * t))]) := by unfold obE; rw [if_pos h]
theorem obE_p {t : Nat} (h : 6 ≤ P.kd t ∧ P.kd t ≤ 7) : obE ad P t = .inr (2, [.int (nI (P.kd t)), .ref (ad (31 + 2 * t))]) := by unfold obE; rw [if_neg (by omega), if_pos h.2]
theorem obE_t {t : Nat} (h : 8 ≤ P.kd t ∧ P.kd t ≤ 11) : obE ad P t = .inr (3, [.int (nI (P.kd t)), .ref (ad (31 + 2 * t))]) := by unfold obE; rw [if_neg (by omega), if_neg (by omega), if_pos h.2]
theorem obE_c {t : Nat} (h : 12 ≤ P.kd t) : obE ad P t = .inr (0, [.int (nI (P.kd t)), .int (P.tg t)]) := by unfold obE; rw [if_neg (by omega), if_neg (by omega), if_neg (by omega)]
theorem arE_w {t : Nat} (h : P.kd t ≤ 5) : arE cy ad P t = some (.inl (cy 1, P.ln t, .inr (.inl (P.wh t)))) := by unfold arE; rw [if_pos h]
theorem arE_p {t : Nat} (h : 6 ≤ P.kd t ∧ P.kd t ≤ 7) : arE cy ad P t = some (.inl (cy 2, P.ln t, .inr (.inr (.inr (.inl (P.re t)))))) := by unfold arE; rw [if_neg (by omega), if_pos h.2]
theorem arE_t {t : Nat} (h : 8 ≤ P.kd t ∧ P.kd t ≤ 11) : arE cy ad P t = some (.inl (cy 4, P.ln t, .inr (.inr (.inr (.inr (fun i => rfO ad (P.wh t i).toNatClampNeg)))))) := by unfold arE; rw [if_neg (by omega), if_neg (by omega), if_pos h.2]
theorem up2_row {α : Type} (f : Nat → Nat → α) (t i : Nat) (v : α) : up2 f t i v t = fun k => if k = i then v else f t k := by
  funext k; unfold up2
  by_cases h : k = i
  · rw [if_pos ⟨rfl, h⟩, if_pos h]
  · rw [if_neg (fun x => h x.2), if_neg h]
theorem up2_ne {α : Type} (f : Nat → Nat → α) {t i : Nat} (v : α) {a : Nat} (h : a ≠ t) : up2 f t i v a = f a := by
  funext k; unfold up2; rw [if_neg (fun x => h x.1)]
theorem hct_wy {wy' : Int32} : ∀ j, j ≠ 0 → hct cy ad P wy' cl st tg j = hct cy ad P wy cl st tg j := by
  intro j hj
  unfold hct
  by_cases h : j < 4
  · rw [if_pos h, if_pos h]
    rcases j with _ | _ | _ | _ | j <;> first | exact absurd rfl hj | rfl
  · rw [if_neg h, if_neg h]
theorem hct_co {c v : Nat} : ∀ j, j ≠ 1 → hct cy ad (P.setCo c v) wy cl st tg j = hct cy ad P wy cl st tg j := by
  intro j hj
  unfold hct
  by_cases h : j < 4
  · rw [if_pos h, if_pos h]
    rcases j with _ | _ | _ | _ | j <;> first | exact absurd rfl hj | rfl
  · rw [if_neg h, if_neg h]; rfl
theorem hct_st {st' : Nat → Nat} : ∀ j, j ≠ 2 → hct cy ad P wy cl st' tg j = hct cy ad P wy cl st tg j := by
  intro j hj
  unfold hct
  by_cases h : j < 4
  · rw [if_pos h, if_pos h]
    rcases j with _ | _ | _ | _ | j <;> first | exact absurd rfl hj | rfl
  · rw [if_neg h, if_neg h]
theorem hct_tg {tg' : Nat → Int32} : ∀ j, j ≠ 3 → hct cy ad P wy cl st tg' j = hct cy ad P wy cl st tg j := by
  intro j hj
  unfold hct
  by_cases h : j < 4
  · rw [if_pos h, if_pos h]
    rcases j with _ | _ | _ | _ | j <;> first | exact absurd rfl hj | rfl
  · rw [if_neg h, if_neg h]
theorem hct_cl {q : Nat} {x : CE} : ∀ j, j ≠ 4 + q → hct cy ad P wy (va_up cl q x) st tg j = hct cy ad P wy cl st tg j := by
  intro j hj
  unfold hct
  by_cases h : j < 4
  · rw [if_pos h, if_pos h]
  · rw [if_neg h, if_neg h]
    by_cases h2 : j < 30
    · rw [if_pos h2, if_pos h2, va_up_ne _ _ (by omega)]
    · rw [if_neg h2, if_neg h2]
theorem hct_W {t i : Nat} {v : Int64} : ∀ j, j ≠ 31 + 2 * t → hct cy ad (P.setW t i v) wy cl st tg j = hct cy ad P wy cl st tg j := by
  intro j hj
  unfold hct
  by_cases h : j < 4
  · rw [if_pos h, if_pos h]; rfl
  · rw [if_neg h, if_neg h]
    by_cases h2 : j < 30
    · rw [if_pos h2, if_pos h2]
    · rw [if_neg h2, if_neg h2]
      by_cases h3 : j % 2 = 0
      · rw [if_pos h3, if_pos h3]; rfl
      · rw [if_neg h3, if_neg h3]
        unfold arE
        show (if P.kd _ ≤ 5 then some (Sum.inl (cy 1, P.ln _, Sum.inr (Sum.inl (up2 P.wh t i v _)))) else if _ then _ else if _ then some (Sum.inl (cy 4, P.ln _, Sum.inr (Sum.inr (Sum.inr (Sum.inr (fun k => rfO ad (up2 P.wh t i v _ k).toNatClampNeg)))))) else _) = _
        rw [up2_ne _ _ (show (j - 30) / 2 ≠ t by omega)]
theorem hct_R {t i : Nat} {v : UInt64} : ∀ j, j ≠ 31 + 2 * t → hct cy ad (P.setR t i v) wy cl st tg j = hct cy ad P wy cl st tg j := by
  intro j hj
  unfold hct
  by_cases h : j < 4
  · rw [if_pos h, if_pos h]; rfl
  · rw [if_neg h, if_neg h]
    by_cases h2 : j < 30
    · rw [if_pos h2, if_pos h2]
    · rw [if_neg h2, if_neg h2]
      by_cases h3 : j % 2 = 0
      · rw [if_pos h3, if_pos h3]; rfl
      · rw [if_neg h3, if_neg h3]
        unfold arE
        show (if P.kd _ ≤ 5 then _ else if _ then some (Sum.inl (cy 2, P.ln _, Sum.inr (Sum.inr (Sum.inr (Sum.inl (up2 P.re t i v _)))))) else _) = _
        rw [up2_ne _ _ (show (j - 30) / 2 ≠ t by omega)]
end HA
section HROWS
variable {p : Program} {l : Launch} {e : Env} {R : Room} {s : State} {m : MethodId} {args : Array Value} {below : List Frame} {meth : Method} {c : Code} {H : Heap} {locs : List Loc} {cells slots : Nat} {Q : State → Prop}
variable {cc : ByteArray} {pc : Nat} {ls : Array Slot} {rest : List Value} {D : va_G} {cy : Nat → ClassId} {A : Nat → Prop} {nL : Nat} {ad : Nat → Nat} {H0 : Heap} {own : String}
variable {P : AS} {wy : Int32} {cl : Nat → CE} {st : Nat → Nat} {tg : Nat → Int32}
/-- a cell's field is read -/
theorem hr_cg (hC : CallFix p m c cc nL s args gtbl own) (hK : kx D cy s) (hH : hp D A (30 + 2 * P.n) ad (hct cy ad P wy cl st tg) H) (j : Nat) (hj : j < 26) (k : Nat) (hk : k < 4) {index : Nat} (hlink : Cond.fieldLink own index RX1 (TX1 k).2.1 (TX1 k).2.2.1 ∈ gtbl) {v : Value} (hv : ([.int (cl j).1, .long (cl j).2.1, .double (cl j).2.2.1, va_rf (rfO ad (cl j).2.2.2)] : List Value)[k]? = some v) (hsm : RX1 = (TX1 k).1) (hdg : decode cc pc = .ok (.getfield index, 3))
    (kk : W p l e R s m args below meth c H locs cells slots Q (F0 m (pc + 3) ls (v :: rest))) : W p l e R s m args below meth c H locs cells slots Q (F0 m pc ls (.ref (ad (4 + j)) :: rest)) :=
  g_get hC hK inG1 hH (4 + j) (by omega) (hct_c hj) (ci := 1) rfl k hk hlink (Or.inl hsm) hv hdg kk
/-- a cell's field is written -/
theorem hr_cp (hC : CallFix p m c cc nL s args gtbl own) (hK : kx D cy s) (hH : hp D A (30 + 2 * P.n) ad (hct cy ad P wy cl st tg) H) (hS : va_S A H0 H locs) (j : Nat) (hj : j < 26) (k : Nat) (hk : k < 4) (x : CE) {index : Nat} (hlink : Cond.fieldLink own index RX1 (TX1 k).2.1 (TX1 k).2.2.1 ∈ gtbl) (hsm : RX1 = (TX1 k).1) (hfin : (TX1 k).2.2.2 = false) {v : Value} (hn : narrow (tyX1 k) v = v) (hfit : fits (tyX1 k) v = true)
    (hx : ([.int (cl j).1, .long (cl j).2.1, .double (cl j).2.2.1, va_rf (rfO ad (cl j).2.2.2)] : List Value).set k v = [.int x.1, .long x.2.1, .double x.2.2.1, va_rf (rfO ad x.2.2.2)]) (hdg : decode cc pc = .ok (.putfield index, 3))
    (kk : ∀ (H1 : Heap) (locs1 : List Loc), hp D A (30 + 2 * P.n) ad (hct cy ad P wy (va_up cl j x) st tg) H1 → va_S A H0 H1 locs1 → W p l e R s m args below meth c H1 locs1 cells slots Q (F0 m (pc + 3) ls rest)) : W p l e R s m args below meth c H locs cells slots Q (F0 m pc ls (v :: .ref (ad (4 + j)) :: rest)) :=
  g_put (ct' := hct cy ad P wy (va_up cl j x) st tg) hC hK inG1 tyX1 tyX1_ok nmX1 hH hS (4 + j) (by omega) (hct_c hj) (ci := 1) rfl k hk hlink hsm hfin hn hfit (show k < 4 from hk) (by rw [hct_c hj, va_up_self, hx]; rfl) hct_cl hdg kk
/-- what column j holds -/
theorem hr_co (hC : CallFix p m c cc nL s args gtbl own) (hK : kx D cy s) (hH : hp D A (30 + 2 * P.n) ad (hct cy ad P wy cl st tg) H) (j : Nat) (hj : j < 12) (hdg : decode cc pc = .ok (.aaload, 1))
    (kk : W p l e R s m args below meth c H locs cells slots Q (F0 m (pc + 1) ls (va_rf (rfO ad (P.co j)) :: rest))) : W p l e R s m args below meth c H locs cells slots Q (F0 m pc ls (.int (nI j) :: .ref (ad 1) :: rest)) :=
  g_aald4 hC hK hH 1 (by omega) rfl (vp_in_nI hj (by decide)) hdg (by rw [nI_clamp (by omega)]; exact kk)
theorem hr_sg (hC : CallFix p m c cc nL s args gtbl own) (hK : kx D cy s) (hH : hp D A (30 + 2 * P.n) ad (hct cy ad P wy cl st tg) H) (j : Nat) (hj : j < 24) (hdg : decode cc pc = .ok (.aaload, 1))
    (kk : W p l e R s m args below meth c H locs cells slots Q (F0 m (pc + 1) ls (.ref (ad (4 + st j)) :: rest))) : W p l e R s m args below meth c H locs cells slots Q (F0 m pc ls (.int (nI j) :: .ref (ad 2) :: rest)) :=
  g_aald3 hC hK hH 2 (by omega) rfl (vp_in_nI hj (by decide)) hdg (by rw [nI_clamp (by omega)]; exact kk)
/-- a thing's class, by its kind -/
theorem ob_cls (P : AS) (ad : Nat → Nat) (t : Nat) (hk : P.kd t ≤ 14) : (P.kd t ≤ 5 ∧ obE ad P t = .inr (4, [.int (nI (P.kd t)), .ref (ad (31 + 2 * t))])) ∨ ((6 ≤ P.kd t ∧ P.kd t ≤ 7) ∧ obE ad P t = .inr (2, [.int (nI (P.kd t)), .ref (ad (31 + 2 * t))])) ∨ ((8 ≤ P.kd t ∧ P.kd t ≤ 11) ∧ obE ad P t = .inr (3, [.int (nI (P.kd t)), .ref (ad (31 + 2 * t))])) ∨ (12 ≤ P.kd t ∧ obE ad P t = .inr (0, [.int (nI (P.kd t)), .int (P.tg t)])) := by
  rcases (by omega : P.kd t ≤ 5 ∨ (6 ≤ P.kd t ∧ P.kd t ≤ 7) ∨ (8 ≤ P.kd t ∧ P.kd t ≤ 11) ∨ 12 ≤ P.kd t) with h | h | h | h
  · exact Or.inl ⟨h, obE_w h⟩
  · exact Or.inr (Or.inl ⟨h, obE_p h⟩)
  · exact Or.inr (Or.inr (Or.inl ⟨h, obE_t h⟩))
  · exact Or.inr (Or.inr (Or.inr ⟨h, obE_c h⟩))
/-- a thing's kind is read, under any name that it has -/
theorem hr_kd (hC : CallFix p m c cc nL s args gtbl own) (hK : kx D cy s) (hw : WF P) (hH : hp D A (30 + 2 * P.n) ad (hct cy ad P wy cl st tg) H) (t : Nat) (ht : t < P.n) {ref : String} {index : Nat} (hlink : Cond.fieldLink own index ref "kind" "I" ∈ gtbl) (hsm : ref = RX4 ∨ Cond.sameField ref RX4 "kind" "I" ∈ gtbl) (hdg : decode cc pc = .ok (.getfield index, 3))
    (kk : W p l e R s m args below meth c H locs cells slots Q (F0 m (pc + 3) ls (.int (nI (P.kd t)) :: rest))) : W p l e R s m args below meth c H locs cells slots Q (F0 m pc ls (.ref (ad (30 + 2 * t)) :: rest)) := by
  rcases ob_cls P ad t (hw.1 t) with ⟨-, e1⟩ | ⟨-, e1⟩ | ⟨-, e1⟩ | ⟨-, e1⟩
  · exact g_get hC hK inG6 hH (30 + 2 * t) (by omega) ((hct_o t).trans (congrArg some e1)) (ci := 4) rfl 0 (by decide) hlink hsm rfl hdg kk
  · exact g_get hC hK inG2 hH (30 + 2 * t) (by omega) ((hct_o t).trans (congrArg some e1)) (ci := 2) rfl 0 (by decide) hlink hsm rfl hdg kk
  · exact g_get hC hK inG5 hH (30 + 2 * t) (by omega) ((hct_o t).trans (congrArg some e1)) (ci := 3) rfl 0 (by decide) hlink hsm rfl hdg kk
  · exact g_get hC hK inG0 hH (30 + 2 * t) (by omega) ((hct_o t).trans (congrArg some e1)) (ci := 0) rfl 0 (by decide) hlink hsm rfl hdg kk
end HROWS
