section LX2
variable {p : Program} {l : Launch} {e : Env} {R : Room} {s : State} {m : MethodId} {args : Array Value} {below : List Frame} {meth : Method} {c : Code} {H : Heap} {locs : List Loc} {cells slots : Nat} {Q : State → Prop}
variable {cc : ByteArray} {pc : Nat} {ls : Array Slot} {rest : List Value}
theorem lx_astore_n (hexec : p.tables.exec = Jvm.exec) (hb : c.code = cc) {k : Fin 4} {i nL : Nat} {x : Option Nat} {lv lv' : List (Nat × Value)} (hdg : decode cc pc = .ok (.astore_n k, 1)) (hi : (k : Nat) = i) (h : lv_has ls nL lv) (hn : i < nL) (hl : (i, va_rf x) :: lv.filter (fun q => !(q.1 == i) && !(q.1 + 1 == i && q.2.category == 2)) = lv') (kk : ∀ ls' : Array Slot, lv_has ls' nL lv' → W p l e R s m args below meth c H locs cells slots Q (F0 m (pc + 1) ls' rest)) : W p l e R s m args below meth c H locs cells slots Q (F0 m pc ls (va_rf x :: rest)) := by
  cases x with
  | none => exact lv_astore_nN hexec hb hdg hi h hn hl kk
  | some x => exact lv_astore_n hexec hb hdg hi h hn hl kk
end LX2
theorem isC_lo {v : Int32} (h : v < 0) : isC v = false := inR_lo h
theorem isC_hi {v : Int32} (h : 12 ≤ v) : isC v = false := by
  refine inR_hi ?_
  rw [i_lt]; rw [i_le] at h
  have e1 : (12 : Int32).toInt = 12 := by decide
  have e2 : (11 : Int32).toInt = 11 := by decide
  omega
theorem isC_in {v : Int32} (h : ¬ v < 0) (h2 : ¬ 12 ≤ v) : isC v = true := by
  refine inR_in h ?_
  rw [i_lt]; rw [i_le] at h2
  have e1 : (12 : Int32).toInt = 12 := by decide
  have e2 : (11 : Int32).toInt = 11 := by decide
  omega
theorem isRw_ex {P : AS} {q : Nat} (h : isRw P q = true) : ∃ t, q = t + 1 ∧ P.kd t < 12 := by
  unfold isRw at h; rw [decide_eq_true_eq] at h; exact ⟨q - 1, by omega, h.2⟩
theorem isCk_ex {P : AS} {q : Nat} (h : isCk P q = true) : ∃ t, q = t + 1 ∧ 12 ≤ P.kd t := by
  unfold isCk at h; rw [decide_eq_true_eq] at h; exact ⟨q - 1, by omega, h.2⟩
theorem rsA_c {P : AS} {c : Int32} (h : isC c = false) : rsA P c = 1 := by unfold rsA; rw [h]; rfl
theorem rsA_j {P : AS} {j : Nat} (hj : j < 12) : rsA P (nI j) = rsRow P j := by unfold rsA; rw [if_pos (isC_nI hj), cN_c hj]
theorem rwO_n {P : AS} {ad : Nat → Nat} {c : Int32} (h : isC c = false) : rwO P ad c = none := by unfold rwO; rw [rsA_c h]; rfl
theorem rsRow_isRw {P : AS} {j : Nat} : isRw P (P.co j) = true ↔ rsRow P j = 0 := by
  unfold isRw rsRow
  rw [decide_eq_true_eq]
  by_cases h : P.co j = 0
  · rw [if_pos h]; exact ⟨fun x => absurd h x.1, fun x => absurd x (by decide)⟩
  · rw [if_neg h]
    by_cases h2 : P.kd (P.co j - 1) < 12
    · rw [if_pos h2]; exact ⟨fun _ => rfl, fun _ => ⟨h, h2⟩⟩
    · rw [if_neg h2]; exact ⟨fun x => absurd x.2 h2, fun x => absurd x (by decide)⟩
theorem rwO_f {P : AS} {ad : Nat → Nat} {j : Nat} (hj : j < 12) (h : isRw P (P.co j) = false) : rwO P ad (nI j) = none := by
  unfold rwO; rw [rsA_j hj, if_neg (fun x => by rw [← rsRow_isRw, h] at x; cases x)]
theorem rwO_y {P : AS} {ad : Nat → Nat} {j t : Nat} (hj : j < 12) (h : P.co j = t + 1) (hk : P.kd t < 12) : rwO P ad (nI j) = some (ad (30 + 2 * t)) := by
  have h0 : rsRow P j = 0 := by rw [← rsRow_isRw, h]; unfold isRw; rw [decide_eq_true_eq]; exact ⟨by omega, hk⟩
  unfold rwO; rw [rsA_j hj, if_pos h0, cN_c hj, h]; rfl
theorem csA_c {P : AS} {c : Int32} (h : isC c = false) : csA P c = 1 := by unfold csA; rw [h]; rfl
theorem csA_j {P : AS} {j : Nat} (hj : j < 12) : csA P (nI j) = if isCd P j = true then 0 else 5 := by unfold csA; rw [if_pos (isC_nI hj), cN_c hj]
theorem isCk_isCd (P : AS) (j : Nat) : isCk P (P.co j) = isCd P j := rfl
theorem cdO_n {P : AS} {ad : Nat → Nat} {c : Int32} (h : isC c = false) : cdO P ad c = none := by unfold cdO; rw [csA_c h]; rfl
theorem cdO_f {P : AS} {ad : Nat → Nat} {j : Nat} (hj : j < 12) (h : isCk P (P.co j) = false) : cdO P ad (nI j) = none := by
  unfold cdO; rw [csA_j hj, ← isCk_isCd, h]; rfl
theorem cdO_y {P : AS} {ad : Nat → Nat} {j t : Nat} (hj : j < 12) (h : P.co j = t + 1) (hk : 12 ≤ P.kd t) : cdO P ad (nI j) = some (ad (30 + 2 * t)) := by
  have h0 : isCd P j = true := isCd_t h (by omega)
  unfold cdO; rw [csA_j hj, h0, if_pos rfl, if_pos rfl, cN_c hj, h]; rfl
def mnI (a b : Int32) : Int32 := if b < a then b else a
def mxI (a b : Int32) : Int32 := if a < b then b else a
def fmI (x y : Int32) : Int32 := if 0 ≤ (x ^^^ y) then x - x / y * y else x - x / y * y
theorem earl_le {a b : Nat} (ha : a ≤ 3) (hb : b ≤ 3) : earl a b ≤ 3 := by unfold earl; split <;> (try split) <;> (try split) <;> omega
/-- whether a row takes what a cell has -/
def tkC (P : AS) (t : Nat) (x : CE) : Bool := if cV x = true then decide (P.kd t < 8) && goes (cN x.1) (P.kd t) else !decide (P.kd t < 8) && fitP P t x.2.2.2
/-- a cell is in order: no sort, or one of the eight; its thing is one -/
def cOK (P : AS) (x : CE) : Prop := (x.1 = -1 ∨ ∃ k, k < 8 ∧ x.1 = nI k) ∧ x.2.2.2 ≤ P.n
theorem cOK_v {P : AS} {x : CE} (h : cOK P x) (hv : cV x = true) : ∃ k, k < 8 ∧ x.1 = nI k := by
  rcases h.1 with h1 | h1
  · unfold cV at hv; rw [decide_eq_true_eq] at hv; exact absurd h1 hv
  · exact h1
theorem isRw_k {P : AS} {t : Nat} (h : isRw P (t + 1) = true) : P.kd (t + 1 - 1) < 12 := by
  unfold isRw at h; rw [decide_eq_true_eq] at h; exact h.2
theorem isRw_nk {P : AS} {t : Nat} (h : isRw P (t + 1) = false) : ¬ P.kd (t + 1 - 1) < 12 := by
  unfold isRw at h; rw [decide_eq_false_iff_not] at h; exact fun x => h ⟨by omega, x⟩
