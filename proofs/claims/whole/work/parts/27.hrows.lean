section LX
variable {p : Program} {l : Launch} {e : Env} {R : Room} {s : State} {m : MethodId} {args : Array Value} {below : List Frame} {meth : Method} {c : Code} {H : Heap} {locs : List Loc} {cells slots : Nat} {Q : State → Prop}
variable {cc : ByteArray} {pc : Nat} {ls : Array Slot} {rest : List Value}
theorem lx_aload_n (hexec : p.tables.exec = Jvm.exec) (hb : c.code = cc) {k : Fin 4} {i : Nat} {x : Option Nat} (hdg : decode cc pc = .ok (.aload_n k, 1)) (hi : (k : Nat) = i) (hl : ls[i]? = some (.val (va_rf x))) (kk : W p l e R s m args below meth c H locs cells slots Q (F0 m (pc + 1) ls (va_rf x :: rest))) : W p l e R s m args below meth c H locs cells slots Q (F0 m pc ls rest) := by
  cases x with
  | none => exact lv_aload_nN hexec hb hdg hi hl kk
  | some x => exact lv_aload_n hexec hb hdg hi hl kk
theorem lx_aload (hexec : p.tables.exec = Jvm.exec) (hb : c.code = cc) {i : Nat} {x : Option Nat} (hdg : decode cc pc = .ok (.aload i, 2)) (hl : ls[i]? = some (.val (va_rf x))) (kk : W p l e R s m args below meth c H locs cells slots Q (F0 m (pc + 2) ls (va_rf x :: rest))) : W p l e R s m args below meth c H locs cells slots Q (F0 m pc ls rest) := by
  cases x with
  | none => exact lv_aloadN hexec hb hdg hl kk
  | some x => exact lv_aload hexec hb hdg hl kk
theorem va_rf_narrow (C : String) (x : Option Nat) : narrow (.object C) (va_rf x) = va_rf x ∧ fits (.object C) (va_rf x) = true := by cases x <;> exact ⟨rfl, rfl⟩
end LX
section HROWS2
variable {p : Program} {l : Launch} {e : Env} {R : Room} {s : State} {m : MethodId} {args : Array Value} {below : List Frame} {meth : Method} {c : Code} {H : Heap} {locs : List Loc} {cells slots : Nat} {Q : State → Prop}
variable {cc : ByteArray} {pc : Nat} {ls : Array Slot} {rest : List Value} {D : va_G} {cy : Nat → ClassId} {A : Nat → Prop} {nL : Nat} {ad : Nat → Nat} {H0 : Heap} {own : String}
variable {P : AS} {wy : Int32} {cl : Nat → CE} {st : Nat → Nat} {tg : Nat → Int32}
/-- a thing of the world into an array of things -/
theorem hr_thst {ct' : Nat → Option va_E} (hC : CallFix p m c cc nL s args gtbl own) (hK : kx D cy s) (hw : WF P) (hH : hp D A (30 + 2 * P.n) ad (hct cy ad P wy cl st tg) H) (hS : va_S A H0 H locs) (i : Nat) (hi : i < 30 + 2 * P.n) {n : Nat} {f : Nat → Option Nat} (he : hct cy ad P wy cl st tg i = some (.inl (cy 4, n, .inr (.inr (.inr (.inr f)))))) (x : Nat) (hx : x < n ∧ n < 2 ^ 31) (q : Nat) (hq : q ≤ P.n)
    (he' : ct' i = some (.inl (cy 4, n, .inr (.inr (.inr (.inr (va_up f x (rfO ad q)))))))) (ho : ∀ j, j ≠ i → ct' j = hct cy ad P wy cl st tg j) (hdg : decode cc pc = .ok (.aastore, 1))
    (kk : ∀ (H1 : Heap) (locs1 : List Loc), hp D A (30 + 2 * P.n) ad ct' H1 → va_S A H0 H1 locs1 → W p l e R s m args below meth c H1 locs1 cells slots Q (F0 m (pc + 1) ls rest)) : W p l e R s m args below meth c H locs cells slots Q (F0 m pc ls (va_rf (rfO ad q) :: .int (nI x) :: .ref (ad i) :: rest)) := by
  rcases co_cases q with rfl | ⟨t, rfl⟩
  · exact g_aastN (E := RX4) (t0 := 4) hC hK hH hS i hi rfl he (vp_in_nI hx.1 hx.2) (by rw [nI_clamp (by omega)]; exact he') ho hdg kk
  · rw [rfO_s] at he' ⊢
    have hx' : (nI x).toNatClampNeg = x := nI_clamp (by omega)
    rcases ob_cls P ad t (hw.1 t) with ⟨-, e1⟩ | ⟨-, e1⟩ | ⟨-, e1⟩ | ⟨-, e1⟩
    · exact g_aast (E := RX4) (t0 := 4) hC hK hH hS i hi rfl he (vp_in_nI hx.1 hx.2) (30 + 2 * t) (by omega) ((hct_o t).trans (congrArg some e1)) (ci := 4) rfl (Or.inr (by decide +kernel)) (by rw [hx']; exact he') ho hdg kk
    · exact g_aast (E := RX4) (t0 := 4) hC hK hH hS i hi rfl he (vp_in_nI hx.1 hx.2) (30 + 2 * t) (by omega) ((hct_o t).trans (congrArg some e1)) (ci := 2) rfl (Or.inr (by decide +kernel)) (by rw [hx']; exact he') ho hdg kk
    · exact g_aast (E := RX4) (t0 := 4) hC hK hH hS i hi rfl he (vp_in_nI hx.1 hx.2) (30 + 2 * t) (by omega) ((hct_o t).trans (congrArg some e1)) (ci := 3) rfl (Or.inr (by decide +kernel)) (by rw [hx']; exact he') ho hdg kk
    · exact g_aast (E := RX4) (t0 := 4) hC hK hH hS i hi rfl he (vp_in_nI hx.1 hx.2) (30 + 2 * t) (by omega) ((hct_o t).trans (congrArg some e1)) (ci := 0) rfl (Or.inr (by decide +kernel)) (by rw [hx']; exact he') ho hdg kk
theorem hr_cos (hC : CallFix p m c cc nL s args gtbl own) (hK : kx D cy s) (hw : WF P) (hH : hp D A (30 + 2 * P.n) ad (hct cy ad P wy cl st tg) H) (hS : va_S A H0 H locs) (j q : Nat) (hj : j < 12) (hq : q ≤ P.n) (hdg : decode cc pc = .ok (.aastore, 1))
    (kk : ∀ (H1 : Heap) (locs1 : List Loc), hp D A (30 + 2 * (P.setCo j q).n) ad (hct cy ad (P.setCo j q) wy cl st tg) H1 → va_S A H0 H1 locs1 → W p l e R s m args below meth c H1 locs1 cells slots Q (F0 m (pc + 1) ls rest)) : W p l e R s m args below meth c H locs cells slots Q (F0 m pc ls (va_rf (rfO ad q) :: .int (nI j) :: .ref (ad 1) :: rest)) := by
  refine hr_thst (ct' := hct cy ad (P.setCo j q) wy cl st tg) hC hK hw hH hS 1 (by omega) rfl j ⟨hj, by decide⟩ q hq ?_ hct_co hdg kk
  show some _ = some _
  congr 8
  funext k
  show rfO ad (va_up P.co j q k) = va_up (fun c => rfO ad (P.co c)) j (rfO ad q) k
  unfold va_up
  split <;> rfl
theorem hr_tgs (hC : CallFix p m c cc nL s args gtbl own) (hK : kx D cy s) (hw : WF P) (hH : hp D A (30 + 2 * P.n) ad (hct cy ad P wy cl st tg) H) (hS : va_S A H0 H locs) (t i q : Nat) (ht : t < P.n) (hk : 8 ≤ P.kd t ∧ P.kd t ≤ 11) (hi : i < P.ln t) (hq : q ≤ P.n) (hdg : decode cc pc = .ok (.aastore, 1))
    (kk : ∀ (H1 : Heap) (locs1 : List Loc), hp D A (30 + 2 * (P.setW t i (lN q)).n) ad (hct cy ad (P.setW t i (lN q)) wy cl st tg) H1 → va_S A H0 H1 locs1 → W p l e R s m args below meth c H1 locs1 cells slots Q (F0 m (pc + 1) ls rest)) : W p l e R s m args below meth c H locs cells slots Q (F0 m pc ls (va_rf (rfO ad q) :: .int (nI i) :: .ref (ad (31 + 2 * t)) :: rest)) := by
  have hl := hw.2.1 t
  have hn := hw.2.2.1
  refine hr_thst (ct' := hct cy ad (P.setW t i (lN q)) wy cl st tg) hC hK hw hH hS (31 + 2 * t) (by omega) ((hct_a t).trans (arE_t hk)) i ⟨hi, by omega⟩ q hq ?_ hct_W hdg kk
  rw [hct_a]
  refine (arE_t (P := P.setW t i (lN q)) hk).trans ?_
  show some _ = some _
  congr 8
  funext k
  show rfO ad (up2 P.wh t i (lN q) t k).toNatClampNeg = va_up (fun k => rfO ad (P.wh t k).toNatClampNeg) i (rfO ad q) k
  rw [up2_row]
  show rfO ad (if k = i then lN q else P.wh t k).toNatClampNeg = (if k = i then rfO ad q else rfO ad (P.wh t k).toNatClampNeg)
  by_cases h : k = i
  · rw [if_pos h, if_pos h, lN_clamp (by omega)]
  · rw [if_neg h, if_neg h]
theorem hr_tl (hC : CallFix p m c cc nL s args gtbl own) (hK : kx D cy s) (hw : WF P) (hH : hp D A (30 + 2 * P.n) ad (hct cy ad P wy cl st tg) H) (t i : Nat) (ht : t < P.n) (hk : 8 ≤ P.kd t ∧ P.kd t ≤ 11) (hi : i < P.ln t) (hdg : decode cc pc = .ok (.aaload, 1))
    (kk : W p l e R s m args below meth c H locs cells slots Q (F0 m (pc + 1) ls (va_rf (rfO ad (P.wh t i).toNatClampNeg) :: rest))) : W p l e R s m args below meth c H locs cells slots Q (F0 m pc ls (.int (nI i) :: .ref (ad (31 + 2 * t)) :: rest)) := by
  have hl := hw.2.1 t
  exact g_aald4 hC hK hH (31 + 2 * t) (by omega) ((hct_a t).trans (arE_t hk)) (vp_in_nI hi (by omega)) hdg (by rw [nI_clamp (by omega)]; exact kk)
theorem hr_wl (hC : CallFix p m c cc nL s args gtbl own) (hK : kx D cy s) (hw : WF P) (hH : hp D A (30 + 2 * P.n) ad (hct cy ad P wy cl st tg) H) (t i : Nat) (ht : t < P.n) (hk : P.kd t ≤ 5) (hi : i < P.ln t) (hdg : decode cc pc = .ok (.laload, 1))
    (kk : W p l e R s m args below meth c H locs cells slots Q (F0 m (pc + 1) ls (.long (P.wh t i) :: rest))) : W p l e R s m args below meth c H locs cells slots Q (F0 m pc ls (.int (nI i) :: .ref (ad (31 + 2 * t)) :: rest)) := by
  have hl := hw.2.1 t
  exact gN_lald hC hK hH (31 + 2 * t) (by omega) ((hct_a t).trans (arE_w hk)) i ⟨hi, by omega⟩ hdg kk
theorem hr_pl (hC : CallFix p m c cc nL s args gtbl own) (hK : kx D cy s) (hw : WF P) (hH : hp D A (30 + 2 * P.n) ad (hct cy ad P wy cl st tg) H) (t i : Nat) (ht : t < P.n) (hk : 6 ≤ P.kd t ∧ P.kd t ≤ 7) (hi : i < P.ln t) (hdg : decode cc pc = .ok (.daload, 1))
    (kk : W p l e R s m args below meth c H locs cells slots Q (F0 m (pc + 1) ls (.double (P.re t i) :: rest))) : W p l e R s m args below meth c H locs cells slots Q (F0 m pc ls (.int (nI i) :: .ref (ad (31 + 2 * t)) :: rest)) := by
  have hl := hw.2.1 t
  exact gN_dald hC hK hH (31 + 2 * t) (by omega) ((hct_a t).trans (arE_p hk)) i ⟨hi, by omega⟩ hdg kk
theorem hr_ws (hC : CallFix p m c cc nL s args gtbl own) (hK : kx D cy s) (hw : WF P) (hH : hp D A (30 + 2 * P.n) ad (hct cy ad P wy cl st tg) H) (hS : va_S A H0 H locs) (t i : Nat) (ht : t < P.n) (hk : P.kd t ≤ 5) (hi : i < P.ln t) {v : Int64} (hdg : decode cc pc = .ok (.lastore, 1))
    (kk : ∀ (H1 : Heap) (locs1 : List Loc), hp D A (30 + 2 * (P.setW t i v).n) ad (hct cy ad (P.setW t i v) wy cl st tg) H1 → va_S A H0 H1 locs1 → W p l e R s m args below meth c H1 locs1 cells slots Q (F0 m (pc + 1) ls rest)) : W p l e R s m args below meth c H locs cells slots Q (F0 m pc ls (.long v :: .int (nI i) :: .ref (ad (31 + 2 * t)) :: rest)) := by
  have hl := hw.2.1 t
  refine gN_last (ct' := hct cy ad (P.setW t i v) wy cl st tg) hC hK hH hS (31 + 2 * t) (by omega) ((hct_a t).trans (arE_w hk)) i ⟨hi, by omega⟩ ?_ hct_W hdg kk
  rw [hct_a]
  refine (arE_w (P := P.setW t i v) hk).trans ?_
  show some _ = some _
  congr 5
  exact congrArg Sum.inl (up2_row P.wh t i v)
theorem hr_ps (hC : CallFix p m c cc nL s args gtbl own) (hK : kx D cy s) (hw : WF P) (hH : hp D A (30 + 2 * P.n) ad (hct cy ad P wy cl st tg) H) (hS : va_S A H0 H locs) (t i : Nat) (ht : t < P.n) (hk : 6 ≤ P.kd t ∧ P.kd t ≤ 7) (hi : i < P.ln t) {v : UInt64} (hdg : decode cc pc = .ok (.dastore, 1))
    (kk : ∀ (H1 : Heap) (locs1 : List Loc), hp D A (30 + 2 * (P.setR t i v).n) ad (hct cy ad (P.setR t i v) wy cl st tg) H1 → va_S A H0 H1 locs1 → W p l e R s m args below meth c H1 locs1 cells slots Q (F0 m (pc + 1) ls rest)) : W p l e R s m args below meth c H locs cells slots Q (F0 m pc ls (.double v :: .int (nI i) :: .ref (ad (31 + 2 * t)) :: rest)) := by
  have hl := hw.2.1 t
  refine gN_dast (ct' := hct cy ad (P.setR t i v) wy cl st tg) hC hK hH hS (31 + 2 * t) (by omega) ((hct_a t).trans (arE_p hk)) i ⟨hi, by omega⟩ ?_ hct_R hdg kk
  rw [hct_a]
  refine (arE_p (P := P.setR t i v) hk).trans ?_
  show some _ = some _
  congr 7
  exact congrArg Sum.inl (up2_row P.re t i v)
theorem hr_len (hC : CallFix p m c cc nL s args gtbl own) (hK : kx D cy s) (hH : hp D A (30 + 2 * P.n) ad (hct cy ad P wy cl st tg) H) (t : Nat) (ht : t < P.n) (hk : P.kd t < 12) (hdg : decode cc pc = .ok (.arraylength, 1))
    (kk : W p l e R s m args below meth c H locs cells slots Q (F0 m (pc + 1) ls (.int (nI (P.ln t)) :: rest))) : W p l e R s m args below meth c H locs cells slots Q (F0 m pc ls (.ref (ad (31 + 2 * t)) :: rest)) := by
  rcases (by omega : P.kd t ≤ 5 ∨ (6 ≤ P.kd t ∧ P.kd t ≤ 7) ∨ (8 ≤ P.kd t ∧ P.kd t ≤ 11)) with h | h | h
  · exact g_alen (t0 := 1) hC hK hH (31 + 2 * t) (by omega) rfl ((hct_a t).trans (arE_w h)) hdg kk
  · exact g_alen (t0 := 2) hC hK hH (31 + 2 * t) (by omega) rfl ((hct_a t).trans (arE_p h)) hdg kk
  · exact g_alen (t0 := 4) hC hK hH (31 + 2 * t) (by omega) rfl ((hct_a t).trans (arE_t h)) hdg kk
/-- the field of a row that holds its array -/
theorem hr_a6 (hC : CallFix p m c cc nL s args gtbl own) (hK : kx D cy s) (hH : hp D A (30 + 2 * P.n) ad (hct cy ad P wy cl st tg) H) (t : Nat) (ht : t < P.n) (hk : P.kd t ≤ 5) {index : Nat} (hlink : Cond.fieldLink own index RX6 "wholes" "[J" ∈ gtbl) (hdg : decode cc pc = .ok (.getfield index, 3))
    (kk : W p l e R s m args below meth c H locs cells slots Q (F0 m (pc + 3) ls (.ref (ad (31 + 2 * t)) :: rest))) : W p l e R s m args below meth c H locs cells slots Q (F0 m pc ls (.ref (ad (30 + 2 * t)) :: rest)) :=
  g_get hC hK inG6 hH (30 + 2 * t) (by omega) ((hct_o t).trans (congrArg some (obE_w hk))) (ci := 4) rfl 1 (by decide) hlink (Or.inl rfl) rfl hdg kk
theorem hr_a2 (hC : CallFix p m c cc nL s args gtbl own) (hK : kx D cy s) (hH : hp D A (30 + 2 * P.n) ad (hct cy ad P wy cl st tg) H) (t : Nat) (ht : t < P.n) (hk : 6 ≤ P.kd t ∧ P.kd t ≤ 7) {index : Nat} (hlink : Cond.fieldLink own index RX2 "points" "[D" ∈ gtbl) (hdg : decode cc pc = .ok (.getfield index, 3))
    (kk : W p l e R s m args below meth c H locs cells slots Q (F0 m (pc + 3) ls (.ref (ad (31 + 2 * t)) :: rest))) : W p l e R s m args below meth c H locs cells slots Q (F0 m pc ls (.ref (ad (30 + 2 * t)) :: rest)) :=
  g_get hC hK inG2 hH (30 + 2 * t) (by omega) ((hct_o t).trans (congrArg some (obE_p hk))) (ci := 2) rfl 1 (by decide) hlink (Or.inl rfl) rfl hdg kk
theorem hr_a5 (hC : CallFix p m c cc nL s args gtbl own) (hK : kx D cy s) (hH : hp D A (30 + 2 * P.n) ad (hct cy ad P wy cl st tg) H) (t : Nat) (ht : t < P.n) (hk : 8 ≤ P.kd t ∧ P.kd t ≤ 11) {index : Nat} (hlink : Cond.fieldLink own index RX5 "things" "[LColumnHouse$Thing;" ∈ gtbl) (hdg : decode cc pc = .ok (.getfield index, 3))
    (kk : W p l e R s m args below meth c H locs cells slots Q (F0 m (pc + 3) ls (.ref (ad (31 + 2 * t)) :: rest))) : W p l e R s m args below meth c H locs cells slots Q (F0 m pc ls (.ref (ad (30 + 2 * t)) :: rest)) :=
  g_get hC hK inG5 hH (30 + 2 * t) (by omega) ((hct_o t).trans (congrArg some (obE_t hk))) (ci := 3) rfl 1 (by decide) hlink (Or.inl rfl) rfl hdg kk
theorem hr_tag (hC : CallFix p m c cc nL s args gtbl own) (hK : kx D cy s) (hH : hp D A (30 + 2 * P.n) ad (hct cy ad P wy cl st tg) H) (t : Nat) (ht : t < P.n) (hk : 12 ≤ P.kd t) {index : Nat} (hlink : Cond.fieldLink own index RX0 "tag" "I" ∈ gtbl) (hdg : decode cc pc = .ok (.getfield index, 3))
    (kk : W p l e R s m args below meth c H locs cells slots Q (F0 m (pc + 3) ls (.int (P.tg t) :: rest))) : W p l e R s m args below meth c H locs cells slots Q (F0 m pc ls (.ref (ad (30 + 2 * t)) :: rest)) :=
  g_get hC hK inG0 hH (30 + 2 * t) (by omega) ((hct_o t).trans (congrArg some (obE_c hk))) (ci := 0) rfl 1 (by decide) hlink (Or.inl rfl) rfl hdg kk
def isRw (P : AS) (q : Nat) : Bool := decide (q ≠ 0 ∧ P.kd (q - 1) < 12)
theorem hr_instR (hC : CallFix p m c cc nL s args gtbl own) (hK : kx D cy s) (hw : WF P) (hH : hp D A (30 + 2 * P.n) ad (hct cy ad P wy cl st tg) H) (q : Nat) (hq : q ≤ P.n) {index : Nat} (hlink : Cond.classLink own index RX3 ∈ gtbl) (hdg : decode cc pc = .ok (.instanceof index, 3))
    (kk : W p l e R s m args below meth c H locs cells slots Q (F0 m (pc + 3) ls (.int (b2i (isRw P q)) :: rest))) : W p l e R s m args below meth c H locs cells slots Q (F0 m pc ls (va_rf (rfO ad q) :: rest)) := by
  rcases co_cases q with rfl | ⟨t, rfl⟩
  · exact lv_instN hC.1 hC.2.1 hdg kk
  · rw [rfO_s]
    have ky : P.kd t < 12 → W p l e R s m args below meth c H locs cells slots Q (F0 m (pc + 3) ls (.int 1 :: rest)) := fun h => by
      have : isRw P (t + 1) = true := by unfold isRw; rw [decide_eq_true_eq]; exact ⟨by omega, h⟩
      rw [this] at kk; exact kk
    have kn : ¬ P.kd t < 12 → W p l e R s m args below meth c H locs cells slots Q (F0 m (pc + 3) ls (.int 0 :: rest)) := fun h => by
      have : isRw P (t + 1) = false := by unfold isRw; rw [decide_eq_false_iff_not]; exact fun x => h x.2
      rw [this] at kk; exact kk
    rcases ob_cls P ad t (hw.1 t) with ⟨h, e1⟩ | ⟨h, e1⟩ | ⟨h, e1⟩ | ⟨h, e1⟩
    · exact g_instY hC hK hH (30 + 2 * t) (by omega) ((hct_o t).trans (congrArg some e1)) (ci := 4) rfl hlink (Or.inr (by decide +kernel)) hdg (ky (by omega))
    · exact g_instY hC hK hH (30 + 2 * t) (by omega) ((hct_o t).trans (congrArg some e1)) (ci := 2) rfl hlink (Or.inr (by decide +kernel)) hdg (ky (by omega))
    · exact g_instY hC hK hH (30 + 2 * t) (by omega) ((hct_o t).trans (congrArg some e1)) (ci := 3) rfl hlink (Or.inr (by decide +kernel)) hdg (ky (by omega))
    · exact g_instNo hC hK hH (30 + 2 * t) (by omega) ((hct_o t).trans (congrArg some e1)) (ci := 0) rfl hlink hK.2.2.2.1 hdg (kn (by omega))
def isCk (P : AS) (q : Nat) : Bool := decide (q ≠ 0 ∧ 12 ≤ P.kd (q - 1))
theorem hr_instC (hC : CallFix p m c cc nL s args gtbl own) (hK : kx D cy s) (hw : WF P) (hH : hp D A (30 + 2 * P.n) ad (hct cy ad P wy cl st tg) H) (q : Nat) (hq : q ≤ P.n) {index : Nat} (hlink : Cond.classLink own index RX0 ∈ gtbl) (hdg : decode cc pc = .ok (.instanceof index, 3))
    (kk : W p l e R s m args below meth c H locs cells slots Q (F0 m (pc + 3) ls (.int (b2i (isCk P q)) :: rest))) : W p l e R s m args below meth c H locs cells slots Q (F0 m pc ls (va_rf (rfO ad q) :: rest)) := by
  rcases co_cases q with rfl | ⟨t, rfl⟩
  · exact lv_instN hC.1 hC.2.1 hdg kk
  · rw [rfO_s]
    have ky : 12 ≤ P.kd t → W p l e R s m args below meth c H locs cells slots Q (F0 m (pc + 3) ls (.int 1 :: rest)) := fun h => by
      have : isCk P (t + 1) = true := by unfold isCk; rw [decide_eq_true_eq]; exact ⟨by omega, h⟩
      rw [this] at kk; exact kk
    have kn : ¬ 12 ≤ P.kd t → W p l e R s m args below meth c H locs cells slots Q (F0 m (pc + 3) ls (.int 0 :: rest)) := fun h => by
      have : isCk P (t + 1) = false := by unfold isCk; rw [decide_eq_false_iff_not]; exact fun x => h x.2
      rw [this] at kk; exact kk
    rcases ob_cls P ad t (hw.1 t) with ⟨h, e1⟩ | ⟨h, e1⟩ | ⟨h, e1⟩ | ⟨h, e1⟩
    · exact g_instNo hC hK hH (30 + 2 * t) (by omega) ((hct_o t).trans (congrArg some e1)) (ci := 4) rfl hlink hK.2.2.2.2.2.2 hdg (kn (by omega))
    · exact g_instNo hC hK hH (30 + 2 * t) (by omega) ((hct_o t).trans (congrArg some e1)) (ci := 2) rfl hlink hK.2.2.2.2.1 hdg (kn (by omega))
    · exact g_instNo hC hK hH (30 + 2 * t) (by omega) ((hct_o t).trans (congrArg some e1)) (ci := 3) rfl hlink hK.2.2.2.2.2.1 hdg (kn (by omega))
    · exact g_instY hC hK hH (30 + 2 * t) (by omega) ((hct_o t).trans (congrArg some e1)) (ci := 0) rfl hlink (Or.inl rfl) hdg (ky (by omega))
theorem hr_castR (hC : CallFix p m c cc nL s args gtbl own) (hK : kx D cy s) (hw : WF P) (hH : hp D A (30 + 2 * P.n) ad (hct cy ad P wy cl st tg) H) (t : Nat) (ht : t < P.n) (hk : P.kd t < 12) {index : Nat} (hlink : Cond.classLink own index RX3 ∈ gtbl) (hdg : decode cc pc = .ok (.checkcast index, 3))
    (kk : W p l e R s m args below meth c H locs cells slots Q (F0 m (pc + 3) ls (.ref (ad (30 + 2 * t)) :: rest))) : W p l e R s m args below meth c H locs cells slots Q (F0 m pc ls (.ref (ad (30 + 2 * t)) :: rest)) := by
  rcases ob_cls P ad t (hw.1 t) with ⟨h, e1⟩ | ⟨h, e1⟩ | ⟨h, e1⟩ | ⟨h, e1⟩
  · exact g_castY hC hK hH (30 + 2 * t) (by omega) ((hct_o t).trans (congrArg some e1)) (ci := 4) rfl hlink (Or.inr (by decide +kernel)) hdg kk
  · exact g_castY hC hK hH (30 + 2 * t) (by omega) ((hct_o t).trans (congrArg some e1)) (ci := 2) rfl hlink (Or.inr (by decide +kernel)) hdg kk
  · exact g_castY hC hK hH (30 + 2 * t) (by omega) ((hct_o t).trans (congrArg some e1)) (ci := 3) rfl hlink (Or.inr (by decide +kernel)) hdg kk
  · omega
theorem hr_castC (hC : CallFix p m c cc nL s args gtbl own) (hK : kx D cy s) (hH : hp D A (30 + 2 * P.n) ad (hct cy ad P wy cl st tg) H) (t : Nat) (ht : t < P.n) (hk : 12 ≤ P.kd t) {index : Nat} (hlink : Cond.classLink own index RX0 ∈ gtbl) (hdg : decode cc pc = .ok (.checkcast index, 3))
    (kk : W p l e R s m args below meth c H locs cells slots Q (F0 m (pc + 3) ls (.ref (ad (30 + 2 * t)) :: rest))) : W p l e R s m args below meth c H locs cells slots Q (F0 m pc ls (.ref (ad (30 + 2 * t)) :: rest)) :=
  g_castY hC hK hH (30 + 2 * t) (by omega) ((hct_o t).trans (congrArg some (obE_c hk))) (ci := 0) rfl hlink (Or.inl rfl) hdg kk
theorem hr_sgs (hC : CallFix p m c cc nL s args gtbl own) (hK : kx D cy s) (hH : hp D A (30 + 2 * P.n) ad (hct cy ad P wy cl st tg) H) (hS : va_S A H0 H locs) (k q : Nat) (hk : k < 24) (hq : q < 26) (hdg : decode cc pc = .ok (.aastore, 1))
    (kk : ∀ (H1 : Heap) (locs1 : List Loc), hp D A (30 + 2 * P.n) ad (hct cy ad P wy cl (va_up st k q) tg) H1 → va_S A H0 H1 locs1 → W p l e R s m args below meth c H1 locs1 cells slots Q (F0 m (pc + 1) ls rest)) : W p l e R s m args below meth c H locs cells slots Q (F0 m pc ls (.ref (ad (4 + q)) :: .int (nI k) :: .ref (ad 2) :: rest)) := by
  refine g_aast (ct' := hct cy ad P wy cl (va_up st k q) tg) (E := RX1) (t0 := 3) hC hK hH hS 2 (by omega) rfl rfl (vp_in_nI hk (by decide)) (4 + q) (by omega) (hct_c hq) (ci := 1) rfl (Or.inl rfl) ?_ hct_st hdg kk
  rw [nI_clamp (by omega)]
  show some _ = some _
  congr 8
  funext i
  show some (ad (4 + va_up st k q i)) = va_up (fun k => some (ad (4 + st k))) k (some (ad (4 + q))) i
  unfold va_up
  split <;> rfl
/-- a call on row t, whatever its class: the method that is named, and what it does -/
def RC (l : Launch) (x : MethodName) (owner : String) (n F Lc : Nat) (ret : Option FieldType) (D : va_G) (cy : Nat → ClassId) (N : Nat) (ad : Nat → Nat) (i : Nat) (As : List Value) (ct : Nat → Option va_E) (r : Option Value) (ct' : Nat → Option va_E) : Prop :=
  ∃ (y : MethodName) (bs : ByteArray) (mL : Nat) (rm : Room) (ci : Nat) (fs : List Value) (q : vw_C), i < N ∧ ct i = some (.inr (ci, fs)) ∧ vwCl[ci]? = some q ∧ muok q.1 owner x y bs mL ret n ∧ CM l y bs mL ret rm D cy N ad (.ref (ad i) :: As) ct r ct' ∧ (rm.cells = 0 ∧ rm.slots = 0) ∧ rm.frames + 1 ≤ F ∧ 8 + (mL + 11) + rm.locals ≤ Lc
theorem cm_R {x : MethodName} {owner : String} {n F Lc index N i : Nat} {ret : Option FieldType} {As rest st0 : List Value} {ct ct' : Nat → Option va_E} {r : Option Value} (hC : CallFix p m c cc nL s args gtbl own) (hM : RC l x owner n F Lc ret D cy N ad i As ct r ct') (hlk : Cond.methodLink own index x ∈ gtbl) (hR : F ≤ R.frames ∧ Lc ≤ R.locals) (hK : kx D cy s) (hH : hp D A N ad ct H) (hS : va_S A H0 H locs) (hA : ∀ q, H0.size ≤ q → A q)
    (hsize : ls.size = nL) (hf : cells ≤ R.cells ∧ slots ≤ R.slots) (hn : As.length = n) (hst : st0 = As.reverse ++ .ref (ad i) :: rest) (hW : (rest.map fun v => v.category).sum ≤ 8) (hdg : decode cc pc = .ok (.invokevirtual index, 3))
    (kk : ∀ (H1 : Heap) (locs1 : List Loc), hp D A N ad ct' H1 → va_S A H0 H1 locs1 → W p l e R s m args below meth c H1 locs1 cells slots Q (F0 m (pc + 3) ls (r.toList ++ rest))) : W p l e R s m args below meth c H locs cells slots Q (F0 m pc ls st0) := by
  obtain ⟨y, bs, mL, rm, ci, fs, q, hi, he, hc, ho, hm, h0, h1, h2⟩ := hM
  exact cm_U hC hm ho hlk ⟨h0, Nat.le_trans h1 hR.1, Nat.le_trans h2 hR.2⟩ hK hH hS hA (hp.recv hK hH hi he hc) hsize hf hn hst hW hdg kk
end HROWS2
