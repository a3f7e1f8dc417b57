theorem upd_at (f : Nat → Int32) (k : Nat) (v : Int32) : upd f k v k = v := if_pos rfl
theorem upd_ne (f : Nat → Int32) {k j : Nat} (v : Int32) (h : j ≠ k) : upd f k v j = f j := if_neg h
/-- the moves of the house and the model's -/
theorem sm_mv {P : AS} (hw : WF P) {f t k : Nat} {fr tt : Nat → Int32} {x : CE} : smR P f t (fr k) (tt k) x = mvr P f t fr tt k := by
  unfold smR mvr
  rw [tk_rd hw]
theorem sm_at {P : AS} {f t j : Nat} {i u : Int32} {cl : Nat → CE} {x : CE} (h : smR P f t i u x = 0) : smL P f t i u cl j = va_up cl j (rdC P f (cN i) (cl j)) ∧ hasP P f i = true ∧ hasP P t u = true := by
  unfold smR at h
  split at h
  · rename_i h2; unfold smL; rw [if_pos h2]; exact ⟨rfl, h2⟩
  · omega
theorem mvr_go {P : AS} {f t k : Nat} {fr tt : Nat → Int32} (h : mvr P f t fr tt k = 0) : goesI P (P.kd f) (P.wh f (cN (fr k))) t = true := by
  unfold mvr at h
  split at h
  · split at h
    · assumption
    · omega
  · omega
/-- what is staged so far -/
def SGd (P : AS) (t : Nat) (v : Nat → Int64 × UInt64) (cl : Nat → CE) (st : Nat → Nat) (k : Nat) : Prop := ∀ i, i < k → CVal P t (cl (st i)) (v i)
theorem SG_s {P : AS} {t : Nat} {v : Nat → Int64 × UInt64} {cl : Nat → CE} {st : Nat → Nat} {k : Nat} {x : CE} (hI : HI P cl st) (hk : k < 24) (h : SGd P t v cl st k) (hx : CVal P t x (v k)) : SGd P t v (va_up cl (st k) x) st (k + 1) := by
  intro i hi
  by_cases e : i = k
  · rw [e, va_up_self]; exact hx
  · rw [va_up_ne _ _ (fun e2 => e (hI.2.2 i k (by omega) hk e2))]; exact h i (by omega)
theorem SG_eq {P : AS} {t : Nat} {v : Nat → Int64 × UInt64} {cl c2 : Nat → CE} {st : Nat → Nat} {k : Nat} (hI : HI P cl st) (hk : k ≤ 24) (h : SGd P t v cl st k) (e : ∀ j, j < 24 → c2 j = cl j) : SGd P t v c2 st k := by
  intro i hi
  rw [e _ (hI.2.1 i (by omega))]; exact h i hi
theorem SG_24 {P : AS} {t : Nat} {v : Nat → Int64 × UInt64} {cl : Nat → CE} {st : Nat → Nat} {k j : Nat} {x : CE} (hI : HI P cl st) (hk : k ≤ 24) (h : SGd P t v cl st k) (hj : 24 ≤ j) : SGd P t v (va_up cl j x) st k :=
  SG_eq hI hk h (fun i hi => va_up_ne _ _ (by omega))
theorem pt_congr {P : AS} {t : Nat} {pos pos' : Nat → Nat} {v v' : Nat → Int64 × UInt64} : ∀ {k : Nat}, (∀ i, i < k → pos i = pos' i ∧ v i = v' i) → ptN P t pos v k = ptN P t pos' v' k
  | 0, _ => rfl
  | k + 1, h => by show (ptN _ _ _ _ k).put _ _ _ = (ptN _ _ _ _ k).put _ _ _; rw [pt_congr (k := k) (fun i hi => h i (by omega)), (h k (by omega)).1, (h k (by omega)).2]
/-- the staged moves written are the model's moves -/
theorem mv_end {P : AS} (hz : WZ P) {f t n : Nat} {fr tt : Nat → Int32} {pos : Nat → Nat} {cl : Nat → CE} {st : Nat → Nat} (h : SGd P t (fun i => mvV P f t (cN (fr i))) cl st n) (hp : ∀ i, i < n → pos i = cN (tt i)) : wgP P t pos (fun i => cl (st i)) n = mvW P f t fr tt n := by
  rw [(wg_pt hz (pos := pos) (x := fun i => cl (st i)) h).1, ← pt_mv]
  exact pt_congr (fun i hi => ⟨hp i hi, rfl⟩)
theorem mg_end {P : AS} (hz : WZ P) {x y t n : Nat} {cl : Nat → CE} {st : Nat → Nat} (h : SGd P t (fun i => wdn (mgS P x y i) (P.kd t) (mgV P x y i).1 (mgV P x y i).2) cl st n) : wgP P t (fun i => i) (fun i => cl (st i)) n = mgW P x y t n := by
  rw [(wg_pt hz (pos := fun i => i) (x := fun i => cl (st i)) h).1, ← pt_mg]
theorem rd_mv {P : AS} (hw : WF P) (hz : WZ P) {f t i : Nat} {x : CE} (hf : P.kd f < 12) (hg : goesI P (P.kd f) (P.wh f i) t = true) : CVal P t (rdC P f i x) (mvV P f t i) := rd_val hw hz hf hg
theorem tk_mg {P : AS} (hw : WF P) {f t i : Nat} {x : CE} (h8 : P.kd f < 8) (ht : P.kd t < 8) : tkC P t (rdC P f i x) = goes (P.kd f) (P.kd t) := by rw [tk_rd hw, goesI_v h8 ht]
theorem rd_wdn {P : AS} (hw : WF P) (hz : WZ P) {f t i : Nat} {x : CE} (h8 : P.kd f < 8) (ht : P.kd t < 8) (hg : goes (P.kd f) (P.kd t) = true) : CVal P t (rdC P f i x) (wdn (P.kd f) (P.kd t) (P.wh f i) (P.re f i)) := by
  have := rd_val hw hz (f := f) (t := t) (i := i) (x := x) (by omega) (by rw [goesI_v h8 ht]; exact hg)
  rwa [mvV_t h8] at this
theorem tl_5 {P : AS} {u : Nat} (h : (decide (P.kd u < 8) && goes (P.kd u) 4) = true) : P.kd u ≤ 4 := by
  rw [Bool.and_eq_true, decide_eq_true_eq] at h
  exact (goes_6 h.1 (by decide) h.2).1
/-- the stage's order after a cell has sunk -/
theorem HI_ins {P : AS} {cl : Nat → CE} {st : Nat → Nat} (h : HI P cl st) {p n : Nat} (hp : p ≤ n) (hn : n < 24) : HI P cl (ins st p n (st n)) := by
  have key : ∀ i, ins st p n (st n) i = st (if i < p then i else if i = p then n else if i ≤ n then i - 1 else i) := by
    intro i; unfold ins; split
    · rfl
    · split
      · rfl
      · split <;> rfl
  refine ⟨h.1, fun k hk => ?_, fun a b ha hb e => ?_⟩
  · rw [key]; apply h.2.1
    split
    · omega
    · split
      · omega
      · split <;> omega
  · rw [key, key] at e
    have e2 := h.2.2 _ _ (by split; omega; split; omega; split <;> omega) (by split; omega; split; omega; split <;> omega) e
    by_cases c1 : a < p <;> by_cases c2 : b < p <;> by_cases c3 : a = p <;> by_cases c4 : b = p <;> by_cases c5 : a ≤ n <;> by_cases c6 : b ≤ n <;> simp [c1, c2, c3, c4, c5, c6] at e2 <;> omega
theorem skA_congr {f g : Nat → Bool} : ∀ {n : Nat}, (∀ a, a < n → f a = g a) → skA f n = skA g n
  | 0, _ => rfl
  | n + 1, h => by unfold skA; rw [h n (by omega), skA_congr (fun a ha => h a (by omega))]
/-- the stage holds the places of row t in the order σ -/
def SOd (P : AS) (t : Nat) (σ : Nat → Nat) (cl : Nat → CE) (st : Nat → Nat) (k : Nat) : Prop := ∀ i, i < k → ∃ y, cl (st i) = rdC P t (σ i) y
theorem SO_s {P : AS} {t : Nat} {cl : Nat → CE} {st : Nat → Nat} {k : Nat} (hI : HI P cl st) (hk : k < 24) (h : SOd P t (sgm P t k) cl st k) : SOd P t (sgm P t (k + 1)) (va_up cl (st k) (rdC P t k (cl (st k)))) (ins st (skA (fun a => cBf P (va_up cl (st k) (rdC P t k (cl (st k))) (st k)) (va_up cl (st k) (rdC P t k (cl (st k))) (st a))) k) k (st k)) (k + 1) := by
  have e1 : skA (fun a => cBf P (va_up cl (st k) (rdC P t k (cl (st k))) (st k)) (va_up cl (st k) (rdC P t k (cl (st k))) (st a))) k = skA (fun a => bfp P t k (sgm P t k a)) k := by
    refine skA_congr (fun a ha => ?_)
    obtain ⟨y, hy⟩ := h a ha
    rw [va_up_self, va_up_ne _ _ (fun e2 => by have := hI.2.2 a k (by omega) hk e2; omega), hy, bf_irr]
  rw [e1]
  have hp := skA_le (fun a => bfp P t k (sgm P t k a)) k
  have old : ∀ i, i < k → ∃ y, va_up cl (st k) (rdC P t k (cl (st k))) (st i) = rdC P t (sgm P t k i) y := by
    intro i hi
    obtain ⟨y, hy⟩ := h i hi
    exact ⟨y, by rw [va_up_ne _ _ (fun e2 => by have := hI.2.2 i k (by omega) hk e2; omega), hy]⟩
  intro i hi
  show ∃ y, va_up cl (st k) _ (ins st _ k (st k) i) = rdC P t (ins (sgm P t k) (skA (fun a => bfp P t k (sgm P t k a)) k) k k i) y
  unfold ins
  by_cases c1 : i < skA (fun a => bfp P t k (sgm P t k a)) k
  · rw [if_pos c1, if_pos c1]; exact old i (by omega)
  · rw [if_neg c1, if_neg c1]
    by_cases c2 : i = skA (fun a => bfp P t k (sgm P t k a)) k
    · rw [if_pos c2, if_pos c2, va_up_self]; exact ⟨_, rfl⟩
    · rw [if_neg c2, if_neg c2, if_pos (by omega), if_pos (by omega)]; exact old (i - 1) (by omega)
theorem SO_eq {P : AS} {t : Nat} {σ : Nat → Nat} {cl c2 : Nat → CE} {st : Nat → Nat} {k : Nat} (hI : HI P cl st) (hk : k ≤ 24) (h : SOd P t σ cl st k) (e : ∀ j, j < 24 → c2 j = cl j) : SOd P t σ c2 st k := by
  intro i hi
  rw [e _ (hI.2.1 i (by omega))]; exact h i hi
/-- sorting: what the house's sinking makes is what the model's swapping makes -/
theorem so_end {P : AS} (hw : WF P) (hz : WZ P) (hg : ∀ a b, gd (P.re a b)) {t : Nat} {cl : Nat → CE} {st : Nat → Nat} (hk : P.kd t < 12) (h : SOd P t (sgm P t (P.ln t)) cl st (P.ln t)) : wgP P t (fun i => i) (fun i => cl (st i)) (P.ln t) = bubO P t (P.ln t - 1) ∧ ulC P t (sgm P t (P.ln t)) (P.ln t) = othC (bubO P t (P.ln t - 1)) t (P.wh t) (P.re t) (P.ln t) := so_gen hw hz hg h
/-- turning -/
def fm (n : Int32) (m : Nat) : Nat := (n.toInt % (m : Int)).toNat
theorem fm_lt (n : Int32) {m : Nat} (h : 0 < m) : fm n m < m := by
  unfold fm
  have h1 := Int.emod_nonneg n.toInt (b := (m : Int)) (by omega)
  have h2 := Int.emod_lt_of_pos n.toInt (b := (m : Int)) (by omega)
  omega
theorem xr_pos (n : Int32) {m : Nat} (hm : m ≤ 24) : 0 ≤ n ^^^ nI m ↔ 0 ≤ n.toInt := by
  have e : (n ^^^ nI m).toBitVec.msb = n.toBitVec.msb := by
    rw [Int32.toBitVec_xor, BitVec.msb_xor]
    have h2 : (nI m).toBitVec.msb = false := by
      rw [BitVec.msb_eq_toInt]
      have := nI_toInt (n := m) (by omega)
      rw [show (nI m).toBitVec.toInt = (nI m).toInt from rfl, this]
      exact decide_eq_false (by omega)
    rw [h2, Bool.xor_false]
  rw [BitVec.msb_eq_toInt, BitVec.msb_eq_toInt] at e
  have e' : decide ((n ^^^ nI m).toInt < 0) = decide (n.toInt < 0) := e
  rw [decide_eq_decide] at e'
  rw [i_le, show (0 : Int32).toInt = 0 from rfl]; omega
theorem fm_eq (n : Int32) {m : Nat} (h : 0 < m) (hm : m ≤ 24) : fmo n (nI m) = nI (fm n m) := by
  have h1 := Int.tmod_lt_of_pos n.toInt (b := (m : Int)) (by omega)
  have h2 := Int.lt_tmod_of_pos n.toInt (b := (m : Int)) (by omega)
  have hr : (rmI n (nI m)).toInt = n.toInt.tmod m := tr_rem n h hm
  have hf : fm n m < m := by
    unfold fm
    have h1 := Int.emod_nonneg n.toInt (b := (m : Int)) (by omega)
    have h2 := Int.emod_lt_of_pos n.toInt (b := (m : Int)) (by omega)
    omega
  have hfi : (fm n m : Int) = n.toInt % m := by unfold fm; rw [Int.toNat_of_nonneg (Int.emod_nonneg _ (by omega))]
  refine Int32.toInt_inj.mp ?_
  rw [nI_toInt (by omega), hfi]
  unfold fmo
  by_cases hp : 0 ≤ n.toInt
  · rw [if_pos ((xr_pos n hm).mpr hp), hr, Int.tmod_eq_emod_of_nonneg hp]
  · rw [if_neg (fun z => hp ((xr_pos n hm).mp z))]
    have e1 : n.toInt % m = (n.toInt.tmod m) % m := by rw [Int.tmod_def, Int.sub_eq_add_neg, ← Int.mul_neg, Int.add_mul_emod_self_left]
    have h3 : n.toInt.tmod m ≤ 0 := by
      have : n.toInt.tmod m = -((-n.toInt).tmod m) := by rw [Int.neg_tmod, Int.neg_neg]
      rw [this, Int.tmod_eq_emod_of_nonneg (by omega)]
      have := Int.emod_nonneg (-n.toInt) (b := (m : Int)) (by omega)
      omega
    by_cases hz : rmI n (nI m) = 0
    · rw [if_pos hz, hr, e1]
      rw [hz] at hr
      have hr' : n.toInt.tmod m = 0 := hr.symm
      rw [hr']; rfl
    · have hz2 : n.toInt.tmod m ≠ 0 := fun z => hz (Int32.toInt_inj.mp (hr.trans z))
      rw [if_neg hz, Int32.toInt_add, hr, nI_toInt (by omega), tr_bm (by omega) (by omega), e1, ← Int.add_emod_right, Int.emod_eq_of_lt (by omega) (by omega)]
theorem trn_fm (n : Int32) {m k : Nat} (hk : k < m) : trn n m k = if k + fm n m < m then k + fm n m else k + fm n m - m := by
  have hf := fm_lt n (m := m) (by omega)
  unfold trn
  have e : ((k : Int) + n.toInt) % (m : Int) = ((k : Int) + (fm n m : Int)) % (m : Int) := by
    unfold fm
    rw [Int.toNat_of_nonneg (Int.emod_nonneg _ (by omega)), Int.add_emod_emod]
  rw [e]
  split
  · rw [Int.emod_eq_of_lt (by omega) (by omega)]; omega
  · rw [← Int.sub_emod_right, Int.emod_eq_of_lt (by omega) (by omega)]; omega
theorem trn_inj (n : Int32) {m a b : Nat} (ha : a < m) (hb : b < m) (h : trn n m a = trn n m b) : a = b := by
  have hf := fm_lt n (m := m) (by omega)
  rw [trn_fm n ha, trn_fm n hb] at h
  split at h <;> split at h <;> omega
def trb (n : Int32) (m i : Nat) : Nat := if fm n m ≤ i then i - fm n m else i + m - fm n m
theorem trb_lt (n : Int32) {m i : Nat} (hi : i < m) : trb n m i < m ∧ trn n m (trb n m i) = i := by
  have hf := fm_lt n (m := m) (by omega)
  have h1 : trb n m i < m := by unfold trb; split <;> omega
  refine ⟨h1, ?_⟩
  rw [trn_fm n h1]
  unfold trb
  split <;> split <;> omega
def TRd (P : AS) (t : Nat) (n : Int32) (cl : Nat → CE) (st : Nat → Nat) (k : Nat) : Prop := ∀ i, i < k → ∃ y, cl (st (trn n (P.ln t) i)) = rdC P t i y
theorem TR_s {P : AS} {t : Nat} {n : Int32} {cl : Nat → CE} {st : Nat → Nat} {k : Nat} (hI : HI P cl st) (hm : P.ln t ≤ 24) (hk : k < P.ln t) (h : TRd P t n cl st k) : TRd P t n (va_up cl (st (trn n (P.ln t) k)) (rdC P t k (cl (st (trn n (P.ln t) k))))) st (k + 1) := by
  intro i hi
  by_cases e : i = k
  · subst e; exact ⟨_, va_up_self _ _ _⟩
  · obtain ⟨y, hy⟩ := h i (by omega)
    have t1 := trn_lt n (m := P.ln t) (k := i) (by omega)
    have t2 := trn_lt n (m := P.ln t) (k := k) (by omega)
    exact ⟨y, by rw [va_up_ne _ _ (fun e2 => e (trn_inj n (m := P.ln t) (by omega) (by omega) (hI.2.2 _ _ (by omega) (by omega) e2))), hy]⟩
/-- what stands in row t behind some places put -/
theorem pt_other {P : AS} {t : Nat} {pos : Nat → Nat} {v : Nat → Int64 × UInt64} {a b : Nat} : ∀ {k : Nat}, (∀ i, i < k → ¬ (a = t ∧ b = pos i)) → (ptN P t pos v k).wh a b = P.wh a b ∧ (ptN P t pos v k).re a b = P.re a b
  | 0, _ => ⟨rfl, rfl⟩
  | k + 1, h => by
    obtain ⟨e1, e2⟩ := pt_other (P := P) (v := v) (k := k) (fun i hi => h i (by omega))
    show up2 (ptN P t pos v k).wh t (pos k) _ a b = _ ∧ up2 (ptN P t pos v k).re t (pos k) _ a b = _
    unfold up2
    rw [if_neg (h k (by omega)), if_neg (h k (by omega))]; exact ⟨e1, e2⟩
theorem pt_at {P : AS} {t : Nat} {pos : Nat → Nat} {v : Nat → Int64 × UInt64} {j : Nat} : ∀ {k : Nat}, j < k → (∀ a b, a < k → b < k → pos a = pos b → a = b) → (ptN P t pos v k).wh t (pos j) = (v j).1 ∧ (ptN P t pos v k).re t (pos j) = (v j).2
  | 0, h, _ => absurd h (Nat.not_lt_zero _)
  | k + 1, h, hi => by
    show up2 (ptN P t pos v k).wh t (pos k) _ t (pos j) = _ ∧ up2 (ptN P t pos v k).re t (pos k) _ t (pos j) = _
    unfold up2
    by_cases e : j = k
    · subst e; rw [if_pos ⟨rfl, rfl⟩, if_pos ⟨rfl, rfl⟩]; exact ⟨rfl, rfl⟩
    · rw [if_neg (fun x => e (hi j k h (by omega) x.2)), if_neg (fun x => e (hi j k h (by omega) x.2))]
      exact pt_at (by omega) (fun a b ha hb => hi a b (by omega) (by omega))
theorem pt_same (P : AS) (t : Nat) (pos : Nat → Nat) (v : Nat → Int64 × UInt64) : ∀ k, (ptN P t pos v k).n = P.n ∧ (ptN P t pos v k).kd = P.kd ∧ (ptN P t pos v k).ln = P.ln ∧ (ptN P t pos v k).tg = P.tg ∧ (ptN P t pos v k).co = P.co
  | 0 => ⟨rfl, rfl, rfl, rfl, rfl⟩
  | k + 1 => pt_same P t pos v k
theorem AS_ext {P Q : AS} (h1 : P.n = Q.n) (h2 : P.kd = Q.kd) (h3 : P.ln = Q.ln) (h4 : P.tg = Q.tg) (h5 : ∀ a b, P.wh a b = Q.wh a b) (h6 : ∀ a b, P.re a b = Q.re a b) (h7 : P.co = Q.co) : P = Q := by
  obtain ⟨a1, a2, a3, a4, a5, a6, a7⟩ := P
  obtain ⟨b1, b2, b3, b4, b5, b6, b7⟩ := Q
  have e5 : a5 = b5 := by funext a b; exact h5 a b
  have e6 : a6 = b6 := by funext a b; exact h6 a b
  cases h1; cases h2; cases h3; cases h4; cases h7; rw [e5, e6]
theorem tr_end {P : AS} (hw : WF P) (hz : WZ P) {t : Nat} {n : Int32} {cl : Nat → CE} {st : Nat → Nat} (hk : P.kd t < 12) (h : TRd P t n cl st (P.ln t)) : wgP P t (fun i => i) (fun i => cl (st i)) (P.ln t) = trW P t n (P.ln t) := by
  have hv : ∀ i, i < P.ln t → CVal P t (cl (st i)) ((fun i => (P.wh t (trb n (P.ln t) i), P.re t (trb n (P.ln t) i))) i) := by
    intro i hi
    obtain ⟨b1, b2⟩ := trb_lt n hi
    obtain ⟨y, hy⟩ := h _ b1
    rw [b2] at hy
    rw [hy]
    refine ⟨fun h5 => ⟨rd_w h5, (hz t _).1 (Or.inl h5)⟩, fun h7 => ⟨?_, (hz t _).2 h7⟩, fun h8 => ⟨?_, (hz t _).1 (Or.inr h8)⟩⟩
    · rw [rd_p hz (by omega) (by omega) h7.1, wdn_no (by omega)]
    · obtain ⟨q, hq, hq2⟩ := hw.2.2.2.2 t (trb n (P.ln t) i) h8
      have := hw.2.2.1
      rw [rd_th h8]; show lN (P.wh t (trb n (P.ln t) i)).toNatClampNeg = P.wh t (trb n (P.ln t) i); rw [hq, lN_clamp (by omega)]
  rw [(wg_pt hz (pos := fun i => i) (x := fun i => cl (st i)) hv).1, ← pt_tr]
  obtain ⟨s1, s2, s3, s4, s5⟩ := pt_same P t (fun i => i) (fun i => (P.wh t (trb n (P.ln t) i), P.re t (trb n (P.ln t) i))) (P.ln t)
  obtain ⟨r1, r2, r3, r4, r5⟩ := pt_same P t (fun i => trn n (P.ln t) i) (fun i => (P.wh t i, P.re t i)) (P.ln t)
  have both : ∀ a b, (ptN P t (fun i => i) (fun i => (P.wh t (trb n (P.ln t) i), P.re t (trb n (P.ln t) i))) (P.ln t)).wh a b = (ptN P t (fun i => trn n (P.ln t) i) (fun i => (P.wh t i, P.re t i)) (P.ln t)).wh a b ∧ (ptN P t (fun i => i) (fun i => (P.wh t (trb n (P.ln t) i), P.re t (trb n (P.ln t) i))) (P.ln t)).re a b = (ptN P t (fun i => trn n (P.ln t) i) (fun i => (P.wh t i, P.re t i)) (P.ln t)).re a b := by
    intro a b
    by_cases c : a = t ∧ b < P.ln t
    · obtain ⟨rfl, hb⟩ := c
      obtain ⟨b1, b2⟩ := trb_lt n hb
      obtain ⟨u1, u2⟩ := pt_at (P := P) (t := a) (pos := fun i => i) (v := fun i => (P.wh a (trb n (P.ln a) i), P.re a (trb n (P.ln a) i))) hb (fun x y _ _ e => e)
      obtain ⟨v1, v2⟩ := pt_at (P := P) (t := a) (pos := fun i => trn n (P.ln a) i) (v := fun i => (P.wh a i, P.re a i)) b1 (fun x y hx hy e => trn_inj n hx hy e)
      simp only [b2] at v1 v2
      exact ⟨u1.trans v1.symm, u2.trans v2.symm⟩
    · obtain ⟨u1, u2⟩ := pt_other (P := P) (t := t) (pos := fun i => i) (v := fun i => (P.wh t (trb n (P.ln t) i), P.re t (trb n (P.ln t) i))) (a := a) (b := b) (k := P.ln t) (fun i hi x => c ⟨x.1, by have := x.2; omega⟩)
      obtain ⟨v1, v2⟩ := pt_other (P := P) (t := t) (pos := fun i => trn n (P.ln t) i) (v := fun i => (P.wh t i, P.re t i)) (a := a) (b := b) (k := P.ln t) (fun i hi x => c ⟨x.1, by rw [x.2]; exact trn_lt n hi⟩)
      exact ⟨u1.trans v1.symm, u2.trans v2.symm⟩
  exact AS_ext (s1.trans r1.symm) (s2.trans r2.symm) (s3.trans r3.symm) (s4.trans r4.symm) (fun a b => (both a b).1) (fun a b => (both a b).2) (s5.trans r5.symm)
theorem rf2 {P : AS} {c d : Int32} {X : Int32 × AS × Int32} (h : ¬ (rsA P c = 0 ∧ rsA P d = 0)) : (if isC c = true ∧ isC d = true then (if rsRows P (cN c) (cN d) (cN d) = 0 then X else rf P (rsRows P (cN c) (cN d) (cN d))) else rf P 1) = (0, P, nI (earl (rsA P c) (rsA P d))) := by
  rcases rs2_n h with ⟨a1, a2⟩ | ⟨a1, a2, a3⟩
  · rw [if_neg a1, a2]; rfl
  · rw [if_pos a1, a2, if_neg a3]; rfl
theorem rf3 {P : AS} {c d e : Int32} {X : Int32 × AS × Int32} (h : ¬ (rsA P c = 0 ∧ rsA P d = 0 ∧ rsA P e = 0)) : (if isC c = true ∧ isC d = true ∧ isC e = true then (if rsRows P (cN c) (cN d) (cN e) = 0 then X else rf P (rsRows P (cN c) (cN d) (cN e))) else rf P 1) = (0, P, nI (earl (rsA P c) (earl (rsA P d) (rsA P e)))) := by
  rcases rs3_n h with ⟨a1, a2⟩ | ⟨a1, a2, a3⟩
  · rw [if_neg a1, a2]; rfl
  · rw [if_pos a1, a2, if_neg a3]; rfl
