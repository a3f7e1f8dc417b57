/-! refusals, and what a cell is worth in a row -/
theorem rs_n {P : AS} {c : Int32} : (isC c = false ∧ rsA P c = 1) ∨ (isC c = true ∧ rsRow P (cN c) = rsA P c) := by
  cases h : isC c
  · exact Or.inl ⟨rfl, rsA_c h⟩
  · refine Or.inr ⟨rfl, ?_⟩; unfold rsA; rw [if_pos h]
theorem cs_n {P : AS} {c : Int32} (h0 : ¬ csA P c = 0) : (isC c = false ∧ csA P c = 1) ∨ (isC c = true ∧ isCd P (cN c) = false ∧ csA P c = 5) := by
  cases h : isC c
  · exact Or.inl ⟨rfl, csA_c h⟩
  · refine Or.inr ⟨rfl, ?_⟩
    unfold csA at h0 ⊢
    rw [if_pos h] at h0 ⊢
    cases h2 : isCd P (cN c)
    · exact ⟨rfl, rfl⟩
    · rw [h2, if_pos rfl] at h0; exact absurd rfl h0
theorem earl_0 {a b : Nat} : earl a b = 0 ↔ a = 0 ∧ b = 0 := by unfold earl; split <;> (try split) <;> (try split) <;> omega
theorem rs2_n {P : AS} {c d : Int32} (h : ¬ (rsA P c = 0 ∧ rsA P d = 0)) : (¬ (isC c = true ∧ isC d = true) ∧ earl (rsA P c) (rsA P d) = 1) ∨ ((isC c = true ∧ isC d = true) ∧ rsRows P (cN c) (cN d) (cN d) = earl (rsA P c) (rsA P d) ∧ ¬ earl (rsA P c) (rsA P d) = 0) := by
  have e := earl_2 (P := P) (c := c) (d := d)
  by_cases hc : isC c = true ∧ isC d = true
  · rw [if_pos hc] at e; exact Or.inr ⟨hc, e.symm, fun x => h (earl_0.mp x)⟩
  · rw [if_neg hc] at e; exact Or.inl ⟨hc, e⟩
theorem earl_1 {b : Nat} : earl 1 b = 1 := by unfold earl; rw [if_neg (by decide)]; split <;> (try split) <;> omega
theorem earl_1r {a : Nat} : earl a 1 = 1 := by unfold earl; split <;> (try split) <;> (try split) <;> omega
theorem earl_3 {P : AS} {c d e : Int32} : earl (rsA P c) (earl (rsA P d) (rsA P e)) = if isC c = true ∧ isC d = true ∧ isC e = true then rsRows P (cN c) (cN d) (cN e) else 1 := by
  have hcl := rsA_le P c
  have hdl := rsA_le P d
  have hel := rsA_le P e
  cases hc : isC c
  · rw [rsA_c hc, earl_1, if_neg (by simp)]
  · cases hd : isC d
    · rw [rsA_c hd, earl_1, earl_1r, if_neg (by simp)]
    · cases he : isC e
      · rw [rsA_c he, earl_1r, earl_1r, if_neg (by simp)]
      · obtain ⟨j, hj, rfl⟩ := isC_ex hc
        obtain ⟨k, hk, rfl⟩ := isC_ex hd
        obtain ⟨u, hu, rfl⟩ := isC_ex he
        rw [rsA_j hj, rsA_j hk, rsA_j hu, cN_c hj, cN_c hk, cN_c hu]
        simp only [and_self, if_true]
        unfold earl rsRow rsRows
        by_cases h1 : P.co j = 0 <;> by_cases h2 : P.co k = 0 <;> by_cases h3 : P.co u = 0 <;> by_cases h4 : P.kd (P.co j - 1) < 12 <;> by_cases h5 : P.kd (P.co k - 1) < 12 <;> by_cases h6 : P.kd (P.co u - 1) < 12 <;> simp [h1, h2, h3, h4, h5, h6]
theorem rs3_n {P : AS} {c d e : Int32} (h : ¬ (rsA P c = 0 ∧ rsA P d = 0 ∧ rsA P e = 0)) : (¬ (isC c = true ∧ isC d = true ∧ isC e = true) ∧ earl (rsA P c) (earl (rsA P d) (rsA P e)) = 1) ∨ ((isC c = true ∧ isC d = true ∧ isC e = true) ∧ rsRows P (cN c) (cN d) (cN e) = earl (rsA P c) (earl (rsA P d) (rsA P e)) ∧ ¬ earl (rsA P c) (earl (rsA P d) (rsA P e)) = 0) := by
  have e1 := earl_3 (P := P) (c := c) (d := d) (e := e)
  by_cases hc : isC c = true ∧ isC d = true ∧ isC e = true
  · rw [if_pos hc] at e1; exact Or.inr ⟨hc, e1.symm, fun x => h (by rw [earl_0, earl_0] at x; exact x)⟩
  · rw [if_neg hc] at e1; exact Or.inl ⟨hc, e1⟩
theorem rs_2ok {P : AS} {j k : Nat} (h1 : rsRow P j = 0) (h2 : rsRow P k = 0) : rsRows P j k k = 0 := by
  obtain ⟨a, ha, ha2⟩ := rsRow_0 h1
  obtain ⟨b, hb, hb2⟩ := rsRow_0 h2
  unfold rsRows; rw [ha, hb, if_neg (by omega)]; rw [if_pos ⟨ha2, hb2, hb2⟩]
theorem rs_3ok {P : AS} {j k u : Nat} (h1 : rsRow P j = 0) (h2 : rsRow P k = 0) (h3 : rsRow P u = 0) : rsRows P j k u = 0 := by
  obtain ⟨a, ha, ha2⟩ := rsRow_0 h1
  obtain ⟨b, hb, hb2⟩ := rsRow_0 h2
  obtain ⟨c, hc, hc2⟩ := rsRow_0 h3
  unfold rsRows; rw [ha, hb, hc, if_neg (by omega)]; rw [if_pos ⟨ha2, hb2, hc2⟩]
theorem HI_c {P : AS} {cl : Nat → CE} {st : Nat → Nat} {j : Nat} (h : HI P cl st) (hj : j < 26) : cOK P (cl j) := h.1 j hj
theorem HI_n {P P' : AS} {cl : Nat → CE} {st : Nat → Nat} (h : HI P cl st) (e : P'.n = P.n) : HI P' cl st := ⟨fun j hj => ⟨(h.1 j hj).1, by rw [e]; exact (h.1 j hj).2⟩, h.2⟩
theorem HI_sm {P : AS} (hw : WF P) {f t j : Nat} {i u : Int32} {cl : Nat → CE} {st : Nat → Nat} (h : HI P cl st) (hj : j < 26) (hk : P.kd f < 12) : HI P (smL P f t i u cl j) st := by
  unfold smL; split
  · exact HI_up h (cOK_rd hw (h.1 j hj) hk)
  · exact h
def CVal (P : AS) (t : Nat) (x : CE) (v : Int64 × UInt64) : Prop := (P.kd t ≤ 5 → x.2.1 = v.1 ∧ v.2 = 0) ∧ ((6 ≤ P.kd t ∧ P.kd t ≤ 7) → cP x (P.kd t) = v.2 ∧ v.1 = 0) ∧ (8 ≤ P.kd t → lN x.2.2.2 = v.1 ∧ v.2 = 0)
theorem up2_id {α : Type} {f : Nat → Nat → α} {t i : Nat} {v : α} (h : f t i = v) : up2 f t i v = f := by
  funext a b; unfold up2
  by_cases e : a = t ∧ b = i
  · rw [if_pos e, e.1, e.2, h]
  · rw [if_neg e]
theorem wr_put {Q : AS} (hz : WZ Q) {t i : Nat} {x : CE} {v : Int64 × UInt64} (h : CVal Q t x v) : wrP Q t i x = Q.put t i v := by
  rcases (by omega : Q.kd t ≤ 5 ∨ (6 ≤ Q.kd t ∧ Q.kd t ≤ 7) ∨ 8 ≤ Q.kd t) with h5 | h7 | h8
  · rw [wrP_6 h5]; unfold AS.put; obtain ⟨e1, e2⟩ := h.1 h5
    show Q.setW t i x.2.1 = (Q.n, Q.kd, Q.ln, Q.tg, up2 Q.wh t i v.1, up2 Q.re t i v.2, Q.co)
    rw [e1, e2, up2_id ((hz t i).1 (Or.inl h5))]
  · rw [wrP_2 h7]; unfold AS.put; obtain ⟨e1, e2⟩ := h.2.1 h7
    show Q.setR t i _ = (Q.n, Q.kd, Q.ln, Q.tg, up2 Q.wh t i v.1, up2 Q.re t i v.2, Q.co)
    rw [e1, e2, up2_id ((hz t i).2 h7)]
  · have e0 : wrP Q t i x = Q.setW t i (lN x.2.2.2) := by unfold wrP wrW wrR; rw [if_neg (by omega), if_neg (by omega), if_neg (by omega), if_neg (by omega)]
    rw [e0]; unfold AS.put; obtain ⟨e1, e2⟩ := h.2.2 h8
    show Q.setW t i _ = (Q.n, Q.kd, Q.ln, Q.tg, up2 Q.wh t i v.1, up2 Q.re t i v.2, Q.co)
    rw [e1, e2, up2_id ((hz t i).1 (Or.inr h8))]
theorem WZ_put {Q : AS} (hz : WZ Q) {t i : Nat} {v : Int64 × UInt64} (h1 : (Q.kd t ≤ 5 ∨ 8 ≤ Q.kd t) → v.2 = 0) (h2 : (6 ≤ Q.kd t ∧ Q.kd t ≤ 7) → v.1 = 0) : WZ (Q.put t i v) := by
  intro a b
  have h := hz a b
  by_cases e : a = t ∧ b = i
  · refine ⟨fun hk => ?_, fun hk => ?_⟩
    · show up2 Q.re t i v.2 a b = 0
      unfold up2; rw [if_pos e]; exact h1 (by rw [← e.1]; exact hk)
    · show up2 Q.wh t i v.1 a b = 0
      unfold up2; rw [if_pos e]; exact h2 (by rw [← e.1]; exact hk)
  · refine ⟨fun hk => ?_, fun hk => ?_⟩
    · show up2 Q.re t i v.2 a b = 0
      unfold up2; rw [if_neg e]; exact h.1 hk
    · show up2 Q.wh t i v.1 a b = 0
      unfold up2; rw [if_neg e]; exact h.2 hk
theorem WZ_cv {Q : AS} (hz : WZ Q) {t i : Nat} {x : CE} {v : Int64 × UInt64} (h : CVal Q t x v) : WZ (Q.put t i v) :=
  WZ_put hz (fun hk => hk.elim (fun a => (h.1 a).2) (fun a => (h.2.2 a).2)) (fun hk => (h.2.1 hk).2)
theorem goes_6 {a b : Nat} (ha : a < 8) (hb : b < 8) (h : goes a b = true) : a ≤ b ∧ (6 ≤ a → 6 ≤ b) := by
  rw [goes_tab a ha b hb] at h
  simp only [Bool.or_eq_true, Bool.and_eq_true, decide_eq_true_eq] at h
  omega
theorem told_z {k : Nat} (a b : Int32) : (k ≤ 5 → (told k a b).2 = 0) ∧ (6 ≤ k → (told k a b).1 = 0) := by
  unfold told
  refine ⟨fun h => ?_, fun h => ?_⟩
  · split <;> (try rfl) <;> split <;> (try rfl) <;> split <;> (try rfl) <;> split <;> (try rfl) <;> split <;> (try rfl) <;> split <;> (try rfl) <;> split <;> omega
  · rw [if_neg (by omega), if_neg (by omega), if_neg (by omega), if_neg (by omega), if_neg (by omega), if_neg (by omega)]; split <;> rfl
theorem td_val {P : AS} {t k : Nat} {a b : Int32} {x : CE} (hk : k < 8) (ht : P.kd t < 8) (hg : goes k (P.kd t) = true) : CVal P t (tdC k a b x) (wdn k (P.kd t) (told k a b).1 (told k a b).2) := by
  have g6 := (goes_6 hk ht hg).2
  obtain ⟨z1, z2⟩ := told_z (k := k) a b
  refine ⟨fun h => ?_, fun h => ?_, fun h => by omega⟩
  · have k5 : k ≤ 5 := by omega
    rw [wdn_no (by omega)]; unfold tdC; rw [if_pos k5]; exact ⟨rfl, z1 k5⟩
  · by_cases k5 : k ≤ 5
    · unfold tdC cP; rw [if_pos k5, if_pos (cW_y k5 _)]
      unfold wdn; rw [if_pos (show 6 ≤ P.kd t ∧ k ≤ 5 from ⟨h.1, k5⟩)]; exact ⟨rfl, rfl⟩
    · rw [wdn_no (by omega)]; unfold tdC cP; rw [if_neg k5, cW_n (by omega) hk]; exact ⟨rfl, z2 (by omega)⟩
theorem rd_val {P : AS} (hw : WF P) (hz : WZ P) {f t i : Nat} {x : CE} (hf : P.kd f < 12) (hg : goesI P (P.kd f) (P.wh f i) t = true) : CVal P t (rdC P f i x) (mvV P f t i) := by
  unfold mvV
  by_cases f8 : P.kd f < 8
  · rw [if_pos f8]
    obtain ⟨t8, g⟩ := goesI_k f8 hg
    have g6 := (goes_6 f8 t8 g).2
    refine ⟨fun h => ?_, fun h => ?_, fun h => by omega⟩
    · rw [wdn_no (by omega)]; unfold rdC; rw [if_pos (by omega)]; exact ⟨rfl, (hz f i).1 (Or.inl (by omega))⟩
    · by_cases k5 : P.kd f ≤ 5
      · unfold rdC cP; rw [if_pos k5, if_pos (cW_y k5 _)]
        unfold wdn; rw [if_pos (show 6 ≤ P.kd t ∧ P.kd f ≤ 5 from ⟨h.1, k5⟩)]; exact ⟨rfl, rfl⟩
      · rw [wdn_no (by omega)]; unfold rdC cP; rw [if_neg k5, if_pos (show P.kd f ≤ 7 by omega), cW_n (by omega) f8]; exact ⟨rfl, (hz f i).2 (by omega)⟩
  · rw [if_neg f8]
    have t8 : ¬ P.kd t < 8 := fun h => by rw [goesI_ne (by omega)] at hg; cases hg
    refine ⟨fun h => by omega, fun h => by omega, fun h => ?_⟩
    obtain ⟨q, hq, hq2⟩ := hw.2.2.2.2 f i (by omega)
    have hn := hw.2.2.1
    unfold rdC; rw [if_neg (by omega), if_neg (by omega)]
    exact ⟨by show lN (P.wh f i).toNatClampNeg = P.wh f i; rw [hq, lN_clamp (by omega)], (hz f i).1 (Or.inr (by omega))⟩
theorem tk_rd {P : AS} (hw : WF P) {f t i : Nat} {x : CE} : tkC P t (rdC P f i x) = goesI P (P.kd f) (P.wh f i) t := by
  have hn := hw.2.2.1
  rcases rd_k (P := P) f i x with ⟨h, e1⟩ | ⟨h, e1⟩ | ⟨h, e1⟩
  · rw [e1, tkC_v (cV_n (by omega) _)]
    show (decide (P.kd t < 8) && goes (cN (nI (P.kd f))) (P.kd t)) = _
    rw [cN_nI (by omega)]
    by_cases t8 : P.kd t < 8
    · rw [goesI_v (by omega) t8, decide_eq_true t8, Bool.true_and]
    · rw [goesI_ne (by omega), decide_eq_false t8, Bool.false_and]
  · rw [e1, tkC_v (cV_n (by omega) _)]
    show (decide (P.kd t < 8) && goes (cN (nI (P.kd f))) (P.kd t)) = _
    rw [cN_nI (by omega)]
    by_cases t8 : P.kd t < 8
    · rw [goesI_v (by omega) t8, decide_eq_true t8, Bool.true_and]
    · rw [goesI_ne (by omega), decide_eq_false t8, Bool.false_and]
  · rw [e1, tkC_t (cV_m _)]
    obtain ⟨q, hq, hq2⟩ := hw.2.2.2.2 f i h
    show (!decide (P.kd t < 8) && fitP P t (P.wh f i).toNatClampNeg) = _
    rw [hq, lN_clamp (by omega)]
    by_cases t8 : P.kd t < 8
    · rw [goesI_ne (by omega), decide_eq_true t8]; rfl
    · rw [goesI_t (by omega) t8 (by omega), decide_eq_false t8]; rfl
/-- one place after the other gets its value -/
def ptN (P : AS) (t : Nat) (pos : Nat → Nat) (v : Nat → Int64 × UInt64) : Nat → AS
  | 0 => P
  | k + 1 => (ptN P t pos v k).put t (pos k) (v k)
theorem ptN_kd (P : AS) (t : Nat) (pos : Nat → Nat) (v : Nat → Int64 × UInt64) : ∀ k, (ptN P t pos v k).kd = P.kd
  | 0 => rfl
  | k + 1 => ptN_kd P t pos v k
theorem wg_pt {P : AS} (hz : WZ P) {t : Nat} {pos : Nat → Nat} {x : Nat → CE} {v : Nat → Int64 × UInt64} : ∀ {k : Nat}, (∀ i, i < k → CVal P t (x i) (v i)) → wgP P t pos x k = ptN P t pos v k ∧ WZ (ptN P t pos v k)
  | 0, _ => ⟨rfl, hz⟩
  | k + 1, h => by
    obtain ⟨e1, e2⟩ := wg_pt hz (t := t) (pos := pos) (k := k) (fun i hi => h i (by omega))
    have hk : CVal (ptN P t pos v k) t (x k) (v k) := by unfold CVal; rw [ptN_kd]; exact h k (by omega)
    refine ⟨?_, WZ_cv e2 hk⟩
    rw [← wg_s, e1, wr_put e2 hk]; rfl
theorem pt_mv {P : AS} {f t : Nat} {fr tt : Nat → Int32} : ∀ {k : Nat}, ptN P t (fun i => cN (tt i)) (fun i => mvV P f t (cN (fr i))) k = mvW P f t fr tt k
  | 0 => rfl
  | k + 1 => by show (ptN _ _ _ _ k).put _ _ _ = (mvW _ _ _ _ _ k).put _ _ _; rw [pt_mv]
theorem pt_tr {P : AS} {t : Nat} {n : Int32} : ∀ {k : Nat}, ptN P t (fun i => trn n (P.ln t) i) (fun i => (P.wh t i, P.re t i)) k = trW P t n k
  | 0 => rfl
  | k + 1 => by show (ptN _ _ _ _ k).put _ _ _ = (trW _ _ _ k).put _ _ _; rw [pt_tr]
theorem pt_mg {P : AS} {x y t : Nat} : ∀ {k : Nat}, ptN P t (fun i => i) (fun i => wdn (mgS P x y i) (P.kd t) (mgV P x y i).1 (mgV P x y i).2) k = mgW P x y t k
  | 0 => rfl
  | k + 1 => by show (ptN _ _ _ _ k).put _ _ _ = (mgW _ _ _ _ k).put _ _ _; rw [pt_mg]
theorem plO_n (P : AS) (t : Nat) (i : Int32) (x : CE) (ans : Int32) : (plO P t i x ans).2.1.n = P.n := by unfold plO; split <;> (try split) <;> rfl
theorem put_eq {P : AS} (hz : WZ P) {j t k : Nat} {i a b : Int32} {x : CE} (hj : j < 12) (h1 : P.co j = t + 1) (hr1 : rsRow P j = 0) (hk : k ≤ 7) : sp_put P (nI j) i (nI k) a b = plO P t i (tdC k a b x) 1 := by
  have hV : cV (tdC k a b x) = true := by unfold tdC; split <;> exact cV_n (by omega) _
  have hcs : cN (tdC k a b x).1 = k := by unfold tdC; split <;> exact cN_nI (by omega)
  have hT : tkC P t (tdC k a b x) = (decide (P.kd t < 8) && goes k (P.kd t)) := by rw [tkC_v hV, hcs]
  unfold sp_put plO
  rw [cN_c hj, cN_nI (show k < 2 ^ 31 by omega), h1, if_pos ⟨isC_nI hj, inR_nI (n := 7) (by decide) hk⟩, hT]
  have hpl : rsPl P j i = if hasP P t i = true then 0 else 4 := by unfold rsPl; rw [if_pos hr1, h1]; rfl
  rw [Nat.add_sub_cancel]
  by_cases hp : hasP P t i = true
  · rw [if_pos hp] at hpl; rw [hpl, if_pos hp, if_pos rfl]
    by_cases hg : P.kd t < 8 ∧ goes k (P.kd t) = true
    · rw [if_pos hg, if_pos (by rw [decide_eq_true hg.1, hg.2]; rfl), wr_put hz (td_val (by omega) hg.1 hg.2)]
    · rw [if_neg hg, if_neg (by intro h; rw [Bool.and_eq_true, decide_eq_true_eq] at h; exact hg h)]
  · rw [if_neg hp] at hpl; rw [hpl, if_neg hp, if_neg (by decide)]
theorem putThing_eq {P : AS} (hz : WZ P) {j t d : Nat} {i : Int32} {w : Int64} {r : UInt64} (hj : j < 12) (hd : d < 12) (h1 : P.co j = t + 1) (hr1 : rsRow P j = 0) : sp_putThing P (nI j) i (nI d) = plO P t i (-1, w, r, P.co d) (if P.co d = 0 then 0 else 1) := by
  have hT : tkC P t (-1, w, r, P.co d) = (!decide (P.kd t < 8) && fitP P t (P.co d)) := tkC_t (cV_m _)
  unfold sp_putThing plO
  rw [cN_c hj, cN_c hd, h1, if_pos ⟨isC_nI hj, isC_nI hd⟩, hT]
  have hpl : rsPl P j i = if hasP P t i = true then 0 else 4 := by unfold rsPl; rw [if_pos hr1, h1]; rfl
  rw [Nat.add_sub_cancel]
  by_cases hp : hasP P t i = true
  · rw [if_pos hp] at hpl; rw [hpl, if_pos hp, if_pos rfl]
    by_cases hg : 8 ≤ P.kd t ∧ fitP P t (P.co d) = true
    · rw [if_pos hg, if_pos (show (!decide (P.kd t < 8) && fitP P t (P.co d)) = true by rw [decide_eq_false (by omega), hg.2]; rfl)]
      have e0 : wrP P t (cN i) (-1, w, r, P.co d) = P.setW t (cN i) (lN (P.co d)) := by unfold wrP wrW wrR; rw [if_neg (by omega), if_neg (by omega), if_neg (by omega), if_neg (by omega)]
      rw [e0]
    · rw [if_neg hg, if_neg (by intro h; rw [Bool.and_eq_true, Bool.not_eq_true', decide_eq_false_iff_not] at h; exact hg ⟨by omega, h.2⟩)]
  · rw [if_neg hp] at hpl; rw [hpl, if_neg hp, if_neg (by decide)]
