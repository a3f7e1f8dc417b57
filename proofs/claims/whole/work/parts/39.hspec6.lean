theorem hasP_lt {P : AS} {t k : Nat} (h : hasP P t (nI k) = true) (hk : k < 2 ^ 31) : k < P.ln t := by
  unfold hasP at h; rw [nI_toInt hk, decide_eq_true_eq] at h; omega
theorem hasP_nf {P : AS} {t k : Nat} (h : hasP P t (nI k) = false) (hk : k < 2 ^ 31) : ¬ k < P.ln t := by
  unfold hasP at h; rw [nI_toInt hk, decide_eq_false_iff_not] at h; omega
theorem rd_cV {P : AS} {t i : Nat} {y : CE} : cV (rdC P t i y) = decide (P.kd t < 8) := by
  rcases rd_k (P := P) t i y with ⟨h, e⟩ | ⟨h, e⟩ | ⟨h, e⟩
  · rw [e, cV_n (by omega), decide_eq_true (by omega)]
  · rw [e, cV_n (by omega), decide_eq_true (by omega)]
  · rw [e, cV_m, decide_eq_false (by omega)]
theorem rd_so {P : AS} {t i : Nat} {y : CE} (h : P.kd t < 8) : (rdC P t i y).1 = nI (P.kd t) := by
  rcases rd_k (P := P) t i y with ⟨h, e⟩ | ⟨h, e⟩ | ⟨h, e⟩
  · rw [e]
  · rw [e]
  · omega
theorem rd_w {P : AS} {t i : Nat} {y : CE} (h : P.kd t ≤ 5) : (rdC P t i y).2.1 = P.wh t i := by unfold rdC; rw [if_pos h]
theorem rd_th {P : AS} {t i : Nat} {y : CE} (h : 8 ≤ P.kd t) : (rdC P t i y).2.2.2 = (P.wh t i).toNatClampNeg := by unfold rdC; rw [if_neg (by omega), if_neg (by omega)]
theorem wh_q {P : AS} (hw : WF P) {t i : Nat} (h : 8 ≤ P.kd t) : (P.wh t i).toNatClampNeg ≤ P.n := by
  obtain ⟨q, hq, hq2⟩ := hw.2.2.2.2 t i h
  have := hw.2.2.1
  rw [hq, lN_clamp (by omega)]; exact hq2
theorem rd_p {P : AS} (hz : WZ P) {t i k : Nat} {y : CE} (ht : P.kd t < 8) (hk : k < 8) (hk6 : 6 ≤ k) : cP (rdC P t i y) k = (wdn (P.kd t) k (P.wh t i) (P.re t i)).2 := by
  rcases rd_k (P := P) t i y with ⟨h, e⟩ | ⟨h, e⟩ | ⟨h, e⟩
  · rw [e]; unfold cP wdn; rw [if_pos (cW_y h _), if_pos (show 6 ≤ k ∧ P.kd t ≤ 5 from ⟨hk6, h⟩)]
  · rw [e, wdn_no (by omega)]; unfold cP; rw [cW_n h.1 (by omega)]; rfl
  · omega
def raV (P : AS) (c i : Int32) (k : Nat) : Nat := if isC c = true then rsVal P (cN c) i k else 1
/-- the end of readOneAs -/
def roP (cy : Nat → ClassId) (ad : Nat → Nat) (P : AS) (c i : Int32) (k : Nat) (st : Nat → Nat) (tg : Nat → Int32) : Option Value → (Nat → Option va_E) → Prop := fun v c' => v = some (.int (b2i (decide (raV P c i k = 0)))) ∧ ∃ cl : Nat → CE, c' = hct cy ad P (nI (raV P c i k)) cl st tg ∧ HI P cl st ∧ (raV P c i k = 0 → ∃ y, cl 24 = rdC P (P.co (cN c) - 1) (cN i) y)
theorem roP.mk {cy : Nat → ClassId} {ad : Nat → Nat} {P : AS} {c i : Int32} {k : Nat} {st : Nat → Nat} {tg : Nat → Int32} {v : Int32} {wy : Int32} {cl : Nat → CE} (h1 : v = b2i (decide (raV P c i k = 0))) (h2 : wy = nI (raV P c i k)) (h3 : HI P cl st) (h4 : raV P c i k = 0 → ∃ y, cl 24 = rdC P (P.co (cN c) - 1) (cN i) y) : roP cy ad P c i k st tg (some (.int v)) (hct cy ad P wy cl st tg) := by
  subst h1; subst h2; exact ⟨rfl, cl, rfl, h3, h4⟩
theorem raV_n {P : AS} {c i : Int32} {k : Nat} (h : ¬ rsA P c = 0) : raV P c i k = rsA P c := by
  unfold raV rsA at *
  by_cases hc : isC c = true
  · rw [if_pos hc] at h ⊢; rw [if_pos hc]; unfold rsVal rsPl; rw [if_neg h, if_neg h]
  · rw [if_neg hc] at h ⊢; rw [if_neg hc]
theorem raV_j {P : AS} {j t k : Nat} {i : Int32} (hj : j < 12) (h1 : P.co j = t + 1) (hq : rsRow P j = 0) : raV P (nI j) i k = if hasP P t i = true then (if (decide (P.kd t < 8) && goes (P.kd t) k) = true then 0 else 5) else 4 := by
  unfold raV; rw [if_pos (isC_nI hj), cN_c hj]
  have hp : rsPl P j i = if hasP P t i = true then 0 else 4 := by unfold rsPl; rw [if_pos hq, h1]; rfl
  unfold rsVal; rw [h1, Nat.add_sub_cancel]
  by_cases h : hasP P t i = true
  · rw [if_pos h] at hp; rw [hp, if_pos rfl, if_pos h]
    by_cases g : P.kd t < 8 ∧ goes (P.kd t) k = true
    · rw [if_pos g, if_pos (by rw [decide_eq_true g.1, g.2]; rfl)]
    · rw [if_neg g, if_neg (by intro x; rw [Bool.and_eq_true, decide_eq_true_eq] at x; exact g x)]
  · rw [if_neg h] at hp; rw [hp, if_neg (by decide), if_neg h]
theorem num_ok {P : AS} {c i : Int32} {k : Nat} {x : CE} (hk : k ≤ 5) (h : raV P c i k = 0) (hx : ∃ y, x = rdC P (P.co (cN c) - 1) (cN i) y) : sp_number P c i (nI k) = (x.2.1, P, nI (raV P c i k)) := by
  obtain ⟨y, rfl⟩ := hx
  rw [h]
  unfold raV at h
  by_cases hc : isC c = true
  · rw [if_pos hc] at h
    unfold sp_number
    rw [cN_nI (show k < 2 ^ 31 by omega), if_pos ⟨hc, inR_nI (n := 5) (by decide) hk⟩, if_pos h]
    unfold rsVal at h
    split at h
    · split at h
      · rename_i hg
        have g6 := (goes_6 hg.1 (by omega) hg.2).1
        unfold valAs; rw [wdn_no (by omega), rd_w (by omega)]; rfl
      · omega
    · omega
  · rw [if_neg hc] at h; omega
theorem num_no {P : AS} {c i : Int32} {k : Nat} (hk : k ≤ 5) (h : ¬ raV P c i k = 0) : sp_number P c i (nI k) = (0, P, nI (raV P c i k)) := by
  unfold sp_number raV at *
  rw [cN_nI (show k < 2 ^ 31 by omega)]
  have hi : inR (nI k) 0 5 = true := inR_nI (n := 5) (by decide) hk
  by_cases hc : isC c = true
  · rw [if_pos hc] at h ⊢; rw [if_pos ⟨hc, hi⟩, if_neg h]
  · rw [if_neg hc] at h ⊢; rw [if_neg (fun x => hc x.1)]; rfl
theorem inR_67y {k : Nat} (h6 : 6 ≤ k) (hk : k ≤ 7) : inR (nI k) 6 7 = true := (inR_k (k := k) (a := 6) (b := 7) (by omega) (by decide) (by decide)).mpr ⟨h6, hk⟩
theorem inR67_f {s : Int32} (h : ¬ s = 6) (h2 : ¬ s = 7) : inR s 6 7 = false := by
  cases e : inR s 6 7
  · rfl
  · obtain ⟨j, h3, h4, rfl⟩ := inR_67 e
    rcases (by omega : j = 6 ∨ j = 7) with rfl | rfl
    · exact absurd rfl h
    · exact absurd rfl h2
theorem pnt_ok {P : AS} (hz : WZ P) {c i : Int32} {k : Nat} {x : CE} (h6 : 6 ≤ k) (hk : k ≤ 7) (h : raV P c i k = 0) (hx : ∃ y, x = rdC P (P.co (cN c) - 1) (cN i) y) : sp_point P c i (nI k) = (cP x k, P, nI (raV P c i k)) := by
  obtain ⟨y, rfl⟩ := hx
  rw [h]
  unfold raV at h
  by_cases hc : isC c = true
  · rw [if_pos hc] at h
    unfold sp_point
    rw [cN_nI (show k < 2 ^ 31 by omega), if_pos ⟨hc, inR_67y h6 hk⟩, if_pos h]
    unfold rsVal at h
    split at h
    · split at h
      · rename_i hg
        rw [rd_p hz hg.1 (by omega) h6]; rfl
      · omega
    · omega
  · rw [if_neg hc] at h; omega
theorem pnt_no {P : AS} {c i : Int32} {k : Nat} (h6 : 6 ≤ k) (hk : k ≤ 7) (h : ¬ raV P c i k = 0) : sp_point P c i (nI k) = (0, P, nI (raV P c i k)) := by
  unfold sp_point raV at *
  rw [cN_nI (show k < 2 ^ 31 by omega)]
  have hi : inR (nI k) 6 7 = true := inR_67y h6 hk
  by_cases hc : isC c = true
  · rw [if_pos hc] at h ⊢; rw [if_pos ⟨hc, hi⟩, if_neg h]
  · rw [if_neg hc] at h ⊢; rw [if_neg (fun x => hc x.1)]; rfl
/-! floating comparisons, as far as they are needed -/
theorem fp_eq {x y : UInt64} (h : vf_n64 x) (h2 : vf_n64 y) : (cmpD x y = 0 ↔ deq x y = true) ∧ deq x y = deq y x := by
  obtain ⟨o, ho⟩ := FP.Core.dcmp_of_notNaN (nf64.mp h) (nf64.mp h2)
  have ho' : FP.dcmp x y = some o := ho
  have hs : FP.dcmp y x = some o.swap := by rw [show FP.dcmp y x = (FP.dcmp x y).map Ordering.swap from FP.Core.dcmp_swap x y, ho']; rfl
  unfold cmpD deq
  rw [hs, ho']
  cases o <;> decide
theorem n64_0 : vf_n64 0 := by unfold vf_n64; decide
theorem told_n (k : Nat) (a b : Int32) : vf_n64 (told k a b).2 := by
  unfold told
  split
  · exact n64_0
  · split
    · exact n64_0
    · split
      · exact n64_0
      · split
        · exact n64_0
        · split
          · exact n64_0
          · split
            · exact n64_0
            · split
              · exact fpn_f2d _
              · exact fpn_dd _
theorem dbl_n {k : Nat} {w : Int64} {r : UInt64} (h : vf_n64 r) : vf_n64 (dbl k w r) := by unfold dbl; split; exact fpn_ld _; exact h
/-- a cell of sort k that has the whole w or the real r -/
def isV (x : CE) (k : Nat) (w : Int64) (r : UInt64) : Prop := x.1 = nI k ∧ (k ≤ 5 → x.2.1 = w) ∧ (6 ≤ k → x.2.2.1 = r)
theorem isV_rd {P : AS} {t i : Nat} {y : CE} (h : P.kd t < 8) : isV (rdC P t i y) (P.kd t) (P.wh t i) (P.re t i) := by
  refine ⟨rd_so h, fun h5 => rd_w h5, fun h6 => ?_⟩
  unfold rdC; rw [if_neg (by omega), if_pos (by omega)]
theorem isV_td {k : Nat} {a b : Int32} {y : CE} : isV (tdC k a b y) k (told k a b).1 (told k a b).2 := by
  unfold tdC
  refine ⟨by split <;> rfl, fun h => by rw [if_pos h], fun h => by rw [if_neg (by omega)]⟩
theorem nI_k0 {k : Nat} (h : k < 8) : nI k = 0 ↔ k = 0 := nI_eq (b := 0) (by omega) (by decide)
theorem isV_lk {x y : CE} {k k' : Nat} {w w' : Int64} {r r' : UInt64} (hx : isV x k w r) (hy : isV y k' w' r') (hk : k < 8) (hk' : k' < 8) (hr : vf_n64 r) (hr' : vf_n64 r') : cLk x y = decide (agn k w r k' w' r' = 0) := by
  obtain ⟨x1, x2, x3⟩ := hx
  obtain ⟨y1, y2, y3⟩ := hy
  have vx : cV x = true := by have := cV_n hk x.2; rw [← x1] at this; exact this
  have vy : cV y = true := by have := cV_n hk' y.2; rw [← y1] at this; exact this
  have wx : cW x = decide (k ≤ 5) := by
    by_cases h : k ≤ 5
    · have := cW_y h x.2; rw [← x1] at this; rw [decide_eq_true h]; exact this
    · have := cW_n (by omega) hk x.2; rw [← x1] at this; rw [decide_eq_false h]; exact this
  have wy : cW y = decide (k' ≤ 5) := by
    by_cases h : k' ≤ 5
    · have := cW_y h y.2; rw [← y1] at this; rw [decide_eq_true h]; exact this
    · have := cW_n (by omega) hk' y.2; rw [← y1] at this; rw [decide_eq_false h]; exact this
  have px : cP x 7 = dbl k w r := by
    unfold cP dbl; rw [wx]
    by_cases h : k ≤ 5
    · rw [decide_eq_true h, if_pos rfl, if_neg (by decide), if_pos h, x2 h]
    · rw [decide_eq_false h, if_neg (by decide), if_neg h, x3 (by omega)]
  have py : cP y 7 = dbl k' w' r' := by
    unfold cP dbl; rw [wy]
    by_cases h : k' ≤ 5
    · rw [decide_eq_true h, if_pos rfl, if_neg (by decide), if_pos h, y2 h]
    · rw [decide_eq_false h, if_neg (by decide), if_neg h, y3 (by omega)]
  unfold cLk
  rw [if_pos ⟨vx, vy⟩, x1, y1, wx, wy, px, py]
  by_cases h0 : decide (nI k = 0) = decide (nI k' = 0)
  · rw [if_pos h0]
    rw [decide_eq_decide, nI_k0 hk, nI_k0 hk'] at h0
    by_cases h5 : k ≤ 5 ∧ k' ≤ 5
    · rw [if_pos ⟨decide_eq_true h5.1, decide_eq_true h5.2⟩, x2 h5.1, y2 h5.2, decide_eq_decide]
      unfold agn ordW
      rw [if_neg (by omega), if_pos (by rw [decide_eq_decide]; exact h0)]
      have l1 : w < w' ↔ w.toInt < w'.toInt := Int64.lt_iff_toInt_lt
      have l2 : w > w' ↔ w'.toInt < w.toInt := Int64.lt_iff_toInt_lt
      have l3 : w = w' ↔ w.toInt = w'.toInt := Int64.toInt_inj.symm
      by_cases c1 : w < w'
      · rw [if_pos c1]; exact ⟨fun e => by rw [l3] at e; rw [l1] at c1; omega, fun e => absurd e (by decide)⟩
      · rw [if_neg c1]
        by_cases c2 : w > w'
        · rw [if_pos c2]; exact ⟨fun e => by rw [l3] at e; rw [l2] at c2; omega, fun e => absurd e (by decide)⟩
        · rw [if_neg c2]; exact ⟨fun _ => rfl, fun _ => by rw [l3]; rw [l1] at c1; rw [l2] at c2; omega⟩
    · rw [if_neg (fun h => h5 ⟨of_decide_eq_true h.1, of_decide_eq_true h.2⟩), decide_eq_decide]
      unfold agn
      rw [if_pos (by omega)]
      have := (fp_eq (dbl_n (k := k) (w := w) hr) (dbl_n (k := k') (w := w') hr')).1
      rw [this]; unfold deq; rw [decide_eq_true_eq]
  · rw [if_neg h0]
    rw [decide_eq_decide, nI_k0 hk, nI_k0 hk'] at h0
    unfold agn ordW
    rw [if_neg (by omega), if_neg (fun h => h0 (by rw [decide_eq_decide] at h; exact h))]; rfl
theorem lk_agn_symm {k k' : Nat} {w w' : Int64} {r r' : UInt64} (hr : vf_n64 r) (hr' : vf_n64 r') : decide (agn k w r k' w' r' = 0) = decide (agn k' w' r' k w r = 0) := by
  rw [decide_eq_decide]
  unfold agn
  by_cases h : k ≠ 0 ∧ k' ≠ 0 ∧ (6 ≤ k ∨ 6 ≤ k')
  · rw [if_pos h, if_pos (by omega)]
    have e1 := fp_eq (dbl_n (k := k) (w := w) hr) (dbl_n (k := k') (w := w') hr')
    have e2 := fp_eq (dbl_n (k := k') (w := w') hr') (dbl_n (k := k) (w := w) hr)
    rw [e1.1, e2.1, e1.2]
  · rw [if_neg h, if_neg (by omega)]
    unfold ordW
    have l1 : w < w' ↔ w.toInt < w'.toInt := Int64.lt_iff_toInt_lt
    have l2 : w > w' ↔ w'.toInt < w.toInt := Int64.lt_iff_toInt_lt
    have l3 : w' > w ↔ w.toInt < w'.toInt := Int64.lt_iff_toInt_lt
    have l4 : w' < w ↔ w'.toInt < w.toInt := Int64.lt_iff_toInt_lt
    by_cases e : decide (k = 0) = decide (k' = 0)
    · rw [if_pos e, if_pos e.symm]
      by_cases c1 : w < w' <;> by_cases c2 : w' < w
      · rw [l1] at c1; rw [l4] at c2; omega
      · rw [if_pos c1, if_neg c2, if_pos (l3.mpr (l1.mp c1))]; decide
      · rw [if_neg c1, if_pos c2, if_pos (l2.mpr (l4.mp c2))]; decide
      · rw [if_neg c1, if_neg c2, if_neg (fun x => c2 (l4.mpr (l2.mp x))), if_neg (fun x => c1 (l1.mpr (l3.mp x)))]
    · rw [if_neg e, if_neg (fun x => e x.symm)]
theorem find_lk {P : AS} (hg : ∀ a b, gd (P.re a b)) {t i k : Nat} {a b : Int32} {y z : CE} (ht : P.kd t < 8) (hk : k ≤ 7) : cLk (rdC P t i y) (tdC k a b z) = decide (agn k (told k a b).1 (told k a b).2 (P.kd t) (P.wh t i) (P.re t i) = 0) := by
  rw [isV_lk (isV_rd ht) isV_td ht (by omega) (hg _ _).1 (told_n _ _ _), lk_agn_symm (hg _ _).1 (told_n _ _ _)]
theorem alk_lk {P : AS} (hw : WF P) (hz : WZ P) (hg : ∀ a b, gd (P.re a b)) {t u i : Nat} {y z : CE} (ht : P.kd t < 12) (hu : P.kd u < 12) : cLk (rdC P t i y) (rdC P u i z) = alkP P t u i := by
  by_cases h1 : P.kd t < 8 <;> by_cases h2 : P.kd u < 8
  · rw [alkP_v h1 h2]; exact isV_lk (isV_rd h1) (isV_rd h2) h1 h2 (hg _ _).1 (hg _ _).1
  · rw [alkP_n (by omega)]
    exact cLk_n1 (fun x => by have := x.2; rw [rd_cV, decide_eq_false h2] at this; cases this) (fun x => by rw [rd_cV, rd_cV, decide_eq_true h1, decide_eq_false h2] at x; cases x)
  · rw [alkP_n (by omega)]
    exact cLk_n1 (fun x => by have := x.1; rw [rd_cV, decide_eq_false h1] at this; cases this) (fun x => by rw [rd_cV, rd_cV, decide_eq_true h2, decide_eq_false h1] at x; cases x)
  · rw [alkP_t h1 h2]
    have hn := hw.2.2.1
    obtain ⟨a, ha, ha2⟩ := hw.2.2.2.2 t i (by omega)
    obtain ⟨b, hb, hb2⟩ := hw.2.2.2.2 u i (by omega)
    have nv : ¬ (cV (rdC P t i y) = true ∧ cV (rdC P u i z) = true) := fun x => by have := x.1; rw [rd_cV, decide_eq_false h1] at this; cases this
    unfold cLk
    rw [if_neg nv, rd_cV, rd_cV, decide_eq_false h1, decide_eq_false h2, rd_th (by omega), rd_th (by omega), ha, hb, lN_clamp (by omega), lN_clamp (by omega), decide_eq_decide]
    exact ⟨fun h => by rw [h.2], fun h => ⟨rfl, (lN_eq (by omega) (by omega)).mp h⟩⟩
theorem mx_cN (i : Int32) : mxI i 0 = nI (cN i) := by
  unfold mxI
  have e0 : (0 : Int32).toInt = 0 := by decide
  have hb := Int32.toInt_lt i
  have e : cN i = i.toInt.toNat := rfl
  by_cases h : i < 0
  · rw [if_pos h]
    rw [i_lt, e0] at h
    rw [show cN i = 0 by rw [e]; omega]; rfl
  · rw [if_neg h]
    rw [i_lt, e0] at h
    rw [i_eq, nI_toInt (by rw [e]; omega), e]; omega
theorem cN_lt (i : Int32) : cN i < 2 ^ 31 := by
  have hb := Int32.toInt_lt i
  show i.toInt.toNat < _; omega
theorem find_eq {P : AS} (hw : WF P) {j t k : Nat} {i a b : Int32} (hj : j < 12) (h1 : P.co j = t + 1) (hq : rsRow P j = 0) (hk : k ≤ 7) (h8 : P.kd t < 8) : sp_find P (nI j) i (nI k) a b = (fnd P t k (told k a b) (P.ln t + 1) (cN i), P, 0) := by
  unfold sp_find
  rw [cN_c hj, cN_nI (show k < 2 ^ 31 by omega), if_pos ⟨isC_nI hj, inR_nI (n := 7) (by decide) hk⟩, if_pos hq, h1, Nat.add_sub_cancel, if_pos h8]
  have hl := hw.2.1 t
  by_cases h : nI (P.ln t) ≤ i
  · rw [if_pos h, fnd_end]
    rw [i_le, nI_toInt (by omega)] at h
    show _ ≤ i.toInt.toNat; omega
  · rw [if_neg h]
