/-! WHAT EVERY CALL KEEPS of the state -/
def OKP (P : AS) : Prop := WF P ∧ WZ P ∧ (∀ a b, gd (P.re a b)) ∧ ∀ t i, P.n ≤ t → P.wh t i = 0 ∧ P.re t i = 0
/-- a value that may be laid into row t -/
def vOK (P : AS) (t : Nat) (v : Int64 × UInt64) : Prop := (P.kd t ≤ 5 ∨ 8 ≤ P.kd t → v.2 = 0) ∧ (6 ≤ P.kd t ∧ P.kd t ≤ 7 → v.1 = 0) ∧ gd v.2 ∧ (8 ≤ P.kd t → ∃ q, v.1 = lN q ∧ q ≤ P.n)
theorem OK_put {P : AS} (h : OKP P) {t i : Nat} {v : Int64 × UInt64} (ht : t < P.n) (hv : vOK P t v) : OKP (P.put t i v) := by
  refine ⟨WF_put h.1 hv.2.2.2, WZ_put h.2.1 hv.1 hv.2.1, gd_up2 h.2.2.1 hv.2.2.1, fun a b ha => ?_⟩
  have hne : a ≠ t := fun e => by subst e; exact absurd ha (Nat.not_le.mpr ht)
  show up2 P.wh t i v.1 a b = 0 ∧ up2 P.re t i v.2 a b = 0
  rw [up2_ne _ _ hne, up2_ne _ _ hne]
  exact h.2.2.2 a b ha
theorem OK_pt {P : AS} (h : OKP P) {t : Nat} {pos : Nat → Nat} {v : Nat → Int64 × UInt64} (ht : t < P.n) : ∀ k, (∀ i, i < k → vOK P t (v i)) → OKP (ptN P t pos v k) ∧ (ptN P t pos v k).n = P.n ∧ (ptN P t pos v k).kd = P.kd
  | 0, _ => ⟨h, rfl, rfl⟩
  | k + 1, hv => by
    obtain ⟨h1, h2, h3⟩ := OK_pt h (pos := pos) ht k (fun i hi => hv i (by omega))
    refine ⟨OK_put h1 (by rw [h2]; exact ht) ?_, h2, h3⟩
    unfold vOK
    rw [h2, h3]
    exact hv k (by omega)
theorem OK_setCo {P : AS} (h : OKP P) {c v : Nat} (hv : v ≤ P.n) : OKP (P.setCo c v) := by
  refine ⟨⟨h.1.1, h.1.2.1, h.1.2.2.1, fun d => ?_, h.1.2.2.2.2⟩, h.2.1, h.2.2.1, h.2.2.2⟩
  show va_up P.co c v d ≤ P.n
  unfold va_up
  split
  · exact hv
  · exact h.1.2.2.2.1 d
theorem OK_setW {P : AS} (h : OKP P) {t i q : Nat} (ht : t < P.n) (hk : 8 ≤ P.kd t) (hq : q ≤ P.n) : OKP (P.setW t i (lN q)) := by
  have e : P.setW t i (lN q) = P.put t i (lN q, P.re t i) := by
    unfold AS.put
    show (P.n, P.kd, P.ln, P.tg, up2 P.wh t i (lN q), P.re, P.co) = (P.n, P.kd, P.ln, P.tg, up2 P.wh t i (lN q), up2 P.re t i (P.re t i), P.co)
    rw [up2_id rfl]
  rw [e]
  exact OK_put h ht ⟨fun _ => (h.2.1 t i).1 (Or.inr hk), fun z => by omega, h.2.2.1 t i, fun _ => ⟨q, rfl, hq⟩⟩
theorem OK_prm {P : AS} (h : OKP P) {t : Nat} (ht : t < P.n) (τ : Nat → Nat) : OKP (prm P t τ) := by
  refine ⟨⟨h.1.1, h.1.2.1, h.1.2.2.1, h.1.2.2.2.1, fun u i hu => ?_⟩, fun u i => ?_, fun a b => ?_, fun u i hu => ?_⟩
  · show ∃ q, (if u = t then P.wh t (τ i) else P.wh u i) = lN q ∧ q ≤ P.n
    have hu' : 8 ≤ P.kd u := hu
    split
    · rename_i e; subst e; exact h.1.2.2.2.2 u (τ i) hu'
    · exact h.1.2.2.2.2 u i hu'
  · show (P.kd u ≤ 5 ∨ 8 ≤ P.kd u → (if u = t then P.re t (τ i) else P.re u i) = 0) ∧ (6 ≤ P.kd u ∧ P.kd u ≤ 7 → (if u = t then P.wh t (τ i) else P.wh u i) = 0)
    by_cases e : u = t
    · subst e; rw [if_pos rfl, if_pos rfl]; exact h.2.1 u (τ i)
    · rw [if_neg e, if_neg e]; exact h.2.1 u i
  · show gd (if a = t then P.re t (τ b) else P.re a b)
    split
    · exact h.2.2.1 _ _
    · exact h.2.2.1 _ _
  · have hne : u ≠ t := fun e => by subst e; exact absurd hu (Nat.not_le.mpr ht)
    show (if u = t then P.wh t (τ i) else P.wh u i) = 0 ∧ (if u = t then P.re t (τ i) else P.re u i) = 0
    rw [if_neg hne, if_neg hne]
    exact h.2.2.2 u i hu
theorem gd_wdn {a k : Nat} {w : Int64} {r : UInt64} (h : gd r) : gd (wdn a k w r).2 := by
  unfold wdn
  split
  · show gd (if k = 6 then _ else _)
    split
    · exact gd_lf w
    · exact gd_ld w
  · exact h
theorem gd_told (k : Nat) (a b : Int32) : gd (told k a b).2 := by
  unfold told
  repeat' split
  all_goals first | exact gd_0 | exact gd_fd _ | exact gd_dd _
theorem vOK_cv {P : AS} {t : Nat} {x : CE} {v : Int64 × UInt64} (h : CVal P t x v) (hg : gd v.2) (hq : 8 ≤ P.kd t → ∃ q, v.1 = lN q ∧ q ≤ P.n) : vOK P t v :=
  ⟨fun z => by rcases z with z | z; exact (h.1 z).2; exact (h.2.2 z).2, fun z => (h.2.1 z).2, hg, hq⟩
theorem vOK_mv {P : AS} (h : OKP P) {f t i : Nat} (hf : P.kd f < 12) (hg : goesI P (P.kd f) (P.wh f i) t = true) : vOK P t (mvV P f t i) := by
  refine vOK_cv (rd_val (x := (-1, 0, 0, 0)) h.1 h.2.1 hf hg) ?_ (fun ht => ?_)
  · unfold mvV
    split
    · exact gd_wdn (h.2.2.1 f i)
    · exact h.2.2.1 f i
  · have hf8 : ¬ P.kd f < 8 := fun z => by
      unfold goesI at hg
      rw [decide_eq_true z, decide_eq_false (show ¬ P.kd t < 8 by omega), if_neg (by decide)] at hg
      cases hg
    rw [mvV_f hf8]
    exact h.1.2.2.2.2 f i (by omega)
theorem co_le {P : AS} (h : OKP P) (c : Nat) : P.co c ≤ P.n := h.1.2.2.2.1 c
theorem rs_co {P : AS} (h : OKP P) {c : Nat} (hr : rsRow P c = 0) : P.co c - 1 < P.n ∧ P.kd (P.co c - 1) < 12 := by
  obtain ⟨t, e, hk⟩ := rsRow_0 hr
  have := co_le h c
  rw [e] at this ⊢
  exact ⟨by omega, hk⟩
theorem rp_co {P : AS} (h : OKP P) {c : Nat} {i : Int32} (hr : rsPl P c i = 0) : P.co c - 1 < P.n ∧ P.kd (P.co c - 1) < 12 := by
  obtain ⟨t, k, e, hk, -⟩ := rsPl_0 hr
  have := co_le h c
  rw [e] at this ⊢
  exact ⟨by omega, hk⟩
theorem rw_co {P : AS} (h : OKP P) {c d e : Nat} (hr : rsRows P c d e = 0) : (P.co c - 1 < P.n ∧ P.kd (P.co c - 1) < 12) ∧ (P.co d - 1 < P.n ∧ P.kd (P.co d - 1) < 12) ∧ (P.co e - 1 < P.n ∧ P.kd (P.co e - 1) < 12) := by
  obtain ⟨x, y, z, e1, e2, e3, k1, k2, k3⟩ := rsRows_0 hr
  have h1 := co_le h c
  have h2 := co_le h d
  have h3 := co_le h e
  rw [e1] at h1 ⊢
  rw [e2] at h2 ⊢
  rw [e3] at h3 ⊢
  exact ⟨⟨by omega, k1⟩, ⟨by omega, k2⟩, ⟨by omega, k3⟩⟩
theorem ok_lay {P : AS} (h : OKP P) (c d : Int32) : OKP (sp_lay P c d).2.1 := by
  unfold sp_lay
  split
  · exact OK_setCo h (co_le h _)
  · exact h
theorem ok_put {P : AS} (h : OKP P) (c i k a b : Int32) : OKP (sp_put P c i k a b).2.1 := by
  unfold sp_put
  split
  · rename_i h0
    split
    · rename_i h1
      split
      · rename_i h2
        obtain ⟨j, hj, ej⟩ := inR_ex (n := 7) (by decide) h0.2
        have hk : cN k < 8 := by rw [ej, cN_nI (by omega)]; omega
        exact OK_put h (rp_co h h1).1 (vOK_cv (td_val (x := (-1, 0, 0, 0)) hk h2.1 h2.2) (gd_wdn (gd_told _ _ _)) (fun z => by omega))
      · exact h
    · exact h
  · exact h
theorem ok_putThing {P : AS} (h : OKP P) (c i d : Int32) : OKP (sp_putThing P c i d).2.1 := by
  unfold sp_putThing
  split
  · split
    · rename_i h1
      split
      · rename_i h2
        exact OK_setW h (rp_co h h1).1 h2.1 (co_le h _)
      · exact h
    · exact h
  · exact h
theorem ok_take {P : AS} (h : OKP P) (c i d : Int32) : OKP (sp_take P c i d).2.1 := by
  unfold sp_take
  split
  · split
    · rename_i h1
      split
      · exact h
      · rename_i h8
        split
        · refine OK_setCo h ?_
          obtain ⟨q, e, hq⟩ := h.1.2.2.2.2 (P.co (cN c) - 1) (cN i) (by omega)
          have := h.1.2.2.1
          rw [e, lN_clamp (by omega)]
          exact hq
        · exact h
    · exact h
  · exact h
theorem ok_move {P : AS} (h : OKP P) {f t n : Nat} {wy : Int32} {fr tt : Nat → Int32} (ht : t < P.n) (hf : P.kd f < 12) : OKP (sp_move P wy f t fr tt n).2.1 := by
  unfold sp_move
  split
  · rename_i h0
    show OKP (mvW P f t fr tt n)
    rw [← pt_mv]
    refine (OK_pt h ht n (fun i hi => ?_)).1
    exact vOK_mv h hf (mvr_go (mvR_at h0 hi))
  · exact h
theorem ok_copy {P : AS} (h : OKP P) (c d : Int32) : OKP (sp_copy P c d).2.1 := by
  unfold sp_copy
  split
  · split
    · rename_i h1
      obtain ⟨a1, a2, -⟩ := rw_co h h1
      split
      · exact ok_move h a2.1 a1.2
      · exact h
    · exact h
  · exact h
theorem ok_gather {P : AS} (h : OKP P) (c x d : Int32) : OKP (sp_gather P c x d).2.1 := by
  unfold sp_gather
  split
  · split
    · rename_i h1
      obtain ⟨a1, a2, a3⟩ := rw_co h h1
      split
      · split
        · exact ok_move h a3.1 a1.2
        · exact h
      · exact h
    · exact h
  · exact h
theorem ok_scatter {P : AS} (h : OKP P) (c x d : Int32) : OKP (sp_scatter P c x d).2.1 := by
  unfold sp_scatter
  split
  · split
    · rename_i h1
      obtain ⟨a1, a2, a3⟩ := rw_co h h1
      split
      · split
        · exact ok_move h a3.1 a1.2
        · exact h
      · exact h
    · exact h
  · exact h
theorem ok_merge {P : AS} (h : OKP P) (c d e : Int32) : OKP (sp_merge P c d e).2.1 := by
  unfold sp_merge
  split
  · split
    · rename_i h1
      obtain ⟨a1, a2, a3⟩ := rw_co h h1
      split
      · rename_i h2
        split
        · split
          · rename_i h4
            show OKP (mgW P _ _ _ _)
            rw [← pt_mg]
            refine (OK_pt h a3.1 _ (fun i hi => ?_)).1
            have hg : (mgG P (P.co (cN c) - 1) (P.co (cN d) - 1) (P.co (cN e) - 1) i && goes (mgS P (P.co (cN c) - 1) (P.co (cN d) - 1) i) (P.kd (P.co (cN e) - 1))) = true := mgG_le h4 (k := i + 1) (by omega)
            rw [Bool.and_eq_true] at hg
            have hg2 := hg.2
            unfold mgS mgV at *
            by_cases o : mgO P (P.co (cN c) - 1) (P.co (cN d) - 1) (mgI P (P.co (cN c) - 1) (P.co (cN d) - 1) i) (i - mgI P (P.co (cN c) - 1) (P.co (cN d) - 1) i) = true
            · rw [if_pos o] at hg2 ⊢
              rw [if_pos o]
              exact vOK_cv (rd_wdn (x := (-1, 0, 0, 0)) h.1 h.2.1 h2.1.2.1 h2.1.2.2 hg2) (gd_wdn (h.2.2.1 _ _)) (fun z => by omega)
            · rw [if_neg o] at hg2 ⊢
              rw [if_neg o]
              exact vOK_cv (rd_wdn (x := (-1, 0, 0, 0)) h.1 h.2.1 h2.1.1 h2.1.2.2 hg2) (gd_wdn (h.2.2.1 _ _)) (fun z => by omega)
          · exact h
        · exact h
      · exact h
    · exact h
  · exact h
theorem ok_sort {P : AS} (h : OKP P) (c : Int32) : OKP (sp_sort P c).2.1 := by
  unfold sp_sort
  split
  · split
    · rename_i h1
      show OKP (bubO P _ _)
      rw [bubO_prm]
      exact OK_prm h (rs_co h h1).1 _
    · exact h
  · exact h
theorem ok_turn {P : AS} (h : OKP P) (c n : Int32) : OKP (sp_turn P c n).2.1 := by
  unfold sp_turn
  split
  · split
    · rename_i h1
      show OKP (trW P _ n _)
      rw [← pt_tr]
      refine (OK_pt h (rs_co h h1).1 _ (fun i hi => ?_)).1
      exact ⟨(h.2.1 _ i).1, (h.2.1 _ i).2, h.2.2.1 _ i, h.1.2.2.2.2 _ i⟩
    · exact h
  · exact h
theorem OK_add {P : AS} (h : OKP P) {j k len : Nat} {tag : Int32} (hk : k ≤ 14) (hl : len ≤ 24) (hn : P.n ≤ 512) : OKP (P.add j k len tag) := by
  have hu : ∀ (f : Nat → Nat) (v t : Nat), va_up f P.n v t = if t = P.n then v else f t := fun f v t => rfl
  refine ⟨⟨fun t => ?_, fun t => ?_, by show P.n + 1 ≤ 513; omega, fun c => ?_, fun t i ht => ?_⟩, fun t i => ?_, h.2.2.1, fun t i ht => h.2.2.2 t i (by have : P.n + 1 ≤ t := ht; omega)⟩
  · show va_up P.kd P.n k t ≤ 14
    rw [hu]; split; exact hk; exact h.1.1 t
  · show va_up P.ln P.n len t ≤ 24
    rw [hu]; split; exact hl; exact h.1.2.1 t
  · show va_up P.co j (P.n + 1) c ≤ P.n + 1
    unfold va_up
    split
    · exact Nat.le_refl _
    · have := co_le h c; omega
  · have ht' : 8 ≤ va_up P.kd P.n k t := ht
    show ∃ q, P.wh t i = lN q ∧ q ≤ P.n + 1
    by_cases e : t = P.n
    · exact ⟨0, (h.2.2.2 t i (by omega)).1, by omega⟩
    · rw [hu, if_neg e] at ht'
      obtain ⟨q, e1, e2⟩ := h.1.2.2.2.2 t i ht'
      exact ⟨q, e1, by omega⟩
  · show (va_up P.kd P.n k t ≤ 5 ∨ 8 ≤ va_up P.kd P.n k t → P.re t i = 0) ∧ (6 ≤ va_up P.kd P.n k t ∧ va_up P.kd P.n k t ≤ 7 → P.wh t i = 0)
    by_cases e : t = P.n
    · have := h.2.2.2 t i (by omega); exact ⟨fun _ => this.2, fun _ => this.1⟩
    · rw [hu, if_neg e]; exact h.2.1 t i
theorem ok_make {P : AS} (h : OKP P) (hn : P.n ≤ 512) (c k n : Int32) : OKP (sp_make P c k n).2.1 := by
  unfold sp_make
  split
  · rename_i h0
    obtain ⟨j, hj, ej⟩ := inR_ex (n := 14) (by decide) h0.2.1
    have hk : cN k ≤ 14 := by rw [ej, cN_nI (by omega)]; exact hj
    refine OK_add h hk ?_ hn
    split
    · rename_i h12
      rcases h0.2.2 with z | z
      · omega
      · obtain ⟨q, hq, eq⟩ := inR_ex (n := 24) (by decide) z
        rw [eq, cN_nI (by omega)]; exact hq
    · omega
  · exact h
/-- how many things there are: one more at most, by make alone -/
theorem n_make (P : AS) (c k n : Int32) : (sp_make P c k n).2.1.n ≤ P.n + 1 := by
  unfold sp_make
  split
  · exact Nat.le_refl _
  · exact Nat.le_succ _
