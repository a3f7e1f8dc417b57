/-! THE HOUSE'S CONSTRUCTOR: its world while it is made; fs the house's fields, k cells on the stage, kc cells made, z what comes behind them -/
def cE0 : va_E := .inr (1, [.int (-1), .long 0, .double 0, .null])
def wX (cy : Nat → ClassId) (ad : Nat → Nat) (fs : List Value) (k kc z : Nat) : Nat → Option va_E := fun i =>
  if i = 0 then some (.inr (5, fs)) else if i = 1 then some (.inl (cy 4, 12, .inr (.inr (.inr (.inr (fun _ => none)))))) else if i = 2 then some (.inl (cy 3, 24, .inr (.inr (.inr (.inr (fun j => if j < k then some (ad (4 + j)) else none))))))
  else if i = 3 then (if 1 ≤ z then some (.inl (cy 0, 24, .inl (fun _ => 0))) else none) else if i < 4 + kc then some cE0 else if i = 28 then (if 2 ≤ z then some cE0 else none) else if i = 29 then (if 3 ≤ z then some cE0 else none) else none
theorem wX_ad {cy : Nat → ClassId} {ad ad' : Nat → Nat} {fs : List Value} {k kc z : Nat} (h : ∀ j, j < k → ad' (4 + j) = ad (4 + j)) : wX cy ad' fs k kc z = wX cy ad fs k kc z := by
  have e : (fun j => if j < k then some (ad' (4 + j)) else none) = fun j => if j < k then some (ad (4 + j)) else none := by
    funext j
    by_cases c : j < k
    · rw [if_pos c, if_pos c, h j c]
    · rw [if_neg c, if_neg c]
  unfold wX
  rw [e]
theorem wX_fs {cy : Nat → ClassId} {ad : Nat → Nat} {fs fs' : List Value} {k kc z : Nat} : ∀ j, j ≠ 0 → wX cy ad fs' k kc z j = wX cy ad fs k kc z j := fun j hj => by unfold wX; rw [if_neg hj, if_neg hj]
theorem wX_k {cy : Nat → ClassId} {ad : Nat → Nat} {fs : List Value} {k k' kc z : Nat} : ∀ j, j ≠ 2 → wX cy ad fs k' kc z j = wX cy ad fs k kc z j := fun j hj => by unfold wX; rw [if_neg hj, if_neg hj]
theorem wX_kc {cy : Nat → ClassId} {ad : Nat → Nat} {fs : List Value} {k kc z : Nat} (h : kc < 24) : ∀ j, j ≠ 4 + kc → wX cy ad fs k (kc + 1) z j = wX cy ad fs k kc z j := fun j hj => by
  unfold wX
  by_cases c : j < 4 + kc
  · rw [if_pos c, if_pos (show j < 4 + (kc + 1) by omega)]
  · rw [if_neg c, if_neg (show ¬ j < 4 + (kc + 1) by omega)]
theorem wX_1 {cy : Nat → ClassId} {ad : Nat → Nat} {fs : List Value} {k kc : Nat} : ∀ j, j ≠ 3 → wX cy ad fs k kc 1 j = wX cy ad fs k kc 0 j := fun j hj => by
  unfold wX; rw [if_neg hj, if_neg hj]; rfl
theorem wX_2 {cy : Nat → ClassId} {ad : Nat → Nat} {fs : List Value} {k kc : Nat} : ∀ j, j ≠ 28 → wX cy ad fs k kc 2 j = wX cy ad fs k kc 1 j := fun j hj => by
  unfold wX; rw [if_neg hj, if_neg hj]; rfl
theorem wX_3 {cy : Nat → ClassId} {ad : Nat → Nat} {fs : List Value} {k kc : Nat} : ∀ j, j ≠ 29 → wX cy ad fs k kc 3 j = wX cy ad fs k kc 2 j := fun j hj => by
  unfold wX; rw [if_neg hj, if_neg hj]; rfl
theorem wX_grow {D : va_G} {A : Nat → Prop} {cy : Nat → ClassId} {ad : Nat → Nat} {fs : List Value} {k kc z kc' z' q0 q1 q2 : Nat} {H H1 : Heap} {e : va_E} (h : hp D A 30 ad (wX cy ad fs k kc z) H) (h0 : ad 0 = q0) (h1 : ad 1 = q1) (h2 : ad 2 = q2) (keep : ∀ q : Nat, q < H.size → H1[q]? = H[q]?) (hA : A H.size) (hat : va_at D vwCl (H.size, e) H1) (i0 : Nat) (hi3 : 3 ≤ i0) (hik : i0 = 3 ∨ 4 + k ≤ i0)
    (hnew : wX cy ad fs k kc' z' i0 = some e) (hold : ∀ j, j ≠ i0 → wX cy ad fs k kc' z' j = wX cy ad fs k kc z j) : ∃ ad' : Nat → Nat, ad' 0 = q0 ∧ ad' 1 = q1 ∧ ad' 2 = q2 ∧ (∀ i, i ≠ i0 → ad' i = ad i) ∧ ad' i0 = H.size ∧ hp D A 30 ad' (wX cy ad' fs k kc' z') H1 := by
  have hne : ∀ i, i ≠ i0 → va_up ad i0 H.size i = ad i := fun i hi => va_up_ne _ _ hi
  have hse : va_up ad i0 H.size i0 = H.size := va_up_self _ _ _
  refine ⟨va_up ad i0 H.size, (hne 0 (by omega)).trans h0, (hne 1 (by omega)).trans h1, (hne 2 (by omega)).trans h2, hne, hse, ?_⟩
  rw [wX_ad (ad := ad) (fun j hj => hne _ (by omega))]
  refine h.grow keep (fun i x hi hx => ?_) (fun i j x y hi hj hx hy hge hij => ?_)
  · by_cases c : i = i0
    · subst c
      rw [hnew] at hx; cases hx
      rw [hse]
      exact Or.inr ⟨Nat.le_refl _, hA, hat⟩
    · rw [hold i c] at hx
      exact Or.inl ⟨hi, hne i c, x, hx, id⟩
  · have lt : ∀ (i : Nat) (x : va_E), i < 30 → i ≠ i0 → wX cy ad fs k kc' z' i = some x → va_up ad i0 H.size i < H.size := fun i x hi c hx => by
      rw [hold i c] at hx; rw [hne i c]; exact h.lt hi hx
    by_cases c : i = i0
    · by_cases c2 : j = i0
      · omega
      · have := lt j y hj c2 hy; omega
    · have := lt i x hi c hx; omega
theorem keep2 {H H1 H2 : Heap} {e : va_E} (z1 : H1.size = H.size + 1) (o1 : ∀ q : Nat, q < H.size → H1[q]? = H[q]?) (hk2 : ∀ q : Nat, q < H1.size → ¬ cA 1 (ad1 H.size) (ct1 e) H1.size q → H2[q]? = H1[q]?) : ∀ q : Nat, q < H.size → H2[q]? = H[q]? := fun q hq => by
  rw [hk2 q (by omega) (fun z => by
    rcases z with ⟨i, x, hi, hx, e1⟩ | z
    · have e2 : q = H.size := e1
      omega
    · omega), o1 q hq]
theorem wX_end {D : va_G} {A : Nat → Prop} {cy : Nat → ClassId} {ad : Nat → Nat} {q1 q2 q3 q4 q5 : Nat} {H : Heap} (h : hp D A 30 ad (wX cy ad [.ref q1, .ref q2, .ref q3, .ref q4, .ref q5, .int 0] 24 24 3) H) (e1 : ad 1 = q1) (e2 : ad 2 = q2) (e3 : ad 3 = q3) (e4 : ad 28 = q4) (e5 : ad 29 = q5) : hp D A (30 + 2 * P0.n) ad (hct cy ad P0 0 (fun _ => (-1, 0, 0, 0)) (fun k => k) (fun _ => 0)) H := by
  subst e1; subst e2; subst e3; subst e4; subst e5
  have h : hp D A (30 + 2 * P0.n) ad (wX cy ad [.ref (ad 1), .ref (ad 2), .ref (ad 3), .ref (ad 28), .ref (ad 29), .int 0] 24 24 3) H := h
  have hc : ∀ i, 4 ≤ i → i < 30 → hct cy ad P0 0 (fun _ => (-1, 0, 0, 0)) (fun k => k) (fun _ => 0) i = wX cy ad [.ref (ad 1), .ref (ad 2), .ref (ad 3), .ref (ad 28), .ref (ad 29), .int 0] 24 24 3 i := by
    intro i h4 h30
    unfold hct wX
    rw [if_neg (by omega), if_pos h30, if_neg (by omega), if_neg (by omega), if_neg (by omega), if_neg (by omega)]
    by_cases c : i < 4 + 24
    · rw [if_pos c]; rfl
    · rw [if_neg c]
      by_cases c2 : i = 28
      · rw [if_pos c2]; rfl
      · rw [if_neg c2, if_pos (by omega)]; rfl
  refine h.grow (fun _ _ => rfl) (fun i x hi hx => ?_) (fun i j x y hi hj hx hy hge hij => ?_)
  · have hi' : i < 30 := hi
    refine Or.inl ⟨hi, rfl, ?_⟩
    by_cases c4 : 4 ≤ i
    · rw [hc i c4 hi'] at hx; exact ⟨x, hx, id⟩
    · rcases (by omega : i = 0 ∨ i = 1 ∨ i = 2 ∨ i = 3) with rfl | rfl | rfl | rfl
      · exact ⟨x, hx, id⟩
      · exact ⟨x, hx, id⟩
      · cases hx
        refine ⟨_, rfl, fun h9 => ?_⟩
        have h8 : H[ad 2]? = some (arrV (cy 3) 24 (fun j => va_rf (if j < 24 then some (ad (4 + j)) else none))) := h9
        rw [arrV_congr (g := fun j => va_rf (some (ad (4 + j)))) (fun j hj => by rw [if_pos hj])] at h8
        exact h8
      · exact ⟨x, hx, id⟩
  · have : ∃ y', wX cy ad [.ref (ad 1), .ref (ad 2), .ref (ad 3), .ref (ad 28), .ref (ad 29), .int 0] 24 24 3 i = some y' := by
      have hi' : i < 30 := hi
      by_cases c4 : 4 ≤ i
      · rw [hc i c4 hi'] at hx; exact ⟨x, hx⟩
      · rcases (by omega : i = 0 ∨ i = 1 ∨ i = 2 ∨ i = 3) with rfl | rfl | rfl | rfl <;> exact ⟨_, rfl⟩
    obtain ⟨y', hy'⟩ := this
    have := h.lt hi hy'
    omega
set_option maxHeartbeats 4000000 in
set_option maxRecDepth 100000 in
theorem c_X7_init {l : Launch} {D : va_G} {cy : Nat → ClassId} {q : Nat} : CG l yX7_init cX7_init 2 none (rmC 2 29 164 32) D cy 29 164 1 (ad1 q) [.ref q] (ct1 (.inr (5, [.null, .null, .null, .null, .null, .int 0]))) (fun v N' ad' ct' => v = none ∧ N' = 30 + 2 * P0.n ∧ ad' 0 = q ∧ ct' = hct cy ad' P0 0 (fun _ => (-1, 0, 0, 0)) (fun k => k) (fun _ => 0)) := by
  refine CG.start (by decide) (Nat.le_of_ble_eq_true rfl) ?_
  intro p_ e_ s m_ args_ below meth cd A ls Q hQ hC hr hlk hin hK hA hH hl
  obtain ⟨hx, hb, hml, hown, hts⟩ := id hC
  have hS : va_S A s.heap s.heap [] := va_S.rf
  have hl : lv_has ls 2 [(0, .ref q)] := hl
  have hH : hp D A 1 (adL [q]) (ctL [.inr (5, [.null, .null, .null, .null, .null, .int 0])]) s.heap := by
    refine ⟨fun i j x y hi hj _ _ _ => by omega, fun i x hi hx => ?_⟩
    obtain rfl : i = 0 := by omega
    exact hH.2 0 x (by decide) hx
  refine lv_aload_n hx hb dX7_init_0 rfl (lv_at hl 0 rfl) ?_
  refine g_obj hC qM_X7_1 hl.1 dX7_init_1 (Nat.le_of_ble_eq_true rfl) (Nat.le_of_ble_eq_true rfl) ?_
  refine lv_aload_n hx hb dX7_init_4 rfl (lv_at hl 0 rfl) ?_
  refine lv_bipush (v := 12) hx hb dX7_init_5 (by decide) ?_
  refine g_newq (t0 := 4) (C := RX4) (n' := 12) hC hK qC_X7_9 hK.2.2.1.2 rfl (by decide) (by decide) (by decide) hS hA (Nat.le_of_ble_eq_true rfl) (Nat.le_of_ble_eq_true rfl) dX7_init_7 (fun H1 z1 o1 hA1 hat hS => ?_)
  have hH2 := hH.pushL rfl rfl o1 hA1 hat
  generalize s.heap.size = q1 at hH2 ⊢
  have hH2 : hp D A 2 (adL [q, q1]) (ctL [.inr (5, [.null, .null, .null, .null, .null, .int 0]), .inl (cy 4, 12, .inr (.inr (.inr (.inr (fun _ => none)))))]) H1 := hH2
  refine g_putF (ct' := ctL [.inr (5, [.ref q1, .null, .null, .null, .null, .int 0]), .inl (cy 4, 12, .inr (.inr (.inr (.inr (fun _ => none)))))]) hC hK inG7 tyX7 tyX7_ok nmX7 (hin rfl) hH2 hS 0 (by decide) rfl rfl 0 (by decide) qF_X7_11 rfl rfl rfl rfl rfl (Nat.le_of_ble_eq_true rfl) rfl (fun j hj => ctL_ne (es := [.inr (5, [.null, .null, .null, .null, .null, .int 0]), .inl (cy 4, 12, .inr (.inr (.inr (.inr (fun _ => none)))))]) (i := 0) j hj) dX7_init_10 (fun H locs hH hS _ _ => ?_)
  refine lv_aload_n hx hb dX7_init_13 rfl (lv_at hl 0 rfl) ?_
  refine lv_bipush (v := 24) hx hb dX7_init_14 (by decide) ?_
  refine g_newq (t0 := 3) (C := RX1) (n' := 24) hC hK qC_X7_15 hK.2.2.1.1 rfl (by decide) (by decide) (by decide) hS hA (Nat.le_of_ble_eq_true rfl) (Nat.le_of_ble_eq_true rfl) dX7_init_16 (fun H1 z1 o1 hA1 hat hS => ?_)
  have hH2 := hH.pushL rfl rfl o1 hA1 hat
  generalize H.size = q2 at hH2 ⊢
  have hH2 : hp D A 3 (adL [q, q1, q2]) (ctL [.inr (5, [.ref q1, .null, .null, .null, .null, .int 0]), .inl (cy 4, 12, .inr (.inr (.inr (.inr (fun _ => none))))), .inl (cy 3, 24, .inr (.inr (.inr (.inr (fun _ => none)))))]) H1 := hH2
  refine g_putF (ct' := ctL [.inr (5, [.ref q1, .ref q2, .null, .null, .null, .int 0]), .inl (cy 4, 12, .inr (.inr (.inr (.inr (fun _ => none))))), .inl (cy 3, 24, .inr (.inr (.inr (.inr (fun _ => none)))))]) hC hK inG7 tyX7 tyX7_ok nmX7 (hin rfl) hH2 hS 0 (by decide) rfl rfl 1 (by decide) qF_X7_17 rfl rfl rfl rfl rfl (Nat.le_of_ble_eq_true rfl) rfl (fun j hj => ctL_ne (es := [.inr (5, [.ref q1, .null, .null, .null, .null, .int 0]), .inl (cy 4, 12, .inr (.inr (.inr (.inr (fun _ => none))))), .inl (cy 3, 24, .inr (.inr (.inr (.inr (fun _ => none)))))]) (i := 0) j hj) dX7_init_19 (fun H locs hH hS _ _ => ?_)
  have hH : hp D A 30 (adL [q, q1, q2]) (wX cy (adL [q, q1, q2]) [.ref q1, .ref q2, .null, .null, .null, .int 0] 0 0 0) H := by
    refine hH.grow (fun _ _ => rfl) (fun i x hi hx => ?_) (fun i j x y hi hj hx hy hge hij => ?_)
    · by_cases c : i < 3
      · rcases (by omega : i = 0 ∨ i = 1 ∨ i = 2) with rfl | rfl | rfl
        · exact Or.inl ⟨by decide, rfl, x, hx, id⟩
        · exact Or.inl ⟨by decide, rfl, x, hx, id⟩
        · exact Or.inl ⟨by decide, rfl, x, hx, id⟩
      · exfalso
        unfold wX at hx
        rw [if_neg (by omega), if_neg (by omega), if_neg (by omega)] at hx
        simp at hx
        obtain ⟨h1, h2, h3⟩ := hx
        omega
    · by_cases c : i < 3
      · rcases (by omega : i = 0 ∨ i = 1 ∨ i = 2) with rfl | rfl | rfl
        · have := hH.lt (i := 0) (by decide) rfl; omega
        · have := hH.lt (i := 1) (by decide) rfl; omega
        · have := hH.lt (i := 2) (by decide) rfl; omega
      · exfalso
        unfold wX at hx
        rw [if_neg (by omega), if_neg (by omega), if_neg (by omega)] at hx
        simp at hx
        obtain ⟨h1, h2, h3⟩ := hx
        omega
  refine lv_iconst (v := 0) hx hb dX7_init_22 (by decide) ?_
  refine lv_istore_n (lv' := [(1, .int (nI 0)), (0, .ref q)]) hx hb dX7_init_23 rfl hl (by decide) rfl (fun ls hl => ?_)
  have lp : ∀ (n9 k : Nat), k ≤ 24 → 24 < k + n9 → ∀ (ad : Nat → Nat) (H : Heap) (locs : List Loc), ad 0 = q → ad 1 = q1 → ad 2 = q2 → hp D A 30 ad (wX cy ad [.ref q1, .ref q2, .null, .null, .null, .int 0] k k 0) H → va_S A s.heap H locs → ∀ (ls : Array Slot), lv_has ls 2 [(1, .int (nI k)), (0, .ref q)] → W p_ l e_ (rmC 2 29 164 32) s m_ args_ below meth cd H locs (2 + k) (36 + 4 * k) Q (F0 m_ 24 ls []) := by
    intro n9
    induction n9 with
    | zero => intro k h1 h2; omega
    | succ n9 ih =>
      intro k hk1 hk2 ad H locs h0 h1 h2 hH hS ls hl
      refine lv_iload_n hx hb dX7_init_24 rfl (lv_at hl 0 rfl) ?_
      refine lv_bipush (v := 24) hx hb dX7_init_25 (by decide) ?_
      refine lv_icmp_ge hx hb dX7_init_27 (tgt := 49) (by decide) (fun c1 => ?_) (fun c1 => ?_)
      · have c1 := nc_le (a := 24) (b := k) (by decide) (by omega) c1
        obtain rfl : k = 24 := by omega
        refine lv_aload_n hx hb dX7_init_49 rfl (lv_at hl 1 rfl) ?_
        refine lv_bipush (v := 24) hx hb dX7_init_50 (by decide) ?_
        refine g_newa (atype := .int) (t0 := 0) (n' := 24) (a0 := (24, .inl (fun _ => 0))) hC hK qA_int rfl rfl (by decide) (by decide) (by decide) hS hA (Nat.le_of_ble_eq_true rfl) (Nat.le_of_ble_eq_true rfl) dX7_init_52 (fun H1 z1 o1 hA1 hat hS => ?_)
        obtain ⟨ad3, f0, f1, f2, fo, f3, hH⟩ := wX_grow (kc' := 24) (z' := 1) hH h0 h1 h2 o1 hA1 hat 3 (by decide) (Or.inl rfl) rfl wX_1
        generalize H.size = q3 at f3 ⊢
        rw [← f0]
        refine g_putF (ct' := wX cy ad3 [.ref q1, .ref q2, .ref q3, .null, .null, .int 0] 24 24 1) hC hK inG7 tyX7 tyX7_ok nmX7 (hin rfl) hH hS 0 (by decide) rfl rfl 2 (by decide) qF_X7_22 rfl rfl rfl rfl rfl (Nat.le_of_ble_eq_true rfl) rfl wX_fs dX7_init_54 (fun H locs hH hS _ _ => ?_)
        refine lv_aload_n hx hb dX7_init_57 rfl (lv_at hl 1 rfl) ?_
        refine g_new (ci := 1) (fs := [.int 0, .long 0, .double 0, .null]) hC hK inG1 tyX1 tyX1_ok qC_X7_15 qNew_X1 qInit_X1 rfl (fun j hj => by rcases (by omega : j = 0 ∨ j = 1 ∨ j = 2 ∨ j = 3) with rfl | rfl | rfl | rfl <;> rfl) hS hA (Nat.le_of_ble_eq_true rfl) (Nat.le_of_ble_eq_true rfl) dX7_init_58 (fun H1 z1 o1 hA1 hat hS => ?_)
        have hH1 := hp.mk1 hA1 hat
        refine lv_dup hx hb dX7_init_61 rfl ?_
        refine cg_IN (As' := []) (rest := [.ref H.size, .ref q]) (host := RX7) hC (CM.cg c_X1_init) mi_X1 (by decide +kernel) ⟨⟨rfl, rfl⟩, Nat.le_of_ble_eq_true rfl, Nat.le_of_ble_eq_true rfl⟩ hK hH1 hS hA hl.1 ⟨Nat.le_of_ble_eq_true rfl, Nat.le_of_ble_eq_true rfl⟩ rfl rfl (Nat.le_of_ble_eq_true rfl) dX7_init_62 (fun v N' ad' ct' H2 locs2 hpo hH2 hS hz2 hk2 => ?_)
        obtain ⟨rfl, rfl, rfl, rfl⟩ := hpo
        have kp := keep2 z1 o1 hk2
        have hat2 : va_at D vwCl (H.size, cE0) H2 := (hH2.2 0 _ (by decide) rfl).2
        obtain ⟨ad4, g0, g1, g2, go, g4, hH⟩ := wX_grow (kc' := 24) (z' := 2) hH f0 f1 f2 kp hA1 hat2 28 (by decide) (Or.inr (by decide)) rfl wX_2
        generalize H.size = q4 at g4 ⊢
        show W _ _ _ _ _ _ _ _ _ _ _ _ _ _ _ (F0 _ _ _ [.ref q4, .ref q])
        rw [← g0]
        refine g_putF (ct' := wX cy ad4 [.ref q1, .ref q2, .ref q3, .ref q4, .null, .int 0] 24 24 2) hC hK inG7 tyX7 tyX7_ok nmX7 (hin rfl) hH hS 0 (by decide) rfl rfl 3 (by decide) qF_X7_26 rfl rfl rfl rfl rfl (Nat.le_of_ble_eq_true rfl) rfl wX_fs dX7_init_65 (fun H locs hH hS _ _ => ?_)
        refine lv_aload_n hx hb dX7_init_68 rfl (lv_at hl 1 rfl) ?_
        refine g_new (ci := 1) (fs := [.int 0, .long 0, .double 0, .null]) hC hK inG1 tyX1 tyX1_ok qC_X7_15 qNew_X1 qInit_X1 rfl (fun j hj => by rcases (by omega : j = 0 ∨ j = 1 ∨ j = 2 ∨ j = 3) with rfl | rfl | rfl | rfl <;> rfl) hS hA (Nat.le_of_ble_eq_true rfl) (Nat.le_of_ble_eq_true rfl) dX7_init_69 (fun H1 z1 o1 hA1 hat hS => ?_)
        have hH1 := hp.mk1 hA1 hat
        refine lv_dup hx hb dX7_init_72 rfl ?_
        refine cg_IN (As' := []) (rest := [.ref H.size, .ref q]) (host := RX7) hC (CM.cg c_X1_init) mi_X1 (by decide +kernel) ⟨⟨rfl, rfl⟩, Nat.le_of_ble_eq_true rfl, Nat.le_of_ble_eq_true rfl⟩ hK hH1 hS hA hl.1 ⟨Nat.le_of_ble_eq_true rfl, Nat.le_of_ble_eq_true rfl⟩ rfl rfl (Nat.le_of_ble_eq_true rfl) dX7_init_73 (fun v N' ad' ct' H2 locs2 hpo hH2 hS hz2 hk2 => ?_)
        obtain ⟨rfl, rfl, rfl, rfl⟩ := hpo
        have kp := keep2 z1 o1 hk2
        have hat2 : va_at D vwCl (H.size, cE0) H2 := (hH2.2 0 _ (by decide) rfl).2
        obtain ⟨ad5, k0, k1, k2, ko, k5, hH⟩ := wX_grow (kc' := 24) (z' := 3) hH g0 g1 g2 kp hA1 hat2 29 (by decide) (Or.inr (by decide)) rfl wX_3
        generalize H.size = q5 at k5 ⊢
        show W _ _ _ _ _ _ _ _ _ _ _ _ _ _ _ (F0 _ _ _ [.ref q5, .ref q])
        rw [← k0]
        refine g_putF (ct' := wX cy ad5 [.ref q1, .ref q2, .ref q3, .ref q4, .ref q5, .int 0] 24 24 3) hC hK inG7 tyX7 tyX7_ok nmX7 (hin rfl) hH hS 0 (by decide) rfl rfl 4 (by decide) qF_X7_30 rfl rfl rfl rfl rfl (Nat.le_of_ble_eq_true rfl) rfl wX_fs dX7_init_76 (fun H locs hH hS _ _ => ?_)
        refine lv_aload_n hx hb dX7_init_79 rfl (lv_at hl 1 rfl) ?_
        refine lv_iconst (v := 0) hx hb dX7_init_80 (by decide) ?_
        rw [← k0]
        refine g_put (ct' := wX cy ad5 [.ref q1, .ref q2, .ref q3, .ref q4, .ref q5, .int 0] 24 24 3) hC hK inG7 tyX7 tyX7_ok nmX7 hH hS 0 (by decide) rfl rfl 5 (by decide) qF_X7_33 rfl rfl rfl rfl (Nat.le_of_ble_eq_true rfl) rfl wX_fs dX7_init_81 (fun H locs hH hS => ?_)
        rw [hQ]
        exact cg_rv hC hr hlk ⟨rfl, rfl, k0, rfl⟩ (wX_end hH k1 k2 ((ko 3 (by decide)).trans ((go 3 (by decide)).trans f3)) ((ko 28 (by decide)).trans g4) k5) hS (Nat.le_of_ble_eq_true rfl) (Nat.le_of_ble_eq_true rfl) dX7_init_84
      · have c1 := nc_nle (a := 24) (b := k) (by decide) (by omega) c1
        refine lv_aload_n hx hb dX7_init_30 rfl (lv_at hl 1 rfl) ?_
        rw [← h0]
        refine g_get hC hK inG7 hH 0 (by decide) rfl (ci := 5) rfl 1 (by decide) qF_X7_17 (Or.inl rfl) rfl dX7_init_31 ?_
        refine lv_iload_n hx hb dX7_init_34 rfl (lv_at hl 0 rfl) ?_
        refine g_new (ci := 1) (fs := [.int 0, .long 0, .double 0, .null]) hC hK inG1 tyX1 tyX1_ok qC_X7_15 qNew_X1 qInit_X1 rfl (fun j hj => by rcases (by omega : j = 0 ∨ j = 1 ∨ j = 2 ∨ j = 3) with rfl | rfl | rfl | rfl <;> rfl) hS hA (by show 2 + k + 1 ≤ 29; omega) (by show 36 + 4 * k + 4 ≤ 164; omega) dX7_init_35 (fun H1 z1 o1 hA1 hat hS => ?_)
        have hH1 := hp.mk1 hA1 hat
        refine lv_dup hx hb dX7_init_38 rfl ?_
        refine cg_IN (As' := []) (rest := [.ref H.size, .int (nI k), .ref q2]) (host := RX7) hC (CM.cg c_X1_init) mi_X1 (by decide +kernel) ⟨⟨rfl, rfl⟩, Nat.le_of_ble_eq_true rfl, Nat.le_of_ble_eq_true rfl⟩ hK hH1 hS hA hl.1 ⟨by show 2 + k + 1 + 0 ≤ 29; omega, by show 36 + 4 * k + 4 + 0 ≤ 164; omega⟩ rfl rfl (Nat.le_of_ble_eq_true rfl) dX7_init_39 (fun v N' ad' ct' H2 locs2 hpo hH2 hS hz2 hk2 => ?_)
        obtain ⟨rfl, rfl, rfl, rfl⟩ := hpo
        have kp := keep2 z1 o1 hk2
        have hat2 : va_at D vwCl (H.size, cE0) H2 := (hH2.2 0 _ (by decide) rfl).2
        obtain ⟨ad', f0, f1, f2, fo, fk, hH⟩ := wX_grow (kc' := k + 1) (z' := 0) hH h0 h1 h2 kp hA1 hat2 (4 + k) (by omega) (Or.inr (Nat.le_refl _)) (by unfold wX; rw [if_neg (by omega), if_neg (by omega), if_neg (by omega), if_neg (by omega), if_pos (by omega)]) (wX_kc c1)
        generalize H.size = qn at fk ⊢
        show W _ _ _ _ _ _ _ _ _ _ _ _ _ _ _ (F0 _ _ _ [.ref qn, .int (nI k), .ref q2])
        rw [← fk, ← f2]
        refine g_aast (ct' := wX cy ad' [.ref q1, .ref q2, .null, .null, .null, .int 0] (k + 1) (k + 1) 0) (E := RX1) (t0 := 3) hC hK hH hS 2 (by decide) rfl rfl (vp_in_nI c1 (by decide)) (4 + k) (by omega) (fs := [.int (-1), .long 0, .double 0, .null]) (by unfold wX; rw [if_neg (by omega), if_neg (by omega), if_neg (by omega), if_neg (by omega), if_pos (by omega)]; rfl) (ci := 1) rfl (Or.inl rfl) ?_ wX_k dX7_init_42 (fun H locs hH hS => ?_)
        · rw [nI_clamp (by omega)]
          have e9 : (fun j => if j < k + 1 then some (ad' (4 + j)) else none) = va_up (fun j => if j < k then some (ad' (4 + j)) else none) k (some (ad' (4 + k))) := by
            funext j
            unfold va_up
            by_cases c2 : j = k
            · rw [if_pos c2, if_pos (by omega), c2]
            · rw [if_neg c2]
              by_cases c3 : j < k
              · show _ = if j < k then some (ad' (4 + j)) else none
                rw [if_pos c3, if_pos (by omega)]
              · show _ = if j < k then some (ad' (4 + j)) else none
                rw [if_neg c3, if_neg (by omega)]
          rw [← e9]; rfl
        · refine lv_iinc (v := nI (k + 1)) (lv' := [(1, .int (nI (k + 1))), (0, .ref q)]) hx hb dX7_init_43 hl (k := 0) rfl (nI_1 _) (by decide) rfl (fun ls hl => ?_)
          refine lv_goto (tgt := 24) hx hb dX7_init_46 (by decide) ?_
          refine W.widen (k := 2 + (k + 1)) (n := 36 + 4 * (k + 1)) (by omega) (by omega) ?_
          exact ih (k + 1) (by omega) (by omega) ad' _ _ f0 f1 f2 hH hS ls hl
  exact lp 25 0 (by decide) (by decide) _ _ _ rfl rfl rfl hH hS ls hl
