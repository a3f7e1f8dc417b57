/-! CONSTRUCTORS, each over its own object alone -/
abbrev ad1 (q : Nat) : Nat → Nat := fun _ => q
def ct1 (e : va_E) : Nat → Option va_E := fun i => if i = 0 then some e else none
abbrev ad2 (q q' : Nat) : Nat → Nat := fun i => if i = 0 then q else q'
def ct2 (e e' : va_E) : Nat → Option va_E := fun i => if i = 0 then some e else if i = 1 then some e' else none
theorem ct1_ne {e e' : va_E} : ∀ j, j ≠ 0 → ct1 e' j = ct1 e j := fun j hj => by unfold ct1; rw [if_neg hj, if_neg hj]
theorem ct2_ne {e e' a : va_E} : ∀ j, j ≠ 0 → ct2 e' a j = ct2 e a j := fun j hj => by unfold ct2; rw [if_neg hj, if_neg hj]
theorem hp.mk1 {D : va_G} {A : Nat → Prop} {q : Nat} {e : va_E} {H : Heap} (hA : A q) (h : va_at D vwCl (q, e) H) : hp D A 1 (ad1 q) (ct1 e) H := by
  refine ⟨fun i j x y hi hj _ _ _ => by omega, fun i x hi hx => ?_⟩
  obtain rfl : i = 0 := by omega
  cases hx
  exact ⟨hA, h⟩
theorem hp.mk2 {D : va_G} {A : Nat → Prop} {q : Nat} {e e' : va_E} {H H1 : Heap} (h : hp D A 1 (ad1 q) (ct1 e) H) (keep : ∀ q : Nat, q < H.size → H1[q]? = H[q]?) (hA : A H.size) (h2 : va_at D vwCl (H.size, e') H1) : hp D A 2 (ad2 q H.size) (ct2 e e') H1 := by
  have hq : q < H.size := h.lt (i := 0) (by decide) rfl
  refine h.grow keep (fun i x hi hx => ?_) (fun i j x y hi hj hx hy hge hij => ?_)
  · rcases (by omega : i = 0 ∨ i = 1) with rfl | rfl
    · cases hx; exact Or.inl ⟨by decide, rfl, e, rfl, id⟩
    · cases hx; exact Or.inr ⟨Nat.le_refl _, hA, h2⟩
  · rcases (by omega : i = 0 ∨ i = 1) with rfl | rfl <;> rcases (by omega : j = 0 ∨ j = 1) with rfl | rfl
    · rfl
    · have hge' : H.size ≤ q := hge; omega
    · have hij' : H.size = q := hij; omega
    · rfl
theorem hp.nil {D : va_G} {A : Nat → Prop} {ad : Nat → Nat} {ct : Nat → Option va_E} {H : Heap} : hp D A 0 ad ct H := ⟨fun i j _ _ h => absurd h (Nat.not_lt_zero i), fun i _ h => absurd h (Nat.not_lt_zero i)⟩
abbrev rmC (f c s k : Nat) : Room := { frames := f, cells := c, slots := s, locals := k }
theorem mi_X4 : miok yX4_init cX4_init 2 1 := ⟨qK_X4_init, qI_X4_init, qInit_X4, rfl, by decide +kernel⟩
theorem mi_X3 : miok yX3_init cX3_init 2 1 := ⟨qK_X3_init, qI_X3_init, qInit_X3, rfl, by decide +kernel⟩
theorem mi_X0 : miok yX0_init cX0_init 3 2 := ⟨qK_X0_init, qI_X0_init, qInit_X0, rfl, by decide +kernel⟩
theorem mi_X6 : miok yX6_init cX6_init 3 2 := ⟨qK_X6_init, qI_X6_init, qInit_X6, rfl, by decide +kernel⟩
theorem mi_X2 : miok yX2_init cX2_init 3 2 := ⟨qK_X2_init, qI_X2_init, qInit_X2, rfl, by decide +kernel⟩
theorem mi_X5 : miok yX5_init cX5_init 3 2 := ⟨qK_X5_init, qI_X5_init, qInit_X5, rfl, by decide +kernel⟩
theorem mi_X1 : miok yX1_init cX1_init 1 0 := ⟨qK_X1_init, qI_X1_init, qInit_X1, rfl, by decide +kernel⟩
theorem mi_X7 : miok yX7_init cX7_init 2 0 := ⟨qK_X7_init, qI_X7_init, qInit_X7, rfl, by decide +kernel⟩
theorem mi_X8 : miok yX8_init cX8_init 1 0 := ⟨qK_X8_init, qI_X8_init, qInit_X8, rfl, by decide +kernel⟩
set_option maxHeartbeats 4000000 in
set_option maxRecDepth 100000 in
theorem c_X4_init0 {l : Launch} {D : va_G} {cy : Nat → ClassId} {q : Nat} {k x : Int32} {v1 : Value} : CM l yX4_init cX4_init 2 none (rm_ 1 12) D cy 1 (ad1 q) [.ref q, .int k] (ct1 (.inr (0, [.int x, v1]))) none (ct1 (.inr (0, [.int k, v1]))) := by
  refine CM.start (by decide) (Nat.le_of_ble_eq_true rfl) ?_
  intro p_ e_ s m_ below meth cd A ls hC hr hlk hin hK hA hH hl
  obtain ⟨hx, hb, hml, hown, hts⟩ := id hC
  have hS : va_S A s.heap s.heap [] := va_S.rf
  have hl : lv_has ls 2 [(0, .ref q), (1, .int k)] := hl
  refine lv_aload_n hx hb dX4_init_0 rfl (lv_at hl 0 rfl) ?_
  refine g_obj hC qM_X4_1 hl.1 dX4_init_1 (Nat.le_of_ble_eq_true rfl) (Nat.le_of_ble_eq_true rfl) ?_
  refine lv_aload_n hx hb dX4_init_4 rfl (lv_at hl 0 rfl) ?_
  refine lv_iload_n hx hb dX4_init_5 rfl (lv_at hl 1 rfl) ?_
  refine g_putF (ct' := ct1 (.inr (0, [.int k, v1]))) hC hK inG0 tyX0 tyX0_ok nmX0 (hin rfl) hH hS 0 (by decide) rfl rfl 0 (by decide) qF_X4_7 rfl rfl rfl rfl rfl (Nat.le_of_ble_eq_true rfl) rfl ct1_ne dX4_init_6 (fun H locs hH hS _ _ => ?_)
  exact cm_rv hC hr hlk rfl hH hS dX4_init_9
set_option maxHeartbeats 4000000 in
set_option maxRecDepth 100000 in
theorem c_X4_init2 {l : Launch} {D : va_G} {cy : Nat → ClassId} {q : Nat} {k x : Int32} {v1 : Value} : CM l yX4_init cX4_init 2 none (rm_ 1 12) D cy 1 (ad1 q) [.ref q, .int k] (ct1 (.inr (2, [.int x, v1]))) none (ct1 (.inr (2, [.int k, v1]))) := by
  refine CM.start (by decide) (Nat.le_of_ble_eq_true rfl) ?_
  intro p_ e_ s m_ below meth cd A ls hC hr hlk hin hK hA hH hl
  obtain ⟨hx, hb, hml, hown, hts⟩ := id hC
  have hS : va_S A s.heap s.heap [] := va_S.rf
  have hl : lv_has ls 2 [(0, .ref q), (1, .int k)] := hl
  refine lv_aload_n hx hb dX4_init_0 rfl (lv_at hl 0 rfl) ?_
  refine g_obj hC qM_X4_1 hl.1 dX4_init_1 (Nat.le_of_ble_eq_true rfl) (Nat.le_of_ble_eq_true rfl) ?_
  refine lv_aload_n hx hb dX4_init_4 rfl (lv_at hl 0 rfl) ?_
  refine lv_iload_n hx hb dX4_init_5 rfl (lv_at hl 1 rfl) ?_
  refine g_putF (ct' := ct1 (.inr (2, [.int k, v1]))) hC hK inG2 tyX2 tyX2_ok nmX2 (hin rfl) hH hS 0 (by decide) rfl rfl 0 (by decide) qF_X4_7 rfl rfl rfl rfl rfl (Nat.le_of_ble_eq_true rfl) rfl ct1_ne dX4_init_6 (fun H locs hH hS _ _ => ?_)
  exact cm_rv hC hr hlk rfl hH hS dX4_init_9
set_option maxHeartbeats 4000000 in
set_option maxRecDepth 100000 in
theorem c_X3_init2 {l : Launch} {D : va_G} {cy : Nat → ClassId} {q : Nat} {k x : Int32} {v1 : Value} : CM l yX3_init cX3_init 2 none (rm_ 2 33) D cy 1 (ad1 q) [.ref q, .int k] (ct1 (.inr (2, [.int x, v1]))) none (ct1 (.inr (2, [.int k, v1]))) := by
  refine CM.start (by decide) (Nat.le_of_ble_eq_true rfl) ?_
  intro p_ e_ s m_ below meth cd A ls hC hr hlk hin hK hA hH hl
  obtain ⟨hx, hb, hml, hown, hts⟩ := id hC
  have hS : va_S A s.heap s.heap [] := va_S.rf
  have hl : lv_has ls 2 [(0, .ref q), (1, .int k)] := hl
  refine lv_aload_n hx hb dX3_init_0 rfl (lv_at hl 0 rfl) ?_
  refine lv_iload_n hx hb dX3_init_1 rfl (lv_at hl 1 rfl) ?_
  refine cm_I (As' := [.int k]) (rest := []) hC c_X4_init2 mi_X4 qM_X3_3 ⟨⟨rfl, rfl⟩, Nat.le_of_ble_eq_true rfl, Nat.le_of_ble_eq_true rfl⟩ hK hH hS hA hl.1 ⟨Nat.zero_le _, Nat.zero_le _⟩ rfl rfl (Nat.le_of_ble_eq_true rfl) dX3_init_2 (fun H locs hH hS => ?_)
  exact cm_rv hC hr hlk rfl hH hS dX3_init_5
set_option maxHeartbeats 4000000 in
set_option maxRecDepth 100000 in
theorem c_X4_init3 {l : Launch} {D : va_G} {cy : Nat → ClassId} {q : Nat} {k x : Int32} {v1 : Value} : CM l yX4_init cX4_init 2 none (rm_ 1 12) D cy 1 (ad1 q) [.ref q, .int k] (ct1 (.inr (3, [.int x, v1]))) none (ct1 (.inr (3, [.int k, v1]))) := by
  refine CM.start (by decide) (Nat.le_of_ble_eq_true rfl) ?_
  intro p_ e_ s m_ below meth cd A ls hC hr hlk hin hK hA hH hl
  obtain ⟨hx, hb, hml, hown, hts⟩ := id hC
  have hS : va_S A s.heap s.heap [] := va_S.rf
  have hl : lv_has ls 2 [(0, .ref q), (1, .int k)] := hl
  refine lv_aload_n hx hb dX4_init_0 rfl (lv_at hl 0 rfl) ?_
  refine g_obj hC qM_X4_1 hl.1 dX4_init_1 (Nat.le_of_ble_eq_true rfl) (Nat.le_of_ble_eq_true rfl) ?_
  refine lv_aload_n hx hb dX4_init_4 rfl (lv_at hl 0 rfl) ?_
  refine lv_iload_n hx hb dX4_init_5 rfl (lv_at hl 1 rfl) ?_
  refine g_putF (ct' := ct1 (.inr (3, [.int k, v1]))) hC hK inG5 tyX5 tyX5_ok nmX5 (hin rfl) hH hS 0 (by decide) rfl rfl 0 (by decide) qF_X4_7 rfl rfl rfl rfl rfl (Nat.le_of_ble_eq_true rfl) rfl ct1_ne dX4_init_6 (fun H locs hH hS _ _ => ?_)
  exact cm_rv hC hr hlk rfl hH hS dX4_init_9
set_option maxHeartbeats 4000000 in
set_option maxRecDepth 100000 in
theorem c_X3_init3 {l : Launch} {D : va_G} {cy : Nat → ClassId} {q : Nat} {k x : Int32} {v1 : Value} : CM l yX3_init cX3_init 2 none (rm_ 2 33) D cy 1 (ad1 q) [.ref q, .int k] (ct1 (.inr (3, [.int x, v1]))) none (ct1 (.inr (3, [.int k, v1]))) := by
  refine CM.start (by decide) (Nat.le_of_ble_eq_true rfl) ?_
  intro p_ e_ s m_ below meth cd A ls hC hr hlk hin hK hA hH hl
  obtain ⟨hx, hb, hml, hown, hts⟩ := id hC
  have hS : va_S A s.heap s.heap [] := va_S.rf
  have hl : lv_has ls 2 [(0, .ref q), (1, .int k)] := hl
  refine lv_aload_n hx hb dX3_init_0 rfl (lv_at hl 0 rfl) ?_
  refine lv_iload_n hx hb dX3_init_1 rfl (lv_at hl 1 rfl) ?_
  refine cm_I (As' := [.int k]) (rest := []) hC c_X4_init3 mi_X4 qM_X3_3 ⟨⟨rfl, rfl⟩, Nat.le_of_ble_eq_true rfl, Nat.le_of_ble_eq_true rfl⟩ hK hH hS hA hl.1 ⟨Nat.zero_le _, Nat.zero_le _⟩ rfl rfl (Nat.le_of_ble_eq_true rfl) dX3_init_2 (fun H locs hH hS => ?_)
  exact cm_rv hC hr hlk rfl hH hS dX3_init_5
set_option maxHeartbeats 4000000 in
set_option maxRecDepth 100000 in
theorem c_X4_init4 {l : Launch} {D : va_G} {cy : Nat → ClassId} {q : Nat} {k x : Int32} {v1 : Value} : CM l yX4_init cX4_init 2 none (rm_ 1 12) D cy 1 (ad1 q) [.ref q, .int k] (ct1 (.inr (4, [.int x, v1]))) none (ct1 (.inr (4, [.int k, v1]))) := by
  refine CM.start (by decide) (Nat.le_of_ble_eq_true rfl) ?_
  intro p_ e_ s m_ below meth cd A ls hC hr hlk hin hK hA hH hl
  obtain ⟨hx, hb, hml, hown, hts⟩ := id hC
  have hS : va_S A s.heap s.heap [] := va_S.rf
  have hl : lv_has ls 2 [(0, .ref q), (1, .int k)] := hl
  refine lv_aload_n hx hb dX4_init_0 rfl (lv_at hl 0 rfl) ?_
  refine g_obj hC qM_X4_1 hl.1 dX4_init_1 (Nat.le_of_ble_eq_true rfl) (Nat.le_of_ble_eq_true rfl) ?_
  refine lv_aload_n hx hb dX4_init_4 rfl (lv_at hl 0 rfl) ?_
  refine lv_iload_n hx hb dX4_init_5 rfl (lv_at hl 1 rfl) ?_
  refine g_putF (ct' := ct1 (.inr (4, [.int k, v1]))) hC hK inG6 tyX6 tyX6_ok nmX6 (hin rfl) hH hS 0 (by decide) rfl rfl 0 (by decide) qF_X4_7 rfl rfl rfl rfl rfl (Nat.le_of_ble_eq_true rfl) rfl ct1_ne dX4_init_6 (fun H locs hH hS _ _ => ?_)
  exact cm_rv hC hr hlk rfl hH hS dX4_init_9
set_option maxHeartbeats 4000000 in
set_option maxRecDepth 100000 in
theorem c_X3_init4 {l : Launch} {D : va_G} {cy : Nat → ClassId} {q : Nat} {k x : Int32} {v1 : Value} : CM l yX3_init cX3_init 2 none (rm_ 2 33) D cy 1 (ad1 q) [.ref q, .int k] (ct1 (.inr (4, [.int x, v1]))) none (ct1 (.inr (4, [.int k, v1]))) := by
  refine CM.start (by decide) (Nat.le_of_ble_eq_true rfl) ?_
  intro p_ e_ s m_ below meth cd A ls hC hr hlk hin hK hA hH hl
  obtain ⟨hx, hb, hml, hown, hts⟩ := id hC
  have hS : va_S A s.heap s.heap [] := va_S.rf
  have hl : lv_has ls 2 [(0, .ref q), (1, .int k)] := hl
  refine lv_aload_n hx hb dX3_init_0 rfl (lv_at hl 0 rfl) ?_
  refine lv_iload_n hx hb dX3_init_1 rfl (lv_at hl 1 rfl) ?_
  refine cm_I (As' := [.int k]) (rest := []) hC c_X4_init4 mi_X4 qM_X3_3 ⟨⟨rfl, rfl⟩, Nat.le_of_ble_eq_true rfl, Nat.le_of_ble_eq_true rfl⟩ hK hH hS hA hl.1 ⟨Nat.zero_le _, Nat.zero_le _⟩ rfl rfl (Nat.le_of_ble_eq_true rfl) dX3_init_2 (fun H locs hH hS => ?_)
  exact cm_rv hC hr hlk rfl hH hS dX3_init_5
set_option maxHeartbeats 4000000 in
set_option maxRecDepth 100000 in
theorem c_X0_init {l : Launch} {D : va_G} {cy : Nat → ClassId} {q : Nat} {k g x y : Int32} : CM l yX0_init cX0_init 3 none (rm_ 2 33) D cy 1 (ad1 q) [.ref q, .int k, .int g] (ct1 (.inr (0, [.int x, .int y]))) none (ct1 (.inr (0, [.int k, .int g]))) := by
  refine CM.start (by decide) (Nat.le_of_ble_eq_true rfl) ?_
  intro p_ e_ s m_ below meth cd A ls hC hr hlk hin hK hA hH hl
  obtain ⟨hx, hb, hml, hown, hts⟩ := id hC
  have hS : va_S A s.heap s.heap [] := va_S.rf
  have hl : lv_has ls 3 [(0, .ref q), (1, .int k), (2, .int g)] := hl
  refine lv_aload_n hx hb dX0_init_0 rfl (lv_at hl 0 rfl) ?_
  refine lv_iload_n hx hb dX0_init_1 rfl (lv_at hl 1 rfl) ?_
  refine cm_I (As' := [.int k]) (rest := []) hC c_X4_init0 mi_X4 qM_X0_1 ⟨⟨rfl, rfl⟩, Nat.le_of_ble_eq_true rfl, Nat.le_of_ble_eq_true rfl⟩ hK hH hS hA hl.1 ⟨Nat.zero_le _, Nat.zero_le _⟩ rfl rfl (Nat.le_of_ble_eq_true rfl) dX0_init_2 (fun H locs hH hS => ?_)
  refine lv_aload_n hx hb dX0_init_5 rfl (lv_at hl 0 rfl) ?_
  refine lv_iload_n hx hb dX0_init_6 rfl (lv_at hl 2 rfl) ?_
  refine g_putF (ct' := ct1 (.inr (0, [.int k, .int g]))) hC hK inG0 tyX0 tyX0_ok nmX0 (hin rfl) hH hS 0 (by decide) rfl rfl 1 (by decide) qF_X0_7 rfl rfl rfl rfl rfl (Nat.le_of_ble_eq_true rfl) rfl ct1_ne dX0_init_7 (fun H locs hH hS _ _ => ?_)
  exact cm_rv hC hr hlk rfl hH hS dX0_init_10
set_option maxHeartbeats 4000000 in
set_option maxRecDepth 100000 in
theorem c_X6_init {l : Launch} {D : va_G} {cy : Nat → ClassId} {q n : Nat} {k x : Int32} (hn : n ≤ 24) : CG l yX6_init cX6_init 3 none (rmC 3 1 24 54) D cy 1 24 1 (ad1 q) [.ref q, .int k, .int (nI n)] (ct1 (.inr (4, [.int x, .null]))) (fun v N' ad' ct' => v = none ∧ N' = 2 ∧ ∃ q', ad' = ad2 q q' ∧ ct' = ct2 (.inr (4, [.int k, .ref q'])) (.inl (cy 1, n, .inr (.inl (fun _ => 0))))) := by
  refine CG.start (by decide) (Nat.le_of_ble_eq_true rfl) ?_
  intro p_ e_ s m_ args_ below meth cd A ls Q hQ hC hr hlk hin hK hA hH hl
  obtain ⟨hx, hb, hml, hown, hts⟩ := id hC
  have hS : va_S A s.heap s.heap [] := va_S.rf
  have hl : lv_has ls 3 [(0, .ref q), (1, .int k), (2, .int (nI n))] := hl
  refine lv_aload_n hx hb dX6_init_0 rfl (lv_at hl 0 rfl) ?_
  refine lv_iload_n hx hb dX6_init_1 rfl (lv_at hl 1 rfl) ?_
  refine cm_I (As' := [.int k]) (rest := []) hC c_X3_init4 mi_X3 qM_X6_1 ⟨⟨rfl, rfl⟩, Nat.le_of_ble_eq_true rfl, Nat.le_of_ble_eq_true rfl⟩ hK hH hS hA hl.1 ⟨Nat.zero_le _, Nat.zero_le _⟩ rfl rfl (Nat.le_of_ble_eq_true rfl) dX6_init_2 (fun H locs hH hS => ?_)
  refine lv_aload_n hx hb dX6_init_5 rfl (lv_at hl 0 rfl) ?_
  refine lv_iload_n hx hb dX6_init_6 rfl (lv_at hl 2 rfl) ?_
  refine g_newa (atype := .long) (t0 := 1) (a0 := (n, .inr (.inl (fun _ => 0)))) hC hK qA_long rfl rfl (nI_pos (by omega)) (nI_clamp (by omega)) (by show n * 8 ≤ _; omega) hS hA (Nat.le_of_ble_eq_true rfl) (by show 0 + n ≤ 24; omega) dX6_init_7 (fun H1 z1 o1 hA1 hat hS => ?_)
  have hH2 := hH.mk2 o1 hA1 hat
  generalize H.size = q' at hH2 ⊢
  refine g_putF (ct' := ct2 (.inr (4, [.int k, .ref q'])) (.inl (cy 1, n, .inr (.inl (fun _ => 0))))) hC hK inG6 tyX6 tyX6_ok nmX6 (hin rfl) hH2 hS 0 (by decide) rfl rfl 1 (by decide) qF_X6_7 rfl rfl rfl rfl rfl (Nat.le_of_ble_eq_true rfl) rfl ct2_ne dX6_init_9 (fun H locs hH hS _ _ => ?_)
  rw [hQ]
  exact cg_rv hC hr hlk ⟨rfl, rfl, q', rfl, rfl⟩ hH hS (by show 0 + 1 ≤ 1; omega) (by show 0 + n ≤ 24; omega) dX6_init_12
set_option maxHeartbeats 4000000 in
set_option maxRecDepth 100000 in
theorem c_X2_init {l : Launch} {D : va_G} {cy : Nat → ClassId} {q n : Nat} {k x : Int32} (hn : n ≤ 24) : CG l yX2_init cX2_init 3 none (rmC 3 1 24 54) D cy 1 24 1 (ad1 q) [.ref q, .int k, .int (nI n)] (ct1 (.inr (2, [.int x, .null]))) (fun v N' ad' ct' => v = none ∧ N' = 2 ∧ ∃ q', ad' = ad2 q q' ∧ ct' = ct2 (.inr (2, [.int k, .ref q'])) (.inl (cy 2, n, .inr (.inr (.inr (.inl (fun _ => 0))))))) := by
  refine CG.start (by decide) (Nat.le_of_ble_eq_true rfl) ?_
  intro p_ e_ s m_ args_ below meth cd A ls Q hQ hC hr hlk hin hK hA hH hl
  obtain ⟨hx, hb, hml, hown, hts⟩ := id hC
  have hS : va_S A s.heap s.heap [] := va_S.rf
  have hl : lv_has ls 3 [(0, .ref q), (1, .int k), (2, .int (nI n))] := hl
  refine lv_aload_n hx hb dX2_init_0 rfl (lv_at hl 0 rfl) ?_
  refine lv_iload_n hx hb dX2_init_1 rfl (lv_at hl 1 rfl) ?_
  refine cm_I (As' := [.int k]) (rest := []) hC c_X3_init2 mi_X3 qM_X2_1 ⟨⟨rfl, rfl⟩, Nat.le_of_ble_eq_true rfl, Nat.le_of_ble_eq_true rfl⟩ hK hH hS hA hl.1 ⟨Nat.zero_le _, Nat.zero_le _⟩ rfl rfl (Nat.le_of_ble_eq_true rfl) dX2_init_2 (fun H locs hH hS => ?_)
  refine lv_aload_n hx hb dX2_init_5 rfl (lv_at hl 0 rfl) ?_
  refine lv_iload_n hx hb dX2_init_6 rfl (lv_at hl 2 rfl) ?_
  refine g_newa (atype := .double) (t0 := 2) (a0 := (n, .inr (.inr (.inr (.inl (fun _ => 0)))))) hC hK qA_double rfl rfl (nI_pos (by omega)) (nI_clamp (by omega)) (by show n * 8 ≤ _; omega) hS hA (Nat.le_of_ble_eq_true rfl) (by show 0 + n ≤ 24; omega) dX2_init_7 (fun H1 z1 o1 hA1 hat hS => ?_)
  have hH2 := hH.mk2 o1 hA1 hat
  generalize H.size = q' at hH2 ⊢
  refine g_putF (ct' := ct2 (.inr (2, [.int k, .ref q'])) (.inl (cy 2, n, .inr (.inr (.inr (.inl (fun _ => 0))))))) hC hK inG2 tyX2 tyX2_ok nmX2 (hin rfl) hH2 hS 0 (by decide) rfl rfl 1 (by decide) qF_X2_7 rfl rfl rfl rfl rfl (Nat.le_of_ble_eq_true rfl) rfl ct2_ne dX2_init_9 (fun H locs hH hS _ _ => ?_)
  rw [hQ]
  exact cg_rv hC hr hlk ⟨rfl, rfl, q', rfl, rfl⟩ hH hS (by show 0 + 1 ≤ 1; omega) (by show 0 + n ≤ 24; omega) dX2_init_12
set_option maxHeartbeats 4000000 in
set_option maxRecDepth 100000 in
theorem c_X5_init {l : Launch} {D : va_G} {cy : Nat → ClassId} {q n : Nat} {k x : Int32} (hn : n ≤ 24) : CG l yX5_init cX5_init 3 none (rmC 3 1 24 54) D cy 1 24 1 (ad1 q) [.ref q, .int k, .int (nI n)] (ct1 (.inr (3, [.int x, .null]))) (fun v N' ad' ct' => v = none ∧ N' = 2 ∧ ∃ q', ad' = ad2 q q' ∧ ct' = ct2 (.inr (3, [.int k, .ref q'])) (.inl (cy 4, n, .inr (.inr (.inr (.inr (fun _ => none))))))) := by
  refine CG.start (by decide) (Nat.le_of_ble_eq_true rfl) ?_
  intro p_ e_ s m_ args_ below meth cd A ls Q hQ hC hr hlk hin hK hA hH hl
  obtain ⟨hx, hb, hml, hown, hts⟩ := id hC
  have hS : va_S A s.heap s.heap [] := va_S.rf
  have hl : lv_has ls 3 [(0, .ref q), (1, .int k), (2, .int (nI n))] := hl
  refine lv_aload_n hx hb dX5_init_0 rfl (lv_at hl 0 rfl) ?_
  refine lv_iload_n hx hb dX5_init_1 rfl (lv_at hl 1 rfl) ?_
  refine cm_I (As' := [.int k]) (rest := []) hC c_X3_init3 mi_X3 qM_X5_1 ⟨⟨rfl, rfl⟩, Nat.le_of_ble_eq_true rfl, Nat.le_of_ble_eq_true rfl⟩ hK hH hS hA hl.1 ⟨Nat.zero_le _, Nat.zero_le _⟩ rfl rfl (Nat.le_of_ble_eq_true rfl) dX5_init_2 (fun H locs hH hS => ?_)
  refine lv_aload_n hx hb dX5_init_5 rfl (lv_at hl 0 rfl) ?_
  refine lv_iload_n hx hb dX5_init_6 rfl (lv_at hl 2 rfl) ?_
  refine g_newq (t0 := 4) (C := RX4) hC hK qC_X5_7 hK.2.2.1.2 rfl (nI_pos (by omega)) (nI_clamp (by omega)) (by omega) hS hA (Nat.le_of_ble_eq_true rfl) (by show 0 + n ≤ 24; omega) dX5_init_7 (fun H1 z1 o1 hA1 hat hS => ?_)
  have hH2 := hH.mk2 o1 hA1 hat
  generalize H.size = q' at hH2 ⊢
  refine g_putF (ct' := ct2 (.inr (3, [.int k, .ref q'])) (.inl (cy 4, n, .inr (.inr (.inr (.inr (fun _ => none))))))) hC hK inG5 tyX5 tyX5_ok nmX5 (hin rfl) hH2 hS 0 (by decide) rfl rfl 1 (by decide) qF_X5_9 rfl rfl rfl rfl rfl (Nat.le_of_ble_eq_true rfl) rfl ct2_ne dX5_init_10 (fun H locs hH hS _ _ => ?_)
  rw [hQ]
  exact cg_rv hC hr hlk ⟨rfl, rfl, q', rfl, rfl⟩ hH hS (by show 0 + 1 ≤ 1; omega) (by show 0 + n ≤ 24; omega) dX5_init_13
/-- a row's object and its array, by its kind -/
def nrO (k : Nat) (q' : Nat) : va_E := if k ≤ 5 then .inr (4, [.int (nI k), .ref q']) else if k ≤ 7 then .inr (2, [.int (nI k), .ref q']) else .inr (3, [.int (nI k), .ref q'])
def nrA (cy : Nat → ClassId) (k n : Nat) : va_E := if k ≤ 5 then .inl (cy 1, n, .inr (.inl (fun _ => 0))) else if k ≤ 7 then .inl (cy 2, n, .inr (.inr (.inr (.inl (fun _ => 0))))) else .inl (cy 4, n, .inr (.inr (.inr (.inr (fun _ => none)))))
theorem ms_X7_newRow : msok yX7_newRow cX7_newRow 2 (some (.object "ColumnHouse$Row")) 2 := ⟨qK_X7_newRow, qSt_X7_newRow, qInit_X7, by decide +kernel⟩
set_option maxHeartbeats 4000000 in
set_option maxRecDepth 100000 in
theorem c_X7_newRow {l : Launch} {D : va_G} {cy : Nat → ClassId} {ad : Nat → Nat} {ct : Nat → Option va_E} {k n : Nat} (hk : k < 12) (hn : n ≤ 24) : CG l yX7_newRow cX7_newRow 2 (some (.object "ColumnHouse$Row")) (rmC 4 2 26 76) D cy 2 26 0 ad [.int (nI k), .int (nI n)] ct (fun v N' ad' ct' => N' = 2 ∧ ∃ q q', v = some (.ref q) ∧ ad' = ad2 q q' ∧ ct' = ct2 (nrO k q') (nrA cy k n)) := by
  refine CG.start (by decide) (Nat.le_of_ble_eq_true rfl) ?_
  intro p_ e_ s m_ args_ below meth cd A ls Q hQ hC hr hlk hin hK hA hH hl
  obtain ⟨hx, hb, hml, hown, hts⟩ := id hC
  have hS : va_S A s.heap s.heap [] := va_S.rf
  have hl : lv_has ls 2 [(0, .int (nI k)), (1, .int (nI n))] := hl
  refine lv_iload_n hx hb dX7_newRow_0 rfl (lv_at hl 0 rfl) ?_
  refine lv_iconst (v := 5) hx hb dX7_newRow_1 (by decide) ?_
  refine lv_icmp_gt hx hb dX7_newRow_2 (tgt := 15) (by decide) (fun c2 => ?_) (fun c2 => ?_)
  · have c2 := nc_lt (a := 5) (b := k) (by omega) (by omega) c2
    refine lv_iload_n hx hb dX7_newRow_15 rfl (lv_at hl 0 rfl) ?_
    refine lv_bipush (v := 7) hx hb dX7_newRow_16 (by decide) ?_
    refine lv_icmp_gt hx hb dX7_newRow_18 (tgt := 31) (by decide) (fun c3 => ?_) (fun c3 => ?_)
    · have c3 := nc_lt (a := 7) (b := k) (by omega) (by omega) c3
      refine g_new (ci := 3) (fs := [.int 0, .null]) hC hK inG5 tyX5 tyX5_ok qC_X7_192 qNew_X5 qInit_X5 rfl (fun j hj => by rcases (by omega : j = 0 ∨ j = 1) with rfl | rfl <;> rfl) hS hA (Nat.le_of_ble_eq_true rfl) (Nat.le_of_ble_eq_true rfl) dX7_newRow_31 (fun H1 z1 o1 hA1 hat hS => ?_)
      have hH1 := hp.mk1 hA1 hat
      generalize s.heap.size = q at hH1 ⊢
      refine lv_dup hx hb dX7_newRow_34 rfl ?_
      refine lv_iload_n hx hb dX7_newRow_35 rfl (lv_at hl 0 rfl) ?_
      refine lv_iload_n hx hb dX7_newRow_36 rfl (lv_at hl 1 rfl) ?_
      refine cg_I (As' := [.int (nI k), .int (nI n)]) (rest := [.ref q]) hC (c_X5_init hn) mi_X5 qM_X7_194 ⟨⟨rfl, rfl⟩, Nat.le_of_ble_eq_true rfl, Nat.le_of_ble_eq_true rfl⟩ hK hH1 hS hA hl.1 ⟨Nat.le_of_ble_eq_true rfl, Nat.le_of_ble_eq_true rfl⟩ rfl rfl (Nat.le_of_ble_eq_true rfl) dX7_newRow_37 (fun v N' ad' ct' H2 locs2 hpo hH2 hS hz2 hk2 => ?_)
      obtain ⟨rfl, rfl, q', rfl, rfl⟩ := hpo
      rw [hQ]
      exact cg_ra hC hr hlk ⟨rfl, q, q', rfl, rfl, by unfold nrO nrA; rw [if_neg (by omega), if_neg (by omega), if_neg (by omega), if_neg (by omega)]⟩ (hH2.mono (fun _ _ _ _ h => h.1)) hS (Nat.le_of_ble_eq_true rfl) (Nat.le_of_ble_eq_true rfl) dX7_newRow_40
    · have c3 := nc_nlt (a := 7) (b := k) (by omega) (by omega) c3
      refine g_new (ci := 2) (fs := [.int 0, .null]) hC hK inG2 tyX2 tyX2_ok qC_X7_189 qNew_X2 qInit_X2 rfl (fun j hj => by rcases (by omega : j = 0 ∨ j = 1) with rfl | rfl <;> rfl) hS hA (Nat.le_of_ble_eq_true rfl) (Nat.le_of_ble_eq_true rfl) dX7_newRow_21 (fun H1 z1 o1 hA1 hat hS => ?_)
      have hH1 := hp.mk1 hA1 hat
      generalize s.heap.size = q at hH1 ⊢
      refine lv_dup hx hb dX7_newRow_24 rfl ?_
      refine lv_iload_n hx hb dX7_newRow_25 rfl (lv_at hl 0 rfl) ?_
      refine lv_iload_n hx hb dX7_newRow_26 rfl (lv_at hl 1 rfl) ?_
      refine cg_I (As' := [.int (nI k), .int (nI n)]) (rest := [.ref q]) hC (c_X2_init hn) mi_X2 qM_X7_191 ⟨⟨rfl, rfl⟩, Nat.le_of_ble_eq_true rfl, Nat.le_of_ble_eq_true rfl⟩ hK hH1 hS hA hl.1 ⟨Nat.le_of_ble_eq_true rfl, Nat.le_of_ble_eq_true rfl⟩ rfl rfl (Nat.le_of_ble_eq_true rfl) dX7_newRow_27 (fun v N' ad' ct' H2 locs2 hpo hH2 hS hz2 hk2 => ?_)
      obtain ⟨rfl, rfl, q', rfl, rfl⟩ := hpo
      rw [hQ]
      exact cg_ra hC hr hlk ⟨rfl, q, q', rfl, rfl, by unfold nrO nrA; rw [if_neg (by omega), if_pos (by omega), if_neg (by omega), if_pos (by omega)]⟩ (hH2.mono (fun _ _ _ _ h => h.1)) hS (Nat.le_of_ble_eq_true rfl) (Nat.le_of_ble_eq_true rfl) dX7_newRow_30
  · have c2 := nc_nlt (a := 5) (b := k) (by omega) (by omega) c2
    refine g_new (ci := 4) (fs := [.int 0, .null]) hC hK inG6 tyX6 tyX6_ok qC_X7_186 qNew_X6 qInit_X6 rfl (fun j hj => by rcases (by omega : j = 0 ∨ j = 1) with rfl | rfl <;> rfl) hS hA (Nat.le_of_ble_eq_true rfl) (Nat.le_of_ble_eq_true rfl) dX7_newRow_5 (fun H1 z1 o1 hA1 hat hS => ?_)
    have hH1 := hp.mk1 hA1 hat
    generalize s.heap.size = q at hH1 ⊢
    refine lv_dup hx hb dX7_newRow_8 rfl ?_
    refine lv_iload_n hx hb dX7_newRow_9 rfl (lv_at hl 0 rfl) ?_
    refine lv_iload_n hx hb dX7_newRow_10 rfl (lv_at hl 1 rfl) ?_
    refine cg_I (As' := [.int (nI k), .int (nI n)]) (rest := [.ref q]) hC (c_X6_init hn) mi_X6 qM_X7_188 ⟨⟨rfl, rfl⟩, Nat.le_of_ble_eq_true rfl, Nat.le_of_ble_eq_true rfl⟩ hK hH1 hS hA hl.1 ⟨Nat.le_of_ble_eq_true rfl, Nat.le_of_ble_eq_true rfl⟩ rfl rfl (Nat.le_of_ble_eq_true rfl) dX7_newRow_11 (fun v N' ad' ct' H2 locs2 hpo hH2 hS hz2 hk2 => ?_)
    obtain ⟨rfl, rfl, q', rfl, rfl⟩ := hpo
    rw [hQ]
    exact cg_ra hC hr hlk ⟨rfl, q, q', rfl, rfl, by unfold nrO nrA; rw [if_pos (by omega), if_pos (by omega)]⟩ (hH2.mono (fun _ _ _ _ h => h.1)) hS (Nat.le_of_ble_eq_true rfl) (Nat.le_of_ble_eq_true rfl) dX7_newRow_14
set_option maxHeartbeats 4000000 in
set_option maxRecDepth 100000 in
theorem c_X1_init {l : Launch} {D : va_G} {cy : Nat → ClassId} {q : Nat} : CM l yX1_init cX1_init 1 none (rm_ 1 12) D cy 1 (ad1 q) [.ref q] (ct1 (.inr (1, [.int 0, .long 0, .double 0, .null]))) none (ct1 (.inr (1, [.int (-1), .long 0, .double 0, .null]))) := by
  refine CM.start (by decide) (Nat.le_of_ble_eq_true rfl) ?_
  intro p_ e_ s m_ below meth cd A ls hC hr hlk hin hK hA hH hl
  obtain ⟨hx, hb, hml, hown, hts⟩ := id hC
  have hS : va_S A s.heap s.heap [] := va_S.rf
  have hl : lv_has ls 1 [(0, .ref q)] := hl
  refine lv_aload_n hx hb dX1_init_0 rfl (lv_at hl 0 rfl) ?_
  refine g_obj hC qM_X1_3 hl.1 dX1_init_1 (Nat.le_of_ble_eq_true rfl) (Nat.le_of_ble_eq_true rfl) ?_
  refine lv_aload_n hx hb dX1_init_4 rfl (lv_at hl 0 rfl) ?_
  refine lv_iconst (v := (-1)) hx hb dX1_init_5 (by decide) ?_
  refine g_put (ct' := ct1 (.inr (1, [.int (-1), .long 0, .double 0, .null]))) hC hK inG1 tyX1 tyX1_ok nmX1 hH hS 0 (by decide) rfl rfl 0 (by decide) qF_X1_9 rfl rfl rfl rfl (Nat.le_of_ble_eq_true rfl) rfl ct1_ne dX1_init_6 (fun H locs hH hS => ?_)
  exact cm_rv hC hr hlk rfl hH hS dX1_init_9
