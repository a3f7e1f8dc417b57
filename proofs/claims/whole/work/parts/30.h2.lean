theorem mu_X6_length : muok RX6 RX3 ⟨RX3, "length", "()I"⟩ yX6_length cX6_length 1 (some .int) 0 := ⟨qK_X6_length, qSM_X3_length, qSel_X6_X6_length_via_X3_length, qI_X6_length, qInit_X6, Or.inr (by decide +kernel), by decide +kernel⟩
theorem mu_X2_length : muok RX2 RX3 ⟨RX3, "length", "()I"⟩ yX2_length cX2_length 1 (some .int) 0 := ⟨qK_X2_length, qSM_X3_length, qSel_X2_X2_length_via_X3_length, qI_X2_length, qInit_X2, Or.inr (by decide +kernel), by decide +kernel⟩
theorem mu_X5_length : muok RX5 RX3 ⟨RX3, "length", "()I"⟩ yX5_length cX5_length 1 (some .int) 0 := ⟨qK_X5_length, qSM_X3_length, qSel_X5_X5_length_via_X3_length, qI_X5_length, qInit_X5, Or.inr (by decide +kernel), by decide +kernel⟩
theorem rc_length {l : Launch} {D : va_G} {cy : Nat → ClassId} {ad : Nat → Nat} {P : AS} {wy : Int32} {cl : Nat → CE} {st : Nat → Nat} {tg : Nat → Int32} {t : Nat} (hw : WF P) (ht : t < P.n) (hk : P.kd t < 12) : RC l ⟨RX3, "length", "()I"⟩ RX3 0 1 20 (some .int) D cy (30 + 2 * P.n) ad (30 + 2 * t) [] (hct cy ad P wy cl st tg) (some (.int (nI (P.ln t)))) (hct cy ad P wy cl st tg) := by
  rcases (by omega : P.kd t ≤ 5 ∨ (6 ≤ P.kd t ∧ P.kd t ≤ 7) ∨ (8 ≤ P.kd t ∧ P.kd t ≤ 11)) with h6 | h2 | h5
  · exact ⟨yX6_length, cX6_length, 1, rm_ 0 0, 4, _, _, by omega, (hct_o t).trans (congrArg some (obE_w h6)), rfl, mu_X6_length, c_X6_length hw ht h6, ⟨rfl, rfl⟩, Nat.le_of_ble_eq_true rfl, Nat.le_of_ble_eq_true rfl⟩
  · exact ⟨yX2_length, cX2_length, 1, rm_ 0 0, 2, _, _, by omega, (hct_o t).trans (congrArg some (obE_p h2)), rfl, mu_X2_length, c_X2_length hw ht h2, ⟨rfl, rfl⟩, Nat.le_of_ble_eq_true rfl, Nat.le_of_ble_eq_true rfl⟩
  · exact ⟨yX5_length, cX5_length, 1, rm_ 0 0, 3, _, _, by omega, (hct_o t).trans (congrArg some (obE_t h5)), rfl, mu_X5_length, c_X5_length hw ht h5, ⟨rfl, rfl⟩, Nat.le_of_ble_eq_true rfl, Nat.le_of_ble_eq_true rfl⟩
theorem mu_X6_read : muok RX6 RX3 ⟨RX3, "read", "(ILColumnHouse$Cell;)V"⟩ yX6_read cX6_read 3 none 2 := ⟨qK_X6_read, qSM_X3_read, qSel_X6_X6_read_via_X3_read, qI_X6_read, qInit_X6, Or.inr (by decide +kernel), by decide +kernel⟩
theorem mu_X2_read : muok RX2 RX3 ⟨RX3, "read", "(ILColumnHouse$Cell;)V"⟩ yX2_read cX2_read 3 none 2 := ⟨qK_X2_read, qSM_X3_read, qSel_X2_X2_read_via_X3_read, qI_X2_read, qInit_X2, Or.inr (by decide +kernel), by decide +kernel⟩
theorem mu_X5_read : muok RX5 RX3 ⟨RX3, "read", "(ILColumnHouse$Cell;)V"⟩ yX5_read cX5_read 3 none 2 := ⟨qK_X5_read, qSM_X3_read, qSel_X5_X5_read_via_X3_read, qI_X5_read, qInit_X5, Or.inr (by decide +kernel), by decide +kernel⟩
theorem rc_read {l : Launch} {D : va_G} {cy : Nat → ClassId} {ad : Nat → Nat} {P : AS} {wy : Int32} {cl : Nat → CE} {st : Nat → Nat} {tg : Nat → Int32} {t i j : Nat} (hw : WF P) (ht : t < P.n) (hk : P.kd t < 12) (hi : i < P.ln t) (hj : j < 26) : RC l ⟨RX3, "read", "(ILColumnHouse$Cell;)V"⟩ RX3 2 2 45 none D cy (30 + 2 * P.n) ad (30 + 2 * t) [.int (nI i), .ref (ad (4 + j))] (hct cy ad P wy cl st tg) none (hct cy ad P wy (va_up cl j (rdC P t i (cl j))) st tg) := by
  rcases (by omega : P.kd t ≤ 5 ∨ (6 ≤ P.kd t ∧ P.kd t ≤ 7) ∨ (8 ≤ P.kd t ∧ P.kd t ≤ 11)) with h6 | h2 | h5
  · exact ⟨yX6_read, cX6_read, 3, rm_ 1 23, 4, _, _, by omega, (hct_o t).trans (congrArg some (obE_w h6)), rfl, mu_X6_read, c_X6_read hw ht h6 hi hj, ⟨rfl, rfl⟩, Nat.le_of_ble_eq_true rfl, Nat.le_of_ble_eq_true rfl⟩
  · exact ⟨yX2_read, cX2_read, 3, rm_ 1 23, 2, _, _, by omega, (hct_o t).trans (congrArg some (obE_p h2)), rfl, mu_X2_read, c_X2_read hw ht h2 hi hj, ⟨rfl, rfl⟩, Nat.le_of_ble_eq_true rfl, Nat.le_of_ble_eq_true rfl⟩
  · exact ⟨yX5_read, cX5_read, 3, rm_ 1 21, 3, _, _, by omega, (hct_o t).trans (congrArg some (obE_t h5)), rfl, mu_X5_read, c_X5_read hw ht h5 hi hj, ⟨rfl, rfl⟩, Nat.le_of_ble_eq_true rfl, Nat.le_of_ble_eq_true rfl⟩
theorem mu_X6_write : muok RX6 RX3 ⟨RX3, "write", "(ILColumnHouse$Cell;)V"⟩ yX6_write cX6_write 3 none 2 := ⟨qK_X6_write, qSM_X3_write, qSel_X6_X6_write_via_X3_write, qI_X6_write, qInit_X6, Or.inr (by decide +kernel), by decide +kernel⟩
theorem mu_X2_write : muok RX2 RX3 ⟨RX3, "write", "(ILColumnHouse$Cell;)V"⟩ yX2_write cX2_write 3 none 2 := ⟨qK_X2_write, qSM_X3_write, qSel_X2_X2_write_via_X3_write, qI_X2_write, qInit_X2, Or.inr (by decide +kernel), by decide +kernel⟩
theorem mu_X5_write : muok RX5 RX3 ⟨RX3, "write", "(ILColumnHouse$Cell;)V"⟩ yX5_write cX5_write 3 none 2 := ⟨qK_X5_write, qSM_X3_write, qSel_X5_X5_write_via_X3_write, qI_X5_write, qInit_X5, Or.inr (by decide +kernel), by decide +kernel⟩
theorem rc_write {l : Launch} {D : va_G} {cy : Nat → ClassId} {ad : Nat → Nat} {P : AS} {wy : Int32} {cl : Nat → CE} {st : Nat → Nat} {tg : Nat → Int32} {t i j : Nat} (hw : WF P) (ht : t < P.n) (hk : P.kd t < 12) (hi : i < P.ln t) (hj : j < 26) (hqj : (cl j).2.2.2 ≤ P.n) : RC l ⟨RX3, "write", "(ILColumnHouse$Cell;)V"⟩ RX3 2 3 63 none D cy (30 + 2 * P.n) ad (30 + 2 * t) [.int (nI i), .ref (ad (4 + j))] (hct cy ad P wy cl st tg) none (hct cy ad (wrP P t i (cl j)) wy cl st tg) := by
  rcases (by omega : P.kd t ≤ 5 ∨ (6 ≤ P.kd t ∧ P.kd t ≤ 7) ∨ (8 ≤ P.kd t ∧ P.kd t ≤ 11)) with h6 | h2 | h5
  · exact ⟨yX6_write, cX6_write, 3, rm_ 0 0, 4, _, _, by omega, (hct_o t).trans (congrArg some (obE_w h6)), rfl, mu_X6_write, c_X6_write hw ht h6 hi hj hqj, ⟨rfl, rfl⟩, Nat.le_of_ble_eq_true rfl, Nat.le_of_ble_eq_true rfl⟩
  · exact ⟨yX2_write, cX2_write, 3, rm_ 2 41, 2, _, _, by omega, (hct_o t).trans (congrArg some (obE_p h2)), rfl, mu_X2_write, c_X2_write hw ht h2 hi hj hqj, ⟨rfl, rfl⟩, Nat.le_of_ble_eq_true rfl, Nat.le_of_ble_eq_true rfl⟩
  · exact ⟨yX5_write, cX5_write, 3, rm_ 0 0, 3, _, _, by omega, (hct_o t).trans (congrArg some (obE_t h5)), rfl, mu_X5_write, c_X5_write hw ht h5 hi hj hqj, ⟨rfl, rfl⟩, Nat.le_of_ble_eq_true rfl, Nat.le_of_ble_eq_true rfl⟩
set_option maxHeartbeats 4000000 in
set_option maxRecDepth 100000 in
theorem c_X3_isPlain {l : Launch} {D : va_G} {cy : Nat → ClassId} {ad : Nat → Nat} {P : AS} {wy : Int32} {cl : Nat → CE} {st : Nat → Nat} {tg : Nat → Int32} {t : Nat} (hw : WF P) (ht : t < P.n) (hk : P.kd t < 12) : CM l yX3_isPlain cX3_isPlain 1 (some .boolean) (rm_ 0 0) D cy (30 + 2 * P.n) ad [.ref (ad (30 + 2 * t))] (hct cy ad P wy cl st tg) (some (.int (b2i (decide (P.kd t < 8))))) (hct cy ad P wy cl st tg) := by
  refine CM.start (by decide) (Nat.le_of_ble_eq_true rfl) ?_
  intro p_ e_ s m_ below meth cd A ls hC hr hlk hin hK hA hH hl
  obtain ⟨hx, hb, hml, hown, hts⟩ := id hC
  have hS : va_S A s.heap s.heap [] := va_S.rf
  have hl : lv_has ls 1 [(0, .ref (ad (30 + 2 * t)))] := hl
  refine lv_aload_n hx hb dX3_isPlain_0 rfl (lv_at hl 0 rfl) ?_
  refine hr_kd hC hK hw hH t (by omega) qF_X3_15 (Or.inr qSF_X3) dX3_isPlain_1 ?_
  refine lv_bipush (v := 7) hx hb dX3_isPlain_4 (by decide) ?_
  refine lv_icmp_gt (tgt := 13) hx hb dX3_isPlain_6 (by decide) (fun c_6 => ?_) (fun c_6 => ?_)
  · have c_6 := nc_lt (a := 7) (b := (P.kd t)) (by omega) (by omega) c_6
    refine lv_iconst (v := 0) hx hb dX3_isPlain_13 (by decide) ?_
    exact cm_rz hC hr hlk (by first | exact Or.inl rfl | exact Or.inr rfl | exact b2i_01 _) (by first | exact b2d_1 (by omega) | exact b2d_0 (by omega)) (rfl) hH hS dX3_isPlain_14
  · have c_6 := nc_nlt (a := 7) (b := (P.kd t)) (by omega) (by omega) c_6
    refine lv_iconst (v := 1) hx hb dX3_isPlain_9 (by decide) ?_
    refine lv_goto (tgt := 14) hx hb dX3_isPlain_10 (by decide) ?_
    exact cm_rz hC hr hlk (by first | exact Or.inl rfl | exact Or.inr rfl | exact b2i_01 _) (by first | exact b2d_1 (by omega) | exact b2d_0 (by omega)) (rfl) hH hS dX3_isPlain_14
theorem mu_X6_isPlain : muok RX6 RX3 ⟨RX3, "isPlain", "()Z"⟩ yX3_isPlain cX3_isPlain 1 (some .boolean) 0 := ⟨qK_X3_isPlain, qSM_X3_isPlain, qSel_X6_X3_isPlain, qI_X3_isPlain, qInit_X3, Or.inl rfl, by decide +kernel⟩
theorem mu_X2_isPlain : muok RX2 RX3 ⟨RX3, "isPlain", "()Z"⟩ yX3_isPlain cX3_isPlain 1 (some .boolean) 0 := ⟨qK_X3_isPlain, qSM_X3_isPlain, qSel_X2_X3_isPlain, qI_X3_isPlain, qInit_X3, Or.inl rfl, by decide +kernel⟩
theorem mu_X5_isPlain : muok RX5 RX3 ⟨RX3, "isPlain", "()Z"⟩ yX3_isPlain cX3_isPlain 1 (some .boolean) 0 := ⟨qK_X3_isPlain, qSM_X3_isPlain, qSel_X5_X3_isPlain, qI_X3_isPlain, qInit_X3, Or.inl rfl, by decide +kernel⟩
theorem rc_isPlain {l : Launch} {D : va_G} {cy : Nat → ClassId} {ad : Nat → Nat} {P : AS} {wy : Int32} {cl : Nat → CE} {st : Nat → Nat} {tg : Nat → Int32} {t : Nat} (hw : WF P) (ht : t < P.n) (hk : P.kd t < 12) : RC l ⟨RX3, "isPlain", "()Z"⟩ RX3 0 1 20 (some .boolean) D cy (30 + 2 * P.n) ad (30 + 2 * t) [] (hct cy ad P wy cl st tg) (some (.int (b2i (decide (P.kd t < 8))))) (hct cy ad P wy cl st tg) := by
  rcases (by omega : P.kd t ≤ 5 ∨ (6 ≤ P.kd t ∧ P.kd t ≤ 7) ∨ (8 ≤ P.kd t ∧ P.kd t ≤ 11)) with h6 | h2 | h5
  · exact ⟨yX3_isPlain, cX3_isPlain, 1, rm_ 0 0, 4, _, _, by omega, (hct_o t).trans (congrArg some (obE_w h6)), rfl, mu_X6_isPlain, c_X3_isPlain hw ht hk, ⟨rfl, rfl⟩, Nat.le_of_ble_eq_true rfl, Nat.le_of_ble_eq_true rfl⟩
  · exact ⟨yX3_isPlain, cX3_isPlain, 1, rm_ 0 0, 2, _, _, by omega, (hct_o t).trans (congrArg some (obE_p h2)), rfl, mu_X2_isPlain, c_X3_isPlain hw ht hk, ⟨rfl, rfl⟩, Nat.le_of_ble_eq_true rfl, Nat.le_of_ble_eq_true rfl⟩
  · exact ⟨yX3_isPlain, cX3_isPlain, 1, rm_ 0 0, 3, _, _, by omega, (hct_o t).trans (congrArg some (obE_t h5)), rfl, mu_X5_isPlain, c_X3_isPlain hw ht hk, ⟨rfl, rfl⟩, Nat.le_of_ble_eq_true rfl, Nat.le_of_ble_eq_true rfl⟩
set_option maxHeartbeats 4000000 in
set_option maxRecDepth 100000 in
theorem c_X3_has {l : Launch} {D : va_G} {cy : Nat → ClassId} {ad : Nat → Nat} {P : AS} {wy : Int32} {cl : Nat → CE} {st : Nat → Nat} {tg : Nat → Int32} {t : Nat} {i : Int32} (hw : WF P) (ht : t < P.n) (hk : P.kd t < 12) : CM l yX3_has cX3_has 2 (some .boolean) (rm_ 1 20) D cy (30 + 2 * P.n) ad [.ref (ad (30 + 2 * t)), .int (i)] (hct cy ad P wy cl st tg) (some (.int (b2i (hasP P t i)))) (hct cy ad P wy cl st tg) := by
  have hlt := hw.2.1 t
  refine CM.start (by decide) (Nat.le_of_ble_eq_true rfl) ?_
  intro p_ e_ s m_ below meth cd A ls hC hr hlk hin hK hA hH hl
  obtain ⟨hx, hb, hml, hown, hts⟩ := id hC
  have hS : va_S A s.heap s.heap [] := va_S.rf
  have hl : lv_has ls 2 [(0, .ref (ad (30 + 2 * t))), (1, .int (i))] := hl
  refine lv_iload_n hx hb dX3_has_0 rfl (lv_at hl 1 rfl) ?_
  refine lv_if_lt (tgt := 16) hx hb dX3_has_1 (by decide) (fun c_1 => ?_) (fun c_1 => ?_)
  · refine lv_iconst (v := 0) hx hb dX3_has_16 (by decide) ?_
    exact cm_rz hC hr hlk (by first | exact Or.inl rfl | exact Or.inr rfl | exact b2i_01 _) (by first | exact hasP_1 (by assumption) (by assumption) (by omega) | exact hasP_0a (by assumption) | exact hasP_0b (by assumption) (by omega)) (rfl) hH hS dX3_has_17
  · refine lv_iload_n hx hb dX3_has_4 rfl (lv_at hl 1 rfl) ?_
    refine lv_aload_n hx hb dX3_has_5 rfl (lv_at hl 0 rfl) ?_
    refine cm_R (As := []) (rest := [.int (i)]) (i := 30 + 2 * t) hC (rc_length (t := t) hw (by omega) (by omega)) qM_X3_9 ⟨Nat.le_of_ble_eq_true rfl, Nat.le_of_ble_eq_true rfl⟩ hK hH hS hA hl.1 ⟨Nat.zero_le _, Nat.zero_le _⟩ rfl rfl (Nat.le_of_ble_eq_true rfl) dX3_has_6 (fun H locs hH hS => ?_)
    refine lv_icmp_ge (tgt := 16) hx hb dX3_has_9 (by decide) (fun c_9 => ?_) (fun c_9 => ?_)
    · refine lv_iconst (v := 0) hx hb dX3_has_16 (by decide) ?_
      exact cm_rz hC hr hlk (by first | exact Or.inl rfl | exact Or.inr rfl | exact b2i_01 _) (by first | exact hasP_1 (by assumption) (by assumption) (by omega) | exact hasP_0a (by assumption) | exact hasP_0b (by assumption) (by omega)) (rfl) hH hS dX3_has_17
    · refine lv_iconst (v := 1) hx hb dX3_has_12 (by decide) ?_
      refine lv_goto (tgt := 17) hx hb dX3_has_13 (by decide) ?_
      exact cm_rz hC hr hlk (by first | exact Or.inl rfl | exact Or.inr rfl | exact b2i_01 _) (by first | exact hasP_1 (by assumption) (by assumption) (by omega) | exact hasP_0a (by assumption) | exact hasP_0b (by assumption) (by omega)) (rfl) hH hS dX3_has_17
theorem mu_X6_has : muok RX6 RX3 ⟨RX3, "has", "(I)Z"⟩ yX3_has cX3_has 2 (some .boolean) 1 := ⟨qK_X3_has, qSM_X3_has, qSel_X6_X3_has, qI_X3_has, qInit_X3, Or.inl rfl, by decide +kernel⟩
theorem mu_X2_has : muok RX2 RX3 ⟨RX3, "has", "(I)Z"⟩ yX3_has cX3_has 2 (some .boolean) 1 := ⟨qK_X3_has, qSM_X3_has, qSel_X2_X3_has, qI_X3_has, qInit_X3, Or.inl rfl, by decide +kernel⟩
theorem mu_X5_has : muok RX5 RX3 ⟨RX3, "has", "(I)Z"⟩ yX3_has cX3_has 2 (some .boolean) 1 := ⟨qK_X3_has, qSM_X3_has, qSel_X5_X3_has, qI_X3_has, qInit_X3, Or.inl rfl, by decide +kernel⟩
theorem rc_has {l : Launch} {D : va_G} {cy : Nat → ClassId} {ad : Nat → Nat} {P : AS} {wy : Int32} {cl : Nat → CE} {st : Nat → Nat} {tg : Nat → Int32} {t : Nat} {i : Int32} (hw : WF P) (ht : t < P.n) (hk : P.kd t < 12) : RC l ⟨RX3, "has", "(I)Z"⟩ RX3 1 2 41 (some .boolean) D cy (30 + 2 * P.n) ad (30 + 2 * t) [.int (i)] (hct cy ad P wy cl st tg) (some (.int (b2i (hasP P t i)))) (hct cy ad P wy cl st tg) := by
  rcases (by omega : P.kd t ≤ 5 ∨ (6 ≤ P.kd t ∧ P.kd t ≤ 7) ∨ (8 ≤ P.kd t ∧ P.kd t ≤ 11)) with h6 | h2 | h5
  · exact ⟨yX3_has, cX3_has, 2, rm_ 1 20, 4, _, _, by omega, (hct_o t).trans (congrArg some (obE_w h6)), rfl, mu_X6_has, c_X3_has hw ht hk, ⟨rfl, rfl⟩, Nat.le_of_ble_eq_true rfl, Nat.le_of_ble_eq_true rfl⟩
  · exact ⟨yX3_has, cX3_has, 2, rm_ 1 20, 2, _, _, by omega, (hct_o t).trans (congrArg some (obE_p h2)), rfl, mu_X2_has, c_X3_has hw ht hk, ⟨rfl, rfl⟩, Nat.le_of_ble_eq_true rfl, Nat.le_of_ble_eq_true rfl⟩
  · exact ⟨yX3_has, cX3_has, 2, rm_ 1 20, 3, _, _, by omega, (hct_o t).trans (congrArg some (obE_t h5)), rfl, mu_X5_has, c_X3_has hw ht hk, ⟨rfl, rfl⟩, Nat.le_of_ble_eq_true rfl, Nat.le_of_ble_eq_true rfl⟩
set_option maxHeartbeats 4000000 in
set_option maxRecDepth 100000 in
theorem c_X3_measure {l : Launch} {D : va_G} {cy : Nat → ClassId} {ad : Nat → Nat} {P : AS} {wy : Int32} {cl : Nat → CE} {st : Nat → Nat} {tg : Nat → Int32} {t : Nat} (hw : WF P) (ht : t < P.n) (hk : P.kd t < 12) : CM l yX3_measure cX3_measure 1 (some .int) (rm_ 1 20) D cy (30 + 2 * P.n) ad [.ref (ad (30 + 2 * t))] (hct cy ad P wy cl st tg) (some (.int (nI (P.ln t)))) (hct cy ad P wy cl st tg) := by
  refine CM.start (by decide) (Nat.le_of_ble_eq_true rfl) ?_
  intro p_ e_ s m_ below meth cd A ls hC hr hlk hin hK hA hH hl
  obtain ⟨hx, hb, hml, hown, hts⟩ := id hC
  have hS : va_S A s.heap s.heap [] := va_S.rf
  have hl : lv_has ls 1 [(0, .ref (ad (30 + 2 * t)))] := hl
  refine lv_aload_n hx hb dX3_measure_0 rfl (lv_at hl 0 rfl) ?_
  refine cm_R (As := []) (rest := []) (i := 30 + 2 * t) hC (rc_length (t := t) hw (by omega) (by omega)) qM_X3_9 ⟨Nat.le_of_ble_eq_true rfl, Nat.le_of_ble_eq_true rfl⟩ hK hH hS hA hl.1 ⟨Nat.zero_le _, Nat.zero_le _⟩ rfl rfl (Nat.le_of_ble_eq_true rfl) dX3_measure_1 (fun H locs hH hS => ?_)
  exact cm_ri hC hr hlk (rfl) (rfl) hH hS dX3_measure_4
theorem mu_X6_measure : muok RX6 RX4 ⟨RX4, "measure", "()I"⟩ yX3_measure cX3_measure 1 (some .int) 0 := ⟨qK_X3_measure, qSM_X4_measure, qSel_X6_X3_measure_via_X4_measure, qI_X3_measure, qInit_X3, Or.inr (by decide +kernel), by decide +kernel⟩
theorem mu_X2_measure : muok RX2 RX4 ⟨RX4, "measure", "()I"⟩ yX3_measure cX3_measure 1 (some .int) 0 := ⟨qK_X3_measure, qSM_X4_measure, qSel_X2_X3_measure_via_X4_measure, qI_X3_measure, qInit_X3, Or.inr (by decide +kernel), by decide +kernel⟩
theorem mu_X5_measure : muok RX5 RX4 ⟨RX4, "measure", "()I"⟩ yX3_measure cX3_measure 1 (some .int) 0 := ⟨qK_X3_measure, qSM_X4_measure, qSel_X5_X3_measure_via_X4_measure, qI_X3_measure, qInit_X3, Or.inr (by decide +kernel), by decide +kernel⟩
theorem mu_X0_measure : muok RX0 RX4 ⟨RX4, "measure", "()I"⟩ yX0_measure cX0_measure 1 (some .int) 0 := ⟨qK_X0_measure, qSM_X4_measure, qSel_X0_X0_measure_via_X4_measure, qI_X0_measure, qInit_X0, Or.inr (by decide +kernel), by decide +kernel⟩
theorem rc_measure {l : Launch} {D : va_G} {cy : Nat → ClassId} {ad : Nat → Nat} {P : AS} {wy : Int32} {cl : Nat → CE} {st : Nat → Nat} {tg : Nat → Int32} {t : Nat} (hw : WF P) (ht : t < P.n) : RC l ⟨RX4, "measure", "()I"⟩ RX4 0 2 40 (some .int) D cy (30 + 2 * P.n) ad (30 + 2 * t) [] (hct cy ad P wy cl st tg) (some (.int (meas P t))) (hct cy ad P wy cl st tg) := by
  have hk := hw.1 t
  rcases (by omega : P.kd t ≤ 5 ∨ (6 ≤ P.kd t ∧ P.kd t ≤ 7) ∨ (8 ≤ P.kd t ∧ P.kd t ≤ 11) ∨ 12 ≤ P.kd t) with h6 | h2 | h5 | h0
  · exact ⟨yX3_measure, cX3_measure, 1, rm_ 1 20, 4, _, _, by omega, (hct_o t).trans (congrArg some (obE_w h6)), rfl, mu_X6_measure, by have h := c_X3_measure (l := l) (D := D) (cy := cy) (ad := ad) (P := P) (wy := wy) (cl := cl) (st := st) (tg := tg) (t := t) hw ht (by omega); rw [show meas P t = nI (P.ln t) from if_pos (by omega)]; exact h, ⟨rfl, rfl⟩, Nat.le_of_ble_eq_true rfl, Nat.le_of_ble_eq_true rfl⟩
  · exact ⟨yX3_measure, cX3_measure, 1, rm_ 1 20, 2, _, _, by omega, (hct_o t).trans (congrArg some (obE_p h2)), rfl, mu_X2_measure, by have h := c_X3_measure (l := l) (D := D) (cy := cy) (ad := ad) (P := P) (wy := wy) (cl := cl) (st := st) (tg := tg) (t := t) hw ht (by omega); rw [show meas P t = nI (P.ln t) from if_pos (by omega)]; exact h, ⟨rfl, rfl⟩, Nat.le_of_ble_eq_true rfl, Nat.le_of_ble_eq_true rfl⟩
  · exact ⟨yX3_measure, cX3_measure, 1, rm_ 1 20, 3, _, _, by omega, (hct_o t).trans (congrArg some (obE_t h5)), rfl, mu_X5_measure, by have h := c_X3_measure (l := l) (D := D) (cy := cy) (ad := ad) (P := P) (wy := wy) (cl := cl) (st := st) (tg := tg) (t := t) hw ht (by omega); rw [show meas P t = nI (P.ln t) from if_pos (by omega)]; exact h, ⟨rfl, rfl⟩, Nat.le_of_ble_eq_true rfl, Nat.le_of_ble_eq_true rfl⟩
  · exact ⟨yX0_measure, cX0_measure, 1, rm_ 0 0, 0, _, _, by omega, (hct_o t).trans (congrArg some (obE_c h0)), rfl, mu_X0_measure, by have h := c_X0_measure (l := l) (D := D) (cy := cy) (ad := ad) (P := P) (wy := wy) (cl := cl) (st := st) (tg := tg) (t := t) ht h0; rw [show meas P t = P.tg t from if_neg (by omega)]; exact h, ⟨rfl, rfl⟩, Nat.le_of_ble_eq_true rfl, Nat.le_of_ble_eq_true rfl⟩
theorem ms_X7_goesInto : msok yX7_goesInto cX7_goesInto 2 (some .boolean) 2 := ⟨qK_X7_goesInto, qSt_X7_goesInto, qInit_X7, by decide +kernel⟩
set_option maxHeartbeats 4000000 in
set_option maxRecDepth 100000 in
theorem c_X7_goesInto {l : Launch} {D : va_G} {cy : Nat → ClassId} {ad : Nat → Nat} {N : Nat} {ct : Nat → Option va_E} {a b : Nat} (ha : a < 8) (hb8 : b < 8) : CM l yX7_goesInto cX7_goesInto 2 (some .boolean) (rm_ 0 0) D cy N ad [.int (nI a), .int (nI b)] ct (some (.int (b2i (goes a b)))) ct := by
  refine CM.start (by decide) (Nat.le_of_ble_eq_true rfl) ?_
  intro p_ e_ s m_ below meth cd A ls hC hr hlk hin hK hA hH hl
  obtain ⟨hx, hb, hml, hown, hts⟩ := id hC
  have hS : va_S A s.heap s.heap [] := va_S.rf
  have hl : lv_has ls 2 [(0, .int (nI a)), (1, .int (nI b))] := hl
  refine lv_iload_n hx hb dX7_goesInto_0 rfl (lv_at hl 0 rfl) ?_
  refine lv_iload_n hx hb dX7_goesInto_1 rfl (lv_at hl 1 rfl) ?_
  refine lv_icmp_ne (tgt := 7) hx hb dX7_goesInto_2 (by decide) (fun c_2 => ?_) (fun c_2 => ?_)
  · have c_2 := nc_ne (a := a) (b := b) (by omega) (by omega) c_2
    refine lv_iload_n hx hb dX7_goesInto_7 rfl (lv_at hl 0 rfl) ?_
    refine lv_if_eq (tgt := 26) hx hb dX7_goesInto_8 (by decide) (fun c_8 => ?_) (fun c_8 => ?_)
    · have c_8 := nc_eq (a := a) (b := 0) (by omega) (by omega) c_8
      refine lv_iconst (v := 0) hx hb dX7_goesInto_26 (by decide) ?_
      exact cm_rz hC hr hlk (by first | exact Or.inl rfl | exact Or.inr rfl | exact b2i_01 _) (by rw [goes_tab a (by omega) b (by omega)]; simp [b2i, c_2, c_8] <;> omega) (rfl) hH hS dX7_goesInto_27
    · have c_8 := nc_ne (a := a) (b := 0) (by omega) (by omega) c_8
      refine lv_iload_n hx hb dX7_goesInto_11 rfl (lv_at hl 1 rfl) ?_
      refine lv_iconst (v := 2) hx hb dX7_goesInto_12 (by decide) ?_
      refine lv_icmp_eq (tgt := 26) hx hb dX7_goesInto_13 (by decide) (fun c_13 => ?_) (fun c_13 => ?_)
      · have c_13 := nc_eq (a := b) (b := 2) (by omega) (by omega) c_13
        refine lv_iconst (v := 0) hx hb dX7_goesInto_26 (by decide) ?_
        exact cm_rz hC hr hlk (by first | exact Or.inl rfl | exact Or.inr rfl | exact b2i_01 _) (by rw [goes_tab a (by omega) b (by omega)]; simp [b2i, c_2, c_8, c_13] <;> omega) (rfl) hH hS dX7_goesInto_27
      · have c_13 := nc_ne (a := b) (b := 2) (by omega) (by omega) c_13
        refine lv_iload_n hx hb dX7_goesInto_16 rfl (lv_at hl 0 rfl) ?_
        refine lv_iconst (v := 2) hx hb dX7_goesInto_17 (by decide) ?_
        refine lv_icmp_ne (tgt := 28) hx hb dX7_goesInto_18 (by decide) (fun c_18 => ?_) (fun c_18 => ?_)
        · have c_18 := nc_ne (a := a) (b := 2) (by omega) (by omega) c_18
          refine lv_iload_n hx hb dX7_goesInto_28 rfl (lv_at hl 0 rfl) ?_
          refine lv_iload_n hx hb dX7_goesInto_29 rfl (lv_at hl 1 rfl) ?_
          refine lv_icmp_ge (tgt := 37) hx hb dX7_goesInto_30 (by decide) (fun c_30 => ?_) (fun c_30 => ?_)
          · have c_30 := nc_le (a := b) (b := a) (by omega) (by omega) c_30
            refine lv_iconst (v := 0) hx hb dX7_goesInto_37 (by decide) ?_
            exact cm_rz hC hr hlk (by first | exact Or.inl rfl | exact Or.inr rfl | exact b2i_01 _) (by rw [goes_tab a (by omega) b (by omega)]; simp [b2i, c_2, c_8, c_13, c_18, c_30] <;> omega) (rfl) hH hS dX7_goesInto_38
          · have c_30 := nc_nle (a := b) (b := a) (by omega) (by omega) c_30
            refine lv_iconst (v := 1) hx hb dX7_goesInto_33 (by decide) ?_
            refine lv_goto (tgt := 38) hx hb dX7_goesInto_34 (by decide) ?_
            exact cm_rz hC hr hlk (by first | exact Or.inl rfl | exact Or.inr rfl | exact b2i_01 _) (by rw [goes_tab a (by omega) b (by omega)]; simp [b2i, c_2, c_8, c_13, c_18, c_30] <;> omega) (rfl) hH hS dX7_goesInto_38
        · have c_18 := nc_eq (a := a) (b := 2) (by omega) (by omega) c_18
          refine lv_iload_n hx hb dX7_goesInto_21 rfl (lv_at hl 1 rfl) ?_
          refine lv_iconst (v := 3) hx hb dX7_goesInto_22 (by decide) ?_
          refine lv_icmp_ne (tgt := 28) hx hb dX7_goesInto_23 (by decide) (fun c_23 => ?_) (fun c_23 => ?_)
          · have c_23 := nc_ne (a := b) (b := 3) (by omega) (by omega) c_23
            refine lv_iload_n hx hb dX7_goesInto_28 rfl (lv_at hl 0 rfl) ?_
            refine lv_iload_n hx hb dX7_goesInto_29 rfl (lv_at hl 1 rfl) ?_
            refine lv_icmp_ge (tgt := 37) hx hb dX7_goesInto_30 (by decide) (fun c_30 => ?_) (fun c_30 => ?_)
            · have c_30 := nc_le (a := b) (b := a) (by omega) (by omega) c_30
              refine lv_iconst (v := 0) hx hb dX7_goesInto_37 (by decide) ?_
              exact cm_rz hC hr hlk (by first | exact Or.inl rfl | exact Or.inr rfl | exact b2i_01 _) (by rw [goes_tab a (by omega) b (by omega)]; simp [b2i, c_2, c_8, c_13, c_18, c_23, c_30] <;> omega) (rfl) hH hS dX7_goesInto_38
            · have c_30 := nc_nle (a := b) (b := a) (by omega) (by omega) c_30
              refine lv_iconst (v := 1) hx hb dX7_goesInto_33 (by decide) ?_
              refine lv_goto (tgt := 38) hx hb dX7_goesInto_34 (by decide) ?_
              exact cm_rz hC hr hlk (by first | exact Or.inl rfl | exact Or.inr rfl | exact b2i_01 _) (by rw [goes_tab a (by omega) b (by omega)]; simp [b2i, c_2, c_8, c_13, c_18, c_23, c_30] <;> omega) (rfl) hH hS dX7_goesInto_38
          · have c_23 := nc_eq (a := b) (b := 3) (by omega) (by omega) c_23
            refine lv_iconst (v := 0) hx hb dX7_goesInto_26 (by decide) ?_
            exact cm_rz hC hr hlk (by first | exact Or.inl rfl | exact Or.inr rfl | exact b2i_01 _) (by rw [goes_tab a (by omega) b (by omega)]; simp [b2i, c_2, c_8, c_13, c_18, c_23] <;> omega) (rfl) hH hS dX7_goesInto_27
  · have c_2 := nc_eq (a := a) (b := b) (by omega) (by omega) c_2
    refine lv_iconst (v := 1) hx hb dX7_goesInto_5 (by decide) ?_
    exact cm_rz hC hr hlk (by first | exact Or.inl rfl | exact Or.inr rfl | exact b2i_01 _) (by rw [goes_tab a (by omega) b (by omega)]; simp [b2i, c_2] <;> omega) (rfl) hH hS dX7_goesInto_6
