theorem ms_X7_earlier : msok yX7_earlier cX7_earlier 2 (some .int) 2 := ⟨qK_X7_earlier, qSt_X7_earlier, qInit_X7, by decide +kernel⟩
set_option maxHeartbeats 4000000 in
set_option maxRecDepth 100000 in
theorem c_X7_earlier {l : Launch} {D : va_G} {cy : Nat → ClassId} {ad : Nat → Nat} {N : Nat} {ct : Nat → Option va_E} {a b : Nat} (ha : a ≤ 3) (hb3 : b ≤ 3) : CM l yX7_earlier cX7_earlier 2 (some .int) (rm_ 1 24) D cy N ad [.int (nI a), .int (nI b)] ct (some (.int (nI (earl a b)))) ct := by
  refine CM.start (by decide) (Nat.le_of_ble_eq_true rfl) ?_
  intro p_ e_ s m_ below meth cd A ls hC hr hlk hin hK hA hH hl
  obtain ⟨hx, hb, hml, hown, hts⟩ := id hC
  have hS : va_S A s.heap s.heap [] := va_S.rf
  have hl : lv_has ls 2 [(0, .int (nI a)), (1, .int (nI b))] := hl
  refine lv_iload_n hx hb dX7_earlier_0 rfl (lv_at hl 0 rfl) ?_
  refine lv_if_ne (tgt := 6) hx hb dX7_earlier_1 (by decide) (fun c_1 => ?_) (fun c_1 => ?_)
  · have c_1 := nc_ne (a := a) (b := 0) (by omega) (by omega) c_1
    refine lv_iload_n hx hb dX7_earlier_6 rfl (lv_at hl 1 rfl) ?_
    refine lv_if_ne (tgt := 14) hx hb dX7_earlier_7 (by decide) (fun c_7 => ?_) (fun c_7 => ?_)
    · have c_7 := nc_ne (a := b) (b := 0) (by omega) (by omega) c_7
      refine lv_iload_n hx hb dX7_earlier_14 rfl (lv_at hl 0 rfl) ?_
      refine lv_iload_n hx hb dX7_earlier_15 rfl (lv_at hl 1 rfl) ?_
      refine hj_min hC hl.1 qM_X7_195 (Nat.le_of_ble_eq_true rfl) (Nat.le_of_ble_eq_true rfl) ⟨Nat.zero_le _, Nat.zero_le _⟩ dX7_earlier_16 ?_
      exact cm_ri hC hr hlk (by rw [earl, if_neg c_1, if_neg c_7, mnI_N (by omega) (by omega)]) (rfl) hH hS dX7_earlier_19
    · have c_7 := nc_eq (a := b) (b := 0) (by omega) (by omega) c_7
      refine lv_iload_n hx hb dX7_earlier_10 rfl (lv_at hl 0 rfl) ?_
      refine lv_goto (tgt := 19) hx hb dX7_earlier_11 (by decide) ?_
      exact cm_ri hC hr hlk (by rw [earl, if_neg c_1, if_pos c_7]) (rfl) hH hS dX7_earlier_19
  · have c_1 := nc_eq (a := a) (b := 0) (by omega) (by omega) c_1
    refine lv_iload_n hx hb dX7_earlier_4 rfl (lv_at hl 1 rfl) ?_
    exact cm_ri hC hr hlk (by rw [earl, if_pos c_1]) (rfl) hH hS dX7_earlier_5
theorem ms_X7_fits : msok yX7_fits cX7_fits 2 (some .boolean) 2 := ⟨qK_X7_fits, qSt_X7_fits, qInit_X7, by decide +kernel⟩
set_option maxHeartbeats 4000000 in
set_option maxRecDepth 100000 in
theorem c_X7_fits {l : Launch} {D : va_G} {cy : Nat → ClassId} {ad : Nat → Nat} {N : Nat} {ct : Nat → Option va_E} {k rk : Nat} (hk : k ≤ 14) (hr8 : 8 ≤ rk ∧ rk ≤ 11) : CM l yX7_fits cX7_fits 2 (some .boolean) (rm_ 0 0) D cy N ad [.int (nI k), .int (nI rk)] ct (some (.int (b2i (fitK k rk)))) ct := by
  refine CM.start (by decide) (Nat.le_of_ble_eq_true rfl) ?_
  intro p_ e_ s m_ below meth cd A ls hC hr hlk hin hK hA hH hl
  obtain ⟨hx, hb, hml, hown, hts⟩ := id hC
  have hS : va_S A s.heap s.heap [] := va_S.rf
  have hl : lv_has ls 2 [(0, .int (nI k)), (1, .int (nI rk))] := hl
  refine lv_iload_n hx hb dX7_fits_0 rfl (lv_at hl 1 rfl) ?_
  rcases (by omega : rk = 8 ∨ rk = 9 ∨ rk = 10 ∨ rk = 11) with rfl | rfl | rfl | rfl
  · refine lv_tableIn (off := 31) (tgt := 32) hx hb dX7_fits_1 (by decide) (by decide) (by decide) (by decide) ?_
    refine lv_iload_n hx hb dX7_fits_32 rfl (lv_at hl 0 rfl) ?_
    refine lv_bipush (v := 12) hx hb dX7_fits_33 (by decide) ?_
    refine lv_icmp_lt (tgt := 42) hx hb dX7_fits_35 (by decide) (fun c_35 => ?_) (fun c_35 => ?_)
    · have c_35 := nc_lt (a := k) (b := 12) (by omega) (by omega) c_35
      refine lv_iconst (v := 0) hx hb dX7_fits_42 (by decide) ?_
      exact cm_rz hC hr hlk (by first | exact Or.inl rfl | exact Or.inr rfl | exact b2i_01 _) (by rw [fitK_r8 rfl]; first | exact b2d_1 (by omega) | exact b2d_0 (by omega)) (rfl) hH hS dX7_fits_43
    · have c_35 := nc_nlt (a := k) (b := 12) (by omega) (by omega) c_35
      refine lv_iconst (v := 1) hx hb dX7_fits_38 (by decide) ?_
      refine lv_goto (tgt := 43) hx hb dX7_fits_39 (by decide) ?_
      exact cm_rz hC hr hlk (by first | exact Or.inl rfl | exact Or.inr rfl | exact b2i_01 _) (by rw [fitK_r8 rfl]; first | exact b2d_1 (by omega) | exact b2d_0 (by omega)) (rfl) hH hS dX7_fits_43
  · refine lv_tableIn (off := 43) (tgt := 44) hx hb dX7_fits_1 (by decide) (by decide) (by decide) (by decide) ?_
    refine lv_iload_n hx hb dX7_fits_44 rfl (lv_at hl 0 rfl) ?_
    refine lv_bipush (v := 14) hx hb dX7_fits_45 (by decide) ?_
    refine lv_icmp_ne (tgt := 54) hx hb dX7_fits_47 (by decide) (fun c_47 => ?_) (fun c_47 => ?_)
    · have c_47 := nc_ne (a := k) (b := 14) (by omega) (by omega) c_47
      refine lv_iconst (v := 0) hx hb dX7_fits_54 (by decide) ?_
      exact cm_rz hC hr hlk (by first | exact Or.inl rfl | exact Or.inr rfl | exact b2i_01 _) (by rw [fitK_r9 rfl]; first | exact b2d_1 (by omega) | exact b2d_0 (by omega)) (rfl) hH hS dX7_fits_55
    · have c_47 := nc_eq (a := k) (b := 14) (by omega) (by omega) c_47
      refine lv_iconst (v := 1) hx hb dX7_fits_50 (by decide) ?_
      refine lv_goto (tgt := 55) hx hb dX7_fits_51 (by decide) ?_
      exact cm_rz hC hr hlk (by first | exact Or.inl rfl | exact Or.inr rfl | exact b2i_01 _) (by rw [fitK_r9 rfl]; first | exact b2d_1 (by omega) | exact b2d_0 (by omega)) (rfl) hH hS dX7_fits_55
  · refine lv_tableIn (off := 55) (tgt := 56) hx hb dX7_fits_1 (by decide) (by decide) (by decide) (by decide) ?_
    refine lv_iload_n hx hb dX7_fits_56 rfl (lv_at hl 0 rfl) ?_
    refine lv_iconst (v := 4) hx hb dX7_fits_57 (by decide) ?_
    refine lv_icmp_ne (tgt := 65) hx hb dX7_fits_58 (by decide) (fun c_58 => ?_) (fun c_58 => ?_)
    · have c_58 := nc_ne (a := k) (b := 4) (by omega) (by omega) c_58
      refine lv_iconst (v := 0) hx hb dX7_fits_65 (by decide) ?_
      exact cm_rz hC hr hlk (by first | exact Or.inl rfl | exact Or.inr rfl | exact b2i_01 _) (by rw [fitK_r10 rfl]; first | exact b2d_1 (by omega) | exact b2d_0 (by omega)) (rfl) hH hS dX7_fits_66
    · have c_58 := nc_eq (a := k) (b := 4) (by omega) (by omega) c_58
      refine lv_iconst (v := 1) hx hb dX7_fits_61 (by decide) ?_
      refine lv_goto (tgt := 66) hx hb dX7_fits_62 (by decide) ?_
      exact cm_rz hC hr hlk (by first | exact Or.inl rfl | exact Or.inr rfl | exact b2i_01 _) (by rw [fitK_r10 rfl]; first | exact b2d_1 (by omega) | exact b2d_0 (by omega)) (rfl) hH hS dX7_fits_66
  · refine lv_tableIn (off := 66) (tgt := 67) hx hb dX7_fits_1 (by decide) (by decide) (by decide) (by decide) ?_
    refine lv_iload_n hx hb dX7_fits_67 rfl (lv_at hl 0 rfl) ?_
    refine lv_bipush (v := 8) hx hb dX7_fits_68 (by decide) ?_
    refine lv_icmp_eq (tgt := 79) hx hb dX7_fits_70 (by decide) (fun c_70 => ?_) (fun c_70 => ?_)
    · have c_70 := nc_eq (a := k) (b := 8) (by omega) (by omega) c_70
      refine lv_iconst (v := 1) hx hb dX7_fits_79 (by decide) ?_
      refine lv_goto (tgt := 84) hx hb dX7_fits_80 (by decide) ?_
      exact cm_rz hC hr hlk (by first | exact Or.inl rfl | exact Or.inr rfl | exact b2i_01 _) (by rw [fitK_r11 rfl]; first | exact b2d_1 (by omega) | exact b2d_0 (by omega)) (rfl) hH hS dX7_fits_84
    · have c_70 := nc_ne (a := k) (b := 8) (by omega) (by omega) c_70
      refine lv_iload_n hx hb dX7_fits_73 rfl (lv_at hl 0 rfl) ?_
      refine lv_bipush (v := 9) hx hb dX7_fits_74 (by decide) ?_
      refine lv_icmp_ne (tgt := 83) hx hb dX7_fits_76 (by decide) (fun c_76 => ?_) (fun c_76 => ?_)
      · have c_76 := nc_ne (a := k) (b := 9) (by omega) (by omega) c_76
        refine lv_iconst (v := 0) hx hb dX7_fits_83 (by decide) ?_
        exact cm_rz hC hr hlk (by first | exact Or.inl rfl | exact Or.inr rfl | exact b2i_01 _) (by rw [fitK_r11 rfl]; first | exact b2d_1 (by omega) | exact b2d_0 (by omega)) (rfl) hH hS dX7_fits_84
      · have c_76 := nc_eq (a := k) (b := 9) (by omega) (by omega) c_76
        refine lv_iconst (v := 1) hx hb dX7_fits_79 (by decide) ?_
        refine lv_goto (tgt := 84) hx hb dX7_fits_80 (by decide) ?_
        exact cm_rz hC hr hlk (by first | exact Or.inl rfl | exact Or.inr rfl | exact b2i_01 _) (by rw [fitK_r11 rfl]; first | exact b2d_1 (by omega) | exact b2d_0 (by omega)) (rfl) hH hS dX7_fits_84
set_option maxHeartbeats 4000000 in
set_option maxRecDepth 100000 in
theorem c_X3_goesAs {l : Launch} {D : va_G} {cy : Nat → ClassId} {ad : Nat → Nat} {P : AS} {wy : Int32} {cl : Nat → CE} {st : Nat → Nat} {tg : Nat → Int32} {t k : Nat} (hw : WF P) (ht : t < P.n) (hk : P.kd t < 12) (hk8 : k < 8) : CM l yX3_goesAs cX3_goesAs 2 (some .boolean) (rm_ 1 21) D cy (30 + 2 * P.n) ad [.ref (ad (30 + 2 * t)), .int (nI k)] (hct cy ad P wy cl st tg) (some (.int (b2i (decide (P.kd t < 8) && goes (P.kd t) k)))) (hct cy ad P wy cl st tg) := by
  refine CM.start (by decide) (Nat.le_of_ble_eq_true rfl) ?_
  intro p_ e_ s m_ below meth cd A ls hC hr hlk hin hK hA hH hl
  obtain ⟨hx, hb, hml, hown, hts⟩ := id hC
  have hS : va_S A s.heap s.heap [] := va_S.rf
  have hl : lv_has ls 2 [(0, .ref (ad (30 + 2 * t))), (1, .int (nI k))] := hl
  refine lv_aload_n hx hb dX3_goesAs_0 rfl (lv_at hl 0 rfl) ?_
  refine cm_R (As := []) (rest := []) (i := 30 + 2 * t) hC (rc_isPlain (t := t) hw (by omega) (by omega)) qM_X3_19 ⟨Nat.le_of_ble_eq_true rfl, Nat.le_of_ble_eq_true rfl⟩ hK hH hS hA hl.1 ⟨Nat.zero_le _, Nat.zero_le _⟩ rfl rfl (Nat.le_of_ble_eq_true rfl) dX3_goesAs_1 (fun H locs hH hS => ?_)
  refine lv_if_eq (tgt := 22) hx hb dX3_goesAs_4 (by decide) (fun c_4 => ?_) (fun c_4 => ?_)
  · have c_4 := b2d_f c_4
    refine lv_iconst (v := 0) hx hb dX3_goesAs_22 (by decide) ?_
    exact cm_rz hC hr hlk (by first | exact Or.inl rfl | exact Or.inr rfl | exact b2i_01 _) (by simp [b2i, c_4]) (rfl) hH hS dX3_goesAs_23
  · have c_4 := b2d_t c_4
    refine lv_aload_n hx hb dX3_goesAs_7 rfl (lv_at hl 0 rfl) ?_
    refine hr_kd hC hK hw hH t (by omega) qF_X3_15 (Or.inr qSF_X3) dX3_goesAs_8 ?_
    refine lv_iload_n hx hb dX3_goesAs_11 rfl (lv_at hl 1 rfl) ?_
    refine cm_SN (As := [.int (nI (P.kd t)), .int (nI k)]) (host := RX7) (rest := []) hC (c_X7_goesInto (a := (P.kd t)) (b := k) (by omega) (by omega)) ms_X7_goesInto (by decide +kernel) ⟨⟨rfl, rfl⟩, Nat.le_of_ble_eq_true rfl, Nat.le_of_ble_eq_true rfl⟩ hK hH hS hA hl.1 ⟨Nat.zero_le _, Nat.zero_le _⟩ rfl rfl (Nat.le_of_ble_eq_true rfl) dX3_goesAs_12 (fun H locs hH hS => ?_)
    refine lv_if_eq (tgt := 22) hx hb dX3_goesAs_15 (by decide) (fun c_15 => ?_) (fun c_15 => ?_)
    · have c_15 := b2i_f c_15
      refine lv_iconst (v := 0) hx hb dX3_goesAs_22 (by decide) ?_
      exact cm_rz hC hr hlk (by first | exact Or.inl rfl | exact Or.inr rfl | exact b2i_01 _) (by simp [b2i, c_4, c_15]) (rfl) hH hS dX3_goesAs_23
    · have c_15 := b2i_t c_15
      refine lv_iconst (v := 1) hx hb dX3_goesAs_18 (by decide) ?_
      refine lv_goto (tgt := 23) hx hb dX3_goesAs_19 (by decide) ?_
      exact cm_rz hC hr hlk (by first | exact Or.inl rfl | exact Or.inr rfl | exact b2i_01 _) (by simp [b2i, c_4, c_15]) (rfl) hH hS dX3_goesAs_23
theorem mu_X6_goesAs : muok RX6 RX3 ⟨RX3, "goesAs", "(I)Z"⟩ yX3_goesAs cX3_goesAs 2 (some .boolean) 1 := ⟨qK_X3_goesAs, qSM_X3_goesAs, qSel_X6_X3_goesAs, qI_X3_goesAs, qInit_X3, Or.inl rfl, by decide +kernel⟩
theorem mu_X2_goesAs : muok RX2 RX3 ⟨RX3, "goesAs", "(I)Z"⟩ yX3_goesAs cX3_goesAs 2 (some .boolean) 1 := ⟨qK_X3_goesAs, qSM_X3_goesAs, qSel_X2_X3_goesAs, qI_X3_goesAs, qInit_X3, Or.inl rfl, by decide +kernel⟩
theorem mu_X5_goesAs : muok RX5 RX3 ⟨RX3, "goesAs", "(I)Z"⟩ yX3_goesAs cX3_goesAs 2 (some .boolean) 1 := ⟨qK_X3_goesAs, qSM_X3_goesAs, qSel_X5_X3_goesAs, qI_X3_goesAs, qInit_X3, Or.inl rfl, by decide +kernel⟩
theorem rc_goesAs {l : Launch} {D : va_G} {cy : Nat → ClassId} {ad : Nat → Nat} {P : AS} {wy : Int32} {cl : Nat → CE} {st : Nat → Nat} {tg : Nat → Int32} {t k : Nat} (hw : WF P) (ht : t < P.n) (hk : P.kd t < 12) (hk8 : k < 8) : RC l ⟨RX3, "goesAs", "(I)Z"⟩ RX3 1 2 42 (some .boolean) D cy (30 + 2 * P.n) ad (30 + 2 * t) [.int (nI k)] (hct cy ad P wy cl st tg) (some (.int (b2i (decide (P.kd t < 8) && goes (P.kd t) k)))) (hct cy ad P wy cl st tg) := by
  rcases (by omega : P.kd t ≤ 5 ∨ (6 ≤ P.kd t ∧ P.kd t ≤ 7) ∨ (8 ≤ P.kd t ∧ P.kd t ≤ 11)) with h6 | h2 | h5
  · exact ⟨yX3_goesAs, cX3_goesAs, 2, rm_ 1 21, 4, _, _, by omega, (hct_o t).trans (congrArg some (obE_w h6)), rfl, mu_X6_goesAs, c_X3_goesAs hw ht hk hk8, ⟨rfl, rfl⟩, Nat.le_of_ble_eq_true rfl, Nat.le_of_ble_eq_true rfl⟩
  · exact ⟨yX3_goesAs, cX3_goesAs, 2, rm_ 1 21, 2, _, _, by omega, (hct_o t).trans (congrArg some (obE_p h2)), rfl, mu_X2_goesAs, c_X3_goesAs hw ht hk hk8, ⟨rfl, rfl⟩, Nat.le_of_ble_eq_true rfl, Nat.le_of_ble_eq_true rfl⟩
  · exact ⟨yX3_goesAs, cX3_goesAs, 2, rm_ 1 21, 3, _, _, by omega, (hct_o t).trans (congrArg some (obE_t h5)), rfl, mu_X5_goesAs, c_X3_goesAs hw ht hk hk8, ⟨rfl, rfl⟩, Nat.le_of_ble_eq_true rfl, Nat.le_of_ble_eq_true rfl⟩
set_option maxHeartbeats 4000000 in
set_option maxRecDepth 100000 in
theorem c_X3_takes {l : Launch} {D : va_G} {cy : Nat → ClassId} {ad : Nat → Nat} {P : AS} {wy : Int32} {cl : Nat → CE} {st : Nat → Nat} {tg : Nat → Int32} {t j : Nat} (hw : WF P) (ht : t < P.n) (hk : P.kd t < 12) (hj : j < 26) (hok : cOK P (cl j)) : CM l yX3_takes cX3_takes 2 (some .boolean) (rm_ 1 21) D cy (30 + 2 * P.n) ad [.ref (ad (30 + 2 * t)), .ref (ad (4 + j))] (hct cy ad P wy cl st tg) (some (.int (b2i (tkC P t (cl j))))) (hct cy ad P wy cl st tg) := by
  refine CM.start (by decide) (Nat.le_of_ble_eq_true rfl) ?_
  intro p_ e_ s m_ below meth cd A ls hC hr hlk hin hK hA hH hl
  obtain ⟨hx, hb, hml, hown, hts⟩ := id hC
  have hS : va_S A s.heap s.heap [] := va_S.rf
  have hl : lv_has ls 2 [(0, .ref (ad (30 + 2 * t))), (1, .ref (ad (4 + j)))] := hl
  refine lv_aload_n hx hb dX3_takes_0 rfl (lv_at hl 1 rfl) ?_
  refine cm_V (As' := []) (rest := []) hC (c_X1_isValue (j := j) (by omega)) mv_X1_isValue qM_X3_27 ⟨⟨rfl, rfl⟩, Nat.le_of_ble_eq_true rfl, Nat.le_of_ble_eq_true rfl⟩ hK hH hS hA (hp.recv hK hH (i := 4 + j) (by omega) (hct_c (by omega)) rfl) hl.1 ⟨Nat.zero_le _, Nat.zero_le _⟩ rfl rfl (Nat.le_of_ble_eq_true rfl) dX3_takes_1 (fun H locs hH hS => ?_)
  refine lv_if_eq (tgt := 34) hx hb dX3_takes_4 (by decide) (fun c_4 => ?_) (fun c_4 => ?_)
  · have c_4 := b2i_f c_4
    refine lv_aload_n hx hb dX3_takes_34 rfl (lv_at hl 0 rfl) ?_
    refine cm_R (As := []) (rest := []) (i := 30 + 2 * t) hC (rc_isPlain (t := t) hw (by omega) (by omega)) qM_X3_19 ⟨Nat.le_of_ble_eq_true rfl, Nat.le_of_ble_eq_true rfl⟩ hK hH hS hA hl.1 ⟨Nat.zero_le _, Nat.zero_le _⟩ rfl rfl (Nat.le_of_ble_eq_true rfl) dX3_takes_35 (fun H locs hH hS => ?_)
    refine lv_if_ne (tgt := 69) hx hb dX3_takes_38 (by decide) (fun c_38 => ?_) (fun c_38 => ?_)
    · have c_38 := b2d_t c_38
      refine lv_iconst (v := 0) hx hb dX3_takes_69 (by decide) ?_
      exact cm_rz hC hr hlk (by first | exact Or.inl rfl | exact Or.inr rfl | exact b2i_01 _) (by rw [tkC_t c_4]; simp [b2i, fitP, c_38]) (rfl) hH hS dX3_takes_70
    · have c_38 := b2d_f c_38
      refine lv_aload_n hx hb dX3_takes_41 rfl (lv_at hl 1 rfl) ?_
      refine hr_cg hC hK hH j (by omega) 3 (by decide) qF_X3_35 rfl rfl dX3_takes_42 ?_
      rcases co_cases ((cl j).2.2.2) with h0 | ⟨u, h1⟩
      · refine W.eq (g2 := F0 m_ 45 ls (.null :: [])) (by rw [h0]; rfl) ?_
        refine lv_ifnullN (tgt := 65) hx hb dX3_takes_45 (by decide) ?_
        refine lv_iconst (v := 1) hx hb dX3_takes_65 (by decide) ?_
        refine lv_goto (tgt := 70) hx hb dX3_takes_66 (by decide) ?_
        exact cm_rz hC hr hlk (by first | exact Or.inl rfl | exact Or.inr rfl | exact b2i_01 _) (by rw [tkC_t c_4]; simp [b2i, fitP, c_38, h0]) (rfl) hH hS dX3_takes_70
      · refine W.eq (g2 := F0 m_ 45 ls (.ref (ad (30 + 2 * u)) :: [])) (by rw [h1]; rfl) ?_
        refine lv_ifnull hx hb dX3_takes_45 ?_
        refine lv_aload_n hx hb dX3_takes_48 rfl (lv_at hl 1 rfl) ?_
        refine hr_cg hC hK hH j (by omega) 3 (by decide) qF_X3_35 rfl rfl dX3_takes_49 ?_
        have hun : u < P.n := by have := hok.2; omega
        have hku := hw.1 u
        refine W.eq (g2 := F0 m_ 52 ls (.ref (ad (30 + 2 * u)) :: [])) (by rw [h1]; rfl) ?_
        refine hr_kd hC hK hw hH u (by omega) qF_X3_39 (Or.inl rfl) dX3_takes_52 ?_
        refine lv_aload_n hx hb dX3_takes_55 rfl (lv_at hl 0 rfl) ?_
        refine hr_kd hC hK hw hH t (by omega) qF_X3_15 (Or.inr qSF_X3) dX3_takes_56 ?_
        refine cm_SN (As := [.int (nI (P.kd u)), .int (nI (P.kd t))]) (host := RX7) (rest := []) hC (c_X7_fits (k := (P.kd u)) (rk := (P.kd t)) (by omega) (by omega)) ms_X7_fits (by decide +kernel) ⟨⟨rfl, rfl⟩, Nat.le_of_ble_eq_true rfl, Nat.le_of_ble_eq_true rfl⟩ hK hH hS hA hl.1 ⟨Nat.zero_le _, Nat.zero_le _⟩ rfl rfl (Nat.le_of_ble_eq_true rfl) dX3_takes_59 (fun H locs hH hS => ?_)
        refine lv_if_eq (tgt := 69) hx hb dX3_takes_62 (by decide) (fun c_62 => ?_) (fun c_62 => ?_)
        · have c_62 := b2i_f c_62
          refine lv_iconst (v := 0) hx hb dX3_takes_69 (by decide) ?_
          exact cm_rz hC hr hlk (by first | exact Or.inl rfl | exact Or.inr rfl | exact b2i_01 _) (by rw [tkC_t c_4]; simp [b2i, fitP, c_38, h1, c_62]) (rfl) hH hS dX3_takes_70
        · have c_62 := b2i_t c_62
          refine lv_iconst (v := 1) hx hb dX3_takes_65 (by decide) ?_
          refine lv_goto (tgt := 70) hx hb dX3_takes_66 (by decide) ?_
          exact cm_rz hC hr hlk (by first | exact Or.inl rfl | exact Or.inr rfl | exact b2i_01 _) (by rw [tkC_t c_4]; simp [b2i, fitP, c_38, h1, c_62]) (rfl) hH hS dX3_takes_70
  · have c_4 := b2i_t c_4
    refine lv_aload_n hx hb dX3_takes_7 rfl (lv_at hl 0 rfl) ?_
    refine cm_R (As := []) (rest := []) (i := 30 + 2 * t) hC (rc_isPlain (t := t) hw (by omega) (by omega)) qM_X3_19 ⟨Nat.le_of_ble_eq_true rfl, Nat.le_of_ble_eq_true rfl⟩ hK hH hS hA hl.1 ⟨Nat.zero_le _, Nat.zero_le _⟩ rfl rfl (Nat.le_of_ble_eq_true rfl) dX3_takes_8 (fun H locs hH hS => ?_)
    refine lv_if_eq (tgt := 32) hx hb dX3_takes_11 (by decide) (fun c_11 => ?_) (fun c_11 => ?_)
    · have c_11 := b2d_f c_11
      refine lv_iconst (v := 0) hx hb dX3_takes_32 (by decide) ?_
      exact cm_rz hC hr hlk (by first | exact Or.inl rfl | exact Or.inr rfl | exact b2i_01 _) (by rw [tkC_v c_4]; simp [b2i, fitP, c_11]) (rfl) hH hS dX3_takes_33
    · have c_11 := b2d_t c_11
      refine lv_aload_n hx hb dX3_takes_14 rfl (lv_at hl 1 rfl) ?_
      refine hr_cg hC hK hH j (by omega) 0 (by decide) qF_X3_32 rfl rfl dX3_takes_15 ?_
      obtain ⟨k, hk8, ek⟩ := cOK_v hok c_4
      refine lv_chg (y := nI k) ek ?_
      refine lv_aload_n hx hb dX3_takes_18 rfl (lv_at hl 0 rfl) ?_
      refine hr_kd hC hK hw hH t (by omega) qF_X3_15 (Or.inr qSF_X3) dX3_takes_19 ?_
      refine cm_SN (As := [.int (nI k), .int (nI (P.kd t))]) (host := RX7) (rest := []) hC (c_X7_goesInto (a := k) (b := (P.kd t)) (by omega) (by omega)) ms_X7_goesInto (by decide +kernel) ⟨⟨rfl, rfl⟩, Nat.le_of_ble_eq_true rfl, Nat.le_of_ble_eq_true rfl⟩ hK hH hS hA hl.1 ⟨Nat.zero_le _, Nat.zero_le _⟩ rfl rfl (Nat.le_of_ble_eq_true rfl) dX3_takes_22 (fun H locs hH hS => ?_)
      refine lv_if_eq (tgt := 32) hx hb dX3_takes_25 (by decide) (fun c_25 => ?_) (fun c_25 => ?_)
      · have c_25 := b2i_f c_25
        refine lv_iconst (v := 0) hx hb dX3_takes_32 (by decide) ?_
        exact cm_rz hC hr hlk (by first | exact Or.inl rfl | exact Or.inr rfl | exact b2i_01 _) (by rw [tkC_v c_4]; simp [b2i, fitP, c_11, ek, cN_s (show k ≤ 7 by omega) (by decide), c_25]) (rfl) hH hS dX3_takes_33
      · have c_25 := b2i_t c_25
        refine lv_iconst (v := 1) hx hb dX3_takes_28 (by decide) ?_
        refine lv_goto (tgt := 33) hx hb dX3_takes_29 (by decide) ?_
        exact cm_rz hC hr hlk (by first | exact Or.inl rfl | exact Or.inr rfl | exact b2i_01 _) (by rw [tkC_v c_4]; simp [b2i, fitP, c_11, ek, cN_s (show k ≤ 7 by omega) (by decide), c_25]) (rfl) hH hS dX3_takes_33
theorem mu_X6_takes : muok RX6 RX3 ⟨RX3, "takes", "(LColumnHouse$Cell;)Z"⟩ yX3_takes cX3_takes 2 (some .boolean) 1 := ⟨qK_X3_takes, qSM_X3_takes, qSel_X6_X3_takes, qI_X3_takes, qInit_X3, Or.inl rfl, by decide +kernel⟩
theorem mu_X2_takes : muok RX2 RX3 ⟨RX3, "takes", "(LColumnHouse$Cell;)Z"⟩ yX3_takes cX3_takes 2 (some .boolean) 1 := ⟨qK_X3_takes, qSM_X3_takes, qSel_X2_X3_takes, qI_X3_takes, qInit_X3, Or.inl rfl, by decide +kernel⟩
theorem mu_X5_takes : muok RX5 RX3 ⟨RX3, "takes", "(LColumnHouse$Cell;)Z"⟩ yX3_takes cX3_takes 2 (some .boolean) 1 := ⟨qK_X3_takes, qSM_X3_takes, qSel_X5_X3_takes, qI_X3_takes, qInit_X3, Or.inl rfl, by decide +kernel⟩
theorem rc_takes {l : Launch} {D : va_G} {cy : Nat → ClassId} {ad : Nat → Nat} {P : AS} {wy : Int32} {cl : Nat → CE} {st : Nat → Nat} {tg : Nat → Int32} {t j : Nat} (hw : WF P) (ht : t < P.n) (hk : P.kd t < 12) (hj : j < 26) (hok : cOK P (cl j)) : RC l ⟨RX3, "takes", "(LColumnHouse$Cell;)Z"⟩ RX3 1 2 42 (some .boolean) D cy (30 + 2 * P.n) ad (30 + 2 * t) [.ref (ad (4 + j))] (hct cy ad P wy cl st tg) (some (.int (b2i (tkC P t (cl j))))) (hct cy ad P wy cl st tg) := by
  rcases (by omega : P.kd t ≤ 5 ∨ (6 ≤ P.kd t ∧ P.kd t ≤ 7) ∨ (8 ≤ P.kd t ∧ P.kd t ≤ 11)) with h6 | h2 | h5
  · exact ⟨yX3_takes, cX3_takes, 2, rm_ 1 21, 4, _, _, by omega, (hct_o t).trans (congrArg some (obE_w h6)), rfl, mu_X6_takes, c_X3_takes hw ht hk hj hok, ⟨rfl, rfl⟩, Nat.le_of_ble_eq_true rfl, Nat.le_of_ble_eq_true rfl⟩
  · exact ⟨yX3_takes, cX3_takes, 2, rm_ 1 21, 2, _, _, by omega, (hct_o t).trans (congrArg some (obE_p h2)), rfl, mu_X2_takes, c_X3_takes hw ht hk hj hok, ⟨rfl, rfl⟩, Nat.le_of_ble_eq_true rfl, Nat.le_of_ble_eq_true rfl⟩
  · exact ⟨yX3_takes, cX3_takes, 2, rm_ 1 21, 3, _, _, by omega, (hct_o t).trans (congrArg some (obE_t h5)), rfl, mu_X5_takes, c_X3_takes hw ht hk hj hok, ⟨rfl, rfl⟩, Nat.le_of_ble_eq_true rfl, Nat.le_of_ble_eq_true rfl⟩
