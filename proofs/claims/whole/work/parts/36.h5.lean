theorem mv_X1_comesBefore : mvok RX1 yX1_comesBefore cX1_comesBefore 2 (some .boolean) 1 := ⟨qK_X1_comesBefore, qI_X1_comesBefore, qSel_X1_X1_comesBefore, qInit_X1, by decide +kernel⟩
set_option maxHeartbeats 4000000 in
set_option maxRecDepth 100000 in
theorem c_X1_comesBefore {l : Launch} {D : va_G} {cy : Nat → ClassId} {ad : Nat → Nat} {P : AS} {wy : Int32} {cl : Nat → CE} {st : Nat → Nat} {tg : Nat → Int32} {j i : Nat} (hw : WF P) (hj : j < 26) (hi : i < 26) (hqj : (cl j).2.2.2 ≤ P.n) (hqi : (cl i).2.2.2 ≤ P.n) : CM l yX1_comesBefore cX1_comesBefore 2 (some .boolean) (rm_ 3 62) D cy (30 + 2 * P.n) ad [.ref (ad (4 + j)), .ref (ad (4 + i))] (hct cy ad P wy cl st tg) (some (.int (b2i (cBf P (cl j) (cl i))))) (hct cy ad P wy cl st tg) := by
  refine CM.start (by decide) (Nat.le_of_ble_eq_true rfl) ?_
  intro p_ e_ s m_ below meth cd A ls hC hr hlk hin hK hA hH hl
  obtain ⟨hx, hb, hml, hown, hts⟩ := id hC
  have hS : va_S A s.heap s.heap [] := va_S.rf
  have hl : lv_has ls 2 [(0, .ref (ad (4 + j))), (1, .ref (ad (4 + i)))] := hl
  refine lv_aload_n hx hb dX1_comesBefore_0 rfl (lv_at hl 0 rfl) ?_
  refine cm_V (As' := []) (rest := []) hC (c_X1_isValue (j := j) (by omega)) mv_X1_isValue qM_X1_44 ⟨⟨rfl, rfl⟩, Nat.le_of_ble_eq_true rfl, Nat.le_of_ble_eq_true rfl⟩ hK hH hS hA (hp.recv hK hH (i := 4 + j) (by omega) (hct_c (by omega)) rfl) hl.1 ⟨Nat.zero_le _, Nat.zero_le _⟩ rfl rfl (Nat.le_of_ble_eq_true rfl) dX1_comesBefore_1 (fun H locs hH hS => ?_)
  refine lv_if_eq (tgt := 13) hx hb dX1_comesBefore_4 (by decide) (fun c_4 => ?_) (fun c_4 => ?_)
  · have c_4 := b2i_f c_4
    refine lv_aload_n hx hb dX1_comesBefore_13 rfl (lv_at hl 0 rfl) ?_
    refine hr_cg hC hK hH j (by omega) 3 (by decide) qF_X1_23 rfl rfl dX1_comesBefore_14 ?_
    rcases co_cases ((cl j).2.2.2) with h0j | ⟨tj, h1j⟩
    · refine W.eq (g2 := F0 m_ 17 ls (.null :: [])) (by rw [h0j]; rfl) ?_
      refine lv_ifnullN (tgt := 27) hx hb dX1_comesBefore_17 (by decide) ?_
      refine lv_aload_n hx hb dX1_comesBefore_27 rfl (lv_at hl 0 rfl) ?_
      refine hr_cg hC hK hH j (by omega) 3 (by decide) qF_X1_23 rfl rfl dX1_comesBefore_28 ?_
      refine W.eq (g2 := F0 m_ 31 ls (.null :: [])) (by rw [h0j]; rfl) ?_
      refine lv_ifnonnullN hx hb dX1_comesBefore_31 ?_
      refine lv_aload_n hx hb dX1_comesBefore_34 rfl (lv_at hl 1 rfl) ?_
      refine hr_cg hC hK hH i (by omega) 3 (by decide) qF_X1_23 rfl rfl dX1_comesBefore_35 ?_
      rcases co_cases ((cl i).2.2.2) with h0i | ⟨ti, h1i⟩
      · refine W.eq (g2 := F0 m_ 38 ls (.null :: [])) (by rw [h0i]; rfl) ?_
        refine lv_ifnullN (tgt := 45) hx hb dX1_comesBefore_38 (by decide) ?_
        refine lv_iconst (v := 0) hx hb dX1_comesBefore_45 (by decide) ?_
        exact cm_rz hC hr hlk (by first | exact Or.inl rfl | exact Or.inr rfl | exact b2i_01 _) (by simp [cBf, b2i, c_4, h0j, h0i]) (rfl) hH hS dX1_comesBefore_46
      · refine W.eq (g2 := F0 m_ 38 ls (.ref (ad (30 + 2 * ti)) :: [])) (by rw [h1i]; rfl) ?_
        refine lv_ifnull hx hb dX1_comesBefore_38 ?_
        refine lv_iconst (v := 1) hx hb dX1_comesBefore_41 (by decide) ?_
        refine lv_goto (tgt := 46) hx hb dX1_comesBefore_42 (by decide) ?_
        exact cm_rz hC hr hlk (by first | exact Or.inl rfl | exact Or.inr rfl | exact b2i_01 _) (by simp [cBf, b2i, c_4, h0j, h1i]) (rfl) hH hS dX1_comesBefore_46
    · refine W.eq (g2 := F0 m_ 17 ls (.ref (ad (30 + 2 * tj)) :: [])) (by rw [h1j]; rfl) ?_
      refine lv_ifnull hx hb dX1_comesBefore_17 ?_
      refine lv_aload_n hx hb dX1_comesBefore_20 rfl (lv_at hl 1 rfl) ?_
      refine hr_cg hC hK hH i (by omega) 3 (by decide) qF_X1_23 rfl rfl dX1_comesBefore_21 ?_
      rcases co_cases ((cl i).2.2.2) with h0i | ⟨ti, h1i⟩
      · refine W.eq (g2 := F0 m_ 24 ls (.null :: [])) (by rw [h0i]; rfl) ?_
        refine lv_ifnonnullN hx hb dX1_comesBefore_24 ?_
        refine lv_aload_n hx hb dX1_comesBefore_27 rfl (lv_at hl 0 rfl) ?_
        refine hr_cg hC hK hH j (by omega) 3 (by decide) qF_X1_23 rfl rfl dX1_comesBefore_28 ?_
        refine W.eq (g2 := F0 m_ 31 ls (.ref (ad (30 + 2 * tj)) :: [])) (by rw [h1j]; rfl) ?_
        refine lv_ifnonnull (tgt := 45) hx hb dX1_comesBefore_31 (by decide) ?_
        refine lv_iconst (v := 0) hx hb dX1_comesBefore_45 (by decide) ?_
        exact cm_rz hC hr hlk (by first | exact Or.inl rfl | exact Or.inr rfl | exact b2i_01 _) (by simp [cBf, b2i, c_4, h1j, h0i]) (rfl) hH hS dX1_comesBefore_46
      · refine W.eq (g2 := F0 m_ 24 ls (.ref (ad (30 + 2 * ti)) :: [])) (by rw [h1i]; rfl) ?_
        refine lv_ifnonnull (tgt := 47) hx hb dX1_comesBefore_24 (by decide) ?_
        refine lv_aload_n hx hb dX1_comesBefore_47 rfl (lv_at hl 0 rfl) ?_
        refine hr_cg hC hK hH j (by omega) 3 (by decide) qF_X1_23 rfl rfl dX1_comesBefore_48 ?_
        refine W.eq (g2 := F0 m_ 51 ls (.ref (ad (30 + 2 * tj)) :: [])) (by rw [h1j]; rfl) ?_
        refine cm_R (As := []) (rest := []) (i := 30 + 2 * tj) hC (rc_measure (t := tj) hw (by omega)) qM_X1_55 ⟨Nat.le_of_ble_eq_true rfl, Nat.le_of_ble_eq_true rfl⟩ hK hH hS hA hl.1 ⟨Nat.zero_le _, Nat.zero_le _⟩ rfl rfl (Nat.le_of_ble_eq_true rfl) dX1_comesBefore_51 (fun H locs hH hS => ?_)
        refine lv_aload_n hx hb dX1_comesBefore_54 rfl (lv_at hl 1 rfl) ?_
        refine hr_cg hC hK hH i (by omega) 3 (by decide) qF_X1_23 rfl rfl dX1_comesBefore_55 ?_
        refine W.eq (g2 := F0 m_ 58 ls (.ref (ad (30 + 2 * ti)) :: .int (meas P tj) :: [])) (by rw [h1i]; rfl) ?_
        refine cm_R (As := []) (rest := [.int (meas P tj)]) (i := 30 + 2 * ti) hC (rc_measure (t := ti) hw (by omega)) qM_X1_55 ⟨Nat.le_of_ble_eq_true rfl, Nat.le_of_ble_eq_true rfl⟩ hK hH hS hA hl.1 ⟨Nat.zero_le _, Nat.zero_le _⟩ rfl rfl (Nat.le_of_ble_eq_true rfl) dX1_comesBefore_58 (fun H locs hH hS => ?_)
        refine lv_icmp_ge (tgt := 68) hx hb dX1_comesBefore_61 (by decide) (fun c_61 => ?_) (fun c_61 => ?_)
        · refine lv_iconst (v := 0) hx hb dX1_comesBefore_68 (by decide) ?_
          exact cm_rz hC hr hlk (by first | exact Or.inl rfl | exact Or.inr rfl | exact b2i_01 _) (by rw [cBf, if_neg (by rw [c_4]; decide), if_neg (by omega), h1j, h1i]; show _ = b2i (decide (meas P tj < meas P ti)); first | exact b2d_1 (i_nle c_61) | exact b2d_0 (i_nlt c_61)) (rfl) hH hS dX1_comesBefore_69
        · refine lv_iconst (v := 1) hx hb dX1_comesBefore_64 (by decide) ?_
          refine lv_goto (tgt := 69) hx hb dX1_comesBefore_65 (by decide) ?_
          exact cm_rz hC hr hlk (by first | exact Or.inl rfl | exact Or.inr rfl | exact b2i_01 _) (by rw [cBf, if_neg (by rw [c_4]; decide), if_neg (by omega), h1j, h1i]; show _ = b2i (decide (meas P tj < meas P ti)); first | exact b2d_1 (i_nle c_61) | exact b2d_0 (i_nlt c_61)) (rfl) hH hS dX1_comesBefore_69
  · have c_4 := b2i_t c_4
    refine lv_aload_n hx hb dX1_comesBefore_7 rfl (lv_at hl 0 rfl) ?_
    refine lv_aload_n hx hb dX1_comesBefore_8 rfl (lv_at hl 1 rfl) ?_
    refine cm_V (As' := [.ref (ad (4 + i))]) (rest := []) hC (c_X1_isLess (j := j) (i := i) (by omega) (by omega)) mv_X1_isLess qM_X1_51 ⟨⟨rfl, rfl⟩, Nat.le_of_ble_eq_true rfl, Nat.le_of_ble_eq_true rfl⟩ hK hH hS hA (hp.recv hK hH (i := 4 + j) (by omega) (hct_c (by omega)) rfl) hl.1 ⟨Nat.zero_le _, Nat.zero_le _⟩ rfl rfl (Nat.le_of_ble_eq_true rfl) dX1_comesBefore_9 (fun H locs hH hS => ?_)
    exact cm_rz hC hr hlk (by first | exact Or.inl rfl | exact Or.inr rfl | exact b2i_01 _) (by rw [cBf, if_pos c_4]) (rfl) hH hS dX1_comesBefore_12
theorem c_X7_rowAmissA {l : Launch} {D : va_G} {cy : Nat → ClassId} {ad : Nat → Nat} {P : AS} {wy : Int32} {cl : Nat → CE} {st : Nat → Nat} {tg : Nat → Int32} {c : Int32} {a : Nat} (hw : WF P) (ha : rsA P c = a) : CM l yX7_rowAmiss cX7_rowAmiss 2 (some .int) (rm_ 1 20) D cy (30 + 2 * P.n) ad [.ref (ad 0), .int c] (hct cy ad P wy cl st tg) (some (.int (nI a))) (hct cy ad P wy cl st tg) := by subst ha; exact c_X7_rowAmiss hw
theorem mv_X7_rowsAmiss : mvok RX7 yX7_rowsAmiss cX7_rowsAmiss 4 (some .int) 3 := ⟨qK_X7_rowsAmiss, qI_X7_rowsAmiss, qSel_X7_X7_rowsAmiss, qInit_X7, by decide +kernel⟩
set_option maxHeartbeats 4000000 in
set_option maxRecDepth 100000 in
theorem c_X7_rowsAmissA {l : Launch} {D : va_G} {cy : Nat → ClassId} {ad : Nat → Nat} {P : AS} {wy : Int32} {cl : Nat → CE} {st : Nat → Nat} {tg : Nat → Int32} {c d e : Int32} {a b f : Nat} (hw : WF P) (ha : rsA P c = a) (hb3 : rsA P d = b) (hf : rsA P e = f) : CM l yX7_rowsAmiss cX7_rowsAmiss 4 (some .int) (rm_ 2 45) D cy (30 + 2 * P.n) ad [.ref (ad 0), .int (c), .int (d), .int (e)] (hct cy ad P wy cl st tg) (some (.int (nI (earl a (earl b f))))) (hct cy ad P wy cl st tg) := by
  have l1 := rsA_le P c
  have l2 := rsA_le P d
  have l3 := rsA_le P e
  rw [ha] at l1
  rw [hb3] at l2
  rw [hf] at l3
  have l4 := earl_le l2 l3
  refine CM.start (by decide) (Nat.le_of_ble_eq_true rfl) ?_
  intro p_ e_ s m_ below meth cd A ls hC hr hlk hin hK hA hH hl
  obtain ⟨hx, hb, hml, hown, hts⟩ := id hC
  have hS : va_S A s.heap s.heap [] := va_S.rf
  have hl : lv_has ls 4 [(0, .ref (ad 0)), (1, .int (c)), (2, .int (d)), (3, .int (e))] := hl
  refine lv_aload_n hx hb dX7_rowsAmiss_0 rfl (lv_at hl 0 rfl) ?_
  refine lv_iload_n hx hb dX7_rowsAmiss_1 rfl (lv_at hl 1 rfl) ?_
  refine cm_V (As' := [.int (c)]) (rest := []) hC (c_X7_rowAmissA hw ha) mv_X7_rowAmiss qM_X7_65 ⟨⟨rfl, rfl⟩, Nat.le_of_ble_eq_true rfl, Nat.le_of_ble_eq_true rfl⟩ hK hH hS hA (hp.recv hK hH (i := 0) (by omega) rfl rfl) hl.1 ⟨Nat.zero_le _, Nat.zero_le _⟩ rfl rfl (Nat.le_of_ble_eq_true rfl) dX7_rowsAmiss_2 (fun H locs hH hS => ?_)
  refine lv_aload_n hx hb dX7_rowsAmiss_5 rfl (lv_at hl 0 rfl) ?_
  refine lv_iload_n hx hb dX7_rowsAmiss_6 rfl (lv_at hl 2 rfl) ?_
  refine cm_V (As' := [.int (d)]) (rest := [.int (nI a)]) hC (c_X7_rowAmissA hw hb3) mv_X7_rowAmiss qM_X7_65 ⟨⟨rfl, rfl⟩, Nat.le_of_ble_eq_true rfl, Nat.le_of_ble_eq_true rfl⟩ hK hH hS hA (hp.recv hK hH (i := 0) (by omega) rfl rfl) hl.1 ⟨Nat.zero_le _, Nat.zero_le _⟩ rfl rfl (Nat.le_of_ble_eq_true rfl) dX7_rowsAmiss_7 (fun H locs hH hS => ?_)
  refine lv_aload_n hx hb dX7_rowsAmiss_10 rfl (lv_at hl 0 rfl) ?_
  refine lv_iload_n hx hb dX7_rowsAmiss_11 rfl (lv_at hl 3 rfl) ?_
  refine cm_V (As' := [.int (e)]) (rest := [.int (nI b), .int (nI a)]) hC (c_X7_rowAmissA hw hf) mv_X7_rowAmiss qM_X7_65 ⟨⟨rfl, rfl⟩, Nat.le_of_ble_eq_true rfl, Nat.le_of_ble_eq_true rfl⟩ hK hH hS hA (hp.recv hK hH (i := 0) (by omega) rfl rfl) hl.1 ⟨Nat.zero_le _, Nat.zero_le _⟩ rfl rfl (Nat.le_of_ble_eq_true rfl) dX7_rowsAmiss_12 (fun H locs hH hS => ?_)
  refine cm_S (As := [.int (nI b), .int (nI f)]) (rest := [.int (nI a)]) hC (c_X7_earlier (a := b) (b := f) (by omega) (by omega)) ms_X7_earlier qM_X7_135 ⟨⟨rfl, rfl⟩, Nat.le_of_ble_eq_true rfl, Nat.le_of_ble_eq_true rfl⟩ hK hH hS hA hl.1 ⟨Nat.zero_le _, Nat.zero_le _⟩ rfl rfl (Nat.le_of_ble_eq_true rfl) dX7_rowsAmiss_15 (fun H locs hH hS => ?_)
  refine cm_S (As := [.int (nI a), .int (nI (earl b f))]) (rest := []) hC (c_X7_earlier (a := a) (b := (earl b f)) (by omega) (by omega)) ms_X7_earlier qM_X7_135 ⟨⟨rfl, rfl⟩, Nat.le_of_ble_eq_true rfl, Nat.le_of_ble_eq_true rfl⟩ hK hH hS hA hl.1 ⟨Nat.zero_le _, Nat.zero_le _⟩ rfl rfl (Nat.le_of_ble_eq_true rfl) dX7_rowsAmiss_18 (fun H locs hH hS => ?_)
  exact cm_ri hC hr hlk (rfl) (rfl) hH hS dX7_rowsAmiss_21
theorem c_X7_rowsAmiss {l : Launch} {D : va_G} {cy : Nat → ClassId} {ad : Nat → Nat} {P : AS} {wy : Int32} {cl : Nat → CE} {st : Nat → Nat} {tg : Nat → Int32} {c d e : Int32} (hw : WF P) : CM l yX7_rowsAmiss cX7_rowsAmiss 4 (some .int) (rm_ 2 45) D cy (30 + 2 * P.n) ad [.ref (ad 0), .int c, .int d, .int e] (hct cy ad P wy cl st tg) (some (.int (nI (earl (rsA P c) (earl (rsA P d) (rsA P e)))))) (hct cy ad P wy cl st tg) := c_X7_rowsAmissA hw rfl rfl rfl
theorem mv_X7_placeOne : mvok RX7 yX7_placeOne cX7_placeOne 4 (some .int) 3 := ⟨qK_X7_placeOne, qI_X7_placeOne, qSel_X7_X7_placeOne, qInit_X7, by decide +kernel⟩
set_option maxHeartbeats 4000000 in
set_option maxRecDepth 100000 in
theorem c_X7_placeOne {l : Launch} {D : va_G} {cy : Nat → ClassId} {ad : Nat → Nat} {P : AS} {wy : Int32} {cl : Nat → CE} {st : Nat → Nat} {tg : Nat → Int32} {t : Nat} {i ans : Int32} (hw : WF P) (ht : t < P.n) (hk : P.kd t < 12) (hI : HI P cl st) : CX l yX7_placeOne cX7_placeOne 4 (some .int) (rm_ 3 63) D cy (30 + 2 * P.n) ad [.ref (ad 0), .ref (ad (30 + 2 * t)), .int (i), .int (ans)] (hct cy ad P wy cl st tg) (hpoS cy ad (plO P t i (cl 24) ans) cl st tg) := by
  refine CX.start (by decide) (Nat.le_of_ble_eq_true rfl) ?_
  intro p_ e_ s m_ below meth cd A ls hC hr hlk hin hK hA hH hl
  obtain ⟨hx, hb, hml, hown, hts⟩ := id hC
  have hS : va_S A s.heap s.heap [] := va_S.rf
  have hl : lv_has ls 4 [(0, .ref (ad 0)), (1, .ref (ad (30 + 2 * t))), (2, .int (i)), (3, .int (ans))] := hl
  refine lv_aload_n hx hb dX7_placeOne_0 rfl (lv_at hl 1 rfl) ?_
  refine lv_iload_n hx hb dX7_placeOne_1 rfl (lv_at hl 2 rfl) ?_
  refine cm_R (As := [.int (i)]) (rest := []) (i := 30 + 2 * t) hC (rc_has (t := t) hw (by omega) (by omega)) qM_X7_114 ⟨Nat.le_of_ble_eq_true rfl, Nat.le_of_ble_eq_true rfl⟩ hK hH hS hA hl.1 ⟨Nat.zero_le _, Nat.zero_le _⟩ rfl rfl (Nat.le_of_ble_eq_true rfl) dX7_placeOne_2 (fun H locs hH hS => ?_)
  refine lv_if_ne (tgt := 14) hx hb dX7_placeOne_5 (by decide) (fun c_5 => ?_) (fun c_5 => ?_)
  · have c_5 := b2i_t c_5
    obtain ⟨k, hk2, rfl⟩ := hasP_ex c_5
    have hln := hw.2.1 t
    refine lv_aload_n hx hb dX7_placeOne_14 rfl (lv_at hl 1 rfl) ?_
    refine lv_aload_n hx hb dX7_placeOne_15 rfl (lv_at hl 0 rfl) ?_
    refine g_get hC hK inG7 hH 0 (by omega) rfl (ci := 5) rfl 3 (by decide) qF_X7_26 (Or.inl rfl) rfl dX7_placeOne_16 ?_
    refine cm_R (As := [.ref (ad (4 + 24))]) (rest := []) (i := 30 + 2 * t) hC (rc_takes (t := t) (j := 24) hw (by omega) (by omega) (by omega) (hI.1 24 (by omega))) qM_X7_139 ⟨Nat.le_of_ble_eq_true rfl, Nat.le_of_ble_eq_true rfl⟩ hK hH hS hA hl.1 ⟨Nat.zero_le _, Nat.zero_le _⟩ rfl rfl (Nat.le_of_ble_eq_true rfl) dX7_placeOne_19 (fun H locs hH hS => ?_)
    refine lv_if_ne (tgt := 31) hx hb dX7_placeOne_22 (by decide) (fun c_22 => ?_) (fun c_22 => ?_)
    · have c_22 := b2i_t c_22
      refine lv_aload_n hx hb dX7_placeOne_31 rfl (lv_at hl 1 rfl) ?_
      refine lv_iload_n hx hb dX7_placeOne_32 rfl (lv_at hl 2 rfl) ?_
      refine lv_aload_n hx hb dX7_placeOne_33 rfl (lv_at hl 0 rfl) ?_
      refine g_get hC hK inG7 hH 0 (by omega) rfl (ci := 5) rfl 3 (by decide) qF_X7_26 (Or.inl rfl) rfl dX7_placeOne_34 ?_
      refine cm_R (As := [.int (nI k), .ref (ad (4 + 24))]) (rest := []) (i := 30 + 2 * t) hC (rc_write (t := t) (i := k) (j := 24) hw (by omega) (by omega) (by omega) (by omega) ((hI.1 24 (by omega)).2)) qM_X7_198 ⟨Nat.le_of_ble_eq_true rfl, Nat.le_of_ble_eq_true rfl⟩ hK hH hS hA hl.1 ⟨Nat.zero_le _, Nat.zero_le _⟩ rfl rfl (Nat.le_of_ble_eq_true rfl) dX7_placeOne_37 (fun H locs hH hS => ?_)
      refine lv_aload_n hx hb dX7_placeOne_40 rfl (lv_at hl 0 rfl) ?_
      refine lv_iload_n hx hb dX7_placeOne_41 rfl (lv_at hl 3 rfl) ?_
      refine cm_V (As' := [.int (ans)]) (rest := []) hC (c_X7_done (P := wrP P t k (cl 24))) mv_X7_done qM_X7_50 ⟨⟨rfl, rfl⟩, Nat.le_of_ble_eq_true rfl, Nat.le_of_ble_eq_true rfl⟩ hK hH hS hA (hp.recv hK hH (i := 0) (by omega) rfl rfl) hl.1 ⟨Nat.zero_le _, Nat.zero_le _⟩ rfl rfl (Nat.le_of_ble_eq_true rfl) dX7_placeOne_42 (fun H locs hH hS => ?_)
      exact cx_ri hC hr hlk (hpoS.mk (by simp [plO, rf, c_5, cN_nI (show k < 2 ^ 31 by omega), c_22] <;> rfl)) hH hS dX7_placeOne_45
    · have c_22 := b2i_f c_22
      refine lv_aload_n hx hb dX7_placeOne_25 rfl (lv_at hl 0 rfl) ?_
      refine lv_iconst (v := 5) hx hb dX7_placeOne_26 (by decide) ?_
      refine cm_V (As' := [.int (5)]) (rest := []) hC (c_X7_refuse) mv_X7_refuse qM_X7_41 ⟨⟨rfl, rfl⟩, Nat.le_of_ble_eq_true rfl, Nat.le_of_ble_eq_true rfl⟩ hK hH hS hA (hp.recv hK hH (i := 0) (by omega) rfl rfl) hl.1 ⟨Nat.zero_le _, Nat.zero_le _⟩ rfl rfl (Nat.le_of_ble_eq_true rfl) dX7_placeOne_27 (fun H locs hH hS => ?_)
      exact cx_ri hC hr hlk (hpoS.mk (by simp [plO, rf, c_5, cN_nI (show k < 2 ^ 31 by omega), c_22] <;> rfl)) hH hS dX7_placeOne_30
  · have c_5 := b2i_f c_5
    refine lv_aload_n hx hb dX7_placeOne_8 rfl (lv_at hl 0 rfl) ?_
    refine lv_iconst (v := 4) hx hb dX7_placeOne_9 (by decide) ?_
    refine cm_V (As' := [.int (4)]) (rest := []) hC (c_X7_refuse) mv_X7_refuse qM_X7_41 ⟨⟨rfl, rfl⟩, Nat.le_of_ble_eq_true rfl, Nat.le_of_ble_eq_true rfl⟩ hK hH hS hA (hp.recv hK hH (i := 0) (by omega) rfl rfl) hl.1 ⟨Nat.zero_le _, Nat.zero_le _⟩ rfl rfl (Nat.le_of_ble_eq_true rfl) dX7_placeOne_10 (fun H locs hH hS => ?_)
    exact cx_ri hC hr hlk (hpoS.mk (by simp [plO, rf, c_5] <;> rfl)) hH hS dX7_placeOne_13
theorem mv_X7_writeStage : mvok RX7 yX7_writeStage cX7_writeStage 4 (some .int) 1 := ⟨qK_X7_writeStage, qI_X7_writeStage, qSel_X7_X7_writeStage, qInit_X7, by decide +kernel⟩
set_option maxHeartbeats 4000000 in
set_option maxRecDepth 100000 in
theorem c_X7_writeStage {l : Launch} {D : va_G} {cy : Nat → ClassId} {ad : Nat → Nat} {P : AS} {wy : Int32} {cl : Nat → CE} {st : Nat → Nat} {tg : Nat → Int32} {t : Nat} (hw : WF P) (ht : t < P.n) (hk : P.kd t < 12) (hI : HI P cl st) : CM l yX7_writeStage cX7_writeStage 4 (some .int) (rm_ 3 63) D cy (30 + 2 * P.n) ad [.ref (ad 0), .ref (ad (30 + 2 * t))] (hct cy ad P wy cl st tg) (some (.int (nI (P.ln t)))) (hct cy ad (wgP P t (fun i => i) (fun i => cl (st i)) (P.ln t)) wy cl st tg) := by
  have hln := hw.2.1 t
  have hIq : ∀ i, i < P.ln t → ((fun i => cl (st i)) i).2.2.2 ≤ P.n := fun i hi => (hI.1 _ (by have := hI.2.1 i (by omega); omega)).2
  refine CM.startQ (by decide) (Nat.le_of_ble_eq_true rfl) ?_
  intro p_ e_ s m_ args_ below meth cd A ls Q hQ hC hr hlk hK hA hH hl
  obtain ⟨hx, hb, hml, hown, hts⟩ := id hC
  have hS : va_S A s.heap s.heap [] := va_S.rf
  have hl : lv_has ls 4 [(0, .ref (ad 0)), (1, .ref (ad (30 + 2 * t)))] := hl
  refine lv_aload_n hx hb dX7_writeStage_0 rfl (lv_at hl 1 rfl) ?_
  refine cm_R (As := []) (rest := []) (i := 30 + 2 * t) hC (rc_length (t := t) hw (by omega) (by omega)) qM_X7_68 ⟨Nat.le_of_ble_eq_true rfl, Nat.le_of_ble_eq_true rfl⟩ hK hH hS hA hl.1 ⟨Nat.zero_le _, Nat.zero_le _⟩ rfl rfl (Nat.le_of_ble_eq_true rfl) dX7_writeStage_1 (fun H locs hH hS => ?_)
  refine lv_istore_n (lv' := [(2, .int (nI (P.ln t))), (0, .ref (ad 0)), (1, .ref (ad (30 + 2 * t)))]) hx hb dX7_writeStage_4 rfl hl (by decide) rfl (fun ls hl => ?_)
  refine lv_iconst (v := 0) hx hb dX7_writeStage_5 (by decide) ?_
  refine lv_istore_n (lv' := [(3, .int (0)), (2, .int (nI (P.ln t))), (0, .ref (ad 0)), (1, .ref (ad (30 + 2 * t)))]) hx hb dX7_writeStage_6 rfl hl (by decide) rfl (fun ls hl => ?_)
  have lp : ∀ (n9 k : Nat), k ≤ (P.ln t) → (P.ln t) < k + n9 → ∀   (H : Heap) (locs : List Loc), hp D A (30 + 2 * P.n) ad (hct cy ad (wgP P t (fun i => i) (fun i => cl (st i)) k) wy cl st tg) H → va_S A s.heap H locs → ∀ (ls : Array Slot), lv_has ls 4 [(3, .int (nI k)), (2, .int (nI (P.ln t))), (0, .ref (ad 0)), (1, .ref (ad (30 + 2 * t)))] → W p_ l e_ (rm_ 3 63) s m_ args_ below meth cd H locs 0 0 Q (F0 m_ 7 ls []) := by
    intro n9
    induction n9 with
    | zero => intro k h1 h2; omega
    | succ n9 ih_lp =>
      intro k hk1 hk2   H locs hH hS ls hl
      refine lv_iload_n hx hb dX7_writeStage_7 rfl (lv_at hl 0 rfl) ?_
      refine lv_iload_n hx hb dX7_writeStage_8 rfl (lv_at hl 1 rfl) ?_
      refine lv_icmp_ge (tgt := 29) hx hb dX7_writeStage_9 (by decide) (fun c_9 => ?_) (fun c_9 => ?_)
      · have c_9 := nc_le (a := (P.ln t)) (b := k) (by omega) (by omega) c_9
        refine lv_iload_n hx hb dX7_writeStage_29 rfl (lv_at hl 1 rfl) ?_
        subst hQ
        exact cm_ri hC hr hlk (rfl) (by rw [show P.ln t = k by omega]) hH hS dX7_writeStage_30
      · have c_9 := nc_nle (a := (P.ln t)) (b := k) (by omega) (by omega) c_9
        refine lv_aload_n hx hb dX7_writeStage_12 rfl (lv_at hl 3 rfl) ?_
        refine lv_iload_n hx hb dX7_writeStage_13 rfl (lv_at hl 0 rfl) ?_
        refine lv_aload_n hx hb dX7_writeStage_14 rfl (lv_at hl 2 rfl) ?_
        refine g_get hC hK inG7 hH 0 (by omega) rfl (ci := 5) rfl 1 (by decide) qF_X7_17 (Or.inl rfl) rfl dX7_writeStage_15 ?_
        refine lv_iload_n hx hb dX7_writeStage_18 rfl (lv_at hl 0 rfl) ?_
        have hsk := hI.2.1 k (by omega)
        refine hr_sg (P := wgP P t (fun i => i) (fun i => cl (st i)) k) hC hK hH k (by omega) dX7_writeStage_19 ?_
        refine cm_R (As := [.int (nI k), .ref (ad (4 + st k))]) (rest := []) (i := 30 + 2 * t) hC (rc_write (P := wgP P t (fun i => i) (fun i => cl (st i)) k) (t := t) (i := k) (j := st k) (WF_wg hw (fun i hi => hIq i (by omega))) (by omega) (by omega) (by omega) (by omega) (hIq k (by omega))) qM_X7_198 ⟨Nat.le_of_ble_eq_true rfl, Nat.le_of_ble_eq_true rfl⟩ hK hH hS hA hl.1 ⟨Nat.zero_le _, Nat.zero_le _⟩ rfl rfl (Nat.le_of_ble_eq_true rfl) dX7_writeStage_20 (fun H locs hH hS => ?_)
        refine lv_iinc (v := nI (k + 1)) (lv' := [(3, .int (nI (k + 1))), (2, .int (nI (P.ln t))), (0, .ref (ad 0)), (1, .ref (ad (30 + 2 * t)))]) hx hb dX7_writeStage_23 hl (k := 0) rfl (nI_1 _) (by decide) rfl (fun ls hl => ?_)
        refine lv_goto (tgt := 7) hx hb dX7_writeStage_26 (by decide) ?_
        exact ih_lp (k + 1) (by omega) (by omega)   _ _ hH hS ls (lv_sub hl [0, 1, 2, 3] rfl)
  exact lp ((P.ln t) + 1) 0 (by omega) (by omega)   _ _ hH hS ls (lv_sub hl [0, 1, 2, 3] rfl)
theorem mv_X7_indexAt : mvok RX7 yX7_indexAt cX7_indexAt 3 (some .int) 2 := ⟨qK_X7_indexAt, qI_X7_indexAt, qSel_X7_X7_indexAt, qInit_X7, by decide +kernel⟩
set_option maxHeartbeats 4000000 in
set_option maxRecDepth 100000 in
theorem c_X7_indexAt {l : Launch} {D : va_G} {cy : Nat → ClassId} {ad : Nat → Nat} {P : AS} {wy : Int32} {cl : Nat → CE} {st : Nat → Nat} {tg : Nat → Int32} {t k : Nat} (hw : WF P) (ht : t < P.n) (hk : P.kd t < 12) (h5 : P.kd t ≤ 5) (hk1 : k < P.ln t) : CM l yX7_indexAt cX7_indexAt 3 (some .int) (rm_ 2 45) D cy (30 + 2 * P.n) ad [.ref (ad 0), .ref (ad (30 + 2 * t)), .int (nI k)] (hct cy ad P wy cl st tg) (some (.int ((P.wh t k).toInt32))) (hct cy ad P wy (va_up cl 24 (rdC P t k (cl 24))) st tg) := by
  refine CM.start (by decide) (Nat.le_of_ble_eq_true rfl) ?_
  intro p_ e_ s m_ below meth cd A ls hC hr hlk hin hK hA hH hl
  obtain ⟨hx, hb, hml, hown, hts⟩ := id hC
  have hS : va_S A s.heap s.heap [] := va_S.rf
  have hl : lv_has ls 3 [(0, .ref (ad 0)), (1, .ref (ad (30 + 2 * t))), (2, .int (nI k))] := hl
  refine lv_aload_n hx hb dX7_indexAt_0 rfl (lv_at hl 1 rfl) ?_
  refine lv_iload_n hx hb dX7_indexAt_1 rfl (lv_at hl 2 rfl) ?_
  refine lv_aload_n hx hb dX7_indexAt_2 rfl (lv_at hl 0 rfl) ?_
  refine g_get hC hK inG7 hH 0 (by omega) rfl (ci := 5) rfl 3 (by decide) qF_X7_26 (Or.inl rfl) rfl dX7_indexAt_3 ?_
  refine cm_R (As := [.int (nI k), .ref (ad (4 + 24))]) (rest := []) (i := 30 + 2 * t) hC (rc_read (t := t) (i := k) (j := 24) hw (by omega) (by omega) (by omega) (by omega)) qM_X7_117 ⟨Nat.le_of_ble_eq_true rfl, Nat.le_of_ble_eq_true rfl⟩ hK hH hS hA hl.1 ⟨Nat.zero_le _, Nat.zero_le _⟩ rfl rfl (Nat.le_of_ble_eq_true rfl) dX7_indexAt_6 (fun H locs hH hS => ?_)
  refine lv_aload_n hx hb dX7_indexAt_9 rfl (lv_at hl 0 rfl) ?_
  refine g_get hC hK inG7 hH 0 (by omega) rfl (ci := 5) rfl 3 (by decide) qF_X7_26 (Or.inl rfl) rfl dX7_indexAt_10 ?_
  refine hr_cg hC hK hH 24 (by omega) 1 (by decide) qF_X7_106 rfl rfl dX7_indexAt_13 ?_
  refine lv_chgl (y := P.wh t k) (by rw [va_up_self, rdC, if_pos h5]) ?_
  refine lv_l2i hx hb dX7_indexAt_16 rfl ?_
  exact cm_ri hC hr hlk (rfl) (rfl) hH hS dX7_indexAt_17
theorem mv_X7_stageMove : mvok RX7 yX7_stageMove cX7_stageMove 5 (some .int) 4 := ⟨qK_X7_stageMove, qI_X7_stageMove, qSel_X7_X7_stageMove, qInit_X7, by decide +kernel⟩
set_option maxHeartbeats 4000000 in
set_option maxRecDepth 100000 in
theorem c_X7_stageMove {l : Launch} {D : va_G} {cy : Nat → ClassId} {ad : Nat → Nat} {P : AS} {wy : Int32} {cl : Nat → CE} {st : Nat → Nat} {tg : Nat → Int32} {f t k : Nat} {u : Int32} (hw : WF P) (hf : f < P.n) (hkf : P.kd f < 12) (ht : t < P.n) (hk : P.kd t < 12) (hk24 : k < 24) (hI : HI P cl st) : CM l yX7_stageMove cX7_stageMove 5 (some .int) (rm_ 2 45) D cy (30 + 2 * P.n) ad [.ref (ad 0), .ref (ad (30 + 2 * f)), .int (u), .ref (ad (30 + 2 * t)), .int (nI k)] (hct cy ad P wy cl st tg) (some (.int (nI (smR P f t u (tg k) (cl (st k)))))) (hct cy ad P wy (smL P f t u (tg k) cl (st k)) st tg) := by
  refine CM.start (by decide) (Nat.le_of_ble_eq_true rfl) ?_
  intro p_ e_ s m_ below meth cd A ls hC hr hlk hin hK hA hH hl
  obtain ⟨hx, hb, hml, hown, hts⟩ := id hC
  have hS : va_S A s.heap s.heap [] := va_S.rf
  have hl : lv_has ls 5 [(0, .ref (ad 0)), (1, .ref (ad (30 + 2 * f))), (2, .int (u)), (3, .ref (ad (30 + 2 * t))), (4, .int (nI k))] := hl
  refine lv_aload_n hx hb dX7_stageMove_0 rfl (lv_at hl 1 rfl) ?_
  refine lv_iload_n hx hb dX7_stageMove_1 rfl (lv_at hl 2 rfl) ?_
  refine cm_R (As := [.int (u)]) (rest := []) (i := 30 + 2 * f) hC (rc_has (t := f) hw (by omega) (by omega)) qM_X7_114 ⟨Nat.le_of_ble_eq_true rfl, Nat.le_of_ble_eq_true rfl⟩ hK hH hS hA hl.1 ⟨Nat.zero_le _, Nat.zero_le _⟩ rfl rfl (Nat.le_of_ble_eq_true rfl) dX7_stageMove_2 (fun H locs hH hS => ?_)
  refine lv_if_eq (tgt := 22) hx hb dX7_stageMove_5 (by decide) (fun c_5 => ?_) (fun c_5 => ?_)
  · have c_5 := b2i_f c_5
    refine lv_iconst (v := 4) hx hb dX7_stageMove_22 (by decide) ?_
    exact cm_ri hC hr hlk (by simp [smR, c_5, va_up_self] <;> rfl) (by simp [smL, c_5]) hH hS dX7_stageMove_23
  · have c_5 := b2i_t c_5
    refine lv_aload_n hx hb dX7_stageMove_8 rfl (lv_at hl 3 rfl) ?_
    refine lv_aload_n hx hb dX7_stageMove_9 rfl (lv_at hl 0 rfl) ?_
    refine g_get hC hK inG7 hH 0 (by omega) rfl (ci := 5) rfl 2 (by decide) qF_X7_22 (Or.inl rfl) rfl dX7_stageMove_10 ?_
    refine lv_iload hx hb dX7_stageMove_13 (lv_at hl 4 rfl) ?_
    refine gN_iald hC hK hH 3 (by omega) rfl k (by omega) dX7_stageMove_15 ?_
    refine cm_R (As := [.int (tg k)]) (rest := []) (i := 30 + 2 * t) hC (rc_has (t := t) hw (by omega) (by omega)) qM_X7_114 ⟨Nat.le_of_ble_eq_true rfl, Nat.le_of_ble_eq_true rfl⟩ hK hH hS hA hl.1 ⟨Nat.zero_le _, Nat.zero_le _⟩ rfl rfl (Nat.le_of_ble_eq_true rfl) dX7_stageMove_16 (fun H locs hH hS => ?_)
    refine lv_if_ne (tgt := 24) hx hb dX7_stageMove_19 (by decide) (fun c_19 => ?_) (fun c_19 => ?_)
    · have c_19 := b2i_t c_19
      obtain ⟨i, hi2, rfl⟩ := hasP_ex c_5
      have hsk := hI.2.1 k (by omega)
      have hln := hw.2.1 f
      refine lv_aload_n hx hb dX7_stageMove_24 rfl (lv_at hl 1 rfl) ?_
      refine lv_iload_n hx hb dX7_stageMove_25 rfl (lv_at hl 2 rfl) ?_
      refine lv_aload_n hx hb dX7_stageMove_26 rfl (lv_at hl 0 rfl) ?_
      refine g_get hC hK inG7 hH 0 (by omega) rfl (ci := 5) rfl 1 (by decide) qF_X7_17 (Or.inl rfl) rfl dX7_stageMove_27 ?_
      refine lv_iload hx hb dX7_stageMove_30 (lv_at hl 4 rfl) ?_
      refine hr_sg hC hK hH k (by omega) dX7_stageMove_32 ?_
      refine cm_R (As := [.int (nI i), .ref (ad (4 + st k))]) (rest := []) (i := 30 + 2 * f) hC (rc_read (t := f) (i := i) (j := st k) hw (by omega) (by omega) (by omega) (by omega)) qM_X7_117 ⟨Nat.le_of_ble_eq_true rfl, Nat.le_of_ble_eq_true rfl⟩ hK hH hS hA hl.1 ⟨Nat.zero_le _, Nat.zero_le _⟩ rfl rfl (Nat.le_of_ble_eq_true rfl) dX7_stageMove_33 (fun H locs hH hS => ?_)
      refine lv_aload_n hx hb dX7_stageMove_36 rfl (lv_at hl 3 rfl) ?_
      refine lv_aload_n hx hb dX7_stageMove_37 rfl (lv_at hl 0 rfl) ?_
      refine g_get hC hK inG7 hH 0 (by omega) rfl (ci := 5) rfl 1 (by decide) qF_X7_17 (Or.inl rfl) rfl dX7_stageMove_38 ?_
      refine lv_iload hx hb dX7_stageMove_41 (lv_at hl 4 rfl) ?_
      refine hr_sg hC hK hH k (by omega) dX7_stageMove_43 ?_
      refine cm_R (As := [.ref (ad (4 + st k))]) (rest := []) (i := 30 + 2 * t) hC (rc_takes (t := t) (j := st k) hw (by omega) (by omega) (by omega) (by rw [va_up_self]; exact cOK_rd hw (hI.1 _ (by omega)) hkf)) qM_X7_139 ⟨Nat.le_of_ble_eq_true rfl, Nat.le_of_ble_eq_true rfl⟩ hK hH hS hA hl.1 ⟨Nat.zero_le _, Nat.zero_le _⟩ rfl rfl (Nat.le_of_ble_eq_true rfl) dX7_stageMove_44 (fun H locs hH hS => ?_)
      refine lv_if_eq (tgt := 54) hx hb dX7_stageMove_47 (by decide) (fun c_47 => ?_) (fun c_47 => ?_)
      · have c_47 := b2i_f c_47
        rw [va_up_self] at c_47
        refine lv_iconst (v := 5) hx hb dX7_stageMove_54 (by decide) ?_
        exact cm_ri hC hr hlk (by simp [smR, c_5, c_19, cN_nI (show i < 2 ^ 31 by omega), c_47, va_up_self] <;> rfl) (by simp [smL, c_5, c_19, cN_nI (show i < 2 ^ 31 by omega)]) hH hS dX7_stageMove_55
      · have c_47 := b2i_t c_47
        rw [va_up_self] at c_47
        refine lv_iconst (v := 0) hx hb dX7_stageMove_50 (by decide) ?_
        refine lv_goto (tgt := 55) hx hb dX7_stageMove_51 (by decide) ?_
        exact cm_ri hC hr hlk (by simp [smR, c_5, c_19, cN_nI (show i < 2 ^ 31 by omega), c_47, va_up_self] <;> rfl) (by simp [smL, c_5, c_19, cN_nI (show i < 2 ^ 31 by omega)]) hH hS dX7_stageMove_55
    · have c_19 := b2i_f c_19
      refine lv_iconst (v := 4) hx hb dX7_stageMove_22 (by decide) ?_
      exact cm_ri hC hr hlk (by simp [smR, c_5, c_19, va_up_self] <;> rfl) (by simp [smL, c_5, c_19]) hH hS dX7_stageMove_23
