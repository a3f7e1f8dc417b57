theorem ms_X7_isColumn : msok yX7_isColumn cX7_isColumn 1 (some .boolean) 1 := ⟨qK_X7_isColumn, qSt_X7_isColumn, qInit_X7, by decide +kernel⟩
set_option maxHeartbeats 4000000 in
set_option maxRecDepth 100000 in
theorem c_X7_isColumn {l : Launch} {D : va_G} {cy : Nat → ClassId} {ad : Nat → Nat} {N : Nat} {ct : Nat → Option va_E} {v : Int32}  : CM l yX7_isColumn cX7_isColumn 1 (some .boolean) (rm_ 0 0) D cy N ad [.int (v)] ct (some (.int (b2i (isC v)))) ct := by
  refine CM.start (by decide) (Nat.le_of_ble_eq_true rfl) ?_
  intro p_ e_ s m_ below meth cd A ls hC hr hlk hin hK hA hH hl
  obtain ⟨hx, hb, hml, hown, hts⟩ := id hC
  have hS : va_S A s.heap s.heap [] := va_S.rf
  have hl : lv_has ls 1 [(0, .int (v))] := hl
  refine lv_iload_n hx hb dX7_isColumn_0 rfl (lv_at hl 0 rfl) ?_
  refine lv_if_lt (tgt := 14) hx hb dX7_isColumn_1 (by decide) (fun c_1 => ?_) (fun c_1 => ?_)
  · refine lv_iconst (v := 0) hx hb dX7_isColumn_14 (by decide) ?_
    exact cm_rz hC hr hlk (by first | exact Or.inl rfl | exact Or.inr rfl | exact b2i_01 _) (by first | (rw [isC_lo (by assumption)]; rfl) | (rw [isC_hi (by assumption)]; rfl) | (rw [isC_in (by assumption) (by assumption)]; rfl)) (rfl) hH hS dX7_isColumn_15
  · refine lv_iload_n hx hb dX7_isColumn_4 rfl (lv_at hl 0 rfl) ?_
    refine lv_bipush (v := 12) hx hb dX7_isColumn_5 (by decide) ?_
    refine lv_icmp_ge (tgt := 14) hx hb dX7_isColumn_7 (by decide) (fun c_7 => ?_) (fun c_7 => ?_)
    · refine lv_iconst (v := 0) hx hb dX7_isColumn_14 (by decide) ?_
      exact cm_rz hC hr hlk (by first | exact Or.inl rfl | exact Or.inr rfl | exact b2i_01 _) (by first | (rw [isC_lo (by assumption)]; rfl) | (rw [isC_hi (by assumption)]; rfl) | (rw [isC_in (by assumption) (by assumption)]; rfl)) (rfl) hH hS dX7_isColumn_15
    · refine lv_iconst (v := 1) hx hb dX7_isColumn_10 (by decide) ?_
      refine lv_goto (tgt := 15) hx hb dX7_isColumn_11 (by decide) ?_
      exact cm_rz hC hr hlk (by first | exact Or.inl rfl | exact Or.inr rfl | exact b2i_01 _) (by first | (rw [isC_lo (by assumption)]; rfl) | (rw [isC_hi (by assumption)]; rfl) | (rw [isC_in (by assumption) (by assumption)]; rfl)) (rfl) hH hS dX7_isColumn_15
theorem ms_X7_isSort : msok yX7_isSort cX7_isSort 1 (some .boolean) 1 := ⟨qK_X7_isSort, qSt_X7_isSort, qInit_X7, by decide +kernel⟩
set_option maxHeartbeats 4000000 in
set_option maxRecDepth 100000 in
theorem c_X7_isSort {l : Launch} {D : va_G} {cy : Nat → ClassId} {ad : Nat → Nat} {N : Nat} {ct : Nat → Option va_E} {v : Int32}  : CM l yX7_isSort cX7_isSort 1 (some .boolean) (rm_ 0 0) D cy N ad [.int (v)] ct (some (.int (b2i (inR v 0 7)))) ct := by
  refine CM.start (by decide) (Nat.le_of_ble_eq_true rfl) ?_
  intro p_ e_ s m_ below meth cd A ls hC hr hlk hin hK hA hH hl
  obtain ⟨hx, hb, hml, hown, hts⟩ := id hC
  have hS : va_S A s.heap s.heap [] := va_S.rf
  have hl : lv_has ls 1 [(0, .int (v))] := hl
  refine lv_iload_n hx hb dX7_isSort_0 rfl (lv_at hl 0 rfl) ?_
  refine lv_if_lt (tgt := 14) hx hb dX7_isSort_1 (by decide) (fun c_1 => ?_) (fun c_1 => ?_)
  · refine lv_iconst (v := 0) hx hb dX7_isSort_14 (by decide) ?_
    exact cm_rz hC hr hlk (by first | exact Or.inl rfl | exact Or.inr rfl | exact b2i_01 _) (by first | (rw [inR_lo (by assumption)]; rfl) | (rw [inR_hi (by assumption)]; rfl) | (rw [inR_in (by assumption) (by assumption)]; rfl)) (rfl) hH hS dX7_isSort_15
  · refine lv_iload_n hx hb dX7_isSort_4 rfl (lv_at hl 0 rfl) ?_
    refine lv_bipush (v := 7) hx hb dX7_isSort_5 (by decide) ?_
    refine lv_icmp_gt (tgt := 14) hx hb dX7_isSort_7 (by decide) (fun c_7 => ?_) (fun c_7 => ?_)
    · refine lv_iconst (v := 0) hx hb dX7_isSort_14 (by decide) ?_
      exact cm_rz hC hr hlk (by first | exact Or.inl rfl | exact Or.inr rfl | exact b2i_01 _) (by first | (rw [inR_lo (by assumption)]; rfl) | (rw [inR_hi (by assumption)]; rfl) | (rw [inR_in (by assumption) (by assumption)]; rfl)) (rfl) hH hS dX7_isSort_15
    · refine lv_iconst (v := 1) hx hb dX7_isSort_10 (by decide) ?_
      refine lv_goto (tgt := 15) hx hb dX7_isSort_11 (by decide) ?_
      exact cm_rz hC hr hlk (by first | exact Or.inl rfl | exact Or.inr rfl | exact b2i_01 _) (by first | (rw [inR_lo (by assumption)]; rfl) | (rw [inR_hi (by assumption)]; rfl) | (rw [inR_in (by assumption) (by assumption)]; rfl)) (rfl) hH hS dX7_isSort_15
theorem mv_X7_done : mvok RX7 yX7_done cX7_done 2 (some .int) 1 := ⟨qK_X7_done, qI_X7_done, qSel_X7_X7_done, qInit_X7, by decide +kernel⟩
set_option maxHeartbeats 4000000 in
set_option maxRecDepth 100000 in
theorem c_X7_done {l : Launch} {D : va_G} {cy : Nat → ClassId} {ad : Nat → Nat} {P : AS} {wy : Int32} {cl : Nat → CE} {st : Nat → Nat} {tg : Nat → Int32} {k : Int32}  : CM l yX7_done cX7_done 2 (some .int) (rm_ 0 0) D cy (30 + 2 * P.n) ad [.ref (ad 0), .int (k)] (hct cy ad P wy cl st tg) (some (.int (k))) (hct cy ad P 0 cl st tg) := by
  refine CM.start (by decide) (Nat.le_of_ble_eq_true rfl) ?_
  intro p_ e_ s m_ below meth cd A ls hC hr hlk hin hK hA hH hl
  obtain ⟨hx, hb, hml, hown, hts⟩ := id hC
  have hS : va_S A s.heap s.heap [] := va_S.rf
  have hl : lv_has ls 2 [(0, .ref (ad 0)), (1, .int (k))] := hl
  refine lv_aload_n hx hb dX7_done_0 rfl (lv_at hl 0 rfl) ?_
  refine lv_iconst (v := 0) hx hb dX7_done_1 (by decide) ?_
  refine g_put (ct' := hct cy ad P 0 cl st tg) hC hK inG7 tyX7 tyX7_ok nmX7 hH hS 0 (by omega) rfl (ci := 5) rfl 5 (by decide) qF_X7_33 rfl rfl rfl rfl (Nat.le_of_ble_eq_true rfl) rfl hct_wy dX7_done_2 (fun H locs hH hS => ?_)
  refine lv_iload_n hx hb dX7_done_5 rfl (lv_at hl 1 rfl) ?_
  exact cm_ri hC hr hlk (rfl) (rfl) hH hS dX7_done_6
theorem mv_X7_refuse : mvok RX7 yX7_refuse cX7_refuse 2 (some .int) 1 := ⟨qK_X7_refuse, qI_X7_refuse, qSel_X7_X7_refuse, qInit_X7, by decide +kernel⟩
set_option maxHeartbeats 4000000 in
set_option maxRecDepth 100000 in
theorem c_X7_refuse {l : Launch} {D : va_G} {cy : Nat → ClassId} {ad : Nat → Nat} {P : AS} {wy : Int32} {cl : Nat → CE} {st : Nat → Nat} {tg : Nat → Int32} {k : Int32}  : CM l yX7_refuse cX7_refuse 2 (some .int) (rm_ 0 0) D cy (30 + 2 * P.n) ad [.ref (ad 0), .int (k)] (hct cy ad P wy cl st tg) (some (.int (0))) (hct cy ad P k cl st tg) := by
  refine CM.start (by decide) (Nat.le_of_ble_eq_true rfl) ?_
  intro p_ e_ s m_ below meth cd A ls hC hr hlk hin hK hA hH hl
  obtain ⟨hx, hb, hml, hown, hts⟩ := id hC
  have hS : va_S A s.heap s.heap [] := va_S.rf
  have hl : lv_has ls 2 [(0, .ref (ad 0)), (1, .int (k))] := hl
  refine lv_aload_n hx hb dX7_refuse_0 rfl (lv_at hl 0 rfl) ?_
  refine lv_iload_n hx hb dX7_refuse_1 rfl (lv_at hl 1 rfl) ?_
  refine g_put (ct' := hct cy ad P k cl st tg) hC hK inG7 tyX7 tyX7_ok nmX7 hH hS 0 (by omega) rfl (ci := 5) rfl 5 (by decide) qF_X7_33 rfl rfl rfl rfl (Nat.le_of_ble_eq_true rfl) rfl hct_wy dX7_refuse_2 (fun H locs hH hS => ?_)
  refine lv_iconst (v := 0) hx hb dX7_refuse_5 (by decide) ?_
  exact cm_ri hC hr hlk (rfl) (rfl) hH hS dX7_refuse_6
theorem ms_X7_kindOf : msok yX7_kindOf cX7_kindOf 1 (some .int) 1 := ⟨qK_X7_kindOf, qSt_X7_kindOf, qInit_X7, by decide +kernel⟩
set_option maxHeartbeats 4000000 in
set_option maxRecDepth 100000 in
theorem c_X7_kindOf {l : Launch} {D : va_G} {cy : Nat → ClassId} {ad : Nat → Nat} {P : AS} {wy : Int32} {cl : Nat → CE} {st : Nat → Nat} {tg : Nat → Int32} {q : Nat} (hw : WF P) (hq : q ≤ P.n) : CM l yX7_kindOf cX7_kindOf 1 (some .int) (rm_ 0 0) D cy (30 + 2 * P.n) ad [va_rf (rfO ad q)] (hct cy ad P wy cl st tg) (some (.int (kOf P q))) (hct cy ad P wy cl st tg) := by
  refine CM.start (by decide) (by cases rfO ad q <;> exact Nat.le_of_ble_eq_true rfl) ?_
  intro p_ e_ s m_ below meth cd A ls hC hr hlk hin hK hA hH hl
  obtain ⟨hx, hb, hml, hown, hts⟩ := id hC
  have hS : va_S A s.heap s.heap [] := va_S.rf
  have hl : lv_has ls 1 [(0, va_rf (rfO ad q))] := hl
  rcases co_cases q with rfl | ⟨t, rfl⟩
  · have hl : lv_has ls 1 [(0, .null)] := hl
    refine lv_aload_nN hx hb dX7_kindOf_0 rfl (lv_at hl 0 rfl) ?_
    refine lv_ifnonnullN hx hb dX7_kindOf_1 ?_
    refine lv_iconst (v := (-1)) hx hb dX7_kindOf_4 (by decide) ?_
    refine lv_goto (tgt := 12) hx hb dX7_kindOf_5 (by decide) ?_
    exact cm_ri hC hr hlk (rfl) (rfl) hH hS dX7_kindOf_12
  · have hl : lv_has ls 1 [(0, .ref (ad (30 + 2 * t)))] := hl
    refine lv_aload_n hx hb dX7_kindOf_0 rfl (lv_at hl 0 rfl) ?_
    refine lv_ifnonnull (tgt := 8) hx hb dX7_kindOf_1 (by decide) ?_
    refine lv_aload_n hx hb dX7_kindOf_8 rfl (lv_at hl 0 rfl) ?_
    refine hr_kd hC hK hw hH t (by omega) qF_X7_185 (Or.inl rfl) dX7_kindOf_9 ?_
    exact cm_ri hC hr hlk (by unfold kOf; rw [if_neg (by omega)]; rfl) (rfl) hH hS dX7_kindOf_12
theorem ms_X7_oneIfThing : msok yX7_oneIfThing cX7_oneIfThing 1 (some .int) 1 := ⟨qK_X7_oneIfThing, qSt_X7_oneIfThing, qInit_X7, by decide +kernel⟩
set_option maxHeartbeats 4000000 in
set_option maxRecDepth 100000 in
theorem c_X7_oneIfThing {l : Launch} {D : va_G} {cy : Nat → ClassId} {ad : Nat → Nat} {P : AS} {wy : Int32} {cl : Nat → CE} {st : Nat → Nat} {tg : Nat → Int32} {q : Nat}  : CM l yX7_oneIfThing cX7_oneIfThing 1 (some .int) (rm_ 0 0) D cy (30 + 2 * P.n) ad [va_rf (rfO ad q)] (hct cy ad P wy cl st tg) (some (.int (if q = 0 then 0 else 1))) (hct cy ad P wy cl st tg) := by
  refine CM.start (by decide) (by cases rfO ad q <;> exact Nat.le_of_ble_eq_true rfl) ?_
  intro p_ e_ s m_ below meth cd A ls hC hr hlk hin hK hA hH hl
  obtain ⟨hx, hb, hml, hown, hts⟩ := id hC
  have hS : va_S A s.heap s.heap [] := va_S.rf
  have hl : lv_has ls 1 [(0, va_rf (rfO ad q))] := hl
  rcases co_cases q with rfl | ⟨t, rfl⟩
  · have hl : lv_has ls 1 [(0, .null)] := hl
    refine lv_aload_nN hx hb dX7_oneIfThing_0 rfl (lv_at hl 0 rfl) ?_
    refine lv_ifnonnullN hx hb dX7_oneIfThing_1 ?_
    refine lv_iconst (v := 0) hx hb dX7_oneIfThing_4 (by decide) ?_
    refine lv_goto (tgt := 9) hx hb dX7_oneIfThing_5 (by decide) ?_
    exact cm_ri hC hr hlk (rfl) (rfl) hH hS dX7_oneIfThing_9
  · have hl : lv_has ls 1 [(0, .ref (ad (30 + 2 * t)))] := hl
    refine lv_aload_n hx hb dX7_oneIfThing_0 rfl (lv_at hl 0 rfl) ?_
    refine lv_ifnonnull (tgt := 8) hx hb dX7_oneIfThing_1 (by decide) ?_
    refine lv_iconst (v := 1) hx hb dX7_oneIfThing_8 (by decide) ?_
    exact cm_ri hC hr hlk (by rw [if_neg (by omega)]) (rfl) hH hS dX7_oneIfThing_9
theorem mv_X7_rowIn : mvok RX7 yX7_rowIn cX7_rowIn 4 (some (.object "ColumnHouse$Row")) 1 := ⟨qK_X7_rowIn, qI_X7_rowIn, qSel_X7_X7_rowIn, qInit_X7, by decide +kernel⟩
set_option maxHeartbeats 4000000 in
set_option maxRecDepth 100000 in
theorem c_X7_rowIn {l : Launch} {D : va_G} {cy : Nat → ClassId} {ad : Nat → Nat} {P : AS} {wy : Int32} {cl : Nat → CE} {st : Nat → Nat} {tg : Nat → Int32} {c : Int32} (hw : WF P) : CM l yX7_rowIn cX7_rowIn 4 (some (.object "ColumnHouse$Row")) (rm_ 1 20) D cy (30 + 2 * P.n) ad [.ref (ad 0), .int (c)] (hct cy ad P wy cl st tg) (some (va_rf (rwO P ad c))) (hct cy ad P wy cl st tg) := by
  refine CM.start (by decide) (Nat.le_of_ble_eq_true rfl) ?_
  intro p_ e_ s m_ below meth cd A ls hC hr hlk hin hK hA hH hl
  obtain ⟨hx, hb, hml, hown, hts⟩ := id hC
  have hS : va_S A s.heap s.heap [] := va_S.rf
  have hl : lv_has ls 4 [(0, .ref (ad 0)), (1, .int (c))] := hl
  refine lv_iload_n hx hb dX7_rowIn_0 rfl (lv_at hl 1 rfl) ?_
  refine cm_S (As := [.int (c)]) (rest := []) hC (c_X7_isColumn) ms_X7_isColumn qM_X7_37 ⟨⟨rfl, rfl⟩, Nat.le_of_ble_eq_true rfl, Nat.le_of_ble_eq_true rfl⟩ hK hH hS hA hl.1 ⟨Nat.zero_le _, Nat.zero_le _⟩ rfl rfl (Nat.le_of_ble_eq_true rfl) dX7_rowIn_1 (fun H locs hH hS => ?_)
  refine lv_if_eq (tgt := 28) hx hb dX7_rowIn_4 (by decide) (fun c_4 => ?_) (fun c_4 => ?_)
  · have c_4 := b2i_f c_4
    refine lv_null hx hb dX7_rowIn_28 ?_
    exact cm_ra (v := none) hC hr hlk ((rwO_n c_4).symm) (rfl) hH hS dX7_rowIn_29
  · have c_4 := b2i_t c_4
    obtain ⟨j, hj, rfl⟩ := isC_ex c_4
    have hcj := hw.2.2.2.1 j
    refine lv_aload_n hx hb dX7_rowIn_7 rfl (lv_at hl 0 rfl) ?_
    refine g_get hC hK inG7 hH 0 (by omega) rfl (ci := 5) rfl 0 (by decide) qF_X7_11 (Or.inl rfl) rfl dX7_rowIn_8 ?_
    refine lv_iload_n hx hb dX7_rowIn_11 rfl (lv_at hl 1 rfl) ?_
    refine hr_co hC hK hH j (by omega) dX7_rowIn_12 ?_
    refine lx_astore_n (lv' := [(3, va_rf (rfO ad (P.co j))), (0, .ref (ad 0)), (1, .int (nI j))]) hx hb dX7_rowIn_13 rfl hl (by decide) rfl (fun ls hl => ?_)
    refine lx_aload_n hx hb dX7_rowIn_14 rfl (lv_at hl 0 rfl) ?_
    refine hr_instR hC hK hw hH ((P.co j)) (by omega) qC_X7_69 dX7_rowIn_15 ?_
    refine lv_if_eq (tgt := 28) hx hb dX7_rowIn_18 (by decide) (fun c_18 => ?_) (fun c_18 => ?_)
    · have c_18 := b2i_f c_18
      refine lv_null hx hb dX7_rowIn_28 ?_
      exact cm_ra (v := none) hC hr hlk ((rwO_f hj c_18).symm) (rfl) hH hS dX7_rowIn_29
    · have c_18 := b2i_t c_18
      refine lx_aload_n hx hb dX7_rowIn_21 rfl (lv_at hl 0 rfl) ?_
      obtain ⟨t, h1, hkt⟩ := isRw_ex c_18
      refine W.eq (g2 := F0 m_ 22 ls (.ref (ad (30 + 2 * t)) :: [])) (by rw [h1]; rfl) ?_
      refine hr_castR hC hK hw hH t (by omega) (by omega) qC_X7_69 dX7_rowIn_22 ?_
      refine lv_astore_n (lv' := [(2, .ref (ad (30 + 2 * t))), (3, va_rf (rfO ad (P.co j))), (0, .ref (ad 0)), (1, .int (nI j))]) hx hb dX7_rowIn_25 rfl hl (by decide) rfl (fun ls hl => ?_)
      refine lv_aload_n hx hb dX7_rowIn_26 rfl (lv_at hl 0 rfl) ?_
      exact cm_ra (v := some (ad (30 + 2 * t))) hC hr hlk ((rwO_y hj h1 hkt).symm) (rfl) hH hS dX7_rowIn_27
theorem mv_X7_rowAmiss : mvok RX7 yX7_rowAmiss cX7_rowAmiss 2 (some .int) 1 := ⟨qK_X7_rowAmiss, qI_X7_rowAmiss, qSel_X7_X7_rowAmiss, qInit_X7, by decide +kernel⟩
set_option maxHeartbeats 4000000 in
set_option maxRecDepth 100000 in
theorem c_X7_rowAmiss {l : Launch} {D : va_G} {cy : Nat → ClassId} {ad : Nat → Nat} {P : AS} {wy : Int32} {cl : Nat → CE} {st : Nat → Nat} {tg : Nat → Int32} {c : Int32} (hw : WF P) : CM l yX7_rowAmiss cX7_rowAmiss 2 (some .int) (rm_ 1 20) D cy (30 + 2 * P.n) ad [.ref (ad 0), .int (c)] (hct cy ad P wy cl st tg) (some (.int (nI (rsA P c)))) (hct cy ad P wy cl st tg) := by
  refine CM.start (by decide) (Nat.le_of_ble_eq_true rfl) ?_
  intro p_ e_ s m_ below meth cd A ls hC hr hlk hin hK hA hH hl
  obtain ⟨hx, hb, hml, hown, hts⟩ := id hC
  have hS : va_S A s.heap s.heap [] := va_S.rf
  have hl : lv_has ls 2 [(0, .ref (ad 0)), (1, .int (c))] := hl
  refine lv_iload_n hx hb dX7_rowAmiss_0 rfl (lv_at hl 1 rfl) ?_
  refine cm_S (As := [.int (c)]) (rest := []) hC (c_X7_isColumn) ms_X7_isColumn qM_X7_37 ⟨⟨rfl, rfl⟩, Nat.le_of_ble_eq_true rfl, Nat.le_of_ble_eq_true rfl⟩ hK hH hS hA hl.1 ⟨Nat.zero_le _, Nat.zero_le _⟩ rfl rfl (Nat.le_of_ble_eq_true rfl) dX7_rowAmiss_1 (fun H locs hH hS => ?_)
  refine lv_if_ne (tgt := 9) hx hb dX7_rowAmiss_4 (by decide) (fun c_4 => ?_) (fun c_4 => ?_)
  · have c_4 := b2i_t c_4
    obtain ⟨j, hj, rfl⟩ := isC_ex c_4
    have hcj := hw.2.2.2.1 j
    refine lv_aload_n hx hb dX7_rowAmiss_9 rfl (lv_at hl 0 rfl) ?_
    refine g_get hC hK inG7 hH 0 (by omega) rfl (ci := 5) rfl 0 (by decide) qF_X7_11 (Or.inl rfl) rfl dX7_rowAmiss_10 ?_
    refine lv_iload_n hx hb dX7_rowAmiss_13 rfl (lv_at hl 1 rfl) ?_
    refine hr_co hC hK hH j (by omega) dX7_rowAmiss_14 ?_
    rcases co_cases (P.co j) with h0 | ⟨t, h1⟩
    · refine W.eq (g2 := F0 m_ 15 ls (.null :: [])) (by rw [h0]; rfl) ?_
      refine lv_ifnonnullN hx hb dX7_rowAmiss_15 ?_
      refine lv_iconst (v := 2) hx hb dX7_rowAmiss_18 (by decide) ?_
      exact cm_ri hC hr hlk (by rw [rsA_j hj, rsRow, if_pos h0]; rfl) (rfl) hH hS dX7_rowAmiss_19
    · refine W.eq (g2 := F0 m_ 15 ls (.ref (ad (30 + 2 * t)) :: [])) (by rw [h1]; rfl) ?_
      refine lv_ifnonnull (tgt := 20) hx hb dX7_rowAmiss_15 (by decide) ?_
      refine lv_aload_n hx hb dX7_rowAmiss_20 rfl (lv_at hl 0 rfl) ?_
      refine g_get hC hK inG7 hH 0 (by omega) rfl (ci := 5) rfl 0 (by decide) qF_X7_11 (Or.inl rfl) rfl dX7_rowAmiss_21 ?_
      refine lv_iload_n hx hb dX7_rowAmiss_24 rfl (lv_at hl 1 rfl) ?_
      refine hr_co hC hK hH j (by omega) dX7_rowAmiss_25 ?_
      refine hr_instR hC hK hw hH ((P.co j)) (by omega) qC_X7_69 dX7_rowAmiss_26 ?_
      refine lv_if_eq (tgt := 36) hx hb dX7_rowAmiss_29 (by decide) (fun c_29 => ?_) (fun c_29 => ?_)
      · have c_29 := b2i_f c_29
        refine lv_iconst (v := 3) hx hb dX7_rowAmiss_36 (by decide) ?_
        exact cm_ri hC hr hlk (by rw [rsA_j hj, rsRow, if_neg (by omega), h1, if_neg (isRw_nk (by rw [← h1]; exact c_29))]; rfl) (rfl) hH hS dX7_rowAmiss_37
      · have c_29 := b2i_t c_29
        refine lv_iconst (v := 0) hx hb dX7_rowAmiss_32 (by decide) ?_
        refine lv_goto (tgt := 37) hx hb dX7_rowAmiss_33 (by decide) ?_
        exact cm_ri hC hr hlk (by rw [rsA_j hj, rsRow, if_neg (by omega), h1, if_pos (isRw_k (by rw [← h1]; exact c_29))]; rfl) (rfl) hH hS dX7_rowAmiss_37
  · have c_4 := b2i_f c_4
    refine lv_iconst (v := 1) hx hb dX7_rowAmiss_7 (by decide) ?_
    exact cm_ri hC hr hlk (by rw [rsA_c c_4]; rfl) (rfl) hH hS dX7_rowAmiss_8
theorem mv_X7_cardIn : mvok RX7 yX7_cardIn cX7_cardIn 4 (some (.object "ColumnHouse$Card")) 1 := ⟨qK_X7_cardIn, qI_X7_cardIn, qSel_X7_X7_cardIn, qInit_X7, by decide +kernel⟩
set_option maxHeartbeats 4000000 in
set_option maxRecDepth 100000 in
theorem c_X7_cardIn {l : Launch} {D : va_G} {cy : Nat → ClassId} {ad : Nat → Nat} {P : AS} {wy : Int32} {cl : Nat → CE} {st : Nat → Nat} {tg : Nat → Int32} {c : Int32} (hw : WF P) : CM l yX7_cardIn cX7_cardIn 4 (some (.object "ColumnHouse$Card")) (rm_ 1 20) D cy (30 + 2 * P.n) ad [.ref (ad 0), .int (c)] (hct cy ad P wy cl st tg) (some (va_rf (cdO P ad c))) (hct cy ad P wy cl st tg) := by
  refine CM.start (by decide) (Nat.le_of_ble_eq_true rfl) ?_
  intro p_ e_ s m_ below meth cd A ls hC hr hlk hin hK hA hH hl
  obtain ⟨hx, hb, hml, hown, hts⟩ := id hC
  have hS : va_S A s.heap s.heap [] := va_S.rf
  have hl : lv_has ls 4 [(0, .ref (ad 0)), (1, .int (c))] := hl
  refine lv_iload_n hx hb dX7_cardIn_0 rfl (lv_at hl 1 rfl) ?_
  refine cm_S (As := [.int (c)]) (rest := []) hC (c_X7_isColumn) ms_X7_isColumn qM_X7_37 ⟨⟨rfl, rfl⟩, Nat.le_of_ble_eq_true rfl, Nat.le_of_ble_eq_true rfl⟩ hK hH hS hA hl.1 ⟨Nat.zero_le _, Nat.zero_le _⟩ rfl rfl (Nat.le_of_ble_eq_true rfl) dX7_cardIn_1 (fun H locs hH hS => ?_)
  refine lv_if_eq (tgt := 28) hx hb dX7_cardIn_4 (by decide) (fun c_4 => ?_) (fun c_4 => ?_)
  · have c_4 := b2i_f c_4
    refine lv_null hx hb dX7_cardIn_28 ?_
    exact cm_ra (v := none) hC hr hlk ((cdO_n c_4).symm) (rfl) hH hS dX7_cardIn_29
  · have c_4 := b2i_t c_4
    obtain ⟨j, hj, rfl⟩ := isC_ex c_4
    have hcj := hw.2.2.2.1 j
    refine lv_aload_n hx hb dX7_cardIn_7 rfl (lv_at hl 0 rfl) ?_
    refine g_get hC hK inG7 hH 0 (by omega) rfl (ci := 5) rfl 0 (by decide) qF_X7_11 (Or.inl rfl) rfl dX7_cardIn_8 ?_
    refine lv_iload_n hx hb dX7_cardIn_11 rfl (lv_at hl 1 rfl) ?_
    refine hr_co hC hK hH j (by omega) dX7_cardIn_12 ?_
    refine lx_astore_n (lv' := [(3, va_rf (rfO ad (P.co j))), (0, .ref (ad 0)), (1, .int (nI j))]) hx hb dX7_cardIn_13 rfl hl (by decide) rfl (fun ls hl => ?_)
    refine lx_aload_n hx hb dX7_cardIn_14 rfl (lv_at hl 0 rfl) ?_
    refine hr_instC hC hK hw hH ((P.co j)) (by omega) qC_X7_45 dX7_cardIn_15 ?_
    refine lv_if_eq (tgt := 28) hx hb dX7_cardIn_18 (by decide) (fun c_18 => ?_) (fun c_18 => ?_)
    · have c_18 := b2i_f c_18
      refine lv_null hx hb dX7_cardIn_28 ?_
      exact cm_ra (v := none) hC hr hlk ((cdO_f hj c_18).symm) (rfl) hH hS dX7_cardIn_29
    · have c_18 := b2i_t c_18
      refine lx_aload_n hx hb dX7_cardIn_21 rfl (lv_at hl 0 rfl) ?_
      obtain ⟨t, h1, hkt⟩ := isCk_ex c_18
      refine W.eq (g2 := F0 m_ 22 ls (.ref (ad (30 + 2 * t)) :: [])) (by rw [h1]; rfl) ?_
      refine hr_castC hC hK hH t (by omega) (by omega) qC_X7_45 dX7_cardIn_22 ?_
      refine lv_astore_n (lv' := [(2, .ref (ad (30 + 2 * t))), (3, va_rf (rfO ad (P.co j))), (0, .ref (ad 0)), (1, .int (nI j))]) hx hb dX7_cardIn_25 rfl hl (by decide) rfl (fun ls hl => ?_)
      refine lv_aload_n hx hb dX7_cardIn_26 rfl (lv_at hl 0 rfl) ?_
      exact cm_ra (v := some (ad (30 + 2 * t))) hC hr hlk ((cdO_y hj h1 hkt).symm) (rfl) hH hS dX7_cardIn_27
theorem ms_X7_cardAmiss : msok yX7_cardAmiss cX7_cardAmiss 1 (some .int) 1 := ⟨qK_X7_cardAmiss, qSt_X7_cardAmiss, qInit_X7, by decide +kernel⟩
set_option maxHeartbeats 4000000 in
set_option maxRecDepth 100000 in
theorem c_X7_cardAmiss {l : Launch} {D : va_G} {cy : Nat → ClassId} {ad : Nat → Nat} {N : Nat} {ct : Nat → Option va_E} {c : Int32}  : CM l yX7_cardAmiss cX7_cardAmiss 1 (some .int) (rm_ 1 20) D cy N ad [.int (c)] ct (some (.int (if isC c = true then 5 else 1))) ct := by
  refine CM.start (by decide) (Nat.le_of_ble_eq_true rfl) ?_
  intro p_ e_ s m_ below meth cd A ls hC hr hlk hin hK hA hH hl
  obtain ⟨hx, hb, hml, hown, hts⟩ := id hC
  have hS : va_S A s.heap s.heap [] := va_S.rf
  have hl : lv_has ls 1 [(0, .int (c))] := hl
  refine lv_iload_n hx hb dX7_cardAmiss_0 rfl (lv_at hl 0 rfl) ?_
  refine cm_S (As := [.int (c)]) (rest := []) hC (c_X7_isColumn) ms_X7_isColumn qM_X7_37 ⟨⟨rfl, rfl⟩, Nat.le_of_ble_eq_true rfl, Nat.le_of_ble_eq_true rfl⟩ hK hH hS hA hl.1 ⟨Nat.zero_le _, Nat.zero_le _⟩ rfl rfl (Nat.le_of_ble_eq_true rfl) dX7_cardAmiss_1 (fun H locs hH hS => ?_)
  refine lv_if_eq (tgt := 11) hx hb dX7_cardAmiss_4 (by decide) (fun c_4 => ?_) (fun c_4 => ?_)
  · have c_4 := b2i_f c_4
    refine lv_iconst (v := 1) hx hb dX7_cardAmiss_11 (by decide) ?_
    exact cm_ri hC hr hlk (by rw [c_4]; rfl) (rfl) hH hS dX7_cardAmiss_12
  · have c_4 := b2i_t c_4
    refine lv_iconst (v := 5) hx hb dX7_cardAmiss_7 (by decide) ?_
    refine lv_goto (tgt := 12) hx hb dX7_cardAmiss_8 (by decide) ?_
    exact cm_ri hC hr hlk (by rw [c_4]; rfl) (rfl) hH hS dX7_cardAmiss_12
