theorem mv_X8_refuse : mvok RX8 yX8_refuse cX8_refuse 2 (some .int) 1 := ⟨qK_X8_refuse, qI_X8_refuse, qSel_X8_X8_refuse, qInit_X8, by decide +kernel⟩
set_option maxHeartbeats 4000000 in
set_option maxRecDepth 100000 in
theorem c_X8_refuse {l : Launch} {D : va_G} {cy : Nat → ClassId} {ad : Nat → Nat} {P : AS} {wy : Int32} {so : Int32} {w : Int64} {r : UInt64} {ns : Nat → Int32} {nw : Nat → Int64} {nr : Nat → UInt64} {fr : Nat → Int32} {tt : Nat → Int32} {k : Int32}  : CM l yX8_refuse cX8_refuse 2 (some .int) (rm_ 0 0) D cy 13 ad [.ref (ad 0), .int (k)] (mct cy ad P wy so w r ns nw nr fr tt) (some (.int (0))) (mct cy ad P k so w r ns nw nr fr tt) := by
  refine CM.start (by decide) (Nat.le_of_ble_eq_true rfl) ?_
  intro p_ e_ s m_ below meth cd A ls hC hr hlk hin hK hA hH hl
  obtain ⟨hx, hb, hml, hown, hts⟩ := id hC
  have hS : va_S A s.heap s.heap [] := va_S.rf
  have hl : lv_has ls 2 [(0, .ref (ad 0)), (1, .int (k))] := hl
  refine lv_aload_n hx hb dX8_refuse_0 rfl (lv_at hl 0 rfl) ?_
  refine lv_iload_n hx hb dX8_refuse_1 rfl (lv_at hl 1 rfl) ?_
  refine g_put (ct' := mct cy ad P k so w r ns nw nr fr tt) hC hK inG8 tyX8 tyX8_ok nmX8 hH hS 0 (by decide) rfl rfl 8 (by decide) qF_X8_48 rfl rfl rfl rfl (Nat.le_of_ble_eq_true rfl) rfl mct_0 dX8_refuse_2 (fun H locs hH hS => ?_)
  refine lv_iconst (v := 0) hx hb dX8_refuse_5 (by decide) ?_
  exact cm_ri hC hr hlk (rfl) (rfl) hH hS dX8_refuse_6
theorem ms_X8_isIn : msok yX8_isIn cX8_isIn 3 (some .boolean) 3 := ⟨qK_X8_isIn, qSt_X8_isIn, qInit_X8, by decide +kernel⟩
set_option maxHeartbeats 4000000 in
set_option maxRecDepth 100000 in
theorem c_X8_isIn {l : Launch} {D : va_G} {cy : Nat → ClassId} {ad : Nat → Nat} {N : Nat} {ct : Nat → Option va_E} {v lo hi : Int32}  : CM l yX8_isIn cX8_isIn 3 (some .boolean) (rm_ 0 0) D cy N ad [.int (v), .int (lo), .int (hi)] ct (some (.int (b2i (inR v lo hi)))) ct := by
  refine CM.start (by decide) (Nat.le_of_ble_eq_true rfl) ?_
  intro p_ e_ s m_ below meth cd A ls hC hr hlk hin hK hA hH hl
  obtain ⟨hx, hb, hml, hown, hts⟩ := id hC
  have hS : va_S A s.heap s.heap [] := va_S.rf
  have hl : lv_has ls 3 [(0, .int (v)), (1, .int (lo)), (2, .int (hi))] := hl
  refine lv_iload_n hx hb dX8_isIn_0 rfl (lv_at hl 0 rfl) ?_
  refine lv_iload_n hx hb dX8_isIn_1 rfl (lv_at hl 1 rfl) ?_
  refine lv_icmp_lt (tgt := 14) hx hb dX8_isIn_2 (by decide) (fun c_2 => ?_) (fun c_2 => ?_)
  · refine lv_iconst (v := 0) hx hb dX8_isIn_14 (by decide) ?_
    exact cm_rz hC hr hlk (by first | exact Or.inl rfl | exact Or.inr rfl | exact b2i_01 _) (by first | (rw [inR_lo (by assumption)]; rfl) | (rw [inR_hi (by assumption)]; rfl) | (rw [inR_in (by assumption) (by assumption)]; rfl)) (rfl) hH hS dX8_isIn_15
  · refine lv_iload_n hx hb dX8_isIn_5 rfl (lv_at hl 0 rfl) ?_
    refine lv_iload_n hx hb dX8_isIn_6 rfl (lv_at hl 2 rfl) ?_
    refine lv_icmp_gt (tgt := 14) hx hb dX8_isIn_7 (by decide) (fun c_7 => ?_) (fun c_7 => ?_)
    · refine lv_iconst (v := 0) hx hb dX8_isIn_14 (by decide) ?_
      exact cm_rz hC hr hlk (by first | exact Or.inl rfl | exact Or.inr rfl | exact b2i_01 _) (by first | (rw [inR_lo (by assumption)]; rfl) | (rw [inR_hi (by assumption)]; rfl) | (rw [inR_in (by assumption) (by assumption)]; rfl)) (rfl) hH hS dX8_isIn_15
    · refine lv_iconst (v := 1) hx hb dX8_isIn_10 (by decide) ?_
      refine lv_goto (tgt := 15) hx hb dX8_isIn_11 (by decide) ?_
      exact cm_rz hC hr hlk (by first | exact Or.inl rfl | exact Or.inr rfl | exact b2i_01 _) (by first | (rw [inR_lo (by assumption)]; rfl) | (rw [inR_hi (by assumption)]; rfl) | (rw [inR_in (by assumption) (by assumption)]; rfl)) (rfl) hH hS dX8_isIn_15
theorem ms_X8_isColumn : msok yX8_isColumn cX8_isColumn 1 (some .boolean) 1 := ⟨qK_X8_isColumn, qSt_X8_isColumn, qInit_X8, by decide +kernel⟩
set_option maxHeartbeats 4000000 in
set_option maxRecDepth 100000 in
theorem c_X8_isColumn {l : Launch} {D : va_G} {cy : Nat → ClassId} {ad : Nat → Nat} {N : Nat} {ct : Nat → Option va_E} {v : Int32}  : CM l yX8_isColumn cX8_isColumn 1 (some .boolean) (rm_ 1 22) D cy N ad [.int (v)] ct (some (.int (b2i (isC v)))) ct := by
  refine CM.start (by decide) (Nat.le_of_ble_eq_true rfl) ?_
  intro p_ e_ s m_ below meth cd A ls hC hr hlk hin hK hA hH hl
  obtain ⟨hx, hb, hml, hown, hts⟩ := id hC
  have hS : va_S A s.heap s.heap [] := va_S.rf
  have hl : lv_has ls 1 [(0, .int (v))] := hl
  refine lv_iload_n hx hb dX8_isColumn_0 rfl (lv_at hl 0 rfl) ?_
  refine lv_iconst (v := 0) hx hb dX8_isColumn_1 (by decide) ?_
  refine lv_bipush (v := 11) hx hb dX8_isColumn_2 (by decide) ?_
  refine cm_S (As := [.int (v), .int (0), .int (11)]) (rest := []) hC (c_X8_isIn) ms_X8_isIn qM_X8_52 ⟨⟨rfl, rfl⟩, Nat.le_of_ble_eq_true rfl, Nat.le_of_ble_eq_true rfl⟩ hK hH hS hA hl.1 ⟨Nat.zero_le _, Nat.zero_le _⟩ rfl rfl (Nat.le_of_ble_eq_true rfl) dX8_isColumn_4 (fun H locs hH hS => ?_)
  exact cm_rz hC hr hlk (by first | exact Or.inl rfl | exact Or.inr rfl | exact b2i_01 _) (rfl) (rfl) hH hS dX8_isColumn_7
theorem mv_X8_in : mvok RX8 yX8_in cX8_in 2 (some .int) 1 := ⟨qK_X8_in, qI_X8_in, qSel_X8_X8_in, qInit_X8, by decide +kernel⟩
set_option maxHeartbeats 4000000 in
set_option maxRecDepth 100000 in
theorem c_X8_in {l : Launch} {D : va_G} {cy : Nat → ClassId} {ad : Nat → Nat} {P : AS} {wy : Int32} {so : Int32} {w : Int64} {r : UInt64} {ns : Nat → Int32} {nw : Nat → Int64} {nr : Nat → UInt64} {fr : Nat → Int32} {tt : Nat → Int32} {j : Nat} (hj : j < 12) : CM l yX8_in cX8_in 2 (some .int) (rm_ 0 0) D cy 13 ad [.ref (ad 0), .int (nI j)] (mct cy ad P wy so w r ns nw nr fr tt) (some (.int (nI (P.co j) - 1))) (mct cy ad P wy so w r ns nw nr fr tt) := by
  refine CM.start (by decide) (Nat.le_of_ble_eq_true rfl) ?_
  intro p_ e_ s m_ below meth cd A ls hC hr hlk hin hK hA hH hl
  obtain ⟨hx, hb, hml, hown, hts⟩ := id hC
  have hS : va_S A s.heap s.heap [] := va_S.rf
  have hl : lv_has ls 2 [(0, .ref (ad 0)), (1, .int (nI j))] := hl
  refine lv_aload_n hx hb dX8_in_0 rfl (lv_at hl 0 rfl) ?_
  refine g_get hC hK inG8 hH 0 (by decide) rfl rfl 7 (by decide) qF_X8_30 (Or.inl rfl) rfl dX8_in_1 ?_
  refine lv_iload_n hx hb dX8_in_4 rfl (lv_at hl 1 rfl) ?_
  refine gN_iald hC hK hH 7 (by decide) rfl j (by omega) dX8_in_5 ?_
  refine lv_iconst (v := 1) hx hb dX8_in_6 (by decide) ?_
  refine lv_isub hx hb dX8_in_7 ?_
  exact cm_ri hC hr hlk (rfl) (rfl) hH hS dX8_in_8
theorem c_X8_in1 {l : Launch} {D : va_G} {cy : Nat → ClassId} {ad : Nat → Nat} {P : AS} {wy so : Int32} {w : Int64} {r : UInt64} {ns : Nat → Int32} {nw : Nat → Int64} {nr : Nat → UInt64} {fr tt : Nat → Int32} {j t : Nat} (hj : j < 12) (hco : P.co j = t + 1) : CM l yX8_in cX8_in 2 (some .int) (rm_ 0 0) D cy 13 ad [.ref (ad 0), .int (nI j)] (mct cy ad P wy so w r ns nw nr fr tt) (some (.int (nI t))) (mct cy ad P wy so w r ns nw nr fr tt) := by
  have h := c_X8_in (l := l) (D := D) (cy := cy) (ad := ad) (P := P) (wy := wy) (so := so) (w := w) (r := r) (ns := ns) (nw := nw) (nr := nr) (fr := fr) (tt := tt) hj
  rw [hco, nI_pred] at h
  exact h
theorem c_X8_in0 {l : Launch} {D : va_G} {cy : Nat → ClassId} {ad : Nat → Nat} {P : AS} {wy so : Int32} {w : Int64} {r : UInt64} {ns : Nat → Int32} {nw : Nat → Int64} {nr : Nat → UInt64} {fr tt : Nat → Int32} {j : Nat} (hj : j < 12) (hco : P.co j = 0) : CM l yX8_in cX8_in 2 (some .int) (rm_ 0 0) D cy 13 ad [.ref (ad 0), .int (nI j)] (mct cy ad P wy so w r ns nw nr fr tt) (some (.int (-1))) (mct cy ad P wy so w r ns nw nr fr tt) := by
  have h := c_X8_in (l := l) (D := D) (cy := cy) (ad := ad) (P := P) (wy := wy) (so := so) (w := w) (r := r) (ns := ns) (nw := nw) (nr := nr) (fr := fr) (tt := tt) hj
  rw [hco] at h
  exact h
theorem mv_X8_isRow : mvok RX8 yX8_isRow cX8_isRow 2 (some .boolean) 1 := ⟨qK_X8_isRow, qI_X8_isRow, qSel_X8_X8_isRow, qInit_X8, by decide +kernel⟩
set_option maxHeartbeats 4000000 in
set_option maxRecDepth 100000 in
theorem c_X8_isRow {l : Launch} {D : va_G} {cy : Nat → ClassId} {ad : Nat → Nat} {P : AS} {wy : Int32} {so : Int32} {w : Int64} {r : UInt64} {ns : Nat → Int32} {nw : Nat → Int64} {nr : Nat → UInt64} {fr : Nat → Int32} {tt : Nat → Int32} {u : Nat} (hu : u < 513) (hw : WF P) : CM l yX8_isRow cX8_isRow 2 (some .boolean) (rm_ 0 0) D cy 13 ad [.ref (ad 0), .int (nI u)] (mct cy ad P wy so w r ns nw nr fr tt) (some (.int (b2i (decide (P.kd u < 12))))) (mct cy ad P wy so w r ns nw nr fr tt) := by
  have hku := hw.1 u
  refine CM.start (by decide) (Nat.le_of_ble_eq_true rfl) ?_
  intro p_ e_ s m_ below meth cd A ls hC hr hlk hin hK hA hH hl
  obtain ⟨hx, hb, hml, hown, hts⟩ := id hC
  have hS : va_S A s.heap s.heap [] := va_S.rf
  have hl : lv_has ls 2 [(0, .ref (ad 0)), (1, .int (nI u))] := hl
  refine lv_aload_n hx hb dX8_isRow_0 rfl (lv_at hl 0 rfl) ?_
  refine g_get hC hK inG8 hH 0 (by decide) rfl rfl 1 (by decide) qF_X8_13 (Or.inl rfl) rfl dX8_isRow_1 ?_
  refine lv_iload_n hx hb dX8_isRow_4 rfl (lv_at hl 1 rfl) ?_
  refine gN_iald hC hK hH 2 (by decide) rfl u (by omega) dX8_isRow_5 ?_
  refine lv_bipush (v := 12) hx hb dX8_isRow_6 (by decide) ?_
  refine lv_icmp_ge (tgt := 15) hx hb dX8_isRow_8 (by decide) (fun c_8 => ?_) (fun c_8 => ?_)
  · have c_8 := nc_le (a := 12) (b := (P.kd u)) (by omega) (by omega) c_8
    refine lv_iconst (v := 0) hx hb dX8_isRow_15 (by decide) ?_
    exact cm_rz hC hr hlk (by first | exact Or.inl rfl | exact Or.inr rfl | exact b2i_01 _) (by first | exact b2d_1 (by omega) | exact b2d_0 (by omega)) (rfl) hH hS dX8_isRow_16
  · have c_8 := nc_nle (a := 12) (b := (P.kd u)) (by omega) (by omega) c_8
    refine lv_iconst (v := 1) hx hb dX8_isRow_11 (by decide) ?_
    refine lv_goto (tgt := 16) hx hb dX8_isRow_12 (by decide) ?_
    exact cm_rz hC hr hlk (by first | exact Or.inl rfl | exact Or.inr rfl | exact b2i_01 _) (by first | exact b2d_1 (by omega) | exact b2d_0 (by omega)) (rfl) hH hS dX8_isRow_16
theorem mv_X8_isPlain : mvok RX8 yX8_isPlain cX8_isPlain 2 (some .boolean) 1 := ⟨qK_X8_isPlain, qI_X8_isPlain, qSel_X8_X8_isPlain, qInit_X8, by decide +kernel⟩
set_option maxHeartbeats 4000000 in
set_option maxRecDepth 100000 in
theorem c_X8_isPlain {l : Launch} {D : va_G} {cy : Nat → ClassId} {ad : Nat → Nat} {P : AS} {wy : Int32} {so : Int32} {w : Int64} {r : UInt64} {ns : Nat → Int32} {nw : Nat → Int64} {nr : Nat → UInt64} {fr : Nat → Int32} {tt : Nat → Int32} {u : Nat} (hu : u < 513) (hw : WF P) : CM l yX8_isPlain cX8_isPlain 2 (some .boolean) (rm_ 0 0) D cy 13 ad [.ref (ad 0), .int (nI u)] (mct cy ad P wy so w r ns nw nr fr tt) (some (.int (b2i (decide (P.kd u < 8))))) (mct cy ad P wy so w r ns nw nr fr tt) := by
  have hku := hw.1 u
  refine CM.start (by decide) (Nat.le_of_ble_eq_true rfl) ?_
  intro p_ e_ s m_ below meth cd A ls hC hr hlk hin hK hA hH hl
  obtain ⟨hx, hb, hml, hown, hts⟩ := id hC
  have hS : va_S A s.heap s.heap [] := va_S.rf
  have hl : lv_has ls 2 [(0, .ref (ad 0)), (1, .int (nI u))] := hl
  refine lv_aload_n hx hb dX8_isPlain_0 rfl (lv_at hl 0 rfl) ?_
  refine g_get hC hK inG8 hH 0 (by decide) rfl rfl 1 (by decide) qF_X8_13 (Or.inl rfl) rfl dX8_isPlain_1 ?_
  refine lv_iload_n hx hb dX8_isPlain_4 rfl (lv_at hl 1 rfl) ?_
  refine gN_iald hC hK hH 2 (by decide) rfl u (by omega) dX8_isPlain_5 ?_
  refine lv_bipush (v := 8) hx hb dX8_isPlain_6 (by decide) ?_
  refine lv_icmp_ge (tgt := 15) hx hb dX8_isPlain_8 (by decide) (fun c_8 => ?_) (fun c_8 => ?_)
  · have c_8 := nc_le (a := 8) (b := (P.kd u)) (by omega) (by omega) c_8
    refine lv_iconst (v := 0) hx hb dX8_isPlain_15 (by decide) ?_
    exact cm_rz hC hr hlk (by first | exact Or.inl rfl | exact Or.inr rfl | exact b2i_01 _) (by first | exact b2d_1 (by omega) | exact b2d_0 (by omega)) (rfl) hH hS dX8_isPlain_16
  · have c_8 := nc_nle (a := 8) (b := (P.kd u)) (by omega) (by omega) c_8
    refine lv_iconst (v := 1) hx hb dX8_isPlain_11 (by decide) ?_
    refine lv_goto (tgt := 16) hx hb dX8_isPlain_12 (by decide) ?_
    exact cm_rz hC hr hlk (by first | exact Or.inl rfl | exact Or.inr rfl | exact b2i_01 _) (by first | exact b2d_1 (by omega) | exact b2d_0 (by omega)) (rfl) hH hS dX8_isPlain_16
theorem mv_X8_hasPlace : mvok RX8 yX8_hasPlace cX8_hasPlace 3 (some .boolean) 2 := ⟨qK_X8_hasPlace, qI_X8_hasPlace, qSel_X8_X8_hasPlace, qInit_X8, by decide +kernel⟩
set_option maxHeartbeats 4000000 in
set_option maxRecDepth 100000 in
theorem c_X8_hasPlace {l : Launch} {D : va_G} {cy : Nat → ClassId} {ad : Nat → Nat} {P : AS} {wy : Int32} {so : Int32} {w : Int64} {r : UInt64} {ns : Nat → Int32} {nw : Nat → Int64} {nr : Nat → UInt64} {fr : Nat → Int32} {tt : Nat → Int32} {u : Nat} {i : Int32} (hu : u < 513) (hw : WF P) : CM l yX8_hasPlace cX8_hasPlace 3 (some .boolean) (rm_ 0 0) D cy 13 ad [.ref (ad 0), .int (nI u), .int (i)] (mct cy ad P wy so w r ns nw nr fr tt) (some (.int (b2i (hasP P u i)))) (mct cy ad P wy so w r ns nw nr fr tt) := by
  have hlu := hw.2.1 u
  refine CM.start (by decide) (Nat.le_of_ble_eq_true rfl) ?_
  intro p_ e_ s m_ below meth cd A ls hC hr hlk hin hK hA hH hl
  obtain ⟨hx, hb, hml, hown, hts⟩ := id hC
  have hS : va_S A s.heap s.heap [] := va_S.rf
  have hl : lv_has ls 3 [(0, .ref (ad 0)), (1, .int (nI u)), (2, .int (i))] := hl
  refine lv_iload_n hx hb dX8_hasPlace_0 rfl (lv_at hl 2 rfl) ?_
  refine lv_if_lt (tgt := 18) hx hb dX8_hasPlace_1 (by decide) (fun c_1 => ?_) (fun c_1 => ?_)
  · refine lv_iconst (v := 0) hx hb dX8_hasPlace_18 (by decide) ?_
    exact cm_rz hC hr hlk (by first | exact Or.inl rfl | exact Or.inr rfl | exact b2i_01 _) (by first | exact hasP_1 (by assumption) (by assumption) (by omega) | exact hasP_0a (by assumption) | exact hasP_0b (by assumption) (by omega)) (rfl) hH hS dX8_hasPlace_19
  · refine lv_iload_n hx hb dX8_hasPlace_4 rfl (lv_at hl 2 rfl) ?_
    refine lv_aload_n hx hb dX8_hasPlace_5 rfl (lv_at hl 0 rfl) ?_
    refine g_get hC hK inG8 hH 0 (by decide) rfl rfl 2 (by decide) qF_X8_16 (Or.inl rfl) rfl dX8_hasPlace_6 ?_
    refine lv_iload_n hx hb dX8_hasPlace_9 rfl (lv_at hl 1 rfl) ?_
    refine gN_iald hC hK hH 3 (by decide) rfl u (by omega) dX8_hasPlace_10 ?_
    refine lv_icmp_ge (tgt := 18) hx hb dX8_hasPlace_11 (by decide) (fun c_11 => ?_) (fun c_11 => ?_)
    · refine lv_iconst (v := 0) hx hb dX8_hasPlace_18 (by decide) ?_
      exact cm_rz hC hr hlk (by first | exact Or.inl rfl | exact Or.inr rfl | exact b2i_01 _) (by first | exact hasP_1 (by assumption) (by assumption) (by omega) | exact hasP_0a (by assumption) | exact hasP_0b (by assumption) (by omega)) (rfl) hH hS dX8_hasPlace_19
    · refine lv_iconst (v := 1) hx hb dX8_hasPlace_14 (by decide) ?_
      refine lv_goto (tgt := 19) hx hb dX8_hasPlace_15 (by decide) ?_
      exact cm_rz hC hr hlk (by first | exact Or.inl rfl | exact Or.inr rfl | exact b2i_01 _) (by first | exact hasP_1 (by assumption) (by assumption) (by omega) | exact hasP_0a (by assumption) | exact hasP_0b (by assumption) (by omega)) (rfl) hH hS dX8_hasPlace_19
theorem mv_X8_reasonOfRow : mvok RX8 yX8_reasonOfRow cX8_reasonOfRow 2 (some .int) 1 := ⟨qK_X8_reasonOfRow, qI_X8_reasonOfRow, qSel_X8_X8_reasonOfRow, qInit_X8, by decide +kernel⟩
set_option maxHeartbeats 4000000 in
set_option maxRecDepth 100000 in
theorem c_X8_reasonOfRow {l : Launch} {D : va_G} {cy : Nat → ClassId} {ad : Nat → Nat} {P : AS} {wy : Int32} {so : Int32} {w : Int64} {r : UInt64} {ns : Nat → Int32} {nw : Nat → Int64} {nr : Nat → UInt64} {fr : Nat → Int32} {tt : Nat → Int32} {j : Nat} (hj : j < 12) (hw : WF P) : CM l yX8_reasonOfRow cX8_reasonOfRow 2 (some .int) (rm_ 1 21) D cy 13 ad [.ref (ad 0), .int (nI j)] (mct cy ad P wy so w r ns nw nr fr tt) (some (.int (nI (rsRow P j)))) (mct cy ad P wy so w r ns nw nr fr tt) := by
  refine CM.start (by decide) (Nat.le_of_ble_eq_true rfl) ?_
  intro p_ e_ s m_ below meth cd A ls hC hr hlk hin hK hA hH hl
  obtain ⟨hx, hb, hml, hown, hts⟩ := id hC
  have hS : va_S A s.heap s.heap [] := va_S.rf
  have hl : lv_has ls 2 [(0, .ref (ad 0)), (1, .int (nI j))] := hl
  rcases co_cases (P.co j) with h0j | ⟨t, h1j⟩
  · refine lv_aload_n hx hb dX8_reasonOfRow_0 rfl (lv_at hl 0 rfl) ?_
    refine lv_iload_n hx hb dX8_reasonOfRow_1 rfl (lv_at hl 1 rfl) ?_
    refine cm_V (As' := [.int (nI j)]) (rest := []) hC (c_X8_in0 hj h0j) mv_X8_in qM_X8_56 ⟨⟨rfl, rfl⟩, Nat.le_of_ble_eq_true rfl, Nat.le_of_ble_eq_true rfl⟩ hK hH hS hA (hp.recv hK hH (i := 0) (by decide) rfl rfl) hl.1 ⟨Nat.zero_le _, Nat.zero_le _⟩ rfl rfl (Nat.le_of_ble_eq_true rfl) dX8_reasonOfRow_2 (fun H locs hH hS => ?_)
    refine lv_if_ge (tgt := 10) hx hb dX8_reasonOfRow_5 (by decide) (fun c_5 => absurd c_5 (by decide)) (fun c_5 => ?_)
    refine lv_iconst (v := 2) hx hb dX8_reasonOfRow_8 (by decide) ?_
    exact cm_ri hC hr hlk (by simp [rsRow, h0j]; try rfl) (rfl) hH hS dX8_reasonOfRow_9
  · refine lv_aload_n hx hb dX8_reasonOfRow_0 rfl (lv_at hl 0 rfl) ?_
    refine lv_iload_n hx hb dX8_reasonOfRow_1 rfl (lv_at hl 1 rfl) ?_
    have htt : t < 513 := by have := hw.2.2.2.1 j; have := hw.2.2.1; omega
    refine cm_V (As' := [.int (nI j)]) (rest := []) hC (c_X8_in1 hj h1j) mv_X8_in qM_X8_56 ⟨⟨rfl, rfl⟩, Nat.le_of_ble_eq_true rfl, Nat.le_of_ble_eq_true rfl⟩ hK hH hS hA (hp.recv hK hH (i := 0) (by decide) rfl rfl) hl.1 ⟨Nat.zero_le _, Nat.zero_le _⟩ rfl rfl (Nat.le_of_ble_eq_true rfl) dX8_reasonOfRow_2 (fun H locs hH hS => ?_)
    refine lv_if_ge (tgt := 10) hx hb dX8_reasonOfRow_5 (by decide) (fun c_5 => ?_) (fun c_5 => absurd (nI_pos' (by omega)) c_5)
    refine lv_aload_n hx hb dX8_reasonOfRow_10 rfl (lv_at hl 0 rfl) ?_
    refine lv_aload_n hx hb dX8_reasonOfRow_11 rfl (lv_at hl 0 rfl) ?_
    refine lv_iload_n hx hb dX8_reasonOfRow_12 rfl (lv_at hl 1 rfl) ?_
    refine cm_V (As' := [.int (nI j)]) (rest := [.ref (ad 0)]) hC (c_X8_in1 hj h1j) mv_X8_in qM_X8_56 ⟨⟨rfl, rfl⟩, Nat.le_of_ble_eq_true rfl, Nat.le_of_ble_eq_true rfl⟩ hK hH hS hA (hp.recv hK hH (i := 0) (by decide) rfl rfl) hl.1 ⟨Nat.zero_le _, Nat.zero_le _⟩ rfl rfl (Nat.le_of_ble_eq_true rfl) dX8_reasonOfRow_13 (fun H locs hH hS => ?_)
    refine cm_V (As' := [.int (nI t)]) (rest := []) hC (c_X8_isRow (by omega) hw) mv_X8_isRow qM_X8_60 ⟨⟨rfl, rfl⟩, Nat.le_of_ble_eq_true rfl, Nat.le_of_ble_eq_true rfl⟩ hK hH hS hA (hp.recv hK hH (i := 0) (by decide) rfl rfl) hl.1 ⟨Nat.zero_le _, Nat.zero_le _⟩ rfl rfl (Nat.le_of_ble_eq_true rfl) dX8_reasonOfRow_16 (fun H locs hH hS => ?_)
    refine lv_if_eq (tgt := 26) hx hb dX8_reasonOfRow_19 (by decide) (fun c_19 => ?_) (fun c_19 => ?_)
    · have c_19 := b2d_f c_19
      refine lv_iconst (v := 3) hx hb dX8_reasonOfRow_26 (by decide) ?_
      exact cm_ri hC hr hlk (by simp [rsRow, h1j, c_19]; try rfl) (rfl) hH hS dX8_reasonOfRow_27
    · have c_19 := b2d_t c_19
      refine lv_iconst (v := 0) hx hb dX8_reasonOfRow_22 (by decide) ?_
      refine lv_goto (tgt := 27) hx hb dX8_reasonOfRow_23 (by decide) ?_
      exact cm_ri hC hr hlk (by simp [rsRow, h1j, c_19]; try rfl) (rfl) hH hS dX8_reasonOfRow_27
theorem mv_X8_get : mvok RX8 yX8_get cX8_get 3 none 2 := ⟨qK_X8_get, qI_X8_get, qSel_X8_X8_get, qInit_X8, by decide +kernel⟩
set_option maxHeartbeats 4000000 in
set_option maxRecDepth 100000 in
theorem c_X8_get {l : Launch} {D : va_G} {cy : Nat → ClassId} {ad : Nat → Nat} {P : AS} {wy : Int32} {so : Int32} {w : Int64} {r : UInt64} {ns : Nat → Int32} {nw : Nat → Int64} {nr : Nat → UInt64} {fr : Nat → Int32} {tt : Nat → Int32} {u i : Nat} (hu : u < 513) (hi : i < 24) : CM l yX8_get cX8_get 3 none (rm_ 0 0) D cy 13 ad [.ref (ad 0), .int (nI u), .int (nI i)] (mct cy ad P wy so w r ns nw nr fr tt) none (mct cy ad P wy (nI (P.kd u)) (P.wh u i) (P.re u i) ns nw nr fr tt) := by
  refine CM.start (by decide) (Nat.le_of_ble_eq_true rfl) ?_
  intro p_ e_ s m_ below meth cd A ls hC hr hlk hin hK hA hH hl
  obtain ⟨hx, hb, hml, hown, hts⟩ := id hC
  have hS : va_S A s.heap s.heap [] := va_S.rf
  have hl : lv_has ls 3 [(0, .ref (ad 0)), (1, .int (nI u)), (2, .int (nI i))] := hl
  refine lv_aload_n hx hb dX8_get_0 rfl (lv_at hl 0 rfl) ?_
  refine lv_aload_n hx hb dX8_get_1 rfl (lv_at hl 0 rfl) ?_
  refine g_get hC hK inG8 hH 0 (by decide) rfl rfl 1 (by decide) qF_X8_13 (Or.inl rfl) rfl dX8_get_2 ?_
  refine lv_iload_n hx hb dX8_get_5 rfl (lv_at hl 1 rfl) ?_
  refine gN_iald hC hK hH 2 (by decide) rfl u (by omega) dX8_get_6 ?_
  refine g_put (ct' := mct cy ad P wy (nI (P.kd u)) w r ns nw nr fr tt) hC hK inG8 tyX8 tyX8_ok nmX8 hH hS 0 (by decide) rfl rfl 9 (by decide) qF_X8_66 rfl rfl rfl rfl (Nat.le_of_ble_eq_true rfl) rfl mct_0 dX8_get_7 (fun H locs hH hS => ?_)
  refine lv_aload_n hx hb dX8_get_10 rfl (lv_at hl 0 rfl) ?_
  refine lv_aload_n hx hb dX8_get_11 rfl (lv_at hl 0 rfl) ?_
  refine g_get hC hK inG8 hH 0 (by decide) rfl rfl 4 (by decide) qF_X8_22 (Or.inl rfl) rfl dX8_get_12 ?_
  refine lv_bipush (v := 24) hx hb dX8_get_15 (by decide) ?_
  refine lv_iload_n hx hb dX8_get_17 rfl (lv_at hl 1 rfl) ?_
  refine lv_imul hx hb dX8_get_18 ?_
  refine lv_iload_n hx hb dX8_get_19 rfl (lv_at hl 2 rfl) ?_
  refine lv_iadd hx hb dX8_get_20 ?_
  refine mr_wh hC hK hH u i (by omega) dX8_get_21 ?_
  refine g_put (ct' := mct cy ad P wy (nI (P.kd u)) (P.wh u i) r ns nw nr fr tt) hC hK inG8 tyX8 tyX8_ok nmX8 hH hS 0 (by decide) rfl rfl 10 (by decide) qF_X8_69 rfl rfl rfl rfl (Nat.le_of_ble_eq_true rfl) rfl mct_0 dX8_get_22 (fun H locs hH hS => ?_)
  refine lv_aload_n hx hb dX8_get_25 rfl (lv_at hl 0 rfl) ?_
  refine lv_aload_n hx hb dX8_get_26 rfl (lv_at hl 0 rfl) ?_
  refine g_get hC hK inG8 hH 0 (by decide) rfl rfl 5 (by decide) qF_X8_26 (Or.inl rfl) rfl dX8_get_27 ?_
  refine lv_bipush (v := 24) hx hb dX8_get_30 (by decide) ?_
  refine lv_iload_n hx hb dX8_get_32 rfl (lv_at hl 1 rfl) ?_
  refine lv_imul hx hb dX8_get_33 ?_
  refine lv_iload_n hx hb dX8_get_34 rfl (lv_at hl 2 rfl) ?_
  refine lv_iadd hx hb dX8_get_35 ?_
  refine mr_re hC hK hH u i (by omega) dX8_get_36 ?_
  refine g_put (ct' := mct cy ad P wy (nI (P.kd u)) (P.wh u i) (P.re u i) ns nw nr fr tt) hC hK inG8 tyX8 tyX8_ok nmX8 hH hS 0 (by decide) rfl rfl 11 (by decide) qF_X8_73 rfl rfl rfl rfl (Nat.le_of_ble_eq_true rfl) rfl mct_0 dX8_get_37 (fun H locs hH hS => ?_)
  exact cm_rv hC hr hlk (rfl) hH hS dX8_get_40
theorem mv_X8_set : mvok RX8 yX8_set cX8_set 3 none 2 := ⟨qK_X8_set, qI_X8_set, qSel_X8_X8_set, qInit_X8, by decide +kernel⟩
set_option maxHeartbeats 4000000 in
set_option maxRecDepth 100000 in
theorem c_X8_set {l : Launch} {D : va_G} {cy : Nat → ClassId} {ad : Nat → Nat} {P : AS} {wy : Int32} {so : Int32} {w : Int64} {r : UInt64} {ns : Nat → Int32} {nw : Nat → Int64} {nr : Nat → UInt64} {fr : Nat → Int32} {tt : Nat → Int32} {u i : Nat} (hu : u < 513) (hi : i < 24) : CM l yX8_set cX8_set 3 none (rm_ 0 0) D cy 13 ad [.ref (ad 0), .int (nI u), .int (nI i)] (mct cy ad P wy so w r ns nw nr fr tt) none (mct cy ad (P.put u i (w, r)) wy so w r ns nw nr fr tt) := by
  refine CM.start (by decide) (Nat.le_of_ble_eq_true rfl) ?_
  intro p_ e_ s m_ below meth cd A ls hC hr hlk hin hK hA hH hl
  obtain ⟨hx, hb, hml, hown, hts⟩ := id hC
  have hS : va_S A s.heap s.heap [] := va_S.rf
  have hl : lv_has ls 3 [(0, .ref (ad 0)), (1, .int (nI u)), (2, .int (nI i))] := hl
  refine lv_aload_n hx hb dX8_set_0 rfl (lv_at hl 0 rfl) ?_
  refine g_get hC hK inG8 hH 0 (by decide) rfl rfl 4 (by decide) qF_X8_22 (Or.inl rfl) rfl dX8_set_1 ?_
  refine lv_bipush (v := 24) hx hb dX8_set_4 (by decide) ?_
  refine lv_iload_n hx hb dX8_set_6 rfl (lv_at hl 1 rfl) ?_
  refine lv_imul hx hb dX8_set_7 ?_
  refine lv_iload_n hx hb dX8_set_8 rfl (lv_at hl 2 rfl) ?_
  refine lv_iadd hx hb dX8_set_9 ?_
  refine lv_aload_n hx hb dX8_set_10 rfl (lv_at hl 0 rfl) ?_
  refine g_get hC hK inG8 hH 0 (by decide) rfl rfl 10 (by decide) qF_X8_69 (Or.inl rfl) rfl dX8_set_11 ?_
  refine mr_whs hC hK hH hS u i (by omega) dX8_set_14 (fun H locs hH hS => ?_)
  refine lv_aload_n hx hb dX8_set_15 rfl (lv_at hl 0 rfl) ?_
  refine g_get hC hK inG8 hH 0 (by decide) rfl rfl 5 (by decide) qF_X8_26 (Or.inl rfl) rfl dX8_set_16 ?_
  refine lv_bipush (v := 24) hx hb dX8_set_19 (by decide) ?_
  refine lv_iload_n hx hb dX8_set_21 rfl (lv_at hl 1 rfl) ?_
  refine lv_imul hx hb dX8_set_22 ?_
  refine lv_iload_n hx hb dX8_set_23 rfl (lv_at hl 2 rfl) ?_
  refine lv_iadd hx hb dX8_set_24 ?_
  refine lv_aload_n hx hb dX8_set_25 rfl (lv_at hl 0 rfl) ?_
  refine g_get hC hK inG8 hH 0 (by decide) rfl rfl 11 (by decide) qF_X8_73 (Or.inl rfl) rfl dX8_set_26 ?_
  refine mr_res hC hK hH hS u i (by omega) dX8_set_29 (fun H locs hH hS => ?_)
  exact cm_rv hC hr hlk (rfl) hH hS dX8_set_30
theorem mv_X8_goesInto : mvok RX8 yX8_goesInto cX8_goesInto 3 (some .boolean) 2 := ⟨qK_X8_goesInto, qI_X8_goesInto, qSel_X8_X8_goesInto, qInit_X8, by decide +kernel⟩
set_option maxHeartbeats 4000000 in
set_option maxRecDepth 100000 in
theorem c_X8_goesInto {l : Launch} {D : va_G} {cy : Nat → ClassId} {ad : Nat → Nat} {P : AS} {wy : Int32} {so : Int32} {w : Int64} {r : UInt64} {ns : Nat → Int32} {nw : Nat → Int64} {nr : Nat → UInt64} {fr : Nat → Int32} {tt : Nat → Int32} {a b : Nat} (ha : a < 8) (hb8 : b < 8) : CM l yX8_goesInto cX8_goesInto 3 (some .boolean) (rm_ 0 0) D cy 13 ad [.ref (ad 0), .int (nI a), .int (nI b)] (mct cy ad P wy so w r ns nw nr fr tt) (some (.int (b2i (goes a b)))) (mct cy ad P wy so w r ns nw nr fr tt) := by
  refine CM.start (by decide) (Nat.le_of_ble_eq_true rfl) ?_
  intro p_ e_ s m_ below meth cd A ls hC hr hlk hin hK hA hH hl
  obtain ⟨hx, hb, hml, hown, hts⟩ := id hC
  have hS : va_S A s.heap s.heap [] := va_S.rf
  have hl : lv_has ls 3 [(0, .ref (ad 0)), (1, .int (nI a)), (2, .int (nI b))] := hl
  refine lv_aload_n hx hb dX8_goesInto_0 rfl (lv_at hl 0 rfl) ?_
  refine g_get hC hK inG8 hH 0 (by decide) rfl rfl 0 (by decide) qF_X8_7 (Or.inl rfl) rfl dX8_goesInto_1 ?_
  refine lv_iload_n hx hb dX8_goesInto_4 rfl (lv_at hl 1 rfl) ?_
  refine gN_iald hC hK hH 1 (by decide) rfl a (by omega) dX8_goesInto_5 ?_
  refine lv_iload_n hx hb dX8_goesInto_6 rfl (lv_at hl 2 rfl) ?_
  refine lv_ishr hx hb dX8_goesInto_7 ?_
  refine lv_iconst (v := 1) hx hb dX8_goesInto_8 (by decide) ?_
  refine lv_iand hx hb dX8_goesInto_9 ?_
  refine lv_iconst (v := 1) hx hb dX8_goesInto_10 (by decide) ?_
  refine lv_icmp_ne (tgt := 18) hx hb dX8_goesInto_11 (by decide) (fun c_11 => ?_) (fun c_11 => ?_)
  · refine lv_iconst (v := 0) hx hb dX8_goesInto_18 (by decide) ?_
    exact cm_rz hC hr hlk (by first | exact Or.inl rfl | exact Or.inr rfl | exact b2i_01 _) (by first | exact b2d_1 (by assumption) | exact b2d_0 (by assumption)) (rfl) hH hS dX8_goesInto_19
  · refine lv_iconst (v := 1) hx hb dX8_goesInto_14 (by decide) ?_
    refine lv_goto (tgt := 19) hx hb dX8_goesInto_15 (by decide) ?_
    exact cm_rz hC hr hlk (by first | exact Or.inl rfl | exact Or.inr rfl | exact b2i_01 _) (by first | exact b2d_1 (by assumption) | exact b2d_0 (by assumption)) (rfl) hH hS dX8_goesInto_19
theorem ms_X8_isFloating : msok yX8_isFloating cX8_isFloating 1 (some .boolean) 1 := ⟨qK_X8_isFloating, qSt_X8_isFloating, qInit_X8, by decide +kernel⟩
set_option maxHeartbeats 4000000 in
set_option maxRecDepth 100000 in
theorem c_X8_isFloating {l : Launch} {D : va_G} {cy : Nat → ClassId} {ad : Nat → Nat} {N : Nat} {ct : Nat → Option va_E} {a : Nat} (ha : a < 12) : CM l yX8_isFloating cX8_isFloating 1 (some .boolean) (rm_ 0 0) D cy N ad [.int (nI a)] ct (some (.int (b2i (decide (6 ≤ a))))) ct := by
  refine CM.start (by decide) (Nat.le_of_ble_eq_true rfl) ?_
  intro p_ e_ s m_ below meth cd A ls hC hr hlk hin hK hA hH hl
  obtain ⟨hx, hb, hml, hown, hts⟩ := id hC
  have hS : va_S A s.heap s.heap [] := va_S.rf
  have hl : lv_has ls 1 [(0, .int (nI a))] := hl
  refine lv_iload_n hx hb dX8_isFloating_0 rfl (lv_at hl 0 rfl) ?_
  refine lv_bipush (v := 6) hx hb dX8_isFloating_1 (by decide) ?_
  refine lv_icmp_lt (tgt := 10) hx hb dX8_isFloating_3 (by decide) (fun c_3 => ?_) (fun c_3 => ?_)
  · have c_3 := nc_lt (a := a) (b := 6) (by omega) (by omega) c_3
    refine lv_iconst (v := 0) hx hb dX8_isFloating_10 (by decide) ?_
    exact cm_rz hC hr hlk (by first | exact Or.inl rfl | exact Or.inr rfl | exact b2i_01 _) (by first | exact b2d_1 (by omega) | exact b2d_0 (by omega)) (rfl) hH hS dX8_isFloating_11
  · have c_3 := nc_nlt (a := a) (b := 6) (by omega) (by omega) c_3
    refine lv_iconst (v := 1) hx hb dX8_isFloating_6 (by decide) ?_
    refine lv_goto (tgt := 11) hx hb dX8_isFloating_7 (by decide) ?_
    exact cm_rz hC hr hlk (by first | exact Or.inl rfl | exact Or.inr rfl | exact b2i_01 _) (by first | exact b2d_1 (by omega) | exact b2d_0 (by omega)) (rfl) hH hS dX8_isFloating_11
