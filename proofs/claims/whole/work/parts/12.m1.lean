theorem mv_X8_refuse : mvok RX8 yX8_refuse cX8_refuse 2 (some .int) 1 := ⟨qK_X8_refuse, qI_X8_refuse, qSel_X8_X8_refuse, qInit_X8, by decide +kernel⟩
set_option maxHeartbeats 4000000 in
set_option maxRecDepth 100000 in
theorem c_X8_refuse {l : Launch} {D : va_G} {cy : Nat → ClassId} {ad : Nat → Nat} {P : AS} {wy so : Int32} {w : Int64} {r : UInt64} {ns : Nat → Int32} {nw : Nat → Int64} {nr : Nat → UInt64} {fr tt : Nat → Int32} {k : Int32}  : CM l yX8_refuse cX8_refuse 2 (some .int) (rm_ 0 0) D cy 13 ad [.ref (ad 0), .int (k)] (mct cy ad P wy so w r ns nw nr fr tt) (some (.int (0))) (mct cy ad P k so w r ns nw nr fr tt) := by
  refine CM.start (by decide) (Nat.le_of_ble_eq_true rfl) ?_
  intro p e s m below meth c A ls hC hr hlk hin hK hA hH hl
  obtain ⟨hx, hb, hml, hown, hts⟩ := id hC
  have hS : va_S A s.heap s.heap [] := va_S.rf
  have hl : lv_has ls 2 [(0, .ref (ad 0)), (1, .int (k))] := hl
  refine lv_aload_n hx hb dX8_refuse_0 rfl (lv_at hl 0 rfl) ?_
  refine lv_iload_n hx hb dX8_refuse_1 rfl (lv_at hl 1 rfl) ?_
  refine g_put (ct' := mct cy ad P k so w r ns nw nr fr tt) hC hK inG8 tyX8 tyX8_ok nmX8 hH hS 0 (by decide) rfl rfl 8 (by decide) qF_X8_48 rfl rfl rfl rfl (Nat.le_of_ble_eq_true rfl) rfl mct_0 dX8_refuse_2 (fun H locs hH hS => ?_)
  refine lv_iconst (v := 0) hx hb dX8_refuse_5 (by decide) ?_
  exact cm_ri hC hr hlk (rfl) (rfl) hH hS dX8_refuse_6
theorem ms_X8_isIn : msok yX8_isIn cX8_isIn 3 (some .boolean) 3 := ⟨qK_X8_isIn, qSt_X8_isIn, qInit_X8, by decide +kernel⟩
set_option maxHeartbeats 4000000 in
set_option maxRecDepth 100000 in
theorem c_X8_isIn {l : Launch} {D : va_G} {cy : Nat → ClassId} {ad : Nat → Nat} {N : Nat} {ct : Nat → Option va_E} {v lo hi : Int32}  : CM l yX8_isIn cX8_isIn 3 (some .boolean) (rm_ 0 0) D cy N ad [.int (v), .int (lo), .int (hi)] ct (some (.int (b2i (inR v lo hi)))) ct := by
  refine CM.start (by decide) (Nat.le_of_ble_eq_true rfl) ?_
  intro p e s m below meth c A ls hC hr hlk hin hK hA hH hl
  obtain ⟨hx, hb, hml, hown, hts⟩ := id hC
  have hS : va_S A s.heap s.heap [] := va_S.rf
  have hl : lv_has ls 3 [(0, .int (v)), (1, .int (lo)), (2, .int (hi))] := hl
  refine lv_iload_n hx hb dX8_isIn_0 rfl (lv_at hl 0 rfl) ?_
  refine lv_iload_n hx hb dX8_isIn_1 rfl (lv_at hl 1 rfl) ?_
  refine lv_icmp_lt (tgt := 14) hx hb dX8_isIn_2 (by decide) (fun c_2 => ?_) (fun c_2 => ?_)
  · refine lv_iconst (v := 0) hx hb dX8_isIn_14 (by decide) ?_
    exact cm_rz hC hr hlk (by first | exact Or.inl rfl | exact Or.inr rfl | exact b2i_01 _) (by first | (rw [inR_lo (by assumption)]; rfl) | (rw [inR_hi (by assumption)]; rfl) | (rw [inR_in (by assumption) (by assumption)]; rfl)) (rfl) hH hS dX8_isIn_15
  · refine lv_iload_n hx hb dX8_isIn_5 rfl (lv_at hl 0 rfl) ?_
    refine lv_iload_n hx hb dX8_isIn_6 rfl (lv_at hl 2 rfl) ?_
    refine lv_icmp_gt (tgt := 14) hx hb dX8_isIn_7 (by decide) (fun c_7 => ?_) (fun c_7 => ?_)
    · refine lv_iconst (v := 0) hx hb dX8_isIn_14 (by decide) ?_
      exact cm_rz hC hr hlk (by first | exact Or.inl rfl | exact Or.inr rfl | exact b2i_01 _) (by first | (rw [inR_lo (by assumption)]; rfl) | (rw [inR_hi (by assumption)]; rfl) | (rw [inR_in (by assumption) (by assumption)]; rfl)) (rfl) hH hS dX8_isIn_15
    · refine lv_iconst (v := 1) hx hb dX8_isIn_10 (by decide) ?_
      refine lv_goto (tgt := 15) hx hb dX8_isIn_11 (by decide) ?_
      exact cm_rz hC hr hlk (by first | exact Or.inl rfl | exact Or.inr rfl | exact b2i_01 _) (by first | (rw [inR_lo (by assumption)]; rfl) | (rw [inR_hi (by assumption)]; rfl) | (rw [inR_in (by assumption) (by assumption)]; rfl)) (rfl) hH hS dX8_isIn_15
theorem ms_X8_isColumn : msok yX8_isColumn cX8_isColumn 1 (some .boolean) 1 := ⟨qK_X8_isColumn, qSt_X8_isColumn, qInit_X8, by decide +kernel⟩
set_option maxHeartbeats 4000000 in
set_option maxRecDepth 100000 in
theorem c_X8_isColumn {l : Launch} {D : va_G} {cy : Nat → ClassId} {ad : Nat → Nat} {N : Nat} {ct : Nat → Option va_E} {v : Int32}  : CM l yX8_isColumn cX8_isColumn 1 (some .boolean) (rm_ 1 22) D cy N ad [.int (v)] ct (some (.int (b2i (isC v)))) ct := by
  refine CM.start (by decide) (Nat.le_of_ble_eq_true rfl) ?_
  intro p e s m below meth c A ls hC hr hlk hin hK hA hH hl
  obtain ⟨hx, hb, hml, hown, hts⟩ := id hC
  have hS : va_S A s.heap s.heap [] := va_S.rf
  have hl : lv_has ls 1 [(0, .int (v))] := hl
  refine lv_iload_n hx hb dX8_isColumn_0 rfl (lv_at hl 0 rfl) ?_
  refine lv_iconst (v := 0) hx hb dX8_isColumn_1 (by decide) ?_
  refine lv_bipush (v := 11) hx hb dX8_isColumn_2 (by decide) ?_
  refine cm_S (As := [.int (v), .int (0), .int (11)]) (rest := []) hC (c_X8_isIn) ms_X8_isIn qM_X8_52 ⟨⟨rfl, rfl⟩, Nat.le_of_ble_eq_true rfl, Nat.le_of_ble_eq_true rfl⟩ hK hH hS hA hl.1 ⟨Nat.zero_le _, Nat.zero_le _⟩ rfl rfl (Nat.le_of_ble_eq_true rfl) dX8_isColumn_4 (fun H locs hH hS => ?_)
  exact cm_rz hC hr hlk (by first | exact Or.inl rfl | exact Or.inr rfl | exact b2i_01 _) (rfl) (rfl) hH hS dX8_isColumn_7
theorem mv_X8_in : mvok RX8 yX8_in cX8_in 2 (some .int) 1 := ⟨qK_X8_in, qI_X8_in, qSel_X8_X8_in, qInit_X8, by decide +kernel⟩
set_option maxHeartbeats 4000000 in
set_option maxRecDepth 100000 in
theorem c_X8_in {l : Launch} {D : va_G} {cy : Nat → ClassId} {ad : Nat → Nat} {P : AS} {wy so : Int32} {w : Int64} {r : UInt64} {ns : Nat → Int32} {nw : Nat → Int64} {nr : Nat → UInt64} {fr tt : Nat → Int32} {j : Nat} (hj : j < 12) : CM l yX8_in cX8_in 2 (some .int) (rm_ 0 0) D cy 13 ad [.ref (ad 0), .int (nI j)] (mct cy ad P wy so w r ns nw nr fr tt) (some (.int (nI (P.co j) - 1))) (mct cy ad P wy so w r ns nw nr fr tt) := by
  refine CM.start (by decide) (Nat.le_of_ble_eq_true rfl) ?_
  intro p e s m below meth c A ls hC hr hlk hin hK hA hH hl
  obtain ⟨hx, hb, hml, hown, hts⟩ := id hC
  have hS : va_S A s.heap s.heap [] := va_S.rf
  have hl : lv_has ls 2 [(0, .ref (ad 0)), (1, .int (nI j))] := hl
  refine lv_aload_n hx hb dX8_in_0 rfl (lv_at hl 0 rfl) ?_
  refine g_get hC hK inG8 hH 0 (by decide) rfl rfl 7 (by decide) qF_X8_30 (Or.inl rfl) rfl dX8_in_1 ?_
  refine lv_iload_n hx hb dX8_in_4 rfl (lv_at hl 1 rfl) ?_
  refine gN_iald hC hK hH 7 (by decide) rfl j (by omega) dX8_in_5 ?_
  refine lv_iconst (v := 1) hx hb dX8_in_6 (by decide) ?_
  refine lv_isub hx hb dX8_in_7 ?_
  exact cm_ri hC hr hlk (rfl) (rfl) hH hS dX8_in_8
