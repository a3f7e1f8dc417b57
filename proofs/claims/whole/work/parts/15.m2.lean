theorem mv_X8_widen : mvok RX8 yX8_widen cX8_widen 2 none 1 := ⟨qK_X8_widen, qI_X8_widen, qSel_X8_X8_widen, qInit_X8, by decide +kernel⟩
set_option maxHeartbeats 4000000 in
set_option maxRecDepth 100000 in
theorem c_X8_widen {l : Launch} {D : va_G} {cy : Nat → ClassId} {ad : Nat → Nat} {P : AS} {wy : Int32} {w : Int64} {r : UInt64} {ns : Nat → Int32} {nw : Nat → Int64} {nr : Nat → UInt64} {fr : Nat → Int32} {tt : Nat → Int32} {a k : Nat} (ha : a < 12) (hk : k < 8) : CM l yX8_widen cX8_widen 2 none (rm_ 0 0) D cy 13 ad [.ref (ad 0), .int (nI k)] (mct cy ad P wy (nI a) w r ns nw nr fr tt) none (mct cy ad P wy (nI k) ((wdn a k w r).1) ((wdn a k w r).2) ns nw nr fr tt) := by
  refine CM.start (by decide) (Nat.le_of_ble_eq_true rfl) ?_
  intro p_ e_ s m_ below meth cd A ls hC hr hlk hin hK hA hH hl
  obtain ⟨hx, hb, hml, hown, hts⟩ := id hC
  have hS : va_S A s.heap s.heap [] := va_S.rf
  have hl : lv_has ls 2 [(0, .ref (ad 0)), (1, .int (nI k))] := hl
  refine lv_iload_n hx hb dX8_widen_0 rfl (lv_at hl 1 rfl) ?_
  refine lv_bipush (v := 6) hx hb dX8_widen_1 (by decide) ?_
  refine lv_icmp_lt (tgt := 43) hx hb dX8_widen_3 (by decide) (fun c_3 => ?_) (fun c_3 => ?_)
  · have c_3 := nc_lt (a := k) (b := 6) (by omega) (by omega) c_3
    refine lv_aload_n hx hb dX8_widen_43 rfl (lv_at hl 0 rfl) ?_
    refine lv_iload_n hx hb dX8_widen_44 rfl (lv_at hl 1 rfl) ?_
    refine g_put (ct' := mct cy ad P wy (nI k) w r ns nw nr fr tt) hC hK inG8 tyX8 tyX8_ok nmX8 hH hS 0 (by decide) rfl rfl 9 (by decide) qF_X8_66 rfl rfl rfl rfl (Nat.le_of_ble_eq_true rfl) rfl mct_0 dX8_widen_45 (fun H locs hH hS => ?_)
    exact cm_rv hC hr hlk (by first | rw [wdn_no (by omega)] | rw [wdn_6 (by omega)] | rw [wdn_7 (by omega)]) hH hS dX8_widen_48
  · have c_3 := nc_nlt (a := k) (b := 6) (by omega) (by omega) c_3
    refine lv_aload_n hx hb dX8_widen_6 rfl (lv_at hl 0 rfl) ?_
    refine g_get hC hK inG8 hH 0 (by decide) rfl rfl 9 (by decide) qF_X8_66 (Or.inl rfl) rfl dX8_widen_7 ?_
    refine lv_iconst (v := 5) hx hb dX8_widen_10 (by decide) ?_
    refine lv_icmp_gt (tgt := 43) hx hb dX8_widen_11 (by decide) (fun c_11 => ?_) (fun c_11 => ?_)
    · have c_11 := nc_lt (a := 5) (b := a) (by omega) (by omega) c_11
      refine lv_aload_n hx hb dX8_widen_43 rfl (lv_at hl 0 rfl) ?_
      refine lv_iload_n hx hb dX8_widen_44 rfl (lv_at hl 1 rfl) ?_
      refine g_put (ct' := mct cy ad P wy (nI k) w r ns nw nr fr tt) hC hK inG8 tyX8 tyX8_ok nmX8 hH hS 0 (by decide) rfl rfl 9 (by decide) qF_X8_66 rfl rfl rfl rfl (Nat.le_of_ble_eq_true rfl) rfl mct_0 dX8_widen_45 (fun H locs hH hS => ?_)
      exact cm_rv hC hr hlk (by first | rw [wdn_no (by omega)] | rw [wdn_6 (by omega)] | rw [wdn_7 (by omega)]) hH hS dX8_widen_48
    · have c_11 := nc_nlt (a := 5) (b := a) (by omega) (by omega) c_11
      refine lv_aload_n hx hb dX8_widen_14 rfl (lv_at hl 0 rfl) ?_
      refine lv_iload_n hx hb dX8_widen_15 rfl (lv_at hl 1 rfl) ?_
      refine lv_bipush (v := 6) hx hb dX8_widen_16 (by decide) ?_
      refine lv_icmp_ne (tgt := 30) hx hb dX8_widen_18 (by decide) (fun c_18 => ?_) (fun c_18 => ?_)
      · have c_18 := nc_ne (a := k) (b := 6) (by omega) (by omega) c_18
        refine lv_aload_n hx hb dX8_widen_30 rfl (lv_at hl 0 rfl) ?_
        refine g_get hC hK inG8 hH 0 (by decide) rfl rfl 10 (by decide) qF_X8_69 (Or.inl rfl) rfl dX8_widen_31 ?_
        refine lv_l2d hx hb dX8_widen_34 ?_
        refine g_put (ct' := mct cy ad P wy (nI a) w (FP.l2d (w)) ns nw nr fr tt) hC hK inG8 tyX8 tyX8_ok nmX8 hH hS 0 (by decide) rfl rfl 11 (by decide) qF_X8_73 rfl rfl rfl rfl (Nat.le_of_ble_eq_true rfl) rfl mct_0 dX8_widen_35 (fun H locs hH hS => ?_)
        refine lv_aload_n hx hb dX8_widen_38 rfl (lv_at hl 0 rfl) ?_
        refine lv_lconst (v := 0) hx hb dX8_widen_39 (by decide) ?_
        refine g_put (ct' := mct cy ad P wy (nI a) 0 (FP.l2d (w)) ns nw nr fr tt) hC hK inG8 tyX8 tyX8_ok nmX8 hH hS 0 (by decide) rfl rfl 10 (by decide) qF_X8_69 rfl rfl rfl rfl (Nat.le_of_ble_eq_true rfl) rfl mct_0 dX8_widen_40 (fun H locs hH hS => ?_)
        refine lv_aload_n hx hb dX8_widen_43 rfl (lv_at hl 0 rfl) ?_
        refine lv_iload_n hx hb dX8_widen_44 rfl (lv_at hl 1 rfl) ?_
        refine g_put (ct' := mct cy ad P wy (nI k) 0 (FP.l2d (w)) ns nw nr fr tt) hC hK inG8 tyX8 tyX8_ok nmX8 hH hS 0 (by decide) rfl rfl 9 (by decide) qF_X8_66 rfl rfl rfl rfl (Nat.le_of_ble_eq_true rfl) rfl mct_0 dX8_widen_45 (fun H locs hH hS => ?_)
        exact cm_rv hC hr hlk (by first | rw [wdn_no (by omega)] | rw [wdn_6 (by omega)] | rw [wdn_7 (by omega)]) hH hS dX8_widen_48
      · have c_18 := nc_eq (a := k) (b := 6) (by omega) (by omega) c_18
        refine lv_aload_n hx hb dX8_widen_21 rfl (lv_at hl 0 rfl) ?_
        refine g_get hC hK inG8 hH 0 (by decide) rfl rfl 10 (by decide) qF_X8_69 (Or.inl rfl) rfl dX8_widen_22 ?_
        refine lv_l2f hx hb dX8_widen_25 ?_
        refine lv_f2d hx hb dX8_widen_26 (fpn_lf _) ?_
        refine lv_goto (tgt := 35) hx hb dX8_widen_27 (by decide) ?_
        refine g_put (ct' := mct cy ad P wy (nI a) w (FP.f2d (FP.l2f (w))) ns nw nr fr tt) hC hK inG8 tyX8 tyX8_ok nmX8 hH hS 0 (by decide) rfl rfl 11 (by decide) qF_X8_73 rfl rfl rfl rfl (Nat.le_of_ble_eq_true rfl) rfl mct_0 dX8_widen_35 (fun H locs hH hS => ?_)
        refine lv_aload_n hx hb dX8_widen_38 rfl (lv_at hl 0 rfl) ?_
        refine lv_lconst (v := 0) hx hb dX8_widen_39 (by decide) ?_
        refine g_put (ct' := mct cy ad P wy (nI a) 0 (FP.f2d (FP.l2f (w))) ns nw nr fr tt) hC hK inG8 tyX8 tyX8_ok nmX8 hH hS 0 (by decide) rfl rfl 10 (by decide) qF_X8_69 rfl rfl rfl rfl (Nat.le_of_ble_eq_true rfl) rfl mct_0 dX8_widen_40 (fun H locs hH hS => ?_)
        refine lv_aload_n hx hb dX8_widen_43 rfl (lv_at hl 0 rfl) ?_
        refine lv_iload_n hx hb dX8_widen_44 rfl (lv_at hl 1 rfl) ?_
        refine g_put (ct' := mct cy ad P wy (nI k) 0 (FP.f2d (FP.l2f (w))) ns nw nr fr tt) hC hK inG8 tyX8 tyX8_ok nmX8 hH hS 0 (by decide) rfl rfl 9 (by decide) qF_X8_66 rfl rfl rfl rfl (Nat.le_of_ble_eq_true rfl) rfl mct_0 dX8_widen_45 (fun H locs hH hS => ?_)
        exact cm_rv hC hr hlk (by first | rw [wdn_no (by omega)] | rw [wdn_6 (by omega)] | rw [wdn_7 (by omega)]) hH hS dX8_widen_48
theorem mv_X8_tell : mvok RX8 yX8_tell cX8_tell 6 none 3 := ⟨qK_X8_tell, qI_X8_tell, qSel_X8_X8_tell, qInit_X8, by decide +kernel⟩
set_option maxHeartbeats 4000000 in
set_option maxRecDepth 100000 in
theorem c_X8_tell {l : Launch} {D : va_G} {cy : Nat → ClassId} {ad : Nat → Nat} {P : AS} {wy : Int32} {so : Int32} {w : Int64} {r : UInt64} {ns : Nat → Int32} {nw : Nat → Int64} {nr : Nat → UInt64} {fr : Nat → Int32} {tt : Nat → Int32} {k : Nat} {a b : Int32} (hk : k ≤ 7) : CM l yX8_tell cX8_tell 6 none (rm_ 0 0) D cy 13 ad [.ref (ad 0), .int (nI k), .int (a), .int (b)] (mct cy ad P wy so w r ns nw nr fr tt) none (mct cy ad P wy (nI k) ((told k a b).1) ((told k a b).2) ns nw nr fr tt) := by
  refine CM.start (by decide) (Nat.le_of_ble_eq_true rfl) ?_
  intro p_ e_ s m_ below meth cd A ls hC hr hlk hin hK hA hH hl
  obtain ⟨hx, hb, hml, hown, hts⟩ := id hC
  have hS : va_S A s.heap s.heap [] := va_S.rf
  have hl : lv_has ls 6 [(0, .ref (ad 0)), (1, .int (nI k)), (2, .int (a)), (3, .int (b))] := hl
  refine lv_iload_n hx hb dX8_tell_0 rfl (lv_at hl 2 rfl) ?_
  refine lv_i2l hx hb dX8_tell_1 rfl ?_
  refine lv_bipush (v := 32) hx hb dX8_tell_2 (by decide) ?_
  refine lv_lshl hx hb dX8_tell_4 rfl ?_
  refine lv_iload_n hx hb dX8_tell_5 rfl (lv_at hl 3 rfl) ?_
  refine lv_i2l hx hb dX8_tell_6 rfl ?_
  refine lv_ldc2 hx hb hown (hts _ qKL_X8_64) dX8_tell_7 ?_
  refine lv_land hx hb dX8_tell_10 ?_
  refine lv_lor hx hb dX8_tell_11 ?_
  refine lv_lstore (lv' := [(4, .long ((((a).toInt64 <<< ((32 : Int32).toInt64 &&& 63)) ||| ((b).toInt64 &&& 4294967295)))), (0, .ref (ad 0)), (1, .int (nI k)), (2, .int (a)), (3, .int (b))]) hx hb dX8_tell_12 hl (by decide) rfl (fun ls hl => ?_)
  refine lv_aload_n hx hb dX8_tell_14 rfl (lv_at hl 1 rfl) ?_
  refine lv_iload_n hx hb dX8_tell_15 rfl (lv_at hl 2 rfl) ?_
  refine g_put (ct' := mct cy ad P wy (nI k) w r ns nw nr fr tt) hC hK inG8 tyX8 tyX8_ok nmX8 hH hS 0 (by decide) rfl rfl 9 (by decide) qF_X8_66 rfl rfl rfl rfl (Nat.le_of_ble_eq_true rfl) rfl mct_0 dX8_tell_16 (fun H locs hH hS => ?_)
  refine lv_aload_n hx hb dX8_tell_19 rfl (lv_at hl 1 rfl) ?_
  refine lv_lconst (v := 0) hx hb dX8_tell_20 (by decide) ?_
  refine g_put (ct' := mct cy ad P wy (nI k) 0 r ns nw nr fr tt) hC hK inG8 tyX8 tyX8_ok nmX8 hH hS 0 (by decide) rfl rfl 10 (by decide) qF_X8_69 rfl rfl rfl rfl (Nat.le_of_ble_eq_true rfl) rfl mct_0 dX8_tell_21 (fun H locs hH hS => ?_)
  refine lv_aload_n hx hb dX8_tell_24 rfl (lv_at hl 1 rfl) ?_
  refine lv_dconst0 hx hb dX8_tell_25 ?_
  refine g_put (ct' := mct cy ad P wy (nI k) 0 FP.dconst0 ns nw nr fr tt) hC hK inG8 tyX8 tyX8_ok nmX8 hH hS 0 (by decide) rfl rfl 11 (by decide) qF_X8_73 rfl rfl rfl rfl (Nat.le_of_ble_eq_true rfl) rfl mct_0 dX8_tell_26 (fun H locs hH hS => ?_)
  refine lv_iload_n hx hb dX8_tell_29 rfl (lv_at hl 2 rfl) ?_
  rcases (by omega : k = 0 ∨ k = 1 ∨ k = 2 ∨ k = 3 ∨ k = 4 ∨ k = 5 ∨ k = 6 ∨ k = 7) with rfl | rfl | rfl | rfl | rfl | rfl | rfl | rfl
  · refine lv_tableIn (off := 42) (tgt := 72) hx hb dX8_tell_30 (by decide) (by decide) (by decide) (by decide) ?_
    refine lv_aload_n hx hb dX8_tell_72 rfl (lv_at hl 1 rfl) ?_
    refine lv_lload hx hb dX8_tell_73 (lv_at hl 0 rfl) ?_
    refine lv_lconst (v := 1) hx hb dX8_tell_75 (by decide) ?_
    refine lv_land hx hb dX8_tell_76 ?_
    refine g_put (ct' := mct cy ad P wy (nI (0)) (((((a).toInt64 <<< ((32 : Int32).toInt64 &&& 63)) ||| ((b).toInt64 &&& 4294967295)) &&& 1)) FP.dconst0 ns nw nr fr tt) hC hK inG8 tyX8 tyX8_ok nmX8 hH hS 0 (by decide) rfl rfl 10 (by decide) qF_X8_69 rfl rfl rfl rfl (Nat.le_of_ble_eq_true rfl) rfl mct_0 dX8_tell_77 (fun H locs hH hS => ?_)
    refine lv_goto (tgt := 164) hx hb dX8_tell_80 (by decide) ?_
    exact cm_rv hC hr hlk (rfl) hH hS dX8_tell_164
  · refine lv_tableIn (off := 53) (tgt := 83) hx hb dX8_tell_30 (by decide) (by decide) (by decide) (by decide) ?_
    refine lv_aload_n hx hb dX8_tell_83 rfl (lv_at hl 1 rfl) ?_
    refine lv_lload hx hb dX8_tell_84 (lv_at hl 0 rfl) ?_
    refine lv_l2i hx hb dX8_tell_86 rfl ?_
    refine lv_i2b hx hb dX8_tell_87 rfl ?_
    refine lv_i2l hx hb dX8_tell_88 rfl ?_
    refine g_put (ct' := mct cy ad P wy (nI (1)) (((((((a).toInt64 <<< ((32 : Int32).toInt64 &&& 63)) ||| ((b).toInt64 &&& 4294967295))).toInt32).toInt8.toInt32).toInt64) FP.dconst0 ns nw nr fr tt) hC hK inG8 tyX8 tyX8_ok nmX8 hH hS 0 (by decide) rfl rfl 10 (by decide) qF_X8_69 rfl rfl rfl rfl (Nat.le_of_ble_eq_true rfl) rfl mct_0 dX8_tell_89 (fun H locs hH hS => ?_)
    refine lv_goto (tgt := 164) hx hb dX8_tell_92 (by decide) ?_
    exact cm_rv hC hr hlk (rfl) hH hS dX8_tell_164
  · refine lv_tableIn (off := 65) (tgt := 95) hx hb dX8_tell_30 (by decide) (by decide) (by decide) (by decide) ?_
    refine lv_aload_n hx hb dX8_tell_95 rfl (lv_at hl 1 rfl) ?_
    refine lv_lload hx hb dX8_tell_96 (lv_at hl 0 rfl) ?_
    refine lv_l2i hx hb dX8_tell_98 rfl ?_
    refine lv_i2c hx hb dX8_tell_99 rfl ?_
    refine lv_i2l hx hb dX8_tell_100 rfl ?_
    refine g_put (ct' := mct cy ad P wy (nI (2)) ((((((((a).toInt64 <<< ((32 : Int32).toInt64 &&& 63)) ||| ((b).toInt64 &&& 4294967295))).toInt32).toUInt32 % 65536).toInt32).toInt64) FP.dconst0 ns nw nr fr tt) hC hK inG8 tyX8 tyX8_ok nmX8 hH hS 0 (by decide) rfl rfl 10 (by decide) qF_X8_69 rfl rfl rfl rfl (Nat.le_of_ble_eq_true rfl) rfl mct_0 dX8_tell_101 (fun H locs hH hS => ?_)
    refine lv_goto (tgt := 164) hx hb dX8_tell_104 (by decide) ?_
    exact cm_rv hC hr hlk (rfl) hH hS dX8_tell_164
  · refine lv_tableIn (off := 77) (tgt := 107) hx hb dX8_tell_30 (by decide) (by decide) (by decide) (by decide) ?_
    refine lv_aload_n hx hb dX8_tell_107 rfl (lv_at hl 1 rfl) ?_
    refine lv_lload hx hb dX8_tell_108 (lv_at hl 0 rfl) ?_
    refine lv_l2i hx hb dX8_tell_110 rfl ?_
    refine lv_i2s hx hb dX8_tell_111 rfl ?_
    refine lv_i2l hx hb dX8_tell_112 rfl ?_
    refine g_put (ct' := mct cy ad P wy (nI (3)) (((((((a).toInt64 <<< ((32 : Int32).toInt64 &&& 63)) ||| ((b).toInt64 &&& 4294967295))).toInt32).toInt16.toInt32).toInt64) FP.dconst0 ns nw nr fr tt) hC hK inG8 tyX8 tyX8_ok nmX8 hH hS 0 (by decide) rfl rfl 10 (by decide) qF_X8_69 rfl rfl rfl rfl (Nat.le_of_ble_eq_true rfl) rfl mct_0 dX8_tell_113 (fun H locs hH hS => ?_)
    refine lv_goto (tgt := 164) hx hb dX8_tell_116 (by decide) ?_
    exact cm_rv hC hr hlk (rfl) hH hS dX8_tell_164
  · refine lv_tableIn (off := 89) (tgt := 119) hx hb dX8_tell_30 (by decide) (by decide) (by decide) (by decide) ?_
    refine lv_aload_n hx hb dX8_tell_119 rfl (lv_at hl 1 rfl) ?_
    refine lv_lload hx hb dX8_tell_120 (lv_at hl 0 rfl) ?_
    refine lv_l2i hx hb dX8_tell_122 rfl ?_
    refine lv_i2l hx hb dX8_tell_123 rfl ?_
    refine g_put (ct' := mct cy ad P wy (nI (4)) ((((((a).toInt64 <<< ((32 : Int32).toInt64 &&& 63)) ||| ((b).toInt64 &&& 4294967295))).toInt32).toInt64) FP.dconst0 ns nw nr fr tt) hC hK inG8 tyX8 tyX8_ok nmX8 hH hS 0 (by decide) rfl rfl 10 (by decide) qF_X8_69 rfl rfl rfl rfl (Nat.le_of_ble_eq_true rfl) rfl mct_0 dX8_tell_124 (fun H locs hH hS => ?_)
    refine lv_goto (tgt := 164) hx hb dX8_tell_127 (by decide) ?_
    exact cm_rv hC hr hlk (rfl) hH hS dX8_tell_164
  · refine lv_tableIn (off := 100) (tgt := 130) hx hb dX8_tell_30 (by decide) (by decide) (by decide) (by decide) ?_
    refine lv_aload_n hx hb dX8_tell_130 rfl (lv_at hl 1 rfl) ?_
    refine lv_lload hx hb dX8_tell_131 (lv_at hl 0 rfl) ?_
    refine g_put (ct' := mct cy ad P wy (nI (5)) ((((a).toInt64 <<< ((32 : Int32).toInt64 &&& 63)) ||| ((b).toInt64 &&& 4294967295))) FP.dconst0 ns nw nr fr tt) hC hK inG8 tyX8 tyX8_ok nmX8 hH hS 0 (by decide) rfl rfl 10 (by decide) qF_X8_69 rfl rfl rfl rfl (Nat.le_of_ble_eq_true rfl) rfl mct_0 dX8_tell_133 (fun H locs hH hS => ?_)
    refine lv_goto (tgt := 164) hx hb dX8_tell_136 (by decide) ?_
    exact cm_rv hC hr hlk (rfl) hH hS dX8_tell_164
  · refine lv_tableIn (off := 109) (tgt := 139) hx hb dX8_tell_30 (by decide) (by decide) (by decide) (by decide) ?_
    refine lv_aload_n hx hb dX8_tell_139 rfl (lv_at hl 1 rfl) ?_
    refine lv_lload hx hb dX8_tell_140 (lv_at hl 0 rfl) ?_
    refine lv_l2f hx hb dX8_tell_142 ?_
    refine lv_ldcf hx hb hown (hts _ qKF_X8_77) dX8_tell_143 ?_
    refine lv_fdiv hx hb dX8_tell_145 (fpn_fd _) ?_
    refine lv_f2d hx hb dX8_tell_146 (fpn_f2d _) ?_
    refine g_put (ct' := mct cy ad P wy (nI (6)) 0 (FP.f2d (FP.fdiv (FP.l2f ((((a).toInt64 <<< ((32 : Int32).toInt64 &&& 63)) ||| ((b).toInt64 &&& 4294967295)))) (1090519040))) ns nw nr fr tt) hC hK inG8 tyX8 tyX8_ok nmX8 hH hS 0 (by decide) rfl rfl 11 (by decide) qF_X8_73 rfl rfl rfl rfl (Nat.le_of_ble_eq_true rfl) rfl mct_0 dX8_tell_147 (fun H locs hH hS => ?_)
    refine lv_goto (tgt := 164) hx hb dX8_tell_150 (by decide) ?_
    exact cm_rv hC hr hlk (rfl) hH hS dX8_tell_164
  · refine lv_tableOut (tgt := 153) hx hb dX8_tell_30 (by decide) (by decide) ?_
    refine lv_aload_n hx hb dX8_tell_153 rfl (lv_at hl 1 rfl) ?_
    refine lv_lload hx hb dX8_tell_154 (lv_at hl 0 rfl) ?_
    refine lv_l2d hx hb dX8_tell_156 ?_
    refine lv_ldc2d hx hb hown (hts _ qKD_X8_78) dX8_tell_157 ?_
    refine lv_ddiv hx hb dX8_tell_160 (fpn_dd _) ?_
    refine g_put (ct' := mct cy ad P wy (nI (7)) 0 (FP.ddiv (FP.l2d ((((a).toInt64 <<< ((32 : Int32).toInt64 &&& 63)) ||| ((b).toInt64 &&& 4294967295)))) (4620693217682128896)) ns nw nr fr tt) hC hK inG8 tyX8 tyX8_ok nmX8 hH hS 0 (by decide) rfl rfl 11 (by decide) qF_X8_73 rfl rfl rfl rfl (Nat.le_of_ble_eq_true rfl) rfl mct_0 dX8_tell_161 (fun H locs hH hS => ?_)
    exact cm_rv hC hr hlk (rfl) hH hS dX8_tell_164
theorem ms_X8_doubleOf : msok yX8_doubleOf cX8_doubleOf 5 (some .double) 3 := ⟨qK_X8_doubleOf, qSt_X8_doubleOf, qInit_X8, by decide +kernel⟩
set_option maxHeartbeats 4000000 in
set_option maxRecDepth 100000 in
theorem c_X8_doubleOf {l : Launch} {D : va_G} {cy : Nat → ClassId} {ad : Nat → Nat} {N : Nat} {ct : Nat → Option va_E} {a : Nat} {w1 : Int64} {r1 : UInt64} (ha : a < 12) : CM l yX8_doubleOf cX8_doubleOf 5 (some .double) (rm_ 0 0) D cy N ad [.int (nI a), .long (w1), .double (r1)] ct (some (.double (dbl a w1 r1))) ct := by
  refine CM.start (by decide) (Nat.le_of_ble_eq_true rfl) ?_
  intro p_ e_ s m_ below meth cd A ls hC hr hlk hin hK hA hH hl
  obtain ⟨hx, hb, hml, hown, hts⟩ := id hC
  have hS : va_S A s.heap s.heap [] := va_S.rf
  have hl : lv_has ls 5 [(0, .int (nI a)), (1, .long (w1)), (3, .double (r1))] := hl
  refine lv_iload_n hx hb dX8_doubleOf_0 rfl (lv_at hl 0 rfl) ?_
  refine lv_iconst (v := 5) hx hb dX8_doubleOf_1 (by decide) ?_
  refine lv_icmp_gt (tgt := 10) hx hb dX8_doubleOf_2 (by decide) (fun c_2 => ?_) (fun c_2 => ?_)
  · have c_2 := nc_lt (a := 5) (b := a) (by omega) (by omega) c_2
    refine lv_dload_n hx hb dX8_doubleOf_10 rfl (lv_at hl 2 rfl) ?_
    exact cm_rd hC hr hlk (by unfold dbl; first | rw [if_pos (by omega)] | rw [if_neg (by omega)]) (rfl) hH hS dX8_doubleOf_11
  · have c_2 := nc_nlt (a := 5) (b := a) (by omega) (by omega) c_2
    refine lv_lload_n hx hb dX8_doubleOf_5 rfl (lv_at hl 1 rfl) ?_
    refine lv_l2d hx hb dX8_doubleOf_6 ?_
    refine lv_goto (tgt := 11) hx hb dX8_doubleOf_7 (by decide) ?_
    exact cm_rd hC hr hlk (by unfold dbl; first | rw [if_pos (by omega)] | rw [if_neg (by omega)]) (rfl) hH hS dX8_doubleOf_11
theorem ms_X8_order : msok yX8_order cX8_order 6 (some .int) 4 := ⟨qK_X8_order, qSt_X8_order, qInit_X8, by decide +kernel⟩
set_option maxHeartbeats 4000000 in
set_option maxRecDepth 100000 in
theorem c_X8_order {l : Launch} {D : va_G} {cy : Nat → ClassId} {ad : Nat → Nat} {N : Nat} {ct : Nat → Option va_E} {a b : Nat} {w1 w2 : Int64} (ha : a < 12) (hb9 : b < 12) : CM l yX8_order cX8_order 6 (some .int) (rm_ 0 0) D cy N ad [.int (nI a), .long (w1), .int (nI b), .long (w2)] ct (some (.int (ordW a w1 b w2))) ct := by
  refine CM.start (by decide) (Nat.le_of_ble_eq_true rfl) ?_
  intro p_ e_ s m_ below meth cd A ls hC hr hlk hin hK hA hH hl
  obtain ⟨hx, hb, hml, hown, hts⟩ := id hC
  have hS : va_S A s.heap s.heap [] := va_S.rf
  have hl : lv_has ls 6 [(0, .int (nI a)), (1, .long (w1)), (3, .int (nI b)), (4, .long (w2))] := hl
  refine lv_iload_n hx hb dX8_order_0 rfl (lv_at hl 0 rfl) ?_
  refine lv_if_ne (tgt := 8) hx hb dX8_order_1 (by decide) (fun c_1 => ?_) (fun c_1 => ?_)
  · have c_1 := nc_ne (a := a) (b := 0) (by omega) (by omega) c_1
    refine lv_iconst (v := 0) hx hb dX8_order_8 (by decide) ?_
    refine lv_iload_n hx hb dX8_order_9 rfl (lv_at hl 2 rfl) ?_
    refine lv_if_ne (tgt := 17) hx hb dX8_order_10 (by decide) (fun c_10 => ?_) (fun c_10 => ?_)
    · have c_10 := nc_ne (a := b) (b := 0) (by omega) (by omega) c_10
      refine lv_iconst (v := 0) hx hb dX8_order_17 (by decide) ?_
      refine lv_icmp_eq (tgt := 23) hx hb dX8_order_18 (by decide) (fun c_18 => ?_) (fun c_18 => absurd c_18 (by decide))
      refine lv_lload_n hx hb dX8_order_23 rfl (lv_at hl 1 rfl) ?_
      refine lv_lload hx hb dX8_order_24 (lv_at hl 3 rfl) ?_
      refine W.lcmp hx hb dX8_order_26 ?_
      refine lv_if_ge (tgt := 34) hx hb dX8_order_27 (by decide) (fun c_27 => ?_) (fun c_27 => ?_)
      · have c_27 := lc_geT c_27
        refine lv_lload_n hx hb dX8_order_34 rfl (lv_at hl 1 rfl) ?_
        refine lv_lload hx hb dX8_order_35 (lv_at hl 3 rfl) ?_
        refine W.lcmp hx hb dX8_order_37 ?_
        refine lv_if_le (tgt := 45) hx hb dX8_order_38 (by decide) (fun c_38 => ?_) (fun c_38 => ?_)
        · have c_38 := lc_leT c_38
          refine lv_iconst (v := 0) hx hb dX8_order_45 (by decide) ?_
          exact cm_ri hC hr hlk (by simp [ordW, c_1, c_10, c_27, c_38]) (rfl) hH hS dX8_order_46
        · have c_38 := lc_leF c_38
          refine lv_iconst (v := 1) hx hb dX8_order_41 (by decide) ?_
          refine lv_goto (tgt := 46) hx hb dX8_order_42 (by decide) ?_
          exact cm_ri hC hr hlk (by simp [ordW, c_1, c_10, c_27, c_38]) (rfl) hH hS dX8_order_46
      · have c_27 := lc_geF c_27
        refine lv_iconst (v := (-1)) hx hb dX8_order_30 (by decide) ?_
        refine lv_goto (tgt := 46) hx hb dX8_order_31 (by decide) ?_
        exact cm_ri hC hr hlk (by simp [ordW, c_1, c_10, c_27]) (rfl) hH hS dX8_order_46
    · have c_10 := nc_eq (a := b) (b := 0) (by omega) (by omega) c_10
      refine lv_iconst (v := 1) hx hb dX8_order_13 (by decide) ?_
      refine lv_goto (tgt := 18) hx hb dX8_order_14 (by decide) ?_
      refine lv_icmp_eq (tgt := 23) hx hb dX8_order_18 (by decide) (fun c_18 => absurd c_18 (by decide)) (fun c_18 => ?_)
      refine lv_iconst (v := 2) hx hb dX8_order_21 (by decide) ?_
      exact cm_ri hC hr hlk (by simp [ordW, c_1, c_10]) (rfl) hH hS dX8_order_22
  · have c_1 := nc_eq (a := a) (b := 0) (by omega) (by omega) c_1
    refine lv_iconst (v := 1) hx hb dX8_order_4 (by decide) ?_
    refine lv_goto (tgt := 9) hx hb dX8_order_5 (by decide) ?_
    refine lv_iload_n hx hb dX8_order_9 rfl (lv_at hl 2 rfl) ?_
    refine lv_if_ne (tgt := 17) hx hb dX8_order_10 (by decide) (fun c_10 => ?_) (fun c_10 => ?_)
    · have c_10 := nc_ne (a := b) (b := 0) (by omega) (by omega) c_10
      refine lv_iconst (v := 0) hx hb dX8_order_17 (by decide) ?_
      refine lv_icmp_eq (tgt := 23) hx hb dX8_order_18 (by decide) (fun c_18 => absurd c_18 (by decide)) (fun c_18 => ?_)
      refine lv_iconst (v := 2) hx hb dX8_order_21 (by decide) ?_
      exact cm_ri hC hr hlk (by simp [ordW, c_1, c_10]) (rfl) hH hS dX8_order_22
    · have c_10 := nc_eq (a := b) (b := 0) (by omega) (by omega) c_10
      refine lv_iconst (v := 1) hx hb dX8_order_13 (by decide) ?_
      refine lv_goto (tgt := 18) hx hb dX8_order_14 (by decide) ?_
      refine lv_icmp_eq (tgt := 23) hx hb dX8_order_18 (by decide) (fun c_18 => ?_) (fun c_18 => absurd c_18 (by decide))
      refine lv_lload_n hx hb dX8_order_23 rfl (lv_at hl 1 rfl) ?_
      refine lv_lload hx hb dX8_order_24 (lv_at hl 3 rfl) ?_
      refine W.lcmp hx hb dX8_order_26 ?_
      refine lv_if_ge (tgt := 34) hx hb dX8_order_27 (by decide) (fun c_27 => ?_) (fun c_27 => ?_)
      · have c_27 := lc_geT c_27
        refine lv_lload_n hx hb dX8_order_34 rfl (lv_at hl 1 rfl) ?_
        refine lv_lload hx hb dX8_order_35 (lv_at hl 3 rfl) ?_
        refine W.lcmp hx hb dX8_order_37 ?_
        refine lv_if_le (tgt := 45) hx hb dX8_order_38 (by decide) (fun c_38 => ?_) (fun c_38 => ?_)
        · have c_38 := lc_leT c_38
          refine lv_iconst (v := 0) hx hb dX8_order_45 (by decide) ?_
          exact cm_ri hC hr hlk (by simp [ordW, c_1, c_10, c_27, c_38]) (rfl) hH hS dX8_order_46
        · have c_38 := lc_leF c_38
          refine lv_iconst (v := 1) hx hb dX8_order_41 (by decide) ?_
          refine lv_goto (tgt := 46) hx hb dX8_order_42 (by decide) ?_
          exact cm_ri hC hr hlk (by simp [ordW, c_1, c_10, c_27, c_38]) (rfl) hH hS dX8_order_46
      · have c_27 := lc_geF c_27
        refine lv_iconst (v := (-1)) hx hb dX8_order_30 (by decide) ?_
        refine lv_goto (tgt := 46) hx hb dX8_order_31 (by decide) ?_
        exact cm_ri hC hr hlk (by simp [ordW, c_1, c_10, c_27]) (rfl) hH hS dX8_order_46
theorem mv_X8_against : mvok RX8 yX8_against cX8_against 10 (some .int) 3 := ⟨qK_X8_against, qI_X8_against, qSel_X8_X8_against, qInit_X8, by decide +kernel⟩
set_option maxHeartbeats 4000000 in
set_option maxRecDepth 100000 in
theorem c_X8_against {l : Launch} {D : va_G} {cy : Nat → ClassId} {ad : Nat → Nat} {P : AS} {wy : Int32} {w : Int64} {r : UInt64} {ns : Nat → Int32} {nw : Nat → Int64} {nr : Nat → UInt64} {fr : Nat → Int32} {tt : Nat → Int32} {a b : Nat} {w2 : Int64} {r2 : UInt64} (ha : a < 12) (hb9 : b < 12) : CM l yX8_against cX8_against 10 (some .int) (rm_ 1 25) D cy 13 ad [.ref (ad 0), .int (nI b), .long (w2), .double (r2)] (mct cy ad P wy (nI a) w r ns nw nr fr tt) (some (.int (agn a w r b w2 r2))) (mct cy ad P wy (nI a) w r ns nw nr fr tt) := by
  refine CM.start (by decide) (Nat.le_of_ble_eq_true rfl) ?_
  intro p_ e_ s m_ below meth cd A ls hC hr hlk hin hK hA hH hl
  obtain ⟨hx, hb, hml, hown, hts⟩ := id hC
  have hS : va_S A s.heap s.heap [] := va_S.rf
  have hl : lv_has ls 10 [(0, .ref (ad 0)), (1, .int (nI b)), (2, .long (w2)), (4, .double (r2))] := hl
  refine lv_aload_n hx hb dX8_against_0 rfl (lv_at hl 0 rfl) ?_
  refine g_get hC hK inG8 hH 0 (by decide) rfl rfl 9 (by decide) qF_X8_66 (Or.inl rfl) rfl dX8_against_1 ?_
  refine lv_if_eq (tgt := 80) hx hb dX8_against_4 (by decide) (fun c_4 => ?_) (fun c_4 => ?_)
  · have c_4 := nc_eq (a := a) (b := 0) (by omega) (by omega) c_4
    refine lv_aload_n hx hb dX8_against_80 rfl (lv_at hl 0 rfl) ?_
    refine g_get hC hK inG8 hH 0 (by decide) rfl rfl 9 (by decide) qF_X8_66 (Or.inl rfl) rfl dX8_against_81 ?_
    refine lv_aload_n hx hb dX8_against_84 rfl (lv_at hl 0 rfl) ?_
    refine g_get hC hK inG8 hH 0 (by decide) rfl rfl 10 (by decide) qF_X8_69 (Or.inl rfl) rfl dX8_against_85 ?_
    refine lv_iload_n hx hb dX8_against_88 rfl (lv_at hl 1 rfl) ?_
    refine lv_lload_n hx hb dX8_against_89 rfl (lv_at hl 2 rfl) ?_
    refine cm_S (As := [.int (nI a), .long (w), .int (nI b), .long (w2)]) (rest := []) hC (c_X8_order (by omega) (by omega)) ms_X8_order qM_X8_87 ⟨⟨rfl, rfl⟩, Nat.le_of_ble_eq_true rfl, Nat.le_of_ble_eq_true rfl⟩ hK hH hS hA hl.1 ⟨Nat.zero_le _, Nat.zero_le _⟩ rfl rfl (Nat.le_of_ble_eq_true rfl) dX8_against_90 (fun H locs hH hS => ?_)
    exact cm_ri hC hr hlk (by unfold agn; rw [if_neg (by omega)]) (rfl) hH hS dX8_against_93
  · have c_4 := nc_ne (a := a) (b := 0) (by omega) (by omega) c_4
    refine lv_iload_n hx hb dX8_against_7 rfl (lv_at hl 1 rfl) ?_
    refine lv_if_eq (tgt := 80) hx hb dX8_against_8 (by decide) (fun c_8 => ?_) (fun c_8 => ?_)
    · have c_8 := nc_eq (a := b) (b := 0) (by omega) (by omega) c_8
      refine lv_aload_n hx hb dX8_against_80 rfl (lv_at hl 0 rfl) ?_
      refine g_get hC hK inG8 hH 0 (by decide) rfl rfl 9 (by decide) qF_X8_66 (Or.inl rfl) rfl dX8_against_81 ?_
      refine lv_aload_n hx hb dX8_against_84 rfl (lv_at hl 0 rfl) ?_
      refine g_get hC hK inG8 hH 0 (by decide) rfl rfl 10 (by decide) qF_X8_69 (Or.inl rfl) rfl dX8_against_85 ?_
      refine lv_iload_n hx hb dX8_against_88 rfl (lv_at hl 1 rfl) ?_
      refine lv_lload_n hx hb dX8_against_89 rfl (lv_at hl 2 rfl) ?_
      refine cm_S (As := [.int (nI a), .long (w), .int (nI b), .long (w2)]) (rest := []) hC (c_X8_order (by omega) (by omega)) ms_X8_order qM_X8_87 ⟨⟨rfl, rfl⟩, Nat.le_of_ble_eq_true rfl, Nat.le_of_ble_eq_true rfl⟩ hK hH hS hA hl.1 ⟨Nat.zero_le _, Nat.zero_le _⟩ rfl rfl (Nat.le_of_ble_eq_true rfl) dX8_against_90 (fun H locs hH hS => ?_)
      exact cm_ri hC hr hlk (by unfold agn; rw [if_neg (by omega)]) (rfl) hH hS dX8_against_93
    · have c_8 := nc_ne (a := b) (b := 0) (by omega) (by omega) c_8
      refine lv_aload_n hx hb dX8_against_11 rfl (lv_at hl 0 rfl) ?_
      refine g_get hC hK inG8 hH 0 (by decide) rfl rfl 9 (by decide) qF_X8_66 (Or.inl rfl) rfl dX8_against_12 ?_
      refine cm_S (As := [.int (nI a)]) (rest := []) hC (c_X8_isFloating (by omega)) ms_X8_isFloating qM_X8_80 ⟨⟨rfl, rfl⟩, Nat.le_of_ble_eq_true rfl, Nat.le_of_ble_eq_true rfl⟩ hK hH hS hA hl.1 ⟨Nat.zero_le _, Nat.zero_le _⟩ rfl rfl (Nat.le_of_ble_eq_true rfl) dX8_against_15 (fun H locs hH hS => ?_)
      refine lv_if_ne (tgt := 28) hx hb dX8_against_18 (by decide) (fun c_18 => ?_) (fun c_18 => ?_)
      · have c_18 := b2d_t c_18
        refine lv_aload_n hx hb dX8_against_28 rfl (lv_at hl 0 rfl) ?_
        refine g_get hC hK inG8 hH 0 (by decide) rfl rfl 9 (by decide) qF_X8_66 (Or.inl rfl) rfl dX8_against_29 ?_
        refine lv_aload_n hx hb dX8_against_32 rfl (lv_at hl 0 rfl) ?_
        refine g_get hC hK inG8 hH 0 (by decide) rfl rfl 10 (by decide) qF_X8_69 (Or.inl rfl) rfl dX8_against_33 ?_
        refine lv_aload_n hx hb dX8_against_36 rfl (lv_at hl 0 rfl) ?_
        refine g_get hC hK inG8 hH 0 (by decide) rfl rfl 11 (by decide) qF_X8_73 (Or.inl rfl) rfl dX8_against_37 ?_
        refine cm_S (As := [.int (nI a), .long (w), .double (r)]) (rest := []) hC (c_X8_doubleOf (by omega)) ms_X8_doubleOf qM_X8_83 ⟨⟨rfl, rfl⟩, Nat.le_of_ble_eq_true rfl, Nat.le_of_ble_eq_true rfl⟩ hK hH hS hA hl.1 ⟨Nat.zero_le _, Nat.zero_le _⟩ rfl rfl (Nat.le_of_ble_eq_true rfl) dX8_against_40 (fun H locs hH hS => ?_)
        refine lv_dstore (lv' := [(6, .double (dbl a w r)), (0, .ref (ad 0)), (1, .int (nI b)), (2, .long (w2)), (4, .double (r2))]) hx hb dX8_against_43 hl (by decide) rfl (fun ls hl => ?_)
        refine lv_iload_n hx hb dX8_against_45 rfl (lv_at hl 2 rfl) ?_
        refine lv_lload_n hx hb dX8_against_46 rfl (lv_at hl 3 rfl) ?_
        refine lv_dload hx hb dX8_against_47 (lv_at hl 4 rfl) ?_
        refine cm_S (As := [.int (nI b), .long (w2), .double (r2)]) (rest := []) hC (c_X8_doubleOf (by omega)) ms_X8_doubleOf qM_X8_83 ⟨⟨rfl, rfl⟩, Nat.le_of_ble_eq_true rfl, Nat.le_of_ble_eq_true rfl⟩ hK hH hS hA hl.1 ⟨Nat.zero_le _, Nat.zero_le _⟩ rfl rfl (Nat.le_of_ble_eq_true rfl) dX8_against_49 (fun H locs hH hS => ?_)
        refine lv_dstore (lv' := [(8, .double (dbl b w2 r2)), (6, .double (dbl a w r)), (0, .ref (ad 0)), (1, .int (nI b)), (2, .long (w2)), (4, .double (r2))]) hx hb dX8_against_52 hl (by decide) rfl (fun ls hl => ?_)
        refine lv_dload hx hb dX8_against_54 (lv_at hl 1 rfl) ?_
        refine lv_dload hx hb dX8_against_56 (lv_at hl 0 rfl) ?_
        refine lv_dcmp hx hb dX8_against_58 ?_
        refine lv_if_ge (tgt := 66) hx hb dX8_against_59 (by decide) (fun c_59 => ?_) (fun c_59 => ?_)
        · refine lv_dload hx hb dX8_against_66 (lv_at hl 1 rfl) ?_
          refine lv_dload hx hb dX8_against_68 (lv_at hl 0 rfl) ?_
          refine lv_dcmp hx hb dX8_against_70 ?_
          refine lv_if_le (tgt := 78) hx hb dX8_against_71 (by decide) (fun c_71 => ?_) (fun c_71 => ?_)
          · refine lv_iconst (v := 0) hx hb dX8_against_78 (by decide) ?_
            exact cm_ri hC hr hlk (by unfold agn; rw [if_pos (by omega)]; simp [cmpD, c_59, c_71]) (rfl) hH hS dX8_against_79
          · refine lv_iconst (v := 1) hx hb dX8_against_74 (by decide) ?_
            refine lv_goto (tgt := 79) hx hb dX8_against_75 (by decide) ?_
            exact cm_ri hC hr hlk (by unfold agn; rw [if_pos (by omega)]; simp [cmpD, c_59, c_71]) (rfl) hH hS dX8_against_79
        · refine lv_iconst (v := (-1)) hx hb dX8_against_62 (by decide) ?_
          refine lv_goto (tgt := 79) hx hb dX8_against_63 (by decide) ?_
          exact cm_ri hC hr hlk (by unfold agn; rw [if_pos (by omega)]; simp [cmpD, c_59]) (rfl) hH hS dX8_against_79
      · have c_18 := b2d_f c_18
        refine lv_iload_n hx hb dX8_against_21 rfl (lv_at hl 1 rfl) ?_
        refine cm_S (As := [.int (nI b)]) (rest := []) hC (c_X8_isFloating (by omega)) ms_X8_isFloating qM_X8_80 ⟨⟨rfl, rfl⟩, Nat.le_of_ble_eq_true rfl, Nat.le_of_ble_eq_true rfl⟩ hK hH hS hA hl.1 ⟨Nat.zero_le _, Nat.zero_le _⟩ rfl rfl (Nat.le_of_ble_eq_true rfl) dX8_against_22 (fun H locs hH hS => ?_)
        refine lv_if_eq (tgt := 80) hx hb dX8_against_25 (by decide) (fun c_25 => ?_) (fun c_25 => ?_)
        · have c_25 := b2d_f c_25
          refine lv_aload_n hx hb dX8_against_80 rfl (lv_at hl 0 rfl) ?_
          refine g_get hC hK inG8 hH 0 (by decide) rfl rfl 9 (by decide) qF_X8_66 (Or.inl rfl) rfl dX8_against_81 ?_
          refine lv_aload_n hx hb dX8_against_84 rfl (lv_at hl 0 rfl) ?_
          refine g_get hC hK inG8 hH 0 (by decide) rfl rfl 10 (by decide) qF_X8_69 (Or.inl rfl) rfl dX8_against_85 ?_
          refine lv_iload_n hx hb dX8_against_88 rfl (lv_at hl 1 rfl) ?_
          refine lv_lload_n hx hb dX8_against_89 rfl (lv_at hl 2 rfl) ?_
          refine cm_S (As := [.int (nI a), .long (w), .int (nI b), .long (w2)]) (rest := []) hC (c_X8_order (by omega) (by omega)) ms_X8_order qM_X8_87 ⟨⟨rfl, rfl⟩, Nat.le_of_ble_eq_true rfl, Nat.le_of_ble_eq_true rfl⟩ hK hH hS hA hl.1 ⟨Nat.zero_le _, Nat.zero_le _⟩ rfl rfl (Nat.le_of_ble_eq_true rfl) dX8_against_90 (fun H locs hH hS => ?_)
          exact cm_ri hC hr hlk (by unfold agn; rw [if_neg (by omega)]) (rfl) hH hS dX8_against_93
        · have c_25 := b2d_t c_25
          refine lv_aload_n hx hb dX8_against_28 rfl (lv_at hl 0 rfl) ?_
          refine g_get hC hK inG8 hH 0 (by decide) rfl rfl 9 (by decide) qF_X8_66 (Or.inl rfl) rfl dX8_against_29 ?_
          refine lv_aload_n hx hb dX8_against_32 rfl (lv_at hl 0 rfl) ?_
          refine g_get hC hK inG8 hH 0 (by decide) rfl rfl 10 (by decide) qF_X8_69 (Or.inl rfl) rfl dX8_against_33 ?_
          refine lv_aload_n hx hb dX8_against_36 rfl (lv_at hl 0 rfl) ?_
          refine g_get hC hK inG8 hH 0 (by decide) rfl rfl 11 (by decide) qF_X8_73 (Or.inl rfl) rfl dX8_against_37 ?_
          refine cm_S (As := [.int (nI a), .long (w), .double (r)]) (rest := []) hC (c_X8_doubleOf (by omega)) ms_X8_doubleOf qM_X8_83 ⟨⟨rfl, rfl⟩, Nat.le_of_ble_eq_true rfl, Nat.le_of_ble_eq_true rfl⟩ hK hH hS hA hl.1 ⟨Nat.zero_le _, Nat.zero_le _⟩ rfl rfl (Nat.le_of_ble_eq_true rfl) dX8_against_40 (fun H locs hH hS => ?_)
          refine lv_dstore (lv' := [(6, .double (dbl a w r)), (0, .ref (ad 0)), (1, .int (nI b)), (2, .long (w2)), (4, .double (r2))]) hx hb dX8_against_43 hl (by decide) rfl (fun ls hl => ?_)
          refine lv_iload_n hx hb dX8_against_45 rfl (lv_at hl 2 rfl) ?_
          refine lv_lload_n hx hb dX8_against_46 rfl (lv_at hl 3 rfl) ?_
          refine lv_dload hx hb dX8_against_47 (lv_at hl 4 rfl) ?_
          refine cm_S (As := [.int (nI b), .long (w2), .double (r2)]) (rest := []) hC (c_X8_doubleOf (by omega)) ms_X8_doubleOf qM_X8_83 ⟨⟨rfl, rfl⟩, Nat.le_of_ble_eq_true rfl, Nat.le_of_ble_eq_true rfl⟩ hK hH hS hA hl.1 ⟨Nat.zero_le _, Nat.zero_le _⟩ rfl rfl (Nat.le_of_ble_eq_true rfl) dX8_against_49 (fun H locs hH hS => ?_)
          refine lv_dstore (lv' := [(8, .double (dbl b w2 r2)), (6, .double (dbl a w r)), (0, .ref (ad 0)), (1, .int (nI b)), (2, .long (w2)), (4, .double (r2))]) hx hb dX8_against_52 hl (by decide) rfl (fun ls hl => ?_)
          refine lv_dload hx hb dX8_against_54 (lv_at hl 1 rfl) ?_
          refine lv_dload hx hb dX8_against_56 (lv_at hl 0 rfl) ?_
          refine lv_dcmp hx hb dX8_against_58 ?_
          refine lv_if_ge (tgt := 66) hx hb dX8_against_59 (by decide) (fun c_59 => ?_) (fun c_59 => ?_)
          · refine lv_dload hx hb dX8_against_66 (lv_at hl 1 rfl) ?_
            refine lv_dload hx hb dX8_against_68 (lv_at hl 0 rfl) ?_
            refine lv_dcmp hx hb dX8_against_70 ?_
            refine lv_if_le (tgt := 78) hx hb dX8_against_71 (by decide) (fun c_71 => ?_) (fun c_71 => ?_)
            · refine lv_iconst (v := 0) hx hb dX8_against_78 (by decide) ?_
              exact cm_ri hC hr hlk (by unfold agn; rw [if_pos (by omega)]; simp [cmpD, c_59, c_71]) (rfl) hH hS dX8_against_79
            · refine lv_iconst (v := 1) hx hb dX8_against_74 (by decide) ?_
              refine lv_goto (tgt := 79) hx hb dX8_against_75 (by decide) ?_
              exact cm_ri hC hr hlk (by unfold agn; rw [if_pos (by omega)]; simp [cmpD, c_59, c_71]) (rfl) hH hS dX8_against_79
          · refine lv_iconst (v := (-1)) hx hb dX8_against_62 (by decide) ?_
            refine lv_goto (tgt := 79) hx hb dX8_against_63 (by decide) ?_
            exact cm_ri hC hr hlk (by unfold agn; rw [if_pos (by omega)]; simp [cmpD, c_59]) (rfl) hH hS dX8_against_79
theorem mv_X8_fits : mvok RX8 yX8_fits cX8_fits 5 (some .boolean) 2 := ⟨qK_X8_fits, qI_X8_fits, qSel_X8_X8_fits, qInit_X8, by decide +kernel⟩
set_option maxHeartbeats 4000000 in
set_option maxRecDepth 100000 in
theorem c_X8_fits {l : Launch} {D : va_G} {cy : Nat → ClassId} {ad : Nat → Nat} {P : AS} {wy : Int32} {so : Int32} {w : Int64} {r : UInt64} {ns : Nat → Int32} {nw : Nat → Int64} {nr : Nat → UInt64} {fr : Nat → Int32} {tt : Nat → Int32} {u q : Nat} (hu : u < 513) (hq : q ≤ 513) (hw : WF P) (h8u : 8 ≤ P.kd u) (h12 : P.kd u < 12) : CM l yX8_fits cX8_fits 5 (some .boolean) (rm_ 0 0) D cy 13 ad [.ref (ad 0), .int (nI u), .long (lN q)] (mct cy ad P wy so w r ns nw nr fr tt) (some (.int (b2i (fitP P u q)))) (mct cy ad P wy so w r ns nw nr fr tt) := by
  refine CM.start (by decide) (Nat.le_of_ble_eq_true rfl) ?_
  intro p_ e_ s m_ below meth cd A ls hC hr hlk hin hK hA hH hl
  obtain ⟨hx, hb, hml, hown, hts⟩ := id hC
  have hS : va_S A s.heap s.heap [] := va_S.rf
  have hl : lv_has ls 5 [(0, .ref (ad 0)), (1, .int (nI u)), (2, .long (lN q))] := hl
  rcases co_cases q with rfl | ⟨x, rfl⟩
  · refine lv_lload_n hx hb dX8_fits_0 rfl (lv_at hl 2 rfl) ?_
    refine lv_lconst (v := 0) hx hb dX8_fits_1 (by decide) ?_
    refine W.lcmp hx hb dX8_fits_2 ?_
    refine lv_if_ne (tgt := 8) hx hb dX8_fits_3 (by decide) (fun c_3 => absurd c_3 (by decide)) (fun c_3 => ?_)
    refine lv_iconst (v := 1) hx hb dX8_fits_6 (by decide) ?_
    exact cm_rz hC hr hlk (by first | exact Or.inl rfl | exact Or.inr rfl | exact b2i_01 _) (rfl) (rfl) hH hS dX8_fits_7
  · refine lv_lload_n hx hb dX8_fits_0 rfl (lv_at hl 2 rfl) ?_
    refine lv_lconst (v := 0) hx hb dX8_fits_1 (by decide) ?_
    refine W.lcmp hx hb dX8_fits_2 ?_
    refine lv_if_ne (tgt := 8) hx hb dX8_fits_3 (by decide) (fun c_3 => ?_) (fun c_3 => absurd (lc_eqT c_3) (fun h => absurd ((lN_z (by omega)).mp h) (by omega)))
    refine lv_aload_n hx hb dX8_fits_8 rfl (lv_at hl 0 rfl) ?_
    refine g_get hC hK inG8 hH 0 (by decide) rfl rfl 1 (by decide) qF_X8_13 (Or.inl rfl) rfl dX8_fits_9 ?_
    refine lv_lload_n hx hb dX8_fits_12 rfl (lv_at hl 2 rfl) ?_
    refine lv_l2i hx hb dX8_fits_13 rfl ?_
    refine lv_iconst (v := 1) hx hb dX8_fits_14 (by decide) ?_
    refine lv_isub hx hb dX8_fits_15 ?_
    have hkx := hw.1 x
    refine lv_chg (y := nI x) (by rw [lN_i, nI_pred]) ?_
    refine gN_iald hC hK hH 2 (by decide) rfl x (by omega) dX8_fits_16 ?_
    refine lv_istore (lv' := [(4, .int (nI (P.kd x))), (0, .ref (ad 0)), (1, .int (nI u)), (2, .long (lN (x + 1)))]) hx hb dX8_fits_17 hl (by decide) rfl (fun ls hl => ?_)
    refine lv_aload_n hx hb dX8_fits_19 rfl (lv_at hl 1 rfl) ?_
    refine g_get hC hK inG8 hH 0 (by decide) rfl rfl 1 (by decide) qF_X8_13 (Or.inl rfl) rfl dX8_fits_20 ?_
    refine lv_iload_n hx hb dX8_fits_23 rfl (lv_at hl 2 rfl) ?_
    refine gN_iald hC hK hH 2 (by decide) rfl u (by omega) dX8_fits_24 ?_
    rcases (by omega : P.kd u = 8 ∨ P.kd u = 9 ∨ P.kd u = 10 ∨ P.kd u = 11) with h8 | h8 | h8 | h8
    · refine lv_chg (y := nI 8) (by rw [h8]) ?_
      refine lv_tableIn (off := 27) (tgt := 52) hx hb dX8_fits_25 (by decide) (by decide) (by decide) (by decide) ?_
      refine lv_iload hx hb dX8_fits_52 (lv_at hl 0 rfl) ?_
      refine lv_bipush (v := 12) hx hb dX8_fits_54 (by decide) ?_
      refine lv_icmp_lt (tgt := 63) hx hb dX8_fits_56 (by decide) (fun c_56 => ?_) (fun c_56 => ?_)
      · have c_56 := nc_lt (a := (P.kd x)) (b := 12) (by omega) (by omega) c_56
        refine lv_iconst (v := 0) hx hb dX8_fits_63 (by decide) ?_
        exact cm_rz hC hr hlk (by first | exact Or.inl rfl | exact Or.inr rfl | exact b2i_01 _) (by rw [fitP_s, fitK_r8 h8]; first | exact b2d_1 (by omega) | exact b2d_0 (by omega)) (rfl) hH hS dX8_fits_64
      · have c_56 := nc_nlt (a := (P.kd x)) (b := 12) (by omega) (by omega) c_56
        refine lv_iconst (v := 1) hx hb dX8_fits_59 (by decide) ?_
        refine lv_goto (tgt := 64) hx hb dX8_fits_60 (by decide) ?_
        exact cm_rz hC hr hlk (by first | exact Or.inl rfl | exact Or.inr rfl | exact b2i_01 _) (by rw [fitP_s, fitK_r8 h8]; first | exact b2d_1 (by omega) | exact b2d_0 (by omega)) (rfl) hH hS dX8_fits_64
    · refine lv_chg (y := nI 9) (by rw [h8]) ?_
      refine lv_tableIn (off := 40) (tgt := 65) hx hb dX8_fits_25 (by decide) (by decide) (by decide) (by decide) ?_
      refine lv_iload hx hb dX8_fits_65 (lv_at hl 0 rfl) ?_
      refine lv_bipush (v := 14) hx hb dX8_fits_67 (by decide) ?_
      refine lv_icmp_ne (tgt := 76) hx hb dX8_fits_69 (by decide) (fun c_69 => ?_) (fun c_69 => ?_)
      · have c_69 := nc_ne (a := (P.kd x)) (b := 14) (by omega) (by omega) c_69
        refine lv_iconst (v := 0) hx hb dX8_fits_76 (by decide) ?_
        exact cm_rz hC hr hlk (by first | exact Or.inl rfl | exact Or.inr rfl | exact b2i_01 _) (by rw [fitP_s, fitK_r9 h8]; first | exact b2d_1 (by omega) | exact b2d_0 (by omega)) (rfl) hH hS dX8_fits_77
      · have c_69 := nc_eq (a := (P.kd x)) (b := 14) (by omega) (by omega) c_69
        refine lv_iconst (v := 1) hx hb dX8_fits_72 (by decide) ?_
        refine lv_goto (tgt := 77) hx hb dX8_fits_73 (by decide) ?_
        exact cm_rz hC hr hlk (by first | exact Or.inl rfl | exact Or.inr rfl | exact b2i_01 _) (by rw [fitP_s, fitK_r9 h8]; first | exact b2d_1 (by omega) | exact b2d_0 (by omega)) (rfl) hH hS dX8_fits_77
    · refine lv_chg (y := nI 10) (by rw [h8]) ?_
      refine lv_tableIn (off := 53) (tgt := 78) hx hb dX8_fits_25 (by decide) (by decide) (by decide) (by decide) ?_
      refine lv_iload hx hb dX8_fits_78 (lv_at hl 0 rfl) ?_
      refine lv_iconst (v := 4) hx hb dX8_fits_80 (by decide) ?_
      refine lv_icmp_ne (tgt := 88) hx hb dX8_fits_81 (by decide) (fun c_81 => ?_) (fun c_81 => ?_)
      · have c_81 := nc_ne (a := (P.kd x)) (b := 4) (by omega) (by omega) c_81
        refine lv_iconst (v := 0) hx hb dX8_fits_88 (by decide) ?_
        exact cm_rz hC hr hlk (by first | exact Or.inl rfl | exact Or.inr rfl | exact b2i_01 _) (by rw [fitP_s, fitK_r10 h8]; first | exact b2d_1 (by omega) | exact b2d_0 (by omega)) (rfl) hH hS dX8_fits_89
      · have c_81 := nc_eq (a := (P.kd x)) (b := 4) (by omega) (by omega) c_81
        refine lv_iconst (v := 1) hx hb dX8_fits_84 (by decide) ?_
        refine lv_goto (tgt := 89) hx hb dX8_fits_85 (by decide) ?_
        exact cm_rz hC hr hlk (by first | exact Or.inl rfl | exact Or.inr rfl | exact b2i_01 _) (by rw [fitP_s, fitK_r10 h8]; first | exact b2d_1 (by omega) | exact b2d_0 (by omega)) (rfl) hH hS dX8_fits_89
    · refine lv_chg (y := nI 11) (by rw [h8]) ?_
      refine lv_tableOut (tgt := 90) hx hb dX8_fits_25 (by decide) (by decide) ?_
      refine lv_iload hx hb dX8_fits_90 (lv_at hl 0 rfl) ?_
      refine lv_bipush (v := 8) hx hb dX8_fits_92 (by decide) ?_
      refine lv_icmp_eq (tgt := 104) hx hb dX8_fits_94 (by decide) (fun c_94 => ?_) (fun c_94 => ?_)
      · have c_94 := nc_eq (a := (P.kd x)) (b := 8) (by omega) (by omega) c_94
        refine lv_iconst (v := 1) hx hb dX8_fits_104 (by decide) ?_
        refine lv_goto (tgt := 109) hx hb dX8_fits_105 (by decide) ?_
        exact cm_rz hC hr hlk (by first | exact Or.inl rfl | exact Or.inr rfl | exact b2i_01 _) (by rw [fitP_s, fitK_r11 h8]; first | exact b2d_1 (by omega) | exact b2d_0 (by omega)) (rfl) hH hS dX8_fits_109
      · have c_94 := nc_ne (a := (P.kd x)) (b := 8) (by omega) (by omega) c_94
        refine lv_iload hx hb dX8_fits_97 (lv_at hl 0 rfl) ?_
        refine lv_bipush (v := 9) hx hb dX8_fits_99 (by decide) ?_
        refine lv_icmp_ne (tgt := 108) hx hb dX8_fits_101 (by decide) (fun c_101 => ?_) (fun c_101 => ?_)
        · have c_101 := nc_ne (a := (P.kd x)) (b := 9) (by omega) (by omega) c_101
          refine lv_iconst (v := 0) hx hb dX8_fits_108 (by decide) ?_
          exact cm_rz hC hr hlk (by first | exact Or.inl rfl | exact Or.inr rfl | exact b2i_01 _) (by rw [fitP_s, fitK_r11 h8]; first | exact b2d_1 (by omega) | exact b2d_0 (by omega)) (rfl) hH hS dX8_fits_109
        · have c_101 := nc_eq (a := (P.kd x)) (b := 9) (by omega) (by omega) c_101
          refine lv_iconst (v := 1) hx hb dX8_fits_104 (by decide) ?_
          refine lv_goto (tgt := 109) hx hb dX8_fits_105 (by decide) ?_
          exact cm_rz hC hr hlk (by first | exact Or.inl rfl | exact Or.inr rfl | exact b2i_01 _) (by rw [fitP_s, fitK_r11 h8]; first | exact b2d_1 (by omega) | exact b2d_0 (by omega)) (rfl) hH hS dX8_fits_109
theorem mv_X8_goesIn : mvok RX8 yX8_goesIn cX8_goesIn 3 (some .boolean) 1 := ⟨qK_X8_goesIn, qI_X8_goesIn, qSel_X8_X8_goesIn, qInit_X8, by decide +kernel⟩
set_option maxHeartbeats 4000000 in
set_option maxRecDepth 100000 in
theorem c_X8_goesIn {l : Launch} {D : va_G} {cy : Nat → ClassId} {ad : Nat → Nat} {P : AS} {wy : Int32} {w : Int64} {r : UInt64} {ns : Nat → Int32} {nw : Nat → Int64} {nr : Nat → UInt64} {fr : Nat → Int32} {tt : Nat → Int32} {a u : Nat} (ha : a < 12) (hu : u < 513) (hw : WF P) (hth : TH P a w) (h12 : P.kd u < 12) : CM l yX8_goesIn cX8_goesIn 3 (some .boolean) (rm_ 1 24) D cy 13 ad [.ref (ad 0), .int (nI u)] (mct cy ad P wy (nI a) w r ns nw nr fr tt) (some (.int (b2i (goesI P a w u)))) (mct cy ad P wy (nI a) w r ns nw nr fr tt) := by
  refine CM.start (by decide) (Nat.le_of_ble_eq_true rfl) ?_
  intro p_ e_ s m_ below meth cd A ls hC hr hlk hin hK hA hH hl
  obtain ⟨hx, hb, hml, hown, hts⟩ := id hC
  have hS : va_S A s.heap s.heap [] := va_S.rf
  have hl : lv_has ls 3 [(0, .ref (ad 0)), (1, .int (nI u))] := hl
  refine lv_aload_n hx hb dX8_goesIn_0 rfl (lv_at hl 0 rfl) ?_
  refine g_get hC hK inG8 hH 0 (by decide) rfl rfl 9 (by decide) qF_X8_66 (Or.inl rfl) rfl dX8_goesIn_1 ?_
  refine lv_bipush (v := 8) hx hb dX8_goesIn_4 (by decide) ?_
  refine lv_icmp_ge (tgt := 13) hx hb dX8_goesIn_6 (by decide) (fun c_6 => ?_) (fun c_6 => ?_)
  · have c_6 := nc_le (a := 8) (b := a) (by omega) (by omega) c_6
    refine lv_iconst (v := 0) hx hb dX8_goesIn_13 (by decide) ?_
    refine lv_istore_n (lv' := [(2, .int (0)), (0, .ref (ad 0)), (1, .int (nI u))]) hx hb dX8_goesIn_14 rfl hl (by decide) rfl (fun ls hl => ?_)
    refine lv_iload_n hx hb dX8_goesIn_15 rfl (lv_at hl 0 rfl) ?_
    refine lv_aload_n hx hb dX8_goesIn_16 rfl (lv_at hl 1 rfl) ?_
    refine lv_iload_n hx hb dX8_goesIn_17 rfl (lv_at hl 2 rfl) ?_
    refine cm_V (As' := [.int (nI u)]) (rest := [.int (0)]) hC (c_X8_isPlain (by omega) hw) mv_X8_isPlain qM_X8_91 ⟨⟨rfl, rfl⟩, Nat.le_of_ble_eq_true rfl, Nat.le_of_ble_eq_true rfl⟩ hK hH hS hA (hp.recv hK hH (i := 0) (by decide) rfl rfl) hl.1 ⟨Nat.zero_le _, Nat.zero_le _⟩ rfl rfl (Nat.le_of_ble_eq_true rfl) dX8_goesIn_18 (fun H locs hH hS => ?_)
    rcases Decidable.em (P.kd u < 8) with h8 | h8
    · refine lv_chg (y := 1) (b2d_1 h8).symm ?_
      refine lv_icmp_eq (tgt := 26) hx hb dX8_goesIn_21 (by decide) (fun c_21 => absurd c_21 (by decide)) (fun c_21 => ?_)
      refine lv_iconst (v := 0) hx hb dX8_goesIn_24 (by decide) ?_
      exact cm_rz hC hr hlk (by first | exact Or.inl rfl | exact Or.inr rfl | exact b2i_01 _) (by rw [goesI_ne (by omega)]; rfl) (rfl) hH hS dX8_goesIn_25
    · refine lv_chg (y := 0) (b2d_0 h8).symm ?_
      refine lv_icmp_eq (tgt := 26) hx hb dX8_goesIn_21 (by decide) (fun c_21 => ?_) (fun c_21 => absurd c_21 (by decide))
      refine lv_iload_n hx hb dX8_goesIn_26 rfl (lv_at hl 0 rfl) ?_
      refine lv_if_eq (tgt := 47) hx hb dX8_goesIn_27 (by decide) (fun c_27 => ?_) (fun c_27 => absurd c_27 (by decide))
      obtain ⟨q, rfl, hq⟩ := hth (by omega)
      have hn513 := hw.2.2.1
      refine lv_aload_n hx hb dX8_goesIn_47 rfl (lv_at hl 1 rfl) ?_
      refine lv_iload_n hx hb dX8_goesIn_48 rfl (lv_at hl 2 rfl) ?_
      refine lv_aload_n hx hb dX8_goesIn_49 rfl (lv_at hl 1 rfl) ?_
      refine g_get hC hK inG8 hH 0 (by decide) rfl rfl 10 (by decide) qF_X8_69 (Or.inl rfl) rfl dX8_goesIn_50 ?_
      refine cm_V (As' := [.int (nI u), .long (lN q)]) (rest := []) hC (c_X8_fits (by omega) (by omega) hw (by omega) (by omega)) mv_X8_fits qM_X8_98 ⟨⟨rfl, rfl⟩, Nat.le_of_ble_eq_true rfl, Nat.le_of_ble_eq_true rfl⟩ hK hH hS hA (hp.recv hK hH (i := 0) (by decide) rfl rfl) hl.1 ⟨Nat.zero_le _, Nat.zero_le _⟩ rfl rfl (Nat.le_of_ble_eq_true rfl) dX8_goesIn_53 (fun H locs hH hS => ?_)
      exact cm_rz hC hr hlk (by first | exact Or.inl rfl | exact Or.inr rfl | exact b2i_01 _) (by rw [goesI_t (by omega) (by omega) (by omega)]) (rfl) hH hS dX8_goesIn_56
  · have c_6 := nc_nle (a := 8) (b := a) (by omega) (by omega) c_6
    refine lv_iconst (v := 1) hx hb dX8_goesIn_9 (by decide) ?_
    refine lv_goto (tgt := 14) hx hb dX8_goesIn_10 (by decide) ?_
    refine lv_istore_n (lv' := [(2, .int (1)), (0, .ref (ad 0)), (1, .int (nI u))]) hx hb dX8_goesIn_14 rfl hl (by decide) rfl (fun ls hl => ?_)
    refine lv_iload_n hx hb dX8_goesIn_15 rfl (lv_at hl 0 rfl) ?_
    refine lv_aload_n hx hb dX8_goesIn_16 rfl (lv_at hl 1 rfl) ?_
    refine lv_iload_n hx hb dX8_goesIn_17 rfl (lv_at hl 2 rfl) ?_
    refine cm_V (As' := [.int (nI u)]) (rest := [.int (1)]) hC (c_X8_isPlain (by omega) hw) mv_X8_isPlain qM_X8_91 ⟨⟨rfl, rfl⟩, Nat.le_of_ble_eq_true rfl, Nat.le_of_ble_eq_true rfl⟩ hK hH hS hA (hp.recv hK hH (i := 0) (by decide) rfl rfl) hl.1 ⟨Nat.zero_le _, Nat.zero_le _⟩ rfl rfl (Nat.le_of_ble_eq_true rfl) dX8_goesIn_18 (fun H locs hH hS => ?_)
    rcases Decidable.em (P.kd u < 8) with h8 | h8
    · refine lv_chg (y := 1) (b2d_1 h8).symm ?_
      refine lv_icmp_eq (tgt := 26) hx hb dX8_goesIn_21 (by decide) (fun c_21 => ?_) (fun c_21 => absurd c_21 (by decide))
      refine lv_iload_n hx hb dX8_goesIn_26 rfl (lv_at hl 0 rfl) ?_
      refine lv_if_eq (tgt := 47) hx hb dX8_goesIn_27 (by decide) (fun c_27 => absurd c_27 (by decide)) (fun c_27 => ?_)
      refine lv_aload_n hx hb dX8_goesIn_30 rfl (lv_at hl 1 rfl) ?_
      refine lv_aload_n hx hb dX8_goesIn_31 rfl (lv_at hl 1 rfl) ?_
      refine g_get hC hK inG8 hH 0 (by decide) rfl rfl 9 (by decide) qF_X8_66 (Or.inl rfl) rfl dX8_goesIn_32 ?_
      refine lv_aload_n hx hb dX8_goesIn_35 rfl (lv_at hl 1 rfl) ?_
      refine g_get hC hK inG8 hH 0 (by decide) rfl rfl 1 (by decide) qF_X8_13 (Or.inl rfl) rfl dX8_goesIn_36 ?_
      refine lv_iload_n hx hb dX8_goesIn_39 rfl (lv_at hl 2 rfl) ?_
      refine gN_iald hC hK hH 2 (by decide) rfl u (by omega) dX8_goesIn_40 ?_
      refine cm_V (As' := [.int (nI a), .int (nI (P.kd u))]) (rest := []) hC (c_X8_goesInto (a := a) (b := (P.kd u)) (by omega) (by omega)) mv_X8_goesInto qM_X8_94 ⟨⟨rfl, rfl⟩, Nat.le_of_ble_eq_true rfl, Nat.le_of_ble_eq_true rfl⟩ hK hH hS hA (hp.recv hK hH (i := 0) (by decide) rfl rfl) hl.1 ⟨Nat.zero_le _, Nat.zero_le _⟩ rfl rfl (Nat.le_of_ble_eq_true rfl) dX8_goesIn_41 (fun H locs hH hS => ?_)
      refine lv_goto (tgt := 56) hx hb dX8_goesIn_44 (by decide) ?_
      exact cm_rz hC hr hlk (by first | exact Or.inl rfl | exact Or.inr rfl | exact b2i_01 _) (by rw [goesI_v (by omega) (by omega)]) (rfl) hH hS dX8_goesIn_56
    · refine lv_chg (y := 0) (b2d_0 h8).symm ?_
      refine lv_icmp_eq (tgt := 26) hx hb dX8_goesIn_21 (by decide) (fun c_21 => absurd c_21 (by decide)) (fun c_21 => ?_)
      refine lv_iconst (v := 0) hx hb dX8_goesIn_24 (by decide) ?_
      exact cm_rz hC hr hlk (by first | exact Or.inl rfl | exact Or.inr rfl | exact b2i_01 _) (by rw [goesI_ne (by omega)]; rfl) (rfl) hH hS dX8_goesIn_25
