theorem mv_X1_holdWhole : mvok RX1 yX1_holdWhole cX1_holdWhole 4 none 2 := ⟨qK_X1_holdWhole, qI_X1_holdWhole, qSel_X1_X1_holdWhole, qInit_X1, by decide +kernel⟩
set_option maxHeartbeats 4000000 in
set_option maxRecDepth 100000 in
theorem c_X1_holdWhole {l : Launch} {D : va_G} {cy : Nat → ClassId} {ad : Nat → Nat} {P : AS} {wy : Int32} {cl : Nat → CE} {st : Nat → Nat} {tg : Nat → Int32} {j : Nat} {s1 : Int32} {v1 : Int64} (hj : j < 26) : CM l yX1_holdWhole cX1_holdWhole 4 none (rm_ 0 0) D cy (30 + 2 * P.n) ad [.ref (ad (4 + j)), .int (s1), .long (v1)] (hct cy ad P wy cl st tg) none (hct cy ad P wy (va_up cl j (s1, v1, (cl j).2.2)) st tg) := by
  refine CM.start (by decide) (Nat.le_of_ble_eq_true rfl) ?_
  intro p_ e_ s m_ below meth cd A ls hC hr hlk hin hK hA hH hl
  obtain ⟨hx, hb, hml, hown, hts⟩ := id hC
  have hS : va_S A s.heap s.heap [] := va_S.rf
  have hl : lv_has ls 4 [(0, .ref (ad (4 + j))), (1, .int (s1)), (2, .long (v1))] := hl
  refine lv_aload_n hx hb dX1_holdWhole_0 rfl (lv_at hl 0 rfl) ?_
  refine lv_iload_n hx hb dX1_holdWhole_1 rfl (lv_at hl 1 rfl) ?_
  refine hr_cp hC hK hH hS j (by omega) 0 (by decide) (s1, (cl j).2) qF_X1_9 rfl rfl rfl rfl rfl dX1_holdWhole_2 (fun H locs hH hS => ?_)
  refine lv_aload_n hx hb dX1_holdWhole_5 rfl (lv_at hl 0 rfl) ?_
  refine lv_lload_n hx hb dX1_holdWhole_6 rfl (lv_at hl 2 rfl) ?_
  refine hr_cp hC hK hH hS j (by omega) 1 (by decide) (((va_up cl j (s1, (cl j).2)) j).1, v1, ((va_up cl j (s1, (cl j).2)) j).2.2) qF_X1_15 rfl rfl rfl rfl rfl dX1_holdWhole_7 (fun H locs hH hS => ?_)
  exact cm_rv hC hr hlk (by rw [bx_uu, va_up_self]) hH hS dX1_holdWhole_10
theorem mv_X1_holdPoint : mvok RX1 yX1_holdPoint cX1_holdPoint 4 none 2 := ⟨qK_X1_holdPoint, qI_X1_holdPoint, qSel_X1_X1_holdPoint, qInit_X1, by decide +kernel⟩
set_option maxHeartbeats 4000000 in
set_option maxRecDepth 100000 in
theorem c_X1_holdPoint {l : Launch} {D : va_G} {cy : Nat → ClassId} {ad : Nat → Nat} {P : AS} {wy : Int32} {cl : Nat → CE} {st : Nat → Nat} {tg : Nat → Int32} {j : Nat} {s1 : Int32} {v1 : UInt64} (hj : j < 26) : CM l yX1_holdPoint cX1_holdPoint 4 none (rm_ 0 0) D cy (30 + 2 * P.n) ad [.ref (ad (4 + j)), .int (s1), .double (v1)] (hct cy ad P wy cl st tg) none (hct cy ad P wy (va_up cl j (s1, (cl j).2.1, v1, (cl j).2.2.2)) st tg) := by
  refine CM.start (by decide) (Nat.le_of_ble_eq_true rfl) ?_
  intro p_ e_ s m_ below meth cd A ls hC hr hlk hin hK hA hH hl
  obtain ⟨hx, hb, hml, hown, hts⟩ := id hC
  have hS : va_S A s.heap s.heap [] := va_S.rf
  have hl : lv_has ls 4 [(0, .ref (ad (4 + j))), (1, .int (s1)), (2, .double (v1))] := hl
  refine lv_aload_n hx hb dX1_holdPoint_0 rfl (lv_at hl 0 rfl) ?_
  refine lv_iload_n hx hb dX1_holdPoint_1 rfl (lv_at hl 1 rfl) ?_
  refine hr_cp hC hK hH hS j (by omega) 0 (by decide) (s1, (cl j).2) qF_X1_9 rfl rfl rfl rfl rfl dX1_holdPoint_2 (fun H locs hH hS => ?_)
  refine lv_aload_n hx hb dX1_holdPoint_5 rfl (lv_at hl 0 rfl) ?_
  refine lv_dload_n hx hb dX1_holdPoint_6 rfl (lv_at hl 2 rfl) ?_
  refine hr_cp hC hK hH hS j (by omega) 2 (by decide) (((va_up cl j (s1, (cl j).2)) j).1, ((va_up cl j (s1, (cl j).2)) j).2.1, v1, ((va_up cl j (s1, (cl j).2)) j).2.2.2) qF_X1_19 rfl rfl rfl rfl rfl dX1_holdPoint_7 (fun H locs hH hS => ?_)
  exact cm_rv hC hr hlk (by rw [bx_uu, va_up_self]) hH hS dX1_holdPoint_10
theorem mv_X1_holdThing : mvok RX1 yX1_holdThing cX1_holdThing 2 none 1 := ⟨qK_X1_holdThing, qI_X1_holdThing, qSel_X1_X1_holdThing, qInit_X1, by decide +kernel⟩
set_option maxHeartbeats 4000000 in
set_option maxRecDepth 100000 in
theorem c_X1_holdThing {l : Launch} {D : va_G} {cy : Nat → ClassId} {ad : Nat → Nat} {P : AS} {wy : Int32} {cl : Nat → CE} {st : Nat → Nat} {tg : Nat → Int32} {j q : Nat} (hj : j < 26) : CM l yX1_holdThing cX1_holdThing 2 none (rm_ 0 0) D cy (30 + 2 * P.n) ad [.ref (ad (4 + j)), va_rf (rfO ad q)] (hct cy ad P wy cl st tg) none (hct cy ad P wy (va_up cl j (-1, (cl j).2.1, (cl j).2.2.1, q)) st tg) := by
  refine CM.start (by decide) (by cases rfO ad q <;> exact Nat.le_of_ble_eq_true rfl) ?_
  intro p_ e_ s m_ below meth cd A ls hC hr hlk hin hK hA hH hl
  obtain ⟨hx, hb, hml, hown, hts⟩ := id hC
  have hS : va_S A s.heap s.heap [] := va_S.rf
  have hl : lv_has ls 2 [(0, .ref (ad (4 + j))), (1, va_rf (rfO ad q))] := hl
  refine lv_aload_n hx hb dX1_holdThing_0 rfl (lv_at hl 0 rfl) ?_
  refine lv_iconst (v := (-1)) hx hb dX1_holdThing_1 (by decide) ?_
  refine hr_cp hC hK hH hS j (by omega) 0 (by decide) ((-1), (cl j).2) qF_X1_9 rfl rfl rfl rfl rfl dX1_holdThing_2 (fun H locs hH hS => ?_)
  refine lv_aload_n hx hb dX1_holdThing_5 rfl (lv_at hl 0 rfl) ?_
  refine lx_aload_n hx hb dX1_holdThing_6 rfl (lv_at hl 1 rfl) ?_
  refine hr_cp hC hK hH hS j (by omega) 3 (by decide) (((va_up cl j ((-1), (cl j).2)) j).1, ((va_up cl j ((-1), (cl j).2)) j).2.1, ((va_up cl j ((-1), (cl j).2)) j).2.2.1, q) qF_X1_23 rfl rfl (va_rf_narrow _ _).1 (va_rf_narrow _ _).2 rfl dX1_holdThing_7 (fun H locs hH hS => ?_)
  exact cm_rv hC hr hlk (by rw [bx_uu, va_up_self]) hH hS dX1_holdThing_10
theorem mv_X1_holdTold : mvok RX1 yX1_holdTold cX1_holdTold 6 none 3 := ⟨qK_X1_holdTold, qI_X1_holdTold, qSel_X1_X1_holdTold, qInit_X1, by decide +kernel⟩
set_option maxHeartbeats 4000000 in
set_option maxRecDepth 100000 in
theorem c_X1_holdTold {l : Launch} {D : va_G} {cy : Nat → ClassId} {ad : Nat → Nat} {P : AS} {wy : Int32} {cl : Nat → CE} {st : Nat → Nat} {tg : Nat → Int32} {j k : Nat} {a b : Int32} (hj : j < 26) (hk : k ≤ 7) : CM l yX1_holdTold cX1_holdTold 6 none (rm_ 1 23) D cy (30 + 2 * P.n) ad [.ref (ad (4 + j)), .int (nI k), .int (a), .int (b)] (hct cy ad P wy cl st tg) none (hct cy ad P wy (va_up cl j (tdC k a b (cl j))) st tg) := by
  refine CM.start (by decide) (Nat.le_of_ble_eq_true rfl) ?_
  intro p_ e_ s m_ below meth cd A ls hC hr hlk hin hK hA hH hl
  obtain ⟨hx, hb, hml, hown, hts⟩ := id hC
  have hS : va_S A s.heap s.heap [] := va_S.rf
  have hl : lv_has ls 6 [(0, .ref (ad (4 + j))), (1, .int (nI k)), (2, .int (a)), (3, .int (b))] := hl
  refine lv_iload_n hx hb dX1_holdTold_0 rfl (lv_at hl 2 rfl) ?_
  refine lv_i2l hx hb dX1_holdTold_1 rfl ?_
  refine lv_bipush (v := 32) hx hb dX1_holdTold_2 (by decide) ?_
  refine lv_lshl hx hb dX1_holdTold_4 rfl ?_
  refine lv_iload_n hx hb dX1_holdTold_5 rfl (lv_at hl 3 rfl) ?_
  refine lv_i2l hx hb dX1_holdTold_6 rfl ?_
  refine lv_ldc2 hx hb hown (hts _ qKL_X1_27) dX1_holdTold_7 ?_
  refine lv_land hx hb dX1_holdTold_10 ?_
  refine lv_lor hx hb dX1_holdTold_11 ?_
  refine lv_lstore (lv' := [(4, .long ((((a).toInt64 <<< ((32 : Int32).toInt64 &&& 63)) ||| ((b).toInt64 &&& 4294967295)))), (0, .ref (ad (4 + j))), (1, .int (nI k)), (2, .int (a)), (3, .int (b))]) hx hb dX1_holdTold_12 hl (by decide) rfl (fun ls hl => ?_)
  refine lv_iload_n hx hb dX1_holdTold_14 rfl (lv_at hl 2 rfl) ?_
  rcases (by omega : k = 0 ∨ k = 1 ∨ k = 2 ∨ k = 3 ∨ k = 4 ∨ k = 5 ∨ k = 6 ∨ k = 7) with rfl | rfl | rfl | rfl | rfl | rfl | rfl | rfl
  · refine lv_tableIn (off := 45) (tgt := 60) hx hb dX1_holdTold_15 (by decide) (by decide) (by decide) (by decide) ?_
    refine lv_aload_n hx hb dX1_holdTold_60 rfl (lv_at hl 1 rfl) ?_
    refine lv_iload_n hx hb dX1_holdTold_61 rfl (lv_at hl 2 rfl) ?_
    refine lv_lload hx hb dX1_holdTold_62 (lv_at hl 0 rfl) ?_
    refine lv_lconst (v := 1) hx hb dX1_holdTold_64 (by decide) ?_
    refine lv_land hx hb dX1_holdTold_65 ?_
    refine cm_V (As' := [.int (nI (0)), .long (((((a).toInt64 <<< ((32 : Int32).toInt64 &&& 63)) ||| ((b).toInt64 &&& 4294967295)) &&& 1))]) (rest := []) hC (c_X1_holdWhole (j := j) (by omega)) mv_X1_holdWhole qM_X1_29 ⟨⟨rfl, rfl⟩, Nat.le_of_ble_eq_true rfl, Nat.le_of_ble_eq_true rfl⟩ hK hH hS hA (hp.recv hK hH (i := 4 + j) (by omega) (hct_c (by omega)) rfl) hl.1 ⟨Nat.zero_le _, Nat.zero_le _⟩ rfl rfl (Nat.le_of_ble_eq_true rfl) dX1_holdTold_66 (fun H locs hH hS => ?_)
    refine lv_goto (tgt := 160) hx hb dX1_holdTold_69 (by decide) ?_
    exact cm_rv hC hr hlk (rfl) hH hS dX1_holdTold_160
  · refine lv_tableIn (off := 57) (tgt := 72) hx hb dX1_holdTold_15 (by decide) (by decide) (by decide) (by decide) ?_
    refine lv_aload_n hx hb dX1_holdTold_72 rfl (lv_at hl 1 rfl) ?_
    refine lv_iload_n hx hb dX1_holdTold_73 rfl (lv_at hl 2 rfl) ?_
    refine lv_lload hx hb dX1_holdTold_74 (lv_at hl 0 rfl) ?_
    refine lv_l2i hx hb dX1_holdTold_76 rfl ?_
    refine lv_i2b hx hb dX1_holdTold_77 rfl ?_
    refine lv_i2l hx hb dX1_holdTold_78 rfl ?_
    refine cm_V (As' := [.int (nI (1)), .long (((((((a).toInt64 <<< ((32 : Int32).toInt64 &&& 63)) ||| ((b).toInt64 &&& 4294967295))).toInt32).toInt8.toInt32).toInt64)]) (rest := []) hC (c_X1_holdWhole (j := j) (by omega)) mv_X1_holdWhole qM_X1_29 ⟨⟨rfl, rfl⟩, Nat.le_of_ble_eq_true rfl, Nat.le_of_ble_eq_true rfl⟩ hK hH hS hA (hp.recv hK hH (i := 4 + j) (by omega) (hct_c (by omega)) rfl) hl.1 ⟨Nat.zero_le _, Nat.zero_le _⟩ rfl rfl (Nat.le_of_ble_eq_true rfl) dX1_holdTold_79 (fun H locs hH hS => ?_)
    refine lv_goto (tgt := 160) hx hb dX1_holdTold_82 (by decide) ?_
    exact cm_rv hC hr hlk (rfl) hH hS dX1_holdTold_160
  · refine lv_tableIn (off := 70) (tgt := 85) hx hb dX1_holdTold_15 (by decide) (by decide) (by decide) (by decide) ?_
    refine lv_aload_n hx hb dX1_holdTold_85 rfl (lv_at hl 1 rfl) ?_
    refine lv_iload_n hx hb dX1_holdTold_86 rfl (lv_at hl 2 rfl) ?_
    refine lv_lload hx hb dX1_holdTold_87 (lv_at hl 0 rfl) ?_
    refine lv_l2i hx hb dX1_holdTold_89 rfl ?_
    refine lv_i2c hx hb dX1_holdTold_90 rfl ?_
    refine lv_i2l hx hb dX1_holdTold_91 rfl ?_
    refine cm_V (As' := [.int (nI (2)), .long ((((((((a).toInt64 <<< ((32 : Int32).toInt64 &&& 63)) ||| ((b).toInt64 &&& 4294967295))).toInt32).toUInt32 % 65536).toInt32).toInt64)]) (rest := []) hC (c_X1_holdWhole (j := j) (by omega)) mv_X1_holdWhole qM_X1_29 ⟨⟨rfl, rfl⟩, Nat.le_of_ble_eq_true rfl, Nat.le_of_ble_eq_true rfl⟩ hK hH hS hA (hp.recv hK hH (i := 4 + j) (by omega) (hct_c (by omega)) rfl) hl.1 ⟨Nat.zero_le _, Nat.zero_le _⟩ rfl rfl (Nat.le_of_ble_eq_true rfl) dX1_holdTold_92 (fun H locs hH hS => ?_)
    refine lv_goto (tgt := 160) hx hb dX1_holdTold_95 (by decide) ?_
    exact cm_rv hC hr hlk (rfl) hH hS dX1_holdTold_160
  · refine lv_tableIn (off := 83) (tgt := 98) hx hb dX1_holdTold_15 (by decide) (by decide) (by decide) (by decide) ?_
    refine lv_aload_n hx hb dX1_holdTold_98 rfl (lv_at hl 1 rfl) ?_
    refine lv_iload_n hx hb dX1_holdTold_99 rfl (lv_at hl 2 rfl) ?_
    refine lv_lload hx hb dX1_holdTold_100 (lv_at hl 0 rfl) ?_
    refine lv_l2i hx hb dX1_holdTold_102 rfl ?_
    refine lv_i2s hx hb dX1_holdTold_103 rfl ?_
    refine lv_i2l hx hb dX1_holdTold_104 rfl ?_
    refine cm_V (As' := [.int (nI (3)), .long (((((((a).toInt64 <<< ((32 : Int32).toInt64 &&& 63)) ||| ((b).toInt64 &&& 4294967295))).toInt32).toInt16.toInt32).toInt64)]) (rest := []) hC (c_X1_holdWhole (j := j) (by omega)) mv_X1_holdWhole qM_X1_29 ⟨⟨rfl, rfl⟩, Nat.le_of_ble_eq_true rfl, Nat.le_of_ble_eq_true rfl⟩ hK hH hS hA (hp.recv hK hH (i := 4 + j) (by omega) (hct_c (by omega)) rfl) hl.1 ⟨Nat.zero_le _, Nat.zero_le _⟩ rfl rfl (Nat.le_of_ble_eq_true rfl) dX1_holdTold_105 (fun H locs hH hS => ?_)
    refine lv_goto (tgt := 160) hx hb dX1_holdTold_108 (by decide) ?_
    exact cm_rv hC hr hlk (rfl) hH hS dX1_holdTold_160
  · refine lv_tableIn (off := 96) (tgt := 111) hx hb dX1_holdTold_15 (by decide) (by decide) (by decide) (by decide) ?_
    refine lv_aload_n hx hb dX1_holdTold_111 rfl (lv_at hl 1 rfl) ?_
    refine lv_iload_n hx hb dX1_holdTold_112 rfl (lv_at hl 2 rfl) ?_
    refine lv_lload hx hb dX1_holdTold_113 (lv_at hl 0 rfl) ?_
    refine lv_l2i hx hb dX1_holdTold_115 rfl ?_
    refine lv_i2l hx hb dX1_holdTold_116 rfl ?_
    refine cm_V (As' := [.int (nI (4)), .long ((((((a).toInt64 <<< ((32 : Int32).toInt64 &&& 63)) ||| ((b).toInt64 &&& 4294967295))).toInt32).toInt64)]) (rest := []) hC (c_X1_holdWhole (j := j) (by omega)) mv_X1_holdWhole qM_X1_29 ⟨⟨rfl, rfl⟩, Nat.le_of_ble_eq_true rfl, Nat.le_of_ble_eq_true rfl⟩ hK hH hS hA (hp.recv hK hH (i := 4 + j) (by omega) (hct_c (by omega)) rfl) hl.1 ⟨Nat.zero_le _, Nat.zero_le _⟩ rfl rfl (Nat.le_of_ble_eq_true rfl) dX1_holdTold_117 (fun H locs hH hS => ?_)
    refine lv_goto (tgt := 160) hx hb dX1_holdTold_120 (by decide) ?_
    exact cm_rv hC hr hlk (rfl) hH hS dX1_holdTold_160
  · refine lv_tableIn (off := 138) (tgt := 153) hx hb dX1_holdTold_15 (by decide) (by decide) (by decide) (by decide) ?_
    refine lv_aload_n hx hb dX1_holdTold_153 rfl (lv_at hl 1 rfl) ?_
    refine lv_iload_n hx hb dX1_holdTold_154 rfl (lv_at hl 2 rfl) ?_
    refine lv_lload hx hb dX1_holdTold_155 (lv_at hl 0 rfl) ?_
    refine cm_V (As' := [.int (nI (5)), .long ((((a).toInt64 <<< ((32 : Int32).toInt64 &&& 63)) ||| ((b).toInt64 &&& 4294967295)))]) (rest := []) hC (c_X1_holdWhole (j := j) (by omega)) mv_X1_holdWhole qM_X1_29 ⟨⟨rfl, rfl⟩, Nat.le_of_ble_eq_true rfl, Nat.le_of_ble_eq_true rfl⟩ hK hH hS hA (hp.recv hK hH (i := 4 + j) (by omega) (hct_c (by omega)) rfl) hl.1 ⟨Nat.zero_le _, Nat.zero_le _⟩ rfl rfl (Nat.le_of_ble_eq_true rfl) dX1_holdTold_157 (fun H locs hH hS => ?_)
    exact cm_rv hC hr hlk (rfl) hH hS dX1_holdTold_160
  · refine lv_tableIn (off := 108) (tgt := 123) hx hb dX1_holdTold_15 (by decide) (by decide) (by decide) (by decide) ?_
    refine lv_aload_n hx hb dX1_holdTold_123 rfl (lv_at hl 1 rfl) ?_
    refine lv_iload_n hx hb dX1_holdTold_124 rfl (lv_at hl 2 rfl) ?_
    refine lv_lload hx hb dX1_holdTold_125 (lv_at hl 0 rfl) ?_
    refine lv_l2f hx hb dX1_holdTold_127 ?_
    refine lv_ldcf hx hb hown (hts _ qKF_X1_33) dX1_holdTold_128 ?_
    refine lv_fdiv hx hb dX1_holdTold_130 (fpn_fd _) ?_
    refine lv_f2d hx hb dX1_holdTold_131 (fpn_f2d _) ?_
    refine cm_V (As' := [.int (nI (6)), .double (FP.f2d (FP.fdiv (FP.l2f ((((a).toInt64 <<< ((32 : Int32).toInt64 &&& 63)) ||| ((b).toInt64 &&& 4294967295)))) (1090519040)))]) (rest := []) hC (c_X1_holdPoint (j := j) (by omega)) mv_X1_holdPoint qM_X1_34 ⟨⟨rfl, rfl⟩, Nat.le_of_ble_eq_true rfl, Nat.le_of_ble_eq_true rfl⟩ hK hH hS hA (hp.recv hK hH (i := 4 + j) (by omega) (hct_c (by omega)) rfl) hl.1 ⟨Nat.zero_le _, Nat.zero_le _⟩ rfl rfl (Nat.le_of_ble_eq_true rfl) dX1_holdTold_132 (fun H locs hH hS => ?_)
    refine lv_goto (tgt := 160) hx hb dX1_holdTold_135 (by decide) ?_
    exact cm_rv hC hr hlk (rfl) hH hS dX1_holdTold_160
  · refine lv_tableIn (off := 123) (tgt := 138) hx hb dX1_holdTold_15 (by decide) (by decide) (by decide) (by decide) ?_
    refine lv_aload_n hx hb dX1_holdTold_138 rfl (lv_at hl 1 rfl) ?_
    refine lv_iload_n hx hb dX1_holdTold_139 rfl (lv_at hl 2 rfl) ?_
    refine lv_lload hx hb dX1_holdTold_140 (lv_at hl 0 rfl) ?_
    refine lv_l2d hx hb dX1_holdTold_142 ?_
    refine lv_ldc2d hx hb hown (hts _ qKD_X1_38) dX1_holdTold_143 ?_
    refine lv_ddiv hx hb dX1_holdTold_146 (fpn_dd _) ?_
    refine cm_V (As' := [.int (nI (7)), .double (FP.ddiv (FP.l2d ((((a).toInt64 <<< ((32 : Int32).toInt64 &&& 63)) ||| ((b).toInt64 &&& 4294967295)))) (4620693217682128896))]) (rest := []) hC (c_X1_holdPoint (j := j) (by omega)) mv_X1_holdPoint qM_X1_34 ⟨⟨rfl, rfl⟩, Nat.le_of_ble_eq_true rfl, Nat.le_of_ble_eq_true rfl⟩ hK hH hS hA (hp.recv hK hH (i := 4 + j) (by omega) (hct_c (by omega)) rfl) hl.1 ⟨Nat.zero_le _, Nat.zero_le _⟩ rfl rfl (Nat.le_of_ble_eq_true rfl) dX1_holdTold_147 (fun H locs hH hS => ?_)
    refine lv_goto (tgt := 160) hx hb dX1_holdTold_150 (by decide) ?_
    exact cm_rv hC hr hlk (rfl) hH hS dX1_holdTold_160
theorem mv_X1_isValue : mvok RX1 yX1_isValue cX1_isValue 1 (some .boolean) 0 := ⟨qK_X1_isValue, qI_X1_isValue, qSel_X1_X1_isValue, qInit_X1, by decide +kernel⟩
set_option maxHeartbeats 4000000 in
set_option maxRecDepth 100000 in
theorem c_X1_isValue {l : Launch} {D : va_G} {cy : Nat → ClassId} {ad : Nat → Nat} {P : AS} {wy : Int32} {cl : Nat → CE} {st : Nat → Nat} {tg : Nat → Int32} {j : Nat} (hj : j < 26) : CM l yX1_isValue cX1_isValue 1 (some .boolean) (rm_ 0 0) D cy (30 + 2 * P.n) ad [.ref (ad (4 + j))] (hct cy ad P wy cl st tg) (some (.int (b2i (cV (cl j))))) (hct cy ad P wy cl st tg) := by
  refine CM.start (by decide) (Nat.le_of_ble_eq_true rfl) ?_
  intro p_ e_ s m_ below meth cd A ls hC hr hlk hin hK hA hH hl
  obtain ⟨hx, hb, hml, hown, hts⟩ := id hC
  have hS : va_S A s.heap s.heap [] := va_S.rf
  have hl : lv_has ls 1 [(0, .ref (ad (4 + j)))] := hl
  refine lv_aload_n hx hb dX1_isValue_0 rfl (lv_at hl 0 rfl) ?_
  refine hr_cg hC hK hH j (by omega) 0 (by decide) qF_X1_9 rfl rfl dX1_isValue_1 ?_
  refine lv_iconst (v := (-1)) hx hb dX1_isValue_4 (by decide) ?_
  refine lv_icmp_eq (tgt := 12) hx hb dX1_isValue_5 (by decide) (fun c_5 => ?_) (fun c_5 => ?_)
  · refine lv_iconst (v := 0) hx hb dX1_isValue_12 (by decide) ?_
    exact cm_rz hC hr hlk (by first | exact Or.inl rfl | exact Or.inr rfl | exact b2i_01 _) (by first | exact b2d_1 (by assumption) | exact b2d_0 (fun h => h (by assumption))) (rfl) hH hS dX1_isValue_13
  · refine lv_iconst (v := 1) hx hb dX1_isValue_8 (by decide) ?_
    refine lv_goto (tgt := 13) hx hb dX1_isValue_9 (by decide) ?_
    exact cm_rz hC hr hlk (by first | exact Or.inl rfl | exact Or.inr rfl | exact b2i_01 _) (by first | exact b2d_1 (by assumption) | exact b2d_0 (fun h => h (by assumption))) (rfl) hH hS dX1_isValue_13
theorem mv_X1_isWhole : mvok RX1 yX1_isWhole cX1_isWhole 1 (some .boolean) 0 := ⟨qK_X1_isWhole, qI_X1_isWhole, qSel_X1_X1_isWhole, qInit_X1, by decide +kernel⟩
set_option maxHeartbeats 4000000 in
set_option maxRecDepth 100000 in
theorem c_X1_isWhole {l : Launch} {D : va_G} {cy : Nat → ClassId} {ad : Nat → Nat} {P : AS} {wy : Int32} {cl : Nat → CE} {st : Nat → Nat} {tg : Nat → Int32} {j : Nat} (hj : j < 26) : CM l yX1_isWhole cX1_isWhole 1 (some .boolean) (rm_ 0 0) D cy (30 + 2 * P.n) ad [.ref (ad (4 + j))] (hct cy ad P wy cl st tg) (some (.int (b2i (cW (cl j))))) (hct cy ad P wy cl st tg) := by
  refine CM.start (by decide) (Nat.le_of_ble_eq_true rfl) ?_
  intro p_ e_ s m_ below meth cd A ls hC hr hlk hin hK hA hH hl
  obtain ⟨hx, hb, hml, hown, hts⟩ := id hC
  have hS : va_S A s.heap s.heap [] := va_S.rf
  have hl : lv_has ls 1 [(0, .ref (ad (4 + j)))] := hl
  refine lv_aload_n hx hb dX1_isWhole_0 rfl (lv_at hl 0 rfl) ?_
  refine hr_cg hC hK hH j (by omega) 0 (by decide) qF_X1_9 rfl rfl dX1_isWhole_1 ?_
  refine lv_if_lt (tgt := 19) hx hb dX1_isWhole_4 (by decide) (fun c_4 => ?_) (fun c_4 => ?_)
  · refine lv_iconst (v := 0) hx hb dX1_isWhole_19 (by decide) ?_
    exact cm_rz hC hr hlk (by first | exact Or.inl rfl | exact Or.inr rfl | exact b2i_01 _) (by first | exact b2d_1 ⟨by assumption, by assumption⟩ | exact b2d_0 (fun h => h.1 (by assumption)) | exact b2d_0 (fun h => h.2 (by assumption))) (rfl) hH hS dX1_isWhole_20
  · refine lv_aload_n hx hb dX1_isWhole_7 rfl (lv_at hl 0 rfl) ?_
    refine hr_cg hC hK hH j (by omega) 0 (by decide) qF_X1_9 rfl rfl dX1_isWhole_8 ?_
    refine lv_iconst (v := 5) hx hb dX1_isWhole_11 (by decide) ?_
    refine lv_icmp_gt (tgt := 19) hx hb dX1_isWhole_12 (by decide) (fun c_12 => ?_) (fun c_12 => ?_)
    · refine lv_iconst (v := 0) hx hb dX1_isWhole_19 (by decide) ?_
      exact cm_rz hC hr hlk (by first | exact Or.inl rfl | exact Or.inr rfl | exact b2i_01 _) (by first | exact b2d_1 ⟨by assumption, by assumption⟩ | exact b2d_0 (fun h => h.1 (by assumption)) | exact b2d_0 (fun h => h.2 (by assumption))) (rfl) hH hS dX1_isWhole_20
    · refine lv_iconst (v := 1) hx hb dX1_isWhole_15 (by decide) ?_
      refine lv_goto (tgt := 20) hx hb dX1_isWhole_16 (by decide) ?_
      exact cm_rz hC hr hlk (by first | exact Or.inl rfl | exact Or.inr rfl | exact b2i_01 _) (by first | exact b2d_1 ⟨by assumption, by assumption⟩ | exact b2d_0 (fun h => h.1 (by assumption)) | exact b2d_0 (fun h => h.2 (by assumption))) (rfl) hH hS dX1_isWhole_20
theorem mv_X1_pointAs : mvok RX1 yX1_pointAs cX1_pointAs 2 (some .double) 1 := ⟨qK_X1_pointAs, qI_X1_pointAs, qSel_X1_X1_pointAs, qInit_X1, by decide +kernel⟩
set_option maxHeartbeats 4000000 in
set_option maxRecDepth 100000 in
theorem c_X1_pointAs {l : Launch} {D : va_G} {cy : Nat → ClassId} {ad : Nat → Nat} {P : AS} {wy : Int32} {cl : Nat → CE} {st : Nat → Nat} {tg : Nat → Int32} {j k : Nat} (hj : j < 26) (hk : k ≤ 7) : CM l yX1_pointAs cX1_pointAs 2 (some .double) (rm_ 1 20) D cy (30 + 2 * P.n) ad [.ref (ad (4 + j)), .int (nI k)] (hct cy ad P wy cl st tg) (some (.double (cP (cl j) k))) (hct cy ad P wy cl st tg) := by
  refine CM.start (by decide) (Nat.le_of_ble_eq_true rfl) ?_
  intro p_ e_ s m_ below meth cd A ls hC hr hlk hin hK hA hH hl
  obtain ⟨hx, hb, hml, hown, hts⟩ := id hC
  have hS : va_S A s.heap s.heap [] := va_S.rf
  have hl : lv_has ls 2 [(0, .ref (ad (4 + j))), (1, .int (nI k))] := hl
  refine lv_aload_n hx hb dX1_pointAs_0 rfl (lv_at hl 0 rfl) ?_
  refine cm_V (As' := []) (rest := []) hC (c_X1_isWhole (j := j) (by omega)) mv_X1_isWhole qM_X1_40 ⟨⟨rfl, rfl⟩, Nat.le_of_ble_eq_true rfl, Nat.le_of_ble_eq_true rfl⟩ hK hH hS hA (hp.recv hK hH (i := 4 + j) (by omega) (hct_c (by omega)) rfl) hl.1 ⟨Nat.zero_le _, Nat.zero_le _⟩ rfl rfl (Nat.le_of_ble_eq_true rfl) dX1_pointAs_1 (fun H locs hH hS => ?_)
  refine lv_if_ne (tgt := 12) hx hb dX1_pointAs_4 (by decide) (fun c_4 => ?_) (fun c_4 => ?_)
  · have c_4 := b2i_t c_4
    refine lv_iload_n hx hb dX1_pointAs_12 rfl (lv_at hl 1 rfl) ?_
    refine lv_bipush (v := 6) hx hb dX1_pointAs_13 (by decide) ?_
    refine lv_icmp_ne (tgt := 27) hx hb dX1_pointAs_15 (by decide) (fun c_15 => ?_) (fun c_15 => ?_)
    · have c_15 := nc_ne (a := k) (b := 6) (by omega) (by omega) c_15
      refine lv_aload_n hx hb dX1_pointAs_27 rfl (lv_at hl 0 rfl) ?_
      refine hr_cg hC hK hH j (by omega) 1 (by decide) qF_X1_15 rfl rfl dX1_pointAs_28 ?_
      refine lv_l2d hx hb dX1_pointAs_31 ?_
      exact cm_rd hC hr hlk (by rw [cP, if_pos c_4]; first | rw [if_pos c_15] | rw [if_neg c_15]) (rfl) hH hS dX1_pointAs_32
    · have c_15 := nc_eq (a := k) (b := 6) (by omega) (by omega) c_15
      refine lv_aload_n hx hb dX1_pointAs_18 rfl (lv_at hl 0 rfl) ?_
      refine hr_cg hC hK hH j (by omega) 1 (by decide) qF_X1_15 rfl rfl dX1_pointAs_19 ?_
      refine lv_l2f hx hb dX1_pointAs_22 ?_
      refine lv_f2d hx hb dX1_pointAs_23 (fpn_lf _) ?_
      refine lv_goto (tgt := 32) hx hb dX1_pointAs_24 (by decide) ?_
      exact cm_rd hC hr hlk (by rw [cP, if_pos c_4]; first | rw [if_pos c_15] | rw [if_neg c_15]) (rfl) hH hS dX1_pointAs_32
  · have c_4 := b2i_f c_4
    refine lv_aload_n hx hb dX1_pointAs_7 rfl (lv_at hl 0 rfl) ?_
    refine hr_cg hC hK hH j (by omega) 2 (by decide) qF_X1_19 rfl rfl dX1_pointAs_8 ?_
    exact cm_rd hC hr hlk (by simp only [cP, c_4]; rfl) (rfl) hH hS dX1_pointAs_11
theorem mv_X1_isLike : mvok RX1 yX1_isLike cX1_isLike 2 (some .boolean) 1 := ⟨qK_X1_isLike, qI_X1_isLike, qSel_X1_X1_isLike, qInit_X1, by decide +kernel⟩
set_option maxHeartbeats 4000000 in
set_option maxRecDepth 100000 in
theorem c_X1_isLike {l : Launch} {D : va_G} {cy : Nat → ClassId} {ad : Nat → Nat} {P : AS} {wy : Int32} {cl : Nat → CE} {st : Nat → Nat} {tg : Nat → Int32} {j i : Nat} (hj : j < 26) (hi : i < 26) (hqj : (cl j).2.2.2 ≤ P.n) (hqi : (cl i).2.2.2 ≤ P.n) : CM l yX1_isLike cX1_isLike 2 (some .boolean) (rm_ 2 41) D cy (30 + 2 * P.n) ad [.ref (ad (4 + j)), .ref (ad (4 + i))] (hct cy ad P wy cl st tg) (some (.int (b2i (cLk (cl j) (cl i))))) (hct cy ad P wy cl st tg) := by
  refine CM.start (by decide) (Nat.le_of_ble_eq_true rfl) ?_
  intro p_ e_ s m_ below meth cd A ls hC hr hlk hin hK hA hH hl
  obtain ⟨hx, hb, hml, hown, hts⟩ := id hC
  have hS : va_S A s.heap s.heap [] := va_S.rf
  have hl : lv_has ls 2 [(0, .ref (ad (4 + j))), (1, .ref (ad (4 + i)))] := hl
  refine lv_aload_n hx hb dX1_isLike_0 rfl (lv_at hl 0 rfl) ?_
  refine cm_V (As' := []) (rest := []) hC (c_X1_isValue (j := j) (by omega)) mv_X1_isValue qM_X1_44 ⟨⟨rfl, rfl⟩, Nat.le_of_ble_eq_true rfl, Nat.le_of_ble_eq_true rfl⟩ hK hH hS hA (hp.recv hK hH (i := 4 + j) (by omega) (hct_c (by omega)) rfl) hl.1 ⟨Nat.zero_le _, Nat.zero_le _⟩ rfl rfl (Nat.le_of_ble_eq_true rfl) dX1_isLike_1 (fun H locs hH hS => ?_)
  refine lv_if_eq (tgt := 14) hx hb dX1_isLike_4 (by decide) (fun c_4 => ?_) (fun c_4 => ?_)
  · have c_4 := b2i_f c_4
    refine lv_aload_n hx hb dX1_isLike_14 rfl (lv_at hl 0 rfl) ?_
    refine cm_V (As' := []) (rest := []) hC (c_X1_isValue (j := j) (by omega)) mv_X1_isValue qM_X1_44 ⟨⟨rfl, rfl⟩, Nat.le_of_ble_eq_true rfl, Nat.le_of_ble_eq_true rfl⟩ hK hH hS hA (hp.recv hK hH (i := 4 + j) (by omega) (hct_c (by omega)) rfl) hl.1 ⟨Nat.zero_le _, Nat.zero_le _⟩ rfl rfl (Nat.le_of_ble_eq_true rfl) dX1_isLike_15 (fun H locs hH hS => ?_)
    refine lv_aload_n hx hb dX1_isLike_18 rfl (lv_at hl 1 rfl) ?_
    refine cm_V (As' := []) (rest := [.int (b2i (cV (cl j)))]) hC (c_X1_isValue (j := i) (by omega)) mv_X1_isValue qM_X1_44 ⟨⟨rfl, rfl⟩, Nat.le_of_ble_eq_true rfl, Nat.le_of_ble_eq_true rfl⟩ hK hH hS hA (hp.recv hK hH (i := 4 + i) (by omega) (hct_c (by omega)) rfl) hl.1 ⟨Nat.zero_le _, Nat.zero_le _⟩ rfl rfl (Nat.le_of_ble_eq_true rfl) dX1_isLike_19 (fun H locs hH hS => ?_)
    refine lv_icmp_ne (tgt := 40) hx hb dX1_isLike_22 (by decide) (fun c_22 => ?_) (fun c_22 => ?_)
    · have c_22 := b2i_nej c_22
      refine lv_iconst (v := 0) hx hb dX1_isLike_40 (by decide) ?_
      exact cm_rz hC hr hlk (by first | exact Or.inl rfl | exact Or.inr rfl | exact b2i_01 _) (by rw [cLk_n1 (by simp [c_4]) c_22]; rfl) (rfl) hH hS dX1_isLike_41
    · have c_22 := b2i_inj c_22
      refine lv_aload_n hx hb dX1_isLike_25 rfl (lv_at hl 0 rfl) ?_
      refine hr_cg hC hK hH j (by omega) 3 (by decide) qF_X1_23 rfl rfl dX1_isLike_26 ?_
      refine lv_aload_n hx hb dX1_isLike_29 rfl (lv_at hl 1 rfl) ?_
      refine hr_cg hC hK hH i (by omega) 3 (by decide) qF_X1_23 rfl rfl dX1_isLike_30 ?_
      refine lv_acmp_ne (tgt := 40) hx hb dX1_isLike_33 (by decide) (fun c_33 => ?_) (fun c_33 => ?_)
      · have c33 : ¬ (cl j).2.2.2 = (cl i).2.2.2 := fun e => c_33 (by rw [e])
        refine lv_iconst (v := 0) hx hb dX1_isLike_40 (by decide) ?_
        exact cm_rz hC hr hlk (by first | exact Or.inl rfl | exact Or.inr rfl | exact b2i_01 _) (by rw [cLk_n3 (by simp [c_4]) c33]; rfl) (rfl) hH hS dX1_isLike_41
      · have c33 : (cl j).2.2.2 = (cl i).2.2.2 := rfO_inj hH hqj hqi c_33
        refine lv_iconst (v := 1) hx hb dX1_isLike_36 (by decide) ?_
        refine lv_goto (tgt := 41) hx hb dX1_isLike_37 (by decide) ?_
        exact cm_rz hC hr hlk (by first | exact Or.inl rfl | exact Or.inr rfl | exact b2i_01 _) (by rw [cLk_n2 (by simp [c_4]) c_22 c33]; rfl) (rfl) hH hS dX1_isLike_41
  · have c_4 := b2i_t c_4
    refine lv_aload_n hx hb dX1_isLike_7 rfl (lv_at hl 1 rfl) ?_
    refine cm_V (As' := []) (rest := []) hC (c_X1_isValue (j := i) (by omega)) mv_X1_isValue qM_X1_44 ⟨⟨rfl, rfl⟩, Nat.le_of_ble_eq_true rfl, Nat.le_of_ble_eq_true rfl⟩ hK hH hS hA (hp.recv hK hH (i := 4 + i) (by omega) (hct_c (by omega)) rfl) hl.1 ⟨Nat.zero_le _, Nat.zero_le _⟩ rfl rfl (Nat.le_of_ble_eq_true rfl) dX1_isLike_8 (fun H locs hH hS => ?_)
    refine lv_if_ne (tgt := 42) hx hb dX1_isLike_11 (by decide) (fun c_11 => ?_) (fun c_11 => ?_)
    · have c_11 := b2i_t c_11
      refine lv_aload_n hx hb dX1_isLike_42 rfl (lv_at hl 0 rfl) ?_
      refine hr_cg hC hK hH j (by omega) 0 (by decide) qF_X1_9 rfl rfl dX1_isLike_43 ?_
      refine lv_if_ne (tgt := 53) hx hb dX1_isLike_46 (by decide) (fun c_46 => ?_) (fun c_46 => ?_)
      · refine lv_iconst (v := 0) hx hb dX1_isLike_53 (by decide) ?_
        refine lv_aload_n hx hb dX1_isLike_54 rfl (lv_at hl 1 rfl) ?_
        refine hr_cg hC hK hH i (by omega) 0 (by decide) qF_X1_9 rfl rfl dX1_isLike_55 ?_
        refine lv_if_ne (tgt := 65) hx hb dX1_isLike_58 (by decide) (fun c_58 => ?_) (fun c_58 => ?_)
        · refine lv_iconst (v := 0) hx hb dX1_isLike_65 (by decide) ?_
          refine lv_icmp_eq (tgt := 71) hx hb dX1_isLike_66 (by decide) (fun c_66 => ?_) (fun c_66 => absurd c_66 (by decide))
          refine lv_aload_n hx hb dX1_isLike_71 rfl (lv_at hl 0 rfl) ?_
          refine cm_V (As' := []) (rest := []) hC (c_X1_isWhole (j := j) (by omega)) mv_X1_isWhole qM_X1_40 ⟨⟨rfl, rfl⟩, Nat.le_of_ble_eq_true rfl, Nat.le_of_ble_eq_true rfl⟩ hK hH hS hA (hp.recv hK hH (i := 4 + j) (by omega) (hct_c (by omega)) rfl) hl.1 ⟨Nat.zero_le _, Nat.zero_le _⟩ rfl rfl (Nat.le_of_ble_eq_true rfl) dX1_isLike_72 (fun H locs hH hS => ?_)
          refine lv_if_eq (tgt := 103) hx hb dX1_isLike_75 (by decide) (fun c_75 => ?_) (fun c_75 => ?_)
          · have c_75 := b2i_f c_75
            refine lv_aload_n hx hb dX1_isLike_103 rfl (lv_at hl 0 rfl) ?_
            refine lv_bipush (v := 7) hx hb dX1_isLike_104 (by decide) ?_
            refine cm_V (As' := [.int (7)]) (rest := []) hC (c_X1_pointAs (j := j) (k := 7) (by omega) (by omega)) mv_X1_pointAs qM_X1_47 ⟨⟨rfl, rfl⟩, Nat.le_of_ble_eq_true rfl, Nat.le_of_ble_eq_true rfl⟩ hK hH hS hA (hp.recv hK hH (i := 4 + j) (by omega) (hct_c (by omega)) rfl) hl.1 ⟨Nat.zero_le _, Nat.zero_le _⟩ rfl rfl (Nat.le_of_ble_eq_true rfl) dX1_isLike_106 (fun H locs hH hS => ?_)
            refine lv_aload_n hx hb dX1_isLike_109 rfl (lv_at hl 1 rfl) ?_
            refine lv_bipush (v := 7) hx hb dX1_isLike_110 (by decide) ?_
            refine cm_V (As' := [.int (7)]) (rest := [.double (cP (cl j) 7)]) hC (c_X1_pointAs (j := i) (k := 7) (by omega) (by omega)) mv_X1_pointAs qM_X1_47 ⟨⟨rfl, rfl⟩, Nat.le_of_ble_eq_true rfl, Nat.le_of_ble_eq_true rfl⟩ hK hH hS hA (hp.recv hK hH (i := 4 + i) (by omega) (hct_c (by omega)) rfl) hl.1 ⟨Nat.zero_le _, Nat.zero_le _⟩ rfl rfl (Nat.le_of_ble_eq_true rfl) dX1_isLike_112 (fun H locs hH hS => ?_)
            refine lv_dcmp hx hb dX1_isLike_115 ?_
            refine lv_if_ne (tgt := 123) hx hb dX1_isLike_116 (by decide) (fun c_116 => ?_) (fun c_116 => ?_)
            · refine lv_iconst (v := 0) hx hb dX1_isLike_123 (by decide) ?_
              exact cm_rz hC hr hlk (by first | exact Or.inl rfl | exact Or.inr rfl | exact b2i_01 _) (by simp [cLk, b2i, c_4, c_11, c_46, c_58, c_75, c_116]) (rfl) hH hS dX1_isLike_124
            · refine lv_iconst (v := 1) hx hb dX1_isLike_119 (by decide) ?_
              refine lv_goto (tgt := 124) hx hb dX1_isLike_120 (by decide) ?_
              exact cm_rz hC hr hlk (by first | exact Or.inl rfl | exact Or.inr rfl | exact b2i_01 _) (by simp [cLk, b2i, c_4, c_11, c_46, c_58, c_75, c_116]) (rfl) hH hS dX1_isLike_124
          · have c_75 := b2i_t c_75
            refine lv_aload_n hx hb dX1_isLike_78 rfl (lv_at hl 1 rfl) ?_
            refine cm_V (As' := []) (rest := []) hC (c_X1_isWhole (j := i) (by omega)) mv_X1_isWhole qM_X1_40 ⟨⟨rfl, rfl⟩, Nat.le_of_ble_eq_true rfl, Nat.le_of_ble_eq_true rfl⟩ hK hH hS hA (hp.recv hK hH (i := 4 + i) (by omega) (hct_c (by omega)) rfl) hl.1 ⟨Nat.zero_le _, Nat.zero_le _⟩ rfl rfl (Nat.le_of_ble_eq_true rfl) dX1_isLike_79 (fun H locs hH hS => ?_)
            refine lv_if_eq (tgt := 103) hx hb dX1_isLike_82 (by decide) (fun c_82 => ?_) (fun c_82 => ?_)
            · have c_82 := b2i_f c_82
              refine lv_aload_n hx hb dX1_isLike_103 rfl (lv_at hl 0 rfl) ?_
              refine lv_bipush (v := 7) hx hb dX1_isLike_104 (by decide) ?_
              refine cm_V (As' := [.int (7)]) (rest := []) hC (c_X1_pointAs (j := j) (k := 7) (by omega) (by omega)) mv_X1_pointAs qM_X1_47 ⟨⟨rfl, rfl⟩, Nat.le_of_ble_eq_true rfl, Nat.le_of_ble_eq_true rfl⟩ hK hH hS hA (hp.recv hK hH (i := 4 + j) (by omega) (hct_c (by omega)) rfl) hl.1 ⟨Nat.zero_le _, Nat.zero_le _⟩ rfl rfl (Nat.le_of_ble_eq_true rfl) dX1_isLike_106 (fun H locs hH hS => ?_)
              refine lv_aload_n hx hb dX1_isLike_109 rfl (lv_at hl 1 rfl) ?_
              refine lv_bipush (v := 7) hx hb dX1_isLike_110 (by decide) ?_
              refine cm_V (As' := [.int (7)]) (rest := [.double (cP (cl j) 7)]) hC (c_X1_pointAs (j := i) (k := 7) (by omega) (by omega)) mv_X1_pointAs qM_X1_47 ⟨⟨rfl, rfl⟩, Nat.le_of_ble_eq_true rfl, Nat.le_of_ble_eq_true rfl⟩ hK hH hS hA (hp.recv hK hH (i := 4 + i) (by omega) (hct_c (by omega)) rfl) hl.1 ⟨Nat.zero_le _, Nat.zero_le _⟩ rfl rfl (Nat.le_of_ble_eq_true rfl) dX1_isLike_112 (fun H locs hH hS => ?_)
              refine lv_dcmp hx hb dX1_isLike_115 ?_
              refine lv_if_ne (tgt := 123) hx hb dX1_isLike_116 (by decide) (fun c_116 => ?_) (fun c_116 => ?_)
              · refine lv_iconst (v := 0) hx hb dX1_isLike_123 (by decide) ?_
                exact cm_rz hC hr hlk (by first | exact Or.inl rfl | exact Or.inr rfl | exact b2i_01 _) (by simp [cLk, b2i, c_4, c_11, c_46, c_58, c_75, c_82, c_116]) (rfl) hH hS dX1_isLike_124
              · refine lv_iconst (v := 1) hx hb dX1_isLike_119 (by decide) ?_
                refine lv_goto (tgt := 124) hx hb dX1_isLike_120 (by decide) ?_
                exact cm_rz hC hr hlk (by first | exact Or.inl rfl | exact Or.inr rfl | exact b2i_01 _) (by simp [cLk, b2i, c_4, c_11, c_46, c_58, c_75, c_82, c_116]) (rfl) hH hS dX1_isLike_124
            · have c_82 := b2i_t c_82
              refine lv_aload_n hx hb dX1_isLike_85 rfl (lv_at hl 0 rfl) ?_
              refine hr_cg hC hK hH j (by omega) 1 (by decide) qF_X1_15 rfl rfl dX1_isLike_86 ?_
              refine lv_aload_n hx hb dX1_isLike_89 rfl (lv_at hl 1 rfl) ?_
              refine hr_cg hC hK hH i (by omega) 1 (by decide) qF_X1_15 rfl rfl dX1_isLike_90 ?_
              refine W.lcmp hx hb dX1_isLike_93 ?_
              refine lv_if_ne (tgt := 101) hx hb dX1_isLike_94 (by decide) (fun c_94 => ?_) (fun c_94 => ?_)
              · have c_94 := lc_neT c_94
                refine lv_iconst (v := 0) hx hb dX1_isLike_101 (by decide) ?_
                exact cm_rz hC hr hlk (by first | exact Or.inl rfl | exact Or.inr rfl | exact b2i_01 _) (by simp [cLk, b2i, c_4, c_11, c_46, c_58, c_75, c_82, c_94]) (rfl) hH hS dX1_isLike_102
              · have c_94 := lc_neF c_94
                refine lv_iconst (v := 1) hx hb dX1_isLike_97 (by decide) ?_
                refine lv_goto (tgt := 102) hx hb dX1_isLike_98 (by decide) ?_
                exact cm_rz hC hr hlk (by first | exact Or.inl rfl | exact Or.inr rfl | exact b2i_01 _) (by simp [cLk, b2i, c_4, c_11, c_46, c_58, c_75, c_82, c_94]) (rfl) hH hS dX1_isLike_102
        · refine lv_iconst (v := 1) hx hb dX1_isLike_61 (by decide) ?_
          refine lv_goto (tgt := 66) hx hb dX1_isLike_62 (by decide) ?_
          refine lv_icmp_eq (tgt := 71) hx hb dX1_isLike_66 (by decide) (fun c_66 => absurd c_66 (by decide)) (fun c_66 => ?_)
          refine lv_iconst (v := 0) hx hb dX1_isLike_69 (by decide) ?_
          exact cm_rz hC hr hlk (by first | exact Or.inl rfl | exact Or.inr rfl | exact b2i_01 _) (by simp [cLk, b2i, c_4, c_11, c_46, c_58]) (rfl) hH hS dX1_isLike_70
      · refine lv_iconst (v := 1) hx hb dX1_isLike_49 (by decide) ?_
        refine lv_goto (tgt := 54) hx hb dX1_isLike_50 (by decide) ?_
        refine lv_aload_n hx hb dX1_isLike_54 rfl (lv_at hl 1 rfl) ?_
        refine hr_cg hC hK hH i (by omega) 0 (by decide) qF_X1_9 rfl rfl dX1_isLike_55 ?_
        refine lv_if_ne (tgt := 65) hx hb dX1_isLike_58 (by decide) (fun c_58 => ?_) (fun c_58 => ?_)
        · refine lv_iconst (v := 0) hx hb dX1_isLike_65 (by decide) ?_
          refine lv_icmp_eq (tgt := 71) hx hb dX1_isLike_66 (by decide) (fun c_66 => absurd c_66 (by decide)) (fun c_66 => ?_)
          refine lv_iconst (v := 0) hx hb dX1_isLike_69 (by decide) ?_
          exact cm_rz hC hr hlk (by first | exact Or.inl rfl | exact Or.inr rfl | exact b2i_01 _) (by simp [cLk, b2i, c_4, c_11, c_46, c_58]) (rfl) hH hS dX1_isLike_70
        · refine lv_iconst (v := 1) hx hb dX1_isLike_61 (by decide) ?_
          refine lv_goto (tgt := 66) hx hb dX1_isLike_62 (by decide) ?_
          refine lv_icmp_eq (tgt := 71) hx hb dX1_isLike_66 (by decide) (fun c_66 => ?_) (fun c_66 => absurd c_66 (by decide))
          refine lv_aload_n hx hb dX1_isLike_71 rfl (lv_at hl 0 rfl) ?_
          refine cm_V (As' := []) (rest := []) hC (c_X1_isWhole (j := j) (by omega)) mv_X1_isWhole qM_X1_40 ⟨⟨rfl, rfl⟩, Nat.le_of_ble_eq_true rfl, Nat.le_of_ble_eq_true rfl⟩ hK hH hS hA (hp.recv hK hH (i := 4 + j) (by omega) (hct_c (by omega)) rfl) hl.1 ⟨Nat.zero_le _, Nat.zero_le _⟩ rfl rfl (Nat.le_of_ble_eq_true rfl) dX1_isLike_72 (fun H locs hH hS => ?_)
          refine lv_if_eq (tgt := 103) hx hb dX1_isLike_75 (by decide) (fun c_75 => ?_) (fun c_75 => ?_)
          · have c_75 := b2i_f c_75
            refine lv_aload_n hx hb dX1_isLike_103 rfl (lv_at hl 0 rfl) ?_
            refine lv_bipush (v := 7) hx hb dX1_isLike_104 (by decide) ?_
            refine cm_V (As' := [.int (7)]) (rest := []) hC (c_X1_pointAs (j := j) (k := 7) (by omega) (by omega)) mv_X1_pointAs qM_X1_47 ⟨⟨rfl, rfl⟩, Nat.le_of_ble_eq_true rfl, Nat.le_of_ble_eq_true rfl⟩ hK hH hS hA (hp.recv hK hH (i := 4 + j) (by omega) (hct_c (by omega)) rfl) hl.1 ⟨Nat.zero_le _, Nat.zero_le _⟩ rfl rfl (Nat.le_of_ble_eq_true rfl) dX1_isLike_106 (fun H locs hH hS => ?_)
            refine lv_aload_n hx hb dX1_isLike_109 rfl (lv_at hl 1 rfl) ?_
            refine lv_bipush (v := 7) hx hb dX1_isLike_110 (by decide) ?_
            refine cm_V (As' := [.int (7)]) (rest := [.double (cP (cl j) 7)]) hC (c_X1_pointAs (j := i) (k := 7) (by omega) (by omega)) mv_X1_pointAs qM_X1_47 ⟨⟨rfl, rfl⟩, Nat.le_of_ble_eq_true rfl, Nat.le_of_ble_eq_true rfl⟩ hK hH hS hA (hp.recv hK hH (i := 4 + i) (by omega) (hct_c (by omega)) rfl) hl.1 ⟨Nat.zero_le _, Nat.zero_le _⟩ rfl rfl (Nat.le_of_ble_eq_true rfl) dX1_isLike_112 (fun H locs hH hS => ?_)
            refine lv_dcmp hx hb dX1_isLike_115 ?_
            refine lv_if_ne (tgt := 123) hx hb dX1_isLike_116 (by decide) (fun c_116 => ?_) (fun c_116 => ?_)
            · refine lv_iconst (v := 0) hx hb dX1_isLike_123 (by decide) ?_
              exact cm_rz hC hr hlk (by first | exact Or.inl rfl | exact Or.inr rfl | exact b2i_01 _) (by simp [cLk, b2i, c_4, c_11, c_46, c_58, c_75, c_116]) (rfl) hH hS dX1_isLike_124
            · refine lv_iconst (v := 1) hx hb dX1_isLike_119 (by decide) ?_
              refine lv_goto (tgt := 124) hx hb dX1_isLike_120 (by decide) ?_
              exact cm_rz hC hr hlk (by first | exact Or.inl rfl | exact Or.inr rfl | exact b2i_01 _) (by simp [cLk, b2i, c_4, c_11, c_46, c_58, c_75, c_116]) (rfl) hH hS dX1_isLike_124
          · have c_75 := b2i_t c_75
            refine lv_aload_n hx hb dX1_isLike_78 rfl (lv_at hl 1 rfl) ?_
            refine cm_V (As' := []) (rest := []) hC (c_X1_isWhole (j := i) (by omega)) mv_X1_isWhole qM_X1_40 ⟨⟨rfl, rfl⟩, Nat.le_of_ble_eq_true rfl, Nat.le_of_ble_eq_true rfl⟩ hK hH hS hA (hp.recv hK hH (i := 4 + i) (by omega) (hct_c (by omega)) rfl) hl.1 ⟨Nat.zero_le _, Nat.zero_le _⟩ rfl rfl (Nat.le_of_ble_eq_true rfl) dX1_isLike_79 (fun H locs hH hS => ?_)
            refine lv_if_eq (tgt := 103) hx hb dX1_isLike_82 (by decide) (fun c_82 => ?_) (fun c_82 => ?_)
            · have c_82 := b2i_f c_82
              refine lv_aload_n hx hb dX1_isLike_103 rfl (lv_at hl 0 rfl) ?_
              refine lv_bipush (v := 7) hx hb dX1_isLike_104 (by decide) ?_
              refine cm_V (As' := [.int (7)]) (rest := []) hC (c_X1_pointAs (j := j) (k := 7) (by omega) (by omega)) mv_X1_pointAs qM_X1_47 ⟨⟨rfl, rfl⟩, Nat.le_of_ble_eq_true rfl, Nat.le_of_ble_eq_true rfl⟩ hK hH hS hA (hp.recv hK hH (i := 4 + j) (by omega) (hct_c (by omega)) rfl) hl.1 ⟨Nat.zero_le _, Nat.zero_le _⟩ rfl rfl (Nat.le_of_ble_eq_true rfl) dX1_isLike_106 (fun H locs hH hS => ?_)
              refine lv_aload_n hx hb dX1_isLike_109 rfl (lv_at hl 1 rfl) ?_
              refine lv_bipush (v := 7) hx hb dX1_isLike_110 (by decide) ?_
              refine cm_V (As' := [.int (7)]) (rest := [.double (cP (cl j) 7)]) hC (c_X1_pointAs (j := i) (k := 7) (by omega) (by omega)) mv_X1_pointAs qM_X1_47 ⟨⟨rfl, rfl⟩, Nat.le_of_ble_eq_true rfl, Nat.le_of_ble_eq_true rfl⟩ hK hH hS hA (hp.recv hK hH (i := 4 + i) (by omega) (hct_c (by omega)) rfl) hl.1 ⟨Nat.zero_le _, Nat.zero_le _⟩ rfl rfl (Nat.le_of_ble_eq_true rfl) dX1_isLike_112 (fun H locs hH hS => ?_)
              refine lv_dcmp hx hb dX1_isLike_115 ?_
              refine lv_if_ne (tgt := 123) hx hb dX1_isLike_116 (by decide) (fun c_116 => ?_) (fun c_116 => ?_)
              · refine lv_iconst (v := 0) hx hb dX1_isLike_123 (by decide) ?_
                exact cm_rz hC hr hlk (by first | exact Or.inl rfl | exact Or.inr rfl | exact b2i_01 _) (by simp [cLk, b2i, c_4, c_11, c_46, c_58, c_75, c_82, c_116]) (rfl) hH hS dX1_isLike_124
              · refine lv_iconst (v := 1) hx hb dX1_isLike_119 (by decide) ?_
                refine lv_goto (tgt := 124) hx hb dX1_isLike_120 (by decide) ?_
                exact cm_rz hC hr hlk (by first | exact Or.inl rfl | exact Or.inr rfl | exact b2i_01 _) (by simp [cLk, b2i, c_4, c_11, c_46, c_58, c_75, c_82, c_116]) (rfl) hH hS dX1_isLike_124
            · have c_82 := b2i_t c_82
              refine lv_aload_n hx hb dX1_isLike_85 rfl (lv_at hl 0 rfl) ?_
              refine hr_cg hC hK hH j (by omega) 1 (by decide) qF_X1_15 rfl rfl dX1_isLike_86 ?_
              refine lv_aload_n hx hb dX1_isLike_89 rfl (lv_at hl 1 rfl) ?_
              refine hr_cg hC hK hH i (by omega) 1 (by decide) qF_X1_15 rfl rfl dX1_isLike_90 ?_
              refine W.lcmp hx hb dX1_isLike_93 ?_
              refine lv_if_ne (tgt := 101) hx hb dX1_isLike_94 (by decide) (fun c_94 => ?_) (fun c_94 => ?_)
              · have c_94 := lc_neT c_94
                refine lv_iconst (v := 0) hx hb dX1_isLike_101 (by decide) ?_
                exact cm_rz hC hr hlk (by first | exact Or.inl rfl | exact Or.inr rfl | exact b2i_01 _) (by simp [cLk, b2i, c_4, c_11, c_46, c_58, c_75, c_82, c_94]) (rfl) hH hS dX1_isLike_102
              · have c_94 := lc_neF c_94
                refine lv_iconst (v := 1) hx hb dX1_isLike_97 (by decide) ?_
                refine lv_goto (tgt := 102) hx hb dX1_isLike_98 (by decide) ?_
                exact cm_rz hC hr hlk (by first | exact Or.inl rfl | exact Or.inr rfl | exact b2i_01 _) (by simp [cLk, b2i, c_4, c_11, c_46, c_58, c_75, c_82, c_94]) (rfl) hH hS dX1_isLike_102
    · have c_11 := b2i_f c_11
      refine lv_aload_n hx hb dX1_isLike_14 rfl (lv_at hl 0 rfl) ?_
      refine cm_V (As' := []) (rest := []) hC (c_X1_isValue (j := j) (by omega)) mv_X1_isValue qM_X1_44 ⟨⟨rfl, rfl⟩, Nat.le_of_ble_eq_true rfl, Nat.le_of_ble_eq_true rfl⟩ hK hH hS hA (hp.recv hK hH (i := 4 + j) (by omega) (hct_c (by omega)) rfl) hl.1 ⟨Nat.zero_le _, Nat.zero_le _⟩ rfl rfl (Nat.le_of_ble_eq_true rfl) dX1_isLike_15 (fun H locs hH hS => ?_)
      refine lv_aload_n hx hb dX1_isLike_18 rfl (lv_at hl 1 rfl) ?_
      refine cm_V (As' := []) (rest := [.int (b2i (cV (cl j)))]) hC (c_X1_isValue (j := i) (by omega)) mv_X1_isValue qM_X1_44 ⟨⟨rfl, rfl⟩, Nat.le_of_ble_eq_true rfl, Nat.le_of_ble_eq_true rfl⟩ hK hH hS hA (hp.recv hK hH (i := 4 + i) (by omega) (hct_c (by omega)) rfl) hl.1 ⟨Nat.zero_le _, Nat.zero_le _⟩ rfl rfl (Nat.le_of_ble_eq_true rfl) dX1_isLike_19 (fun H locs hH hS => ?_)
      refine lv_icmp_ne (tgt := 40) hx hb dX1_isLike_22 (by decide) (fun c_22 => ?_) (fun c_22 => ?_)
      · have c_22 := b2i_nej c_22
        refine lv_iconst (v := 0) hx hb dX1_isLike_40 (by decide) ?_
        exact cm_rz hC hr hlk (by first | exact Or.inl rfl | exact Or.inr rfl | exact b2i_01 _) (by rw [cLk_n1 (by simp [c_11]) c_22]; rfl) (rfl) hH hS dX1_isLike_41
      · have c_22 := b2i_inj c_22
        refine lv_aload_n hx hb dX1_isLike_25 rfl (lv_at hl 0 rfl) ?_
        refine hr_cg hC hK hH j (by omega) 3 (by decide) qF_X1_23 rfl rfl dX1_isLike_26 ?_
        refine lv_aload_n hx hb dX1_isLike_29 rfl (lv_at hl 1 rfl) ?_
        refine hr_cg hC hK hH i (by omega) 3 (by decide) qF_X1_23 rfl rfl dX1_isLike_30 ?_
        refine lv_acmp_ne (tgt := 40) hx hb dX1_isLike_33 (by decide) (fun c_33 => ?_) (fun c_33 => ?_)
        · have c33 : ¬ (cl j).2.2.2 = (cl i).2.2.2 := fun e => c_33 (by rw [e])
          refine lv_iconst (v := 0) hx hb dX1_isLike_40 (by decide) ?_
          exact cm_rz hC hr hlk (by first | exact Or.inl rfl | exact Or.inr rfl | exact b2i_01 _) (by rw [cLk_n3 (by simp [c_11]) c33]; rfl) (rfl) hH hS dX1_isLike_41
        · have c33 : (cl j).2.2.2 = (cl i).2.2.2 := rfO_inj hH hqj hqi c_33
          refine lv_iconst (v := 1) hx hb dX1_isLike_36 (by decide) ?_
          refine lv_goto (tgt := 41) hx hb dX1_isLike_37 (by decide) ?_
          exact cm_rz hC hr hlk (by first | exact Or.inl rfl | exact Or.inr rfl | exact b2i_01 _) (by rw [cLk_n2 (by simp [c_11]) c_22 c33]; rfl) (rfl) hH hS dX1_isLike_41
theorem mv_X1_isLess : mvok RX1 yX1_isLess cX1_isLess 2 (some .boolean) 1 := ⟨qK_X1_isLess, qI_X1_isLess, qSel_X1_X1_isLess, qInit_X1, by decide +kernel⟩
set_option maxHeartbeats 4000000 in
set_option maxRecDepth 100000 in
theorem c_X1_isLess {l : Launch} {D : va_G} {cy : Nat → ClassId} {ad : Nat → Nat} {P : AS} {wy : Int32} {cl : Nat → CE} {st : Nat → Nat} {tg : Nat → Int32} {j i : Nat} (hj : j < 26) (hi : i < 26) : CM l yX1_isLess cX1_isLess 2 (some .boolean) (rm_ 2 41) D cy (30 + 2 * P.n) ad [.ref (ad (4 + j)), .ref (ad (4 + i))] (hct cy ad P wy cl st tg) (some (.int (b2i (cLs (cl j) (cl i))))) (hct cy ad P wy cl st tg) := by
  refine CM.start (by decide) (Nat.le_of_ble_eq_true rfl) ?_
  intro p_ e_ s m_ below meth cd A ls hC hr hlk hin hK hA hH hl
  obtain ⟨hx, hb, hml, hown, hts⟩ := id hC
  have hS : va_S A s.heap s.heap [] := va_S.rf
  have hl : lv_has ls 2 [(0, .ref (ad (4 + j))), (1, .ref (ad (4 + i)))] := hl
  refine lv_aload_n hx hb dX1_isLess_0 rfl (lv_at hl 0 rfl) ?_
  refine cm_V (As' := []) (rest := []) hC (c_X1_isWhole (j := j) (by omega)) mv_X1_isWhole qM_X1_40 ⟨⟨rfl, rfl⟩, Nat.le_of_ble_eq_true rfl, Nat.le_of_ble_eq_true rfl⟩ hK hH hS hA (hp.recv hK hH (i := 4 + j) (by omega) (hct_c (by omega)) rfl) hl.1 ⟨Nat.zero_le _, Nat.zero_le _⟩ rfl rfl (Nat.le_of_ble_eq_true rfl) dX1_isLess_1 (fun H locs hH hS => ?_)
  refine lv_if_eq (tgt := 32) hx hb dX1_isLess_4 (by decide) (fun c_4 => ?_) (fun c_4 => ?_)
  · have c_4 := b2i_f c_4
    refine lv_aload_n hx hb dX1_isLess_32 rfl (lv_at hl 0 rfl) ?_
    refine lv_bipush (v := 7) hx hb dX1_isLess_33 (by decide) ?_
    refine cm_V (As' := [.int (7)]) (rest := []) hC (c_X1_pointAs (j := j) (k := 7) (by omega) (by omega)) mv_X1_pointAs qM_X1_47 ⟨⟨rfl, rfl⟩, Nat.le_of_ble_eq_true rfl, Nat.le_of_ble_eq_true rfl⟩ hK hH hS hA (hp.recv hK hH (i := 4 + j) (by omega) (hct_c (by omega)) rfl) hl.1 ⟨Nat.zero_le _, Nat.zero_le _⟩ rfl rfl (Nat.le_of_ble_eq_true rfl) dX1_isLess_35 (fun H locs hH hS => ?_)
    refine lv_aload_n hx hb dX1_isLess_38 rfl (lv_at hl 1 rfl) ?_
    refine lv_bipush (v := 7) hx hb dX1_isLess_39 (by decide) ?_
    refine cm_V (As' := [.int (7)]) (rest := [.double (cP (cl j) 7)]) hC (c_X1_pointAs (j := i) (k := 7) (by omega) (by omega)) mv_X1_pointAs qM_X1_47 ⟨⟨rfl, rfl⟩, Nat.le_of_ble_eq_true rfl, Nat.le_of_ble_eq_true rfl⟩ hK hH hS hA (hp.recv hK hH (i := 4 + i) (by omega) (hct_c (by omega)) rfl) hl.1 ⟨Nat.zero_le _, Nat.zero_le _⟩ rfl rfl (Nat.le_of_ble_eq_true rfl) dX1_isLess_41 (fun H locs hH hS => ?_)
    refine lv_dcmp hx hb dX1_isLess_44 ?_
    refine lv_if_ge (tgt := 52) hx hb dX1_isLess_45 (by decide) (fun c_45 => ?_) (fun c_45 => ?_)
    · refine lv_iconst (v := 0) hx hb dX1_isLess_52 (by decide) ?_
      exact cm_rz hC hr hlk (by first | exact Or.inl rfl | exact Or.inr rfl | exact b2i_01 _) (by simp [cLs, b2i, c_4, c_45]) (rfl) hH hS dX1_isLess_53
    · refine lv_iconst (v := 1) hx hb dX1_isLess_48 (by decide) ?_
      refine lv_goto (tgt := 53) hx hb dX1_isLess_49 (by decide) ?_
      exact cm_rz hC hr hlk (by first | exact Or.inl rfl | exact Or.inr rfl | exact b2i_01 _) (by simp [cLs, b2i, c_4, c_45]) (rfl) hH hS dX1_isLess_53
  · have c_4 := b2i_t c_4
    refine lv_aload_n hx hb dX1_isLess_7 rfl (lv_at hl 1 rfl) ?_
    refine cm_V (As' := []) (rest := []) hC (c_X1_isWhole (j := i) (by omega)) mv_X1_isWhole qM_X1_40 ⟨⟨rfl, rfl⟩, Nat.le_of_ble_eq_true rfl, Nat.le_of_ble_eq_true rfl⟩ hK hH hS hA (hp.recv hK hH (i := 4 + i) (by omega) (hct_c (by omega)) rfl) hl.1 ⟨Nat.zero_le _, Nat.zero_le _⟩ rfl rfl (Nat.le_of_ble_eq_true rfl) dX1_isLess_8 (fun H locs hH hS => ?_)
    refine lv_if_eq (tgt := 32) hx hb dX1_isLess_11 (by decide) (fun c_11 => ?_) (fun c_11 => ?_)
    · have c_11 := b2i_f c_11
      refine lv_aload_n hx hb dX1_isLess_32 rfl (lv_at hl 0 rfl) ?_
      refine lv_bipush (v := 7) hx hb dX1_isLess_33 (by decide) ?_
      refine cm_V (As' := [.int (7)]) (rest := []) hC (c_X1_pointAs (j := j) (k := 7) (by omega) (by omega)) mv_X1_pointAs qM_X1_47 ⟨⟨rfl, rfl⟩, Nat.le_of_ble_eq_true rfl, Nat.le_of_ble_eq_true rfl⟩ hK hH hS hA (hp.recv hK hH (i := 4 + j) (by omega) (hct_c (by omega)) rfl) hl.1 ⟨Nat.zero_le _, Nat.zero_le _⟩ rfl rfl (Nat.le_of_ble_eq_true rfl) dX1_isLess_35 (fun H locs hH hS => ?_)
      refine lv_aload_n hx hb dX1_isLess_38 rfl (lv_at hl 1 rfl) ?_
      refine lv_bipush (v := 7) hx hb dX1_isLess_39 (by decide) ?_
      refine cm_V (As' := [.int (7)]) (rest := [.double (cP (cl j) 7)]) hC (c_X1_pointAs (j := i) (k := 7) (by omega) (by omega)) mv_X1_pointAs qM_X1_47 ⟨⟨rfl, rfl⟩, Nat.le_of_ble_eq_true rfl, Nat.le_of_ble_eq_true rfl⟩ hK hH hS hA (hp.recv hK hH (i := 4 + i) (by omega) (hct_c (by omega)) rfl) hl.1 ⟨Nat.zero_le _, Nat.zero_le _⟩ rfl rfl (Nat.le_of_ble_eq_true rfl) dX1_isLess_41 (fun H locs hH hS => ?_)
      refine lv_dcmp hx hb dX1_isLess_44 ?_
      refine lv_if_ge (tgt := 52) hx hb dX1_isLess_45 (by decide) (fun c_45 => ?_) (fun c_45 => ?_)
      · refine lv_iconst (v := 0) hx hb dX1_isLess_52 (by decide) ?_
        exact cm_rz hC hr hlk (by first | exact Or.inl rfl | exact Or.inr rfl | exact b2i_01 _) (by simp [cLs, b2i, c_4, c_11, c_45]) (rfl) hH hS dX1_isLess_53
      · refine lv_iconst (v := 1) hx hb dX1_isLess_48 (by decide) ?_
        refine lv_goto (tgt := 53) hx hb dX1_isLess_49 (by decide) ?_
        exact cm_rz hC hr hlk (by first | exact Or.inl rfl | exact Or.inr rfl | exact b2i_01 _) (by simp [cLs, b2i, c_4, c_11, c_45]) (rfl) hH hS dX1_isLess_53
    · have c_11 := b2i_t c_11
      refine lv_aload_n hx hb dX1_isLess_14 rfl (lv_at hl 0 rfl) ?_
      refine hr_cg hC hK hH j (by omega) 1 (by decide) qF_X1_15 rfl rfl dX1_isLess_15 ?_
      refine lv_aload_n hx hb dX1_isLess_18 rfl (lv_at hl 1 rfl) ?_
      refine hr_cg hC hK hH i (by omega) 1 (by decide) qF_X1_15 rfl rfl dX1_isLess_19 ?_
      refine W.lcmp hx hb dX1_isLess_22 ?_
      refine lv_if_ge (tgt := 30) hx hb dX1_isLess_23 (by decide) (fun c_23 => ?_) (fun c_23 => ?_)
      · have c_23 := lc_geT c_23
        refine lv_iconst (v := 0) hx hb dX1_isLess_30 (by decide) ?_
        exact cm_rz hC hr hlk (by first | exact Or.inl rfl | exact Or.inr rfl | exact b2i_01 _) (by simp [cLs, b2i, c_4, c_11, c_23]) (rfl) hH hS dX1_isLess_31
      · have c_23 := lc_geF c_23
        refine lv_iconst (v := 1) hx hb dX1_isLess_26 (by decide) ?_
        refine lv_goto (tgt := 31) hx hb dX1_isLess_27 (by decide) ?_
        exact cm_rz hC hr hlk (by first | exact Or.inl rfl | exact Or.inr rfl | exact b2i_01 _) (by simp [cLs, b2i, c_4, c_11, c_23]) (rfl) hH hS dX1_isLess_31
set_option maxHeartbeats 4000000 in
set_option maxRecDepth 100000 in
theorem c_X6_length {l : Launch} {D : va_G} {cy : Nat → ClassId} {ad : Nat → Nat} {P : AS} {wy : Int32} {cl : Nat → CE} {st : Nat → Nat} {tg : Nat → Int32} {t : Nat} (hw : WF P) (ht : t < P.n) (h6 : P.kd t ≤ 5) : CM l yX6_length cX6_length 1 (some .int) (rm_ 0 0) D cy (30 + 2 * P.n) ad [.ref (ad (30 + 2 * t))] (hct cy ad P wy cl st tg) (some (.int (nI (P.ln t)))) (hct cy ad P wy cl st tg) := by
  refine CM.start (by decide) (Nat.le_of_ble_eq_true rfl) ?_
  intro p_ e_ s m_ below meth cd A ls hC hr hlk hin hK hA hH hl
  obtain ⟨hx, hb, hml, hown, hts⟩ := id hC
  have hS : va_S A s.heap s.heap [] := va_S.rf
  have hl : lv_has ls 1 [(0, .ref (ad (30 + 2 * t)))] := hl
  refine lv_aload_n hx hb dX6_length_0 rfl (lv_at hl 0 rfl) ?_
  refine hr_a6 hC hK hH t (by omega) (by omega) qF_X6_7 dX6_length_1 ?_
  refine hr_len hC hK hH t (by omega) (by omega) dX6_length_4 ?_
  exact cm_ri hC hr hlk (rfl) (rfl) hH hS dX6_length_5
set_option maxHeartbeats 4000000 in
set_option maxRecDepth 100000 in
theorem c_X6_read {l : Launch} {D : va_G} {cy : Nat → ClassId} {ad : Nat → Nat} {P : AS} {wy : Int32} {cl : Nat → CE} {st : Nat → Nat} {tg : Nat → Int32} {t i j : Nat} (hw : WF P) (ht : t < P.n) (h6 : P.kd t ≤ 5) (hi : i < P.ln t) (hj : j < 26) : CM l yX6_read cX6_read 3 none (rm_ 1 23) D cy (30 + 2 * P.n) ad [.ref (ad (30 + 2 * t)), .int (nI i), .ref (ad (4 + j))] (hct cy ad P wy cl st tg) none (hct cy ad P wy (va_up cl j (rdC P t i (cl j))) st tg) := by
  refine CM.start (by decide) (Nat.le_of_ble_eq_true rfl) ?_
  intro p_ e_ s m_ below meth cd A ls hC hr hlk hin hK hA hH hl
  obtain ⟨hx, hb, hml, hown, hts⟩ := id hC
  have hS : va_S A s.heap s.heap [] := va_S.rf
  have hl : lv_has ls 3 [(0, .ref (ad (30 + 2 * t))), (1, .int (nI i)), (2, .ref (ad (4 + j)))] := hl
  refine lv_aload_n hx hb dX6_read_0 rfl (lv_at hl 2 rfl) ?_
  refine lv_aload_n hx hb dX6_read_1 rfl (lv_at hl 0 rfl) ?_
  refine hr_kd hC hK hw hH t (by omega) qF_X6_13 (Or.inr qSF_X6) dX6_read_2 ?_
  refine lv_aload_n hx hb dX6_read_5 rfl (lv_at hl 0 rfl) ?_
  refine hr_a6 hC hK hH t (by omega) (by omega) qF_X6_7 dX6_read_6 ?_
  refine lv_iload_n hx hb dX6_read_9 rfl (lv_at hl 1 rfl) ?_
  refine hr_wl hC hK hw hH t i (by omega) (by omega) (by omega) dX6_read_10 ?_
  refine cm_V (As' := [.int (nI (P.kd t)), .long (P.wh t i)]) (rest := []) hC (c_X1_holdWhole (j := j) (by omega)) mv_X1_holdWhole qM_X6_17 ⟨⟨rfl, rfl⟩, Nat.le_of_ble_eq_true rfl, Nat.le_of_ble_eq_true rfl⟩ hK hH hS hA (hp.recv hK hH (i := 4 + j) (by omega) (hct_c (by omega)) rfl) hl.1 ⟨Nat.zero_le _, Nat.zero_le _⟩ rfl rfl (Nat.le_of_ble_eq_true rfl) dX6_read_11 (fun H locs hH hS => ?_)
  exact cm_rv hC hr hlk (by unfold rdC; rw [if_pos h6]) hH hS dX6_read_14
set_option maxHeartbeats 4000000 in
set_option maxRecDepth 100000 in
theorem c_X6_write {l : Launch} {D : va_G} {cy : Nat → ClassId} {ad : Nat → Nat} {P : AS} {wy : Int32} {cl : Nat → CE} {st : Nat → Nat} {tg : Nat → Int32} {t i j : Nat} (hw : WF P) (ht : t < P.n) (h6 : P.kd t ≤ 5) (hi : i < P.ln t) (hj : j < 26) (hqj : (cl j).2.2.2 ≤ P.n) : CM l yX6_write cX6_write 3 none (rm_ 0 0) D cy (30 + 2 * P.n) ad [.ref (ad (30 + 2 * t)), .int (nI i), .ref (ad (4 + j))] (hct cy ad P wy cl st tg) none (hct cy ad (wrP P t i (cl j)) wy cl st tg) := by
  refine CM.start (by decide) (Nat.le_of_ble_eq_true rfl) ?_
  intro p_ e_ s m_ below meth cd A ls hC hr hlk hin hK hA hH hl
  obtain ⟨hx, hb, hml, hown, hts⟩ := id hC
  have hS : va_S A s.heap s.heap [] := va_S.rf
  have hl : lv_has ls 3 [(0, .ref (ad (30 + 2 * t))), (1, .int (nI i)), (2, .ref (ad (4 + j)))] := hl
  refine lv_aload_n hx hb dX6_write_0 rfl (lv_at hl 0 rfl) ?_
  refine hr_a6 hC hK hH t (by omega) (by omega) qF_X6_7 dX6_write_1 ?_
  refine lv_iload_n hx hb dX6_write_4 rfl (lv_at hl 1 rfl) ?_
  refine lv_aload_n hx hb dX6_write_5 rfl (lv_at hl 2 rfl) ?_
  refine hr_cg hC hK hH j (by omega) 1 (by decide) qF_X6_23 rfl rfl dX6_write_6 ?_
  refine hr_ws hC hK hw hH hS t i (by omega) (by omega) (by omega) dX6_write_9 (fun H locs hH hS => ?_)
  exact cm_rv hC hr hlk (by rw [wrP_6 h6]) hH hS dX6_write_10
set_option maxHeartbeats 4000000 in
set_option maxRecDepth 100000 in
theorem c_X2_length {l : Launch} {D : va_G} {cy : Nat → ClassId} {ad : Nat → Nat} {P : AS} {wy : Int32} {cl : Nat → CE} {st : Nat → Nat} {tg : Nat → Int32} {t : Nat} (hw : WF P) (ht : t < P.n) (h2 : 6 ≤ P.kd t ∧ P.kd t ≤ 7) : CM l yX2_length cX2_length 1 (some .int) (rm_ 0 0) D cy (30 + 2 * P.n) ad [.ref (ad (30 + 2 * t))] (hct cy ad P wy cl st tg) (some (.int (nI (P.ln t)))) (hct cy ad P wy cl st tg) := by
  refine CM.start (by decide) (Nat.le_of_ble_eq_true rfl) ?_
  intro p_ e_ s m_ below meth cd A ls hC hr hlk hin hK hA hH hl
  obtain ⟨hx, hb, hml, hown, hts⟩ := id hC
  have hS : va_S A s.heap s.heap [] := va_S.rf
  have hl : lv_has ls 1 [(0, .ref (ad (30 + 2 * t)))] := hl
  refine lv_aload_n hx hb dX2_length_0 rfl (lv_at hl 0 rfl) ?_
  refine hr_a2 hC hK hH t (by omega) (by omega) qF_X2_7 dX2_length_1 ?_
  refine hr_len hC hK hH t (by omega) (by omega) dX2_length_4 ?_
  exact cm_ri hC hr hlk (rfl) (rfl) hH hS dX2_length_5
set_option maxHeartbeats 4000000 in
set_option maxRecDepth 100000 in
theorem c_X2_read {l : Launch} {D : va_G} {cy : Nat → ClassId} {ad : Nat → Nat} {P : AS} {wy : Int32} {cl : Nat → CE} {st : Nat → Nat} {tg : Nat → Int32} {t i j : Nat} (hw : WF P) (ht : t < P.n) (h2 : 6 ≤ P.kd t ∧ P.kd t ≤ 7) (hi : i < P.ln t) (hj : j < 26) : CM l yX2_read cX2_read 3 none (rm_ 1 23) D cy (30 + 2 * P.n) ad [.ref (ad (30 + 2 * t)), .int (nI i), .ref (ad (4 + j))] (hct cy ad P wy cl st tg) none (hct cy ad P wy (va_up cl j (rdC P t i (cl j))) st tg) := by
  refine CM.start (by decide) (Nat.le_of_ble_eq_true rfl) ?_
  intro p_ e_ s m_ below meth cd A ls hC hr hlk hin hK hA hH hl
  obtain ⟨hx, hb, hml, hown, hts⟩ := id hC
  have hS : va_S A s.heap s.heap [] := va_S.rf
  have hl : lv_has ls 3 [(0, .ref (ad (30 + 2 * t))), (1, .int (nI i)), (2, .ref (ad (4 + j)))] := hl
  refine lv_aload_n hx hb dX2_read_0 rfl (lv_at hl 2 rfl) ?_
  refine lv_aload_n hx hb dX2_read_1 rfl (lv_at hl 0 rfl) ?_
  refine hr_kd hC hK hw hH t (by omega) qF_X2_13 (Or.inr qSF_X2) dX2_read_2 ?_
  refine lv_aload_n hx hb dX2_read_5 rfl (lv_at hl 0 rfl) ?_
  refine hr_a2 hC hK hH t (by omega) (by omega) qF_X2_7 dX2_read_6 ?_
  refine lv_iload_n hx hb dX2_read_9 rfl (lv_at hl 1 rfl) ?_
  refine hr_pl hC hK hw hH t i (by omega) (by omega) (by omega) dX2_read_10 ?_
  refine cm_V (As' := [.int (nI (P.kd t)), .double (P.re t i)]) (rest := []) hC (c_X1_holdPoint (j := j) (by omega)) mv_X1_holdPoint qM_X2_17 ⟨⟨rfl, rfl⟩, Nat.le_of_ble_eq_true rfl, Nat.le_of_ble_eq_true rfl⟩ hK hH hS hA (hp.recv hK hH (i := 4 + j) (by omega) (hct_c (by omega)) rfl) hl.1 ⟨Nat.zero_le _, Nat.zero_le _⟩ rfl rfl (Nat.le_of_ble_eq_true rfl) dX2_read_11 (fun H locs hH hS => ?_)
  exact cm_rv hC hr hlk (by unfold rdC; rw [if_neg (by omega), if_pos h2.2]) hH hS dX2_read_14
set_option maxHeartbeats 4000000 in
set_option maxRecDepth 100000 in
theorem c_X2_write {l : Launch} {D : va_G} {cy : Nat → ClassId} {ad : Nat → Nat} {P : AS} {wy : Int32} {cl : Nat → CE} {st : Nat → Nat} {tg : Nat → Int32} {t i j : Nat} (hw : WF P) (ht : t < P.n) (h2 : 6 ≤ P.kd t ∧ P.kd t ≤ 7) (hi : i < P.ln t) (hj : j < 26) (hqj : (cl j).2.2.2 ≤ P.n) : CM l yX2_write cX2_write 3 none (rm_ 2 41) D cy (30 + 2 * P.n) ad [.ref (ad (30 + 2 * t)), .int (nI i), .ref (ad (4 + j))] (hct cy ad P wy cl st tg) none (hct cy ad (wrP P t i (cl j)) wy cl st tg) := by
  refine CM.start (by decide) (Nat.le_of_ble_eq_true rfl) ?_
  intro p_ e_ s m_ below meth cd A ls hC hr hlk hin hK hA hH hl
  obtain ⟨hx, hb, hml, hown, hts⟩ := id hC
  have hS : va_S A s.heap s.heap [] := va_S.rf
  have hl : lv_has ls 3 [(0, .ref (ad (30 + 2 * t))), (1, .int (nI i)), (2, .ref (ad (4 + j)))] := hl
  refine lv_aload_n hx hb dX2_write_0 rfl (lv_at hl 0 rfl) ?_
  refine hr_a2 hC hK hH t (by omega) (by omega) qF_X2_7 dX2_write_1 ?_
  refine lv_iload_n hx hb dX2_write_4 rfl (lv_at hl 1 rfl) ?_
  refine lv_aload_n hx hb dX2_write_5 rfl (lv_at hl 2 rfl) ?_
  refine lv_aload_n hx hb dX2_write_6 rfl (lv_at hl 0 rfl) ?_
  refine hr_kd hC hK hw hH t (by omega) qF_X2_13 (Or.inr qSF_X2) dX2_write_7 ?_
  refine cm_V (As' := [.int (nI (P.kd t))]) (rest := [.int (nI i), .ref (ad (31 + 2 * t))]) hC (c_X1_pointAs (j := j) (k := (P.kd t)) (by omega) (by omega)) mv_X1_pointAs qM_X2_23 ⟨⟨rfl, rfl⟩, Nat.le_of_ble_eq_true rfl, Nat.le_of_ble_eq_true rfl⟩ hK hH hS hA (hp.recv hK hH (i := 4 + j) (by omega) (hct_c (by omega)) rfl) hl.1 ⟨Nat.zero_le _, Nat.zero_le _⟩ rfl rfl (Nat.le_of_ble_eq_true rfl) dX2_write_10 (fun H locs hH hS => ?_)
  refine hr_ps hC hK hw hH hS t i (by omega) (by omega) (by omega) dX2_write_13 (fun H locs hH hS => ?_)
  exact cm_rv hC hr hlk (by rw [wrP_2 h2]) hH hS dX2_write_14
set_option maxHeartbeats 4000000 in
set_option maxRecDepth 100000 in
theorem c_X5_length {l : Launch} {D : va_G} {cy : Nat → ClassId} {ad : Nat → Nat} {P : AS} {wy : Int32} {cl : Nat → CE} {st : Nat → Nat} {tg : Nat → Int32} {t : Nat} (hw : WF P) (ht : t < P.n) (h5 : 8 ≤ P.kd t ∧ P.kd t ≤ 11) : CM l yX5_length cX5_length 1 (some .int) (rm_ 0 0) D cy (30 + 2 * P.n) ad [.ref (ad (30 + 2 * t))] (hct cy ad P wy cl st tg) (some (.int (nI (P.ln t)))) (hct cy ad P wy cl st tg) := by
  refine CM.start (by decide) (Nat.le_of_ble_eq_true rfl) ?_
  intro p_ e_ s m_ below meth cd A ls hC hr hlk hin hK hA hH hl
  obtain ⟨hx, hb, hml, hown, hts⟩ := id hC
  have hS : va_S A s.heap s.heap [] := va_S.rf
  have hl : lv_has ls 1 [(0, .ref (ad (30 + 2 * t)))] := hl
  refine lv_aload_n hx hb dX5_length_0 rfl (lv_at hl 0 rfl) ?_
  refine hr_a5 hC hK hH t (by omega) (by omega) qF_X5_9 dX5_length_1 ?_
  refine hr_len hC hK hH t (by omega) (by omega) dX5_length_4 ?_
  exact cm_ri hC hr hlk (rfl) (rfl) hH hS dX5_length_5
set_option maxHeartbeats 4000000 in
set_option maxRecDepth 100000 in
theorem c_X5_read {l : Launch} {D : va_G} {cy : Nat → ClassId} {ad : Nat → Nat} {P : AS} {wy : Int32} {cl : Nat → CE} {st : Nat → Nat} {tg : Nat → Int32} {t i j : Nat} (hw : WF P) (ht : t < P.n) (h5 : 8 ≤ P.kd t ∧ P.kd t ≤ 11) (hi : i < P.ln t) (hj : j < 26) : CM l yX5_read cX5_read 3 none (rm_ 1 21) D cy (30 + 2 * P.n) ad [.ref (ad (30 + 2 * t)), .int (nI i), .ref (ad (4 + j))] (hct cy ad P wy cl st tg) none (hct cy ad P wy (va_up cl j (rdC P t i (cl j))) st tg) := by
  refine CM.start (by decide) (Nat.le_of_ble_eq_true rfl) ?_
  intro p_ e_ s m_ below meth cd A ls hC hr hlk hin hK hA hH hl
  obtain ⟨hx, hb, hml, hown, hts⟩ := id hC
  have hS : va_S A s.heap s.heap [] := va_S.rf
  have hl : lv_has ls 3 [(0, .ref (ad (30 + 2 * t))), (1, .int (nI i)), (2, .ref (ad (4 + j)))] := hl
  refine lv_aload_n hx hb dX5_read_0 rfl (lv_at hl 2 rfl) ?_
  refine lv_aload_n hx hb dX5_read_1 rfl (lv_at hl 0 rfl) ?_
  refine hr_a5 hC hK hH t (by omega) (by omega) qF_X5_9 dX5_read_2 ?_
  refine lv_iload_n hx hb dX5_read_5 rfl (lv_at hl 1 rfl) ?_
  refine hr_tl hC hK hw hH t i (by omega) (by omega) (by omega) dX5_read_6 ?_
  refine cm_V (As' := [va_rf (rfO ad (P.wh t i).toNatClampNeg)]) (rest := []) hC (c_X1_holdThing (j := j) (q := (P.wh t i).toNatClampNeg) (by omega)) mv_X1_holdThing qM_X5_15 ⟨⟨rfl, rfl⟩, Nat.le_of_ble_eq_true rfl, Nat.le_of_ble_eq_true rfl⟩ hK hH hS hA (hp.recv hK hH (i := 4 + j) (by omega) (hct_c (by omega)) rfl) hl.1 ⟨Nat.zero_le _, Nat.zero_le _⟩ rfl rfl (Nat.le_of_ble_eq_true rfl) dX5_read_7 (fun H locs hH hS => ?_)
  exact cm_rv hC hr hlk (by unfold rdC; rw [if_neg (by omega), if_neg (by omega)]) hH hS dX5_read_10
set_option maxHeartbeats 4000000 in
set_option maxRecDepth 100000 in
theorem c_X5_write {l : Launch} {D : va_G} {cy : Nat → ClassId} {ad : Nat → Nat} {P : AS} {wy : Int32} {cl : Nat → CE} {st : Nat → Nat} {tg : Nat → Int32} {t i j : Nat} (hw : WF P) (ht : t < P.n) (h5 : 8 ≤ P.kd t ∧ P.kd t ≤ 11) (hi : i < P.ln t) (hj : j < 26) (hqj : (cl j).2.2.2 ≤ P.n) : CM l yX5_write cX5_write 3 none (rm_ 0 0) D cy (30 + 2 * P.n) ad [.ref (ad (30 + 2 * t)), .int (nI i), .ref (ad (4 + j))] (hct cy ad P wy cl st tg) none (hct cy ad (wrP P t i (cl j)) wy cl st tg) := by
  refine CM.start (by decide) (Nat.le_of_ble_eq_true rfl) ?_
  intro p_ e_ s m_ below meth cd A ls hC hr hlk hin hK hA hH hl
  obtain ⟨hx, hb, hml, hown, hts⟩ := id hC
  have hS : va_S A s.heap s.heap [] := va_S.rf
  have hl : lv_has ls 3 [(0, .ref (ad (30 + 2 * t))), (1, .int (nI i)), (2, .ref (ad (4 + j)))] := hl
  refine lv_aload_n hx hb dX5_write_0 rfl (lv_at hl 0 rfl) ?_
  refine hr_a5 hC hK hH t (by omega) (by omega) qF_X5_9 dX5_write_1 ?_
  refine lv_iload_n hx hb dX5_write_4 rfl (lv_at hl 1 rfl) ?_
  refine lv_aload_n hx hb dX5_write_5 rfl (lv_at hl 2 rfl) ?_
  refine hr_cg hC hK hH j (by omega) 3 (by decide) qF_X5_21 rfl rfl dX5_write_6 ?_
  refine hr_tgs hC hK hw hH hS t i ((cl j).2.2.2) (by omega) (by omega) (by omega) (by omega) dX5_write_9 (fun H locs hH hS => ?_)
  exact cm_rv hC hr hlk (by rw [wrP_5 h5]) hH hS dX5_write_10
set_option maxHeartbeats 4000000 in
set_option maxRecDepth 100000 in
theorem c_X0_measure {l : Launch} {D : va_G} {cy : Nat → ClassId} {ad : Nat → Nat} {P : AS} {wy : Int32} {cl : Nat → CE} {st : Nat → Nat} {tg : Nat → Int32} {t : Nat} (ht : t < P.n) (h0 : 12 ≤ P.kd t) : CM l yX0_measure cX0_measure 1 (some .int) (rm_ 0 0) D cy (30 + 2 * P.n) ad [.ref (ad (30 + 2 * t))] (hct cy ad P wy cl st tg) (some (.int (P.tg t))) (hct cy ad P wy cl st tg) := by
  refine CM.start (by decide) (Nat.le_of_ble_eq_true rfl) ?_
  intro p_ e_ s m_ below meth cd A ls hC hr hlk hin hK hA hH hl
  obtain ⟨hx, hb, hml, hown, hts⟩ := id hC
  have hS : va_S A s.heap s.heap [] := va_S.rf
  have hl : lv_has ls 1 [(0, .ref (ad (30 + 2 * t)))] := hl
  refine lv_aload_n hx hb dX0_measure_0 rfl (lv_at hl 0 rfl) ?_
  refine hr_tag hC hK hH t (by omega) (by omega) qF_X0_7 dX0_measure_1 ?_
  exact cm_ri hC hr hlk (rfl) (rfl) hH hS dX0_measure_4
