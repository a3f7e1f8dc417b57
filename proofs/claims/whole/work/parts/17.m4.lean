theorem mv_X8_putThing : mvok RX8 yX8_putThing cX8_putThing 5 (some .int) 3 := ⟨qK_X8_putThing, qI_X8_putThing, qSel_X8_X8_putThing, qInit_X8, by decide +kernel⟩
set_option maxHeartbeats 4000000 in
set_option maxRecDepth 100000 in
theorem c_X8_putThing {l : Launch} {D : va_G} {cy : Nat → ClassId} {ad : Nat → Nat} {P : AS} {wy : Int32} {so : Int32} {w : Int64} {r : UInt64} {ns : Nat → Int32} {nw : Nat → Int64} {nr : Nat → UInt64} {fr : Nat → Int32} {tt : Nat → Int32} {c i d : Int32} (hw : WF P)  : CX l yX8_putThing cX8_putThing 5 (some .int) (rm_ 3 65) D cy 13 ad [.ref (ad 0), .int (c), .int (i), .int (d)] (mct cy ad P wy so w r ns nw nr fr tt) (mpost cy ad (sp_putThing P c i d)) := by
  refine CX.start (by decide) (Nat.le_of_ble_eq_true rfl) ?_
  intro p_ e_ s m_ below meth cd A ls hC hr hlk hin hK hA hH hl
  obtain ⟨hx, hb, hml, hown, hts⟩ := id hC
  have hS : va_S A s.heap s.heap [] := va_S.rf
  have hl : lv_has ls 5 [(0, .ref (ad 0)), (1, .int (c)), (2, .int (i)), (3, .int (d))] := hl
  refine lv_aload_n hx hb dX8_putThing_0 rfl (lv_at hl 0 rfl) ?_
  refine lv_iconst (v := 0) hx hb dX8_putThing_1 (by decide) ?_
  refine g_put (ct' := mct cy ad P 0 so w r ns nw nr fr tt) hC hK inG8 tyX8 tyX8_ok nmX8 hH hS 0 (by decide) rfl rfl 8 (by decide) qF_X8_48 rfl rfl rfl rfl (Nat.le_of_ble_eq_true rfl) rfl mct_0 dX8_putThing_2 (fun H locs hH hS => ?_)
  refine lv_iload_n hx hb dX8_putThing_5 rfl (lv_at hl 1 rfl) ?_
  refine cm_S (As := [.int (c)]) (rest := []) hC (c_X8_isColumn) ms_X8_isColumn qM_X8_102 ⟨⟨rfl, rfl⟩, Nat.le_of_ble_eq_true rfl, Nat.le_of_ble_eq_true rfl⟩ hK hH hS hA hl.1 ⟨Nat.zero_le _, Nat.zero_le _⟩ rfl rfl (Nat.le_of_ble_eq_true rfl) dX8_putThing_6 (fun H locs hH hS => ?_)
  refine lv_if_eq (tgt := 19) hx hb dX8_putThing_9 (by decide) (fun c_9 => ?_) (fun c_9 => ?_)
  · have c_9 := b2i_f c_9
    refine lv_aload_n hx hb dX8_putThing_19 rfl (lv_at hl 0 rfl) ?_
    refine lv_iconst (v := 1) hx hb dX8_putThing_20 (by decide) ?_
    refine cm_V (As' := [.int (1)]) (rest := []) hC (c_X8_refuse) mv_X8_refuse qM_X8_105 ⟨⟨rfl, rfl⟩, Nat.le_of_ble_eq_true rfl, Nat.le_of_ble_eq_true rfl⟩ hK hH hS hA (hp.recv hK hH (i := 0) (by decide) rfl rfl) hl.1 ⟨Nat.zero_le _, Nat.zero_le _⟩ rfl rfl (Nat.le_of_ble_eq_true rfl) dX8_putThing_21 (fun H locs hH hS => ?_)
    exact cx_ri hC hr hlk (mpost.mk (by simp [sp_putThing, rf, fitP_0, c_9] <;> rfl)) hH hS dX8_putThing_24
  · have c_9 := b2i_t c_9
    obtain ⟨j, hj, rfl⟩ := isC_ex c_9
    refine lv_iload_n hx hb dX8_putThing_12 rfl (lv_at hl 3 rfl) ?_
    refine cm_S (As := [.int (d)]) (rest := []) hC (c_X8_isColumn) ms_X8_isColumn qM_X8_102 ⟨⟨rfl, rfl⟩, Nat.le_of_ble_eq_true rfl, Nat.le_of_ble_eq_true rfl⟩ hK hH hS hA hl.1 ⟨Nat.zero_le _, Nat.zero_le _⟩ rfl rfl (Nat.le_of_ble_eq_true rfl) dX8_putThing_13 (fun H locs hH hS => ?_)
    refine lv_if_ne (tgt := 25) hx hb dX8_putThing_16 (by decide) (fun c_16 => ?_) (fun c_16 => ?_)
    · have c_16 := b2i_t c_16
      obtain ⟨k, hk, rfl⟩ := isC_ex c_16
      refine lv_aload_n hx hb dX8_putThing_25 rfl (lv_at hl 0 rfl) ?_
      refine lv_iload_n hx hb dX8_putThing_26 rfl (lv_at hl 1 rfl) ?_
      refine lv_iload_n hx hb dX8_putThing_27 rfl (lv_at hl 2 rfl) ?_
      refine cm_V (As' := [.int (nI j), .int (i)]) (rest := []) hC (c_X8_reasonOfPlace hj hw) mv_X8_reasonOfPlace qM_X8_120 ⟨⟨rfl, rfl⟩, Nat.le_of_ble_eq_true rfl, Nat.le_of_ble_eq_true rfl⟩ hK hH hS hA (hp.recv hK hH (i := 0) (by decide) rfl rfl) hl.1 ⟨Nat.zero_le _, Nat.zero_le _⟩ rfl rfl (Nat.le_of_ble_eq_true rfl) dX8_putThing_28 (fun H locs hH hS => ?_)
      refine lv_istore (lv' := [(4, .int (nI (rsPl P j i))), (0, .ref (ad 0)), (1, .int (nI j)), (2, .int (i)), (3, .int (nI k))]) hx hb dX8_putThing_31 hl (by decide) rfl (fun ls hl => ?_)
      have hb1 := rsPl_le P j i
      refine lv_iload hx hb dX8_putThing_33 (lv_at hl 0 rfl) ?_
      refine lv_if_le (tgt := 45) hx hb dX8_putThing_35 (by decide) (fun c_35 => ?_) (fun c_35 => ?_)
      · have c_35 : (rsPl P j i) = 0 := by have h9 := nc_le (a := (rsPl P j i)) (b := 0) (by omega) (by omega) c_35; omega
        obtain ⟨t, q, h1j, hkt, hqt, rfl⟩ := rsPl_0 c_35
        have htt : t < 513 := by have := hw.2.2.2.1 j; have := hw.2.2.1; omega
        have hlt := hw.2.1 t
        have hn513 := hw.2.2.1
        refine lv_aload_n hx hb dX8_putThing_45 rfl (lv_at hl 1 rfl) ?_
        refine lv_aload_n hx hb dX8_putThing_46 rfl (lv_at hl 1 rfl) ?_
        refine lv_iload_n hx hb dX8_putThing_47 rfl (lv_at hl 2 rfl) ?_
        refine cm_V (As' := [.int (nI j)]) (rest := [.ref (ad 0)]) hC (c_X8_in1 hj h1j) mv_X8_in qM_X8_56 ⟨⟨rfl, rfl⟩, Nat.le_of_ble_eq_true rfl, Nat.le_of_ble_eq_true rfl⟩ hK hH hS hA (hp.recv hK hH (i := 0) (by decide) rfl rfl) hl.1 ⟨Nat.zero_le _, Nat.zero_le _⟩ rfl rfl (Nat.le_of_ble_eq_true rfl) dX8_putThing_48 (fun H locs hH hS => ?_)
        refine cm_V (As' := [.int (nI t)]) (rest := []) hC (c_X8_isPlain (by omega) hw) mv_X8_isPlain qM_X8_91 ⟨⟨rfl, rfl⟩, Nat.le_of_ble_eq_true rfl, Nat.le_of_ble_eq_true rfl⟩ hK hH hS hA (hp.recv hK hH (i := 0) (by decide) rfl rfl) hl.1 ⟨Nat.zero_le _, Nat.zero_le _⟩ rfl rfl (Nat.le_of_ble_eq_true rfl) dX8_putThing_51 (fun H locs hH hS => ?_)
        refine lv_if_ne (tgt := 76) hx hb dX8_putThing_54 (by decide) (fun c_54 => ?_) (fun c_54 => ?_)
        · have c_54 := b2d_t c_54
          refine lv_aload_n hx hb dX8_putThing_76 rfl (lv_at hl 1 rfl) ?_
          refine lv_iconst (v := 5) hx hb dX8_putThing_77 (by decide) ?_
          refine cm_V (As' := [.int (5)]) (rest := []) hC (c_X8_refuse) mv_X8_refuse qM_X8_105 ⟨⟨rfl, rfl⟩, Nat.le_of_ble_eq_true rfl, Nat.le_of_ble_eq_true rfl⟩ hK hH hS hA (hp.recv hK hH (i := 0) (by decide) rfl rfl) hl.1 ⟨Nat.zero_le _, Nat.zero_le _⟩ rfl rfl (Nat.le_of_ble_eq_true rfl) dX8_putThing_78 (fun H locs hH hS => ?_)
          exact cx_ri hC hr hlk (mpost.mk (by simp [sp_putThing, rf, fitP_0, c_9, cN_c hj, c_16, cN_c hk, c_35, h1j, cN_p hw hqt, show ¬ 8 ≤ P.kd t by omega] <;> rfl)) hH hS dX8_putThing_81
        · have c_54 := b2d_f c_54
          have hbk := hw.2.2.2.1 k
          refine lv_aload_n hx hb dX8_putThing_57 rfl (lv_at hl 1 rfl) ?_
          refine lv_aload_n hx hb dX8_putThing_58 rfl (lv_at hl 1 rfl) ?_
          refine lv_iload_n hx hb dX8_putThing_59 rfl (lv_at hl 2 rfl) ?_
          refine cm_V (As' := [.int (nI j)]) (rest := [.ref (ad 0)]) hC (c_X8_in1 hj h1j) mv_X8_in qM_X8_56 ⟨⟨rfl, rfl⟩, Nat.le_of_ble_eq_true rfl, Nat.le_of_ble_eq_true rfl⟩ hK hH hS hA (hp.recv hK hH (i := 0) (by decide) rfl rfl) hl.1 ⟨Nat.zero_le _, Nat.zero_le _⟩ rfl rfl (Nat.le_of_ble_eq_true rfl) dX8_putThing_60 (fun H locs hH hS => ?_)
          refine lv_aload_n hx hb dX8_putThing_63 rfl (lv_at hl 1 rfl) ?_
          refine g_get hC hK inG8 hH 0 (by decide) rfl rfl 7 (by decide) qF_X8_30 (Or.inl rfl) rfl dX8_putThing_64 ?_
          refine lv_iload_n hx hb dX8_putThing_67 rfl (lv_at hl 4 rfl) ?_
          refine gN_iald hC hK hH 7 (by decide) rfl k (by omega) dX8_putThing_68 ?_
          refine lv_i2l hx hb dX8_putThing_69 rfl ?_
          refine lv_chgl (y := lN (P.co k)) (nI_l (by omega)) ?_
          refine cm_V (As' := [.int (nI t), .long (lN (P.co k))]) (rest := []) hC (c_X8_fits (by omega) (by omega) hw (by omega) (by omega)) mv_X8_fits qM_X8_98 ⟨⟨rfl, rfl⟩, Nat.le_of_ble_eq_true rfl, Nat.le_of_ble_eq_true rfl⟩ hK hH hS hA (hp.recv hK hH (i := 0) (by decide) rfl rfl) hl.1 ⟨Nat.zero_le _, Nat.zero_le _⟩ rfl rfl (Nat.le_of_ble_eq_true rfl) dX8_putThing_70 (fun H locs hH hS => ?_)
          refine lv_if_ne (tgt := 82) hx hb dX8_putThing_73 (by decide) (fun c_73 => ?_) (fun c_73 => ?_)
          · have c_73 := b2i_t c_73
            refine lv_aload_n hx hb dX8_putThing_82 rfl (lv_at hl 1 rfl) ?_
            refine g_get hC hK inG8 hH 0 (by decide) rfl rfl 4 (by decide) qF_X8_22 (Or.inl rfl) rfl dX8_putThing_83 ?_
            refine lv_bipush (v := 24) hx hb dX8_putThing_86 (by decide) ?_
            refine lv_aload_n hx hb dX8_putThing_88 rfl (lv_at hl 1 rfl) ?_
            refine lv_iload_n hx hb dX8_putThing_89 rfl (lv_at hl 2 rfl) ?_
            refine cm_V (As' := [.int (nI j)]) (rest := [.int (24), .ref (ad 5)]) hC (c_X8_in1 hj h1j) mv_X8_in qM_X8_56 ⟨⟨rfl, rfl⟩, Nat.le_of_ble_eq_true rfl, Nat.le_of_ble_eq_true rfl⟩ hK hH hS hA (hp.recv hK hH (i := 0) (by decide) rfl rfl) hl.1 ⟨Nat.zero_le _, Nat.zero_le _⟩ rfl rfl (Nat.le_of_ble_eq_true rfl) dX8_putThing_90 (fun H locs hH hS => ?_)
            refine lv_imul hx hb dX8_putThing_93 ?_
            refine lv_iload_n hx hb dX8_putThing_94 rfl (lv_at hl 3 rfl) ?_
            refine lv_iadd hx hb dX8_putThing_95 ?_
            refine lv_aload_n hx hb dX8_putThing_96 rfl (lv_at hl 1 rfl) ?_
            refine g_get hC hK inG8 hH 0 (by decide) rfl rfl 7 (by decide) qF_X8_30 (Or.inl rfl) rfl dX8_putThing_97 ?_
            refine lv_iload_n hx hb dX8_putThing_100 rfl (lv_at hl 4 rfl) ?_
            refine gN_iald hC hK hH 7 (by decide) rfl k (by omega) dX8_putThing_101 ?_
            refine lv_i2l hx hb dX8_putThing_102 rfl ?_
            refine lv_chgl (y := lN (P.co k)) (nI_l (by omega)) ?_
            refine mr_whs hC hK hH hS t q (by omega) dX8_putThing_103 (fun H locs hH hS => ?_)
            refine lv_aload_n hx hb dX8_putThing_104 rfl (lv_at hl 1 rfl) ?_
            refine g_get hC hK inG8 hH 0 (by decide) rfl rfl 7 (by decide) qF_X8_30 (Or.inl rfl) rfl dX8_putThing_105 ?_
            refine lv_iload_n hx hb dX8_putThing_108 rfl (lv_at hl 4 rfl) ?_
            refine gN_iald hC hK hH 7 (by decide) rfl k (by omega) dX8_putThing_109 ?_
            refine lv_chg (y := nI (P.co k)) rfl ?_
            refine lv_if_le (tgt := 117) hx hb dX8_putThing_110 (by decide) (fun c_110 => ?_) (fun c_110 => ?_)
            · have c_110 : (P.co k) = 0 := by have h9 := nc_le (a := (P.co k)) (b := 0) (by omega) (by omega) c_110; omega
              refine lv_iconst (v := 0) hx hb dX8_putThing_117 (by decide) ?_
              exact cx_ri hC hr hlk (mpost.mk (by simp [sp_putThing, rf, fitP_0, c_9, cN_c hj, c_16, cN_c hk, c_35, h1j, cN_p hw hqt, show 8 ≤ P.kd t by omega, c_73, c_110] <;> rfl)) hH hS dX8_putThing_118
            · have c_110 : ¬ (P.co k) = 0 := by have h9 := nc_nle (a := (P.co k)) (b := 0) (by omega) (by omega) c_110; omega
              refine lv_iconst (v := 1) hx hb dX8_putThing_113 (by decide) ?_
              refine lv_goto (tgt := 118) hx hb dX8_putThing_114 (by decide) ?_
              exact cx_ri hC hr hlk (mpost.mk (by simp [sp_putThing, rf, fitP_0, c_9, cN_c hj, c_16, cN_c hk, c_35, h1j, cN_p hw hqt, show 8 ≤ P.kd t by omega, c_73, c_110] <;> rfl)) hH hS dX8_putThing_118
          · have c_73 := b2i_f c_73
            refine lv_aload_n hx hb dX8_putThing_76 rfl (lv_at hl 1 rfl) ?_
            refine lv_iconst (v := 5) hx hb dX8_putThing_77 (by decide) ?_
            refine cm_V (As' := [.int (5)]) (rest := []) hC (c_X8_refuse) mv_X8_refuse qM_X8_105 ⟨⟨rfl, rfl⟩, Nat.le_of_ble_eq_true rfl, Nat.le_of_ble_eq_true rfl⟩ hK hH hS hA (hp.recv hK hH (i := 0) (by decide) rfl rfl) hl.1 ⟨Nat.zero_le _, Nat.zero_le _⟩ rfl rfl (Nat.le_of_ble_eq_true rfl) dX8_putThing_78 (fun H locs hH hS => ?_)
            exact cx_ri hC hr hlk (mpost.mk (by simp [sp_putThing, rf, fitP_0, c_9, cN_c hj, c_16, cN_c hk, c_35, h1j, cN_p hw hqt, show 8 ≤ P.kd t by omega, c_73] <;> rfl)) hH hS dX8_putThing_81
      · have c_35 : ¬ (rsPl P j i) = 0 := by have h9 := nc_nle (a := (rsPl P j i)) (b := 0) (by omega) (by omega) c_35; omega
        refine lv_aload_n hx hb dX8_putThing_38 rfl (lv_at hl 1 rfl) ?_
        refine lv_iload hx hb dX8_putThing_39 (lv_at hl 0 rfl) ?_
        refine cm_V (As' := [.int (nI (rsPl P j i))]) (rest := []) hC (c_X8_refuse) mv_X8_refuse qM_X8_105 ⟨⟨rfl, rfl⟩, Nat.le_of_ble_eq_true rfl, Nat.le_of_ble_eq_true rfl⟩ hK hH hS hA (hp.recv hK hH (i := 0) (by decide) rfl rfl) hl.1 ⟨Nat.zero_le _, Nat.zero_le _⟩ rfl rfl (Nat.le_of_ble_eq_true rfl) dX8_putThing_41 (fun H locs hH hS => ?_)
        exact cx_ri hC hr hlk (mpost.mk (by simp [sp_putThing, rf, fitP_0, c_9, cN_c hj, c_16, cN_c hk, c_35] <;> rfl)) hH hS dX8_putThing_44
    · have c_16 := b2i_f c_16
      refine lv_aload_n hx hb dX8_putThing_19 rfl (lv_at hl 0 rfl) ?_
      refine lv_iconst (v := 1) hx hb dX8_putThing_20 (by decide) ?_
      refine cm_V (As' := [.int (1)]) (rest := []) hC (c_X8_refuse) mv_X8_refuse qM_X8_105 ⟨⟨rfl, rfl⟩, Nat.le_of_ble_eq_true rfl, Nat.le_of_ble_eq_true rfl⟩ hK hH hS hA (hp.recv hK hH (i := 0) (by decide) rfl rfl) hl.1 ⟨Nat.zero_le _, Nat.zero_le _⟩ rfl rfl (Nat.le_of_ble_eq_true rfl) dX8_putThing_21 (fun H locs hH hS => ?_)
      exact cx_ri hC hr hlk (mpost.mk (by simp [sp_putThing, rf, fitP_0, c_9, cN_c hj, c_16] <;> rfl)) hH hS dX8_putThing_24
theorem mv_X8_putBoxed : mvok RX8 yX8_putBoxed cX8_putBoxed 6 (some .int) 5 := ⟨qK_X8_putBoxed, qI_X8_putBoxed, qSel_X8_X8_putBoxed, qInit_X8, by decide +kernel⟩
set_option maxHeartbeats 4000000 in
set_option maxRecDepth 100000 in
theorem c_X8_putBoxed {l : Launch} {D : va_G} {cy : Nat → ClassId} {ad : Nat → Nat} {P : AS} {wy so : Int32} {w : Int64} {r : UInt64} {ns : Nat → Int32} {nw : Nat → Int64} {nr : Nat → UInt64} {fr tt : Nat → Int32} {c i sort a b : Int32} (hw : WF P) : CX l yX8_putBoxed cX8_putBoxed 6 (some .int) (rm_ 4 91) D cy 13 ad [.ref (ad 0), .int c, .int i, .int sort, .int a, .int b] (mct cy ad P wy so w r ns nw nr fr tt) (mpost cy ad (sp_put P c i sort a b)) := by
  refine CX.start (by decide) (Nat.le_of_ble_eq_true rfl) ?_
  intro p_ e_ s m_ below meth cd A ls hC hr hlk hin hK hA hH hl
  obtain ⟨hx, hb, hml, hown, hts⟩ := id hC
  have hS : va_S A s.heap s.heap [] := va_S.rf
  have hl : lv_has ls 6 [(0, .ref (ad 0)), (1, .int c), (2, .int i), (3, .int sort), (4, .int a), (5, .int b)] := hl
  refine lv_aload_n hx hb dX8_putBoxed_0 rfl (lv_at hl 0 rfl) ?_
  refine lv_iload_n hx hb dX8_putBoxed_1 rfl (lv_at hl 1 rfl) ?_
  refine lv_iload_n hx hb dX8_putBoxed_2 rfl (lv_at hl 2 rfl) ?_
  refine lv_iload_n hx hb dX8_putBoxed_3 rfl (lv_at hl 3 rfl) ?_
  refine lv_iload hx hb dX8_putBoxed_4 (lv_at hl 4 rfl) ?_
  refine lv_iload hx hb dX8_putBoxed_6 (lv_at hl 5 rfl) ?_
  refine cx_V (As' := [.int c, .int i, .int sort, .int a, .int b]) (rest := []) hC (c_X8_put hw) mv_X8_put qM_X8_139 ⟨⟨rfl, rfl⟩, Nat.le_of_ble_eq_true rfl, Nat.le_of_ble_eq_true rfl⟩ hK hH hS hA (hp.recv hK hH (i := 0) (by decide) rfl rfl) hl.1 ⟨Nat.zero_le _, Nat.zero_le _⟩ rfl rfl (Nat.le_of_ble_eq_true rfl) dX8_putBoxed_8 (fun v c1 H locs hpo hH hS _ => ?_)
  obtain ⟨e1, hpo2⟩ := hpo
  subst e1
  exact cx_ri hC hr hlk ⟨rfl, hpo2⟩ hH hS dX8_putBoxed_11
theorem mv_X8_number : mvok RX8 yX8_number cX8_number 5 (some .long) 3 := ⟨qK_X8_number, qI_X8_number, qSel_X8_X8_number, qInit_X8, by decide +kernel⟩
set_option maxHeartbeats 4000000 in
set_option maxRecDepth 100000 in
theorem c_X8_number {l : Launch} {D : va_G} {cy : Nat → ClassId} {ad : Nat → Nat} {P : AS} {wy : Int32} {so : Int32} {w : Int64} {r : UInt64} {ns : Nat → Int32} {nw : Nat → Int64} {nr : Nat → UInt64} {fr : Nat → Int32} {tt : Nat → Int32} {c i sort : Int32} (hw : WF P)  : CX l yX8_number cX8_number 5 (some .long) (rm_ 4 89) D cy 13 ad [.ref (ad 0), .int (c), .int (i), .int (sort)] (mct cy ad P wy so w r ns nw nr fr tt) (mpostL cy ad (sp_number P c i sort)) := by
  refine CX.start (by decide) (Nat.le_of_ble_eq_true rfl) ?_
  intro p_ e_ s m_ below meth cd A ls hC hr hlk hin hK hA hH hl
  obtain ⟨hx, hb, hml, hown, hts⟩ := id hC
  have hS : va_S A s.heap s.heap [] := va_S.rf
  have hl : lv_has ls 5 [(0, .ref (ad 0)), (1, .int (c)), (2, .int (i)), (3, .int (sort))] := hl
  refine lv_aload_n hx hb dX8_number_0 rfl (lv_at hl 0 rfl) ?_
  refine lv_iconst (v := 0) hx hb dX8_number_1 (by decide) ?_
  refine g_put (ct' := mct cy ad P 0 so w r ns nw nr fr tt) hC hK inG8 tyX8 tyX8_ok nmX8 hH hS 0 (by decide) rfl rfl 8 (by decide) qF_X8_48 rfl rfl rfl rfl (Nat.le_of_ble_eq_true rfl) rfl mct_0 dX8_number_2 (fun H locs hH hS => ?_)
  refine lv_iload_n hx hb dX8_number_5 rfl (lv_at hl 1 rfl) ?_
  refine cm_S (As := [.int (c)]) (rest := []) hC (c_X8_isColumn) ms_X8_isColumn qM_X8_102 ⟨⟨rfl, rfl⟩, Nat.le_of_ble_eq_true rfl, Nat.le_of_ble_eq_true rfl⟩ hK hH hS hA hl.1 ⟨Nat.zero_le _, Nat.zero_le _⟩ rfl rfl (Nat.le_of_ble_eq_true rfl) dX8_number_6 (fun H locs hH hS => ?_)
  refine lv_if_eq (tgt := 21) hx hb dX8_number_9 (by decide) (fun c_9 => ?_) (fun c_9 => ?_)
  · have c_9 := b2i_f c_9
    refine lv_aload_n hx hb dX8_number_21 rfl (lv_at hl 0 rfl) ?_
    refine lv_iconst (v := 1) hx hb dX8_number_22 (by decide) ?_
    refine cm_V (As' := [.int (1)]) (rest := []) hC (c_X8_refuse) mv_X8_refuse qM_X8_105 ⟨⟨rfl, rfl⟩, Nat.le_of_ble_eq_true rfl, Nat.le_of_ble_eq_true rfl⟩ hK hH hS hA (hp.recv hK hH (i := 0) (by decide) rfl rfl) hl.1 ⟨Nat.zero_le _, Nat.zero_le _⟩ rfl rfl (Nat.le_of_ble_eq_true rfl) dX8_number_23 (fun H locs hH hS => ?_)
    refine lv_i2l hx hb dX8_number_26 rfl ?_
    exact cx_rl hC hr hlk (mpostL.mk (by simp [sp_number, c_9] <;> rfl)) hH hS dX8_number_27
  · have c_9 := b2i_t c_9
    obtain ⟨j, hj, rfl⟩ := isC_ex c_9
    refine lv_iload_n hx hb dX8_number_12 rfl (lv_at hl 3 rfl) ?_
    refine lv_iconst (v := 0) hx hb dX8_number_13 (by decide) ?_
    refine lv_iconst (v := 5) hx hb dX8_number_14 (by decide) ?_
    refine cm_S (As := [.int (sort), .int (0), .int (5)]) (rest := []) hC (c_X8_isIn) ms_X8_isIn qM_X8_52 ⟨⟨rfl, rfl⟩, Nat.le_of_ble_eq_true rfl, Nat.le_of_ble_eq_true rfl⟩ hK hH hS hA hl.1 ⟨Nat.zero_le _, Nat.zero_le _⟩ rfl rfl (Nat.le_of_ble_eq_true rfl) dX8_number_15 (fun H locs hH hS => ?_)
    refine lv_if_ne (tgt := 28) hx hb dX8_number_18 (by decide) (fun c_18 => ?_) (fun c_18 => ?_)
    · have c_18 := b2i_t c_18
      obtain ⟨k, hk, rfl⟩ := inR_ex (n := 5) (by decide) c_18
      refine lv_aload_n hx hb dX8_number_28 rfl (lv_at hl 0 rfl) ?_
      refine lv_iload_n hx hb dX8_number_29 rfl (lv_at hl 1 rfl) ?_
      refine lv_iload_n hx hb dX8_number_30 rfl (lv_at hl 2 rfl) ?_
      refine lv_iload_n hx hb dX8_number_31 rfl (lv_at hl 3 rfl) ?_
      refine cm_V (As' := [.int (nI j), .int (i), .int (nI k)]) (rest := []) hC (c_X8_reasonOfValue hj (by omega) hw) mv_X8_reasonOfValue qM_X8_146 ⟨⟨rfl, rfl⟩, Nat.le_of_ble_eq_true rfl, Nat.le_of_ble_eq_true rfl⟩ hK hH hS hA (hp.recv hK hH (i := 0) (by decide) rfl rfl) hl.1 ⟨Nat.zero_le _, Nat.zero_le _⟩ rfl rfl (Nat.le_of_ble_eq_true rfl) dX8_number_32 (fun H locs hH hS => ?_)
      refine lv_istore (lv' := [(4, .int (nI (rsVal P j i k))), (0, .ref (ad 0)), (1, .int (nI j)), (2, .int (i)), (3, .int (nI k))]) hx hb dX8_number_35 hl (by decide) rfl (fun ls hl => ?_)
      have hb1 := rsVal_le P j i k
      refine lv_iload hx hb dX8_number_37 (lv_at hl 0 rfl) ?_
      refine lv_if_le (tgt := 52) hx hb dX8_number_39 (by decide) (fun c_39 => ?_) (fun c_39 => ?_)
      · have c_39 : (rsVal P j i k) = 0 := by have h9 := nc_le (a := (rsVal P j i k)) (b := 0) (by omega) (by omega) c_39; omega
        refine lv_aload_n hx hb dX8_number_52 rfl (lv_at hl 1 rfl) ?_
        refine g_get hC hK inG8 hH 0 (by decide) rfl rfl 10 (by decide) qF_X8_69 (Or.inl rfl) rfl dX8_number_53 ?_
        exact cx_rl hC hr hlk (mpostL.mk (by simp [sp_number, c_9, cN_c hj, c_18, cN_s hk (by decide), c_39] <;> rfl)) hH hS dX8_number_56
      · have c_39 : ¬ (rsVal P j i k) = 0 := by have h9 := nc_nle (a := (rsVal P j i k)) (b := 0) (by omega) (by omega) c_39; omega
        refine lv_aload_n hx hb dX8_number_42 rfl (lv_at hl 1 rfl) ?_
        refine lv_iload hx hb dX8_number_43 (lv_at hl 0 rfl) ?_
        refine cm_V (As' := [.int (nI (rsVal P j i k))]) (rest := []) hC (c_X8_refuse) mv_X8_refuse qM_X8_105 ⟨⟨rfl, rfl⟩, Nat.le_of_ble_eq_true rfl, Nat.le_of_ble_eq_true rfl⟩ hK hH hS hA (hp.recv hK hH (i := 0) (by decide) rfl rfl) hl.1 ⟨Nat.zero_le _, Nat.zero_le _⟩ rfl rfl (Nat.le_of_ble_eq_true rfl) dX8_number_45 (fun H locs hH hS => ?_)
        refine lv_i2l hx hb dX8_number_48 rfl ?_
        refine lv_goto (tgt := 56) hx hb dX8_number_49 (by decide) ?_
        exact cx_rl hC hr hlk (mpostL.mk (by simp [sp_number, c_9, cN_c hj, c_18, cN_s hk (by decide), c_39] <;> rfl)) hH hS dX8_number_56
    · have c_18 := b2i_f c_18
      refine lv_aload_n hx hb dX8_number_21 rfl (lv_at hl 0 rfl) ?_
      refine lv_iconst (v := 1) hx hb dX8_number_22 (by decide) ?_
      refine cm_V (As' := [.int (1)]) (rest := []) hC (c_X8_refuse) mv_X8_refuse qM_X8_105 ⟨⟨rfl, rfl⟩, Nat.le_of_ble_eq_true rfl, Nat.le_of_ble_eq_true rfl⟩ hK hH hS hA (hp.recv hK hH (i := 0) (by decide) rfl rfl) hl.1 ⟨Nat.zero_le _, Nat.zero_le _⟩ rfl rfl (Nat.le_of_ble_eq_true rfl) dX8_number_23 (fun H locs hH hS => ?_)
      refine lv_i2l hx hb dX8_number_26 rfl ?_
      exact cx_rl hC hr hlk (mpostL.mk (by simp [sp_number, c_9, cN_c hj, c_18] <;> rfl)) hH hS dX8_number_27
theorem mv_X8_point : mvok RX8 yX8_point cX8_point 5 (some .double) 3 := ⟨qK_X8_point, qI_X8_point, qSel_X8_X8_point, qInit_X8, by decide +kernel⟩
set_option maxHeartbeats 4000000 in
set_option maxRecDepth 100000 in
theorem c_X8_point {l : Launch} {D : va_G} {cy : Nat → ClassId} {ad : Nat → Nat} {P : AS} {wy : Int32} {so : Int32} {w : Int64} {r : UInt64} {ns : Nat → Int32} {nw : Nat → Int64} {nr : Nat → UInt64} {fr : Nat → Int32} {tt : Nat → Int32} {c i sort : Int32} (hw : WF P)  : CX l yX8_point cX8_point 5 (some .double) (rm_ 4 89) D cy 13 ad [.ref (ad 0), .int (c), .int (i), .int (sort)] (mct cy ad P wy so w r ns nw nr fr tt) (mpostD cy ad (sp_point P c i sort)) := by
  refine CX.start (by decide) (Nat.le_of_ble_eq_true rfl) ?_
  intro p_ e_ s m_ below meth cd A ls hC hr hlk hin hK hA hH hl
  obtain ⟨hx, hb, hml, hown, hts⟩ := id hC
  have hS : va_S A s.heap s.heap [] := va_S.rf
  have hl : lv_has ls 5 [(0, .ref (ad 0)), (1, .int (c)), (2, .int (i)), (3, .int (sort))] := hl
  refine lv_aload_n hx hb dX8_point_0 rfl (lv_at hl 0 rfl) ?_
  refine lv_iconst (v := 0) hx hb dX8_point_1 (by decide) ?_
  refine g_put (ct' := mct cy ad P 0 so w r ns nw nr fr tt) hC hK inG8 tyX8 tyX8_ok nmX8 hH hS 0 (by decide) rfl rfl 8 (by decide) qF_X8_48 rfl rfl rfl rfl (Nat.le_of_ble_eq_true rfl) rfl mct_0 dX8_point_2 (fun H locs hH hS => ?_)
  refine lv_iload_n hx hb dX8_point_5 rfl (lv_at hl 1 rfl) ?_
  refine cm_S (As := [.int (c)]) (rest := []) hC (c_X8_isColumn) ms_X8_isColumn qM_X8_102 ⟨⟨rfl, rfl⟩, Nat.le_of_ble_eq_true rfl, Nat.le_of_ble_eq_true rfl⟩ hK hH hS hA hl.1 ⟨Nat.zero_le _, Nat.zero_le _⟩ rfl rfl (Nat.le_of_ble_eq_true rfl) dX8_point_6 (fun H locs hH hS => ?_)
  refine lv_if_eq (tgt := 23) hx hb dX8_point_9 (by decide) (fun c_9 => ?_) (fun c_9 => ?_)
  · have c_9 := b2i_f c_9
    refine lv_aload_n hx hb dX8_point_23 rfl (lv_at hl 0 rfl) ?_
    refine lv_iconst (v := 1) hx hb dX8_point_24 (by decide) ?_
    refine cm_V (As' := [.int (1)]) (rest := []) hC (c_X8_refuse) mv_X8_refuse qM_X8_105 ⟨⟨rfl, rfl⟩, Nat.le_of_ble_eq_true rfl, Nat.le_of_ble_eq_true rfl⟩ hK hH hS hA (hp.recv hK hH (i := 0) (by decide) rfl rfl) hl.1 ⟨Nat.zero_le _, Nat.zero_le _⟩ rfl rfl (Nat.le_of_ble_eq_true rfl) dX8_point_25 (fun H locs hH hS => ?_)
    refine lv_i2d hx hb dX8_point_28 ?_
    exact cx_rd hC hr hlk (mpostD.mk (by simp [sp_point, i2d_0, c_9] <;> rfl)) hH hS dX8_point_29
  · have c_9 := b2i_t c_9
    obtain ⟨j, hj, rfl⟩ := isC_ex c_9
    refine lv_iload_n hx hb dX8_point_12 rfl (lv_at hl 3 rfl) ?_
    refine lv_bipush (v := 6) hx hb dX8_point_13 (by decide) ?_
    refine lv_bipush (v := 7) hx hb dX8_point_15 (by decide) ?_
    refine cm_S (As := [.int (sort), .int (6), .int (7)]) (rest := []) hC (c_X8_isIn) ms_X8_isIn qM_X8_52 ⟨⟨rfl, rfl⟩, Nat.le_of_ble_eq_true rfl, Nat.le_of_ble_eq_true rfl⟩ hK hH hS hA hl.1 ⟨Nat.zero_le _, Nat.zero_le _⟩ rfl rfl (Nat.le_of_ble_eq_true rfl) dX8_point_17 (fun H locs hH hS => ?_)
    refine lv_if_ne (tgt := 30) hx hb dX8_point_20 (by decide) (fun c_20 => ?_) (fun c_20 => ?_)
    · have c_20 := b2i_t c_20
      obtain ⟨k, hk, hk6, rfl⟩ := inR_67 c_20
      refine lv_aload_n hx hb dX8_point_30 rfl (lv_at hl 0 rfl) ?_
      refine lv_iload_n hx hb dX8_point_31 rfl (lv_at hl 1 rfl) ?_
      refine lv_iload_n hx hb dX8_point_32 rfl (lv_at hl 2 rfl) ?_
      refine lv_iload_n hx hb dX8_point_33 rfl (lv_at hl 3 rfl) ?_
      refine cm_V (As' := [.int (nI j), .int (i), .int (nI k)]) (rest := []) hC (c_X8_reasonOfValue hj (by omega) hw) mv_X8_reasonOfValue qM_X8_146 ⟨⟨rfl, rfl⟩, Nat.le_of_ble_eq_true rfl, Nat.le_of_ble_eq_true rfl⟩ hK hH hS hA (hp.recv hK hH (i := 0) (by decide) rfl rfl) hl.1 ⟨Nat.zero_le _, Nat.zero_le _⟩ rfl rfl (Nat.le_of_ble_eq_true rfl) dX8_point_34 (fun H locs hH hS => ?_)
      refine lv_istore (lv' := [(4, .int (nI (rsVal P j i k))), (0, .ref (ad 0)), (1, .int (nI j)), (2, .int (i)), (3, .int (nI k))]) hx hb dX8_point_37 hl (by decide) rfl (fun ls hl => ?_)
      have hb1 := rsVal_le P j i k
      refine lv_iload hx hb dX8_point_39 (lv_at hl 0 rfl) ?_
      refine lv_if_le (tgt := 54) hx hb dX8_point_41 (by decide) (fun c_41 => ?_) (fun c_41 => ?_)
      · have c_41 : (rsVal P j i k) = 0 := by have h9 := nc_le (a := (rsVal P j i k)) (b := 0) (by omega) (by omega) c_41; omega
        refine lv_aload_n hx hb dX8_point_54 rfl (lv_at hl 1 rfl) ?_
        refine g_get hC hK inG8 hH 0 (by decide) rfl rfl 11 (by decide) qF_X8_73 (Or.inl rfl) rfl dX8_point_55 ?_
        exact cx_rd hC hr hlk (mpostD.mk (by simp [sp_point, i2d_0, c_9, cN_c hj, c_20, cN_s hk (by decide), c_41] <;> rfl)) hH hS dX8_point_58
      · have c_41 : ¬ (rsVal P j i k) = 0 := by have h9 := nc_nle (a := (rsVal P j i k)) (b := 0) (by omega) (by omega) c_41; omega
        refine lv_aload_n hx hb dX8_point_44 rfl (lv_at hl 1 rfl) ?_
        refine lv_iload hx hb dX8_point_45 (lv_at hl 0 rfl) ?_
        refine cm_V (As' := [.int (nI (rsVal P j i k))]) (rest := []) hC (c_X8_refuse) mv_X8_refuse qM_X8_105 ⟨⟨rfl, rfl⟩, Nat.le_of_ble_eq_true rfl, Nat.le_of_ble_eq_true rfl⟩ hK hH hS hA (hp.recv hK hH (i := 0) (by decide) rfl rfl) hl.1 ⟨Nat.zero_le _, Nat.zero_le _⟩ rfl rfl (Nat.le_of_ble_eq_true rfl) dX8_point_47 (fun H locs hH hS => ?_)
        refine lv_i2d hx hb dX8_point_50 ?_
        refine lv_goto (tgt := 58) hx hb dX8_point_51 (by decide) ?_
        exact cx_rd hC hr hlk (mpostD.mk (by simp [sp_point, i2d_0, c_9, cN_c hj, c_20, cN_s hk (by decide), c_41] <;> rfl)) hH hS dX8_point_58
    · have c_20 := b2i_f c_20
      refine lv_aload_n hx hb dX8_point_23 rfl (lv_at hl 0 rfl) ?_
      refine lv_iconst (v := 1) hx hb dX8_point_24 (by decide) ?_
      refine cm_V (As' := [.int (1)]) (rest := []) hC (c_X8_refuse) mv_X8_refuse qM_X8_105 ⟨⟨rfl, rfl⟩, Nat.le_of_ble_eq_true rfl, Nat.le_of_ble_eq_true rfl⟩ hK hH hS hA (hp.recv hK hH (i := 0) (by decide) rfl rfl) hl.1 ⟨Nat.zero_le _, Nat.zero_le _⟩ rfl rfl (Nat.le_of_ble_eq_true rfl) dX8_point_25 (fun H locs hH hS => ?_)
      refine lv_i2d hx hb dX8_point_28 ?_
      exact cx_rd hC hr hlk (mpostD.mk (by simp [sp_point, i2d_0, c_9, cN_c hj, c_20] <;> rfl)) hH hS dX8_point_29
theorem mv_X8_kindOf : mvok RX8 yX8_kindOf cX8_kindOf 3 (some .int) 1 := ⟨qK_X8_kindOf, qI_X8_kindOf, qSel_X8_X8_kindOf, qInit_X8, by decide +kernel⟩
set_option maxHeartbeats 4000000 in
set_option maxRecDepth 100000 in
theorem c_X8_kindOf {l : Launch} {D : va_G} {cy : Nat → ClassId} {ad : Nat → Nat} {P : AS} {wy : Int32} {so : Int32} {w : Int64} {r : UInt64} {ns : Nat → Int32} {nw : Nat → Int64} {nr : Nat → UInt64} {fr : Nat → Int32} {tt : Nat → Int32} {q : Nat} (hq : q ≤ 513) (hw : WF P) : CM l yX8_kindOf cX8_kindOf 3 (some .int) (rm_ 0 0) D cy 13 ad [.ref (ad 0), .long (lN q)] (mct cy ad P wy so w r ns nw nr fr tt) (some (.int (kOf P q))) (mct cy ad P wy so w r ns nw nr fr tt) := by
  refine CM.start (by decide) (Nat.le_of_ble_eq_true rfl) ?_
  intro p_ e_ s m_ below meth cd A ls hC hr hlk hin hK hA hH hl
  obtain ⟨hx, hb, hml, hown, hts⟩ := id hC
  have hS : va_S A s.heap s.heap [] := va_S.rf
  have hl : lv_has ls 3 [(0, .ref (ad 0)), (1, .long (lN q))] := hl
  rcases co_cases q with rfl | ⟨x, rfl⟩
  · refine lv_lload_n hx hb dX8_kindOf_0 rfl (lv_at hl 1 rfl) ?_
    refine lv_lconst (v := 0) hx hb dX8_kindOf_1 (by decide) ?_
    refine W.lcmp hx hb dX8_kindOf_2 ?_
    refine lv_if_ne (tgt := 10) hx hb dX8_kindOf_3 (by decide) (fun c_3 => absurd c_3 (by decide)) (fun c_3 => ?_)
    refine lv_iconst (v := (-1)) hx hb dX8_kindOf_6 (by decide) ?_
    refine lv_goto (tgt := 19) hx hb dX8_kindOf_7 (by decide) ?_
    exact cm_ri hC hr hlk (rfl) (rfl) hH hS dX8_kindOf_19
  · refine lv_lload_n hx hb dX8_kindOf_0 rfl (lv_at hl 1 rfl) ?_
    refine lv_lconst (v := 0) hx hb dX8_kindOf_1 (by decide) ?_
    refine W.lcmp hx hb dX8_kindOf_2 ?_
    refine lv_if_ne (tgt := 10) hx hb dX8_kindOf_3 (by decide) (fun c_3 => ?_) (fun c_3 => absurd (lc_eqT c_3) (fun h => absurd ((lN_z (by omega)).mp h) (by omega)))
    refine lv_aload_n hx hb dX8_kindOf_10 rfl (lv_at hl 0 rfl) ?_
    refine g_get hC hK inG8 hH 0 (by decide) rfl rfl 1 (by decide) qF_X8_13 (Or.inl rfl) rfl dX8_kindOf_11 ?_
    refine lv_lload_n hx hb dX8_kindOf_14 rfl (lv_at hl 1 rfl) ?_
    refine lv_l2i hx hb dX8_kindOf_15 rfl ?_
    refine lv_iconst (v := 1) hx hb dX8_kindOf_16 (by decide) ?_
    refine lv_isub hx hb dX8_kindOf_17 ?_
    have hkx := hw.1 x
    refine lv_chg (y := nI x) (by rw [lN_i, nI_pred]) ?_
    refine gN_iald hC hK hH 2 (by decide) rfl x (by omega) dX8_kindOf_18 ?_
    exact cm_ri hC hr hlk (by unfold kOf; rw [if_neg (by omega)]; rfl) (rfl) hH hS dX8_kindOf_19
theorem mv_X8_what : mvok RX8 yX8_what cX8_what 4 (some .int) 2 := ⟨qK_X8_what, qI_X8_what, qSel_X8_X8_what, qInit_X8, by decide +kernel⟩
set_option maxHeartbeats 4000000 in
set_option maxRecDepth 100000 in
theorem c_X8_what {l : Launch} {D : va_G} {cy : Nat → ClassId} {ad : Nat → Nat} {P : AS} {wy : Int32} {so : Int32} {w : Int64} {r : UInt64} {ns : Nat → Int32} {nw : Nat → Int64} {nr : Nat → UInt64} {fr : Nat → Int32} {tt : Nat → Int32} {c i : Int32} (hw : WF P)  : CX l yX8_what cX8_what 4 (some .int) (rm_ 3 65) D cy 13 ad [.ref (ad 0), .int (c), .int (i)] (mct cy ad P wy so w r ns nw nr fr tt) (mpost cy ad (sp_what P c i)) := by
  refine CX.start (by decide) (Nat.le_of_ble_eq_true rfl) ?_
  intro p_ e_ s m_ below meth cd A ls hC hr hlk hin hK hA hH hl
  obtain ⟨hx, hb, hml, hown, hts⟩ := id hC
  have hS : va_S A s.heap s.heap [] := va_S.rf
  have hl : lv_has ls 4 [(0, .ref (ad 0)), (1, .int (c)), (2, .int (i))] := hl
  refine lv_aload_n hx hb dX8_what_0 rfl (lv_at hl 0 rfl) ?_
  refine lv_iconst (v := 0) hx hb dX8_what_1 (by decide) ?_
  refine g_put (ct' := mct cy ad P 0 so w r ns nw nr fr tt) hC hK inG8 tyX8 tyX8_ok nmX8 hH hS 0 (by decide) rfl rfl 8 (by decide) qF_X8_48 rfl rfl rfl rfl (Nat.le_of_ble_eq_true rfl) rfl mct_0 dX8_what_2 (fun H locs hH hS => ?_)
  refine lv_iload_n hx hb dX8_what_5 rfl (lv_at hl 1 rfl) ?_
  refine cm_S (As := [.int (c)]) (rest := []) hC (c_X8_isColumn) ms_X8_isColumn qM_X8_102 ⟨⟨rfl, rfl⟩, Nat.le_of_ble_eq_true rfl, Nat.le_of_ble_eq_true rfl⟩ hK hH hS hA hl.1 ⟨Nat.zero_le _, Nat.zero_le _⟩ rfl rfl (Nat.le_of_ble_eq_true rfl) dX8_what_6 (fun H locs hH hS => ?_)
  refine lv_if_ne (tgt := 18) hx hb dX8_what_9 (by decide) (fun c_9 => ?_) (fun c_9 => ?_)
  · have c_9 := b2i_t c_9
    obtain ⟨j, hj, rfl⟩ := isC_ex c_9
    refine lv_aload_n hx hb dX8_what_18 rfl (lv_at hl 0 rfl) ?_
    refine lv_iload_n hx hb dX8_what_19 rfl (lv_at hl 1 rfl) ?_
    refine lv_iload_n hx hb dX8_what_20 rfl (lv_at hl 2 rfl) ?_
    refine cm_V (As' := [.int (nI j), .int (i)]) (rest := []) hC (c_X8_reasonOfPlace hj hw) mv_X8_reasonOfPlace qM_X8_120 ⟨⟨rfl, rfl⟩, Nat.le_of_ble_eq_true rfl, Nat.le_of_ble_eq_true rfl⟩ hK hH hS hA (hp.recv hK hH (i := 0) (by decide) rfl rfl) hl.1 ⟨Nat.zero_le _, Nat.zero_le _⟩ rfl rfl (Nat.le_of_ble_eq_true rfl) dX8_what_21 (fun H locs hH hS => ?_)
    refine lv_istore_n (lv' := [(3, .int (nI (rsPl P j i))), (0, .ref (ad 0)), (1, .int (nI j)), (2, .int (i))]) hx hb dX8_what_24 rfl hl (by decide) rfl (fun ls hl => ?_)
    have hb1 := rsPl_le P j i
    refine lv_iload_n hx hb dX8_what_25 rfl (lv_at hl 0 rfl) ?_
    refine lv_if_le (tgt := 35) hx hb dX8_what_26 (by decide) (fun c_26 => ?_) (fun c_26 => ?_)
    · have c_26 : (rsPl P j i) = 0 := by have h9 := nc_le (a := (rsPl P j i)) (b := 0) (by omega) (by omega) c_26; omega
      obtain ⟨t, q, h1j, hkt, hqt, rfl⟩ := rsPl_0 c_26
      have htt : t < 513 := by have := hw.2.2.2.1 j; have := hw.2.2.1; omega
      have hlt := hw.2.1 t
      have hn513 := hw.2.2.1
      refine lv_aload_n hx hb dX8_what_35 rfl (lv_at hl 1 rfl) ?_
      refine lv_aload_n hx hb dX8_what_36 rfl (lv_at hl 1 rfl) ?_
      refine lv_iload_n hx hb dX8_what_37 rfl (lv_at hl 2 rfl) ?_
      refine cm_V (As' := [.int (nI j)]) (rest := [.ref (ad 0)]) hC (c_X8_in1 hj h1j) mv_X8_in qM_X8_56 ⟨⟨rfl, rfl⟩, Nat.le_of_ble_eq_true rfl, Nat.le_of_ble_eq_true rfl⟩ hK hH hS hA (hp.recv hK hH (i := 0) (by decide) rfl rfl) hl.1 ⟨Nat.zero_le _, Nat.zero_le _⟩ rfl rfl (Nat.le_of_ble_eq_true rfl) dX8_what_38 (fun H locs hH hS => ?_)
      refine cm_V (As' := [.int (nI t)]) (rest := []) hC (c_X8_isPlain (by omega) hw) mv_X8_isPlain qM_X8_91 ⟨⟨rfl, rfl⟩, Nat.le_of_ble_eq_true rfl, Nat.le_of_ble_eq_true rfl⟩ hK hH hS hA (hp.recv hK hH (i := 0) (by decide) rfl rfl) hl.1 ⟨Nat.zero_le _, Nat.zero_le _⟩ rfl rfl (Nat.le_of_ble_eq_true rfl) dX8_what_41 (fun H locs hH hS => ?_)
      refine lv_if_eq (tgt := 60) hx hb dX8_what_44 (by decide) (fun c_44 => ?_) (fun c_44 => ?_)
      · have c_44 := b2d_f c_44
        refine lv_aload_n hx hb dX8_what_60 rfl (lv_at hl 1 rfl) ?_
        refine lv_aload_n hx hb dX8_what_61 rfl (lv_at hl 1 rfl) ?_
        refine g_get hC hK inG8 hH 0 (by decide) rfl rfl 4 (by decide) qF_X8_22 (Or.inl rfl) rfl dX8_what_62 ?_
        refine lv_bipush (v := 24) hx hb dX8_what_65 (by decide) ?_
        refine lv_aload_n hx hb dX8_what_67 rfl (lv_at hl 1 rfl) ?_
        refine lv_iload_n hx hb dX8_what_68 rfl (lv_at hl 2 rfl) ?_
        refine cm_V (As' := [.int (nI j)]) (rest := [.int (24), .ref (ad 5), .ref (ad 0)]) hC (c_X8_in1 hj h1j) mv_X8_in qM_X8_56 ⟨⟨rfl, rfl⟩, Nat.le_of_ble_eq_true rfl, Nat.le_of_ble_eq_true rfl⟩ hK hH hS hA (hp.recv hK hH (i := 0) (by decide) rfl rfl) hl.1 ⟨Nat.zero_le _, Nat.zero_le _⟩ rfl rfl (Nat.le_of_ble_eq_true rfl) dX8_what_69 (fun H locs hH hS => ?_)
        refine lv_imul hx hb dX8_what_72 ?_
        refine lv_iload_n hx hb dX8_what_73 rfl (lv_at hl 3 rfl) ?_
        refine lv_iadd hx hb dX8_what_74 ?_
        refine mr_wh hC hK hH t q (by omega) dX8_what_75 ?_
        obtain ⟨x, h9x, h8x⟩ := hw.2.2.2.2 t q (by omega)
        refine lv_chgl (y := lN x) (h9x) ?_
        refine cm_V (As' := [.long (lN x)]) (rest := []) hC (c_X8_kindOf (by omega) hw) mv_X8_kindOf qM_X8_150 ⟨⟨rfl, rfl⟩, Nat.le_of_ble_eq_true rfl, Nat.le_of_ble_eq_true rfl⟩ hK hH hS hA (hp.recv hK hH (i := 0) (by decide) rfl rfl) hl.1 ⟨Nat.zero_le _, Nat.zero_le _⟩ rfl rfl (Nat.le_of_ble_eq_true rfl) dX8_what_76 (fun H locs hH hS => ?_)
        exact cx_ri hC hr hlk (mpost.mk (by simp [sp_what, rf, c_9, cN_c hj, c_26, h1j, cN_p hw hqt, c_44, h9x, lN_clamp (show x < 2 ^ 31 by omega)] <;> rfl)) hH hS dX8_what_79
      · have c_44 := b2d_t c_44
        refine lv_aload_n hx hb dX8_what_47 rfl (lv_at hl 1 rfl) ?_
        refine g_get hC hK inG8 hH 0 (by decide) rfl rfl 1 (by decide) qF_X8_13 (Or.inl rfl) rfl dX8_what_48 ?_
        refine lv_aload_n hx hb dX8_what_51 rfl (lv_at hl 1 rfl) ?_
        refine lv_iload_n hx hb dX8_what_52 rfl (lv_at hl 2 rfl) ?_
        refine cm_V (As' := [.int (nI j)]) (rest := [.ref (ad 2)]) hC (c_X8_in1 hj h1j) mv_X8_in qM_X8_56 ⟨⟨rfl, rfl⟩, Nat.le_of_ble_eq_true rfl, Nat.le_of_ble_eq_true rfl⟩ hK hH hS hA (hp.recv hK hH (i := 0) (by decide) rfl rfl) hl.1 ⟨Nat.zero_le _, Nat.zero_le _⟩ rfl rfl (Nat.le_of_ble_eq_true rfl) dX8_what_53 (fun H locs hH hS => ?_)
        refine gN_iald hC hK hH 2 (by decide) rfl t (by omega) dX8_what_56 ?_
        refine lv_goto (tgt := 79) hx hb dX8_what_57 (by decide) ?_
        exact cx_ri hC hr hlk (mpost.mk (by simp [sp_what, rf, c_9, cN_c hj, c_26, h1j, cN_p hw hqt, c_44] <;> rfl)) hH hS dX8_what_79
    · have c_26 : ¬ (rsPl P j i) = 0 := by have h9 := nc_nle (a := (rsPl P j i)) (b := 0) (by omega) (by omega) c_26; omega
      refine lv_aload_n hx hb dX8_what_29 rfl (lv_at hl 1 rfl) ?_
      refine lv_iload_n hx hb dX8_what_30 rfl (lv_at hl 0 rfl) ?_
      refine cm_V (As' := [.int (nI (rsPl P j i))]) (rest := []) hC (c_X8_refuse) mv_X8_refuse qM_X8_105 ⟨⟨rfl, rfl⟩, Nat.le_of_ble_eq_true rfl, Nat.le_of_ble_eq_true rfl⟩ hK hH hS hA (hp.recv hK hH (i := 0) (by decide) rfl rfl) hl.1 ⟨Nat.zero_le _, Nat.zero_le _⟩ rfl rfl (Nat.le_of_ble_eq_true rfl) dX8_what_31 (fun H locs hH hS => ?_)
      exact cx_ri hC hr hlk (mpost.mk (by simp [sp_what, rf, c_9, cN_c hj, c_26] <;> rfl)) hH hS dX8_what_34
  · have c_9 := b2i_f c_9
    refine lv_aload_n hx hb dX8_what_12 rfl (lv_at hl 0 rfl) ?_
    refine lv_iconst (v := 1) hx hb dX8_what_13 (by decide) ?_
    refine cm_V (As' := [.int (1)]) (rest := []) hC (c_X8_refuse) mv_X8_refuse qM_X8_105 ⟨⟨rfl, rfl⟩, Nat.le_of_ble_eq_true rfl, Nat.le_of_ble_eq_true rfl⟩ hK hH hS hA (hp.recv hK hH (i := 0) (by decide) rfl rfl) hl.1 ⟨Nat.zero_le _, Nat.zero_le _⟩ rfl rfl (Nat.le_of_ble_eq_true rfl) dX8_what_14 (fun H locs hH hS => ?_)
    exact cx_ri hC hr hlk (mpost.mk (by simp [sp_what, rf, c_9] <;> rfl)) hH hS dX8_what_17
theorem mv_X8_take : mvok RX8 yX8_take cX8_take 5 (some .int) 3 := ⟨qK_X8_take, qI_X8_take, qSel_X8_X8_take, qInit_X8, by decide +kernel⟩
set_option maxHeartbeats 4000000 in
set_option maxRecDepth 100000 in
theorem c_X8_take {l : Launch} {D : va_G} {cy : Nat → ClassId} {ad : Nat → Nat} {P : AS} {wy : Int32} {so : Int32} {w : Int64} {r : UInt64} {ns : Nat → Int32} {nw : Nat → Int64} {nr : Nat → UInt64} {fr : Nat → Int32} {tt : Nat → Int32} {c i d : Int32} (hw : WF P)  : CX l yX8_take cX8_take 5 (some .int) (rm_ 2 42) D cy 13 ad [.ref (ad 0), .int (c), .int (i), .int (d)] (mct cy ad P wy so w r ns nw nr fr tt) (mpost cy ad (sp_take P c i d)) := by
  refine CX.start (by decide) (Nat.le_of_ble_eq_true rfl) ?_
  intro p_ e_ s m_ below meth cd A ls hC hr hlk hin hK hA hH hl
  obtain ⟨hx, hb, hml, hown, hts⟩ := id hC
  have hS : va_S A s.heap s.heap [] := va_S.rf
  have hl : lv_has ls 5 [(0, .ref (ad 0)), (1, .int (c)), (2, .int (i)), (3, .int (d))] := hl
  refine lv_aload_n hx hb dX8_take_0 rfl (lv_at hl 0 rfl) ?_
  refine lv_iconst (v := 0) hx hb dX8_take_1 (by decide) ?_
  refine g_put (ct' := mct cy ad P 0 so w r ns nw nr fr tt) hC hK inG8 tyX8 tyX8_ok nmX8 hH hS 0 (by decide) rfl rfl 8 (by decide) qF_X8_48 rfl rfl rfl rfl (Nat.le_of_ble_eq_true rfl) rfl mct_0 dX8_take_2 (fun H locs hH hS => ?_)
  refine lv_iload_n hx hb dX8_take_5 rfl (lv_at hl 1 rfl) ?_
  refine cm_S (As := [.int (c)]) (rest := []) hC (c_X8_isColumn) ms_X8_isColumn qM_X8_102 ⟨⟨rfl, rfl⟩, Nat.le_of_ble_eq_true rfl, Nat.le_of_ble_eq_true rfl⟩ hK hH hS hA hl.1 ⟨Nat.zero_le _, Nat.zero_le _⟩ rfl rfl (Nat.le_of_ble_eq_true rfl) dX8_take_6 (fun H locs hH hS => ?_)
  refine lv_if_eq (tgt := 19) hx hb dX8_take_9 (by decide) (fun c_9 => ?_) (fun c_9 => ?_)
  · have c_9 := b2i_f c_9
    refine lv_aload_n hx hb dX8_take_19 rfl (lv_at hl 0 rfl) ?_
    refine lv_iconst (v := 1) hx hb dX8_take_20 (by decide) ?_
    refine cm_V (As' := [.int (1)]) (rest := []) hC (c_X8_refuse) mv_X8_refuse qM_X8_105 ⟨⟨rfl, rfl⟩, Nat.le_of_ble_eq_true rfl, Nat.le_of_ble_eq_true rfl⟩ hK hH hS hA (hp.recv hK hH (i := 0) (by decide) rfl rfl) hl.1 ⟨Nat.zero_le _, Nat.zero_le _⟩ rfl rfl (Nat.le_of_ble_eq_true rfl) dX8_take_21 (fun H locs hH hS => ?_)
    exact cx_ri hC hr hlk (mpost.mk (by simp [sp_take, rf, c_9] <;> rfl)) hH hS dX8_take_24
  · have c_9 := b2i_t c_9
    obtain ⟨j, hj, rfl⟩ := isC_ex c_9
    refine lv_iload_n hx hb dX8_take_12 rfl (lv_at hl 3 rfl) ?_
    refine cm_S (As := [.int (d)]) (rest := []) hC (c_X8_isColumn) ms_X8_isColumn qM_X8_102 ⟨⟨rfl, rfl⟩, Nat.le_of_ble_eq_true rfl, Nat.le_of_ble_eq_true rfl⟩ hK hH hS hA hl.1 ⟨Nat.zero_le _, Nat.zero_le _⟩ rfl rfl (Nat.le_of_ble_eq_true rfl) dX8_take_13 (fun H locs hH hS => ?_)
    refine lv_if_ne (tgt := 25) hx hb dX8_take_16 (by decide) (fun c_16 => ?_) (fun c_16 => ?_)
    · have c_16 := b2i_t c_16
      obtain ⟨k, hk, rfl⟩ := isC_ex c_16
      refine lv_aload_n hx hb dX8_take_25 rfl (lv_at hl 0 rfl) ?_
      refine lv_iload_n hx hb dX8_take_26 rfl (lv_at hl 1 rfl) ?_
      refine cm_V (As' := [.int (nI j)]) (rest := []) hC (c_X8_reasonOfRow hj hw) mv_X8_reasonOfRow qM_X8_111 ⟨⟨rfl, rfl⟩, Nat.le_of_ble_eq_true rfl, Nat.le_of_ble_eq_true rfl⟩ hK hH hS hA (hp.recv hK hH (i := 0) (by decide) rfl rfl) hl.1 ⟨Nat.zero_le _, Nat.zero_le _⟩ rfl rfl (Nat.le_of_ble_eq_true rfl) dX8_take_27 (fun H locs hH hS => ?_)
      refine lv_istore (lv' := [(4, .int (nI (rsRow P j))), (0, .ref (ad 0)), (1, .int (nI j)), (2, .int (i)), (3, .int (nI k))]) hx hb dX8_take_30 hl (by decide) rfl (fun ls hl => ?_)
      have hb1 := rsRow_le P j
      refine lv_iload hx hb dX8_take_32 (lv_at hl 0 rfl) ?_
      refine lv_if_le (tgt := 44) hx hb dX8_take_34 (by decide) (fun c_34 => ?_) (fun c_34 => ?_)
      · have c_34 : (rsRow P j) = 0 := by have h9 := nc_le (a := (rsRow P j)) (b := 0) (by omega) (by omega) c_34; omega
        obtain ⟨t, h1j, hkt⟩ := rsRow_0 c_34
        have htt : t < 513 := by have := hw.2.2.2.1 j; have := hw.2.2.1; omega
        have hlt := hw.2.1 t
        have hn513 := hw.2.2.1
        refine lv_aload_n hx hb dX8_take_44 rfl (lv_at hl 1 rfl) ?_
        refine lv_aload_n hx hb dX8_take_45 rfl (lv_at hl 1 rfl) ?_
        refine lv_iload_n hx hb dX8_take_46 rfl (lv_at hl 2 rfl) ?_
        refine cm_V (As' := [.int (nI j)]) (rest := [.ref (ad 0)]) hC (c_X8_in1 hj h1j) mv_X8_in qM_X8_56 ⟨⟨rfl, rfl⟩, Nat.le_of_ble_eq_true rfl, Nat.le_of_ble_eq_true rfl⟩ hK hH hS hA (hp.recv hK hH (i := 0) (by decide) rfl rfl) hl.1 ⟨Nat.zero_le _, Nat.zero_le _⟩ rfl rfl (Nat.le_of_ble_eq_true rfl) dX8_take_47 (fun H locs hH hS => ?_)
        refine cm_V (As' := [.int (nI t)]) (rest := []) hC (c_X8_isPlain (by omega) hw) mv_X8_isPlain qM_X8_91 ⟨⟨rfl, rfl⟩, Nat.le_of_ble_eq_true rfl, Nat.le_of_ble_eq_true rfl⟩ hK hH hS hA (hp.recv hK hH (i := 0) (by decide) rfl rfl) hl.1 ⟨Nat.zero_le _, Nat.zero_le _⟩ rfl rfl (Nat.le_of_ble_eq_true rfl) dX8_take_50 (fun H locs hH hS => ?_)
        refine lv_if_eq (tgt := 63) hx hb dX8_take_53 (by decide) (fun c_53 => ?_) (fun c_53 => ?_)
        · have c_53 := b2d_f c_53
          refine lv_aload_n hx hb dX8_take_63 rfl (lv_at hl 1 rfl) ?_
          refine lv_aload_n hx hb dX8_take_64 rfl (lv_at hl 1 rfl) ?_
          refine lv_iload_n hx hb dX8_take_65 rfl (lv_at hl 2 rfl) ?_
          refine cm_V (As' := [.int (nI j)]) (rest := [.ref (ad 0)]) hC (c_X8_in1 hj h1j) mv_X8_in qM_X8_56 ⟨⟨rfl, rfl⟩, Nat.le_of_ble_eq_true rfl, Nat.le_of_ble_eq_true rfl⟩ hK hH hS hA (hp.recv hK hH (i := 0) (by decide) rfl rfl) hl.1 ⟨Nat.zero_le _, Nat.zero_le _⟩ rfl rfl (Nat.le_of_ble_eq_true rfl) dX8_take_66 (fun H locs hH hS => ?_)
          refine lv_iload_n hx hb dX8_take_69 rfl (lv_at hl 3 rfl) ?_
          refine cm_V (As' := [.int (nI t), .int (i)]) (rest := []) hC (c_X8_hasPlace (by omega) hw) mv_X8_hasPlace qM_X8_117 ⟨⟨rfl, rfl⟩, Nat.le_of_ble_eq_true rfl, Nat.le_of_ble_eq_true rfl⟩ hK hH hS hA (hp.recv hK hH (i := 0) (by decide) rfl rfl) hl.1 ⟨Nat.zero_le _, Nat.zero_le _⟩ rfl rfl (Nat.le_of_ble_eq_true rfl) dX8_take_70 (fun H locs hH hS => ?_)
          refine lv_if_ne (tgt := 82) hx hb dX8_take_73 (by decide) (fun c_73 => ?_) (fun c_73 => ?_)
          · have c_73 := b2i_t c_73
            obtain ⟨q, hqt, rfl⟩ := hasP_ex c_73
            refine lv_aload_n hx hb dX8_take_82 rfl (lv_at hl 1 rfl) ?_
            refine g_get hC hK inG8 hH 0 (by decide) rfl rfl 7 (by decide) qF_X8_30 (Or.inl rfl) rfl dX8_take_83 ?_
            refine lv_iload_n hx hb dX8_take_86 rfl (lv_at hl 4 rfl) ?_
            refine lv_aload_n hx hb dX8_take_87 rfl (lv_at hl 1 rfl) ?_
            refine g_get hC hK inG8 hH 0 (by decide) rfl rfl 4 (by decide) qF_X8_22 (Or.inl rfl) rfl dX8_take_88 ?_
            refine lv_bipush (v := 24) hx hb dX8_take_91 (by decide) ?_
            refine lv_aload_n hx hb dX8_take_93 rfl (lv_at hl 1 rfl) ?_
            refine lv_iload_n hx hb dX8_take_94 rfl (lv_at hl 2 rfl) ?_
            refine cm_V (As' := [.int (nI j)]) (rest := [.int (24), .ref (ad 5), .int (nI k), .ref (ad 7)]) hC (c_X8_in1 hj h1j) mv_X8_in qM_X8_56 ⟨⟨rfl, rfl⟩, Nat.le_of_ble_eq_true rfl, Nat.le_of_ble_eq_true rfl⟩ hK hH hS hA (hp.recv hK hH (i := 0) (by decide) rfl rfl) hl.1 ⟨Nat.zero_le _, Nat.zero_le _⟩ rfl rfl (Nat.le_of_ble_eq_true rfl) dX8_take_95 (fun H locs hH hS => ?_)
            refine lv_imul hx hb dX8_take_98 ?_
            refine lv_iload_n hx hb dX8_take_99 rfl (lv_at hl 3 rfl) ?_
            refine lv_iadd hx hb dX8_take_100 ?_
            refine mr_wh hC hK hH t q (by omega) dX8_take_101 ?_
            refine lv_l2i hx hb dX8_take_102 rfl ?_
            obtain ⟨x, h9x, h8x⟩ := hw.2.2.2.2 t q (by omega)
            refine lv_chg (y := nI x) (by rw [h9x, lN_i]) ?_
            refine mr_cos hC hK hH hS k x (by omega) dX8_take_103 (fun H locs hH hS => ?_)
            refine lv_aload_n hx hb dX8_take_104 rfl (lv_at hl 1 rfl) ?_
            refine g_get hC hK inG8 hH 0 (by decide) rfl rfl 7 (by decide) qF_X8_30 (Or.inl rfl) rfl dX8_take_105 ?_
            refine lv_iload_n hx hb dX8_take_108 rfl (lv_at hl 4 rfl) ?_
            refine gN_iald hC hK hH 7 (by decide) rfl k (by omega) dX8_take_109 ?_
            refine lv_chg (y := nI x) (by show nI (va_up _ _ _ _) = _; rw [va_up_self]) ?_
            refine lv_if_le (tgt := 117) hx hb dX8_take_110 (by decide) (fun c_110 => ?_) (fun c_110 => ?_)
            · have c_110 : x = 0 := by have h9 := nc_le (a := x) (b := 0) (by omega) (by omega) c_110; omega
              refine lv_iconst (v := 0) hx hb dX8_take_117 (by decide) ?_
              exact cx_ri hC hr hlk (mpost.mk (by simp [sp_take, rf, c_9, cN_c hj, c_16, cN_c hk, c_34, h1j, c_53, c_73, cN_p hw hqt, c_110, h9x, lN_clamp (show x < 2 ^ 31 by omega), lN_clamp (n := 0) (by decide)] <;> rfl)) hH hS dX8_take_118
            · have c_110 : ¬ x = 0 := by have h9 := nc_nle (a := x) (b := 0) (by omega) (by omega) c_110; omega
              refine lv_iconst (v := 1) hx hb dX8_take_113 (by decide) ?_
              refine lv_goto (tgt := 118) hx hb dX8_take_114 (by decide) ?_
              exact cx_ri hC hr hlk (mpost.mk (by simp [sp_take, rf, c_9, cN_c hj, c_16, cN_c hk, c_34, h1j, c_53, c_73, cN_p hw hqt, c_110, h9x, lN_clamp (show x < 2 ^ 31 by omega), lN_clamp (n := 0) (by decide)] <;> rfl)) hH hS dX8_take_118
          · have c_73 := b2i_f c_73
            refine lv_aload_n hx hb dX8_take_76 rfl (lv_at hl 1 rfl) ?_
            refine lv_iconst (v := 4) hx hb dX8_take_77 (by decide) ?_
            refine cm_V (As' := [.int (4)]) (rest := []) hC (c_X8_refuse) mv_X8_refuse qM_X8_105 ⟨⟨rfl, rfl⟩, Nat.le_of_ble_eq_true rfl, Nat.le_of_ble_eq_true rfl⟩ hK hH hS hA (hp.recv hK hH (i := 0) (by decide) rfl rfl) hl.1 ⟨Nat.zero_le _, Nat.zero_le _⟩ rfl rfl (Nat.le_of_ble_eq_true rfl) dX8_take_78 (fun H locs hH hS => ?_)
            exact cx_ri hC hr hlk (mpost.mk (by simp [sp_take, rf, c_9, cN_c hj, c_16, cN_c hk, c_34, h1j, c_53, c_73] <;> rfl)) hH hS dX8_take_81
        · have c_53 := b2d_t c_53
          refine lv_aload_n hx hb dX8_take_56 rfl (lv_at hl 1 rfl) ?_
          refine lv_bipush (v := 6) hx hb dX8_take_57 (by decide) ?_
          refine cm_V (As' := [.int (6)]) (rest := []) hC (c_X8_refuse) mv_X8_refuse qM_X8_105 ⟨⟨rfl, rfl⟩, Nat.le_of_ble_eq_true rfl, Nat.le_of_ble_eq_true rfl⟩ hK hH hS hA (hp.recv hK hH (i := 0) (by decide) rfl rfl) hl.1 ⟨Nat.zero_le _, Nat.zero_le _⟩ rfl rfl (Nat.le_of_ble_eq_true rfl) dX8_take_59 (fun H locs hH hS => ?_)
          exact cx_ri hC hr hlk (mpost.mk (by simp [sp_take, rf, c_9, cN_c hj, c_16, cN_c hk, c_34, h1j, c_53] <;> rfl)) hH hS dX8_take_62
      · have c_34 : ¬ (rsRow P j) = 0 := by have h9 := nc_nle (a := (rsRow P j)) (b := 0) (by omega) (by omega) c_34; omega
        refine lv_aload_n hx hb dX8_take_37 rfl (lv_at hl 1 rfl) ?_
        refine lv_iload hx hb dX8_take_38 (lv_at hl 0 rfl) ?_
        refine cm_V (As' := [.int (nI (rsRow P j))]) (rest := []) hC (c_X8_refuse) mv_X8_refuse qM_X8_105 ⟨⟨rfl, rfl⟩, Nat.le_of_ble_eq_true rfl, Nat.le_of_ble_eq_true rfl⟩ hK hH hS hA (hp.recv hK hH (i := 0) (by decide) rfl rfl) hl.1 ⟨Nat.zero_le _, Nat.zero_le _⟩ rfl rfl (Nat.le_of_ble_eq_true rfl) dX8_take_40 (fun H locs hH hS => ?_)
        exact cx_ri hC hr hlk (mpost.mk (by simp [sp_take, rf, c_9, cN_c hj, c_16, cN_c hk, c_34] <;> rfl)) hH hS dX8_take_43
    · have c_16 := b2i_f c_16
      refine lv_aload_n hx hb dX8_take_19 rfl (lv_at hl 0 rfl) ?_
      refine lv_iconst (v := 1) hx hb dX8_take_20 (by decide) ?_
      refine cm_V (As' := [.int (1)]) (rest := []) hC (c_X8_refuse) mv_X8_refuse qM_X8_105 ⟨⟨rfl, rfl⟩, Nat.le_of_ble_eq_true rfl, Nat.le_of_ble_eq_true rfl⟩ hK hH hS hA (hp.recv hK hH (i := 0) (by decide) rfl rfl) hl.1 ⟨Nat.zero_le _, Nat.zero_le _⟩ rfl rfl (Nat.le_of_ble_eq_true rfl) dX8_take_21 (fun H locs hH hS => ?_)
      exact cx_ri hC hr hlk (mpost.mk (by simp [sp_take, rf, c_9, cN_c hj, c_16] <;> rfl)) hH hS dX8_take_24
theorem mv_X8_why : mvok RX8 yX8_why cX8_why 1 (some .int) 0 := ⟨qK_X8_why, qI_X8_why, qSel_X8_X8_why, qInit_X8, by decide +kernel⟩
set_option maxHeartbeats 4000000 in
set_option maxRecDepth 100000 in
theorem c_X8_why {l : Launch} {D : va_G} {cy : Nat → ClassId} {ad : Nat → Nat} {P : AS} {wy : Int32} {so : Int32} {w : Int64} {r : UInt64} {ns : Nat → Int32} {nw : Nat → Int64} {nr : Nat → UInt64} {fr : Nat → Int32} {tt : Nat → Int32}   : CM l yX8_why cX8_why 1 (some .int) (rm_ 0 0) D cy 13 ad [.ref (ad 0)] (mct cy ad P wy so w r ns nw nr fr tt) (some (.int (wy))) (mct cy ad P wy so w r ns nw nr fr tt) := by
  refine CM.start (by decide) (Nat.le_of_ble_eq_true rfl) ?_
  intro p_ e_ s m_ below meth cd A ls hC hr hlk hin hK hA hH hl
  obtain ⟨hx, hb, hml, hown, hts⟩ := id hC
  have hS : va_S A s.heap s.heap [] := va_S.rf
  have hl : lv_has ls 1 [(0, .ref (ad 0))] := hl
  refine lv_aload_n hx hb dX8_why_0 rfl (lv_at hl 0 rfl) ?_
  refine g_get hC hK inG8 hH 0 (by decide) rfl rfl 8 (by decide) qF_X8_48 (Or.inl rfl) rfl dX8_why_1 ?_
  exact cm_ri hC hr hlk (rfl) (rfl) hH hS dX8_why_4
