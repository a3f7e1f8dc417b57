theorem mv_X8_merge : mvok RX8 yX8_merge cX8_merge 10 (some .int) 3 := ⟨qK_X8_merge, qI_X8_merge, qSel_X8_X8_merge, qInit_X8, by decide +kernel⟩
set_option maxHeartbeats 4000000 in
set_option maxRecDepth 100000 in
theorem c_X8_merge {l : Launch} {D : va_G} {cy : Nat → ClassId} {ad : Nat → Nat} {P : AS} {wy : Int32} {so : Int32} {w : Int64} {r : UInt64} {ns : Nat → Int32} {nw : Nat → Int64} {nr : Nat → UInt64} {fr : Nat → Int32} {tt : Nat → Int32} {c d e : Int32} (hw : WF P)  : CX l yX8_merge cX8_merge 10 (some .int) (rm_ 3 79) D cy 13 ad [.ref (ad 0), .int (c), .int (d), .int (e)] (mct cy ad P wy so w r ns nw nr fr tt) (mpost cy ad (sp_merge P c d e)) := by
  refine CX.startQ (by decide) (Nat.le_of_ble_eq_true rfl) ?_
  intro p_ e_ s m_ args_ below meth cd A ls Q hQ hC hr hlk hK hA hH hl
  obtain ⟨hx, hb, hml, hown, hts⟩ := id hC
  have hS : va_S A s.heap s.heap [] := va_S.rf
  have hl : lv_has ls 10 [(0, .ref (ad 0)), (1, .int (c)), (2, .int (d)), (3, .int (e))] := hl
  refine lv_aload_n hx hb dX8_merge_0 rfl (lv_at hl 0 rfl) ?_
  refine lv_iconst (v := 0) hx hb dX8_merge_1 (by decide) ?_
  refine g_put (ct' := mct cy ad P 0 so w r ns nw nr fr tt) hC hK inG8 tyX8 tyX8_ok nmX8 hH hS 0 (by decide) rfl rfl 8 (by decide) qF_X8_48 rfl rfl rfl rfl (Nat.le_of_ble_eq_true rfl) rfl mct_0 dX8_merge_2 (fun H locs hH hS => ?_)
  refine lv_iload_n hx hb dX8_merge_5 rfl (lv_at hl 1 rfl) ?_
  refine cm_S (As := [.int (c)]) (rest := []) hC (c_X8_isColumn) ms_X8_isColumn qM_X8_102 ⟨⟨rfl, rfl⟩, Nat.le_of_ble_eq_true rfl, Nat.le_of_ble_eq_true rfl⟩ hK hH hS hA hl.1 ⟨Nat.zero_le _, Nat.zero_le _⟩ rfl rfl (Nat.le_of_ble_eq_true rfl) dX8_merge_6 (fun H locs hH hS => ?_)
  refine lv_if_eq (tgt := 26) hx hb dX8_merge_9 (by decide) (fun c_9 => ?_) (fun c_9 => ?_)
  · have c_9 := b2i_f c_9
    refine lv_aload_n hx hb dX8_merge_26 rfl (lv_at hl 0 rfl) ?_
    refine lv_iconst (v := 1) hx hb dX8_merge_27 (by decide) ?_
    refine cm_V (As' := [.int (1)]) (rest := []) hC (c_X8_refuse) mv_X8_refuse qM_X8_105 ⟨⟨rfl, rfl⟩, Nat.le_of_ble_eq_true rfl, Nat.le_of_ble_eq_true rfl⟩ hK hH hS hA (hp.recv hK hH (i := 0) (by decide) rfl rfl) hl.1 ⟨Nat.zero_le _, Nat.zero_le _⟩ rfl rfl (Nat.le_of_ble_eq_true rfl) dX8_merge_28 (fun H locs hH hS => ?_)
    subst hQ
    exact cx_ri hC hr hlk (mpost.mk (by simp [sp_merge, rf, c_9] <;> rfl)) hH hS dX8_merge_31
  · have c_9 := b2i_t c_9
    obtain ⟨j, hj, rfl⟩ := isC_ex c_9
    refine lv_iload_n hx hb dX8_merge_12 rfl (lv_at hl 2 rfl) ?_
    refine cm_S (As := [.int (d)]) (rest := []) hC (c_X8_isColumn) ms_X8_isColumn qM_X8_102 ⟨⟨rfl, rfl⟩, Nat.le_of_ble_eq_true rfl, Nat.le_of_ble_eq_true rfl⟩ hK hH hS hA hl.1 ⟨Nat.zero_le _, Nat.zero_le _⟩ rfl rfl (Nat.le_of_ble_eq_true rfl) dX8_merge_13 (fun H locs hH hS => ?_)
    refine lv_if_eq (tgt := 26) hx hb dX8_merge_16 (by decide) (fun c_16 => ?_) (fun c_16 => ?_)
    · have c_16 := b2i_f c_16
      refine lv_aload_n hx hb dX8_merge_26 rfl (lv_at hl 0 rfl) ?_
      refine lv_iconst (v := 1) hx hb dX8_merge_27 (by decide) ?_
      refine cm_V (As' := [.int (1)]) (rest := []) hC (c_X8_refuse) mv_X8_refuse qM_X8_105 ⟨⟨rfl, rfl⟩, Nat.le_of_ble_eq_true rfl, Nat.le_of_ble_eq_true rfl⟩ hK hH hS hA (hp.recv hK hH (i := 0) (by decide) rfl rfl) hl.1 ⟨Nat.zero_le _, Nat.zero_le _⟩ rfl rfl (Nat.le_of_ble_eq_true rfl) dX8_merge_28 (fun H locs hH hS => ?_)
      subst hQ
      exact cx_ri hC hr hlk (mpost.mk (by simp [sp_merge, rf, c_9, cN_c hj, c_16] <;> rfl)) hH hS dX8_merge_31
    · have c_16 := b2i_t c_16
      obtain ⟨xx, hxx, rfl⟩ := isC_ex c_16
      refine lv_iload_n hx hb dX8_merge_19 rfl (lv_at hl 3 rfl) ?_
      refine cm_S (As := [.int (e)]) (rest := []) hC (c_X8_isColumn) ms_X8_isColumn qM_X8_102 ⟨⟨rfl, rfl⟩, Nat.le_of_ble_eq_true rfl, Nat.le_of_ble_eq_true rfl⟩ hK hH hS hA hl.1 ⟨Nat.zero_le _, Nat.zero_le _⟩ rfl rfl (Nat.le_of_ble_eq_true rfl) dX8_merge_20 (fun H locs hH hS => ?_)
      refine lv_if_ne (tgt := 32) hx hb dX8_merge_23 (by decide) (fun c_23 => ?_) (fun c_23 => ?_)
      · have c_23 := b2i_t c_23
        obtain ⟨q, hq, rfl⟩ := isC_ex c_23
        refine lv_aload_n hx hb dX8_merge_32 rfl (lv_at hl 0 rfl) ?_
        refine lv_iload_n hx hb dX8_merge_33 rfl (lv_at hl 1 rfl) ?_
        refine lv_iload_n hx hb dX8_merge_34 rfl (lv_at hl 2 rfl) ?_
        refine lv_iload_n hx hb dX8_merge_35 rfl (lv_at hl 3 rfl) ?_
        refine cm_V (As' := [.int (nI j), .int (nI xx), .int (nI q)]) (rest := []) hC (c_X8_reasonOfRows hj hxx hq hw) mv_X8_reasonOfRows qM_X8_154 ⟨⟨rfl, rfl⟩, Nat.le_of_ble_eq_true rfl, Nat.le_of_ble_eq_true rfl⟩ hK hH hS hA (hp.recv hK hH (i := 0) (by decide) rfl rfl) hl.1 ⟨Nat.zero_le _, Nat.zero_le _⟩ rfl rfl (Nat.le_of_ble_eq_true rfl) dX8_merge_36 (fun H locs hH hS => ?_)
        refine lv_istore (lv' := [(4, .int (nI (rsRows P j xx q))), (0, .ref (ad 0)), (1, .int (nI j)), (2, .int (nI xx)), (3, .int (nI q))]) hx hb dX8_merge_39 hl (by decide) rfl (fun ls hl => ?_)
        have hb1 := rsRows_le P j xx q
        refine lv_iload hx hb dX8_merge_41 (lv_at hl 0 rfl) ?_
        refine lv_if_le (tgt := 53) hx hb dX8_merge_43 (by decide) (fun c_43 => ?_) (fun c_43 => ?_)
        · have c_43 : (rsRows P j xx q) = 0 := by have h9 := nc_le (a := (rsRows P j xx q)) (b := 0) (by omega) (by omega) c_43; omega
          obtain ⟨ta, tb, tc, h1j, h1xx, h1q, hka, hkb, hkc⟩ := rsRows_0 c_43
          have hn513 := hw.2.2.1
          have hcoj := hw.2.2.2.1 j
          have hcox := hw.2.2.2.1 xx
          have hcoq := hw.2.2.2.1 q
          have hla := hw.2.1 ta
          have hlb := hw.2.1 tb
          have hlc := hw.2.1 tc
          refine lv_aload_n hx hb dX8_merge_53 rfl (lv_at hl 1 rfl) ?_
          refine lv_iload_n hx hb dX8_merge_54 rfl (lv_at hl 2 rfl) ?_
          refine cm_V (As' := [.int (nI j)]) (rest := []) hC (c_X8_in1 hj h1j) mv_X8_in qM_X8_56 ⟨⟨rfl, rfl⟩, Nat.le_of_ble_eq_true rfl, Nat.le_of_ble_eq_true rfl⟩ hK hH hS hA (hp.recv hK hH (i := 0) (by decide) rfl rfl) hl.1 ⟨Nat.zero_le _, Nat.zero_le _⟩ rfl rfl (Nat.le_of_ble_eq_true rfl) dX8_merge_55 (fun H locs hH hS => ?_)
          refine lv_istore (lv' := [(5, .int (nI ta)), (4, .int (nI (rsRows P j xx q))), (0, .ref (ad 0)), (1, .int (nI j)), (2, .int (nI xx)), (3, .int (nI q))]) hx hb dX8_merge_58 hl (by decide) rfl (fun ls hl => ?_)
          refine lv_aload_n hx hb dX8_merge_60 rfl (lv_at hl 2 rfl) ?_
          refine lv_iload_n hx hb dX8_merge_61 rfl (lv_at hl 4 rfl) ?_
          refine cm_V (As' := [.int (nI xx)]) (rest := []) hC (c_X8_in1 hxx h1xx) mv_X8_in qM_X8_56 ⟨⟨rfl, rfl⟩, Nat.le_of_ble_eq_true rfl, Nat.le_of_ble_eq_true rfl⟩ hK hH hS hA (hp.recv hK hH (i := 0) (by decide) rfl rfl) hl.1 ⟨Nat.zero_le _, Nat.zero_le _⟩ rfl rfl (Nat.le_of_ble_eq_true rfl) dX8_merge_62 (fun H locs hH hS => ?_)
          refine lv_istore (lv' := [(6, .int (nI tb)), (5, .int (nI ta)), (4, .int (nI (rsRows P j xx q))), (0, .ref (ad 0)), (1, .int (nI j)), (2, .int (nI xx)), (3, .int (nI q))]) hx hb dX8_merge_65 hl (by decide) rfl (fun ls hl => ?_)
          refine lv_aload_n hx hb dX8_merge_67 rfl (lv_at hl 3 rfl) ?_
          refine lv_iload_n hx hb dX8_merge_68 rfl (lv_at hl 6 rfl) ?_
          refine cm_V (As' := [.int (nI q)]) (rest := []) hC (c_X8_in1 hq h1q) mv_X8_in qM_X8_56 ⟨⟨rfl, rfl⟩, Nat.le_of_ble_eq_true rfl, Nat.le_of_ble_eq_true rfl⟩ hK hH hS hA (hp.recv hK hH (i := 0) (by decide) rfl rfl) hl.1 ⟨Nat.zero_le _, Nat.zero_le _⟩ rfl rfl (Nat.le_of_ble_eq_true rfl) dX8_merge_69 (fun H locs hH hS => ?_)
          refine lv_istore (lv' := [(7, .int (nI tc)), (6, .int (nI tb)), (5, .int (nI ta)), (4, .int (nI (rsRows P j xx q))), (0, .ref (ad 0)), (1, .int (nI j)), (2, .int (nI xx)), (3, .int (nI q))]) hx hb dX8_merge_72 hl (by decide) rfl (fun ls hl => ?_)
          refine lv_aload_n hx hb dX8_merge_74 rfl (lv_at hl 4 rfl) ?_
          refine lv_iload hx hb dX8_merge_75 (lv_at hl 2 rfl) ?_
          refine cm_V (As' := [.int (nI ta)]) (rest := []) hC (c_X8_isPlain (by omega) hw) mv_X8_isPlain qM_X8_91 ⟨⟨rfl, rfl⟩, Nat.le_of_ble_eq_true rfl, Nat.le_of_ble_eq_true rfl⟩ hK hH hS hA (hp.recv hK hH (i := 0) (by decide) rfl rfl) hl.1 ⟨Nat.zero_le _, Nat.zero_le _⟩ rfl rfl (Nat.le_of_ble_eq_true rfl) dX8_merge_77 (fun H locs hH hS => ?_)
          refine lv_if_eq (tgt := 134) hx hb dX8_merge_80 (by decide) (fun c_80 => ?_) (fun c_80 => ?_)
          · have c_80 := b2d_f c_80
            refine lv_aload_n hx hb dX8_merge_134 rfl (lv_at hl 4 rfl) ?_
            refine lv_bipush (v := 6) hx hb dX8_merge_135 (by decide) ?_
            refine cm_V (As' := [.int (6)]) (rest := []) hC (c_X8_refuse) mv_X8_refuse qM_X8_105 ⟨⟨rfl, rfl⟩, Nat.le_of_ble_eq_true rfl, Nat.le_of_ble_eq_true rfl⟩ hK hH hS hA (hp.recv hK hH (i := 0) (by decide) rfl rfl) hl.1 ⟨Nat.zero_le _, Nat.zero_le _⟩ rfl rfl (Nat.le_of_ble_eq_true rfl) dX8_merge_137 (fun H locs hH hS => ?_)
            subst hQ
            exact cx_ri hC hr hlk (mpost.mk (by simp [sp_merge, rf, c_9, cN_c hj, c_16, cN_c hxx, c_23, cN_c hq, c_43, h1j, h1xx, h1q, c_80] <;> rfl)) hH hS dX8_merge_140
          · have c_80 := b2d_t c_80
            refine lv_aload_n hx hb dX8_merge_83 rfl (lv_at hl 4 rfl) ?_
            refine lv_iload hx hb dX8_merge_84 (lv_at hl 1 rfl) ?_
            refine cm_V (As' := [.int (nI tb)]) (rest := []) hC (c_X8_isPlain (by omega) hw) mv_X8_isPlain qM_X8_91 ⟨⟨rfl, rfl⟩, Nat.le_of_ble_eq_true rfl, Nat.le_of_ble_eq_true rfl⟩ hK hH hS hA (hp.recv hK hH (i := 0) (by decide) rfl rfl) hl.1 ⟨Nat.zero_le _, Nat.zero_le _⟩ rfl rfl (Nat.le_of_ble_eq_true rfl) dX8_merge_86 (fun H locs hH hS => ?_)
            refine lv_if_eq (tgt := 134) hx hb dX8_merge_89 (by decide) (fun c_89 => ?_) (fun c_89 => ?_)
            · have c_89 := b2d_f c_89
              refine lv_aload_n hx hb dX8_merge_134 rfl (lv_at hl 4 rfl) ?_
              refine lv_bipush (v := 6) hx hb dX8_merge_135 (by decide) ?_
              refine cm_V (As' := [.int (6)]) (rest := []) hC (c_X8_refuse) mv_X8_refuse qM_X8_105 ⟨⟨rfl, rfl⟩, Nat.le_of_ble_eq_true rfl, Nat.le_of_ble_eq_true rfl⟩ hK hH hS hA (hp.recv hK hH (i := 0) (by decide) rfl rfl) hl.1 ⟨Nat.zero_le _, Nat.zero_le _⟩ rfl rfl (Nat.le_of_ble_eq_true rfl) dX8_merge_137 (fun H locs hH hS => ?_)
              subst hQ
              exact cx_ri hC hr hlk (mpost.mk (by simp [sp_merge, rf, c_9, cN_c hj, c_16, cN_c hxx, c_23, cN_c hq, c_43, h1j, h1xx, h1q, c_80, c_89] <;> rfl)) hH hS dX8_merge_140
            · have c_89 := b2d_t c_89
              refine lv_aload_n hx hb dX8_merge_92 rfl (lv_at hl 4 rfl) ?_
              refine lv_iload hx hb dX8_merge_93 (lv_at hl 0 rfl) ?_
              refine cm_V (As' := [.int (nI tc)]) (rest := []) hC (c_X8_isPlain (by omega) hw) mv_X8_isPlain qM_X8_91 ⟨⟨rfl, rfl⟩, Nat.le_of_ble_eq_true rfl, Nat.le_of_ble_eq_true rfl⟩ hK hH hS hA (hp.recv hK hH (i := 0) (by decide) rfl rfl) hl.1 ⟨Nat.zero_le _, Nat.zero_le _⟩ rfl rfl (Nat.le_of_ble_eq_true rfl) dX8_merge_95 (fun H locs hH hS => ?_)
              refine lv_if_eq (tgt := 134) hx hb dX8_merge_98 (by decide) (fun c_98 => ?_) (fun c_98 => ?_)
              · have c_98 := b2d_f c_98
                refine lv_aload_n hx hb dX8_merge_134 rfl (lv_at hl 4 rfl) ?_
                refine lv_bipush (v := 6) hx hb dX8_merge_135 (by decide) ?_
                refine cm_V (As' := [.int (6)]) (rest := []) hC (c_X8_refuse) mv_X8_refuse qM_X8_105 ⟨⟨rfl, rfl⟩, Nat.le_of_ble_eq_true rfl, Nat.le_of_ble_eq_true rfl⟩ hK hH hS hA (hp.recv hK hH (i := 0) (by decide) rfl rfl) hl.1 ⟨Nat.zero_le _, Nat.zero_le _⟩ rfl rfl (Nat.le_of_ble_eq_true rfl) dX8_merge_137 (fun H locs hH hS => ?_)
                subst hQ
                exact cx_ri hC hr hlk (mpost.mk (by simp [sp_merge, rf, c_9, cN_c hj, c_16, cN_c hxx, c_23, cN_c hq, c_43, h1j, h1xx, h1q, c_80, c_89, c_98] <;> rfl)) hH hS dX8_merge_140
              · have c_98 := b2d_t c_98
                refine lv_aload_n hx hb dX8_merge_101 rfl (lv_at hl 4 rfl) ?_
                refine g_get hC hK inG8 hH 0 (by decide) rfl rfl 1 (by decide) qF_X8_13 (Or.inl rfl) rfl dX8_merge_102 ?_
                refine lv_iload hx hb dX8_merge_105 (lv_at hl 2 rfl) ?_
                refine gN_iald hC hK hH 2 (by decide) rfl ta (by omega) dX8_merge_107 ?_
                refine lv_if_ne (tgt := 115) hx hb dX8_merge_108 (by decide) (fun c_108 => ?_) (fun c_108 => ?_)
                · have c_108 := nc_ne (a := (P.kd ta)) (b := 0) (by omega) (by omega) c_108
                  refine lv_iconst (v := 0) hx hb dX8_merge_115 (by decide) ?_
                  refine lv_aload_n hx hb dX8_merge_116 rfl (lv_at hl 4 rfl) ?_
                  refine g_get hC hK inG8 hH 0 (by decide) rfl rfl 1 (by decide) qF_X8_13 (Or.inl rfl) rfl dX8_merge_117 ?_
                  refine lv_iload hx hb dX8_merge_120 (lv_at hl 1 rfl) ?_
                  refine gN_iald hC hK hH 2 (by decide) rfl tb (by omega) dX8_merge_122 ?_
                  refine lv_if_ne (tgt := 130) hx hb dX8_merge_123 (by decide) (fun c_123 => ?_) (fun c_123 => ?_)
                  · have c_123 := nc_ne (a := (P.kd tb)) (b := 0) (by omega) (by omega) c_123
                    refine lv_iconst (v := 0) hx hb dX8_merge_130 (by decide) ?_
                    refine lv_icmp_eq (tgt := 141) hx hb dX8_merge_131 (by decide) (fun c_131 => ?_) (fun c_131 => absurd c_131 (by decide))
                    refine lv_aload_n hx hb dX8_merge_141 rfl (lv_at hl 4 rfl) ?_
                    refine g_get hC hK inG8 hH 0 (by decide) rfl rfl 2 (by decide) qF_X8_16 (Or.inl rfl) rfl dX8_merge_142 ?_
                    refine lv_iload hx hb dX8_merge_145 (lv_at hl 0 rfl) ?_
                    refine gN_iald hC hK hH 3 (by decide) rfl tc (by omega) dX8_merge_147 ?_
                    refine lv_istore (lv' := [(8, .int (nI (P.ln tc))), (7, .int (nI tc)), (6, .int (nI tb)), (5, .int (nI ta)), (4, .int (nI (rsRows P j xx q))), (0, .ref (ad 0)), (1, .int (nI j)), (2, .int (nI xx)), (3, .int (nI q))]) hx hb dX8_merge_148 hl (by decide) rfl (fun ls hl => ?_)
                    refine lv_iload hx hb dX8_merge_150 (lv_at hl 0 rfl) ?_
                    refine lv_aload_n hx hb dX8_merge_152 rfl (lv_at hl 5 rfl) ?_
                    refine g_get hC hK inG8 hH 0 (by decide) rfl rfl 2 (by decide) qF_X8_16 (Or.inl rfl) rfl dX8_merge_153 ?_
                    refine lv_iload hx hb dX8_merge_156 (lv_at hl 3 rfl) ?_
                    refine gN_iald hC hK hH 3 (by decide) rfl ta (by omega) dX8_merge_158 ?_
                    refine lv_aload_n hx hb dX8_merge_159 rfl (lv_at hl 5 rfl) ?_
                    refine g_get hC hK inG8 hH 0 (by decide) rfl rfl 2 (by decide) qF_X8_16 (Or.inl rfl) rfl dX8_merge_160 ?_
                    refine lv_iload hx hb dX8_merge_163 (lv_at hl 2 rfl) ?_
                    refine gN_iald hC hK hH 3 (by decide) rfl tb (by omega) dX8_merge_165 ?_
                    refine lv_iadd hx hb dX8_merge_166 ?_
                    refine lv_chg (y := nI (P.ln ta + P.ln tb)) (nI_add _ _) ?_
                    refine lv_icmp_eq (tgt := 176) hx hb dX8_merge_167 (by decide) (fun c_167 => ?_) (fun c_167 => ?_)
                    · have c_167 := nc_eq (a := (P.ln tc)) (b := (P.ln ta + P.ln tb)) (by omega) (by omega) c_167
                      refine lv_aload_n hx hb dX8_merge_176 rfl (lv_at hl 5 rfl) ?_
                      refine lv_iload hx hb dX8_merge_177 (lv_at hl 3 rfl) ?_
                      refine lv_iload hx hb dX8_merge_179 (lv_at hl 2 rfl) ?_
                      refine cx_V (As' := [.int (nI ta), .int (nI tb)]) (rest := []) hC (c_X8_mergeAll (x := ta) (y := tb) (by omega) (by omega) (by omega) (by omega) (by omega)) mv_X8_mergeAll qM_X8_167 ⟨⟨rfl, rfl⟩, Nat.le_of_ble_eq_true rfl, Nat.le_of_ble_eq_true rfl⟩ hK hH hS hA (hp.recv hK hH (i := 0) (by decide) rfl rfl) hl.1 ⟨Nat.zero_le _, Nat.zero_le _⟩ rfl rfl (Nat.le_of_ble_eq_true rfl) dX8_merge_181 (fun v9 c9 H locs hpo hH hS hfr9 => ?_)
                      obtain ⟨e9, so, w, r, rfl⟩ := hpo
                      subst e9
                      refine lv_iconst (v := 0) hx hb dX8_merge_184 (by decide) ?_
                      refine lv_istore (lv' := [(9, .int (0)), (8, .int (nI (P.ln tc))), (7, .int (nI tc)), (6, .int (nI tb)), (5, .int (nI ta)), (4, .int (nI (rsRows P j xx q))), (0, .ref (ad 0)), (1, .int (nI j)), (2, .int (nI xx)), (3, .int (nI q))]) hx hb dX8_merge_185 hl (by decide) rfl (fun ls hl => ?_)
                      have lp1 : ∀ (n9 k : Nat), k ≤ (P.ln tc) → (P.ln tc) < k + n9 → ∀ (so : Int32) (w : Int64) (r : UInt64) (hz : mgG P ta tb tc k = true) (H : Heap) (locs : List Loc), hp D A 13 ad (mct cy ad P 0 so w r (ldI ns (fun i => nI (mgS P ta tb i)) (P.ln ta + P.ln tb)) (ldL nw (fun i => (mgV P ta tb i).1) (P.ln ta + P.ln tb)) (ldD nr (fun i => (mgV P ta tb i).2) (P.ln ta + P.ln tb)) fr tt) H → va_S A s.heap H locs → ∀ (ls : Array Slot), lv_has ls 10 [(9, .int (nI k)), (8, .int (nI (P.ln tc))), (7, .int (nI tc)), (6, .int (nI tb)), (5, .int (nI ta)), (4, .int (nI (rsRows P j xx q))), (0, .ref (ad 0)), (1, .int (nI j)), (2, .int (nI xx)), (3, .int (nI q))] → W p_ l e_ (rm_ 3 79) s m_ args_ below meth cd H locs 0 0 Q (F0 m_ 187 ls []) := by
                        intro n9
                        induction n9 with
                        | zero => intro k h1 h2; omega
                        | succ n9 ih_lp1 =>
                          intro k hk1 hk2 so w r hz H locs hH hS ls hl
                          refine lv_iload hx hb dX8_merge_187 (lv_at hl 0 rfl) ?_
                          refine lv_iload hx hb dX8_merge_189 (lv_at hl 1 rfl) ?_
                          refine lv_icmp_ge (tgt := 227) hx hb dX8_merge_191 (by decide) (fun c_191 => ?_) (fun c_191 => ?_)
                          · have c_191 := nc_le (a := (P.ln tc)) (b := k) (by omega) (by omega) c_191
                            have hz9 : mgG P ta tb tc (P.ln tc) = true := by rw [show P.ln tc = k by omega]; exact hz
                            refine lv_iconst (v := 0) hx hb dX8_merge_227 (by decide) ?_
                            refine lv_istore (lv' := [(9, .int (0)), (8, .int (nI (P.ln tc))), (7, .int (nI tc)), (6, .int (nI tb)), (5, .int (nI ta)), (4, .int (nI (rsRows P j xx q))), (0, .ref (ad 0)), (1, .int (nI j)), (2, .int (nI xx)), (3, .int (nI q))]) hx hb dX8_merge_228 hl (by decide) rfl (fun ls hl => ?_)
                            have lp2 : ∀ (n9 i2 : Nat), i2 ≤ (P.ln tc) → (P.ln tc) < i2 + n9 → ∀ (so : Int32) (w : Int64) (r : UInt64)  (H : Heap) (locs : List Loc), hp D A 13 ad (mct cy ad (mgW P ta tb tc i2) 0 so w r (ldI ns (fun i => nI (mgS P ta tb i)) (P.ln ta + P.ln tb)) (ldL nw (fun i => (mgV P ta tb i).1) (P.ln ta + P.ln tb)) (ldD nr (fun i => (mgV P ta tb i).2) (P.ln ta + P.ln tb)) fr tt) H → va_S A s.heap H locs → ∀ (ls : Array Slot), lv_has ls 10 [(9, .int (nI i2)), (8, .int (nI (P.ln tc))), (7, .int (nI tc)), (6, .int (nI tb)), (5, .int (nI ta)), (4, .int (nI (rsRows P j xx q))), (0, .ref (ad 0)), (1, .int (nI j)), (2, .int (nI xx)), (3, .int (nI q))] → W p_ l e_ (rm_ 3 79) s m_ args_ below meth cd H locs 0 0 Q (F0 m_ 230 ls []) := by
                              intro n9
                              induction n9 with
                              | zero => intro i2 h1 h2; omega
                              | succ n9 ih_lp2 =>
                                intro i2 hk1 hk2 so w r  H locs hH hS ls hl
                                refine lv_iload hx hb dX8_merge_230 (lv_at hl 0 rfl) ?_
                                refine lv_iload hx hb dX8_merge_232 (lv_at hl 1 rfl) ?_
                                refine lv_icmp_ge (tgt := 295) hx hb dX8_merge_234 (by decide) (fun c_234 => ?_) (fun c_234 => ?_)
                                · have c_234 := nc_le (a := (P.ln tc)) (b := i2) (by omega) (by omega) c_234
                                  refine lv_iload hx hb dX8_merge_295 (lv_at hl 1 rfl) ?_
                                  subst hQ
                                  exact cx_ri hC hr hlk (mpost.mk (by rw [show i2 = P.ln tc by omega]; simp [sp_merge, rf, c_9, cN_c hj, c_16, cN_c hxx, c_23, cN_c hq, c_43, h1j, h1xx, h1q, c_80, c_89, c_98, c_108, c_123, c_167, show mgG P ta tb tc (P.ln ta + P.ln tb) = true by rw [← c_167]; exact hz9])) hH hS dX8_merge_297
                                · have c_234 := nc_nle (a := (P.ln tc)) (b := i2) (by omega) (by omega) c_234
                                  refine lv_aload_n hx hb dX8_merge_237 rfl (lv_at hl 6 rfl) ?_
                                  refine lv_aload_n hx hb dX8_merge_238 rfl (lv_at hl 6 rfl) ?_
                                  refine g_get hC hK inG8 hH 0 (by decide) rfl rfl 12 (by decide) qF_X8_33 (Or.inl rfl) rfl dX8_merge_239 ?_
                                  refine lv_iload hx hb dX8_merge_242 (lv_at hl 0 rfl) ?_
                                  refine gN_iald hC hK hH 8 (by decide) rfl i2 (by omega) dX8_merge_244 ?_
                                  have hs8 := mgS_lt (k := i2) c_80 c_89
                                  refine lv_chg (y := nI (mgS P ta tb i2)) (ldI_at (by omega)) ?_
                                  refine g_put (ct' := mct cy ad (mgW P ta tb tc i2) 0 (nI (mgS P ta tb i2)) w r (ldI ns (fun i => nI (mgS P ta tb i)) (P.ln ta + P.ln tb)) (ldL nw (fun i => (mgV P ta tb i).1) (P.ln ta + P.ln tb)) (ldD nr (fun i => (mgV P ta tb i).2) (P.ln ta + P.ln tb)) fr tt) hC hK inG8 tyX8 tyX8_ok nmX8 hH hS 0 (by decide) rfl rfl 9 (by decide) qF_X8_66 rfl rfl rfl rfl (Nat.le_of_ble_eq_true rfl) rfl mct_0 dX8_merge_245 (fun H locs hH hS => ?_)
                                  refine lv_aload_n hx hb dX8_merge_248 rfl (lv_at hl 6 rfl) ?_
                                  refine lv_aload_n hx hb dX8_merge_249 rfl (lv_at hl 6 rfl) ?_
                                  refine g_get hC hK inG8 hH 0 (by decide) rfl rfl 13 (by decide) qF_X8_36 (Or.inl rfl) rfl dX8_merge_250 ?_
                                  refine lv_iload hx hb dX8_merge_253 (lv_at hl 0 rfl) ?_
                                  refine gN_lald hC hK hH 9 (by decide) rfl i2 (by omega) dX8_merge_255 ?_
                                  refine lv_chgl (y := (mgV P ta tb i2).1) (ldL_at (by omega)) ?_
                                  refine g_put (ct' := mct cy ad (mgW P ta tb tc i2) 0 (nI (mgS P ta tb i2)) ((mgV P ta tb i2).1) r (ldI ns (fun i => nI (mgS P ta tb i)) (P.ln ta + P.ln tb)) (ldL nw (fun i => (mgV P ta tb i).1) (P.ln ta + P.ln tb)) (ldD nr (fun i => (mgV P ta tb i).2) (P.ln ta + P.ln tb)) fr tt) hC hK inG8 tyX8 tyX8_ok nmX8 hH hS 0 (by decide) rfl rfl 10 (by decide) qF_X8_69 rfl rfl rfl rfl (Nat.le_of_ble_eq_true rfl) rfl mct_0 dX8_merge_256 (fun H locs hH hS => ?_)
                                  refine lv_aload_n hx hb dX8_merge_259 rfl (lv_at hl 6 rfl) ?_
                                  refine lv_aload_n hx hb dX8_merge_260 rfl (lv_at hl 6 rfl) ?_
                                  refine g_get hC hK inG8 hH 0 (by decide) rfl rfl 14 (by decide) qF_X8_39 (Or.inl rfl) rfl dX8_merge_261 ?_
                                  refine lv_iload hx hb dX8_merge_264 (lv_at hl 0 rfl) ?_
                                  refine gN_dald hC hK hH 10 (by decide) rfl i2 (by omega) dX8_merge_266 ?_
                                  refine lv_chgd (y := (mgV P ta tb i2).2) (ldD_at (by omega)) ?_
                                  refine g_put (ct' := mct cy ad (mgW P ta tb tc i2) 0 (nI (mgS P ta tb i2)) ((mgV P ta tb i2).1) ((mgV P ta tb i2).2) (ldI ns (fun i => nI (mgS P ta tb i)) (P.ln ta + P.ln tb)) (ldL nw (fun i => (mgV P ta tb i).1) (P.ln ta + P.ln tb)) (ldD nr (fun i => (mgV P ta tb i).2) (P.ln ta + P.ln tb)) fr tt) hC hK inG8 tyX8 tyX8_ok nmX8 hH hS 0 (by decide) rfl rfl 11 (by decide) qF_X8_73 rfl rfl rfl rfl (Nat.le_of_ble_eq_true rfl) rfl mct_0 dX8_merge_267 (fun H locs hH hS => ?_)
                                  refine lv_aload_n hx hb dX8_merge_270 rfl (lv_at hl 6 rfl) ?_
                                  refine lv_aload_n hx hb dX8_merge_271 rfl (lv_at hl 6 rfl) ?_
                                  refine g_get hC hK inG8 hH 0 (by decide) rfl rfl 1 (by decide) qF_X8_13 (Or.inl rfl) rfl dX8_merge_272 ?_
                                  refine lv_iload hx hb dX8_merge_275 (lv_at hl 2 rfl) ?_
                                  refine gN_iald hC hK hH 2 (by decide) rfl tc (by omega) dX8_merge_277 ?_
                                  refine lv_chg (y := nI (P.kd tc)) (by rw [(mgW_same P ta tb tc i2).2.1]) ?_
                                  refine cm_V (As' := [.int (nI (P.kd tc))]) (rest := []) hC (c_X8_widen (by omega) (by omega)) mv_X8_widen qM_X8_131 ⟨⟨rfl, rfl⟩, Nat.le_of_ble_eq_true rfl, Nat.le_of_ble_eq_true rfl⟩ hK hH hS hA (hp.recv hK hH (i := 0) (by decide) rfl rfl) hl.1 ⟨Nat.zero_le _, Nat.zero_le _⟩ rfl rfl (Nat.le_of_ble_eq_true rfl) dX8_merge_278 (fun H locs hH hS => ?_)
                                  refine lv_aload_n hx hb dX8_merge_281 rfl (lv_at hl 6 rfl) ?_
                                  refine lv_iload hx hb dX8_merge_282 (lv_at hl 2 rfl) ?_
                                  refine lv_iload hx hb dX8_merge_284 (lv_at hl 0 rfl) ?_
                                  refine cm_V (As' := [.int (nI tc), .int (nI i2)]) (rest := []) hC (c_X8_set (by omega) (by omega)) mv_X8_set qM_X8_135 ⟨⟨rfl, rfl⟩, Nat.le_of_ble_eq_true rfl, Nat.le_of_ble_eq_true rfl⟩ hK hH hS hA (hp.recv hK hH (i := 0) (by decide) rfl rfl) hl.1 ⟨Nat.zero_le _, Nat.zero_le _⟩ rfl rfl (Nat.le_of_ble_eq_true rfl) dX8_merge_286 (fun H locs hH hS => ?_)
                                  refine lv_iinc (v := nI (i2 + 1)) (lv' := [(9, .int (nI (i2 + 1))), (8, .int (nI (P.ln tc))), (7, .int (nI tc)), (6, .int (nI tb)), (5, .int (nI ta)), (4, .int (nI (rsRows P j xx q))), (0, .ref (ad 0)), (1, .int (nI j)), (2, .int (nI xx)), (3, .int (nI q))]) hx hb dX8_merge_289 hl (k := 0) rfl (nI_1 _) (by decide) rfl (fun ls hl => ?_)
                                  refine lv_goto (tgt := 230) hx hb dX8_merge_292 (by decide) ?_
                                  exact ih_lp2 (i2 + 1) (by omega) (by omega) _ _ _  _ _ hH hS ls (lv_sub hl [0, 1, 2, 3, 4, 5, 6, 7, 8, 9] rfl)
                            exact lp2 ((P.ln tc) + 1) 0 (by omega) (by omega) _ _ _  _ _ hH hS ls (lv_sub hl [0, 1, 2, 3, 4, 5, 6, 7, 8, 9] rfl)
                          · have c_191 := nc_nle (a := (P.ln tc)) (b := k) (by omega) (by omega) c_191
                            refine lv_aload_n hx hb dX8_merge_194 rfl (lv_at hl 6 rfl) ?_
                            refine lv_aload_n hx hb dX8_merge_195 rfl (lv_at hl 6 rfl) ?_
                            refine g_get hC hK inG8 hH 0 (by decide) rfl rfl 12 (by decide) qF_X8_33 (Or.inl rfl) rfl dX8_merge_196 ?_
                            refine lv_iload hx hb dX8_merge_199 (lv_at hl 0 rfl) ?_
                            refine gN_iald hC hK hH 8 (by decide) rfl k (by omega) dX8_merge_201 ?_
                            have hs8 := mgS_lt (k := k) c_80 c_89
                            refine lv_chg (y := nI (mgS P ta tb k)) (ldI_at (by omega)) ?_
                            refine lv_aload_n hx hb dX8_merge_202 rfl (lv_at hl 6 rfl) ?_
                            refine g_get hC hK inG8 hH 0 (by decide) rfl rfl 1 (by decide) qF_X8_13 (Or.inl rfl) rfl dX8_merge_203 ?_
                            refine lv_iload hx hb dX8_merge_206 (lv_at hl 2 rfl) ?_
                            refine gN_iald hC hK hH 2 (by decide) rfl tc (by omega) dX8_merge_208 ?_
                            refine cm_V (As' := [.int (nI (mgS P ta tb k)), .int (nI (P.kd tc))]) (rest := []) hC (c_X8_goesInto (a := (mgS P ta tb k)) (b := (P.kd tc)) (by omega) (by omega)) mv_X8_goesInto qM_X8_94 ⟨⟨rfl, rfl⟩, Nat.le_of_ble_eq_true rfl, Nat.le_of_ble_eq_true rfl⟩ hK hH hS hA (hp.recv hK hH (i := 0) (by decide) rfl rfl) hl.1 ⟨Nat.zero_le _, Nat.zero_le _⟩ rfl rfl (Nat.le_of_ble_eq_true rfl) dX8_merge_209 (fun H locs hH hS => ?_)
                            refine lv_if_ne (tgt := 221) hx hb dX8_merge_212 (by decide) (fun c_212 => ?_) (fun c_212 => ?_)
                            · have c_212 := b2i_t c_212
                              refine lv_iinc (v := nI (k + 1)) (lv' := [(9, .int (nI (k + 1))), (8, .int (nI (P.ln tc))), (7, .int (nI tc)), (6, .int (nI tb)), (5, .int (nI ta)), (4, .int (nI (rsRows P j xx q))), (0, .ref (ad 0)), (1, .int (nI j)), (2, .int (nI xx)), (3, .int (nI q))]) hx hb dX8_merge_221 hl (k := 0) rfl (nI_1 _) (by decide) rfl (fun ls hl => ?_)
                              refine lv_goto (tgt := 187) hx hb dX8_merge_224 (by decide) ?_
                              exact ih_lp1 (k + 1) (by omega) (by omega) _ _ _ (by show (_ && _) = true; rw [hz, c_212]; rfl) _ _ hH hS ls (lv_sub hl [0, 1, 2, 3, 4, 5, 6, 7, 8, 9] rfl)
                            · have c_212 := b2i_f c_212
                              refine lv_aload_n hx hb dX8_merge_215 rfl (lv_at hl 6 rfl) ?_
                              refine lv_iconst (v := 5) hx hb dX8_merge_216 (by decide) ?_
                              refine cm_V (As' := [.int (5)]) (rest := []) hC (c_X8_refuse) mv_X8_refuse qM_X8_105 ⟨⟨rfl, rfl⟩, Nat.le_of_ble_eq_true rfl, Nat.le_of_ble_eq_true rfl⟩ hK hH hS hA (hp.recv hK hH (i := 0) (by decide) rfl rfl) hl.1 ⟨Nat.zero_le _, Nat.zero_le _⟩ rfl rfl (Nat.le_of_ble_eq_true rfl) dX8_merge_217 (fun H locs hH hS => ?_)
                              subst hQ
                              exact cx_ri hC hr hlk (mpost.mk (by simp [sp_merge, rf, c_9, cN_c hj, c_16, cN_c hxx, c_23, cN_c hq, c_43, h1j, h1xx, h1q, c_80, c_89, c_98, c_108, c_123, c_167, c_212, show mgG P ta tb tc (P.ln ta + P.ln tb) = false by rw [← c_167]; exact mgG_no c_212 (by omega)] <;> rfl)) hH hS dX8_merge_220
                      exact lp1 ((P.ln tc) + 1) 0 (by omega) (by omega) _ _ _ (rfl) _ _ hH hS ls (lv_sub hl [0, 1, 2, 3, 4, 5, 6, 7, 8, 9] rfl)
                    · have c_167 := nc_ne (a := (P.ln tc)) (b := (P.ln ta + P.ln tb)) (by omega) (by omega) c_167
                      refine lv_aload_n hx hb dX8_merge_170 rfl (lv_at hl 5 rfl) ?_
                      refine lv_iconst (v := 4) hx hb dX8_merge_171 (by decide) ?_
                      refine cm_V (As' := [.int (4)]) (rest := []) hC (c_X8_refuse) mv_X8_refuse qM_X8_105 ⟨⟨rfl, rfl⟩, Nat.le_of_ble_eq_true rfl, Nat.le_of_ble_eq_true rfl⟩ hK hH hS hA (hp.recv hK hH (i := 0) (by decide) rfl rfl) hl.1 ⟨Nat.zero_le _, Nat.zero_le _⟩ rfl rfl (Nat.le_of_ble_eq_true rfl) dX8_merge_172 (fun H locs hH hS => ?_)
                      subst hQ
                      exact cx_ri hC hr hlk (mpost.mk (by simp [sp_merge, rf, c_9, cN_c hj, c_16, cN_c hxx, c_23, cN_c hq, c_43, h1j, h1xx, h1q, c_80, c_89, c_98, c_108, c_123, c_167] <;> rfl)) hH hS dX8_merge_175
                  · have c_123 := nc_eq (a := (P.kd tb)) (b := 0) (by omega) (by omega) c_123
                    refine lv_iconst (v := 1) hx hb dX8_merge_126 (by decide) ?_
                    refine lv_goto (tgt := 131) hx hb dX8_merge_127 (by decide) ?_
                    refine lv_icmp_eq (tgt := 141) hx hb dX8_merge_131 (by decide) (fun c_131 => absurd c_131 (by decide)) (fun c_131 => ?_)
                    refine lv_aload_n hx hb dX8_merge_134 rfl (lv_at hl 4 rfl) ?_
                    refine lv_bipush (v := 6) hx hb dX8_merge_135 (by decide) ?_
                    refine cm_V (As' := [.int (6)]) (rest := []) hC (c_X8_refuse) mv_X8_refuse qM_X8_105 ⟨⟨rfl, rfl⟩, Nat.le_of_ble_eq_true rfl, Nat.le_of_ble_eq_true rfl⟩ hK hH hS hA (hp.recv hK hH (i := 0) (by decide) rfl rfl) hl.1 ⟨Nat.zero_le _, Nat.zero_le _⟩ rfl rfl (Nat.le_of_ble_eq_true rfl) dX8_merge_137 (fun H locs hH hS => ?_)
                    subst hQ
                    exact cx_ri hC hr hlk (mpost.mk (by simp [sp_merge, rf, c_9, cN_c hj, c_16, cN_c hxx, c_23, cN_c hq, c_43, h1j, h1xx, h1q, c_80, c_89, c_98, c_108, c_123] <;> rfl)) hH hS dX8_merge_140
                · have c_108 := nc_eq (a := (P.kd ta)) (b := 0) (by omega) (by omega) c_108
                  refine lv_iconst (v := 1) hx hb dX8_merge_111 (by decide) ?_
                  refine lv_goto (tgt := 116) hx hb dX8_merge_112 (by decide) ?_
                  refine lv_aload_n hx hb dX8_merge_116 rfl (lv_at hl 4 rfl) ?_
                  refine g_get hC hK inG8 hH 0 (by decide) rfl rfl 1 (by decide) qF_X8_13 (Or.inl rfl) rfl dX8_merge_117 ?_
                  refine lv_iload hx hb dX8_merge_120 (lv_at hl 1 rfl) ?_
                  refine gN_iald hC hK hH 2 (by decide) rfl tb (by omega) dX8_merge_122 ?_
                  refine lv_if_ne (tgt := 130) hx hb dX8_merge_123 (by decide) (fun c_123 => ?_) (fun c_123 => ?_)
                  · have c_123 := nc_ne (a := (P.kd tb)) (b := 0) (by omega) (by omega) c_123
                    refine lv_iconst (v := 0) hx hb dX8_merge_130 (by decide) ?_
                    refine lv_icmp_eq (tgt := 141) hx hb dX8_merge_131 (by decide) (fun c_131 => absurd c_131 (by decide)) (fun c_131 => ?_)
                    refine lv_aload_n hx hb dX8_merge_134 rfl (lv_at hl 4 rfl) ?_
                    refine lv_bipush (v := 6) hx hb dX8_merge_135 (by decide) ?_
                    refine cm_V (As' := [.int (6)]) (rest := []) hC (c_X8_refuse) mv_X8_refuse qM_X8_105 ⟨⟨rfl, rfl⟩, Nat.le_of_ble_eq_true rfl, Nat.le_of_ble_eq_true rfl⟩ hK hH hS hA (hp.recv hK hH (i := 0) (by decide) rfl rfl) hl.1 ⟨Nat.zero_le _, Nat.zero_le _⟩ rfl rfl (Nat.le_of_ble_eq_true rfl) dX8_merge_137 (fun H locs hH hS => ?_)
                    subst hQ
                    exact cx_ri hC hr hlk (mpost.mk (by simp [sp_merge, rf, c_9, cN_c hj, c_16, cN_c hxx, c_23, cN_c hq, c_43, h1j, h1xx, h1q, c_80, c_89, c_98, c_108, c_123] <;> rfl)) hH hS dX8_merge_140
                  · have c_123 := nc_eq (a := (P.kd tb)) (b := 0) (by omega) (by omega) c_123
                    refine lv_iconst (v := 1) hx hb dX8_merge_126 (by decide) ?_
                    refine lv_goto (tgt := 131) hx hb dX8_merge_127 (by decide) ?_
                    refine lv_icmp_eq (tgt := 141) hx hb dX8_merge_131 (by decide) (fun c_131 => ?_) (fun c_131 => absurd c_131 (by decide))
                    refine lv_aload_n hx hb dX8_merge_141 rfl (lv_at hl 4 rfl) ?_
                    refine g_get hC hK inG8 hH 0 (by decide) rfl rfl 2 (by decide) qF_X8_16 (Or.inl rfl) rfl dX8_merge_142 ?_
                    refine lv_iload hx hb dX8_merge_145 (lv_at hl 0 rfl) ?_
                    refine gN_iald hC hK hH 3 (by decide) rfl tc (by omega) dX8_merge_147 ?_
                    refine lv_istore (lv' := [(8, .int (nI (P.ln tc))), (7, .int (nI tc)), (6, .int (nI tb)), (5, .int (nI ta)), (4, .int (nI (rsRows P j xx q))), (0, .ref (ad 0)), (1, .int (nI j)), (2, .int (nI xx)), (3, .int (nI q))]) hx hb dX8_merge_148 hl (by decide) rfl (fun ls hl => ?_)
                    refine lv_iload hx hb dX8_merge_150 (lv_at hl 0 rfl) ?_
                    refine lv_aload_n hx hb dX8_merge_152 rfl (lv_at hl 5 rfl) ?_
                    refine g_get hC hK inG8 hH 0 (by decide) rfl rfl 2 (by decide) qF_X8_16 (Or.inl rfl) rfl dX8_merge_153 ?_
                    refine lv_iload hx hb dX8_merge_156 (lv_at hl 3 rfl) ?_
                    refine gN_iald hC hK hH 3 (by decide) rfl ta (by omega) dX8_merge_158 ?_
                    refine lv_aload_n hx hb dX8_merge_159 rfl (lv_at hl 5 rfl) ?_
                    refine g_get hC hK inG8 hH 0 (by decide) rfl rfl 2 (by decide) qF_X8_16 (Or.inl rfl) rfl dX8_merge_160 ?_
                    refine lv_iload hx hb dX8_merge_163 (lv_at hl 2 rfl) ?_
                    refine gN_iald hC hK hH 3 (by decide) rfl tb (by omega) dX8_merge_165 ?_
                    refine lv_iadd hx hb dX8_merge_166 ?_
                    refine lv_chg (y := nI (P.ln ta + P.ln tb)) (nI_add _ _) ?_
                    refine lv_icmp_eq (tgt := 176) hx hb dX8_merge_167 (by decide) (fun c_167 => ?_) (fun c_167 => ?_)
                    · have c_167 := nc_eq (a := (P.ln tc)) (b := (P.ln ta + P.ln tb)) (by omega) (by omega) c_167
                      refine lv_aload_n hx hb dX8_merge_176 rfl (lv_at hl 5 rfl) ?_
                      refine lv_iload hx hb dX8_merge_177 (lv_at hl 3 rfl) ?_
                      refine lv_iload hx hb dX8_merge_179 (lv_at hl 2 rfl) ?_
                      refine cx_V (As' := [.int (nI ta), .int (nI tb)]) (rest := []) hC (c_X8_mergeAll (x := ta) (y := tb) (by omega) (by omega) (by omega) (by omega) (by omega)) mv_X8_mergeAll qM_X8_167 ⟨⟨rfl, rfl⟩, Nat.le_of_ble_eq_true rfl, Nat.le_of_ble_eq_true rfl⟩ hK hH hS hA (hp.recv hK hH (i := 0) (by decide) rfl rfl) hl.1 ⟨Nat.zero_le _, Nat.zero_le _⟩ rfl rfl (Nat.le_of_ble_eq_true rfl) dX8_merge_181 (fun v9 c9 H locs hpo hH hS hfr9 => ?_)
                      obtain ⟨e9, so, w, r, rfl⟩ := hpo
                      subst e9
                      refine lv_iconst (v := 0) hx hb dX8_merge_184 (by decide) ?_
                      refine lv_istore (lv' := [(9, .int (0)), (8, .int (nI (P.ln tc))), (7, .int (nI tc)), (6, .int (nI tb)), (5, .int (nI ta)), (4, .int (nI (rsRows P j xx q))), (0, .ref (ad 0)), (1, .int (nI j)), (2, .int (nI xx)), (3, .int (nI q))]) hx hb dX8_merge_185 hl (by decide) rfl (fun ls hl => ?_)
                      have lp1 : ∀ (n9 k : Nat), k ≤ (P.ln tc) → (P.ln tc) < k + n9 → ∀ (so : Int32) (w : Int64) (r : UInt64) (hz : mgG P ta tb tc k = true) (H : Heap) (locs : List Loc), hp D A 13 ad (mct cy ad P 0 so w r (ldI ns (fun i => nI (mgS P ta tb i)) (P.ln ta + P.ln tb)) (ldL nw (fun i => (mgV P ta tb i).1) (P.ln ta + P.ln tb)) (ldD nr (fun i => (mgV P ta tb i).2) (P.ln ta + P.ln tb)) fr tt) H → va_S A s.heap H locs → ∀ (ls : Array Slot), lv_has ls 10 [(9, .int (nI k)), (8, .int (nI (P.ln tc))), (7, .int (nI tc)), (6, .int (nI tb)), (5, .int (nI ta)), (4, .int (nI (rsRows P j xx q))), (0, .ref (ad 0)), (1, .int (nI j)), (2, .int (nI xx)), (3, .int (nI q))] → W p_ l e_ (rm_ 3 79) s m_ args_ below meth cd H locs 0 0 Q (F0 m_ 187 ls []) := by
                        intro n9
                        induction n9 with
                        | zero => intro k h1 h2; omega
                        | succ n9 ih_lp1 =>
                          intro k hk1 hk2 so w r hz H locs hH hS ls hl
                          refine lv_iload hx hb dX8_merge_187 (lv_at hl 0 rfl) ?_
                          refine lv_iload hx hb dX8_merge_189 (lv_at hl 1 rfl) ?_
                          refine lv_icmp_ge (tgt := 227) hx hb dX8_merge_191 (by decide) (fun c_191 => ?_) (fun c_191 => ?_)
                          · have c_191 := nc_le (a := (P.ln tc)) (b := k) (by omega) (by omega) c_191
                            have hz9 : mgG P ta tb tc (P.ln tc) = true := by rw [show P.ln tc = k by omega]; exact hz
                            refine lv_iconst (v := 0) hx hb dX8_merge_227 (by decide) ?_
                            refine lv_istore (lv' := [(9, .int (0)), (8, .int (nI (P.ln tc))), (7, .int (nI tc)), (6, .int (nI tb)), (5, .int (nI ta)), (4, .int (nI (rsRows P j xx q))), (0, .ref (ad 0)), (1, .int (nI j)), (2, .int (nI xx)), (3, .int (nI q))]) hx hb dX8_merge_228 hl (by decide) rfl (fun ls hl => ?_)
                            have lp2 : ∀ (n9 i2 : Nat), i2 ≤ (P.ln tc) → (P.ln tc) < i2 + n9 → ∀ (so : Int32) (w : Int64) (r : UInt64)  (H : Heap) (locs : List Loc), hp D A 13 ad (mct cy ad (mgW P ta tb tc i2) 0 so w r (ldI ns (fun i => nI (mgS P ta tb i)) (P.ln ta + P.ln tb)) (ldL nw (fun i => (mgV P ta tb i).1) (P.ln ta + P.ln tb)) (ldD nr (fun i => (mgV P ta tb i).2) (P.ln ta + P.ln tb)) fr tt) H → va_S A s.heap H locs → ∀ (ls : Array Slot), lv_has ls 10 [(9, .int (nI i2)), (8, .int (nI (P.ln tc))), (7, .int (nI tc)), (6, .int (nI tb)), (5, .int (nI ta)), (4, .int (nI (rsRows P j xx q))), (0, .ref (ad 0)), (1, .int (nI j)), (2, .int (nI xx)), (3, .int (nI q))] → W p_ l e_ (rm_ 3 79) s m_ args_ below meth cd H locs 0 0 Q (F0 m_ 230 ls []) := by
                              intro n9
                              induction n9 with
                              | zero => intro i2 h1 h2; omega
                              | succ n9 ih_lp2 =>
                                intro i2 hk1 hk2 so w r  H locs hH hS ls hl
                                refine lv_iload hx hb dX8_merge_230 (lv_at hl 0 rfl) ?_
                                refine lv_iload hx hb dX8_merge_232 (lv_at hl 1 rfl) ?_
                                refine lv_icmp_ge (tgt := 295) hx hb dX8_merge_234 (by decide) (fun c_234 => ?_) (fun c_234 => ?_)
                                · have c_234 := nc_le (a := (P.ln tc)) (b := i2) (by omega) (by omega) c_234
                                  refine lv_iload hx hb dX8_merge_295 (lv_at hl 1 rfl) ?_
                                  subst hQ
                                  exact cx_ri hC hr hlk (mpost.mk (by rw [show i2 = P.ln tc by omega]; simp [sp_merge, rf, c_9, cN_c hj, c_16, cN_c hxx, c_23, cN_c hq, c_43, h1j, h1xx, h1q, c_80, c_89, c_98, c_108, c_123, c_167, show mgG P ta tb tc (P.ln ta + P.ln tb) = true by rw [← c_167]; exact hz9])) hH hS dX8_merge_297
                                · have c_234 := nc_nle (a := (P.ln tc)) (b := i2) (by omega) (by omega) c_234
                                  refine lv_aload_n hx hb dX8_merge_237 rfl (lv_at hl 6 rfl) ?_
                                  refine lv_aload_n hx hb dX8_merge_238 rfl (lv_at hl 6 rfl) ?_
                                  refine g_get hC hK inG8 hH 0 (by decide) rfl rfl 12 (by decide) qF_X8_33 (Or.inl rfl) rfl dX8_merge_239 ?_
                                  refine lv_iload hx hb dX8_merge_242 (lv_at hl 0 rfl) ?_
                                  refine gN_iald hC hK hH 8 (by decide) rfl i2 (by omega) dX8_merge_244 ?_
                                  have hs8 := mgS_lt (k := i2) c_80 c_89
                                  refine lv_chg (y := nI (mgS P ta tb i2)) (ldI_at (by omega)) ?_
                                  refine g_put (ct' := mct cy ad (mgW P ta tb tc i2) 0 (nI (mgS P ta tb i2)) w r (ldI ns (fun i => nI (mgS P ta tb i)) (P.ln ta + P.ln tb)) (ldL nw (fun i => (mgV P ta tb i).1) (P.ln ta + P.ln tb)) (ldD nr (fun i => (mgV P ta tb i).2) (P.ln ta + P.ln tb)) fr tt) hC hK inG8 tyX8 tyX8_ok nmX8 hH hS 0 (by decide) rfl rfl 9 (by decide) qF_X8_66 rfl rfl rfl rfl (Nat.le_of_ble_eq_true rfl) rfl mct_0 dX8_merge_245 (fun H locs hH hS => ?_)
                                  refine lv_aload_n hx hb dX8_merge_248 rfl (lv_at hl 6 rfl) ?_
                                  refine lv_aload_n hx hb dX8_merge_249 rfl (lv_at hl 6 rfl) ?_
                                  refine g_get hC hK inG8 hH 0 (by decide) rfl rfl 13 (by decide) qF_X8_36 (Or.inl rfl) rfl dX8_merge_250 ?_
                                  refine lv_iload hx hb dX8_merge_253 (lv_at hl 0 rfl) ?_
                                  refine gN_lald hC hK hH 9 (by decide) rfl i2 (by omega) dX8_merge_255 ?_
                                  refine lv_chgl (y := (mgV P ta tb i2).1) (ldL_at (by omega)) ?_
                                  refine g_put (ct' := mct cy ad (mgW P ta tb tc i2) 0 (nI (mgS P ta tb i2)) ((mgV P ta tb i2).1) r (ldI ns (fun i => nI (mgS P ta tb i)) (P.ln ta + P.ln tb)) (ldL nw (fun i => (mgV P ta tb i).1) (P.ln ta + P.ln tb)) (ldD nr (fun i => (mgV P ta tb i).2) (P.ln ta + P.ln tb)) fr tt) hC hK inG8 tyX8 tyX8_ok nmX8 hH hS 0 (by decide) rfl rfl 10 (by decide) qF_X8_69 rfl rfl rfl rfl (Nat.le_of_ble_eq_true rfl) rfl mct_0 dX8_merge_256 (fun H locs hH hS => ?_)
                                  refine lv_aload_n hx hb dX8_merge_259 rfl (lv_at hl 6 rfl) ?_
                                  refine lv_aload_n hx hb dX8_merge_260 rfl (lv_at hl 6 rfl) ?_
                                  refine g_get hC hK inG8 hH 0 (by decide) rfl rfl 14 (by decide) qF_X8_39 (Or.inl rfl) rfl dX8_merge_261 ?_
                                  refine lv_iload hx hb dX8_merge_264 (lv_at hl 0 rfl) ?_
                                  refine gN_dald hC hK hH 10 (by decide) rfl i2 (by omega) dX8_merge_266 ?_
                                  refine lv_chgd (y := (mgV P ta tb i2).2) (ldD_at (by omega)) ?_
                                  refine g_put (ct' := mct cy ad (mgW P ta tb tc i2) 0 (nI (mgS P ta tb i2)) ((mgV P ta tb i2).1) ((mgV P ta tb i2).2) (ldI ns (fun i => nI (mgS P ta tb i)) (P.ln ta + P.ln tb)) (ldL nw (fun i => (mgV P ta tb i).1) (P.ln ta + P.ln tb)) (ldD nr (fun i => (mgV P ta tb i).2) (P.ln ta + P.ln tb)) fr tt) hC hK inG8 tyX8 tyX8_ok nmX8 hH hS 0 (by decide) rfl rfl 11 (by decide) qF_X8_73 rfl rfl rfl rfl (Nat.le_of_ble_eq_true rfl) rfl mct_0 dX8_merge_267 (fun H locs hH hS => ?_)
                                  refine lv_aload_n hx hb dX8_merge_270 rfl (lv_at hl 6 rfl) ?_
                                  refine lv_aload_n hx hb dX8_merge_271 rfl (lv_at hl 6 rfl) ?_
                                  refine g_get hC hK inG8 hH 0 (by decide) rfl rfl 1 (by decide) qF_X8_13 (Or.inl rfl) rfl dX8_merge_272 ?_
                                  refine lv_iload hx hb dX8_merge_275 (lv_at hl 2 rfl) ?_
                                  refine gN_iald hC hK hH 2 (by decide) rfl tc (by omega) dX8_merge_277 ?_
                                  refine lv_chg (y := nI (P.kd tc)) (by rw [(mgW_same P ta tb tc i2).2.1]) ?_
                                  refine cm_V (As' := [.int (nI (P.kd tc))]) (rest := []) hC (c_X8_widen (by omega) (by omega)) mv_X8_widen qM_X8_131 ⟨⟨rfl, rfl⟩, Nat.le_of_ble_eq_true rfl, Nat.le_of_ble_eq_true rfl⟩ hK hH hS hA (hp.recv hK hH (i := 0) (by decide) rfl rfl) hl.1 ⟨Nat.zero_le _, Nat.zero_le _⟩ rfl rfl (Nat.le_of_ble_eq_true rfl) dX8_merge_278 (fun H locs hH hS => ?_)
                                  refine lv_aload_n hx hb dX8_merge_281 rfl (lv_at hl 6 rfl) ?_
                                  refine lv_iload hx hb dX8_merge_282 (lv_at hl 2 rfl) ?_
                                  refine lv_iload hx hb dX8_merge_284 (lv_at hl 0 rfl) ?_
                                  refine cm_V (As' := [.int (nI tc), .int (nI i2)]) (rest := []) hC (c_X8_set (by omega) (by omega)) mv_X8_set qM_X8_135 ⟨⟨rfl, rfl⟩, Nat.le_of_ble_eq_true rfl, Nat.le_of_ble_eq_true rfl⟩ hK hH hS hA (hp.recv hK hH (i := 0) (by decide) rfl rfl) hl.1 ⟨Nat.zero_le _, Nat.zero_le _⟩ rfl rfl (Nat.le_of_ble_eq_true rfl) dX8_merge_286 (fun H locs hH hS => ?_)
                                  refine lv_iinc (v := nI (i2 + 1)) (lv' := [(9, .int (nI (i2 + 1))), (8, .int (nI (P.ln tc))), (7, .int (nI tc)), (6, .int (nI tb)), (5, .int (nI ta)), (4, .int (nI (rsRows P j xx q))), (0, .ref (ad 0)), (1, .int (nI j)), (2, .int (nI xx)), (3, .int (nI q))]) hx hb dX8_merge_289 hl (k := 0) rfl (nI_1 _) (by decide) rfl (fun ls hl => ?_)
                                  refine lv_goto (tgt := 230) hx hb dX8_merge_292 (by decide) ?_
                                  exact ih_lp2 (i2 + 1) (by omega) (by omega) _ _ _  _ _ hH hS ls (lv_sub hl [0, 1, 2, 3, 4, 5, 6, 7, 8, 9] rfl)
                            exact lp2 ((P.ln tc) + 1) 0 (by omega) (by omega) _ _ _  _ _ hH hS ls (lv_sub hl [0, 1, 2, 3, 4, 5, 6, 7, 8, 9] rfl)
                          · have c_191 := nc_nle (a := (P.ln tc)) (b := k) (by omega) (by omega) c_191
                            refine lv_aload_n hx hb dX8_merge_194 rfl (lv_at hl 6 rfl) ?_
                            refine lv_aload_n hx hb dX8_merge_195 rfl (lv_at hl 6 rfl) ?_
                            refine g_get hC hK inG8 hH 0 (by decide) rfl rfl 12 (by decide) qF_X8_33 (Or.inl rfl) rfl dX8_merge_196 ?_
                            refine lv_iload hx hb dX8_merge_199 (lv_at hl 0 rfl) ?_
                            refine gN_iald hC hK hH 8 (by decide) rfl k (by omega) dX8_merge_201 ?_
                            have hs8 := mgS_lt (k := k) c_80 c_89
                            refine lv_chg (y := nI (mgS P ta tb k)) (ldI_at (by omega)) ?_
                            refine lv_aload_n hx hb dX8_merge_202 rfl (lv_at hl 6 rfl) ?_
                            refine g_get hC hK inG8 hH 0 (by decide) rfl rfl 1 (by decide) qF_X8_13 (Or.inl rfl) rfl dX8_merge_203 ?_
                            refine lv_iload hx hb dX8_merge_206 (lv_at hl 2 rfl) ?_
                            refine gN_iald hC hK hH 2 (by decide) rfl tc (by omega) dX8_merge_208 ?_
                            refine cm_V (As' := [.int (nI (mgS P ta tb k)), .int (nI (P.kd tc))]) (rest := []) hC (c_X8_goesInto (a := (mgS P ta tb k)) (b := (P.kd tc)) (by omega) (by omega)) mv_X8_goesInto qM_X8_94 ⟨⟨rfl, rfl⟩, Nat.le_of_ble_eq_true rfl, Nat.le_of_ble_eq_true rfl⟩ hK hH hS hA (hp.recv hK hH (i := 0) (by decide) rfl rfl) hl.1 ⟨Nat.zero_le _, Nat.zero_le _⟩ rfl rfl (Nat.le_of_ble_eq_true rfl) dX8_merge_209 (fun H locs hH hS => ?_)
                            refine lv_if_ne (tgt := 221) hx hb dX8_merge_212 (by decide) (fun c_212 => ?_) (fun c_212 => ?_)
                            · have c_212 := b2i_t c_212
                              refine lv_iinc (v := nI (k + 1)) (lv' := [(9, .int (nI (k + 1))), (8, .int (nI (P.ln tc))), (7, .int (nI tc)), (6, .int (nI tb)), (5, .int (nI ta)), (4, .int (nI (rsRows P j xx q))), (0, .ref (ad 0)), (1, .int (nI j)), (2, .int (nI xx)), (3, .int (nI q))]) hx hb dX8_merge_221 hl (k := 0) rfl (nI_1 _) (by decide) rfl (fun ls hl => ?_)
                              refine lv_goto (tgt := 187) hx hb dX8_merge_224 (by decide) ?_
                              exact ih_lp1 (k + 1) (by omega) (by omega) _ _ _ (by show (_ && _) = true; rw [hz, c_212]; rfl) _ _ hH hS ls (lv_sub hl [0, 1, 2, 3, 4, 5, 6, 7, 8, 9] rfl)
                            · have c_212 := b2i_f c_212
                              refine lv_aload_n hx hb dX8_merge_215 rfl (lv_at hl 6 rfl) ?_
                              refine lv_iconst (v := 5) hx hb dX8_merge_216 (by decide) ?_
                              refine cm_V (As' := [.int (5)]) (rest := []) hC (c_X8_refuse) mv_X8_refuse qM_X8_105 ⟨⟨rfl, rfl⟩, Nat.le_of_ble_eq_true rfl, Nat.le_of_ble_eq_true rfl⟩ hK hH hS hA (hp.recv hK hH (i := 0) (by decide) rfl rfl) hl.1 ⟨Nat.zero_le _, Nat.zero_le _⟩ rfl rfl (Nat.le_of_ble_eq_true rfl) dX8_merge_217 (fun H locs hH hS => ?_)
                              subst hQ
                              exact cx_ri hC hr hlk (mpost.mk (by simp [sp_merge, rf, c_9, cN_c hj, c_16, cN_c hxx, c_23, cN_c hq, c_43, h1j, h1xx, h1q, c_80, c_89, c_98, c_108, c_123, c_167, c_212, show mgG P ta tb tc (P.ln ta + P.ln tb) = false by rw [← c_167]; exact mgG_no c_212 (by omega)] <;> rfl)) hH hS dX8_merge_220
                      exact lp1 ((P.ln tc) + 1) 0 (by omega) (by omega) _ _ _ (rfl) _ _ hH hS ls (lv_sub hl [0, 1, 2, 3, 4, 5, 6, 7, 8, 9] rfl)
                    · have c_167 := nc_ne (a := (P.ln tc)) (b := (P.ln ta + P.ln tb)) (by omega) (by omega) c_167
                      refine lv_aload_n hx hb dX8_merge_170 rfl (lv_at hl 5 rfl) ?_
                      refine lv_iconst (v := 4) hx hb dX8_merge_171 (by decide) ?_
                      refine cm_V (As' := [.int (4)]) (rest := []) hC (c_X8_refuse) mv_X8_refuse qM_X8_105 ⟨⟨rfl, rfl⟩, Nat.le_of_ble_eq_true rfl, Nat.le_of_ble_eq_true rfl⟩ hK hH hS hA (hp.recv hK hH (i := 0) (by decide) rfl rfl) hl.1 ⟨Nat.zero_le _, Nat.zero_le _⟩ rfl rfl (Nat.le_of_ble_eq_true rfl) dX8_merge_172 (fun H locs hH hS => ?_)
                      subst hQ
                      exact cx_ri hC hr hlk (mpost.mk (by simp [sp_merge, rf, c_9, cN_c hj, c_16, cN_c hxx, c_23, cN_c hq, c_43, h1j, h1xx, h1q, c_80, c_89, c_98, c_108, c_123, c_167] <;> rfl)) hH hS dX8_merge_175
        · have c_43 : ¬ (rsRows P j xx q) = 0 := by have h9 := nc_nle (a := (rsRows P j xx q)) (b := 0) (by omega) (by omega) c_43; omega
          refine lv_aload_n hx hb dX8_merge_46 rfl (lv_at hl 1 rfl) ?_
          refine lv_iload hx hb dX8_merge_47 (lv_at hl 0 rfl) ?_
          refine cm_V (As' := [.int (nI (rsRows P j xx q))]) (rest := []) hC (c_X8_refuse) mv_X8_refuse qM_X8_105 ⟨⟨rfl, rfl⟩, Nat.le_of_ble_eq_true rfl, Nat.le_of_ble_eq_true rfl⟩ hK hH hS hA (hp.recv hK hH (i := 0) (by decide) rfl rfl) hl.1 ⟨Nat.zero_le _, Nat.zero_le _⟩ rfl rfl (Nat.le_of_ble_eq_true rfl) dX8_merge_49 (fun H locs hH hS => ?_)
          subst hQ
          exact cx_ri hC hr hlk (mpost.mk (by simp [sp_merge, rf, c_9, cN_c hj, c_16, cN_c hxx, c_23, cN_c hq, c_43] <;> rfl)) hH hS dX8_merge_52
      · have c_23 := b2i_f c_23
        refine lv_aload_n hx hb dX8_merge_26 rfl (lv_at hl 0 rfl) ?_
        refine lv_iconst (v := 1) hx hb dX8_merge_27 (by decide) ?_
        refine cm_V (As' := [.int (1)]) (rest := []) hC (c_X8_refuse) mv_X8_refuse qM_X8_105 ⟨⟨rfl, rfl⟩, Nat.le_of_ble_eq_true rfl, Nat.le_of_ble_eq_true rfl⟩ hK hH hS hA (hp.recv hK hH (i := 0) (by decide) rfl rfl) hl.1 ⟨Nat.zero_le _, Nat.zero_le _⟩ rfl rfl (Nat.le_of_ble_eq_true rfl) dX8_merge_28 (fun H locs hH hS => ?_)
        subst hQ
        exact cx_ri hC hr hlk (mpost.mk (by simp [sp_merge, rf, c_9, cN_c hj, c_16, cN_c hxx, c_23] <;> rfl)) hH hS dX8_merge_31
theorem ms_X8_hasMinus : msok yX8_hasMinus cX8_hasMinus 2 (some .boolean) 1 := ⟨qK_X8_hasMinus, qSt_X8_hasMinus, qInit_X8, by decide +kernel⟩
set_option maxHeartbeats 4000000 in
set_option maxRecDepth 100000 in
theorem c_X8_hasMinus {l : Launch} {D : va_G} {cy : Nat → ClassId} {ad : Nat → Nat} {N : Nat} {ct : Nat → Option va_E} {x1 : UInt64} (hg : gd x1) : CM l yX8_hasMinus cX8_hasMinus 2 (some .boolean) (rm_ 0 0) D cy N ad [.double (x1)] ct (some (.int (b2i (hmn x1)))) ct := by
  refine CM.start (by decide) (Nat.le_of_ble_eq_true rfl) ?_
  intro p_ e_ s m_ below meth cd A ls hC hr hlk hin hK hA hH hl
  obtain ⟨hx, hb, hml, hown, hts⟩ := id hC
  have hS : va_S A s.heap s.heap [] := va_S.rf
  have hl : lv_has ls 2 [(0, .double (x1))] := hl
  refine lv_dload_n hx hb dX8_hasMinus_0 rfl (lv_at hl 0 rfl) ?_
  refine lv_dconst0 hx hb dX8_hasMinus_1 ?_
  refine lv_dcmp hx hb dX8_hasMinus_2 ?_
  refine lv_if_lt (tgt := 20) hx hb dX8_hasMinus_3 (by decide) (fun c_3 => ?_) (fun c_3 => ?_)
  · refine lv_iconst (v := 1) hx hb dX8_hasMinus_20 (by decide) ?_
    refine lv_goto (tgt := 25) hx hb dX8_hasMinus_21 (by decide) ?_
    exact cm_rz hC hr hlk (by first | exact Or.inl rfl | exact Or.inr rfl | exact b2i_01 _) (by first | exact b2d_1 (by assumption) | exact b2d_0 (by assumption)) (rfl) hH hS dX8_hasMinus_25
  · refine lv_dload_n hx hb dX8_hasMinus_6 rfl (lv_at hl 0 rfl) ?_
    refine lv_dconst0 hx hb dX8_hasMinus_7 ?_
    refine lv_dcmp hx hb dX8_hasMinus_8 ?_
    refine lv_if_ne (tgt := 24) hx hb dX8_hasMinus_9 (by decide) (fun c_9 => ?_) (fun c_9 => ?_)
    · refine lv_iconst (v := 0) hx hb dX8_hasMinus_24 (by decide) ?_
      exact cm_rz hC hr hlk (by first | exact Or.inl rfl | exact Or.inr rfl | exact b2i_01 _) (by first | exact b2d_1 (by assumption) | exact b2d_0 (by assumption)) (rfl) hH hS dX8_hasMinus_25
    · obtain rfl := fp_z hg c_9
      refine lv_dconst1 hx hb dX8_hasMinus_12 ?_
      refine lv_dload_n hx hb dX8_hasMinus_13 rfl (lv_at hl 0 rfl) ?_
      refine lv_ddiv hx hb dX8_hasMinus_14 (by unfold vf_n64; decide +kernel) ?_
      refine lv_dconst0 hx hb dX8_hasMinus_15 ?_
      refine lv_dcmp hx hb dX8_hasMinus_16 ?_
      refine lv_if_ge (tgt := 24) hx hb dX8_hasMinus_17 (by decide) (fun c_17 => ?_) (fun c_17 => absurd (by decide +kernel) c_17)
      refine lv_iconst (v := 0) hx hb dX8_hasMinus_24 (by decide) ?_
      exact cm_rz hC hr hlk (by first | exact Or.inl rfl | exact Or.inr rfl | exact b2i_01 _) (by first | exact b2d_1 (by assumption) | exact b2d_0 (by assumption)) (rfl) hH hS dX8_hasMinus_25
theorem mv_X8_others : mvok RX8 yX8_others cX8_others 8 (some .int) 1 := ⟨qK_X8_others, qI_X8_others, qSel_X8_X8_others, qInit_X8, by decide +kernel⟩
set_option maxHeartbeats 4000000 in
set_option maxRecDepth 100000 in
theorem c_X8_others {l : Launch} {D : va_G} {cy : Nat → ClassId} {ad : Nat → Nat} {P : AS} {wy : Int32} {so : Int32} {w : Int64} {r : UInt64} {ns : Nat → Int32} {nw : Nat → Int64} {nr : Nat → UInt64} {fr : Nat → Int32} {tt : Nat → Int32} {t : Nat} (ht : t < 513) (hw : WF P) (hg9 : ∀ k, k < P.ln t → gd (P.re t k) ∧ gd (nr k)) : CM l yX8_others cX8_others 8 (some .int) (rm_ 1 21) D cy 13 ad [.ref (ad 0), .int (nI t)] (mct cy ad P wy so w r ns nw nr fr tt) (some (.int (nI (othC P t nw nr (P.ln t))))) (mct cy ad P wy so w r ns nw nr fr tt) := by
  have hlt := hw.2.1 t
  refine CM.startQ (by decide) (Nat.le_of_ble_eq_true rfl) ?_
  intro p_ e_ s m_ args_ below meth cd A ls Q hQ hC hr hlk hK hA hH hl
  obtain ⟨hx, hb, hml, hown, hts⟩ := id hC
  have hS : va_S A s.heap s.heap [] := va_S.rf
  have hl : lv_has ls 8 [(0, .ref (ad 0)), (1, .int (nI t))] := hl
  refine lv_iconst (v := 0) hx hb dX8_others_0 (by decide) ?_
  refine lv_istore_n (lv' := [(2, .int (0)), (0, .ref (ad 0)), (1, .int (nI t))]) hx hb dX8_others_1 rfl hl (by decide) rfl (fun ls hl => ?_)
  refine lv_iconst (v := 0) hx hb dX8_others_2 (by decide) ?_
  refine lv_istore_n (lv' := [(3, .int (0)), (2, .int (0)), (0, .ref (ad 0)), (1, .int (nI t))]) hx hb dX8_others_3 rfl hl (by decide) rfl (fun ls hl => ?_)
  have lp : ∀ (n9 k : Nat), k ≤ (P.ln t) → (P.ln t) < k + n9 → ∀   (H : Heap) (locs : List Loc), hp D A 13 ad (mct cy ad P wy so w r ns nw nr fr tt) H → va_S A s.heap H locs → ∀ (ls : Array Slot), lv_has ls 8 [(2, .int (nI (othC P t nw nr k))), (3, .int (nI k)), (0, .ref (ad 0)), (1, .int (nI t))] → W p_ l e_ (rm_ 1 21) s m_ args_ below meth cd H locs 0 0 Q (F0 m_ 4 ls []) := by
    intro n9
    induction n9 with
    | zero => intro k h1 h2; omega
    | succ n9 ih_lp =>
      intro k hk1 hk2   H locs hH hS ls hl
      refine lv_iload_n hx hb dX8_others_4 rfl (lv_at hl 1 rfl) ?_
      refine lv_aload_n hx hb dX8_others_5 rfl (lv_at hl 2 rfl) ?_
      refine g_get hC hK inG8 hH 0 (by decide) rfl rfl 2 (by decide) qF_X8_16 (Or.inl rfl) rfl dX8_others_6 ?_
      refine lv_iload_n hx hb dX8_others_9 rfl (lv_at hl 3 rfl) ?_
      refine gN_iald hC hK hH 3 (by decide) rfl t (by omega) dX8_others_10 ?_
      refine lv_icmp_ge (tgt := 91) hx hb dX8_others_11 (by decide) (fun c_11 => ?_) (fun c_11 => ?_)
      · have c_11 := nc_le (a := (P.ln t)) (b := k) (by omega) (by omega) c_11
        refine lv_iload_n hx hb dX8_others_91 rfl (lv_at hl 0 rfl) ?_
        subst hQ
        exact cm_ri hC hr hlk (by rw [show P.ln t = k by omega]) (rfl) hH hS dX8_others_92
      · have c_11 := nc_nle (a := (P.ln t)) (b := k) (by omega) (by omega) c_11
        refine lv_aload_n hx hb dX8_others_14 rfl (lv_at hl 2 rfl) ?_
        refine g_get hC hK inG8 hH 0 (by decide) rfl rfl 5 (by decide) qF_X8_26 (Or.inl rfl) rfl dX8_others_15 ?_
        refine lv_bipush (v := 24) hx hb dX8_others_18 (by decide) ?_
        refine lv_iload_n hx hb dX8_others_20 rfl (lv_at hl 3 rfl) ?_
        refine lv_imul hx hb dX8_others_21 ?_
        refine lv_iload_n hx hb dX8_others_22 rfl (lv_at hl 1 rfl) ?_
        refine lv_iadd hx hb dX8_others_23 ?_
        refine mr_re hC hK hH t k (by omega) dX8_others_24 ?_
        refine lv_dstore (lv' := [(4, .double (P.re t k)), (2, .int (nI (othC P t nw nr k))), (3, .int (nI k)), (0, .ref (ad 0)), (1, .int (nI t))]) hx hb dX8_others_25 hl (by decide) rfl (fun ls hl => ?_)
        refine lv_aload_n hx hb dX8_others_27 rfl (lv_at hl 3 rfl) ?_
        refine g_get hC hK inG8 hH 0 (by decide) rfl rfl 14 (by decide) qF_X8_39 (Or.inl rfl) rfl dX8_others_28 ?_
        refine lv_iload_n hx hb dX8_others_31 rfl (lv_at hl 2 rfl) ?_
        refine gN_dald hC hK hH 10 (by decide) rfl k (by omega) dX8_others_32 ?_
        refine lv_dstore (lv' := [(6, .double (nr k)), (4, .double (P.re t k)), (2, .int (nI (othC P t nw nr k))), (3, .int (nI k)), (0, .ref (ad 0)), (1, .int (nI t))]) hx hb dX8_others_33 hl (by decide) rfl (fun ls hl => ?_)
        refine lv_iload_n hx hb dX8_others_35 rfl (lv_at hl 2 rfl) ?_
        refine lv_aload_n hx hb dX8_others_36 rfl (lv_at hl 4 rfl) ?_
        refine g_get hC hK inG8 hH 0 (by decide) rfl rfl 4 (by decide) qF_X8_22 (Or.inl rfl) rfl dX8_others_37 ?_
        refine lv_bipush (v := 24) hx hb dX8_others_40 (by decide) ?_
        refine lv_iload_n hx hb dX8_others_42 rfl (lv_at hl 5 rfl) ?_
        refine lv_imul hx hb dX8_others_43 ?_
        refine lv_iload_n hx hb dX8_others_44 rfl (lv_at hl 3 rfl) ?_
        refine lv_iadd hx hb dX8_others_45 ?_
        refine mr_wh hC hK hH t k (by omega) dX8_others_46 ?_
        refine lv_aload_n hx hb dX8_others_47 rfl (lv_at hl 4 rfl) ?_
        refine g_get hC hK inG8 hH 0 (by decide) rfl rfl 13 (by decide) qF_X8_36 (Or.inl rfl) rfl dX8_others_48 ?_
        refine lv_iload_n hx hb dX8_others_51 rfl (lv_at hl 3 rfl) ?_
        refine gN_lald hC hK hH 9 (by decide) rfl k (by omega) dX8_others_52 ?_
        refine W.lcmp hx hb dX8_others_53 ?_
        refine lv_if_ne (tgt := 78) hx hb dX8_others_54 (by decide) (fun c_54 => ?_) (fun c_54 => ?_)
        · have c_54 := lc_neT c_54
          refine lv_iconst (v := 1) hx hb dX8_others_78 (by decide) ?_
          refine lv_goto (tgt := 83) hx hb dX8_others_79 (by decide) ?_
          refine lv_iadd hx hb dX8_others_83 ?_
          refine lv_chg (y := nI (othC P t nw nr (k + 1))) (by show _ = nI (_ + (if _ then _ else _)); rw [if_neg (fun h => c_54 h.1)]; exact nI_1 _) ?_
          refine lv_istore_n (lv' := [(2, .int (nI (othC P t nw nr (k + 1)))), (6, .double (nr k)), (4, .double (P.re t k)), (3, .int (nI k)), (0, .ref (ad 0)), (1, .int (nI t))]) hx hb dX8_others_84 rfl hl (by decide) rfl (fun ls hl => ?_)
          refine lv_iinc (v := nI (k + 1)) (lv' := [(3, .int (nI (k + 1))), (2, .int (nI (othC P t nw nr (k + 1)))), (6, .double (nr k)), (4, .double (P.re t k)), (0, .ref (ad 0)), (1, .int (nI t))]) hx hb dX8_others_85 hl (k := 3) rfl (nI_1 _) (by decide) rfl (fun ls hl => ?_)
          refine lv_goto (tgt := 4) hx hb dX8_others_88 (by decide) ?_
          exact ih_lp (k + 1) (by omega) (by omega)   _ _ hH hS ls (lv_sub hl [1, 0, 4, 5] rfl)
        · have c_54 := lc_neF c_54
          refine lv_dload hx hb dX8_others_57 (lv_at hl 1 rfl) ?_
          refine lv_dload hx hb dX8_others_59 (lv_at hl 0 rfl) ?_
          refine lv_dcmp hx hb dX8_others_61 ?_
          refine lv_if_ne (tgt := 78) hx hb dX8_others_62 (by decide) (fun c_62 => ?_) (fun c_62 => ?_)
          · refine lv_iconst (v := 1) hx hb dX8_others_78 (by decide) ?_
            refine lv_goto (tgt := 83) hx hb dX8_others_79 (by decide) ?_
            refine lv_iadd hx hb dX8_others_83 ?_
            refine lv_chg (y := nI (othC P t nw nr (k + 1))) (by show _ = nI (_ + (if _ then _ else _)); rw [if_neg (fun h => c_62 (of_decide_eq_true h.2))]; exact nI_1 _) ?_
            refine lv_istore_n (lv' := [(2, .int (nI (othC P t nw nr (k + 1)))), (6, .double (nr k)), (4, .double (P.re t k)), (3, .int (nI k)), (0, .ref (ad 0)), (1, .int (nI t))]) hx hb dX8_others_84 rfl hl (by decide) rfl (fun ls hl => ?_)
            refine lv_iinc (v := nI (k + 1)) (lv' := [(3, .int (nI (k + 1))), (2, .int (nI (othC P t nw nr (k + 1)))), (6, .double (nr k)), (4, .double (P.re t k)), (0, .ref (ad 0)), (1, .int (nI t))]) hx hb dX8_others_85 hl (k := 3) rfl (nI_1 _) (by decide) rfl (fun ls hl => ?_)
            refine lv_goto (tgt := 4) hx hb dX8_others_88 (by decide) ?_
            exact ih_lp (k + 1) (by omega) (by omega)   _ _ hH hS ls (lv_sub hl [1, 0, 4, 5] rfl)
          · refine lv_dload hx hb dX8_others_65 (lv_at hl 1 rfl) ?_
            refine cm_S (As := [.double (P.re t k)]) (rest := [.int (nI (othC P t nw nr k))]) hC (c_X8_hasMinus (x1 := P.re t k) ((hg9 k (by omega)).1)) ms_X8_hasMinus qM_X8_176 ⟨⟨rfl, rfl⟩, Nat.le_of_ble_eq_true rfl, Nat.le_of_ble_eq_true rfl⟩ hK hH hS hA hl.1 ⟨Nat.zero_le _, Nat.zero_le _⟩ rfl rfl (Nat.le_of_ble_eq_true rfl) dX8_others_67 (fun H locs hH hS => ?_)
            refine lv_dload hx hb dX8_others_70 (lv_at hl 0 rfl) ?_
            refine cm_S (As := [.double (nr k)]) (rest := [.int (b2i (hmn (P.re t k))), .int (nI (othC P t nw nr k))]) hC (c_X8_hasMinus (x1 := nr k) ((hg9 k (by omega)).2)) ms_X8_hasMinus qM_X8_176 ⟨⟨rfl, rfl⟩, Nat.le_of_ble_eq_true rfl, Nat.le_of_ble_eq_true rfl⟩ hK hH hS hA hl.1 ⟨Nat.zero_le _, Nat.zero_le _⟩ rfl rfl (Nat.le_of_ble_eq_true rfl) dX8_others_72 (fun H locs hH hS => ?_)
            refine lv_icmp_eq (tgt := 82) hx hb dX8_others_75 (by decide) (fun c_75 => ?_) (fun c_75 => absurd (by rw [fp_hm (hg9 k (by omega)).1 (hg9 k (by omega)).2 c_62]) c_75)
            refine lv_iconst (v := 0) hx hb dX8_others_82 (by decide) ?_
            refine lv_iadd hx hb dX8_others_83 ?_
            refine lv_chg (y := nI (othC P t nw nr (k + 1))) (by show _ = nI (_ + (if _ then _ else _)); rw [if_pos ⟨c_54, decide_eq_true c_62⟩]; exact Int32.add_zero _) ?_
            refine lv_istore_n (lv' := [(2, .int (nI (othC P t nw nr (k + 1)))), (6, .double (nr k)), (4, .double (P.re t k)), (3, .int (nI k)), (0, .ref (ad 0)), (1, .int (nI t))]) hx hb dX8_others_84 rfl hl (by decide) rfl (fun ls hl => ?_)
            refine lv_iinc (v := nI (k + 1)) (lv' := [(3, .int (nI (k + 1))), (2, .int (nI (othC P t nw nr (k + 1)))), (6, .double (nr k)), (4, .double (P.re t k)), (0, .ref (ad 0)), (1, .int (nI t))]) hx hb dX8_others_85 hl (k := 3) rfl (nI_1 _) (by decide) rfl (fun ls hl => ?_)
            refine lv_goto (tgt := 4) hx hb dX8_others_88 (by decide) ?_
            exact ih_lp (k + 1) (by omega) (by omega)   _ _ hH hS ls (lv_sub hl [1, 0, 4, 5] rfl)
  exact lp ((P.ln t) + 1) 0 (by omega) (by omega)   _ _ hH hS ls (lv_sub hl [1, 0, 2, 3] rfl)
theorem mv_X8_sum : mvok RX8 yX8_sum cX8_sum 7 (some .long) 1 := ⟨qK_X8_sum, qI_X8_sum, qSel_X8_X8_sum, qInit_X8, by decide +kernel⟩
set_option maxHeartbeats 4000000 in
set_option maxRecDepth 100000 in
theorem c_X8_sum {l : Launch} {D : va_G} {cy : Nat → ClassId} {ad : Nat → Nat} {P : AS} {wy : Int32} {so : Int32} {w : Int64} {r : UInt64} {ns : Nat → Int32} {nw : Nat → Int64} {nr : Nat → UInt64} {fr : Nat → Int32} {tt : Nat → Int32} {c : Int32} (hw : WF P)  : CX l yX8_sum cX8_sum 7 (some .long) (rm_ 2 42) D cy 13 ad [.ref (ad 0), .int (c)] (mct cy ad P wy so w r ns nw nr fr tt) (mpostL cy ad (sp_sum P c)) := by
  refine CX.startQ (by decide) (Nat.le_of_ble_eq_true rfl) ?_
  intro p_ e_ s m_ args_ below meth cd A ls Q hQ hC hr hlk hK hA hH hl
  obtain ⟨hx, hb, hml, hown, hts⟩ := id hC
  have hS : va_S A s.heap s.heap [] := va_S.rf
  have hl : lv_has ls 7 [(0, .ref (ad 0)), (1, .int (c))] := hl
  refine lv_aload_n hx hb dX8_sum_0 rfl (lv_at hl 0 rfl) ?_
  refine lv_iconst (v := 0) hx hb dX8_sum_1 (by decide) ?_
  refine g_put (ct' := mct cy ad P 0 so w r ns nw nr fr tt) hC hK inG8 tyX8 tyX8_ok nmX8 hH hS 0 (by decide) rfl rfl 8 (by decide) qF_X8_48 rfl rfl rfl rfl (Nat.le_of_ble_eq_true rfl) rfl mct_0 dX8_sum_2 (fun H locs hH hS => ?_)
  refine lv_iload_n hx hb dX8_sum_5 rfl (lv_at hl 1 rfl) ?_
  refine cm_S (As := [.int (c)]) (rest := []) hC (c_X8_isColumn) ms_X8_isColumn qM_X8_102 ⟨⟨rfl, rfl⟩, Nat.le_of_ble_eq_true rfl, Nat.le_of_ble_eq_true rfl⟩ hK hH hS hA hl.1 ⟨Nat.zero_le _, Nat.zero_le _⟩ rfl rfl (Nat.le_of_ble_eq_true rfl) dX8_sum_6 (fun H locs hH hS => ?_)
  refine lv_if_ne (tgt := 19) hx hb dX8_sum_9 (by decide) (fun c_9 => ?_) (fun c_9 => ?_)
  · have c_9 := b2i_t c_9
    obtain ⟨j, hj, rfl⟩ := isC_ex c_9
    refine lv_aload_n hx hb dX8_sum_19 rfl (lv_at hl 0 rfl) ?_
    refine lv_iload_n hx hb dX8_sum_20 rfl (lv_at hl 1 rfl) ?_
    refine cm_V (As' := [.int (nI j)]) (rest := []) hC (c_X8_reasonOfRow hj hw) mv_X8_reasonOfRow qM_X8_111 ⟨⟨rfl, rfl⟩, Nat.le_of_ble_eq_true rfl, Nat.le_of_ble_eq_true rfl⟩ hK hH hS hA (hp.recv hK hH (i := 0) (by decide) rfl rfl) hl.1 ⟨Nat.zero_le _, Nat.zero_le _⟩ rfl rfl (Nat.le_of_ble_eq_true rfl) dX8_sum_21 (fun H locs hH hS => ?_)
    refine lv_istore_n (lv' := [(2, .int (nI (rsRow P j))), (0, .ref (ad 0)), (1, .int (nI j))]) hx hb dX8_sum_24 rfl hl (by decide) rfl (fun ls hl => ?_)
    have hb1 := rsRow_le P j
    refine lv_iload_n hx hb dX8_sum_25 rfl (lv_at hl 0 rfl) ?_
    refine lv_if_le (tgt := 36) hx hb dX8_sum_26 (by decide) (fun c_26 => ?_) (fun c_26 => ?_)
    · have c_26 : (rsRow P j) = 0 := by have h9 := nc_le (a := (rsRow P j)) (b := 0) (by omega) (by omega) c_26; omega
      obtain ⟨t, h1j, hkt⟩ := rsRow_0 c_26
      have htt : t < 513 := by have := hw.2.2.2.1 j; have := hw.2.2.1; omega
      have hlt := hw.2.1 t
      refine lv_aload_n hx hb dX8_sum_36 rfl (lv_at hl 1 rfl) ?_
      refine lv_iload_n hx hb dX8_sum_37 rfl (lv_at hl 2 rfl) ?_
      refine cm_V (As' := [.int (nI j)]) (rest := []) hC (c_X8_in1 hj h1j) mv_X8_in qM_X8_56 ⟨⟨rfl, rfl⟩, Nat.le_of_ble_eq_true rfl, Nat.le_of_ble_eq_true rfl⟩ hK hH hS hA (hp.recv hK hH (i := 0) (by decide) rfl rfl) hl.1 ⟨Nat.zero_le _, Nat.zero_le _⟩ rfl rfl (Nat.le_of_ble_eq_true rfl) dX8_sum_38 (fun H locs hH hS => ?_)
      refine lv_istore_n (lv' := [(3, .int (nI t)), (2, .int (nI (rsRow P j))), (0, .ref (ad 0)), (1, .int (nI j))]) hx hb dX8_sum_41 rfl hl (by decide) rfl (fun ls hl => ?_)
      refine lv_aload_n hx hb dX8_sum_42 rfl (lv_at hl 2 rfl) ?_
      refine g_get hC hK inG8 hH 0 (by decide) rfl rfl 1 (by decide) qF_X8_13 (Or.inl rfl) rfl dX8_sum_43 ?_
      refine lv_iload_n hx hb dX8_sum_46 rfl (lv_at hl 0 rfl) ?_
      refine gN_iald hC hK hH 2 (by decide) rfl t (by omega) dX8_sum_47 ?_
      refine lv_iconst (v := 1) hx hb dX8_sum_48 (by decide) ?_
      refine lv_iconst (v := 5) hx hb dX8_sum_49 (by decide) ?_
      refine cm_S (As := [.int (nI (P.kd t)), .int (1), .int (5)]) (rest := []) hC (c_X8_isIn) ms_X8_isIn qM_X8_52 ⟨⟨rfl, rfl⟩, Nat.le_of_ble_eq_true rfl, Nat.le_of_ble_eq_true rfl⟩ hK hH hS hA hl.1 ⟨Nat.zero_le _, Nat.zero_le _⟩ rfl rfl (Nat.le_of_ble_eq_true rfl) dX8_sum_50 (fun H locs hH hS => ?_)
      refine lv_if_ne (tgt := 64) hx hb dX8_sum_53 (by decide) (fun c_53 => ?_) (fun c_53 => ?_)
      · have c_53 := b2i_t c_53
        have hk5 : 1 ≤ P.kd t ∧ P.kd t ≤ 5 := (inR_k (a := 1) (b := 5) (by omega) (by decide) (by decide)).mp c_53
        refine lv_lconst (v := 0) hx hb dX8_sum_64 (by decide) ?_
        refine lv_lstore (lv' := [(4, .long (0)), (3, .int (nI t)), (2, .int (nI (rsRow P j))), (0, .ref (ad 0)), (1, .int (nI j))]) hx hb dX8_sum_65 hl (by decide) rfl (fun ls hl => ?_)
        refine lv_iconst (v := 0) hx hb dX8_sum_67 (by decide) ?_
        refine lv_istore (lv' := [(6, .int (0)), (4, .long (0)), (3, .int (nI t)), (2, .int (nI (rsRow P j))), (0, .ref (ad 0)), (1, .int (nI j))]) hx hb dX8_sum_68 hl (by decide) rfl (fun ls hl => ?_)
        have lp : ∀ (n9 k : Nat), k ≤ (P.ln t) → (P.ln t) < k + n9 → ∀   (H : Heap) (locs : List Loc), hp D A 13 ad (mct cy ad P 0 so w r ns nw nr fr tt) H → va_S A s.heap H locs → ∀ (ls : Array Slot), lv_has ls 7 [(6, .int (nI k)), (4, .long (suW P t k)), (3, .int (nI t)), (2, .int (nI (rsRow P j))), (0, .ref (ad 0)), (1, .int (nI j))] → W p_ l e_ (rm_ 2 42) s m_ args_ below meth cd H locs 0 0 Q (F0 m_ 70 ls []) := by
          intro n9
          induction n9 with
          | zero => intro k h1 h2; omega
          | succ n9 ih_lp =>
            intro k hk1 hk2   H locs hH hS ls hl
            refine lv_iload hx hb dX8_sum_70 (lv_at hl 0 rfl) ?_
            refine lv_aload_n hx hb dX8_sum_72 rfl (lv_at hl 4 rfl) ?_
            refine g_get hC hK inG8 hH 0 (by decide) rfl rfl 2 (by decide) qF_X8_16 (Or.inl rfl) rfl dX8_sum_73 ?_
            refine lv_iload_n hx hb dX8_sum_76 rfl (lv_at hl 2 rfl) ?_
            refine gN_iald hC hK hH 3 (by decide) rfl t (by omega) dX8_sum_77 ?_
            refine lv_icmp_ge (tgt := 104) hx hb dX8_sum_78 (by decide) (fun c_78 => ?_) (fun c_78 => ?_)
            · have c_78 := nc_le (a := (P.ln t)) (b := k) (by omega) (by omega) c_78
              refine lv_lload hx hb dX8_sum_104 (lv_at hl 1 rfl) ?_
              subst hQ
              exact cx_rl hC hr hlk (mpostL.mk (by rw [show k = P.ln t by omega]; simp [sp_sum, c_9, cN_c hj, c_26, h1j, hk5])) hH hS dX8_sum_106
            · have c_78 := nc_nle (a := (P.ln t)) (b := k) (by omega) (by omega) c_78
              refine lv_lload hx hb dX8_sum_81 (lv_at hl 1 rfl) ?_
              refine lv_aload_n hx hb dX8_sum_83 rfl (lv_at hl 4 rfl) ?_
              refine g_get hC hK inG8 hH 0 (by decide) rfl rfl 4 (by decide) qF_X8_22 (Or.inl rfl) rfl dX8_sum_84 ?_
              refine lv_bipush (v := 24) hx hb dX8_sum_87 (by decide) ?_
              refine lv_iload_n hx hb dX8_sum_89 rfl (lv_at hl 2 rfl) ?_
              refine lv_imul hx hb dX8_sum_90 ?_
              refine lv_iload hx hb dX8_sum_91 (lv_at hl 0 rfl) ?_
              refine lv_iadd hx hb dX8_sum_93 ?_
              refine mr_wh hC hK hH t k (by omega) dX8_sum_94 ?_
              refine lv_ladd hx hb dX8_sum_95 ?_
              refine lv_lstore (lv' := [(4, .long ((suW P t k + P.wh t k))), (6, .int (nI k)), (3, .int (nI t)), (2, .int (nI (rsRow P j))), (0, .ref (ad 0)), (1, .int (nI j))]) hx hb dX8_sum_96 hl (by decide) rfl (fun ls hl => ?_)
              refine lv_iinc (v := nI (k + 1)) (lv' := [(6, .int (nI (k + 1))), (4, .long ((suW P t k + P.wh t k))), (3, .int (nI t)), (2, .int (nI (rsRow P j))), (0, .ref (ad 0)), (1, .int (nI j))]) hx hb dX8_sum_98 hl (k := 1) rfl (nI_1 _) (by decide) rfl (fun ls hl => ?_)
              refine lv_goto (tgt := 70) hx hb dX8_sum_101 (by decide) ?_
              exact ih_lp (k + 1) (by omega) (by omega)   _ _ hH hS ls (lv_sub hl [0, 1, 2, 3, 4, 5] rfl)
        exact lp ((P.ln t) + 1) 0 (by omega) (by omega)   _ _ hH hS ls (lv_sub hl [0, 1, 2, 3, 4, 5] rfl)
      · have c_53 := b2i_f c_53
        have hk5 : ¬ (1 ≤ P.kd t ∧ P.kd t ≤ 5) := inR_kf (a := 1) (b := 5) (by omega) (by decide) (by decide) c_53
        refine lv_aload_n hx hb dX8_sum_56 rfl (lv_at hl 2 rfl) ?_
        refine lv_bipush (v := 6) hx hb dX8_sum_57 (by decide) ?_
        refine cm_V (As' := [.int (6)]) (rest := []) hC (c_X8_refuse) mv_X8_refuse qM_X8_105 ⟨⟨rfl, rfl⟩, Nat.le_of_ble_eq_true rfl, Nat.le_of_ble_eq_true rfl⟩ hK hH hS hA (hp.recv hK hH (i := 0) (by decide) rfl rfl) hl.1 ⟨Nat.zero_le _, Nat.zero_le _⟩ rfl rfl (Nat.le_of_ble_eq_true rfl) dX8_sum_59 (fun H locs hH hS => ?_)
        refine lv_i2l hx hb dX8_sum_62 rfl ?_
        subst hQ
        exact cx_rl hC hr hlk (mpostL.mk (by simp [sp_sum, c_9, cN_c hj, c_26, h1j, hk5] <;> rfl)) hH hS dX8_sum_63
    · have c_26 : ¬ (rsRow P j) = 0 := by have h9 := nc_nle (a := (rsRow P j)) (b := 0) (by omega) (by omega) c_26; omega
      refine lv_aload_n hx hb dX8_sum_29 rfl (lv_at hl 1 rfl) ?_
      refine lv_iload_n hx hb dX8_sum_30 rfl (lv_at hl 0 rfl) ?_
      refine cm_V (As' := [.int (nI (rsRow P j))]) (rest := []) hC (c_X8_refuse) mv_X8_refuse qM_X8_105 ⟨⟨rfl, rfl⟩, Nat.le_of_ble_eq_true rfl, Nat.le_of_ble_eq_true rfl⟩ hK hH hS hA (hp.recv hK hH (i := 0) (by decide) rfl rfl) hl.1 ⟨Nat.zero_le _, Nat.zero_le _⟩ rfl rfl (Nat.le_of_ble_eq_true rfl) dX8_sum_31 (fun H locs hH hS => ?_)
      refine lv_i2l hx hb dX8_sum_34 rfl ?_
      subst hQ
      exact cx_rl hC hr hlk (mpostL.mk (by simp [sp_sum, c_9, cN_c hj, c_26] <;> rfl)) hH hS dX8_sum_35
  · have c_9 := b2i_f c_9
    refine lv_aload_n hx hb dX8_sum_12 rfl (lv_at hl 0 rfl) ?_
    refine lv_iconst (v := 1) hx hb dX8_sum_13 (by decide) ?_
    refine cm_V (As' := [.int (1)]) (rest := []) hC (c_X8_refuse) mv_X8_refuse qM_X8_105 ⟨⟨rfl, rfl⟩, Nat.le_of_ble_eq_true rfl, Nat.le_of_ble_eq_true rfl⟩ hK hH hS hA (hp.recv hK hH (i := 0) (by decide) rfl rfl) hl.1 ⟨Nat.zero_le _, Nat.zero_le _⟩ rfl rfl (Nat.le_of_ble_eq_true rfl) dX8_sum_14 (fun H locs hH hS => ?_)
    refine lv_i2l hx hb dX8_sum_17 rfl ?_
    subst hQ
    exact cx_rl hC hr hlk (mpostL.mk (by simp [sp_sum, c_9] <;> rfl)) hH hS dX8_sum_18
theorem mv_X8_turn : mvok RX8 yX8_turn cX8_turn 8 (some .int) 2 := ⟨qK_X8_turn, qI_X8_turn, qSel_X8_X8_turn, qInit_X8, by decide +kernel⟩
set_option maxHeartbeats 4000000 in
set_option maxRecDepth 100000 in
theorem c_X8_turn {l : Launch} {D : va_G} {cy : Nat → ClassId} {ad : Nat → Nat} {P : AS} {wy : Int32} {so : Int32} {w : Int64} {r : UInt64} {ns : Nat → Int32} {nw : Nat → Int64} {nr : Nat → UInt64} {fr : Nat → Int32} {tt : Nat → Int32} {c n : Int32} (hw : WF P)  : CX l yX8_turn cX8_turn 8 (some .int) (rm_ 2 42) D cy 13 ad [.ref (ad 0), .int (c), .int (n)] (mct cy ad P wy so w r ns nw nr fr tt) (mpost cy ad (sp_turn P c n)) := by
  refine CX.startQ (by decide) (Nat.le_of_ble_eq_true rfl) ?_
  intro p_ e_ s m_ args_ below meth cd A ls Q hQ hC hr hlk hK hA hH hl
  obtain ⟨hx, hb, hml, hown, hts⟩ := id hC
  have hS : va_S A s.heap s.heap [] := va_S.rf
  have hl : lv_has ls 8 [(0, .ref (ad 0)), (1, .int (c)), (2, .int (n))] := hl
  refine lv_aload_n hx hb dX8_turn_0 rfl (lv_at hl 0 rfl) ?_
  refine lv_iconst (v := 0) hx hb dX8_turn_1 (by decide) ?_
  refine g_put (ct' := mct cy ad P 0 so w r ns nw nr fr tt) hC hK inG8 tyX8 tyX8_ok nmX8 hH hS 0 (by decide) rfl rfl 8 (by decide) qF_X8_48 rfl rfl rfl rfl (Nat.le_of_ble_eq_true rfl) rfl mct_0 dX8_turn_2 (fun H locs hH hS => ?_)
  refine lv_iload_n hx hb dX8_turn_5 rfl (lv_at hl 1 rfl) ?_
  refine cm_S (As := [.int (c)]) (rest := []) hC (c_X8_isColumn) ms_X8_isColumn qM_X8_102 ⟨⟨rfl, rfl⟩, Nat.le_of_ble_eq_true rfl, Nat.le_of_ble_eq_true rfl⟩ hK hH hS hA hl.1 ⟨Nat.zero_le _, Nat.zero_le _⟩ rfl rfl (Nat.le_of_ble_eq_true rfl) dX8_turn_6 (fun H locs hH hS => ?_)
  refine lv_if_ne (tgt := 18) hx hb dX8_turn_9 (by decide) (fun c_9 => ?_) (fun c_9 => ?_)
  · have c_9 := b2i_t c_9
    obtain ⟨j, hj, rfl⟩ := isC_ex c_9
    refine lv_aload_n hx hb dX8_turn_18 rfl (lv_at hl 0 rfl) ?_
    refine lv_iload_n hx hb dX8_turn_19 rfl (lv_at hl 1 rfl) ?_
    refine cm_V (As' := [.int (nI j)]) (rest := []) hC (c_X8_reasonOfRow hj hw) mv_X8_reasonOfRow qM_X8_111 ⟨⟨rfl, rfl⟩, Nat.le_of_ble_eq_true rfl, Nat.le_of_ble_eq_true rfl⟩ hK hH hS hA (hp.recv hK hH (i := 0) (by decide) rfl rfl) hl.1 ⟨Nat.zero_le _, Nat.zero_le _⟩ rfl rfl (Nat.le_of_ble_eq_true rfl) dX8_turn_20 (fun H locs hH hS => ?_)
    refine lv_istore_n (lv' := [(3, .int (nI (rsRow P j))), (0, .ref (ad 0)), (1, .int (nI j)), (2, .int (n))]) hx hb dX8_turn_23 rfl hl (by decide) rfl (fun ls hl => ?_)
    have hb1 := rsRow_le P j
    refine lv_iload_n hx hb dX8_turn_24 rfl (lv_at hl 0 rfl) ?_
    refine lv_if_le (tgt := 34) hx hb dX8_turn_25 (by decide) (fun c_25 => ?_) (fun c_25 => ?_)
    · have c_25 : (rsRow P j) = 0 := by have h9 := nc_le (a := (rsRow P j)) (b := 0) (by omega) (by omega) c_25; omega
      obtain ⟨t, h1j, hkt⟩ := rsRow_0 c_25
      have htt : t < 513 := by have := hw.2.2.2.1 j; have := hw.2.2.1; omega
      have hlt := hw.2.1 t
      refine lv_aload_n hx hb dX8_turn_34 rfl (lv_at hl 1 rfl) ?_
      refine lv_iload_n hx hb dX8_turn_35 rfl (lv_at hl 2 rfl) ?_
      refine cm_V (As' := [.int (nI j)]) (rest := []) hC (c_X8_in1 hj h1j) mv_X8_in qM_X8_56 ⟨⟨rfl, rfl⟩, Nat.le_of_ble_eq_true rfl, Nat.le_of_ble_eq_true rfl⟩ hK hH hS hA (hp.recv hK hH (i := 0) (by decide) rfl rfl) hl.1 ⟨Nat.zero_le _, Nat.zero_le _⟩ rfl rfl (Nat.le_of_ble_eq_true rfl) dX8_turn_36 (fun H locs hH hS => ?_)
      refine lv_istore (lv' := [(4, .int (nI t)), (3, .int (nI (rsRow P j))), (0, .ref (ad 0)), (1, .int (nI j)), (2, .int (n))]) hx hb dX8_turn_39 hl (by decide) rfl (fun ls hl => ?_)
      refine lv_aload_n hx hb dX8_turn_41 rfl (lv_at hl 2 rfl) ?_
      refine g_get hC hK inG8 hH 0 (by decide) rfl rfl 2 (by decide) qF_X8_16 (Or.inl rfl) rfl dX8_turn_42 ?_
      refine lv_iload hx hb dX8_turn_45 (lv_at hl 0 rfl) ?_
      refine gN_iald hC hK hH 3 (by decide) rfl t (by omega) dX8_turn_47 ?_
      refine lv_istore (lv' := [(5, .int (nI (P.ln t))), (4, .int (nI t)), (3, .int (nI (rsRow P j))), (0, .ref (ad 0)), (1, .int (nI j)), (2, .int (n))]) hx hb dX8_turn_48 hl (by decide) rfl (fun ls hl => ?_)
      refine lv_aload_n hx hb dX8_turn_50 rfl (lv_at hl 3 rfl) ?_
      refine lv_iload hx hb dX8_turn_51 (lv_at hl 1 rfl) ?_
      refine cm_V (As' := [.int (nI t)]) (rest := []) hC (c_X8_takeOut (t := t) (by omega) hw) mv_X8_takeOut qM_X8_180 ⟨⟨rfl, rfl⟩, Nat.le_of_ble_eq_true rfl, Nat.le_of_ble_eq_true rfl⟩ hK hH hS hA (hp.recv hK hH (i := 0) (by decide) rfl rfl) hl.1 ⟨Nat.zero_le _, Nat.zero_le _⟩ rfl rfl (Nat.le_of_ble_eq_true rfl) dX8_turn_53 (fun H locs hH hS => ?_)
      refine lv_iconst (v := 0) hx hb dX8_turn_56 (by decide) ?_
      refine lv_istore (lv' := [(6, .int (0)), (5, .int (nI (P.ln t))), (4, .int (nI t)), (3, .int (nI (rsRow P j))), (0, .ref (ad 0)), (1, .int (nI j)), (2, .int (n))]) hx hb dX8_turn_57 hl (by decide) rfl (fun ls hl => ?_)
      have lp : ∀ (n9 k : Nat), k ≤ (P.ln t) → (P.ln t) < k + n9 → ∀   (H : Heap) (locs : List Loc), hp D A 13 ad (mct cy ad (trW P t n k) 0 so w r ns (ldL nw (P.wh t) (P.ln t)) (ldD nr (P.re t) (P.ln t)) fr tt) H → va_S A s.heap H locs → ∀ (ls : Array Slot), lv_has ls 8 [(6, .int (nI k)), (5, .int (nI (P.ln t))), (4, .int (nI t)), (3, .int (nI (rsRow P j))), (0, .ref (ad 0)), (1, .int (nI j)), (2, .int (n))] → W p_ l e_ (rm_ 2 42) s m_ args_ below meth cd H locs 0 0 Q (F0 m_ 59 ls []) := by
        intro n9
        induction n9 with
        | zero => intro k h1 h2; omega
        | succ n9 ih_lp =>
          intro k hk1 hk2   H locs hH hS ls hl
          refine lv_iload hx hb dX8_turn_59 (lv_at hl 0 rfl) ?_
          refine lv_iload hx hb dX8_turn_61 (lv_at hl 1 rfl) ?_
          refine lv_icmp_ge (tgt := 127) hx hb dX8_turn_63 (by decide) (fun c_63 => ?_) (fun c_63 => ?_)
          · have c_63 := nc_le (a := (P.ln t)) (b := k) (by omega) (by omega) c_63
            refine lv_iload hx hb dX8_turn_127 (lv_at hl 1 rfl) ?_
            subst hQ
            exact cx_ri hC hr hlk (mpost.mk (by rw [show k = P.ln t by omega]; simp [sp_turn, rf, c_9, cN_c hj, c_25, h1j])) hH hS dX8_turn_129
          · have c_63 := nc_nle (a := (P.ln t)) (b := k) (by omega) (by omega) c_63
            refine lv_iload hx hb dX8_turn_66 (lv_at hl 0 rfl) ?_
            refine lv_iload_n hx hb dX8_turn_68 rfl (lv_at hl 6 rfl) ?_
            refine lv_iload hx hb dX8_turn_69 (lv_at hl 1 rfl) ?_
            refine lv_irem hx hb dX8_turn_71 (nI_ne0 (by omega) (by omega)) ?_
            refine lv_iadd hx hb dX8_turn_72 ?_
            refine lv_iload hx hb dX8_turn_73 (lv_at hl 1 rfl) ?_
            refine lv_iadd hx hb dX8_turn_75 ?_
            refine lv_iload hx hb dX8_turn_76 (lv_at hl 1 rfl) ?_
            refine lv_irem hx hb dX8_turn_78 (nI_ne0 (by omega) (by omega)) ?_
            have htr := trn_lt n (show k < P.ln t by omega)
            refine lv_chg (y := nI (trn n (P.ln t) k)) (tr_eq n hlt (by omega)) ?_
            refine lv_istore (lv' := [(7, .int (nI (trn n (P.ln t) k))), (6, .int (nI k)), (5, .int (nI (P.ln t))), (4, .int (nI t)), (3, .int (nI (rsRow P j))), (0, .ref (ad 0)), (1, .int (nI j)), (2, .int (n))]) hx hb dX8_turn_79 hl (by decide) rfl (fun ls hl => ?_)
            refine lv_aload_n hx hb dX8_turn_81 rfl (lv_at hl 5 rfl) ?_
            refine g_get hC hK inG8 hH 0 (by decide) rfl rfl 4 (by decide) qF_X8_22 (Or.inl rfl) rfl dX8_turn_82 ?_
            refine lv_bipush (v := 24) hx hb dX8_turn_85 (by decide) ?_
            refine lv_iload hx hb dX8_turn_87 (lv_at hl 3 rfl) ?_
            refine lv_imul hx hb dX8_turn_89 ?_
            refine lv_iload hx hb dX8_turn_90 (lv_at hl 0 rfl) ?_
            refine lv_iadd hx hb dX8_turn_92 ?_
            refine lv_aload_n hx hb dX8_turn_93 rfl (lv_at hl 5 rfl) ?_
            refine g_get hC hK inG8 hH 0 (by decide) rfl rfl 13 (by decide) qF_X8_36 (Or.inl rfl) rfl dX8_turn_94 ?_
            refine lv_iload hx hb dX8_turn_97 (lv_at hl 1 rfl) ?_
            refine gN_lald hC hK hH 9 (by decide) rfl k (by omega) dX8_turn_99 ?_
            refine lv_chgl (y := P.wh t k) (ldL_at (by omega)) ?_
            refine mr_whs hC hK hH hS t (trn n (P.ln t) k) (by omega) dX8_turn_100 (fun H locs hH hS => ?_)
            refine lv_aload_n hx hb dX8_turn_101 rfl (lv_at hl 5 rfl) ?_
            refine g_get hC hK inG8 hH 0 (by decide) rfl rfl 5 (by decide) qF_X8_26 (Or.inl rfl) rfl dX8_turn_102 ?_
            refine lv_bipush (v := 24) hx hb dX8_turn_105 (by decide) ?_
            refine lv_iload hx hb dX8_turn_107 (lv_at hl 3 rfl) ?_
            refine lv_imul hx hb dX8_turn_109 ?_
            refine lv_iload hx hb dX8_turn_110 (lv_at hl 0 rfl) ?_
            refine lv_iadd hx hb dX8_turn_112 ?_
            refine lv_aload_n hx hb dX8_turn_113 rfl (lv_at hl 5 rfl) ?_
            refine g_get hC hK inG8 hH 0 (by decide) rfl rfl 14 (by decide) qF_X8_39 (Or.inl rfl) rfl dX8_turn_114 ?_
            refine lv_iload hx hb dX8_turn_117 (lv_at hl 1 rfl) ?_
            refine gN_dald hC hK hH 10 (by decide) rfl k (by omega) dX8_turn_119 ?_
            refine lv_chgd (y := P.re t k) (ldD_at (by omega)) ?_
            refine mr_res hC hK hH hS t (trn n (P.ln t) k) (by omega) dX8_turn_120 (fun H locs hH hS => ?_)
            refine lv_iinc (v := nI (k + 1)) (lv' := [(6, .int (nI (k + 1))), (7, .int (nI (trn n (P.ln t) k))), (5, .int (nI (P.ln t))), (4, .int (nI t)), (3, .int (nI (rsRow P j))), (0, .ref (ad 0)), (1, .int (nI j)), (2, .int (n))]) hx hb dX8_turn_121 hl (k := 1) rfl (nI_1 _) (by decide) rfl (fun ls hl => ?_)
            refine lv_goto (tgt := 59) hx hb dX8_turn_124 (by decide) ?_
            exact ih_lp (k + 1) (by omega) (by omega)   _ _ hH hS ls (lv_sub hl [0, 2, 3, 4, 5, 6, 7] rfl)
      exact lp ((P.ln t) + 1) 0 (by omega) (by omega)   _ _ hH hS ls (lv_sub hl [0, 1, 2, 3, 4, 5, 6] rfl)
    · have c_25 : ¬ (rsRow P j) = 0 := by have h9 := nc_nle (a := (rsRow P j)) (b := 0) (by omega) (by omega) c_25; omega
      refine lv_aload_n hx hb dX8_turn_28 rfl (lv_at hl 1 rfl) ?_
      refine lv_iload_n hx hb dX8_turn_29 rfl (lv_at hl 0 rfl) ?_
      refine cm_V (As' := [.int (nI (rsRow P j))]) (rest := []) hC (c_X8_refuse) mv_X8_refuse qM_X8_105 ⟨⟨rfl, rfl⟩, Nat.le_of_ble_eq_true rfl, Nat.le_of_ble_eq_true rfl⟩ hK hH hS hA (hp.recv hK hH (i := 0) (by decide) rfl rfl) hl.1 ⟨Nat.zero_le _, Nat.zero_le _⟩ rfl rfl (Nat.le_of_ble_eq_true rfl) dX8_turn_30 (fun H locs hH hS => ?_)
      subst hQ
      exact cx_ri hC hr hlk (mpost.mk (by simp [sp_turn, rf, c_9, cN_c hj, c_25] <;> rfl)) hH hS dX8_turn_33
  · have c_9 := b2i_f c_9
    refine lv_aload_n hx hb dX8_turn_12 rfl (lv_at hl 0 rfl) ?_
    refine lv_iconst (v := 1) hx hb dX8_turn_13 (by decide) ?_
    refine cm_V (As' := [.int (1)]) (rest := []) hC (c_X8_refuse) mv_X8_refuse qM_X8_105 ⟨⟨rfl, rfl⟩, Nat.le_of_ble_eq_true rfl, Nat.le_of_ble_eq_true rfl⟩ hK hH hS hA (hp.recv hK hH (i := 0) (by decide) rfl rfl) hl.1 ⟨Nat.zero_le _, Nat.zero_le _⟩ rfl rfl (Nat.le_of_ble_eq_true rfl) dX8_turn_14 (fun H locs hH hS => ?_)
    subst hQ
    exact cx_ri hC hr hlk (mpost.mk (by simp [sp_turn, rf, c_9] <;> rfl)) hH hS dX8_turn_17
theorem mv_X8_find : mvok RX8 yX8_find cX8_find 9 (some .int) 5 := ⟨qK_X8_find, qI_X8_find, qSel_X8_X8_find, qInit_X8, by decide +kernel⟩
set_option maxHeartbeats 4000000 in
set_option maxRecDepth 100000 in
theorem c_X8_find {l : Launch} {D : va_G} {cy : Nat → ClassId} {ad : Nat → Nat} {P : AS} {wy : Int32} {so : Int32} {w : Int64} {r : UInt64} {ns : Nat → Int32} {nw : Nat → Int64} {nr : Nat → UInt64} {fr : Nat → Int32} {tt : Nat → Int32} {c i sort a b : Int32} (hw : WF P)  : CX l yX8_find cX8_find 9 (some .int) (rm_ 2 54) D cy 13 ad [.ref (ad 0), .int (c), .int (i), .int (sort), .int (a), .int (b)] (mct cy ad P wy so w r ns nw nr fr tt) (mpost cy ad (sp_find P c i sort a b)) := by
  refine CX.startQ (by decide) (Nat.le_of_ble_eq_true rfl) ?_
  intro p_ e_ s m_ args_ below meth cd A ls Q hQ hC hr hlk hK hA hH hl
  obtain ⟨hx, hb, hml, hown, hts⟩ := id hC
  have hS : va_S A s.heap s.heap [] := va_S.rf
  have hl : lv_has ls 9 [(0, .ref (ad 0)), (1, .int (c)), (2, .int (i)), (3, .int (sort)), (4, .int (a)), (5, .int (b))] := hl
  refine lv_aload_n hx hb dX8_find_0 rfl (lv_at hl 0 rfl) ?_
  refine lv_iconst (v := 0) hx hb dX8_find_1 (by decide) ?_
  refine g_put (ct' := mct cy ad P 0 so w r ns nw nr fr tt) hC hK inG8 tyX8 tyX8_ok nmX8 hH hS 0 (by decide) rfl rfl 8 (by decide) qF_X8_48 rfl rfl rfl rfl (Nat.le_of_ble_eq_true rfl) rfl mct_0 dX8_find_2 (fun H locs hH hS => ?_)
  refine lv_iload_n hx hb dX8_find_5 rfl (lv_at hl 1 rfl) ?_
  refine cm_S (As := [.int (c)]) (rest := []) hC (c_X8_isColumn) ms_X8_isColumn qM_X8_102 ⟨⟨rfl, rfl⟩, Nat.le_of_ble_eq_true rfl, Nat.le_of_ble_eq_true rfl⟩ hK hH hS hA hl.1 ⟨Nat.zero_le _, Nat.zero_le _⟩ rfl rfl (Nat.le_of_ble_eq_true rfl) dX8_find_6 (fun H locs hH hS => ?_)
  refine lv_if_eq (tgt := 22) hx hb dX8_find_9 (by decide) (fun c_9 => ?_) (fun c_9 => ?_)
  · have c_9 := b2i_f c_9
    refine lv_aload_n hx hb dX8_find_22 rfl (lv_at hl 0 rfl) ?_
    refine lv_iconst (v := 1) hx hb dX8_find_23 (by decide) ?_
    refine cm_V (As' := [.int (1)]) (rest := []) hC (c_X8_refuse) mv_X8_refuse qM_X8_105 ⟨⟨rfl, rfl⟩, Nat.le_of_ble_eq_true rfl, Nat.le_of_ble_eq_true rfl⟩ hK hH hS hA (hp.recv hK hH (i := 0) (by decide) rfl rfl) hl.1 ⟨Nat.zero_le _, Nat.zero_le _⟩ rfl rfl (Nat.le_of_ble_eq_true rfl) dX8_find_24 (fun H locs hH hS => ?_)
    subst hQ
    exact cx_ri hC hr hlk (mpost.mk (by simp [sp_find, rf, c_9] <;> rfl)) hH hS dX8_find_27
  · have c_9 := b2i_t c_9
    obtain ⟨j, hj, rfl⟩ := isC_ex c_9
    refine lv_iload_n hx hb dX8_find_12 rfl (lv_at hl 3 rfl) ?_
    refine lv_iconst (v := 0) hx hb dX8_find_13 (by decide) ?_
    refine lv_bipush (v := 7) hx hb dX8_find_14 (by decide) ?_
    refine cm_S (As := [.int (sort), .int (0), .int (7)]) (rest := []) hC (c_X8_isIn) ms_X8_isIn qM_X8_52 ⟨⟨rfl, rfl⟩, Nat.le_of_ble_eq_true rfl, Nat.le_of_ble_eq_true rfl⟩ hK hH hS hA hl.1 ⟨Nat.zero_le _, Nat.zero_le _⟩ rfl rfl (Nat.le_of_ble_eq_true rfl) dX8_find_16 (fun H locs hH hS => ?_)
    refine lv_if_ne (tgt := 28) hx hb dX8_find_19 (by decide) (fun c_19 => ?_) (fun c_19 => ?_)
    · have c_19 := b2i_t c_19
      obtain ⟨z, hz, rfl⟩ := inR_ex (n := 7) (by decide) c_19
      refine lv_aload_n hx hb dX8_find_28 rfl (lv_at hl 0 rfl) ?_
      refine lv_iload_n hx hb dX8_find_29 rfl (lv_at hl 1 rfl) ?_
      refine cm_V (As' := [.int (nI j)]) (rest := []) hC (c_X8_reasonOfRow hj hw) mv_X8_reasonOfRow qM_X8_111 ⟨⟨rfl, rfl⟩, Nat.le_of_ble_eq_true rfl, Nat.le_of_ble_eq_true rfl⟩ hK hH hS hA (hp.recv hK hH (i := 0) (by decide) rfl rfl) hl.1 ⟨Nat.zero_le _, Nat.zero_le _⟩ rfl rfl (Nat.le_of_ble_eq_true rfl) dX8_find_30 (fun H locs hH hS => ?_)
      refine lv_istore (lv' := [(6, .int (nI (rsRow P j))), (0, .ref (ad 0)), (1, .int (nI j)), (2, .int (i)), (3, .int (nI z)), (4, .int (a)), (5, .int (b))]) hx hb dX8_find_33 hl (by decide) rfl (fun ls hl => ?_)
      have hb1 := rsRow_le P j
      refine lv_iload hx hb dX8_find_35 (lv_at hl 0 rfl) ?_
      refine lv_if_le (tgt := 47) hx hb dX8_find_37 (by decide) (fun c_37 => ?_) (fun c_37 => ?_)
      · have c_37 : (rsRow P j) = 0 := by have h9 := nc_le (a := (rsRow P j)) (b := 0) (by omega) (by omega) c_37; omega
        obtain ⟨t, h1j, hkt⟩ := rsRow_0 c_37
        have htt : t < 513 := by have := hw.2.2.2.1 j; have := hw.2.2.1; omega
        have hlt := hw.2.1 t
        refine lv_aload_n hx hb dX8_find_47 rfl (lv_at hl 1 rfl) ?_
        refine lv_iload_n hx hb dX8_find_48 rfl (lv_at hl 2 rfl) ?_
        refine cm_V (As' := [.int (nI j)]) (rest := []) hC (c_X8_in1 hj h1j) mv_X8_in qM_X8_56 ⟨⟨rfl, rfl⟩, Nat.le_of_ble_eq_true rfl, Nat.le_of_ble_eq_true rfl⟩ hK hH hS hA (hp.recv hK hH (i := 0) (by decide) rfl rfl) hl.1 ⟨Nat.zero_le _, Nat.zero_le _⟩ rfl rfl (Nat.le_of_ble_eq_true rfl) dX8_find_49 (fun H locs hH hS => ?_)
        refine lv_istore (lv' := [(7, .int (nI t)), (6, .int (nI (rsRow P j))), (0, .ref (ad 0)), (1, .int (nI j)), (2, .int (i)), (3, .int (nI z)), (4, .int (a)), (5, .int (b))]) hx hb dX8_find_52 hl (by decide) rfl (fun ls hl => ?_)
        refine lv_aload_n hx hb dX8_find_54 rfl (lv_at hl 2 rfl) ?_
        refine lv_iload hx hb dX8_find_55 (lv_at hl 0 rfl) ?_
        refine cm_V (As' := [.int (nI t)]) (rest := []) hC (c_X8_isPlain (by omega) hw) mv_X8_isPlain qM_X8_91 ⟨⟨rfl, rfl⟩, Nat.le_of_ble_eq_true rfl, Nat.le_of_ble_eq_true rfl⟩ hK hH hS hA (hp.recv hK hH (i := 0) (by decide) rfl rfl) hl.1 ⟨Nat.zero_le _, Nat.zero_le _⟩ rfl rfl (Nat.le_of_ble_eq_true rfl) dX8_find_57 (fun H locs hH hS => ?_)
        refine lv_if_ne (tgt := 70) hx hb dX8_find_60 (by decide) (fun c_60 => ?_) (fun c_60 => ?_)
        · have c_60 := b2d_t c_60
          refine lv_aload_n hx hb dX8_find_70 rfl (lv_at hl 2 rfl) ?_
          refine lv_iload_n hx hb dX8_find_71 rfl (lv_at hl 5 rfl) ?_
          refine lv_iload hx hb dX8_find_72 (lv_at hl 6 rfl) ?_
          refine lv_iload hx hb dX8_find_74 (lv_at hl 7 rfl) ?_
          refine cm_V (As' := [.int (nI z), .int (a), .int (b)]) (rest := []) hC (c_X8_tell (by omega)) mv_X8_tell qM_X8_124 ⟨⟨rfl, rfl⟩, Nat.le_of_ble_eq_true rfl, Nat.le_of_ble_eq_true rfl⟩ hK hH hS hA (hp.recv hK hH (i := 0) (by decide) rfl rfl) hl.1 ⟨Nat.zero_le _, Nat.zero_le _⟩ rfl rfl (Nat.le_of_ble_eq_true rfl) dX8_find_76 (fun H locs hH hS => ?_)
          refine lv_iload_n hx hb dX8_find_79 rfl (lv_at hl 4 rfl) ?_
          refine lv_if_ge (tgt := 87) hx hb dX8_find_80 (by decide) (fun c_80 => ?_) (fun c_80 => ?_)
          · refine lv_iload_n hx hb dX8_find_87 rfl (lv_at hl 4 rfl) ?_
            rcases Decidable.em (nI (P.ln t) ≤ i) with hge | hge
            · refine lv_istore (lv' := [(8, .int (i)), (7, .int (nI t)), (6, .int (nI (rsRow P j))), (0, .ref (ad 0)), (1, .int (nI j)), (2, .int (i)), (3, .int (nI z)), (4, .int (a)), (5, .int (b))]) hx hb dX8_find_88 hl (by decide) rfl (fun ls hl => ?_)
              refine lv_iload hx hb dX8_find_90 (lv_at hl 0 rfl) ?_
              refine lv_aload_n hx hb dX8_find_92 rfl (lv_at hl 3 rfl) ?_
              refine g_get hC hK inG8 hH 0 (by decide) rfl rfl 2 (by decide) qF_X8_16 (Or.inl rfl) rfl dX8_find_93 ?_
              refine lv_iload hx hb dX8_find_96 (lv_at hl 1 rfl) ?_
              refine gN_iald hC hK hH 3 (by decide) rfl t (by omega) dX8_find_98 ?_
              refine lv_icmp_ge (tgt := 151) hx hb dX8_find_99 (by decide) (fun c_99 => ?_) (fun c_99 => absurd hge c_99)
              refine lv_iconst (v := (-1)) hx hb dX8_find_151 (by decide) ?_
              subst hQ
              exact cx_ri hC hr hlk (mpost.mk (by simp [sp_find, rf, c_9, cN_c hj, c_19, cN_s hz (by decide), c_37, h1j, c_60, hge] <;> rfl)) hH hS dX8_find_152
            · obtain ⟨k0, hk0, rfl⟩ := ex_lt (by omega) c_80 hge
              refine lv_istore (lv' := [(8, .int (nI k0)), (7, .int (nI t)), (6, .int (nI (rsRow P j))), (0, .ref (ad 0)), (1, .int (nI j)), (2, .int (nI k0)), (3, .int (nI z)), (4, .int (a)), (5, .int (b))]) hx hb dX8_find_88 hl (by decide) rfl (fun ls hl => ?_)
              have lp : ∀ (n9 k : Nat), k ≤ (P.ln t) → (P.ln t) < k + n9 → ∀ (f : Nat) (hf : P.ln t < k + f) (he : fnd P t z (told z a b) (P.ln t + 1) k0 = fnd P t z (told z a b) f k) (H : Heap) (locs : List Loc), hp D A 13 ad (mct cy ad P 0 (nI z) ((told z a b).1) ((told z a b).2) ns nw nr fr tt) H → va_S A s.heap H locs → ∀ (ls : Array Slot), lv_has ls 9 [(8, .int (nI k)), (7, .int (nI t)), (6, .int (nI (rsRow P j))), (0, .ref (ad 0)), (1, .int (nI j)), (3, .int (nI z))] → W p_ l e_ (rm_ 2 54) s m_ args_ below meth cd H locs 0 0 Q (F0 m_ 90 ls []) := by
                intro n9
                induction n9 with
                | zero => intro k h1 h2; omega
                | succ n9 ih_lp =>
                  intro k hk1 hk2 f hf he H locs hH hS ls hl
                  refine lv_iload hx hb dX8_find_90 (lv_at hl 0 rfl) ?_
                  refine lv_aload_n hx hb dX8_find_92 rfl (lv_at hl 3 rfl) ?_
                  refine g_get hC hK inG8 hH 0 (by decide) rfl rfl 2 (by decide) qF_X8_16 (Or.inl rfl) rfl dX8_find_93 ?_
                  refine lv_iload hx hb dX8_find_96 (lv_at hl 1 rfl) ?_
                  refine gN_iald hC hK hH 3 (by decide) rfl t (by omega) dX8_find_98 ?_
                  refine lv_icmp_ge (tgt := 151) hx hb dX8_find_99 (by decide) (fun c_99 => ?_) (fun c_99 => ?_)
                  · have c_99 := nc_le (a := (P.ln t)) (b := k) (by omega) (by omega) c_99
                    refine lv_iconst (v := (-1)) hx hb dX8_find_151 (by decide) ?_
                    subst hQ
                    exact cx_ri hC hr hlk (mpost.mk (by simp [sp_find, rf, c_9, cN_c hj, c_19, cN_s hz (by decide), c_37, h1j, c_60, cN_p hw hk0, hge]; exact he.trans (fnd_end (by omega)))) hH hS dX8_find_152
                  · have c_99 := nc_nle (a := (P.ln t)) (b := k) (by omega) (by omega) c_99
                    refine lv_aload_n hx hb dX8_find_102 rfl (lv_at hl 3 rfl) ?_
                    refine lv_aload_n hx hb dX8_find_103 rfl (lv_at hl 3 rfl) ?_
                    refine g_get hC hK inG8 hH 0 (by decide) rfl rfl 1 (by decide) qF_X8_13 (Or.inl rfl) rfl dX8_find_104 ?_
                    refine lv_iload hx hb dX8_find_107 (lv_at hl 1 rfl) ?_
                    refine gN_iald hC hK hH 2 (by decide) rfl t (by omega) dX8_find_109 ?_
                    refine lv_aload_n hx hb dX8_find_110 rfl (lv_at hl 3 rfl) ?_
                    refine g_get hC hK inG8 hH 0 (by decide) rfl rfl 4 (by decide) qF_X8_22 (Or.inl rfl) rfl dX8_find_111 ?_
                    refine lv_bipush (v := 24) hx hb dX8_find_114 (by decide) ?_
                    refine lv_iload hx hb dX8_find_116 (lv_at hl 1 rfl) ?_
                    refine lv_imul hx hb dX8_find_118 ?_
                    refine lv_iload hx hb dX8_find_119 (lv_at hl 0 rfl) ?_
                    refine lv_iadd hx hb dX8_find_121 ?_
                    refine mr_wh hC hK hH t k (by omega) dX8_find_122 ?_
                    refine lv_aload_n hx hb dX8_find_123 rfl (lv_at hl 3 rfl) ?_
                    refine g_get hC hK inG8 hH 0 (by decide) rfl rfl 5 (by decide) qF_X8_26 (Or.inl rfl) rfl dX8_find_124 ?_
                    refine lv_bipush (v := 24) hx hb dX8_find_127 (by decide) ?_
                    refine lv_iload hx hb dX8_find_129 (lv_at hl 1 rfl) ?_
                    refine lv_imul hx hb dX8_find_131 ?_
                    refine lv_iload hx hb dX8_find_132 (lv_at hl 0 rfl) ?_
                    refine lv_iadd hx hb dX8_find_134 ?_
                    refine mr_re hC hK hH t k (by omega) dX8_find_135 ?_
                    refine cm_V (As' := [.int (nI (P.kd t)), .long (P.wh t k), .double (P.re t k)]) (rest := []) hC (c_X8_against (by omega) (by omega)) mv_X8_against qM_X8_163 ⟨⟨rfl, rfl⟩, Nat.le_of_ble_eq_true rfl, Nat.le_of_ble_eq_true rfl⟩ hK hH hS hA (hp.recv hK hH (i := 0) (by decide) rfl rfl) hl.1 ⟨Nat.zero_le _, Nat.zero_le _⟩ rfl rfl (Nat.le_of_ble_eq_true rfl) dX8_find_136 (fun H locs hH hS => ?_)
                    refine lv_if_ne (tgt := 145) hx hb dX8_find_139 (by decide) (fun c_139 => ?_) (fun c_139 => ?_)
                    · refine lv_iinc (v := nI (k + 1)) (lv' := [(8, .int (nI (k + 1))), (7, .int (nI t)), (6, .int (nI (rsRow P j))), (0, .ref (ad 0)), (1, .int (nI j)), (3, .int (nI z))]) hx hb dX8_find_145 hl (k := 0) rfl (nI_1 _) (by decide) rfl (fun ls hl => ?_)
                      refine lv_goto (tgt := 90) hx hb dX8_find_148 (by decide) ?_
                      exact ih_lp (k + 1) (by omega) (by omega) (f - 1) (by omega) (he.trans (fnd_no (by omega) (by omega) c_139)) _ _ hH hS ls (lv_sub hl [0, 1, 2, 3, 4, 5] rfl)
                    · refine lv_iload hx hb dX8_find_142 (lv_at hl 0 rfl) ?_
                      subst hQ
                      exact cx_ri hC hr hlk (mpost.mk (by simp [sp_find, rf, c_9, cN_c hj, c_19, cN_s hz (by decide), c_37, h1j, c_60, cN_p hw hk0, hge]; exact he.trans (fnd_yes (by omega) (by omega) c_139))) hH hS dX8_find_144
              exact lp ((P.ln t) + 1) k0 (by omega) (by omega) (P.ln t + 1) (by omega) (rfl) _ _ hH hS ls (lv_sub hl [0, 1, 2, 3, 4, 6] rfl)
          · refine lv_iconst (v := 0) hx hb dX8_find_83 (by decide) ?_
            refine lv_goto (tgt := 88) hx hb dX8_find_84 (by decide) ?_
            refine lv_istore (lv' := [(8, .int (0)), (7, .int (nI t)), (6, .int (nI (rsRow P j))), (0, .ref (ad 0)), (1, .int (nI j)), (2, .int (i)), (3, .int (nI z)), (4, .int (a)), (5, .int (b))]) hx hb dX8_find_88 hl (by decide) rfl (fun ls hl => ?_)
            have lp : ∀ (n9 k : Nat), k ≤ (P.ln t) → (P.ln t) < k + n9 → ∀ (f : Nat) (hf : P.ln t < k + f) (he : fnd P t z (told z a b) (P.ln t + 1) 0 = fnd P t z (told z a b) f k) (H : Heap) (locs : List Loc), hp D A 13 ad (mct cy ad P 0 (nI z) ((told z a b).1) ((told z a b).2) ns nw nr fr tt) H → va_S A s.heap H locs → ∀ (ls : Array Slot), lv_has ls 9 [(8, .int (nI k)), (7, .int (nI t)), (6, .int (nI (rsRow P j))), (0, .ref (ad 0)), (1, .int (nI j)), (3, .int (nI z))] → W p_ l e_ (rm_ 2 54) s m_ args_ below meth cd H locs 0 0 Q (F0 m_ 90 ls []) := by
              intro n9
              induction n9 with
              | zero => intro k h1 h2; omega
              | succ n9 ih_lp =>
                intro k hk1 hk2 f hf he H locs hH hS ls hl
                refine lv_iload hx hb dX8_find_90 (lv_at hl 0 rfl) ?_
                refine lv_aload_n hx hb dX8_find_92 rfl (lv_at hl 3 rfl) ?_
                refine g_get hC hK inG8 hH 0 (by decide) rfl rfl 2 (by decide) qF_X8_16 (Or.inl rfl) rfl dX8_find_93 ?_
                refine lv_iload hx hb dX8_find_96 (lv_at hl 1 rfl) ?_
                refine gN_iald hC hK hH 3 (by decide) rfl t (by omega) dX8_find_98 ?_
                refine lv_icmp_ge (tgt := 151) hx hb dX8_find_99 (by decide) (fun c_99 => ?_) (fun c_99 => ?_)
                · have c_99 := nc_le (a := (P.ln t)) (b := k) (by omega) (by omega) c_99
                  refine lv_iconst (v := (-1)) hx hb dX8_find_151 (by decide) ?_
                  subst hQ
                  exact cx_ri hC hr hlk (mpost.mk (by simp [sp_find, rf, c_9, cN_c hj, c_19, cN_s hz (by decide), c_37, h1j, c_60, cN_neg c_80, nle_neg (n := P.ln t) (by omega) c_80]; exact he.trans (fnd_end (by omega)))) hH hS dX8_find_152
                · have c_99 := nc_nle (a := (P.ln t)) (b := k) (by omega) (by omega) c_99
                  refine lv_aload_n hx hb dX8_find_102 rfl (lv_at hl 3 rfl) ?_
                  refine lv_aload_n hx hb dX8_find_103 rfl (lv_at hl 3 rfl) ?_
                  refine g_get hC hK inG8 hH 0 (by decide) rfl rfl 1 (by decide) qF_X8_13 (Or.inl rfl) rfl dX8_find_104 ?_
                  refine lv_iload hx hb dX8_find_107 (lv_at hl 1 rfl) ?_
                  refine gN_iald hC hK hH 2 (by decide) rfl t (by omega) dX8_find_109 ?_
                  refine lv_aload_n hx hb dX8_find_110 rfl (lv_at hl 3 rfl) ?_
                  refine g_get hC hK inG8 hH 0 (by decide) rfl rfl 4 (by decide) qF_X8_22 (Or.inl rfl) rfl dX8_find_111 ?_
                  refine lv_bipush (v := 24) hx hb dX8_find_114 (by decide) ?_
                  refine lv_iload hx hb dX8_find_116 (lv_at hl 1 rfl) ?_
                  refine lv_imul hx hb dX8_find_118 ?_
                  refine lv_iload hx hb dX8_find_119 (lv_at hl 0 rfl) ?_
                  refine lv_iadd hx hb dX8_find_121 ?_
                  refine mr_wh hC hK hH t k (by omega) dX8_find_122 ?_
                  refine lv_aload_n hx hb dX8_find_123 rfl (lv_at hl 3 rfl) ?_
                  refine g_get hC hK inG8 hH 0 (by decide) rfl rfl 5 (by decide) qF_X8_26 (Or.inl rfl) rfl dX8_find_124 ?_
                  refine lv_bipush (v := 24) hx hb dX8_find_127 (by decide) ?_
                  refine lv_iload hx hb dX8_find_129 (lv_at hl 1 rfl) ?_
                  refine lv_imul hx hb dX8_find_131 ?_
                  refine lv_iload hx hb dX8_find_132 (lv_at hl 0 rfl) ?_
                  refine lv_iadd hx hb dX8_find_134 ?_
                  refine mr_re hC hK hH t k (by omega) dX8_find_135 ?_
                  refine cm_V (As' := [.int (nI (P.kd t)), .long (P.wh t k), .double (P.re t k)]) (rest := []) hC (c_X8_against (by omega) (by omega)) mv_X8_against qM_X8_163 ⟨⟨rfl, rfl⟩, Nat.le_of_ble_eq_true rfl, Nat.le_of_ble_eq_true rfl⟩ hK hH hS hA (hp.recv hK hH (i := 0) (by decide) rfl rfl) hl.1 ⟨Nat.zero_le _, Nat.zero_le _⟩ rfl rfl (Nat.le_of_ble_eq_true rfl) dX8_find_136 (fun H locs hH hS => ?_)
                  refine lv_if_ne (tgt := 145) hx hb dX8_find_139 (by decide) (fun c_139 => ?_) (fun c_139 => ?_)
                  · refine lv_iinc (v := nI (k + 1)) (lv' := [(8, .int (nI (k + 1))), (7, .int (nI t)), (6, .int (nI (rsRow P j))), (0, .ref (ad 0)), (1, .int (nI j)), (3, .int (nI z))]) hx hb dX8_find_145 hl (k := 0) rfl (nI_1 _) (by decide) rfl (fun ls hl => ?_)
                    refine lv_goto (tgt := 90) hx hb dX8_find_148 (by decide) ?_
                    exact ih_lp (k + 1) (by omega) (by omega) (f - 1) (by omega) (he.trans (fnd_no (by omega) (by omega) c_139)) _ _ hH hS ls (lv_sub hl [0, 1, 2, 3, 4, 5] rfl)
                  · refine lv_iload hx hb dX8_find_142 (lv_at hl 0 rfl) ?_
                    subst hQ
                    exact cx_ri hC hr hlk (mpost.mk (by simp [sp_find, rf, c_9, cN_c hj, c_19, cN_s hz (by decide), c_37, h1j, c_60, cN_neg c_80, nle_neg (n := P.ln t) (by omega) c_80]; exact he.trans (fnd_yes (by omega) (by omega) c_139))) hH hS dX8_find_144
            exact lp ((P.ln t) + 1) 0 (by omega) (by omega) (P.ln t + 1) (by omega) (rfl) _ _ hH hS ls (lv_sub hl [0, 1, 2, 3, 4, 6] rfl)
        · have c_60 := b2d_f c_60
          refine lv_aload_n hx hb dX8_find_63 rfl (lv_at hl 2 rfl) ?_
          refine lv_bipush (v := 6) hx hb dX8_find_64 (by decide) ?_
          refine cm_V (As' := [.int (6)]) (rest := []) hC (c_X8_refuse) mv_X8_refuse qM_X8_105 ⟨⟨rfl, rfl⟩, Nat.le_of_ble_eq_true rfl, Nat.le_of_ble_eq_true rfl⟩ hK hH hS hA (hp.recv hK hH (i := 0) (by decide) rfl rfl) hl.1 ⟨Nat.zero_le _, Nat.zero_le _⟩ rfl rfl (Nat.le_of_ble_eq_true rfl) dX8_find_66 (fun H locs hH hS => ?_)
          subst hQ
          exact cx_ri hC hr hlk (mpost.mk (by simp [sp_find, rf, c_9, cN_c hj, c_19, cN_s hz (by decide), c_37, h1j, c_60] <;> rfl)) hH hS dX8_find_69
      · have c_37 : ¬ (rsRow P j) = 0 := by have h9 := nc_nle (a := (rsRow P j)) (b := 0) (by omega) (by omega) c_37; omega
        refine lv_aload_n hx hb dX8_find_40 rfl (lv_at hl 1 rfl) ?_
        refine lv_iload hx hb dX8_find_41 (lv_at hl 0 rfl) ?_
        refine cm_V (As' := [.int (nI (rsRow P j))]) (rest := []) hC (c_X8_refuse) mv_X8_refuse qM_X8_105 ⟨⟨rfl, rfl⟩, Nat.le_of_ble_eq_true rfl, Nat.le_of_ble_eq_true rfl⟩ hK hH hS hA (hp.recv hK hH (i := 0) (by decide) rfl rfl) hl.1 ⟨Nat.zero_le _, Nat.zero_le _⟩ rfl rfl (Nat.le_of_ble_eq_true rfl) dX8_find_43 (fun H locs hH hS => ?_)
        subst hQ
        exact cx_ri hC hr hlk (mpost.mk (by simp [sp_find, rf, c_9, cN_c hj, c_19, cN_s hz (by decide), c_37] <;> rfl)) hH hS dX8_find_46
    · have c_19 := b2i_f c_19
      refine lv_aload_n hx hb dX8_find_22 rfl (lv_at hl 0 rfl) ?_
      refine lv_iconst (v := 1) hx hb dX8_find_23 (by decide) ?_
      refine cm_V (As' := [.int (1)]) (rest := []) hC (c_X8_refuse) mv_X8_refuse qM_X8_105 ⟨⟨rfl, rfl⟩, Nat.le_of_ble_eq_true rfl, Nat.le_of_ble_eq_true rfl⟩ hK hH hS hA (hp.recv hK hH (i := 0) (by decide) rfl rfl) hl.1 ⟨Nat.zero_le _, Nat.zero_le _⟩ rfl rfl (Nat.le_of_ble_eq_true rfl) dX8_find_24 (fun H locs hH hS => ?_)
      subst hQ
      exact cx_ri hC hr hlk (mpost.mk (by simp [sp_find, rf, c_9, cN_c hj, c_19] <;> rfl)) hH hS dX8_find_27
theorem mv_X8_areAlike : mvok RX8 yX8_areAlike cX8_areAlike 4 (some .boolean) 3 := ⟨qK_X8_areAlike, qI_X8_areAlike, qSel_X8_X8_areAlike, qInit_X8, by decide +kernel⟩
set_option maxHeartbeats 4000000 in
set_option maxRecDepth 100000 in
theorem c_X8_areAlike {l : Launch} {D : va_G} {cy : Nat → ClassId} {ad : Nat → Nat} {P : AS} {wy : Int32} {so : Int32} {w : Int64} {r : UInt64} {ns : Nat → Int32} {nw : Nat → Int64} {nr : Nat → UInt64} {fr : Nat → Int32} {tt : Nat → Int32} {t u i : Nat} (ht : t < 513) (hu : u < 513) (hi : i < 24) (hw : WF P) (h12 : P.kd t < 12) (h13 : P.kd u < 12) : CX l yX8_areAlike cX8_areAlike 4 (some .boolean) (rm_ 2 54) D cy 13 ad [.ref (ad 0), .int (nI t), .int (nI u), .int (nI i)] (mct cy ad P wy so w r ns nw nr fr tt) (mpoK cy ad (some (.int (b2i (alkP P t u i)))) P wy ns nw nr fr tt) := by
  refine CX.start (by decide) (Nat.le_of_ble_eq_true rfl) ?_
  intro p_ e_ s m_ below meth cd A ls hC hr hlk hin hK hA hH hl
  obtain ⟨hx, hb, hml, hown, hts⟩ := id hC
  have hS : va_S A s.heap s.heap [] := va_S.rf
  have hl : lv_has ls 4 [(0, .ref (ad 0)), (1, .int (nI t)), (2, .int (nI u)), (3, .int (nI i))] := hl
  refine lv_aload_n hx hb dX8_areAlike_0 rfl (lv_at hl 0 rfl) ?_
  refine lv_iload_n hx hb dX8_areAlike_1 rfl (lv_at hl 1 rfl) ?_
  refine cm_V (As' := [.int (nI t)]) (rest := []) hC (c_X8_isPlain (by omega) hw) mv_X8_isPlain qM_X8_91 ⟨⟨rfl, rfl⟩, Nat.le_of_ble_eq_true rfl, Nat.le_of_ble_eq_true rfl⟩ hK hH hS hA (hp.recv hK hH (i := 0) (by decide) rfl rfl) hl.1 ⟨Nat.zero_le _, Nat.zero_le _⟩ rfl rfl (Nat.le_of_ble_eq_true rfl) dX8_areAlike_2 (fun H locs hH hS => ?_)
  rcases Decidable.em (P.kd t < 8) with h8t | h8t
  · refine lv_chg (y := 1) (b2d_1 h8t).symm ?_
    refine lv_aload_n hx hb dX8_areAlike_5 rfl (lv_at hl 0 rfl) ?_
    refine lv_iload_n hx hb dX8_areAlike_6 rfl (lv_at hl 2 rfl) ?_
    refine cm_V (As' := [.int (nI u)]) (rest := [.int (1)]) hC (c_X8_isPlain (by omega) hw) mv_X8_isPlain qM_X8_91 ⟨⟨rfl, rfl⟩, Nat.le_of_ble_eq_true rfl, Nat.le_of_ble_eq_true rfl⟩ hK hH hS hA (hp.recv hK hH (i := 0) (by decide) rfl rfl) hl.1 ⟨Nat.zero_le _, Nat.zero_le _⟩ rfl rfl (Nat.le_of_ble_eq_true rfl) dX8_areAlike_7 (fun H locs hH hS => ?_)
    rcases Decidable.em (P.kd u < 8) with h8u | h8u
    · refine lv_chg (y := 1) (b2d_1 h8u).symm ?_
      refine lv_icmp_eq (tgt := 15) hx hb dX8_areAlike_10 (by decide) (fun c_10 => ?_) (fun c_10 => absurd c_10 (by decide))
      refine lv_aload_n hx hb dX8_areAlike_15 rfl (lv_at hl 0 rfl) ?_
      refine lv_iload_n hx hb dX8_areAlike_16 rfl (lv_at hl 1 rfl) ?_
      refine cm_V (As' := [.int (nI t)]) (rest := []) hC (c_X8_isPlain (by omega) hw) mv_X8_isPlain qM_X8_91 ⟨⟨rfl, rfl⟩, Nat.le_of_ble_eq_true rfl, Nat.le_of_ble_eq_true rfl⟩ hK hH hS hA (hp.recv hK hH (i := 0) (by decide) rfl rfl) hl.1 ⟨Nat.zero_le _, Nat.zero_le _⟩ rfl rfl (Nat.le_of_ble_eq_true rfl) dX8_areAlike_17 (fun H locs hH hS => ?_)
      refine lv_if_ne (tgt := 55) hx hb dX8_areAlike_20 (by decide) (fun c_20 => ?_) (fun c_20 => absurd h8t (b2d_f c_20))
      refine lv_aload_n hx hb dX8_areAlike_55 rfl (lv_at hl 0 rfl) ?_
      refine lv_iload_n hx hb dX8_areAlike_56 rfl (lv_at hl 1 rfl) ?_
      refine lv_iload_n hx hb dX8_areAlike_57 rfl (lv_at hl 3 rfl) ?_
      refine cm_V (As' := [.int (nI t), .int (nI i)]) (rest := []) hC (c_X8_get (by omega) (by omega)) mv_X8_get qM_X8_143 ⟨⟨rfl, rfl⟩, Nat.le_of_ble_eq_true rfl, Nat.le_of_ble_eq_true rfl⟩ hK hH hS hA (hp.recv hK hH (i := 0) (by decide) rfl rfl) hl.1 ⟨Nat.zero_le _, Nat.zero_le _⟩ rfl rfl (Nat.le_of_ble_eq_true rfl) dX8_areAlike_58 (fun H locs hH hS => ?_)
      refine lv_aload_n hx hb dX8_areAlike_61 rfl (lv_at hl 0 rfl) ?_
      refine lv_aload_n hx hb dX8_areAlike_62 rfl (lv_at hl 0 rfl) ?_
      refine g_get hC hK inG8 hH 0 (by decide) rfl rfl 1 (by decide) qF_X8_13 (Or.inl rfl) rfl dX8_areAlike_63 ?_
      refine lv_iload_n hx hb dX8_areAlike_66 rfl (lv_at hl 2 rfl) ?_
      refine gN_iald hC hK hH 2 (by decide) rfl u (by omega) dX8_areAlike_67 ?_
      refine lv_aload_n hx hb dX8_areAlike_68 rfl (lv_at hl 0 rfl) ?_
      refine g_get hC hK inG8 hH 0 (by decide) rfl rfl 4 (by decide) qF_X8_22 (Or.inl rfl) rfl dX8_areAlike_69 ?_
      refine lv_bipush (v := 24) hx hb dX8_areAlike_72 (by decide) ?_
      refine lv_iload_n hx hb dX8_areAlike_74 rfl (lv_at hl 2 rfl) ?_
      refine lv_imul hx hb dX8_areAlike_75 ?_
      refine lv_iload_n hx hb dX8_areAlike_76 rfl (lv_at hl 3 rfl) ?_
      refine lv_iadd hx hb dX8_areAlike_77 ?_
      refine mr_wh hC hK hH u i (by omega) dX8_areAlike_78 ?_
      refine lv_aload_n hx hb dX8_areAlike_79 rfl (lv_at hl 0 rfl) ?_
      refine g_get hC hK inG8 hH 0 (by decide) rfl rfl 5 (by decide) qF_X8_26 (Or.inl rfl) rfl dX8_areAlike_80 ?_
      refine lv_bipush (v := 24) hx hb dX8_areAlike_83 (by decide) ?_
      refine lv_iload_n hx hb dX8_areAlike_85 rfl (lv_at hl 2 rfl) ?_
      refine lv_imul hx hb dX8_areAlike_86 ?_
      refine lv_iload_n hx hb dX8_areAlike_87 rfl (lv_at hl 3 rfl) ?_
      refine lv_iadd hx hb dX8_areAlike_88 ?_
      refine mr_re hC hK hH u i (by omega) dX8_areAlike_89 ?_
      refine cm_V (As' := [.int (nI (P.kd u)), .long (P.wh u i), .double (P.re u i)]) (rest := []) hC (c_X8_against (by omega) (by omega)) mv_X8_against qM_X8_163 ⟨⟨rfl, rfl⟩, Nat.le_of_ble_eq_true rfl, Nat.le_of_ble_eq_true rfl⟩ hK hH hS hA (hp.recv hK hH (i := 0) (by decide) rfl rfl) hl.1 ⟨Nat.zero_le _, Nat.zero_le _⟩ rfl rfl (Nat.le_of_ble_eq_true rfl) dX8_areAlike_90 (fun H locs hH hS => ?_)
      refine lv_if_ne (tgt := 100) hx hb dX8_areAlike_93 (by decide) (fun c_93 => ?_) (fun c_93 => ?_)
      · refine lv_iconst (v := 0) hx hb dX8_areAlike_100 (by decide) ?_
        exact cx_rz hC hr hlk (by first | exact Or.inl rfl | exact Or.inr rfl | exact b2i_01 _) ⟨congrArg (fun z => some (Value.int z)) (by rw [alkP_v h8t h8u]; first | exact b2d_1 (by assumption) | exact b2d_0 (by assumption)), _, _, _, rfl⟩ hH hS dX8_areAlike_101
      · refine lv_iconst (v := 1) hx hb dX8_areAlike_96 (by decide) ?_
        refine lv_goto (tgt := 101) hx hb dX8_areAlike_97 (by decide) ?_
        exact cx_rz hC hr hlk (by first | exact Or.inl rfl | exact Or.inr rfl | exact b2i_01 _) ⟨congrArg (fun z => some (Value.int z)) (by rw [alkP_v h8t h8u]; first | exact b2d_1 (by assumption) | exact b2d_0 (by assumption)), _, _, _, rfl⟩ hH hS dX8_areAlike_101
    · refine lv_chg (y := 0) (b2d_0 h8u).symm ?_
      refine lv_icmp_eq (tgt := 15) hx hb dX8_areAlike_10 (by decide) (fun c_10 => absurd c_10 (by decide)) (fun c_10 => ?_)
      refine lv_iconst (v := 0) hx hb dX8_areAlike_13 (by decide) ?_
      exact cx_rz hC hr hlk (by first | exact Or.inl rfl | exact Or.inr rfl | exact b2i_01 _) ⟨congrArg (fun z => some (Value.int z)) (by rw [alkP_n (by omega)]; rfl), _, _, _, rfl⟩ hH hS dX8_areAlike_14
  · refine lv_chg (y := 0) (b2d_0 h8t).symm ?_
    refine lv_aload_n hx hb dX8_areAlike_5 rfl (lv_at hl 0 rfl) ?_
    refine lv_iload_n hx hb dX8_areAlike_6 rfl (lv_at hl 2 rfl) ?_
    refine cm_V (As' := [.int (nI u)]) (rest := [.int (0)]) hC (c_X8_isPlain (by omega) hw) mv_X8_isPlain qM_X8_91 ⟨⟨rfl, rfl⟩, Nat.le_of_ble_eq_true rfl, Nat.le_of_ble_eq_true rfl⟩ hK hH hS hA (hp.recv hK hH (i := 0) (by decide) rfl rfl) hl.1 ⟨Nat.zero_le _, Nat.zero_le _⟩ rfl rfl (Nat.le_of_ble_eq_true rfl) dX8_areAlike_7 (fun H locs hH hS => ?_)
    rcases Decidable.em (P.kd u < 8) with h8u | h8u
    · refine lv_chg (y := 1) (b2d_1 h8u).symm ?_
      refine lv_icmp_eq (tgt := 15) hx hb dX8_areAlike_10 (by decide) (fun c_10 => absurd c_10 (by decide)) (fun c_10 => ?_)
      refine lv_iconst (v := 0) hx hb dX8_areAlike_13 (by decide) ?_
      exact cx_rz hC hr hlk (by first | exact Or.inl rfl | exact Or.inr rfl | exact b2i_01 _) ⟨congrArg (fun z => some (Value.int z)) (by rw [alkP_n (by omega)]; rfl), _, _, _, rfl⟩ hH hS dX8_areAlike_14
    · refine lv_chg (y := 0) (b2d_0 h8u).symm ?_
      refine lv_icmp_eq (tgt := 15) hx hb dX8_areAlike_10 (by decide) (fun c_10 => ?_) (fun c_10 => absurd c_10 (by decide))
      refine lv_aload_n hx hb dX8_areAlike_15 rfl (lv_at hl 0 rfl) ?_
      refine lv_iload_n hx hb dX8_areAlike_16 rfl (lv_at hl 1 rfl) ?_
      refine cm_V (As' := [.int (nI t)]) (rest := []) hC (c_X8_isPlain (by omega) hw) mv_X8_isPlain qM_X8_91 ⟨⟨rfl, rfl⟩, Nat.le_of_ble_eq_true rfl, Nat.le_of_ble_eq_true rfl⟩ hK hH hS hA (hp.recv hK hH (i := 0) (by decide) rfl rfl) hl.1 ⟨Nat.zero_le _, Nat.zero_le _⟩ rfl rfl (Nat.le_of_ble_eq_true rfl) dX8_areAlike_17 (fun H locs hH hS => ?_)
      refine lv_if_ne (tgt := 55) hx hb dX8_areAlike_20 (by decide) (fun c_20 => absurd (b2d_t c_20) h8t) (fun c_20 => ?_)
      refine lv_aload_n hx hb dX8_areAlike_23 rfl (lv_at hl 0 rfl) ?_
      refine g_get hC hK inG8 hH 0 (by decide) rfl rfl 4 (by decide) qF_X8_22 (Or.inl rfl) rfl dX8_areAlike_24 ?_
      refine lv_bipush (v := 24) hx hb dX8_areAlike_27 (by decide) ?_
      refine lv_iload_n hx hb dX8_areAlike_29 rfl (lv_at hl 1 rfl) ?_
      refine lv_imul hx hb dX8_areAlike_30 ?_
      refine lv_iload_n hx hb dX8_areAlike_31 rfl (lv_at hl 3 rfl) ?_
      refine lv_iadd hx hb dX8_areAlike_32 ?_
      refine mr_wh hC hK hH t i (by omega) dX8_areAlike_33 ?_
      refine lv_aload_n hx hb dX8_areAlike_34 rfl (lv_at hl 0 rfl) ?_
      refine g_get hC hK inG8 hH 0 (by decide) rfl rfl 4 (by decide) qF_X8_22 (Or.inl rfl) rfl dX8_areAlike_35 ?_
      refine lv_bipush (v := 24) hx hb dX8_areAlike_38 (by decide) ?_
      refine lv_iload_n hx hb dX8_areAlike_40 rfl (lv_at hl 2 rfl) ?_
      refine lv_imul hx hb dX8_areAlike_41 ?_
      refine lv_iload_n hx hb dX8_areAlike_42 rfl (lv_at hl 3 rfl) ?_
      refine lv_iadd hx hb dX8_areAlike_43 ?_
      refine mr_wh hC hK hH u i (by omega) dX8_areAlike_44 ?_
      refine W.lcmp hx hb dX8_areAlike_45 ?_
      refine lv_if_ne (tgt := 53) hx hb dX8_areAlike_46 (by decide) (fun c_46 => ?_) (fun c_46 => ?_)
      · have c_46 := lc_neT c_46
        refine lv_iconst (v := 0) hx hb dX8_areAlike_53 (by decide) ?_
        exact cx_rz hC hr hlk (by first | exact Or.inl rfl | exact Or.inr rfl | exact b2i_01 _) ⟨congrArg (fun z => some (Value.int z)) (by rw [alkP_t h8t h8u]; first | exact b2d_1 (by assumption) | exact b2d_0 (by assumption)), _, _, _, rfl⟩ hH hS dX8_areAlike_54
      · have c_46 := lc_neF c_46
        refine lv_iconst (v := 1) hx hb dX8_areAlike_49 (by decide) ?_
        refine lv_goto (tgt := 54) hx hb dX8_areAlike_50 (by decide) ?_
        exact cx_rz hC hr hlk (by first | exact Or.inl rfl | exact Or.inr rfl | exact b2i_01 _) ⟨congrArg (fun z => some (Value.int z)) (by rw [alkP_t h8t h8u]; first | exact b2d_1 (by assumption) | exact b2d_0 (by assumption)), _, _, _, rfl⟩ hH hS dX8_areAlike_54
theorem mv_X8_alike : mvok RX8 yX8_alike cX8_alike 7 (some .int) 2 := ⟨qK_X8_alike, qI_X8_alike, qSel_X8_X8_alike, qInit_X8, by decide +kernel⟩
set_option maxHeartbeats 4000000 in
set_option maxRecDepth 100000 in
theorem c_X8_alike {l : Launch} {D : va_G} {cy : Nat → ClassId} {ad : Nat → Nat} {P : AS} {wy : Int32} {so : Int32} {w : Int64} {r : UInt64} {ns : Nat → Int32} {nw : Nat → Int64} {nr : Nat → UInt64} {fr : Nat → Int32} {tt : Nat → Int32} {c d : Int32} (hw : WF P)  : CX l yX8_alike cX8_alike 7 (some .int) (rm_ 3 77) D cy 13 ad [.ref (ad 0), .int (c), .int (d)] (mct cy ad P wy so w r ns nw nr fr tt) (mpost cy ad (sp_alike P c d)) := by
  refine CX.startQ (by decide) (Nat.le_of_ble_eq_true rfl) ?_
  intro p_ e_ s m_ args_ below meth cd A ls Q hQ hC hr hlk hK hA hH hl
  obtain ⟨hx, hb, hml, hown, hts⟩ := id hC
  have hS : va_S A s.heap s.heap [] := va_S.rf
  have hl : lv_has ls 7 [(0, .ref (ad 0)), (1, .int (c)), (2, .int (d))] := hl
  refine lv_aload_n hx hb dX8_alike_0 rfl (lv_at hl 0 rfl) ?_
  refine lv_iconst (v := 0) hx hb dX8_alike_1 (by decide) ?_
  refine g_put (ct' := mct cy ad P 0 so w r ns nw nr fr tt) hC hK inG8 tyX8 tyX8_ok nmX8 hH hS 0 (by decide) rfl rfl 8 (by decide) qF_X8_48 rfl rfl rfl rfl (Nat.le_of_ble_eq_true rfl) rfl mct_0 dX8_alike_2 (fun H locs hH hS => ?_)
  refine lv_iload_n hx hb dX8_alike_5 rfl (lv_at hl 1 rfl) ?_
  refine cm_S (As := [.int (c)]) (rest := []) hC (c_X8_isColumn) ms_X8_isColumn qM_X8_102 ⟨⟨rfl, rfl⟩, Nat.le_of_ble_eq_true rfl, Nat.le_of_ble_eq_true rfl⟩ hK hH hS hA hl.1 ⟨Nat.zero_le _, Nat.zero_le _⟩ rfl rfl (Nat.le_of_ble_eq_true rfl) dX8_alike_6 (fun H locs hH hS => ?_)
  refine lv_if_eq (tgt := 19) hx hb dX8_alike_9 (by decide) (fun c_9 => ?_) (fun c_9 => ?_)
  · have c_9 := b2i_f c_9
    refine lv_aload_n hx hb dX8_alike_19 rfl (lv_at hl 0 rfl) ?_
    refine lv_iconst (v := 1) hx hb dX8_alike_20 (by decide) ?_
    refine cm_V (As' := [.int (1)]) (rest := []) hC (c_X8_refuse) mv_X8_refuse qM_X8_105 ⟨⟨rfl, rfl⟩, Nat.le_of_ble_eq_true rfl, Nat.le_of_ble_eq_true rfl⟩ hK hH hS hA (hp.recv hK hH (i := 0) (by decide) rfl rfl) hl.1 ⟨Nat.zero_le _, Nat.zero_le _⟩ rfl rfl (Nat.le_of_ble_eq_true rfl) dX8_alike_21 (fun H locs hH hS => ?_)
    subst hQ
    exact cx_ri hC hr hlk (mpost.mk (by simp [sp_alike, rf, c_9] <;> rfl)) hH hS dX8_alike_24
  · have c_9 := b2i_t c_9
    obtain ⟨j, hj, rfl⟩ := isC_ex c_9
    refine lv_iload_n hx hb dX8_alike_12 rfl (lv_at hl 2 rfl) ?_
    refine cm_S (As := [.int (d)]) (rest := []) hC (c_X8_isColumn) ms_X8_isColumn qM_X8_102 ⟨⟨rfl, rfl⟩, Nat.le_of_ble_eq_true rfl, Nat.le_of_ble_eq_true rfl⟩ hK hH hS hA hl.1 ⟨Nat.zero_le _, Nat.zero_le _⟩ rfl rfl (Nat.le_of_ble_eq_true rfl) dX8_alike_13 (fun H locs hH hS => ?_)
    refine lv_if_ne (tgt := 25) hx hb dX8_alike_16 (by decide) (fun c_16 => ?_) (fun c_16 => ?_)
    · have c_16 := b2i_t c_16
      obtain ⟨q, hq, rfl⟩ := isC_ex c_16
      refine lv_aload_n hx hb dX8_alike_25 rfl (lv_at hl 0 rfl) ?_
      refine lv_iload_n hx hb dX8_alike_26 rfl (lv_at hl 1 rfl) ?_
      refine lv_iload_n hx hb dX8_alike_27 rfl (lv_at hl 2 rfl) ?_
      refine lv_iload_n hx hb dX8_alike_28 rfl (lv_at hl 2 rfl) ?_
      refine cm_V (As' := [.int (nI j), .int (nI q), .int (nI q)]) (rest := []) hC (c_X8_reasonOfRows hj hq hq hw) mv_X8_reasonOfRows qM_X8_154 ⟨⟨rfl, rfl⟩, Nat.le_of_ble_eq_true rfl, Nat.le_of_ble_eq_true rfl⟩ hK hH hS hA (hp.recv hK hH (i := 0) (by decide) rfl rfl) hl.1 ⟨Nat.zero_le _, Nat.zero_le _⟩ rfl rfl (Nat.le_of_ble_eq_true rfl) dX8_alike_29 (fun H locs hH hS => ?_)
      refine lv_istore_n (lv' := [(3, .int (nI (rsRows P j q q))), (0, .ref (ad 0)), (1, .int (nI j)), (2, .int (nI q))]) hx hb dX8_alike_32 rfl hl (by decide) rfl (fun ls hl => ?_)
      have hb1 := rsRows_le P j q q
      refine lv_iload_n hx hb dX8_alike_33 rfl (lv_at hl 0 rfl) ?_
      refine lv_if_le (tgt := 43) hx hb dX8_alike_34 (by decide) (fun c_34 => ?_) (fun c_34 => ?_)
      · have c_34 : (rsRows P j q q) = 0 := by have h9 := nc_le (a := (rsRows P j q q)) (b := 0) (by omega) (by omega) c_34; omega
        obtain ⟨ta, tb, tc, h1j, h1q, h1q2, hka, hkb, hkc⟩ := rsRows_0 c_34
        have hn513 := hw.2.2.1
        have hcoj := hw.2.2.2.1 j
        have hcoq := hw.2.2.2.1 q
        have hla := hw.2.1 ta
        have hlb := hw.2.1 tb
        refine lv_aload_n hx hb dX8_alike_43 rfl (lv_at hl 1 rfl) ?_
        refine lv_iload_n hx hb dX8_alike_44 rfl (lv_at hl 2 rfl) ?_
        refine cm_V (As' := [.int (nI j)]) (rest := []) hC (c_X8_in1 hj h1j) mv_X8_in qM_X8_56 ⟨⟨rfl, rfl⟩, Nat.le_of_ble_eq_true rfl, Nat.le_of_ble_eq_true rfl⟩ hK hH hS hA (hp.recv hK hH (i := 0) (by decide) rfl rfl) hl.1 ⟨Nat.zero_le _, Nat.zero_le _⟩ rfl rfl (Nat.le_of_ble_eq_true rfl) dX8_alike_45 (fun H locs hH hS => ?_)
        refine lv_istore (lv' := [(4, .int (nI ta)), (3, .int (nI (rsRows P j q q))), (0, .ref (ad 0)), (1, .int (nI j)), (2, .int (nI q))]) hx hb dX8_alike_48 hl (by decide) rfl (fun ls hl => ?_)
        refine lv_aload_n hx hb dX8_alike_50 rfl (lv_at hl 2 rfl) ?_
        refine lv_iload_n hx hb dX8_alike_51 rfl (lv_at hl 4 rfl) ?_
        refine cm_V (As' := [.int (nI q)]) (rest := []) hC (c_X8_in1 hq h1q) mv_X8_in qM_X8_56 ⟨⟨rfl, rfl⟩, Nat.le_of_ble_eq_true rfl, Nat.le_of_ble_eq_true rfl⟩ hK hH hS hA (hp.recv hK hH (i := 0) (by decide) rfl rfl) hl.1 ⟨Nat.zero_le _, Nat.zero_le _⟩ rfl rfl (Nat.le_of_ble_eq_true rfl) dX8_alike_52 (fun H locs hH hS => ?_)
        refine lv_istore (lv' := [(5, .int (nI tb)), (4, .int (nI ta)), (3, .int (nI (rsRows P j q q))), (0, .ref (ad 0)), (1, .int (nI j)), (2, .int (nI q))]) hx hb dX8_alike_55 hl (by decide) rfl (fun ls hl => ?_)
        refine lv_aload_n hx hb dX8_alike_57 rfl (lv_at hl 3 rfl) ?_
        refine g_get hC hK inG8 hH 0 (by decide) rfl rfl 2 (by decide) qF_X8_16 (Or.inl rfl) rfl dX8_alike_58 ?_
        refine lv_iload hx hb dX8_alike_61 (lv_at hl 1 rfl) ?_
        refine gN_iald hC hK hH 3 (by decide) rfl ta (by omega) dX8_alike_63 ?_
        refine lv_aload_n hx hb dX8_alike_64 rfl (lv_at hl 3 rfl) ?_
        refine g_get hC hK inG8 hH 0 (by decide) rfl rfl 2 (by decide) qF_X8_16 (Or.inl rfl) rfl dX8_alike_65 ?_
        refine lv_iload hx hb dX8_alike_68 (lv_at hl 0 rfl) ?_
        refine gN_iald hC hK hH 3 (by decide) rfl tb (by omega) dX8_alike_70 ?_
        refine lv_icmp_eq (tgt := 76) hx hb dX8_alike_71 (by decide) (fun c_71 => ?_) (fun c_71 => ?_)
        · have c_71 := nc_eq (a := (P.ln ta)) (b := (P.ln tb)) (by omega) (by omega) c_71
          refine lv_iconst (v := 0) hx hb dX8_alike_76 (by decide) ?_
          refine lv_istore (lv' := [(6, .int (0)), (5, .int (nI tb)), (4, .int (nI ta)), (3, .int (nI (rsRows P j q q))), (0, .ref (ad 0)), (1, .int (nI j)), (2, .int (nI q))]) hx hb dX8_alike_77 hl (by decide) rfl (fun ls hl => ?_)
          have lp : ∀ (n9 k : Nat), k ≤ (P.ln ta) → (P.ln ta) < k + n9 → ∀ (so : Int32) (w : Int64) (r : UInt64) (hz : alkA P ta tb k = true) (H : Heap) (locs : List Loc), hp D A 13 ad (mct cy ad P 0 so w r ns nw nr fr tt) H → va_S A s.heap H locs → ∀ (ls : Array Slot), lv_has ls 7 [(6, .int (nI k)), (5, .int (nI tb)), (4, .int (nI ta)), (3, .int (nI (rsRows P j q q))), (0, .ref (ad 0)), (1, .int (nI j)), (2, .int (nI q))] → W p_ l e_ (rm_ 3 77) s m_ args_ below meth cd H locs 0 0 Q (F0 m_ 79 ls []) := by
            intro n9
            induction n9 with
            | zero => intro k h1 h2; omega
            | succ n9 ih_lp =>
              intro k hk1 hk2 so w r hz H locs hH hS ls hl
              refine lv_iload hx hb dX8_alike_79 (lv_at hl 0 rfl) ?_
              refine lv_aload_n hx hb dX8_alike_81 rfl (lv_at hl 4 rfl) ?_
              refine g_get hC hK inG8 hH 0 (by decide) rfl rfl 2 (by decide) qF_X8_16 (Or.inl rfl) rfl dX8_alike_82 ?_
              refine lv_iload hx hb dX8_alike_85 (lv_at hl 2 rfl) ?_
              refine gN_iald hC hK hH 3 (by decide) rfl ta (by omega) dX8_alike_87 ?_
              refine lv_icmp_ge (tgt := 112) hx hb dX8_alike_88 (by decide) (fun c_88 => ?_) (fun c_88 => ?_)
              · have c_88 := nc_le (a := (P.ln ta)) (b := k) (by omega) (by omega) c_88
                refine lv_iconst (v := 1) hx hb dX8_alike_112 (by decide) ?_
                subst hQ
                exact cx_ri hC hr hlk (mpost.mk (by simp only [sp_alike, isC_nI hj, isC_nI hq, cN_c hj, cN_c hq, and_self, if_true, c_34, h1j, h1q]; show (if P.ln ta = P.ln tb then (b2i (alkA P ta tb (P.ln ta)), P, (0 : Int32)) else _) = _; rw [if_pos c_71, show alkA P ta tb (P.ln ta) = true by rw [show P.ln ta = k by omega]; exact hz]; rfl)) hH hS dX8_alike_113
              · have c_88 := nc_nle (a := (P.ln ta)) (b := k) (by omega) (by omega) c_88
                refine lv_aload_n hx hb dX8_alike_91 rfl (lv_at hl 4 rfl) ?_
                refine lv_iload hx hb dX8_alike_92 (lv_at hl 2 rfl) ?_
                refine lv_iload hx hb dX8_alike_94 (lv_at hl 1 rfl) ?_
                refine lv_iload hx hb dX8_alike_96 (lv_at hl 0 rfl) ?_
                refine cx_V (As' := [.int (nI ta), .int (nI tb), .int (nI k)]) (rest := []) hC (c_X8_areAlike (t := ta) (u := tb) (i := k) (by omega) (by omega) (by omega) hw (by omega) (by omega)) mv_X8_areAlike qM_X8_192 ⟨⟨rfl, rfl⟩, Nat.le_of_ble_eq_true rfl, Nat.le_of_ble_eq_true rfl⟩ hK hH hS hA (hp.recv hK hH (i := 0) (by decide) rfl rfl) hl.1 ⟨Nat.zero_le _, Nat.zero_le _⟩ rfl rfl (Nat.le_of_ble_eq_true rfl) dX8_alike_98 (fun v9 c9 H locs hpo hH hS hfr9 => ?_)
                obtain ⟨e9, so, w, r, rfl⟩ := hpo
                subst e9
                refine lv_if_ne (tgt := 106) hx hb dX8_alike_101 (by decide) (fun c_101 => ?_) (fun c_101 => ?_)
                · have c_101 := b2i_t c_101
                  refine lv_iinc (v := nI (k + 1)) (lv' := [(6, .int (nI (k + 1))), (5, .int (nI tb)), (4, .int (nI ta)), (3, .int (nI (rsRows P j q q))), (0, .ref (ad 0)), (1, .int (nI j)), (2, .int (nI q))]) hx hb dX8_alike_106 hl (k := 0) rfl (nI_1 _) (by decide) rfl (fun ls hl => ?_)
                  refine lv_goto (tgt := 79) hx hb dX8_alike_109 (by decide) ?_
                  exact ih_lp (k + 1) (by omega) (by omega) _ _ _ (by show (_ && _) = true; rw [hz, c_101]; rfl) _ _ hH hS ls (lv_sub hl [0, 1, 2, 3, 4, 5, 6] rfl)
                · have c_101 := b2i_f c_101
                  refine lv_iconst (v := 0) hx hb dX8_alike_104 (by decide) ?_
                  subst hQ
                  exact cx_ri hC hr hlk (mpost.mk (by simp only [sp_alike, isC_nI hj, isC_nI hq, cN_c hj, cN_c hq, and_self, if_true, c_34, h1j, h1q]; show (if P.ln ta = P.ln tb then (b2i (alkA P ta tb (P.ln ta)), P, (0 : Int32)) else _) = _; rw [if_pos c_71, alkA_no (n := P.ln ta) c_101 (by omega)]; rfl)) hH hS dX8_alike_105
          exact lp ((P.ln ta) + 1) 0 (by omega) (by omega) _ _ _ (rfl) _ _ hH hS ls (lv_sub hl [0, 1, 2, 3, 4, 5, 6] rfl)
        · have c_71 := nc_ne (a := (P.ln ta)) (b := (P.ln tb)) (by omega) (by omega) c_71
          refine lv_iconst (v := 0) hx hb dX8_alike_74 (by decide) ?_
          subst hQ
          exact cx_ri hC hr hlk (mpost.mk (by simp [sp_alike, rf, c_9, cN_c hj, c_16, cN_c hq, c_34, h1j, h1q, c_71] <;> rfl)) hH hS dX8_alike_75
      · have c_34 : ¬ (rsRows P j q q) = 0 := by have h9 := nc_nle (a := (rsRows P j q q)) (b := 0) (by omega) (by omega) c_34; omega
        refine lv_aload_n hx hb dX8_alike_37 rfl (lv_at hl 1 rfl) ?_
        refine lv_iload_n hx hb dX8_alike_38 rfl (lv_at hl 0 rfl) ?_
        refine cm_V (As' := [.int (nI (rsRows P j q q))]) (rest := []) hC (c_X8_refuse) mv_X8_refuse qM_X8_105 ⟨⟨rfl, rfl⟩, Nat.le_of_ble_eq_true rfl, Nat.le_of_ble_eq_true rfl⟩ hK hH hS hA (hp.recv hK hH (i := 0) (by decide) rfl rfl) hl.1 ⟨Nat.zero_le _, Nat.zero_le _⟩ rfl rfl (Nat.le_of_ble_eq_true rfl) dX8_alike_39 (fun H locs hH hS => ?_)
        subst hQ
        exact cx_ri hC hr hlk (mpost.mk (by simp [sp_alike, rf, c_9, cN_c hj, c_16, cN_c hq, c_34] <;> rfl)) hH hS dX8_alike_42
    · have c_16 := b2i_f c_16
      refine lv_aload_n hx hb dX8_alike_19 rfl (lv_at hl 0 rfl) ?_
      refine lv_iconst (v := 1) hx hb dX8_alike_20 (by decide) ?_
      refine cm_V (As' := [.int (1)]) (rest := []) hC (c_X8_refuse) mv_X8_refuse qM_X8_105 ⟨⟨rfl, rfl⟩, Nat.le_of_ble_eq_true rfl, Nat.le_of_ble_eq_true rfl⟩ hK hH hS hA (hp.recv hK hH (i := 0) (by decide) rfl rfl) hl.1 ⟨Nat.zero_le _, Nat.zero_le _⟩ rfl rfl (Nat.le_of_ble_eq_true rfl) dX8_alike_21 (fun H locs hH hS => ?_)
      subst hQ
      exact cx_ri hC hr hlk (mpost.mk (by simp [sp_alike, rf, c_9, cN_c hj, c_16] <;> rfl)) hH hS dX8_alike_24
theorem mv_X8_sort : mvok RX8 yX8_sort cX8_sort 6 (some .int) 1 := ⟨qK_X8_sort, qI_X8_sort, qSel_X8_X8_sort, qInit_X8, by decide +kernel⟩
set_option maxHeartbeats 4000000 in
set_option maxRecDepth 100000 in
theorem c_X8_sort {l : Launch} {D : va_G} {cy : Nat → ClassId} {ad : Nat → Nat} {P : AS} {wy : Int32} {so : Int32} {w : Int64} {r : UInt64} {ns : Nat → Int32} {nw : Nat → Int64} {nr : Nat → UInt64} {fr : Nat → Int32} {tt : Nat → Int32} {c : Int32} (hw : WF P) (hgd : ∀ a b, gd (P.re a b)) : CX l yX8_sort cX8_sort 6 (some .int) (rm_ 3 77) D cy 13 ad [.ref (ad 0), .int (c)] (mct cy ad P wy so w r ns nw nr fr tt) (mpost cy ad (sp_sort P c)) := by
  refine CX.startQ (by decide) (Nat.le_of_ble_eq_true rfl) ?_
  intro p_ e_ s m_ args_ below meth cd A ls Q hQ hC hr hlk hK hA hH hl
  obtain ⟨hx, hb, hml, hown, hts⟩ := id hC
  have hS : va_S A s.heap s.heap [] := va_S.rf
  have hl : lv_has ls 6 [(0, .ref (ad 0)), (1, .int (c))] := hl
  refine lv_aload_n hx hb dX8_sort_0 rfl (lv_at hl 0 rfl) ?_
  refine lv_iconst (v := 0) hx hb dX8_sort_1 (by decide) ?_
  refine g_put (ct' := mct cy ad P 0 so w r ns nw nr fr tt) hC hK inG8 tyX8 tyX8_ok nmX8 hH hS 0 (by decide) rfl rfl 8 (by decide) qF_X8_48 rfl rfl rfl rfl (Nat.le_of_ble_eq_true rfl) rfl mct_0 dX8_sort_2 (fun H locs hH hS => ?_)
  refine lv_iload_n hx hb dX8_sort_5 rfl (lv_at hl 1 rfl) ?_
  refine cm_S (As := [.int (c)]) (rest := []) hC (c_X8_isColumn) ms_X8_isColumn qM_X8_102 ⟨⟨rfl, rfl⟩, Nat.le_of_ble_eq_true rfl, Nat.le_of_ble_eq_true rfl⟩ hK hH hS hA hl.1 ⟨Nat.zero_le _, Nat.zero_le _⟩ rfl rfl (Nat.le_of_ble_eq_true rfl) dX8_sort_6 (fun H locs hH hS => ?_)
  refine lv_if_ne (tgt := 18) hx hb dX8_sort_9 (by decide) (fun c_9 => ?_) (fun c_9 => ?_)
  · have c_9 := b2i_t c_9
    obtain ⟨j, hj, rfl⟩ := isC_ex c_9
    refine lv_aload_n hx hb dX8_sort_18 rfl (lv_at hl 0 rfl) ?_
    refine lv_iload_n hx hb dX8_sort_19 rfl (lv_at hl 1 rfl) ?_
    refine cm_V (As' := [.int (nI j)]) (rest := []) hC (c_X8_reasonOfRow hj hw) mv_X8_reasonOfRow qM_X8_111 ⟨⟨rfl, rfl⟩, Nat.le_of_ble_eq_true rfl, Nat.le_of_ble_eq_true rfl⟩ hK hH hS hA (hp.recv hK hH (i := 0) (by decide) rfl rfl) hl.1 ⟨Nat.zero_le _, Nat.zero_le _⟩ rfl rfl (Nat.le_of_ble_eq_true rfl) dX8_sort_20 (fun H locs hH hS => ?_)
    refine lv_istore_n (lv' := [(2, .int (nI (rsRow P j))), (0, .ref (ad 0)), (1, .int (nI j))]) hx hb dX8_sort_23 rfl hl (by decide) rfl (fun ls hl => ?_)
    have hb1 := rsRow_le P j
    refine lv_iload_n hx hb dX8_sort_24 rfl (lv_at hl 0 rfl) ?_
    refine lv_if_le (tgt := 34) hx hb dX8_sort_25 (by decide) (fun c_25 => ?_) (fun c_25 => ?_)
    · have c_25 : (rsRow P j) = 0 := by have h9 := nc_le (a := (rsRow P j)) (b := 0) (by omega) (by omega) c_25; omega
      obtain ⟨t, h1j, hkt⟩ := rsRow_0 c_25
      have htt : t < 513 := by have := hw.2.2.2.1 j; have := hw.2.2.1; omega
      have hlt := hw.2.1 t
      refine lv_aload_n hx hb dX8_sort_34 rfl (lv_at hl 1 rfl) ?_
      refine lv_iload_n hx hb dX8_sort_35 rfl (lv_at hl 2 rfl) ?_
      refine cm_V (As' := [.int (nI j)]) (rest := []) hC (c_X8_in1 hj h1j) mv_X8_in qM_X8_56 ⟨⟨rfl, rfl⟩, Nat.le_of_ble_eq_true rfl, Nat.le_of_ble_eq_true rfl⟩ hK hH hS hA (hp.recv hK hH (i := 0) (by decide) rfl rfl) hl.1 ⟨Nat.zero_le _, Nat.zero_le _⟩ rfl rfl (Nat.le_of_ble_eq_true rfl) dX8_sort_36 (fun H locs hH hS => ?_)
      refine lv_istore_n (lv' := [(3, .int (nI t)), (2, .int (nI (rsRow P j))), (0, .ref (ad 0)), (1, .int (nI j))]) hx hb dX8_sort_39 rfl hl (by decide) rfl (fun ls hl => ?_)
      refine lv_aload_n hx hb dX8_sort_40 rfl (lv_at hl 2 rfl) ?_
      refine lv_iload_n hx hb dX8_sort_41 rfl (lv_at hl 0 rfl) ?_
      refine cm_V (As' := [.int (nI t)]) (rest := []) hC (c_X8_takeOut (t := t) (by omega) hw) mv_X8_takeOut qM_X8_180 ⟨⟨rfl, rfl⟩, Nat.le_of_ble_eq_true rfl, Nat.le_of_ble_eq_true rfl⟩ hK hH hS hA (hp.recv hK hH (i := 0) (by decide) rfl rfl) hl.1 ⟨Nat.zero_le _, Nat.zero_le _⟩ rfl rfl (Nat.le_of_ble_eq_true rfl) dX8_sort_42 (fun H locs hH hS => ?_)
      refine lv_iconst (v := 1) hx hb dX8_sort_45 (by decide) ?_
      refine lv_istore (lv' := [(4, .int (1)), (3, .int (nI t)), (2, .int (nI (rsRow P j))), (0, .ref (ad 0)), (1, .int (nI j))]) hx hb dX8_sort_46 hl (by decide) rfl (fun ls hl => ?_)
      have lpo : ∀ (n9 k : Nat), k ≤ (P.ln t - 1) → (P.ln t - 1) < k + n9 → ∀ (so : Int32) (w : Int64) (r : UInt64)  (H : Heap) (locs : List Loc), hp D A 13 ad (mct cy ad (bubO P t k) 0 so w r ns (ldL nw (P.wh t) (P.ln t)) (ldD nr (P.re t) (P.ln t)) fr tt) H → va_S A s.heap H locs → ∀ (ls : Array Slot), lv_has ls 6 [(4, .int (nI (k + 1))), (3, .int (nI t)), (2, .int (nI (rsRow P j))), (0, .ref (ad 0)), (1, .int (nI j))] → W p_ l e_ (rm_ 3 77) s m_ args_ below meth cd H locs 0 0 Q (F0 m_ 48 ls []) := by
        intro n9
        induction n9 with
        | zero => intro k h1 h2; omega
        | succ n9 ih_lpo =>
          intro k hk1 hk2 so w r  H locs hH hS ls hl
          refine lv_iload hx hb dX8_sort_48 (lv_at hl 0 rfl) ?_
          refine lv_aload_n hx hb dX8_sort_50 rfl (lv_at hl 3 rfl) ?_
          refine g_get hC hK inG8 hH 0 (by decide) rfl rfl 2 (by decide) qF_X8_16 (Or.inl rfl) rfl dX8_sort_51 ?_
          refine lv_iload_n hx hb dX8_sort_54 rfl (lv_at hl 1 rfl) ?_
          refine gN_iald hC hK hH 3 (by decide) rfl t (by omega) dX8_sort_55 ?_
          refine lv_chg (y := nI (P.ln t)) (by rw [(bubO_same P t k).2.2.1]) ?_
          refine lv_icmp_ge (tgt := 110) hx hb dX8_sort_56 (by decide) (fun c_56 => ?_) (fun c_56 => ?_)
          · have c_56 := nc_le (a := (P.ln t)) (b := (k + 1)) (by omega) (by omega) c_56
            refine lv_aload_n hx hb dX8_sort_110 rfl (lv_at hl 3 rfl) ?_
            refine lv_iload_n hx hb dX8_sort_111 rfl (lv_at hl 1 rfl) ?_
            refine cm_V (As' := [.int (nI t)]) (rest := []) hC (c_X8_others (t := t) (by omega) (WF_bubO hw t k) (fun i hi => ⟨gd_bubO hgd t k t i, by rw [ldD_at (by rw [(bubO_same P t k).2.2.1] at hi; exact hi)]; exact hgd t i⟩)) mv_X8_others qM_X8_189 ⟨⟨rfl, rfl⟩, Nat.le_of_ble_eq_true rfl, Nat.le_of_ble_eq_true rfl⟩ hK hH hS hA (hp.recv hK hH (i := 0) (by decide) rfl rfl) hl.1 ⟨Nat.zero_le _, Nat.zero_le _⟩ rfl rfl (Nat.le_of_ble_eq_true rfl) dX8_sort_112 (fun H locs hH hS => ?_)
            subst hQ
            exact cx_ri hC hr hlk (mpost.mk (by rw [(bubO_same P t k).2.2.1, othC_congr (nw' := P.wh t) (nr' := P.re t) (fun i hi => ⟨ldL_at hi, ldD_at hi⟩), show k = P.ln t - 1 by omega]; simp [sp_sort, rf, c_9, cN_c hj, c_25, h1j])) hH hS dX8_sort_115
          · have c_56 := nc_nle (a := (P.ln t)) (b := (k + 1)) (by omega) (by omega) c_56
            refine lv_iconst (v := 1) hx hb dX8_sort_59 (by decide) ?_
            refine lv_istore (lv' := [(5, .int (1)), (4, .int (nI (k + 1))), (3, .int (nI t)), (2, .int (nI (rsRow P j))), (0, .ref (ad 0)), (1, .int (nI j))]) hx hb dX8_sort_60 hl (by decide) rfl (fun ls hl => ?_)
            have lpi : ∀ (n9 q : Nat), q ≤ (P.ln t - 1) → (P.ln t - 1) < q + n9 → ∀ (so : Int32) (w : Int64) (r : UInt64)  (H : Heap) (locs : List Loc), hp D A 13 ad (mct cy ad (bubI (bubO P t k) t q) 0 so w r ns (ldL nw (P.wh t) (P.ln t)) (ldD nr (P.re t) (P.ln t)) fr tt) H → va_S A s.heap H locs → ∀ (ls : Array Slot), lv_has ls 6 [(5, .int (nI (q + 1))), (4, .int (nI (k + 1))), (3, .int (nI t)), (2, .int (nI (rsRow P j))), (0, .ref (ad 0)), (1, .int (nI j))] → W p_ l e_ (rm_ 3 77) s m_ args_ below meth cd H locs 0 0 Q (F0 m_ 62 ls []) := by
              intro n9
              induction n9 with
              | zero => intro q h1 h2; omega
              | succ n9 ih_lpi =>
                intro q hk1 hk2 so w r  H locs hH hS ls hl
                refine lv_iload hx hb dX8_sort_62 (lv_at hl 0 rfl) ?_
                refine lv_aload_n hx hb dX8_sort_64 rfl (lv_at hl 4 rfl) ?_
                refine g_get hC hK inG8 hH 0 (by decide) rfl rfl 2 (by decide) qF_X8_16 (Or.inl rfl) rfl dX8_sort_65 ?_
                refine lv_iload_n hx hb dX8_sort_68 rfl (lv_at hl 2 rfl) ?_
                refine gN_iald hC hK hH 3 (by decide) rfl t (by omega) dX8_sort_69 ?_
                refine lv_chg (y := nI (P.ln t)) (by rw [(bubI_same _ t q).2.2.1, (bubO_same P t k).2.2.1]) ?_
                refine lv_icmp_ge (tgt := 104) hx hb dX8_sort_70 (by decide) (fun c_70 => ?_) (fun c_70 => ?_)
                · have c_70 := nc_le (a := (P.ln t)) (b := (q + 1)) (by omega) (by omega) c_70
                  obtain rfl : q = P.ln t - 1 := by omega
                  refine lv_iinc (v := nI ((k + 1) + 1)) (lv' := [(4, .int (nI ((k + 1) + 1))), (5, .int (nI (((P.ln t - 1)) + 1))), (3, .int (nI t)), (2, .int (nI (rsRow P j))), (0, .ref (ad 0)), (1, .int (nI j))]) hx hb dX8_sort_104 hl (k := 1) rfl (nI_1 _) (by decide) rfl (fun ls hl => ?_)
                  refine lv_goto (tgt := 48) hx hb dX8_sort_107 (by decide) ?_
                  exact ih_lpo (k + 1) (by omega) (by omega) _ _ _  _ _ hH hS ls (lv_sub hl [0, 2, 3, 4, 5] rfl)
                · have c_70 := nc_nle (a := (P.ln t)) (b := (q + 1)) (by omega) (by omega) c_70
                  refine lv_aload_n hx hb dX8_sort_73 rfl (lv_at hl 4 rfl) ?_
                  refine lv_iload_n hx hb dX8_sort_74 rfl (lv_at hl 2 rfl) ?_
                  refine lv_iload hx hb dX8_sort_75 (lv_at hl 0 rfl) ?_
                  refine lv_iload hx hb dX8_sort_77 (lv_at hl 0 rfl) ?_
                  refine lv_iconst (v := 1) hx hb dX8_sort_79 (by decide) ?_
                  refine lv_isub hx hb dX8_sort_80 ?_
                  have hkq : (bubI (bubO P t k) t q).kd t < 12 := by rw [(bubI_same _ t q).2.1, (bubO_same P t k).2.1]; omega
                  refine lv_chg (y := nI q) (nI_pred q) ?_
                  refine cx_V (As' := [.int (nI t), .int (nI (q + 1)), .int (nI q)]) (rest := []) hC (c_X8_isBefore (t := t) (i := (q + 1)) (j := q) (by omega) (by omega) (by omega) (WF_bubI (WF_bubO hw t k) t q) (by omega)) mv_X8_isBefore qM_X8_183 ⟨⟨rfl, rfl⟩, Nat.le_of_ble_eq_true rfl, Nat.le_of_ble_eq_true rfl⟩ hK hH hS hA (hp.recv hK hH (i := 0) (by decide) rfl rfl) hl.1 ⟨Nat.zero_le _, Nat.zero_le _⟩ rfl rfl (Nat.le_of_ble_eq_true rfl) dX8_sort_81 (fun v9 c9 H locs hpo hH hS hfr9 => ?_)
                  obtain ⟨e9, so, w, r, rfl⟩ := hpo
                  subst e9
                  refine lv_if_eq (tgt := 98) hx hb dX8_sort_84 (by decide) (fun c_84 => ?_) (fun c_84 => ?_)
                  · have c_84 := b2i_f c_84
                    have eB : bubI (bubO P t k) t (q + 1) = bubI (bubO P t k) t q := if_neg (by rw [c_84]; decide)
                    rw [← eB] at hH
                    refine lv_iinc (v := nI ((q + 1) + 1)) (lv' := [(5, .int (nI ((q + 1) + 1))), (4, .int (nI (k + 1))), (3, .int (nI t)), (2, .int (nI (rsRow P j))), (0, .ref (ad 0)), (1, .int (nI j))]) hx hb dX8_sort_98 hl (k := 0) rfl (nI_1 _) (by decide) rfl (fun ls hl => ?_)
                    refine lv_goto (tgt := 62) hx hb dX8_sort_101 (by decide) ?_
                    exact ih_lpi (q + 1) (by omega) (by omega) _ _ _  _ _ hH hS ls (lv_sub hl [0, 1, 2, 3, 4, 5] rfl)
                  · have c_84 := b2i_t c_84
                    refine lv_aload_n hx hb dX8_sort_87 rfl (lv_at hl 4 rfl) ?_
                    refine lv_iload_n hx hb dX8_sort_88 rfl (lv_at hl 2 rfl) ?_
                    refine lv_iload hx hb dX8_sort_89 (lv_at hl 0 rfl) ?_
                    refine lv_iload hx hb dX8_sort_91 (lv_at hl 0 rfl) ?_
                    refine lv_iconst (v := 1) hx hb dX8_sort_93 (by decide) ?_
                    refine lv_isub hx hb dX8_sort_94 ?_
                    refine lv_chg (y := nI q) (nI_pred q) ?_
                    refine cm_V (As' := [.int (nI t), .int (nI (q + 1)), .int (nI q)]) (rest := []) hC (c_X8_swap (t := t) (i := (q + 1)) (j := q) (by omega) (by omega) (by omega) (by omega)) mv_X8_swap qM_X8_186 ⟨⟨rfl, rfl⟩, Nat.le_of_ble_eq_true rfl, Nat.le_of_ble_eq_true rfl⟩ hK hH hS hA (hp.recv hK hH (i := 0) (by decide) rfl rfl) hl.1 ⟨Nat.zero_le _, Nat.zero_le _⟩ rfl rfl (Nat.le_of_ble_eq_true rfl) dX8_sort_95 (fun H locs hH hS => ?_)
                    have eB : bubI (bubO P t k) t (q + 1) = swp (bubI (bubO P t k) t q) t (q + 1) q := if_pos c_84
                    rw [← eB] at hH
                    refine lv_iinc (v := nI ((q + 1) + 1)) (lv' := [(5, .int (nI ((q + 1) + 1))), (4, .int (nI (k + 1))), (3, .int (nI t)), (2, .int (nI (rsRow P j))), (0, .ref (ad 0)), (1, .int (nI j))]) hx hb dX8_sort_98 hl (k := 0) rfl (nI_1 _) (by decide) rfl (fun ls hl => ?_)
                    refine lv_goto (tgt := 62) hx hb dX8_sort_101 (by decide) ?_
                    exact ih_lpi (q + 1) (by omega) (by omega) _ _ _  _ _ hH hS ls (lv_sub hl [0, 1, 2, 3, 4, 5] rfl)
            exact lpi ((P.ln t - 1) + 1) 0 (by omega) (by omega) _ _ _  _ _ hH hS ls (lv_sub hl [0, 1, 2, 3, 4, 5] rfl)
      exact lpo ((P.ln t - 1) + 1) 0 (by omega) (by omega) _ _ _  _ _ hH hS ls (lv_sub hl [0, 1, 2, 3, 4] rfl)
    · have c_25 : ¬ (rsRow P j) = 0 := by have h9 := nc_nle (a := (rsRow P j)) (b := 0) (by omega) (by omega) c_25; omega
      refine lv_aload_n hx hb dX8_sort_28 rfl (lv_at hl 1 rfl) ?_
      refine lv_iload_n hx hb dX8_sort_29 rfl (lv_at hl 0 rfl) ?_
      refine cm_V (As' := [.int (nI (rsRow P j))]) (rest := []) hC (c_X8_refuse) mv_X8_refuse qM_X8_105 ⟨⟨rfl, rfl⟩, Nat.le_of_ble_eq_true rfl, Nat.le_of_ble_eq_true rfl⟩ hK hH hS hA (hp.recv hK hH (i := 0) (by decide) rfl rfl) hl.1 ⟨Nat.zero_le _, Nat.zero_le _⟩ rfl rfl (Nat.le_of_ble_eq_true rfl) dX8_sort_30 (fun H locs hH hS => ?_)
      subst hQ
      exact cx_ri hC hr hlk (mpost.mk (by simp [sp_sort, rf, c_9, cN_c hj, c_25] <;> rfl)) hH hS dX8_sort_33
  · have c_9 := b2i_f c_9
    refine lv_aload_n hx hb dX8_sort_12 rfl (lv_at hl 0 rfl) ?_
    refine lv_iconst (v := 1) hx hb dX8_sort_13 (by decide) ?_
    refine cm_V (As' := [.int (1)]) (rest := []) hC (c_X8_refuse) mv_X8_refuse qM_X8_105 ⟨⟨rfl, rfl⟩, Nat.le_of_ble_eq_true rfl, Nat.le_of_ble_eq_true rfl⟩ hK hH hS hA (hp.recv hK hH (i := 0) (by decide) rfl rfl) hl.1 ⟨Nat.zero_le _, Nat.zero_le _⟩ rfl rfl (Nat.le_of_ble_eq_true rfl) dX8_sort_14 (fun H locs hH hS => ?_)
    subst hQ
    exact cx_ri hC hr hlk (mpost.mk (by simp [sp_sort, rf, c_9] <;> rfl)) hH hS dX8_sort_17
