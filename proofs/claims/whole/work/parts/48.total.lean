theorem mv_X8_total : mvok RX8 yX8_total cX8_total 7 (some .double) 1 := ⟨qK_X8_total, qI_X8_total, qSel_X8_X8_total, qInit_X8, by decide +kernel⟩
set_option maxHeartbeats 4000000 in
set_option maxRecDepth 100000 in
theorem c_X8_total {l : Launch} {D : va_G} {cy : Nat → ClassId} {ad : Nat → Nat} {P : AS} {wy : Int32} {so : Int32} {w : Int64} {r : UInt64} {ns : Nat → Int32} {nw : Nat → Int64} {nr : Nat → UInt64} {fr : Nat → Int32} {tt : Nat → Int32} {c : Int32} (hw : WF P) (hg : ∀ a b, gd (P.re a b)) : CX l yX8_total cX8_total 7 (some .double) (rm_ 2 42) D cy 13 ad [.ref (ad 0), .int (c)] (mct cy ad P wy so w r ns nw nr fr tt) (mpostD cy ad (sp_total P c)) := by
  refine CX.startQ (by decide) (Nat.le_of_ble_eq_true rfl) ?_
  intro p_ e_ s m_ args_ below meth cd A ls Q hQ hC hr hlk hK hA hH hl
  obtain ⟨hx, hb, hml, hown, hts⟩ := id hC
  have hS : va_S A s.heap s.heap [] := va_S.rf
  have hl : lv_has ls 7 [(0, .ref (ad 0)), (1, .int (c))] := hl
  refine lv_aload_n hx hb dX8_total_0 rfl (lv_at hl 0 rfl) ?_
  refine lv_iconst (v := 0) hx hb dX8_total_1 (by decide) ?_
  refine g_put (ct' := mct cy ad P 0 so w r ns nw nr fr tt) hC hK inG8 tyX8 tyX8_ok nmX8 hH hS 0 (by decide) rfl rfl 8 (by decide) qF_X8_48 rfl rfl rfl rfl (Nat.le_of_ble_eq_true rfl) rfl mct_0 dX8_total_2 (fun H locs hH hS => ?_)
  refine lv_iload_n hx hb dX8_total_5 rfl (lv_at hl 1 rfl) ?_
  refine cm_S (As := [.int (c)]) (rest := []) hC (c_X8_isColumn) ms_X8_isColumn qM_X8_102 ⟨⟨rfl, rfl⟩, Nat.le_of_ble_eq_true rfl, Nat.le_of_ble_eq_true rfl⟩ hK hH hS hA hl.1 ⟨Nat.zero_le _, Nat.zero_le _⟩ rfl rfl (Nat.le_of_ble_eq_true rfl) dX8_total_6 (fun H locs hH hS => ?_)
  refine lv_if_ne (tgt := 19) hx hb dX8_total_9 (by decide) (fun c_9 => ?_) (fun c_9 => ?_)
  · have c_9 := b2i_t c_9
    obtain ⟨j, hj, rfl⟩ := isC_ex c_9
    refine lv_aload_n hx hb dX8_total_19 rfl (lv_at hl 0 rfl) ?_
    refine lv_iload_n hx hb dX8_total_20 rfl (lv_at hl 1 rfl) ?_
    refine cm_V (As' := [.int (nI j)]) (rest := []) hC (c_X8_reasonOfRow hj hw) mv_X8_reasonOfRow qM_X8_111 ⟨⟨rfl, rfl⟩, Nat.le_of_ble_eq_true rfl, Nat.le_of_ble_eq_true rfl⟩ hK hH hS hA (hp.recv hK hH (i := 0) (by decide) rfl rfl) hl.1 ⟨Nat.zero_le _, Nat.zero_le _⟩ rfl rfl (Nat.le_of_ble_eq_true rfl) dX8_total_21 (fun H locs hH hS => ?_)
    refine lv_istore_n (lv' := [(2, .int (nI (rsRow P j))), (0, .ref (ad 0)), (1, .int (nI j))]) hx hb dX8_total_24 rfl hl (by decide) rfl (fun ls hl => ?_)
    have hb1 := rsRow_le P j
    refine lv_iload_n hx hb dX8_total_25 rfl (lv_at hl 0 rfl) ?_
    refine lv_if_le (tgt := 36) hx hb dX8_total_26 (by decide) (fun c_26 => ?_) (fun c_26 => ?_)
    · have c_26 : (rsRow P j) = 0 := by have h9 := nc_le (a := (rsRow P j)) (b := 0) (by omega) (by omega) c_26; omega
      obtain ⟨t, h1j, hkt⟩ := rsRow_0 c_26
      have htt : t < 513 := by have := hw.2.2.2.1 j; have := hw.2.2.1; omega
      have hlt := hw.2.1 t
      refine lv_aload_n hx hb dX8_total_36 rfl (lv_at hl 1 rfl) ?_
      refine lv_iload_n hx hb dX8_total_37 rfl (lv_at hl 2 rfl) ?_
      refine cm_V (As' := [.int (nI j)]) (rest := []) hC (c_X8_in1 hj h1j) mv_X8_in qM_X8_56 ⟨⟨rfl, rfl⟩, Nat.le_of_ble_eq_true rfl, Nat.le_of_ble_eq_true rfl⟩ hK hH hS hA (hp.recv hK hH (i := 0) (by decide) rfl rfl) hl.1 ⟨Nat.zero_le _, Nat.zero_le _⟩ rfl rfl (Nat.le_of_ble_eq_true rfl) dX8_total_38 (fun H locs hH hS => ?_)
      refine lv_istore_n (lv' := [(3, .int (nI t)), (2, .int (nI (rsRow P j))), (0, .ref (ad 0)), (1, .int (nI j))]) hx hb dX8_total_41 rfl hl (by decide) rfl (fun ls hl => ?_)
      refine lv_aload_n hx hb dX8_total_42 rfl (lv_at hl 2 rfl) ?_
      refine g_get hC hK inG8 hH 0 (by decide) rfl rfl 1 (by decide) qF_X8_13 (Or.inl rfl) rfl dX8_total_43 ?_
      refine lv_iload_n hx hb dX8_total_46 rfl (lv_at hl 0 rfl) ?_
      refine gN_iald hC hK hH 2 (by decide) rfl t (by omega) dX8_total_47 ?_
      refine lv_iconst (v := 1) hx hb dX8_total_48 (by decide) ?_
      refine lv_bipush (v := 7) hx hb dX8_total_49 (by decide) ?_
      refine cm_S (As := [.int (nI (P.kd t)), .int (1), .int (7)]) (rest := []) hC (c_X8_isIn) ms_X8_isIn qM_X8_52 ⟨⟨rfl, rfl⟩, Nat.le_of_ble_eq_true rfl, Nat.le_of_ble_eq_true rfl⟩ hK hH hS hA hl.1 ⟨Nat.zero_le _, Nat.zero_le _⟩ rfl rfl (Nat.le_of_ble_eq_true rfl) dX8_total_51 (fun H locs hH hS => ?_)
      refine lv_if_ne (tgt := 65) hx hb dX8_total_54 (by decide) (fun c_54 => ?_) (fun c_54 => ?_)
      · have c_54 := b2i_t c_54
        have hk5 : 1 ≤ P.kd t ∧ P.kd t ≤ 7 := (inR_k (a := 1) (b := 7) (by omega) (by decide) (by decide)).mp c_54
        refine lv_dconst0 hx hb dX8_total_65 ?_
        refine lv_dstore (lv' := [(4, .double (FP.dconst0)), (3, .int (nI t)), (2, .int (nI (rsRow P j))), (0, .ref (ad 0)), (1, .int (nI j))]) hx hb dX8_total_66 hl (by decide) rfl (fun ls hl => ?_)
        refine lv_iconst (v := 0) hx hb dX8_total_68 (by decide) ?_
        refine lv_istore (lv' := [(6, .int (0)), (4, .double (FP.dconst0)), (3, .int (nI t)), (2, .int (nI (rsRow P j))), (0, .ref (ad 0)), (1, .int (nI j))]) hx hb dX8_total_69 hl (by decide) rfl (fun ls hl => ?_)
        have lp : ∀ (n9 k : Nat), k ≤ (P.ln t) → (P.ln t) < k + n9 → ∀   (H : Heap) (locs : List Loc), hp D A 13 ad (mct cy ad P 0 so w r ns nw nr fr tt) H → va_S A s.heap H locs → ∀ (ls : Array Slot), lv_has ls 7 [(6, .int (nI k)), (4, .double (suD P t k)), (3, .int (nI t)), (2, .int (nI (rsRow P j))), (0, .ref (ad 0)), (1, .int (nI j))] → W p_ l e_ (rm_ 2 42) s m_ args_ below meth cd H locs 0 0 Q (F0 m_ 71 ls []) := by
          intro n9
          induction n9 with
          | zero => intro k h1 h2; omega
          | succ n9 ih_lp =>
            intro k hk1 hk2   H locs hH hS ls hl
            refine lv_iload hx hb dX8_total_71 (lv_at hl 0 rfl) ?_
            refine lv_aload_n hx hb dX8_total_73 rfl (lv_at hl 4 rfl) ?_
            refine g_get hC hK inG8 hH 0 (by decide) rfl rfl 2 (by decide) qF_X8_16 (Or.inl rfl) rfl dX8_total_74 ?_
            refine lv_iload_n hx hb dX8_total_77 rfl (lv_at hl 2 rfl) ?_
            refine gN_iald hC hK hH 3 (by decide) rfl t (by omega) dX8_total_78 ?_
            refine lv_icmp_ge (tgt := 126) hx hb dX8_total_79 (by decide) (fun c_79 => ?_) (fun c_79 => ?_)
            · have c_79 := nc_le (a := (P.ln t)) (b := k) (by omega) (by omega) c_79
              refine lv_dload hx hb dX8_total_126 (lv_at hl 1 rfl) ?_
              subst hQ
              exact cx_rd hC hr hlk (mpostD.mk (by rw [show k = P.ln t by omega]; simp [sp_total, i2d_0, c_9, cN_c hj, c_26, h1j, hk5])) hH hS dX8_total_128
            · have c_79 := nc_nle (a := (P.ln t)) (b := k) (by omega) (by omega) c_79
              refine lv_dload hx hb dX8_total_82 (lv_at hl 1 rfl) ?_
              refine lv_aload_n hx hb dX8_total_84 rfl (lv_at hl 4 rfl) ?_
              refine g_get hC hK inG8 hH 0 (by decide) rfl rfl 1 (by decide) qF_X8_13 (Or.inl rfl) rfl dX8_total_85 ?_
              refine lv_iload_n hx hb dX8_total_88 rfl (lv_at hl 2 rfl) ?_
              refine gN_iald hC hK hH 2 (by decide) rfl t (by omega) dX8_total_89 ?_
              refine lv_aload_n hx hb dX8_total_90 rfl (lv_at hl 4 rfl) ?_
              refine g_get hC hK inG8 hH 0 (by decide) rfl rfl 4 (by decide) qF_X8_22 (Or.inl rfl) rfl dX8_total_91 ?_
              refine lv_bipush (v := 24) hx hb dX8_total_94 (by decide) ?_
              refine lv_iload_n hx hb dX8_total_96 rfl (lv_at hl 2 rfl) ?_
              refine lv_imul hx hb dX8_total_97 ?_
              refine lv_iload hx hb dX8_total_98 (lv_at hl 0 rfl) ?_
              refine lv_iadd hx hb dX8_total_100 ?_
              refine mr_wh hC hK hH t k (by omega) dX8_total_101 ?_
              refine lv_aload_n hx hb dX8_total_102 rfl (lv_at hl 4 rfl) ?_
              refine g_get hC hK inG8 hH 0 (by decide) rfl rfl 5 (by decide) qF_X8_26 (Or.inl rfl) rfl dX8_total_103 ?_
              refine lv_bipush (v := 24) hx hb dX8_total_106 (by decide) ?_
              refine lv_iload_n hx hb dX8_total_108 rfl (lv_at hl 2 rfl) ?_
              refine lv_imul hx hb dX8_total_109 ?_
              refine lv_iload hx hb dX8_total_110 (lv_at hl 0 rfl) ?_
              refine lv_iadd hx hb dX8_total_112 ?_
              refine mr_re hC hK hH t k (by omega) dX8_total_113 ?_
              refine cm_S (As := [.int (nI (P.kd t)), .long (P.wh t k), .double (P.re t k)]) (rest := [.double (suD P t k)]) hC (c_X8_doubleOf (by omega)) ms_X8_doubleOf qM_X8_83 ⟨⟨rfl, rfl⟩, Nat.le_of_ble_eq_true rfl, Nat.le_of_ble_eq_true rfl⟩ hK hH hS hA hl.1 ⟨Nat.zero_le _, Nat.zero_le _⟩ rfl rfl (Nat.le_of_ble_eq_true rfl) dX8_total_114 (fun H locs hH hS => ?_)
              refine lv_dadd hx hb dX8_total_117 (suD_n hg t (k + 1)) ?_
              refine lv_chgd (y := suD P t (k + 1)) (rfl) ?_
              refine lv_dstore (lv' := [(4, .double (suD P t (k + 1))), (6, .int (nI k)), (3, .int (nI t)), (2, .int (nI (rsRow P j))), (0, .ref (ad 0)), (1, .int (nI j))]) hx hb dX8_total_118 hl (by decide) rfl (fun ls hl => ?_)
              refine lv_iinc (v := nI (k + 1)) (lv' := [(6, .int (nI (k + 1))), (4, .double (suD P t (k + 1))), (3, .int (nI t)), (2, .int (nI (rsRow P j))), (0, .ref (ad 0)), (1, .int (nI j))]) hx hb dX8_total_120 hl (k := 1) rfl (nI_1 _) (by decide) rfl (fun ls hl => ?_)
              refine lv_goto (tgt := 71) hx hb dX8_total_123 (by decide) ?_
              exact ih_lp (k + 1) (by omega) (by omega)   _ _ hH hS ls (lv_sub hl [0, 1, 2, 3, 4, 5] rfl)
        exact lp ((P.ln t) + 1) 0 (by omega) (by omega)   _ _ hH hS ls (lv_sub hl [0, 1, 2, 3, 4, 5] rfl)
      · have c_54 := b2i_f c_54
        have hk5 : ¬ (1 ≤ P.kd t ∧ P.kd t ≤ 7) := inR_kf (a := 1) (b := 7) (by omega) (by decide) (by decide) c_54
        refine lv_aload_n hx hb dX8_total_57 rfl (lv_at hl 2 rfl) ?_
        refine lv_bipush (v := 6) hx hb dX8_total_58 (by decide) ?_
        refine cm_V (As' := [.int (6)]) (rest := []) hC (c_X8_refuse) mv_X8_refuse qM_X8_105 ⟨⟨rfl, rfl⟩, Nat.le_of_ble_eq_true rfl, Nat.le_of_ble_eq_true rfl⟩ hK hH hS hA (hp.recv hK hH (i := 0) (by decide) rfl rfl) hl.1 ⟨Nat.zero_le _, Nat.zero_le _⟩ rfl rfl (Nat.le_of_ble_eq_true rfl) dX8_total_60 (fun H locs hH hS => ?_)
        refine lv_i2d hx hb dX8_total_63 ?_
        subst hQ
        exact cx_rd hC hr hlk (mpostD.mk (by simp [sp_total, i2d_0, c_9, cN_c hj, c_26, h1j, hk5] <;> rfl)) hH hS dX8_total_64
    · have c_26 : ¬ (rsRow P j) = 0 := by have h9 := nc_nle (a := (rsRow P j)) (b := 0) (by omega) (by omega) c_26; omega
      refine lv_aload_n hx hb dX8_total_29 rfl (lv_at hl 1 rfl) ?_
      refine lv_iload_n hx hb dX8_total_30 rfl (lv_at hl 0 rfl) ?_
      refine cm_V (As' := [.int (nI (rsRow P j))]) (rest := []) hC (c_X8_refuse) mv_X8_refuse qM_X8_105 ⟨⟨rfl, rfl⟩, Nat.le_of_ble_eq_true rfl, Nat.le_of_ble_eq_true rfl⟩ hK hH hS hA (hp.recv hK hH (i := 0) (by decide) rfl rfl) hl.1 ⟨Nat.zero_le _, Nat.zero_le _⟩ rfl rfl (Nat.le_of_ble_eq_true rfl) dX8_total_31 (fun H locs hH hS => ?_)
      refine lv_i2d hx hb dX8_total_34 ?_
      subst hQ
      exact cx_rd hC hr hlk (mpostD.mk (by simp [sp_total, i2d_0, c_9, cN_c hj, c_26] <;> rfl)) hH hS dX8_total_35
  · have c_9 := b2i_f c_9
    refine lv_aload_n hx hb dX8_total_12 rfl (lv_at hl 0 rfl) ?_
    refine lv_iconst (v := 1) hx hb dX8_total_13 (by decide) ?_
    refine cm_V (As' := [.int (1)]) (rest := []) hC (c_X8_refuse) mv_X8_refuse qM_X8_105 ⟨⟨rfl, rfl⟩, Nat.le_of_ble_eq_true rfl, Nat.le_of_ble_eq_true rfl⟩ hK hH hS hA (hp.recv hK hH (i := 0) (by decide) rfl rfl) hl.1 ⟨Nat.zero_le _, Nat.zero_le _⟩ rfl rfl (Nat.le_of_ble_eq_true rfl) dX8_total_14 (fun H locs hH hS => ?_)
    refine lv_i2d hx hb dX8_total_17 ?_
    subst hQ
    exact cx_rd hC hr hlk (mpostD.mk (by simp [sp_total, i2d_0, c_9] <;> rfl)) hH hS dX8_total_18
theorem mv_X7_total : mvok RX7 yX7_total cX7_total 6 (some .double) 1 := ⟨qK_X7_total, qI_X7_total, qSel_X7_X7_total, qInit_X7, by decide +kernel⟩
set_option maxHeartbeats 4000000 in
set_option maxRecDepth 100000 in
theorem c_X7_total {l : Launch} {D : va_G} {cy : Nat → ClassId} {ad : Nat → Nat} {P : AS} {wy : Int32} {cl : Nat → CE} {st : Nat → Nat} {tg : Nat → Int32} {c : Int32} (hw : WF P) (hz : WZ P) (hI : HI P cl st) (hg : ∀ a b, gd (P.re a b)) : CX l yX7_total cX7_total 6 (some .double) (rm_ 2 45) D cy (30 + 2 * P.n) ad [.ref (ad 0), .int (c)] (hct cy ad P wy cl st tg) (hpostD cy ad (sp_total P c)) := by
  refine CX.startQ (by decide) (Nat.le_of_ble_eq_true rfl) ?_
  intro p_ e_ s m_ args_ below meth cd A ls Q hQ hC hr hlk hK hA hH hl
  obtain ⟨hx, hb, hml, hown, hts⟩ := id hC
  have hS : va_S A s.heap s.heap [] := va_S.rf
  have hl : lv_has ls 6 [(0, .ref (ad 0)), (1, .int (c))] := hl
  refine lv_aload_n hx hb dX7_total_0 rfl (lv_at hl 0 rfl) ?_
  refine lv_iload_n hx hb dX7_total_1 rfl (lv_at hl 1 rfl) ?_
  refine cm_V (As' := [.int (c)]) (rest := []) hC (c_X7_rowIn hw) mv_X7_rowIn qM_X7_61 ⟨⟨rfl, rfl⟩, Nat.le_of_ble_eq_true rfl, Nat.le_of_ble_eq_true rfl⟩ hK hH hS hA (hp.recv hK hH (i := 0) (by omega) rfl rfl) hl.1 ⟨Nat.zero_le _, Nat.zero_le _⟩ rfl rfl (Nat.le_of_ble_eq_true rfl) dX7_total_2 (fun H locs hH hS => ?_)
  rcases rw_cases P ad c with ⟨hna, hra⟩ | ⟨j, t, hja, rfl, h1a, hka, hra, hna⟩
  · refine W.eq (g2 := F0 m_ 5 ls (.null :: [])) (by rw [hna]; rfl) ?_
    refine lv_astore_nN (lv' := [(2, .null), (0, .ref (ad 0)), (1, .int (c))]) hx hb dX7_total_5 rfl hl (by decide) rfl (fun ls hl => ?_)
    refine lv_aload_nN hx hb dX7_total_6 rfl (lv_at hl 0 rfl) ?_
    refine lv_ifnonnullN hx hb dX7_total_7 ?_
    refine lv_aload_n hx hb dX7_total_10 rfl (lv_at hl 1 rfl) ?_
    refine lv_aload_n hx hb dX7_total_11 rfl (lv_at hl 1 rfl) ?_
    refine lv_iload_n hx hb dX7_total_12 rfl (lv_at hl 2 rfl) ?_
    refine cm_V (As' := [.int (c)]) (rest := [.ref (ad 0)]) hC (c_X7_rowAmiss hw) mv_X7_rowAmiss qM_X7_65 ⟨⟨rfl, rfl⟩, Nat.le_of_ble_eq_true rfl, Nat.le_of_ble_eq_true rfl⟩ hK hH hS hA (hp.recv hK hH (i := 0) (by omega) rfl rfl) hl.1 ⟨Nat.zero_le _, Nat.zero_le _⟩ rfl rfl (Nat.le_of_ble_eq_true rfl) dX7_total_13 (fun H locs hH hS => ?_)
    refine cm_V (As' := [.int (nI (rsA P c))]) (rest := []) hC (c_X7_refuse) mv_X7_refuse qM_X7_41 ⟨⟨rfl, rfl⟩, Nat.le_of_ble_eq_true rfl, Nat.le_of_ble_eq_true rfl⟩ hK hH hS hA (hp.recv hK hH (i := 0) (by omega) rfl rfl) hl.1 ⟨Nat.zero_le _, Nat.zero_le _⟩ rfl rfl (Nat.le_of_ble_eq_true rfl) dX7_total_16 (fun H locs hH hS => ?_)
    refine lv_i2d hx hb dX7_total_19 ?_
    subst hQ
    exact cx_rd hC hr hlk (hpostD.mk (by rcases rs_n (P := P) (c := c) with ⟨a1, a2⟩ | ⟨a1, a2⟩ <;> simp [sp_total, i2d_0, rf, rsPl, rsVal, a1, a2, hra] <;> rfl) (by repeat' (first | exact hI | refine HI_up ?_ ?_ | refine cOK_rd hw ?_ (by omega) | refine cOK_td ?_ (by omega) | exact cOK_th (by omega) | refine HI_sm hw ?_ (by omega) (by omega) | refine HI_c (st := st) ?_ (by omega)))) hH hS dX7_total_20
  · have hqa : rsRow P j = 0 := by rw [← rsA_j hja]; exact hra
    have hta : t < P.n := by have := hw.2.2.2.1 j; omega
    have hlna := hw.2.1 t
    refine W.eq (g2 := F0 m_ 5 ls (.ref (ad (30 + 2 * t)) :: [])) (by rw [hna]; rfl) ?_
    refine lv_astore_n (lv' := [(2, .ref (ad (30 + 2 * t))), (0, .ref (ad 0)), (1, .int (nI j))]) hx hb dX7_total_5 rfl hl (by decide) rfl (fun ls hl => ?_)
    refine lv_aload_n hx hb dX7_total_6 rfl (lv_at hl 0 rfl) ?_
    refine lv_ifnonnull (tgt := 21) hx hb dX7_total_7 (by decide) ?_
    refine lv_aload_n hx hb dX7_total_21 rfl (lv_at hl 0 rfl) ?_
    refine cm_R (As := []) (rest := []) (i := 30 + 2 * t) hC (rc_isPlain (t := t) hw (by omega) (by omega)) qM_X7_132 ⟨Nat.le_of_ble_eq_true rfl, Nat.le_of_ble_eq_true rfl⟩ hK hH hS hA hl.1 ⟨Nat.zero_le _, Nat.zero_le _⟩ rfl rfl (Nat.le_of_ble_eq_true rfl) dX7_total_22 (fun H locs hH hS => ?_)
    refine lv_if_eq (tgt := 35) hx hb dX7_total_25 (by decide) (fun c_25 => ?_) (fun c_25 => ?_)
    · have c_25 := b2d_f c_25
      refine lv_aload_n hx hb dX7_total_35 rfl (lv_at hl 1 rfl) ?_
      refine lv_bipush (v := 6) hx hb dX7_total_36 (by decide) ?_
      refine cm_V (As' := [.int (6)]) (rest := []) hC (c_X7_refuse) mv_X7_refuse qM_X7_41 ⟨⟨rfl, rfl⟩, Nat.le_of_ble_eq_true rfl, Nat.le_of_ble_eq_true rfl⟩ hK hH hS hA (hp.recv hK hH (i := 0) (by omega) rfl rfl) hl.1 ⟨Nat.zero_le _, Nat.zero_le _⟩ rfl rfl (Nat.le_of_ble_eq_true rfl) dX7_total_38 (fun H locs hH hS => ?_)
      refine lv_i2d hx hb dX7_total_41 ?_
      subst hQ
      exact cx_rd hC hr hlk (hpostD.mk (by have h9 : ¬ (1 ≤ P.kd t ∧ P.kd t ≤ 7) := (by omega); simp [sp_total, i2d_0, h9, isC_nI hja, cN_c hja, hqa, h1a] <;> rfl) (by repeat' (first | exact hI | refine HI_up ?_ ?_ | refine cOK_rd hw ?_ (by omega) | refine cOK_td ?_ (by omega) | exact cOK_th (by omega) | refine HI_sm hw ?_ (by omega) (by omega) | refine HI_c (st := st) ?_ (by omega)))) hH hS dX7_total_42
    · have c_25 := b2d_t c_25
      refine lv_aload_n hx hb dX7_total_28 rfl (lv_at hl 0 rfl) ?_
      refine hr_kd hC hK hw hH t (by omega) qF_X7_155 (Or.inr qSF_X3) dX7_total_29 ?_
      refine lv_if_ne (tgt := 43) hx hb dX7_total_32 (by decide) (fun c_32 => ?_) (fun c_32 => ?_)
      · have c_32 := nc_ne (a := (P.kd t)) (b := 0) (by omega) (by omega) c_32
        refine lv_dconst0 hx hb dX7_total_43 ?_
        refine lv_dstore_n (lv' := [(3, .double (FP.dconst0)), (2, .ref (ad (30 + 2 * t))), (0, .ref (ad 0)), (1, .int (nI j))]) hx hb dX7_total_44 rfl hl (by decide) rfl (fun ls hl => ?_)
        refine lv_iconst (v := 0) hx hb dX7_total_45 (by decide) ?_
        refine lv_istore (lv' := [(5, .int (0)), (3, .double (FP.dconst0)), (2, .ref (ad (30 + 2 * t))), (0, .ref (ad 0)), (1, .int (nI j))]) hx hb dX7_total_46 hl (by decide) rfl (fun ls hl => ?_)
        have lp : ∀ (n9 k : Nat), k ≤ (P.ln t) → (P.ln t) < k + n9 → ∀ (cl : Nat → CE) (hI : HI P cl st) (H : Heap) (locs : List Loc), hp D A (30 + 2 * P.n) ad (hct cy ad P wy cl st tg) H → va_S A s.heap H locs → ∀ (ls : Array Slot), lv_has ls 6 [(5, .int (nI k)), (3, .double (suD P t k)), (0, .ref (ad 0)), (1, .int (nI j)), (2, .ref (ad (30 + 2 * t)))] → W p_ l e_ (rm_ 2 45) s m_ args_ below meth cd H locs 0 0 Q (F0 m_ 48 ls []) := by
          intro n9
          induction n9 with
          | zero => intro k h1 h2; omega
          | succ n9 ih_lp =>
            intro k hk1 hk2 cl hI H locs hH hS ls hl
            refine lv_iload hx hb dX7_total_48 (lv_at hl 0 rfl) ?_
            refine lv_aload_n hx hb dX7_total_50 rfl (lv_at hl 4 rfl) ?_
            refine cm_R (As := []) (rest := [.int (nI k)]) (i := 30 + 2 * t) hC (rc_length (t := t) hw (by omega) (by omega)) qM_X7_68 ⟨Nat.le_of_ble_eq_true rfl, Nat.le_of_ble_eq_true rfl⟩ hK hH hS hA hl.1 ⟨Nat.zero_le _, Nat.zero_le _⟩ rfl rfl (Nat.le_of_ble_eq_true rfl) dX7_total_51 (fun H locs hH hS => ?_)
            refine lv_icmp_ge (tgt := 85) hx hb dX7_total_54 (by decide) (fun c_54 => ?_) (fun c_54 => ?_)
            · have c_54 := nc_le (a := (P.ln t)) (b := k) (by omega) (by omega) c_54
              refine lv_aload_n hx hb dX7_total_85 rfl (lv_at hl 2 rfl) ?_
              refine lv_iconst (v := 0) hx hb dX7_total_86 (by decide) ?_
              refine g_put (ct' := hct cy ad P 0 cl st tg) hC hK inG7 tyX7 tyX7_ok nmX7 hH hS 0 (by omega) rfl (ci := 5) rfl 5 (by decide) qF_X7_33 rfl rfl rfl rfl (Nat.le_of_ble_eq_true rfl) rfl hct_wy dX7_total_87 (fun H locs hH hS => ?_)
              refine lv_dload_n hx hb dX7_total_90 rfl (lv_at hl 1 rfl) ?_
              subst hQ
              exact cx_rd hC hr hlk (hpostD.mk (by have h9 : 1 ≤ P.kd t ∧ P.kd t ≤ 7 := (by omega); rw [show suD P t k = suD P t (P.ln t) by rw [show P.ln t = k by omega]]; simp [sp_total, h9, isC_nI hja, cN_c hja, hqa, h1a] <;> rfl) (by repeat' (first | exact hI | refine HI_up ?_ ?_ | refine cOK_rd hw ?_ (by omega) | refine cOK_td ?_ (by omega) | exact cOK_th (by omega) | refine HI_sm hw ?_ (by omega) (by omega) | refine HI_c (st := st) ?_ (by omega)))) hH hS dX7_total_91
            · have c_54 := nc_nle (a := (P.ln t)) (b := k) (by omega) (by omega) c_54
              refine lv_aload_n hx hb dX7_total_57 rfl (lv_at hl 4 rfl) ?_
              refine lv_iload hx hb dX7_total_58 (lv_at hl 0 rfl) ?_
              refine lv_aload_n hx hb dX7_total_60 rfl (lv_at hl 2 rfl) ?_
              refine g_get hC hK inG7 hH 0 (by omega) rfl (ci := 5) rfl 3 (by decide) qF_X7_26 (Or.inl rfl) rfl dX7_total_61 ?_
              refine cm_R (As := [.int (nI k), .ref (ad (4 + 24))]) (rest := []) (i := 30 + 2 * t) hC (rc_read (t := t) (i := k) (j := 24) hw (by omega) (by omega) (by omega) (by omega)) qM_X7_117 ⟨Nat.le_of_ble_eq_true rfl, Nat.le_of_ble_eq_true rfl⟩ hK hH hS hA hl.1 ⟨Nat.zero_le _, Nat.zero_le _⟩ rfl rfl (Nat.le_of_ble_eq_true rfl) dX7_total_64 (fun H locs hH hS => ?_)
              refine lv_dload_n hx hb dX7_total_67 rfl (lv_at hl 1 rfl) ?_
              refine lv_aload_n hx hb dX7_total_68 rfl (lv_at hl 2 rfl) ?_
              refine g_get hC hK inG7 hH 0 (by omega) rfl (ci := 5) rfl 3 (by decide) qF_X7_26 (Or.inl rfl) rfl dX7_total_69 ?_
              refine lv_bipush (v := 7) hx hb dX7_total_72 (by decide) ?_
              refine cm_V (As' := [.int (7)]) (rest := [.double (suD P t k)]) hC (c_X1_pointAs (j := 24) (k := 7) (by omega) (by omega)) mv_X1_pointAs qM_X7_110 ⟨⟨rfl, rfl⟩, Nat.le_of_ble_eq_true rfl, Nat.le_of_ble_eq_true rfl⟩ hK hH hS hA (hp.recv hK hH (i := 4 + 24) (by omega) (hct_c (by omega)) rfl) hl.1 ⟨Nat.zero_le _, Nat.zero_le _⟩ rfl rfl (Nat.le_of_ble_eq_true rfl) dX7_total_74 (fun H locs hH hS => ?_)
              refine lv_chgd (y := dbl (P.kd t) (P.wh t k) (P.re t k)) (by rw [va_up_self, rd_p hz (by omega) (by omega) (by omega)]; exact wdn_dbl) ?_
              refine lv_dadd hx hb dX7_total_77 (suD_n hg t (k + 1)) ?_
              refine lv_chgd (y := suD P t (k + 1)) (rfl) ?_
              refine lv_dstore_n (lv' := [(3, .double (suD P t (k + 1))), (5, .int (nI k)), (0, .ref (ad 0)), (1, .int (nI j)), (2, .ref (ad (30 + 2 * t)))]) hx hb dX7_total_78 rfl hl (by decide) rfl (fun ls hl => ?_)
              refine lv_iinc (v := nI (k + 1)) (lv' := [(5, .int (nI (k + 1))), (3, .double (suD P t (k + 1))), (0, .ref (ad 0)), (1, .int (nI j)), (2, .ref (ad (30 + 2 * t)))]) hx hb dX7_total_79 hl (k := 1) rfl (nI_1 _) (by decide) rfl (fun ls hl => ?_)
              refine lv_goto (tgt := 48) hx hb dX7_total_82 (by decide) ?_
              exact ih_lp (k + 1) (by omega) (by omega) _ (by repeat' (first | exact hI | refine HI_up ?_ ?_ | refine cOK_rd hw ?_ (by omega) | refine cOK_td ?_ (by omega) | exact cOK_th (by omega) | refine HI_sm hw ?_ (by omega) (by omega) | refine HI_c (st := st) ?_ (by omega))) _ _ hH hS ls (lv_sub hl [0, 1, 2, 3, 4] rfl)
        exact lp ((P.ln t) + 1) 0 (by omega) (by omega) _ (hI) _ _ hH hS ls (lv_sub hl [0, 1, 3, 4, 2] rfl)
      · have c_32 := nc_eq (a := (P.kd t)) (b := 0) (by omega) (by omega) c_32
        refine lv_aload_n hx hb dX7_total_35 rfl (lv_at hl 1 rfl) ?_
        refine lv_bipush (v := 6) hx hb dX7_total_36 (by decide) ?_
        refine cm_V (As' := [.int (6)]) (rest := []) hC (c_X7_refuse) mv_X7_refuse qM_X7_41 ⟨⟨rfl, rfl⟩, Nat.le_of_ble_eq_true rfl, Nat.le_of_ble_eq_true rfl⟩ hK hH hS hA (hp.recv hK hH (i := 0) (by omega) rfl rfl) hl.1 ⟨Nat.zero_le _, Nat.zero_le _⟩ rfl rfl (Nat.le_of_ble_eq_true rfl) dX7_total_38 (fun H locs hH hS => ?_)
        refine lv_i2d hx hb dX7_total_41 ?_
        subst hQ
        exact cx_rd hC hr hlk (hpostD.mk (by have h9 : ¬ (1 ≤ P.kd t ∧ P.kd t ≤ 7) := (by omega); simp [sp_total, i2d_0, h9, isC_nI hja, cN_c hja, hqa, h1a] <;> rfl) (by repeat' (first | exact hI | refine HI_up ?_ ?_ | refine cOK_rd hw ?_ (by omega) | refine cOK_td ?_ (by omega) | exact cOK_th (by omega) | refine HI_sm hw ?_ (by omega) (by omega) | refine HI_c (st := st) ?_ (by omega)))) hH hS dX7_total_42
