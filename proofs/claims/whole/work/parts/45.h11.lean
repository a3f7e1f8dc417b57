theorem mv_X7_why : mvok RX7 yX7_why cX7_why 1 (some .int) 0 := ⟨qK_X7_why, qI_X7_why, qSel_X7_X7_why, qInit_X7, by decide +kernel⟩
set_option maxHeartbeats 4000000 in
set_option maxRecDepth 100000 in
theorem c_X7_why {l : Launch} {D : va_G} {cy : Nat → ClassId} {ad : Nat → Nat} {P : AS} {wy : Int32} {cl : Nat → CE} {st : Nat → Nat} {tg : Nat → Int32}   : CM l yX7_why cX7_why 1 (some .int) (rm_ 0 0) D cy (30 + 2 * P.n) ad [.ref (ad 0)] (hct cy ad P wy cl st tg) (some (.int (wy))) (hct cy ad P wy cl st tg) := by
  refine CM.start (by decide) (Nat.le_of_ble_eq_true rfl) ?_
  intro p_ e_ s m_ below meth cd A ls hC hr hlk hin hK hA hH hl
  obtain ⟨hx, hb, hml, hown, hts⟩ := id hC
  have hS : va_S A s.heap s.heap [] := va_S.rf
  have hl : lv_has ls 1 [(0, .ref (ad 0))] := hl
  refine lv_aload_n hx hb dX7_why_0 rfl (lv_at hl 0 rfl) ?_
  refine g_get hC hK inG7 hH 0 (by omega) rfl (ci := 5) rfl 5 (by decide) qF_X7_33 (Or.inl rfl) rfl dX7_why_1 ?_
  exact cm_ri hC hr hlk (rfl) (rfl) hH hS dX7_why_4
theorem mv_X7_moveByIndex : mvok RX7 yX7_moveByIndex cX7_moveByIndex 12 (some .int) 4 := ⟨qK_X7_moveByIndex, qI_X7_moveByIndex, qSel_X7_X7_moveByIndex, qInit_X7, by decide +kernel⟩
set_option maxHeartbeats 4000000 in
set_option maxRecDepth 100000 in
theorem c_X7_moveByIndex {l : Launch} {D : va_G} {cy : Nat → ClassId} {ad : Nat → Nat} {P : AS} {wy : Int32} {cl : Nat → CE} {st : Nat → Nat} {tg : Nat → Int32} {c d e rd : Int32} (hw : WF P) (hz : WZ P) (hI : HI P cl st) (hrd1 : rd = 0 ∨ rd = 1) : CX l yX7_moveByIndex cX7_moveByIndex 12 (some .int) (rm_ 3 69) D cy (30 + 2 * P.n) ad [.ref (ad 0), .int (c), .int (d), .int (e), .int (rd)] (hct cy ad P wy cl st tg) (hpost cy ad (if rd = 1 then sp_gather P c d e else sp_scatter P c d e)) := by
  refine CX.startQ (by decide) (Nat.le_of_ble_eq_true rfl) ?_
  intro p_ e_ s m_ args_ below meth cd A ls Q hQ hC hr hlk hK hA hH hl
  obtain ⟨hx, hb, hml, hown, hts⟩ := id hC
  have hS : va_S A s.heap s.heap [] := va_S.rf
  have hl : lv_has ls 12 [(0, .ref (ad 0)), (1, .int (c)), (2, .int (d)), (3, .int (e)), (4, .int (rd))] := hl
  rcases hrd1 with rfl | rfl
  · have hl : lv_has ls 12 [(0, .ref (ad 0)), (1, .int (c)), (2, .int (d)), (3, .int (e)), (4, .int (0))] := hl
    refine lv_aload_n hx hb dX7_moveByIndex_0 rfl (lv_at hl 0 rfl) ?_
    refine lv_iload_n hx hb dX7_moveByIndex_1 rfl (lv_at hl 1 rfl) ?_
    refine cm_V (As' := [.int (c)]) (rest := []) hC (c_X7_rowIn hw) mv_X7_rowIn qM_X7_61 ⟨⟨rfl, rfl⟩, Nat.le_of_ble_eq_true rfl, Nat.le_of_ble_eq_true rfl⟩ hK hH hS hA (hp.recv hK hH (i := 0) (by omega) rfl rfl) hl.1 ⟨Nat.zero_le _, Nat.zero_le _⟩ rfl rfl (Nat.le_of_ble_eq_true rfl) dX7_moveByIndex_2 (fun H locs hH hS => ?_)
    rcases rw_cases P ad c with ⟨hna, hra⟩ | ⟨j, f, hja, rfl, h1a, hka, hra, hna⟩
    · refine W.eq (g2 := F0 m_ 5 ls (.null :: [])) (by rw [hna]; rfl) ?_
      refine lv_astoreN (lv' := [(5, .null), (0, .ref (ad 0)), (1, .int (c)), (2, .int (d)), (3, .int (e)), (4, .int (0))]) hx hb dX7_moveByIndex_5 hl (by decide) rfl (fun ls hl => ?_)
      refine lv_aload_n hx hb dX7_moveByIndex_7 rfl (lv_at hl 1 rfl) ?_
      refine lv_iload_n hx hb dX7_moveByIndex_8 rfl (lv_at hl 3 rfl) ?_
      refine cm_V (As' := [.int (d)]) (rest := []) hC (c_X7_rowIn hw) mv_X7_rowIn qM_X7_61 ⟨⟨rfl, rfl⟩, Nat.le_of_ble_eq_true rfl, Nat.le_of_ble_eq_true rfl⟩ hK hH hS hA (hp.recv hK hH (i := 0) (by omega) rfl rfl) hl.1 ⟨Nat.zero_le _, Nat.zero_le _⟩ rfl rfl (Nat.le_of_ble_eq_true rfl) dX7_moveByIndex_9 (fun H locs hH hS => ?_)
      rcases rw_cases P ad d with ⟨hnb, hrb⟩ | ⟨q, x, hjb, rfl, h1b, hkb, hrb, hnb⟩
      · refine W.eq (g2 := F0 m_ 12 ls (.null :: [])) (by rw [hnb]; rfl) ?_
        refine lv_astoreN (lv' := [(6, .null), (5, .null), (0, .ref (ad 0)), (1, .int (c)), (2, .int (d)), (3, .int (e)), (4, .int (0))]) hx hb dX7_moveByIndex_12 hl (by decide) rfl (fun ls hl => ?_)
        refine lv_aload_n hx hb dX7_moveByIndex_14 rfl (lv_at hl 2 rfl) ?_
        refine lv_iload_n hx hb dX7_moveByIndex_15 rfl (lv_at hl 5 rfl) ?_
        refine cm_V (As' := [.int (e)]) (rest := []) hC (c_X7_rowIn hw) mv_X7_rowIn qM_X7_61 ⟨⟨rfl, rfl⟩, Nat.le_of_ble_eq_true rfl, Nat.le_of_ble_eq_true rfl⟩ hK hH hS hA (hp.recv hK hH (i := 0) (by omega) rfl rfl) hl.1 ⟨Nat.zero_le _, Nat.zero_le _⟩ rfl rfl (Nat.le_of_ble_eq_true rfl) dX7_moveByIndex_16 (fun H locs hH hS => ?_)
        rcases rw_cases P ad e with ⟨hnd, hrd⟩ | ⟨u, t, hjd, rfl, h1d, hkd, hrd, hnd⟩
        · refine W.eq (g2 := F0 m_ 19 ls (.null :: [])) (by rw [hnd]; rfl) ?_
          refine lv_astoreN (lv' := [(7, .null), (6, .null), (5, .null), (0, .ref (ad 0)), (1, .int (c)), (2, .int (d)), (3, .int (e)), (4, .int (0))]) hx hb dX7_moveByIndex_19 hl (by decide) rfl (fun ls hl => ?_)
          refine lv_aloadN hx hb dX7_moveByIndex_21 (lv_at hl 2 rfl) ?_
          refine lv_ifnullN (tgt := 36) hx hb dX7_moveByIndex_23 (by decide) ?_
          refine lv_aload_n hx hb dX7_moveByIndex_36 rfl (lv_at hl 3 rfl) ?_
          refine lv_aload_n hx hb dX7_moveByIndex_37 rfl (lv_at hl 3 rfl) ?_
          refine lv_iload_n hx hb dX7_moveByIndex_38 rfl (lv_at hl 4 rfl) ?_
          refine lv_iload_n hx hb dX7_moveByIndex_39 rfl (lv_at hl 5 rfl) ?_
          refine lv_iload_n hx hb dX7_moveByIndex_40 rfl (lv_at hl 6 rfl) ?_
          refine cm_V (As' := [.int (c), .int (d), .int (e)]) (rest := [.ref (ad 0)]) hC (c_X7_rowsAmiss hw) mv_X7_rowsAmiss qM_X7_151 ⟨⟨rfl, rfl⟩, Nat.le_of_ble_eq_true rfl, Nat.le_of_ble_eq_true rfl⟩ hK hH hS hA (hp.recv hK hH (i := 0) (by omega) rfl rfl) hl.1 ⟨Nat.zero_le _, Nat.zero_le _⟩ rfl rfl (Nat.le_of_ble_eq_true rfl) dX7_moveByIndex_41 (fun H locs hH hS => ?_)
          refine cm_V (As' := [.int (nI (earl (rsA P c) (earl (rsA P d) (rsA P e))))]) (rest := []) hC (c_X7_refuse) mv_X7_refuse qM_X7_41 ⟨⟨rfl, rfl⟩, Nat.le_of_ble_eq_true rfl, Nat.le_of_ble_eq_true rfl⟩ hK hH hS hA (hp.recv hK hH (i := 0) (by omega) rfl rfl) hl.1 ⟨Nat.zero_le _, Nat.zero_le _⟩ rfl rfl (Nat.le_of_ble_eq_true rfl) dX7_moveByIndex_44 (fun H locs hH hS => ?_)
          subst hQ
          exact cx_ri hC hr hlk (hpost.mk (by show (if (0 : Int32) = 1 then sp_gather P _ _ _ else sp_scatter P _ _ _) = _; rw [if_neg (by decide)]; unfold sp_scatter; exact rf3 (by omega)) (by repeat' (first | exact hI | refine HI_up ?_ ?_ | refine cOK_rd hw ?_ (by omega) | refine cOK_td ?_ (by omega) | exact cOK_th (by omega) | refine HI_sm hw ?_ (by omega) (by omega) | refine HI_c (st := st) ?_ (by omega)))) hH hS dX7_moveByIndex_47
        · have hqd : rsRow P u = 0 := by rw [← rsA_j hjd]; exact hrd
          have htd : t < P.n := by have := hw.2.2.2.1 u; omega
          have hlnd := hw.2.1 t
          refine W.eq (g2 := F0 m_ 19 ls (.ref (ad (30 + 2 * t)) :: [])) (by rw [hnd]; rfl) ?_
          refine lv_astore (lv' := [(7, .ref (ad (30 + 2 * t))), (6, .null), (5, .null), (0, .ref (ad 0)), (1, .int (c)), (2, .int (d)), (3, .int (nI u)), (4, .int (0))]) hx hb dX7_moveByIndex_19 hl (by decide) rfl (fun ls hl => ?_)
          refine lv_aloadN hx hb dX7_moveByIndex_21 (lv_at hl 2 rfl) ?_
          refine lv_ifnullN (tgt := 36) hx hb dX7_moveByIndex_23 (by decide) ?_
          refine lv_aload_n hx hb dX7_moveByIndex_36 rfl (lv_at hl 3 rfl) ?_
          refine lv_aload_n hx hb dX7_moveByIndex_37 rfl (lv_at hl 3 rfl) ?_
          refine lv_iload_n hx hb dX7_moveByIndex_38 rfl (lv_at hl 4 rfl) ?_
          refine lv_iload_n hx hb dX7_moveByIndex_39 rfl (lv_at hl 5 rfl) ?_
          refine lv_iload_n hx hb dX7_moveByIndex_40 rfl (lv_at hl 6 rfl) ?_
          refine cm_V (As' := [.int (c), .int (d), .int (nI u)]) (rest := [.ref (ad 0)]) hC (c_X7_rowsAmiss hw) mv_X7_rowsAmiss qM_X7_151 ⟨⟨rfl, rfl⟩, Nat.le_of_ble_eq_true rfl, Nat.le_of_ble_eq_true rfl⟩ hK hH hS hA (hp.recv hK hH (i := 0) (by omega) rfl rfl) hl.1 ⟨Nat.zero_le _, Nat.zero_le _⟩ rfl rfl (Nat.le_of_ble_eq_true rfl) dX7_moveByIndex_41 (fun H locs hH hS => ?_)
          refine cm_V (As' := [.int (nI (earl (rsA P c) (earl (rsA P d) (rsA P (nI u)))))]) (rest := []) hC (c_X7_refuse) mv_X7_refuse qM_X7_41 ⟨⟨rfl, rfl⟩, Nat.le_of_ble_eq_true rfl, Nat.le_of_ble_eq_true rfl⟩ hK hH hS hA (hp.recv hK hH (i := 0) (by omega) rfl rfl) hl.1 ⟨Nat.zero_le _, Nat.zero_le _⟩ rfl rfl (Nat.le_of_ble_eq_true rfl) dX7_moveByIndex_44 (fun H locs hH hS => ?_)
          subst hQ
          exact cx_ri hC hr hlk (hpost.mk (by show (if (0 : Int32) = 1 then sp_gather P _ _ _ else sp_scatter P _ _ _) = _; rw [if_neg (by decide)]; unfold sp_scatter; exact rf3 (by omega)) (by repeat' (first | exact hI | refine HI_up ?_ ?_ | refine cOK_rd hw ?_ (by omega) | refine cOK_td ?_ (by omega) | exact cOK_th (by omega) | refine HI_sm hw ?_ (by omega) (by omega) | refine HI_c (st := st) ?_ (by omega)))) hH hS dX7_moveByIndex_47
      · have hqb : rsRow P q = 0 := by rw [← rsA_j hjb]; exact hrb
        have htb : x < P.n := by have := hw.2.2.2.1 q; omega
        have hlnb := hw.2.1 x
        refine W.eq (g2 := F0 m_ 12 ls (.ref (ad (30 + 2 * x)) :: [])) (by rw [hnb]; rfl) ?_
        refine lv_astore (lv' := [(6, .ref (ad (30 + 2 * x))), (5, .null), (0, .ref (ad 0)), (1, .int (c)), (2, .int (nI q)), (3, .int (e)), (4, .int (0))]) hx hb dX7_moveByIndex_12 hl (by decide) rfl (fun ls hl => ?_)
        refine lv_aload_n hx hb dX7_moveByIndex_14 rfl (lv_at hl 2 rfl) ?_
        refine lv_iload_n hx hb dX7_moveByIndex_15 rfl (lv_at hl 5 rfl) ?_
        refine cm_V (As' := [.int (e)]) (rest := []) hC (c_X7_rowIn hw) mv_X7_rowIn qM_X7_61 ⟨⟨rfl, rfl⟩, Nat.le_of_ble_eq_true rfl, Nat.le_of_ble_eq_true rfl⟩ hK hH hS hA (hp.recv hK hH (i := 0) (by omega) rfl rfl) hl.1 ⟨Nat.zero_le _, Nat.zero_le _⟩ rfl rfl (Nat.le_of_ble_eq_true rfl) dX7_moveByIndex_16 (fun H locs hH hS => ?_)
        rcases rw_cases P ad e with ⟨hnd, hrd⟩ | ⟨u, t, hjd, rfl, h1d, hkd, hrd, hnd⟩
        · refine W.eq (g2 := F0 m_ 19 ls (.null :: [])) (by rw [hnd]; rfl) ?_
          refine lv_astoreN (lv' := [(7, .null), (6, .ref (ad (30 + 2 * x))), (5, .null), (0, .ref (ad 0)), (1, .int (c)), (2, .int (nI q)), (3, .int (e)), (4, .int (0))]) hx hb dX7_moveByIndex_19 hl (by decide) rfl (fun ls hl => ?_)
          refine lv_aloadN hx hb dX7_moveByIndex_21 (lv_at hl 2 rfl) ?_
          refine lv_ifnullN (tgt := 36) hx hb dX7_moveByIndex_23 (by decide) ?_
          refine lv_aload_n hx hb dX7_moveByIndex_36 rfl (lv_at hl 3 rfl) ?_
          refine lv_aload_n hx hb dX7_moveByIndex_37 rfl (lv_at hl 3 rfl) ?_
          refine lv_iload_n hx hb dX7_moveByIndex_38 rfl (lv_at hl 4 rfl) ?_
          refine lv_iload_n hx hb dX7_moveByIndex_39 rfl (lv_at hl 5 rfl) ?_
          refine lv_iload_n hx hb dX7_moveByIndex_40 rfl (lv_at hl 6 rfl) ?_
          refine cm_V (As' := [.int (c), .int (nI q), .int (e)]) (rest := [.ref (ad 0)]) hC (c_X7_rowsAmiss hw) mv_X7_rowsAmiss qM_X7_151 ⟨⟨rfl, rfl⟩, Nat.le_of_ble_eq_true rfl, Nat.le_of_ble_eq_true rfl⟩ hK hH hS hA (hp.recv hK hH (i := 0) (by omega) rfl rfl) hl.1 ⟨Nat.zero_le _, Nat.zero_le _⟩ rfl rfl (Nat.le_of_ble_eq_true rfl) dX7_moveByIndex_41 (fun H locs hH hS => ?_)
          refine cm_V (As' := [.int (nI (earl (rsA P c) (earl (rsA P (nI q)) (rsA P e))))]) (rest := []) hC (c_X7_refuse) mv_X7_refuse qM_X7_41 ⟨⟨rfl, rfl⟩, Nat.le_of_ble_eq_true rfl, Nat.le_of_ble_eq_true rfl⟩ hK hH hS hA (hp.recv hK hH (i := 0) (by omega) rfl rfl) hl.1 ⟨Nat.zero_le _, Nat.zero_le _⟩ rfl rfl (Nat.le_of_ble_eq_true rfl) dX7_moveByIndex_44 (fun H locs hH hS => ?_)
          subst hQ
          exact cx_ri hC hr hlk (hpost.mk (by show (if (0 : Int32) = 1 then sp_gather P _ _ _ else sp_scatter P _ _ _) = _; rw [if_neg (by decide)]; unfold sp_scatter; exact rf3 (by omega)) (by repeat' (first | exact hI | refine HI_up ?_ ?_ | refine cOK_rd hw ?_ (by omega) | refine cOK_td ?_ (by omega) | exact cOK_th (by omega) | refine HI_sm hw ?_ (by omega) (by omega) | refine HI_c (st := st) ?_ (by omega)))) hH hS dX7_moveByIndex_47
        · have hqd : rsRow P u = 0 := by rw [← rsA_j hjd]; exact hrd
          have htd : t < P.n := by have := hw.2.2.2.1 u; omega
          have hlnd := hw.2.1 t
          refine W.eq (g2 := F0 m_ 19 ls (.ref (ad (30 + 2 * t)) :: [])) (by rw [hnd]; rfl) ?_
          refine lv_astore (lv' := [(7, .ref (ad (30 + 2 * t))), (6, .ref (ad (30 + 2 * x))), (5, .null), (0, .ref (ad 0)), (1, .int (c)), (2, .int (nI q)), (3, .int (nI u)), (4, .int (0))]) hx hb dX7_moveByIndex_19 hl (by decide) rfl (fun ls hl => ?_)
          refine lv_aloadN hx hb dX7_moveByIndex_21 (lv_at hl 2 rfl) ?_
          refine lv_ifnullN (tgt := 36) hx hb dX7_moveByIndex_23 (by decide) ?_
          refine lv_aload_n hx hb dX7_moveByIndex_36 rfl (lv_at hl 3 rfl) ?_
          refine lv_aload_n hx hb dX7_moveByIndex_37 rfl (lv_at hl 3 rfl) ?_
          refine lv_iload_n hx hb dX7_moveByIndex_38 rfl (lv_at hl 4 rfl) ?_
          refine lv_iload_n hx hb dX7_moveByIndex_39 rfl (lv_at hl 5 rfl) ?_
          refine lv_iload_n hx hb dX7_moveByIndex_40 rfl (lv_at hl 6 rfl) ?_
          refine cm_V (As' := [.int (c), .int (nI q), .int (nI u)]) (rest := [.ref (ad 0)]) hC (c_X7_rowsAmiss hw) mv_X7_rowsAmiss qM_X7_151 ⟨⟨rfl, rfl⟩, Nat.le_of_ble_eq_true rfl, Nat.le_of_ble_eq_true rfl⟩ hK hH hS hA (hp.recv hK hH (i := 0) (by omega) rfl rfl) hl.1 ⟨Nat.zero_le _, Nat.zero_le _⟩ rfl rfl (Nat.le_of_ble_eq_true rfl) dX7_moveByIndex_41 (fun H locs hH hS => ?_)
          refine cm_V (As' := [.int (nI (earl (rsA P c) (earl (rsA P (nI q)) (rsA P (nI u)))))]) (rest := []) hC (c_X7_refuse) mv_X7_refuse qM_X7_41 ⟨⟨rfl, rfl⟩, Nat.le_of_ble_eq_true rfl, Nat.le_of_ble_eq_true rfl⟩ hK hH hS hA (hp.recv hK hH (i := 0) (by omega) rfl rfl) hl.1 ⟨Nat.zero_le _, Nat.zero_le _⟩ rfl rfl (Nat.le_of_ble_eq_true rfl) dX7_moveByIndex_44 (fun H locs hH hS => ?_)
          subst hQ
          exact cx_ri hC hr hlk (hpost.mk (by show (if (0 : Int32) = 1 then sp_gather P _ _ _ else sp_scatter P _ _ _) = _; rw [if_neg (by decide)]; unfold sp_scatter; exact rf3 (by omega)) (by repeat' (first | exact hI | refine HI_up ?_ ?_ | refine cOK_rd hw ?_ (by omega) | refine cOK_td ?_ (by omega) | exact cOK_th (by omega) | refine HI_sm hw ?_ (by omega) (by omega) | refine HI_c (st := st) ?_ (by omega)))) hH hS dX7_moveByIndex_47
    · have hqa : rsRow P j = 0 := by rw [← rsA_j hja]; exact hra
      have hta : f < P.n := by have := hw.2.2.2.1 j; omega
      have hlna := hw.2.1 f
      refine W.eq (g2 := F0 m_ 5 ls (.ref (ad (30 + 2 * f)) :: [])) (by rw [hna]; rfl) ?_
      refine lv_astore (lv' := [(5, .ref (ad (30 + 2 * f))), (0, .ref (ad 0)), (1, .int (nI j)), (2, .int (d)), (3, .int (e)), (4, .int (0))]) hx hb dX7_moveByIndex_5 hl (by decide) rfl (fun ls hl => ?_)
      refine lv_aload_n hx hb dX7_moveByIndex_7 rfl (lv_at hl 1 rfl) ?_
      refine lv_iload_n hx hb dX7_moveByIndex_8 rfl (lv_at hl 3 rfl) ?_
      refine cm_V (As' := [.int (d)]) (rest := []) hC (c_X7_rowIn hw) mv_X7_rowIn qM_X7_61 ⟨⟨rfl, rfl⟩, Nat.le_of_ble_eq_true rfl, Nat.le_of_ble_eq_true rfl⟩ hK hH hS hA (hp.recv hK hH (i := 0) (by omega) rfl rfl) hl.1 ⟨Nat.zero_le _, Nat.zero_le _⟩ rfl rfl (Nat.le_of_ble_eq_true rfl) dX7_moveByIndex_9 (fun H locs hH hS => ?_)
      rcases rw_cases P ad d with ⟨hnb, hrb⟩ | ⟨q, x, hjb, rfl, h1b, hkb, hrb, hnb⟩
      · refine W.eq (g2 := F0 m_ 12 ls (.null :: [])) (by rw [hnb]; rfl) ?_
        refine lv_astoreN (lv' := [(6, .null), (5, .ref (ad (30 + 2 * f))), (0, .ref (ad 0)), (1, .int (nI j)), (2, .int (d)), (3, .int (e)), (4, .int (0))]) hx hb dX7_moveByIndex_12 hl (by decide) rfl (fun ls hl => ?_)
        refine lv_aload_n hx hb dX7_moveByIndex_14 rfl (lv_at hl 2 rfl) ?_
        refine lv_iload_n hx hb dX7_moveByIndex_15 rfl (lv_at hl 5 rfl) ?_
        refine cm_V (As' := [.int (e)]) (rest := []) hC (c_X7_rowIn hw) mv_X7_rowIn qM_X7_61 ⟨⟨rfl, rfl⟩, Nat.le_of_ble_eq_true rfl, Nat.le_of_ble_eq_true rfl⟩ hK hH hS hA (hp.recv hK hH (i := 0) (by omega) rfl rfl) hl.1 ⟨Nat.zero_le _, Nat.zero_le _⟩ rfl rfl (Nat.le_of_ble_eq_true rfl) dX7_moveByIndex_16 (fun H locs hH hS => ?_)
        rcases rw_cases P ad e with ⟨hnd, hrd⟩ | ⟨u, t, hjd, rfl, h1d, hkd, hrd, hnd⟩
        · refine W.eq (g2 := F0 m_ 19 ls (.null :: [])) (by rw [hnd]; rfl) ?_
          refine lv_astoreN (lv' := [(7, .null), (6, .null), (5, .ref (ad (30 + 2 * f))), (0, .ref (ad 0)), (1, .int (nI j)), (2, .int (d)), (3, .int (e)), (4, .int (0))]) hx hb dX7_moveByIndex_19 hl (by decide) rfl (fun ls hl => ?_)
          refine lv_aload hx hb dX7_moveByIndex_21 (lv_at hl 2 rfl) ?_
          refine lv_ifnull hx hb dX7_moveByIndex_23 ?_
          refine lv_aloadN hx hb dX7_moveByIndex_26 (lv_at hl 1 rfl) ?_
          refine lv_ifnullN (tgt := 36) hx hb dX7_moveByIndex_28 (by decide) ?_
          refine lv_aload_n hx hb dX7_moveByIndex_36 rfl (lv_at hl 3 rfl) ?_
          refine lv_aload_n hx hb dX7_moveByIndex_37 rfl (lv_at hl 3 rfl) ?_
          refine lv_iload_n hx hb dX7_moveByIndex_38 rfl (lv_at hl 4 rfl) ?_
          refine lv_iload_n hx hb dX7_moveByIndex_39 rfl (lv_at hl 5 rfl) ?_
          refine lv_iload_n hx hb dX7_moveByIndex_40 rfl (lv_at hl 6 rfl) ?_
          refine cm_V (As' := [.int (nI j), .int (d), .int (e)]) (rest := [.ref (ad 0)]) hC (c_X7_rowsAmiss hw) mv_X7_rowsAmiss qM_X7_151 ⟨⟨rfl, rfl⟩, Nat.le_of_ble_eq_true rfl, Nat.le_of_ble_eq_true rfl⟩ hK hH hS hA (hp.recv hK hH (i := 0) (by omega) rfl rfl) hl.1 ⟨Nat.zero_le _, Nat.zero_le _⟩ rfl rfl (Nat.le_of_ble_eq_true rfl) dX7_moveByIndex_41 (fun H locs hH hS => ?_)
          refine cm_V (As' := [.int (nI (earl (rsA P (nI j)) (earl (rsA P d) (rsA P e))))]) (rest := []) hC (c_X7_refuse) mv_X7_refuse qM_X7_41 ⟨⟨rfl, rfl⟩, Nat.le_of_ble_eq_true rfl, Nat.le_of_ble_eq_true rfl⟩ hK hH hS hA (hp.recv hK hH (i := 0) (by omega) rfl rfl) hl.1 ⟨Nat.zero_le _, Nat.zero_le _⟩ rfl rfl (Nat.le_of_ble_eq_true rfl) dX7_moveByIndex_44 (fun H locs hH hS => ?_)
          subst hQ
          exact cx_ri hC hr hlk (hpost.mk (by show (if (0 : Int32) = 1 then sp_gather P _ _ _ else sp_scatter P _ _ _) = _; rw [if_neg (by decide)]; unfold sp_scatter; exact rf3 (by omega)) (by repeat' (first | exact hI | refine HI_up ?_ ?_ | refine cOK_rd hw ?_ (by omega) | refine cOK_td ?_ (by omega) | exact cOK_th (by omega) | refine HI_sm hw ?_ (by omega) (by omega) | refine HI_c (st := st) ?_ (by omega)))) hH hS dX7_moveByIndex_47
        · have hqd : rsRow P u = 0 := by rw [← rsA_j hjd]; exact hrd
          have htd : t < P.n := by have := hw.2.2.2.1 u; omega
          have hlnd := hw.2.1 t
          refine W.eq (g2 := F0 m_ 19 ls (.ref (ad (30 + 2 * t)) :: [])) (by rw [hnd]; rfl) ?_
          refine lv_astore (lv' := [(7, .ref (ad (30 + 2 * t))), (6, .null), (5, .ref (ad (30 + 2 * f))), (0, .ref (ad 0)), (1, .int (nI j)), (2, .int (d)), (3, .int (nI u)), (4, .int (0))]) hx hb dX7_moveByIndex_19 hl (by decide) rfl (fun ls hl => ?_)
          refine lv_aload hx hb dX7_moveByIndex_21 (lv_at hl 2 rfl) ?_
          refine lv_ifnull hx hb dX7_moveByIndex_23 ?_
          refine lv_aloadN hx hb dX7_moveByIndex_26 (lv_at hl 1 rfl) ?_
          refine lv_ifnullN (tgt := 36) hx hb dX7_moveByIndex_28 (by decide) ?_
          refine lv_aload_n hx hb dX7_moveByIndex_36 rfl (lv_at hl 3 rfl) ?_
          refine lv_aload_n hx hb dX7_moveByIndex_37 rfl (lv_at hl 3 rfl) ?_
          refine lv_iload_n hx hb dX7_moveByIndex_38 rfl (lv_at hl 4 rfl) ?_
          refine lv_iload_n hx hb dX7_moveByIndex_39 rfl (lv_at hl 5 rfl) ?_
          refine lv_iload_n hx hb dX7_moveByIndex_40 rfl (lv_at hl 6 rfl) ?_
          refine cm_V (As' := [.int (nI j), .int (d), .int (nI u)]) (rest := [.ref (ad 0)]) hC (c_X7_rowsAmiss hw) mv_X7_rowsAmiss qM_X7_151 ⟨⟨rfl, rfl⟩, Nat.le_of_ble_eq_true rfl, Nat.le_of_ble_eq_true rfl⟩ hK hH hS hA (hp.recv hK hH (i := 0) (by omega) rfl rfl) hl.1 ⟨Nat.zero_le _, Nat.zero_le _⟩ rfl rfl (Nat.le_of_ble_eq_true rfl) dX7_moveByIndex_41 (fun H locs hH hS => ?_)
          refine cm_V (As' := [.int (nI (earl (rsA P (nI j)) (earl (rsA P d) (rsA P (nI u)))))]) (rest := []) hC (c_X7_refuse) mv_X7_refuse qM_X7_41 ⟨⟨rfl, rfl⟩, Nat.le_of_ble_eq_true rfl, Nat.le_of_ble_eq_true rfl⟩ hK hH hS hA (hp.recv hK hH (i := 0) (by omega) rfl rfl) hl.1 ⟨Nat.zero_le _, Nat.zero_le _⟩ rfl rfl (Nat.le_of_ble_eq_true rfl) dX7_moveByIndex_44 (fun H locs hH hS => ?_)
          subst hQ
          exact cx_ri hC hr hlk (hpost.mk (by show (if (0 : Int32) = 1 then sp_gather P _ _ _ else sp_scatter P _ _ _) = _; rw [if_neg (by decide)]; unfold sp_scatter; exact rf3 (by omega)) (by repeat' (first | exact hI | refine HI_up ?_ ?_ | refine cOK_rd hw ?_ (by omega) | refine cOK_td ?_ (by omega) | exact cOK_th (by omega) | refine HI_sm hw ?_ (by omega) (by omega) | refine HI_c (st := st) ?_ (by omega)))) hH hS dX7_moveByIndex_47
      · have hqb : rsRow P q = 0 := by rw [← rsA_j hjb]; exact hrb
        have htb : x < P.n := by have := hw.2.2.2.1 q; omega
        have hlnb := hw.2.1 x
        refine W.eq (g2 := F0 m_ 12 ls (.ref (ad (30 + 2 * x)) :: [])) (by rw [hnb]; rfl) ?_
        refine lv_astore (lv' := [(6, .ref (ad (30 + 2 * x))), (5, .ref (ad (30 + 2 * f))), (0, .ref (ad 0)), (1, .int (nI j)), (2, .int (nI q)), (3, .int (e)), (4, .int (0))]) hx hb dX7_moveByIndex_12 hl (by decide) rfl (fun ls hl => ?_)
        refine lv_aload_n hx hb dX7_moveByIndex_14 rfl (lv_at hl 2 rfl) ?_
        refine lv_iload_n hx hb dX7_moveByIndex_15 rfl (lv_at hl 5 rfl) ?_
        refine cm_V (As' := [.int (e)]) (rest := []) hC (c_X7_rowIn hw) mv_X7_rowIn qM_X7_61 ⟨⟨rfl, rfl⟩, Nat.le_of_ble_eq_true rfl, Nat.le_of_ble_eq_true rfl⟩ hK hH hS hA (hp.recv hK hH (i := 0) (by omega) rfl rfl) hl.1 ⟨Nat.zero_le _, Nat.zero_le _⟩ rfl rfl (Nat.le_of_ble_eq_true rfl) dX7_moveByIndex_16 (fun H locs hH hS => ?_)
        rcases rw_cases P ad e with ⟨hnd, hrd⟩ | ⟨u, t, hjd, rfl, h1d, hkd, hrd, hnd⟩
        · refine W.eq (g2 := F0 m_ 19 ls (.null :: [])) (by rw [hnd]; rfl) ?_
          refine lv_astoreN (lv' := [(7, .null), (6, .ref (ad (30 + 2 * x))), (5, .ref (ad (30 + 2 * f))), (0, .ref (ad 0)), (1, .int (nI j)), (2, .int (nI q)), (3, .int (e)), (4, .int (0))]) hx hb dX7_moveByIndex_19 hl (by decide) rfl (fun ls hl => ?_)
          refine lv_aload hx hb dX7_moveByIndex_21 (lv_at hl 2 rfl) ?_
          refine lv_ifnull hx hb dX7_moveByIndex_23 ?_
          refine lv_aload hx hb dX7_moveByIndex_26 (lv_at hl 1 rfl) ?_
          refine lv_ifnull hx hb dX7_moveByIndex_28 ?_
          refine lv_aloadN hx hb dX7_moveByIndex_31 (lv_at hl 0 rfl) ?_
          refine lv_ifnonnullN hx hb dX7_moveByIndex_33 ?_
          refine lv_aload_n hx hb dX7_moveByIndex_36 rfl (lv_at hl 3 rfl) ?_
          refine lv_aload_n hx hb dX7_moveByIndex_37 rfl (lv_at hl 3 rfl) ?_
          refine lv_iload_n hx hb dX7_moveByIndex_38 rfl (lv_at hl 4 rfl) ?_
          refine lv_iload_n hx hb dX7_moveByIndex_39 rfl (lv_at hl 5 rfl) ?_
          refine lv_iload_n hx hb dX7_moveByIndex_40 rfl (lv_at hl 6 rfl) ?_
          refine cm_V (As' := [.int (nI j), .int (nI q), .int (e)]) (rest := [.ref (ad 0)]) hC (c_X7_rowsAmiss hw) mv_X7_rowsAmiss qM_X7_151 ⟨⟨rfl, rfl⟩, Nat.le_of_ble_eq_true rfl, Nat.le_of_ble_eq_true rfl⟩ hK hH hS hA (hp.recv hK hH (i := 0) (by omega) rfl rfl) hl.1 ⟨Nat.zero_le _, Nat.zero_le _⟩ rfl rfl (Nat.le_of_ble_eq_true rfl) dX7_moveByIndex_41 (fun H locs hH hS => ?_)
          refine cm_V (As' := [.int (nI (earl (rsA P (nI j)) (earl (rsA P (nI q)) (rsA P e))))]) (rest := []) hC (c_X7_refuse) mv_X7_refuse qM_X7_41 ⟨⟨rfl, rfl⟩, Nat.le_of_ble_eq_true rfl, Nat.le_of_ble_eq_true rfl⟩ hK hH hS hA (hp.recv hK hH (i := 0) (by omega) rfl rfl) hl.1 ⟨Nat.zero_le _, Nat.zero_le _⟩ rfl rfl (Nat.le_of_ble_eq_true rfl) dX7_moveByIndex_44 (fun H locs hH hS => ?_)
          subst hQ
          exact cx_ri hC hr hlk (hpost.mk (by show (if (0 : Int32) = 1 then sp_gather P _ _ _ else sp_scatter P _ _ _) = _; rw [if_neg (by decide)]; unfold sp_scatter; exact rf3 (by omega)) (by repeat' (first | exact hI | refine HI_up ?_ ?_ | refine cOK_rd hw ?_ (by omega) | refine cOK_td ?_ (by omega) | exact cOK_th (by omega) | refine HI_sm hw ?_ (by omega) (by omega) | refine HI_c (st := st) ?_ (by omega)))) hH hS dX7_moveByIndex_47
        · have hqd : rsRow P u = 0 := by rw [← rsA_j hjd]; exact hrd
          have htd : t < P.n := by have := hw.2.2.2.1 u; omega
          have hlnd := hw.2.1 t
          refine W.eq (g2 := F0 m_ 19 ls (.ref (ad (30 + 2 * t)) :: [])) (by rw [hnd]; rfl) ?_
          refine lv_astore (lv' := [(7, .ref (ad (30 + 2 * t))), (6, .ref (ad (30 + 2 * x))), (5, .ref (ad (30 + 2 * f))), (0, .ref (ad 0)), (1, .int (nI j)), (2, .int (nI q)), (3, .int (nI u)), (4, .int (0))]) hx hb dX7_moveByIndex_19 hl (by decide) rfl (fun ls hl => ?_)
          refine lv_aload hx hb dX7_moveByIndex_21 (lv_at hl 2 rfl) ?_
          refine lv_ifnull hx hb dX7_moveByIndex_23 ?_
          refine lv_aload hx hb dX7_moveByIndex_26 (lv_at hl 1 rfl) ?_
          refine lv_ifnull hx hb dX7_moveByIndex_28 ?_
          refine lv_aload hx hb dX7_moveByIndex_31 (lv_at hl 0 rfl) ?_
          refine lv_ifnonnull (tgt := 48) hx hb dX7_moveByIndex_33 (by decide) ?_
          refine lv_aload hx hb dX7_moveByIndex_48 (lv_at hl 1 rfl) ?_
          refine lv_iconst (v := 4) hx hb dX7_moveByIndex_50 (by decide) ?_
          refine cm_R (As := [.int (4)]) (rest := []) (i := 30 + 2 * x) hC (rc_goesAs (t := x) (k := 4) hw (by omega) (by omega) (by omega)) qM_X7_201 ⟨Nat.le_of_ble_eq_true rfl, Nat.le_of_ble_eq_true rfl⟩ hK hH hS hA hl.1 ⟨Nat.zero_le _, Nat.zero_le _⟩ rfl rfl (Nat.le_of_ble_eq_true rfl) dX7_moveByIndex_51 (fun H locs hH hS => ?_)
          refine lv_if_ne (tgt := 64) hx hb dX7_moveByIndex_54 (by decide) (fun c_54 => ?_) (fun c_54 => ?_)
          · have c_54 := b2i_t c_54
            have h5x := tl_5 c_54
            refine lv_aload hx hb dX7_moveByIndex_64 (lv_at hl 1 rfl) ?_
            refine cm_R (As := []) (rest := []) (i := 30 + 2 * x) hC (rc_length (t := x) hw (by omega) (by omega)) qM_X7_68 ⟨Nat.le_of_ble_eq_true rfl, Nat.le_of_ble_eq_true rfl⟩ hK hH hS hA hl.1 ⟨Nat.zero_le _, Nat.zero_le _⟩ rfl rfl (Nat.le_of_ble_eq_true rfl) dX7_moveByIndex_66 (fun H locs hH hS => ?_)
            refine lv_istore (lv' := [(8, .int (nI (P.ln x))), (7, .ref (ad (30 + 2 * t))), (6, .ref (ad (30 + 2 * x))), (5, .ref (ad (30 + 2 * f))), (0, .ref (ad 0)), (1, .int (nI j)), (2, .int (nI q)), (3, .int (nI u)), (4, .int (0))]) hx hb dX7_moveByIndex_69 hl (by decide) rfl (fun ls hl => ?_)
            refine lv_iload hx hb dX7_moveByIndex_71 (lv_at hl 0 rfl) ?_
            refine lv_iload hx hb dX7_moveByIndex_73 (lv_at hl 8 rfl) ?_
            refine lv_if_eq (tgt := 86) hx hb dX7_moveByIndex_75 (by decide) (fun c_75 => ?_) (fun c_75 => absurd c_75 (by decide))
            refine lv_aload hx hb dX7_moveByIndex_86 (lv_at hl 3 rfl) ?_
            refine cm_R (As := []) (rest := [.int (nI (P.ln x))]) (i := 30 + 2 * f) hC (rc_length (t := f) hw (by omega) (by omega)) qM_X7_68 ⟨Nat.le_of_ble_eq_true rfl, Nat.le_of_ble_eq_true rfl⟩ hK hH hS hA hl.1 ⟨Nat.zero_le _, Nat.zero_le _⟩ rfl rfl (Nat.le_of_ble_eq_true rfl) dX7_moveByIndex_88 (fun H locs hH hS => ?_)
            refine lv_icmp_eq (tgt := 100) hx hb dX7_moveByIndex_91 (by decide) (fun c_91 => ?_) (fun c_91 => ?_)
            · have c_91 := nc_eq (a := (P.ln x)) (b := (P.ln f)) (by omega) (by omega) c_91
              refine lv_iconst (v := 0) hx hb dX7_moveByIndex_100 (by decide) ?_
              refine lv_istore (lv' := [(9, .int (0)), (8, .int (nI (P.ln x))), (7, .ref (ad (30 + 2 * t))), (6, .ref (ad (30 + 2 * x))), (5, .ref (ad (30 + 2 * f))), (0, .ref (ad 0)), (1, .int (nI j)), (2, .int (nI q)), (3, .int (nI u)), (4, .int (0))]) hx hb dX7_moveByIndex_101 hl (by decide) rfl (fun ls hl => ?_)
              have lp : ∀ (n9 k : Nat), k ≤ (P.ln x) → (P.ln x) < k + n9 → ∀ (cl : Nat → CE) (tg : Nat → Int32) (hI : HI P cl st) (hmv : mvR P f t (fun k => nI k) (fun k => (P.wh x k).toInt32) k = 0) (hsg : SGd P t (fun i => mvV P f t (cN ((fun k => nI k) i))) cl st k) (htg : ∀ i, i < k → tg i = (fun k => (P.wh x k).toInt32) i) (H : Heap) (locs : List Loc), hp D A (30 + 2 * P.n) ad (hct cy ad P wy cl st tg) H → va_S A s.heap H locs → ∀ (ls : Array Slot), lv_has ls 12 [(9, .int (nI k)), (8, .int (nI (P.ln x))), (7, .ref (ad (30 + 2 * t))), (6, .ref (ad (30 + 2 * x))), (5, .ref (ad (30 + 2 * f))), (0, .ref (ad 0)), (1, .int (nI j)), (2, .int (nI q)), (3, .int (nI u)), (4, .int (0))] → W p_ l e_ (rm_ 3 69) s m_ args_ below meth cd H locs 0 0 Q (F0 m_ 103 ls []) := by
                intro n9
                induction n9 with
                | zero => intro k h1 h2; omega
                | succ n9 ih_lp =>
                  intro k hk1 hk2 cl tg hI hmv hsg htg H locs hH hS ls hl
                  refine lv_iload hx hb dX7_moveByIndex_103 (lv_at hl 0 rfl) ?_
                  refine lv_iload hx hb dX7_moveByIndex_105 (lv_at hl 1 rfl) ?_
                  refine lv_icmp_ge (tgt := 181) hx hb dX7_moveByIndex_107 (by decide) (fun c_107 => ?_) (fun c_107 => ?_)
                  · have c_107 := nc_le (a := (P.ln x)) (b := k) (by omega) (by omega) c_107
                    refine lv_iconst (v := 0) hx hb dX7_moveByIndex_181 (by decide) ?_
                    refine lv_istore (lv' := [(9, .int (0)), (8, .int (nI (P.ln x))), (7, .ref (ad (30 + 2 * t))), (6, .ref (ad (30 + 2 * x))), (5, .ref (ad (30 + 2 * f))), (0, .ref (ad 0)), (1, .int (nI j)), (2, .int (nI q)), (3, .int (nI u)), (4, .int (0))]) hx hb dX7_moveByIndex_182 hl (by decide) rfl (fun ls hl => ?_)
                    have hxk : P.ln x = k := by omega
                    have hz9 : mvR P f t (fun k => nI k) (fun k => (P.wh x k).toInt32) (P.ln x) = 0 := by rw [hxk]; exact hmv
                    rw [← hxk] at hsg htg
                    have hIq : ∀ i, i < P.ln x → ((fun i => cl (st i)) i).2.2.2 ≤ P.n := fun i hi => (hI.1 _ (by have := hI.2.1 i (by omega); omega)).2
                    have lq : ∀ (n9 k2 : Nat), k2 ≤ (P.ln x) → (P.ln x) < k2 + n9 → ∀   (H : Heap) (locs : List Loc), hp D A (30 + 2 * P.n) ad (hct cy ad (wgP P t (fun i => cN (tg i)) (fun i => cl (st i)) k2) wy cl st tg) H → va_S A s.heap H locs → ∀ (ls : Array Slot), lv_has ls 12 [(9, .int (nI k2)), (8, .int (nI (P.ln x))), (7, .ref (ad (30 + 2 * t))), (6, .ref (ad (30 + 2 * x))), (5, .ref (ad (30 + 2 * f))), (0, .ref (ad 0)), (1, .int (nI j)), (2, .int (nI q)), (3, .int (nI u)), (4, .int (0))] → W p_ l e_ (rm_ 3 69) s m_ args_ below meth cd H locs 0 0 Q (F0 m_ 184 ls []) := by
                      intro n9
                      induction n9 with
                      | zero => intro k2 h1 h2; omega
                      | succ n9 ih_lq =>
                        intro k2 hk1 hk2   H locs hH hS ls hl
                        refine lv_iload hx hb dX7_moveByIndex_184 (lv_at hl 0 rfl) ?_
                        refine lv_iload hx hb dX7_moveByIndex_186 (lv_at hl 1 rfl) ?_
                        refine lv_icmp_ge (tgt := 216) hx hb dX7_moveByIndex_188 (by decide) (fun c_188 => ?_) (fun c_188 => ?_)
                        · have c_188 := nc_le (a := (P.ln x)) (b := k2) (by omega) (by omega) c_188
                          refine lv_aload_n hx hb dX7_moveByIndex_216 rfl (lv_at hl 5 rfl) ?_
                          refine lv_iload hx hb dX7_moveByIndex_217 (lv_at hl 1 rfl) ?_
                          refine cm_V (As' := [.int (nI (P.ln x))]) (rest := []) hC (c_X7_done (P := wgP P t (fun i => cN (tg i)) (fun i => cl (st i)) k2)) mv_X7_done qM_X7_50 ⟨⟨rfl, rfl⟩, Nat.le_of_ble_eq_true rfl, Nat.le_of_ble_eq_true rfl⟩ hK hH hS hA (hp.recv hK hH (i := 0) (by omega) rfl rfl) hl.1 ⟨Nat.zero_le _, Nat.zero_le _⟩ rfl rfl (Nat.le_of_ble_eq_true rfl) dX7_moveByIndex_219 (fun H locs hH hS => ?_)
                          subst hQ
                          exact cx_ri hC hr hlk (hpost.mk (P := wgP P t (fun i => cN (tg i)) (fun i => cl (st i)) k2) (by show (if (0 : Int32) = 1 then sp_gather P _ _ _ else sp_scatter P _ _ _) = _; rw [if_neg (by decide)]; simp only [sp_scatter, isC_nI hja, isC_nI hjb, isC_nI hjd, cN_c hja, cN_c hjb, cN_c hjd, rs_3ok hqa hqb hqd, h1a, h1b, h1d, Nat.add_sub_cancel, and_self, if_true, tlP, c_54, if_pos (show P.ln x = P.ln f by omega)]; unfold sp_move; rw [if_pos hz9, ← mv_end hz (pos := fun i => cN (tg i)) hsg (fun i hi => by rw [htg i hi]), show P.ln x = k2 by omega]) (HI_n (P := P) hI rfl)) hH hS dX7_moveByIndex_222
                        · have c_188 := nc_nle (a := (P.ln x)) (b := k2) (by omega) (by omega) c_188
                          refine lv_aload hx hb dX7_moveByIndex_191 (lv_at hl 2 rfl) ?_
                          refine lv_aload_n hx hb dX7_moveByIndex_193 rfl (lv_at hl 5 rfl) ?_
                          refine g_get hC hK inG7 hH 0 (by omega) rfl (ci := 5) rfl 2 (by decide) qF_X7_22 (Or.inl rfl) rfl dX7_moveByIndex_194 ?_
                          refine lv_iload hx hb dX7_moveByIndex_197 (lv_at hl 0 rfl) ?_
                          refine gN_iald hC hK hH 3 (by omega) rfl k2 (by omega) dX7_moveByIndex_199 ?_
                          obtain ⟨hg1, hg2⟩ := hasP_c (P := P) (t := t) (i := tg k2) (by rw [htg k2 (by omega)]; exact (mvr_0 (mvR_at hz9 (by omega : k2 < P.ln x))).2)
                          have hsk2 := hI.2.1 k2 (by omega)
                          refine lv_chg (y := nI (cN (tg k2))) (hg1) ?_
                          refine lv_aload_n hx hb dX7_moveByIndex_200 rfl (lv_at hl 5 rfl) ?_
                          refine g_get hC hK inG7 hH 0 (by omega) rfl (ci := 5) rfl 1 (by decide) qF_X7_17 (Or.inl rfl) rfl dX7_moveByIndex_201 ?_
                          refine lv_iload hx hb dX7_moveByIndex_204 (lv_at hl 0 rfl) ?_
                          refine hr_sg (P := wgP P t (fun i => cN (tg i)) (fun i => cl (st i)) k2) hC hK hH k2 (by omega) dX7_moveByIndex_206 ?_
                          refine cm_R (As := [.int (nI (cN (tg k2))), .ref (ad (4 + st k2))]) (rest := []) (i := 30 + 2 * t) hC (rc_write (P := wgP P t (fun i => cN (tg i)) (fun i => cl (st i)) k2) (t := t) (i := (cN (tg k2))) (j := st k2) (WF_wg hw (fun i hi => hIq i (by omega))) (by omega) (by omega) (by omega) (by omega) (hIq k2 (by omega))) qM_X7_198 ⟨Nat.le_of_ble_eq_true rfl, Nat.le_of_ble_eq_true rfl⟩ hK hH hS hA hl.1 ⟨Nat.zero_le _, Nat.zero_le _⟩ rfl rfl (Nat.le_of_ble_eq_true rfl) dX7_moveByIndex_207 (fun H locs hH hS => ?_)
                          refine lv_iinc (v := nI (k2 + 1)) (lv' := [(9, .int (nI (k2 + 1))), (8, .int (nI (P.ln x))), (7, .ref (ad (30 + 2 * t))), (6, .ref (ad (30 + 2 * x))), (5, .ref (ad (30 + 2 * f))), (0, .ref (ad 0)), (1, .int (nI j)), (2, .int (nI q)), (3, .int (nI u)), (4, .int (0))]) hx hb dX7_moveByIndex_210 hl (k := 0) rfl (nI_1 _) (by decide) rfl (fun ls hl => ?_)
                          refine lv_goto (tgt := 184) hx hb dX7_moveByIndex_213 (by decide) ?_
                          exact ih_lq (k2 + 1) (by omega) (by omega)   _ _ hH hS ls (lv_sub hl [0, 1, 2, 3, 4, 5, 6, 7, 8, 9] rfl)
                    exact lq ((P.ln x) + 1) 0 (by omega) (by omega)   _ _ hH hS ls (lv_sub hl [0, 1, 2, 3, 4, 5, 6, 7, 8, 9] rfl)
                  · have c_107 := nc_nle (a := (P.ln x)) (b := k) (by omega) (by omega) c_107
                    refine lv_aload_n hx hb dX7_moveByIndex_110 rfl (lv_at hl 5 rfl) ?_
                    refine lv_aload hx hb dX7_moveByIndex_111 (lv_at hl 3 rfl) ?_
                    refine lv_iload hx hb dX7_moveByIndex_113 (lv_at hl 0 rfl) ?_
                    refine cm_V (As' := [.ref (ad (30 + 2 * x)), .int (nI k)]) (rest := []) hC (c_X7_indexAt (t := x) (k := k) hw (by omega) (by omega) (by omega) (by omega)) mv_X7_indexAt qM_X7_204 ⟨⟨rfl, rfl⟩, Nat.le_of_ble_eq_true rfl, Nat.le_of_ble_eq_true rfl⟩ hK hH hS hA (hp.recv hK hH (i := 0) (by omega) rfl rfl) hl.1 ⟨Nat.zero_le _, Nat.zero_le _⟩ rfl rfl (Nat.le_of_ble_eq_true rfl) dX7_moveByIndex_115 (fun H locs hH hS => ?_)
                    refine lv_istore (lv' := [(10, .int ((P.wh x k).toInt32)), (9, .int (nI k)), (8, .int (nI (P.ln x))), (7, .ref (ad (30 + 2 * t))), (6, .ref (ad (30 + 2 * x))), (5, .ref (ad (30 + 2 * f))), (0, .ref (ad 0)), (1, .int (nI j)), (2, .int (nI q)), (3, .int (nI u)), (4, .int (0))]) hx hb dX7_moveByIndex_118 hl (by decide) rfl (fun ls hl => ?_)
                    refine lv_aload_n hx hb dX7_moveByIndex_120 rfl (lv_at hl 6 rfl) ?_
                    refine g_get hC hK inG7 hH 0 (by omega) rfl (ci := 5) rfl 2 (by decide) qF_X7_22 (Or.inl rfl) rfl dX7_moveByIndex_121 ?_
                    refine lv_iload hx hb dX7_moveByIndex_124 (lv_at hl 1 rfl) ?_
                    refine lv_iload hx hb dX7_moveByIndex_126 (lv_at hl 10 rfl) ?_
                    refine lv_if_eq (tgt := 136) hx hb dX7_moveByIndex_128 (by decide) (fun c_128 => ?_) (fun c_128 => absurd c_128 (by decide))
                    refine lv_iload hx hb dX7_moveByIndex_136 (lv_at hl 0 rfl) ?_
                    refine gN_iast (ct' := hct cy ad P wy (va_up cl 24 (rdC P x k (cl 24))) st (upd tg k ((P.wh x k).toInt32))) hC hK hH hS 3 (by omega) rfl k (by omega) rfl hct_tg dX7_moveByIndex_138 (fun H locs hH hS => ?_)
                    refine lv_aload_n hx hb dX7_moveByIndex_139 rfl (lv_at hl 6 rfl) ?_
                    refine lv_aload hx hb dX7_moveByIndex_140 (lv_at hl 5 rfl) ?_
                    refine lv_iload hx hb dX7_moveByIndex_142 (lv_at hl 10 rfl) ?_
                    refine lv_if_eq (tgt := 152) hx hb dX7_moveByIndex_144 (by decide) (fun c_144 => ?_) (fun c_144 => absurd c_144 (by decide))
                    refine lv_iload hx hb dX7_moveByIndex_152 (lv_at hl 1 rfl) ?_
                    refine lv_aload hx hb dX7_moveByIndex_154 (lv_at hl 3 rfl) ?_
                    refine lv_iload hx hb dX7_moveByIndex_156 (lv_at hl 1 rfl) ?_
                    have hsk := hI.2.1 k (by omega)
                    refine cm_V (As' := [.ref (ad (30 + 2 * f)), .int (nI k), .ref (ad (30 + 2 * t)), .int (nI k)]) (rest := []) hC (c_X7_stageMove (f := f) (t := t) (k := k) hw (by omega) (by omega) (by omega) (by omega) (by omega) (by repeat' (first | exact hI | refine HI_up ?_ ?_ | refine cOK_rd hw ?_ (by omega) | refine cOK_td ?_ (by omega) | exact cOK_th (by omega) | refine HI_sm hw ?_ (by omega) (by omega) | refine HI_c (st := st) ?_ (by omega)))) mv_X7_stageMove qM_X7_208 ⟨⟨rfl, rfl⟩, Nat.le_of_ble_eq_true rfl, Nat.le_of_ble_eq_true rfl⟩ hK hH hS hA (hp.recv hK hH (i := 0) (by omega) rfl rfl) hl.1 ⟨Nat.zero_le _, Nat.zero_le _⟩ rfl rfl (Nat.le_of_ble_eq_true rfl) dX7_moveByIndex_158 (fun H locs hH hS => ?_)
                    refine lv_istore (lv' := [(11, .int (nI (smR P f t (nI k) ((upd tg k ((P.wh x k).toInt32)) k) ((va_up cl 24 (rdC P x k (cl 24))) (st k))))), (10, .int ((P.wh x k).toInt32)), (9, .int (nI k)), (8, .int (nI (P.ln x))), (7, .ref (ad (30 + 2 * t))), (6, .ref (ad (30 + 2 * x))), (5, .ref (ad (30 + 2 * f))), (0, .ref (ad 0)), (1, .int (nI j)), (2, .int (nI q)), (3, .int (nI u)), (4, .int (0))]) hx hb dX7_moveByIndex_161 hl (by decide) rfl (fun ls hl => ?_)
                    have htk : (upd tg k ((P.wh x k).toInt32)) k = (fun k => (P.wh x k).toInt32) k := by rw [upd_at]
                    have hmr : smR P f t (nI k) ((upd tg k ((P.wh x k).toInt32)) k) ((va_up cl 24 (rdC P x k (cl 24))) (st k)) = mvr P f t (fun k => nI k) (fun k => (P.wh x k).toInt32) k := by rw [htk]; exact sm_mv hw (fr := (fun k => nI k)) (tt := (fun k => (P.wh x k).toInt32))
                    have hle5 := smR_le P f t (nI k) ((upd tg k ((P.wh x k).toInt32)) k) ((va_up cl 24 (rdC P x k (cl 24))) (st k))
                    refine lv_iload hx hb dX7_moveByIndex_163 (lv_at hl 0 rfl) ?_
                    refine lv_if_eq (tgt := 175) hx hb dX7_moveByIndex_165 (by decide) (fun c_165 => ?_) (fun c_165 => ?_)
                    · have c_165 := nc_eq (a := (smR P f t (nI k) ((upd tg k ((P.wh x k).toInt32)) k) ((va_up cl 24 (rdC P x k (cl 24))) (st k)))) (b := 0) (by omega) (by omega) c_165
                      have hat := sm_at (cl := (va_up cl 24 (rdC P x k (cl 24)))) (j := st k) c_165
                      refine lv_iinc (v := nI (k + 1)) (lv' := [(9, .int (nI (k + 1))), (11, .int (nI (smR P f t (nI k) ((upd tg k ((P.wh x k).toInt32)) k) ((va_up cl 24 (rdC P x k (cl 24))) (st k))))), (10, .int ((P.wh x k).toInt32)), (8, .int (nI (P.ln x))), (7, .ref (ad (30 + 2 * t))), (6, .ref (ad (30 + 2 * x))), (5, .ref (ad (30 + 2 * f))), (0, .ref (ad 0)), (1, .int (nI j)), (2, .int (nI q)), (3, .int (nI u)), (4, .int (0))]) hx hb dX7_moveByIndex_175 hl (k := 2) rfl (nI_1 _) (by decide) rfl (fun ls hl => ?_)
                      refine lv_goto (tgt := 103) hx hb dX7_moveByIndex_178 (by decide) ?_
                      have a1 : HI P (smL P f t (nI k) ((upd tg k ((P.wh x k).toInt32)) k) (va_up cl 24 (rdC P x k (cl 24))) (st k)) st := HI_sm hw (HI_up hI (cOK_rd hw (hI.1 24 (by omega)) hkb)) (by omega) hka
                      have a2 : mvR P f t (fun k => nI k) (fun k => (P.wh x k).toInt32) (k + 1) = 0 := (mvR_s hmv).trans (hmr.symm.trans c_165)
                      have a30 : SGd P t (fun i => mvV P f t (cN ((fun k => nI k) i))) (va_up cl 24 (rdC P x k (cl 24))) st k := SG_24 hI (by omega) hsg (Nat.le_refl 24)
                      have a31 := rd_mv (x := va_up cl 24 (rdC P x k (cl 24)) (st k)) hw hz hka (mvr_go (hmr.symm.trans c_165))
                      have a3 : SGd P t (fun i => mvV P f t (cN ((fun k => nI k) i))) (smL P f t (nI k) ((upd tg k ((P.wh x k).toInt32)) k) (va_up cl 24 (rdC P x k (cl 24))) (st k)) st (k + 1) := by rw [hat.1]; exact SG_s (HI_up hI (cOK_rd hw (hI.1 24 (by omega)) hkb)) (by omega) a30 a31
                      have a4 : ∀ i, i < k + 1 → (upd tg k ((P.wh x k).toInt32)) i = (fun k => (P.wh x k).toInt32) i := fun i hi => by by_cases e9 : i = k; exact (by rw [e9]; exact htk); exact (by rw [upd_ne _ _ e9]; exact htg i (by omega))
                      exact ih_lp (k + 1) (by omega) (by omega) (smL P f t (nI k) ((upd tg k ((P.wh x k).toInt32)) k) (va_up cl 24 (rdC P x k (cl 24))) (st k)) (upd tg k ((P.wh x k).toInt32)) (a1) (a2) (a3) (a4) _ _ hH hS ls (lv_sub hl [0, 3, 4, 5, 6, 7, 8, 9, 10, 11] rfl)
                    · have c_165 := nc_ne (a := (smR P f t (nI k) ((upd tg k ((P.wh x k).toInt32)) k) ((va_up cl 24 (rdC P x k (cl 24))) (st k)))) (b := 0) (by omega) (by omega) c_165
                      refine lv_aload_n hx hb dX7_moveByIndex_168 rfl (lv_at hl 7 rfl) ?_
                      refine lv_iload hx hb dX7_moveByIndex_169 (lv_at hl 0 rfl) ?_
                      refine cm_V (As' := [.int (nI (smR P f t (nI k) ((upd tg k ((P.wh x k).toInt32)) k) ((va_up cl 24 (rdC P x k (cl 24))) (st k))))]) (rest := []) hC (c_X7_refuse) mv_X7_refuse qM_X7_41 ⟨⟨rfl, rfl⟩, Nat.le_of_ble_eq_true rfl, Nat.le_of_ble_eq_true rfl⟩ hK hH hS hA (hp.recv hK hH (i := 0) (by omega) rfl rfl) hl.1 ⟨Nat.zero_le _, Nat.zero_le _⟩ rfl rfl (Nat.le_of_ble_eq_true rfl) dX7_moveByIndex_171 (fun H locs hH hS => ?_)
                      subst hQ
                      exact cx_ri hC hr hlk (hpost.mk (by show (if (0 : Int32) = 1 then sp_gather P _ _ _ else sp_scatter P _ _ _) = _; rw [if_neg (by decide)]; simp only [sp_scatter, isC_nI hja, isC_nI hjb, isC_nI hjd, cN_c hja, cN_c hjb, cN_c hjd, rs_3ok hqa hqb hqd, h1a, h1b, h1d, Nat.add_sub_cancel, and_self, if_true, tlP, c_54, if_pos (show P.ln x = P.ln f by omega)]; unfold sp_move; rw [mvR_end hmv (show k < P.ln x by omega) hmr.symm c_165, if_neg c_165]; rfl) (by repeat' (first | exact hI | refine HI_up ?_ ?_ | refine cOK_rd hw ?_ (by omega) | refine cOK_td ?_ (by omega) | exact cOK_th (by omega) | refine HI_sm hw ?_ (by omega) (by omega) | refine HI_c (st := st) ?_ (by omega)))) hH hS dX7_moveByIndex_174
              exact lp ((P.ln x) + 1) 0 (by omega) (by omega) cl tg (hI) (rfl) (fun i hi => absurd hi (Nat.not_lt_zero i)) (fun i hi => absurd hi (Nat.not_lt_zero i)) _ _ hH hS ls (lv_sub hl [0, 1, 2, 3, 4, 5, 6, 7, 8, 9] rfl)
            · have c_91 := nc_ne (a := (P.ln x)) (b := (P.ln f)) (by omega) (by omega) c_91
              refine lv_aload_n hx hb dX7_moveByIndex_94 rfl (lv_at hl 4 rfl) ?_
              refine lv_iconst (v := 4) hx hb dX7_moveByIndex_95 (by decide) ?_
              refine cm_V (As' := [.int (4)]) (rest := []) hC (c_X7_refuse) mv_X7_refuse qM_X7_41 ⟨⟨rfl, rfl⟩, Nat.le_of_ble_eq_true rfl, Nat.le_of_ble_eq_true rfl⟩ hK hH hS hA (hp.recv hK hH (i := 0) (by omega) rfl rfl) hl.1 ⟨Nat.zero_le _, Nat.zero_le _⟩ rfl rfl (Nat.le_of_ble_eq_true rfl) dX7_moveByIndex_96 (fun H locs hH hS => ?_)
              subst hQ
              exact cx_ri hC hr hlk (hpost.mk (by show (if (0 : Int32) = 1 then sp_gather P _ _ _ else sp_scatter P _ _ _) = _; rw [if_neg (by decide)]; simp only [sp_scatter, isC_nI hja, isC_nI hjb, isC_nI hjd, cN_c hja, cN_c hjb, cN_c hjd, rs_3ok hqa hqb hqd, h1a, h1b, h1d, Nat.add_sub_cancel, and_self, if_true, tlP, c_54, if_neg (show ¬ P.ln x = P.ln f by omega)]; rfl) (by repeat' (first | exact hI | refine HI_up ?_ ?_ | refine cOK_rd hw ?_ (by omega) | refine cOK_td ?_ (by omega) | exact cOK_th (by omega) | refine HI_sm hw ?_ (by omega) (by omega) | refine HI_c (st := st) ?_ (by omega)))) hH hS dX7_moveByIndex_99
          · have c_54 := b2i_f c_54
            refine lv_aload_n hx hb dX7_moveByIndex_57 rfl (lv_at hl 3 rfl) ?_
            refine lv_bipush (v := 6) hx hb dX7_moveByIndex_58 (by decide) ?_
            refine cm_V (As' := [.int (6)]) (rest := []) hC (c_X7_refuse) mv_X7_refuse qM_X7_41 ⟨⟨rfl, rfl⟩, Nat.le_of_ble_eq_true rfl, Nat.le_of_ble_eq_true rfl⟩ hK hH hS hA (hp.recv hK hH (i := 0) (by omega) rfl rfl) hl.1 ⟨Nat.zero_le _, Nat.zero_le _⟩ rfl rfl (Nat.le_of_ble_eq_true rfl) dX7_moveByIndex_60 (fun H locs hH hS => ?_)
            subst hQ
            exact cx_ri hC hr hlk (hpost.mk (by show (if (0 : Int32) = 1 then sp_gather P _ _ _ else sp_scatter P _ _ _) = _; rw [if_neg (by decide)]; simp only [sp_scatter, isC_nI hja, isC_nI hjb, isC_nI hjd, cN_c hja, cN_c hjb, cN_c hjd, rs_3ok hqa hqb hqd, h1a, h1b, h1d, Nat.add_sub_cancel, and_self, if_true, tlP, c_54, Bool.false_eq_true, if_false]; rfl) (by repeat' (first | exact hI | refine HI_up ?_ ?_ | refine cOK_rd hw ?_ (by omega) | refine cOK_td ?_ (by omega) | exact cOK_th (by omega) | refine HI_sm hw ?_ (by omega) (by omega) | refine HI_c (st := st) ?_ (by omega)))) hH hS dX7_moveByIndex_63
  · have hl : lv_has ls 12 [(0, .ref (ad 0)), (1, .int (c)), (2, .int (d)), (3, .int (e)), (4, .int (1))] := hl
    refine lv_aload_n hx hb dX7_moveByIndex_0 rfl (lv_at hl 0 rfl) ?_
    refine lv_iload_n hx hb dX7_moveByIndex_1 rfl (lv_at hl 1 rfl) ?_
    refine cm_V (As' := [.int (c)]) (rest := []) hC (c_X7_rowIn hw) mv_X7_rowIn qM_X7_61 ⟨⟨rfl, rfl⟩, Nat.le_of_ble_eq_true rfl, Nat.le_of_ble_eq_true rfl⟩ hK hH hS hA (hp.recv hK hH (i := 0) (by omega) rfl rfl) hl.1 ⟨Nat.zero_le _, Nat.zero_le _⟩ rfl rfl (Nat.le_of_ble_eq_true rfl) dX7_moveByIndex_2 (fun H locs hH hS => ?_)
    rcases rw_cases P ad c with ⟨hna, hra⟩ | ⟨j, f, hja, rfl, h1a, hka, hra, hna⟩
    · refine W.eq (g2 := F0 m_ 5 ls (.null :: [])) (by rw [hna]; rfl) ?_
      refine lv_astoreN (lv' := [(5, .null), (0, .ref (ad 0)), (1, .int (c)), (2, .int (d)), (3, .int (e)), (4, .int (1))]) hx hb dX7_moveByIndex_5 hl (by decide) rfl (fun ls hl => ?_)
      refine lv_aload_n hx hb dX7_moveByIndex_7 rfl (lv_at hl 1 rfl) ?_
      refine lv_iload_n hx hb dX7_moveByIndex_8 rfl (lv_at hl 3 rfl) ?_
      refine cm_V (As' := [.int (d)]) (rest := []) hC (c_X7_rowIn hw) mv_X7_rowIn qM_X7_61 ⟨⟨rfl, rfl⟩, Nat.le_of_ble_eq_true rfl, Nat.le_of_ble_eq_true rfl⟩ hK hH hS hA (hp.recv hK hH (i := 0) (by omega) rfl rfl) hl.1 ⟨Nat.zero_le _, Nat.zero_le _⟩ rfl rfl (Nat.le_of_ble_eq_true rfl) dX7_moveByIndex_9 (fun H locs hH hS => ?_)
      rcases rw_cases P ad d with ⟨hnb, hrb⟩ | ⟨q, x, hjb, rfl, h1b, hkb, hrb, hnb⟩
      · refine W.eq (g2 := F0 m_ 12 ls (.null :: [])) (by rw [hnb]; rfl) ?_
        refine lv_astoreN (lv' := [(6, .null), (5, .null), (0, .ref (ad 0)), (1, .int (c)), (2, .int (d)), (3, .int (e)), (4, .int (1))]) hx hb dX7_moveByIndex_12 hl (by decide) rfl (fun ls hl => ?_)
        refine lv_aload_n hx hb dX7_moveByIndex_14 rfl (lv_at hl 2 rfl) ?_
        refine lv_iload_n hx hb dX7_moveByIndex_15 rfl (lv_at hl 5 rfl) ?_
        refine cm_V (As' := [.int (e)]) (rest := []) hC (c_X7_rowIn hw) mv_X7_rowIn qM_X7_61 ⟨⟨rfl, rfl⟩, Nat.le_of_ble_eq_true rfl, Nat.le_of_ble_eq_true rfl⟩ hK hH hS hA (hp.recv hK hH (i := 0) (by omega) rfl rfl) hl.1 ⟨Nat.zero_le _, Nat.zero_le _⟩ rfl rfl (Nat.le_of_ble_eq_true rfl) dX7_moveByIndex_16 (fun H locs hH hS => ?_)
        rcases rw_cases P ad e with ⟨hnd, hrd⟩ | ⟨u, t, hjd, rfl, h1d, hkd, hrd, hnd⟩
        · refine W.eq (g2 := F0 m_ 19 ls (.null :: [])) (by rw [hnd]; rfl) ?_
          refine lv_astoreN (lv' := [(7, .null), (6, .null), (5, .null), (0, .ref (ad 0)), (1, .int (c)), (2, .int (d)), (3, .int (e)), (4, .int (1))]) hx hb dX7_moveByIndex_19 hl (by decide) rfl (fun ls hl => ?_)
          refine lv_aloadN hx hb dX7_moveByIndex_21 (lv_at hl 2 rfl) ?_
          refine lv_ifnullN (tgt := 36) hx hb dX7_moveByIndex_23 (by decide) ?_
          refine lv_aload_n hx hb dX7_moveByIndex_36 rfl (lv_at hl 3 rfl) ?_
          refine lv_aload_n hx hb dX7_moveByIndex_37 rfl (lv_at hl 3 rfl) ?_
          refine lv_iload_n hx hb dX7_moveByIndex_38 rfl (lv_at hl 4 rfl) ?_
          refine lv_iload_n hx hb dX7_moveByIndex_39 rfl (lv_at hl 5 rfl) ?_
          refine lv_iload_n hx hb dX7_moveByIndex_40 rfl (lv_at hl 6 rfl) ?_
          refine cm_V (As' := [.int (c), .int (d), .int (e)]) (rest := [.ref (ad 0)]) hC (c_X7_rowsAmiss hw) mv_X7_rowsAmiss qM_X7_151 ⟨⟨rfl, rfl⟩, Nat.le_of_ble_eq_true rfl, Nat.le_of_ble_eq_true rfl⟩ hK hH hS hA (hp.recv hK hH (i := 0) (by omega) rfl rfl) hl.1 ⟨Nat.zero_le _, Nat.zero_le _⟩ rfl rfl (Nat.le_of_ble_eq_true rfl) dX7_moveByIndex_41 (fun H locs hH hS => ?_)
          refine cm_V (As' := [.int (nI (earl (rsA P c) (earl (rsA P d) (rsA P e))))]) (rest := []) hC (c_X7_refuse) mv_X7_refuse qM_X7_41 ⟨⟨rfl, rfl⟩, Nat.le_of_ble_eq_true rfl, Nat.le_of_ble_eq_true rfl⟩ hK hH hS hA (hp.recv hK hH (i := 0) (by omega) rfl rfl) hl.1 ⟨Nat.zero_le _, Nat.zero_le _⟩ rfl rfl (Nat.le_of_ble_eq_true rfl) dX7_moveByIndex_44 (fun H locs hH hS => ?_)
          subst hQ
          exact cx_ri hC hr hlk (hpost.mk (by show (if (1 : Int32) = 1 then sp_gather P _ _ _ else sp_scatter P _ _ _) = _; rw [if_pos rfl]; unfold sp_gather; exact rf3 (by omega)) (by repeat' (first | exact hI | refine HI_up ?_ ?_ | refine cOK_rd hw ?_ (by omega) | refine cOK_td ?_ (by omega) | exact cOK_th (by omega) | refine HI_sm hw ?_ (by omega) (by omega) | refine HI_c (st := st) ?_ (by omega)))) hH hS dX7_moveByIndex_47
        · have hqd : rsRow P u = 0 := by rw [← rsA_j hjd]; exact hrd
          have htd : t < P.n := by have := hw.2.2.2.1 u; omega
          have hlnd := hw.2.1 t
          refine W.eq (g2 := F0 m_ 19 ls (.ref (ad (30 + 2 * t)) :: [])) (by rw [hnd]; rfl) ?_
          refine lv_astore (lv' := [(7, .ref (ad (30 + 2 * t))), (6, .null), (5, .null), (0, .ref (ad 0)), (1, .int (c)), (2, .int (d)), (3, .int (nI u)), (4, .int (1))]) hx hb dX7_moveByIndex_19 hl (by decide) rfl (fun ls hl => ?_)
          refine lv_aloadN hx hb dX7_moveByIndex_21 (lv_at hl 2 rfl) ?_
          refine lv_ifnullN (tgt := 36) hx hb dX7_moveByIndex_23 (by decide) ?_
          refine lv_aload_n hx hb dX7_moveByIndex_36 rfl (lv_at hl 3 rfl) ?_
          refine lv_aload_n hx hb dX7_moveByIndex_37 rfl (lv_at hl 3 rfl) ?_
          refine lv_iload_n hx hb dX7_moveByIndex_38 rfl (lv_at hl 4 rfl) ?_
          refine lv_iload_n hx hb dX7_moveByIndex_39 rfl (lv_at hl 5 rfl) ?_
          refine lv_iload_n hx hb dX7_moveByIndex_40 rfl (lv_at hl 6 rfl) ?_
          refine cm_V (As' := [.int (c), .int (d), .int (nI u)]) (rest := [.ref (ad 0)]) hC (c_X7_rowsAmiss hw) mv_X7_rowsAmiss qM_X7_151 ⟨⟨rfl, rfl⟩, Nat.le_of_ble_eq_true rfl, Nat.le_of_ble_eq_true rfl⟩ hK hH hS hA (hp.recv hK hH (i := 0) (by omega) rfl rfl) hl.1 ⟨Nat.zero_le _, Nat.zero_le _⟩ rfl rfl (Nat.le_of_ble_eq_true rfl) dX7_moveByIndex_41 (fun H locs hH hS => ?_)
          refine cm_V (As' := [.int (nI (earl (rsA P c) (earl (rsA P d) (rsA P (nI u)))))]) (rest := []) hC (c_X7_refuse) mv_X7_refuse qM_X7_41 ⟨⟨rfl, rfl⟩, Nat.le_of_ble_eq_true rfl, Nat.le_of_ble_eq_true rfl⟩ hK hH hS hA (hp.recv hK hH (i := 0) (by omega) rfl rfl) hl.1 ⟨Nat.zero_le _, Nat.zero_le _⟩ rfl rfl (Nat.le_of_ble_eq_true rfl) dX7_moveByIndex_44 (fun H locs hH hS => ?_)
          subst hQ
          exact cx_ri hC hr hlk (hpost.mk (by show (if (1 : Int32) = 1 then sp_gather P _ _ _ else sp_scatter P _ _ _) = _; rw [if_pos rfl]; unfold sp_gather; exact rf3 (by omega)) (by repeat' (first | exact hI | refine HI_up ?_ ?_ | refine cOK_rd hw ?_ (by omega) | refine cOK_td ?_ (by omega) | exact cOK_th (by omega) | refine HI_sm hw ?_ (by omega) (by omega) | refine HI_c (st := st) ?_ (by omega)))) hH hS dX7_moveByIndex_47
      · have hqb : rsRow P q = 0 := by rw [← rsA_j hjb]; exact hrb
        have htb : x < P.n := by have := hw.2.2.2.1 q; omega
        have hlnb := hw.2.1 x
        refine W.eq (g2 := F0 m_ 12 ls (.ref (ad (30 + 2 * x)) :: [])) (by rw [hnb]; rfl) ?_
        refine lv_astore (lv' := [(6, .ref (ad (30 + 2 * x))), (5, .null), (0, .ref (ad 0)), (1, .int (c)), (2, .int (nI q)), (3, .int (e)), (4, .int (1))]) hx hb dX7_moveByIndex_12 hl (by decide) rfl (fun ls hl => ?_)
        refine lv_aload_n hx hb dX7_moveByIndex_14 rfl (lv_at hl 2 rfl) ?_
        refine lv_iload_n hx hb dX7_moveByIndex_15 rfl (lv_at hl 5 rfl) ?_
        refine cm_V (As' := [.int (e)]) (rest := []) hC (c_X7_rowIn hw) mv_X7_rowIn qM_X7_61 ⟨⟨rfl, rfl⟩, Nat.le_of_ble_eq_true rfl, Nat.le_of_ble_eq_true rfl⟩ hK hH hS hA (hp.recv hK hH (i := 0) (by omega) rfl rfl) hl.1 ⟨Nat.zero_le _, Nat.zero_le _⟩ rfl rfl (Nat.le_of_ble_eq_true rfl) dX7_moveByIndex_16 (fun H locs hH hS => ?_)
        rcases rw_cases P ad e with ⟨hnd, hrd⟩ | ⟨u, t, hjd, rfl, h1d, hkd, hrd, hnd⟩
        · refine W.eq (g2 := F0 m_ 19 ls (.null :: [])) (by rw [hnd]; rfl) ?_
          refine lv_astoreN (lv' := [(7, .null), (6, .ref (ad (30 + 2 * x))), (5, .null), (0, .ref (ad 0)), (1, .int (c)), (2, .int (nI q)), (3, .int (e)), (4, .int (1))]) hx hb dX7_moveByIndex_19 hl (by decide) rfl (fun ls hl => ?_)
          refine lv_aloadN hx hb dX7_moveByIndex_21 (lv_at hl 2 rfl) ?_
          refine lv_ifnullN (tgt := 36) hx hb dX7_moveByIndex_23 (by decide) ?_
          refine lv_aload_n hx hb dX7_moveByIndex_36 rfl (lv_at hl 3 rfl) ?_
          refine lv_aload_n hx hb dX7_moveByIndex_37 rfl (lv_at hl 3 rfl) ?_
          refine lv_iload_n hx hb dX7_moveByIndex_38 rfl (lv_at hl 4 rfl) ?_
          refine lv_iload_n hx hb dX7_moveByIndex_39 rfl (lv_at hl 5 rfl) ?_
          refine lv_iload_n hx hb dX7_moveByIndex_40 rfl (lv_at hl 6 rfl) ?_
          refine cm_V (As' := [.int (c), .int (nI q), .int (e)]) (rest := [.ref (ad 0)]) hC (c_X7_rowsAmiss hw) mv_X7_rowsAmiss qM_X7_151 ⟨⟨rfl, rfl⟩, Nat.le_of_ble_eq_true rfl, Nat.le_of_ble_eq_true rfl⟩ hK hH hS hA (hp.recv hK hH (i := 0) (by omega) rfl rfl) hl.1 ⟨Nat.zero_le _, Nat.zero_le _⟩ rfl rfl (Nat.le_of_ble_eq_true rfl) dX7_moveByIndex_41 (fun H locs hH hS => ?_)
          refine cm_V (As' := [.int (nI (earl (rsA P c) (earl (rsA P (nI q)) (rsA P e))))]) (rest := []) hC (c_X7_refuse) mv_X7_refuse qM_X7_41 ⟨⟨rfl, rfl⟩, Nat.le_of_ble_eq_true rfl, Nat.le_of_ble_eq_true rfl⟩ hK hH hS hA (hp.recv hK hH (i := 0) (by omega) rfl rfl) hl.1 ⟨Nat.zero_le _, Nat.zero_le _⟩ rfl rfl (Nat.le_of_ble_eq_true rfl) dX7_moveByIndex_44 (fun H locs hH hS => ?_)
          subst hQ
          exact cx_ri hC hr hlk (hpost.mk (by show (if (1 : Int32) = 1 then sp_gather P _ _ _ else sp_scatter P _ _ _) = _; rw [if_pos rfl]; unfold sp_gather; exact rf3 (by omega)) (by repeat' (first | exact hI | refine HI_up ?_ ?_ | refine cOK_rd hw ?_ (by omega) | refine cOK_td ?_ (by omega) | exact cOK_th (by omega) | refine HI_sm hw ?_ (by omega) (by omega) | refine HI_c (st := st) ?_ (by omega)))) hH hS dX7_moveByIndex_47
        · have hqd : rsRow P u = 0 := by rw [← rsA_j hjd]; exact hrd
          have htd : t < P.n := by have := hw.2.2.2.1 u; omega
          have hlnd := hw.2.1 t
          refine W.eq (g2 := F0 m_ 19 ls (.ref (ad (30 + 2 * t)) :: [])) (by rw [hnd]; rfl) ?_
          refine lv_astore (lv' := [(7, .ref (ad (30 + 2 * t))), (6, .ref (ad (30 + 2 * x))), (5, .null), (0, .ref (ad 0)), (1, .int (c)), (2, .int (nI q)), (3, .int (nI u)), (4, .int (1))]) hx hb dX7_moveByIndex_19 hl (by decide) rfl (fun ls hl => ?_)
          refine lv_aloadN hx hb dX7_moveByIndex_21 (lv_at hl 2 rfl) ?_
          refine lv_ifnullN (tgt := 36) hx hb dX7_moveByIndex_23 (by decide) ?_
          refine lv_aload_n hx hb dX7_moveByIndex_36 rfl (lv_at hl 3 rfl) ?_
          refine lv_aload_n hx hb dX7_moveByIndex_37 rfl (lv_at hl 3 rfl) ?_
          refine lv_iload_n hx hb dX7_moveByIndex_38 rfl (lv_at hl 4 rfl) ?_
          refine lv_iload_n hx hb dX7_moveByIndex_39 rfl (lv_at hl 5 rfl) ?_
          refine lv_iload_n hx hb dX7_moveByIndex_40 rfl (lv_at hl 6 rfl) ?_
          refine cm_V (As' := [.int (c), .int (nI q), .int (nI u)]) (rest := [.ref (ad 0)]) hC (c_X7_rowsAmiss hw) mv_X7_rowsAmiss qM_X7_151 ⟨⟨rfl, rfl⟩, Nat.le_of_ble_eq_true rfl, Nat.le_of_ble_eq_true rfl⟩ hK hH hS hA (hp.recv hK hH (i := 0) (by omega) rfl rfl) hl.1 ⟨Nat.zero_le _, Nat.zero_le _⟩ rfl rfl (Nat.le_of_ble_eq_true rfl) dX7_moveByIndex_41 (fun H locs hH hS => ?_)
          refine cm_V (As' := [.int (nI (earl (rsA P c) (earl (rsA P (nI q)) (rsA P (nI u)))))]) (rest := []) hC (c_X7_refuse) mv_X7_refuse qM_X7_41 ⟨⟨rfl, rfl⟩, Nat.le_of_ble_eq_true rfl, Nat.le_of_ble_eq_true rfl⟩ hK hH hS hA (hp.recv hK hH (i := 0) (by omega) rfl rfl) hl.1 ⟨Nat.zero_le _, Nat.zero_le _⟩ rfl rfl (Nat.le_of_ble_eq_true rfl) dX7_moveByIndex_44 (fun H locs hH hS => ?_)
          subst hQ
          exact cx_ri hC hr hlk (hpost.mk (by show (if (1 : Int32) = 1 then sp_gather P _ _ _ else sp_scatter P _ _ _) = _; rw [if_pos rfl]; unfold sp_gather; exact rf3 (by omega)) (by repeat' (first | exact hI | refine HI_up ?_ ?_ | refine cOK_rd hw ?_ (by omega) | refine cOK_td ?_ (by omega) | exact cOK_th (by omega) | refine HI_sm hw ?_ (by omega) (by omega) | refine HI_c (st := st) ?_ (by omega)))) hH hS dX7_moveByIndex_47
    · have hqa : rsRow P j = 0 := by rw [← rsA_j hja]; exact hra
      have hta : f < P.n := by have := hw.2.2.2.1 j; omega
      have hlna := hw.2.1 f
      refine W.eq (g2 := F0 m_ 5 ls (.ref (ad (30 + 2 * f)) :: [])) (by rw [hna]; rfl) ?_
      refine lv_astore (lv' := [(5, .ref (ad (30 + 2 * f))), (0, .ref (ad 0)), (1, .int (nI j)), (2, .int (d)), (3, .int (e)), (4, .int (1))]) hx hb dX7_moveByIndex_5 hl (by decide) rfl (fun ls hl => ?_)
      refine lv_aload_n hx hb dX7_moveByIndex_7 rfl (lv_at hl 1 rfl) ?_
      refine lv_iload_n hx hb dX7_moveByIndex_8 rfl (lv_at hl 3 rfl) ?_
      refine cm_V (As' := [.int (d)]) (rest := []) hC (c_X7_rowIn hw) mv_X7_rowIn qM_X7_61 ⟨⟨rfl, rfl⟩, Nat.le_of_ble_eq_true rfl, Nat.le_of_ble_eq_true rfl⟩ hK hH hS hA (hp.recv hK hH (i := 0) (by omega) rfl rfl) hl.1 ⟨Nat.zero_le _, Nat.zero_le _⟩ rfl rfl (Nat.le_of_ble_eq_true rfl) dX7_moveByIndex_9 (fun H locs hH hS => ?_)
      rcases rw_cases P ad d with ⟨hnb, hrb⟩ | ⟨q, x, hjb, rfl, h1b, hkb, hrb, hnb⟩
      · refine W.eq (g2 := F0 m_ 12 ls (.null :: [])) (by rw [hnb]; rfl) ?_
        refine lv_astoreN (lv' := [(6, .null), (5, .ref (ad (30 + 2 * f))), (0, .ref (ad 0)), (1, .int (nI j)), (2, .int (d)), (3, .int (e)), (4, .int (1))]) hx hb dX7_moveByIndex_12 hl (by decide) rfl (fun ls hl => ?_)
        refine lv_aload_n hx hb dX7_moveByIndex_14 rfl (lv_at hl 2 rfl) ?_
        refine lv_iload_n hx hb dX7_moveByIndex_15 rfl (lv_at hl 5 rfl) ?_
        refine cm_V (As' := [.int (e)]) (rest := []) hC (c_X7_rowIn hw) mv_X7_rowIn qM_X7_61 ⟨⟨rfl, rfl⟩, Nat.le_of_ble_eq_true rfl, Nat.le_of_ble_eq_true rfl⟩ hK hH hS hA (hp.recv hK hH (i := 0) (by omega) rfl rfl) hl.1 ⟨Nat.zero_le _, Nat.zero_le _⟩ rfl rfl (Nat.le_of_ble_eq_true rfl) dX7_moveByIndex_16 (fun H locs hH hS => ?_)
        rcases rw_cases P ad e with ⟨hnd, hrd⟩ | ⟨u, t, hjd, rfl, h1d, hkd, hrd, hnd⟩
        · refine W.eq (g2 := F0 m_ 19 ls (.null :: [])) (by rw [hnd]; rfl) ?_
          refine lv_astoreN (lv' := [(7, .null), (6, .null), (5, .ref (ad (30 + 2 * f))), (0, .ref (ad 0)), (1, .int (nI j)), (2, .int (d)), (3, .int (e)), (4, .int (1))]) hx hb dX7_moveByIndex_19 hl (by decide) rfl (fun ls hl => ?_)
          refine lv_aload hx hb dX7_moveByIndex_21 (lv_at hl 2 rfl) ?_
          refine lv_ifnull hx hb dX7_moveByIndex_23 ?_
          refine lv_aloadN hx hb dX7_moveByIndex_26 (lv_at hl 1 rfl) ?_
          refine lv_ifnullN (tgt := 36) hx hb dX7_moveByIndex_28 (by decide) ?_
          refine lv_aload_n hx hb dX7_moveByIndex_36 rfl (lv_at hl 3 rfl) ?_
          refine lv_aload_n hx hb dX7_moveByIndex_37 rfl (lv_at hl 3 rfl) ?_
          refine lv_iload_n hx hb dX7_moveByIndex_38 rfl (lv_at hl 4 rfl) ?_
          refine lv_iload_n hx hb dX7_moveByIndex_39 rfl (lv_at hl 5 rfl) ?_
          refine lv_iload_n hx hb dX7_moveByIndex_40 rfl (lv_at hl 6 rfl) ?_
          refine cm_V (As' := [.int (nI j), .int (d), .int (e)]) (rest := [.ref (ad 0)]) hC (c_X7_rowsAmiss hw) mv_X7_rowsAmiss qM_X7_151 ⟨⟨rfl, rfl⟩, Nat.le_of_ble_eq_true rfl, Nat.le_of_ble_eq_true rfl⟩ hK hH hS hA (hp.recv hK hH (i := 0) (by omega) rfl rfl) hl.1 ⟨Nat.zero_le _, Nat.zero_le _⟩ rfl rfl (Nat.le_of_ble_eq_true rfl) dX7_moveByIndex_41 (fun H locs hH hS => ?_)
          refine cm_V (As' := [.int (nI (earl (rsA P (nI j)) (earl (rsA P d) (rsA P e))))]) (rest := []) hC (c_X7_refuse) mv_X7_refuse qM_X7_41 ⟨⟨rfl, rfl⟩, Nat.le_of_ble_eq_true rfl, Nat.le_of_ble_eq_true rfl⟩ hK hH hS hA (hp.recv hK hH (i := 0) (by omega) rfl rfl) hl.1 ⟨Nat.zero_le _, Nat.zero_le _⟩ rfl rfl (Nat.le_of_ble_eq_true rfl) dX7_moveByIndex_44 (fun H locs hH hS => ?_)
          subst hQ
          exact cx_ri hC hr hlk (hpost.mk (by show (if (1 : Int32) = 1 then sp_gather P _ _ _ else sp_scatter P _ _ _) = _; rw [if_pos rfl]; unfold sp_gather; exact rf3 (by omega)) (by repeat' (first | exact hI | refine HI_up ?_ ?_ | refine cOK_rd hw ?_ (by omega) | refine cOK_td ?_ (by omega) | exact cOK_th (by omega) | refine HI_sm hw ?_ (by omega) (by omega) | refine HI_c (st := st) ?_ (by omega)))) hH hS dX7_moveByIndex_47
        · have hqd : rsRow P u = 0 := by rw [← rsA_j hjd]; exact hrd
          have htd : t < P.n := by have := hw.2.2.2.1 u; omega
          have hlnd := hw.2.1 t
          refine W.eq (g2 := F0 m_ 19 ls (.ref (ad (30 + 2 * t)) :: [])) (by rw [hnd]; rfl) ?_
          refine lv_astore (lv' := [(7, .ref (ad (30 + 2 * t))), (6, .null), (5, .ref (ad (30 + 2 * f))), (0, .ref (ad 0)), (1, .int (nI j)), (2, .int (d)), (3, .int (nI u)), (4, .int (1))]) hx hb dX7_moveByIndex_19 hl (by decide) rfl (fun ls hl => ?_)
          refine lv_aload hx hb dX7_moveByIndex_21 (lv_at hl 2 rfl) ?_
          refine lv_ifnull hx hb dX7_moveByIndex_23 ?_
          refine lv_aloadN hx hb dX7_moveByIndex_26 (lv_at hl 1 rfl) ?_
          refine lv_ifnullN (tgt := 36) hx hb dX7_moveByIndex_28 (by decide) ?_
          refine lv_aload_n hx hb dX7_moveByIndex_36 rfl (lv_at hl 3 rfl) ?_
          refine lv_aload_n hx hb dX7_moveByIndex_37 rfl (lv_at hl 3 rfl) ?_
          refine lv_iload_n hx hb dX7_moveByIndex_38 rfl (lv_at hl 4 rfl) ?_
          refine lv_iload_n hx hb dX7_moveByIndex_39 rfl (lv_at hl 5 rfl) ?_
          refine lv_iload_n hx hb dX7_moveByIndex_40 rfl (lv_at hl 6 rfl) ?_
          refine cm_V (As' := [.int (nI j), .int (d), .int (nI u)]) (rest := [.ref (ad 0)]) hC (c_X7_rowsAmiss hw) mv_X7_rowsAmiss qM_X7_151 ⟨⟨rfl, rfl⟩, Nat.le_of_ble_eq_true rfl, Nat.le_of_ble_eq_true rfl⟩ hK hH hS hA (hp.recv hK hH (i := 0) (by omega) rfl rfl) hl.1 ⟨Nat.zero_le _, Nat.zero_le _⟩ rfl rfl (Nat.le_of_ble_eq_true rfl) dX7_moveByIndex_41 (fun H locs hH hS => ?_)
          refine cm_V (As' := [.int (nI (earl (rsA P (nI j)) (earl (rsA P d) (rsA P (nI u)))))]) (rest := []) hC (c_X7_refuse) mv_X7_refuse qM_X7_41 ⟨⟨rfl, rfl⟩, Nat.le_of_ble_eq_true rfl, Nat.le_of_ble_eq_true rfl⟩ hK hH hS hA (hp.recv hK hH (i := 0) (by omega) rfl rfl) hl.1 ⟨Nat.zero_le _, Nat.zero_le _⟩ rfl rfl (Nat.le_of_ble_eq_true rfl) dX7_moveByIndex_44 (fun H locs hH hS => ?_)
          subst hQ
          exact cx_ri hC hr hlk (hpost.mk (by show (if (1 : Int32) = 1 then sp_gather P _ _ _ else sp_scatter P _ _ _) = _; rw [if_pos rfl]; unfold sp_gather; exact rf3 (by omega)) (by repeat' (first | exact hI | refine HI_up ?_ ?_ | refine cOK_rd hw ?_ (by omega) | refine cOK_td ?_ (by omega) | exact cOK_th (by omega) | refine HI_sm hw ?_ (by omega) (by omega) | refine HI_c (st := st) ?_ (by omega)))) hH hS dX7_moveByIndex_47
      · have hqb : rsRow P q = 0 := by rw [← rsA_j hjb]; exact hrb
        have htb : x < P.n := by have := hw.2.2.2.1 q; omega
        have hlnb := hw.2.1 x
        refine W.eq (g2 := F0 m_ 12 ls (.ref (ad (30 + 2 * x)) :: [])) (by rw [hnb]; rfl) ?_
        refine lv_astore (lv' := [(6, .ref (ad (30 + 2 * x))), (5, .ref (ad (30 + 2 * f))), (0, .ref (ad 0)), (1, .int (nI j)), (2, .int (nI q)), (3, .int (e)), (4, .int (1))]) hx hb dX7_moveByIndex_12 hl (by decide) rfl (fun ls hl => ?_)
        refine lv_aload_n hx hb dX7_moveByIndex_14 rfl (lv_at hl 2 rfl) ?_
        refine lv_iload_n hx hb dX7_moveByIndex_15 rfl (lv_at hl 5 rfl) ?_
        refine cm_V (As' := [.int (e)]) (rest := []) hC (c_X7_rowIn hw) mv_X7_rowIn qM_X7_61 ⟨⟨rfl, rfl⟩, Nat.le_of_ble_eq_true rfl, Nat.le_of_ble_eq_true rfl⟩ hK hH hS hA (hp.recv hK hH (i := 0) (by omega) rfl rfl) hl.1 ⟨Nat.zero_le _, Nat.zero_le _⟩ rfl rfl (Nat.le_of_ble_eq_true rfl) dX7_moveByIndex_16 (fun H locs hH hS => ?_)
        rcases rw_cases P ad e with ⟨hnd, hrd⟩ | ⟨u, t, hjd, rfl, h1d, hkd, hrd, hnd⟩
        · refine W.eq (g2 := F0 m_ 19 ls (.null :: [])) (by rw [hnd]; rfl) ?_
          refine lv_astoreN (lv' := [(7, .null), (6, .ref (ad (30 + 2 * x))), (5, .ref (ad (30 + 2 * f))), (0, .ref (ad 0)), (1, .int (nI j)), (2, .int (nI q)), (3, .int (e)), (4, .int (1))]) hx hb dX7_moveByIndex_19 hl (by decide) rfl (fun ls hl => ?_)
          refine lv_aload hx hb dX7_moveByIndex_21 (lv_at hl 2 rfl) ?_
          refine lv_ifnull hx hb dX7_moveByIndex_23 ?_
          refine lv_aload hx hb dX7_moveByIndex_26 (lv_at hl 1 rfl) ?_
          refine lv_ifnull hx hb dX7_moveByIndex_28 ?_
          refine lv_aloadN hx hb dX7_moveByIndex_31 (lv_at hl 0 rfl) ?_
          refine lv_ifnonnullN hx hb dX7_moveByIndex_33 ?_
          refine lv_aload_n hx hb dX7_moveByIndex_36 rfl (lv_at hl 3 rfl) ?_
          refine lv_aload_n hx hb dX7_moveByIndex_37 rfl (lv_at hl 3 rfl) ?_
          refine lv_iload_n hx hb dX7_moveByIndex_38 rfl (lv_at hl 4 rfl) ?_
          refine lv_iload_n hx hb dX7_moveByIndex_39 rfl (lv_at hl 5 rfl) ?_
          refine lv_iload_n hx hb dX7_moveByIndex_40 rfl (lv_at hl 6 rfl) ?_
          refine cm_V (As' := [.int (nI j), .int (nI q), .int (e)]) (rest := [.ref (ad 0)]) hC (c_X7_rowsAmiss hw) mv_X7_rowsAmiss qM_X7_151 ⟨⟨rfl, rfl⟩, Nat.le_of_ble_eq_true rfl, Nat.le_of_ble_eq_true rfl⟩ hK hH hS hA (hp.recv hK hH (i := 0) (by omega) rfl rfl) hl.1 ⟨Nat.zero_le _, Nat.zero_le _⟩ rfl rfl (Nat.le_of_ble_eq_true rfl) dX7_moveByIndex_41 (fun H locs hH hS => ?_)
          refine cm_V (As' := [.int (nI (earl (rsA P (nI j)) (earl (rsA P (nI q)) (rsA P e))))]) (rest := []) hC (c_X7_refuse) mv_X7_refuse qM_X7_41 ⟨⟨rfl, rfl⟩, Nat.le_of_ble_eq_true rfl, Nat.le_of_ble_eq_true rfl⟩ hK hH hS hA (hp.recv hK hH (i := 0) (by omega) rfl rfl) hl.1 ⟨Nat.zero_le _, Nat.zero_le _⟩ rfl rfl (Nat.le_of_ble_eq_true rfl) dX7_moveByIndex_44 (fun H locs hH hS => ?_)
          subst hQ
          exact cx_ri hC hr hlk (hpost.mk (by show (if (1 : Int32) = 1 then sp_gather P _ _ _ else sp_scatter P _ _ _) = _; rw [if_pos rfl]; unfold sp_gather; exact rf3 (by omega)) (by repeat' (first | exact hI | refine HI_up ?_ ?_ | refine cOK_rd hw ?_ (by omega) | refine cOK_td ?_ (by omega) | exact cOK_th (by omega) | refine HI_sm hw ?_ (by omega) (by omega) | refine HI_c (st := st) ?_ (by omega)))) hH hS dX7_moveByIndex_47
        · have hqd : rsRow P u = 0 := by rw [← rsA_j hjd]; exact hrd
          have htd : t < P.n := by have := hw.2.2.2.1 u; omega
          have hlnd := hw.2.1 t
          refine W.eq (g2 := F0 m_ 19 ls (.ref (ad (30 + 2 * t)) :: [])) (by rw [hnd]; rfl) ?_
          refine lv_astore (lv' := [(7, .ref (ad (30 + 2 * t))), (6, .ref (ad (30 + 2 * x))), (5, .ref (ad (30 + 2 * f))), (0, .ref (ad 0)), (1, .int (nI j)), (2, .int (nI q)), (3, .int (nI u)), (4, .int (1))]) hx hb dX7_moveByIndex_19 hl (by decide) rfl (fun ls hl => ?_)
          refine lv_aload hx hb dX7_moveByIndex_21 (lv_at hl 2 rfl) ?_
          refine lv_ifnull hx hb dX7_moveByIndex_23 ?_
          refine lv_aload hx hb dX7_moveByIndex_26 (lv_at hl 1 rfl) ?_
          refine lv_ifnull hx hb dX7_moveByIndex_28 ?_
          refine lv_aload hx hb dX7_moveByIndex_31 (lv_at hl 0 rfl) ?_
          refine lv_ifnonnull (tgt := 48) hx hb dX7_moveByIndex_33 (by decide) ?_
          refine lv_aload hx hb dX7_moveByIndex_48 (lv_at hl 1 rfl) ?_
          refine lv_iconst (v := 4) hx hb dX7_moveByIndex_50 (by decide) ?_
          refine cm_R (As := [.int (4)]) (rest := []) (i := 30 + 2 * x) hC (rc_goesAs (t := x) (k := 4) hw (by omega) (by omega) (by omega)) qM_X7_201 ⟨Nat.le_of_ble_eq_true rfl, Nat.le_of_ble_eq_true rfl⟩ hK hH hS hA hl.1 ⟨Nat.zero_le _, Nat.zero_le _⟩ rfl rfl (Nat.le_of_ble_eq_true rfl) dX7_moveByIndex_51 (fun H locs hH hS => ?_)
          refine lv_if_ne (tgt := 64) hx hb dX7_moveByIndex_54 (by decide) (fun c_54 => ?_) (fun c_54 => ?_)
          · have c_54 := b2i_t c_54
            have h5x := tl_5 c_54
            refine lv_aload hx hb dX7_moveByIndex_64 (lv_at hl 1 rfl) ?_
            refine cm_R (As := []) (rest := []) (i := 30 + 2 * x) hC (rc_length (t := x) hw (by omega) (by omega)) qM_X7_68 ⟨Nat.le_of_ble_eq_true rfl, Nat.le_of_ble_eq_true rfl⟩ hK hH hS hA hl.1 ⟨Nat.zero_le _, Nat.zero_le _⟩ rfl rfl (Nat.le_of_ble_eq_true rfl) dX7_moveByIndex_66 (fun H locs hH hS => ?_)
            refine lv_istore (lv' := [(8, .int (nI (P.ln x))), (7, .ref (ad (30 + 2 * t))), (6, .ref (ad (30 + 2 * x))), (5, .ref (ad (30 + 2 * f))), (0, .ref (ad 0)), (1, .int (nI j)), (2, .int (nI q)), (3, .int (nI u)), (4, .int (1))]) hx hb dX7_moveByIndex_69 hl (by decide) rfl (fun ls hl => ?_)
            refine lv_iload hx hb dX7_moveByIndex_71 (lv_at hl 0 rfl) ?_
            refine lv_iload hx hb dX7_moveByIndex_73 (lv_at hl 8 rfl) ?_
            refine lv_if_eq (tgt := 86) hx hb dX7_moveByIndex_75 (by decide) (fun c_75 => absurd c_75 (by decide)) (fun c_75 => ?_)
            refine lv_aload hx hb dX7_moveByIndex_78 (lv_at hl 1 rfl) ?_
            refine cm_R (As := []) (rest := [.int (nI (P.ln x))]) (i := 30 + 2 * t) hC (rc_length (t := t) hw (by omega) (by omega)) qM_X7_68 ⟨Nat.le_of_ble_eq_true rfl, Nat.le_of_ble_eq_true rfl⟩ hK hH hS hA hl.1 ⟨Nat.zero_le _, Nat.zero_le _⟩ rfl rfl (Nat.le_of_ble_eq_true rfl) dX7_moveByIndex_80 (fun H locs hH hS => ?_)
            refine lv_goto (tgt := 91) hx hb dX7_moveByIndex_83 (by decide) ?_
            refine lv_icmp_eq (tgt := 100) hx hb dX7_moveByIndex_91 (by decide) (fun c_91 => ?_) (fun c_91 => ?_)
            · have c_91 := nc_eq (a := (P.ln x)) (b := (P.ln t)) (by omega) (by omega) c_91
              refine lv_iconst (v := 0) hx hb dX7_moveByIndex_100 (by decide) ?_
              refine lv_istore (lv' := [(9, .int (0)), (8, .int (nI (P.ln x))), (7, .ref (ad (30 + 2 * t))), (6, .ref (ad (30 + 2 * x))), (5, .ref (ad (30 + 2 * f))), (0, .ref (ad 0)), (1, .int (nI j)), (2, .int (nI q)), (3, .int (nI u)), (4, .int (1))]) hx hb dX7_moveByIndex_101 hl (by decide) rfl (fun ls hl => ?_)
              have lp : ∀ (n9 k : Nat), k ≤ (P.ln x) → (P.ln x) < k + n9 → ∀ (cl : Nat → CE) (tg : Nat → Int32) (hI : HI P cl st) (hmv : mvR P f t (fun k => (P.wh x k).toInt32) (fun k => nI k) k = 0) (hsg : SGd P t (fun i => mvV P f t (cN ((fun k => (P.wh x k).toInt32) i))) cl st k) (htg : ∀ i, i < k → tg i = (fun k => nI k) i) (H : Heap) (locs : List Loc), hp D A (30 + 2 * P.n) ad (hct cy ad P wy cl st tg) H → va_S A s.heap H locs → ∀ (ls : Array Slot), lv_has ls 12 [(9, .int (nI k)), (8, .int (nI (P.ln x))), (7, .ref (ad (30 + 2 * t))), (6, .ref (ad (30 + 2 * x))), (5, .ref (ad (30 + 2 * f))), (0, .ref (ad 0)), (1, .int (nI j)), (2, .int (nI q)), (3, .int (nI u)), (4, .int (1))] → W p_ l e_ (rm_ 3 69) s m_ args_ below meth cd H locs 0 0 Q (F0 m_ 103 ls []) := by
                intro n9
                induction n9 with
                | zero => intro k h1 h2; omega
                | succ n9 ih_lp =>
                  intro k hk1 hk2 cl tg hI hmv hsg htg H locs hH hS ls hl
                  refine lv_iload hx hb dX7_moveByIndex_103 (lv_at hl 0 rfl) ?_
                  refine lv_iload hx hb dX7_moveByIndex_105 (lv_at hl 1 rfl) ?_
                  refine lv_icmp_ge (tgt := 181) hx hb dX7_moveByIndex_107 (by decide) (fun c_107 => ?_) (fun c_107 => ?_)
                  · have c_107 := nc_le (a := (P.ln x)) (b := k) (by omega) (by omega) c_107
                    refine lv_iconst (v := 0) hx hb dX7_moveByIndex_181 (by decide) ?_
                    refine lv_istore (lv' := [(9, .int (0)), (8, .int (nI (P.ln x))), (7, .ref (ad (30 + 2 * t))), (6, .ref (ad (30 + 2 * x))), (5, .ref (ad (30 + 2 * f))), (0, .ref (ad 0)), (1, .int (nI j)), (2, .int (nI q)), (3, .int (nI u)), (4, .int (1))]) hx hb dX7_moveByIndex_182 hl (by decide) rfl (fun ls hl => ?_)
                    have hxk : P.ln x = k := by omega
                    have hz9 : mvR P f t (fun k => (P.wh x k).toInt32) (fun k => nI k) (P.ln x) = 0 := by rw [hxk]; exact hmv
                    rw [← hxk] at hsg htg
                    have hIq : ∀ i, i < P.ln x → ((fun i => cl (st i)) i).2.2.2 ≤ P.n := fun i hi => (hI.1 _ (by have := hI.2.1 i (by omega); omega)).2
                    have lq : ∀ (n9 k2 : Nat), k2 ≤ (P.ln x) → (P.ln x) < k2 + n9 → ∀   (H : Heap) (locs : List Loc), hp D A (30 + 2 * P.n) ad (hct cy ad (wgP P t (fun i => cN (tg i)) (fun i => cl (st i)) k2) wy cl st tg) H → va_S A s.heap H locs → ∀ (ls : Array Slot), lv_has ls 12 [(9, .int (nI k2)), (8, .int (nI (P.ln x))), (7, .ref (ad (30 + 2 * t))), (6, .ref (ad (30 + 2 * x))), (5, .ref (ad (30 + 2 * f))), (0, .ref (ad 0)), (1, .int (nI j)), (2, .int (nI q)), (3, .int (nI u)), (4, .int (1))] → W p_ l e_ (rm_ 3 69) s m_ args_ below meth cd H locs 0 0 Q (F0 m_ 184 ls []) := by
                      intro n9
                      induction n9 with
                      | zero => intro k2 h1 h2; omega
                      | succ n9 ih_lq =>
                        intro k2 hk1 hk2   H locs hH hS ls hl
                        refine lv_iload hx hb dX7_moveByIndex_184 (lv_at hl 0 rfl) ?_
                        refine lv_iload hx hb dX7_moveByIndex_186 (lv_at hl 1 rfl) ?_
                        refine lv_icmp_ge (tgt := 216) hx hb dX7_moveByIndex_188 (by decide) (fun c_188 => ?_) (fun c_188 => ?_)
                        · have c_188 := nc_le (a := (P.ln x)) (b := k2) (by omega) (by omega) c_188
                          refine lv_aload_n hx hb dX7_moveByIndex_216 rfl (lv_at hl 5 rfl) ?_
                          refine lv_iload hx hb dX7_moveByIndex_217 (lv_at hl 1 rfl) ?_
                          refine cm_V (As' := [.int (nI (P.ln x))]) (rest := []) hC (c_X7_done (P := wgP P t (fun i => cN (tg i)) (fun i => cl (st i)) k2)) mv_X7_done qM_X7_50 ⟨⟨rfl, rfl⟩, Nat.le_of_ble_eq_true rfl, Nat.le_of_ble_eq_true rfl⟩ hK hH hS hA (hp.recv hK hH (i := 0) (by omega) rfl rfl) hl.1 ⟨Nat.zero_le _, Nat.zero_le _⟩ rfl rfl (Nat.le_of_ble_eq_true rfl) dX7_moveByIndex_219 (fun H locs hH hS => ?_)
                          subst hQ
                          exact cx_ri hC hr hlk (hpost.mk (P := wgP P t (fun i => cN (tg i)) (fun i => cl (st i)) k2) (by show (if (1 : Int32) = 1 then sp_gather P _ _ _ else sp_scatter P _ _ _) = _; rw [if_pos rfl]; simp only [sp_gather, isC_nI hja, isC_nI hjb, isC_nI hjd, cN_c hja, cN_c hjb, cN_c hjd, rs_3ok hqa hqb hqd, h1a, h1b, h1d, Nat.add_sub_cancel, and_self, if_true, tlP, c_54, if_pos (show P.ln x = P.ln t by omega)]; unfold sp_move; rw [if_pos hz9, ← mv_end hz (pos := fun i => cN (tg i)) hsg (fun i hi => by rw [htg i hi]), show P.ln x = k2 by omega]) (HI_n (P := P) hI rfl)) hH hS dX7_moveByIndex_222
                        · have c_188 := nc_nle (a := (P.ln x)) (b := k2) (by omega) (by omega) c_188
                          refine lv_aload hx hb dX7_moveByIndex_191 (lv_at hl 2 rfl) ?_
                          refine lv_aload_n hx hb dX7_moveByIndex_193 rfl (lv_at hl 5 rfl) ?_
                          refine g_get hC hK inG7 hH 0 (by omega) rfl (ci := 5) rfl 2 (by decide) qF_X7_22 (Or.inl rfl) rfl dX7_moveByIndex_194 ?_
                          refine lv_iload hx hb dX7_moveByIndex_197 (lv_at hl 0 rfl) ?_
                          refine gN_iald hC hK hH 3 (by omega) rfl k2 (by omega) dX7_moveByIndex_199 ?_
                          obtain ⟨hg1, hg2⟩ := hasP_c (P := P) (t := t) (i := tg k2) (by rw [htg k2 (by omega)]; exact (mvr_0 (mvR_at hz9 (by omega : k2 < P.ln x))).2)
                          have hsk2 := hI.2.1 k2 (by omega)
                          refine lv_chg (y := nI (cN (tg k2))) (hg1) ?_
                          refine lv_aload_n hx hb dX7_moveByIndex_200 rfl (lv_at hl 5 rfl) ?_
                          refine g_get hC hK inG7 hH 0 (by omega) rfl (ci := 5) rfl 1 (by decide) qF_X7_17 (Or.inl rfl) rfl dX7_moveByIndex_201 ?_
                          refine lv_iload hx hb dX7_moveByIndex_204 (lv_at hl 0 rfl) ?_
                          refine hr_sg (P := wgP P t (fun i => cN (tg i)) (fun i => cl (st i)) k2) hC hK hH k2 (by omega) dX7_moveByIndex_206 ?_
                          refine cm_R (As := [.int (nI (cN (tg k2))), .ref (ad (4 + st k2))]) (rest := []) (i := 30 + 2 * t) hC (rc_write (P := wgP P t (fun i => cN (tg i)) (fun i => cl (st i)) k2) (t := t) (i := (cN (tg k2))) (j := st k2) (WF_wg hw (fun i hi => hIq i (by omega))) (by omega) (by omega) (by omega) (by omega) (hIq k2 (by omega))) qM_X7_198 ⟨Nat.le_of_ble_eq_true rfl, Nat.le_of_ble_eq_true rfl⟩ hK hH hS hA hl.1 ⟨Nat.zero_le _, Nat.zero_le _⟩ rfl rfl (Nat.le_of_ble_eq_true rfl) dX7_moveByIndex_207 (fun H locs hH hS => ?_)
                          refine lv_iinc (v := nI (k2 + 1)) (lv' := [(9, .int (nI (k2 + 1))), (8, .int (nI (P.ln x))), (7, .ref (ad (30 + 2 * t))), (6, .ref (ad (30 + 2 * x))), (5, .ref (ad (30 + 2 * f))), (0, .ref (ad 0)), (1, .int (nI j)), (2, .int (nI q)), (3, .int (nI u)), (4, .int (1))]) hx hb dX7_moveByIndex_210 hl (k := 0) rfl (nI_1 _) (by decide) rfl (fun ls hl => ?_)
                          refine lv_goto (tgt := 184) hx hb dX7_moveByIndex_213 (by decide) ?_
                          exact ih_lq (k2 + 1) (by omega) (by omega)   _ _ hH hS ls (lv_sub hl [0, 1, 2, 3, 4, 5, 6, 7, 8, 9] rfl)
                    exact lq ((P.ln x) + 1) 0 (by omega) (by omega)   _ _ hH hS ls (lv_sub hl [0, 1, 2, 3, 4, 5, 6, 7, 8, 9] rfl)
                  · have c_107 := nc_nle (a := (P.ln x)) (b := k) (by omega) (by omega) c_107
                    refine lv_aload_n hx hb dX7_moveByIndex_110 rfl (lv_at hl 5 rfl) ?_
                    refine lv_aload hx hb dX7_moveByIndex_111 (lv_at hl 3 rfl) ?_
                    refine lv_iload hx hb dX7_moveByIndex_113 (lv_at hl 0 rfl) ?_
                    refine cm_V (As' := [.ref (ad (30 + 2 * x)), .int (nI k)]) (rest := []) hC (c_X7_indexAt (t := x) (k := k) hw (by omega) (by omega) (by omega) (by omega)) mv_X7_indexAt qM_X7_204 ⟨⟨rfl, rfl⟩, Nat.le_of_ble_eq_true rfl, Nat.le_of_ble_eq_true rfl⟩ hK hH hS hA (hp.recv hK hH (i := 0) (by omega) rfl rfl) hl.1 ⟨Nat.zero_le _, Nat.zero_le _⟩ rfl rfl (Nat.le_of_ble_eq_true rfl) dX7_moveByIndex_115 (fun H locs hH hS => ?_)
                    refine lv_istore (lv' := [(10, .int ((P.wh x k).toInt32)), (9, .int (nI k)), (8, .int (nI (P.ln x))), (7, .ref (ad (30 + 2 * t))), (6, .ref (ad (30 + 2 * x))), (5, .ref (ad (30 + 2 * f))), (0, .ref (ad 0)), (1, .int (nI j)), (2, .int (nI q)), (3, .int (nI u)), (4, .int (1))]) hx hb dX7_moveByIndex_118 hl (by decide) rfl (fun ls hl => ?_)
                    refine lv_aload_n hx hb dX7_moveByIndex_120 rfl (lv_at hl 6 rfl) ?_
                    refine g_get hC hK inG7 hH 0 (by omega) rfl (ci := 5) rfl 2 (by decide) qF_X7_22 (Or.inl rfl) rfl dX7_moveByIndex_121 ?_
                    refine lv_iload hx hb dX7_moveByIndex_124 (lv_at hl 1 rfl) ?_
                    refine lv_iload hx hb dX7_moveByIndex_126 (lv_at hl 10 rfl) ?_
                    refine lv_if_eq (tgt := 136) hx hb dX7_moveByIndex_128 (by decide) (fun c_128 => absurd c_128 (by decide)) (fun c_128 => ?_)
                    refine lv_iload hx hb dX7_moveByIndex_131 (lv_at hl 1 rfl) ?_
                    refine lv_goto (tgt := 138) hx hb dX7_moveByIndex_133 (by decide) ?_
                    refine gN_iast (ct' := hct cy ad P wy (va_up cl 24 (rdC P x k (cl 24))) st (upd tg k (nI k))) hC hK hH hS 3 (by omega) rfl k (by omega) rfl hct_tg dX7_moveByIndex_138 (fun H locs hH hS => ?_)
                    refine lv_aload_n hx hb dX7_moveByIndex_139 rfl (lv_at hl 6 rfl) ?_
                    refine lv_aload hx hb dX7_moveByIndex_140 (lv_at hl 5 rfl) ?_
                    refine lv_iload hx hb dX7_moveByIndex_142 (lv_at hl 10 rfl) ?_
                    refine lv_if_eq (tgt := 152) hx hb dX7_moveByIndex_144 (by decide) (fun c_144 => absurd c_144 (by decide)) (fun c_144 => ?_)
                    refine lv_iload hx hb dX7_moveByIndex_147 (lv_at hl 0 rfl) ?_
                    refine lv_goto (tgt := 154) hx hb dX7_moveByIndex_149 (by decide) ?_
                    refine lv_aload hx hb dX7_moveByIndex_154 (lv_at hl 3 rfl) ?_
                    refine lv_iload hx hb dX7_moveByIndex_156 (lv_at hl 1 rfl) ?_
                    have hsk := hI.2.1 k (by omega)
                    refine cm_V (As' := [.ref (ad (30 + 2 * f)), .int ((P.wh x k).toInt32), .ref (ad (30 + 2 * t)), .int (nI k)]) (rest := []) hC (c_X7_stageMove (f := f) (t := t) (k := k) hw (by omega) (by omega) (by omega) (by omega) (by omega) (by repeat' (first | exact hI | refine HI_up ?_ ?_ | refine cOK_rd hw ?_ (by omega) | refine cOK_td ?_ (by omega) | exact cOK_th (by omega) | refine HI_sm hw ?_ (by omega) (by omega) | refine HI_c (st := st) ?_ (by omega)))) mv_X7_stageMove qM_X7_208 ⟨⟨rfl, rfl⟩, Nat.le_of_ble_eq_true rfl, Nat.le_of_ble_eq_true rfl⟩ hK hH hS hA (hp.recv hK hH (i := 0) (by omega) rfl rfl) hl.1 ⟨Nat.zero_le _, Nat.zero_le _⟩ rfl rfl (Nat.le_of_ble_eq_true rfl) dX7_moveByIndex_158 (fun H locs hH hS => ?_)
                    refine lv_istore (lv' := [(11, .int (nI (smR P f t ((P.wh x k).toInt32) ((upd tg k (nI k)) k) ((va_up cl 24 (rdC P x k (cl 24))) (st k))))), (10, .int ((P.wh x k).toInt32)), (9, .int (nI k)), (8, .int (nI (P.ln x))), (7, .ref (ad (30 + 2 * t))), (6, .ref (ad (30 + 2 * x))), (5, .ref (ad (30 + 2 * f))), (0, .ref (ad 0)), (1, .int (nI j)), (2, .int (nI q)), (3, .int (nI u)), (4, .int (1))]) hx hb dX7_moveByIndex_161 hl (by decide) rfl (fun ls hl => ?_)
                    have htk : (upd tg k (nI k)) k = (fun k => nI k) k := by rw [upd_at]
                    have hmr : smR P f t ((P.wh x k).toInt32) ((upd tg k (nI k)) k) ((va_up cl 24 (rdC P x k (cl 24))) (st k)) = mvr P f t (fun k => (P.wh x k).toInt32) (fun k => nI k) k := by rw [htk]; exact sm_mv hw (fr := (fun k => (P.wh x k).toInt32)) (tt := (fun k => nI k))
                    have hle5 := smR_le P f t (P.wh x k).toInt32 ((upd tg k (nI k)) k) ((va_up cl 24 (rdC P x k (cl 24))) (st k))
                    refine lv_iload hx hb dX7_moveByIndex_163 (lv_at hl 0 rfl) ?_
                    refine lv_if_eq (tgt := 175) hx hb dX7_moveByIndex_165 (by decide) (fun c_165 => ?_) (fun c_165 => ?_)
                    · have c_165 := nc_eq (a := (smR P f t ((P.wh x k).toInt32) ((upd tg k (nI k)) k) ((va_up cl 24 (rdC P x k (cl 24))) (st k)))) (b := 0) (by omega) (by omega) c_165
                      have hat := sm_at (cl := (va_up cl 24 (rdC P x k (cl 24)))) (j := st k) c_165
                      refine lv_iinc (v := nI (k + 1)) (lv' := [(9, .int (nI (k + 1))), (11, .int (nI (smR P f t ((P.wh x k).toInt32) ((upd tg k (nI k)) k) ((va_up cl 24 (rdC P x k (cl 24))) (st k))))), (10, .int ((P.wh x k).toInt32)), (8, .int (nI (P.ln x))), (7, .ref (ad (30 + 2 * t))), (6, .ref (ad (30 + 2 * x))), (5, .ref (ad (30 + 2 * f))), (0, .ref (ad 0)), (1, .int (nI j)), (2, .int (nI q)), (3, .int (nI u)), (4, .int (1))]) hx hb dX7_moveByIndex_175 hl (k := 2) rfl (nI_1 _) (by decide) rfl (fun ls hl => ?_)
                      refine lv_goto (tgt := 103) hx hb dX7_moveByIndex_178 (by decide) ?_
                      have a1 : HI P (smL P f t ((P.wh x k).toInt32) ((upd tg k (nI k)) k) (va_up cl 24 (rdC P x k (cl 24))) (st k)) st := HI_sm hw (HI_up hI (cOK_rd hw (hI.1 24 (by omega)) hkb)) (by omega) hka
                      have a2 : mvR P f t (fun k => (P.wh x k).toInt32) (fun k => nI k) (k + 1) = 0 := (mvR_s hmv).trans (hmr.symm.trans c_165)
                      have a30 : SGd P t (fun i => mvV P f t (cN ((fun k => (P.wh x k).toInt32) i))) (va_up cl 24 (rdC P x k (cl 24))) st k := SG_24 hI (by omega) hsg (Nat.le_refl 24)
                      have a31 := rd_mv (x := va_up cl 24 (rdC P x k (cl 24)) (st k)) hw hz hka (mvr_go (hmr.symm.trans c_165))
                      have a3 : SGd P t (fun i => mvV P f t (cN ((fun k => (P.wh x k).toInt32) i))) (smL P f t ((P.wh x k).toInt32) ((upd tg k (nI k)) k) (va_up cl 24 (rdC P x k (cl 24))) (st k)) st (k + 1) := by rw [hat.1]; exact SG_s (HI_up hI (cOK_rd hw (hI.1 24 (by omega)) hkb)) (by omega) a30 a31
                      have a4 : ∀ i, i < k + 1 → (upd tg k (nI k)) i = (fun k => nI k) i := fun i hi => by by_cases e9 : i = k; exact (by rw [e9]; exact htk); exact (by rw [upd_ne _ _ e9]; exact htg i (by omega))
                      exact ih_lp (k + 1) (by omega) (by omega) (smL P f t ((P.wh x k).toInt32) ((upd tg k (nI k)) k) (va_up cl 24 (rdC P x k (cl 24))) (st k)) (upd tg k (nI k)) (a1) (a2) (a3) (a4) _ _ hH hS ls (lv_sub hl [0, 3, 4, 5, 6, 7, 8, 9, 10, 11] rfl)
                    · have c_165 := nc_ne (a := (smR P f t ((P.wh x k).toInt32) ((upd tg k (nI k)) k) ((va_up cl 24 (rdC P x k (cl 24))) (st k)))) (b := 0) (by omega) (by omega) c_165
                      refine lv_aload_n hx hb dX7_moveByIndex_168 rfl (lv_at hl 7 rfl) ?_
                      refine lv_iload hx hb dX7_moveByIndex_169 (lv_at hl 0 rfl) ?_
                      refine cm_V (As' := [.int (nI (smR P f t ((P.wh x k).toInt32) ((upd tg k (nI k)) k) ((va_up cl 24 (rdC P x k (cl 24))) (st k))))]) (rest := []) hC (c_X7_refuse) mv_X7_refuse qM_X7_41 ⟨⟨rfl, rfl⟩, Nat.le_of_ble_eq_true rfl, Nat.le_of_ble_eq_true rfl⟩ hK hH hS hA (hp.recv hK hH (i := 0) (by omega) rfl rfl) hl.1 ⟨Nat.zero_le _, Nat.zero_le _⟩ rfl rfl (Nat.le_of_ble_eq_true rfl) dX7_moveByIndex_171 (fun H locs hH hS => ?_)
                      subst hQ
                      exact cx_ri hC hr hlk (hpost.mk (by show (if (1 : Int32) = 1 then sp_gather P _ _ _ else sp_scatter P _ _ _) = _; rw [if_pos rfl]; simp only [sp_gather, isC_nI hja, isC_nI hjb, isC_nI hjd, cN_c hja, cN_c hjb, cN_c hjd, rs_3ok hqa hqb hqd, h1a, h1b, h1d, Nat.add_sub_cancel, and_self, if_true, tlP, c_54, if_pos (show P.ln x = P.ln t by omega)]; unfold sp_move; rw [mvR_end hmv (show k < P.ln x by omega) hmr.symm c_165, if_neg c_165]; rfl) (by repeat' (first | exact hI | refine HI_up ?_ ?_ | refine cOK_rd hw ?_ (by omega) | refine cOK_td ?_ (by omega) | exact cOK_th (by omega) | refine HI_sm hw ?_ (by omega) (by omega) | refine HI_c (st := st) ?_ (by omega)))) hH hS dX7_moveByIndex_174
              exact lp ((P.ln x) + 1) 0 (by omega) (by omega) cl tg (hI) (rfl) (fun i hi => absurd hi (Nat.not_lt_zero i)) (fun i hi => absurd hi (Nat.not_lt_zero i)) _ _ hH hS ls (lv_sub hl [0, 1, 2, 3, 4, 5, 6, 7, 8, 9] rfl)
            · have c_91 := nc_ne (a := (P.ln x)) (b := (P.ln t)) (by omega) (by omega) c_91
              refine lv_aload_n hx hb dX7_moveByIndex_94 rfl (lv_at hl 4 rfl) ?_
              refine lv_iconst (v := 4) hx hb dX7_moveByIndex_95 (by decide) ?_
              refine cm_V (As' := [.int (4)]) (rest := []) hC (c_X7_refuse) mv_X7_refuse qM_X7_41 ⟨⟨rfl, rfl⟩, Nat.le_of_ble_eq_true rfl, Nat.le_of_ble_eq_true rfl⟩ hK hH hS hA (hp.recv hK hH (i := 0) (by omega) rfl rfl) hl.1 ⟨Nat.zero_le _, Nat.zero_le _⟩ rfl rfl (Nat.le_of_ble_eq_true rfl) dX7_moveByIndex_96 (fun H locs hH hS => ?_)
              subst hQ
              exact cx_ri hC hr hlk (hpost.mk (by show (if (1 : Int32) = 1 then sp_gather P _ _ _ else sp_scatter P _ _ _) = _; rw [if_pos rfl]; simp only [sp_gather, isC_nI hja, isC_nI hjb, isC_nI hjd, cN_c hja, cN_c hjb, cN_c hjd, rs_3ok hqa hqb hqd, h1a, h1b, h1d, Nat.add_sub_cancel, and_self, if_true, tlP, c_54, if_neg (show ¬ P.ln x = P.ln t by omega)]; rfl) (by repeat' (first | exact hI | refine HI_up ?_ ?_ | refine cOK_rd hw ?_ (by omega) | refine cOK_td ?_ (by omega) | exact cOK_th (by omega) | refine HI_sm hw ?_ (by omega) (by omega) | refine HI_c (st := st) ?_ (by omega)))) hH hS dX7_moveByIndex_99
          · have c_54 := b2i_f c_54
            refine lv_aload_n hx hb dX7_moveByIndex_57 rfl (lv_at hl 3 rfl) ?_
            refine lv_bipush (v := 6) hx hb dX7_moveByIndex_58 (by decide) ?_
            refine cm_V (As' := [.int (6)]) (rest := []) hC (c_X7_refuse) mv_X7_refuse qM_X7_41 ⟨⟨rfl, rfl⟩, Nat.le_of_ble_eq_true rfl, Nat.le_of_ble_eq_true rfl⟩ hK hH hS hA (hp.recv hK hH (i := 0) (by omega) rfl rfl) hl.1 ⟨Nat.zero_le _, Nat.zero_le _⟩ rfl rfl (Nat.le_of_ble_eq_true rfl) dX7_moveByIndex_60 (fun H locs hH hS => ?_)
            subst hQ
            exact cx_ri hC hr hlk (hpost.mk (by show (if (1 : Int32) = 1 then sp_gather P _ _ _ else sp_scatter P _ _ _) = _; rw [if_pos rfl]; simp only [sp_gather, isC_nI hja, isC_nI hjb, isC_nI hjd, cN_c hja, cN_c hjb, cN_c hjd, rs_3ok hqa hqb hqd, h1a, h1b, h1d, Nat.add_sub_cancel, and_self, if_true, tlP, c_54, Bool.false_eq_true, if_false]; rfl) (by repeat' (first | exact hI | refine HI_up ?_ ?_ | refine cOK_rd hw ?_ (by omega) | refine cOK_td ?_ (by omega) | exact cOK_th (by omega) | refine HI_sm hw ?_ (by omega) (by omega) | refine HI_c (st := st) ?_ (by omega)))) hH hS dX7_moveByIndex_63
theorem mv_X7_gather : mvok RX7 yX7_gather cX7_gather 4 (some .int) 3 := ⟨qK_X7_gather, qI_X7_gather, qSel_X7_X7_gather, qInit_X7, by decide +kernel⟩
set_option maxHeartbeats 4000000 in
set_option maxRecDepth 100000 in
theorem c_X7_gather {l : Launch} {D : va_G} {cy : Nat → ClassId} {ad : Nat → Nat} {P : AS} {wy : Int32} {cl : Nat → CE} {st : Nat → Nat} {tg : Nat → Int32} {c d e : Int32} (hw : WF P) (hz : WZ P) (hI : HI P cl st) : CX l yX7_gather cX7_gather 4 (some .int) (rm_ 4 100) D cy (30 + 2 * P.n) ad [.ref (ad 0), .int (c), .int (d), .int (e)] (hct cy ad P wy cl st tg) (hpost cy ad (sp_gather P c d e)) := by
  refine CX.start (by decide) (Nat.le_of_ble_eq_true rfl) ?_
  intro p_ e_ s m_ below meth cd A ls hC hr hlk hin hK hA hH hl
  obtain ⟨hx, hb, hml, hown, hts⟩ := id hC
  have hS : va_S A s.heap s.heap [] := va_S.rf
  have hl : lv_has ls 4 [(0, .ref (ad 0)), (1, .int (c)), (2, .int (d)), (3, .int (e))] := hl
  refine lv_aload_n hx hb dX7_gather_0 rfl (lv_at hl 0 rfl) ?_
  refine lv_iload_n hx hb dX7_gather_1 rfl (lv_at hl 1 rfl) ?_
  refine lv_iload_n hx hb dX7_gather_2 rfl (lv_at hl 2 rfl) ?_
  refine lv_iload_n hx hb dX7_gather_3 rfl (lv_at hl 3 rfl) ?_
  refine lv_iconst (v := 1) hx hb dX7_gather_4 (by decide) ?_
  refine cx_V (As' := [.int (c), .int (d), .int (e), .int (1)]) (rest := []) hC (c_X7_moveByIndex hw hz hI (Or.inr rfl)) mv_X7_moveByIndex qM_X7_147 ⟨⟨rfl, rfl⟩, Nat.le_of_ble_eq_true rfl, Nat.le_of_ble_eq_true rfl⟩ hK hH hS hA (hp.recv hK hH (i := 0) (by omega) rfl rfl) hl.1 ⟨Nat.zero_le _, Nat.zero_le _⟩ rfl rfl (Nat.le_of_ble_eq_true rfl) dX7_gather_5 (fun v9 c9 H locs hpo hH hS hfr9 => ?_)
  obtain ⟨e9, hpo9⟩ := hpo
  subst e9
  exact cx_ri hC hr hlk ⟨rfl, hpo9⟩ hH hS dX7_gather_8
theorem mv_X7_scatter : mvok RX7 yX7_scatter cX7_scatter 4 (some .int) 3 := ⟨qK_X7_scatter, qI_X7_scatter, qSel_X7_X7_scatter, qInit_X7, by decide +kernel⟩
set_option maxHeartbeats 4000000 in
set_option maxRecDepth 100000 in
theorem c_X7_scatter {l : Launch} {D : va_G} {cy : Nat → ClassId} {ad : Nat → Nat} {P : AS} {wy : Int32} {cl : Nat → CE} {st : Nat → Nat} {tg : Nat → Int32} {c d e : Int32} (hw : WF P) (hz : WZ P) (hI : HI P cl st) : CX l yX7_scatter cX7_scatter 4 (some .int) (rm_ 4 100) D cy (30 + 2 * P.n) ad [.ref (ad 0), .int (c), .int (d), .int (e)] (hct cy ad P wy cl st tg) (hpost cy ad (sp_scatter P c d e)) := by
  refine CX.start (by decide) (Nat.le_of_ble_eq_true rfl) ?_
  intro p_ e_ s m_ below meth cd A ls hC hr hlk hin hK hA hH hl
  obtain ⟨hx, hb, hml, hown, hts⟩ := id hC
  have hS : va_S A s.heap s.heap [] := va_S.rf
  have hl : lv_has ls 4 [(0, .ref (ad 0)), (1, .int (c)), (2, .int (d)), (3, .int (e))] := hl
  refine lv_aload_n hx hb dX7_scatter_0 rfl (lv_at hl 0 rfl) ?_
  refine lv_iload_n hx hb dX7_scatter_1 rfl (lv_at hl 1 rfl) ?_
  refine lv_iload_n hx hb dX7_scatter_2 rfl (lv_at hl 2 rfl) ?_
  refine lv_iload_n hx hb dX7_scatter_3 rfl (lv_at hl 3 rfl) ?_
  refine lv_iconst (v := 0) hx hb dX7_scatter_4 (by decide) ?_
  refine cx_V (As' := [.int (c), .int (d), .int (e), .int (0)]) (rest := []) hC (c_X7_moveByIndex hw hz hI (Or.inl rfl)) mv_X7_moveByIndex qM_X7_147 ⟨⟨rfl, rfl⟩, Nat.le_of_ble_eq_true rfl, Nat.le_of_ble_eq_true rfl⟩ hK hH hS hA (hp.recv hK hH (i := 0) (by omega) rfl rfl) hl.1 ⟨Nat.zero_le _, Nat.zero_le _⟩ rfl rfl (Nat.le_of_ble_eq_true rfl) dX7_scatter_5 (fun v9 c9 H locs hpo hH hS hfr9 => ?_)
  obtain ⟨e9, hpo9⟩ := hpo
  subst e9
  exact cx_ri hC hr hlk ⟨rfl, hpo9⟩ hH hS dX7_scatter_8
theorem mv_X7_turn : mvok RX7 yX7_turn cX7_turn 8 (some .int) 2 := ⟨qK_X7_turn, qI_X7_turn, qSel_X7_X7_turn, qInit_X7, by decide +kernel⟩
set_option maxHeartbeats 4000000 in
set_option maxRecDepth 100000 in
theorem c_X7_turn {l : Launch} {D : va_G} {cy : Nat → ClassId} {ad : Nat → Nat} {P : AS} {wy : Int32} {cl : Nat → CE} {st : Nat → Nat} {tg : Nat → Int32} {c n : Int32} (hw : WF P) (hz : WZ P) (hI : HI P cl st) : CX l yX7_turn cX7_turn 8 (some .int) (rm_ 4 86) D cy (30 + 2 * P.n) ad [.ref (ad 0), .int (c), .int (n)] (hct cy ad P wy cl st tg) (hpost cy ad (sp_turn P c n)) := by
  refine CX.startQ (by decide) (Nat.le_of_ble_eq_true rfl) ?_
  intro p_ e_ s m_ args_ below meth cd A ls Q hQ hC hr hlk hK hA hH hl
  obtain ⟨hx, hb, hml, hown, hts⟩ := id hC
  have hS : va_S A s.heap s.heap [] := va_S.rf
  have hl : lv_has ls 8 [(0, .ref (ad 0)), (1, .int (c)), (2, .int (n))] := hl
  refine lv_aload_n hx hb dX7_turn_0 rfl (lv_at hl 0 rfl) ?_
  refine lv_iload_n hx hb dX7_turn_1 rfl (lv_at hl 1 rfl) ?_
  refine cm_V (As' := [.int (c)]) (rest := []) hC (c_X7_rowIn hw) mv_X7_rowIn qM_X7_61 ⟨⟨rfl, rfl⟩, Nat.le_of_ble_eq_true rfl, Nat.le_of_ble_eq_true rfl⟩ hK hH hS hA (hp.recv hK hH (i := 0) (by omega) rfl rfl) hl.1 ⟨Nat.zero_le _, Nat.zero_le _⟩ rfl rfl (Nat.le_of_ble_eq_true rfl) dX7_turn_2 (fun H locs hH hS => ?_)
  rcases rw_cases P ad c with ⟨hna, hra⟩ | ⟨j, t, hja, rfl, h1a, hka, hra, hna⟩
  · refine W.eq (g2 := F0 m_ 5 ls (.null :: [])) (by rw [hna]; rfl) ?_
    refine lv_astore_nN (lv' := [(3, .null), (0, .ref (ad 0)), (1, .int (c)), (2, .int (n))]) hx hb dX7_turn_5 rfl hl (by decide) rfl (fun ls hl => ?_)
    refine lv_aload_nN hx hb dX7_turn_6 rfl (lv_at hl 0 rfl) ?_
    refine lv_ifnonnullN hx hb dX7_turn_7 ?_
    refine lv_aload_n hx hb dX7_turn_10 rfl (lv_at hl 1 rfl) ?_
    refine lv_aload_n hx hb dX7_turn_11 rfl (lv_at hl 1 rfl) ?_
    refine lv_iload_n hx hb dX7_turn_12 rfl (lv_at hl 2 rfl) ?_
    refine cm_V (As' := [.int (c)]) (rest := [.ref (ad 0)]) hC (c_X7_rowAmiss hw) mv_X7_rowAmiss qM_X7_65 ⟨⟨rfl, rfl⟩, Nat.le_of_ble_eq_true rfl, Nat.le_of_ble_eq_true rfl⟩ hK hH hS hA (hp.recv hK hH (i := 0) (by omega) rfl rfl) hl.1 ⟨Nat.zero_le _, Nat.zero_le _⟩ rfl rfl (Nat.le_of_ble_eq_true rfl) dX7_turn_13 (fun H locs hH hS => ?_)
    refine cm_V (As' := [.int (nI (rsA P c))]) (rest := []) hC (c_X7_refuse) mv_X7_refuse qM_X7_41 ⟨⟨rfl, rfl⟩, Nat.le_of_ble_eq_true rfl, Nat.le_of_ble_eq_true rfl⟩ hK hH hS hA (hp.recv hK hH (i := 0) (by omega) rfl rfl) hl.1 ⟨Nat.zero_le _, Nat.zero_le _⟩ rfl rfl (Nat.le_of_ble_eq_true rfl) dX7_turn_16 (fun H locs hH hS => ?_)
    subst hQ
    exact cx_ri hC hr hlk (hpost.mk (by rcases rs_n (P := P) (c := c) with ⟨a1, a2⟩ | ⟨a1, a2⟩ <;> simp [sp_turn, rf, rsPl, rsVal, a1, a2, hra] <;> rfl) (by repeat' (first | exact hI | refine HI_up ?_ ?_ | refine cOK_rd hw ?_ (by omega) | refine cOK_td ?_ (by omega) | exact cOK_th (by omega) | refine HI_sm hw ?_ (by omega) (by omega) | refine HI_c (st := st) ?_ (by omega)))) hH hS dX7_turn_19
  · have hqa : rsRow P j = 0 := by rw [← rsA_j hja]; exact hra
    have hta : t < P.n := by have := hw.2.2.2.1 j; omega
    have hlna := hw.2.1 t
    refine W.eq (g2 := F0 m_ 5 ls (.ref (ad (30 + 2 * t)) :: [])) (by rw [hna]; rfl) ?_
    refine lv_astore_n (lv' := [(3, .ref (ad (30 + 2 * t))), (0, .ref (ad 0)), (1, .int (nI j)), (2, .int (n))]) hx hb dX7_turn_5 rfl hl (by decide) rfl (fun ls hl => ?_)
    refine lv_aload_n hx hb dX7_turn_6 rfl (lv_at hl 0 rfl) ?_
    refine lv_ifnonnull (tgt := 20) hx hb dX7_turn_7 (by decide) ?_
    refine lv_aload_n hx hb dX7_turn_20 rfl (lv_at hl 0 rfl) ?_
    refine cm_R (As := []) (rest := []) (i := 30 + 2 * t) hC (rc_length (t := t) hw (by omega) (by omega)) qM_X7_68 ⟨Nat.le_of_ble_eq_true rfl, Nat.le_of_ble_eq_true rfl⟩ hK hH hS hA hl.1 ⟨Nat.zero_le _, Nat.zero_le _⟩ rfl rfl (Nat.le_of_ble_eq_true rfl) dX7_turn_21 (fun H locs hH hS => ?_)
    refine lv_istore (lv' := [(4, .int (nI (P.ln t))), (3, .ref (ad (30 + 2 * t))), (0, .ref (ad 0)), (1, .int (nI j)), (2, .int (n))]) hx hb dX7_turn_24 hl (by decide) rfl (fun ls hl => ?_)
    refine lv_iload hx hb dX7_turn_26 (lv_at hl 0 rfl) ?_
    refine lv_if_ne (tgt := 37) hx hb dX7_turn_28 (by decide) (fun c_28 => ?_) (fun c_28 => ?_)
    · have c_28 := nc_ne (a := (P.ln t)) (b := 0) (by omega) (by omega) c_28
      refine lv_iload_n hx hb dX7_turn_37 rfl (lv_at hl 4 rfl) ?_
      refine lv_iload hx hb dX7_turn_38 (lv_at hl 0 rfl) ?_
      refine hj_fmod hC hl.1 qM_X7_167 (Nat.le_of_ble_eq_true rfl) (Nat.le_of_ble_eq_true rfl) (Nat.le_of_ble_eq_true rfl) ⟨Nat.zero_le _, Nat.zero_le _⟩ (fun h => c_28 (nc_eq (a := P.ln t) (b := 0) (by omega) (by decide) h)) dX7_turn_40 ?_
      have hfl := fm_lt n (m := P.ln t) (by omega)
      refine lv_chg (y := nI (fm n (P.ln t))) (fm_eq n (by omega) (by omega)) ?_
      refine lv_istore (lv' := [(5, .int (nI (fm n (P.ln t)))), (4, .int (nI (P.ln t))), (3, .ref (ad (30 + 2 * t))), (0, .ref (ad 0)), (1, .int (nI j)), (2, .int (n))]) hx hb dX7_turn_43 hl (by decide) rfl (fun ls hl => ?_)
      refine lv_iconst (v := 0) hx hb dX7_turn_45 (by decide) ?_
      refine lv_istore (lv' := [(6, .int (0)), (5, .int (nI (fm n (P.ln t)))), (4, .int (nI (P.ln t))), (3, .ref (ad (30 + 2 * t))), (0, .ref (ad 0)), (1, .int (nI j)), (2, .int (n))]) hx hb dX7_turn_46 hl (by decide) rfl (fun ls hl => ?_)
      have lp : ∀ (n9 k : Nat), k ≤ (P.ln t) → (P.ln t) < k + n9 → ∀ (cl : Nat → CE) (hI : HI P cl st) (htr : TRd P t n cl st k) (H : Heap) (locs : List Loc), hp D A (30 + 2 * P.n) ad (hct cy ad P wy cl st tg) H → va_S A s.heap H locs → ∀ (ls : Array Slot), lv_has ls 8 [(6, .int (nI k)), (5, .int (nI (fm n (P.ln t)))), (4, .int (nI (P.ln t))), (3, .ref (ad (30 + 2 * t))), (0, .ref (ad 0)), (1, .int (nI j)), (2, .int (n))] → W p_ l e_ (rm_ 4 86) s m_ args_ below meth cd H locs 0 0 Q (F0 m_ 48 ls []) := by
        intro n9
        induction n9 with
        | zero => intro k h1 h2; omega
        | succ n9 ih_lp =>
          intro k hk1 hk2 cl hI htr H locs hH hS ls hl
          refine lv_iload hx hb dX7_turn_48 (lv_at hl 0 rfl) ?_
          refine lv_iload hx hb dX7_turn_50 (lv_at hl 2 rfl) ?_
          refine lv_icmp_ge (tgt := 96) hx hb dX7_turn_52 (by decide) (fun c_52 => ?_) (fun c_52 => ?_)
          · have c_52 := nc_le (a := (P.ln t)) (b := k) (by omega) (by omega) c_52
            refine lv_aload_n hx hb dX7_turn_96 rfl (lv_at hl 4 rfl) ?_
            refine lv_aload_n hx hb dX7_turn_97 rfl (lv_at hl 4 rfl) ?_
            refine lv_aload_n hx hb dX7_turn_98 rfl (lv_at hl 3 rfl) ?_
            refine cm_V (As' := [.ref (ad (30 + 2 * t))]) (rest := [.ref (ad 0)]) hC (c_X7_writeStage (t := t) hw (by omega) (by omega) (by repeat' (first | exact hI | refine HI_up ?_ ?_ | refine cOK_rd hw ?_ (by omega) | refine cOK_td ?_ (by omega) | exact cOK_th (by omega) | refine HI_sm hw ?_ (by omega) (by omega) | refine HI_c (st := st) ?_ (by omega)))) mv_X7_writeStage qM_X7_143 ⟨⟨rfl, rfl⟩, Nat.le_of_ble_eq_true rfl, Nat.le_of_ble_eq_true rfl⟩ hK hH hS hA (hp.recv hK hH (i := 0) (by omega) rfl rfl) hl.1 ⟨Nat.zero_le _, Nat.zero_le _⟩ rfl rfl (Nat.le_of_ble_eq_true rfl) dX7_turn_99 (fun H locs hH hS => ?_)
            refine cm_V (As' := [.int (nI (P.ln t))]) (rest := []) hC (c_X7_done (P := wgP P t (fun i => i) (fun i => cl (st i)) (P.ln t))) mv_X7_done qM_X7_50 ⟨⟨rfl, rfl⟩, Nat.le_of_ble_eq_true rfl, Nat.le_of_ble_eq_true rfl⟩ hK hH hS hA (hp.recv hK hH (i := 0) (by omega) rfl rfl) hl.1 ⟨Nat.zero_le _, Nat.zero_le _⟩ rfl rfl (Nat.le_of_ble_eq_true rfl) dX7_turn_102 (fun H locs hH hS => ?_)
            subst hQ
            exact cx_ri hC hr hlk (hpost.mk (P := wgP P t (fun i => i) (fun i => cl (st i)) (P.ln t)) (by have e8 : sp_turn P (nI j) n = (nI (P.ln t), trW P t n (P.ln t), 0) := (by simp [sp_turn, isC_nI hja, cN_c hja, hqa, h1a]); rw [e8, ← tr_end hw hz hka (by rw [show P.ln t = k by omega]; exact htr)]) (HI_n (P := P) hI rfl)) hH hS dX7_turn_105
          · have c_52 := nc_nle (a := (P.ln t)) (b := k) (by omega) (by omega) c_52
            refine lv_iload hx hb dX7_turn_55 (lv_at hl 0 rfl) ?_
            refine lv_iload hx hb dX7_turn_57 (lv_at hl 1 rfl) ?_
            refine lv_iadd hx hb dX7_turn_59 ?_
            refine lv_chg (y := nI (k + fm n (P.ln t))) (nI_add _ _) ?_
            refine lv_istore (lv' := [(7, .int (nI (k + fm n (P.ln t)))), (6, .int (nI k)), (5, .int (nI (fm n (P.ln t)))), (4, .int (nI (P.ln t))), (3, .ref (ad (30 + 2 * t))), (0, .ref (ad 0)), (1, .int (nI j)), (2, .int (n))]) hx hb dX7_turn_60 hl (by decide) rfl (fun ls hl => ?_)
            refine lv_aload_n hx hb dX7_turn_62 rfl (lv_at hl 4 rfl) ?_
            refine lv_iload hx hb dX7_turn_63 (lv_at hl 1 rfl) ?_
            refine lv_aload_n hx hb dX7_turn_65 rfl (lv_at hl 5 rfl) ?_
            refine g_get hC hK inG7 hH 0 (by omega) rfl (ci := 5) rfl 1 (by decide) qF_X7_17 (Or.inl rfl) rfl dX7_turn_66 ?_
            refine lv_iload hx hb dX7_turn_69 (lv_at hl 0 rfl) ?_
            refine lv_iload hx hb dX7_turn_71 (lv_at hl 3 rfl) ?_
            refine lv_icmp_ge (tgt := 81) hx hb dX7_turn_73 (by decide) (fun c_73 => ?_) (fun c_73 => ?_)
            · have c_73 := nc_le (a := (P.ln t)) (b := (k + fm n (P.ln t))) (by omega) (by omega) c_73
              refine lv_iload hx hb dX7_turn_81 (lv_at hl 0 rfl) ?_
              refine lv_iload hx hb dX7_turn_83 (lv_at hl 3 rfl) ?_
              refine lv_isub hx hb dX7_turn_85 ?_
              have htl := trn_lt n (m := P.ln t) (k := k) (by omega)
              have hsk := hI.2.1 (trn n (P.ln t) k) (by omega)
              refine lv_chg (y := nI (trn n (P.ln t) k)) (by rw [trn_fm n (show k < P.ln t by omega), if_neg (by omega), nI_sub (by omega)]) ?_
              refine hr_sg hC hK hH (trn n (P.ln t) k) (by omega) dX7_turn_86 ?_
              refine cm_R (As := [.int (nI k), .ref (ad (4 + st (trn n (P.ln t) k)))]) (rest := []) (i := 30 + 2 * t) hC (rc_read (t := t) (i := k) (j := st (trn n (P.ln t) k)) hw (by omega) (by omega) (by omega) (by omega)) qM_X7_117 ⟨Nat.le_of_ble_eq_true rfl, Nat.le_of_ble_eq_true rfl⟩ hK hH hS hA hl.1 ⟨Nat.zero_le _, Nat.zero_le _⟩ rfl rfl (Nat.le_of_ble_eq_true rfl) dX7_turn_87 (fun H locs hH hS => ?_)
              refine lv_iinc (v := nI (k + 1)) (lv' := [(6, .int (nI (k + 1))), (7, .int (nI (k + fm n (P.ln t)))), (5, .int (nI (fm n (P.ln t)))), (4, .int (nI (P.ln t))), (3, .ref (ad (30 + 2 * t))), (0, .ref (ad 0)), (1, .int (nI j)), (2, .int (n))]) hx hb dX7_turn_90 hl (k := 1) rfl (nI_1 _) (by decide) rfl (fun ls hl => ?_)
              refine lv_goto (tgt := 48) hx hb dX7_turn_93 (by decide) ?_
              exact ih_lp (k + 1) (by omega) (by omega) _ (by repeat' (first | exact hI | refine HI_up ?_ ?_ | refine cOK_rd hw ?_ (by omega) | refine cOK_td ?_ (by omega) | exact cOK_th (by omega) | refine HI_sm hw ?_ (by omega) (by omega) | refine HI_c (st := st) ?_ (by omega))) (TR_s hI (by omega) (by omega) htr) _ _ hH hS ls (lv_sub hl [0, 2, 3, 4, 5, 6, 7] rfl)
            · have c_73 := nc_nle (a := (P.ln t)) (b := (k + fm n (P.ln t))) (by omega) (by omega) c_73
              refine lv_iload hx hb dX7_turn_76 (lv_at hl 0 rfl) ?_
              refine lv_goto (tgt := 86) hx hb dX7_turn_78 (by decide) ?_
              have htl := trn_lt n (m := P.ln t) (k := k) (by omega)
              have hsk := hI.2.1 (trn n (P.ln t) k) (by omega)
              refine lv_chg (y := nI (trn n (P.ln t) k)) (by rw [trn_fm n (show k < P.ln t by omega), if_pos (by omega)]) ?_
              refine hr_sg hC hK hH (trn n (P.ln t) k) (by omega) dX7_turn_86 ?_
              refine cm_R (As := [.int (nI k), .ref (ad (4 + st (trn n (P.ln t) k)))]) (rest := []) (i := 30 + 2 * t) hC (rc_read (t := t) (i := k) (j := st (trn n (P.ln t) k)) hw (by omega) (by omega) (by omega) (by omega)) qM_X7_117 ⟨Nat.le_of_ble_eq_true rfl, Nat.le_of_ble_eq_true rfl⟩ hK hH hS hA hl.1 ⟨Nat.zero_le _, Nat.zero_le _⟩ rfl rfl (Nat.le_of_ble_eq_true rfl) dX7_turn_87 (fun H locs hH hS => ?_)
              refine lv_iinc (v := nI (k + 1)) (lv' := [(6, .int (nI (k + 1))), (7, .int (nI (k + fm n (P.ln t)))), (5, .int (nI (fm n (P.ln t)))), (4, .int (nI (P.ln t))), (3, .ref (ad (30 + 2 * t))), (0, .ref (ad 0)), (1, .int (nI j)), (2, .int (n))]) hx hb dX7_turn_90 hl (k := 1) rfl (nI_1 _) (by decide) rfl (fun ls hl => ?_)
              refine lv_goto (tgt := 48) hx hb dX7_turn_93 (by decide) ?_
              exact ih_lp (k + 1) (by omega) (by omega) _ (by repeat' (first | exact hI | refine HI_up ?_ ?_ | refine cOK_rd hw ?_ (by omega) | refine cOK_td ?_ (by omega) | exact cOK_th (by omega) | refine HI_sm hw ?_ (by omega) (by omega) | refine HI_c (st := st) ?_ (by omega))) (TR_s hI (by omega) (by omega) htr) _ _ hH hS ls (lv_sub hl [0, 2, 3, 4, 5, 6, 7] rfl)
      exact lp ((P.ln t) + 1) 0 (by omega) (by omega) _ (hI) (fun i hi => absurd hi (Nat.not_lt_zero i)) _ _ hH hS ls (lv_sub hl [0, 1, 2, 3, 4, 5, 6] rfl)
    · have c_28 := nc_eq (a := (P.ln t)) (b := 0) (by omega) (by omega) c_28
      refine lv_aload_n hx hb dX7_turn_31 rfl (lv_at hl 2 rfl) ?_
      refine lv_iconst (v := 0) hx hb dX7_turn_32 (by decide) ?_
      refine cm_V (As' := [.int (0)]) (rest := []) hC (c_X7_done) mv_X7_done qM_X7_50 ⟨⟨rfl, rfl⟩, Nat.le_of_ble_eq_true rfl, Nat.le_of_ble_eq_true rfl⟩ hK hH hS hA (hp.recv hK hH (i := 0) (by omega) rfl rfl) hl.1 ⟨Nat.zero_le _, Nat.zero_le _⟩ rfl rfl (Nat.le_of_ble_eq_true rfl) dX7_turn_33 (fun H locs hH hS => ?_)
      subst hQ
      exact cx_ri hC hr hlk (hpost.mk (by have e0 : P.ln t = 0 := (by omega); simp only [sp_turn, isC_nI hja, cN_c hja, hqa, h1a, Nat.add_sub_cancel, if_true, e0]; rfl) (by repeat' (first | exact hI | refine HI_up ?_ ?_ | refine cOK_rd hw ?_ (by omega) | refine cOK_td ?_ (by omega) | exact cOK_th (by omega) | refine HI_sm hw ?_ (by omega) (by omega) | refine HI_c (st := st) ?_ (by omega)))) hH hS dX7_turn_36
