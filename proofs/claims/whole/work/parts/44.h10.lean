theorem nI_sub {a b : Nat} (h : b ≤ a) : nI a - nI b = nI (a - b) := by
  rw [show nI a = nI (a - b) + nI b by rw [nI_add, Nat.sub_add_cancel h], Int32.add_sub_cancel]
theorem mv_X7_merge : mvok RX7 yX7_merge cX7_merge 10 (some .int) 3 := ⟨qK_X7_merge, qI_X7_merge, qSel_X7_X7_merge, qInit_X7, by decide +kernel⟩
set_option maxHeartbeats 4000000 in
set_option maxRecDepth 100000 in
theorem c_X7_merge {l : Launch} {D : va_G} {cy : Nat → ClassId} {ad : Nat → Nat} {P : AS} {wy : Int32} {cl : Nat → CE} {st : Nat → Nat} {tg : Nat → Int32} {c d e : Int32} (hw : WF P) (hz : WZ P) (hI : HI P cl st) : CX l yX7_merge cX7_merge 10 (some .int) (rm_ 4 86) D cy (30 + 2 * P.n) ad [.ref (ad 0), .int (c), .int (d), .int (e)] (hct cy ad P wy cl st tg) (hpost cy ad (sp_merge P c d e)) := by
  refine CX.startQ (by decide) (Nat.le_of_ble_eq_true rfl) ?_
  intro p_ e_ s m_ args_ below meth cd A ls Q hQ hC hr hlk hK hA hH hl
  obtain ⟨hx, hb, hml, hown, hts⟩ := id hC
  have hS : va_S A s.heap s.heap [] := va_S.rf
  have hl : lv_has ls 10 [(0, .ref (ad 0)), (1, .int (c)), (2, .int (d)), (3, .int (e))] := hl
  refine lv_aload_n hx hb dX7_merge_0 rfl (lv_at hl 0 rfl) ?_
  refine lv_iload_n hx hb dX7_merge_1 rfl (lv_at hl 1 rfl) ?_
  refine cm_V (As' := [.int (c)]) (rest := []) hC (c_X7_rowIn hw) mv_X7_rowIn qM_X7_61 ⟨⟨rfl, rfl⟩, Nat.le_of_ble_eq_true rfl, Nat.le_of_ble_eq_true rfl⟩ hK hH hS hA (hp.recv hK hH (i := 0) (by omega) rfl rfl) hl.1 ⟨Nat.zero_le _, Nat.zero_le _⟩ rfl rfl (Nat.le_of_ble_eq_true rfl) dX7_merge_2 (fun H locs hH hS => ?_)
  rcases rw_cases P ad c with ⟨hna, hra⟩ | ⟨j, x, hja, rfl, h1a, hka, hra, hna⟩
  · refine W.eq (g2 := F0 m_ 5 ls (.null :: [])) (by rw [hna]; rfl) ?_
    refine lv_astoreN (lv' := [(4, .null), (0, .ref (ad 0)), (1, .int (c)), (2, .int (d)), (3, .int (e))]) hx hb dX7_merge_5 hl (by decide) rfl (fun ls hl => ?_)
    refine lv_aload_n hx hb dX7_merge_7 rfl (lv_at hl 1 rfl) ?_
    refine lv_iload_n hx hb dX7_merge_8 rfl (lv_at hl 3 rfl) ?_
    refine cm_V (As' := [.int (d)]) (rest := []) hC (c_X7_rowIn hw) mv_X7_rowIn qM_X7_61 ⟨⟨rfl, rfl⟩, Nat.le_of_ble_eq_true rfl, Nat.le_of_ble_eq_true rfl⟩ hK hH hS hA (hp.recv hK hH (i := 0) (by omega) rfl rfl) hl.1 ⟨Nat.zero_le _, Nat.zero_le _⟩ rfl rfl (Nat.le_of_ble_eq_true rfl) dX7_merge_9 (fun H locs hH hS => ?_)
    rcases rw_cases P ad d with ⟨hnb, hrb⟩ | ⟨q, y, hjb, rfl, h1b, hkb, hrb, hnb⟩
    · refine W.eq (g2 := F0 m_ 12 ls (.null :: [])) (by rw [hnb]; rfl) ?_
      refine lv_astoreN (lv' := [(5, .null), (4, .null), (0, .ref (ad 0)), (1, .int (c)), (2, .int (d)), (3, .int (e))]) hx hb dX7_merge_12 hl (by decide) rfl (fun ls hl => ?_)
      refine lv_aload_n hx hb dX7_merge_14 rfl (lv_at hl 2 rfl) ?_
      refine lv_iload_n hx hb dX7_merge_15 rfl (lv_at hl 5 rfl) ?_
      refine cm_V (As' := [.int (e)]) (rest := []) hC (c_X7_rowIn hw) mv_X7_rowIn qM_X7_61 ⟨⟨rfl, rfl⟩, Nat.le_of_ble_eq_true rfl, Nat.le_of_ble_eq_true rfl⟩ hK hH hS hA (hp.recv hK hH (i := 0) (by omega) rfl rfl) hl.1 ⟨Nat.zero_le _, Nat.zero_le _⟩ rfl rfl (Nat.le_of_ble_eq_true rfl) dX7_merge_16 (fun H locs hH hS => ?_)
      rcases rw_cases P ad e with ⟨hnd, hrd⟩ | ⟨u, t, hjd, rfl, h1d, hkd, hrd, hnd⟩
      · refine W.eq (g2 := F0 m_ 19 ls (.null :: [])) (by rw [hnd]; rfl) ?_
        refine lv_astoreN (lv' := [(6, .null), (5, .null), (4, .null), (0, .ref (ad 0)), (1, .int (c)), (2, .int (d)), (3, .int (e))]) hx hb dX7_merge_19 hl (by decide) rfl (fun ls hl => ?_)
        refine lv_aloadN hx hb dX7_merge_21 (lv_at hl 2 rfl) ?_
        refine lv_ifnullN (tgt := 36) hx hb dX7_merge_23 (by decide) ?_
        refine lv_aload_n hx hb dX7_merge_36 rfl (lv_at hl 3 rfl) ?_
        refine lv_aload_n hx hb dX7_merge_37 rfl (lv_at hl 3 rfl) ?_
        refine lv_iload_n hx hb dX7_merge_38 rfl (lv_at hl 4 rfl) ?_
        refine lv_iload_n hx hb dX7_merge_39 rfl (lv_at hl 5 rfl) ?_
        refine lv_iload_n hx hb dX7_merge_40 rfl (lv_at hl 6 rfl) ?_
        refine cm_V (As' := [.int (c), .int (d), .int (e)]) (rest := [.ref (ad 0)]) hC (c_X7_rowsAmiss hw) mv_X7_rowsAmiss qM_X7_151 ⟨⟨rfl, rfl⟩, Nat.le_of_ble_eq_true rfl, Nat.le_of_ble_eq_true rfl⟩ hK hH hS hA (hp.recv hK hH (i := 0) (by omega) rfl rfl) hl.1 ⟨Nat.zero_le _, Nat.zero_le _⟩ rfl rfl (Nat.le_of_ble_eq_true rfl) dX7_merge_41 (fun H locs hH hS => ?_)
        refine cm_V (As' := [.int (nI (earl (rsA P c) (earl (rsA P d) (rsA P e))))]) (rest := []) hC (c_X7_refuse) mv_X7_refuse qM_X7_41 ⟨⟨rfl, rfl⟩, Nat.le_of_ble_eq_true rfl, Nat.le_of_ble_eq_true rfl⟩ hK hH hS hA (hp.recv hK hH (i := 0) (by omega) rfl rfl) hl.1 ⟨Nat.zero_le _, Nat.zero_le _⟩ rfl rfl (Nat.le_of_ble_eq_true rfl) dX7_merge_44 (fun H locs hH hS => ?_)
        subst hQ
        exact cx_ri hC hr hlk (hpost.mk (by unfold sp_merge; exact rf3 (by omega)) (by repeat' (first | exact hI | refine HI_up ?_ ?_ | refine cOK_rd hw ?_ (by omega) | refine cOK_td ?_ (by omega) | exact cOK_th (by omega) | refine HI_sm hw ?_ (by omega) (by omega) | refine HI_c (st := st) ?_ (by omega)))) hH hS dX7_merge_47
      · have hqd : rsRow P u = 0 := by rw [← rsA_j hjd]; exact hrd
        have htd : t < P.n := by have := hw.2.2.2.1 u; omega
        have hlnd := hw.2.1 t
        refine W.eq (g2 := F0 m_ 19 ls (.ref (ad (30 + 2 * t)) :: [])) (by rw [hnd]; rfl) ?_
        refine lv_astore (lv' := [(6, .ref (ad (30 + 2 * t))), (5, .null), (4, .null), (0, .ref (ad 0)), (1, .int (c)), (2, .int (d)), (3, .int (nI u))]) hx hb dX7_merge_19 hl (by decide) rfl (fun ls hl => ?_)
        refine lv_aloadN hx hb dX7_merge_21 (lv_at hl 2 rfl) ?_
        refine lv_ifnullN (tgt := 36) hx hb dX7_merge_23 (by decide) ?_
        refine lv_aload_n hx hb dX7_merge_36 rfl (lv_at hl 3 rfl) ?_
        refine lv_aload_n hx hb dX7_merge_37 rfl (lv_at hl 3 rfl) ?_
        refine lv_iload_n hx hb dX7_merge_38 rfl (lv_at hl 4 rfl) ?_
        refine lv_iload_n hx hb dX7_merge_39 rfl (lv_at hl 5 rfl) ?_
        refine lv_iload_n hx hb dX7_merge_40 rfl (lv_at hl 6 rfl) ?_
        refine cm_V (As' := [.int (c), .int (d), .int (nI u)]) (rest := [.ref (ad 0)]) hC (c_X7_rowsAmiss hw) mv_X7_rowsAmiss qM_X7_151 ⟨⟨rfl, rfl⟩, Nat.le_of_ble_eq_true rfl, Nat.le_of_ble_eq_true rfl⟩ hK hH hS hA (hp.recv hK hH (i := 0) (by omega) rfl rfl) hl.1 ⟨Nat.zero_le _, Nat.zero_le _⟩ rfl rfl (Nat.le_of_ble_eq_true rfl) dX7_merge_41 (fun H locs hH hS => ?_)
        refine cm_V (As' := [.int (nI (earl (rsA P c) (earl (rsA P d) (rsA P (nI u)))))]) (rest := []) hC (c_X7_refuse) mv_X7_refuse qM_X7_41 ⟨⟨rfl, rfl⟩, Nat.le_of_ble_eq_true rfl, Nat.le_of_ble_eq_true rfl⟩ hK hH hS hA (hp.recv hK hH (i := 0) (by omega) rfl rfl) hl.1 ⟨Nat.zero_le _, Nat.zero_le _⟩ rfl rfl (Nat.le_of_ble_eq_true rfl) dX7_merge_44 (fun H locs hH hS => ?_)
        subst hQ
        exact cx_ri hC hr hlk (hpost.mk (by unfold sp_merge; exact rf3 (by omega)) (by repeat' (first | exact hI | refine HI_up ?_ ?_ | refine cOK_rd hw ?_ (by omega) | refine cOK_td ?_ (by omega) | exact cOK_th (by omega) | refine HI_sm hw ?_ (by omega) (by omega) | refine HI_c (st := st) ?_ (by omega)))) hH hS dX7_merge_47
    · have hqb : rsRow P q = 0 := by rw [← rsA_j hjb]; exact hrb
      have htb : y < P.n := by have := hw.2.2.2.1 q; omega
      have hlnb := hw.2.1 y
      refine W.eq (g2 := F0 m_ 12 ls (.ref (ad (30 + 2 * y)) :: [])) (by rw [hnb]; rfl) ?_
      refine lv_astore (lv' := [(5, .ref (ad (30 + 2 * y))), (4, .null), (0, .ref (ad 0)), (1, .int (c)), (2, .int (nI q)), (3, .int (e))]) hx hb dX7_merge_12 hl (by decide) rfl (fun ls hl => ?_)
      refine lv_aload_n hx hb dX7_merge_14 rfl (lv_at hl 2 rfl) ?_
      refine lv_iload_n hx hb dX7_merge_15 rfl (lv_at hl 5 rfl) ?_
      refine cm_V (As' := [.int (e)]) (rest := []) hC (c_X7_rowIn hw) mv_X7_rowIn qM_X7_61 ⟨⟨rfl, rfl⟩, Nat.le_of_ble_eq_true rfl, Nat.le_of_ble_eq_true rfl⟩ hK hH hS hA (hp.recv hK hH (i := 0) (by omega) rfl rfl) hl.1 ⟨Nat.zero_le _, Nat.zero_le _⟩ rfl rfl (Nat.le_of_ble_eq_true rfl) dX7_merge_16 (fun H locs hH hS => ?_)
      rcases rw_cases P ad e with ⟨hnd, hrd⟩ | ⟨u, t, hjd, rfl, h1d, hkd, hrd, hnd⟩
      · refine W.eq (g2 := F0 m_ 19 ls (.null :: [])) (by rw [hnd]; rfl) ?_
        refine lv_astoreN (lv' := [(6, .null), (5, .ref (ad (30 + 2 * y))), (4, .null), (0, .ref (ad 0)), (1, .int (c)), (2, .int (nI q)), (3, .int (e))]) hx hb dX7_merge_19 hl (by decide) rfl (fun ls hl => ?_)
        refine lv_aloadN hx hb dX7_merge_21 (lv_at hl 2 rfl) ?_
        refine lv_ifnullN (tgt := 36) hx hb dX7_merge_23 (by decide) ?_
        refine lv_aload_n hx hb dX7_merge_36 rfl (lv_at hl 3 rfl) ?_
        refine lv_aload_n hx hb dX7_merge_37 rfl (lv_at hl 3 rfl) ?_
        refine lv_iload_n hx hb dX7_merge_38 rfl (lv_at hl 4 rfl) ?_
        refine lv_iload_n hx hb dX7_merge_39 rfl (lv_at hl 5 rfl) ?_
        refine lv_iload_n hx hb dX7_merge_40 rfl (lv_at hl 6 rfl) ?_
        refine cm_V (As' := [.int (c), .int (nI q), .int (e)]) (rest := [.ref (ad 0)]) hC (c_X7_rowsAmiss hw) mv_X7_rowsAmiss qM_X7_151 ⟨⟨rfl, rfl⟩, Nat.le_of_ble_eq_true rfl, Nat.le_of_ble_eq_true rfl⟩ hK hH hS hA (hp.recv hK hH (i := 0) (by omega) rfl rfl) hl.1 ⟨Nat.zero_le _, Nat.zero_le _⟩ rfl rfl (Nat.le_of_ble_eq_true rfl) dX7_merge_41 (fun H locs hH hS => ?_)
        refine cm_V (As' := [.int (nI (earl (rsA P c) (earl (rsA P (nI q)) (rsA P e))))]) (rest := []) hC (c_X7_refuse) mv_X7_refuse qM_X7_41 ⟨⟨rfl, rfl⟩, Nat.le_of_ble_eq_true rfl, Nat.le_of_ble_eq_true rfl⟩ hK hH hS hA (hp.recv hK hH (i := 0) (by omega) rfl rfl) hl.1 ⟨Nat.zero_le _, Nat.zero_le _⟩ rfl rfl (Nat.le_of_ble_eq_true rfl) dX7_merge_44 (fun H locs hH hS => ?_)
        subst hQ
        exact cx_ri hC hr hlk (hpost.mk (by unfold sp_merge; exact rf3 (by omega)) (by repeat' (first | exact hI | refine HI_up ?_ ?_ | refine cOK_rd hw ?_ (by omega) | refine cOK_td ?_ (by omega) | exact cOK_th (by omega) | refine HI_sm hw ?_ (by omega) (by omega) | refine HI_c (st := st) ?_ (by omega)))) hH hS dX7_merge_47
      · have hqd : rsRow P u = 0 := by rw [← rsA_j hjd]; exact hrd
        have htd : t < P.n := by have := hw.2.2.2.1 u; omega
        have hlnd := hw.2.1 t
        refine W.eq (g2 := F0 m_ 19 ls (.ref (ad (30 + 2 * t)) :: [])) (by rw [hnd]; rfl) ?_
        refine lv_astore (lv' := [(6, .ref (ad (30 + 2 * t))), (5, .ref (ad (30 + 2 * y))), (4, .null), (0, .ref (ad 0)), (1, .int (c)), (2, .int (nI q)), (3, .int (nI u))]) hx hb dX7_merge_19 hl (by decide) rfl (fun ls hl => ?_)
        refine lv_aloadN hx hb dX7_merge_21 (lv_at hl 2 rfl) ?_
        refine lv_ifnullN (tgt := 36) hx hb dX7_merge_23 (by decide) ?_
        refine lv_aload_n hx hb dX7_merge_36 rfl (lv_at hl 3 rfl) ?_
        refine lv_aload_n hx hb dX7_merge_37 rfl (lv_at hl 3 rfl) ?_
        refine lv_iload_n hx hb dX7_merge_38 rfl (lv_at hl 4 rfl) ?_
        refine lv_iload_n hx hb dX7_merge_39 rfl (lv_at hl 5 rfl) ?_
        refine lv_iload_n hx hb dX7_merge_40 rfl (lv_at hl 6 rfl) ?_
        refine cm_V (As' := [.int (c), .int (nI q), .int (nI u)]) (rest := [.ref (ad 0)]) hC (c_X7_rowsAmiss hw) mv_X7_rowsAmiss qM_X7_151 ⟨⟨rfl, rfl⟩, Nat.le_of_ble_eq_true rfl, Nat.le_of_ble_eq_true rfl⟩ hK hH hS hA (hp.recv hK hH (i := 0) (by omega) rfl rfl) hl.1 ⟨Nat.zero_le _, Nat.zero_le _⟩ rfl rfl (Nat.le_of_ble_eq_true rfl) dX7_merge_41 (fun H locs hH hS => ?_)
        refine cm_V (As' := [.int (nI (earl (rsA P c) (earl (rsA P (nI q)) (rsA P (nI u)))))]) (rest := []) hC (c_X7_refuse) mv_X7_refuse qM_X7_41 ⟨⟨rfl, rfl⟩, Nat.le_of_ble_eq_true rfl, Nat.le_of_ble_eq_true rfl⟩ hK hH hS hA (hp.recv hK hH (i := 0) (by omega) rfl rfl) hl.1 ⟨Nat.zero_le _, Nat.zero_le _⟩ rfl rfl (Nat.le_of_ble_eq_true rfl) dX7_merge_44 (fun H locs hH hS => ?_)
        subst hQ
        exact cx_ri hC hr hlk (hpost.mk (by unfold sp_merge; exact rf3 (by omega)) (by repeat' (first | exact hI | refine HI_up ?_ ?_ | refine cOK_rd hw ?_ (by omega) | refine cOK_td ?_ (by omega) | exact cOK_th (by omega) | refine HI_sm hw ?_ (by omega) (by omega) | refine HI_c (st := st) ?_ (by omega)))) hH hS dX7_merge_47
  · have hqa : rsRow P j = 0 := by rw [← rsA_j hja]; exact hra
    have hta : x < P.n := by have := hw.2.2.2.1 j; omega
    have hlna := hw.2.1 x
    refine W.eq (g2 := F0 m_ 5 ls (.ref (ad (30 + 2 * x)) :: [])) (by rw [hna]; rfl) ?_
    refine lv_astore (lv' := [(4, .ref (ad (30 + 2 * x))), (0, .ref (ad 0)), (1, .int (nI j)), (2, .int (d)), (3, .int (e))]) hx hb dX7_merge_5 hl (by decide) rfl (fun ls hl => ?_)
    refine lv_aload_n hx hb dX7_merge_7 rfl (lv_at hl 1 rfl) ?_
    refine lv_iload_n hx hb dX7_merge_8 rfl (lv_at hl 3 rfl) ?_
    refine cm_V (As' := [.int (d)]) (rest := []) hC (c_X7_rowIn hw) mv_X7_rowIn qM_X7_61 ⟨⟨rfl, rfl⟩, Nat.le_of_ble_eq_true rfl, Nat.le_of_ble_eq_true rfl⟩ hK hH hS hA (hp.recv hK hH (i := 0) (by omega) rfl rfl) hl.1 ⟨Nat.zero_le _, Nat.zero_le _⟩ rfl rfl (Nat.le_of_ble_eq_true rfl) dX7_merge_9 (fun H locs hH hS => ?_)
    rcases rw_cases P ad d with ⟨hnb, hrb⟩ | ⟨q, y, hjb, rfl, h1b, hkb, hrb, hnb⟩
    · refine W.eq (g2 := F0 m_ 12 ls (.null :: [])) (by rw [hnb]; rfl) ?_
      refine lv_astoreN (lv' := [(5, .null), (4, .ref (ad (30 + 2 * x))), (0, .ref (ad 0)), (1, .int (nI j)), (2, .int (d)), (3, .int (e))]) hx hb dX7_merge_12 hl (by decide) rfl (fun ls hl => ?_)
      refine lv_aload_n hx hb dX7_merge_14 rfl (lv_at hl 2 rfl) ?_
      refine lv_iload_n hx hb dX7_merge_15 rfl (lv_at hl 5 rfl) ?_
      refine cm_V (As' := [.int (e)]) (rest := []) hC (c_X7_rowIn hw) mv_X7_rowIn qM_X7_61 ⟨⟨rfl, rfl⟩, Nat.le_of_ble_eq_true rfl, Nat.le_of_ble_eq_true rfl⟩ hK hH hS hA (hp.recv hK hH (i := 0) (by omega) rfl rfl) hl.1 ⟨Nat.zero_le _, Nat.zero_le _⟩ rfl rfl (Nat.le_of_ble_eq_true rfl) dX7_merge_16 (fun H locs hH hS => ?_)
      rcases rw_cases P ad e with ⟨hnd, hrd⟩ | ⟨u, t, hjd, rfl, h1d, hkd, hrd, hnd⟩
      · refine W.eq (g2 := F0 m_ 19 ls (.null :: [])) (by rw [hnd]; rfl) ?_
        refine lv_astoreN (lv' := [(6, .null), (5, .null), (4, .ref (ad (30 + 2 * x))), (0, .ref (ad 0)), (1, .int (nI j)), (2, .int (d)), (3, .int (e))]) hx hb dX7_merge_19 hl (by decide) rfl (fun ls hl => ?_)
        refine lv_aload hx hb dX7_merge_21 (lv_at hl 2 rfl) ?_
        refine lv_ifnull hx hb dX7_merge_23 ?_
        refine lv_aloadN hx hb dX7_merge_26 (lv_at hl 1 rfl) ?_
        refine lv_ifnullN (tgt := 36) hx hb dX7_merge_28 (by decide) ?_
        refine lv_aload_n hx hb dX7_merge_36 rfl (lv_at hl 3 rfl) ?_
        refine lv_aload_n hx hb dX7_merge_37 rfl (lv_at hl 3 rfl) ?_
        refine lv_iload_n hx hb dX7_merge_38 rfl (lv_at hl 4 rfl) ?_
        refine lv_iload_n hx hb dX7_merge_39 rfl (lv_at hl 5 rfl) ?_
        refine lv_iload_n hx hb dX7_merge_40 rfl (lv_at hl 6 rfl) ?_
        refine cm_V (As' := [.int (nI j), .int (d), .int (e)]) (rest := [.ref (ad 0)]) hC (c_X7_rowsAmiss hw) mv_X7_rowsAmiss qM_X7_151 ⟨⟨rfl, rfl⟩, Nat.le_of_ble_eq_true rfl, Nat.le_of_ble_eq_true rfl⟩ hK hH hS hA (hp.recv hK hH (i := 0) (by omega) rfl rfl) hl.1 ⟨Nat.zero_le _, Nat.zero_le _⟩ rfl rfl (Nat.le_of_ble_eq_true rfl) dX7_merge_41 (fun H locs hH hS => ?_)
        refine cm_V (As' := [.int (nI (earl (rsA P (nI j)) (earl (rsA P d) (rsA P e))))]) (rest := []) hC (c_X7_refuse) mv_X7_refuse qM_X7_41 ⟨⟨rfl, rfl⟩, Nat.le_of_ble_eq_true rfl, Nat.le_of_ble_eq_true rfl⟩ hK hH hS hA (hp.recv hK hH (i := 0) (by omega) rfl rfl) hl.1 ⟨Nat.zero_le _, Nat.zero_le _⟩ rfl rfl (Nat.le_of_ble_eq_true rfl) dX7_merge_44 (fun H locs hH hS => ?_)
        subst hQ
        exact cx_ri hC hr hlk (hpost.mk (by unfold sp_merge; exact rf3 (by omega)) (by repeat' (first | exact hI | refine HI_up ?_ ?_ | refine cOK_rd hw ?_ (by omega) | refine cOK_td ?_ (by omega) | exact cOK_th (by omega) | refine HI_sm hw ?_ (by omega) (by omega) | refine HI_c (st := st) ?_ (by omega)))) hH hS dX7_merge_47
      · have hqd : rsRow P u = 0 := by rw [← rsA_j hjd]; exact hrd
        have htd : t < P.n := by have := hw.2.2.2.1 u; omega
        have hlnd := hw.2.1 t
        refine W.eq (g2 := F0 m_ 19 ls (.ref (ad (30 + 2 * t)) :: [])) (by rw [hnd]; rfl) ?_
        refine lv_astore (lv' := [(6, .ref (ad (30 + 2 * t))), (5, .null), (4, .ref (ad (30 + 2 * x))), (0, .ref (ad 0)), (1, .int (nI j)), (2, .int (d)), (3, .int (nI u))]) hx hb dX7_merge_19 hl (by decide) rfl (fun ls hl => ?_)
        refine lv_aload hx hb dX7_merge_21 (lv_at hl 2 rfl) ?_
        refine lv_ifnull hx hb dX7_merge_23 ?_
        refine lv_aloadN hx hb dX7_merge_26 (lv_at hl 1 rfl) ?_
        refine lv_ifnullN (tgt := 36) hx hb dX7_merge_28 (by decide) ?_
        refine lv_aload_n hx hb dX7_merge_36 rfl (lv_at hl 3 rfl) ?_
        refine lv_aload_n hx hb dX7_merge_37 rfl (lv_at hl 3 rfl) ?_
        refine lv_iload_n hx hb dX7_merge_38 rfl (lv_at hl 4 rfl) ?_
        refine lv_iload_n hx hb dX7_merge_39 rfl (lv_at hl 5 rfl) ?_
        refine lv_iload_n hx hb dX7_merge_40 rfl (lv_at hl 6 rfl) ?_
        refine cm_V (As' := [.int (nI j), .int (d), .int (nI u)]) (rest := [.ref (ad 0)]) hC (c_X7_rowsAmiss hw) mv_X7_rowsAmiss qM_X7_151 ⟨⟨rfl, rfl⟩, Nat.le_of_ble_eq_true rfl, Nat.le_of_ble_eq_true rfl⟩ hK hH hS hA (hp.recv hK hH (i := 0) (by omega) rfl rfl) hl.1 ⟨Nat.zero_le _, Nat.zero_le _⟩ rfl rfl (Nat.le_of_ble_eq_true rfl) dX7_merge_41 (fun H locs hH hS => ?_)
        refine cm_V (As' := [.int (nI (earl (rsA P (nI j)) (earl (rsA P d) (rsA P (nI u)))))]) (rest := []) hC (c_X7_refuse) mv_X7_refuse qM_X7_41 ⟨⟨rfl, rfl⟩, Nat.le_of_ble_eq_true rfl, Nat.le_of_ble_eq_true rfl⟩ hK hH hS hA (hp.recv hK hH (i := 0) (by omega) rfl rfl) hl.1 ⟨Nat.zero_le _, Nat.zero_le _⟩ rfl rfl (Nat.le_of_ble_eq_true rfl) dX7_merge_44 (fun H locs hH hS => ?_)
        subst hQ
        exact cx_ri hC hr hlk (hpost.mk (by unfold sp_merge; exact rf3 (by omega)) (by repeat' (first | exact hI | refine HI_up ?_ ?_ | refine cOK_rd hw ?_ (by omega) | refine cOK_td ?_ (by omega) | exact cOK_th (by omega) | refine HI_sm hw ?_ (by omega) (by omega) | refine HI_c (st := st) ?_ (by omega)))) hH hS dX7_merge_47
    · have hqb : rsRow P q = 0 := by rw [← rsA_j hjb]; exact hrb
      have htb : y < P.n := by have := hw.2.2.2.1 q; omega
      have hlnb := hw.2.1 y
      refine W.eq (g2 := F0 m_ 12 ls (.ref (ad (30 + 2 * y)) :: [])) (by rw [hnb]; rfl) ?_
      refine lv_astore (lv' := [(5, .ref (ad (30 + 2 * y))), (4, .ref (ad (30 + 2 * x))), (0, .ref (ad 0)), (1, .int (nI j)), (2, .int (nI q)), (3, .int (e))]) hx hb dX7_merge_12 hl (by decide) rfl (fun ls hl => ?_)
      refine lv_aload_n hx hb dX7_merge_14 rfl (lv_at hl 2 rfl) ?_
      refine lv_iload_n hx hb dX7_merge_15 rfl (lv_at hl 5 rfl) ?_
      refine cm_V (As' := [.int (e)]) (rest := []) hC (c_X7_rowIn hw) mv_X7_rowIn qM_X7_61 ⟨⟨rfl, rfl⟩, Nat.le_of_ble_eq_true rfl, Nat.le_of_ble_eq_true rfl⟩ hK hH hS hA (hp.recv hK hH (i := 0) (by omega) rfl rfl) hl.1 ⟨Nat.zero_le _, Nat.zero_le _⟩ rfl rfl (Nat.le_of_ble_eq_true rfl) dX7_merge_16 (fun H locs hH hS => ?_)
      rcases rw_cases P ad e with ⟨hnd, hrd⟩ | ⟨u, t, hjd, rfl, h1d, hkd, hrd, hnd⟩
      · refine W.eq (g2 := F0 m_ 19 ls (.null :: [])) (by rw [hnd]; rfl) ?_
        refine lv_astoreN (lv' := [(6, .null), (5, .ref (ad (30 + 2 * y))), (4, .ref (ad (30 + 2 * x))), (0, .ref (ad 0)), (1, .int (nI j)), (2, .int (nI q)), (3, .int (e))]) hx hb dX7_merge_19 hl (by decide) rfl (fun ls hl => ?_)
        refine lv_aload hx hb dX7_merge_21 (lv_at hl 2 rfl) ?_
        refine lv_ifnull hx hb dX7_merge_23 ?_
        refine lv_aload hx hb dX7_merge_26 (lv_at hl 1 rfl) ?_
        refine lv_ifnull hx hb dX7_merge_28 ?_
        refine lv_aloadN hx hb dX7_merge_31 (lv_at hl 0 rfl) ?_
        refine lv_ifnonnullN hx hb dX7_merge_33 ?_
        refine lv_aload_n hx hb dX7_merge_36 rfl (lv_at hl 3 rfl) ?_
        refine lv_aload_n hx hb dX7_merge_37 rfl (lv_at hl 3 rfl) ?_
        refine lv_iload_n hx hb dX7_merge_38 rfl (lv_at hl 4 rfl) ?_
        refine lv_iload_n hx hb dX7_merge_39 rfl (lv_at hl 5 rfl) ?_
        refine lv_iload_n hx hb dX7_merge_40 rfl (lv_at hl 6 rfl) ?_
        refine cm_V (As' := [.int (nI j), .int (nI q), .int (e)]) (rest := [.ref (ad 0)]) hC (c_X7_rowsAmiss hw) mv_X7_rowsAmiss qM_X7_151 ⟨⟨rfl, rfl⟩, Nat.le_of_ble_eq_true rfl, Nat.le_of_ble_eq_true rfl⟩ hK hH hS hA (hp.recv hK hH (i := 0) (by omega) rfl rfl) hl.1 ⟨Nat.zero_le _, Nat.zero_le _⟩ rfl rfl (Nat.le_of_ble_eq_true rfl) dX7_merge_41 (fun H locs hH hS => ?_)
        refine cm_V (As' := [.int (nI (earl (rsA P (nI j)) (earl (rsA P (nI q)) (rsA P e))))]) (rest := []) hC (c_X7_refuse) mv_X7_refuse qM_X7_41 ⟨⟨rfl, rfl⟩, Nat.le_of_ble_eq_true rfl, Nat.le_of_ble_eq_true rfl⟩ hK hH hS hA (hp.recv hK hH (i := 0) (by omega) rfl rfl) hl.1 ⟨Nat.zero_le _, Nat.zero_le _⟩ rfl rfl (Nat.le_of_ble_eq_true rfl) dX7_merge_44 (fun H locs hH hS => ?_)
        subst hQ
        exact cx_ri hC hr hlk (hpost.mk (by unfold sp_merge; exact rf3 (by omega)) (by repeat' (first | exact hI | refine HI_up ?_ ?_ | refine cOK_rd hw ?_ (by omega) | refine cOK_td ?_ (by omega) | exact cOK_th (by omega) | refine HI_sm hw ?_ (by omega) (by omega) | refine HI_c (st := st) ?_ (by omega)))) hH hS dX7_merge_47
      · have hqd : rsRow P u = 0 := by rw [← rsA_j hjd]; exact hrd
        have htd : t < P.n := by have := hw.2.2.2.1 u; omega
        have hlnd := hw.2.1 t
        refine W.eq (g2 := F0 m_ 19 ls (.ref (ad (30 + 2 * t)) :: [])) (by rw [hnd]; rfl) ?_
        refine lv_astore (lv' := [(6, .ref (ad (30 + 2 * t))), (5, .ref (ad (30 + 2 * y))), (4, .ref (ad (30 + 2 * x))), (0, .ref (ad 0)), (1, .int (nI j)), (2, .int (nI q)), (3, .int (nI u))]) hx hb dX7_merge_19 hl (by decide) rfl (fun ls hl => ?_)
        refine lv_aload hx hb dX7_merge_21 (lv_at hl 2 rfl) ?_
        refine lv_ifnull hx hb dX7_merge_23 ?_
        refine lv_aload hx hb dX7_merge_26 (lv_at hl 1 rfl) ?_
        refine lv_ifnull hx hb dX7_merge_28 ?_
        refine lv_aload hx hb dX7_merge_31 (lv_at hl 0 rfl) ?_
        refine lv_ifnonnull (tgt := 48) hx hb dX7_merge_33 (by decide) ?_
        refine lv_aload hx hb dX7_merge_48 (lv_at hl 2 rfl) ?_
        refine cm_R (As := []) (rest := []) (i := 30 + 2 * x) hC (rc_isPlain (t := x) hw (by omega) (by omega)) qM_X7_132 ⟨Nat.le_of_ble_eq_true rfl, Nat.le_of_ble_eq_true rfl⟩ hK hH hS hA hl.1 ⟨Nat.zero_le _, Nat.zero_le _⟩ rfl rfl (Nat.le_of_ble_eq_true rfl) dX7_merge_50 (fun H locs hH hS => ?_)
        refine lv_if_eq (tgt := 72) hx hb dX7_merge_53 (by decide) (fun c_53 => ?_) (fun c_53 => ?_)
        · have c_53 := b2d_f c_53
          refine lv_aload_n hx hb dX7_merge_72 rfl (lv_at hl 3 rfl) ?_
          refine lv_bipush (v := 6) hx hb dX7_merge_73 (by decide) ?_
          refine cm_V (As' := [.int (6)]) (rest := []) hC (c_X7_refuse) mv_X7_refuse qM_X7_41 ⟨⟨rfl, rfl⟩, Nat.le_of_ble_eq_true rfl, Nat.le_of_ble_eq_true rfl⟩ hK hH hS hA (hp.recv hK hH (i := 0) (by omega) rfl rfl) hl.1 ⟨Nat.zero_le _, Nat.zero_le _⟩ rfl rfl (Nat.le_of_ble_eq_true rfl) dX7_merge_75 (fun H locs hH hS => ?_)
          subst hQ
          exact cx_ri hC hr hlk (hpost.mk (by have h9 : ¬ ((P.kd x < 8 ∧ P.kd y < 8 ∧ P.kd t < 8) ∧ (P.kd x = 0 ↔ P.kd y = 0)) := (by omega); simp only [sp_merge, isC_nI hja, isC_nI hjb, isC_nI hjd, cN_c hja, cN_c hjb, cN_c hjd, rs_3ok hqa hqb hqd, h1a, h1b, h1d, Nat.add_sub_cancel, and_self, if_true, if_neg h9]; rfl) (by repeat' (first | exact hI | refine HI_up ?_ ?_ | refine cOK_rd hw ?_ (by omega) | refine cOK_td ?_ (by omega) | exact cOK_th (by omega) | refine HI_sm hw ?_ (by omega) (by omega) | refine HI_c (st := st) ?_ (by omega)))) hH hS dX7_merge_78
        · have c_53 := b2d_t c_53
          refine lv_aload hx hb dX7_merge_56 (lv_at hl 1 rfl) ?_
          refine cm_R (As := []) (rest := []) (i := 30 + 2 * y) hC (rc_isPlain (t := y) hw (by omega) (by omega)) qM_X7_132 ⟨Nat.le_of_ble_eq_true rfl, Nat.le_of_ble_eq_true rfl⟩ hK hH hS hA hl.1 ⟨Nat.zero_le _, Nat.zero_le _⟩ rfl rfl (Nat.le_of_ble_eq_true rfl) dX7_merge_58 (fun H locs hH hS => ?_)
          refine lv_if_eq (tgt := 72) hx hb dX7_merge_61 (by decide) (fun c_61 => ?_) (fun c_61 => ?_)
          · have c_61 := b2d_f c_61
            refine lv_aload_n hx hb dX7_merge_72 rfl (lv_at hl 3 rfl) ?_
            refine lv_bipush (v := 6) hx hb dX7_merge_73 (by decide) ?_
            refine cm_V (As' := [.int (6)]) (rest := []) hC (c_X7_refuse) mv_X7_refuse qM_X7_41 ⟨⟨rfl, rfl⟩, Nat.le_of_ble_eq_true rfl, Nat.le_of_ble_eq_true rfl⟩ hK hH hS hA (hp.recv hK hH (i := 0) (by omega) rfl rfl) hl.1 ⟨Nat.zero_le _, Nat.zero_le _⟩ rfl rfl (Nat.le_of_ble_eq_true rfl) dX7_merge_75 (fun H locs hH hS => ?_)
            subst hQ
            exact cx_ri hC hr hlk (hpost.mk (by have h9 : ¬ ((P.kd x < 8 ∧ P.kd y < 8 ∧ P.kd t < 8) ∧ (P.kd x = 0 ↔ P.kd y = 0)) := (by omega); simp only [sp_merge, isC_nI hja, isC_nI hjb, isC_nI hjd, cN_c hja, cN_c hjb, cN_c hjd, rs_3ok hqa hqb hqd, h1a, h1b, h1d, Nat.add_sub_cancel, and_self, if_true, if_neg h9]; rfl) (by repeat' (first | exact hI | refine HI_up ?_ ?_ | refine cOK_rd hw ?_ (by omega) | refine cOK_td ?_ (by omega) | exact cOK_th (by omega) | refine HI_sm hw ?_ (by omega) (by omega) | refine HI_c (st := st) ?_ (by omega)))) hH hS dX7_merge_78
          · have c_61 := b2d_t c_61
            refine lv_aload hx hb dX7_merge_64 (lv_at hl 0 rfl) ?_
            refine cm_R (As := []) (rest := []) (i := 30 + 2 * t) hC (rc_isPlain (t := t) hw (by omega) (by omega)) qM_X7_132 ⟨Nat.le_of_ble_eq_true rfl, Nat.le_of_ble_eq_true rfl⟩ hK hH hS hA hl.1 ⟨Nat.zero_le _, Nat.zero_le _⟩ rfl rfl (Nat.le_of_ble_eq_true rfl) dX7_merge_66 (fun H locs hH hS => ?_)
            refine lv_if_ne (tgt := 79) hx hb dX7_merge_69 (by decide) (fun c_69 => ?_) (fun c_69 => ?_)
            · have c_69 := b2d_t c_69
              refine lv_aload hx hb dX7_merge_79 (lv_at hl 2 rfl) ?_
              refine hr_kd hC hK hw hH x (by omega) qF_X7_155 (Or.inr qSF_X3) dX7_merge_81 ?_
              refine lv_if_ne (tgt := 91) hx hb dX7_merge_84 (by decide) (fun c_84 => ?_) (fun c_84 => ?_)
              · have c_84 := nc_ne (a := (P.kd x)) (b := 0) (by omega) (by omega) c_84
                refine lv_iconst (v := 0) hx hb dX7_merge_91 (by decide) ?_
                refine lv_aload hx hb dX7_merge_92 (lv_at hl 1 rfl) ?_
                refine hr_kd hC hK hw hH y (by omega) qF_X7_155 (Or.inr qSF_X3) dX7_merge_94 ?_
                refine lv_if_ne (tgt := 104) hx hb dX7_merge_97 (by decide) (fun c_97 => ?_) (fun c_97 => ?_)
                · have c_97 := nc_ne (a := (P.kd y)) (b := 0) (by omega) (by omega) c_97
                  refine lv_iconst (v := 0) hx hb dX7_merge_104 (by decide) ?_
                  refine lv_icmp_eq (tgt := 115) hx hb dX7_merge_105 (by decide) (fun c_105 => ?_) (fun c_105 => absurd c_105 (by decide))
                  have h00 : P.kd x = 0 ↔ P.kd y = 0 := by omega
                  refine lv_aload hx hb dX7_merge_115 (lv_at hl 0 rfl) ?_
                  refine cm_R (As := []) (rest := []) (i := 30 + 2 * t) hC (rc_length (t := t) hw (by omega) (by omega)) qM_X7_68 ⟨Nat.le_of_ble_eq_true rfl, Nat.le_of_ble_eq_true rfl⟩ hK hH hS hA hl.1 ⟨Nat.zero_le _, Nat.zero_le _⟩ rfl rfl (Nat.le_of_ble_eq_true rfl) dX7_merge_117 (fun H locs hH hS => ?_)
                  refine lv_aload hx hb dX7_merge_120 (lv_at hl 2 rfl) ?_
                  refine cm_R (As := []) (rest := [.int (nI (P.ln t))]) (i := 30 + 2 * x) hC (rc_length (t := x) hw (by omega) (by omega)) qM_X7_68 ⟨Nat.le_of_ble_eq_true rfl, Nat.le_of_ble_eq_true rfl⟩ hK hH hS hA hl.1 ⟨Nat.zero_le _, Nat.zero_le _⟩ rfl rfl (Nat.le_of_ble_eq_true rfl) dX7_merge_122 (fun H locs hH hS => ?_)
                  refine lv_aload hx hb dX7_merge_125 (lv_at hl 1 rfl) ?_
                  refine cm_R (As := []) (rest := [.int (nI (P.ln x)), .int (nI (P.ln t))]) (i := 30 + 2 * y) hC (rc_length (t := y) hw (by omega) (by omega)) qM_X7_68 ⟨Nat.le_of_ble_eq_true rfl, Nat.le_of_ble_eq_true rfl⟩ hK hH hS hA hl.1 ⟨Nat.zero_le _, Nat.zero_le _⟩ rfl rfl (Nat.le_of_ble_eq_true rfl) dX7_merge_127 (fun H locs hH hS => ?_)
                  refine lv_iadd hx hb dX7_merge_130 ?_
                  refine lv_chg (y := nI (P.ln x + P.ln y)) (by rw [nI_add]) ?_
                  refine lv_icmp_eq (tgt := 140) hx hb dX7_merge_131 (by decide) (fun c_131 => ?_) (fun c_131 => ?_)
                  · have c_131 := nc_eq (a := (P.ln t)) (b := (P.ln x + P.ln y)) (by omega) (by omega) c_131
                    have h8x : P.kd x < 8 := by omega
                    have h8y : P.kd y < 8 := by omega
                    have h8t : P.kd t < 8 := by omega
                    have hlen : P.ln t = P.ln x + P.ln y := by omega
                    refine lv_iconst (v := 0) hx hb dX7_merge_140 (by decide) ?_
                    refine lv_istore (lv' := [(7, .int (0)), (6, .ref (ad (30 + 2 * t))), (5, .ref (ad (30 + 2 * y))), (4, .ref (ad (30 + 2 * x))), (0, .ref (ad 0)), (1, .int (nI j)), (2, .int (nI q)), (3, .int (nI u))]) hx hb dX7_merge_141 hl (by decide) rfl (fun ls hl => ?_)
                    refine lv_iconst (v := 0) hx hb dX7_merge_143 (by decide) ?_
                    refine lv_istore (lv' := [(8, .int (0)), (7, .int (0)), (6, .ref (ad (30 + 2 * t))), (5, .ref (ad (30 + 2 * y))), (4, .ref (ad (30 + 2 * x))), (0, .ref (ad 0)), (1, .int (nI j)), (2, .int (nI q)), (3, .int (nI u))]) hx hb dX7_merge_144 hl (by decide) rfl (fun ls hl => ?_)
                    have lp : ∀ (n9 k : Nat), k ≤ (P.ln t) → (P.ln t) < k + n9 → ∀ (cl : Nat → CE) (hI : HI P cl st) (hgg : mgG P x y t k = true) (hsg : SGd P t (fun i => wdn (mgS P x y i) (P.kd t) (mgV P x y i).1 (mgV P x y i).2) cl st k) (H : Heap) (locs : List Loc), hp D A (30 + 2 * P.n) ad (hct cy ad P wy cl st tg) H → va_S A s.heap H locs → ∀ (ls : Array Slot), lv_has ls 10 [(8, .int (nI k)), (7, .int (nI (mgI P x y k))), (6, .ref (ad (30 + 2 * t))), (5, .ref (ad (30 + 2 * y))), (4, .ref (ad (30 + 2 * x))), (0, .ref (ad 0)), (1, .int (nI j)), (2, .int (nI q)), (3, .int (nI u))] → W p_ l e_ (rm_ 4 86) s m_ args_ below meth cd H locs 0 0 Q (F0 m_ 146 ls []) := by
                      intro n9
                      induction n9 with
                      | zero => intro k h1 h2; omega
                      | succ n9 ih_lp =>
                        intro k hk1 hk2 cl hI hgg hsg H locs hH hS ls hl
                        obtain ⟨hm1, hm2, hm3⟩ := mgI_ok P x y k (by omega)
                        refine lv_iload hx hb dX7_merge_146 (lv_at hl 0 rfl) ?_
                        refine lv_aload hx hb dX7_merge_148 (lv_at hl 2 rfl) ?_
                        refine cm_R (As := []) (rest := [.int (nI k)]) (i := 30 + 2 * t) hC (rc_length (t := t) hw (by omega) (by omega)) qM_X7_68 ⟨Nat.le_of_ble_eq_true rfl, Nat.le_of_ble_eq_true rfl⟩ hK hH hS hA hl.1 ⟨Nat.zero_le _, Nat.zero_le _⟩ rfl rfl (Nat.le_of_ble_eq_true rfl) dX7_merge_150 (fun H locs hH hS => ?_)
                        refine lv_icmp_ge (tgt := 239) hx hb dX7_merge_153 (by decide) (fun c_153 => ?_) (fun c_153 => ?_)
                        · have c_153 := nc_le (a := (P.ln t)) (b := k) (by omega) (by omega) c_153
                          refine lv_aload_n hx hb dX7_merge_239 rfl (lv_at hl 5 rfl) ?_
                          refine lv_aload_n hx hb dX7_merge_240 rfl (lv_at hl 5 rfl) ?_
                          refine lv_aload hx hb dX7_merge_241 (lv_at hl 2 rfl) ?_
                          refine cm_V (As' := [.ref (ad (30 + 2 * t))]) (rest := [.ref (ad 0)]) hC (c_X7_writeStage (t := t) hw (by omega) (by omega) (hI)) mv_X7_writeStage qM_X7_143 ⟨⟨rfl, rfl⟩, Nat.le_of_ble_eq_true rfl, Nat.le_of_ble_eq_true rfl⟩ hK hH hS hA (hp.recv hK hH (i := 0) (by omega) rfl rfl) hl.1 ⟨Nat.zero_le _, Nat.zero_le _⟩ rfl rfl (Nat.le_of_ble_eq_true rfl) dX7_merge_243 (fun H locs hH hS => ?_)
                          refine cm_V (As' := [.int (nI (P.ln t))]) (rest := []) hC (c_X7_done (P := wgP P t (fun i => i) (fun i => cl (st i)) (P.ln t))) mv_X7_done qM_X7_50 ⟨⟨rfl, rfl⟩, Nat.le_of_ble_eq_true rfl, Nat.le_of_ble_eq_true rfl⟩ hK hH hS hA (hp.recv hK hH (i := 0) (by omega) rfl rfl) hl.1 ⟨Nat.zero_le _, Nat.zero_le _⟩ rfl rfl (Nat.le_of_ble_eq_true rfl) dX7_merge_246 (fun H locs hH hS => ?_)
                          subst hQ
                          exact cx_ri hC hr hlk (hpost.mk (P := wgP P t (fun i => i) (fun i => cl (st i)) (P.ln t)) (by have h9 : (P.kd x < 8 ∧ P.kd y < 8 ∧ P.kd t < 8) ∧ (P.kd x = 0 ↔ P.kd y = 0) := (by omega); simp only [sp_merge, isC_nI hja, isC_nI hjb, isC_nI hjd, cN_c hja, cN_c hjb, cN_c hjd, rs_3ok hqa hqb hqd, h1a, h1b, h1d, Nat.add_sub_cancel, and_self, if_true, if_pos h9, if_pos hlen, if_pos (show mgG P x y t (P.ln t) = true by rw [show P.ln t = k by omega]; exact hgg)]; rw [show P.ln t = k by omega, ← mg_end hz hsg]) ((HI_n (P := P) (by repeat' (first | exact hI | refine HI_up ?_ ?_ | refine cOK_rd hw ?_ (by omega) | refine cOK_td ?_ (by omega) | exact cOK_th (by omega) | refine HI_sm hw ?_ (by omega) (by omega) | refine HI_c (st := st) ?_ (by omega))) rfl))) hH hS dX7_merge_249
                        · have c_153 := nc_nle (a := (P.ln t)) (b := k) (by omega) (by omega) c_153
                          refine lv_iload hx hb dX7_merge_156 (lv_at hl 0 rfl) ?_
                          refine lv_iload hx hb dX7_merge_158 (lv_at hl 1 rfl) ?_
                          refine lv_isub hx hb dX7_merge_160 ?_
                          refine lv_chg (y := nI (k - mgI P x y k)) (nI_sub (by omega)) ?_
                          refine lv_istore (lv' := [(9, .int (nI (k - mgI P x y k))), (8, .int (nI k)), (7, .int (nI (mgI P x y k))), (6, .ref (ad (30 + 2 * t))), (5, .ref (ad (30 + 2 * y))), (4, .ref (ad (30 + 2 * x))), (0, .ref (ad 0)), (1, .int (nI j)), (2, .int (nI q)), (3, .int (nI u))]) hx hb dX7_merge_161 hl (by decide) rfl (fun ls hl => ?_)
                          refine lv_aload_n hx hb dX7_merge_163 rfl (lv_at hl 6 rfl) ?_
                          refine lv_aload hx hb dX7_merge_164 (lv_at hl 5 rfl) ?_
                          refine lv_iload hx hb dX7_merge_166 (lv_at hl 2 rfl) ?_
                          refine lv_aload hx hb dX7_merge_168 (lv_at hl 4 rfl) ?_
                          refine lv_iload hx hb dX7_merge_170 (lv_at hl 0 rfl) ?_
                          refine cx_V (As' := [.ref (ad (30 + 2 * x)), .int (nI (mgI P x y k)), .ref (ad (30 + 2 * y)), .int (nI (k - mgI P x y k))]) (rest := []) hC (c_X7_comesFromRight (x := x) (y := y) (i := (mgI P x y k)) (j := (k - mgI P x y k)) hw hI (by omega) (by omega) (by omega) (by omega) h00 (by omega) (by omega)) mv_X7_comesFromRight qM_X7_156 ⟨⟨rfl, rfl⟩, Nat.le_of_ble_eq_true rfl, Nat.le_of_ble_eq_true rfl⟩ hK hH hS hA (hp.recv hK hH (i := 0) (by omega) rfl rfl) hl.1 ⟨Nat.zero_le _, Nat.zero_le _⟩ rfl rfl (Nat.le_of_ble_eq_true rfl) dX7_merge_172 (fun v9 c9 H locs hpo hH hS hfr9 => ?_)
                          obtain ⟨e9, c2, rfl, hI2, hc2⟩ := hpo
                          subst e9
                          refine lv_if_eq (tgt := 195) hx hb dX7_merge_175 (by decide) (fun c_175 => ?_) (fun c_175 => ?_)
                          · have c_175 := b2i_f c_175
                            obtain ⟨e1, e2, e3⟩ := mgI_F c_175
                            have hsk := hI.2.1 k (by omega)
                            have hix : mgI P x y k < P.ln x := by have h9 := (mgI_ok P x y (k + 1) (by omega)).2.1; rw [e1] at h9; omega
                            refine lv_aload hx hb dX7_merge_195 (lv_at hl 5 rfl) ?_
                            refine lv_iload hx hb dX7_merge_197 (lv_at hl 2 rfl) ?_
                            refine lv_aload_n hx hb dX7_merge_199 rfl (lv_at hl 6 rfl) ?_
                            refine g_get hC hK inG7 hH 0 (by omega) rfl (ci := 5) rfl 1 (by decide) qF_X7_17 (Or.inl rfl) rfl dX7_merge_200 ?_
                            refine lv_iload hx hb dX7_merge_203 (lv_at hl 1 rfl) ?_
                            refine hr_sg hC hK hH k (by omega) dX7_merge_205 ?_
                            refine cm_R (As := [.int (nI (mgI P x y k)), .ref (ad (4 + st k))]) (rest := []) (i := 30 + 2 * x) hC (rc_read (t := x) (i := (mgI P x y k)) (j := st k) hw (by omega) (by omega) (by omega) (by omega)) qM_X7_117 ⟨Nat.le_of_ble_eq_true rfl, Nat.le_of_ble_eq_true rfl⟩ hK hH hS hA hl.1 ⟨Nat.zero_le _, Nat.zero_le _⟩ rfl rfl (Nat.le_of_ble_eq_true rfl) dX7_merge_206 (fun H locs hH hS => ?_)
                            refine lv_iinc (v := nI ((mgI P x y k) + 1)) (lv' := [(7, .int (nI ((mgI P x y k) + 1))), (9, .int (nI (k - mgI P x y k))), (8, .int (nI k)), (6, .ref (ad (30 + 2 * t))), (5, .ref (ad (30 + 2 * y))), (4, .ref (ad (30 + 2 * x))), (0, .ref (ad 0)), (1, .int (nI j)), (2, .int (nI q)), (3, .int (nI u))]) hx hb dX7_merge_209 hl (k := 2) rfl (nI_1 _) (by decide) rfl (fun ls hl => ?_)
                            have hl : lv_has ls 10 [(7, .int (nI (mgI P x y (k + 1)))), (9, .int (nI (k - mgI P x y k))), (8, .int (nI k)), (6, .ref (ad (30 + 2 * t))), (5, .ref (ad (30 + 2 * y))), (4, .ref (ad (30 + 2 * x))), (0, .ref (ad 0)), (1, .int (nI j)), (2, .int (nI q)), (3, .int (nI u))] := by have e9 : nI ((mgI P x y k) + 1) = nI (mgI P x y (k + 1)) := (by rw [e1]); rw [← e9]; exact hl
                            refine lv_aload hx hb dX7_merge_212 (lv_at hl 3 rfl) ?_
                            refine lv_aload_n hx hb dX7_merge_214 rfl (lv_at hl 6 rfl) ?_
                            refine g_get hC hK inG7 hH 0 (by omega) rfl (ci := 5) rfl 1 (by decide) qF_X7_17 (Or.inl rfl) rfl dX7_merge_215 ?_
                            refine lv_iload hx hb dX7_merge_218 (lv_at hl 2 rfl) ?_
                            refine hr_sg hC hK hH k (by omega) dX7_merge_220 ?_
                            refine cm_R (As := [.ref (ad (4 + st k))]) (rest := []) (i := 30 + 2 * t) hC (rc_takes (t := t) (j := st k) hw (by omega) (by omega) (by omega) (by rw [va_up_self]; exact cOK_rd hw (hI2.1 _ (by omega)) (by omega))) qM_X7_139 ⟨Nat.le_of_ble_eq_true rfl, Nat.le_of_ble_eq_true rfl⟩ hK hH hS hA hl.1 ⟨Nat.zero_le _, Nat.zero_le _⟩ rfl rfl (Nat.le_of_ble_eq_true rfl) dX7_merge_221 (fun H locs hH hS => ?_)
                            refine lv_if_ne (tgt := 233) hx hb dX7_merge_224 (by decide) (fun c_224 => ?_) (fun c_224 => ?_)
                            · have c_224 := b2i_t c_224
                              rw [va_up_self, tk_mg hw h8x h8t, ← e2] at c_224
                              refine lv_iinc (v := nI (k + 1)) (lv' := [(8, .int (nI (k + 1))), (7, .int (nI (mgI P x y (k + 1)))), (9, .int (nI (k - mgI P x y k))), (6, .ref (ad (30 + 2 * t))), (5, .ref (ad (30 + 2 * y))), (4, .ref (ad (30 + 2 * x))), (0, .ref (ad 0)), (1, .int (nI j)), (2, .int (nI q)), (3, .int (nI u))]) hx hb dX7_merge_233 hl (k := 2) rfl (nI_1 _) (by decide) rfl (fun ls hl => ?_)
                              refine lv_goto (tgt := 146) hx hb dX7_merge_236 (by decide) ?_
                              exact ih_lp (k + 1) (by omega) (by omega) _ (HI_up hI2 (cOK_rd hw (hI2.1 _ (by omega)) (by omega))) (by show (mgG P x y t k && goes (mgS P x y k) (P.kd t)) = true; rw [hgg, c_224]; rfl) (SG_s hI2 (by omega) (SG_eq hI (by omega) hsg hc2) (by show CVal P t _ (wdn (mgS P x y k) (P.kd t) (mgV P x y k).1 (mgV P x y k).2); rw [e2, e3]; exact rd_wdn hw hz h8x h8t (by rw [← e2]; exact c_224))) _ _ hH hS ls (lv_sub hl [0, 1, 3, 4, 5, 6, 7, 8, 9] rfl)
                            · have c_224 := b2i_f c_224
                              rw [va_up_self, tk_mg hw h8x h8t, ← e2] at c_224
                              have hg5 := c_224
                              refine lv_aload_n hx hb dX7_merge_227 rfl (lv_at hl 6 rfl) ?_
                              refine lv_iconst (v := 5) hx hb dX7_merge_228 (by decide) ?_
                              refine cm_V (As' := [.int (5)]) (rest := []) hC (c_X7_refuse) mv_X7_refuse qM_X7_41 ⟨⟨rfl, rfl⟩, Nat.le_of_ble_eq_true rfl, Nat.le_of_ble_eq_true rfl⟩ hK hH hS hA (hp.recv hK hH (i := 0) (by omega) rfl rfl) hl.1 ⟨Nat.zero_le _, Nat.zero_le _⟩ rfl rfl (Nat.le_of_ble_eq_true rfl) dX7_merge_229 (fun H locs hH hS => ?_)
                              subst hQ
                              exact cx_ri hC hr hlk (hpost.mk (by have h9 : (P.kd x < 8 ∧ P.kd y < 8 ∧ P.kd t < 8) ∧ (P.kd x = 0 ↔ P.kd y = 0) := (by omega); simp only [sp_merge, isC_nI hja, isC_nI hjb, isC_nI hjd, cN_c hja, cN_c hjb, cN_c hjd, rs_3ok hqa hqb hqd, h1a, h1b, h1d, Nat.add_sub_cancel, and_self, if_true, if_pos h9, if_pos hlen, mgG_no hg5 (show k < P.ln t by omega), Bool.false_eq_true, if_false]; rfl) (HI_up hI2 (cOK_rd hw (hI2.1 _ (by omega)) (by omega)))) hH hS dX7_merge_232
                          · have c_175 := b2i_t c_175
                            obtain ⟨e1, e2, e3⟩ := mgI_T c_175
                            have hsk := hI.2.1 k (by omega)
                            have hjy : k - mgI P x y k < P.ln y := by have h9 := (mgI_ok P x y (k + 1) (by omega)).2.2; rw [e1] at h9; omega
                            refine lv_aload hx hb dX7_merge_178 (lv_at hl 4 rfl) ?_
                            refine lv_iload hx hb dX7_merge_180 (lv_at hl 0 rfl) ?_
                            refine lv_aload_n hx hb dX7_merge_182 rfl (lv_at hl 6 rfl) ?_
                            refine g_get hC hK inG7 hH 0 (by omega) rfl (ci := 5) rfl 1 (by decide) qF_X7_17 (Or.inl rfl) rfl dX7_merge_183 ?_
                            refine lv_iload hx hb dX7_merge_186 (lv_at hl 1 rfl) ?_
                            refine hr_sg hC hK hH k (by omega) dX7_merge_188 ?_
                            refine cm_R (As := [.int (nI (k - mgI P x y k)), .ref (ad (4 + st k))]) (rest := []) (i := 30 + 2 * y) hC (rc_read (t := y) (i := (k - mgI P x y k)) (j := st k) hw (by omega) (by omega) (by omega) (by omega)) qM_X7_117 ⟨Nat.le_of_ble_eq_true rfl, Nat.le_of_ble_eq_true rfl⟩ hK hH hS hA hl.1 ⟨Nat.zero_le _, Nat.zero_le _⟩ rfl rfl (Nat.le_of_ble_eq_true rfl) dX7_merge_189 (fun H locs hH hS => ?_)
                            refine lv_goto (tgt := 212) hx hb dX7_merge_192 (by decide) ?_
                            have hl : lv_has ls 10 [(9, .int (nI (k - mgI P x y k))), (8, .int (nI k)), (7, .int (nI (mgI P x y (k + 1)))), (6, .ref (ad (30 + 2 * t))), (5, .ref (ad (30 + 2 * y))), (4, .ref (ad (30 + 2 * x))), (0, .ref (ad 0)), (1, .int (nI j)), (2, .int (nI q)), (3, .int (nI u))] := by have e9 : nI (mgI P x y k) = nI (mgI P x y (k + 1)) := (by rw [e1]); rw [← e9]; exact hl
                            refine lv_aload hx hb dX7_merge_212 (lv_at hl 3 rfl) ?_
                            refine lv_aload_n hx hb dX7_merge_214 rfl (lv_at hl 6 rfl) ?_
                            refine g_get hC hK inG7 hH 0 (by omega) rfl (ci := 5) rfl 1 (by decide) qF_X7_17 (Or.inl rfl) rfl dX7_merge_215 ?_
                            refine lv_iload hx hb dX7_merge_218 (lv_at hl 1 rfl) ?_
                            refine hr_sg hC hK hH k (by omega) dX7_merge_220 ?_
                            refine cm_R (As := [.ref (ad (4 + st k))]) (rest := []) (i := 30 + 2 * t) hC (rc_takes (t := t) (j := st k) hw (by omega) (by omega) (by omega) (by rw [va_up_self]; exact cOK_rd hw (hI2.1 _ (by omega)) (by omega))) qM_X7_139 ⟨Nat.le_of_ble_eq_true rfl, Nat.le_of_ble_eq_true rfl⟩ hK hH hS hA hl.1 ⟨Nat.zero_le _, Nat.zero_le _⟩ rfl rfl (Nat.le_of_ble_eq_true rfl) dX7_merge_221 (fun H locs hH hS => ?_)
                            refine lv_if_ne (tgt := 233) hx hb dX7_merge_224 (by decide) (fun c_224 => ?_) (fun c_224 => ?_)
                            · have c_224 := b2i_t c_224
                              rw [va_up_self, tk_mg hw h8y h8t, ← e2] at c_224
                              refine lv_iinc (v := nI (k + 1)) (lv' := [(8, .int (nI (k + 1))), (9, .int (nI (k - mgI P x y k))), (7, .int (nI (mgI P x y (k + 1)))), (6, .ref (ad (30 + 2 * t))), (5, .ref (ad (30 + 2 * y))), (4, .ref (ad (30 + 2 * x))), (0, .ref (ad 0)), (1, .int (nI j)), (2, .int (nI q)), (3, .int (nI u))]) hx hb dX7_merge_233 hl (k := 1) rfl (nI_1 _) (by decide) rfl (fun ls hl => ?_)
                              refine lv_goto (tgt := 146) hx hb dX7_merge_236 (by decide) ?_
                              exact ih_lp (k + 1) (by omega) (by omega) _ (HI_up hI2 (cOK_rd hw (hI2.1 _ (by omega)) (by omega))) (by show (mgG P x y t k && goes (mgS P x y k) (P.kd t)) = true; rw [hgg, c_224]; rfl) (SG_s hI2 (by omega) (SG_eq hI (by omega) hsg hc2) (by show CVal P t _ (wdn (mgS P x y k) (P.kd t) (mgV P x y k).1 (mgV P x y k).2); rw [e2, e3]; exact rd_wdn hw hz h8y h8t (by rw [← e2]; exact c_224))) _ _ hH hS ls (lv_sub hl [0, 2, 3, 4, 5, 6, 7, 8, 9] rfl)
                            · have c_224 := b2i_f c_224
                              rw [va_up_self, tk_mg hw h8y h8t, ← e2] at c_224
                              have hg5 := c_224
                              refine lv_aload_n hx hb dX7_merge_227 rfl (lv_at hl 6 rfl) ?_
                              refine lv_iconst (v := 5) hx hb dX7_merge_228 (by decide) ?_
                              refine cm_V (As' := [.int (5)]) (rest := []) hC (c_X7_refuse) mv_X7_refuse qM_X7_41 ⟨⟨rfl, rfl⟩, Nat.le_of_ble_eq_true rfl, Nat.le_of_ble_eq_true rfl⟩ hK hH hS hA (hp.recv hK hH (i := 0) (by omega) rfl rfl) hl.1 ⟨Nat.zero_le _, Nat.zero_le _⟩ rfl rfl (Nat.le_of_ble_eq_true rfl) dX7_merge_229 (fun H locs hH hS => ?_)
                              subst hQ
                              exact cx_ri hC hr hlk (hpost.mk (by have h9 : (P.kd x < 8 ∧ P.kd y < 8 ∧ P.kd t < 8) ∧ (P.kd x = 0 ↔ P.kd y = 0) := (by omega); simp only [sp_merge, isC_nI hja, isC_nI hjb, isC_nI hjd, cN_c hja, cN_c hjb, cN_c hjd, rs_3ok hqa hqb hqd, h1a, h1b, h1d, Nat.add_sub_cancel, and_self, if_true, if_pos h9, if_pos hlen, mgG_no hg5 (show k < P.ln t by omega), Bool.false_eq_true, if_false]; rfl) (HI_up hI2 (cOK_rd hw (hI2.1 _ (by omega)) (by omega)))) hH hS dX7_merge_232
                    exact lp ((P.ln t) + 1) 0 (by omega) (by omega) _ (hI) (rfl) (fun i hi => absurd hi (Nat.not_lt_zero i)) _ _ hH hS ls (lv_sub hl [0, 1, 2, 3, 4, 5, 6, 7, 8] rfl)
                  · have c_131 := nc_ne (a := (P.ln t)) (b := (P.ln x + P.ln y)) (by omega) (by omega) c_131
                    refine lv_aload_n hx hb dX7_merge_134 rfl (lv_at hl 3 rfl) ?_
                    refine lv_iconst (v := 4) hx hb dX7_merge_135 (by decide) ?_
                    refine cm_V (As' := [.int (4)]) (rest := []) hC (c_X7_refuse) mv_X7_refuse qM_X7_41 ⟨⟨rfl, rfl⟩, Nat.le_of_ble_eq_true rfl, Nat.le_of_ble_eq_true rfl⟩ hK hH hS hA (hp.recv hK hH (i := 0) (by omega) rfl rfl) hl.1 ⟨Nat.zero_le _, Nat.zero_le _⟩ rfl rfl (Nat.le_of_ble_eq_true rfl) dX7_merge_136 (fun H locs hH hS => ?_)
                    subst hQ
                    exact cx_ri hC hr hlk (hpost.mk (by have h9 : (P.kd x < 8 ∧ P.kd y < 8 ∧ P.kd t < 8) ∧ (P.kd x = 0 ↔ P.kd y = 0) := (by omega); simp only [sp_merge, isC_nI hja, isC_nI hjb, isC_nI hjd, cN_c hja, cN_c hjb, cN_c hjd, rs_3ok hqa hqb hqd, h1a, h1b, h1d, Nat.add_sub_cancel, and_self, if_true, if_pos h9, if_neg (show ¬ P.ln t = P.ln x + P.ln y by omega)]; rfl) (by repeat' (first | exact hI | refine HI_up ?_ ?_ | refine cOK_rd hw ?_ (by omega) | refine cOK_td ?_ (by omega) | exact cOK_th (by omega) | refine HI_sm hw ?_ (by omega) (by omega) | refine HI_c (st := st) ?_ (by omega)))) hH hS dX7_merge_139
                · have c_97 := nc_eq (a := (P.kd y)) (b := 0) (by omega) (by omega) c_97
                  refine lv_iconst (v := 1) hx hb dX7_merge_100 (by decide) ?_
                  refine lv_goto (tgt := 105) hx hb dX7_merge_101 (by decide) ?_
                  refine lv_icmp_eq (tgt := 115) hx hb dX7_merge_105 (by decide) (fun c_105 => absurd c_105 (by decide)) (fun c_105 => ?_)
                  refine lv_aload_n hx hb dX7_merge_108 rfl (lv_at hl 3 rfl) ?_
                  refine lv_bipush (v := 6) hx hb dX7_merge_109 (by decide) ?_
                  refine cm_V (As' := [.int (6)]) (rest := []) hC (c_X7_refuse) mv_X7_refuse qM_X7_41 ⟨⟨rfl, rfl⟩, Nat.le_of_ble_eq_true rfl, Nat.le_of_ble_eq_true rfl⟩ hK hH hS hA (hp.recv hK hH (i := 0) (by omega) rfl rfl) hl.1 ⟨Nat.zero_le _, Nat.zero_le _⟩ rfl rfl (Nat.le_of_ble_eq_true rfl) dX7_merge_111 (fun H locs hH hS => ?_)
                  subst hQ
                  exact cx_ri hC hr hlk (hpost.mk (by have h9 : ¬ ((P.kd x < 8 ∧ P.kd y < 8 ∧ P.kd t < 8) ∧ (P.kd x = 0 ↔ P.kd y = 0)) := (by omega); simp only [sp_merge, isC_nI hja, isC_nI hjb, isC_nI hjd, cN_c hja, cN_c hjb, cN_c hjd, rs_3ok hqa hqb hqd, h1a, h1b, h1d, Nat.add_sub_cancel, and_self, if_true, if_neg h9]; rfl) (by repeat' (first | exact hI | refine HI_up ?_ ?_ | refine cOK_rd hw ?_ (by omega) | refine cOK_td ?_ (by omega) | exact cOK_th (by omega) | refine HI_sm hw ?_ (by omega) (by omega) | refine HI_c (st := st) ?_ (by omega)))) hH hS dX7_merge_114
              · have c_84 := nc_eq (a := (P.kd x)) (b := 0) (by omega) (by omega) c_84
                refine lv_iconst (v := 1) hx hb dX7_merge_87 (by decide) ?_
                refine lv_goto (tgt := 92) hx hb dX7_merge_88 (by decide) ?_
                refine lv_aload hx hb dX7_merge_92 (lv_at hl 1 rfl) ?_
                refine hr_kd hC hK hw hH y (by omega) qF_X7_155 (Or.inr qSF_X3) dX7_merge_94 ?_
                refine lv_if_ne (tgt := 104) hx hb dX7_merge_97 (by decide) (fun c_97 => ?_) (fun c_97 => ?_)
                · have c_97 := nc_ne (a := (P.kd y)) (b := 0) (by omega) (by omega) c_97
                  refine lv_iconst (v := 0) hx hb dX7_merge_104 (by decide) ?_
                  refine lv_icmp_eq (tgt := 115) hx hb dX7_merge_105 (by decide) (fun c_105 => absurd c_105 (by decide)) (fun c_105 => ?_)
                  refine lv_aload_n hx hb dX7_merge_108 rfl (lv_at hl 3 rfl) ?_
                  refine lv_bipush (v := 6) hx hb dX7_merge_109 (by decide) ?_
                  refine cm_V (As' := [.int (6)]) (rest := []) hC (c_X7_refuse) mv_X7_refuse qM_X7_41 ⟨⟨rfl, rfl⟩, Nat.le_of_ble_eq_true rfl, Nat.le_of_ble_eq_true rfl⟩ hK hH hS hA (hp.recv hK hH (i := 0) (by omega) rfl rfl) hl.1 ⟨Nat.zero_le _, Nat.zero_le _⟩ rfl rfl (Nat.le_of_ble_eq_true rfl) dX7_merge_111 (fun H locs hH hS => ?_)
                  subst hQ
                  exact cx_ri hC hr hlk (hpost.mk (by have h9 : ¬ ((P.kd x < 8 ∧ P.kd y < 8 ∧ P.kd t < 8) ∧ (P.kd x = 0 ↔ P.kd y = 0)) := (by omega); simp only [sp_merge, isC_nI hja, isC_nI hjb, isC_nI hjd, cN_c hja, cN_c hjb, cN_c hjd, rs_3ok hqa hqb hqd, h1a, h1b, h1d, Nat.add_sub_cancel, and_self, if_true, if_neg h9]; rfl) (by repeat' (first | exact hI | refine HI_up ?_ ?_ | refine cOK_rd hw ?_ (by omega) | refine cOK_td ?_ (by omega) | exact cOK_th (by omega) | refine HI_sm hw ?_ (by omega) (by omega) | refine HI_c (st := st) ?_ (by omega)))) hH hS dX7_merge_114
                · have c_97 := nc_eq (a := (P.kd y)) (b := 0) (by omega) (by omega) c_97
                  refine lv_iconst (v := 1) hx hb dX7_merge_100 (by decide) ?_
                  refine lv_goto (tgt := 105) hx hb dX7_merge_101 (by decide) ?_
                  refine lv_icmp_eq (tgt := 115) hx hb dX7_merge_105 (by decide) (fun c_105 => ?_) (fun c_105 => absurd c_105 (by decide))
                  have h00 : P.kd x = 0 ↔ P.kd y = 0 := by omega
                  refine lv_aload hx hb dX7_merge_115 (lv_at hl 0 rfl) ?_
                  refine cm_R (As := []) (rest := []) (i := 30 + 2 * t) hC (rc_length (t := t) hw (by omega) (by omega)) qM_X7_68 ⟨Nat.le_of_ble_eq_true rfl, Nat.le_of_ble_eq_true rfl⟩ hK hH hS hA hl.1 ⟨Nat.zero_le _, Nat.zero_le _⟩ rfl rfl (Nat.le_of_ble_eq_true rfl) dX7_merge_117 (fun H locs hH hS => ?_)
                  refine lv_aload hx hb dX7_merge_120 (lv_at hl 2 rfl) ?_
                  refine cm_R (As := []) (rest := [.int (nI (P.ln t))]) (i := 30 + 2 * x) hC (rc_length (t := x) hw (by omega) (by omega)) qM_X7_68 ⟨Nat.le_of_ble_eq_true rfl, Nat.le_of_ble_eq_true rfl⟩ hK hH hS hA hl.1 ⟨Nat.zero_le _, Nat.zero_le _⟩ rfl rfl (Nat.le_of_ble_eq_true rfl) dX7_merge_122 (fun H locs hH hS => ?_)
                  refine lv_aload hx hb dX7_merge_125 (lv_at hl 1 rfl) ?_
                  refine cm_R (As := []) (rest := [.int (nI (P.ln x)), .int (nI (P.ln t))]) (i := 30 + 2 * y) hC (rc_length (t := y) hw (by omega) (by omega)) qM_X7_68 ⟨Nat.le_of_ble_eq_true rfl, Nat.le_of_ble_eq_true rfl⟩ hK hH hS hA hl.1 ⟨Nat.zero_le _, Nat.zero_le _⟩ rfl rfl (Nat.le_of_ble_eq_true rfl) dX7_merge_127 (fun H locs hH hS => ?_)
                  refine lv_iadd hx hb dX7_merge_130 ?_
                  refine lv_chg (y := nI (P.ln x + P.ln y)) (by rw [nI_add]) ?_
                  refine lv_icmp_eq (tgt := 140) hx hb dX7_merge_131 (by decide) (fun c_131 => ?_) (fun c_131 => ?_)
                  · have c_131 := nc_eq (a := (P.ln t)) (b := (P.ln x + P.ln y)) (by omega) (by omega) c_131
                    have h8x : P.kd x < 8 := by omega
                    have h8y : P.kd y < 8 := by omega
                    have h8t : P.kd t < 8 := by omega
                    have hlen : P.ln t = P.ln x + P.ln y := by omega
                    refine lv_iconst (v := 0) hx hb dX7_merge_140 (by decide) ?_
                    refine lv_istore (lv' := [(7, .int (0)), (6, .ref (ad (30 + 2 * t))), (5, .ref (ad (30 + 2 * y))), (4, .ref (ad (30 + 2 * x))), (0, .ref (ad 0)), (1, .int (nI j)), (2, .int (nI q)), (3, .int (nI u))]) hx hb dX7_merge_141 hl (by decide) rfl (fun ls hl => ?_)
                    refine lv_iconst (v := 0) hx hb dX7_merge_143 (by decide) ?_
                    refine lv_istore (lv' := [(8, .int (0)), (7, .int (0)), (6, .ref (ad (30 + 2 * t))), (5, .ref (ad (30 + 2 * y))), (4, .ref (ad (30 + 2 * x))), (0, .ref (ad 0)), (1, .int (nI j)), (2, .int (nI q)), (3, .int (nI u))]) hx hb dX7_merge_144 hl (by decide) rfl (fun ls hl => ?_)
                    have lp : ∀ (n9 k : Nat), k ≤ (P.ln t) → (P.ln t) < k + n9 → ∀ (cl : Nat → CE) (hI : HI P cl st) (hgg : mgG P x y t k = true) (hsg : SGd P t (fun i => wdn (mgS P x y i) (P.kd t) (mgV P x y i).1 (mgV P x y i).2) cl st k) (H : Heap) (locs : List Loc), hp D A (30 + 2 * P.n) ad (hct cy ad P wy cl st tg) H → va_S A s.heap H locs → ∀ (ls : Array Slot), lv_has ls 10 [(8, .int (nI k)), (7, .int (nI (mgI P x y k))), (6, .ref (ad (30 + 2 * t))), (5, .ref (ad (30 + 2 * y))), (4, .ref (ad (30 + 2 * x))), (0, .ref (ad 0)), (1, .int (nI j)), (2, .int (nI q)), (3, .int (nI u))] → W p_ l e_ (rm_ 4 86) s m_ args_ below meth cd H locs 0 0 Q (F0 m_ 146 ls []) := by
                      intro n9
                      induction n9 with
                      | zero => intro k h1 h2; omega
                      | succ n9 ih_lp =>
                        intro k hk1 hk2 cl hI hgg hsg H locs hH hS ls hl
                        obtain ⟨hm1, hm2, hm3⟩ := mgI_ok P x y k (by omega)
                        refine lv_iload hx hb dX7_merge_146 (lv_at hl 0 rfl) ?_
                        refine lv_aload hx hb dX7_merge_148 (lv_at hl 2 rfl) ?_
                        refine cm_R (As := []) (rest := [.int (nI k)]) (i := 30 + 2 * t) hC (rc_length (t := t) hw (by omega) (by omega)) qM_X7_68 ⟨Nat.le_of_ble_eq_true rfl, Nat.le_of_ble_eq_true rfl⟩ hK hH hS hA hl.1 ⟨Nat.zero_le _, Nat.zero_le _⟩ rfl rfl (Nat.le_of_ble_eq_true rfl) dX7_merge_150 (fun H locs hH hS => ?_)
                        refine lv_icmp_ge (tgt := 239) hx hb dX7_merge_153 (by decide) (fun c_153 => ?_) (fun c_153 => ?_)
                        · have c_153 := nc_le (a := (P.ln t)) (b := k) (by omega) (by omega) c_153
                          refine lv_aload_n hx hb dX7_merge_239 rfl (lv_at hl 5 rfl) ?_
                          refine lv_aload_n hx hb dX7_merge_240 rfl (lv_at hl 5 rfl) ?_
                          refine lv_aload hx hb dX7_merge_241 (lv_at hl 2 rfl) ?_
                          refine cm_V (As' := [.ref (ad (30 + 2 * t))]) (rest := [.ref (ad 0)]) hC (c_X7_writeStage (t := t) hw (by omega) (by omega) (hI)) mv_X7_writeStage qM_X7_143 ⟨⟨rfl, rfl⟩, Nat.le_of_ble_eq_true rfl, Nat.le_of_ble_eq_true rfl⟩ hK hH hS hA (hp.recv hK hH (i := 0) (by omega) rfl rfl) hl.1 ⟨Nat.zero_le _, Nat.zero_le _⟩ rfl rfl (Nat.le_of_ble_eq_true rfl) dX7_merge_243 (fun H locs hH hS => ?_)
                          refine cm_V (As' := [.int (nI (P.ln t))]) (rest := []) hC (c_X7_done (P := wgP P t (fun i => i) (fun i => cl (st i)) (P.ln t))) mv_X7_done qM_X7_50 ⟨⟨rfl, rfl⟩, Nat.le_of_ble_eq_true rfl, Nat.le_of_ble_eq_true rfl⟩ hK hH hS hA (hp.recv hK hH (i := 0) (by omega) rfl rfl) hl.1 ⟨Nat.zero_le _, Nat.zero_le _⟩ rfl rfl (Nat.le_of_ble_eq_true rfl) dX7_merge_246 (fun H locs hH hS => ?_)
                          subst hQ
                          exact cx_ri hC hr hlk (hpost.mk (P := wgP P t (fun i => i) (fun i => cl (st i)) (P.ln t)) (by have h9 : (P.kd x < 8 ∧ P.kd y < 8 ∧ P.kd t < 8) ∧ (P.kd x = 0 ↔ P.kd y = 0) := (by omega); simp only [sp_merge, isC_nI hja, isC_nI hjb, isC_nI hjd, cN_c hja, cN_c hjb, cN_c hjd, rs_3ok hqa hqb hqd, h1a, h1b, h1d, Nat.add_sub_cancel, and_self, if_true, if_pos h9, if_pos hlen, if_pos (show mgG P x y t (P.ln t) = true by rw [show P.ln t = k by omega]; exact hgg)]; rw [show P.ln t = k by omega, ← mg_end hz hsg]) ((HI_n (P := P) (by repeat' (first | exact hI | refine HI_up ?_ ?_ | refine cOK_rd hw ?_ (by omega) | refine cOK_td ?_ (by omega) | exact cOK_th (by omega) | refine HI_sm hw ?_ (by omega) (by omega) | refine HI_c (st := st) ?_ (by omega))) rfl))) hH hS dX7_merge_249
                        · have c_153 := nc_nle (a := (P.ln t)) (b := k) (by omega) (by omega) c_153
                          refine lv_iload hx hb dX7_merge_156 (lv_at hl 0 rfl) ?_
                          refine lv_iload hx hb dX7_merge_158 (lv_at hl 1 rfl) ?_
                          refine lv_isub hx hb dX7_merge_160 ?_
                          refine lv_chg (y := nI (k - mgI P x y k)) (nI_sub (by omega)) ?_
                          refine lv_istore (lv' := [(9, .int (nI (k - mgI P x y k))), (8, .int (nI k)), (7, .int (nI (mgI P x y k))), (6, .ref (ad (30 + 2 * t))), (5, .ref (ad (30 + 2 * y))), (4, .ref (ad (30 + 2 * x))), (0, .ref (ad 0)), (1, .int (nI j)), (2, .int (nI q)), (3, .int (nI u))]) hx hb dX7_merge_161 hl (by decide) rfl (fun ls hl => ?_)
                          refine lv_aload_n hx hb dX7_merge_163 rfl (lv_at hl 6 rfl) ?_
                          refine lv_aload hx hb dX7_merge_164 (lv_at hl 5 rfl) ?_
                          refine lv_iload hx hb dX7_merge_166 (lv_at hl 2 rfl) ?_
                          refine lv_aload hx hb dX7_merge_168 (lv_at hl 4 rfl) ?_
                          refine lv_iload hx hb dX7_merge_170 (lv_at hl 0 rfl) ?_
                          refine cx_V (As' := [.ref (ad (30 + 2 * x)), .int (nI (mgI P x y k)), .ref (ad (30 + 2 * y)), .int (nI (k - mgI P x y k))]) (rest := []) hC (c_X7_comesFromRight (x := x) (y := y) (i := (mgI P x y k)) (j := (k - mgI P x y k)) hw hI (by omega) (by omega) (by omega) (by omega) h00 (by omega) (by omega)) mv_X7_comesFromRight qM_X7_156 ⟨⟨rfl, rfl⟩, Nat.le_of_ble_eq_true rfl, Nat.le_of_ble_eq_true rfl⟩ hK hH hS hA (hp.recv hK hH (i := 0) (by omega) rfl rfl) hl.1 ⟨Nat.zero_le _, Nat.zero_le _⟩ rfl rfl (Nat.le_of_ble_eq_true rfl) dX7_merge_172 (fun v9 c9 H locs hpo hH hS hfr9 => ?_)
                          obtain ⟨e9, c2, rfl, hI2, hc2⟩ := hpo
                          subst e9
                          refine lv_if_eq (tgt := 195) hx hb dX7_merge_175 (by decide) (fun c_175 => ?_) (fun c_175 => ?_)
                          · have c_175 := b2i_f c_175
                            obtain ⟨e1, e2, e3⟩ := mgI_F c_175
                            have hsk := hI.2.1 k (by omega)
                            have hix : mgI P x y k < P.ln x := by have h9 := (mgI_ok P x y (k + 1) (by omega)).2.1; rw [e1] at h9; omega
                            refine lv_aload hx hb dX7_merge_195 (lv_at hl 5 rfl) ?_
                            refine lv_iload hx hb dX7_merge_197 (lv_at hl 2 rfl) ?_
                            refine lv_aload_n hx hb dX7_merge_199 rfl (lv_at hl 6 rfl) ?_
                            refine g_get hC hK inG7 hH 0 (by omega) rfl (ci := 5) rfl 1 (by decide) qF_X7_17 (Or.inl rfl) rfl dX7_merge_200 ?_
                            refine lv_iload hx hb dX7_merge_203 (lv_at hl 1 rfl) ?_
                            refine hr_sg hC hK hH k (by omega) dX7_merge_205 ?_
                            refine cm_R (As := [.int (nI (mgI P x y k)), .ref (ad (4 + st k))]) (rest := []) (i := 30 + 2 * x) hC (rc_read (t := x) (i := (mgI P x y k)) (j := st k) hw (by omega) (by omega) (by omega) (by omega)) qM_X7_117 ⟨Nat.le_of_ble_eq_true rfl, Nat.le_of_ble_eq_true rfl⟩ hK hH hS hA hl.1 ⟨Nat.zero_le _, Nat.zero_le _⟩ rfl rfl (Nat.le_of_ble_eq_true rfl) dX7_merge_206 (fun H locs hH hS => ?_)
                            refine lv_iinc (v := nI ((mgI P x y k) + 1)) (lv' := [(7, .int (nI ((mgI P x y k) + 1))), (9, .int (nI (k - mgI P x y k))), (8, .int (nI k)), (6, .ref (ad (30 + 2 * t))), (5, .ref (ad (30 + 2 * y))), (4, .ref (ad (30 + 2 * x))), (0, .ref (ad 0)), (1, .int (nI j)), (2, .int (nI q)), (3, .int (nI u))]) hx hb dX7_merge_209 hl (k := 2) rfl (nI_1 _) (by decide) rfl (fun ls hl => ?_)
                            have hl : lv_has ls 10 [(7, .int (nI (mgI P x y (k + 1)))), (9, .int (nI (k - mgI P x y k))), (8, .int (nI k)), (6, .ref (ad (30 + 2 * t))), (5, .ref (ad (30 + 2 * y))), (4, .ref (ad (30 + 2 * x))), (0, .ref (ad 0)), (1, .int (nI j)), (2, .int (nI q)), (3, .int (nI u))] := by have e9 : nI ((mgI P x y k) + 1) = nI (mgI P x y (k + 1)) := (by rw [e1]); rw [← e9]; exact hl
                            refine lv_aload hx hb dX7_merge_212 (lv_at hl 3 rfl) ?_
                            refine lv_aload_n hx hb dX7_merge_214 rfl (lv_at hl 6 rfl) ?_
                            refine g_get hC hK inG7 hH 0 (by omega) rfl (ci := 5) rfl 1 (by decide) qF_X7_17 (Or.inl rfl) rfl dX7_merge_215 ?_
                            refine lv_iload hx hb dX7_merge_218 (lv_at hl 2 rfl) ?_
                            refine hr_sg hC hK hH k (by omega) dX7_merge_220 ?_
                            refine cm_R (As := [.ref (ad (4 + st k))]) (rest := []) (i := 30 + 2 * t) hC (rc_takes (t := t) (j := st k) hw (by omega) (by omega) (by omega) (by rw [va_up_self]; exact cOK_rd hw (hI2.1 _ (by omega)) (by omega))) qM_X7_139 ⟨Nat.le_of_ble_eq_true rfl, Nat.le_of_ble_eq_true rfl⟩ hK hH hS hA hl.1 ⟨Nat.zero_le _, Nat.zero_le _⟩ rfl rfl (Nat.le_of_ble_eq_true rfl) dX7_merge_221 (fun H locs hH hS => ?_)
                            refine lv_if_ne (tgt := 233) hx hb dX7_merge_224 (by decide) (fun c_224 => ?_) (fun c_224 => ?_)
                            · have c_224 := b2i_t c_224
                              rw [va_up_self, tk_mg hw h8x h8t, ← e2] at c_224
                              refine lv_iinc (v := nI (k + 1)) (lv' := [(8, .int (nI (k + 1))), (7, .int (nI (mgI P x y (k + 1)))), (9, .int (nI (k - mgI P x y k))), (6, .ref (ad (30 + 2 * t))), (5, .ref (ad (30 + 2 * y))), (4, .ref (ad (30 + 2 * x))), (0, .ref (ad 0)), (1, .int (nI j)), (2, .int (nI q)), (3, .int (nI u))]) hx hb dX7_merge_233 hl (k := 2) rfl (nI_1 _) (by decide) rfl (fun ls hl => ?_)
                              refine lv_goto (tgt := 146) hx hb dX7_merge_236 (by decide) ?_
                              exact ih_lp (k + 1) (by omega) (by omega) _ (HI_up hI2 (cOK_rd hw (hI2.1 _ (by omega)) (by omega))) (by show (mgG P x y t k && goes (mgS P x y k) (P.kd t)) = true; rw [hgg, c_224]; rfl) (SG_s hI2 (by omega) (SG_eq hI (by omega) hsg hc2) (by show CVal P t _ (wdn (mgS P x y k) (P.kd t) (mgV P x y k).1 (mgV P x y k).2); rw [e2, e3]; exact rd_wdn hw hz h8x h8t (by rw [← e2]; exact c_224))) _ _ hH hS ls (lv_sub hl [0, 1, 3, 4, 5, 6, 7, 8, 9] rfl)
                            · have c_224 := b2i_f c_224
                              rw [va_up_self, tk_mg hw h8x h8t, ← e2] at c_224
                              have hg5 := c_224
                              refine lv_aload_n hx hb dX7_merge_227 rfl (lv_at hl 6 rfl) ?_
                              refine lv_iconst (v := 5) hx hb dX7_merge_228 (by decide) ?_
                              refine cm_V (As' := [.int (5)]) (rest := []) hC (c_X7_refuse) mv_X7_refuse qM_X7_41 ⟨⟨rfl, rfl⟩, Nat.le_of_ble_eq_true rfl, Nat.le_of_ble_eq_true rfl⟩ hK hH hS hA (hp.recv hK hH (i := 0) (by omega) rfl rfl) hl.1 ⟨Nat.zero_le _, Nat.zero_le _⟩ rfl rfl (Nat.le_of_ble_eq_true rfl) dX7_merge_229 (fun H locs hH hS => ?_)
                              subst hQ
                              exact cx_ri hC hr hlk (hpost.mk (by have h9 : (P.kd x < 8 ∧ P.kd y < 8 ∧ P.kd t < 8) ∧ (P.kd x = 0 ↔ P.kd y = 0) := (by omega); simp only [sp_merge, isC_nI hja, isC_nI hjb, isC_nI hjd, cN_c hja, cN_c hjb, cN_c hjd, rs_3ok hqa hqb hqd, h1a, h1b, h1d, Nat.add_sub_cancel, and_self, if_true, if_pos h9, if_pos hlen, mgG_no hg5 (show k < P.ln t by omega), Bool.false_eq_true, if_false]; rfl) (HI_up hI2 (cOK_rd hw (hI2.1 _ (by omega)) (by omega)))) hH hS dX7_merge_232
                          · have c_175 := b2i_t c_175
                            obtain ⟨e1, e2, e3⟩ := mgI_T c_175
                            have hsk := hI.2.1 k (by omega)
                            have hjy : k - mgI P x y k < P.ln y := by have h9 := (mgI_ok P x y (k + 1) (by omega)).2.2; rw [e1] at h9; omega
                            refine lv_aload hx hb dX7_merge_178 (lv_at hl 4 rfl) ?_
                            refine lv_iload hx hb dX7_merge_180 (lv_at hl 0 rfl) ?_
                            refine lv_aload_n hx hb dX7_merge_182 rfl (lv_at hl 6 rfl) ?_
                            refine g_get hC hK inG7 hH 0 (by omega) rfl (ci := 5) rfl 1 (by decide) qF_X7_17 (Or.inl rfl) rfl dX7_merge_183 ?_
                            refine lv_iload hx hb dX7_merge_186 (lv_at hl 1 rfl) ?_
                            refine hr_sg hC hK hH k (by omega) dX7_merge_188 ?_
                            refine cm_R (As := [.int (nI (k - mgI P x y k)), .ref (ad (4 + st k))]) (rest := []) (i := 30 + 2 * y) hC (rc_read (t := y) (i := (k - mgI P x y k)) (j := st k) hw (by omega) (by omega) (by omega) (by omega)) qM_X7_117 ⟨Nat.le_of_ble_eq_true rfl, Nat.le_of_ble_eq_true rfl⟩ hK hH hS hA hl.1 ⟨Nat.zero_le _, Nat.zero_le _⟩ rfl rfl (Nat.le_of_ble_eq_true rfl) dX7_merge_189 (fun H locs hH hS => ?_)
                            refine lv_goto (tgt := 212) hx hb dX7_merge_192 (by decide) ?_
                            have hl : lv_has ls 10 [(9, .int (nI (k - mgI P x y k))), (8, .int (nI k)), (7, .int (nI (mgI P x y (k + 1)))), (6, .ref (ad (30 + 2 * t))), (5, .ref (ad (30 + 2 * y))), (4, .ref (ad (30 + 2 * x))), (0, .ref (ad 0)), (1, .int (nI j)), (2, .int (nI q)), (3, .int (nI u))] := by have e9 : nI (mgI P x y k) = nI (mgI P x y (k + 1)) := (by rw [e1]); rw [← e9]; exact hl
                            refine lv_aload hx hb dX7_merge_212 (lv_at hl 3 rfl) ?_
                            refine lv_aload_n hx hb dX7_merge_214 rfl (lv_at hl 6 rfl) ?_
                            refine g_get hC hK inG7 hH 0 (by omega) rfl (ci := 5) rfl 1 (by decide) qF_X7_17 (Or.inl rfl) rfl dX7_merge_215 ?_
                            refine lv_iload hx hb dX7_merge_218 (lv_at hl 1 rfl) ?_
                            refine hr_sg hC hK hH k (by omega) dX7_merge_220 ?_
                            refine cm_R (As := [.ref (ad (4 + st k))]) (rest := []) (i := 30 + 2 * t) hC (rc_takes (t := t) (j := st k) hw (by omega) (by omega) (by omega) (by rw [va_up_self]; exact cOK_rd hw (hI2.1 _ (by omega)) (by omega))) qM_X7_139 ⟨Nat.le_of_ble_eq_true rfl, Nat.le_of_ble_eq_true rfl⟩ hK hH hS hA hl.1 ⟨Nat.zero_le _, Nat.zero_le _⟩ rfl rfl (Nat.le_of_ble_eq_true rfl) dX7_merge_221 (fun H locs hH hS => ?_)
                            refine lv_if_ne (tgt := 233) hx hb dX7_merge_224 (by decide) (fun c_224 => ?_) (fun c_224 => ?_)
                            · have c_224 := b2i_t c_224
                              rw [va_up_self, tk_mg hw h8y h8t, ← e2] at c_224
                              refine lv_iinc (v := nI (k + 1)) (lv' := [(8, .int (nI (k + 1))), (9, .int (nI (k - mgI P x y k))), (7, .int (nI (mgI P x y (k + 1)))), (6, .ref (ad (30 + 2 * t))), (5, .ref (ad (30 + 2 * y))), (4, .ref (ad (30 + 2 * x))), (0, .ref (ad 0)), (1, .int (nI j)), (2, .int (nI q)), (3, .int (nI u))]) hx hb dX7_merge_233 hl (k := 1) rfl (nI_1 _) (by decide) rfl (fun ls hl => ?_)
                              refine lv_goto (tgt := 146) hx hb dX7_merge_236 (by decide) ?_
                              exact ih_lp (k + 1) (by omega) (by omega) _ (HI_up hI2 (cOK_rd hw (hI2.1 _ (by omega)) (by omega))) (by show (mgG P x y t k && goes (mgS P x y k) (P.kd t)) = true; rw [hgg, c_224]; rfl) (SG_s hI2 (by omega) (SG_eq hI (by omega) hsg hc2) (by show CVal P t _ (wdn (mgS P x y k) (P.kd t) (mgV P x y k).1 (mgV P x y k).2); rw [e2, e3]; exact rd_wdn hw hz h8y h8t (by rw [← e2]; exact c_224))) _ _ hH hS ls (lv_sub hl [0, 2, 3, 4, 5, 6, 7, 8, 9] rfl)
                            · have c_224 := b2i_f c_224
                              rw [va_up_self, tk_mg hw h8y h8t, ← e2] at c_224
                              have hg5 := c_224
                              refine lv_aload_n hx hb dX7_merge_227 rfl (lv_at hl 6 rfl) ?_
                              refine lv_iconst (v := 5) hx hb dX7_merge_228 (by decide) ?_
                              refine cm_V (As' := [.int (5)]) (rest := []) hC (c_X7_refuse) mv_X7_refuse qM_X7_41 ⟨⟨rfl, rfl⟩, Nat.le_of_ble_eq_true rfl, Nat.le_of_ble_eq_true rfl⟩ hK hH hS hA (hp.recv hK hH (i := 0) (by omega) rfl rfl) hl.1 ⟨Nat.zero_le _, Nat.zero_le _⟩ rfl rfl (Nat.le_of_ble_eq_true rfl) dX7_merge_229 (fun H locs hH hS => ?_)
                              subst hQ
                              exact cx_ri hC hr hlk (hpost.mk (by have h9 : (P.kd x < 8 ∧ P.kd y < 8 ∧ P.kd t < 8) ∧ (P.kd x = 0 ↔ P.kd y = 0) := (by omega); simp only [sp_merge, isC_nI hja, isC_nI hjb, isC_nI hjd, cN_c hja, cN_c hjb, cN_c hjd, rs_3ok hqa hqb hqd, h1a, h1b, h1d, Nat.add_sub_cancel, and_self, if_true, if_pos h9, if_pos hlen, mgG_no hg5 (show k < P.ln t by omega), Bool.false_eq_true, if_false]; rfl) (HI_up hI2 (cOK_rd hw (hI2.1 _ (by omega)) (by omega)))) hH hS dX7_merge_232
                    exact lp ((P.ln t) + 1) 0 (by omega) (by omega) _ (hI) (rfl) (fun i hi => absurd hi (Nat.not_lt_zero i)) _ _ hH hS ls (lv_sub hl [0, 1, 2, 3, 4, 5, 6, 7, 8] rfl)
                  · have c_131 := nc_ne (a := (P.ln t)) (b := (P.ln x + P.ln y)) (by omega) (by omega) c_131
                    refine lv_aload_n hx hb dX7_merge_134 rfl (lv_at hl 3 rfl) ?_
                    refine lv_iconst (v := 4) hx hb dX7_merge_135 (by decide) ?_
                    refine cm_V (As' := [.int (4)]) (rest := []) hC (c_X7_refuse) mv_X7_refuse qM_X7_41 ⟨⟨rfl, rfl⟩, Nat.le_of_ble_eq_true rfl, Nat.le_of_ble_eq_true rfl⟩ hK hH hS hA (hp.recv hK hH (i := 0) (by omega) rfl rfl) hl.1 ⟨Nat.zero_le _, Nat.zero_le _⟩ rfl rfl (Nat.le_of_ble_eq_true rfl) dX7_merge_136 (fun H locs hH hS => ?_)
                    subst hQ
                    exact cx_ri hC hr hlk (hpost.mk (by have h9 : (P.kd x < 8 ∧ P.kd y < 8 ∧ P.kd t < 8) ∧ (P.kd x = 0 ↔ P.kd y = 0) := (by omega); simp only [sp_merge, isC_nI hja, isC_nI hjb, isC_nI hjd, cN_c hja, cN_c hjb, cN_c hjd, rs_3ok hqa hqb hqd, h1a, h1b, h1d, Nat.add_sub_cancel, and_self, if_true, if_pos h9, if_neg (show ¬ P.ln t = P.ln x + P.ln y by omega)]; rfl) (by repeat' (first | exact hI | refine HI_up ?_ ?_ | refine cOK_rd hw ?_ (by omega) | refine cOK_td ?_ (by omega) | exact cOK_th (by omega) | refine HI_sm hw ?_ (by omega) (by omega) | refine HI_c (st := st) ?_ (by omega)))) hH hS dX7_merge_139
            · have c_69 := b2d_f c_69
              refine lv_aload_n hx hb dX7_merge_72 rfl (lv_at hl 3 rfl) ?_
              refine lv_bipush (v := 6) hx hb dX7_merge_73 (by decide) ?_
              refine cm_V (As' := [.int (6)]) (rest := []) hC (c_X7_refuse) mv_X7_refuse qM_X7_41 ⟨⟨rfl, rfl⟩, Nat.le_of_ble_eq_true rfl, Nat.le_of_ble_eq_true rfl⟩ hK hH hS hA (hp.recv hK hH (i := 0) (by omega) rfl rfl) hl.1 ⟨Nat.zero_le _, Nat.zero_le _⟩ rfl rfl (Nat.le_of_ble_eq_true rfl) dX7_merge_75 (fun H locs hH hS => ?_)
              subst hQ
              exact cx_ri hC hr hlk (hpost.mk (by have h9 : ¬ ((P.kd x < 8 ∧ P.kd y < 8 ∧ P.kd t < 8) ∧ (P.kd x = 0 ↔ P.kd y = 0)) := (by omega); simp only [sp_merge, isC_nI hja, isC_nI hjb, isC_nI hjd, cN_c hja, cN_c hjb, cN_c hjd, rs_3ok hqa hqb hqd, h1a, h1b, h1d, Nat.add_sub_cancel, and_self, if_true, if_neg h9]; rfl) (by repeat' (first | exact hI | refine HI_up ?_ ?_ | refine cOK_rd hw ?_ (by omega) | refine cOK_td ?_ (by omega) | exact cOK_th (by omega) | refine HI_sm hw ?_ (by omega) (by omega) | refine HI_c (st := st) ?_ (by omega)))) hH hS dX7_merge_78
