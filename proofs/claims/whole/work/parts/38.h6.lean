theorem co_set {P : AS} {c x : Nat} : (P.setCo c x).co c = x := va_up_self _ _ _
theorem mv_X7_places : mvok RX7 yX7_places cX7_places 3 (some .int) 1 := ⟨qK_X7_places, qI_X7_places, qSel_X7_X7_places, qInit_X7, by decide +kernel⟩
set_option maxHeartbeats 4000000 in
set_option maxRecDepth 100000 in
theorem c_X7_places {l : Launch} {D : va_G} {cy : Nat → ClassId} {ad : Nat → Nat} {P : AS} {wy : Int32} {cl : Nat → CE} {st : Nat → Nat} {tg : Nat → Int32} {c : Int32} (hw : WF P) (hz : WZ P) (hI : HI P cl st) : CX l yX7_places cX7_places 3 (some .int) (rm_ 2 43) D cy (30 + 2 * P.n) ad [.ref (ad 0), .int (c)] (hct cy ad P wy cl st tg) (hpost cy ad (sp_places P c)) := by
  refine CX.start (by decide) (Nat.le_of_ble_eq_true rfl) ?_
  intro p_ e_ s m_ below meth cd A ls hC hr hlk hin hK hA hH hl
  obtain ⟨hx, hb, hml, hown, hts⟩ := id hC
  have hS : va_S A s.heap s.heap [] := va_S.rf
  have hl : lv_has ls 3 [(0, .ref (ad 0)), (1, .int (c))] := hl
  refine lv_aload_n hx hb dX7_places_0 rfl (lv_at hl 0 rfl) ?_
  refine lv_iload_n hx hb dX7_places_1 rfl (lv_at hl 1 rfl) ?_
  refine cm_V (As' := [.int (c)]) (rest := []) hC (c_X7_rowIn hw) mv_X7_rowIn qM_X7_61 ⟨⟨rfl, rfl⟩, Nat.le_of_ble_eq_true rfl, Nat.le_of_ble_eq_true rfl⟩ hK hH hS hA (hp.recv hK hH (i := 0) (by omega) rfl rfl) hl.1 ⟨Nat.zero_le _, Nat.zero_le _⟩ rfl rfl (Nat.le_of_ble_eq_true rfl) dX7_places_2 (fun H locs hH hS => ?_)
  rcases rw_cases P ad c with ⟨hna, hra⟩ | ⟨j, t, hja, rfl, h1a, hka, hra, hna⟩
  · refine W.eq (g2 := F0 m_ 5 ls (.null :: [])) (by rw [hna]; rfl) ?_
    refine lv_astore_nN (lv' := [(2, .null), (0, .ref (ad 0)), (1, .int (c))]) hx hb dX7_places_5 rfl hl (by decide) rfl (fun ls hl => ?_)
    refine lv_aload_nN hx hb dX7_places_6 rfl (lv_at hl 0 rfl) ?_
    refine lv_ifnonnullN hx hb dX7_places_7 ?_
    refine lv_aload_n hx hb dX7_places_10 rfl (lv_at hl 1 rfl) ?_
    refine lv_aload_n hx hb dX7_places_11 rfl (lv_at hl 1 rfl) ?_
    refine lv_iload_n hx hb dX7_places_12 rfl (lv_at hl 2 rfl) ?_
    refine cm_V (As' := [.int (c)]) (rest := [.ref (ad 0)]) hC (c_X7_rowAmiss hw) mv_X7_rowAmiss qM_X7_65 ⟨⟨rfl, rfl⟩, Nat.le_of_ble_eq_true rfl, Nat.le_of_ble_eq_true rfl⟩ hK hH hS hA (hp.recv hK hH (i := 0) (by omega) rfl rfl) hl.1 ⟨Nat.zero_le _, Nat.zero_le _⟩ rfl rfl (Nat.le_of_ble_eq_true rfl) dX7_places_13 (fun H locs hH hS => ?_)
    refine cm_V (As' := [.int (nI (rsA P c))]) (rest := []) hC (c_X7_refuse) mv_X7_refuse qM_X7_41 ⟨⟨rfl, rfl⟩, Nat.le_of_ble_eq_true rfl, Nat.le_of_ble_eq_true rfl⟩ hK hH hS hA (hp.recv hK hH (i := 0) (by omega) rfl rfl) hl.1 ⟨Nat.zero_le _, Nat.zero_le _⟩ rfl rfl (Nat.le_of_ble_eq_true rfl) dX7_places_16 (fun H locs hH hS => ?_)
    exact cx_ri hC hr hlk (hpost.mk (by rcases rs_n (P := P) (c := c) with ⟨a1, a2⟩ | ⟨a1, a2⟩ <;> simp [sp_places, rf, rsPl, rsVal, a1, a2, hra] <;> rfl) (by repeat' (first | exact hI | refine HI_up ?_ ?_ | refine cOK_rd hw ?_ (by omega) | refine cOK_td ?_ (by omega) | exact cOK_th (by omega) | refine HI_sm hw ?_ (by omega) (by omega) | refine HI_c (st := st) ?_ (by omega)))) hH hS dX7_places_19
  · have hqa : rsRow P j = 0 := by rw [← rsA_j hja]; exact hra
    have hta : t < P.n := by have := hw.2.2.2.1 j; omega
    have hlna := hw.2.1 t
    refine W.eq (g2 := F0 m_ 5 ls (.ref (ad (30 + 2 * t)) :: [])) (by rw [hna]; rfl) ?_
    refine lv_astore_n (lv' := [(2, .ref (ad (30 + 2 * t))), (0, .ref (ad 0)), (1, .int (nI j))]) hx hb dX7_places_5 rfl hl (by decide) rfl (fun ls hl => ?_)
    refine lv_aload_n hx hb dX7_places_6 rfl (lv_at hl 0 rfl) ?_
    refine lv_ifnonnull (tgt := 20) hx hb dX7_places_7 (by decide) ?_
    refine lv_aload_n hx hb dX7_places_20 rfl (lv_at hl 1 rfl) ?_
    refine lv_aload_n hx hb dX7_places_21 rfl (lv_at hl 0 rfl) ?_
    refine cm_R (As := []) (rest := [.ref (ad 0)]) (i := 30 + 2 * t) hC (rc_length (t := t) hw (by omega) (by omega)) qM_X7_68 ⟨Nat.le_of_ble_eq_true rfl, Nat.le_of_ble_eq_true rfl⟩ hK hH hS hA hl.1 ⟨Nat.zero_le _, Nat.zero_le _⟩ rfl rfl (Nat.le_of_ble_eq_true rfl) dX7_places_22 (fun H locs hH hS => ?_)
    refine cm_V (As' := [.int (nI (P.ln t))]) (rest := []) hC (c_X7_done) mv_X7_done qM_X7_50 ⟨⟨rfl, rfl⟩, Nat.le_of_ble_eq_true rfl, Nat.le_of_ble_eq_true rfl⟩ hK hH hS hA (hp.recv hK hH (i := 0) (by omega) rfl rfl) hl.1 ⟨Nat.zero_le _, Nat.zero_le _⟩ rfl rfl (Nat.le_of_ble_eq_true rfl) dX7_places_25 (fun H locs hH hS => ?_)
    exact cx_ri hC hr hlk (hpost.mk (by simp [sp_places, rf, rsPl, rsVal, isC_nI hja, cN_c hja, hqa, h1a] <;> rfl) (by repeat' (first | exact hI | refine HI_up ?_ ?_ | refine cOK_rd hw ?_ (by omega) | refine cOK_td ?_ (by omega) | exact cOK_th (by omega) | refine HI_sm hw ?_ (by omega) (by omega) | refine HI_c (st := st) ?_ (by omega)))) hH hS dX7_places_28
theorem mv_X7_kind : mvok RX7 yX7_kind cX7_kind 2 (some .int) 1 := ⟨qK_X7_kind, qI_X7_kind, qSel_X7_X7_kind, qInit_X7, by decide +kernel⟩
set_option maxHeartbeats 4000000 in
set_option maxRecDepth 100000 in
theorem c_X7_kind {l : Launch} {D : va_G} {cy : Nat → ClassId} {ad : Nat → Nat} {P : AS} {wy : Int32} {cl : Nat → CE} {st : Nat → Nat} {tg : Nat → Int32} {c : Int32} (hw : WF P) (hz : WZ P) (hI : HI P cl st) : CX l yX7_kind cX7_kind 2 (some .int) (rm_ 1 21) D cy (30 + 2 * P.n) ad [.ref (ad 0), .int (c)] (hct cy ad P wy cl st tg) (hpost cy ad (sp_kind P c)) := by
  refine CX.start (by decide) (Nat.le_of_ble_eq_true rfl) ?_
  intro p_ e_ s m_ below meth cd A ls hC hr hlk hin hK hA hH hl
  obtain ⟨hx, hb, hml, hown, hts⟩ := id hC
  have hS : va_S A s.heap s.heap [] := va_S.rf
  have hl : lv_has ls 2 [(0, .ref (ad 0)), (1, .int (c))] := hl
  refine lv_iload_n hx hb dX7_kind_0 rfl (lv_at hl 1 rfl) ?_
  refine cm_S (As := [.int (c)]) (rest := []) hC (c_X7_isColumn) ms_X7_isColumn qM_X7_37 ⟨⟨rfl, rfl⟩, Nat.le_of_ble_eq_true rfl, Nat.le_of_ble_eq_true rfl⟩ hK hH hS hA hl.1 ⟨Nat.zero_le _, Nat.zero_le _⟩ rfl rfl (Nat.le_of_ble_eq_true rfl) dX7_kind_1 (fun H locs hH hS => ?_)
  refine lv_if_ne (tgt := 13) hx hb dX7_kind_4 (by decide) (fun c_4 => ?_) (fun c_4 => ?_)
  · have c_4 := b2i_t c_4
    obtain ⟨j, hja, rfl⟩ := isC_ex c_4
    have hcoa := hw.2.2.2.1 j
    refine lv_aload_n hx hb dX7_kind_13 rfl (lv_at hl 0 rfl) ?_
    refine lv_aload_n hx hb dX7_kind_14 rfl (lv_at hl 0 rfl) ?_
    refine g_get hC hK inG7 hH 0 (by omega) rfl (ci := 5) rfl 0 (by decide) qF_X7_11 (Or.inl rfl) rfl dX7_kind_15 ?_
    refine lv_iload_n hx hb dX7_kind_18 rfl (lv_at hl 1 rfl) ?_
    refine hr_co hC hK hH j (by omega) dX7_kind_19 ?_
    refine cm_S (As := [va_rf (rfO ad (P.co j))]) (rest := [.ref (ad 0)]) hC (c_X7_kindOf (q := (P.co j)) hw (by omega)) ms_X7_kindOf qM_X7_74 ⟨⟨rfl, rfl⟩, Nat.le_of_ble_eq_true rfl, Nat.le_of_ble_eq_true rfl⟩ hK hH hS hA hl.1 ⟨Nat.zero_le _, Nat.zero_le _⟩ rfl rfl (Nat.le_of_ble_eq_true rfl) dX7_kind_20 (fun H locs hH hS => ?_)
    refine cm_V (As' := [.int (kOf P ((P.co j)))]) (rest := []) hC (c_X7_done) mv_X7_done qM_X7_50 ⟨⟨rfl, rfl⟩, Nat.le_of_ble_eq_true rfl, Nat.le_of_ble_eq_true rfl⟩ hK hH hS hA (hp.recv hK hH (i := 0) (by omega) rfl rfl) hl.1 ⟨Nat.zero_le _, Nat.zero_le _⟩ rfl rfl (Nat.le_of_ble_eq_true rfl) dX7_kind_23 (fun H locs hH hS => ?_)
    exact cx_ri hC hr hlk (hpost.mk (by simp [sp_kind, kOf, rf, c_4, isC_nI hja, cN_c hja] <;> rfl) (by repeat' (first | exact hI | refine HI_up ?_ ?_ | refine cOK_rd hw ?_ (by omega) | refine cOK_td ?_ (by omega) | exact cOK_th (by omega) | refine HI_sm hw ?_ (by omega) (by omega) | refine HI_c (st := st) ?_ (by omega)))) hH hS dX7_kind_26
  · have c_4 := b2i_f c_4
    refine lv_aload_n hx hb dX7_kind_7 rfl (lv_at hl 0 rfl) ?_
    refine lv_iconst (v := 1) hx hb dX7_kind_8 (by decide) ?_
    refine cm_V (As' := [.int (1)]) (rest := []) hC (c_X7_refuse) mv_X7_refuse qM_X7_41 ⟨⟨rfl, rfl⟩, Nat.le_of_ble_eq_true rfl, Nat.le_of_ble_eq_true rfl⟩ hK hH hS hA (hp.recv hK hH (i := 0) (by omega) rfl rfl) hl.1 ⟨Nat.zero_le _, Nat.zero_le _⟩ rfl rfl (Nat.le_of_ble_eq_true rfl) dX7_kind_9 (fun H locs hH hS => ?_)
    exact cx_ri hC hr hlk (hpost.mk (by simp [sp_kind, kOf, rf, c_4] <;> rfl) (by repeat' (first | exact hI | refine HI_up ?_ ?_ | refine cOK_rd hw ?_ (by omega) | refine cOK_td ?_ (by omega) | exact cOK_th (by omega) | refine HI_sm hw ?_ (by omega) (by omega) | refine HI_c (st := st) ?_ (by omega)))) hH hS dX7_kind_12
theorem mv_X7_lay : mvok RX7 yX7_lay cX7_lay 3 (some .int) 2 := ⟨qK_X7_lay, qI_X7_lay, qSel_X7_X7_lay, qInit_X7, by decide +kernel⟩
set_option maxHeartbeats 4000000 in
set_option maxRecDepth 100000 in
theorem c_X7_lay {l : Launch} {D : va_G} {cy : Nat → ClassId} {ad : Nat → Nat} {P : AS} {wy : Int32} {cl : Nat → CE} {st : Nat → Nat} {tg : Nat → Int32} {c d : Int32} (hw : WF P) (hz : WZ P) (hI : HI P cl st) : CX l yX7_lay cX7_lay 3 (some .int) (rm_ 1 21) D cy (30 + 2 * P.n) ad [.ref (ad 0), .int (c), .int (d)] (hct cy ad P wy cl st tg) (hpost cy ad (sp_lay P c d)) := by
  refine CX.start (by decide) (Nat.le_of_ble_eq_true rfl) ?_
  intro p_ e_ s m_ below meth cd A ls hC hr hlk hin hK hA hH hl
  obtain ⟨hx, hb, hml, hown, hts⟩ := id hC
  have hS : va_S A s.heap s.heap [] := va_S.rf
  have hl : lv_has ls 3 [(0, .ref (ad 0)), (1, .int (c)), (2, .int (d))] := hl
  refine lv_iload_n hx hb dX7_lay_0 rfl (lv_at hl 1 rfl) ?_
  refine cm_S (As := [.int (c)]) (rest := []) hC (c_X7_isColumn) ms_X7_isColumn qM_X7_37 ⟨⟨rfl, rfl⟩, Nat.le_of_ble_eq_true rfl, Nat.le_of_ble_eq_true rfl⟩ hK hH hS hA hl.1 ⟨Nat.zero_le _, Nat.zero_le _⟩ rfl rfl (Nat.le_of_ble_eq_true rfl) dX7_lay_1 (fun H locs hH hS => ?_)
  refine lv_if_eq (tgt := 14) hx hb dX7_lay_4 (by decide) (fun c_4 => ?_) (fun c_4 => ?_)
  · have c_4 := b2i_f c_4
    refine lv_aload_n hx hb dX7_lay_14 rfl (lv_at hl 0 rfl) ?_
    refine lv_iconst (v := 1) hx hb dX7_lay_15 (by decide) ?_
    refine cm_V (As' := [.int (1)]) (rest := []) hC (c_X7_refuse) mv_X7_refuse qM_X7_41 ⟨⟨rfl, rfl⟩, Nat.le_of_ble_eq_true rfl, Nat.le_of_ble_eq_true rfl⟩ hK hH hS hA (hp.recv hK hH (i := 0) (by omega) rfl rfl) hl.1 ⟨Nat.zero_le _, Nat.zero_le _⟩ rfl rfl (Nat.le_of_ble_eq_true rfl) dX7_lay_16 (fun H locs hH hS => ?_)
    exact cx_ri hC hr hlk (hpost.mk (by simp [sp_lay, rf, co_set, c_4] <;> rfl) (by repeat' (first | exact hI | refine HI_up ?_ ?_ | refine cOK_rd hw ?_ (by omega) | refine cOK_td ?_ (by omega) | exact cOK_th (by omega) | refine HI_sm hw ?_ (by omega) (by omega) | refine HI_c (st := st) ?_ (by omega)))) hH hS dX7_lay_19
  · have c_4 := b2i_t c_4
    obtain ⟨j, hja, rfl⟩ := isC_ex c_4
    have hcoa := hw.2.2.2.1 j
    refine lv_iload_n hx hb dX7_lay_7 rfl (lv_at hl 2 rfl) ?_
    refine cm_S (As := [.int (d)]) (rest := []) hC (c_X7_isColumn) ms_X7_isColumn qM_X7_37 ⟨⟨rfl, rfl⟩, Nat.le_of_ble_eq_true rfl, Nat.le_of_ble_eq_true rfl⟩ hK hH hS hA hl.1 ⟨Nat.zero_le _, Nat.zero_le _⟩ rfl rfl (Nat.le_of_ble_eq_true rfl) dX7_lay_8 (fun H locs hH hS => ?_)
    refine lv_if_ne (tgt := 20) hx hb dX7_lay_11 (by decide) (fun c_11 => ?_) (fun c_11 => ?_)
    · have c_11 := b2i_t c_11
      obtain ⟨q, hjb, rfl⟩ := isC_ex c_11
      have hcob := hw.2.2.2.1 q
      refine lv_aload_n hx hb dX7_lay_20 rfl (lv_at hl 0 rfl) ?_
      refine g_get hC hK inG7 hH 0 (by omega) rfl (ci := 5) rfl 0 (by decide) qF_X7_11 (Or.inl rfl) rfl dX7_lay_21 ?_
      refine lv_iload_n hx hb dX7_lay_24 rfl (lv_at hl 2 rfl) ?_
      refine lv_aload_n hx hb dX7_lay_25 rfl (lv_at hl 0 rfl) ?_
      refine g_get hC hK inG7 hH 0 (by omega) rfl (ci := 5) rfl 0 (by decide) qF_X7_11 (Or.inl rfl) rfl dX7_lay_26 ?_
      refine lv_iload_n hx hb dX7_lay_29 rfl (lv_at hl 1 rfl) ?_
      refine hr_co hC hK hH j (by omega) dX7_lay_30 ?_
      refine hr_cos hC hK hw hH hS q ((P.co j)) (by omega) (hcoa) dX7_lay_31 (fun H locs hH hS => ?_)
      refine lv_aload_n hx hb dX7_lay_32 rfl (lv_at hl 0 rfl) ?_
      refine lv_aload_n hx hb dX7_lay_33 rfl (lv_at hl 0 rfl) ?_
      refine g_get hC hK inG7 hH 0 (by omega) rfl (ci := 5) rfl 0 (by decide) qF_X7_11 (Or.inl rfl) rfl dX7_lay_34 ?_
      refine lv_iload_n hx hb dX7_lay_37 rfl (lv_at hl 2 rfl) ?_
      refine hr_co (P := P.setCo q ((P.co j))) hC hK hH q (by omega) dX7_lay_38 ?_
      refine cm_S (As := [va_rf (rfO ad ((P.setCo q ((P.co j))).co q))]) (rest := [.ref (ad 0)]) hC (c_X7_oneIfThing (P := P.setCo q ((P.co j))) (q := ((P.setCo q ((P.co j))).co q))) ms_X7_oneIfThing qM_X7_57 ⟨⟨rfl, rfl⟩, Nat.le_of_ble_eq_true rfl, Nat.le_of_ble_eq_true rfl⟩ hK hH hS hA hl.1 ⟨Nat.zero_le _, Nat.zero_le _⟩ rfl rfl (Nat.le_of_ble_eq_true rfl) dX7_lay_39 (fun H locs hH hS => ?_)
      refine cm_V (As' := [.int ((if ((P.setCo q ((P.co j))).co q) = 0 then 0 else 1))]) (rest := []) hC (c_X7_done (P := P.setCo q ((P.co j)))) mv_X7_done qM_X7_50 ⟨⟨rfl, rfl⟩, Nat.le_of_ble_eq_true rfl, Nat.le_of_ble_eq_true rfl⟩ hK hH hS hA (hp.recv hK hH (i := 0) (by omega) rfl rfl) hl.1 ⟨Nat.zero_le _, Nat.zero_le _⟩ rfl rfl (Nat.le_of_ble_eq_true rfl) dX7_lay_42 (fun H locs hH hS => ?_)
      exact cx_ri hC hr hlk (hpost.mk (P := P.setCo q ((P.co j))) (by simp [sp_lay, rf, co_set, c_4, isC_nI hja, cN_c hja, c_11, isC_nI hjb, cN_c hjb] <;> rfl) ((HI_n (P := P) (by repeat' (first | exact hI | refine HI_up ?_ ?_ | refine cOK_rd hw ?_ (by omega) | refine cOK_td ?_ (by omega) | exact cOK_th (by omega) | refine HI_sm hw ?_ (by omega) (by omega) | refine HI_c (st := st) ?_ (by omega))) rfl))) hH hS dX7_lay_45
    · have c_11 := b2i_f c_11
      refine lv_aload_n hx hb dX7_lay_14 rfl (lv_at hl 0 rfl) ?_
      refine lv_iconst (v := 1) hx hb dX7_lay_15 (by decide) ?_
      refine cm_V (As' := [.int (1)]) (rest := []) hC (c_X7_refuse) mv_X7_refuse qM_X7_41 ⟨⟨rfl, rfl⟩, Nat.le_of_ble_eq_true rfl, Nat.le_of_ble_eq_true rfl⟩ hK hH hS hA (hp.recv hK hH (i := 0) (by omega) rfl rfl) hl.1 ⟨Nat.zero_le _, Nat.zero_le _⟩ rfl rfl (Nat.le_of_ble_eq_true rfl) dX7_lay_16 (fun H locs hH hS => ?_)
      exact cx_ri hC hr hlk (hpost.mk (by simp [sp_lay, rf, co_set, c_4, isC_nI hja, cN_c hja, c_11] <;> rfl) (by repeat' (first | exact hI | refine HI_up ?_ ?_ | refine cOK_rd hw ?_ (by omega) | refine cOK_td ?_ (by omega) | exact cOK_th (by omega) | refine HI_sm hw ?_ (by omega) (by omega) | refine HI_c (st := st) ?_ (by omega)))) hH hS dX7_lay_19
theorem mv_X7_tag : mvok RX7 yX7_tag cX7_tag 3 (some .int) 1 := ⟨qK_X7_tag, qI_X7_tag, qSel_X7_X7_tag, qInit_X7, by decide +kernel⟩
set_option maxHeartbeats 4000000 in
set_option maxRecDepth 100000 in
theorem c_X7_tag {l : Launch} {D : va_G} {cy : Nat → ClassId} {ad : Nat → Nat} {P : AS} {wy : Int32} {cl : Nat → CE} {st : Nat → Nat} {tg : Nat → Int32} {c : Int32} (hw : WF P) (hz : WZ P) (hI : HI P cl st) : CX l yX7_tag cX7_tag 3 (some .int) (rm_ 2 43) D cy (30 + 2 * P.n) ad [.ref (ad 0), .int (c)] (hct cy ad P wy cl st tg) (hpost cy ad (sp_tag P c)) := by
  refine CX.start (by decide) (Nat.le_of_ble_eq_true rfl) ?_
  intro p_ e_ s m_ below meth cd A ls hC hr hlk hin hK hA hH hl
  obtain ⟨hx, hb, hml, hown, hts⟩ := id hC
  have hS : va_S A s.heap s.heap [] := va_S.rf
  have hl : lv_has ls 3 [(0, .ref (ad 0)), (1, .int (c))] := hl
  refine lv_aload_n hx hb dX7_tag_0 rfl (lv_at hl 0 rfl) ?_
  refine lv_iload_n hx hb dX7_tag_1 rfl (lv_at hl 1 rfl) ?_
  refine cm_V (As' := [.int (c)]) (rest := []) hC (c_X7_cardIn hw) mv_X7_cardIn qM_X7_77 ⟨⟨rfl, rfl⟩, Nat.le_of_ble_eq_true rfl, Nat.le_of_ble_eq_true rfl⟩ hK hH hS hA (hp.recv hK hH (i := 0) (by omega) rfl rfl) hl.1 ⟨Nat.zero_le _, Nat.zero_le _⟩ rfl rfl (Nat.le_of_ble_eq_true rfl) dX7_tag_2 (fun H locs hH hS => ?_)
  rcases cd_cases P ad c with ⟨hnc, hrc⟩ | ⟨j, t, hjc, rfl, h1c, hkc, hrc, hnc⟩
  · refine W.eq (g2 := F0 m_ 5 ls (.null :: [])) (by rw [hnc]; rfl) ?_
    refine lv_astore_nN (lv' := [(2, .null), (0, .ref (ad 0)), (1, .int (c))]) hx hb dX7_tag_5 rfl hl (by decide) rfl (fun ls hl => ?_)
    refine lv_aload_nN hx hb dX7_tag_6 rfl (lv_at hl 0 rfl) ?_
    refine lv_ifnonnullN hx hb dX7_tag_7 ?_
    refine lv_aload_n hx hb dX7_tag_10 rfl (lv_at hl 1 rfl) ?_
    refine lv_iload_n hx hb dX7_tag_11 rfl (lv_at hl 2 rfl) ?_
    refine cm_S (As := [.int (c)]) (rest := [.ref (ad 0)]) hC (c_X7_cardAmiss) ms_X7_cardAmiss qM_X7_81 ⟨⟨rfl, rfl⟩, Nat.le_of_ble_eq_true rfl, Nat.le_of_ble_eq_true rfl⟩ hK hH hS hA hl.1 ⟨Nat.zero_le _, Nat.zero_le _⟩ rfl rfl (Nat.le_of_ble_eq_true rfl) dX7_tag_12 (fun H locs hH hS => ?_)
    refine cm_V (As' := [.int ((if isC c = true then 5 else 1))]) (rest := []) hC (c_X7_refuse) mv_X7_refuse qM_X7_41 ⟨⟨rfl, rfl⟩, Nat.le_of_ble_eq_true rfl, Nat.le_of_ble_eq_true rfl⟩ hK hH hS hA (hp.recv hK hH (i := 0) (by omega) rfl rfl) hl.1 ⟨Nat.zero_le _, Nat.zero_le _⟩ rfl rfl (Nat.le_of_ble_eq_true rfl) dX7_tag_15 (fun H locs hH hS => ?_)
    exact cx_ri hC hr hlk (hpost.mk (by rcases cs_n hrc with ⟨a1, a2⟩ | ⟨a1, a2, a3⟩ <;> simp [sp_tag, rf, a1, *] <;> rfl) (by repeat' (first | exact hI | refine HI_up ?_ ?_ | refine cOK_rd hw ?_ (by omega) | refine cOK_td ?_ (by omega) | exact cOK_th (by omega) | refine HI_sm hw ?_ (by omega) (by omega) | refine HI_c (st := st) ?_ (by omega)))) hH hS dX7_tag_18
  · have htc : t < P.n := by have := hw.2.2.2.1 j; omega
    have hk14 := hw.1 t
    refine W.eq (g2 := F0 m_ 5 ls (.ref (ad (30 + 2 * t)) :: [])) (by rw [hnc]; rfl) ?_
    refine lv_astore_n (lv' := [(2, .ref (ad (30 + 2 * t))), (0, .ref (ad 0)), (1, .int (nI j))]) hx hb dX7_tag_5 rfl hl (by decide) rfl (fun ls hl => ?_)
    refine lv_aload_n hx hb dX7_tag_6 rfl (lv_at hl 0 rfl) ?_
    refine lv_ifnonnull (tgt := 19) hx hb dX7_tag_7 (by decide) ?_
    refine lv_aload_n hx hb dX7_tag_19 rfl (lv_at hl 1 rfl) ?_
    refine lv_aload_n hx hb dX7_tag_20 rfl (lv_at hl 0 rfl) ?_
    refine hr_tag hC hK hH t (by omega) (by omega) qF_X7_84 dX7_tag_21 ?_
    refine cm_V (As' := [.int (P.tg t)]) (rest := []) hC (c_X7_done) mv_X7_done qM_X7_50 ⟨⟨rfl, rfl⟩, Nat.le_of_ble_eq_true rfl, Nat.le_of_ble_eq_true rfl⟩ hK hH hS hA (hp.recv hK hH (i := 0) (by omega) rfl rfl) hl.1 ⟨Nat.zero_le _, Nat.zero_le _⟩ rfl rfl (Nat.le_of_ble_eq_true rfl) dX7_tag_24 (fun H locs hH hS => ?_)
    exact cx_ri hC hr hlk (hpost.mk (by simp [sp_tag, rf, rsPl, rsVal, isC_nI hjc, cN_c hjc, isCd_t h1c (Nat.not_lt.mpr hkc), h1c] <;> rfl) (by repeat' (first | exact hI | refine HI_up ?_ ?_ | refine cOK_rd hw ?_ (by omega) | refine cOK_td ?_ (by omega) | exact cOK_th (by omega) | refine HI_sm hw ?_ (by omega) (by omega) | refine HI_c (st := st) ?_ (by omega)))) hH hS dX7_tag_27
theorem mv_X7_load : mvok RX7 yX7_load cX7_load 3 (some .int) 1 := ⟨qK_X7_load, qI_X7_load, qSel_X7_X7_load, qInit_X7, by decide +kernel⟩
set_option maxHeartbeats 4000000 in
set_option maxRecDepth 100000 in
theorem c_X7_load {l : Launch} {D : va_G} {cy : Nat → ClassId} {ad : Nat → Nat} {P : AS} {wy : Int32} {cl : Nat → CE} {st : Nat → Nat} {tg : Nat → Int32} {c : Int32} (hw : WF P) (hz : WZ P) (hI : HI P cl st) : CX l yX7_load cX7_load 3 (some .int) (rm_ 2 43) D cy (30 + 2 * P.n) ad [.ref (ad 0), .int (c)] (hct cy ad P wy cl st tg) (hpost cy ad (sp_load P c)) := by
  refine CX.start (by decide) (Nat.le_of_ble_eq_true rfl) ?_
  intro p_ e_ s m_ below meth cd A ls hC hr hlk hin hK hA hH hl
  obtain ⟨hx, hb, hml, hown, hts⟩ := id hC
  have hS : va_S A s.heap s.heap [] := va_S.rf
  have hl : lv_has ls 3 [(0, .ref (ad 0)), (1, .int (c))] := hl
  refine lv_aload_n hx hb dX7_load_0 rfl (lv_at hl 0 rfl) ?_
  refine lv_iload_n hx hb dX7_load_1 rfl (lv_at hl 1 rfl) ?_
  refine cm_V (As' := [.int (c)]) (rest := []) hC (c_X7_cardIn hw) mv_X7_cardIn qM_X7_77 ⟨⟨rfl, rfl⟩, Nat.le_of_ble_eq_true rfl, Nat.le_of_ble_eq_true rfl⟩ hK hH hS hA (hp.recv hK hH (i := 0) (by omega) rfl rfl) hl.1 ⟨Nat.zero_le _, Nat.zero_le _⟩ rfl rfl (Nat.le_of_ble_eq_true rfl) dX7_load_2 (fun H locs hH hS => ?_)
  rcases cd_cases P ad c with ⟨hnc, hrc⟩ | ⟨j, t, hjc, rfl, h1c, hkc, hrc, hnc⟩
  · refine W.eq (g2 := F0 m_ 5 ls (.null :: [])) (by rw [hnc]; rfl) ?_
    refine lv_astore_nN (lv' := [(2, .null), (0, .ref (ad 0)), (1, .int (c))]) hx hb dX7_load_5 rfl hl (by decide) rfl (fun ls hl => ?_)
    refine lv_aload_nN hx hb dX7_load_6 rfl (lv_at hl 0 rfl) ?_
    refine lv_ifnonnullN hx hb dX7_load_7 ?_
    refine lv_aload_n hx hb dX7_load_10 rfl (lv_at hl 1 rfl) ?_
    refine lv_iload_n hx hb dX7_load_11 rfl (lv_at hl 2 rfl) ?_
    refine cm_S (As := [.int (c)]) (rest := [.ref (ad 0)]) hC (c_X7_cardAmiss) ms_X7_cardAmiss qM_X7_81 ⟨⟨rfl, rfl⟩, Nat.le_of_ble_eq_true rfl, Nat.le_of_ble_eq_true rfl⟩ hK hH hS hA hl.1 ⟨Nat.zero_le _, Nat.zero_le _⟩ rfl rfl (Nat.le_of_ble_eq_true rfl) dX7_load_12 (fun H locs hH hS => ?_)
    refine cm_V (As' := [.int ((if isC c = true then 5 else 1))]) (rest := []) hC (c_X7_refuse) mv_X7_refuse qM_X7_41 ⟨⟨rfl, rfl⟩, Nat.le_of_ble_eq_true rfl, Nat.le_of_ble_eq_true rfl⟩ hK hH hS hA (hp.recv hK hH (i := 0) (by omega) rfl rfl) hl.1 ⟨Nat.zero_le _, Nat.zero_le _⟩ rfl rfl (Nat.le_of_ble_eq_true rfl) dX7_load_15 (fun H locs hH hS => ?_)
    exact cx_ri hC hr hlk (hpost.mk (by rcases cs_n hrc with ⟨a1, a2⟩ | ⟨a1, a2, a3⟩ <;> simp [sp_load, rf, a1, *] <;> rfl) (by repeat' (first | exact hI | refine HI_up ?_ ?_ | refine cOK_rd hw ?_ (by omega) | refine cOK_td ?_ (by omega) | exact cOK_th (by omega) | refine HI_sm hw ?_ (by omega) (by omega) | refine HI_c (st := st) ?_ (by omega)))) hH hS dX7_load_18
  · have htc : t < P.n := by have := hw.2.2.2.1 j; omega
    have hk14 := hw.1 t
    refine W.eq (g2 := F0 m_ 5 ls (.ref (ad (30 + 2 * t)) :: [])) (by rw [hnc]; rfl) ?_
    refine lv_astore_n (lv' := [(2, .ref (ad (30 + 2 * t))), (0, .ref (ad 0)), (1, .int (nI j))]) hx hb dX7_load_5 rfl hl (by decide) rfl (fun ls hl => ?_)
    refine lv_aload_n hx hb dX7_load_6 rfl (lv_at hl 0 rfl) ?_
    refine lv_ifnonnull (tgt := 19) hx hb dX7_load_7 (by decide) ?_
    refine lv_aload_n hx hb dX7_load_19 rfl (lv_at hl 1 rfl) ?_
    refine lv_aload_n hx hb dX7_load_20 rfl (lv_at hl 0 rfl) ?_
    refine hr_kd hC hK hw hH t (by omega) qF_X7_87 (Or.inr qSF_X0) dX7_load_21 ?_
    refine lv_bipush (v := 14) hx hb dX7_load_24 (by decide) ?_
    refine lv_icmp_ne (tgt := 40) hx hb dX7_load_26 (by decide) (fun c_26 => ?_) (fun c_26 => ?_)
    · have c_26 := nc_ne (a := (P.kd t)) (b := 14) (by omega) (by omega) c_26
      refine lv_aload_n hx hb dX7_load_40 rfl (lv_at hl 0 rfl) ?_
      refine hr_tag hC hK hH t (by omega) (by omega) qF_X7_84 dX7_load_41 ?_
      refine cm_V (As' := [.int (P.tg t)]) (rest := []) hC (c_X7_done) mv_X7_done qM_X7_50 ⟨⟨rfl, rfl⟩, Nat.le_of_ble_eq_true rfl, Nat.le_of_ble_eq_true rfl⟩ hK hH hS hA (hp.recv hK hH (i := 0) (by omega) rfl rfl) hl.1 ⟨Nat.zero_le _, Nat.zero_le _⟩ rfl rfl (Nat.le_of_ble_eq_true rfl) dX7_load_44 (fun H locs hH hS => ?_)
      exact cx_ri hC hr hlk (hpost.mk (by simp [sp_load, rf, rsPl, rsVal, isC_nI hjc, cN_c hjc, isCd_t h1c (Nat.not_lt.mpr hkc), h1c, c_26] <;> rfl) (by repeat' (first | exact hI | refine HI_up ?_ ?_ | refine cOK_rd hw ?_ (by omega) | refine cOK_td ?_ (by omega) | exact cOK_th (by omega) | refine HI_sm hw ?_ (by omega) (by omega) | refine HI_c (st := st) ?_ (by omega)))) hH hS dX7_load_47
    · have c_26 := nc_eq (a := (P.kd t)) (b := 14) (by omega) (by omega) c_26
      refine lv_iconst (v := 2) hx hb dX7_load_29 (by decide) ?_
      refine lv_aload_n hx hb dX7_load_30 rfl (lv_at hl 0 rfl) ?_
      refine hr_tag hC hK hH t (by omega) (by omega) qF_X7_84 dX7_load_31 ?_
      refine lv_imul hx hb dX7_load_34 ?_
      refine lv_iconst (v := 1) hx hb dX7_load_35 (by decide) ?_
      refine lv_iadd hx hb dX7_load_36 ?_
      refine lv_goto (tgt := 44) hx hb dX7_load_37 (by decide) ?_
      refine cm_V (As' := [.int (((2 * P.tg t) + 1))]) (rest := []) hC (c_X7_done) mv_X7_done qM_X7_50 ⟨⟨rfl, rfl⟩, Nat.le_of_ble_eq_true rfl, Nat.le_of_ble_eq_true rfl⟩ hK hH hS hA (hp.recv hK hH (i := 0) (by omega) rfl rfl) hl.1 ⟨Nat.zero_le _, Nat.zero_le _⟩ rfl rfl (Nat.le_of_ble_eq_true rfl) dX7_load_44 (fun H locs hH hS => ?_)
      exact cx_ri hC hr hlk (hpost.mk (by simp [sp_load, rf, rsPl, rsVal, isC_nI hjc, cN_c hjc, isCd_t h1c (Nat.not_lt.mpr hkc), h1c, c_26] <;> rfl) (by repeat' (first | exact hI | refine HI_up ?_ ?_ | refine cOK_rd hw ?_ (by omega) | refine cOK_td ?_ (by omega) | exact cOK_th (by omega) | refine HI_sm hw ?_ (by omega) (by omega) | refine HI_c (st := st) ?_ (by omega)))) hH hS dX7_load_47
