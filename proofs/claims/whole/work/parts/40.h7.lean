theorem mv_X7_putTold : mvok RX7 yX7_putTold cX7_putTold 7 (some .int) 5 := ⟨qK_X7_putTold, qI_X7_putTold, qSel_X7_X7_putTold, qInit_X7, by decide +kernel⟩
set_option maxHeartbeats 4000000 in
set_option maxRecDepth 100000 in
theorem c_X7_putTold {l : Launch} {D : va_G} {cy : Nat → ClassId} {ad : Nat → Nat} {P : AS} {wy : Int32} {cl : Nat → CE} {st : Nat → Nat} {tg : Nat → Int32} {c i so a b : Int32} (hw : WF P) (hz : WZ P) (hI : HI P cl st) : CX l yX7_putTold cX7_putTold 7 (some .int) (rm_ 4 86) D cy (30 + 2 * P.n) ad [.ref (ad 0), .int (c), .int (i), .int (so), .int (a), .int (b)] (hct cy ad P wy cl st tg) (hpost cy ad (sp_put P c i so a b)) := by
  refine CX.start (by decide) (Nat.le_of_ble_eq_true rfl) ?_
  intro p_ e_ s m_ below meth cd A ls hC hr hlk hin hK hA hH hl
  obtain ⟨hx, hb, hml, hown, hts⟩ := id hC
  have hS : va_S A s.heap s.heap [] := va_S.rf
  have hl : lv_has ls 7 [(0, .ref (ad 0)), (1, .int (c)), (2, .int (i)), (3, .int (so)), (4, .int (a)), (5, .int (b))] := hl
  refine lv_iload_n hx hb dX7_putTold_0 rfl (lv_at hl 3 rfl) ?_
  refine cm_S (As := [.int (so)]) (rest := []) hC (c_X7_isSort) ms_X7_isSort qM_X7_172 ⟨⟨rfl, rfl⟩, Nat.le_of_ble_eq_true rfl, Nat.le_of_ble_eq_true rfl⟩ hK hH hS hA hl.1 ⟨Nat.zero_le _, Nat.zero_le _⟩ rfl rfl (Nat.le_of_ble_eq_true rfl) dX7_putTold_1 (fun H locs hH hS => ?_)
  refine lv_if_ne (tgt := 13) hx hb dX7_putTold_4 (by decide) (fun c_4 => ?_) (fun c_4 => ?_)
  · have c_4 := b2i_t c_4
    obtain ⟨k, hk7, rfl⟩ := inR_ex (n := 7) (by decide) c_4
    refine lv_aload_n hx hb dX7_putTold_13 rfl (lv_at hl 0 rfl) ?_
    refine lv_iload_n hx hb dX7_putTold_14 rfl (lv_at hl 1 rfl) ?_
    refine cm_V (As' := [.int (c)]) (rest := []) hC (c_X7_rowIn hw) mv_X7_rowIn qM_X7_61 ⟨⟨rfl, rfl⟩, Nat.le_of_ble_eq_true rfl, Nat.le_of_ble_eq_true rfl⟩ hK hH hS hA (hp.recv hK hH (i := 0) (by omega) rfl rfl) hl.1 ⟨Nat.zero_le _, Nat.zero_le _⟩ rfl rfl (Nat.le_of_ble_eq_true rfl) dX7_putTold_15 (fun H locs hH hS => ?_)
    rcases rw_cases P ad c with ⟨hna, hra⟩ | ⟨j, t, hja, rfl, h1a, hka, hra, hna⟩
    · refine W.eq (g2 := F0 m_ 18 ls (.null :: [])) (by rw [hna]; rfl) ?_
      refine lv_astoreN (lv' := [(6, .null), (0, .ref (ad 0)), (1, .int (c)), (2, .int (i)), (3, .int (nI k)), (4, .int (a)), (5, .int (b))]) hx hb dX7_putTold_18 hl (by decide) rfl (fun ls hl => ?_)
      refine lv_aloadN hx hb dX7_putTold_20 (lv_at hl 0 rfl) ?_
      refine lv_ifnonnullN hx hb dX7_putTold_22 ?_
      refine lv_aload_n hx hb dX7_putTold_25 rfl (lv_at hl 1 rfl) ?_
      refine lv_aload_n hx hb dX7_putTold_26 rfl (lv_at hl 1 rfl) ?_
      refine lv_iload_n hx hb dX7_putTold_27 rfl (lv_at hl 2 rfl) ?_
      refine cm_V (As' := [.int (c)]) (rest := [.ref (ad 0)]) hC (c_X7_rowAmiss hw) mv_X7_rowAmiss qM_X7_65 ⟨⟨rfl, rfl⟩, Nat.le_of_ble_eq_true rfl, Nat.le_of_ble_eq_true rfl⟩ hK hH hS hA (hp.recv hK hH (i := 0) (by omega) rfl rfl) hl.1 ⟨Nat.zero_le _, Nat.zero_le _⟩ rfl rfl (Nat.le_of_ble_eq_true rfl) dX7_putTold_28 (fun H locs hH hS => ?_)
      refine cm_V (As' := [.int (nI (rsA P c))]) (rest := []) hC (c_X7_refuse) mv_X7_refuse qM_X7_41 ⟨⟨rfl, rfl⟩, Nat.le_of_ble_eq_true rfl, Nat.le_of_ble_eq_true rfl⟩ hK hH hS hA (hp.recv hK hH (i := 0) (by omega) rfl rfl) hl.1 ⟨Nat.zero_le _, Nat.zero_le _⟩ rfl rfl (Nat.le_of_ble_eq_true rfl) dX7_putTold_31 (fun H locs hH hS => ?_)
      exact cx_ri hC hr hlk (hpost.mk (by rcases rs_n (P := P) (c := c) with ⟨a1, a2⟩ | ⟨a1, a2⟩ <;> simp [sp_put, rf, rsPl, rsVal, a1, a2, c_4, cN_s (show k ≤ 7 from hk7) (by decide), hra] <;> rfl) (by repeat' (first | exact hI | refine HI_up ?_ ?_ | refine cOK_rd hw ?_ (by omega) | refine cOK_td ?_ (by omega) | exact cOK_th (by omega) | refine HI_sm hw ?_ (by omega) (by omega) | refine HI_c (st := st) ?_ (by omega)))) hH hS dX7_putTold_34
    · have hqa : rsRow P j = 0 := by rw [← rsA_j hja]; exact hra
      have hta : t < P.n := by have := hw.2.2.2.1 j; omega
      have hlna := hw.2.1 t
      refine W.eq (g2 := F0 m_ 18 ls (.ref (ad (30 + 2 * t)) :: [])) (by rw [hna]; rfl) ?_
      refine lv_astore (lv' := [(6, .ref (ad (30 + 2 * t))), (0, .ref (ad 0)), (1, .int (nI j)), (2, .int (i)), (3, .int (nI k)), (4, .int (a)), (5, .int (b))]) hx hb dX7_putTold_18 hl (by decide) rfl (fun ls hl => ?_)
      refine lv_aload hx hb dX7_putTold_20 (lv_at hl 0 rfl) ?_
      refine lv_ifnonnull (tgt := 35) hx hb dX7_putTold_22 (by decide) ?_
      refine lv_aload_n hx hb dX7_putTold_35 rfl (lv_at hl 1 rfl) ?_
      refine g_get hC hK inG7 hH 0 (by omega) rfl (ci := 5) rfl 3 (by decide) qF_X7_26 (Or.inl rfl) rfl dX7_putTold_36 ?_
      refine lv_iload_n hx hb dX7_putTold_39 rfl (lv_at hl 4 rfl) ?_
      refine lv_iload hx hb dX7_putTold_40 (lv_at hl 5 rfl) ?_
      refine lv_iload hx hb dX7_putTold_42 (lv_at hl 6 rfl) ?_
      refine cm_V (As' := [.int (nI k), .int (a), .int (b)]) (rest := []) hC (c_X1_holdTold (j := 24) (by omega) (by omega)) mv_X1_holdTold qM_X7_175 ⟨⟨rfl, rfl⟩, Nat.le_of_ble_eq_true rfl, Nat.le_of_ble_eq_true rfl⟩ hK hH hS hA (hp.recv hK hH (i := 4 + 24) (by omega) (hct_c (by omega)) rfl) hl.1 ⟨Nat.zero_le _, Nat.zero_le _⟩ rfl rfl (Nat.le_of_ble_eq_true rfl) dX7_putTold_44 (fun H locs hH hS => ?_)
      refine lv_aload_n hx hb dX7_putTold_47 rfl (lv_at hl 1 rfl) ?_
      refine lv_aload hx hb dX7_putTold_48 (lv_at hl 0 rfl) ?_
      refine lv_iload_n hx hb dX7_putTold_50 rfl (lv_at hl 3 rfl) ?_
      refine lv_iconst (v := 1) hx hb dX7_putTold_51 (by decide) ?_
      refine cx_V (As' := [.ref (ad (30 + 2 * t)), .int (i), .int (1)]) (rest := []) hC (c_X7_placeOne (t := t) hw (by omega) (by omega) (by repeat' (first | exact hI | refine HI_up ?_ ?_ | refine cOK_rd hw ?_ (by omega) | refine cOK_td ?_ (by omega) | exact cOK_th (by omega) | refine HI_sm hw ?_ (by omega) (by omega) | refine HI_c (st := st) ?_ (by omega)))) mv_X7_placeOne qM_X7_98 ⟨⟨rfl, rfl⟩, Nat.le_of_ble_eq_true rfl, Nat.le_of_ble_eq_true rfl⟩ hK hH hS hA (hp.recv hK hH (i := 0) (by omega) rfl rfl) hl.1 ⟨Nat.zero_le _, Nat.zero_le _⟩ rfl rfl (Nat.le_of_ble_eq_true rfl) dX7_putTold_52 (fun v9 c9 H locs hpo hH hS hfr9 => ?_)
      obtain ⟨e9, rfl⟩ := hpo
      subst e9
      exact cx_ri hC hr hlk (hpost.mk (P := (plO P t i ((va_up cl 24 (tdC k a b (cl 24))) 24) 1).2.1) (by rw [va_up_self]; exact put_eq hz hja h1a hqa hk7) (HI_n (P := P) (by repeat' (first | exact hI | refine HI_up ?_ ?_ | refine cOK_rd hw ?_ (by omega) | refine cOK_td ?_ (by omega) | exact cOK_th (by omega) | refine HI_sm hw ?_ (by omega) (by omega) | refine HI_c (st := st) ?_ (by omega))) (plO_n _ _ _ _ _))) hH hS dX7_putTold_55
  · have c_4 := b2i_f c_4
    refine lv_aload_n hx hb dX7_putTold_7 rfl (lv_at hl 0 rfl) ?_
    refine lv_iconst (v := 1) hx hb dX7_putTold_8 (by decide) ?_
    refine cm_V (As' := [.int (1)]) (rest := []) hC (c_X7_refuse) mv_X7_refuse qM_X7_41 ⟨⟨rfl, rfl⟩, Nat.le_of_ble_eq_true rfl, Nat.le_of_ble_eq_true rfl⟩ hK hH hS hA (hp.recv hK hH (i := 0) (by omega) rfl rfl) hl.1 ⟨Nat.zero_le _, Nat.zero_le _⟩ rfl rfl (Nat.le_of_ble_eq_true rfl) dX7_putTold_9 (fun H locs hH hS => ?_)
    exact cx_ri hC hr hlk (hpost.mk (by simp [sp_put, rf, rsPl, rsVal, c_4] <;> rfl) (by repeat' (first | exact hI | refine HI_up ?_ ?_ | refine cOK_rd hw ?_ (by omega) | refine cOK_td ?_ (by omega) | exact cOK_th (by omega) | refine HI_sm hw ?_ (by omega) (by omega) | refine HI_c (st := st) ?_ (by omega)))) hH hS dX7_putTold_12
theorem mv_X7_put : mvok RX7 yX7_put cX7_put 6 (some .int) 5 := ⟨qK_X7_put, qI_X7_put, qSel_X7_X7_put, qInit_X7, by decide +kernel⟩
set_option maxHeartbeats 4000000 in
set_option maxRecDepth 100000 in
theorem c_X7_put {l : Launch} {D : va_G} {cy : Nat → ClassId} {ad : Nat → Nat} {P : AS} {wy : Int32} {cl : Nat → CE} {st : Nat → Nat} {tg : Nat → Int32} {c i so a b : Int32} (hw : WF P) (hz : WZ P) (hI : HI P cl st) : CX l yX7_put cX7_put 6 (some .int) (rm_ 5 112) D cy (30 + 2 * P.n) ad [.ref (ad 0), .int (c), .int (i), .int (so), .int (a), .int (b)] (hct cy ad P wy cl st tg) (hpost cy ad (sp_put P c i so a b)) := by
  refine CX.start (by decide) (Nat.le_of_ble_eq_true rfl) ?_
  intro p_ e_ s m_ below meth cd A ls hC hr hlk hin hK hA hH hl
  obtain ⟨hx, hb, hml, hown, hts⟩ := id hC
  have hS : va_S A s.heap s.heap [] := va_S.rf
  have hl : lv_has ls 6 [(0, .ref (ad 0)), (1, .int (c)), (2, .int (i)), (3, .int (so)), (4, .int (a)), (5, .int (b))] := hl
  refine lv_aload_n hx hb dX7_put_0 rfl (lv_at hl 0 rfl) ?_
  refine lv_iload_n hx hb dX7_put_1 rfl (lv_at hl 1 rfl) ?_
  refine lv_iload_n hx hb dX7_put_2 rfl (lv_at hl 2 rfl) ?_
  refine lv_iload_n hx hb dX7_put_3 rfl (lv_at hl 3 rfl) ?_
  refine lv_iload hx hb dX7_put_4 (lv_at hl 4 rfl) ?_
  refine lv_iload hx hb dX7_put_6 (lv_at hl 5 rfl) ?_
  refine cx_V (As' := [.int (c), .int (i), .int (so), .int (a), .int (b)]) (rest := []) hC (c_X7_putTold hw hz hI) mv_X7_putTold qM_X7_90 ⟨⟨rfl, rfl⟩, Nat.le_of_ble_eq_true rfl, Nat.le_of_ble_eq_true rfl⟩ hK hH hS hA (hp.recv hK hH (i := 0) (by omega) rfl rfl) hl.1 ⟨Nat.zero_le _, Nat.zero_le _⟩ rfl rfl (Nat.le_of_ble_eq_true rfl) dX7_put_8 (fun v9 c9 H locs hpo hH hS hfr9 => ?_)
  obtain ⟨e9, hpo9⟩ := hpo
  subst e9
  exact cx_ri hC hr hlk ⟨rfl, hpo9⟩ hH hS dX7_put_11
theorem mv_X7_putBoxed : mvok RX7 yX7_putBoxed cX7_putBoxed 6 (some .int) 5 := ⟨qK_X7_putBoxed, qI_X7_putBoxed, qSel_X7_X7_putBoxed, qInit_X7, by decide +kernel⟩
set_option maxHeartbeats 4000000 in
set_option maxRecDepth 100000 in
theorem c_X7_putBoxed {l : Launch} {D : va_G} {cy : Nat → ClassId} {ad : Nat → Nat} {P : AS} {wy : Int32} {cl : Nat → CE} {st : Nat → Nat} {tg : Nat → Int32} {c i so a b : Int32} (hw : WF P) (hz : WZ P) (hI : HI P cl st) : CX l yX7_putBoxed cX7_putBoxed 6 (some .int) (rm_ 5 112) D cy (30 + 2 * P.n) ad [.ref (ad 0), .int (c), .int (i), .int (so), .int (a), .int (b)] (hct cy ad P wy cl st tg) (hpost cy ad (sp_put P c i so a b)) := by
  refine CX.start (by decide) (Nat.le_of_ble_eq_true rfl) ?_
  intro p_ e_ s m_ below meth cd A ls hC hr hlk hin hK hA hH hl
  obtain ⟨hx, hb, hml, hown, hts⟩ := id hC
  have hS : va_S A s.heap s.heap [] := va_S.rf
  have hl : lv_has ls 6 [(0, .ref (ad 0)), (1, .int (c)), (2, .int (i)), (3, .int (so)), (4, .int (a)), (5, .int (b))] := hl
  refine lv_aload_n hx hb dX7_putBoxed_0 rfl (lv_at hl 0 rfl) ?_
  refine lv_iload_n hx hb dX7_putBoxed_1 rfl (lv_at hl 1 rfl) ?_
  refine lv_iload_n hx hb dX7_putBoxed_2 rfl (lv_at hl 2 rfl) ?_
  refine lv_iload_n hx hb dX7_putBoxed_3 rfl (lv_at hl 3 rfl) ?_
  refine lv_iload hx hb dX7_putBoxed_4 (lv_at hl 4 rfl) ?_
  refine lv_iload hx hb dX7_putBoxed_6 (lv_at hl 5 rfl) ?_
  refine cx_V (As' := [.int (c), .int (i), .int (so), .int (a), .int (b)]) (rest := []) hC (c_X7_putTold hw hz hI) mv_X7_putTold qM_X7_90 ⟨⟨rfl, rfl⟩, Nat.le_of_ble_eq_true rfl, Nat.le_of_ble_eq_true rfl⟩ hK hH hS hA (hp.recv hK hH (i := 0) (by omega) rfl rfl) hl.1 ⟨Nat.zero_le _, Nat.zero_le _⟩ rfl rfl (Nat.le_of_ble_eq_true rfl) dX7_putBoxed_8 (fun v9 c9 H locs hpo hH hS hfr9 => ?_)
  obtain ⟨e9, hpo9⟩ := hpo
  subst e9
  exact cx_ri hC hr hlk ⟨rfl, hpo9⟩ hH hS dX7_putBoxed_11
theorem mv_X7_putThing : mvok RX7 yX7_putThing cX7_putThing 5 (some .int) 3 := ⟨qK_X7_putThing, qI_X7_putThing, qSel_X7_X7_putThing, qInit_X7, by decide +kernel⟩
set_option maxHeartbeats 4000000 in
set_option maxRecDepth 100000 in
theorem c_X7_putThing {l : Launch} {D : va_G} {cy : Nat → ClassId} {ad : Nat → Nat} {P : AS} {wy : Int32} {cl : Nat → CE} {st : Nat → Nat} {tg : Nat → Int32} {c i d : Int32} (hw : WF P) (hz : WZ P) (hI : HI P cl st) : CX l yX7_putThing cX7_putThing 5 (some .int) (rm_ 4 86) D cy (30 + 2 * P.n) ad [.ref (ad 0), .int (c), .int (i), .int (d)] (hct cy ad P wy cl st tg) (hpost cy ad (sp_putThing P c i d)) := by
  refine CX.start (by decide) (Nat.le_of_ble_eq_true rfl) ?_
  intro p_ e_ s m_ below meth cd A ls hC hr hlk hin hK hA hH hl
  obtain ⟨hx, hb, hml, hown, hts⟩ := id hC
  have hS : va_S A s.heap s.heap [] := va_S.rf
  have hl : lv_has ls 5 [(0, .ref (ad 0)), (1, .int (c)), (2, .int (i)), (3, .int (d))] := hl
  refine lv_iload_n hx hb dX7_putThing_0 rfl (lv_at hl 3 rfl) ?_
  refine cm_S (As := [.int (d)]) (rest := []) hC (c_X7_isColumn) ms_X7_isColumn qM_X7_37 ⟨⟨rfl, rfl⟩, Nat.le_of_ble_eq_true rfl, Nat.le_of_ble_eq_true rfl⟩ hK hH hS hA hl.1 ⟨Nat.zero_le _, Nat.zero_le _⟩ rfl rfl (Nat.le_of_ble_eq_true rfl) dX7_putThing_1 (fun H locs hH hS => ?_)
  refine lv_if_ne (tgt := 13) hx hb dX7_putThing_4 (by decide) (fun c_4 => ?_) (fun c_4 => ?_)
  · have c_4 := b2i_t c_4
    obtain ⟨q, hjd, rfl⟩ := isC_ex c_4
    have hcod := hw.2.2.2.1 q
    refine lv_aload_n hx hb dX7_putThing_13 rfl (lv_at hl 0 rfl) ?_
    refine lv_iload_n hx hb dX7_putThing_14 rfl (lv_at hl 1 rfl) ?_
    refine cm_V (As' := [.int (c)]) (rest := []) hC (c_X7_rowIn hw) mv_X7_rowIn qM_X7_61 ⟨⟨rfl, rfl⟩, Nat.le_of_ble_eq_true rfl, Nat.le_of_ble_eq_true rfl⟩ hK hH hS hA (hp.recv hK hH (i := 0) (by omega) rfl rfl) hl.1 ⟨Nat.zero_le _, Nat.zero_le _⟩ rfl rfl (Nat.le_of_ble_eq_true rfl) dX7_putThing_15 (fun H locs hH hS => ?_)
    rcases rw_cases P ad c with ⟨hna, hra⟩ | ⟨j, t, hja, rfl, h1a, hka, hra, hna⟩
    · refine W.eq (g2 := F0 m_ 18 ls (.null :: [])) (by rw [hna]; rfl) ?_
      refine lv_astoreN (lv' := [(4, .null), (0, .ref (ad 0)), (1, .int (c)), (2, .int (i)), (3, .int (nI q))]) hx hb dX7_putThing_18 hl (by decide) rfl (fun ls hl => ?_)
      refine lv_aloadN hx hb dX7_putThing_20 (lv_at hl 0 rfl) ?_
      refine lv_ifnonnullN hx hb dX7_putThing_22 ?_
      refine lv_aload_n hx hb dX7_putThing_25 rfl (lv_at hl 1 rfl) ?_
      refine lv_aload_n hx hb dX7_putThing_26 rfl (lv_at hl 1 rfl) ?_
      refine lv_iload_n hx hb dX7_putThing_27 rfl (lv_at hl 2 rfl) ?_
      refine cm_V (As' := [.int (c)]) (rest := [.ref (ad 0)]) hC (c_X7_rowAmiss hw) mv_X7_rowAmiss qM_X7_65 ⟨⟨rfl, rfl⟩, Nat.le_of_ble_eq_true rfl, Nat.le_of_ble_eq_true rfl⟩ hK hH hS hA (hp.recv hK hH (i := 0) (by omega) rfl rfl) hl.1 ⟨Nat.zero_le _, Nat.zero_le _⟩ rfl rfl (Nat.le_of_ble_eq_true rfl) dX7_putThing_28 (fun H locs hH hS => ?_)
      refine cm_V (As' := [.int (nI (rsA P c))]) (rest := []) hC (c_X7_refuse) mv_X7_refuse qM_X7_41 ⟨⟨rfl, rfl⟩, Nat.le_of_ble_eq_true rfl, Nat.le_of_ble_eq_true rfl⟩ hK hH hS hA (hp.recv hK hH (i := 0) (by omega) rfl rfl) hl.1 ⟨Nat.zero_le _, Nat.zero_le _⟩ rfl rfl (Nat.le_of_ble_eq_true rfl) dX7_putThing_31 (fun H locs hH hS => ?_)
      exact cx_ri hC hr hlk (hpost.mk (by rcases rs_n (P := P) (c := c) with ⟨a1, a2⟩ | ⟨a1, a2⟩ <;> simp [sp_putThing, rf, rsPl, rsVal, a1, a2, c_4, isC_nI hjd, cN_c hjd, hra] <;> rfl) (by repeat' (first | exact hI | refine HI_up ?_ ?_ | refine cOK_rd hw ?_ (by omega) | refine cOK_td ?_ (by omega) | exact cOK_th (by omega) | refine HI_sm hw ?_ (by omega) (by omega) | refine HI_c (st := st) ?_ (by omega)))) hH hS dX7_putThing_34
    · have hqa : rsRow P j = 0 := by rw [← rsA_j hja]; exact hra
      have hta : t < P.n := by have := hw.2.2.2.1 j; omega
      have hlna := hw.2.1 t
      refine W.eq (g2 := F0 m_ 18 ls (.ref (ad (30 + 2 * t)) :: [])) (by rw [hna]; rfl) ?_
      refine lv_astore (lv' := [(4, .ref (ad (30 + 2 * t))), (0, .ref (ad 0)), (1, .int (nI j)), (2, .int (i)), (3, .int (nI q))]) hx hb dX7_putThing_18 hl (by decide) rfl (fun ls hl => ?_)
      refine lv_aload hx hb dX7_putThing_20 (lv_at hl 0 rfl) ?_
      refine lv_ifnonnull (tgt := 35) hx hb dX7_putThing_22 (by decide) ?_
      refine lv_aload_n hx hb dX7_putThing_35 rfl (lv_at hl 1 rfl) ?_
      refine g_get hC hK inG7 hH 0 (by omega) rfl (ci := 5) rfl 3 (by decide) qF_X7_26 (Or.inl rfl) rfl dX7_putThing_36 ?_
      refine lv_aload_n hx hb dX7_putThing_39 rfl (lv_at hl 1 rfl) ?_
      refine g_get hC hK inG7 hH 0 (by omega) rfl (ci := 5) rfl 0 (by decide) qF_X7_11 (Or.inl rfl) rfl dX7_putThing_40 ?_
      refine lv_iload_n hx hb dX7_putThing_43 rfl (lv_at hl 4 rfl) ?_
      refine hr_co hC hK hH q (by omega) dX7_putThing_44 ?_
      refine cm_V (As' := [va_rf (rfO ad (P.co q))]) (rest := []) hC (c_X1_holdThing (j := 24) (q := (P.co q)) (by omega)) mv_X1_holdThing qM_X7_94 ⟨⟨rfl, rfl⟩, Nat.le_of_ble_eq_true rfl, Nat.le_of_ble_eq_true rfl⟩ hK hH hS hA (hp.recv hK hH (i := 4 + 24) (by omega) (hct_c (by omega)) rfl) hl.1 ⟨Nat.zero_le _, Nat.zero_le _⟩ rfl rfl (Nat.le_of_ble_eq_true rfl) dX7_putThing_45 (fun H locs hH hS => ?_)
      refine lv_aload_n hx hb dX7_putThing_48 rfl (lv_at hl 1 rfl) ?_
      refine lv_aload hx hb dX7_putThing_49 (lv_at hl 0 rfl) ?_
      refine lv_iload_n hx hb dX7_putThing_51 rfl (lv_at hl 3 rfl) ?_
      refine lv_aload_n hx hb dX7_putThing_52 rfl (lv_at hl 1 rfl) ?_
      refine g_get hC hK inG7 hH 0 (by omega) rfl (ci := 5) rfl 0 (by decide) qF_X7_11 (Or.inl rfl) rfl dX7_putThing_53 ?_
      refine lv_iload_n hx hb dX7_putThing_56 rfl (lv_at hl 4 rfl) ?_
      refine hr_co hC hK hH q (by omega) dX7_putThing_57 ?_
      refine cm_S (As := [va_rf (rfO ad (P.co q))]) (rest := [.int (i), .ref (ad (30 + 2 * t)), .ref (ad 0)]) hC (c_X7_oneIfThing (q := (P.co q))) ms_X7_oneIfThing qM_X7_57 ⟨⟨rfl, rfl⟩, Nat.le_of_ble_eq_true rfl, Nat.le_of_ble_eq_true rfl⟩ hK hH hS hA hl.1 ⟨Nat.zero_le _, Nat.zero_le _⟩ rfl rfl (Nat.le_of_ble_eq_true rfl) dX7_putThing_58 (fun H locs hH hS => ?_)
      refine cx_V (As' := [.ref (ad (30 + 2 * t)), .int (i), .int ((if (P.co q) = 0 then 0 else 1))]) (rest := []) hC (c_X7_placeOne (t := t) hw (by omega) (by omega) (by repeat' (first | exact hI | refine HI_up ?_ ?_ | refine cOK_rd hw ?_ (by omega) | refine cOK_td ?_ (by omega) | exact cOK_th (by omega) | refine HI_sm hw ?_ (by omega) (by omega) | refine HI_c (st := st) ?_ (by omega)))) mv_X7_placeOne qM_X7_98 ⟨⟨rfl, rfl⟩, Nat.le_of_ble_eq_true rfl, Nat.le_of_ble_eq_true rfl⟩ hK hH hS hA (hp.recv hK hH (i := 0) (by omega) rfl rfl) hl.1 ⟨Nat.zero_le _, Nat.zero_le _⟩ rfl rfl (Nat.le_of_ble_eq_true rfl) dX7_putThing_61 (fun v9 c9 H locs hpo hH hS hfr9 => ?_)
      obtain ⟨e9, rfl⟩ := hpo
      subst e9
      exact cx_ri hC hr hlk (hpost.mk (P := (plO P t i ((va_up cl 24 (-1, (cl 24).2.1, (cl 24).2.2.1, (P.co q))) 24) ((if (P.co q) = 0 then 0 else 1))).2.1) (by rw [va_up_self]; exact putThing_eq hz hja hjd h1a hqa) (HI_n (P := P) (by repeat' (first | exact hI | refine HI_up ?_ ?_ | refine cOK_rd hw ?_ (by omega) | refine cOK_td ?_ (by omega) | exact cOK_th (by omega) | refine HI_sm hw ?_ (by omega) (by omega) | refine HI_c (st := st) ?_ (by omega))) (plO_n _ _ _ _ _))) hH hS dX7_putThing_64
  · have c_4 := b2i_f c_4
    refine lv_aload_n hx hb dX7_putThing_7 rfl (lv_at hl 0 rfl) ?_
    refine lv_iconst (v := 1) hx hb dX7_putThing_8 (by decide) ?_
    refine cm_V (As' := [.int (1)]) (rest := []) hC (c_X7_refuse) mv_X7_refuse qM_X7_41 ⟨⟨rfl, rfl⟩, Nat.le_of_ble_eq_true rfl, Nat.le_of_ble_eq_true rfl⟩ hK hH hS hA (hp.recv hK hH (i := 0) (by omega) rfl rfl) hl.1 ⟨Nat.zero_le _, Nat.zero_le _⟩ rfl rfl (Nat.le_of_ble_eq_true rfl) dX7_putThing_9 (fun H locs hH hS => ?_)
    exact cx_ri hC hr hlk (hpost.mk (by simp [sp_putThing, rf, rsPl, rsVal, c_4] <;> rfl) (by repeat' (first | exact hI | refine HI_up ?_ ?_ | refine cOK_rd hw ?_ (by omega) | refine cOK_td ?_ (by omega) | exact cOK_th (by omega) | refine HI_sm hw ?_ (by omega) (by omega) | refine HI_c (st := st) ?_ (by omega)))) hH hS dX7_putThing_12
theorem mv_X7_readOneAs : mvok RX7 yX7_readOneAs cX7_readOneAs 5 (some .boolean) 3 := ⟨qK_X7_readOneAs, qI_X7_readOneAs, qSel_X7_X7_readOneAs, qInit_X7, by decide +kernel⟩
set_option maxHeartbeats 4000000 in
set_option maxRecDepth 100000 in
theorem c_X7_readOneAs {l : Launch} {D : va_G} {cy : Nat → ClassId} {ad : Nat → Nat} {P : AS} {wy : Int32} {cl : Nat → CE} {st : Nat → Nat} {tg : Nat → Int32} {c i : Int32} {k : Nat} (hw : WF P) (hI : HI P cl st) (hk8 : k < 8) : CX l yX7_readOneAs cX7_readOneAs 5 (some .boolean) (rm_ 2 45) D cy (30 + 2 * P.n) ad [.ref (ad 0), .int (c), .int (i), .int (nI k)] (hct cy ad P wy cl st tg) (roP cy ad P c i k st tg) := by
  refine CX.start (by decide) (Nat.le_of_ble_eq_true rfl) ?_
  intro p_ e_ s m_ below meth cd A ls hC hr hlk hin hK hA hH hl
  obtain ⟨hx, hb, hml, hown, hts⟩ := id hC
  have hS : va_S A s.heap s.heap [] := va_S.rf
  have hl : lv_has ls 5 [(0, .ref (ad 0)), (1, .int (c)), (2, .int (i)), (3, .int (nI k))] := hl
  refine lv_aload_n hx hb dX7_readOneAs_0 rfl (lv_at hl 0 rfl) ?_
  refine lv_iload_n hx hb dX7_readOneAs_1 rfl (lv_at hl 1 rfl) ?_
  refine cm_V (As' := [.int (c)]) (rest := []) hC (c_X7_rowIn hw) mv_X7_rowIn qM_X7_61 ⟨⟨rfl, rfl⟩, Nat.le_of_ble_eq_true rfl, Nat.le_of_ble_eq_true rfl⟩ hK hH hS hA (hp.recv hK hH (i := 0) (by omega) rfl rfl) hl.1 ⟨Nat.zero_le _, Nat.zero_le _⟩ rfl rfl (Nat.le_of_ble_eq_true rfl) dX7_readOneAs_2 (fun H locs hH hS => ?_)
  rcases rw_cases P ad c with ⟨hna, hra⟩ | ⟨j, t, hja, rfl, h1a, hka, hra, hna⟩
  · refine W.eq (g2 := F0 m_ 5 ls (.null :: [])) (by rw [hna]; rfl) ?_
    refine lv_astoreN (lv' := [(4, .null), (0, .ref (ad 0)), (1, .int (c)), (2, .int (i)), (3, .int (nI k))]) hx hb dX7_readOneAs_5 hl (by decide) rfl (fun ls hl => ?_)
    refine lv_aloadN hx hb dX7_readOneAs_7 (lv_at hl 0 rfl) ?_
    refine lv_ifnonnullN hx hb dX7_readOneAs_9 ?_
    refine lv_aload_n hx hb dX7_readOneAs_12 rfl (lv_at hl 1 rfl) ?_
    refine lv_aload_n hx hb dX7_readOneAs_13 rfl (lv_at hl 1 rfl) ?_
    refine lv_iload_n hx hb dX7_readOneAs_14 rfl (lv_at hl 2 rfl) ?_
    refine cm_V (As' := [.int (c)]) (rest := [.ref (ad 0)]) hC (c_X7_rowAmiss hw) mv_X7_rowAmiss qM_X7_65 ⟨⟨rfl, rfl⟩, Nat.le_of_ble_eq_true rfl, Nat.le_of_ble_eq_true rfl⟩ hK hH hS hA (hp.recv hK hH (i := 0) (by omega) rfl rfl) hl.1 ⟨Nat.zero_le _, Nat.zero_le _⟩ rfl rfl (Nat.le_of_ble_eq_true rfl) dX7_readOneAs_15 (fun H locs hH hS => ?_)
    refine g_put (ct' := hct cy ad P (nI (rsA P c)) cl st tg) hC hK inG7 tyX7 tyX7_ok nmX7 hH hS 0 (by omega) rfl (ci := 5) rfl 5 (by decide) qF_X7_33 rfl rfl rfl rfl (Nat.le_of_ble_eq_true rfl) rfl hct_wy dX7_readOneAs_18 (fun H locs hH hS => ?_)
    refine lv_iconst (v := 0) hx hb dX7_readOneAs_21 (by decide) ?_
    exact cx_rz hC hr hlk (by first | exact Or.inl rfl | exact Or.inr rfl) (roP.mk (by rw [raV_n hra, decide_eq_false hra]; rfl) (by rw [raV_n hra]) (by repeat' (first | exact hI | refine HI_up ?_ ?_ | refine cOK_rd hw ?_ (by omega) | refine cOK_td ?_ (by omega) | exact cOK_th (by omega) | refine HI_sm hw ?_ (by omega) (by omega) | refine HI_c (st := st) ?_ (by omega))) (fun h => absurd ((raV_n hra).symm.trans h) hra)) hH hS dX7_readOneAs_22
  · have hqa : rsRow P j = 0 := by rw [← rsA_j hja]; exact hra
    have hta : t < P.n := by have := hw.2.2.2.1 j; omega
    have hlna := hw.2.1 t
    refine W.eq (g2 := F0 m_ 5 ls (.ref (ad (30 + 2 * t)) :: [])) (by rw [hna]; rfl) ?_
    refine lv_astore (lv' := [(4, .ref (ad (30 + 2 * t))), (0, .ref (ad 0)), (1, .int (nI j)), (2, .int (i)), (3, .int (nI k))]) hx hb dX7_readOneAs_5 hl (by decide) rfl (fun ls hl => ?_)
    refine lv_aload hx hb dX7_readOneAs_7 (lv_at hl 0 rfl) ?_
    refine lv_ifnonnull (tgt := 23) hx hb dX7_readOneAs_9 (by decide) ?_
    refine lv_aload hx hb dX7_readOneAs_23 (lv_at hl 0 rfl) ?_
    refine lv_iload_n hx hb dX7_readOneAs_25 rfl (lv_at hl 3 rfl) ?_
    refine cm_R (As := [.int (i)]) (rest := []) (i := 30 + 2 * t) hC (rc_has (t := t) hw (by omega) (by omega)) qM_X7_114 ⟨Nat.le_of_ble_eq_true rfl, Nat.le_of_ble_eq_true rfl⟩ hK hH hS hA hl.1 ⟨Nat.zero_le _, Nat.zero_le _⟩ rfl rfl (Nat.le_of_ble_eq_true rfl) dX7_readOneAs_26 (fun H locs hH hS => ?_)
    refine lv_if_ne (tgt := 39) hx hb dX7_readOneAs_29 (by decide) (fun c_29 => ?_) (fun c_29 => ?_)
    · have c_29 := b2i_t c_29
      refine lv_aload hx hb dX7_readOneAs_39 (lv_at hl 0 rfl) ?_
      refine lv_iload_n hx hb dX7_readOneAs_41 rfl (lv_at hl 4 rfl) ?_
      refine cm_R (As := [.int (nI k)]) (rest := []) (i := 30 + 2 * t) hC (rc_goesAs (t := t) (k := k) hw (by omega) (by omega) (by omega)) qM_X7_201 ⟨Nat.le_of_ble_eq_true rfl, Nat.le_of_ble_eq_true rfl⟩ hK hH hS hA hl.1 ⟨Nat.zero_le _, Nat.zero_le _⟩ rfl rfl (Nat.le_of_ble_eq_true rfl) dX7_readOneAs_42 (fun H locs hH hS => ?_)
      refine lv_if_ne (tgt := 55) hx hb dX7_readOneAs_45 (by decide) (fun c_45 => ?_) (fun c_45 => ?_)
      · have c_45 := b2i_t c_45
        obtain ⟨m, hk2, rfl⟩ := hasP_ex c_29
        refine lv_aload hx hb dX7_readOneAs_55 (lv_at hl 0 rfl) ?_
        refine lv_iload_n hx hb dX7_readOneAs_57 rfl (lv_at hl 3 rfl) ?_
        refine lv_aload_n hx hb dX7_readOneAs_58 rfl (lv_at hl 1 rfl) ?_
        refine g_get hC hK inG7 hH 0 (by omega) rfl (ci := 5) rfl 3 (by decide) qF_X7_26 (Or.inl rfl) rfl dX7_readOneAs_59 ?_
        refine cm_R (As := [.int (nI m), .ref (ad (4 + 24))]) (rest := []) (i := 30 + 2 * t) hC (rc_read (t := t) (i := m) (j := 24) hw (by omega) (by omega) (by omega) (by omega)) qM_X7_117 ⟨Nat.le_of_ble_eq_true rfl, Nat.le_of_ble_eq_true rfl⟩ hK hH hS hA hl.1 ⟨Nat.zero_le _, Nat.zero_le _⟩ rfl rfl (Nat.le_of_ble_eq_true rfl) dX7_readOneAs_62 (fun H locs hH hS => ?_)
        refine lv_aload_n hx hb dX7_readOneAs_65 rfl (lv_at hl 1 rfl) ?_
        refine lv_iconst (v := 0) hx hb dX7_readOneAs_66 (by decide) ?_
        refine g_put (ct' := hct cy ad P 0 (va_up cl 24 (rdC P t m (cl 24))) st tg) hC hK inG7 tyX7 tyX7_ok nmX7 hH hS 0 (by omega) rfl (ci := 5) rfl 5 (by decide) qF_X7_33 rfl rfl rfl rfl (Nat.le_of_ble_eq_true rfl) rfl hct_wy dX7_readOneAs_67 (fun H locs hH hS => ?_)
        refine lv_iconst (v := 1) hx hb dX7_readOneAs_70 (by decide) ?_
        exact cx_rz hC hr hlk (by first | exact Or.inl rfl | exact Or.inr rfl) (roP.mk (by rw [raV_j hja h1a hqa, if_pos c_29, if_pos c_45]; rfl) (by rw [raV_j hja h1a hqa, if_pos c_29, if_pos c_45]; rfl) (by repeat' (first | exact hI | refine HI_up ?_ ?_ | refine cOK_rd hw ?_ (by omega) | refine cOK_td ?_ (by omega) | exact cOK_th (by omega) | refine HI_sm hw ?_ (by omega) (by omega) | refine HI_c (st := st) ?_ (by omega))) (fun h => ⟨cl 24, by rw [va_up_self, cN_c hja, h1a, cN_s (show m ≤ 24 by omega) (by decide)]; rfl⟩)) hH hS dX7_readOneAs_71
      · have c_45 := b2i_f c_45
        refine lv_aload_n hx hb dX7_readOneAs_48 rfl (lv_at hl 1 rfl) ?_
        refine lv_iconst (v := 5) hx hb dX7_readOneAs_49 (by decide) ?_
        refine g_put (ct' := hct cy ad P 5 cl st tg) hC hK inG7 tyX7 tyX7_ok nmX7 hH hS 0 (by omega) rfl (ci := 5) rfl 5 (by decide) qF_X7_33 rfl rfl rfl rfl (Nat.le_of_ble_eq_true rfl) rfl hct_wy dX7_readOneAs_50 (fun H locs hH hS => ?_)
        refine lv_iconst (v := 0) hx hb dX7_readOneAs_53 (by decide) ?_
        exact cx_rz hC hr hlk (by first | exact Or.inl rfl | exact Or.inr rfl) (roP.mk (by rw [raV_j hja h1a hqa, if_pos c_29, if_neg (by rw [c_45]; decide)]; rfl) (by rw [raV_j hja h1a hqa, if_pos c_29, if_neg (by rw [c_45]; decide)]; rfl) (by repeat' (first | exact hI | refine HI_up ?_ ?_ | refine cOK_rd hw ?_ (by omega) | refine cOK_td ?_ (by omega) | exact cOK_th (by omega) | refine HI_sm hw ?_ (by omega) (by omega) | refine HI_c (st := st) ?_ (by omega))) (fun h => by rw [raV_j hja h1a hqa, if_pos c_29, if_neg (by rw [c_45]; decide)] at h; omega)) hH hS dX7_readOneAs_54
    · have c_29 := b2i_f c_29
      refine lv_aload_n hx hb dX7_readOneAs_32 rfl (lv_at hl 1 rfl) ?_
      refine lv_iconst (v := 4) hx hb dX7_readOneAs_33 (by decide) ?_
      refine g_put (ct' := hct cy ad P 4 cl st tg) hC hK inG7 tyX7 tyX7_ok nmX7 hH hS 0 (by omega) rfl (ci := 5) rfl 5 (by decide) qF_X7_33 rfl rfl rfl rfl (Nat.le_of_ble_eq_true rfl) rfl hct_wy dX7_readOneAs_34 (fun H locs hH hS => ?_)
      refine lv_iconst (v := 0) hx hb dX7_readOneAs_37 (by decide) ?_
      exact cx_rz hC hr hlk (by first | exact Or.inl rfl | exact Or.inr rfl) (roP.mk (by rw [raV_j hja h1a hqa, if_neg (by rw [c_29]; decide)]; rfl) (by rw [raV_j hja h1a hqa, if_neg (by rw [c_29]; decide)]; rfl) (by repeat' (first | exact hI | refine HI_up ?_ ?_ | refine cOK_rd hw ?_ (by omega) | refine cOK_td ?_ (by omega) | exact cOK_th (by omega) | refine HI_sm hw ?_ (by omega) (by omega) | refine HI_c (st := st) ?_ (by omega))) (fun h => by rw [raV_j hja h1a hqa, if_neg (by rw [c_29]; decide)] at h; omega)) hH hS dX7_readOneAs_38
theorem mv_X7_number : mvok RX7 yX7_number cX7_number 4 (some .long) 3 := ⟨qK_X7_number, qI_X7_number, qSel_X7_X7_number, qInit_X7, by decide +kernel⟩
set_option maxHeartbeats 4000000 in
set_option maxRecDepth 100000 in
theorem c_X7_number {l : Launch} {D : va_G} {cy : Nat → ClassId} {ad : Nat → Nat} {P : AS} {wy : Int32} {cl : Nat → CE} {st : Nat → Nat} {tg : Nat → Int32} {c i so : Int32} (hw : WF P) (hz : WZ P) (hI : HI P cl st) : CX l yX7_number cX7_number 4 (some .long) (rm_ 3 69) D cy (30 + 2 * P.n) ad [.ref (ad 0), .int (c), .int (i), .int (so)] (hct cy ad P wy cl st tg) (hpostL cy ad (sp_number P c i so)) := by
  refine CX.start (by decide) (Nat.le_of_ble_eq_true rfl) ?_
  intro p_ e_ s m_ below meth cd A ls hC hr hlk hin hK hA hH hl
  obtain ⟨hx, hb, hml, hown, hts⟩ := id hC
  have hS : va_S A s.heap s.heap [] := va_S.rf
  have hl : lv_has ls 4 [(0, .ref (ad 0)), (1, .int (c)), (2, .int (i)), (3, .int (so))] := hl
  refine lv_iload_n hx hb dX7_number_0 rfl (lv_at hl 3 rfl) ?_
  refine lv_if_lt (tgt := 9) hx hb dX7_number_1 (by decide) (fun c_1 => ?_) (fun c_1 => ?_)
  · refine lv_aload_n hx hb dX7_number_9 rfl (lv_at hl 0 rfl) ?_
    refine lv_iconst (v := 1) hx hb dX7_number_10 (by decide) ?_
    refine cm_V (As' := [.int (1)]) (rest := []) hC (c_X7_refuse) mv_X7_refuse qM_X7_41 ⟨⟨rfl, rfl⟩, Nat.le_of_ble_eq_true rfl, Nat.le_of_ble_eq_true rfl⟩ hK hH hS hA (hp.recv hK hH (i := 0) (by omega) rfl rfl) hl.1 ⟨Nat.zero_le _, Nat.zero_le _⟩ rfl rfl (Nat.le_of_ble_eq_true rfl) dX7_number_11 (fun H locs hH hS => ?_)
    refine lv_i2l hx hb dX7_number_14 rfl ?_
    exact cx_rl hC hr hlk (hpostL.mk (by have h9 : inR so 0 5 = false := inR_lo c_1; simp [sp_number, h9] <;> rfl) (by repeat' (first | exact hI | refine HI_up ?_ ?_ | refine cOK_rd hw ?_ (by omega) | refine cOK_td ?_ (by omega) | exact cOK_th (by omega) | refine HI_sm hw ?_ (by omega) (by omega) | refine HI_c (st := st) ?_ (by omega)))) hH hS dX7_number_15
  · refine lv_iload_n hx hb dX7_number_4 rfl (lv_at hl 3 rfl) ?_
    refine lv_iconst (v := 5) hx hb dX7_number_5 (by decide) ?_
    refine lv_icmp_le (tgt := 16) hx hb dX7_number_6 (by decide) (fun c_6 => ?_) (fun c_6 => ?_)
    · obtain ⟨k, hk5, rfl⟩ := inR_ex (n := 5) (by decide) (inR_in c_1 (i_nlt c_6) : inR so 0 5 = true)
      refine lv_aload_n hx hb dX7_number_16 rfl (lv_at hl 0 rfl) ?_
      refine lv_iload_n hx hb dX7_number_17 rfl (lv_at hl 1 rfl) ?_
      refine lv_iload_n hx hb dX7_number_18 rfl (lv_at hl 2 rfl) ?_
      refine lv_iload_n hx hb dX7_number_19 rfl (lv_at hl 3 rfl) ?_
      refine cx_V (As' := [.int (c), .int (i), .int (nI k)]) (rest := []) hC (c_X7_readOneAs (k := k) hw hI (by omega)) mv_X7_readOneAs qM_X7_102 ⟨⟨rfl, rfl⟩, Nat.le_of_ble_eq_true rfl, Nat.le_of_ble_eq_true rfl⟩ hK hH hS hA (hp.recv hK hH (i := 0) (by omega) rfl rfl) hl.1 ⟨Nat.zero_le _, Nat.zero_le _⟩ rfl rfl (Nat.le_of_ble_eq_true rfl) dX7_number_20 (fun v9 c9 H locs hpo hH hS hfr9 => ?_)
      obtain ⟨e9, cl, rfl, hI, hro⟩ := hpo
      subst e9
      refine lv_if_eq (tgt := 36) hx hb dX7_number_23 (by decide) (fun c_23 => ?_) (fun c_23 => ?_)
      · have c_23 := b2d_f c_23
        refine lv_lconst (v := 0) hx hb dX7_number_36 (by decide) ?_
        exact cx_rl hC hr hlk (hpostL.mk (num_no hk5 c_23) (hI)) hH hS dX7_number_37
      · have c_23 := b2d_t c_23
        refine lv_aload_n hx hb dX7_number_26 rfl (lv_at hl 0 rfl) ?_
        refine g_get hC hK inG7 hH 0 (by omega) rfl (ci := 5) rfl 3 (by decide) qF_X7_26 (Or.inl rfl) rfl dX7_number_27 ?_
        refine hr_cg hC hK hH 24 (by omega) 1 (by decide) qF_X7_106 rfl rfl dX7_number_30 ?_
        refine lv_goto (tgt := 37) hx hb dX7_number_33 (by decide) ?_
        exact cx_rl hC hr hlk (hpostL.mk (num_ok hk5 c_23 (hro c_23)) (hI)) hH hS dX7_number_37
    · refine lv_aload_n hx hb dX7_number_9 rfl (lv_at hl 0 rfl) ?_
      refine lv_iconst (v := 1) hx hb dX7_number_10 (by decide) ?_
      refine cm_V (As' := [.int (1)]) (rest := []) hC (c_X7_refuse) mv_X7_refuse qM_X7_41 ⟨⟨rfl, rfl⟩, Nat.le_of_ble_eq_true rfl, Nat.le_of_ble_eq_true rfl⟩ hK hH hS hA (hp.recv hK hH (i := 0) (by omega) rfl rfl) hl.1 ⟨Nat.zero_le _, Nat.zero_le _⟩ rfl rfl (Nat.le_of_ble_eq_true rfl) dX7_number_11 (fun H locs hH hS => ?_)
      refine lv_i2l hx hb dX7_number_14 rfl ?_
      exact cx_rl hC hr hlk (hpostL.mk (by have h9 : inR so 0 5 = false := inR_hi (i_nle c_6); simp [sp_number, h9] <;> rfl) (by repeat' (first | exact hI | refine HI_up ?_ ?_ | refine cOK_rd hw ?_ (by omega) | refine cOK_td ?_ (by omega) | exact cOK_th (by omega) | refine HI_sm hw ?_ (by omega) (by omega) | refine HI_c (st := st) ?_ (by omega)))) hH hS dX7_number_15
theorem mv_X7_point : mvok RX7 yX7_point cX7_point 4 (some .double) 3 := ⟨qK_X7_point, qI_X7_point, qSel_X7_X7_point, qInit_X7, by decide +kernel⟩
set_option maxHeartbeats 4000000 in
set_option maxRecDepth 100000 in
theorem c_X7_point {l : Launch} {D : va_G} {cy : Nat → ClassId} {ad : Nat → Nat} {P : AS} {wy : Int32} {cl : Nat → CE} {st : Nat → Nat} {tg : Nat → Int32} {c i so : Int32} (hw : WF P) (hz : WZ P) (hI : HI P cl st) : CX l yX7_point cX7_point 4 (some .double) (rm_ 3 69) D cy (30 + 2 * P.n) ad [.ref (ad 0), .int (c), .int (i), .int (so)] (hct cy ad P wy cl st tg) (hpostD cy ad (sp_point P c i so)) := by
  refine CX.start (by decide) (Nat.le_of_ble_eq_true rfl) ?_
  intro p_ e_ s m_ below meth cd A ls hC hr hlk hin hK hA hH hl
  obtain ⟨hx, hb, hml, hown, hts⟩ := id hC
  have hS : va_S A s.heap s.heap [] := va_S.rf
  have hl : lv_has ls 4 [(0, .ref (ad 0)), (1, .int (c)), (2, .int (i)), (3, .int (so))] := hl
  refine lv_iload_n hx hb dX7_point_0 rfl (lv_at hl 3 rfl) ?_
  refine lv_bipush (v := 6) hx hb dX7_point_1 (by decide) ?_
  refine lv_icmp_eq (tgt := 19) hx hb dX7_point_3 (by decide) (fun c_3 => ?_) (fun c_3 => ?_)
  · obtain rfl : so = nI 6 := c_3
    refine lv_aload_n hx hb dX7_point_19 rfl (lv_at hl 0 rfl) ?_
    refine lv_iload_n hx hb dX7_point_20 rfl (lv_at hl 1 rfl) ?_
    refine lv_iload_n hx hb dX7_point_21 rfl (lv_at hl 2 rfl) ?_
    refine lv_iload_n hx hb dX7_point_22 rfl (lv_at hl 3 rfl) ?_
    refine cx_V (As' := [.int (c), .int (i), .int (nI 6)]) (rest := []) hC (c_X7_readOneAs (k := 6) hw hI (by omega)) mv_X7_readOneAs qM_X7_102 ⟨⟨rfl, rfl⟩, Nat.le_of_ble_eq_true rfl, Nat.le_of_ble_eq_true rfl⟩ hK hH hS hA (hp.recv hK hH (i := 0) (by omega) rfl rfl) hl.1 ⟨Nat.zero_le _, Nat.zero_le _⟩ rfl rfl (Nat.le_of_ble_eq_true rfl) dX7_point_23 (fun v9 c9 H locs hpo hH hS hfr9 => ?_)
    obtain ⟨e9, cl, rfl, hI, hro⟩ := hpo
    subst e9
    refine lv_if_eq (tgt := 40) hx hb dX7_point_26 (by decide) (fun c_26 => ?_) (fun c_26 => ?_)
    · have c_26 := b2d_f c_26
      refine lv_dconst0 hx hb dX7_point_40 ?_
      exact cx_rd hC hr hlk (hpostD.mk (pnt_no (by omega) (by omega) c_26) (hI)) hH hS dX7_point_41
    · have c_26 := b2d_t c_26
      refine lv_aload_n hx hb dX7_point_29 rfl (lv_at hl 0 rfl) ?_
      refine g_get hC hK inG7 hH 0 (by omega) rfl (ci := 5) rfl 3 (by decide) qF_X7_26 (Or.inl rfl) rfl dX7_point_30 ?_
      refine lv_iload_n hx hb dX7_point_33 rfl (lv_at hl 3 rfl) ?_
      refine cm_V (As' := [.int (nI 6)]) (rest := []) hC (c_X1_pointAs (j := 24) (k := 6) (by omega) (by omega)) mv_X1_pointAs qM_X7_110 ⟨⟨rfl, rfl⟩, Nat.le_of_ble_eq_true rfl, Nat.le_of_ble_eq_true rfl⟩ hK hH hS hA (hp.recv hK hH (i := 4 + 24) (by omega) (hct_c (by omega)) rfl) hl.1 ⟨Nat.zero_le _, Nat.zero_le _⟩ rfl rfl (Nat.le_of_ble_eq_true rfl) dX7_point_34 (fun H locs hH hS => ?_)
      refine lv_goto (tgt := 41) hx hb dX7_point_37 (by decide) ?_
      exact cx_rd hC hr hlk (hpostD.mk (pnt_ok hz (by omega) (by omega) c_26 (hro c_26)) (hI)) hH hS dX7_point_41
  · refine lv_iload_n hx hb dX7_point_6 rfl (lv_at hl 3 rfl) ?_
    refine lv_bipush (v := 7) hx hb dX7_point_7 (by decide) ?_
    refine lv_icmp_eq (tgt := 19) hx hb dX7_point_9 (by decide) (fun c_9 => ?_) (fun c_9 => ?_)
    · obtain rfl : so = nI 7 := c_9
      refine lv_aload_n hx hb dX7_point_19 rfl (lv_at hl 0 rfl) ?_
      refine lv_iload_n hx hb dX7_point_20 rfl (lv_at hl 1 rfl) ?_
      refine lv_iload_n hx hb dX7_point_21 rfl (lv_at hl 2 rfl) ?_
      refine lv_iload_n hx hb dX7_point_22 rfl (lv_at hl 3 rfl) ?_
      refine cx_V (As' := [.int (c), .int (i), .int (nI 7)]) (rest := []) hC (c_X7_readOneAs (k := 7) hw hI (by omega)) mv_X7_readOneAs qM_X7_102 ⟨⟨rfl, rfl⟩, Nat.le_of_ble_eq_true rfl, Nat.le_of_ble_eq_true rfl⟩ hK hH hS hA (hp.recv hK hH (i := 0) (by omega) rfl rfl) hl.1 ⟨Nat.zero_le _, Nat.zero_le _⟩ rfl rfl (Nat.le_of_ble_eq_true rfl) dX7_point_23 (fun v9 c9 H locs hpo hH hS hfr9 => ?_)
      obtain ⟨e9, cl, rfl, hI, hro⟩ := hpo
      subst e9
      refine lv_if_eq (tgt := 40) hx hb dX7_point_26 (by decide) (fun c_26 => ?_) (fun c_26 => ?_)
      · have c_26 := b2d_f c_26
        refine lv_dconst0 hx hb dX7_point_40 ?_
        exact cx_rd hC hr hlk (hpostD.mk (pnt_no (by omega) (by omega) c_26) (hI)) hH hS dX7_point_41
      · have c_26 := b2d_t c_26
        refine lv_aload_n hx hb dX7_point_29 rfl (lv_at hl 0 rfl) ?_
        refine g_get hC hK inG7 hH 0 (by omega) rfl (ci := 5) rfl 3 (by decide) qF_X7_26 (Or.inl rfl) rfl dX7_point_30 ?_
        refine lv_iload_n hx hb dX7_point_33 rfl (lv_at hl 3 rfl) ?_
        refine cm_V (As' := [.int (nI 7)]) (rest := []) hC (c_X1_pointAs (j := 24) (k := 7) (by omega) (by omega)) mv_X1_pointAs qM_X7_110 ⟨⟨rfl, rfl⟩, Nat.le_of_ble_eq_true rfl, Nat.le_of_ble_eq_true rfl⟩ hK hH hS hA (hp.recv hK hH (i := 4 + 24) (by omega) (hct_c (by omega)) rfl) hl.1 ⟨Nat.zero_le _, Nat.zero_le _⟩ rfl rfl (Nat.le_of_ble_eq_true rfl) dX7_point_34 (fun H locs hH hS => ?_)
        refine lv_goto (tgt := 41) hx hb dX7_point_37 (by decide) ?_
        exact cx_rd hC hr hlk (hpostD.mk (pnt_ok hz (by omega) (by omega) c_26 (hro c_26)) (hI)) hH hS dX7_point_41
    · refine lv_aload_n hx hb dX7_point_12 rfl (lv_at hl 0 rfl) ?_
      refine lv_iconst (v := 1) hx hb dX7_point_13 (by decide) ?_
      refine cm_V (As' := [.int (1)]) (rest := []) hC (c_X7_refuse) mv_X7_refuse qM_X7_41 ⟨⟨rfl, rfl⟩, Nat.le_of_ble_eq_true rfl, Nat.le_of_ble_eq_true rfl⟩ hK hH hS hA (hp.recv hK hH (i := 0) (by omega) rfl rfl) hl.1 ⟨Nat.zero_le _, Nat.zero_le _⟩ rfl rfl (Nat.le_of_ble_eq_true rfl) dX7_point_14 (fun H locs hH hS => ?_)
      refine lv_i2d hx hb dX7_point_17 ?_
      exact cx_rd hC hr hlk (hpostD.mk (by simp [sp_point, inR67_f c_3 c_9]; exact i2d_0.symm) (by repeat' (first | exact hI | refine HI_up ?_ ?_ | refine cOK_rd hw ?_ (by omega) | refine cOK_td ?_ (by omega) | exact cOK_th (by omega) | refine HI_sm hw ?_ (by omega) (by omega) | refine HI_c (st := st) ?_ (by omega)))) hH hS dX7_point_18
theorem mv_X7_what : mvok RX7 yX7_what cX7_what 4 (some .int) 2 := ⟨qK_X7_what, qI_X7_what, qSel_X7_X7_what, qInit_X7, by decide +kernel⟩
set_option maxHeartbeats 4000000 in
set_option maxRecDepth 100000 in
theorem c_X7_what {l : Launch} {D : va_G} {cy : Nat → ClassId} {ad : Nat → Nat} {P : AS} {wy : Int32} {cl : Nat → CE} {st : Nat → Nat} {tg : Nat → Int32} {c i : Int32} (hw : WF P) (hz : WZ P) (hI : HI P cl st) : CX l yX7_what cX7_what 4 (some .int) (rm_ 2 45) D cy (30 + 2 * P.n) ad [.ref (ad 0), .int (c), .int (i)] (hct cy ad P wy cl st tg) (hpost cy ad (sp_what P c i)) := by
  refine CX.start (by decide) (Nat.le_of_ble_eq_true rfl) ?_
  intro p_ e_ s m_ below meth cd A ls hC hr hlk hin hK hA hH hl
  obtain ⟨hx, hb, hml, hown, hts⟩ := id hC
  have hS : va_S A s.heap s.heap [] := va_S.rf
  have hl : lv_has ls 4 [(0, .ref (ad 0)), (1, .int (c)), (2, .int (i))] := hl
  refine lv_aload_n hx hb dX7_what_0 rfl (lv_at hl 0 rfl) ?_
  refine lv_iload_n hx hb dX7_what_1 rfl (lv_at hl 1 rfl) ?_
  refine cm_V (As' := [.int (c)]) (rest := []) hC (c_X7_rowIn hw) mv_X7_rowIn qM_X7_61 ⟨⟨rfl, rfl⟩, Nat.le_of_ble_eq_true rfl, Nat.le_of_ble_eq_true rfl⟩ hK hH hS hA (hp.recv hK hH (i := 0) (by omega) rfl rfl) hl.1 ⟨Nat.zero_le _, Nat.zero_le _⟩ rfl rfl (Nat.le_of_ble_eq_true rfl) dX7_what_2 (fun H locs hH hS => ?_)
  rcases rw_cases P ad c with ⟨hna, hra⟩ | ⟨j, t, hja, rfl, h1a, hka, hra, hna⟩
  · refine W.eq (g2 := F0 m_ 5 ls (.null :: [])) (by rw [hna]; rfl) ?_
    refine lv_astore_nN (lv' := [(3, .null), (0, .ref (ad 0)), (1, .int (c)), (2, .int (i))]) hx hb dX7_what_5 rfl hl (by decide) rfl (fun ls hl => ?_)
    refine lv_aload_nN hx hb dX7_what_6 rfl (lv_at hl 0 rfl) ?_
    refine lv_ifnonnullN hx hb dX7_what_7 ?_
    refine lv_aload_n hx hb dX7_what_10 rfl (lv_at hl 1 rfl) ?_
    refine lv_aload_n hx hb dX7_what_11 rfl (lv_at hl 1 rfl) ?_
    refine lv_iload_n hx hb dX7_what_12 rfl (lv_at hl 2 rfl) ?_
    refine cm_V (As' := [.int (c)]) (rest := [.ref (ad 0)]) hC (c_X7_rowAmiss hw) mv_X7_rowAmiss qM_X7_65 ⟨⟨rfl, rfl⟩, Nat.le_of_ble_eq_true rfl, Nat.le_of_ble_eq_true rfl⟩ hK hH hS hA (hp.recv hK hH (i := 0) (by omega) rfl rfl) hl.1 ⟨Nat.zero_le _, Nat.zero_le _⟩ rfl rfl (Nat.le_of_ble_eq_true rfl) dX7_what_13 (fun H locs hH hS => ?_)
    refine cm_V (As' := [.int (nI (rsA P c))]) (rest := []) hC (c_X7_refuse) mv_X7_refuse qM_X7_41 ⟨⟨rfl, rfl⟩, Nat.le_of_ble_eq_true rfl, Nat.le_of_ble_eq_true rfl⟩ hK hH hS hA (hp.recv hK hH (i := 0) (by omega) rfl rfl) hl.1 ⟨Nat.zero_le _, Nat.zero_le _⟩ rfl rfl (Nat.le_of_ble_eq_true rfl) dX7_what_16 (fun H locs hH hS => ?_)
    exact cx_ri hC hr hlk (hpost.mk (by rcases rs_n (P := P) (c := c) with ⟨a1, a2⟩ | ⟨a1, a2⟩ <;> simp [sp_what, rf, rsPl, rsVal, a1, a2, hra] <;> rfl) (by repeat' (first | exact hI | refine HI_up ?_ ?_ | refine cOK_rd hw ?_ (by omega) | refine cOK_td ?_ (by omega) | exact cOK_th (by omega) | refine HI_sm hw ?_ (by omega) (by omega) | refine HI_c (st := st) ?_ (by omega)))) hH hS dX7_what_19
  · have hqa : rsRow P j = 0 := by rw [← rsA_j hja]; exact hra
    have hta : t < P.n := by have := hw.2.2.2.1 j; omega
    have hlna := hw.2.1 t
    refine W.eq (g2 := F0 m_ 5 ls (.ref (ad (30 + 2 * t)) :: [])) (by rw [hna]; rfl) ?_
    refine lv_astore_n (lv' := [(3, .ref (ad (30 + 2 * t))), (0, .ref (ad 0)), (1, .int (nI j)), (2, .int (i))]) hx hb dX7_what_5 rfl hl (by decide) rfl (fun ls hl => ?_)
    refine lv_aload_n hx hb dX7_what_6 rfl (lv_at hl 0 rfl) ?_
    refine lv_ifnonnull (tgt := 20) hx hb dX7_what_7 (by decide) ?_
    refine lv_aload_n hx hb dX7_what_20 rfl (lv_at hl 0 rfl) ?_
    refine lv_iload_n hx hb dX7_what_21 rfl (lv_at hl 3 rfl) ?_
    refine cm_R (As := [.int (i)]) (rest := []) (i := 30 + 2 * t) hC (rc_has (t := t) hw (by omega) (by omega)) qM_X7_114 ⟨Nat.le_of_ble_eq_true rfl, Nat.le_of_ble_eq_true rfl⟩ hK hH hS hA hl.1 ⟨Nat.zero_le _, Nat.zero_le _⟩ rfl rfl (Nat.le_of_ble_eq_true rfl) dX7_what_22 (fun H locs hH hS => ?_)
    refine lv_if_ne (tgt := 34) hx hb dX7_what_25 (by decide) (fun c_25 => ?_) (fun c_25 => ?_)
    · have c_25 := b2i_t c_25
      obtain ⟨m, hk2, rfl⟩ := hasP_ex c_25
      refine lv_aload_n hx hb dX7_what_34 rfl (lv_at hl 0 rfl) ?_
      refine lv_iload_n hx hb dX7_what_35 rfl (lv_at hl 3 rfl) ?_
      refine lv_aload_n hx hb dX7_what_36 rfl (lv_at hl 1 rfl) ?_
      refine g_get hC hK inG7 hH 0 (by omega) rfl (ci := 5) rfl 3 (by decide) qF_X7_26 (Or.inl rfl) rfl dX7_what_37 ?_
      refine cm_R (As := [.int (nI m), .ref (ad (4 + 24))]) (rest := []) (i := 30 + 2 * t) hC (rc_read (t := t) (i := m) (j := 24) hw (by omega) (by omega) (by omega) (by omega)) qM_X7_117 ⟨Nat.le_of_ble_eq_true rfl, Nat.le_of_ble_eq_true rfl⟩ hK hH hS hA hl.1 ⟨Nat.zero_le _, Nat.zero_le _⟩ rfl rfl (Nat.le_of_ble_eq_true rfl) dX7_what_40 (fun H locs hH hS => ?_)
      refine lv_aload_n hx hb dX7_what_43 rfl (lv_at hl 1 rfl) ?_
      refine lv_aload_n hx hb dX7_what_44 rfl (lv_at hl 1 rfl) ?_
      refine g_get hC hK inG7 hH 0 (by omega) rfl (ci := 5) rfl 3 (by decide) qF_X7_26 (Or.inl rfl) rfl dX7_what_45 ?_
      refine cm_V (As' := []) (rest := [.ref (ad 0)]) hC (c_X1_isValue (j := 24) (by omega)) mv_X1_isValue qM_X7_121 ⟨⟨rfl, rfl⟩, Nat.le_of_ble_eq_true rfl, Nat.le_of_ble_eq_true rfl⟩ hK hH hS hA (hp.recv hK hH (i := 4 + 24) (by omega) (hct_c (by omega)) rfl) hl.1 ⟨Nat.zero_le _, Nat.zero_le _⟩ rfl rfl (Nat.le_of_ble_eq_true rfl) dX7_what_48 (fun H locs hH hS => ?_)
      refine lv_if_eq (tgt := 64) hx hb dX7_what_51 (by decide) (fun c_51 => ?_) (fun c_51 => ?_)
      · have c_51 := b2i_f c_51
        rw [va_up_self, rd_cV] at c_51
        have h8 : ¬ P.kd t < 8 := by simpa using c_51
        have hqn := wh_q hw (t := t) (i := m) (by omega)
        refine lv_aload_n hx hb dX7_what_64 rfl (lv_at hl 1 rfl) ?_
        refine g_get hC hK inG7 hH 0 (by omega) rfl (ci := 5) rfl 3 (by decide) qF_X7_26 (Or.inl rfl) rfl dX7_what_65 ?_
        refine hr_cg hC hK hH 24 (by omega) 3 (by decide) qF_X7_128 rfl rfl dX7_what_68 ?_
        refine W.eq (g2 := F0 m_ 71 ls (va_rf (rfO ad ((P.wh t m).toNatClampNeg)) :: .ref (ad 0) :: [])) (by rw [va_up_self, rd_th (by omega)] <;> rfl) ?_
        refine cm_S (As := [va_rf (rfO ad ((P.wh t m).toNatClampNeg))]) (rest := [.ref (ad 0)]) hC (c_X7_kindOf (q := ((P.wh t m).toNatClampNeg)) hw (by omega)) ms_X7_kindOf qM_X7_74 ⟨⟨rfl, rfl⟩, Nat.le_of_ble_eq_true rfl, Nat.le_of_ble_eq_true rfl⟩ hK hH hS hA hl.1 ⟨Nat.zero_le _, Nat.zero_le _⟩ rfl rfl (Nat.le_of_ble_eq_true rfl) dX7_what_71 (fun H locs hH hS => ?_)
        refine cm_V (As' := [.int (kOf P (((P.wh t m).toNatClampNeg)))]) (rest := []) hC (c_X7_done) mv_X7_done qM_X7_50 ⟨⟨rfl, rfl⟩, Nat.le_of_ble_eq_true rfl, Nat.le_of_ble_eq_true rfl⟩ hK hH hS hA (hp.recv hK hH (i := 0) (by omega) rfl rfl) hl.1 ⟨Nat.zero_le _, Nat.zero_le _⟩ rfl rfl (Nat.le_of_ble_eq_true rfl) dX7_what_74 (fun H locs hH hS => ?_)
        exact cx_ri hC hr hlk (hpost.mk (by simp [sp_what, rf, rsPl, rsVal, isC_nI hja, cN_c hja, hqa, h1a, c_25, cN_s (show m ≤ 24 by omega) (by decide), h8] <;> rfl) (by repeat' (first | exact hI | refine HI_up ?_ ?_ | refine cOK_rd hw ?_ (by omega) | refine cOK_td ?_ (by omega) | exact cOK_th (by omega) | refine HI_sm hw ?_ (by omega) (by omega) | refine HI_c (st := st) ?_ (by omega)))) hH hS dX7_what_77
      · have c_51 := b2i_t c_51
        rw [va_up_self, rd_cV] at c_51
        have h8 : P.kd t < 8 := by simpa using c_51
        refine lv_aload_n hx hb dX7_what_54 rfl (lv_at hl 1 rfl) ?_
        refine g_get hC hK inG7 hH 0 (by omega) rfl (ci := 5) rfl 3 (by decide) qF_X7_26 (Or.inl rfl) rfl dX7_what_55 ?_
        refine hr_cg hC hK hH 24 (by omega) 0 (by decide) qF_X7_125 rfl rfl dX7_what_58 ?_
        refine lv_chg (y := nI (P.kd t)) (by rw [va_up_self, rd_so h8]) ?_
        refine lv_goto (tgt := 74) hx hb dX7_what_61 (by decide) ?_
        refine cm_V (As' := [.int (nI (P.kd t))]) (rest := []) hC (c_X7_done) mv_X7_done qM_X7_50 ⟨⟨rfl, rfl⟩, Nat.le_of_ble_eq_true rfl, Nat.le_of_ble_eq_true rfl⟩ hK hH hS hA (hp.recv hK hH (i := 0) (by omega) rfl rfl) hl.1 ⟨Nat.zero_le _, Nat.zero_le _⟩ rfl rfl (Nat.le_of_ble_eq_true rfl) dX7_what_74 (fun H locs hH hS => ?_)
        exact cx_ri hC hr hlk (hpost.mk (by simp [sp_what, rf, rsPl, rsVal, isC_nI hja, cN_c hja, hqa, h1a, c_25, cN_s (show m ≤ 24 by omega) (by decide), h8] <;> rfl) (by repeat' (first | exact hI | refine HI_up ?_ ?_ | refine cOK_rd hw ?_ (by omega) | refine cOK_td ?_ (by omega) | exact cOK_th (by omega) | refine HI_sm hw ?_ (by omega) (by omega) | refine HI_c (st := st) ?_ (by omega)))) hH hS dX7_what_77
    · have c_25 := b2i_f c_25
      refine lv_aload_n hx hb dX7_what_28 rfl (lv_at hl 1 rfl) ?_
      refine lv_iconst (v := 4) hx hb dX7_what_29 (by decide) ?_
      refine cm_V (As' := [.int (4)]) (rest := []) hC (c_X7_refuse) mv_X7_refuse qM_X7_41 ⟨⟨rfl, rfl⟩, Nat.le_of_ble_eq_true rfl, Nat.le_of_ble_eq_true rfl⟩ hK hH hS hA (hp.recv hK hH (i := 0) (by omega) rfl rfl) hl.1 ⟨Nat.zero_le _, Nat.zero_le _⟩ rfl rfl (Nat.le_of_ble_eq_true rfl) dX7_what_30 (fun H locs hH hS => ?_)
      exact cx_ri hC hr hlk (hpost.mk (by simp [sp_what, rf, rsPl, rsVal, isC_nI hja, cN_c hja, hqa, h1a, c_25] <;> rfl) (by repeat' (first | exact hI | refine HI_up ?_ ?_ | refine cOK_rd hw ?_ (by omega) | refine cOK_td ?_ (by omega) | exact cOK_th (by omega) | refine HI_sm hw ?_ (by omega) (by omega) | refine HI_c (st := st) ?_ (by omega)))) hH hS dX7_what_33
theorem mv_X7_take : mvok RX7 yX7_take cX7_take 5 (some .int) 3 := ⟨qK_X7_take, qI_X7_take, qSel_X7_X7_take, qInit_X7, by decide +kernel⟩
set_option maxHeartbeats 4000000 in
set_option maxRecDepth 100000 in
theorem c_X7_take {l : Launch} {D : va_G} {cy : Nat → ClassId} {ad : Nat → Nat} {P : AS} {wy : Int32} {cl : Nat → CE} {st : Nat → Nat} {tg : Nat → Int32} {c i d : Int32} (hw : WF P) (hz : WZ P) (hI : HI P cl st) : CX l yX7_take cX7_take 5 (some .int) (rm_ 2 45) D cy (30 + 2 * P.n) ad [.ref (ad 0), .int (c), .int (i), .int (d)] (hct cy ad P wy cl st tg) (hpost cy ad (sp_take P c i d)) := by
  refine CX.start (by decide) (Nat.le_of_ble_eq_true rfl) ?_
  intro p_ e_ s m_ below meth cd A ls hC hr hlk hin hK hA hH hl
  obtain ⟨hx, hb, hml, hown, hts⟩ := id hC
  have hS : va_S A s.heap s.heap [] := va_S.rf
  have hl : lv_has ls 5 [(0, .ref (ad 0)), (1, .int (c)), (2, .int (i)), (3, .int (d))] := hl
  refine lv_iload_n hx hb dX7_take_0 rfl (lv_at hl 3 rfl) ?_
  refine cm_S (As := [.int (d)]) (rest := []) hC (c_X7_isColumn) ms_X7_isColumn qM_X7_37 ⟨⟨rfl, rfl⟩, Nat.le_of_ble_eq_true rfl, Nat.le_of_ble_eq_true rfl⟩ hK hH hS hA hl.1 ⟨Nat.zero_le _, Nat.zero_le _⟩ rfl rfl (Nat.le_of_ble_eq_true rfl) dX7_take_1 (fun H locs hH hS => ?_)
  refine lv_if_ne (tgt := 13) hx hb dX7_take_4 (by decide) (fun c_4 => ?_) (fun c_4 => ?_)
  · have c_4 := b2i_t c_4
    obtain ⟨q, hjd, rfl⟩ := isC_ex c_4
    have hcod := hw.2.2.2.1 q
    refine lv_aload_n hx hb dX7_take_13 rfl (lv_at hl 0 rfl) ?_
    refine lv_iload_n hx hb dX7_take_14 rfl (lv_at hl 1 rfl) ?_
    refine cm_V (As' := [.int (c)]) (rest := []) hC (c_X7_rowIn hw) mv_X7_rowIn qM_X7_61 ⟨⟨rfl, rfl⟩, Nat.le_of_ble_eq_true rfl, Nat.le_of_ble_eq_true rfl⟩ hK hH hS hA (hp.recv hK hH (i := 0) (by omega) rfl rfl) hl.1 ⟨Nat.zero_le _, Nat.zero_le _⟩ rfl rfl (Nat.le_of_ble_eq_true rfl) dX7_take_15 (fun H locs hH hS => ?_)
    rcases rw_cases P ad c with ⟨hna, hra⟩ | ⟨j, t, hja, rfl, h1a, hka, hra, hna⟩
    · refine W.eq (g2 := F0 m_ 18 ls (.null :: [])) (by rw [hna]; rfl) ?_
      refine lv_astoreN (lv' := [(4, .null), (0, .ref (ad 0)), (1, .int (c)), (2, .int (i)), (3, .int (nI q))]) hx hb dX7_take_18 hl (by decide) rfl (fun ls hl => ?_)
      refine lv_aloadN hx hb dX7_take_20 (lv_at hl 0 rfl) ?_
      refine lv_ifnonnullN hx hb dX7_take_22 ?_
      refine lv_aload_n hx hb dX7_take_25 rfl (lv_at hl 1 rfl) ?_
      refine lv_aload_n hx hb dX7_take_26 rfl (lv_at hl 1 rfl) ?_
      refine lv_iload_n hx hb dX7_take_27 rfl (lv_at hl 2 rfl) ?_
      refine cm_V (As' := [.int (c)]) (rest := [.ref (ad 0)]) hC (c_X7_rowAmiss hw) mv_X7_rowAmiss qM_X7_65 ⟨⟨rfl, rfl⟩, Nat.le_of_ble_eq_true rfl, Nat.le_of_ble_eq_true rfl⟩ hK hH hS hA (hp.recv hK hH (i := 0) (by omega) rfl rfl) hl.1 ⟨Nat.zero_le _, Nat.zero_le _⟩ rfl rfl (Nat.le_of_ble_eq_true rfl) dX7_take_28 (fun H locs hH hS => ?_)
      refine cm_V (As' := [.int (nI (rsA P c))]) (rest := []) hC (c_X7_refuse) mv_X7_refuse qM_X7_41 ⟨⟨rfl, rfl⟩, Nat.le_of_ble_eq_true rfl, Nat.le_of_ble_eq_true rfl⟩ hK hH hS hA (hp.recv hK hH (i := 0) (by omega) rfl rfl) hl.1 ⟨Nat.zero_le _, Nat.zero_le _⟩ rfl rfl (Nat.le_of_ble_eq_true rfl) dX7_take_31 (fun H locs hH hS => ?_)
      exact cx_ri hC hr hlk (hpost.mk (by rcases rs_n (P := P) (c := c) with ⟨a1, a2⟩ | ⟨a1, a2⟩ <;> simp [sp_take, rf, rsPl, rsVal, a1, a2, c_4, isC_nI hjd, cN_c hjd, hra] <;> rfl) (by repeat' (first | exact hI | refine HI_up ?_ ?_ | refine cOK_rd hw ?_ (by omega) | refine cOK_td ?_ (by omega) | exact cOK_th (by omega) | refine HI_sm hw ?_ (by omega) (by omega) | refine HI_c (st := st) ?_ (by omega)))) hH hS dX7_take_34
    · have hqa : rsRow P j = 0 := by rw [← rsA_j hja]; exact hra
      have hta : t < P.n := by have := hw.2.2.2.1 j; omega
      have hlna := hw.2.1 t
      refine W.eq (g2 := F0 m_ 18 ls (.ref (ad (30 + 2 * t)) :: [])) (by rw [hna]; rfl) ?_
      refine lv_astore (lv' := [(4, .ref (ad (30 + 2 * t))), (0, .ref (ad 0)), (1, .int (nI j)), (2, .int (i)), (3, .int (nI q))]) hx hb dX7_take_18 hl (by decide) rfl (fun ls hl => ?_)
      refine lv_aload hx hb dX7_take_20 (lv_at hl 0 rfl) ?_
      refine lv_ifnonnull (tgt := 35) hx hb dX7_take_22 (by decide) ?_
      refine lv_aload hx hb dX7_take_35 (lv_at hl 0 rfl) ?_
      refine cm_R (As := []) (rest := []) (i := 30 + 2 * t) hC (rc_isPlain (t := t) hw (by omega) (by omega)) qM_X7_132 ⟨Nat.le_of_ble_eq_true rfl, Nat.le_of_ble_eq_true rfl⟩ hK hH hS hA hl.1 ⟨Nat.zero_le _, Nat.zero_le _⟩ rfl rfl (Nat.le_of_ble_eq_true rfl) dX7_take_37 (fun H locs hH hS => ?_)
      refine lv_if_eq (tgt := 50) hx hb dX7_take_40 (by decide) (fun c_40 => ?_) (fun c_40 => ?_)
      · have c_40 := b2d_f c_40
        refine lv_aload hx hb dX7_take_50 (lv_at hl 0 rfl) ?_
        refine lv_iload_n hx hb dX7_take_52 rfl (lv_at hl 3 rfl) ?_
        refine cm_R (As := [.int (i)]) (rest := []) (i := 30 + 2 * t) hC (rc_has (t := t) hw (by omega) (by omega)) qM_X7_114 ⟨Nat.le_of_ble_eq_true rfl, Nat.le_of_ble_eq_true rfl⟩ hK hH hS hA hl.1 ⟨Nat.zero_le _, Nat.zero_le _⟩ rfl rfl (Nat.le_of_ble_eq_true rfl) dX7_take_53 (fun H locs hH hS => ?_)
        refine lv_if_ne (tgt := 65) hx hb dX7_take_56 (by decide) (fun c_56 => ?_) (fun c_56 => ?_)
        · have c_56 := b2i_t c_56
          obtain ⟨m, hk2, rfl⟩ := hasP_ex c_56
          have hqn := wh_q hw (t := t) (i := m) (by omega)
          refine lv_aload hx hb dX7_take_65 (lv_at hl 0 rfl) ?_
          refine lv_iload_n hx hb dX7_take_67 rfl (lv_at hl 3 rfl) ?_
          refine lv_aload_n hx hb dX7_take_68 rfl (lv_at hl 1 rfl) ?_
          refine g_get hC hK inG7 hH 0 (by omega) rfl (ci := 5) rfl 3 (by decide) qF_X7_26 (Or.inl rfl) rfl dX7_take_69 ?_
          refine cm_R (As := [.int (nI m), .ref (ad (4 + 24))]) (rest := []) (i := 30 + 2 * t) hC (rc_read (t := t) (i := m) (j := 24) hw (by omega) (by omega) (by omega) (by omega)) qM_X7_117 ⟨Nat.le_of_ble_eq_true rfl, Nat.le_of_ble_eq_true rfl⟩ hK hH hS hA hl.1 ⟨Nat.zero_le _, Nat.zero_le _⟩ rfl rfl (Nat.le_of_ble_eq_true rfl) dX7_take_72 (fun H locs hH hS => ?_)
          refine lv_aload_n hx hb dX7_take_75 rfl (lv_at hl 1 rfl) ?_
          refine g_get hC hK inG7 hH 0 (by omega) rfl (ci := 5) rfl 0 (by decide) qF_X7_11 (Or.inl rfl) rfl dX7_take_76 ?_
          refine lv_iload_n hx hb dX7_take_79 rfl (lv_at hl 4 rfl) ?_
          refine lv_aload_n hx hb dX7_take_80 rfl (lv_at hl 1 rfl) ?_
          refine g_get hC hK inG7 hH 0 (by omega) rfl (ci := 5) rfl 3 (by decide) qF_X7_26 (Or.inl rfl) rfl dX7_take_81 ?_
          refine hr_cg hC hK hH 24 (by omega) 3 (by decide) qF_X7_128 rfl rfl dX7_take_84 ?_
          refine W.eq (g2 := F0 m_ 87 ls (va_rf (rfO ad ((P.wh t m).toNatClampNeg)) :: .int (nI q) :: .ref (ad 1) :: [])) (by rw [va_up_self, rd_th (by omega)] <;> rfl) ?_
          refine hr_cos hC hK hw hH hS q (((P.wh t m).toNatClampNeg)) (by omega) (hqn) dX7_take_87 (fun H locs hH hS => ?_)
          refine lv_aload_n hx hb dX7_take_88 rfl (lv_at hl 1 rfl) ?_
          refine lv_aload_n hx hb dX7_take_89 rfl (lv_at hl 1 rfl) ?_
          refine g_get hC hK inG7 hH 0 (by omega) rfl (ci := 5) rfl 3 (by decide) qF_X7_26 (Or.inl rfl) rfl dX7_take_90 ?_
          refine hr_cg (P := P.setCo q (((P.wh t m).toNatClampNeg))) hC hK hH 24 (by omega) 3 (by decide) qF_X7_128 rfl rfl dX7_take_93 ?_
          refine W.eq (g2 := F0 m_ 96 ls (va_rf (rfO ad ((P.wh t m).toNatClampNeg)) :: .ref (ad 0) :: [])) (by rw [va_up_self, rd_th (by omega)] <;> rfl) ?_
          refine cm_S (As := [va_rf (rfO ad ((P.wh t m).toNatClampNeg))]) (rest := [.ref (ad 0)]) hC (c_X7_oneIfThing (P := P.setCo q (((P.wh t m).toNatClampNeg))) (q := ((P.wh t m).toNatClampNeg))) ms_X7_oneIfThing qM_X7_57 ⟨⟨rfl, rfl⟩, Nat.le_of_ble_eq_true rfl, Nat.le_of_ble_eq_true rfl⟩ hK hH hS hA hl.1 ⟨Nat.zero_le _, Nat.zero_le _⟩ rfl rfl (Nat.le_of_ble_eq_true rfl) dX7_take_96 (fun H locs hH hS => ?_)
          refine cm_V (As' := [.int ((if ((P.wh t m).toNatClampNeg) = 0 then 0 else 1))]) (rest := []) hC (c_X7_done (P := P.setCo q (((P.wh t m).toNatClampNeg)))) mv_X7_done qM_X7_50 ⟨⟨rfl, rfl⟩, Nat.le_of_ble_eq_true rfl, Nat.le_of_ble_eq_true rfl⟩ hK hH hS hA (hp.recv hK hH (i := 0) (by omega) rfl rfl) hl.1 ⟨Nat.zero_le _, Nat.zero_le _⟩ rfl rfl (Nat.le_of_ble_eq_true rfl) dX7_take_99 (fun H locs hH hS => ?_)
          exact cx_ri hC hr hlk (hpost.mk (P := P.setCo q (((P.wh t m).toNatClampNeg))) (by simp [sp_take, rf, rsPl, rsVal, c_4, isC_nI hjd, cN_c hjd, isC_nI hja, cN_c hja, hqa, h1a, c_40, c_56, cN_s (show m ≤ 24 by omega) (by decide)] <;> rfl) ((HI_n (P := P) (by repeat' (first | exact hI | refine HI_up ?_ ?_ | refine cOK_rd hw ?_ (by omega) | refine cOK_td ?_ (by omega) | exact cOK_th (by omega) | refine HI_sm hw ?_ (by omega) (by omega) | refine HI_c (st := st) ?_ (by omega))) rfl))) hH hS dX7_take_102
        · have c_56 := b2i_f c_56
          refine lv_aload_n hx hb dX7_take_59 rfl (lv_at hl 1 rfl) ?_
          refine lv_iconst (v := 4) hx hb dX7_take_60 (by decide) ?_
          refine cm_V (As' := [.int (4)]) (rest := []) hC (c_X7_refuse) mv_X7_refuse qM_X7_41 ⟨⟨rfl, rfl⟩, Nat.le_of_ble_eq_true rfl, Nat.le_of_ble_eq_true rfl⟩ hK hH hS hA (hp.recv hK hH (i := 0) (by omega) rfl rfl) hl.1 ⟨Nat.zero_le _, Nat.zero_le _⟩ rfl rfl (Nat.le_of_ble_eq_true rfl) dX7_take_61 (fun H locs hH hS => ?_)
          exact cx_ri hC hr hlk (hpost.mk (by simp [sp_take, rf, rsPl, rsVal, c_4, isC_nI hjd, cN_c hjd, isC_nI hja, cN_c hja, hqa, h1a, c_40, c_56] <;> rfl) (by repeat' (first | exact hI | refine HI_up ?_ ?_ | refine cOK_rd hw ?_ (by omega) | refine cOK_td ?_ (by omega) | exact cOK_th (by omega) | refine HI_sm hw ?_ (by omega) (by omega) | refine HI_c (st := st) ?_ (by omega)))) hH hS dX7_take_64
      · have c_40 := b2d_t c_40
        refine lv_aload_n hx hb dX7_take_43 rfl (lv_at hl 1 rfl) ?_
        refine lv_bipush (v := 6) hx hb dX7_take_44 (by decide) ?_
        refine cm_V (As' := [.int (6)]) (rest := []) hC (c_X7_refuse) mv_X7_refuse qM_X7_41 ⟨⟨rfl, rfl⟩, Nat.le_of_ble_eq_true rfl, Nat.le_of_ble_eq_true rfl⟩ hK hH hS hA (hp.recv hK hH (i := 0) (by omega) rfl rfl) hl.1 ⟨Nat.zero_le _, Nat.zero_le _⟩ rfl rfl (Nat.le_of_ble_eq_true rfl) dX7_take_46 (fun H locs hH hS => ?_)
        exact cx_ri hC hr hlk (hpost.mk (by simp [sp_take, rf, rsPl, rsVal, c_4, isC_nI hjd, cN_c hjd, isC_nI hja, cN_c hja, hqa, h1a, c_40] <;> rfl) (by repeat' (first | exact hI | refine HI_up ?_ ?_ | refine cOK_rd hw ?_ (by omega) | refine cOK_td ?_ (by omega) | exact cOK_th (by omega) | refine HI_sm hw ?_ (by omega) (by omega) | refine HI_c (st := st) ?_ (by omega)))) hH hS dX7_take_49
  · have c_4 := b2i_f c_4
    refine lv_aload_n hx hb dX7_take_7 rfl (lv_at hl 0 rfl) ?_
    refine lv_iconst (v := 1) hx hb dX7_take_8 (by decide) ?_
    refine cm_V (As' := [.int (1)]) (rest := []) hC (c_X7_refuse) mv_X7_refuse qM_X7_41 ⟨⟨rfl, rfl⟩, Nat.le_of_ble_eq_true rfl, Nat.le_of_ble_eq_true rfl⟩ hK hH hS hA (hp.recv hK hH (i := 0) (by omega) rfl rfl) hl.1 ⟨Nat.zero_le _, Nat.zero_le _⟩ rfl rfl (Nat.le_of_ble_eq_true rfl) dX7_take_9 (fun H locs hH hS => ?_)
    exact cx_ri hC hr hlk (hpost.mk (by simp [sp_take, rf, rsPl, rsVal, c_4] <;> rfl) (by repeat' (first | exact hI | refine HI_up ?_ ?_ | refine cOK_rd hw ?_ (by omega) | refine cOK_td ?_ (by omega) | exact cOK_th (by omega) | refine HI_sm hw ?_ (by omega) (by omega) | refine HI_c (st := st) ?_ (by omega)))) hH hS dX7_take_12
theorem mv_X7_sum : mvok RX7 yX7_sum cX7_sum 6 (some .long) 1 := ⟨qK_X7_sum, qI_X7_sum, qSel_X7_X7_sum, qInit_X7, by decide +kernel⟩
set_option maxHeartbeats 4000000 in
set_option maxRecDepth 100000 in
theorem c_X7_sum {l : Launch} {D : va_G} {cy : Nat → ClassId} {ad : Nat → Nat} {P : AS} {wy : Int32} {cl : Nat → CE} {st : Nat → Nat} {tg : Nat → Int32} {c : Int32} (hw : WF P) (hz : WZ P) (hI : HI P cl st) : CX l yX7_sum cX7_sum 6 (some .long) (rm_ 2 45) D cy (30 + 2 * P.n) ad [.ref (ad 0), .int (c)] (hct cy ad P wy cl st tg) (hpostL cy ad (sp_sum P c)) := by
  refine CX.startQ (by decide) (Nat.le_of_ble_eq_true rfl) ?_
  intro p_ e_ s m_ args_ below meth cd A ls Q hQ hC hr hlk hK hA hH hl
  obtain ⟨hx, hb, hml, hown, hts⟩ := id hC
  have hS : va_S A s.heap s.heap [] := va_S.rf
  have hl : lv_has ls 6 [(0, .ref (ad 0)), (1, .int (c))] := hl
  refine lv_aload_n hx hb dX7_sum_0 rfl (lv_at hl 0 rfl) ?_
  refine lv_iload_n hx hb dX7_sum_1 rfl (lv_at hl 1 rfl) ?_
  refine cm_V (As' := [.int (c)]) (rest := []) hC (c_X7_rowIn hw) mv_X7_rowIn qM_X7_61 ⟨⟨rfl, rfl⟩, Nat.le_of_ble_eq_true rfl, Nat.le_of_ble_eq_true rfl⟩ hK hH hS hA (hp.recv hK hH (i := 0) (by omega) rfl rfl) hl.1 ⟨Nat.zero_le _, Nat.zero_le _⟩ rfl rfl (Nat.le_of_ble_eq_true rfl) dX7_sum_2 (fun H locs hH hS => ?_)
  rcases rw_cases P ad c with ⟨hna, hra⟩ | ⟨j, t, hja, rfl, h1a, hka, hra, hna⟩
  · refine W.eq (g2 := F0 m_ 5 ls (.null :: [])) (by rw [hna]; rfl) ?_
    refine lv_astore_nN (lv' := [(2, .null), (0, .ref (ad 0)), (1, .int (c))]) hx hb dX7_sum_5 rfl hl (by decide) rfl (fun ls hl => ?_)
    refine lv_aload_nN hx hb dX7_sum_6 rfl (lv_at hl 0 rfl) ?_
    refine lv_ifnonnullN hx hb dX7_sum_7 ?_
    refine lv_aload_n hx hb dX7_sum_10 rfl (lv_at hl 1 rfl) ?_
    refine lv_aload_n hx hb dX7_sum_11 rfl (lv_at hl 1 rfl) ?_
    refine lv_iload_n hx hb dX7_sum_12 rfl (lv_at hl 2 rfl) ?_
    refine cm_V (As' := [.int (c)]) (rest := [.ref (ad 0)]) hC (c_X7_rowAmiss hw) mv_X7_rowAmiss qM_X7_65 ⟨⟨rfl, rfl⟩, Nat.le_of_ble_eq_true rfl, Nat.le_of_ble_eq_true rfl⟩ hK hH hS hA (hp.recv hK hH (i := 0) (by omega) rfl rfl) hl.1 ⟨Nat.zero_le _, Nat.zero_le _⟩ rfl rfl (Nat.le_of_ble_eq_true rfl) dX7_sum_13 (fun H locs hH hS => ?_)
    refine cm_V (As' := [.int (nI (rsA P c))]) (rest := []) hC (c_X7_refuse) mv_X7_refuse qM_X7_41 ⟨⟨rfl, rfl⟩, Nat.le_of_ble_eq_true rfl, Nat.le_of_ble_eq_true rfl⟩ hK hH hS hA (hp.recv hK hH (i := 0) (by omega) rfl rfl) hl.1 ⟨Nat.zero_le _, Nat.zero_le _⟩ rfl rfl (Nat.le_of_ble_eq_true rfl) dX7_sum_16 (fun H locs hH hS => ?_)
    refine lv_i2l hx hb dX7_sum_19 rfl ?_
    subst hQ
    exact cx_rl hC hr hlk (hpostL.mk (by rcases rs_n (P := P) (c := c) with ⟨a1, a2⟩ | ⟨a1, a2⟩ <;> simp [sp_sum, rf, rsPl, rsVal, a1, a2, hra] <;> rfl) (by repeat' (first | exact hI | refine HI_up ?_ ?_ | refine cOK_rd hw ?_ (by omega) | refine cOK_td ?_ (by omega) | exact cOK_th (by omega) | refine HI_sm hw ?_ (by omega) (by omega) | refine HI_c (st := st) ?_ (by omega)))) hH hS dX7_sum_20
  · have hqa : rsRow P j = 0 := by rw [← rsA_j hja]; exact hra
    have hta : t < P.n := by have := hw.2.2.2.1 j; omega
    have hlna := hw.2.1 t
    refine W.eq (g2 := F0 m_ 5 ls (.ref (ad (30 + 2 * t)) :: [])) (by rw [hna]; rfl) ?_
    refine lv_astore_n (lv' := [(2, .ref (ad (30 + 2 * t))), (0, .ref (ad 0)), (1, .int (nI j))]) hx hb dX7_sum_5 rfl hl (by decide) rfl (fun ls hl => ?_)
    refine lv_aload_n hx hb dX7_sum_6 rfl (lv_at hl 0 rfl) ?_
    refine lv_ifnonnull (tgt := 21) hx hb dX7_sum_7 (by decide) ?_
    refine lv_aload_n hx hb dX7_sum_21 rfl (lv_at hl 0 rfl) ?_
    refine hr_kd hC hK hw hH t (by omega) qF_X7_155 (Or.inr qSF_X3) dX7_sum_22 ?_
    refine lv_iconst (v := 1) hx hb dX7_sum_25 (by decide) ?_
    refine lv_icmp_lt (tgt := 37) hx hb dX7_sum_26 (by decide) (fun c_26 => ?_) (fun c_26 => ?_)
    · have c_26 := nc_lt (a := (P.kd t)) (b := 1) (by omega) (by omega) c_26
      refine lv_aload_n hx hb dX7_sum_37 rfl (lv_at hl 1 rfl) ?_
      refine lv_bipush (v := 6) hx hb dX7_sum_38 (by decide) ?_
      refine cm_V (As' := [.int (6)]) (rest := []) hC (c_X7_refuse) mv_X7_refuse qM_X7_41 ⟨⟨rfl, rfl⟩, Nat.le_of_ble_eq_true rfl, Nat.le_of_ble_eq_true rfl⟩ hK hH hS hA (hp.recv hK hH (i := 0) (by omega) rfl rfl) hl.1 ⟨Nat.zero_le _, Nat.zero_le _⟩ rfl rfl (Nat.le_of_ble_eq_true rfl) dX7_sum_40 (fun H locs hH hS => ?_)
      refine lv_i2l hx hb dX7_sum_43 rfl ?_
      subst hQ
      exact cx_rl hC hr hlk (hpostL.mk (by have h9 : ¬ (1 ≤ P.kd t ∧ P.kd t ≤ 5) := (by omega); simp [sp_sum, h9, isC_nI hja, cN_c hja, hqa, h1a] <;> rfl) (by repeat' (first | exact hI | refine HI_up ?_ ?_ | refine cOK_rd hw ?_ (by omega) | refine cOK_td ?_ (by omega) | exact cOK_th (by omega) | refine HI_sm hw ?_ (by omega) (by omega) | refine HI_c (st := st) ?_ (by omega)))) hH hS dX7_sum_44
    · have c_26 := nc_nlt (a := (P.kd t)) (b := 1) (by omega) (by omega) c_26
      refine lv_aload_n hx hb dX7_sum_29 rfl (lv_at hl 0 rfl) ?_
      refine hr_kd hC hK hw hH t (by omega) qF_X7_155 (Or.inr qSF_X3) dX7_sum_30 ?_
      refine lv_iconst (v := 5) hx hb dX7_sum_33 (by decide) ?_
      refine lv_icmp_le (tgt := 45) hx hb dX7_sum_34 (by decide) (fun c_34 => ?_) (fun c_34 => ?_)
      · have c_34 := nc_le (a := (P.kd t)) (b := 5) (by omega) (by omega) c_34
        refine lv_lconst (v := 0) hx hb dX7_sum_45 (by decide) ?_
        refine lv_lstore_n (lv' := [(3, .long (0)), (2, .ref (ad (30 + 2 * t))), (0, .ref (ad 0)), (1, .int (nI j))]) hx hb dX7_sum_46 rfl hl (by decide) rfl (fun ls hl => ?_)
        refine lv_iconst (v := 0) hx hb dX7_sum_47 (by decide) ?_
        refine lv_istore (lv' := [(5, .int (0)), (3, .long (0)), (2, .ref (ad (30 + 2 * t))), (0, .ref (ad 0)), (1, .int (nI j))]) hx hb dX7_sum_48 hl (by decide) rfl (fun ls hl => ?_)
        have lp : ∀ (n9 k : Nat), k ≤ (P.ln t) → (P.ln t) < k + n9 → ∀ (cl : Nat → CE) (hI : HI P cl st) (H : Heap) (locs : List Loc), hp D A (30 + 2 * P.n) ad (hct cy ad P wy cl st tg) H → va_S A s.heap H locs → ∀ (ls : Array Slot), lv_has ls 6 [(5, .int (nI k)), (3, .long (suW P t k)), (0, .ref (ad 0)), (1, .int (nI j)), (2, .ref (ad (30 + 2 * t)))] → W p_ l e_ (rm_ 2 45) s m_ args_ below meth cd H locs 0 0 Q (F0 m_ 50 ls []) := by
          intro n9
          induction n9 with
          | zero => intro k h1 h2; omega
          | succ n9 ih_lp =>
            intro k hk1 hk2 cl hI H locs hH hS ls hl
            refine lv_iload hx hb dX7_sum_50 (lv_at hl 0 rfl) ?_
            refine lv_aload_n hx hb dX7_sum_52 rfl (lv_at hl 4 rfl) ?_
            refine cm_R (As := []) (rest := [.int (nI k)]) (i := 30 + 2 * t) hC (rc_length (t := t) hw (by omega) (by omega)) qM_X7_68 ⟨Nat.le_of_ble_eq_true rfl, Nat.le_of_ble_eq_true rfl⟩ hK hH hS hA hl.1 ⟨Nat.zero_le _, Nat.zero_le _⟩ rfl rfl (Nat.le_of_ble_eq_true rfl) dX7_sum_53 (fun H locs hH hS => ?_)
            refine lv_icmp_ge (tgt := 85) hx hb dX7_sum_56 (by decide) (fun c_56 => ?_) (fun c_56 => ?_)
            · have c_56 := nc_le (a := (P.ln t)) (b := k) (by omega) (by omega) c_56
              refine lv_aload_n hx hb dX7_sum_85 rfl (lv_at hl 2 rfl) ?_
              refine lv_iconst (v := 0) hx hb dX7_sum_86 (by decide) ?_
              refine g_put (ct' := hct cy ad P 0 cl st tg) hC hK inG7 tyX7 tyX7_ok nmX7 hH hS 0 (by omega) rfl (ci := 5) rfl 5 (by decide) qF_X7_33 rfl rfl rfl rfl (Nat.le_of_ble_eq_true rfl) rfl hct_wy dX7_sum_87 (fun H locs hH hS => ?_)
              refine lv_lload_n hx hb dX7_sum_90 rfl (lv_at hl 1 rfl) ?_
              subst hQ
              exact cx_rl hC hr hlk (hpostL.mk (by have h9 : 1 ≤ P.kd t ∧ P.kd t ≤ 5 := (by omega); rw [show suW P t k = suW P t (P.ln t) by rw [show P.ln t = k by omega]]; simp [sp_sum, h9, isC_nI hja, cN_c hja, hqa, h1a] <;> rfl) (by repeat' (first | exact hI | refine HI_up ?_ ?_ | refine cOK_rd hw ?_ (by omega) | refine cOK_td ?_ (by omega) | exact cOK_th (by omega) | refine HI_sm hw ?_ (by omega) (by omega) | refine HI_c (st := st) ?_ (by omega)))) hH hS dX7_sum_91
            · have c_56 := nc_nle (a := (P.ln t)) (b := k) (by omega) (by omega) c_56
              refine lv_aload_n hx hb dX7_sum_59 rfl (lv_at hl 4 rfl) ?_
              refine lv_iload hx hb dX7_sum_60 (lv_at hl 0 rfl) ?_
              refine lv_aload_n hx hb dX7_sum_62 rfl (lv_at hl 2 rfl) ?_
              refine g_get hC hK inG7 hH 0 (by omega) rfl (ci := 5) rfl 3 (by decide) qF_X7_26 (Or.inl rfl) rfl dX7_sum_63 ?_
              refine cm_R (As := [.int (nI k), .ref (ad (4 + 24))]) (rest := []) (i := 30 + 2 * t) hC (rc_read (t := t) (i := k) (j := 24) hw (by omega) (by omega) (by omega) (by omega)) qM_X7_117 ⟨Nat.le_of_ble_eq_true rfl, Nat.le_of_ble_eq_true rfl⟩ hK hH hS hA hl.1 ⟨Nat.zero_le _, Nat.zero_le _⟩ rfl rfl (Nat.le_of_ble_eq_true rfl) dX7_sum_66 (fun H locs hH hS => ?_)
              refine lv_lload_n hx hb dX7_sum_69 rfl (lv_at hl 1 rfl) ?_
              refine lv_aload_n hx hb dX7_sum_70 rfl (lv_at hl 2 rfl) ?_
              refine g_get hC hK inG7 hH 0 (by omega) rfl (ci := 5) rfl 3 (by decide) qF_X7_26 (Or.inl rfl) rfl dX7_sum_71 ?_
              refine hr_cg hC hK hH 24 (by omega) 1 (by decide) qF_X7_106 rfl rfl dX7_sum_74 ?_
              refine lv_chgl (y := P.wh t k) (by rw [va_up_self, rd_w (by omega)]) ?_
              refine lv_ladd hx hb dX7_sum_77 ?_
              refine lv_lstore_n (lv' := [(3, .long ((suW P t k + P.wh t k))), (5, .int (nI k)), (0, .ref (ad 0)), (1, .int (nI j)), (2, .ref (ad (30 + 2 * t)))]) hx hb dX7_sum_78 rfl hl (by decide) rfl (fun ls hl => ?_)
              refine lv_iinc (v := nI (k + 1)) (lv' := [(5, .int (nI (k + 1))), (3, .long ((suW P t k + P.wh t k))), (0, .ref (ad 0)), (1, .int (nI j)), (2, .ref (ad (30 + 2 * t)))]) hx hb dX7_sum_79 hl (k := 1) rfl (nI_1 _) (by decide) rfl (fun ls hl => ?_)
              refine lv_goto (tgt := 50) hx hb dX7_sum_82 (by decide) ?_
              exact ih_lp (k + 1) (by omega) (by omega) _ (by repeat' (first | exact hI | refine HI_up ?_ ?_ | refine cOK_rd hw ?_ (by omega) | refine cOK_td ?_ (by omega) | exact cOK_th (by omega) | refine HI_sm hw ?_ (by omega) (by omega) | refine HI_c (st := st) ?_ (by omega))) _ _ hH hS ls (lv_sub hl [0, 1, 2, 3, 4] rfl)
        exact lp ((P.ln t) + 1) 0 (by omega) (by omega) _ (hI) _ _ hH hS ls (lv_sub hl [0, 1, 3, 4, 2] rfl)
      · have c_34 := nc_nle (a := (P.kd t)) (b := 5) (by omega) (by omega) c_34
        refine lv_aload_n hx hb dX7_sum_37 rfl (lv_at hl 1 rfl) ?_
        refine lv_bipush (v := 6) hx hb dX7_sum_38 (by decide) ?_
        refine cm_V (As' := [.int (6)]) (rest := []) hC (c_X7_refuse) mv_X7_refuse qM_X7_41 ⟨⟨rfl, rfl⟩, Nat.le_of_ble_eq_true rfl, Nat.le_of_ble_eq_true rfl⟩ hK hH hS hA (hp.recv hK hH (i := 0) (by omega) rfl rfl) hl.1 ⟨Nat.zero_le _, Nat.zero_le _⟩ rfl rfl (Nat.le_of_ble_eq_true rfl) dX7_sum_40 (fun H locs hH hS => ?_)
        refine lv_i2l hx hb dX7_sum_43 rfl ?_
        subst hQ
        exact cx_rl hC hr hlk (hpostL.mk (by have h9 : ¬ (1 ≤ P.kd t ∧ P.kd t ≤ 5) := (by omega); simp [sp_sum, h9, isC_nI hja, cN_c hja, hqa, h1a] <;> rfl) (by repeat' (first | exact hI | refine HI_up ?_ ?_ | refine cOK_rd hw ?_ (by omega) | refine cOK_td ?_ (by omega) | exact cOK_th (by omega) | refine HI_sm hw ?_ (by omega) (by omega) | refine HI_c (st := st) ?_ (by omega)))) hH hS dX7_sum_44
