theorem mv_X8_isCard : mvok RX8 yX8_isCard cX8_isCard 2 (some .boolean) 1 := ⟨qK_X8_isCard, qI_X8_isCard, qSel_X8_X8_isCard, qInit_X8, by decide +kernel⟩
set_option maxHeartbeats 4000000 in
set_option maxRecDepth 100000 in
theorem c_X8_isCard {l : Launch} {D : va_G} {cy : Nat → ClassId} {ad : Nat → Nat} {P : AS} {wy : Int32} {so : Int32} {w : Int64} {r : UInt64} {ns : Nat → Int32} {nw : Nat → Int64} {nr : Nat → UInt64} {fr : Nat → Int32} {tt : Nat → Int32} {j : Nat} (hj : j < 12) (hw : WF P) : CM l yX8_isCard cX8_isCard 2 (some .boolean) (rm_ 1 21) D cy 13 ad [.ref (ad 0), .int (nI j)] (mct cy ad P wy so w r ns nw nr fr tt) (some (.int (b2i (isCd P j)))) (mct cy ad P wy so w r ns nw nr fr tt) := by
  refine CM.start (by decide) (Nat.le_of_ble_eq_true rfl) ?_
  intro p_ e_ s m_ below meth cd A ls hC hr hlk hin hK hA hH hl
  obtain ⟨hx, hb, hml, hown, hts⟩ := id hC
  have hS : va_S A s.heap s.heap [] := va_S.rf
  have hl : lv_has ls 2 [(0, .ref (ad 0)), (1, .int (nI j))] := hl
  rcases co_cases (P.co j) with h0j | ⟨t, h1j⟩
  · refine lv_aload_n hx hb dX8_isCard_0 rfl (lv_at hl 0 rfl) ?_
    refine lv_iload_n hx hb dX8_isCard_1 rfl (lv_at hl 1 rfl) ?_
    refine cm_V (As' := [.int (nI j)]) (rest := []) hC (c_X8_in0 hj h0j) mv_X8_in qM_X8_56 ⟨⟨rfl, rfl⟩, Nat.le_of_ble_eq_true rfl, Nat.le_of_ble_eq_true rfl⟩ hK hH hS hA (hp.recv hK hH (i := 0) (by decide) rfl rfl) hl.1 ⟨Nat.zero_le _, Nat.zero_le _⟩ rfl rfl (Nat.le_of_ble_eq_true rfl) dX8_isCard_2 (fun H locs hH hS => ?_)
    refine lv_if_lt (tgt := 24) hx hb dX8_isCard_5 (by decide) (fun c_5 => ?_) (fun c_5 => absurd c_5 (by decide))
    refine lv_iconst (v := 0) hx hb dX8_isCard_24 (by decide) ?_
    exact cm_rz hC hr hlk (by first | exact Or.inl rfl | exact Or.inr rfl | exact b2i_01 _) (by first | (rw [isCd_0 h0j]; rfl) | (rw [isCd_t h1j (by omega)]; rfl) | (rw [isCd_r h1j (by omega)]; rfl)) (rfl) hH hS dX8_isCard_25
  · refine lv_aload_n hx hb dX8_isCard_0 rfl (lv_at hl 0 rfl) ?_
    refine lv_iload_n hx hb dX8_isCard_1 rfl (lv_at hl 1 rfl) ?_
    have htt : t < 513 := by have := hw.2.2.2.1 j; have := hw.2.2.1; omega
    refine cm_V (As' := [.int (nI j)]) (rest := []) hC (c_X8_in1 hj h1j) mv_X8_in qM_X8_56 ⟨⟨rfl, rfl⟩, Nat.le_of_ble_eq_true rfl, Nat.le_of_ble_eq_true rfl⟩ hK hH hS hA (hp.recv hK hH (i := 0) (by decide) rfl rfl) hl.1 ⟨Nat.zero_le _, Nat.zero_le _⟩ rfl rfl (Nat.le_of_ble_eq_true rfl) dX8_isCard_2 (fun H locs hH hS => ?_)
    refine lv_if_lt (tgt := 24) hx hb dX8_isCard_5 (by decide) (fun c_5 => absurd c_5 (nI_pos (by omega))) (fun c_5 => ?_)
    refine lv_aload_n hx hb dX8_isCard_8 rfl (lv_at hl 0 rfl) ?_
    refine lv_aload_n hx hb dX8_isCard_9 rfl (lv_at hl 0 rfl) ?_
    refine lv_iload_n hx hb dX8_isCard_10 rfl (lv_at hl 1 rfl) ?_
    refine cm_V (As' := [.int (nI j)]) (rest := [.ref (ad 0)]) hC (c_X8_in1 hj h1j) mv_X8_in qM_X8_56 ⟨⟨rfl, rfl⟩, Nat.le_of_ble_eq_true rfl, Nat.le_of_ble_eq_true rfl⟩ hK hH hS hA (hp.recv hK hH (i := 0) (by decide) rfl rfl) hl.1 ⟨Nat.zero_le _, Nat.zero_le _⟩ rfl rfl (Nat.le_of_ble_eq_true rfl) dX8_isCard_11 (fun H locs hH hS => ?_)
    refine cm_V (As' := [.int (nI t)]) (rest := []) hC (c_X8_isRow (by omega) hw) mv_X8_isRow qM_X8_60 ⟨⟨rfl, rfl⟩, Nat.le_of_ble_eq_true rfl, Nat.le_of_ble_eq_true rfl⟩ hK hH hS hA (hp.recv hK hH (i := 0) (by decide) rfl rfl) hl.1 ⟨Nat.zero_le _, Nat.zero_le _⟩ rfl rfl (Nat.le_of_ble_eq_true rfl) dX8_isCard_14 (fun H locs hH hS => ?_)
    refine lv_if_ne (tgt := 24) hx hb dX8_isCard_17 (by decide) (fun c_17 => ?_) (fun c_17 => ?_)
    · have c_17 := b2d_t c_17
      refine lv_iconst (v := 0) hx hb dX8_isCard_24 (by decide) ?_
      exact cm_rz hC hr hlk (by first | exact Or.inl rfl | exact Or.inr rfl | exact b2i_01 _) (by first | (rw [isCd_0 h0j]; rfl) | (rw [isCd_t h1j (by omega)]; rfl) | (rw [isCd_r h1j (by omega)]; rfl)) (rfl) hH hS dX8_isCard_25
    · have c_17 := b2d_f c_17
      refine lv_iconst (v := 1) hx hb dX8_isCard_20 (by decide) ?_
      refine lv_goto (tgt := 25) hx hb dX8_isCard_21 (by decide) ?_
      exact cm_rz hC hr hlk (by first | exact Or.inl rfl | exact Or.inr rfl | exact b2i_01 _) (by first | (rw [isCd_0 h0j]; rfl) | (rw [isCd_t h1j (by omega)]; rfl) | (rw [isCd_r h1j (by omega)]; rfl)) (rfl) hH hS dX8_isCard_25
theorem mv_X8_reasonOfPlace : mvok RX8 yX8_reasonOfPlace cX8_reasonOfPlace 4 (some .int) 2 := ⟨qK_X8_reasonOfPlace, qI_X8_reasonOfPlace, qSel_X8_X8_reasonOfPlace, qInit_X8, by decide +kernel⟩
set_option maxHeartbeats 4000000 in
set_option maxRecDepth 100000 in
theorem c_X8_reasonOfPlace {l : Launch} {D : va_G} {cy : Nat → ClassId} {ad : Nat → Nat} {P : AS} {wy : Int32} {so : Int32} {w : Int64} {r : UInt64} {ns : Nat → Int32} {nw : Nat → Int64} {nr : Nat → UInt64} {fr : Nat → Int32} {tt : Nat → Int32} {j : Nat} {i : Int32} (hj : j < 12) (hw : WF P) : CM l yX8_reasonOfPlace cX8_reasonOfPlace 4 (some .int) (rm_ 2 42) D cy 13 ad [.ref (ad 0), .int (nI j), .int (i)] (mct cy ad P wy so w r ns nw nr fr tt) (some (.int (nI (rsPl P j i)))) (mct cy ad P wy so w r ns nw nr fr tt) := by
  refine CM.start (by decide) (Nat.le_of_ble_eq_true rfl) ?_
  intro p_ e_ s m_ below meth cd A ls hC hr hlk hin hK hA hH hl
  obtain ⟨hx, hb, hml, hown, hts⟩ := id hC
  have hS : va_S A s.heap s.heap [] := va_S.rf
  have hl : lv_has ls 4 [(0, .ref (ad 0)), (1, .int (nI j)), (2, .int (i))] := hl
  refine lv_aload_n hx hb dX8_reasonOfPlace_0 rfl (lv_at hl 0 rfl) ?_
  refine lv_iload_n hx hb dX8_reasonOfPlace_1 rfl (lv_at hl 1 rfl) ?_
  refine cm_V (As' := [.int (nI j)]) (rest := []) hC (c_X8_reasonOfRow hj hw) mv_X8_reasonOfRow qM_X8_111 ⟨⟨rfl, rfl⟩, Nat.le_of_ble_eq_true rfl, Nat.le_of_ble_eq_true rfl⟩ hK hH hS hA (hp.recv hK hH (i := 0) (by decide) rfl rfl) hl.1 ⟨Nat.zero_le _, Nat.zero_le _⟩ rfl rfl (Nat.le_of_ble_eq_true rfl) dX8_reasonOfPlace_2 (fun H locs hH hS => ?_)
  refine lv_istore_n (lv' := [(3, .int (nI (rsRow P j))), (0, .ref (ad 0)), (1, .int (nI j)), (2, .int (i))]) hx hb dX8_reasonOfPlace_5 rfl hl (by decide) rfl (fun ls hl => ?_)
  have hb1 := rsRow_le P j
  refine lv_iload_n hx hb dX8_reasonOfPlace_6 rfl (lv_at hl 0 rfl) ?_
  refine lv_if_le (tgt := 12) hx hb dX8_reasonOfPlace_7 (by decide) (fun c_7 => ?_) (fun c_7 => ?_)
  · have c_7 : (rsRow P j) = 0 := by have h9 := nc_le (a := (rsRow P j)) (b := 0) (by omega) (by omega) c_7; omega
    obtain ⟨t, h1j, hkt⟩ := rsRow_0 c_7
    have htt : t < 513 := by have := hw.2.2.2.1 j; have := hw.2.2.1; omega
    refine lv_aload_n hx hb dX8_reasonOfPlace_12 rfl (lv_at hl 1 rfl) ?_
    refine lv_aload_n hx hb dX8_reasonOfPlace_13 rfl (lv_at hl 1 rfl) ?_
    refine lv_iload_n hx hb dX8_reasonOfPlace_14 rfl (lv_at hl 2 rfl) ?_
    refine cm_V (As' := [.int (nI j)]) (rest := [.ref (ad 0)]) hC (c_X8_in1 hj h1j) mv_X8_in qM_X8_56 ⟨⟨rfl, rfl⟩, Nat.le_of_ble_eq_true rfl, Nat.le_of_ble_eq_true rfl⟩ hK hH hS hA (hp.recv hK hH (i := 0) (by decide) rfl rfl) hl.1 ⟨Nat.zero_le _, Nat.zero_le _⟩ rfl rfl (Nat.le_of_ble_eq_true rfl) dX8_reasonOfPlace_15 (fun H locs hH hS => ?_)
    refine lv_iload_n hx hb dX8_reasonOfPlace_18 rfl (lv_at hl 3 rfl) ?_
    refine cm_V (As' := [.int (nI t), .int (i)]) (rest := []) hC (c_X8_hasPlace (by omega) hw) mv_X8_hasPlace qM_X8_117 ⟨⟨rfl, rfl⟩, Nat.le_of_ble_eq_true rfl, Nat.le_of_ble_eq_true rfl⟩ hK hH hS hA (hp.recv hK hH (i := 0) (by decide) rfl rfl) hl.1 ⟨Nat.zero_le _, Nat.zero_le _⟩ rfl rfl (Nat.le_of_ble_eq_true rfl) dX8_reasonOfPlace_19 (fun H locs hH hS => ?_)
    refine lv_if_eq (tgt := 29) hx hb dX8_reasonOfPlace_22 (by decide) (fun c_22 => ?_) (fun c_22 => ?_)
    · have c_22 := b2i_f c_22
      refine lv_iconst (v := 4) hx hb dX8_reasonOfPlace_29 (by decide) ?_
      exact cm_ri hC hr hlk (by simp [rsPl, c_7, h1j, c_22] <;> rfl) (rfl) hH hS dX8_reasonOfPlace_30
    · have c_22 := b2i_t c_22
      refine lv_iconst (v := 0) hx hb dX8_reasonOfPlace_25 (by decide) ?_
      refine lv_goto (tgt := 30) hx hb dX8_reasonOfPlace_26 (by decide) ?_
      exact cm_ri hC hr hlk (by simp [rsPl, c_7, h1j, c_22] <;> rfl) (rfl) hH hS dX8_reasonOfPlace_30
  · have c_7 : ¬ (rsRow P j) = 0 := by have h9 := nc_nle (a := (rsRow P j)) (b := 0) (by omega) (by omega) c_7; omega
    refine lv_iload_n hx hb dX8_reasonOfPlace_10 rfl (lv_at hl 0 rfl) ?_
    exact cm_ri hC hr hlk (by simp [rsPl, c_7] <;> rfl) (rfl) hH hS dX8_reasonOfPlace_11
theorem mv_X8_make : mvok RX8 yX8_make cX8_make 4 (some .int) 3 := ⟨qK_X8_make, qI_X8_make, qSel_X8_X8_make, qInit_X8, by decide +kernel⟩
set_option maxHeartbeats 4000000 in
set_option maxRecDepth 100000 in
theorem c_X8_make {l : Launch} {D : va_G} {cy : Nat → ClassId} {ad : Nat → Nat} {P : AS} {wy : Int32} {so : Int32} {w : Int64} {r : UInt64} {ns : Nat → Int32} {nw : Nat → Int64} {nr : Nat → UInt64} {fr : Nat → Int32} {tt : Nat → Int32} {c k n : Int32} (hw : WF P) (hn : P.n < 513) : CX l yX8_make cX8_make 4 (some .int) (rm_ 2 42) D cy 13 ad [.ref (ad 0), .int (c), .int (k), .int (n)] (mct cy ad P wy so w r ns nw nr fr tt) (mpost cy ad (sp_make P c k n)) := by
  refine CX.start (by decide) (Nat.le_of_ble_eq_true rfl) ?_
  intro p_ e_ s m_ below meth cd A ls hC hr hlk hin hK hA hH hl
  obtain ⟨hx, hb, hml, hown, hts⟩ := id hC
  have hS : va_S A s.heap s.heap [] := va_S.rf
  have hl : lv_has ls 4 [(0, .ref (ad 0)), (1, .int (c)), (2, .int (k)), (3, .int (n))] := hl
  refine lv_aload_n hx hb dX8_make_0 rfl (lv_at hl 0 rfl) ?_
  refine lv_iconst (v := 0) hx hb dX8_make_1 (by decide) ?_
  refine g_put (ct' := mct cy ad P 0 so w r ns nw nr fr tt) hC hK inG8 tyX8 tyX8_ok nmX8 hH hS 0 (by decide) rfl rfl 8 (by decide) qF_X8_48 rfl rfl rfl rfl (Nat.le_of_ble_eq_true rfl) rfl mct_0 dX8_make_2 (fun H locs hH hS => ?_)
  refine lv_iload_n hx hb dX8_make_5 rfl (lv_at hl 1 rfl) ?_
  refine cm_S (As := [.int (c)]) (rest := []) hC (c_X8_isColumn) ms_X8_isColumn qM_X8_102 ⟨⟨rfl, rfl⟩, Nat.le_of_ble_eq_true rfl, Nat.le_of_ble_eq_true rfl⟩ hK hH hS hA hl.1 ⟨Nat.zero_le _, Nat.zero_le _⟩ rfl rfl (Nat.le_of_ble_eq_true rfl) dX8_make_6 (fun H locs hH hS => ?_)
  refine lv_if_eq (tgt := 38) hx hb dX8_make_9 (by decide) (fun c_9 => ?_) (fun c_9 => ?_)
  · have c_9 := b2i_f c_9
    refine lv_aload_n hx hb dX8_make_38 rfl (lv_at hl 0 rfl) ?_
    refine lv_iconst (v := 1) hx hb dX8_make_39 (by decide) ?_
    refine cm_V (As' := [.int (1)]) (rest := []) hC (c_X8_refuse) mv_X8_refuse qM_X8_105 ⟨⟨rfl, rfl⟩, Nat.le_of_ble_eq_true rfl, Nat.le_of_ble_eq_true rfl⟩ hK hH hS hA (hp.recv hK hH (i := 0) (by decide) rfl rfl) hl.1 ⟨Nat.zero_le _, Nat.zero_le _⟩ rfl rfl (Nat.le_of_ble_eq_true rfl) dX8_make_40 (fun H locs hH hS => ?_)
    exact cx_ri hC hr hlk (mpost.mk (by simp [sp_make, rf, c_9] <;> rfl)) hH hS dX8_make_43
  · have c_9 := b2i_t c_9
    obtain ⟨j, hj, rfl⟩ := isC_ex c_9
    refine lv_iload_n hx hb dX8_make_12 rfl (lv_at hl 2 rfl) ?_
    refine lv_iconst (v := 0) hx hb dX8_make_13 (by decide) ?_
    refine lv_bipush (v := 14) hx hb dX8_make_14 (by decide) ?_
    refine cm_S (As := [.int (k), .int (0), .int (14)]) (rest := []) hC (c_X8_isIn) ms_X8_isIn qM_X8_52 ⟨⟨rfl, rfl⟩, Nat.le_of_ble_eq_true rfl, Nat.le_of_ble_eq_true rfl⟩ hK hH hS hA hl.1 ⟨Nat.zero_le _, Nat.zero_le _⟩ rfl rfl (Nat.le_of_ble_eq_true rfl) dX8_make_16 (fun H locs hH hS => ?_)
    refine lv_if_eq (tgt := 38) hx hb dX8_make_19 (by decide) (fun c_19 => ?_) (fun c_19 => ?_)
    · have c_19 := b2i_f c_19
      refine lv_aload_n hx hb dX8_make_38 rfl (lv_at hl 0 rfl) ?_
      refine lv_iconst (v := 1) hx hb dX8_make_39 (by decide) ?_
      refine cm_V (As' := [.int (1)]) (rest := []) hC (c_X8_refuse) mv_X8_refuse qM_X8_105 ⟨⟨rfl, rfl⟩, Nat.le_of_ble_eq_true rfl, Nat.le_of_ble_eq_true rfl⟩ hK hH hS hA (hp.recv hK hH (i := 0) (by decide) rfl rfl) hl.1 ⟨Nat.zero_le _, Nat.zero_le _⟩ rfl rfl (Nat.le_of_ble_eq_true rfl) dX8_make_40 (fun H locs hH hS => ?_)
      exact cx_ri hC hr hlk (mpost.mk (by simp [sp_make, rf, c_9, cN_c hj, c_19] <;> rfl)) hH hS dX8_make_43
    · have c_19 := b2i_t c_19
      obtain ⟨q, hq, rfl⟩ := inR_ex (n := 14) (by decide) c_19
      refine lv_iload_n hx hb dX8_make_22 rfl (lv_at hl 2 rfl) ?_
      refine lv_bipush (v := 12) hx hb dX8_make_23 (by decide) ?_
      refine lv_icmp_ge (tgt := 44) hx hb dX8_make_25 (by decide) (fun c_25 => ?_) (fun c_25 => ?_)
      · have c_25 := nc_le (a := 12) (b := q) (by omega) (by omega) c_25
        refine lv_aload_n hx hb dX8_make_44 rfl (lv_at hl 0 rfl) ?_
        refine g_get hC hK inG8 hH 0 (by decide) rfl rfl 1 (by decide) qF_X8_13 (Or.inl rfl) rfl dX8_make_45 ?_
        refine lv_aload_n hx hb dX8_make_48 rfl (lv_at hl 0 rfl) ?_
        refine g_get hC hK inG8 hH 0 (by decide) rfl rfl 6 (by decide) qF_X8_108 (Or.inl rfl) rfl dX8_make_49 ?_
        refine lv_iload_n hx hb dX8_make_52 rfl (lv_at hl 2 rfl) ?_
        refine mr_kds hC hK hH hS (P.n) q (by omega) dX8_make_53 (fun H locs hH hS => ?_)
        refine lv_aload_n hx hb dX8_make_54 rfl (lv_at hl 0 rfl) ?_
        refine g_get hC hK inG8 hH 0 (by decide) rfl rfl 2 (by decide) qF_X8_16 (Or.inl rfl) rfl dX8_make_55 ?_
        refine lv_aload_n hx hb dX8_make_58 rfl (lv_at hl 0 rfl) ?_
        refine g_get hC hK inG8 hH 0 (by decide) rfl rfl 6 (by decide) qF_X8_108 (Or.inl rfl) rfl dX8_make_59 ?_
        refine lv_iload_n hx hb dX8_make_62 rfl (lv_at hl 2 rfl) ?_
        refine lv_bipush (v := 12) hx hb dX8_make_63 (by decide) ?_
        refine lv_icmp_ge (tgt := 72) hx hb dX8_make_65 (by decide) (fun c_65 => ?_) (fun c_65 => absurd (nI_le c_25 (by omega)) c_65)
        refine lv_iconst (v := 0) hx hb dX8_make_72 (by decide) ?_
        refine mr_lns hC hK hH hS ((P.setKd (P.n) q).n) 0 (by omega) dX8_make_73 (fun H locs hH hS => ?_)
        refine lv_aload_n hx hb dX8_make_74 rfl (lv_at hl 0 rfl) ?_
        refine g_get hC hK inG8 hH 0 (by decide) rfl rfl 3 (by decide) qF_X8_19 (Or.inl rfl) rfl dX8_make_75 ?_
        refine lv_aload_n hx hb dX8_make_78 rfl (lv_at hl 0 rfl) ?_
        refine g_get hC hK inG8 hH 0 (by decide) rfl rfl 6 (by decide) qF_X8_108 (Or.inl rfl) rfl dX8_make_79 ?_
        refine lv_iload_n hx hb dX8_make_82 rfl (lv_at hl 3 rfl) ?_
        refine mr_tgs hC hK hH hS (((P.setKd (P.n) q).setLn ((P.setKd (P.n) q).n) 0).n) (n) (by omega) dX8_make_83 (fun H locs hH hS => ?_)
        refine lv_aload_n hx hb dX8_make_84 rfl (lv_at hl 0 rfl) ?_
        refine lv_dup hx hb dX8_make_85 rfl ?_
        refine g_get hC hK inG8 hH 0 (by decide) rfl rfl 6 (by decide) qF_X8_108 (Or.inl rfl) rfl dX8_make_86 ?_
        refine lv_iconst (v := 1) hx hb dX8_make_89 (by decide) ?_
        refine lv_iadd hx hb dX8_make_90 ?_
        refine lv_chg (nI_1 _) ?_
        refine g_put (ct' := mct cy ad ((((P.setKd (P.n) q).setLn ((P.setKd (P.n) q).n) 0).setTg (((P.setKd (P.n) q).setLn ((P.setKd (P.n) q).n) 0).n) (n)).setN ((((P.setKd (P.n) q).setLn ((P.setKd (P.n) q).n) 0).setTg (((P.setKd (P.n) q).setLn ((P.setKd (P.n) q).n) 0).n) (n)).n + 1)) 0 so w r ns nw nr fr tt) hC hK inG8 tyX8 tyX8_ok nmX8 hH hS 0 (by decide) rfl rfl 6 (by decide) qF_X8_108 rfl rfl rfl rfl (Nat.le_of_ble_eq_true rfl) rfl mct_n dX8_make_91 (fun H locs hH hS => ?_)
        refine lv_aload_n hx hb dX8_make_94 rfl (lv_at hl 0 rfl) ?_
        refine g_get hC hK inG8 hH 0 (by decide) rfl rfl 7 (by decide) qF_X8_30 (Or.inl rfl) rfl dX8_make_95 ?_
        refine lv_iload_n hx hb dX8_make_98 rfl (lv_at hl 1 rfl) ?_
        refine lv_aload_n hx hb dX8_make_99 rfl (lv_at hl 0 rfl) ?_
        refine g_get hC hK inG8 hH 0 (by decide) rfl rfl 6 (by decide) qF_X8_108 (Or.inl rfl) rfl dX8_make_100 ?_
        refine mr_cos hC hK hH hS j (((((P.setKd (P.n) q).setLn ((P.setKd (P.n) q).n) 0).setTg (((P.setKd (P.n) q).setLn ((P.setKd (P.n) q).n) 0).n) (n)).setN ((((P.setKd (P.n) q).setLn ((P.setKd (P.n) q).n) 0).setTg (((P.setKd (P.n) q).setLn ((P.setKd (P.n) q).n) 0).n) (n)).n + 1)).n) (by omega) dX8_make_103 (fun H locs hH hS => ?_)
        refine lv_iconst (v := 1) hx hb dX8_make_104 (by decide) ?_
        exact cx_ri hC hr hlk (mpost.mk (by rw [sp_make, if_pos ⟨c_9, c_19, Or.inl (by rw [cN_s hq (by decide)]; omega)⟩, cN_c hj, cN_s hq (by decide), if_neg (by omega)]; rfl)) hH hS dX8_make_105
      · have c_25 := nc_nle (a := 12) (b := q) (by omega) (by omega) c_25
        refine lv_iload_n hx hb dX8_make_28 rfl (lv_at hl 3 rfl) ?_
        refine lv_iconst (v := 0) hx hb dX8_make_29 (by decide) ?_
        refine lv_bipush (v := 24) hx hb dX8_make_30 (by decide) ?_
        refine cm_S (As := [.int (n), .int (0), .int (24)]) (rest := []) hC (c_X8_isIn) ms_X8_isIn qM_X8_52 ⟨⟨rfl, rfl⟩, Nat.le_of_ble_eq_true rfl, Nat.le_of_ble_eq_true rfl⟩ hK hH hS hA hl.1 ⟨Nat.zero_le _, Nat.zero_le _⟩ rfl rfl (Nat.le_of_ble_eq_true rfl) dX8_make_32 (fun H locs hH hS => ?_)
        refine lv_if_ne (tgt := 44) hx hb dX8_make_35 (by decide) (fun c_35 => ?_) (fun c_35 => ?_)
        · have c_35 := b2i_t c_35
          obtain ⟨x, hx9, rfl⟩ := inR_ex (n := 24) (by decide) c_35
          refine lv_aload_n hx hb dX8_make_44 rfl (lv_at hl 0 rfl) ?_
          refine g_get hC hK inG8 hH 0 (by decide) rfl rfl 1 (by decide) qF_X8_13 (Or.inl rfl) rfl dX8_make_45 ?_
          refine lv_aload_n hx hb dX8_make_48 rfl (lv_at hl 0 rfl) ?_
          refine g_get hC hK inG8 hH 0 (by decide) rfl rfl 6 (by decide) qF_X8_108 (Or.inl rfl) rfl dX8_make_49 ?_
          refine lv_iload_n hx hb dX8_make_52 rfl (lv_at hl 2 rfl) ?_
          refine mr_kds hC hK hH hS (P.n) q (by omega) dX8_make_53 (fun H locs hH hS => ?_)
          refine lv_aload_n hx hb dX8_make_54 rfl (lv_at hl 0 rfl) ?_
          refine g_get hC hK inG8 hH 0 (by decide) rfl rfl 2 (by decide) qF_X8_16 (Or.inl rfl) rfl dX8_make_55 ?_
          refine lv_aload_n hx hb dX8_make_58 rfl (lv_at hl 0 rfl) ?_
          refine g_get hC hK inG8 hH 0 (by decide) rfl rfl 6 (by decide) qF_X8_108 (Or.inl rfl) rfl dX8_make_59 ?_
          refine lv_iload_n hx hb dX8_make_62 rfl (lv_at hl 2 rfl) ?_
          refine lv_bipush (v := 12) hx hb dX8_make_63 (by decide) ?_
          refine lv_icmp_ge (tgt := 72) hx hb dX8_make_65 (by decide) (fun c_65 => absurd (nc_le (a := 12) (b := q) (by omega) (by omega) c_65) (by omega)) (fun c_65 => ?_)
          refine lv_iload_n hx hb dX8_make_68 rfl (lv_at hl 3 rfl) ?_
          refine lv_goto (tgt := 73) hx hb dX8_make_69 (by decide) ?_
          refine mr_lns hC hK hH hS ((P.setKd (P.n) q).n) x (by omega) dX8_make_73 (fun H locs hH hS => ?_)
          refine lv_aload_n hx hb dX8_make_74 rfl (lv_at hl 0 rfl) ?_
          refine g_get hC hK inG8 hH 0 (by decide) rfl rfl 3 (by decide) qF_X8_19 (Or.inl rfl) rfl dX8_make_75 ?_
          refine lv_aload_n hx hb dX8_make_78 rfl (lv_at hl 0 rfl) ?_
          refine g_get hC hK inG8 hH 0 (by decide) rfl rfl 6 (by decide) qF_X8_108 (Or.inl rfl) rfl dX8_make_79 ?_
          refine lv_iload_n hx hb dX8_make_82 rfl (lv_at hl 3 rfl) ?_
          refine mr_tgs hC hK hH hS (((P.setKd (P.n) q).setLn ((P.setKd (P.n) q).n) x).n) (nI x) (by omega) dX8_make_83 (fun H locs hH hS => ?_)
          refine lv_aload_n hx hb dX8_make_84 rfl (lv_at hl 0 rfl) ?_
          refine lv_dup hx hb dX8_make_85 rfl ?_
          refine g_get hC hK inG8 hH 0 (by decide) rfl rfl 6 (by decide) qF_X8_108 (Or.inl rfl) rfl dX8_make_86 ?_
          refine lv_iconst (v := 1) hx hb dX8_make_89 (by decide) ?_
          refine lv_iadd hx hb dX8_make_90 ?_
          refine lv_chg (nI_1 _) ?_
          refine g_put (ct' := mct cy ad ((((P.setKd (P.n) q).setLn ((P.setKd (P.n) q).n) x).setTg (((P.setKd (P.n) q).setLn ((P.setKd (P.n) q).n) x).n) (nI x)).setN ((((P.setKd (P.n) q).setLn ((P.setKd (P.n) q).n) x).setTg (((P.setKd (P.n) q).setLn ((P.setKd (P.n) q).n) x).n) (nI x)).n + 1)) 0 so w r ns nw nr fr tt) hC hK inG8 tyX8 tyX8_ok nmX8 hH hS 0 (by decide) rfl rfl 6 (by decide) qF_X8_108 rfl rfl rfl rfl (Nat.le_of_ble_eq_true rfl) rfl mct_n dX8_make_91 (fun H locs hH hS => ?_)
          refine lv_aload_n hx hb dX8_make_94 rfl (lv_at hl 0 rfl) ?_
          refine g_get hC hK inG8 hH 0 (by decide) rfl rfl 7 (by decide) qF_X8_30 (Or.inl rfl) rfl dX8_make_95 ?_
          refine lv_iload_n hx hb dX8_make_98 rfl (lv_at hl 1 rfl) ?_
          refine lv_aload_n hx hb dX8_make_99 rfl (lv_at hl 0 rfl) ?_
          refine g_get hC hK inG8 hH 0 (by decide) rfl rfl 6 (by decide) qF_X8_108 (Or.inl rfl) rfl dX8_make_100 ?_
          refine mr_cos hC hK hH hS j (((((P.setKd (P.n) q).setLn ((P.setKd (P.n) q).n) x).setTg (((P.setKd (P.n) q).setLn ((P.setKd (P.n) q).n) x).n) (nI x)).setN ((((P.setKd (P.n) q).setLn ((P.setKd (P.n) q).n) x).setTg (((P.setKd (P.n) q).setLn ((P.setKd (P.n) q).n) x).n) (nI x)).n + 1)).n) (by omega) dX8_make_103 (fun H locs hH hS => ?_)
          refine lv_iconst (v := 1) hx hb dX8_make_104 (by decide) ?_
          exact cx_ri hC hr hlk (mpost.mk (by rw [sp_make, if_pos ⟨c_9, c_19, Or.inr c_35⟩, cN_c hj, cN_s hq (by decide), cN_s hx9 (by decide), if_pos (by omega)]; rfl)) hH hS dX8_make_105
        · have c_35 := b2i_f c_35
          refine lv_aload_n hx hb dX8_make_38 rfl (lv_at hl 0 rfl) ?_
          refine lv_iconst (v := 1) hx hb dX8_make_39 (by decide) ?_
          refine cm_V (As' := [.int (1)]) (rest := []) hC (c_X8_refuse) mv_X8_refuse qM_X8_105 ⟨⟨rfl, rfl⟩, Nat.le_of_ble_eq_true rfl, Nat.le_of_ble_eq_true rfl⟩ hK hH hS hA (hp.recv hK hH (i := 0) (by decide) rfl rfl) hl.1 ⟨Nat.zero_le _, Nat.zero_le _⟩ rfl rfl (Nat.le_of_ble_eq_true rfl) dX8_make_40 (fun H locs hH hS => ?_)
          exact cx_ri hC hr hlk (mpost.mk (by simp [sp_make, rf, c_9, cN_c hj, c_19, cN_s hq (by decide), c_25, c_35, show ¬ 12 ≤ q by omega] <;> rfl)) hH hS dX8_make_43
theorem mv_X8_lay : mvok RX8 yX8_lay cX8_lay 3 (some .int) 2 := ⟨qK_X8_lay, qI_X8_lay, qSel_X8_X8_lay, qInit_X8, by decide +kernel⟩
set_option maxHeartbeats 4000000 in
set_option maxRecDepth 100000 in
theorem c_X8_lay {l : Launch} {D : va_G} {cy : Nat → ClassId} {ad : Nat → Nat} {P : AS} {wy : Int32} {so : Int32} {w : Int64} {r : UInt64} {ns : Nat → Int32} {nw : Nat → Int64} {nr : Nat → UInt64} {fr : Nat → Int32} {tt : Nat → Int32} {c d : Int32} (hw : WF P)  : CX l yX8_lay cX8_lay 3 (some .int) (rm_ 2 42) D cy 13 ad [.ref (ad 0), .int (c), .int (d)] (mct cy ad P wy so w r ns nw nr fr tt) (mpost cy ad (sp_lay P c d)) := by
  refine CX.start (by decide) (Nat.le_of_ble_eq_true rfl) ?_
  intro p_ e_ s m_ below meth cd A ls hC hr hlk hin hK hA hH hl
  obtain ⟨hx, hb, hml, hown, hts⟩ := id hC
  have hS : va_S A s.heap s.heap [] := va_S.rf
  have hl : lv_has ls 3 [(0, .ref (ad 0)), (1, .int (c)), (2, .int (d))] := hl
  refine lv_aload_n hx hb dX8_lay_0 rfl (lv_at hl 0 rfl) ?_
  refine lv_iconst (v := 0) hx hb dX8_lay_1 (by decide) ?_
  refine g_put (ct' := mct cy ad P 0 so w r ns nw nr fr tt) hC hK inG8 tyX8 tyX8_ok nmX8 hH hS 0 (by decide) rfl rfl 8 (by decide) qF_X8_48 rfl rfl rfl rfl (Nat.le_of_ble_eq_true rfl) rfl mct_0 dX8_lay_2 (fun H locs hH hS => ?_)
  refine lv_iload_n hx hb dX8_lay_5 rfl (lv_at hl 1 rfl) ?_
  refine cm_S (As := [.int (c)]) (rest := []) hC (c_X8_isColumn) ms_X8_isColumn qM_X8_102 ⟨⟨rfl, rfl⟩, Nat.le_of_ble_eq_true rfl, Nat.le_of_ble_eq_true rfl⟩ hK hH hS hA hl.1 ⟨Nat.zero_le _, Nat.zero_le _⟩ rfl rfl (Nat.le_of_ble_eq_true rfl) dX8_lay_6 (fun H locs hH hS => ?_)
  refine lv_if_eq (tgt := 19) hx hb dX8_lay_9 (by decide) (fun c_9 => ?_) (fun c_9 => ?_)
  · have c_9 := b2i_f c_9
    refine lv_aload_n hx hb dX8_lay_19 rfl (lv_at hl 0 rfl) ?_
    refine lv_iconst (v := 1) hx hb dX8_lay_20 (by decide) ?_
    refine cm_V (As' := [.int (1)]) (rest := []) hC (c_X8_refuse) mv_X8_refuse qM_X8_105 ⟨⟨rfl, rfl⟩, Nat.le_of_ble_eq_true rfl, Nat.le_of_ble_eq_true rfl⟩ hK hH hS hA (hp.recv hK hH (i := 0) (by decide) rfl rfl) hl.1 ⟨Nat.zero_le _, Nat.zero_le _⟩ rfl rfl (Nat.le_of_ble_eq_true rfl) dX8_lay_21 (fun H locs hH hS => ?_)
    exact cx_ri hC hr hlk (mpost.mk (by simp [sp_lay, rf, c_9] <;> rfl)) hH hS dX8_lay_24
  · have c_9 := b2i_t c_9
    obtain ⟨j, hj, rfl⟩ := isC_ex c_9
    refine lv_iload_n hx hb dX8_lay_12 rfl (lv_at hl 2 rfl) ?_
    refine cm_S (As := [.int (d)]) (rest := []) hC (c_X8_isColumn) ms_X8_isColumn qM_X8_102 ⟨⟨rfl, rfl⟩, Nat.le_of_ble_eq_true rfl, Nat.le_of_ble_eq_true rfl⟩ hK hH hS hA hl.1 ⟨Nat.zero_le _, Nat.zero_le _⟩ rfl rfl (Nat.le_of_ble_eq_true rfl) dX8_lay_13 (fun H locs hH hS => ?_)
    refine lv_if_ne (tgt := 25) hx hb dX8_lay_16 (by decide) (fun c_16 => ?_) (fun c_16 => ?_)
    · have c_16 := b2i_t c_16
      obtain ⟨k, hk, rfl⟩ := isC_ex c_16
      have hbj := hw.2.2.2.1 j
      have hn513 := hw.2.2.1
      refine lv_aload_n hx hb dX8_lay_25 rfl (lv_at hl 0 rfl) ?_
      refine g_get hC hK inG8 hH 0 (by decide) rfl rfl 7 (by decide) qF_X8_30 (Or.inl rfl) rfl dX8_lay_26 ?_
      refine lv_iload_n hx hb dX8_lay_29 rfl (lv_at hl 2 rfl) ?_
      refine lv_aload_n hx hb dX8_lay_30 rfl (lv_at hl 0 rfl) ?_
      refine g_get hC hK inG8 hH 0 (by decide) rfl rfl 7 (by decide) qF_X8_30 (Or.inl rfl) rfl dX8_lay_31 ?_
      refine lv_iload_n hx hb dX8_lay_34 rfl (lv_at hl 1 rfl) ?_
      refine gN_iald hC hK hH 7 (by decide) rfl j (by omega) dX8_lay_35 ?_
      refine mr_cos hC hK hH hS k (P.co j) (by omega) dX8_lay_36 (fun H locs hH hS => ?_)
      refine lv_aload_n hx hb dX8_lay_37 rfl (lv_at hl 0 rfl) ?_
      refine g_get hC hK inG8 hH 0 (by decide) rfl rfl 7 (by decide) qF_X8_30 (Or.inl rfl) rfl dX8_lay_38 ?_
      refine lv_iload_n hx hb dX8_lay_41 rfl (lv_at hl 2 rfl) ?_
      refine gN_iald hC hK hH 7 (by decide) rfl k (by omega) dX8_lay_42 ?_
      refine lv_chg (y := nI (P.co j)) (by show nI (va_up _ _ _ _) = _; rw [va_up_self]) ?_
      refine lv_if_le (tgt := 50) hx hb dX8_lay_43 (by decide) (fun c_43 => ?_) (fun c_43 => ?_)
      · have c_43 : (P.co j) = 0 := by have h9 := nc_le (a := (P.co j)) (b := 0) (by omega) (by omega) c_43; omega
        refine lv_iconst (v := 0) hx hb dX8_lay_50 (by decide) ?_
        exact cx_ri hC hr hlk (mpost.mk (by simp [sp_lay, rf, c_9, cN_c hj, c_16, cN_c hk, c_43] <;> rfl)) hH hS dX8_lay_51
      · have c_43 : ¬ (P.co j) = 0 := by have h9 := nc_nle (a := (P.co j)) (b := 0) (by omega) (by omega) c_43; omega
        refine lv_iconst (v := 1) hx hb dX8_lay_46 (by decide) ?_
        refine lv_goto (tgt := 51) hx hb dX8_lay_47 (by decide) ?_
        exact cx_ri hC hr hlk (mpost.mk (by simp [sp_lay, rf, c_9, cN_c hj, c_16, cN_c hk, c_43] <;> rfl)) hH hS dX8_lay_51
    · have c_16 := b2i_f c_16
      refine lv_aload_n hx hb dX8_lay_19 rfl (lv_at hl 0 rfl) ?_
      refine lv_iconst (v := 1) hx hb dX8_lay_20 (by decide) ?_
      refine cm_V (As' := [.int (1)]) (rest := []) hC (c_X8_refuse) mv_X8_refuse qM_X8_105 ⟨⟨rfl, rfl⟩, Nat.le_of_ble_eq_true rfl, Nat.le_of_ble_eq_true rfl⟩ hK hH hS hA (hp.recv hK hH (i := 0) (by decide) rfl rfl) hl.1 ⟨Nat.zero_le _, Nat.zero_le _⟩ rfl rfl (Nat.le_of_ble_eq_true rfl) dX8_lay_21 (fun H locs hH hS => ?_)
      exact cx_ri hC hr hlk (mpost.mk (by simp [sp_lay, rf, c_9, cN_c hj, c_16] <;> rfl)) hH hS dX8_lay_24
theorem mv_X8_places : mvok RX8 yX8_places cX8_places 3 (some .int) 1 := ⟨qK_X8_places, qI_X8_places, qSel_X8_X8_places, qInit_X8, by decide +kernel⟩
set_option maxHeartbeats 4000000 in
set_option maxRecDepth 100000 in
theorem c_X8_places {l : Launch} {D : va_G} {cy : Nat → ClassId} {ad : Nat → Nat} {P : AS} {wy : Int32} {so : Int32} {w : Int64} {r : UInt64} {ns : Nat → Int32} {nw : Nat → Int64} {nr : Nat → UInt64} {fr : Nat → Int32} {tt : Nat → Int32} {c : Int32} (hw : WF P)  : CX l yX8_places cX8_places 3 (some .int) (rm_ 2 42) D cy 13 ad [.ref (ad 0), .int (c)] (mct cy ad P wy so w r ns nw nr fr tt) (mpost cy ad (sp_places P c)) := by
  refine CX.start (by decide) (Nat.le_of_ble_eq_true rfl) ?_
  intro p_ e_ s m_ below meth cd A ls hC hr hlk hin hK hA hH hl
  obtain ⟨hx, hb, hml, hown, hts⟩ := id hC
  have hS : va_S A s.heap s.heap [] := va_S.rf
  have hl : lv_has ls 3 [(0, .ref (ad 0)), (1, .int (c))] := hl
  refine lv_aload_n hx hb dX8_places_0 rfl (lv_at hl 0 rfl) ?_
  refine lv_iconst (v := 0) hx hb dX8_places_1 (by decide) ?_
  refine g_put (ct' := mct cy ad P 0 so w r ns nw nr fr tt) hC hK inG8 tyX8 tyX8_ok nmX8 hH hS 0 (by decide) rfl rfl 8 (by decide) qF_X8_48 rfl rfl rfl rfl (Nat.le_of_ble_eq_true rfl) rfl mct_0 dX8_places_2 (fun H locs hH hS => ?_)
  refine lv_iload_n hx hb dX8_places_5 rfl (lv_at hl 1 rfl) ?_
  refine cm_S (As := [.int (c)]) (rest := []) hC (c_X8_isColumn) ms_X8_isColumn qM_X8_102 ⟨⟨rfl, rfl⟩, Nat.le_of_ble_eq_true rfl, Nat.le_of_ble_eq_true rfl⟩ hK hH hS hA hl.1 ⟨Nat.zero_le _, Nat.zero_le _⟩ rfl rfl (Nat.le_of_ble_eq_true rfl) dX8_places_6 (fun H locs hH hS => ?_)
  refine lv_if_ne (tgt := 18) hx hb dX8_places_9 (by decide) (fun c_9 => ?_) (fun c_9 => ?_)
  · have c_9 := b2i_t c_9
    obtain ⟨j, hj, rfl⟩ := isC_ex c_9
    refine lv_aload_n hx hb dX8_places_18 rfl (lv_at hl 0 rfl) ?_
    refine lv_iload_n hx hb dX8_places_19 rfl (lv_at hl 1 rfl) ?_
    refine cm_V (As' := [.int (nI j)]) (rest := []) hC (c_X8_reasonOfRow hj hw) mv_X8_reasonOfRow qM_X8_111 ⟨⟨rfl, rfl⟩, Nat.le_of_ble_eq_true rfl, Nat.le_of_ble_eq_true rfl⟩ hK hH hS hA (hp.recv hK hH (i := 0) (by decide) rfl rfl) hl.1 ⟨Nat.zero_le _, Nat.zero_le _⟩ rfl rfl (Nat.le_of_ble_eq_true rfl) dX8_places_20 (fun H locs hH hS => ?_)
    refine lv_istore_n (lv' := [(2, .int (nI (rsRow P j))), (0, .ref (ad 0)), (1, .int (nI j))]) hx hb dX8_places_23 rfl hl (by decide) rfl (fun ls hl => ?_)
    have hb1 := rsRow_le P j
    refine lv_iload_n hx hb dX8_places_24 rfl (lv_at hl 0 rfl) ?_
    refine lv_if_le (tgt := 36) hx hb dX8_places_25 (by decide) (fun c_25 => ?_) (fun c_25 => ?_)
    · have c_25 : (rsRow P j) = 0 := by have h9 := nc_le (a := (rsRow P j)) (b := 0) (by omega) (by omega) c_25; omega
      obtain ⟨t, h1j, hkt⟩ := rsRow_0 c_25
      have htt : t < 513 := by have := hw.2.2.2.1 j; have := hw.2.2.1; omega
      refine lv_aload_n hx hb dX8_places_36 rfl (lv_at hl 1 rfl) ?_
      refine g_get hC hK inG8 hH 0 (by decide) rfl rfl 2 (by decide) qF_X8_16 (Or.inl rfl) rfl dX8_places_37 ?_
      refine lv_aload_n hx hb dX8_places_40 rfl (lv_at hl 1 rfl) ?_
      refine lv_iload_n hx hb dX8_places_41 rfl (lv_at hl 2 rfl) ?_
      refine cm_V (As' := [.int (nI j)]) (rest := [.ref (ad 3)]) hC (c_X8_in1 hj h1j) mv_X8_in qM_X8_56 ⟨⟨rfl, rfl⟩, Nat.le_of_ble_eq_true rfl, Nat.le_of_ble_eq_true rfl⟩ hK hH hS hA (hp.recv hK hH (i := 0) (by decide) rfl rfl) hl.1 ⟨Nat.zero_le _, Nat.zero_le _⟩ rfl rfl (Nat.le_of_ble_eq_true rfl) dX8_places_42 (fun H locs hH hS => ?_)
      refine gN_iald hC hK hH 3 (by decide) rfl t (by omega) dX8_places_45 ?_
      exact cx_ri hC hr hlk (mpost.mk (by simp [sp_places, rf, c_9, cN_c hj, c_25, h1j] <;> rfl)) hH hS dX8_places_46
    · have c_25 : ¬ (rsRow P j) = 0 := by have h9 := nc_nle (a := (rsRow P j)) (b := 0) (by omega) (by omega) c_25; omega
      refine lv_aload_n hx hb dX8_places_28 rfl (lv_at hl 1 rfl) ?_
      refine lv_iload_n hx hb dX8_places_29 rfl (lv_at hl 0 rfl) ?_
      refine cm_V (As' := [.int (nI (rsRow P j))]) (rest := []) hC (c_X8_refuse) mv_X8_refuse qM_X8_105 ⟨⟨rfl, rfl⟩, Nat.le_of_ble_eq_true rfl, Nat.le_of_ble_eq_true rfl⟩ hK hH hS hA (hp.recv hK hH (i := 0) (by decide) rfl rfl) hl.1 ⟨Nat.zero_le _, Nat.zero_le _⟩ rfl rfl (Nat.le_of_ble_eq_true rfl) dX8_places_30 (fun H locs hH hS => ?_)
      refine lv_goto (tgt := 46) hx hb dX8_places_33 (by decide) ?_
      exact cx_ri hC hr hlk (mpost.mk (by simp [sp_places, rf, c_9, cN_c hj, c_25] <;> rfl)) hH hS dX8_places_46
  · have c_9 := b2i_f c_9
    refine lv_aload_n hx hb dX8_places_12 rfl (lv_at hl 0 rfl) ?_
    refine lv_iconst (v := 1) hx hb dX8_places_13 (by decide) ?_
    refine cm_V (As' := [.int (1)]) (rest := []) hC (c_X8_refuse) mv_X8_refuse qM_X8_105 ⟨⟨rfl, rfl⟩, Nat.le_of_ble_eq_true rfl, Nat.le_of_ble_eq_true rfl⟩ hK hH hS hA (hp.recv hK hH (i := 0) (by decide) rfl rfl) hl.1 ⟨Nat.zero_le _, Nat.zero_le _⟩ rfl rfl (Nat.le_of_ble_eq_true rfl) dX8_places_14 (fun H locs hH hS => ?_)
    exact cx_ri hC hr hlk (mpost.mk (by simp [sp_places, rf, c_9] <;> rfl)) hH hS dX8_places_17
theorem mv_X8_kind : mvok RX8 yX8_kind cX8_kind 2 (some .int) 1 := ⟨qK_X8_kind, qI_X8_kind, qSel_X8_X8_kind, qInit_X8, by decide +kernel⟩
set_option maxHeartbeats 4000000 in
set_option maxRecDepth 100000 in
theorem c_X8_kind {l : Launch} {D : va_G} {cy : Nat → ClassId} {ad : Nat → Nat} {P : AS} {wy : Int32} {so : Int32} {w : Int64} {r : UInt64} {ns : Nat → Int32} {nw : Nat → Int64} {nr : Nat → UInt64} {fr : Nat → Int32} {tt : Nat → Int32} {c : Int32} (hw : WF P)  : CX l yX8_kind cX8_kind 2 (some .int) (rm_ 2 42) D cy 13 ad [.ref (ad 0), .int (c)] (mct cy ad P wy so w r ns nw nr fr tt) (mpost cy ad (sp_kind P c)) := by
  refine CX.start (by decide) (Nat.le_of_ble_eq_true rfl) ?_
  intro p_ e_ s m_ below meth cd A ls hC hr hlk hin hK hA hH hl
  obtain ⟨hx, hb, hml, hown, hts⟩ := id hC
  have hS : va_S A s.heap s.heap [] := va_S.rf
  have hl : lv_has ls 2 [(0, .ref (ad 0)), (1, .int (c))] := hl
  refine lv_aload_n hx hb dX8_kind_0 rfl (lv_at hl 0 rfl) ?_
  refine lv_iconst (v := 0) hx hb dX8_kind_1 (by decide) ?_
  refine g_put (ct' := mct cy ad P 0 so w r ns nw nr fr tt) hC hK inG8 tyX8 tyX8_ok nmX8 hH hS 0 (by decide) rfl rfl 8 (by decide) qF_X8_48 rfl rfl rfl rfl (Nat.le_of_ble_eq_true rfl) rfl mct_0 dX8_kind_2 (fun H locs hH hS => ?_)
  refine lv_iload_n hx hb dX8_kind_5 rfl (lv_at hl 1 rfl) ?_
  refine cm_S (As := [.int (c)]) (rest := []) hC (c_X8_isColumn) ms_X8_isColumn qM_X8_102 ⟨⟨rfl, rfl⟩, Nat.le_of_ble_eq_true rfl, Nat.le_of_ble_eq_true rfl⟩ hK hH hS hA hl.1 ⟨Nat.zero_le _, Nat.zero_le _⟩ rfl rfl (Nat.le_of_ble_eq_true rfl) dX8_kind_6 (fun H locs hH hS => ?_)
  refine lv_if_ne (tgt := 18) hx hb dX8_kind_9 (by decide) (fun c_9 => ?_) (fun c_9 => ?_)
  · have c_9 := b2i_t c_9
    obtain ⟨j, hj, rfl⟩ := isC_ex c_9
    rcases co_cases (P.co j) with h0j | ⟨t, h1j⟩
    · refine lv_aload_n hx hb dX8_kind_18 rfl (lv_at hl 0 rfl) ?_
      refine lv_iload_n hx hb dX8_kind_19 rfl (lv_at hl 1 rfl) ?_
      refine cm_V (As' := [.int (nI j)]) (rest := []) hC (c_X8_in0 hj h0j) mv_X8_in qM_X8_56 ⟨⟨rfl, rfl⟩, Nat.le_of_ble_eq_true rfl, Nat.le_of_ble_eq_true rfl⟩ hK hH hS hA (hp.recv hK hH (i := 0) (by decide) rfl rfl) hl.1 ⟨Nat.zero_le _, Nat.zero_le _⟩ rfl rfl (Nat.le_of_ble_eq_true rfl) dX8_kind_20 (fun H locs hH hS => ?_)
      refine lv_if_ge (tgt := 30) hx hb dX8_kind_23 (by decide) (fun c_23 => absurd c_23 (by decide)) (fun c_23 => ?_)
      refine lv_iconst (v := (-1)) hx hb dX8_kind_26 (by decide) ?_
      refine lv_goto (tgt := 40) hx hb dX8_kind_27 (by decide) ?_
      exact cx_ri hC hr hlk (mpost.mk (by simp [sp_kind, rf, c_9, cN_c hj, h0j] <;> rfl)) hH hS dX8_kind_40
    · refine lv_aload_n hx hb dX8_kind_18 rfl (lv_at hl 0 rfl) ?_
      refine lv_iload_n hx hb dX8_kind_19 rfl (lv_at hl 1 rfl) ?_
      have htt : t < 513 := by have := hw.2.2.2.1 j; have := hw.2.2.1; omega
      refine cm_V (As' := [.int (nI j)]) (rest := []) hC (c_X8_in1 hj h1j) mv_X8_in qM_X8_56 ⟨⟨rfl, rfl⟩, Nat.le_of_ble_eq_true rfl, Nat.le_of_ble_eq_true rfl⟩ hK hH hS hA (hp.recv hK hH (i := 0) (by decide) rfl rfl) hl.1 ⟨Nat.zero_le _, Nat.zero_le _⟩ rfl rfl (Nat.le_of_ble_eq_true rfl) dX8_kind_20 (fun H locs hH hS => ?_)
      refine lv_if_ge (tgt := 30) hx hb dX8_kind_23 (by decide) (fun c_23 => ?_) (fun c_23 => absurd (nI_pos' (by omega)) c_23)
      refine lv_aload_n hx hb dX8_kind_30 rfl (lv_at hl 0 rfl) ?_
      refine g_get hC hK inG8 hH 0 (by decide) rfl rfl 1 (by decide) qF_X8_13 (Or.inl rfl) rfl dX8_kind_31 ?_
      refine lv_aload_n hx hb dX8_kind_34 rfl (lv_at hl 0 rfl) ?_
      refine lv_iload_n hx hb dX8_kind_35 rfl (lv_at hl 1 rfl) ?_
      refine cm_V (As' := [.int (nI j)]) (rest := [.ref (ad 2)]) hC (c_X8_in1 hj h1j) mv_X8_in qM_X8_56 ⟨⟨rfl, rfl⟩, Nat.le_of_ble_eq_true rfl, Nat.le_of_ble_eq_true rfl⟩ hK hH hS hA (hp.recv hK hH (i := 0) (by decide) rfl rfl) hl.1 ⟨Nat.zero_le _, Nat.zero_le _⟩ rfl rfl (Nat.le_of_ble_eq_true rfl) dX8_kind_36 (fun H locs hH hS => ?_)
      refine gN_iald hC hK hH 2 (by decide) rfl t (by omega) dX8_kind_39 ?_
      exact cx_ri hC hr hlk (mpost.mk (by simp [sp_kind, rf, c_9, cN_c hj, h1j] <;> rfl)) hH hS dX8_kind_40
  · have c_9 := b2i_f c_9
    refine lv_aload_n hx hb dX8_kind_12 rfl (lv_at hl 0 rfl) ?_
    refine lv_iconst (v := 1) hx hb dX8_kind_13 (by decide) ?_
    refine cm_V (As' := [.int (1)]) (rest := []) hC (c_X8_refuse) mv_X8_refuse qM_X8_105 ⟨⟨rfl, rfl⟩, Nat.le_of_ble_eq_true rfl, Nat.le_of_ble_eq_true rfl⟩ hK hH hS hA (hp.recv hK hH (i := 0) (by decide) rfl rfl) hl.1 ⟨Nat.zero_le _, Nat.zero_le _⟩ rfl rfl (Nat.le_of_ble_eq_true rfl) dX8_kind_14 (fun H locs hH hS => ?_)
    exact cx_ri hC hr hlk (mpost.mk (by simp [sp_kind, rf, c_9] <;> rfl)) hH hS dX8_kind_17
theorem mv_X8_tag : mvok RX8 yX8_tag cX8_tag 2 (some .int) 1 := ⟨qK_X8_tag, qI_X8_tag, qSel_X8_X8_tag, qInit_X8, by decide +kernel⟩
set_option maxHeartbeats 4000000 in
set_option maxRecDepth 100000 in
theorem c_X8_tag {l : Launch} {D : va_G} {cy : Nat → ClassId} {ad : Nat → Nat} {P : AS} {wy : Int32} {so : Int32} {w : Int64} {r : UInt64} {ns : Nat → Int32} {nw : Nat → Int64} {nr : Nat → UInt64} {fr : Nat → Int32} {tt : Nat → Int32} {c : Int32} (hw : WF P)  : CX l yX8_tag cX8_tag 2 (some .int) (rm_ 2 42) D cy 13 ad [.ref (ad 0), .int (c)] (mct cy ad P wy so w r ns nw nr fr tt) (mpost cy ad (sp_tag P c)) := by
  refine CX.start (by decide) (Nat.le_of_ble_eq_true rfl) ?_
  intro p_ e_ s m_ below meth cd A ls hC hr hlk hin hK hA hH hl
  obtain ⟨hx, hb, hml, hown, hts⟩ := id hC
  have hS : va_S A s.heap s.heap [] := va_S.rf
  have hl : lv_has ls 2 [(0, .ref (ad 0)), (1, .int (c))] := hl
  refine lv_aload_n hx hb dX8_tag_0 rfl (lv_at hl 0 rfl) ?_
  refine lv_iconst (v := 0) hx hb dX8_tag_1 (by decide) ?_
  refine g_put (ct' := mct cy ad P 0 so w r ns nw nr fr tt) hC hK inG8 tyX8 tyX8_ok nmX8 hH hS 0 (by decide) rfl rfl 8 (by decide) qF_X8_48 rfl rfl rfl rfl (Nat.le_of_ble_eq_true rfl) rfl mct_0 dX8_tag_2 (fun H locs hH hS => ?_)
  refine lv_iload_n hx hb dX8_tag_5 rfl (lv_at hl 1 rfl) ?_
  refine cm_S (As := [.int (c)]) (rest := []) hC (c_X8_isColumn) ms_X8_isColumn qM_X8_102 ⟨⟨rfl, rfl⟩, Nat.le_of_ble_eq_true rfl, Nat.le_of_ble_eq_true rfl⟩ hK hH hS hA hl.1 ⟨Nat.zero_le _, Nat.zero_le _⟩ rfl rfl (Nat.le_of_ble_eq_true rfl) dX8_tag_6 (fun H locs hH hS => ?_)
  refine lv_if_ne (tgt := 18) hx hb dX8_tag_9 (by decide) (fun c_9 => ?_) (fun c_9 => ?_)
  · have c_9 := b2i_t c_9
    obtain ⟨j, hj, rfl⟩ := isC_ex c_9
    refine lv_aload_n hx hb dX8_tag_18 rfl (lv_at hl 0 rfl) ?_
    refine lv_iload_n hx hb dX8_tag_19 rfl (lv_at hl 1 rfl) ?_
    refine cm_V (As' := [.int (nI j)]) (rest := []) hC (c_X8_isCard hj hw) mv_X8_isCard qM_X8_114 ⟨⟨rfl, rfl⟩, Nat.le_of_ble_eq_true rfl, Nat.le_of_ble_eq_true rfl⟩ hK hH hS hA (hp.recv hK hH (i := 0) (by decide) rfl rfl) hl.1 ⟨Nat.zero_le _, Nat.zero_le _⟩ rfl rfl (Nat.le_of_ble_eq_true rfl) dX8_tag_20 (fun H locs hH hS => ?_)
    refine lv_if_eq (tgt := 39) hx hb dX8_tag_23 (by decide) (fun c_23 => ?_) (fun c_23 => ?_)
    · have c_23 := b2i_f c_23
      refine lv_aload_n hx hb dX8_tag_39 rfl (lv_at hl 0 rfl) ?_
      refine lv_iconst (v := 5) hx hb dX8_tag_40 (by decide) ?_
      refine cm_V (As' := [.int (5)]) (rest := []) hC (c_X8_refuse) mv_X8_refuse qM_X8_105 ⟨⟨rfl, rfl⟩, Nat.le_of_ble_eq_true rfl, Nat.le_of_ble_eq_true rfl⟩ hK hH hS hA (hp.recv hK hH (i := 0) (by decide) rfl rfl) hl.1 ⟨Nat.zero_le _, Nat.zero_le _⟩ rfl rfl (Nat.le_of_ble_eq_true rfl) dX8_tag_41 (fun H locs hH hS => ?_)
      exact cx_ri hC hr hlk (mpost.mk (by simp [sp_tag, rf, c_9, cN_c hj, c_23] <;> rfl)) hH hS dX8_tag_44
    · have c_23 := b2i_t c_23
      obtain ⟨t, h1j, hkt⟩ := isCd_ex c_23
      have htt : t < 513 := by have := hw.2.2.2.1 j; have := hw.2.2.1; omega
      refine lv_aload_n hx hb dX8_tag_26 rfl (lv_at hl 0 rfl) ?_
      refine g_get hC hK inG8 hH 0 (by decide) rfl rfl 3 (by decide) qF_X8_19 (Or.inl rfl) rfl dX8_tag_27 ?_
      refine lv_aload_n hx hb dX8_tag_30 rfl (lv_at hl 0 rfl) ?_
      refine lv_iload_n hx hb dX8_tag_31 rfl (lv_at hl 1 rfl) ?_
      refine cm_V (As' := [.int (nI j)]) (rest := [.ref (ad 4)]) hC (c_X8_in1 hj h1j) mv_X8_in qM_X8_56 ⟨⟨rfl, rfl⟩, Nat.le_of_ble_eq_true rfl, Nat.le_of_ble_eq_true rfl⟩ hK hH hS hA (hp.recv hK hH (i := 0) (by decide) rfl rfl) hl.1 ⟨Nat.zero_le _, Nat.zero_le _⟩ rfl rfl (Nat.le_of_ble_eq_true rfl) dX8_tag_32 (fun H locs hH hS => ?_)
      refine gN_iald hC hK hH 4 (by decide) rfl t (by omega) dX8_tag_35 ?_
      refine lv_goto (tgt := 44) hx hb dX8_tag_36 (by decide) ?_
      exact cx_ri hC hr hlk (mpost.mk (by simp [sp_tag, rf, c_9, cN_c hj, c_23, h1j] <;> rfl)) hH hS dX8_tag_44
  · have c_9 := b2i_f c_9
    refine lv_aload_n hx hb dX8_tag_12 rfl (lv_at hl 0 rfl) ?_
    refine lv_iconst (v := 1) hx hb dX8_tag_13 (by decide) ?_
    refine cm_V (As' := [.int (1)]) (rest := []) hC (c_X8_refuse) mv_X8_refuse qM_X8_105 ⟨⟨rfl, rfl⟩, Nat.le_of_ble_eq_true rfl, Nat.le_of_ble_eq_true rfl⟩ hK hH hS hA (hp.recv hK hH (i := 0) (by decide) rfl rfl) hl.1 ⟨Nat.zero_le _, Nat.zero_le _⟩ rfl rfl (Nat.le_of_ble_eq_true rfl) dX8_tag_14 (fun H locs hH hS => ?_)
    exact cx_ri hC hr hlk (mpost.mk (by simp [sp_tag, rf, c_9] <;> rfl)) hH hS dX8_tag_17
theorem mv_X8_load : mvok RX8 yX8_load cX8_load 2 (some .int) 1 := ⟨qK_X8_load, qI_X8_load, qSel_X8_X8_load, qInit_X8, by decide +kernel⟩
set_option maxHeartbeats 4000000 in
set_option maxRecDepth 100000 in
theorem c_X8_load {l : Launch} {D : va_G} {cy : Nat → ClassId} {ad : Nat → Nat} {P : AS} {wy : Int32} {so : Int32} {w : Int64} {r : UInt64} {ns : Nat → Int32} {nw : Nat → Int64} {nr : Nat → UInt64} {fr : Nat → Int32} {tt : Nat → Int32} {c : Int32} (hw : WF P)  : CX l yX8_load cX8_load 2 (some .int) (rm_ 2 42) D cy 13 ad [.ref (ad 0), .int (c)] (mct cy ad P wy so w r ns nw nr fr tt) (mpost cy ad (sp_load P c)) := by
  refine CX.start (by decide) (Nat.le_of_ble_eq_true rfl) ?_
  intro p_ e_ s m_ below meth cd A ls hC hr hlk hin hK hA hH hl
  obtain ⟨hx, hb, hml, hown, hts⟩ := id hC
  have hS : va_S A s.heap s.heap [] := va_S.rf
  have hl : lv_has ls 2 [(0, .ref (ad 0)), (1, .int (c))] := hl
  refine lv_aload_n hx hb dX8_load_0 rfl (lv_at hl 0 rfl) ?_
  refine lv_iconst (v := 0) hx hb dX8_load_1 (by decide) ?_
  refine g_put (ct' := mct cy ad P 0 so w r ns nw nr fr tt) hC hK inG8 tyX8 tyX8_ok nmX8 hH hS 0 (by decide) rfl rfl 8 (by decide) qF_X8_48 rfl rfl rfl rfl (Nat.le_of_ble_eq_true rfl) rfl mct_0 dX8_load_2 (fun H locs hH hS => ?_)
  refine lv_iload_n hx hb dX8_load_5 rfl (lv_at hl 1 rfl) ?_
  refine cm_S (As := [.int (c)]) (rest := []) hC (c_X8_isColumn) ms_X8_isColumn qM_X8_102 ⟨⟨rfl, rfl⟩, Nat.le_of_ble_eq_true rfl, Nat.le_of_ble_eq_true rfl⟩ hK hH hS hA hl.1 ⟨Nat.zero_le _, Nat.zero_le _⟩ rfl rfl (Nat.le_of_ble_eq_true rfl) dX8_load_6 (fun H locs hH hS => ?_)
  refine lv_if_ne (tgt := 18) hx hb dX8_load_9 (by decide) (fun c_9 => ?_) (fun c_9 => ?_)
  · have c_9 := b2i_t c_9
    obtain ⟨j, hj, rfl⟩ := isC_ex c_9
    refine lv_aload_n hx hb dX8_load_18 rfl (lv_at hl 0 rfl) ?_
    refine lv_iload_n hx hb dX8_load_19 rfl (lv_at hl 1 rfl) ?_
    refine cm_V (As' := [.int (nI j)]) (rest := []) hC (c_X8_isCard hj hw) mv_X8_isCard qM_X8_114 ⟨⟨rfl, rfl⟩, Nat.le_of_ble_eq_true rfl, Nat.le_of_ble_eq_true rfl⟩ hK hH hS hA (hp.recv hK hH (i := 0) (by decide) rfl rfl) hl.1 ⟨Nat.zero_le _, Nat.zero_le _⟩ rfl rfl (Nat.le_of_ble_eq_true rfl) dX8_load_20 (fun H locs hH hS => ?_)
    refine lv_if_ne (tgt := 32) hx hb dX8_load_23 (by decide) (fun c_23 => ?_) (fun c_23 => ?_)
    · have c_23 := b2i_t c_23
      obtain ⟨t, h1j, hkt⟩ := isCd_ex c_23
      have htt : t < 513 := by have := hw.2.2.2.1 j; have := hw.2.2.1; omega
      have hkt2 := hw.1 t
      refine lv_aload_n hx hb dX8_load_32 rfl (lv_at hl 0 rfl) ?_
      refine g_get hC hK inG8 hH 0 (by decide) rfl rfl 1 (by decide) qF_X8_13 (Or.inl rfl) rfl dX8_load_33 ?_
      refine lv_aload_n hx hb dX8_load_36 rfl (lv_at hl 0 rfl) ?_
      refine lv_iload_n hx hb dX8_load_37 rfl (lv_at hl 1 rfl) ?_
      refine cm_V (As' := [.int (nI j)]) (rest := [.ref (ad 2)]) hC (c_X8_in1 hj h1j) mv_X8_in qM_X8_56 ⟨⟨rfl, rfl⟩, Nat.le_of_ble_eq_true rfl, Nat.le_of_ble_eq_true rfl⟩ hK hH hS hA (hp.recv hK hH (i := 0) (by decide) rfl rfl) hl.1 ⟨Nat.zero_le _, Nat.zero_le _⟩ rfl rfl (Nat.le_of_ble_eq_true rfl) dX8_load_38 (fun H locs hH hS => ?_)
      refine gN_iald hC hK hH 2 (by decide) rfl t (by omega) dX8_load_41 ?_
      refine lv_bipush (v := 14) hx hb dX8_load_42 (by decide) ?_
      refine lv_icmp_ne (tgt := 64) hx hb dX8_load_44 (by decide) (fun c_44 => ?_) (fun c_44 => ?_)
      · have c_44 := nc_ne (a := (P.kd t)) (b := 14) (by omega) (by omega) c_44
        refine lv_aload_n hx hb dX8_load_64 rfl (lv_at hl 0 rfl) ?_
        refine g_get hC hK inG8 hH 0 (by decide) rfl rfl 3 (by decide) qF_X8_19 (Or.inl rfl) rfl dX8_load_65 ?_
        refine lv_aload_n hx hb dX8_load_68 rfl (lv_at hl 0 rfl) ?_
        refine lv_iload_n hx hb dX8_load_69 rfl (lv_at hl 1 rfl) ?_
        refine cm_V (As' := [.int (nI j)]) (rest := [.ref (ad 4)]) hC (c_X8_in1 hj h1j) mv_X8_in qM_X8_56 ⟨⟨rfl, rfl⟩, Nat.le_of_ble_eq_true rfl, Nat.le_of_ble_eq_true rfl⟩ hK hH hS hA (hp.recv hK hH (i := 0) (by decide) rfl rfl) hl.1 ⟨Nat.zero_le _, Nat.zero_le _⟩ rfl rfl (Nat.le_of_ble_eq_true rfl) dX8_load_70 (fun H locs hH hS => ?_)
        refine gN_iald hC hK hH 4 (by decide) rfl t (by omega) dX8_load_73 ?_
        exact cx_ri hC hr hlk (mpost.mk (by simp [sp_load, rf, c_9, cN_c hj, c_23, h1j, c_44] <;> rfl)) hH hS dX8_load_74
      · have c_44 := nc_eq (a := (P.kd t)) (b := 14) (by omega) (by omega) c_44
        refine lv_iconst (v := 2) hx hb dX8_load_47 (by decide) ?_
        refine lv_aload_n hx hb dX8_load_48 rfl (lv_at hl 0 rfl) ?_
        refine g_get hC hK inG8 hH 0 (by decide) rfl rfl 3 (by decide) qF_X8_19 (Or.inl rfl) rfl dX8_load_49 ?_
        refine lv_aload_n hx hb dX8_load_52 rfl (lv_at hl 0 rfl) ?_
        refine lv_iload_n hx hb dX8_load_53 rfl (lv_at hl 1 rfl) ?_
        refine cm_V (As' := [.int (nI j)]) (rest := [.ref (ad 4), .int (2)]) hC (c_X8_in1 hj h1j) mv_X8_in qM_X8_56 ⟨⟨rfl, rfl⟩, Nat.le_of_ble_eq_true rfl, Nat.le_of_ble_eq_true rfl⟩ hK hH hS hA (hp.recv hK hH (i := 0) (by decide) rfl rfl) hl.1 ⟨Nat.zero_le _, Nat.zero_le _⟩ rfl rfl (Nat.le_of_ble_eq_true rfl) dX8_load_54 (fun H locs hH hS => ?_)
        refine gN_iald hC hK hH 4 (by decide) rfl t (by omega) dX8_load_57 ?_
        refine lv_imul hx hb dX8_load_58 ?_
        refine lv_iconst (v := 1) hx hb dX8_load_59 (by decide) ?_
        refine lv_iadd hx hb dX8_load_60 ?_
        refine lv_goto (tgt := 74) hx hb dX8_load_61 (by decide) ?_
        exact cx_ri hC hr hlk (mpost.mk (by simp [sp_load, rf, c_9, cN_c hj, c_23, h1j, c_44] <;> rfl)) hH hS dX8_load_74
    · have c_23 := b2i_f c_23
      refine lv_aload_n hx hb dX8_load_26 rfl (lv_at hl 0 rfl) ?_
      refine lv_iconst (v := 5) hx hb dX8_load_27 (by decide) ?_
      refine cm_V (As' := [.int (5)]) (rest := []) hC (c_X8_refuse) mv_X8_refuse qM_X8_105 ⟨⟨rfl, rfl⟩, Nat.le_of_ble_eq_true rfl, Nat.le_of_ble_eq_true rfl⟩ hK hH hS hA (hp.recv hK hH (i := 0) (by decide) rfl rfl) hl.1 ⟨Nat.zero_le _, Nat.zero_le _⟩ rfl rfl (Nat.le_of_ble_eq_true rfl) dX8_load_28 (fun H locs hH hS => ?_)
      exact cx_ri hC hr hlk (mpost.mk (by simp [sp_load, rf, c_9, cN_c hj, c_23] <;> rfl)) hH hS dX8_load_31
  · have c_9 := b2i_f c_9
    refine lv_aload_n hx hb dX8_load_12 rfl (lv_at hl 0 rfl) ?_
    refine lv_iconst (v := 1) hx hb dX8_load_13 (by decide) ?_
    refine cm_V (As' := [.int (1)]) (rest := []) hC (c_X8_refuse) mv_X8_refuse qM_X8_105 ⟨⟨rfl, rfl⟩, Nat.le_of_ble_eq_true rfl, Nat.le_of_ble_eq_true rfl⟩ hK hH hS hA (hp.recv hK hH (i := 0) (by decide) rfl rfl) hl.1 ⟨Nat.zero_le _, Nat.zero_le _⟩ rfl rfl (Nat.le_of_ble_eq_true rfl) dX8_load_14 (fun H locs hH hS => ?_)
    exact cx_ri hC hr hlk (mpost.mk (by simp [sp_load, rf, c_9] <;> rfl)) hH hS dX8_load_17
theorem mv_X8_reasonOfValue : mvok RX8 yX8_reasonOfValue cX8_reasonOfValue 5 (some .int) 3 := ⟨qK_X8_reasonOfValue, qI_X8_reasonOfValue, qSel_X8_X8_reasonOfValue, qInit_X8, by decide +kernel⟩
set_option maxHeartbeats 4000000 in
set_option maxRecDepth 100000 in
theorem c_X8_reasonOfValue {l : Launch} {D : va_G} {cy : Nat → ClassId} {ad : Nat → Nat} {P : AS} {wy : Int32} {so : Int32} {w : Int64} {r : UInt64} {ns : Nat → Int32} {nw : Nat → Int64} {nr : Nat → UInt64} {fr : Nat → Int32} {tt : Nat → Int32} {j k : Nat} {i : Int32} (hj : j < 12) (hk : k ≤ 7) (hw : WF P) : CM l yX8_reasonOfValue cX8_reasonOfValue 5 (some .int) (rm_ 3 65) D cy 13 ad [.ref (ad 0), .int (nI j), .int (i), .int (nI k)] (mct cy ad P wy so w r ns nw nr fr tt) (some (.int (nI (rsVal P j i k)))) (mct cy ad P wy (if rsVal P j i k = 0 then nI k else so) (if rsVal P j i k = 0 then (valAs P (P.co j - 1) (cN i) k).1 else w) (if rsVal P j i k = 0 then (valAs P (P.co j - 1) (cN i) k).2 else r) ns nw nr fr tt) := by
  refine CM.start (by decide) (Nat.le_of_ble_eq_true rfl) ?_
  intro p_ e_ s m_ below meth cd A ls hC hr hlk hin hK hA hH hl
  obtain ⟨hx, hb, hml, hown, hts⟩ := id hC
  have hS : va_S A s.heap s.heap [] := va_S.rf
  have hl : lv_has ls 5 [(0, .ref (ad 0)), (1, .int (nI j)), (2, .int (i)), (3, .int (nI k))] := hl
  refine lv_aload_n hx hb dX8_reasonOfValue_0 rfl (lv_at hl 0 rfl) ?_
  refine lv_iload_n hx hb dX8_reasonOfValue_1 rfl (lv_at hl 1 rfl) ?_
  refine lv_iload_n hx hb dX8_reasonOfValue_2 rfl (lv_at hl 2 rfl) ?_
  refine cm_V (As' := [.int (nI j), .int (i)]) (rest := []) hC (c_X8_reasonOfPlace hj hw) mv_X8_reasonOfPlace qM_X8_120 ⟨⟨rfl, rfl⟩, Nat.le_of_ble_eq_true rfl, Nat.le_of_ble_eq_true rfl⟩ hK hH hS hA (hp.recv hK hH (i := 0) (by decide) rfl rfl) hl.1 ⟨Nat.zero_le _, Nat.zero_le _⟩ rfl rfl (Nat.le_of_ble_eq_true rfl) dX8_reasonOfValue_3 (fun H locs hH hS => ?_)
  refine lv_istore (lv' := [(4, .int (nI (rsPl P j i))), (0, .ref (ad 0)), (1, .int (nI j)), (2, .int (i)), (3, .int (nI k))]) hx hb dX8_reasonOfValue_6 hl (by decide) rfl (fun ls hl => ?_)
  have hb1 := rsPl_le P j i
  refine lv_iload hx hb dX8_reasonOfValue_8 (lv_at hl 0 rfl) ?_
  refine lv_if_le (tgt := 16) hx hb dX8_reasonOfValue_10 (by decide) (fun c_10 => ?_) (fun c_10 => ?_)
  · have c_10 : (rsPl P j i) = 0 := by have h9 := nc_le (a := (rsPl P j i)) (b := 0) (by omega) (by omega) c_10; omega
    obtain ⟨t, q, h1j, hkt, hqt, rfl⟩ := rsPl_0 c_10
    have htt : t < 513 := by have := hw.2.2.2.1 j; have := hw.2.2.1; omega
    have hlt := hw.2.1 t
    have hn513 := hw.2.2.1
    refine lv_aload_n hx hb dX8_reasonOfValue_16 rfl (lv_at hl 1 rfl) ?_
    refine lv_aload_n hx hb dX8_reasonOfValue_17 rfl (lv_at hl 1 rfl) ?_
    refine lv_iload_n hx hb dX8_reasonOfValue_18 rfl (lv_at hl 2 rfl) ?_
    refine cm_V (As' := [.int (nI j)]) (rest := [.ref (ad 0)]) hC (c_X8_in1 hj h1j) mv_X8_in qM_X8_56 ⟨⟨rfl, rfl⟩, Nat.le_of_ble_eq_true rfl, Nat.le_of_ble_eq_true rfl⟩ hK hH hS hA (hp.recv hK hH (i := 0) (by decide) rfl rfl) hl.1 ⟨Nat.zero_le _, Nat.zero_le _⟩ rfl rfl (Nat.le_of_ble_eq_true rfl) dX8_reasonOfValue_19 (fun H locs hH hS => ?_)
    refine cm_V (As' := [.int (nI t)]) (rest := []) hC (c_X8_isPlain (by omega) hw) mv_X8_isPlain qM_X8_91 ⟨⟨rfl, rfl⟩, Nat.le_of_ble_eq_true rfl, Nat.le_of_ble_eq_true rfl⟩ hK hH hS hA (hp.recv hK hH (i := 0) (by decide) rfl rfl) hl.1 ⟨Nat.zero_le _, Nat.zero_le _⟩ rfl rfl (Nat.le_of_ble_eq_true rfl) dX8_reasonOfValue_22 (fun H locs hH hS => ?_)
    refine lv_if_eq (tgt := 46) hx hb dX8_reasonOfValue_25 (by decide) (fun c_25 => ?_) (fun c_25 => ?_)
    · have c_25 := b2d_f c_25
      refine lv_iconst (v := 5) hx hb dX8_reasonOfValue_46 (by decide) ?_
      exact cm_ri hC hr hlk (by simp [rsVal, c_10, h1j, hkt, cN_p hw hqt, c_25] <;> rfl) (by simp [rsVal, valAs, c_10, h1j, hkt, cN_p hw hqt, c_25]) hH hS dX8_reasonOfValue_47
    · have c_25 := b2d_t c_25
      refine lv_aload_n hx hb dX8_reasonOfValue_28 rfl (lv_at hl 1 rfl) ?_
      refine lv_aload_n hx hb dX8_reasonOfValue_29 rfl (lv_at hl 1 rfl) ?_
      refine g_get hC hK inG8 hH 0 (by decide) rfl rfl 1 (by decide) qF_X8_13 (Or.inl rfl) rfl dX8_reasonOfValue_30 ?_
      refine lv_aload_n hx hb dX8_reasonOfValue_33 rfl (lv_at hl 1 rfl) ?_
      refine lv_iload_n hx hb dX8_reasonOfValue_34 rfl (lv_at hl 2 rfl) ?_
      refine cm_V (As' := [.int (nI j)]) (rest := [.ref (ad 2), .ref (ad 0)]) hC (c_X8_in1 hj h1j) mv_X8_in qM_X8_56 ⟨⟨rfl, rfl⟩, Nat.le_of_ble_eq_true rfl, Nat.le_of_ble_eq_true rfl⟩ hK hH hS hA (hp.recv hK hH (i := 0) (by decide) rfl rfl) hl.1 ⟨Nat.zero_le _, Nat.zero_le _⟩ rfl rfl (Nat.le_of_ble_eq_true rfl) dX8_reasonOfValue_35 (fun H locs hH hS => ?_)
      refine gN_iald hC hK hH 2 (by decide) rfl t (by omega) dX8_reasonOfValue_38 ?_
      refine lv_iload_n hx hb dX8_reasonOfValue_39 rfl (lv_at hl 4 rfl) ?_
      refine cm_V (As' := [.int (nI (P.kd t)), .int (nI k)]) (rest := []) hC (c_X8_goesInto (a := (P.kd t)) (b := k) (by omega) (by omega)) mv_X8_goesInto qM_X8_94 ⟨⟨rfl, rfl⟩, Nat.le_of_ble_eq_true rfl, Nat.le_of_ble_eq_true rfl⟩ hK hH hS hA (hp.recv hK hH (i := 0) (by decide) rfl rfl) hl.1 ⟨Nat.zero_le _, Nat.zero_le _⟩ rfl rfl (Nat.le_of_ble_eq_true rfl) dX8_reasonOfValue_40 (fun H locs hH hS => ?_)
      refine lv_if_ne (tgt := 48) hx hb dX8_reasonOfValue_43 (by decide) (fun c_43 => ?_) (fun c_43 => ?_)
      · have c_43 := b2i_t c_43
        refine lv_aload_n hx hb dX8_reasonOfValue_48 rfl (lv_at hl 1 rfl) ?_
        refine lv_aload_n hx hb dX8_reasonOfValue_49 rfl (lv_at hl 1 rfl) ?_
        refine lv_iload_n hx hb dX8_reasonOfValue_50 rfl (lv_at hl 2 rfl) ?_
        refine cm_V (As' := [.int (nI j)]) (rest := [.ref (ad 0)]) hC (c_X8_in1 hj h1j) mv_X8_in qM_X8_56 ⟨⟨rfl, rfl⟩, Nat.le_of_ble_eq_true rfl, Nat.le_of_ble_eq_true rfl⟩ hK hH hS hA (hp.recv hK hH (i := 0) (by decide) rfl rfl) hl.1 ⟨Nat.zero_le _, Nat.zero_le _⟩ rfl rfl (Nat.le_of_ble_eq_true rfl) dX8_reasonOfValue_51 (fun H locs hH hS => ?_)
        refine lv_iload_n hx hb dX8_reasonOfValue_54 rfl (lv_at hl 3 rfl) ?_
        refine cm_V (As' := [.int (nI t), .int (nI q)]) (rest := []) hC (c_X8_get (by omega) (by omega)) mv_X8_get qM_X8_143 ⟨⟨rfl, rfl⟩, Nat.le_of_ble_eq_true rfl, Nat.le_of_ble_eq_true rfl⟩ hK hH hS hA (hp.recv hK hH (i := 0) (by decide) rfl rfl) hl.1 ⟨Nat.zero_le _, Nat.zero_le _⟩ rfl rfl (Nat.le_of_ble_eq_true rfl) dX8_reasonOfValue_55 (fun H locs hH hS => ?_)
        refine lv_aload_n hx hb dX8_reasonOfValue_58 rfl (lv_at hl 1 rfl) ?_
        refine lv_iload_n hx hb dX8_reasonOfValue_59 rfl (lv_at hl 4 rfl) ?_
        refine cm_V (As' := [.int (nI k)]) (rest := []) hC (c_X8_widen (by omega) (by omega)) mv_X8_widen qM_X8_131 ⟨⟨rfl, rfl⟩, Nat.le_of_ble_eq_true rfl, Nat.le_of_ble_eq_true rfl⟩ hK hH hS hA (hp.recv hK hH (i := 0) (by decide) rfl rfl) hl.1 ⟨Nat.zero_le _, Nat.zero_le _⟩ rfl rfl (Nat.le_of_ble_eq_true rfl) dX8_reasonOfValue_60 (fun H locs hH hS => ?_)
        refine lv_iconst (v := 0) hx hb dX8_reasonOfValue_63 (by decide) ?_
        exact cm_ri hC hr hlk (by simp [rsVal, c_10, h1j, hkt, cN_p hw hqt, c_25, c_43] <;> rfl) (by simp [rsVal, valAs, c_10, h1j, hkt, cN_p hw hqt, c_25, c_43]) hH hS dX8_reasonOfValue_64
      · have c_43 := b2i_f c_43
        refine lv_iconst (v := 5) hx hb dX8_reasonOfValue_46 (by decide) ?_
        exact cm_ri hC hr hlk (by simp [rsVal, c_10, h1j, hkt, cN_p hw hqt, c_25, c_43] <;> rfl) (by simp [rsVal, valAs, c_10, h1j, hkt, cN_p hw hqt, c_25, c_43]) hH hS dX8_reasonOfValue_47
  · have c_10 : ¬ (rsPl P j i) = 0 := by have h9 := nc_nle (a := (rsPl P j i)) (b := 0) (by omega) (by omega) c_10; omega
    refine lv_iload hx hb dX8_reasonOfValue_13 (lv_at hl 0 rfl) ?_
    exact cm_ri hC hr hlk (by simp [rsVal, c_10] <;> rfl) (by simp [rsVal, valAs, c_10]) hH hS dX8_reasonOfValue_15
theorem mv_X8_put : mvok RX8 yX8_put cX8_put 7 (some .int) 5 := ⟨qK_X8_put, qI_X8_put, qSel_X8_X8_put, qInit_X8, by decide +kernel⟩
set_option maxHeartbeats 4000000 in
set_option maxRecDepth 100000 in
theorem c_X8_put {l : Launch} {D : va_G} {cy : Nat → ClassId} {ad : Nat → Nat} {P : AS} {wy : Int32} {so : Int32} {w : Int64} {r : UInt64} {ns : Nat → Int32} {nw : Nat → Int64} {nr : Nat → UInt64} {fr : Nat → Int32} {tt : Nat → Int32} {c i sort a b : Int32} (hw : WF P)  : CX l yX8_put cX8_put 7 (some .int) (rm_ 3 65) D cy 13 ad [.ref (ad 0), .int (c), .int (i), .int (sort), .int (a), .int (b)] (mct cy ad P wy so w r ns nw nr fr tt) (mpost cy ad (sp_put P c i sort a b)) := by
  refine CX.start (by decide) (Nat.le_of_ble_eq_true rfl) ?_
  intro p_ e_ s m_ below meth cd A ls hC hr hlk hin hK hA hH hl
  obtain ⟨hx, hb, hml, hown, hts⟩ := id hC
  have hS : va_S A s.heap s.heap [] := va_S.rf
  have hl : lv_has ls 7 [(0, .ref (ad 0)), (1, .int (c)), (2, .int (i)), (3, .int (sort)), (4, .int (a)), (5, .int (b))] := hl
  refine lv_aload_n hx hb dX8_put_0 rfl (lv_at hl 0 rfl) ?_
  refine lv_iconst (v := 0) hx hb dX8_put_1 (by decide) ?_
  refine g_put (ct' := mct cy ad P 0 so w r ns nw nr fr tt) hC hK inG8 tyX8 tyX8_ok nmX8 hH hS 0 (by decide) rfl rfl 8 (by decide) qF_X8_48 rfl rfl rfl rfl (Nat.le_of_ble_eq_true rfl) rfl mct_0 dX8_put_2 (fun H locs hH hS => ?_)
  refine lv_iload_n hx hb dX8_put_5 rfl (lv_at hl 1 rfl) ?_
  refine cm_S (As := [.int (c)]) (rest := []) hC (c_X8_isColumn) ms_X8_isColumn qM_X8_102 ⟨⟨rfl, rfl⟩, Nat.le_of_ble_eq_true rfl, Nat.le_of_ble_eq_true rfl⟩ hK hH hS hA hl.1 ⟨Nat.zero_le _, Nat.zero_le _⟩ rfl rfl (Nat.le_of_ble_eq_true rfl) dX8_put_6 (fun H locs hH hS => ?_)
  refine lv_if_eq (tgt := 22) hx hb dX8_put_9 (by decide) (fun c_9 => ?_) (fun c_9 => ?_)
  · have c_9 := b2i_f c_9
    refine lv_aload_n hx hb dX8_put_22 rfl (lv_at hl 0 rfl) ?_
    refine lv_iconst (v := 1) hx hb dX8_put_23 (by decide) ?_
    refine cm_V (As' := [.int (1)]) (rest := []) hC (c_X8_refuse) mv_X8_refuse qM_X8_105 ⟨⟨rfl, rfl⟩, Nat.le_of_ble_eq_true rfl, Nat.le_of_ble_eq_true rfl⟩ hK hH hS hA (hp.recv hK hH (i := 0) (by decide) rfl rfl) hl.1 ⟨Nat.zero_le _, Nat.zero_le _⟩ rfl rfl (Nat.le_of_ble_eq_true rfl) dX8_put_24 (fun H locs hH hS => ?_)
    exact cx_ri hC hr hlk (mpost.mk (by simp [sp_put, rf, c_9] <;> rfl)) hH hS dX8_put_27
  · have c_9 := b2i_t c_9
    obtain ⟨j, hj, rfl⟩ := isC_ex c_9
    refine lv_iload_n hx hb dX8_put_12 rfl (lv_at hl 3 rfl) ?_
    refine lv_iconst (v := 0) hx hb dX8_put_13 (by decide) ?_
    refine lv_bipush (v := 7) hx hb dX8_put_14 (by decide) ?_
    refine cm_S (As := [.int (sort), .int (0), .int (7)]) (rest := []) hC (c_X8_isIn) ms_X8_isIn qM_X8_52 ⟨⟨rfl, rfl⟩, Nat.le_of_ble_eq_true rfl, Nat.le_of_ble_eq_true rfl⟩ hK hH hS hA hl.1 ⟨Nat.zero_le _, Nat.zero_le _⟩ rfl rfl (Nat.le_of_ble_eq_true rfl) dX8_put_16 (fun H locs hH hS => ?_)
    refine lv_if_ne (tgt := 28) hx hb dX8_put_19 (by decide) (fun c_19 => ?_) (fun c_19 => ?_)
    · have c_19 := b2i_t c_19
      obtain ⟨k, hk, rfl⟩ := inR_ex (n := 7) (by decide) c_19
      refine lv_aload_n hx hb dX8_put_28 rfl (lv_at hl 0 rfl) ?_
      refine lv_iload_n hx hb dX8_put_29 rfl (lv_at hl 1 rfl) ?_
      refine lv_iload_n hx hb dX8_put_30 rfl (lv_at hl 2 rfl) ?_
      refine cm_V (As' := [.int (nI j), .int (i)]) (rest := []) hC (c_X8_reasonOfPlace hj hw) mv_X8_reasonOfPlace qM_X8_120 ⟨⟨rfl, rfl⟩, Nat.le_of_ble_eq_true rfl, Nat.le_of_ble_eq_true rfl⟩ hK hH hS hA (hp.recv hK hH (i := 0) (by decide) rfl rfl) hl.1 ⟨Nat.zero_le _, Nat.zero_le _⟩ rfl rfl (Nat.le_of_ble_eq_true rfl) dX8_put_31 (fun H locs hH hS => ?_)
      refine lv_istore (lv' := [(6, .int (nI (rsPl P j i))), (0, .ref (ad 0)), (1, .int (nI j)), (2, .int (i)), (3, .int (nI k)), (4, .int (a)), (5, .int (b))]) hx hb dX8_put_34 hl (by decide) rfl (fun ls hl => ?_)
      have hb1 := rsPl_le P j i
      refine lv_iload hx hb dX8_put_36 (lv_at hl 0 rfl) ?_
      refine lv_if_le (tgt := 48) hx hb dX8_put_38 (by decide) (fun c_38 => ?_) (fun c_38 => ?_)
      · have c_38 : (rsPl P j i) = 0 := by have h9 := nc_le (a := (rsPl P j i)) (b := 0) (by omega) (by omega) c_38; omega
        obtain ⟨t, q, h1j, hkt, hqt, rfl⟩ := rsPl_0 c_38
        have htt : t < 513 := by have := hw.2.2.2.1 j; have := hw.2.2.1; omega
        have hlt := hw.2.1 t
        have hn513 := hw.2.2.1
        refine lv_aload_n hx hb dX8_put_48 rfl (lv_at hl 1 rfl) ?_
        refine lv_iload_n hx hb dX8_put_49 rfl (lv_at hl 4 rfl) ?_
        refine lv_iload hx hb dX8_put_50 (lv_at hl 5 rfl) ?_
        refine lv_iload hx hb dX8_put_52 (lv_at hl 6 rfl) ?_
        refine cm_V (As' := [.int (nI k), .int (a), .int (b)]) (rest := []) hC (c_X8_tell (by omega)) mv_X8_tell qM_X8_124 ⟨⟨rfl, rfl⟩, Nat.le_of_ble_eq_true rfl, Nat.le_of_ble_eq_true rfl⟩ hK hH hS hA (hp.recv hK hH (i := 0) (by decide) rfl rfl) hl.1 ⟨Nat.zero_le _, Nat.zero_le _⟩ rfl rfl (Nat.le_of_ble_eq_true rfl) dX8_put_54 (fun H locs hH hS => ?_)
        refine lv_aload_n hx hb dX8_put_57 rfl (lv_at hl 1 rfl) ?_
        refine lv_aload_n hx hb dX8_put_58 rfl (lv_at hl 1 rfl) ?_
        refine lv_iload_n hx hb dX8_put_59 rfl (lv_at hl 2 rfl) ?_
        refine cm_V (As' := [.int (nI j)]) (rest := [.ref (ad 0)]) hC (c_X8_in1 hj h1j) mv_X8_in qM_X8_56 ⟨⟨rfl, rfl⟩, Nat.le_of_ble_eq_true rfl, Nat.le_of_ble_eq_true rfl⟩ hK hH hS hA (hp.recv hK hH (i := 0) (by decide) rfl rfl) hl.1 ⟨Nat.zero_le _, Nat.zero_le _⟩ rfl rfl (Nat.le_of_ble_eq_true rfl) dX8_put_60 (fun H locs hH hS => ?_)
        refine cm_V (As' := [.int (nI t)]) (rest := []) hC (c_X8_goesIn (by omega) (by omega) hw (fun h => absurd h (by omega)) (by omega)) mv_X8_goesIn qM_X8_128 ⟨⟨rfl, rfl⟩, Nat.le_of_ble_eq_true rfl, Nat.le_of_ble_eq_true rfl⟩ hK hH hS hA (hp.recv hK hH (i := 0) (by decide) rfl rfl) hl.1 ⟨Nat.zero_le _, Nat.zero_le _⟩ rfl rfl (Nat.le_of_ble_eq_true rfl) dX8_put_63 (fun H locs hH hS => ?_)
        refine lv_if_ne (tgt := 75) hx hb dX8_put_66 (by decide) (fun c_66 => ?_) (fun c_66 => ?_)
        · have c_66 := b2i_t c_66
          have hg : P.kd t < 8 ∧ goes k (P.kd t) = true := goesI_k (by omega) c_66
          refine lv_aload_n hx hb dX8_put_75 rfl (lv_at hl 1 rfl) ?_
          refine lv_aload_n hx hb dX8_put_76 rfl (lv_at hl 1 rfl) ?_
          refine g_get hC hK inG8 hH 0 (by decide) rfl rfl 1 (by decide) qF_X8_13 (Or.inl rfl) rfl dX8_put_77 ?_
          refine lv_aload_n hx hb dX8_put_80 rfl (lv_at hl 1 rfl) ?_
          refine lv_iload_n hx hb dX8_put_81 rfl (lv_at hl 2 rfl) ?_
          refine cm_V (As' := [.int (nI j)]) (rest := [.ref (ad 2), .ref (ad 0)]) hC (c_X8_in1 hj h1j) mv_X8_in qM_X8_56 ⟨⟨rfl, rfl⟩, Nat.le_of_ble_eq_true rfl, Nat.le_of_ble_eq_true rfl⟩ hK hH hS hA (hp.recv hK hH (i := 0) (by decide) rfl rfl) hl.1 ⟨Nat.zero_le _, Nat.zero_le _⟩ rfl rfl (Nat.le_of_ble_eq_true rfl) dX8_put_82 (fun H locs hH hS => ?_)
          refine gN_iald hC hK hH 2 (by decide) rfl t (by omega) dX8_put_85 ?_
          refine cm_V (As' := [.int (nI (P.kd t))]) (rest := []) hC (c_X8_widen (by omega) (by omega)) mv_X8_widen qM_X8_131 ⟨⟨rfl, rfl⟩, Nat.le_of_ble_eq_true rfl, Nat.le_of_ble_eq_true rfl⟩ hK hH hS hA (hp.recv hK hH (i := 0) (by decide) rfl rfl) hl.1 ⟨Nat.zero_le _, Nat.zero_le _⟩ rfl rfl (Nat.le_of_ble_eq_true rfl) dX8_put_86 (fun H locs hH hS => ?_)
          refine lv_aload_n hx hb dX8_put_89 rfl (lv_at hl 1 rfl) ?_
          refine lv_aload_n hx hb dX8_put_90 rfl (lv_at hl 1 rfl) ?_
          refine lv_iload_n hx hb dX8_put_91 rfl (lv_at hl 2 rfl) ?_
          refine cm_V (As' := [.int (nI j)]) (rest := [.ref (ad 0)]) hC (c_X8_in1 hj h1j) mv_X8_in qM_X8_56 ⟨⟨rfl, rfl⟩, Nat.le_of_ble_eq_true rfl, Nat.le_of_ble_eq_true rfl⟩ hK hH hS hA (hp.recv hK hH (i := 0) (by decide) rfl rfl) hl.1 ⟨Nat.zero_le _, Nat.zero_le _⟩ rfl rfl (Nat.le_of_ble_eq_true rfl) dX8_put_92 (fun H locs hH hS => ?_)
          refine lv_iload_n hx hb dX8_put_95 rfl (lv_at hl 3 rfl) ?_
          refine cm_V (As' := [.int (nI t), .int (nI q)]) (rest := []) hC (c_X8_set (by omega) (by omega)) mv_X8_set qM_X8_135 ⟨⟨rfl, rfl⟩, Nat.le_of_ble_eq_true rfl, Nat.le_of_ble_eq_true rfl⟩ hK hH hS hA (hp.recv hK hH (i := 0) (by decide) rfl rfl) hl.1 ⟨Nat.zero_le _, Nat.zero_le _⟩ rfl rfl (Nat.le_of_ble_eq_true rfl) dX8_put_96 (fun H locs hH hS => ?_)
          refine lv_iconst (v := 1) hx hb dX8_put_99 (by decide) ?_
          exact cx_ri hC hr hlk (mpost.mk (by simp [sp_put, rf, c_9, cN_c hj, c_19, cN_s hk (by decide), c_38, h1j, cN_p hw hqt, hg] <;> rfl)) hH hS dX8_put_100
        · have c_66 := b2i_f c_66
          have hg : ¬ (P.kd t < 8 ∧ goes k (P.kd t) = true) := goesI_nk (by omega) c_66
          refine lv_aload_n hx hb dX8_put_69 rfl (lv_at hl 1 rfl) ?_
          refine lv_iconst (v := 5) hx hb dX8_put_70 (by decide) ?_
          refine cm_V (As' := [.int (5)]) (rest := []) hC (c_X8_refuse) mv_X8_refuse qM_X8_105 ⟨⟨rfl, rfl⟩, Nat.le_of_ble_eq_true rfl, Nat.le_of_ble_eq_true rfl⟩ hK hH hS hA (hp.recv hK hH (i := 0) (by decide) rfl rfl) hl.1 ⟨Nat.zero_le _, Nat.zero_le _⟩ rfl rfl (Nat.le_of_ble_eq_true rfl) dX8_put_71 (fun H locs hH hS => ?_)
          exact cx_ri hC hr hlk (mpost.mk (by simp [sp_put, rf, c_9, cN_c hj, c_19, cN_s hk (by decide), c_38, h1j, cN_p hw hqt, hg] <;> rfl)) hH hS dX8_put_74
      · have c_38 : ¬ (rsPl P j i) = 0 := by have h9 := nc_nle (a := (rsPl P j i)) (b := 0) (by omega) (by omega) c_38; omega
        refine lv_aload_n hx hb dX8_put_41 rfl (lv_at hl 1 rfl) ?_
        refine lv_iload hx hb dX8_put_42 (lv_at hl 0 rfl) ?_
        refine cm_V (As' := [.int (nI (rsPl P j i))]) (rest := []) hC (c_X8_refuse) mv_X8_refuse qM_X8_105 ⟨⟨rfl, rfl⟩, Nat.le_of_ble_eq_true rfl, Nat.le_of_ble_eq_true rfl⟩ hK hH hS hA (hp.recv hK hH (i := 0) (by decide) rfl rfl) hl.1 ⟨Nat.zero_le _, Nat.zero_le _⟩ rfl rfl (Nat.le_of_ble_eq_true rfl) dX8_put_44 (fun H locs hH hS => ?_)
        exact cx_ri hC hr hlk (mpost.mk (by simp [sp_put, rf, c_9, cN_c hj, c_19, cN_s hk (by decide), c_38] <;> rfl)) hH hS dX8_put_47
    · have c_19 := b2i_f c_19
      refine lv_aload_n hx hb dX8_put_22 rfl (lv_at hl 0 rfl) ?_
      refine lv_iconst (v := 1) hx hb dX8_put_23 (by decide) ?_
      refine cm_V (As' := [.int (1)]) (rest := []) hC (c_X8_refuse) mv_X8_refuse qM_X8_105 ⟨⟨rfl, rfl⟩, Nat.le_of_ble_eq_true rfl, Nat.le_of_ble_eq_true rfl⟩ hK hH hS hA (hp.recv hK hH (i := 0) (by decide) rfl rfl) hl.1 ⟨Nat.zero_le _, Nat.zero_le _⟩ rfl rfl (Nat.le_of_ble_eq_true rfl) dX8_put_24 (fun H locs hH hS => ?_)
      exact cx_ri hC hr hlk (mpost.mk (by simp [sp_put, rf, c_9, cN_c hj, c_19] <;> rfl)) hH hS dX8_put_27
