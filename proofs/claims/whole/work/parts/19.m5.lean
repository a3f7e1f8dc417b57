theorem mv_X8_reasonOfRows : mvok RX8 yX8_reasonOfRows cX8_reasonOfRows 4 (some .int) 3 := ⟨qK_X8_reasonOfRows, qI_X8_reasonOfRows, qSel_X8_X8_reasonOfRows, qInit_X8, by decide +kernel⟩
set_option maxHeartbeats 4000000 in
set_option maxRecDepth 100000 in
theorem c_X8_reasonOfRows {l : Launch} {D : va_G} {cy : Nat → ClassId} {ad : Nat → Nat} {P : AS} {wy : Int32} {so : Int32} {w : Int64} {r : UInt64} {ns : Nat → Int32} {nw : Nat → Int64} {nr : Nat → UInt64} {fr : Nat → Int32} {tt : Nat → Int32} {j k u : Nat} (hj : j < 12) (hk : k < 12) (hu : u < 12) (hw : WF P) : CM l yX8_reasonOfRows cX8_reasonOfRows 4 (some .int) (rm_ 1 21) D cy 13 ad [.ref (ad 0), .int (nI j), .int (nI k), .int (nI u)] (mct cy ad P wy so w r ns nw nr fr tt) (some (.int (nI (rsRows P j k u)))) (mct cy ad P wy so w r ns nw nr fr tt) := by
  refine CM.start (by decide) (Nat.le_of_ble_eq_true rfl) ?_
  intro p_ e_ s m_ below meth cd A ls hC hr hlk hin hK hA hH hl
  obtain ⟨hx, hb, hml, hown, hts⟩ := id hC
  have hS : va_S A s.heap s.heap [] := va_S.rf
  have hl : lv_has ls 4 [(0, .ref (ad 0)), (1, .int (nI j)), (2, .int (nI k)), (3, .int (nI u))] := hl
  rcases co_cases (P.co j) with h0j | ⟨ta, h1j⟩
  · refine lv_aload_n hx hb dX8_reasonOfRows_0 rfl (lv_at hl 0 rfl) ?_
    refine lv_iload_n hx hb dX8_reasonOfRows_1 rfl (lv_at hl 1 rfl) ?_
    refine cm_V (As' := [.int (nI j)]) (rest := []) hC (c_X8_in0 hj h0j) mv_X8_in qM_X8_56 ⟨⟨rfl, rfl⟩, Nat.le_of_ble_eq_true rfl, Nat.le_of_ble_eq_true rfl⟩ hK hH hS hA (hp.recv hK hH (i := 0) (by decide) rfl rfl) hl.1 ⟨Nat.zero_le _, Nat.zero_le _⟩ rfl rfl (Nat.le_of_ble_eq_true rfl) dX8_reasonOfRows_2 (fun H locs hH hS => ?_)
    refine lv_if_lt (tgt := 24) hx hb dX8_reasonOfRows_5 (by decide) (fun c_5 => ?_) (fun c_5 => absurd c_5 (by decide))
    refine lv_iconst (v := 2) hx hb dX8_reasonOfRows_24 (by decide) ?_
    exact cm_ri hC hr hlk (by simp [rsRows, h0j] <;> rfl) (rfl) hH hS dX8_reasonOfRows_25
  · refine lv_aload_n hx hb dX8_reasonOfRows_0 rfl (lv_at hl 0 rfl) ?_
    refine lv_iload_n hx hb dX8_reasonOfRows_1 rfl (lv_at hl 1 rfl) ?_
    have htta : ta < 513 := by have := hw.2.2.2.1 j; have := hw.2.2.1; omega
    refine cm_V (As' := [.int (nI j)]) (rest := []) hC (c_X8_in1 hj h1j) mv_X8_in qM_X8_56 ⟨⟨rfl, rfl⟩, Nat.le_of_ble_eq_true rfl, Nat.le_of_ble_eq_true rfl⟩ hK hH hS hA (hp.recv hK hH (i := 0) (by decide) rfl rfl) hl.1 ⟨Nat.zero_le _, Nat.zero_le _⟩ rfl rfl (Nat.le_of_ble_eq_true rfl) dX8_reasonOfRows_2 (fun H locs hH hS => ?_)
    refine lv_if_lt (tgt := 24) hx hb dX8_reasonOfRows_5 (by decide) (fun c_5 => absurd c_5 (nI_pos (by omega))) (fun c_5 => ?_)
    rcases co_cases (P.co k) with h0k | ⟨tb, h1k⟩
    · refine lv_aload_n hx hb dX8_reasonOfRows_8 rfl (lv_at hl 0 rfl) ?_
      refine lv_iload_n hx hb dX8_reasonOfRows_9 rfl (lv_at hl 2 rfl) ?_
      refine cm_V (As' := [.int (nI k)]) (rest := []) hC (c_X8_in0 hk h0k) mv_X8_in qM_X8_56 ⟨⟨rfl, rfl⟩, Nat.le_of_ble_eq_true rfl, Nat.le_of_ble_eq_true rfl⟩ hK hH hS hA (hp.recv hK hH (i := 0) (by decide) rfl rfl) hl.1 ⟨Nat.zero_le _, Nat.zero_le _⟩ rfl rfl (Nat.le_of_ble_eq_true rfl) dX8_reasonOfRows_10 (fun H locs hH hS => ?_)
      refine lv_if_lt (tgt := 24) hx hb dX8_reasonOfRows_13 (by decide) (fun c_13 => ?_) (fun c_13 => absurd c_13 (by decide))
      refine lv_iconst (v := 2) hx hb dX8_reasonOfRows_24 (by decide) ?_
      exact cm_ri hC hr hlk (by simp [rsRows, h1j, h0k] <;> rfl) (rfl) hH hS dX8_reasonOfRows_25
    · refine lv_aload_n hx hb dX8_reasonOfRows_8 rfl (lv_at hl 0 rfl) ?_
      refine lv_iload_n hx hb dX8_reasonOfRows_9 rfl (lv_at hl 2 rfl) ?_
      have httb : tb < 513 := by have := hw.2.2.2.1 k; have := hw.2.2.1; omega
      refine cm_V (As' := [.int (nI k)]) (rest := []) hC (c_X8_in1 hk h1k) mv_X8_in qM_X8_56 ⟨⟨rfl, rfl⟩, Nat.le_of_ble_eq_true rfl, Nat.le_of_ble_eq_true rfl⟩ hK hH hS hA (hp.recv hK hH (i := 0) (by decide) rfl rfl) hl.1 ⟨Nat.zero_le _, Nat.zero_le _⟩ rfl rfl (Nat.le_of_ble_eq_true rfl) dX8_reasonOfRows_10 (fun H locs hH hS => ?_)
      refine lv_if_lt (tgt := 24) hx hb dX8_reasonOfRows_13 (by decide) (fun c_13 => absurd c_13 (nI_pos (by omega))) (fun c_13 => ?_)
      rcases co_cases (P.co u) with h0u | ⟨tc, h1u⟩
      · refine lv_aload_n hx hb dX8_reasonOfRows_16 rfl (lv_at hl 0 rfl) ?_
        refine lv_iload_n hx hb dX8_reasonOfRows_17 rfl (lv_at hl 3 rfl) ?_
        refine cm_V (As' := [.int (nI u)]) (rest := []) hC (c_X8_in0 hu h0u) mv_X8_in qM_X8_56 ⟨⟨rfl, rfl⟩, Nat.le_of_ble_eq_true rfl, Nat.le_of_ble_eq_true rfl⟩ hK hH hS hA (hp.recv hK hH (i := 0) (by decide) rfl rfl) hl.1 ⟨Nat.zero_le _, Nat.zero_le _⟩ rfl rfl (Nat.le_of_ble_eq_true rfl) dX8_reasonOfRows_18 (fun H locs hH hS => ?_)
        refine lv_if_ge (tgt := 26) hx hb dX8_reasonOfRows_21 (by decide) (fun c_21 => absurd c_21 (by decide)) (fun c_21 => ?_)
        refine lv_iconst (v := 2) hx hb dX8_reasonOfRows_24 (by decide) ?_
        exact cm_ri hC hr hlk (by simp [rsRows, h1j, h1k, h0u] <;> rfl) (rfl) hH hS dX8_reasonOfRows_25
      · refine lv_aload_n hx hb dX8_reasonOfRows_16 rfl (lv_at hl 0 rfl) ?_
        refine lv_iload_n hx hb dX8_reasonOfRows_17 rfl (lv_at hl 3 rfl) ?_
        have httc : tc < 513 := by have := hw.2.2.2.1 u; have := hw.2.2.1; omega
        refine cm_V (As' := [.int (nI u)]) (rest := []) hC (c_X8_in1 hu h1u) mv_X8_in qM_X8_56 ⟨⟨rfl, rfl⟩, Nat.le_of_ble_eq_true rfl, Nat.le_of_ble_eq_true rfl⟩ hK hH hS hA (hp.recv hK hH (i := 0) (by decide) rfl rfl) hl.1 ⟨Nat.zero_le _, Nat.zero_le _⟩ rfl rfl (Nat.le_of_ble_eq_true rfl) dX8_reasonOfRows_18 (fun H locs hH hS => ?_)
        refine lv_if_ge (tgt := 26) hx hb dX8_reasonOfRows_21 (by decide) (fun c_21 => ?_) (fun c_21 => absurd (nI_pos' (by omega)) c_21)
        refine lv_aload_n hx hb dX8_reasonOfRows_26 rfl (lv_at hl 0 rfl) ?_
        refine lv_aload_n hx hb dX8_reasonOfRows_27 rfl (lv_at hl 0 rfl) ?_
        refine lv_iload_n hx hb dX8_reasonOfRows_28 rfl (lv_at hl 1 rfl) ?_
        refine cm_V (As' := [.int (nI j)]) (rest := [.ref (ad 0)]) hC (c_X8_in1 hj h1j) mv_X8_in qM_X8_56 ⟨⟨rfl, rfl⟩, Nat.le_of_ble_eq_true rfl, Nat.le_of_ble_eq_true rfl⟩ hK hH hS hA (hp.recv hK hH (i := 0) (by decide) rfl rfl) hl.1 ⟨Nat.zero_le _, Nat.zero_le _⟩ rfl rfl (Nat.le_of_ble_eq_true rfl) dX8_reasonOfRows_29 (fun H locs hH hS => ?_)
        refine cm_V (As' := [.int (nI ta)]) (rest := []) hC (c_X8_isRow (by omega) hw) mv_X8_isRow qM_X8_60 ⟨⟨rfl, rfl⟩, Nat.le_of_ble_eq_true rfl, Nat.le_of_ble_eq_true rfl⟩ hK hH hS hA (hp.recv hK hH (i := 0) (by decide) rfl rfl) hl.1 ⟨Nat.zero_le _, Nat.zero_le _⟩ rfl rfl (Nat.le_of_ble_eq_true rfl) dX8_reasonOfRows_32 (fun H locs hH hS => ?_)
        refine lv_if_eq (tgt := 66) hx hb dX8_reasonOfRows_35 (by decide) (fun c_35 => ?_) (fun c_35 => ?_)
        · have c_35 := b2d_f c_35
          refine lv_iconst (v := 3) hx hb dX8_reasonOfRows_66 (by decide) ?_
          exact cm_ri hC hr hlk (by simp [rsRows, h1j, h1k, h1u, c_35] <;> rfl) (rfl) hH hS dX8_reasonOfRows_67
        · have c_35 := b2d_t c_35
          refine lv_aload_n hx hb dX8_reasonOfRows_38 rfl (lv_at hl 0 rfl) ?_
          refine lv_aload_n hx hb dX8_reasonOfRows_39 rfl (lv_at hl 0 rfl) ?_
          refine lv_iload_n hx hb dX8_reasonOfRows_40 rfl (lv_at hl 2 rfl) ?_
          refine cm_V (As' := [.int (nI k)]) (rest := [.ref (ad 0)]) hC (c_X8_in1 hk h1k) mv_X8_in qM_X8_56 ⟨⟨rfl, rfl⟩, Nat.le_of_ble_eq_true rfl, Nat.le_of_ble_eq_true rfl⟩ hK hH hS hA (hp.recv hK hH (i := 0) (by decide) rfl rfl) hl.1 ⟨Nat.zero_le _, Nat.zero_le _⟩ rfl rfl (Nat.le_of_ble_eq_true rfl) dX8_reasonOfRows_41 (fun H locs hH hS => ?_)
          refine cm_V (As' := [.int (nI tb)]) (rest := []) hC (c_X8_isRow (by omega) hw) mv_X8_isRow qM_X8_60 ⟨⟨rfl, rfl⟩, Nat.le_of_ble_eq_true rfl, Nat.le_of_ble_eq_true rfl⟩ hK hH hS hA (hp.recv hK hH (i := 0) (by decide) rfl rfl) hl.1 ⟨Nat.zero_le _, Nat.zero_le _⟩ rfl rfl (Nat.le_of_ble_eq_true rfl) dX8_reasonOfRows_44 (fun H locs hH hS => ?_)
          refine lv_if_eq (tgt := 66) hx hb dX8_reasonOfRows_47 (by decide) (fun c_47 => ?_) (fun c_47 => ?_)
          · have c_47 := b2d_f c_47
            refine lv_iconst (v := 3) hx hb dX8_reasonOfRows_66 (by decide) ?_
            exact cm_ri hC hr hlk (by simp [rsRows, h1j, h1k, h1u, c_35, c_47] <;> rfl) (rfl) hH hS dX8_reasonOfRows_67
          · have c_47 := b2d_t c_47
            refine lv_aload_n hx hb dX8_reasonOfRows_50 rfl (lv_at hl 0 rfl) ?_
            refine lv_aload_n hx hb dX8_reasonOfRows_51 rfl (lv_at hl 0 rfl) ?_
            refine lv_iload_n hx hb dX8_reasonOfRows_52 rfl (lv_at hl 3 rfl) ?_
            refine cm_V (As' := [.int (nI u)]) (rest := [.ref (ad 0)]) hC (c_X8_in1 hu h1u) mv_X8_in qM_X8_56 ⟨⟨rfl, rfl⟩, Nat.le_of_ble_eq_true rfl, Nat.le_of_ble_eq_true rfl⟩ hK hH hS hA (hp.recv hK hH (i := 0) (by decide) rfl rfl) hl.1 ⟨Nat.zero_le _, Nat.zero_le _⟩ rfl rfl (Nat.le_of_ble_eq_true rfl) dX8_reasonOfRows_53 (fun H locs hH hS => ?_)
            refine cm_V (As' := [.int (nI tc)]) (rest := []) hC (c_X8_isRow (by omega) hw) mv_X8_isRow qM_X8_60 ⟨⟨rfl, rfl⟩, Nat.le_of_ble_eq_true rfl, Nat.le_of_ble_eq_true rfl⟩ hK hH hS hA (hp.recv hK hH (i := 0) (by decide) rfl rfl) hl.1 ⟨Nat.zero_le _, Nat.zero_le _⟩ rfl rfl (Nat.le_of_ble_eq_true rfl) dX8_reasonOfRows_56 (fun H locs hH hS => ?_)
            refine lv_if_eq (tgt := 66) hx hb dX8_reasonOfRows_59 (by decide) (fun c_59 => ?_) (fun c_59 => ?_)
            · have c_59 := b2d_f c_59
              refine lv_iconst (v := 3) hx hb dX8_reasonOfRows_66 (by decide) ?_
              exact cm_ri hC hr hlk (by simp [rsRows, h1j, h1k, h1u, c_35, c_47, c_59] <;> rfl) (rfl) hH hS dX8_reasonOfRows_67
            · have c_59 := b2d_t c_59
              refine lv_iconst (v := 0) hx hb dX8_reasonOfRows_62 (by decide) ?_
              refine lv_goto (tgt := 67) hx hb dX8_reasonOfRows_63 (by decide) ?_
              exact cm_ri hC hr hlk (by simp [rsRows, h1j, h1k, h1u, c_35, c_47, c_59] <;> rfl) (rfl) hH hS dX8_reasonOfRows_67
theorem mv_X8_tellsPlaces : mvok RX8 yX8_tellsPlaces cX8_tellsPlaces 2 (some .boolean) 1 := ⟨qK_X8_tellsPlaces, qI_X8_tellsPlaces, qSel_X8_X8_tellsPlaces, qInit_X8, by decide +kernel⟩
set_option maxHeartbeats 4000000 in
set_option maxRecDepth 100000 in
theorem c_X8_tellsPlaces {l : Launch} {D : va_G} {cy : Nat → ClassId} {ad : Nat → Nat} {P : AS} {wy : Int32} {so : Int32} {w : Int64} {r : UInt64} {ns : Nat → Int32} {nw : Nat → Int64} {nr : Nat → UInt64} {fr : Nat → Int32} {tt : Nat → Int32} {u : Nat} (hu : u < 513) (hw : WF P) : CM l yX8_tellsPlaces cX8_tellsPlaces 2 (some .boolean) (rm_ 1 22) D cy 13 ad [.ref (ad 0), .int (nI u)] (mct cy ad P wy so w r ns nw nr fr tt) (some (.int (b2i (tlP P u)))) (mct cy ad P wy so w r ns nw nr fr tt) := by
  refine CM.start (by decide) (Nat.le_of_ble_eq_true rfl) ?_
  intro p_ e_ s m_ below meth cd A ls hC hr hlk hin hK hA hH hl
  obtain ⟨hx, hb, hml, hown, hts⟩ := id hC
  have hS : va_S A s.heap s.heap [] := va_S.rf
  have hl : lv_has ls 2 [(0, .ref (ad 0)), (1, .int (nI u))] := hl
  refine lv_aload_n hx hb dX8_tellsPlaces_0 rfl (lv_at hl 0 rfl) ?_
  refine lv_iload_n hx hb dX8_tellsPlaces_1 rfl (lv_at hl 1 rfl) ?_
  refine cm_V (As' := [.int (nI u)]) (rest := []) hC (c_X8_isPlain (by omega) hw) mv_X8_isPlain qM_X8_91 ⟨⟨rfl, rfl⟩, Nat.le_of_ble_eq_true rfl, Nat.le_of_ble_eq_true rfl⟩ hK hH hS hA (hp.recv hK hH (i := 0) (by decide) rfl rfl) hl.1 ⟨Nat.zero_le _, Nat.zero_le _⟩ rfl rfl (Nat.le_of_ble_eq_true rfl) dX8_tellsPlaces_2 (fun H locs hH hS => ?_)
  refine lv_if_eq (tgt := 26) hx hb dX8_tellsPlaces_5 (by decide) (fun c_5 => ?_) (fun c_5 => ?_)
  · have c_5 := b2d_f c_5
    refine lv_iconst (v := 0) hx hb dX8_tellsPlaces_26 (by decide) ?_
    exact cm_rz hC hr hlk (by first | exact Or.inl rfl | exact Or.inr rfl | exact b2i_01 _) (by simp [tlP, b2i, c_5]) (rfl) hH hS dX8_tellsPlaces_27
  · have c_5 := b2d_t c_5
    refine lv_aload_n hx hb dX8_tellsPlaces_8 rfl (lv_at hl 0 rfl) ?_
    refine lv_aload_n hx hb dX8_tellsPlaces_9 rfl (lv_at hl 0 rfl) ?_
    refine g_get hC hK inG8 hH 0 (by decide) rfl rfl 1 (by decide) qF_X8_13 (Or.inl rfl) rfl dX8_tellsPlaces_10 ?_
    refine lv_iload_n hx hb dX8_tellsPlaces_13 rfl (lv_at hl 1 rfl) ?_
    refine gN_iald hC hK hH 2 (by decide) rfl u (by omega) dX8_tellsPlaces_14 ?_
    refine lv_iconst (v := 4) hx hb dX8_tellsPlaces_15 (by decide) ?_
    refine cm_V (As' := [.int (nI (P.kd u)), .int (4)]) (rest := []) hC (c_X8_goesInto (a := (P.kd u)) (b := 4) (by omega) (by omega)) mv_X8_goesInto qM_X8_94 ⟨⟨rfl, rfl⟩, Nat.le_of_ble_eq_true rfl, Nat.le_of_ble_eq_true rfl⟩ hK hH hS hA (hp.recv hK hH (i := 0) (by decide) rfl rfl) hl.1 ⟨Nat.zero_le _, Nat.zero_le _⟩ rfl rfl (Nat.le_of_ble_eq_true rfl) dX8_tellsPlaces_16 (fun H locs hH hS => ?_)
    refine lv_if_eq (tgt := 26) hx hb dX8_tellsPlaces_19 (by decide) (fun c_19 => ?_) (fun c_19 => ?_)
    · have c_19 := b2i_f c_19
      refine lv_iconst (v := 0) hx hb dX8_tellsPlaces_26 (by decide) ?_
      exact cm_rz hC hr hlk (by first | exact Or.inl rfl | exact Or.inr rfl | exact b2i_01 _) (by simp [tlP, b2i, c_5, c_19]) (rfl) hH hS dX8_tellsPlaces_27
    · have c_19 := b2i_t c_19
      refine lv_iconst (v := 1) hx hb dX8_tellsPlaces_22 (by decide) ?_
      refine lv_goto (tgt := 27) hx hb dX8_tellsPlaces_23 (by decide) ?_
      exact cm_rz hC hr hlk (by first | exact Or.inl rfl | exact Or.inr rfl | exact b2i_01 _) (by simp [tlP, b2i, c_5, c_19]) (rfl) hH hS dX8_tellsPlaces_27
theorem mv_X8_carry : mvok RX8 yX8_carry cX8_carry 5 (some .int) 3 := ⟨qK_X8_carry, qI_X8_carry, qSel_X8_X8_carry, qInit_X8, by decide +kernel⟩
set_option maxHeartbeats 4000000 in
set_option maxRecDepth 100000 in
theorem c_X8_carry {l : Launch} {D : va_G} {cy : Nat → ClassId} {ad : Nat → Nat} {P : AS} {wy : Int32} {so : Int32} {w : Int64} {r : UInt64} {ns : Nat → Int32} {nw : Nat → Int64} {nr : Nat → UInt64} {fr : Nat → Int32} {tt : Nat → Int32} {f t N : Nat} (hf : f < 513) (ht : t < 513) (hfr : P.kd f < 12) (htr : P.kd t < 12) (hN : N ≤ 24) (hw : WF P) : CX l yX8_carry cX8_carry 5 (some .int) (rm_ 2 46) D cy 13 ad [.ref (ad 0), .int (nI f), .int (nI t), .int (nI N)] (mct cy ad P wy so w r ns nw nr fr tt) (mpost cy ad (sp_move P wy f t fr tt N)) := by
  have hlf := hw.2.1 f
  have hlt := hw.2.1 t
  refine CX.startQ (by decide) (Nat.le_of_ble_eq_true rfl) ?_
  intro p_ e_ s m_ args_ below meth cd A ls Q hQ hC hr hlk hK hA hH hl
  obtain ⟨hx, hb, hml, hown, hts⟩ := id hC
  have hS : va_S A s.heap s.heap [] := va_S.rf
  have hl : lv_has ls 5 [(0, .ref (ad 0)), (1, .int (nI f)), (2, .int (nI t)), (3, .int (nI N))] := hl
  refine lv_iconst (v := 0) hx hb dX8_carry_0 (by decide) ?_
  refine lv_istore (lv' := [(4, .int (0)), (0, .ref (ad 0)), (1, .int (nI f)), (2, .int (nI t)), (3, .int (nI N))]) hx hb dX8_carry_1 hl (by decide) rfl (fun ls hl => ?_)
  have lp1 : ∀ (n9 k : Nat), k ≤ N → N < k + n9 → ∀ (so : Int32) (w : Int64) (r : UInt64) (hz : mvR P f t fr tt k = 0) (H : Heap) (locs : List Loc), hp D A 13 ad (mct cy ad P wy so w r ns (ldL nw (fun j => (mvV P f t (cN (fr j))).1) k) (ldD nr (fun j => (mvV P f t (cN (fr j))).2) k) fr tt) H → va_S A s.heap H locs → ∀ (ls : Array Slot), lv_has ls 5 [(4, .int (nI k)), (0, .ref (ad 0)), (1, .int (nI f)), (2, .int (nI t)), (3, .int (nI N))] → W p_ l e_ (rm_ 2 46) s m_ args_ below meth cd H locs 0 0 Q (F0 m_ 3 ls []) := by
    intro n9
    induction n9 with
    | zero => intro k h1 h2; omega
    | succ n9 ih_lp1 =>
      intro k hk1 hk2 so w r hz H locs hH hS ls hl
      refine lv_iload hx hb dX8_carry_3 (lv_at hl 0 rfl) ?_
      refine lv_iload_n hx hb dX8_carry_5 rfl (lv_at hl 4 rfl) ?_
      refine lv_icmp_ge (tgt := 118) hx hb dX8_carry_6 (by decide) (fun c_6 => ?_) (fun c_6 => ?_)
      · have c_6 := nc_le (a := N) (b := k) (by omega) (by omega) c_6
        have hz9 : mvR P f t fr tt N = 0 := by rw [show N = k by omega]; exact hz
        refine lv_iconst (v := 0) hx hb dX8_carry_118 (by decide) ?_
        refine lv_istore (lv' := [(4, .int (0)), (0, .ref (ad 0)), (1, .int (nI f)), (2, .int (nI t)), (3, .int (nI N))]) hx hb dX8_carry_119 hl (by decide) rfl (fun ls hl => ?_)
        have lp2 : ∀ (n9 i2 : Nat), i2 ≤ N → N < i2 + n9 → ∀   (H : Heap) (locs : List Loc), hp D A 13 ad (mct cy ad (mvW P f t fr tt i2) wy so w r ns (ldL nw (fun j => (mvV P f t (cN (fr j))).1) k) (ldD nr (fun j => (mvV P f t (cN (fr j))).2) k) fr tt) H → va_S A s.heap H locs → ∀ (ls : Array Slot), lv_has ls 5 [(4, .int (nI i2)), (0, .ref (ad 0)), (1, .int (nI f)), (2, .int (nI t)), (3, .int (nI N))] → W p_ l e_ (rm_ 2 46) s m_ args_ below meth cd H locs 0 0 Q (F0 m_ 121 ls []) := by
          intro n9
          induction n9 with
          | zero => intro i2 h1 h2; omega
          | succ n9 ih_lp2 =>
            intro i2 hk1 hk2   H locs hH hS ls hl
            refine lv_iload hx hb dX8_carry_121 (lv_at hl 0 rfl) ?_
            refine lv_iload_n hx hb dX8_carry_123 rfl (lv_at hl 4 rfl) ?_
            refine lv_icmp_ge (tgt := 181) hx hb dX8_carry_124 (by decide) (fun c_124 => ?_) (fun c_124 => ?_)
            · have c_124 := nc_le (a := N) (b := i2) (by omega) (by omega) c_124
              refine lv_iload_n hx hb dX8_carry_181 rfl (lv_at hl 4 rfl) ?_
              subst hQ
              exact cx_ri hC hr hlk (mpost.mk (by unfold sp_move; rw [if_pos hz9, show i2 = N by omega])) hH hS dX8_carry_182
            · have c_124 := nc_nle (a := N) (b := i2) (by omega) (by omega) c_124
              refine lv_aload_n hx hb dX8_carry_127 rfl (lv_at hl 1 rfl) ?_
              refine g_get hC hK inG8 hH 0 (by decide) rfl rfl 4 (by decide) qF_X8_22 (Or.inl rfl) rfl dX8_carry_128 ?_
              refine lv_bipush (v := 24) hx hb dX8_carry_131 (by decide) ?_
              refine lv_iload_n hx hb dX8_carry_133 rfl (lv_at hl 3 rfl) ?_
              refine lv_imul hx hb dX8_carry_134 ?_
              refine lv_aload_n hx hb dX8_carry_135 rfl (lv_at hl 1 rfl) ?_
              refine g_get hC hK inG8 hH 0 (by decide) rfl rfl 16 (by decide) qF_X8_45 (Or.inl rfl) rfl dX8_carry_136 ?_
              refine lv_iload hx hb dX8_carry_139 (lv_at hl 0 rfl) ?_
              refine gN_iald hC hK hH 12 (by decide) rfl i2 (by omega) dX8_carry_141 ?_
              obtain ⟨hg1, hg2⟩ := hasP_c (mvr_0 (mvR_at hz9 (by omega : i2 < N))).2
              refine lv_chg (y := nI (cN (tt i2))) (hg1) ?_
              refine lv_iadd hx hb dX8_carry_142 ?_
              refine lv_aload_n hx hb dX8_carry_143 rfl (lv_at hl 1 rfl) ?_
              refine g_get hC hK inG8 hH 0 (by decide) rfl rfl 13 (by decide) qF_X8_36 (Or.inl rfl) rfl dX8_carry_144 ?_
              refine lv_iload hx hb dX8_carry_147 (lv_at hl 0 rfl) ?_
              refine gN_lald hC hK hH 9 (by decide) rfl i2 (by omega) dX8_carry_149 ?_
              refine lv_chgl (y := (mvV P f t (cN (fr i2))).1) (ldL_at (by omega)) ?_
              refine mr_whs hC hK hH hS t (cN (tt i2)) (by omega) dX8_carry_150 (fun H locs hH hS => ?_)
              refine lv_aload_n hx hb dX8_carry_151 rfl (lv_at hl 1 rfl) ?_
              refine g_get hC hK inG8 hH 0 (by decide) rfl rfl 5 (by decide) qF_X8_26 (Or.inl rfl) rfl dX8_carry_152 ?_
              refine lv_bipush (v := 24) hx hb dX8_carry_155 (by decide) ?_
              refine lv_iload_n hx hb dX8_carry_157 rfl (lv_at hl 3 rfl) ?_
              refine lv_imul hx hb dX8_carry_158 ?_
              refine lv_aload_n hx hb dX8_carry_159 rfl (lv_at hl 1 rfl) ?_
              refine g_get hC hK inG8 hH 0 (by decide) rfl rfl 16 (by decide) qF_X8_45 (Or.inl rfl) rfl dX8_carry_160 ?_
              refine lv_iload hx hb dX8_carry_163 (lv_at hl 0 rfl) ?_
              refine gN_iald hC hK hH 12 (by decide) rfl i2 (by omega) dX8_carry_165 ?_
              refine lv_chg (y := nI (cN (tt i2))) (hg1) ?_
              refine lv_iadd hx hb dX8_carry_166 ?_
              refine lv_aload_n hx hb dX8_carry_167 rfl (lv_at hl 1 rfl) ?_
              refine g_get hC hK inG8 hH 0 (by decide) rfl rfl 14 (by decide) qF_X8_39 (Or.inl rfl) rfl dX8_carry_168 ?_
              refine lv_iload hx hb dX8_carry_171 (lv_at hl 0 rfl) ?_
              refine gN_dald hC hK hH 10 (by decide) rfl i2 (by omega) dX8_carry_173 ?_
              refine lv_chgd (y := (mvV P f t (cN (fr i2))).2) (ldD_at (by omega)) ?_
              refine mr_res hC hK hH hS t (cN (tt i2)) (by omega) dX8_carry_174 (fun H locs hH hS => ?_)
              refine lv_iinc (v := nI (i2 + 1)) (lv' := [(4, .int (nI (i2 + 1))), (0, .ref (ad 0)), (1, .int (nI f)), (2, .int (nI t)), (3, .int (nI N))]) hx hb dX8_carry_175 hl (k := 0) rfl (nI_1 _) (by decide) rfl (fun ls hl => ?_)
              refine lv_goto (tgt := 121) hx hb dX8_carry_178 (by decide) ?_
              exact ih_lp2 (i2 + 1) (by omega) (by omega)   _ _ hH hS ls (lv_sub hl [0, 1, 2, 3, 4] rfl)
        exact lp2 (N + 1) 0 (by omega) (by omega)   _ _ hH hS ls (lv_sub hl [0, 1, 2, 3, 4] rfl)
      · have c_6 := nc_nle (a := N) (b := k) (by omega) (by omega) c_6
        have hkN : k < N := by omega
        refine lv_aload_n hx hb dX8_carry_9 rfl (lv_at hl 1 rfl) ?_
        refine lv_iload_n hx hb dX8_carry_10 rfl (lv_at hl 2 rfl) ?_
        refine lv_aload_n hx hb dX8_carry_11 rfl (lv_at hl 1 rfl) ?_
        refine g_get hC hK inG8 hH 0 (by decide) rfl rfl 15 (by decide) qF_X8_42 (Or.inl rfl) rfl dX8_carry_12 ?_
        refine lv_iload hx hb dX8_carry_15 (lv_at hl 0 rfl) ?_
        refine gN_iald hC hK hH 11 (by decide) rfl k (by omega) dX8_carry_17 ?_
        refine cm_V (As' := [.int (nI f), .int (fr k)]) (rest := []) hC (c_X8_hasPlace (by omega) hw) mv_X8_hasPlace qM_X8_117 ⟨⟨rfl, rfl⟩, Nat.le_of_ble_eq_true rfl, Nat.le_of_ble_eq_true rfl⟩ hK hH hS hA (hp.recv hK hH (i := 0) (by decide) rfl rfl) hl.1 ⟨Nat.zero_le _, Nat.zero_le _⟩ rfl rfl (Nat.le_of_ble_eq_true rfl) dX8_carry_18 (fun H locs hH hS => ?_)
        refine lv_if_eq (tgt := 39) hx hb dX8_carry_21 (by decide) (fun c_21 => ?_) (fun c_21 => ?_)
        · have c_21 := b2i_f c_21
          refine lv_aload_n hx hb dX8_carry_39 rfl (lv_at hl 1 rfl) ?_
          refine lv_iconst (v := 4) hx hb dX8_carry_40 (by decide) ?_
          refine cm_V (As' := [.int (4)]) (rest := []) hC (c_X8_refuse) mv_X8_refuse qM_X8_105 ⟨⟨rfl, rfl⟩, Nat.le_of_ble_eq_true rfl, Nat.le_of_ble_eq_true rfl⟩ hK hH hS hA (hp.recv hK hH (i := 0) (by decide) rfl rfl) hl.1 ⟨Nat.zero_le _, Nat.zero_le _⟩ rfl rfl (Nat.le_of_ble_eq_true rfl) dX8_carry_41 (fun H locs hH hS => ?_)
          subst hQ
          exact cx_ri hC hr hlk (mpost.mk (by unfold sp_move; rw [mvR_end hz hkN (by unfold mvr; rw [if_neg (by simp [c_21])]) (by decide : (4 : Nat) ≠ 0), if_neg (by decide)]; rfl)) hH hS dX8_carry_44
        · have c_21 := b2i_t c_21
          refine lv_aload_n hx hb dX8_carry_24 rfl (lv_at hl 1 rfl) ?_
          refine lv_iload_n hx hb dX8_carry_25 rfl (lv_at hl 3 rfl) ?_
          refine lv_aload_n hx hb dX8_carry_26 rfl (lv_at hl 1 rfl) ?_
          refine g_get hC hK inG8 hH 0 (by decide) rfl rfl 16 (by decide) qF_X8_45 (Or.inl rfl) rfl dX8_carry_27 ?_
          refine lv_iload hx hb dX8_carry_30 (lv_at hl 0 rfl) ?_
          refine gN_iald hC hK hH 12 (by decide) rfl k (by omega) dX8_carry_32 ?_
          refine cm_V (As' := [.int (nI t), .int (tt k)]) (rest := []) hC (c_X8_hasPlace (by omega) hw) mv_X8_hasPlace qM_X8_117 ⟨⟨rfl, rfl⟩, Nat.le_of_ble_eq_true rfl, Nat.le_of_ble_eq_true rfl⟩ hK hH hS hA (hp.recv hK hH (i := 0) (by decide) rfl rfl) hl.1 ⟨Nat.zero_le _, Nat.zero_le _⟩ rfl rfl (Nat.le_of_ble_eq_true rfl) dX8_carry_33 (fun H locs hH hS => ?_)
          refine lv_if_ne (tgt := 45) hx hb dX8_carry_36 (by decide) (fun c_36 => ?_) (fun c_36 => ?_)
          · have c_36 := b2i_t c_36
            refine lv_aload_n hx hb dX8_carry_45 rfl (lv_at hl 1 rfl) ?_
            refine lv_iload_n hx hb dX8_carry_46 rfl (lv_at hl 2 rfl) ?_
            refine lv_aload_n hx hb dX8_carry_47 rfl (lv_at hl 1 rfl) ?_
            refine g_get hC hK inG8 hH 0 (by decide) rfl rfl 15 (by decide) qF_X8_42 (Or.inl rfl) rfl dX8_carry_48 ?_
            refine lv_iload hx hb dX8_carry_51 (lv_at hl 0 rfl) ?_
            refine gN_iald hC hK hH 11 (by decide) rfl k (by omega) dX8_carry_53 ?_
            obtain ⟨hf1, hf2⟩ := hasP_c c_21
            refine lv_chg (y := nI (cN (fr k))) hf1 ?_
            refine cm_V (As' := [.int (nI f), .int (nI (cN (fr k)))]) (rest := []) hC (c_X8_get (by omega) (by omega)) mv_X8_get qM_X8_143 ⟨⟨rfl, rfl⟩, Nat.le_of_ble_eq_true rfl, Nat.le_of_ble_eq_true rfl⟩ hK hH hS hA (hp.recv hK hH (i := 0) (by decide) rfl rfl) hl.1 ⟨Nat.zero_le _, Nat.zero_le _⟩ rfl rfl (Nat.le_of_ble_eq_true rfl) dX8_carry_54 (fun H locs hH hS => ?_)
            refine lv_aload_n hx hb dX8_carry_57 rfl (lv_at hl 1 rfl) ?_
            refine lv_iload_n hx hb dX8_carry_58 rfl (lv_at hl 3 rfl) ?_
            refine cm_V (As' := [.int (nI t)]) (rest := []) hC (c_X8_goesIn (by omega) (by omega) hw (hw.2.2.2.2 f _) (by omega)) mv_X8_goesIn qM_X8_128 ⟨⟨rfl, rfl⟩, Nat.le_of_ble_eq_true rfl, Nat.le_of_ble_eq_true rfl⟩ hK hH hS hA (hp.recv hK hH (i := 0) (by decide) rfl rfl) hl.1 ⟨Nat.zero_le _, Nat.zero_le _⟩ rfl rfl (Nat.le_of_ble_eq_true rfl) dX8_carry_59 (fun H locs hH hS => ?_)
            refine lv_if_ne (tgt := 71) hx hb dX8_carry_62 (by decide) (fun c_62 => ?_) (fun c_62 => ?_)
            · have c_62 := b2i_t c_62
              refine lv_aload_n hx hb dX8_carry_71 rfl (lv_at hl 1 rfl) ?_
              refine g_get hC hK inG8 hH 0 (by decide) rfl rfl 9 (by decide) qF_X8_66 (Or.inl rfl) rfl dX8_carry_72 ?_
              refine lv_bipush (v := 8) hx hb dX8_carry_75 (by decide) ?_
              refine lv_icmp_ge (tgt := 90) hx hb dX8_carry_77 (by decide) (fun c_77 => ?_) (fun c_77 => ?_)
              · have c_77 := nc_le (a := 8) (b := (P.kd f)) (by omega) (by omega) c_77
                refine lv_aload_n hx hb dX8_carry_90 rfl (lv_at hl 1 rfl) ?_
                refine g_get hC hK inG8 hH 0 (by decide) rfl rfl 13 (by decide) qF_X8_36 (Or.inl rfl) rfl dX8_carry_91 ?_
                refine lv_iload hx hb dX8_carry_94 (lv_at hl 0 rfl) ?_
                refine lv_aload_n hx hb dX8_carry_96 rfl (lv_at hl 1 rfl) ?_
                refine g_get hC hK inG8 hH 0 (by decide) rfl rfl 10 (by decide) qF_X8_69 (Or.inl rfl) rfl dX8_carry_97 ?_
                refine lv_chgl (y := (mvV P f t (cN (fr k))).1) (by rw [mvV_f (by omega)]) ?_
                refine gN_last (ct' := mct cy ad P wy (nI (P.kd f)) (P.wh f (cN (fr k))) (P.re f (cN (fr k))) ns (vp_updL (ldL nw (fun j => (mvV P f t (cN (fr j))).1) k) k ((mvV P f t (cN (fr k))).1)) (ldD nr (fun j => (mvV P f t (cN (fr j))).2) k) fr tt) hC hK hH hS 9 (by decide) rfl k (by omega) rfl mct_9 dX8_carry_100 (fun H locs hH hS => ?_)
                refine lv_aload_n hx hb dX8_carry_101 rfl (lv_at hl 1 rfl) ?_
                refine g_get hC hK inG8 hH 0 (by decide) rfl rfl 14 (by decide) qF_X8_39 (Or.inl rfl) rfl dX8_carry_102 ?_
                refine lv_iload hx hb dX8_carry_105 (lv_at hl 0 rfl) ?_
                refine lv_aload_n hx hb dX8_carry_107 rfl (lv_at hl 1 rfl) ?_
                refine g_get hC hK inG8 hH 0 (by decide) rfl rfl 11 (by decide) qF_X8_73 (Or.inl rfl) rfl dX8_carry_108 ?_
                refine lv_chgd (y := (mvV P f t (cN (fr k))).2) (by rw [mvV_f (by omega)]) ?_
                refine gN_dast (ct' := mct cy ad P wy (nI (P.kd f)) (P.wh f (cN (fr k))) (P.re f (cN (fr k))) ns (vp_updL (ldL nw (fun j => (mvV P f t (cN (fr j))).1) k) k ((mvV P f t (cN (fr k))).1)) (vf_upd (ldD nr (fun j => (mvV P f t (cN (fr j))).2) k) k ((mvV P f t (cN (fr k))).2)) fr tt) hC hK hH hS 10 (by decide) rfl k (by omega) rfl mct_10 dX8_carry_111 (fun H locs hH hS => ?_)
                refine lv_iinc (v := nI (k + 1)) (lv' := [(4, .int (nI (k + 1))), (0, .ref (ad 0)), (1, .int (nI f)), (2, .int (nI t)), (3, .int (nI N))]) hx hb dX8_carry_112 hl (k := 0) rfl (nI_1 _) (by decide) rfl (fun ls hl => ?_)
                refine lv_goto (tgt := 3) hx hb dX8_carry_115 (by decide) ?_
                exact ih_lp1 (k + 1) (by omega) (by omega) _ _ _ ((mvR_s hz).trans (by unfold mvr; rw [if_pos ⟨c_21, c_36⟩, if_pos c_62])) _ _ hH hS ls (lv_sub hl [0, 1, 2, 3, 4] rfl)
              · have c_77 := nc_nle (a := 8) (b := (P.kd f)) (by omega) (by omega) c_77
                have hk8 := (goesI_k (by omega : P.kd f < 8) c_62).1
                refine lv_aload_n hx hb dX8_carry_80 rfl (lv_at hl 1 rfl) ?_
                refine lv_aload_n hx hb dX8_carry_81 rfl (lv_at hl 1 rfl) ?_
                refine g_get hC hK inG8 hH 0 (by decide) rfl rfl 1 (by decide) qF_X8_13 (Or.inl rfl) rfl dX8_carry_82 ?_
                refine lv_iload_n hx hb dX8_carry_85 rfl (lv_at hl 3 rfl) ?_
                refine gN_iald hC hK hH 2 (by decide) rfl t (by omega) dX8_carry_86 ?_
                refine cm_V (As' := [.int (nI (P.kd t))]) (rest := []) hC (c_X8_widen (by omega) (by omega)) mv_X8_widen qM_X8_131 ⟨⟨rfl, rfl⟩, Nat.le_of_ble_eq_true rfl, Nat.le_of_ble_eq_true rfl⟩ hK hH hS hA (hp.recv hK hH (i := 0) (by decide) rfl rfl) hl.1 ⟨Nat.zero_le _, Nat.zero_le _⟩ rfl rfl (Nat.le_of_ble_eq_true rfl) dX8_carry_87 (fun H locs hH hS => ?_)
                refine lv_aload_n hx hb dX8_carry_90 rfl (lv_at hl 1 rfl) ?_
                refine g_get hC hK inG8 hH 0 (by decide) rfl rfl 13 (by decide) qF_X8_36 (Or.inl rfl) rfl dX8_carry_91 ?_
                refine lv_iload hx hb dX8_carry_94 (lv_at hl 0 rfl) ?_
                refine lv_aload_n hx hb dX8_carry_96 rfl (lv_at hl 1 rfl) ?_
                refine g_get hC hK inG8 hH 0 (by decide) rfl rfl 10 (by decide) qF_X8_69 (Or.inl rfl) rfl dX8_carry_97 ?_
                refine lv_chgl (y := (mvV P f t (cN (fr k))).1) (by rw [mvV_t (by omega)]) ?_
                refine gN_last (ct' := mct cy ad P wy (nI (P.kd t)) ((wdn (P.kd f) (P.kd t) (P.wh f (cN (fr k))) (P.re f (cN (fr k)))).1) ((wdn (P.kd f) (P.kd t) (P.wh f (cN (fr k))) (P.re f (cN (fr k)))).2) ns (vp_updL (ldL nw (fun j => (mvV P f t (cN (fr j))).1) k) k ((mvV P f t (cN (fr k))).1)) (ldD nr (fun j => (mvV P f t (cN (fr j))).2) k) fr tt) hC hK hH hS 9 (by decide) rfl k (by omega) rfl mct_9 dX8_carry_100 (fun H locs hH hS => ?_)
                refine lv_aload_n hx hb dX8_carry_101 rfl (lv_at hl 1 rfl) ?_
                refine g_get hC hK inG8 hH 0 (by decide) rfl rfl 14 (by decide) qF_X8_39 (Or.inl rfl) rfl dX8_carry_102 ?_
                refine lv_iload hx hb dX8_carry_105 (lv_at hl 0 rfl) ?_
                refine lv_aload_n hx hb dX8_carry_107 rfl (lv_at hl 1 rfl) ?_
                refine g_get hC hK inG8 hH 0 (by decide) rfl rfl 11 (by decide) qF_X8_73 (Or.inl rfl) rfl dX8_carry_108 ?_
                refine lv_chgd (y := (mvV P f t (cN (fr k))).2) (by rw [mvV_t (by omega)]) ?_
                refine gN_dast (ct' := mct cy ad P wy (nI (P.kd t)) ((wdn (P.kd f) (P.kd t) (P.wh f (cN (fr k))) (P.re f (cN (fr k)))).1) ((wdn (P.kd f) (P.kd t) (P.wh f (cN (fr k))) (P.re f (cN (fr k)))).2) ns (vp_updL (ldL nw (fun j => (mvV P f t (cN (fr j))).1) k) k ((mvV P f t (cN (fr k))).1)) (vf_upd (ldD nr (fun j => (mvV P f t (cN (fr j))).2) k) k ((mvV P f t (cN (fr k))).2)) fr tt) hC hK hH hS 10 (by decide) rfl k (by omega) rfl mct_10 dX8_carry_111 (fun H locs hH hS => ?_)
                refine lv_iinc (v := nI (k + 1)) (lv' := [(4, .int (nI (k + 1))), (0, .ref (ad 0)), (1, .int (nI f)), (2, .int (nI t)), (3, .int (nI N))]) hx hb dX8_carry_112 hl (k := 0) rfl (nI_1 _) (by decide) rfl (fun ls hl => ?_)
                refine lv_goto (tgt := 3) hx hb dX8_carry_115 (by decide) ?_
                exact ih_lp1 (k + 1) (by omega) (by omega) _ _ _ ((mvR_s hz).trans (by unfold mvr; rw [if_pos ⟨c_21, c_36⟩, if_pos c_62])) _ _ hH hS ls (lv_sub hl [0, 1, 2, 3, 4] rfl)
            · have c_62 := b2i_f c_62
              refine lv_aload_n hx hb dX8_carry_65 rfl (lv_at hl 1 rfl) ?_
              refine lv_iconst (v := 5) hx hb dX8_carry_66 (by decide) ?_
              refine cm_V (As' := [.int (5)]) (rest := []) hC (c_X8_refuse) mv_X8_refuse qM_X8_105 ⟨⟨rfl, rfl⟩, Nat.le_of_ble_eq_true rfl, Nat.le_of_ble_eq_true rfl⟩ hK hH hS hA (hp.recv hK hH (i := 0) (by decide) rfl rfl) hl.1 ⟨Nat.zero_le _, Nat.zero_le _⟩ rfl rfl (Nat.le_of_ble_eq_true rfl) dX8_carry_67 (fun H locs hH hS => ?_)
              subst hQ
              exact cx_ri hC hr hlk (mpost.mk (by unfold sp_move; rw [mvR_end hz hkN (by unfold mvr; rw [if_pos ⟨c_21, c_36⟩, if_neg (by simp [c_62])]) (by decide : (5 : Nat) ≠ 0), if_neg (by decide)]; rfl)) hH hS dX8_carry_70
          · have c_36 := b2i_f c_36
            refine lv_aload_n hx hb dX8_carry_39 rfl (lv_at hl 1 rfl) ?_
            refine lv_iconst (v := 4) hx hb dX8_carry_40 (by decide) ?_
            refine cm_V (As' := [.int (4)]) (rest := []) hC (c_X8_refuse) mv_X8_refuse qM_X8_105 ⟨⟨rfl, rfl⟩, Nat.le_of_ble_eq_true rfl, Nat.le_of_ble_eq_true rfl⟩ hK hH hS hA (hp.recv hK hH (i := 0) (by decide) rfl rfl) hl.1 ⟨Nat.zero_le _, Nat.zero_le _⟩ rfl rfl (Nat.le_of_ble_eq_true rfl) dX8_carry_41 (fun H locs hH hS => ?_)
            subst hQ
            exact cx_ri hC hr hlk (mpost.mk (by unfold sp_move; rw [mvR_end hz hkN (by unfold mvr; rw [if_neg (by simp [c_21, c_36])]) (by decide : (4 : Nat) ≠ 0), if_neg (by decide)]; rfl)) hH hS dX8_carry_44
  exact lp1 (N + 1) 0 (by omega) (by omega) _ _ _ (rfl) _ _ hH hS ls (lv_sub hl [0, 1, 2, 3, 4] rfl)
