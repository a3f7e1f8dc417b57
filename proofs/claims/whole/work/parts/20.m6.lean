theorem mv_X8_copy : mvok RX8 yX8_copy cX8_copy 6 (some .int) 2 := ⟨qK_X8_copy, qI_X8_copy, qSel_X8_X8_copy, qInit_X8, by decide +kernel⟩
set_option maxHeartbeats 4000000 in
set_option maxRecDepth 100000 in
theorem c_X8_copy {l : Launch} {D : va_G} {cy : Nat → ClassId} {ad : Nat → Nat} {P : AS} {wy : Int32} {so : Int32} {w : Int64} {r : UInt64} {ns : Nat → Int32} {nw : Nat → Int64} {nr : Nat → UInt64} {fr : Nat → Int32} {tt : Nat → Int32} {c d : Int32} (hw : WF P)  : CX l yX8_copy cX8_copy 6 (some .int) (rm_ 3 70) D cy 13 ad [.ref (ad 0), .int (c), .int (d)] (mct cy ad P wy so w r ns nw nr fr tt) (mpost cy ad (sp_copy P c d)) := by
  refine CX.startQ (by decide) (Nat.le_of_ble_eq_true rfl) ?_
  intro p_ e_ s m_ args_ below meth cd A ls Q hQ hC hr hlk hK hA hH hl
  obtain ⟨hx, hb, hml, hown, hts⟩ := id hC
  have hS : va_S A s.heap s.heap [] := va_S.rf
  have hl : lv_has ls 6 [(0, .ref (ad 0)), (1, .int (c)), (2, .int (d))] := hl
  refine lv_aload_n hx hb dX8_copy_0 rfl (lv_at hl 0 rfl) ?_
  refine lv_iconst (v := 0) hx hb dX8_copy_1 (by decide) ?_
  refine g_put (ct' := mct cy ad P 0 so w r ns nw nr fr tt) hC hK inG8 tyX8 tyX8_ok nmX8 hH hS 0 (by decide) rfl rfl 8 (by decide) qF_X8_48 rfl rfl rfl rfl (Nat.le_of_ble_eq_true rfl) rfl mct_0 dX8_copy_2 (fun H locs hH hS => ?_)
  refine lv_iload_n hx hb dX8_copy_5 rfl (lv_at hl 1 rfl) ?_
  refine cm_S (As := [.int (c)]) (rest := []) hC (c_X8_isColumn) ms_X8_isColumn qM_X8_102 ⟨⟨rfl, rfl⟩, Nat.le_of_ble_eq_true rfl, Nat.le_of_ble_eq_true rfl⟩ hK hH hS hA hl.1 ⟨Nat.zero_le _, Nat.zero_le _⟩ rfl rfl (Nat.le_of_ble_eq_true rfl) dX8_copy_6 (fun H locs hH hS => ?_)
  refine lv_if_eq (tgt := 19) hx hb dX8_copy_9 (by decide) (fun c_9 => ?_) (fun c_9 => ?_)
  · have c_9 := b2i_f c_9
    refine lv_aload_n hx hb dX8_copy_19 rfl (lv_at hl 0 rfl) ?_
    refine lv_iconst (v := 1) hx hb dX8_copy_20 (by decide) ?_
    refine cm_V (As' := [.int (1)]) (rest := []) hC (c_X8_refuse) mv_X8_refuse qM_X8_105 ⟨⟨rfl, rfl⟩, Nat.le_of_ble_eq_true rfl, Nat.le_of_ble_eq_true rfl⟩ hK hH hS hA (hp.recv hK hH (i := 0) (by decide) rfl rfl) hl.1 ⟨Nat.zero_le _, Nat.zero_le _⟩ rfl rfl (Nat.le_of_ble_eq_true rfl) dX8_copy_21 (fun H locs hH hS => ?_)
    subst hQ
    exact cx_ri hC hr hlk (mpost.mk (by simp [sp_copy, rf, c_9] <;> rfl)) hH hS dX8_copy_24
  · have c_9 := b2i_t c_9
    obtain ⟨j, hj, rfl⟩ := isC_ex c_9
    refine lv_iload_n hx hb dX8_copy_12 rfl (lv_at hl 2 rfl) ?_
    refine cm_S (As := [.int (d)]) (rest := []) hC (c_X8_isColumn) ms_X8_isColumn qM_X8_102 ⟨⟨rfl, rfl⟩, Nat.le_of_ble_eq_true rfl, Nat.le_of_ble_eq_true rfl⟩ hK hH hS hA hl.1 ⟨Nat.zero_le _, Nat.zero_le _⟩ rfl rfl (Nat.le_of_ble_eq_true rfl) dX8_copy_13 (fun H locs hH hS => ?_)
    refine lv_if_ne (tgt := 25) hx hb dX8_copy_16 (by decide) (fun c_16 => ?_) (fun c_16 => ?_)
    · have c_16 := b2i_t c_16
      obtain ⟨q, hq, rfl⟩ := isC_ex c_16
      refine lv_aload_n hx hb dX8_copy_25 rfl (lv_at hl 0 rfl) ?_
      refine lv_iload_n hx hb dX8_copy_26 rfl (lv_at hl 1 rfl) ?_
      refine lv_iload_n hx hb dX8_copy_27 rfl (lv_at hl 2 rfl) ?_
      refine lv_iload_n hx hb dX8_copy_28 rfl (lv_at hl 2 rfl) ?_
      refine cm_V (As' := [.int (nI j), .int (nI q), .int (nI q)]) (rest := []) hC (c_X8_reasonOfRows hj hq hq hw) mv_X8_reasonOfRows qM_X8_154 ⟨⟨rfl, rfl⟩, Nat.le_of_ble_eq_true rfl, Nat.le_of_ble_eq_true rfl⟩ hK hH hS hA (hp.recv hK hH (i := 0) (by decide) rfl rfl) hl.1 ⟨Nat.zero_le _, Nat.zero_le _⟩ rfl rfl (Nat.le_of_ble_eq_true rfl) dX8_copy_29 (fun H locs hH hS => ?_)
      refine lv_istore_n (lv' := [(3, .int (nI (rsRows P j q q))), (0, .ref (ad 0)), (1, .int (nI j)), (2, .int (nI q))]) hx hb dX8_copy_32 rfl hl (by decide) rfl (fun ls hl => ?_)
      have hb1 := rsRows_le P j q q
      refine lv_iload_n hx hb dX8_copy_33 rfl (lv_at hl 0 rfl) ?_
      refine lv_if_le (tgt := 43) hx hb dX8_copy_34 (by decide) (fun c_34 => ?_) (fun c_34 => ?_)
      · have c_34 : (rsRows P j q q) = 0 := by have h9 := nc_le (a := (rsRows P j q q)) (b := 0) (by omega) (by omega) c_34; omega
        obtain ⟨ta, tb, tc, h1j, h1q, h1q2, hka, hkb, hkc⟩ := rsRows_0 c_34
        have hn513 := hw.2.2.1
        have hcoj := hw.2.2.2.1 j
        have hcoq := hw.2.2.2.1 q
        have hla := hw.2.1 ta
        have hlb := hw.2.1 tb
        refine lv_aload_n hx hb dX8_copy_43 rfl (lv_at hl 1 rfl) ?_
        refine g_get hC hK inG8 hH 0 (by decide) rfl rfl 2 (by decide) qF_X8_16 (Or.inl rfl) rfl dX8_copy_44 ?_
        refine lv_aload_n hx hb dX8_copy_47 rfl (lv_at hl 1 rfl) ?_
        refine lv_iload_n hx hb dX8_copy_48 rfl (lv_at hl 2 rfl) ?_
        refine cm_V (As' := [.int (nI j)]) (rest := [.ref (ad 3)]) hC (c_X8_in1 hj h1j) mv_X8_in qM_X8_56 ⟨⟨rfl, rfl⟩, Nat.le_of_ble_eq_true rfl, Nat.le_of_ble_eq_true rfl⟩ hK hH hS hA (hp.recv hK hH (i := 0) (by decide) rfl rfl) hl.1 ⟨Nat.zero_le _, Nat.zero_le _⟩ rfl rfl (Nat.le_of_ble_eq_true rfl) dX8_copy_49 (fun H locs hH hS => ?_)
        refine gN_iald hC hK hH 3 (by decide) rfl ta (by omega) dX8_copy_52 ?_
        refine lv_istore (lv' := [(4, .int (nI (P.ln ta))), (3, .int (nI (rsRows P j q q))), (0, .ref (ad 0)), (1, .int (nI j)), (2, .int (nI q))]) hx hb dX8_copy_53 hl (by decide) rfl (fun ls hl => ?_)
        refine lv_iload hx hb dX8_copy_55 (lv_at hl 0 rfl) ?_
        refine lv_aload_n hx hb dX8_copy_57 rfl (lv_at hl 2 rfl) ?_
        refine g_get hC hK inG8 hH 0 (by decide) rfl rfl 2 (by decide) qF_X8_16 (Or.inl rfl) rfl dX8_copy_58 ?_
        refine lv_aload_n hx hb dX8_copy_61 rfl (lv_at hl 2 rfl) ?_
        refine lv_iload_n hx hb dX8_copy_62 rfl (lv_at hl 4 rfl) ?_
        refine cm_V (As' := [.int (nI q)]) (rest := [.ref (ad 3), .int (nI (P.ln ta))]) hC (c_X8_in1 hq h1q) mv_X8_in qM_X8_56 ⟨⟨rfl, rfl⟩, Nat.le_of_ble_eq_true rfl, Nat.le_of_ble_eq_true rfl⟩ hK hH hS hA (hp.recv hK hH (i := 0) (by decide) rfl rfl) hl.1 ⟨Nat.zero_le _, Nat.zero_le _⟩ rfl rfl (Nat.le_of_ble_eq_true rfl) dX8_copy_63 (fun H locs hH hS => ?_)
        refine gN_iald hC hK hH 3 (by decide) rfl tb (by omega) dX8_copy_66 ?_
        refine lv_icmp_eq (tgt := 76) hx hb dX8_copy_67 (by decide) (fun c_67 => ?_) (fun c_67 => ?_)
        · have c_67 := nc_eq (a := (P.ln ta)) (b := (P.ln tb)) (by omega) (by omega) c_67
          refine lv_iconst (v := 0) hx hb dX8_copy_76 (by decide) ?_
          refine lv_istore (lv' := [(5, .int (0)), (4, .int (nI (P.ln ta))), (3, .int (nI (rsRows P j q q))), (0, .ref (ad 0)), (1, .int (nI j)), (2, .int (nI q))]) hx hb dX8_copy_77 hl (by decide) rfl (fun ls hl => ?_)
          have lp : ∀ (n9 k : Nat), k ≤ (P.ln ta) → (P.ln ta) < k + n9 → ∀   (H : Heap) (locs : List Loc), hp D A 13 ad (mct cy ad P 0 so w r ns nw nr (ldI fr (fun j => nI j) k) (ldI tt (fun j => nI j) k)) H → va_S A s.heap H locs → ∀ (ls : Array Slot), lv_has ls 6 [(5, .int (nI k)), (4, .int (nI (P.ln ta))), (3, .int (nI (rsRows P j q q))), (0, .ref (ad 0)), (1, .int (nI j)), (2, .int (nI q))] → W p_ l e_ (rm_ 3 70) s m_ args_ below meth cd H locs 0 0 Q (F0 m_ 79 ls []) := by
            intro n9
            induction n9 with
            | zero => intro k h1 h2; omega
            | succ n9 ih_lp =>
              intro k hk1 hk2   H locs hH hS ls hl
              refine lv_iload hx hb dX8_copy_79 (lv_at hl 0 rfl) ?_
              refine lv_iload hx hb dX8_copy_81 (lv_at hl 1 rfl) ?_
              refine lv_icmp_ge (tgt := 110) hx hb dX8_copy_83 (by decide) (fun c_83 => ?_) (fun c_83 => ?_)
              · have c_83 := nc_le (a := (P.ln ta)) (b := k) (by omega) (by omega) c_83
                refine lv_aload_n hx hb dX8_copy_110 rfl (lv_at hl 3 rfl) ?_
                refine lv_aload_n hx hb dX8_copy_111 rfl (lv_at hl 3 rfl) ?_
                refine lv_iload_n hx hb dX8_copy_112 rfl (lv_at hl 4 rfl) ?_
                refine cm_V (As' := [.int (nI j)]) (rest := [.ref (ad 0)]) hC (c_X8_in1 hj h1j) mv_X8_in qM_X8_56 ⟨⟨rfl, rfl⟩, Nat.le_of_ble_eq_true rfl, Nat.le_of_ble_eq_true rfl⟩ hK hH hS hA (hp.recv hK hH (i := 0) (by decide) rfl rfl) hl.1 ⟨Nat.zero_le _, Nat.zero_le _⟩ rfl rfl (Nat.le_of_ble_eq_true rfl) dX8_copy_113 (fun H locs hH hS => ?_)
                refine lv_aload_n hx hb dX8_copy_116 rfl (lv_at hl 3 rfl) ?_
                refine lv_iload_n hx hb dX8_copy_117 rfl (lv_at hl 5 rfl) ?_
                refine cm_V (As' := [.int (nI q)]) (rest := [.int (nI ta), .ref (ad 0)]) hC (c_X8_in1 hq h1q) mv_X8_in qM_X8_56 ⟨⟨rfl, rfl⟩, Nat.le_of_ble_eq_true rfl, Nat.le_of_ble_eq_true rfl⟩ hK hH hS hA (hp.recv hK hH (i := 0) (by decide) rfl rfl) hl.1 ⟨Nat.zero_le _, Nat.zero_le _⟩ rfl rfl (Nat.le_of_ble_eq_true rfl) dX8_copy_118 (fun H locs hH hS => ?_)
                refine lv_iload hx hb dX8_copy_121 (lv_at hl 1 rfl) ?_
                refine cx_V (As' := [.int (nI ta), .int (nI tb), .int (nI (P.ln ta))]) (rest := []) hC (c_X8_carry (f := ta) (t := tb) (N := (P.ln ta)) (by omega) (by omega) (by omega) (by omega) (by omega) hw) mv_X8_carry qM_X8_157 ⟨⟨rfl, rfl⟩, Nat.le_of_ble_eq_true rfl, Nat.le_of_ble_eq_true rfl⟩ hK hH hS hA (hp.recv hK hH (i := 0) (by decide) rfl rfl) hl.1 ⟨Nat.zero_le _, Nat.zero_le _⟩ rfl rfl (Nat.le_of_ble_eq_true rfl) dX8_copy_123 (fun v9 c9 H locs hpo hH hS hfr9 => ?_)
                obtain ⟨e9, hpo9⟩ := hpo
                subst e9
                subst hQ
                exact cx_ri hC hr hlk (by rw [show sp_copy P (nI j) (nI q) = sp_move P 0 ta tb (ldI fr (fun j => nI j) k) (ldI tt (fun j => nI j) k) (P.ln ta) from by simp [sp_copy, c_9, cN_c hj, c_16, cN_c hq, c_34, h1j, h1q, c_67]; exact sp_move_congr (fun i hi => ⟨(ldI_at (v := (fun j => nI j)) (k := k) (j := i) (by omega)).symm, (ldI_at (v := (fun j => nI j)) (k := k) (j := i) (by omega)).symm⟩)]; exact ⟨rfl, hpo9⟩) hH hS dX8_copy_126
              · have c_83 := nc_nle (a := (P.ln ta)) (b := k) (by omega) (by omega) c_83
                refine lv_aload_n hx hb dX8_copy_86 rfl (lv_at hl 3 rfl) ?_
                refine g_get hC hK inG8 hH 0 (by decide) rfl rfl 15 (by decide) qF_X8_42 (Or.inl rfl) rfl dX8_copy_87 ?_
                refine lv_iload hx hb dX8_copy_90 (lv_at hl 0 rfl) ?_
                refine lv_iload hx hb dX8_copy_92 (lv_at hl 0 rfl) ?_
                refine gN_iast (ct' := mct cy ad P 0 so w r ns nw nr (upd (ldI fr (fun j => nI j) k) k (nI k)) (ldI tt (fun j => nI j) k)) hC hK hH hS 11 (by decide) rfl k (by omega) rfl mct_11 dX8_copy_94 (fun H locs hH hS => ?_)
                refine lv_aload_n hx hb dX8_copy_95 rfl (lv_at hl 3 rfl) ?_
                refine g_get hC hK inG8 hH 0 (by decide) rfl rfl 16 (by decide) qF_X8_45 (Or.inl rfl) rfl dX8_copy_96 ?_
                refine lv_iload hx hb dX8_copy_99 (lv_at hl 0 rfl) ?_
                refine lv_iload hx hb dX8_copy_101 (lv_at hl 0 rfl) ?_
                refine gN_iast (ct' := mct cy ad P 0 so w r ns nw nr (upd (ldI fr (fun j => nI j) k) k (nI k)) (upd (ldI tt (fun j => nI j) k) k (nI k))) hC hK hH hS 12 (by decide) rfl k (by omega) rfl mct_12 dX8_copy_103 (fun H locs hH hS => ?_)
                refine lv_iinc (v := nI (k + 1)) (lv' := [(5, .int (nI (k + 1))), (4, .int (nI (P.ln ta))), (3, .int (nI (rsRows P j q q))), (0, .ref (ad 0)), (1, .int (nI j)), (2, .int (nI q))]) hx hb dX8_copy_104 hl (k := 0) rfl (nI_1 _) (by decide) rfl (fun ls hl => ?_)
                refine lv_goto (tgt := 79) hx hb dX8_copy_107 (by decide) ?_
                exact ih_lp (k + 1) (by omega) (by omega)   _ _ hH hS ls (lv_sub hl [0, 1, 2, 3, 4, 5] rfl)
          exact lp ((P.ln ta) + 1) 0 (by omega) (by omega)   _ _ hH hS ls (lv_sub hl [0, 1, 2, 3, 4, 5] rfl)
        · have c_67 := nc_ne (a := (P.ln ta)) (b := (P.ln tb)) (by omega) (by omega) c_67
          refine lv_aload_n hx hb dX8_copy_70 rfl (lv_at hl 2 rfl) ?_
          refine lv_iconst (v := 4) hx hb dX8_copy_71 (by decide) ?_
          refine cm_V (As' := [.int (4)]) (rest := []) hC (c_X8_refuse) mv_X8_refuse qM_X8_105 ⟨⟨rfl, rfl⟩, Nat.le_of_ble_eq_true rfl, Nat.le_of_ble_eq_true rfl⟩ hK hH hS hA (hp.recv hK hH (i := 0) (by decide) rfl rfl) hl.1 ⟨Nat.zero_le _, Nat.zero_le _⟩ rfl rfl (Nat.le_of_ble_eq_true rfl) dX8_copy_72 (fun H locs hH hS => ?_)
          subst hQ
          exact cx_ri hC hr hlk (mpost.mk (by simp [sp_copy, rf, c_9, cN_c hj, c_16, cN_c hq, c_34, h1j, h1q, c_67] <;> rfl)) hH hS dX8_copy_75
      · have c_34 : ¬ (rsRows P j q q) = 0 := by have h9 := nc_nle (a := (rsRows P j q q)) (b := 0) (by omega) (by omega) c_34; omega
        refine lv_aload_n hx hb dX8_copy_37 rfl (lv_at hl 1 rfl) ?_
        refine lv_iload_n hx hb dX8_copy_38 rfl (lv_at hl 0 rfl) ?_
        refine cm_V (As' := [.int (nI (rsRows P j q q))]) (rest := []) hC (c_X8_refuse) mv_X8_refuse qM_X8_105 ⟨⟨rfl, rfl⟩, Nat.le_of_ble_eq_true rfl, Nat.le_of_ble_eq_true rfl⟩ hK hH hS hA (hp.recv hK hH (i := 0) (by decide) rfl rfl) hl.1 ⟨Nat.zero_le _, Nat.zero_le _⟩ rfl rfl (Nat.le_of_ble_eq_true rfl) dX8_copy_39 (fun H locs hH hS => ?_)
        subst hQ
        exact cx_ri hC hr hlk (mpost.mk (by simp [sp_copy, rf, c_9, cN_c hj, c_16, cN_c hq, c_34] <;> rfl)) hH hS dX8_copy_42
    · have c_16 := b2i_f c_16
      refine lv_aload_n hx hb dX8_copy_19 rfl (lv_at hl 0 rfl) ?_
      refine lv_iconst (v := 1) hx hb dX8_copy_20 (by decide) ?_
      refine cm_V (As' := [.int (1)]) (rest := []) hC (c_X8_refuse) mv_X8_refuse qM_X8_105 ⟨⟨rfl, rfl⟩, Nat.le_of_ble_eq_true rfl, Nat.le_of_ble_eq_true rfl⟩ hK hH hS hA (hp.recv hK hH (i := 0) (by decide) rfl rfl) hl.1 ⟨Nat.zero_le _, Nat.zero_le _⟩ rfl rfl (Nat.le_of_ble_eq_true rfl) dX8_copy_21 (fun H locs hH hS => ?_)
      subst hQ
      exact cx_ri hC hr hlk (mpost.mk (by simp [sp_copy, rf, c_9, cN_c hj, c_16] <;> rfl)) hH hS dX8_copy_24
theorem mv_X8_gather : mvok RX8 yX8_gather cX8_gather 7 (some .int) 3 := ⟨qK_X8_gather, qI_X8_gather, qSel_X8_X8_gather, qInit_X8, by decide +kernel⟩
set_option maxHeartbeats 4000000 in
set_option maxRecDepth 100000 in
theorem c_X8_gather {l : Launch} {D : va_G} {cy : Nat → ClassId} {ad : Nat → Nat} {P : AS} {wy : Int32} {so : Int32} {w : Int64} {r : UInt64} {ns : Nat → Int32} {nw : Nat → Int64} {nr : Nat → UInt64} {fr : Nat → Int32} {tt : Nat → Int32} {c y d : Int32} (hw : WF P)  : CX l yX8_gather cX8_gather 7 (some .int) (rm_ 3 70) D cy 13 ad [.ref (ad 0), .int (c), .int (y), .int (d)] (mct cy ad P wy so w r ns nw nr fr tt) (mpost cy ad (sp_gather P c y d)) := by
  refine CX.startQ (by decide) (Nat.le_of_ble_eq_true rfl) ?_
  intro p_ e_ s m_ args_ below meth cd A ls Q hQ hC hr hlk hK hA hH hl
  obtain ⟨hx, hb, hml, hown, hts⟩ := id hC
  have hS : va_S A s.heap s.heap [] := va_S.rf
  have hl : lv_has ls 7 [(0, .ref (ad 0)), (1, .int (c)), (2, .int (y)), (3, .int (d))] := hl
  refine lv_aload_n hx hb dX8_gather_0 rfl (lv_at hl 0 rfl) ?_
  refine lv_iconst (v := 0) hx hb dX8_gather_1 (by decide) ?_
  refine g_put (ct' := mct cy ad P 0 so w r ns nw nr fr tt) hC hK inG8 tyX8 tyX8_ok nmX8 hH hS 0 (by decide) rfl rfl 8 (by decide) qF_X8_48 rfl rfl rfl rfl (Nat.le_of_ble_eq_true rfl) rfl mct_0 dX8_gather_2 (fun H locs hH hS => ?_)
  refine lv_iload_n hx hb dX8_gather_5 rfl (lv_at hl 1 rfl) ?_
  refine cm_S (As := [.int (c)]) (rest := []) hC (c_X8_isColumn) ms_X8_isColumn qM_X8_102 ⟨⟨rfl, rfl⟩, Nat.le_of_ble_eq_true rfl, Nat.le_of_ble_eq_true rfl⟩ hK hH hS hA hl.1 ⟨Nat.zero_le _, Nat.zero_le _⟩ rfl rfl (Nat.le_of_ble_eq_true rfl) dX8_gather_6 (fun H locs hH hS => ?_)
  refine lv_if_eq (tgt := 26) hx hb dX8_gather_9 (by decide) (fun c_9 => ?_) (fun c_9 => ?_)
  · have c_9 := b2i_f c_9
    refine lv_aload_n hx hb dX8_gather_26 rfl (lv_at hl 0 rfl) ?_
    refine lv_iconst (v := 1) hx hb dX8_gather_27 (by decide) ?_
    refine cm_V (As' := [.int (1)]) (rest := []) hC (c_X8_refuse) mv_X8_refuse qM_X8_105 ⟨⟨rfl, rfl⟩, Nat.le_of_ble_eq_true rfl, Nat.le_of_ble_eq_true rfl⟩ hK hH hS hA (hp.recv hK hH (i := 0) (by decide) rfl rfl) hl.1 ⟨Nat.zero_le _, Nat.zero_le _⟩ rfl rfl (Nat.le_of_ble_eq_true rfl) dX8_gather_28 (fun H locs hH hS => ?_)
    subst hQ
    exact cx_ri hC hr hlk (mpost.mk (by simp [sp_gather, rf, c_9] <;> rfl)) hH hS dX8_gather_31
  · have c_9 := b2i_t c_9
    obtain ⟨j, hj, rfl⟩ := isC_ex c_9
    refine lv_iload_n hx hb dX8_gather_12 rfl (lv_at hl 2 rfl) ?_
    refine cm_S (As := [.int (y)]) (rest := []) hC (c_X8_isColumn) ms_X8_isColumn qM_X8_102 ⟨⟨rfl, rfl⟩, Nat.le_of_ble_eq_true rfl, Nat.le_of_ble_eq_true rfl⟩ hK hH hS hA hl.1 ⟨Nat.zero_le _, Nat.zero_le _⟩ rfl rfl (Nat.le_of_ble_eq_true rfl) dX8_gather_13 (fun H locs hH hS => ?_)
    refine lv_if_eq (tgt := 26) hx hb dX8_gather_16 (by decide) (fun c_16 => ?_) (fun c_16 => ?_)
    · have c_16 := b2i_f c_16
      refine lv_aload_n hx hb dX8_gather_26 rfl (lv_at hl 0 rfl) ?_
      refine lv_iconst (v := 1) hx hb dX8_gather_27 (by decide) ?_
      refine cm_V (As' := [.int (1)]) (rest := []) hC (c_X8_refuse) mv_X8_refuse qM_X8_105 ⟨⟨rfl, rfl⟩, Nat.le_of_ble_eq_true rfl, Nat.le_of_ble_eq_true rfl⟩ hK hH hS hA (hp.recv hK hH (i := 0) (by decide) rfl rfl) hl.1 ⟨Nat.zero_le _, Nat.zero_le _⟩ rfl rfl (Nat.le_of_ble_eq_true rfl) dX8_gather_28 (fun H locs hH hS => ?_)
      subst hQ
      exact cx_ri hC hr hlk (mpost.mk (by simp [sp_gather, rf, c_9, cN_c hj, c_16] <;> rfl)) hH hS dX8_gather_31
    · have c_16 := b2i_t c_16
      obtain ⟨xx, hxx, rfl⟩ := isC_ex c_16
      refine lv_iload_n hx hb dX8_gather_19 rfl (lv_at hl 3 rfl) ?_
      refine cm_S (As := [.int (d)]) (rest := []) hC (c_X8_isColumn) ms_X8_isColumn qM_X8_102 ⟨⟨rfl, rfl⟩, Nat.le_of_ble_eq_true rfl, Nat.le_of_ble_eq_true rfl⟩ hK hH hS hA hl.1 ⟨Nat.zero_le _, Nat.zero_le _⟩ rfl rfl (Nat.le_of_ble_eq_true rfl) dX8_gather_20 (fun H locs hH hS => ?_)
      refine lv_if_ne (tgt := 32) hx hb dX8_gather_23 (by decide) (fun c_23 => ?_) (fun c_23 => ?_)
      · have c_23 := b2i_t c_23
        obtain ⟨q, hq, rfl⟩ := isC_ex c_23
        refine lv_aload_n hx hb dX8_gather_32 rfl (lv_at hl 0 rfl) ?_
        refine lv_iload_n hx hb dX8_gather_33 rfl (lv_at hl 1 rfl) ?_
        refine lv_iload_n hx hb dX8_gather_34 rfl (lv_at hl 2 rfl) ?_
        refine lv_iload_n hx hb dX8_gather_35 rfl (lv_at hl 3 rfl) ?_
        refine cm_V (As' := [.int (nI j), .int (nI xx), .int (nI q)]) (rest := []) hC (c_X8_reasonOfRows hj hxx hq hw) mv_X8_reasonOfRows qM_X8_154 ⟨⟨rfl, rfl⟩, Nat.le_of_ble_eq_true rfl, Nat.le_of_ble_eq_true rfl⟩ hK hH hS hA (hp.recv hK hH (i := 0) (by decide) rfl rfl) hl.1 ⟨Nat.zero_le _, Nat.zero_le _⟩ rfl rfl (Nat.le_of_ble_eq_true rfl) dX8_gather_36 (fun H locs hH hS => ?_)
        refine lv_istore (lv' := [(4, .int (nI (rsRows P j xx q))), (0, .ref (ad 0)), (1, .int (nI j)), (2, .int (nI xx)), (3, .int (nI q))]) hx hb dX8_gather_39 hl (by decide) rfl (fun ls hl => ?_)
        have hb1 := rsRows_le P j xx q
        refine lv_iload hx hb dX8_gather_41 (lv_at hl 0 rfl) ?_
        refine lv_if_le (tgt := 53) hx hb dX8_gather_43 (by decide) (fun c_43 => ?_) (fun c_43 => ?_)
        · have c_43 : (rsRows P j xx q) = 0 := by have h9 := nc_le (a := (rsRows P j xx q)) (b := 0) (by omega) (by omega) c_43; omega
          obtain ⟨ta, tb, tc, h1j, h1xx, h1q, hka, hkb, hkc⟩ := rsRows_0 c_43
          have hn513 := hw.2.2.1
          have hcoj := hw.2.2.2.1 j
          have hcox := hw.2.2.2.1 xx
          have hcoq := hw.2.2.2.1 q
          have hla := hw.2.1 ta
          have hlb := hw.2.1 tb
          have hlc := hw.2.1 tc
          refine lv_aload_n hx hb dX8_gather_53 rfl (lv_at hl 1 rfl) ?_
          refine lv_aload_n hx hb dX8_gather_54 rfl (lv_at hl 1 rfl) ?_
          refine lv_iload_n hx hb dX8_gather_55 rfl (lv_at hl 3 rfl) ?_
          refine cm_V (As' := [.int (nI xx)]) (rest := [.ref (ad 0)]) hC (c_X8_in1 hxx h1xx) mv_X8_in qM_X8_56 ⟨⟨rfl, rfl⟩, Nat.le_of_ble_eq_true rfl, Nat.le_of_ble_eq_true rfl⟩ hK hH hS hA (hp.recv hK hH (i := 0) (by decide) rfl rfl) hl.1 ⟨Nat.zero_le _, Nat.zero_le _⟩ rfl rfl (Nat.le_of_ble_eq_true rfl) dX8_gather_56 (fun H locs hH hS => ?_)
          refine cm_V (As' := [.int (nI tb)]) (rest := []) hC (c_X8_tellsPlaces (by omega) hw) mv_X8_tellsPlaces qM_X8_160 ⟨⟨rfl, rfl⟩, Nat.le_of_ble_eq_true rfl, Nat.le_of_ble_eq_true rfl⟩ hK hH hS hA (hp.recv hK hH (i := 0) (by decide) rfl rfl) hl.1 ⟨Nat.zero_le _, Nat.zero_le _⟩ rfl rfl (Nat.le_of_ble_eq_true rfl) dX8_gather_59 (fun H locs hH hS => ?_)
          refine lv_if_ne (tgt := 72) hx hb dX8_gather_62 (by decide) (fun c_62 => ?_) (fun c_62 => ?_)
          · have c_62 := b2i_t c_62
            refine lv_aload_n hx hb dX8_gather_72 rfl (lv_at hl 1 rfl) ?_
            refine g_get hC hK inG8 hH 0 (by decide) rfl rfl 2 (by decide) qF_X8_16 (Or.inl rfl) rfl dX8_gather_73 ?_
            refine lv_aload_n hx hb dX8_gather_76 rfl (lv_at hl 1 rfl) ?_
            refine lv_iload_n hx hb dX8_gather_77 rfl (lv_at hl 3 rfl) ?_
            refine cm_V (As' := [.int (nI xx)]) (rest := [.ref (ad 3)]) hC (c_X8_in1 hxx h1xx) mv_X8_in qM_X8_56 ⟨⟨rfl, rfl⟩, Nat.le_of_ble_eq_true rfl, Nat.le_of_ble_eq_true rfl⟩ hK hH hS hA (hp.recv hK hH (i := 0) (by decide) rfl rfl) hl.1 ⟨Nat.zero_le _, Nat.zero_le _⟩ rfl rfl (Nat.le_of_ble_eq_true rfl) dX8_gather_78 (fun H locs hH hS => ?_)
            refine gN_iald hC hK hH 3 (by decide) rfl tb (by omega) dX8_gather_81 ?_
            refine lv_istore (lv' := [(5, .int (nI (P.ln tb))), (4, .int (nI (rsRows P j xx q))), (0, .ref (ad 0)), (1, .int (nI j)), (2, .int (nI xx)), (3, .int (nI q))]) hx hb dX8_gather_82 hl (by decide) rfl (fun ls hl => ?_)
            refine lv_iload hx hb dX8_gather_84 (lv_at hl 0 rfl) ?_
            refine lv_aload_n hx hb dX8_gather_86 rfl (lv_at hl 2 rfl) ?_
            refine g_get hC hK inG8 hH 0 (by decide) rfl rfl 2 (by decide) qF_X8_16 (Or.inl rfl) rfl dX8_gather_87 ?_
            refine lv_aload_n hx hb dX8_gather_90 rfl (lv_at hl 2 rfl) ?_
            refine lv_iload_n hx hb dX8_gather_91 rfl (lv_at hl 5 rfl) ?_
            refine cm_V (As' := [.int (nI q)]) (rest := [.ref (ad 3), .int (nI (P.ln tb))]) hC (c_X8_in1 hq h1q) mv_X8_in qM_X8_56 ⟨⟨rfl, rfl⟩, Nat.le_of_ble_eq_true rfl, Nat.le_of_ble_eq_true rfl⟩ hK hH hS hA (hp.recv hK hH (i := 0) (by decide) rfl rfl) hl.1 ⟨Nat.zero_le _, Nat.zero_le _⟩ rfl rfl (Nat.le_of_ble_eq_true rfl) dX8_gather_92 (fun H locs hH hS => ?_)
            refine gN_iald hC hK hH 3 (by decide) rfl tc (by omega) dX8_gather_95 ?_
            refine lv_icmp_eq (tgt := 105) hx hb dX8_gather_96 (by decide) (fun c_96 => ?_) (fun c_96 => ?_)
            · have c_96 := nc_eq (a := (P.ln tb)) (b := (P.ln tc)) (by omega) (by omega) c_96
              refine lv_iconst (v := 0) hx hb dX8_gather_105 (by decide) ?_
              refine lv_istore (lv' := [(6, .int (0)), (5, .int (nI (P.ln tb))), (4, .int (nI (rsRows P j xx q))), (0, .ref (ad 0)), (1, .int (nI j)), (2, .int (nI xx)), (3, .int (nI q))]) hx hb dX8_gather_106 hl (by decide) rfl (fun ls hl => ?_)
              have lp : ∀ (n9 k : Nat), k ≤ (P.ln tb) → (P.ln tb) < k + n9 → ∀   (H : Heap) (locs : List Loc), hp D A 13 ad (mct cy ad P 0 so w r ns nw nr (ldI fr (fun j => (P.wh tb j).toInt32) k) (ldI tt (fun j => nI j) k)) H → va_S A s.heap H locs → ∀ (ls : Array Slot), lv_has ls 7 [(6, .int (nI k)), (5, .int (nI (P.ln tb))), (4, .int (nI (rsRows P j xx q))), (0, .ref (ad 0)), (1, .int (nI j)), (2, .int (nI xx)), (3, .int (nI q))] → W p_ l e_ (rm_ 3 70) s m_ args_ below meth cd H locs 0 0 Q (F0 m_ 108 ls []) := by
                intro n9
                induction n9 with
                | zero => intro k h1 h2; omega
                | succ n9 ih_lp =>
                  intro k hk1 hk2   H locs hH hS ls hl
                  refine lv_iload hx hb dX8_gather_108 (lv_at hl 0 rfl) ?_
                  refine lv_iload hx hb dX8_gather_110 (lv_at hl 1 rfl) ?_
                  refine lv_icmp_ge (tgt := 154) hx hb dX8_gather_112 (by decide) (fun c_112 => ?_) (fun c_112 => ?_)
                  · have c_112 := nc_le (a := (P.ln tb)) (b := k) (by omega) (by omega) c_112
                    refine lv_aload_n hx hb dX8_gather_154 rfl (lv_at hl 3 rfl) ?_
                    refine lv_aload_n hx hb dX8_gather_155 rfl (lv_at hl 3 rfl) ?_
                    refine lv_iload_n hx hb dX8_gather_156 rfl (lv_at hl 4 rfl) ?_
                    refine cm_V (As' := [.int (nI j)]) (rest := [.ref (ad 0)]) hC (c_X8_in1 hj h1j) mv_X8_in qM_X8_56 ⟨⟨rfl, rfl⟩, Nat.le_of_ble_eq_true rfl, Nat.le_of_ble_eq_true rfl⟩ hK hH hS hA (hp.recv hK hH (i := 0) (by decide) rfl rfl) hl.1 ⟨Nat.zero_le _, Nat.zero_le _⟩ rfl rfl (Nat.le_of_ble_eq_true rfl) dX8_gather_157 (fun H locs hH hS => ?_)
                    refine lv_aload_n hx hb dX8_gather_160 rfl (lv_at hl 3 rfl) ?_
                    refine lv_iload_n hx hb dX8_gather_161 rfl (lv_at hl 6 rfl) ?_
                    refine cm_V (As' := [.int (nI q)]) (rest := [.int (nI ta), .ref (ad 0)]) hC (c_X8_in1 hq h1q) mv_X8_in qM_X8_56 ⟨⟨rfl, rfl⟩, Nat.le_of_ble_eq_true rfl, Nat.le_of_ble_eq_true rfl⟩ hK hH hS hA (hp.recv hK hH (i := 0) (by decide) rfl rfl) hl.1 ⟨Nat.zero_le _, Nat.zero_le _⟩ rfl rfl (Nat.le_of_ble_eq_true rfl) dX8_gather_162 (fun H locs hH hS => ?_)
                    refine lv_iload hx hb dX8_gather_165 (lv_at hl 1 rfl) ?_
                    refine cx_V (As' := [.int (nI ta), .int (nI tc), .int (nI (P.ln tb))]) (rest := []) hC (c_X8_carry (f := ta) (t := tc) (N := (P.ln tb)) (by omega) (by omega) (by omega) (by omega) (by omega) hw) mv_X8_carry qM_X8_157 ⟨⟨rfl, rfl⟩, Nat.le_of_ble_eq_true rfl, Nat.le_of_ble_eq_true rfl⟩ hK hH hS hA (hp.recv hK hH (i := 0) (by decide) rfl rfl) hl.1 ⟨Nat.zero_le _, Nat.zero_le _⟩ rfl rfl (Nat.le_of_ble_eq_true rfl) dX8_gather_167 (fun v9 c9 H locs hpo hH hS hfr9 => ?_)
                    obtain ⟨e9, hpo9⟩ := hpo
                    subst e9
                    subst hQ
                    exact cx_ri hC hr hlk (by rw [show sp_gather P (nI j) (nI xx) (nI q) = sp_move P 0 ta tc (ldI fr (fun j => (P.wh tb j).toInt32) k) (ldI tt (fun j => nI j) k) (P.ln tb) from by simp [sp_gather, c_9, cN_c hj, c_16, cN_c hxx, c_23, cN_c hq, c_43, h1j, h1xx, h1q, c_62, c_96]; exact sp_move_congr (fun i hi => ⟨(ldI_at (v := (fun j => (P.wh tb j).toInt32)) (k := k) (j := i) (by omega)).symm, (ldI_at (v := (fun j => nI j)) (k := k) (j := i) (by omega)).symm⟩)]; exact ⟨rfl, hpo9⟩) hH hS dX8_gather_170
                  · have c_112 := nc_nle (a := (P.ln tb)) (b := k) (by omega) (by omega) c_112
                    refine lv_aload_n hx hb dX8_gather_115 rfl (lv_at hl 3 rfl) ?_
                    refine g_get hC hK inG8 hH 0 (by decide) rfl rfl 15 (by decide) qF_X8_42 (Or.inl rfl) rfl dX8_gather_116 ?_
                    refine lv_iload hx hb dX8_gather_119 (lv_at hl 0 rfl) ?_
                    refine lv_aload_n hx hb dX8_gather_121 rfl (lv_at hl 3 rfl) ?_
                    refine g_get hC hK inG8 hH 0 (by decide) rfl rfl 4 (by decide) qF_X8_22 (Or.inl rfl) rfl dX8_gather_122 ?_
                    refine lv_bipush (v := 24) hx hb dX8_gather_125 (by decide) ?_
                    refine lv_aload_n hx hb dX8_gather_127 rfl (lv_at hl 3 rfl) ?_
                    refine lv_iload_n hx hb dX8_gather_128 rfl (lv_at hl 5 rfl) ?_
                    refine cm_V (As' := [.int (nI xx)]) (rest := [.int (24), .ref (ad 5), .int (nI k), .ref (ad 11)]) hC (c_X8_in1 hxx h1xx) mv_X8_in qM_X8_56 ⟨⟨rfl, rfl⟩, Nat.le_of_ble_eq_true rfl, Nat.le_of_ble_eq_true rfl⟩ hK hH hS hA (hp.recv hK hH (i := 0) (by decide) rfl rfl) hl.1 ⟨Nat.zero_le _, Nat.zero_le _⟩ rfl rfl (Nat.le_of_ble_eq_true rfl) dX8_gather_129 (fun H locs hH hS => ?_)
                    refine lv_imul hx hb dX8_gather_132 ?_
                    refine lv_iload hx hb dX8_gather_133 (lv_at hl 0 rfl) ?_
                    refine lv_iadd hx hb dX8_gather_135 ?_
                    refine mr_wh hC hK hH tb k (by omega) dX8_gather_136 ?_
                    refine lv_l2i hx hb dX8_gather_137 rfl ?_
                    refine gN_iast (ct' := mct cy ad P 0 so w r ns nw nr (upd (ldI fr (fun j => (P.wh tb j).toInt32) k) k ((P.wh tb k).toInt32)) (ldI tt (fun j => nI j) k)) hC hK hH hS 11 (by decide) rfl k (by omega) rfl mct_11 dX8_gather_138 (fun H locs hH hS => ?_)
                    refine lv_aload_n hx hb dX8_gather_139 rfl (lv_at hl 3 rfl) ?_
                    refine g_get hC hK inG8 hH 0 (by decide) rfl rfl 16 (by decide) qF_X8_45 (Or.inl rfl) rfl dX8_gather_140 ?_
                    refine lv_iload hx hb dX8_gather_143 (lv_at hl 0 rfl) ?_
                    refine lv_iload hx hb dX8_gather_145 (lv_at hl 0 rfl) ?_
                    refine gN_iast (ct' := mct cy ad P 0 so w r ns nw nr (upd (ldI fr (fun j => (P.wh tb j).toInt32) k) k ((P.wh tb k).toInt32)) (upd (ldI tt (fun j => nI j) k) k (nI k))) hC hK hH hS 12 (by decide) rfl k (by omega) rfl mct_12 dX8_gather_147 (fun H locs hH hS => ?_)
                    refine lv_iinc (v := nI (k + 1)) (lv' := [(6, .int (nI (k + 1))), (5, .int (nI (P.ln tb))), (4, .int (nI (rsRows P j xx q))), (0, .ref (ad 0)), (1, .int (nI j)), (2, .int (nI xx)), (3, .int (nI q))]) hx hb dX8_gather_148 hl (k := 0) rfl (nI_1 _) (by decide) rfl (fun ls hl => ?_)
                    refine lv_goto (tgt := 108) hx hb dX8_gather_151 (by decide) ?_
                    exact ih_lp (k + 1) (by omega) (by omega)   _ _ hH hS ls (lv_sub hl [0, 1, 2, 3, 4, 5, 6] rfl)
              exact lp ((P.ln tb) + 1) 0 (by omega) (by omega)   _ _ hH hS ls (lv_sub hl [0, 1, 2, 3, 4, 5, 6] rfl)
            · have c_96 := nc_ne (a := (P.ln tb)) (b := (P.ln tc)) (by omega) (by omega) c_96
              refine lv_aload_n hx hb dX8_gather_99 rfl (lv_at hl 2 rfl) ?_
              refine lv_iconst (v := 4) hx hb dX8_gather_100 (by decide) ?_
              refine cm_V (As' := [.int (4)]) (rest := []) hC (c_X8_refuse) mv_X8_refuse qM_X8_105 ⟨⟨rfl, rfl⟩, Nat.le_of_ble_eq_true rfl, Nat.le_of_ble_eq_true rfl⟩ hK hH hS hA (hp.recv hK hH (i := 0) (by decide) rfl rfl) hl.1 ⟨Nat.zero_le _, Nat.zero_le _⟩ rfl rfl (Nat.le_of_ble_eq_true rfl) dX8_gather_101 (fun H locs hH hS => ?_)
              subst hQ
              exact cx_ri hC hr hlk (mpost.mk (by simp [sp_gather, rf, c_9, cN_c hj, c_16, cN_c hxx, c_23, cN_c hq, c_43, h1j, h1xx, h1q, c_62, c_96] <;> rfl)) hH hS dX8_gather_104
          · have c_62 := b2i_f c_62
            refine lv_aload_n hx hb dX8_gather_65 rfl (lv_at hl 1 rfl) ?_
            refine lv_bipush (v := 6) hx hb dX8_gather_66 (by decide) ?_
            refine cm_V (As' := [.int (6)]) (rest := []) hC (c_X8_refuse) mv_X8_refuse qM_X8_105 ⟨⟨rfl, rfl⟩, Nat.le_of_ble_eq_true rfl, Nat.le_of_ble_eq_true rfl⟩ hK hH hS hA (hp.recv hK hH (i := 0) (by decide) rfl rfl) hl.1 ⟨Nat.zero_le _, Nat.zero_le _⟩ rfl rfl (Nat.le_of_ble_eq_true rfl) dX8_gather_68 (fun H locs hH hS => ?_)
            subst hQ
            exact cx_ri hC hr hlk (mpost.mk (by simp [sp_gather, rf, c_9, cN_c hj, c_16, cN_c hxx, c_23, cN_c hq, c_43, h1j, h1xx, h1q, c_62] <;> rfl)) hH hS dX8_gather_71
        · have c_43 : ¬ (rsRows P j xx q) = 0 := by have h9 := nc_nle (a := (rsRows P j xx q)) (b := 0) (by omega) (by omega) c_43; omega
          refine lv_aload_n hx hb dX8_gather_46 rfl (lv_at hl 1 rfl) ?_
          refine lv_iload hx hb dX8_gather_47 (lv_at hl 0 rfl) ?_
          refine cm_V (As' := [.int (nI (rsRows P j xx q))]) (rest := []) hC (c_X8_refuse) mv_X8_refuse qM_X8_105 ⟨⟨rfl, rfl⟩, Nat.le_of_ble_eq_true rfl, Nat.le_of_ble_eq_true rfl⟩ hK hH hS hA (hp.recv hK hH (i := 0) (by decide) rfl rfl) hl.1 ⟨Nat.zero_le _, Nat.zero_le _⟩ rfl rfl (Nat.le_of_ble_eq_true rfl) dX8_gather_49 (fun H locs hH hS => ?_)
          subst hQ
          exact cx_ri hC hr hlk (mpost.mk (by simp [sp_gather, rf, c_9, cN_c hj, c_16, cN_c hxx, c_23, cN_c hq, c_43] <;> rfl)) hH hS dX8_gather_52
      · have c_23 := b2i_f c_23
        refine lv_aload_n hx hb dX8_gather_26 rfl (lv_at hl 0 rfl) ?_
        refine lv_iconst (v := 1) hx hb dX8_gather_27 (by decide) ?_
        refine cm_V (As' := [.int (1)]) (rest := []) hC (c_X8_refuse) mv_X8_refuse qM_X8_105 ⟨⟨rfl, rfl⟩, Nat.le_of_ble_eq_true rfl, Nat.le_of_ble_eq_true rfl⟩ hK hH hS hA (hp.recv hK hH (i := 0) (by decide) rfl rfl) hl.1 ⟨Nat.zero_le _, Nat.zero_le _⟩ rfl rfl (Nat.le_of_ble_eq_true rfl) dX8_gather_28 (fun H locs hH hS => ?_)
        subst hQ
        exact cx_ri hC hr hlk (mpost.mk (by simp [sp_gather, rf, c_9, cN_c hj, c_16, cN_c hxx, c_23] <;> rfl)) hH hS dX8_gather_31
theorem mv_X8_scatter : mvok RX8 yX8_scatter cX8_scatter 7 (some .int) 3 := ⟨qK_X8_scatter, qI_X8_scatter, qSel_X8_X8_scatter, qInit_X8, by decide +kernel⟩
set_option maxHeartbeats 4000000 in
set_option maxRecDepth 100000 in
theorem c_X8_scatter {l : Launch} {D : va_G} {cy : Nat → ClassId} {ad : Nat → Nat} {P : AS} {wy : Int32} {so : Int32} {w : Int64} {r : UInt64} {ns : Nat → Int32} {nw : Nat → Int64} {nr : Nat → UInt64} {fr : Nat → Int32} {tt : Nat → Int32} {c y d : Int32} (hw : WF P)  : CX l yX8_scatter cX8_scatter 7 (some .int) (rm_ 3 70) D cy 13 ad [.ref (ad 0), .int (c), .int (y), .int (d)] (mct cy ad P wy so w r ns nw nr fr tt) (mpost cy ad (sp_scatter P c y d)) := by
  refine CX.startQ (by decide) (Nat.le_of_ble_eq_true rfl) ?_
  intro p_ e_ s m_ args_ below meth cd A ls Q hQ hC hr hlk hK hA hH hl
  obtain ⟨hx, hb, hml, hown, hts⟩ := id hC
  have hS : va_S A s.heap s.heap [] := va_S.rf
  have hl : lv_has ls 7 [(0, .ref (ad 0)), (1, .int (c)), (2, .int (y)), (3, .int (d))] := hl
  refine lv_aload_n hx hb dX8_scatter_0 rfl (lv_at hl 0 rfl) ?_
  refine lv_iconst (v := 0) hx hb dX8_scatter_1 (by decide) ?_
  refine g_put (ct' := mct cy ad P 0 so w r ns nw nr fr tt) hC hK inG8 tyX8 tyX8_ok nmX8 hH hS 0 (by decide) rfl rfl 8 (by decide) qF_X8_48 rfl rfl rfl rfl (Nat.le_of_ble_eq_true rfl) rfl mct_0 dX8_scatter_2 (fun H locs hH hS => ?_)
  refine lv_iload_n hx hb dX8_scatter_5 rfl (lv_at hl 1 rfl) ?_
  refine cm_S (As := [.int (c)]) (rest := []) hC (c_X8_isColumn) ms_X8_isColumn qM_X8_102 ⟨⟨rfl, rfl⟩, Nat.le_of_ble_eq_true rfl, Nat.le_of_ble_eq_true rfl⟩ hK hH hS hA hl.1 ⟨Nat.zero_le _, Nat.zero_le _⟩ rfl rfl (Nat.le_of_ble_eq_true rfl) dX8_scatter_6 (fun H locs hH hS => ?_)
  refine lv_if_eq (tgt := 26) hx hb dX8_scatter_9 (by decide) (fun c_9 => ?_) (fun c_9 => ?_)
  · have c_9 := b2i_f c_9
    refine lv_aload_n hx hb dX8_scatter_26 rfl (lv_at hl 0 rfl) ?_
    refine lv_iconst (v := 1) hx hb dX8_scatter_27 (by decide) ?_
    refine cm_V (As' := [.int (1)]) (rest := []) hC (c_X8_refuse) mv_X8_refuse qM_X8_105 ⟨⟨rfl, rfl⟩, Nat.le_of_ble_eq_true rfl, Nat.le_of_ble_eq_true rfl⟩ hK hH hS hA (hp.recv hK hH (i := 0) (by decide) rfl rfl) hl.1 ⟨Nat.zero_le _, Nat.zero_le _⟩ rfl rfl (Nat.le_of_ble_eq_true rfl) dX8_scatter_28 (fun H locs hH hS => ?_)
    subst hQ
    exact cx_ri hC hr hlk (mpost.mk (by simp [sp_scatter, rf, c_9] <;> rfl)) hH hS dX8_scatter_31
  · have c_9 := b2i_t c_9
    obtain ⟨j, hj, rfl⟩ := isC_ex c_9
    refine lv_iload_n hx hb dX8_scatter_12 rfl (lv_at hl 2 rfl) ?_
    refine cm_S (As := [.int (y)]) (rest := []) hC (c_X8_isColumn) ms_X8_isColumn qM_X8_102 ⟨⟨rfl, rfl⟩, Nat.le_of_ble_eq_true rfl, Nat.le_of_ble_eq_true rfl⟩ hK hH hS hA hl.1 ⟨Nat.zero_le _, Nat.zero_le _⟩ rfl rfl (Nat.le_of_ble_eq_true rfl) dX8_scatter_13 (fun H locs hH hS => ?_)
    refine lv_if_eq (tgt := 26) hx hb dX8_scatter_16 (by decide) (fun c_16 => ?_) (fun c_16 => ?_)
    · have c_16 := b2i_f c_16
      refine lv_aload_n hx hb dX8_scatter_26 rfl (lv_at hl 0 rfl) ?_
      refine lv_iconst (v := 1) hx hb dX8_scatter_27 (by decide) ?_
      refine cm_V (As' := [.int (1)]) (rest := []) hC (c_X8_refuse) mv_X8_refuse qM_X8_105 ⟨⟨rfl, rfl⟩, Nat.le_of_ble_eq_true rfl, Nat.le_of_ble_eq_true rfl⟩ hK hH hS hA (hp.recv hK hH (i := 0) (by decide) rfl rfl) hl.1 ⟨Nat.zero_le _, Nat.zero_le _⟩ rfl rfl (Nat.le_of_ble_eq_true rfl) dX8_scatter_28 (fun H locs hH hS => ?_)
      subst hQ
      exact cx_ri hC hr hlk (mpost.mk (by simp [sp_scatter, rf, c_9, cN_c hj, c_16] <;> rfl)) hH hS dX8_scatter_31
    · have c_16 := b2i_t c_16
      obtain ⟨xx, hxx, rfl⟩ := isC_ex c_16
      refine lv_iload_n hx hb dX8_scatter_19 rfl (lv_at hl 3 rfl) ?_
      refine cm_S (As := [.int (d)]) (rest := []) hC (c_X8_isColumn) ms_X8_isColumn qM_X8_102 ⟨⟨rfl, rfl⟩, Nat.le_of_ble_eq_true rfl, Nat.le_of_ble_eq_true rfl⟩ hK hH hS hA hl.1 ⟨Nat.zero_le _, Nat.zero_le _⟩ rfl rfl (Nat.le_of_ble_eq_true rfl) dX8_scatter_20 (fun H locs hH hS => ?_)
      refine lv_if_ne (tgt := 32) hx hb dX8_scatter_23 (by decide) (fun c_23 => ?_) (fun c_23 => ?_)
      · have c_23 := b2i_t c_23
        obtain ⟨q, hq, rfl⟩ := isC_ex c_23
        refine lv_aload_n hx hb dX8_scatter_32 rfl (lv_at hl 0 rfl) ?_
        refine lv_iload_n hx hb dX8_scatter_33 rfl (lv_at hl 1 rfl) ?_
        refine lv_iload_n hx hb dX8_scatter_34 rfl (lv_at hl 2 rfl) ?_
        refine lv_iload_n hx hb dX8_scatter_35 rfl (lv_at hl 3 rfl) ?_
        refine cm_V (As' := [.int (nI j), .int (nI xx), .int (nI q)]) (rest := []) hC (c_X8_reasonOfRows hj hxx hq hw) mv_X8_reasonOfRows qM_X8_154 ⟨⟨rfl, rfl⟩, Nat.le_of_ble_eq_true rfl, Nat.le_of_ble_eq_true rfl⟩ hK hH hS hA (hp.recv hK hH (i := 0) (by decide) rfl rfl) hl.1 ⟨Nat.zero_le _, Nat.zero_le _⟩ rfl rfl (Nat.le_of_ble_eq_true rfl) dX8_scatter_36 (fun H locs hH hS => ?_)
        refine lv_istore (lv' := [(4, .int (nI (rsRows P j xx q))), (0, .ref (ad 0)), (1, .int (nI j)), (2, .int (nI xx)), (3, .int (nI q))]) hx hb dX8_scatter_39 hl (by decide) rfl (fun ls hl => ?_)
        have hb1 := rsRows_le P j xx q
        refine lv_iload hx hb dX8_scatter_41 (lv_at hl 0 rfl) ?_
        refine lv_if_le (tgt := 53) hx hb dX8_scatter_43 (by decide) (fun c_43 => ?_) (fun c_43 => ?_)
        · have c_43 : (rsRows P j xx q) = 0 := by have h9 := nc_le (a := (rsRows P j xx q)) (b := 0) (by omega) (by omega) c_43; omega
          obtain ⟨ta, tb, tc, h1j, h1xx, h1q, hka, hkb, hkc⟩ := rsRows_0 c_43
          have hn513 := hw.2.2.1
          have hcoj := hw.2.2.2.1 j
          have hcox := hw.2.2.2.1 xx
          have hcoq := hw.2.2.2.1 q
          have hla := hw.2.1 ta
          have hlb := hw.2.1 tb
          have hlc := hw.2.1 tc
          refine lv_aload_n hx hb dX8_scatter_53 rfl (lv_at hl 1 rfl) ?_
          refine lv_aload_n hx hb dX8_scatter_54 rfl (lv_at hl 1 rfl) ?_
          refine lv_iload_n hx hb dX8_scatter_55 rfl (lv_at hl 3 rfl) ?_
          refine cm_V (As' := [.int (nI xx)]) (rest := [.ref (ad 0)]) hC (c_X8_in1 hxx h1xx) mv_X8_in qM_X8_56 ⟨⟨rfl, rfl⟩, Nat.le_of_ble_eq_true rfl, Nat.le_of_ble_eq_true rfl⟩ hK hH hS hA (hp.recv hK hH (i := 0) (by decide) rfl rfl) hl.1 ⟨Nat.zero_le _, Nat.zero_le _⟩ rfl rfl (Nat.le_of_ble_eq_true rfl) dX8_scatter_56 (fun H locs hH hS => ?_)
          refine cm_V (As' := [.int (nI tb)]) (rest := []) hC (c_X8_tellsPlaces (by omega) hw) mv_X8_tellsPlaces qM_X8_160 ⟨⟨rfl, rfl⟩, Nat.le_of_ble_eq_true rfl, Nat.le_of_ble_eq_true rfl⟩ hK hH hS hA (hp.recv hK hH (i := 0) (by decide) rfl rfl) hl.1 ⟨Nat.zero_le _, Nat.zero_le _⟩ rfl rfl (Nat.le_of_ble_eq_true rfl) dX8_scatter_59 (fun H locs hH hS => ?_)
          refine lv_if_ne (tgt := 72) hx hb dX8_scatter_62 (by decide) (fun c_62 => ?_) (fun c_62 => ?_)
          · have c_62 := b2i_t c_62
            refine lv_aload_n hx hb dX8_scatter_72 rfl (lv_at hl 1 rfl) ?_
            refine g_get hC hK inG8 hH 0 (by decide) rfl rfl 2 (by decide) qF_X8_16 (Or.inl rfl) rfl dX8_scatter_73 ?_
            refine lv_aload_n hx hb dX8_scatter_76 rfl (lv_at hl 1 rfl) ?_
            refine lv_iload_n hx hb dX8_scatter_77 rfl (lv_at hl 3 rfl) ?_
            refine cm_V (As' := [.int (nI xx)]) (rest := [.ref (ad 3)]) hC (c_X8_in1 hxx h1xx) mv_X8_in qM_X8_56 ⟨⟨rfl, rfl⟩, Nat.le_of_ble_eq_true rfl, Nat.le_of_ble_eq_true rfl⟩ hK hH hS hA (hp.recv hK hH (i := 0) (by decide) rfl rfl) hl.1 ⟨Nat.zero_le _, Nat.zero_le _⟩ rfl rfl (Nat.le_of_ble_eq_true rfl) dX8_scatter_78 (fun H locs hH hS => ?_)
            refine gN_iald hC hK hH 3 (by decide) rfl tb (by omega) dX8_scatter_81 ?_
            refine lv_istore (lv' := [(5, .int (nI (P.ln tb))), (4, .int (nI (rsRows P j xx q))), (0, .ref (ad 0)), (1, .int (nI j)), (2, .int (nI xx)), (3, .int (nI q))]) hx hb dX8_scatter_82 hl (by decide) rfl (fun ls hl => ?_)
            refine lv_iload hx hb dX8_scatter_84 (lv_at hl 0 rfl) ?_
            refine lv_aload_n hx hb dX8_scatter_86 rfl (lv_at hl 2 rfl) ?_
            refine g_get hC hK inG8 hH 0 (by decide) rfl rfl 2 (by decide) qF_X8_16 (Or.inl rfl) rfl dX8_scatter_87 ?_
            refine lv_aload_n hx hb dX8_scatter_90 rfl (lv_at hl 2 rfl) ?_
            refine lv_iload_n hx hb dX8_scatter_91 rfl (lv_at hl 3 rfl) ?_
            refine cm_V (As' := [.int (nI j)]) (rest := [.ref (ad 3), .int (nI (P.ln tb))]) hC (c_X8_in1 hj h1j) mv_X8_in qM_X8_56 ⟨⟨rfl, rfl⟩, Nat.le_of_ble_eq_true rfl, Nat.le_of_ble_eq_true rfl⟩ hK hH hS hA (hp.recv hK hH (i := 0) (by decide) rfl rfl) hl.1 ⟨Nat.zero_le _, Nat.zero_le _⟩ rfl rfl (Nat.le_of_ble_eq_true rfl) dX8_scatter_92 (fun H locs hH hS => ?_)
            refine gN_iald hC hK hH 3 (by decide) rfl ta (by omega) dX8_scatter_95 ?_
            refine lv_icmp_eq (tgt := 105) hx hb dX8_scatter_96 (by decide) (fun c_96 => ?_) (fun c_96 => ?_)
            · have c_96 := nc_eq (a := (P.ln tb)) (b := (P.ln ta)) (by omega) (by omega) c_96
              refine lv_iconst (v := 0) hx hb dX8_scatter_105 (by decide) ?_
              refine lv_istore (lv' := [(6, .int (0)), (5, .int (nI (P.ln tb))), (4, .int (nI (rsRows P j xx q))), (0, .ref (ad 0)), (1, .int (nI j)), (2, .int (nI xx)), (3, .int (nI q))]) hx hb dX8_scatter_106 hl (by decide) rfl (fun ls hl => ?_)
              have lp : ∀ (n9 k : Nat), k ≤ (P.ln tb) → (P.ln tb) < k + n9 → ∀   (H : Heap) (locs : List Loc), hp D A 13 ad (mct cy ad P 0 so w r ns nw nr (ldI fr (fun j => nI j) k) (ldI tt (fun j => (P.wh tb j).toInt32) k)) H → va_S A s.heap H locs → ∀ (ls : Array Slot), lv_has ls 7 [(6, .int (nI k)), (5, .int (nI (P.ln tb))), (4, .int (nI (rsRows P j xx q))), (0, .ref (ad 0)), (1, .int (nI j)), (2, .int (nI xx)), (3, .int (nI q))] → W p_ l e_ (rm_ 3 70) s m_ args_ below meth cd H locs 0 0 Q (F0 m_ 108 ls []) := by
                intro n9
                induction n9 with
                | zero => intro k h1 h2; omega
                | succ n9 ih_lp =>
                  intro k hk1 hk2   H locs hH hS ls hl
                  refine lv_iload hx hb dX8_scatter_108 (lv_at hl 0 rfl) ?_
                  refine lv_iload hx hb dX8_scatter_110 (lv_at hl 1 rfl) ?_
                  refine lv_icmp_ge (tgt := 154) hx hb dX8_scatter_112 (by decide) (fun c_112 => ?_) (fun c_112 => ?_)
                  · have c_112 := nc_le (a := (P.ln tb)) (b := k) (by omega) (by omega) c_112
                    refine lv_aload_n hx hb dX8_scatter_154 rfl (lv_at hl 3 rfl) ?_
                    refine lv_aload_n hx hb dX8_scatter_155 rfl (lv_at hl 3 rfl) ?_
                    refine lv_iload_n hx hb dX8_scatter_156 rfl (lv_at hl 4 rfl) ?_
                    refine cm_V (As' := [.int (nI j)]) (rest := [.ref (ad 0)]) hC (c_X8_in1 hj h1j) mv_X8_in qM_X8_56 ⟨⟨rfl, rfl⟩, Nat.le_of_ble_eq_true rfl, Nat.le_of_ble_eq_true rfl⟩ hK hH hS hA (hp.recv hK hH (i := 0) (by decide) rfl rfl) hl.1 ⟨Nat.zero_le _, Nat.zero_le _⟩ rfl rfl (Nat.le_of_ble_eq_true rfl) dX8_scatter_157 (fun H locs hH hS => ?_)
                    refine lv_aload_n hx hb dX8_scatter_160 rfl (lv_at hl 3 rfl) ?_
                    refine lv_iload_n hx hb dX8_scatter_161 rfl (lv_at hl 6 rfl) ?_
                    refine cm_V (As' := [.int (nI q)]) (rest := [.int (nI ta), .ref (ad 0)]) hC (c_X8_in1 hq h1q) mv_X8_in qM_X8_56 ⟨⟨rfl, rfl⟩, Nat.le_of_ble_eq_true rfl, Nat.le_of_ble_eq_true rfl⟩ hK hH hS hA (hp.recv hK hH (i := 0) (by decide) rfl rfl) hl.1 ⟨Nat.zero_le _, Nat.zero_le _⟩ rfl rfl (Nat.le_of_ble_eq_true rfl) dX8_scatter_162 (fun H locs hH hS => ?_)
                    refine lv_iload hx hb dX8_scatter_165 (lv_at hl 1 rfl) ?_
                    refine cx_V (As' := [.int (nI ta), .int (nI tc), .int (nI (P.ln tb))]) (rest := []) hC (c_X8_carry (f := ta) (t := tc) (N := (P.ln tb)) (by omega) (by omega) (by omega) (by omega) (by omega) hw) mv_X8_carry qM_X8_157 ⟨⟨rfl, rfl⟩, Nat.le_of_ble_eq_true rfl, Nat.le_of_ble_eq_true rfl⟩ hK hH hS hA (hp.recv hK hH (i := 0) (by decide) rfl rfl) hl.1 ⟨Nat.zero_le _, Nat.zero_le _⟩ rfl rfl (Nat.le_of_ble_eq_true rfl) dX8_scatter_167 (fun v9 c9 H locs hpo hH hS hfr9 => ?_)
                    obtain ⟨e9, hpo9⟩ := hpo
                    subst e9
                    subst hQ
                    exact cx_ri hC hr hlk (by rw [show sp_scatter P (nI j) (nI xx) (nI q) = sp_move P 0 ta tc (ldI fr (fun j => nI j) k) (ldI tt (fun j => (P.wh tb j).toInt32) k) (P.ln tb) from by simp [sp_scatter, c_9, cN_c hj, c_16, cN_c hxx, c_23, cN_c hq, c_43, h1j, h1xx, h1q, c_62, c_96]; exact sp_move_congr (fun i hi => ⟨(ldI_at (v := (fun j => nI j)) (k := k) (j := i) (by omega)).symm, (ldI_at (v := (fun j => (P.wh tb j).toInt32)) (k := k) (j := i) (by omega)).symm⟩)]; exact ⟨rfl, hpo9⟩) hH hS dX8_scatter_170
                  · have c_112 := nc_nle (a := (P.ln tb)) (b := k) (by omega) (by omega) c_112
                    refine lv_aload_n hx hb dX8_scatter_115 rfl (lv_at hl 3 rfl) ?_
                    refine g_get hC hK inG8 hH 0 (by decide) rfl rfl 15 (by decide) qF_X8_42 (Or.inl rfl) rfl dX8_scatter_116 ?_
                    refine lv_iload hx hb dX8_scatter_119 (lv_at hl 0 rfl) ?_
                    refine lv_iload hx hb dX8_scatter_121 (lv_at hl 0 rfl) ?_
                    refine gN_iast (ct' := mct cy ad P 0 so w r ns nw nr (upd (ldI fr (fun j => nI j) k) k (nI k)) (ldI tt (fun j => (P.wh tb j).toInt32) k)) hC hK hH hS 11 (by decide) rfl k (by omega) rfl mct_11 dX8_scatter_123 (fun H locs hH hS => ?_)
                    refine lv_aload_n hx hb dX8_scatter_124 rfl (lv_at hl 3 rfl) ?_
                    refine g_get hC hK inG8 hH 0 (by decide) rfl rfl 16 (by decide) qF_X8_45 (Or.inl rfl) rfl dX8_scatter_125 ?_
                    refine lv_iload hx hb dX8_scatter_128 (lv_at hl 0 rfl) ?_
                    refine lv_aload_n hx hb dX8_scatter_130 rfl (lv_at hl 3 rfl) ?_
                    refine g_get hC hK inG8 hH 0 (by decide) rfl rfl 4 (by decide) qF_X8_22 (Or.inl rfl) rfl dX8_scatter_131 ?_
                    refine lv_bipush (v := 24) hx hb dX8_scatter_134 (by decide) ?_
                    refine lv_aload_n hx hb dX8_scatter_136 rfl (lv_at hl 3 rfl) ?_
                    refine lv_iload_n hx hb dX8_scatter_137 rfl (lv_at hl 5 rfl) ?_
                    refine cm_V (As' := [.int (nI xx)]) (rest := [.int (24), .ref (ad 5), .int (nI k), .ref (ad 12)]) hC (c_X8_in1 hxx h1xx) mv_X8_in qM_X8_56 ⟨⟨rfl, rfl⟩, Nat.le_of_ble_eq_true rfl, Nat.le_of_ble_eq_true rfl⟩ hK hH hS hA (hp.recv hK hH (i := 0) (by decide) rfl rfl) hl.1 ⟨Nat.zero_le _, Nat.zero_le _⟩ rfl rfl (Nat.le_of_ble_eq_true rfl) dX8_scatter_138 (fun H locs hH hS => ?_)
                    refine lv_imul hx hb dX8_scatter_141 ?_
                    refine lv_iload hx hb dX8_scatter_142 (lv_at hl 0 rfl) ?_
                    refine lv_iadd hx hb dX8_scatter_144 ?_
                    refine mr_wh hC hK hH tb k (by omega) dX8_scatter_145 ?_
                    refine lv_l2i hx hb dX8_scatter_146 rfl ?_
                    refine gN_iast (ct' := mct cy ad P 0 so w r ns nw nr (upd (ldI fr (fun j => nI j) k) k (nI k)) (upd (ldI tt (fun j => (P.wh tb j).toInt32) k) k ((P.wh tb k).toInt32))) hC hK hH hS 12 (by decide) rfl k (by omega) rfl mct_12 dX8_scatter_147 (fun H locs hH hS => ?_)
                    refine lv_iinc (v := nI (k + 1)) (lv' := [(6, .int (nI (k + 1))), (5, .int (nI (P.ln tb))), (4, .int (nI (rsRows P j xx q))), (0, .ref (ad 0)), (1, .int (nI j)), (2, .int (nI xx)), (3, .int (nI q))]) hx hb dX8_scatter_148 hl (k := 0) rfl (nI_1 _) (by decide) rfl (fun ls hl => ?_)
                    refine lv_goto (tgt := 108) hx hb dX8_scatter_151 (by decide) ?_
                    exact ih_lp (k + 1) (by omega) (by omega)   _ _ hH hS ls (lv_sub hl [0, 1, 2, 3, 4, 5, 6] rfl)
              exact lp ((P.ln tb) + 1) 0 (by omega) (by omega)   _ _ hH hS ls (lv_sub hl [0, 1, 2, 3, 4, 5, 6] rfl)
            · have c_96 := nc_ne (a := (P.ln tb)) (b := (P.ln ta)) (by omega) (by omega) c_96
              refine lv_aload_n hx hb dX8_scatter_99 rfl (lv_at hl 2 rfl) ?_
              refine lv_iconst (v := 4) hx hb dX8_scatter_100 (by decide) ?_
              refine cm_V (As' := [.int (4)]) (rest := []) hC (c_X8_refuse) mv_X8_refuse qM_X8_105 ⟨⟨rfl, rfl⟩, Nat.le_of_ble_eq_true rfl, Nat.le_of_ble_eq_true rfl⟩ hK hH hS hA (hp.recv hK hH (i := 0) (by decide) rfl rfl) hl.1 ⟨Nat.zero_le _, Nat.zero_le _⟩ rfl rfl (Nat.le_of_ble_eq_true rfl) dX8_scatter_101 (fun H locs hH hS => ?_)
              subst hQ
              exact cx_ri hC hr hlk (mpost.mk (by simp [sp_scatter, rf, c_9, cN_c hj, c_16, cN_c hxx, c_23, cN_c hq, c_43, h1j, h1xx, h1q, c_62, c_96] <;> rfl)) hH hS dX8_scatter_104
          · have c_62 := b2i_f c_62
            refine lv_aload_n hx hb dX8_scatter_65 rfl (lv_at hl 1 rfl) ?_
            refine lv_bipush (v := 6) hx hb dX8_scatter_66 (by decide) ?_
            refine cm_V (As' := [.int (6)]) (rest := []) hC (c_X8_refuse) mv_X8_refuse qM_X8_105 ⟨⟨rfl, rfl⟩, Nat.le_of_ble_eq_true rfl, Nat.le_of_ble_eq_true rfl⟩ hK hH hS hA (hp.recv hK hH (i := 0) (by decide) rfl rfl) hl.1 ⟨Nat.zero_le _, Nat.zero_le _⟩ rfl rfl (Nat.le_of_ble_eq_true rfl) dX8_scatter_68 (fun H locs hH hS => ?_)
            subst hQ
            exact cx_ri hC hr hlk (mpost.mk (by simp [sp_scatter, rf, c_9, cN_c hj, c_16, cN_c hxx, c_23, cN_c hq, c_43, h1j, h1xx, h1q, c_62] <;> rfl)) hH hS dX8_scatter_71
        · have c_43 : ¬ (rsRows P j xx q) = 0 := by have h9 := nc_nle (a := (rsRows P j xx q)) (b := 0) (by omega) (by omega) c_43; omega
          refine lv_aload_n hx hb dX8_scatter_46 rfl (lv_at hl 1 rfl) ?_
          refine lv_iload hx hb dX8_scatter_47 (lv_at hl 0 rfl) ?_
          refine cm_V (As' := [.int (nI (rsRows P j xx q))]) (rest := []) hC (c_X8_refuse) mv_X8_refuse qM_X8_105 ⟨⟨rfl, rfl⟩, Nat.le_of_ble_eq_true rfl, Nat.le_of_ble_eq_true rfl⟩ hK hH hS hA (hp.recv hK hH (i := 0) (by decide) rfl rfl) hl.1 ⟨Nat.zero_le _, Nat.zero_le _⟩ rfl rfl (Nat.le_of_ble_eq_true rfl) dX8_scatter_49 (fun H locs hH hS => ?_)
          subst hQ
          exact cx_ri hC hr hlk (mpost.mk (by simp [sp_scatter, rf, c_9, cN_c hj, c_16, cN_c hxx, c_23, cN_c hq, c_43] <;> rfl)) hH hS dX8_scatter_52
      · have c_23 := b2i_f c_23
        refine lv_aload_n hx hb dX8_scatter_26 rfl (lv_at hl 0 rfl) ?_
        refine lv_iconst (v := 1) hx hb dX8_scatter_27 (by decide) ?_
        refine cm_V (As' := [.int (1)]) (rest := []) hC (c_X8_refuse) mv_X8_refuse qM_X8_105 ⟨⟨rfl, rfl⟩, Nat.le_of_ble_eq_true rfl, Nat.le_of_ble_eq_true rfl⟩ hK hH hS hA (hp.recv hK hH (i := 0) (by decide) rfl rfl) hl.1 ⟨Nat.zero_le _, Nat.zero_le _⟩ rfl rfl (Nat.le_of_ble_eq_true rfl) dX8_scatter_28 (fun H locs hH hS => ?_)
        subst hQ
        exact cx_ri hC hr hlk (mpost.mk (by simp [sp_scatter, rf, c_9, cN_c hj, c_16, cN_c hxx, c_23] <;> rfl)) hH hS dX8_scatter_31
