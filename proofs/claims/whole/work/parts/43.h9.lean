theorem mv_X7_comesFromRight : mvok RX7 yX7_comesFromRight cX7_comesFromRight 5 (some .boolean) 4 := ⟨qK_X7_comesFromRight, qI_X7_comesFromRight, qSel_X7_X7_comesFromRight, qInit_X7, by decide +kernel⟩
set_option maxHeartbeats 4000000 in
set_option maxRecDepth 100000 in
theorem c_X7_comesFromRight {l : Launch} {D : va_G} {cy : Nat → ClassId} {ad : Nat → Nat} {P : AS} {wy : Int32} {cl : Nat → CE} {st : Nat → Nat} {tg : Nat → Int32} {x y i j : Nat} (hw : WF P) (hI : HI P cl st) (htx : x < P.n) (hty : y < P.n) (h8x : P.kd x < 8) (h8y : P.kd y < 8) (h00 : P.kd x = 0 ↔ P.kd y = 0) (hi1 : i ≤ P.ln x) (hj1 : j ≤ P.ln y) : CX l yX7_comesFromRight cX7_comesFromRight 5 (some .boolean) (rm_ 3 62) D cy (30 + 2 * P.n) ad [.ref (ad 0), .ref (ad (30 + 2 * x)), .int (nI i), .ref (ad (30 + 2 * y)), .int (nI j)] (hct cy ad P wy cl st tg) (hpoK cy ad (some (.int (b2i (mgO P x y i j)))) P wy cl st tg) := by
  have hlx := hw.2.1 x
  have hly := hw.2.1 y
  refine CX.start (by decide) (Nat.le_of_ble_eq_true rfl) ?_
  intro p_ e_ s m_ below meth cd A ls hC hr hlk hin hK hA hH hl
  obtain ⟨hx, hb, hml, hown, hts⟩ := id hC
  have hS : va_S A s.heap s.heap [] := va_S.rf
  have hl : lv_has ls 5 [(0, .ref (ad 0)), (1, .ref (ad (30 + 2 * x))), (2, .int (nI i)), (3, .ref (ad (30 + 2 * y))), (4, .int (nI j))] := hl
  refine lv_aload_n hx hb dX7_comesFromRight_0 rfl (lv_at hl 1 rfl) ?_
  refine lv_iload_n hx hb dX7_comesFromRight_1 rfl (lv_at hl 2 rfl) ?_
  refine cm_R (As := [.int (nI i)]) (rest := []) (i := 30 + 2 * x) hC (rc_has (t := x) hw (by omega) (by omega)) qM_X7_114 ⟨Nat.le_of_ble_eq_true rfl, Nat.le_of_ble_eq_true rfl⟩ hK hH hS hA hl.1 ⟨Nat.zero_le _, Nat.zero_le _⟩ rfl rfl (Nat.le_of_ble_eq_true rfl) dX7_comesFromRight_2 (fun H locs hH hS => ?_)
  refine lv_if_ne (tgt := 10) hx hb dX7_comesFromRight_5 (by decide) (fun c_5 => ?_) (fun c_5 => ?_)
  · have c_5 := b2i_t c_5
    have c5 := hasP_lt c_5 (by omega)
    refine lv_aload_n hx hb dX7_comesFromRight_10 rfl (lv_at hl 3 rfl) ?_
    refine lv_iload hx hb dX7_comesFromRight_11 (lv_at hl 4 rfl) ?_
    refine cm_R (As := [.int (nI j)]) (rest := []) (i := 30 + 2 * y) hC (rc_has (t := y) hw (by omega) (by omega)) qM_X7_114 ⟨Nat.le_of_ble_eq_true rfl, Nat.le_of_ble_eq_true rfl⟩ hK hH hS hA hl.1 ⟨Nat.zero_le _, Nat.zero_le _⟩ rfl rfl (Nat.le_of_ble_eq_true rfl) dX7_comesFromRight_13 (fun H locs hH hS => ?_)
    refine lv_if_ne (tgt := 21) hx hb dX7_comesFromRight_16 (by decide) (fun c_16 => ?_) (fun c_16 => ?_)
    · have c_16 := b2i_t c_16
      have c16 := hasP_lt c_16 (by omega)
      refine lv_aload_n hx hb dX7_comesFromRight_21 rfl (lv_at hl 1 rfl) ?_
      refine lv_iload_n hx hb dX7_comesFromRight_22 rfl (lv_at hl 2 rfl) ?_
      refine lv_aload_n hx hb dX7_comesFromRight_23 rfl (lv_at hl 0 rfl) ?_
      refine g_get hC hK inG7 hH 0 (by omega) rfl (ci := 5) rfl 3 (by decide) qF_X7_26 (Or.inl rfl) rfl dX7_comesFromRight_24 ?_
      refine cm_R (As := [.int (nI i), .ref (ad (4 + 24))]) (rest := []) (i := 30 + 2 * x) hC (rc_read (t := x) (i := i) (j := 24) hw (by omega) (by omega) (by omega) (by omega)) qM_X7_117 ⟨Nat.le_of_ble_eq_true rfl, Nat.le_of_ble_eq_true rfl⟩ hK hH hS hA hl.1 ⟨Nat.zero_le _, Nat.zero_le _⟩ rfl rfl (Nat.le_of_ble_eq_true rfl) dX7_comesFromRight_27 (fun H locs hH hS => ?_)
      refine lv_aload_n hx hb dX7_comesFromRight_30 rfl (lv_at hl 3 rfl) ?_
      refine lv_iload hx hb dX7_comesFromRight_31 (lv_at hl 4 rfl) ?_
      refine lv_aload_n hx hb dX7_comesFromRight_33 rfl (lv_at hl 0 rfl) ?_
      refine g_get hC hK inG7 hH 0 (by omega) rfl (ci := 5) rfl 4 (by decide) qF_X7_30 (Or.inl rfl) rfl dX7_comesFromRight_34 ?_
      refine cm_R (As := [.int (nI j), .ref (ad (4 + 25))]) (rest := []) (i := 30 + 2 * y) hC (rc_read (t := y) (i := j) (j := 25) hw (by omega) (by omega) (by omega) (by omega)) qM_X7_117 ⟨Nat.le_of_ble_eq_true rfl, Nat.le_of_ble_eq_true rfl⟩ hK hH hS hA hl.1 ⟨Nat.zero_le _, Nat.zero_le _⟩ rfl rfl (Nat.le_of_ble_eq_true rfl) dX7_comesFromRight_37 (fun H locs hH hS => ?_)
      refine lv_aload_n hx hb dX7_comesFromRight_40 rfl (lv_at hl 0 rfl) ?_
      refine g_get hC hK inG7 hH 0 (by omega) rfl (ci := 5) rfl 4 (by decide) qF_X7_30 (Or.inl rfl) rfl dX7_comesFromRight_41 ?_
      refine lv_aload_n hx hb dX7_comesFromRight_44 rfl (lv_at hl 0 rfl) ?_
      refine g_get hC hK inG7 hH 0 (by omega) rfl (ci := 5) rfl 3 (by decide) qF_X7_26 (Or.inl rfl) rfl dX7_comesFromRight_45 ?_
      refine cm_V (As' := [.ref (ad (4 + 24))]) (rest := []) hC (c_X1_isLess (j := 25) (i := 24) (by omega) (by omega)) mv_X1_isLess qM_X7_212 ⟨⟨rfl, rfl⟩, Nat.le_of_ble_eq_true rfl, Nat.le_of_ble_eq_true rfl⟩ hK hH hS hA (hp.recv hK hH (i := 4 + 25) (by omega) (hct_c (by omega)) rfl) hl.1 ⟨Nat.zero_le _, Nat.zero_le _⟩ rfl rfl (Nat.le_of_ble_eq_true rfl) dX7_comesFromRight_48 (fun H locs hH hS => ?_)
      exact cx_rz hC hr hlk (by first | exact Or.inl rfl | exact Or.inr rfl | exact b2i_01 _) (hpoK.mk (by rw [va_up_self, va_up_ne _ _ (show (24 : Nat) ≠ 25 by decide), va_up_self, rd_ls h8x h8y h00, show mgO P x y i j = decide (agn (P.kd y) (P.wh y j) (P.re y j) (P.kd x) (P.wh x i) (P.re x i) = -1) by simp [mgO, show ¬ i = P.ln x by omega, c16]]) (by repeat' (first | exact hI | refine HI_up ?_ ?_ | refine cOK_rd hw ?_ (by omega) | refine cOK_td ?_ (by omega) | exact cOK_th (by omega) | refine HI_sm hw ?_ (by omega) (by omega) | refine HI_c (st := st) ?_ (by omega))) (fun j9 hj9 => by rw [va_up_ne _ _ (by omega), va_up_ne _ _ (by omega)])) hH hS dX7_comesFromRight_51
    · have c_16 := b2i_f c_16
      have c16 := hasP_nf c_16 (by omega)
      refine lv_iconst (v := 0) hx hb dX7_comesFromRight_19 (by decide) ?_
      exact cx_rz hC hr hlk (by first | exact Or.inl rfl | exact Or.inr rfl | exact b2i_01 _) (hpoK.mk (by rw [show mgO P x y i j = false by simp [mgO, show ¬ i = P.ln x by omega, c16]]; rfl) (hI) (fun _ _ => rfl)) hH hS dX7_comesFromRight_20
  · have c_5 := b2i_f c_5
    have c5 := hasP_nf c_5 (by omega)
    refine lv_iconst (v := 1) hx hb dX7_comesFromRight_8 (by decide) ?_
    exact cx_rz hC hr hlk (by first | exact Or.inl rfl | exact Or.inr rfl | exact b2i_01 _) (hpoK.mk (by rw [show mgO P x y i j = true by simp [mgO, show i = P.ln x by omega]]; rfl) (hI) (fun _ _ => rfl)) hH hS dX7_comesFromRight_9
theorem mv_X7_sinkIntoOrder : mvok RX7 yX7_sinkIntoOrder cX7_sinkIntoOrder 4 none 1 := ⟨qK_X7_sinkIntoOrder, qI_X7_sinkIntoOrder, qSel_X7_X7_sinkIntoOrder, qInit_X7, by decide +kernel⟩
set_option maxHeartbeats 4000000 in
set_option maxRecDepth 100000 in
theorem c_X7_sinkIntoOrder {l : Launch} {D : va_G} {cy : Nat → ClassId} {ad : Nat → Nat} {P : AS} {wy : Int32} {cl : Nat → CE} {st : Nat → Nat} {tg : Nat → Int32} {n : Nat} (hw : WF P) (hI : HI P cl st) (hn24 : n < 24) : CM l yX7_sinkIntoOrder cX7_sinkIntoOrder 4 none (rm_ 4 83) D cy (30 + 2 * P.n) ad [.ref (ad 0), .int (nI n)] (hct cy ad P wy cl st tg) none (hct cy ad P wy cl (ins st (skA (fun a => cBf P (cl (st n)) (cl (st a))) n) n (st n)) tg) := by
  have hsn := hI.2.1 n hn24
  refine CM.startQ (by decide) (Nat.le_of_ble_eq_true rfl) ?_
  intro p_ e_ s m_ args_ below meth cd A ls Q hQ hC hr hlk hK hA hH hl
  obtain ⟨hx, hb, hml, hown, hts⟩ := id hC
  have hS : va_S A s.heap s.heap [] := va_S.rf
  have hl : lv_has ls 4 [(0, .ref (ad 0)), (1, .int (nI n))] := hl
  refine lv_aload_n hx hb dX7_sinkIntoOrder_0 rfl (lv_at hl 0 rfl) ?_
  refine g_get hC hK inG7 hH 0 (by omega) rfl (ci := 5) rfl 1 (by decide) qF_X7_17 (Or.inl rfl) rfl dX7_sinkIntoOrder_1 ?_
  refine lv_iload_n hx hb dX7_sinkIntoOrder_4 rfl (lv_at hl 1 rfl) ?_
  refine hr_sg hC hK hH n (by omega) dX7_sinkIntoOrder_5 ?_
  refine lv_astore_n (lv' := [(2, .ref (ad (4 + st n))), (0, .ref (ad 0)), (1, .int (nI n))]) hx hb dX7_sinkIntoOrder_6 rfl hl (by decide) rfl (fun ls hl => ?_)
  refine lv_iload_n hx hb dX7_sinkIntoOrder_7 rfl (lv_at hl 2 rfl) ?_
  refine lv_istore_n (lv' := [(3, .int (nI n)), (2, .ref (ad (4 + st n))), (0, .ref (ad 0)), (1, .int (nI n))]) hx hb dX7_sinkIntoOrder_8 rfl hl (by decide) rfl (fun ls hl => ?_)
  have lp : ∀ (n9 m : Nat), m ≤ n → n < m + n9 → ∀ (s2 : Nat → Nat) (hs2 : s2 = shf st (n - m) n) (hsk : skA (fun a => cBf P (cl (st n)) (cl (st a))) n = skA (fun a => cBf P (cl (st n)) (cl (st a))) (n - m)) (H : Heap) (locs : List Loc), hp D A (30 + 2 * P.n) ad (hct cy ad P wy cl s2 tg) H → va_S A s.heap H locs → ∀ (ls : Array Slot), lv_has ls 4 [(3, .int (nI (n - m))), (2, .ref (ad (4 + st n))), (0, .ref (ad 0)), (1, .int (nI n))] → W p_ l e_ (rm_ 4 83) s m_ args_ below meth cd H locs 0 0 Q (F0 m_ 9 ls []) := by
    intro n9
    induction n9 with
    | zero => intro m h1 h2; omega
    | succ n9 ih_lp =>
      intro m hk1 hk2 s2 hs2 hsk H locs hH hS ls hl
      refine lv_iload_n hx hb dX7_sinkIntoOrder_9 rfl (lv_at hl 0 rfl) ?_
      refine lv_if_le (tgt := 48) hx hb dX7_sinkIntoOrder_10 (by decide) (fun c_10 => ?_) (fun c_10 => ?_)
      · have c_10 : (n - m) = 0 := by have h9 := nc_le (a := (n - m)) (b := 0) (by omega) (by omega) c_10; omega
        refine lv_aload_n hx hb dX7_sinkIntoOrder_48 rfl (lv_at hl 2 rfl) ?_
        refine g_get hC hK inG7 hH 0 (by omega) rfl (ci := 5) rfl 1 (by decide) qF_X7_17 (Or.inl rfl) rfl dX7_sinkIntoOrder_49 ?_
        refine lv_iload_n hx hb dX7_sinkIntoOrder_52 rfl (lv_at hl 0 rfl) ?_
        refine lv_aload_n hx hb dX7_sinkIntoOrder_53 rfl (lv_at hl 1 rfl) ?_
        refine hr_sgs hC hK hH hS (n - m) (st n) (by omega) (by omega) dX7_sinkIntoOrder_54 (fun H locs hH hS => ?_)
        subst hQ
        exact cm_rv hC hr hlk (by rw [hsk, show skA (fun a => cBf P (cl (st n)) (cl (st a))) (n - m) = n - m from by rw [c_10]; rfl, hs2, shf_e _ _ _ _ (by omega)]) hH hS dX7_sinkIntoOrder_55
      · have c_10 : ¬ (n - m) = 0 := by have h9 := nc_nle (a := (n - m)) (b := 0) (by omega) (by omega) c_10; omega
        refine lv_aload_n hx hb dX7_sinkIntoOrder_13 rfl (lv_at hl 1 rfl) ?_
        refine lv_aload_n hx hb dX7_sinkIntoOrder_14 rfl (lv_at hl 2 rfl) ?_
        refine g_get hC hK inG7 hH 0 (by omega) rfl (ci := 5) rfl 1 (by decide) qF_X7_17 (Or.inl rfl) rfl dX7_sinkIntoOrder_15 ?_
        refine lv_iload_n hx hb dX7_sinkIntoOrder_18 rfl (lv_at hl 0 rfl) ?_
        refine lv_iconst (v := 1) hx hb dX7_sinkIntoOrder_19 (by decide) ?_
        refine lv_isub hx hb dX7_sinkIntoOrder_20 ?_
        refine lv_chg (y := nI (n - m - 1)) (by rw [show n - m = (n - m - 1) + 1 by omega, nI_succ]; simp) ?_
        have hat : s2 (n - m - 1) = st (n - m - 1) := by rw [hs2]; unfold shf; rw [if_neg (by omega)]
        have hsb := hI.2.1 (n - m - 1) (by omega)
        have hsb2 : s2 (n - m - 1) < 24 := by rw [hat]; exact hsb
        refine hr_sg hC hK hH (n - m - 1) (by omega) dX7_sinkIntoOrder_21 ?_
        refine cm_V (As' := [.ref (ad (4 + s2 (n - m - 1)))]) (rest := []) hC (c_X1_comesBefore (j := st n) (i := s2 (n - m - 1)) hw (by omega) (by omega) ((hI.1 (st n) (by omega)).2) ((hI.1 (s2 (n - m - 1)) (by omega)).2)) mv_X1_comesBefore qM_X7_215 ⟨⟨rfl, rfl⟩, Nat.le_of_ble_eq_true rfl, Nat.le_of_ble_eq_true rfl⟩ hK hH hS hA (hp.recv hK hH (i := 4 + (st n)) (by omega) (hct_c (by omega)) rfl) hl.1 ⟨Nat.zero_le _, Nat.zero_le _⟩ rfl rfl (Nat.le_of_ble_eq_true rfl) dX7_sinkIntoOrder_22 (fun H locs hH hS => ?_)
        refine lv_if_eq (tgt := 48) hx hb dX7_sinkIntoOrder_25 (by decide) (fun c_25 => ?_) (fun c_25 => ?_)
        · have c_25 := b2i_f c_25
          refine lv_aload_n hx hb dX7_sinkIntoOrder_48 rfl (lv_at hl 2 rfl) ?_
          refine g_get hC hK inG7 hH 0 (by omega) rfl (ci := 5) rfl 1 (by decide) qF_X7_17 (Or.inl rfl) rfl dX7_sinkIntoOrder_49 ?_
          refine lv_iload_n hx hb dX7_sinkIntoOrder_52 rfl (lv_at hl 0 rfl) ?_
          refine lv_aload_n hx hb dX7_sinkIntoOrder_53 rfl (lv_at hl 1 rfl) ?_
          refine hr_sgs hC hK hH hS (n - m) (st n) (by omega) (by omega) dX7_sinkIntoOrder_54 (fun H locs hH hS => ?_)
          subst hQ
          exact cm_rv hC hr hlk (by rw [hsk, show skA (fun a => cBf P (cl (st n)) (cl (st a))) (n - m) = n - m from by rw [show n - m = (n - m - 1) + 1 by omega]; show (if _ then _ else _) = _; rw [if_neg (show ¬ cBf P (cl (st n)) (cl (st (n - m - 1))) = true by rw [← hat, c_25]; decide)], hs2, shf_e _ _ _ _ (by omega)]) hH hS dX7_sinkIntoOrder_55
        · have c_25 := b2i_t c_25
          refine lv_aload_n hx hb dX7_sinkIntoOrder_28 rfl (lv_at hl 2 rfl) ?_
          refine g_get hC hK inG7 hH 0 (by omega) rfl (ci := 5) rfl 1 (by decide) qF_X7_17 (Or.inl rfl) rfl dX7_sinkIntoOrder_29 ?_
          refine lv_iload_n hx hb dX7_sinkIntoOrder_32 rfl (lv_at hl 0 rfl) ?_
          refine lv_aload_n hx hb dX7_sinkIntoOrder_33 rfl (lv_at hl 2 rfl) ?_
          refine g_get hC hK inG7 hH 0 (by omega) rfl (ci := 5) rfl 1 (by decide) qF_X7_17 (Or.inl rfl) rfl dX7_sinkIntoOrder_34 ?_
          refine lv_iload_n hx hb dX7_sinkIntoOrder_37 rfl (lv_at hl 0 rfl) ?_
          refine lv_iconst (v := 1) hx hb dX7_sinkIntoOrder_38 (by decide) ?_
          refine lv_isub hx hb dX7_sinkIntoOrder_39 ?_
          refine lv_chg (y := nI (n - m - 1)) (by rw [show n - m = (n - m - 1) + 1 by omega, nI_succ]; simp) ?_
          refine hr_sg hC hK hH (n - m - 1) (by omega) dX7_sinkIntoOrder_40 ?_
          refine hr_sgs hC hK hH hS (n - m) (s2 (n - m - 1)) (by omega) (by omega) dX7_sinkIntoOrder_41 (fun H locs hH hS => ?_)
          refine lv_iinc (v := (nI (n - m) + (-1))) (lv' := [(3, .int ((nI (n - m) + (-1)))), (2, .ref (ad (4 + st n))), (0, .ref (ad 0)), (1, .int (nI n))]) hx hb dX7_sinkIntoOrder_42 hl (k := 0) rfl (rfl) (by decide) rfl (fun ls hl => ?_)
          have hl : lv_has ls 4 [(3, .int (nI (n - (m + 1)))), (2, .ref (ad (4 + st n))), (0, .ref (ad 0)), (1, .int (nI n))] := by have e9 : (nI (n - m) + (-1)) = nI (n - (m + 1)) := (by rw [show n - m = (n - (m + 1)) + 1 by omega, nI_succ, Int32.add_assoc, show (1 : Int32) + (-1) = 0 from rfl, Int32.add_zero]); rw [← e9]; exact hl
          refine lv_goto (tgt := 9) hx hb dX7_sinkIntoOrder_45 (by decide) ?_
          exact ih_lp (m + 1) (by omega) (by omega) _ (by rw [hs2]; have h9 := shf_s st (n - (m + 1)) n (by omega); rw [show n - (m + 1) + 1 = n - m by omega, show n - (m + 1) = n - m - 1 by omega] at h9; rw [show n - (m + 1) = n - m - 1 by omega]; exact h9) (by rw [hsk]; have h9 : skA (fun a => cBf P (cl (st n)) (cl (st a))) ((n - (m + 1)) + 1) = skA (fun a => cBf P (cl (st n)) (cl (st a))) (n - (m + 1)) := (by show (if _ then _ else _) = _; rw [if_pos (show cBf P (cl (st n)) (cl (st (n - (m + 1)))) = true by rw [show n - (m + 1) = n - m - 1 by omega, ← hat]; exact c_25)]); rw [show n - (m + 1) + 1 = n - m by omega] at h9; exact h9) _ _ hH hS ls (lv_sub hl [0, 1, 2, 3] rfl)
  exact lp (n + 1) 0 (by omega) (by omega) _ (by rw [Nat.sub_zero]; exact (shf_0 _ _).symm) (by rw [Nat.sub_zero]) _ _ hH hS ls (lv_sub hl [0, 1, 2, 3] rfl)
theorem mv_X7_placesUnlikeStage : mvok RX7 yX7_placesUnlikeStage cX7_placesUnlikeStage 4 (some .int) 1 := ⟨qK_X7_placesUnlikeStage, qI_X7_placesUnlikeStage, qSel_X7_X7_placesUnlikeStage, qInit_X7, by decide +kernel⟩
set_option maxHeartbeats 4000000 in
set_option maxRecDepth 100000 in
theorem c_X7_placesUnlikeStage {l : Launch} {D : va_G} {cy : Nat → ClassId} {ad : Nat → Nat} {P : AS} {wy : Int32} {cl : Nat → CE} {st : Nat → Nat} {tg : Nat → Int32} {t : Nat} {σ : Nat → Nat} (hw : WF P) (ht : t < P.n) (hk : P.kd t < 12) (hz : WZ P) (hI : HI P cl st) (hσ : SOd P t σ cl st (P.ln t)) : CX l yX7_placesUnlikeStage cX7_placesUnlikeStage 4 (some .int) (rm_ 3 62) D cy (30 + 2 * P.n) ad [.ref (ad 0), .ref (ad (30 + 2 * t))] (hct cy ad P wy cl st tg) (hpoK cy ad (some (.int (nI (ulC P t σ (P.ln t))))) P wy cl st tg) := by
  have hln := hw.2.1 t
  refine CX.startQ (by decide) (Nat.le_of_ble_eq_true rfl) ?_
  intro p_ e_ s m_ args_ below meth cd A ls Q hQ hC hr hlk hK hA hH hl
  obtain ⟨hx, hb, hml, hown, hts⟩ := id hC
  have hS : va_S A s.heap s.heap [] := va_S.rf
  have hl : lv_has ls 4 [(0, .ref (ad 0)), (1, .ref (ad (30 + 2 * t)))] := hl
  refine lv_iconst (v := 0) hx hb dX7_placesUnlikeStage_0 (by decide) ?_
  refine lv_istore_n (lv' := [(2, .int (0)), (0, .ref (ad 0)), (1, .ref (ad (30 + 2 * t)))]) hx hb dX7_placesUnlikeStage_1 rfl hl (by decide) rfl (fun ls hl => ?_)
  refine lv_iconst (v := 0) hx hb dX7_placesUnlikeStage_2 (by decide) ?_
  refine lv_istore_n (lv' := [(3, .int (0)), (2, .int (0)), (0, .ref (ad 0)), (1, .ref (ad (30 + 2 * t)))]) hx hb dX7_placesUnlikeStage_3 rfl hl (by decide) rfl (fun ls hl => ?_)
  have lp : ∀ (n9 k : Nat), k ≤ (P.ln t) → (P.ln t) < k + n9 → ∀ (c2 : Nat → CE) (hI2 : HI P c2 st) (hc2 : ∀ j, j < 24 → c2 j = cl j) (H : Heap) (locs : List Loc), hp D A (30 + 2 * P.n) ad (hct cy ad P wy c2 st tg) H → va_S A s.heap H locs → ∀ (ls : Array Slot), lv_has ls 4 [(3, .int (nI k)), (2, .int (nI (ulC P t σ k))), (0, .ref (ad 0)), (1, .ref (ad (30 + 2 * t)))] → W p_ l e_ (rm_ 3 62) s m_ args_ below meth cd H locs 0 0 Q (F0 m_ 4 ls []) := by
    intro n9
    induction n9 with
    | zero => intro k h1 h2; omega
    | succ n9 ih_lp =>
      intro k hk1 hk2 c2 hI2 hc2 H locs hH hS ls hl
      have hul := ulC_le P t σ k
      refine lv_iload_n hx hb dX7_placesUnlikeStage_4 rfl (lv_at hl 0 rfl) ?_
      refine lv_aload_n hx hb dX7_placesUnlikeStage_5 rfl (lv_at hl 3 rfl) ?_
      refine cm_R (As := []) (rest := [.int (nI k)]) (i := 30 + 2 * t) hC (rc_length (t := t) hw (by omega) (by omega)) qM_X7_68 ⟨Nat.le_of_ble_eq_true rfl, Nat.le_of_ble_eq_true rfl⟩ hK hH hS hA hl.1 ⟨Nat.zero_le _, Nat.zero_le _⟩ rfl rfl (Nat.le_of_ble_eq_true rfl) dX7_placesUnlikeStage_6 (fun H locs hH hS => ?_)
      refine lv_icmp_ge (tgt := 46) hx hb dX7_placesUnlikeStage_9 (by decide) (fun c_9 => ?_) (fun c_9 => ?_)
      · have c_9 := nc_le (a := (P.ln t)) (b := k) (by omega) (by omega) c_9
        refine lv_iload_n hx hb dX7_placesUnlikeStage_46 rfl (lv_at hl 1 rfl) ?_
        subst hQ
        exact cx_ri hC hr hlk (hpoK.mk (by rw [show P.ln t = k by omega]) (hI2) (hc2)) hH hS dX7_placesUnlikeStage_47
      · have c_9 := nc_nle (a := (P.ln t)) (b := k) (by omega) (by omega) c_9
        refine lv_aload_n hx hb dX7_placesUnlikeStage_12 rfl (lv_at hl 3 rfl) ?_
        refine lv_iload_n hx hb dX7_placesUnlikeStage_13 rfl (lv_at hl 0 rfl) ?_
        refine lv_aload_n hx hb dX7_placesUnlikeStage_14 rfl (lv_at hl 2 rfl) ?_
        refine g_get hC hK inG7 hH 0 (by omega) rfl (ci := 5) rfl 3 (by decide) qF_X7_26 (Or.inl rfl) rfl dX7_placesUnlikeStage_15 ?_
        refine cm_R (As := [.int (nI k), .ref (ad (4 + 24))]) (rest := []) (i := 30 + 2 * t) hC (rc_read (t := t) (i := k) (j := 24) hw (by omega) (by omega) (by omega) (by omega)) qM_X7_117 ⟨Nat.le_of_ble_eq_true rfl, Nat.le_of_ble_eq_true rfl⟩ hK hH hS hA hl.1 ⟨Nat.zero_le _, Nat.zero_le _⟩ rfl rfl (Nat.le_of_ble_eq_true rfl) dX7_placesUnlikeStage_18 (fun H locs hH hS => ?_)
        refine lv_aload_n hx hb dX7_placesUnlikeStage_21 rfl (lv_at hl 2 rfl) ?_
        refine g_get hC hK inG7 hH 0 (by omega) rfl (ci := 5) rfl 3 (by decide) qF_X7_26 (Or.inl rfl) rfl dX7_placesUnlikeStage_22 ?_
        refine lv_aload_n hx hb dX7_placesUnlikeStage_25 rfl (lv_at hl 2 rfl) ?_
        refine g_get hC hK inG7 hH 0 (by omega) rfl (ci := 5) rfl 1 (by decide) qF_X7_17 (Or.inl rfl) rfl dX7_placesUnlikeStage_26 ?_
        refine lv_iload_n hx hb dX7_placesUnlikeStage_29 rfl (lv_at hl 0 rfl) ?_
        have hsk := hI.2.1 k (by omega)
        refine hr_sg hC hK hH k (by omega) dX7_placesUnlikeStage_30 ?_
        refine cm_V (As' := [.ref (ad (4 + st k))]) (rest := []) hC (c_X1_isLike (j := 24) (i := st k) (by omega) (by omega) (by rw [va_up_self]; exact (cOK_rd hw (hI2.1 24 (by omega)) hk).2) (by rw [va_up_ne _ _ (by omega)]; exact (hI2.1 _ (by omega)).2)) mv_X1_isLike qM_X7_182 ⟨⟨rfl, rfl⟩, Nat.le_of_ble_eq_true rfl, Nat.le_of_ble_eq_true rfl⟩ hK hH hS hA (hp.recv hK hH (i := 4 + 24) (by omega) (hct_c (by omega)) rfl) hl.1 ⟨Nat.zero_le _, Nat.zero_le _⟩ rfl rfl (Nat.le_of_ble_eq_true rfl) dX7_placesUnlikeStage_31 (fun H locs hH hS => ?_)
        refine lv_if_ne (tgt := 40) hx hb dX7_placesUnlikeStage_34 (by decide) (fun c_34 => ?_) (fun c_34 => ?_)
        · have c_34 := b2i_t c_34
          obtain ⟨y9, hy9⟩ := hσ k (by omega)
          rw [va_up_self, va_up_ne _ _ (by omega), hc2 _ hsk, hy9, rd_lkp hw hz hk] at c_34
          have e8 : ulC P t σ (k + 1) = ulC P t σ k := by show (if _ then _ else _) = _; rw [if_pos c_34]
          have hl : lv_has ls 4 [(3, .int (nI k)), (2, .int (nI (ulC P t σ (k + 1)))), (0, .ref (ad 0)), (1, .ref (ad (30 + 2 * t)))] := by have e9 : nI (ulC P t σ k) = nI (ulC P t σ (k + 1)) := (by rw [e8]); rw [← e9]; exact hl
          refine lv_iinc (v := nI (k + 1)) (lv' := [(3, .int (nI (k + 1))), (2, .int (nI (ulC P t σ (k + 1)))), (0, .ref (ad 0)), (1, .ref (ad (30 + 2 * t)))]) hx hb dX7_placesUnlikeStage_40 hl (k := 0) rfl (nI_1 _) (by decide) rfl (fun ls hl => ?_)
          refine lv_goto (tgt := 4) hx hb dX7_placesUnlikeStage_43 (by decide) ?_
          exact ih_lp (k + 1) (by omega) (by omega) _ (HI_up hI2 (cOK_rd hw (hI2.1 24 (by omega)) hk)) (fun j9 hj9 => by rw [va_up_ne _ _ (by omega)]; exact hc2 j9 hj9) _ _ hH hS ls (lv_sub hl [0, 1, 2, 3] rfl)
        · have c_34 := b2i_f c_34
          obtain ⟨y9, hy9⟩ := hσ k (by omega)
          rw [va_up_self, va_up_ne _ _ (by omega), hc2 _ hsk, hy9, rd_lkp hw hz hk] at c_34
          have e8 : ulC P t σ (k + 1) = ulC P t σ k + 1 := by show (if _ then _ else _) = _; rw [if_neg (by rw [c_34]; decide)]
          refine lv_iinc (v := nI ((ulC P t σ k) + 1)) (lv' := [(2, .int (nI ((ulC P t σ k) + 1))), (3, .int (nI k)), (0, .ref (ad 0)), (1, .ref (ad (30 + 2 * t)))]) hx hb dX7_placesUnlikeStage_37 hl (k := 1) rfl (nI_1 _) (by decide) rfl (fun ls hl => ?_)
          have hl : lv_has ls 4 [(2, .int (nI (ulC P t σ (k + 1)))), (3, .int (nI k)), (0, .ref (ad 0)), (1, .ref (ad (30 + 2 * t)))] := by have e9 : nI ((ulC P t σ k) + 1) = nI (ulC P t σ (k + 1)) := (by rw [e8]); rw [← e9]; exact hl
          refine lv_iinc (v := nI (k + 1)) (lv' := [(3, .int (nI (k + 1))), (2, .int (nI (ulC P t σ (k + 1)))), (0, .ref (ad 0)), (1, .ref (ad (30 + 2 * t)))]) hx hb dX7_placesUnlikeStage_40 hl (k := 1) rfl (nI_1 _) (by decide) rfl (fun ls hl => ?_)
          refine lv_goto (tgt := 4) hx hb dX7_placesUnlikeStage_43 (by decide) ?_
          exact ih_lp (k + 1) (by omega) (by omega) _ (HI_up hI2 (cOK_rd hw (hI2.1 24 (by omega)) hk)) (fun j9 hj9 => by rw [va_up_ne _ _ (by omega)]; exact hc2 j9 hj9) _ _ hH hS ls (lv_sub hl [0, 1, 2, 3] rfl)
  exact lp ((P.ln t) + 1) 0 (by omega) (by omega) _ (hI) (fun _ _ => rfl) _ _ hH hS ls (lv_sub hl [0, 1, 2, 3] rfl)
theorem mv_X7_sort : mvok RX7 yX7_sort cX7_sort 4 (some .int) 1 := ⟨qK_X7_sort, qI_X7_sort, qSel_X7_X7_sort, qInit_X7, by decide +kernel⟩
set_option maxHeartbeats 4000000 in
set_option maxRecDepth 100000 in
theorem c_X7_sort {l : Launch} {D : va_G} {cy : Nat → ClassId} {ad : Nat → Nat} {P : AS} {wy : Int32} {cl : Nat → CE} {st : Nat → Nat} {tg : Nat → Int32} {c : Int32} (hw : WF P) (hz : WZ P) (hI : HI P cl st) (hg : ∀ a b, gd (P.re a b)) : CX l yX7_sort cX7_sort 4 (some .int) (rm_ 5 106) D cy (30 + 2 * P.n) ad [.ref (ad 0), .int (c)] (hct cy ad P wy cl st tg) (hpost cy ad (sp_sort P c)) := by
  refine CX.startQ (by decide) (Nat.le_of_ble_eq_true rfl) ?_
  intro p_ e_ s m_ args_ below meth cd A ls Q hQ hC hr hlk hK hA hH hl
  obtain ⟨hx, hb, hml, hown, hts⟩ := id hC
  have hS : va_S A s.heap s.heap [] := va_S.rf
  have hl : lv_has ls 4 [(0, .ref (ad 0)), (1, .int (c))] := hl
  refine lv_aload_n hx hb dX7_sort_0 rfl (lv_at hl 0 rfl) ?_
  refine lv_iload_n hx hb dX7_sort_1 rfl (lv_at hl 1 rfl) ?_
  refine cm_V (As' := [.int (c)]) (rest := []) hC (c_X7_rowIn hw) mv_X7_rowIn qM_X7_61 ⟨⟨rfl, rfl⟩, Nat.le_of_ble_eq_true rfl, Nat.le_of_ble_eq_true rfl⟩ hK hH hS hA (hp.recv hK hH (i := 0) (by omega) rfl rfl) hl.1 ⟨Nat.zero_le _, Nat.zero_le _⟩ rfl rfl (Nat.le_of_ble_eq_true rfl) dX7_sort_2 (fun H locs hH hS => ?_)
  rcases rw_cases P ad c with ⟨hna, hra⟩ | ⟨j, t, hja, rfl, h1a, hka, hra, hna⟩
  · refine W.eq (g2 := F0 m_ 5 ls (.null :: [])) (by rw [hna]; rfl) ?_
    refine lv_astore_nN (lv' := [(2, .null), (0, .ref (ad 0)), (1, .int (c))]) hx hb dX7_sort_5 rfl hl (by decide) rfl (fun ls hl => ?_)
    refine lv_aload_nN hx hb dX7_sort_6 rfl (lv_at hl 0 rfl) ?_
    refine lv_ifnonnullN hx hb dX7_sort_7 ?_
    refine lv_aload_n hx hb dX7_sort_10 rfl (lv_at hl 1 rfl) ?_
    refine lv_aload_n hx hb dX7_sort_11 rfl (lv_at hl 1 rfl) ?_
    refine lv_iload_n hx hb dX7_sort_12 rfl (lv_at hl 2 rfl) ?_
    refine cm_V (As' := [.int (c)]) (rest := [.ref (ad 0)]) hC (c_X7_rowAmiss hw) mv_X7_rowAmiss qM_X7_65 ⟨⟨rfl, rfl⟩, Nat.le_of_ble_eq_true rfl, Nat.le_of_ble_eq_true rfl⟩ hK hH hS hA (hp.recv hK hH (i := 0) (by omega) rfl rfl) hl.1 ⟨Nat.zero_le _, Nat.zero_le _⟩ rfl rfl (Nat.le_of_ble_eq_true rfl) dX7_sort_13 (fun H locs hH hS => ?_)
    refine cm_V (As' := [.int (nI (rsA P c))]) (rest := []) hC (c_X7_refuse) mv_X7_refuse qM_X7_41 ⟨⟨rfl, rfl⟩, Nat.le_of_ble_eq_true rfl, Nat.le_of_ble_eq_true rfl⟩ hK hH hS hA (hp.recv hK hH (i := 0) (by omega) rfl rfl) hl.1 ⟨Nat.zero_le _, Nat.zero_le _⟩ rfl rfl (Nat.le_of_ble_eq_true rfl) dX7_sort_16 (fun H locs hH hS => ?_)
    subst hQ
    exact cx_ri hC hr hlk (hpost.mk (by rcases rs_n (P := P) (c := c) with ⟨a1, a2⟩ | ⟨a1, a2⟩ <;> simp [sp_sort, rf, rsPl, rsVal, a1, a2, hra] <;> rfl) (by repeat' (first | exact hI | refine HI_up ?_ ?_ | refine cOK_rd hw ?_ (by omega) | refine cOK_td ?_ (by omega) | exact cOK_th (by omega) | refine HI_sm hw ?_ (by omega) (by omega) | refine HI_c (st := st) ?_ (by omega)))) hH hS dX7_sort_19
  · have hqa : rsRow P j = 0 := by rw [← rsA_j hja]; exact hra
    have hta : t < P.n := by have := hw.2.2.2.1 j; omega
    have hlna := hw.2.1 t
    refine W.eq (g2 := F0 m_ 5 ls (.ref (ad (30 + 2 * t)) :: [])) (by rw [hna]; rfl) ?_
    refine lv_astore_n (lv' := [(2, .ref (ad (30 + 2 * t))), (0, .ref (ad 0)), (1, .int (nI j))]) hx hb dX7_sort_5 rfl hl (by decide) rfl (fun ls hl => ?_)
    refine lv_aload_n hx hb dX7_sort_6 rfl (lv_at hl 0 rfl) ?_
    refine lv_ifnonnull (tgt := 20) hx hb dX7_sort_7 (by decide) ?_
    refine lv_iconst (v := 0) hx hb dX7_sort_20 (by decide) ?_
    refine lv_istore_n (lv' := [(3, .int (0)), (2, .ref (ad (30 + 2 * t))), (0, .ref (ad 0)), (1, .int (nI j))]) hx hb dX7_sort_21 rfl hl (by decide) rfl (fun ls hl => ?_)
    have lp : ∀ (n9 k : Nat), k ≤ (P.ln t) → (P.ln t) < k + n9 → ∀ (cl : Nat → CE) (st : Nat → Nat) (hI : HI P cl st) (hso : SOd P t (sgm P t k) cl st k) (H : Heap) (locs : List Loc), hp D A (30 + 2 * P.n) ad (hct cy ad P wy cl st tg) H → va_S A s.heap H locs → ∀ (ls : Array Slot), lv_has ls 4 [(3, .int (nI k)), (2, .ref (ad (30 + 2 * t))), (0, .ref (ad 0)), (1, .int (nI j))] → W p_ l e_ (rm_ 5 106) s m_ args_ below meth cd H locs 0 0 Q (F0 m_ 22 ls []) := by
      intro n9
      induction n9 with
      | zero => intro k h1 h2; omega
      | succ n9 ih_lp =>
        intro k hk1 hk2 cl st hI hso H locs hH hS ls hl
        refine lv_iload_n hx hb dX7_sort_22 rfl (lv_at hl 0 rfl) ?_
        refine lv_aload_n hx hb dX7_sort_23 rfl (lv_at hl 1 rfl) ?_
        refine cm_R (As := []) (rest := [.int (nI k)]) (i := 30 + 2 * t) hC (rc_length (t := t) hw (by omega) (by omega)) qM_X7_68 ⟨Nat.le_of_ble_eq_true rfl, Nat.le_of_ble_eq_true rfl⟩ hK hH hS hA hl.1 ⟨Nat.zero_le _, Nat.zero_le _⟩ rfl rfl (Nat.le_of_ble_eq_true rfl) dX7_sort_24 (fun H locs hH hS => ?_)
        refine lv_icmp_ge (tgt := 52) hx hb dX7_sort_27 (by decide) (fun c_27 => ?_) (fun c_27 => ?_)
        · have c_27 := nc_le (a := (P.ln t)) (b := k) (by omega) (by omega) c_27
          have hso9 : SOd P t (sgm P t (P.ln t)) cl st (P.ln t) := by rw [show P.ln t = k by omega]; exact hso
          refine lv_aload_n hx hb dX7_sort_52 rfl (lv_at hl 2 rfl) ?_
          refine lv_aload_n hx hb dX7_sort_53 rfl (lv_at hl 1 rfl) ?_
          refine cx_V (As' := [.ref (ad (30 + 2 * t))]) (rest := []) hC (c_X7_placesUnlikeStage (t := t) (σ := sgm P t (P.ln t)) hw (by omega) (by omega) hz hI hso9) mv_X7_placesUnlikeStage qM_X7_164 ⟨⟨rfl, rfl⟩, Nat.le_of_ble_eq_true rfl, Nat.le_of_ble_eq_true rfl⟩ hK hH hS hA (hp.recv hK hH (i := 0) (by omega) rfl rfl) hl.1 ⟨Nat.zero_le _, Nat.zero_le _⟩ rfl rfl (Nat.le_of_ble_eq_true rfl) dX7_sort_54 (fun v9 c9 H locs hpo hH hS hfr9 => ?_)
          obtain ⟨e9, c2, rfl, hI2, hc2⟩ := hpo
          subst e9
          refine lv_istore_n (lv' := [(3, .int (nI (ulC P t (sgm P t (P.ln t)) (P.ln t)))), (2, .ref (ad (30 + 2 * t))), (0, .ref (ad 0)), (1, .int (nI j))]) hx hb dX7_sort_57 rfl hl (by decide) rfl (fun ls hl => ?_)
          refine lv_aload_n hx hb dX7_sort_58 rfl (lv_at hl 2 rfl) ?_
          refine lv_aload_n hx hb dX7_sort_59 rfl (lv_at hl 1 rfl) ?_
          refine cm_V (As' := [.ref (ad (30 + 2 * t))]) (rest := []) hC (c_X7_writeStage (t := t) hw (by omega) (by omega) (hI2)) mv_X7_writeStage qM_X7_143 ⟨⟨rfl, rfl⟩, Nat.le_of_ble_eq_true rfl, Nat.le_of_ble_eq_true rfl⟩ hK hH hS hA (hp.recv hK hH (i := 0) (by omega) rfl rfl) hl.1 ⟨Nat.zero_le _, Nat.zero_le _⟩ rfl rfl (Nat.le_of_ble_eq_true rfl) dX7_sort_60 (fun H locs hH hS => ?_)
          refine lv_pop hx hb dX7_sort_63 rfl ?_
          refine lv_aload_n hx hb dX7_sort_64 rfl (lv_at hl 2 rfl) ?_
          refine lv_iload_n hx hb dX7_sort_65 rfl (lv_at hl 0 rfl) ?_
          refine cm_V (As' := [.int (nI (ulC P t (sgm P t (P.ln t)) (P.ln t)))]) (rest := []) hC (c_X7_done (P := wgP P t (fun i => i) (fun i => c2 (st i)) (P.ln t))) mv_X7_done qM_X7_50 ⟨⟨rfl, rfl⟩, Nat.le_of_ble_eq_true rfl, Nat.le_of_ble_eq_true rfl⟩ hK hH hS hA (hp.recv hK hH (i := 0) (by omega) rfl rfl) hl.1 ⟨Nat.zero_le _, Nat.zero_le _⟩ rfl rfl (Nat.le_of_ble_eq_true rfl) dX7_sort_66 (fun H locs hH hS => ?_)
          have hse := so_end hw hz hg hka (SO_eq hI (by omega) hso9 hc2)
          subst hQ
          exact cx_ri hC hr hlk (hpost.mk (P := wgP P t (fun i => i) (fun i => c2 (st i)) (P.ln t)) (by have e8 : sp_sort P (nI j) = (nI (othC (bubO P t (P.ln t - 1)) t (P.wh t) (P.re t) (P.ln t)), bubO P t (P.ln t - 1), 0) := (by simp [sp_sort, isC_nI hja, cN_c hja, hqa, h1a]); rw [e8, hse.2, hse.1]) (HI_n (P := P) hI2 rfl)) hH hS dX7_sort_69
        · have c_27 := nc_nle (a := (P.ln t)) (b := k) (by omega) (by omega) c_27
          refine lv_aload_n hx hb dX7_sort_30 rfl (lv_at hl 1 rfl) ?_
          refine lv_iload_n hx hb dX7_sort_31 rfl (lv_at hl 0 rfl) ?_
          refine lv_aload_n hx hb dX7_sort_32 rfl (lv_at hl 2 rfl) ?_
          refine g_get hC hK inG7 hH 0 (by omega) rfl (ci := 5) rfl 1 (by decide) qF_X7_17 (Or.inl rfl) rfl dX7_sort_33 ?_
          refine lv_iload_n hx hb dX7_sort_36 rfl (lv_at hl 0 rfl) ?_
          have hsk := hI.2.1 k (by omega)
          refine hr_sg hC hK hH k (by omega) dX7_sort_37 ?_
          refine cm_R (As := [.int (nI k), .ref (ad (4 + st k))]) (rest := []) (i := 30 + 2 * t) hC (rc_read (t := t) (i := k) (j := st k) hw (by omega) (by omega) (by omega) (by omega)) qM_X7_117 ⟨Nat.le_of_ble_eq_true rfl, Nat.le_of_ble_eq_true rfl⟩ hK hH hS hA hl.1 ⟨Nat.zero_le _, Nat.zero_le _⟩ rfl rfl (Nat.le_of_ble_eq_true rfl) dX7_sort_38 (fun H locs hH hS => ?_)
          refine lv_aload_n hx hb dX7_sort_41 rfl (lv_at hl 2 rfl) ?_
          refine lv_iload_n hx hb dX7_sort_42 rfl (lv_at hl 0 rfl) ?_
          refine cm_V (As' := [.int (nI k)]) (rest := []) hC (c_X7_sinkIntoOrder (n := k) hw (by repeat' (first | exact hI | refine HI_up ?_ ?_ | refine cOK_rd hw ?_ (by omega) | refine cOK_td ?_ (by omega) | exact cOK_th (by omega) | refine HI_sm hw ?_ (by omega) (by omega) | refine HI_c (st := st) ?_ (by omega))) (by omega)) mv_X7_sinkIntoOrder qM_X7_160 ⟨⟨rfl, rfl⟩, Nat.le_of_ble_eq_true rfl, Nat.le_of_ble_eq_true rfl⟩ hK hH hS hA (hp.recv hK hH (i := 0) (by omega) rfl rfl) hl.1 ⟨Nat.zero_le _, Nat.zero_le _⟩ rfl rfl (Nat.le_of_ble_eq_true rfl) dX7_sort_43 (fun H locs hH hS => ?_)
          refine lv_iinc (v := nI (k + 1)) (lv' := [(3, .int (nI (k + 1))), (2, .ref (ad (30 + 2 * t))), (0, .ref (ad 0)), (1, .int (nI j))]) hx hb dX7_sort_46 hl (k := 0) rfl (nI_1 _) (by decide) rfl (fun ls hl => ?_)
          refine lv_goto (tgt := 22) hx hb dX7_sort_49 (by decide) ?_
          exact ih_lp (k + 1) (by omega) (by omega) _ _ (HI_ins (HI_up hI (cOK_rd hw (hI.1 _ (by omega)) hka)) (skA_le _ _) (by omega)) (SO_s hI (by omega) hso) _ _ hH hS ls (lv_sub hl [0, 1, 2, 3] rfl)
    exact lp ((P.ln t) + 1) 0 (by omega) (by omega) _ _ (hI) (fun i hi => absurd hi (Nat.not_lt_zero i)) _ _ hH hS ls (lv_sub hl [0, 1, 2, 3] rfl)
