theorem mv_X7_alike : mvok RX7 yX7_alike cX7_alike 6 (some .int) 2 := ⟨qK_X7_alike, qI_X7_alike, qSel_X7_X7_alike, qInit_X7, by decide +kernel⟩
set_option maxHeartbeats 4000000 in
set_option maxRecDepth 100000 in
theorem c_X7_alike {l : Launch} {D : va_G} {cy : Nat → ClassId} {ad : Nat → Nat} {P : AS} {wy : Int32} {cl : Nat → CE} {st : Nat → Nat} {tg : Nat → Int32} {c d : Int32} (hw : WF P) (hz : WZ P) (hI : HI P cl st) (hg : ∀ a b, gd (P.re a b)) : CX l yX7_alike cX7_alike 6 (some .int) (rm_ 3 62) D cy (30 + 2 * P.n) ad [.ref (ad 0), .int (c), .int (d)] (hct cy ad P wy cl st tg) (hpost cy ad (sp_alike P c d)) := by
  refine CX.startQ (by decide) (Nat.le_of_ble_eq_true rfl) ?_
  intro p_ e_ s m_ args_ below meth cd A ls Q hQ hC hr hlk hK hA hH hl
  obtain ⟨hx, hb, hml, hown, hts⟩ := id hC
  have hS : va_S A s.heap s.heap [] := va_S.rf
  have hl : lv_has ls 6 [(0, .ref (ad 0)), (1, .int (c)), (2, .int (d))] := hl
  refine lv_aload_n hx hb dX7_alike_0 rfl (lv_at hl 0 rfl) ?_
  refine lv_iload_n hx hb dX7_alike_1 rfl (lv_at hl 1 rfl) ?_
  refine cm_V (As' := [.int (c)]) (rest := []) hC (c_X7_rowIn hw) mv_X7_rowIn qM_X7_61 ⟨⟨rfl, rfl⟩, Nat.le_of_ble_eq_true rfl, Nat.le_of_ble_eq_true rfl⟩ hK hH hS hA (hp.recv hK hH (i := 0) (by omega) rfl rfl) hl.1 ⟨Nat.zero_le _, Nat.zero_le _⟩ rfl rfl (Nat.le_of_ble_eq_true rfl) dX7_alike_2 (fun H locs hH hS => ?_)
  rcases rw_cases P ad c with ⟨hna, hra⟩ | ⟨j, t, hja, rfl, h1a, hka, hra, hna⟩
  · refine W.eq (g2 := F0 m_ 5 ls (.null :: [])) (by rw [hna]; rfl) ?_
    refine lv_astore_nN (lv' := [(3, .null), (0, .ref (ad 0)), (1, .int (c)), (2, .int (d))]) hx hb dX7_alike_5 rfl hl (by decide) rfl (fun ls hl => ?_)
    refine lv_aload_n hx hb dX7_alike_6 rfl (lv_at hl 1 rfl) ?_
    refine lv_iload_n hx hb dX7_alike_7 rfl (lv_at hl 3 rfl) ?_
    refine cm_V (As' := [.int (d)]) (rest := []) hC (c_X7_rowIn hw) mv_X7_rowIn qM_X7_61 ⟨⟨rfl, rfl⟩, Nat.le_of_ble_eq_true rfl, Nat.le_of_ble_eq_true rfl⟩ hK hH hS hA (hp.recv hK hH (i := 0) (by omega) rfl rfl) hl.1 ⟨Nat.zero_le _, Nat.zero_le _⟩ rfl rfl (Nat.le_of_ble_eq_true rfl) dX7_alike_8 (fun H locs hH hS => ?_)
    rcases rw_cases P ad d with ⟨hnb, hrb⟩ | ⟨q, u, hjb, rfl, h1b, hkb, hrb, hnb⟩
    · refine W.eq (g2 := F0 m_ 11 ls (.null :: [])) (by rw [hnb]; rfl) ?_
      refine lv_astoreN (lv' := [(4, .null), (3, .null), (0, .ref (ad 0)), (1, .int (c)), (2, .int (d))]) hx hb dX7_alike_11 hl (by decide) rfl (fun ls hl => ?_)
      refine lv_aload_nN hx hb dX7_alike_13 rfl (lv_at hl 1 rfl) ?_
      refine lv_ifnullN (tgt := 22) hx hb dX7_alike_14 (by decide) ?_
      obtain ⟨za, hza⟩ : ∃ z, rsA P c = z := ⟨_, rfl⟩
      obtain ⟨zb, hzb⟩ : ∃ z, rsA P d = z := ⟨_, rfl⟩
      have hla3 : za ≤ 3 := hza ▸ rsA_le P _
      have hlb3 : zb ≤ 3 := hzb ▸ rsA_le P _
      refine lv_aload_n hx hb dX7_alike_22 rfl (lv_at hl 2 rfl) ?_
      refine lv_aload_n hx hb dX7_alike_23 rfl (lv_at hl 2 rfl) ?_
      refine lv_iload_n hx hb dX7_alike_24 rfl (lv_at hl 3 rfl) ?_
      refine cm_V (As' := [.int (c)]) (rest := [.ref (ad 0)]) hC (c_X7_rowAmissA hw hza) mv_X7_rowAmiss qM_X7_65 ⟨⟨rfl, rfl⟩, Nat.le_of_ble_eq_true rfl, Nat.le_of_ble_eq_true rfl⟩ hK hH hS hA (hp.recv hK hH (i := 0) (by omega) rfl rfl) hl.1 ⟨Nat.zero_le _, Nat.zero_le _⟩ rfl rfl (Nat.le_of_ble_eq_true rfl) dX7_alike_25 (fun H locs hH hS => ?_)
      refine lv_aload_n hx hb dX7_alike_28 rfl (lv_at hl 2 rfl) ?_
      refine lv_iload_n hx hb dX7_alike_29 rfl (lv_at hl 4 rfl) ?_
      refine cm_V (As' := [.int (d)]) (rest := [.int (nI za), .ref (ad 0)]) hC (c_X7_rowAmissA hw hzb) mv_X7_rowAmiss qM_X7_65 ⟨⟨rfl, rfl⟩, Nat.le_of_ble_eq_true rfl, Nat.le_of_ble_eq_true rfl⟩ hK hH hS hA (hp.recv hK hH (i := 0) (by omega) rfl rfl) hl.1 ⟨Nat.zero_le _, Nat.zero_le _⟩ rfl rfl (Nat.le_of_ble_eq_true rfl) dX7_alike_30 (fun H locs hH hS => ?_)
      refine cm_S (As := [.int (nI za), .int (nI zb)]) (rest := [.ref (ad 0)]) hC (c_X7_earlier (a := za) (b := zb) (by omega) (by omega)) ms_X7_earlier qM_X7_135 ⟨⟨rfl, rfl⟩, Nat.le_of_ble_eq_true rfl, Nat.le_of_ble_eq_true rfl⟩ hK hH hS hA hl.1 ⟨Nat.zero_le _, Nat.zero_le _⟩ rfl rfl (Nat.le_of_ble_eq_true rfl) dX7_alike_33 (fun H locs hH hS => ?_)
      refine cm_V (As' := [.int (nI (earl za zb))]) (rest := []) hC (c_X7_refuse) mv_X7_refuse qM_X7_41 ⟨⟨rfl, rfl⟩, Nat.le_of_ble_eq_true rfl, Nat.le_of_ble_eq_true rfl⟩ hK hH hS hA (hp.recv hK hH (i := 0) (by omega) rfl rfl) hl.1 ⟨Nat.zero_le _, Nat.zero_le _⟩ rfl rfl (Nat.le_of_ble_eq_true rfl) dX7_alike_36 (fun H locs hH hS => ?_)
      subst hQ
      exact cx_ri hC hr hlk (hpost.mk (by subst hza; subst hzb; exact (by unfold sp_alike; exact rf2 (by omega))) (by repeat' (first | exact hI | refine HI_up ?_ ?_ | refine cOK_rd hw ?_ (by omega) | refine cOK_td ?_ (by omega) | exact cOK_th (by omega) | refine HI_sm hw ?_ (by omega) (by omega) | refine HI_c (st := st) ?_ (by omega)))) hH hS dX7_alike_39
    · have hqb : rsRow P q = 0 := by rw [← rsA_j hjb]; exact hrb
      have htb : u < P.n := by have := hw.2.2.2.1 q; omega
      have hlnb := hw.2.1 u
      refine W.eq (g2 := F0 m_ 11 ls (.ref (ad (30 + 2 * u)) :: [])) (by rw [hnb]; rfl) ?_
      refine lv_astore (lv' := [(4, .ref (ad (30 + 2 * u))), (3, .null), (0, .ref (ad 0)), (1, .int (c)), (2, .int (nI q))]) hx hb dX7_alike_11 hl (by decide) rfl (fun ls hl => ?_)
      refine lv_aload_nN hx hb dX7_alike_13 rfl (lv_at hl 1 rfl) ?_
      refine lv_ifnullN (tgt := 22) hx hb dX7_alike_14 (by decide) ?_
      obtain ⟨za, hza⟩ : ∃ z, rsA P c = z := ⟨_, rfl⟩
      obtain ⟨zb, hzb⟩ : ∃ z, rsA P (nI q) = z := ⟨_, rfl⟩
      have hla3 : za ≤ 3 := hza ▸ rsA_le P _
      have hlb3 : zb ≤ 3 := hzb ▸ rsA_le P _
      refine lv_aload_n hx hb dX7_alike_22 rfl (lv_at hl 2 rfl) ?_
      refine lv_aload_n hx hb dX7_alike_23 rfl (lv_at hl 2 rfl) ?_
      refine lv_iload_n hx hb dX7_alike_24 rfl (lv_at hl 3 rfl) ?_
      refine cm_V (As' := [.int (c)]) (rest := [.ref (ad 0)]) hC (c_X7_rowAmissA hw hza) mv_X7_rowAmiss qM_X7_65 ⟨⟨rfl, rfl⟩, Nat.le_of_ble_eq_true rfl, Nat.le_of_ble_eq_true rfl⟩ hK hH hS hA (hp.recv hK hH (i := 0) (by omega) rfl rfl) hl.1 ⟨Nat.zero_le _, Nat.zero_le _⟩ rfl rfl (Nat.le_of_ble_eq_true rfl) dX7_alike_25 (fun H locs hH hS => ?_)
      refine lv_aload_n hx hb dX7_alike_28 rfl (lv_at hl 2 rfl) ?_
      refine lv_iload_n hx hb dX7_alike_29 rfl (lv_at hl 4 rfl) ?_
      refine cm_V (As' := [.int (nI q)]) (rest := [.int (nI za), .ref (ad 0)]) hC (c_X7_rowAmissA hw hzb) mv_X7_rowAmiss qM_X7_65 ⟨⟨rfl, rfl⟩, Nat.le_of_ble_eq_true rfl, Nat.le_of_ble_eq_true rfl⟩ hK hH hS hA (hp.recv hK hH (i := 0) (by omega) rfl rfl) hl.1 ⟨Nat.zero_le _, Nat.zero_le _⟩ rfl rfl (Nat.le_of_ble_eq_true rfl) dX7_alike_30 (fun H locs hH hS => ?_)
      refine cm_S (As := [.int (nI za), .int (nI zb)]) (rest := [.ref (ad 0)]) hC (c_X7_earlier (a := za) (b := zb) (by omega) (by omega)) ms_X7_earlier qM_X7_135 ⟨⟨rfl, rfl⟩, Nat.le_of_ble_eq_true rfl, Nat.le_of_ble_eq_true rfl⟩ hK hH hS hA hl.1 ⟨Nat.zero_le _, Nat.zero_le _⟩ rfl rfl (Nat.le_of_ble_eq_true rfl) dX7_alike_33 (fun H locs hH hS => ?_)
      refine cm_V (As' := [.int (nI (earl za zb))]) (rest := []) hC (c_X7_refuse) mv_X7_refuse qM_X7_41 ⟨⟨rfl, rfl⟩, Nat.le_of_ble_eq_true rfl, Nat.le_of_ble_eq_true rfl⟩ hK hH hS hA (hp.recv hK hH (i := 0) (by omega) rfl rfl) hl.1 ⟨Nat.zero_le _, Nat.zero_le _⟩ rfl rfl (Nat.le_of_ble_eq_true rfl) dX7_alike_36 (fun H locs hH hS => ?_)
      subst hQ
      exact cx_ri hC hr hlk (hpost.mk (by subst hza; subst hzb; exact (by unfold sp_alike; exact rf2 (by omega))) (by repeat' (first | exact hI | refine HI_up ?_ ?_ | refine cOK_rd hw ?_ (by omega) | refine cOK_td ?_ (by omega) | exact cOK_th (by omega) | refine HI_sm hw ?_ (by omega) (by omega) | refine HI_c (st := st) ?_ (by omega)))) hH hS dX7_alike_39
  · have hqa : rsRow P j = 0 := by rw [← rsA_j hja]; exact hra
    have hta : t < P.n := by have := hw.2.2.2.1 j; omega
    have hlna := hw.2.1 t
    refine W.eq (g2 := F0 m_ 5 ls (.ref (ad (30 + 2 * t)) :: [])) (by rw [hna]; rfl) ?_
    refine lv_astore_n (lv' := [(3, .ref (ad (30 + 2 * t))), (0, .ref (ad 0)), (1, .int (nI j)), (2, .int (d))]) hx hb dX7_alike_5 rfl hl (by decide) rfl (fun ls hl => ?_)
    refine lv_aload_n hx hb dX7_alike_6 rfl (lv_at hl 1 rfl) ?_
    refine lv_iload_n hx hb dX7_alike_7 rfl (lv_at hl 3 rfl) ?_
    refine cm_V (As' := [.int (d)]) (rest := []) hC (c_X7_rowIn hw) mv_X7_rowIn qM_X7_61 ⟨⟨rfl, rfl⟩, Nat.le_of_ble_eq_true rfl, Nat.le_of_ble_eq_true rfl⟩ hK hH hS hA (hp.recv hK hH (i := 0) (by omega) rfl rfl) hl.1 ⟨Nat.zero_le _, Nat.zero_le _⟩ rfl rfl (Nat.le_of_ble_eq_true rfl) dX7_alike_8 (fun H locs hH hS => ?_)
    rcases rw_cases P ad d with ⟨hnb, hrb⟩ | ⟨q, u, hjb, rfl, h1b, hkb, hrb, hnb⟩
    · refine W.eq (g2 := F0 m_ 11 ls (.null :: [])) (by rw [hnb]; rfl) ?_
      refine lv_astoreN (lv' := [(4, .null), (3, .ref (ad (30 + 2 * t))), (0, .ref (ad 0)), (1, .int (nI j)), (2, .int (d))]) hx hb dX7_alike_11 hl (by decide) rfl (fun ls hl => ?_)
      refine lv_aload_n hx hb dX7_alike_13 rfl (lv_at hl 1 rfl) ?_
      refine lv_ifnull hx hb dX7_alike_14 ?_
      refine lv_aloadN hx hb dX7_alike_17 (lv_at hl 0 rfl) ?_
      refine lv_ifnonnullN hx hb dX7_alike_19 ?_
      obtain ⟨za, hza⟩ : ∃ z, rsA P (nI j) = z := ⟨_, rfl⟩
      obtain ⟨zb, hzb⟩ : ∃ z, rsA P d = z := ⟨_, rfl⟩
      have hla3 : za ≤ 3 := hza ▸ rsA_le P _
      have hlb3 : zb ≤ 3 := hzb ▸ rsA_le P _
      refine lv_aload_n hx hb dX7_alike_22 rfl (lv_at hl 2 rfl) ?_
      refine lv_aload_n hx hb dX7_alike_23 rfl (lv_at hl 2 rfl) ?_
      refine lv_iload_n hx hb dX7_alike_24 rfl (lv_at hl 3 rfl) ?_
      refine cm_V (As' := [.int (nI j)]) (rest := [.ref (ad 0)]) hC (c_X7_rowAmissA hw hza) mv_X7_rowAmiss qM_X7_65 ⟨⟨rfl, rfl⟩, Nat.le_of_ble_eq_true rfl, Nat.le_of_ble_eq_true rfl⟩ hK hH hS hA (hp.recv hK hH (i := 0) (by omega) rfl rfl) hl.1 ⟨Nat.zero_le _, Nat.zero_le _⟩ rfl rfl (Nat.le_of_ble_eq_true rfl) dX7_alike_25 (fun H locs hH hS => ?_)
      refine lv_aload_n hx hb dX7_alike_28 rfl (lv_at hl 2 rfl) ?_
      refine lv_iload_n hx hb dX7_alike_29 rfl (lv_at hl 4 rfl) ?_
      refine cm_V (As' := [.int (d)]) (rest := [.int (nI za), .ref (ad 0)]) hC (c_X7_rowAmissA hw hzb) mv_X7_rowAmiss qM_X7_65 ⟨⟨rfl, rfl⟩, Nat.le_of_ble_eq_true rfl, Nat.le_of_ble_eq_true rfl⟩ hK hH hS hA (hp.recv hK hH (i := 0) (by omega) rfl rfl) hl.1 ⟨Nat.zero_le _, Nat.zero_le _⟩ rfl rfl (Nat.le_of_ble_eq_true rfl) dX7_alike_30 (fun H locs hH hS => ?_)
      refine cm_S (As := [.int (nI za), .int (nI zb)]) (rest := [.ref (ad 0)]) hC (c_X7_earlier (a := za) (b := zb) (by omega) (by omega)) ms_X7_earlier qM_X7_135 ⟨⟨rfl, rfl⟩, Nat.le_of_ble_eq_true rfl, Nat.le_of_ble_eq_true rfl⟩ hK hH hS hA hl.1 ⟨Nat.zero_le _, Nat.zero_le _⟩ rfl rfl (Nat.le_of_ble_eq_true rfl) dX7_alike_33 (fun H locs hH hS => ?_)
      refine cm_V (As' := [.int (nI (earl za zb))]) (rest := []) hC (c_X7_refuse) mv_X7_refuse qM_X7_41 ⟨⟨rfl, rfl⟩, Nat.le_of_ble_eq_true rfl, Nat.le_of_ble_eq_true rfl⟩ hK hH hS hA (hp.recv hK hH (i := 0) (by omega) rfl rfl) hl.1 ⟨Nat.zero_le _, Nat.zero_le _⟩ rfl rfl (Nat.le_of_ble_eq_true rfl) dX7_alike_36 (fun H locs hH hS => ?_)
      subst hQ
      exact cx_ri hC hr hlk (hpost.mk (by subst hza; subst hzb; exact (by unfold sp_alike; exact rf2 (by omega))) (by repeat' (first | exact hI | refine HI_up ?_ ?_ | refine cOK_rd hw ?_ (by omega) | refine cOK_td ?_ (by omega) | exact cOK_th (by omega) | refine HI_sm hw ?_ (by omega) (by omega) | refine HI_c (st := st) ?_ (by omega)))) hH hS dX7_alike_39
    · have hqb : rsRow P q = 0 := by rw [← rsA_j hjb]; exact hrb
      have htb : u < P.n := by have := hw.2.2.2.1 q; omega
      have hlnb := hw.2.1 u
      refine W.eq (g2 := F0 m_ 11 ls (.ref (ad (30 + 2 * u)) :: [])) (by rw [hnb]; rfl) ?_
      refine lv_astore (lv' := [(4, .ref (ad (30 + 2 * u))), (3, .ref (ad (30 + 2 * t))), (0, .ref (ad 0)), (1, .int (nI j)), (2, .int (nI q))]) hx hb dX7_alike_11 hl (by decide) rfl (fun ls hl => ?_)
      refine lv_aload_n hx hb dX7_alike_13 rfl (lv_at hl 1 rfl) ?_
      refine lv_ifnull hx hb dX7_alike_14 ?_
      refine lv_aload hx hb dX7_alike_17 (lv_at hl 0 rfl) ?_
      refine lv_ifnonnull (tgt := 40) hx hb dX7_alike_19 (by decide) ?_
      refine lv_aload_n hx hb dX7_alike_40 rfl (lv_at hl 1 rfl) ?_
      refine cm_R (As := []) (rest := []) (i := 30 + 2 * t) hC (rc_length (t := t) hw (by omega) (by omega)) qM_X7_68 ⟨Nat.le_of_ble_eq_true rfl, Nat.le_of_ble_eq_true rfl⟩ hK hH hS hA hl.1 ⟨Nat.zero_le _, Nat.zero_le _⟩ rfl rfl (Nat.le_of_ble_eq_true rfl) dX7_alike_41 (fun H locs hH hS => ?_)
      refine lv_aload hx hb dX7_alike_44 (lv_at hl 0 rfl) ?_
      refine cm_R (As := []) (rest := [.int (nI (P.ln t))]) (i := 30 + 2 * u) hC (rc_length (t := u) hw (by omega) (by omega)) qM_X7_68 ⟨Nat.le_of_ble_eq_true rfl, Nat.le_of_ble_eq_true rfl⟩ hK hH hS hA hl.1 ⟨Nat.zero_le _, Nat.zero_le _⟩ rfl rfl (Nat.le_of_ble_eq_true rfl) dX7_alike_46 (fun H locs hH hS => ?_)
      refine lv_icmp_eq (tgt := 58) hx hb dX7_alike_49 (by decide) (fun c_49 => ?_) (fun c_49 => ?_)
      · have c_49 := nc_eq (a := (P.ln t)) (b := (P.ln u)) (by omega) (by omega) c_49
        refine lv_iconst (v := 0) hx hb dX7_alike_58 (by decide) ?_
        refine lv_istore (lv' := [(5, .int (0)), (4, .ref (ad (30 + 2 * u))), (3, .ref (ad (30 + 2 * t))), (0, .ref (ad 0)), (1, .int (nI j)), (2, .int (nI q))]) hx hb dX7_alike_59 hl (by decide) rfl (fun ls hl => ?_)
        have lp : ∀ (n9 k : Nat), k ≤ (P.ln t) → (P.ln t) < k + n9 → ∀ (cl : Nat → CE) (hI : HI P cl st) (hak : alkA P t u k = true) (H : Heap) (locs : List Loc), hp D A (30 + 2 * P.n) ad (hct cy ad P wy cl st tg) H → va_S A s.heap H locs → ∀ (ls : Array Slot), lv_has ls 6 [(5, .int (nI k)), (4, .ref (ad (30 + 2 * u))), (3, .ref (ad (30 + 2 * t))), (0, .ref (ad 0)), (1, .int (nI j)), (2, .int (nI q))] → W p_ l e_ (rm_ 3 62) s m_ args_ below meth cd H locs 0 0 Q (F0 m_ 61 ls []) := by
          intro n9
          induction n9 with
          | zero => intro k h1 h2; omega
          | succ n9 ih_lp =>
            intro k hk1 hk2 cl hI hak H locs hH hS ls hl
            refine lv_iload hx hb dX7_alike_61 (lv_at hl 0 rfl) ?_
            refine lv_aload_n hx hb dX7_alike_63 rfl (lv_at hl 2 rfl) ?_
            refine cm_R (As := []) (rest := [.int (nI k)]) (i := 30 + 2 * t) hC (rc_length (t := t) hw (by omega) (by omega)) qM_X7_68 ⟨Nat.le_of_ble_eq_true rfl, Nat.le_of_ble_eq_true rfl⟩ hK hH hS hA hl.1 ⟨Nat.zero_le _, Nat.zero_le _⟩ rfl rfl (Nat.le_of_ble_eq_true rfl) dX7_alike_64 (fun H locs hH hS => ?_)
            refine lv_icmp_ge (tgt := 117) hx hb dX7_alike_67 (by decide) (fun c_67 => ?_) (fun c_67 => ?_)
            · have c_67 := nc_le (a := (P.ln t)) (b := k) (by omega) (by omega) c_67
              refine lv_aload_n hx hb dX7_alike_117 rfl (lv_at hl 3 rfl) ?_
              refine lv_iconst (v := 1) hx hb dX7_alike_118 (by decide) ?_
              refine cm_V (As' := [.int (1)]) (rest := []) hC (c_X7_done) mv_X7_done qM_X7_50 ⟨⟨rfl, rfl⟩, Nat.le_of_ble_eq_true rfl, Nat.le_of_ble_eq_true rfl⟩ hK hH hS hA (hp.recv hK hH (i := 0) (by omega) rfl rfl) hl.1 ⟨Nat.zero_le _, Nat.zero_le _⟩ rfl rfl (Nat.le_of_ble_eq_true rfl) dX7_alike_119 (fun H locs hH hS => ?_)
              subst hQ
              exact cx_ri hC hr hlk (hpost.mk (by have e9 : alkA P t u (P.ln t) = true := (by rw [show P.ln t = k by omega]; exact hak); have e8 : sp_alike P (nI j) (nI q) = (b2i (alkA P t u (P.ln t)), P, 0) := (by simp [sp_alike, isC_nI hja, isC_nI hjb, cN_c hja, cN_c hjb, rs_2ok hqa hqb, h1a, h1b, c_49]); rw [e8, e9]; rfl) (by repeat' (first | exact hI | refine HI_up ?_ ?_ | refine cOK_rd hw ?_ (by omega) | refine cOK_td ?_ (by omega) | exact cOK_th (by omega) | refine HI_sm hw ?_ (by omega) (by omega) | refine HI_c (st := st) ?_ (by omega)))) hH hS dX7_alike_122
            · have c_67 := nc_nle (a := (P.ln t)) (b := k) (by omega) (by omega) c_67
              refine lv_aload_n hx hb dX7_alike_70 rfl (lv_at hl 2 rfl) ?_
              refine lv_iload hx hb dX7_alike_71 (lv_at hl 0 rfl) ?_
              refine lv_aload_n hx hb dX7_alike_73 rfl (lv_at hl 3 rfl) ?_
              refine g_get hC hK inG7 hH 0 (by omega) rfl (ci := 5) rfl 3 (by decide) qF_X7_26 (Or.inl rfl) rfl dX7_alike_74 ?_
              refine cm_R (As := [.int (nI k), .ref (ad (4 + 24))]) (rest := []) (i := 30 + 2 * t) hC (rc_read (t := t) (i := k) (j := 24) hw (by omega) (by omega) (by omega) (by omega)) qM_X7_117 ⟨Nat.le_of_ble_eq_true rfl, Nat.le_of_ble_eq_true rfl⟩ hK hH hS hA hl.1 ⟨Nat.zero_le _, Nat.zero_le _⟩ rfl rfl (Nat.le_of_ble_eq_true rfl) dX7_alike_77 (fun H locs hH hS => ?_)
              refine lv_aload hx hb dX7_alike_80 (lv_at hl 1 rfl) ?_
              refine lv_iload hx hb dX7_alike_82 (lv_at hl 0 rfl) ?_
              refine lv_aload_n hx hb dX7_alike_84 rfl (lv_at hl 3 rfl) ?_
              refine g_get hC hK inG7 hH 0 (by omega) rfl (ci := 5) rfl 4 (by decide) qF_X7_30 (Or.inl rfl) rfl dX7_alike_85 ?_
              refine cm_R (As := [.int (nI k), .ref (ad (4 + 25))]) (rest := []) (i := 30 + 2 * u) hC (rc_read (t := u) (i := k) (j := 25) hw (by omega) (by omega) (by omega) (by omega)) qM_X7_117 ⟨Nat.le_of_ble_eq_true rfl, Nat.le_of_ble_eq_true rfl⟩ hK hH hS hA hl.1 ⟨Nat.zero_le _, Nat.zero_le _⟩ rfl rfl (Nat.le_of_ble_eq_true rfl) dX7_alike_88 (fun H locs hH hS => ?_)
              refine lv_aload_n hx hb dX7_alike_91 rfl (lv_at hl 3 rfl) ?_
              refine g_get hC hK inG7 hH 0 (by omega) rfl (ci := 5) rfl 3 (by decide) qF_X7_26 (Or.inl rfl) rfl dX7_alike_92 ?_
              refine lv_aload_n hx hb dX7_alike_95 rfl (lv_at hl 3 rfl) ?_
              refine g_get hC hK inG7 hH 0 (by omega) rfl (ci := 5) rfl 4 (by decide) qF_X7_30 (Or.inl rfl) rfl dX7_alike_96 ?_
              refine cm_V (As' := [.ref (ad (4 + 25))]) (rest := []) hC (c_X1_isLike (j := 24) (i := 25) (by omega) (by omega) ((HI_c (st := st) (by repeat' (first | exact hI | refine HI_up ?_ ?_ | refine cOK_rd hw ?_ (by omega) | refine cOK_td ?_ (by omega) | exact cOK_th (by omega) | refine HI_sm hw ?_ (by omega) (by omega) | refine HI_c (st := st) ?_ (by omega))) (by omega)).2) ((HI_c (st := st) (by repeat' (first | exact hI | refine HI_up ?_ ?_ | refine cOK_rd hw ?_ (by omega) | refine cOK_td ?_ (by omega) | exact cOK_th (by omega) | refine HI_sm hw ?_ (by omega) (by omega) | refine HI_c (st := st) ?_ (by omega))) (by omega)).2)) mv_X1_isLike qM_X7_182 ⟨⟨rfl, rfl⟩, Nat.le_of_ble_eq_true rfl, Nat.le_of_ble_eq_true rfl⟩ hK hH hS hA (hp.recv hK hH (i := 4 + 24) (by omega) (hct_c (by omega)) rfl) hl.1 ⟨Nat.zero_le _, Nat.zero_le _⟩ rfl rfl (Nat.le_of_ble_eq_true rfl) dX7_alike_99 (fun H locs hH hS => ?_)
              refine lv_if_ne (tgt := 111) hx hb dX7_alike_102 (by decide) (fun c_102 => ?_) (fun c_102 => ?_)
              · have c_102 := b2i_t c_102
                rw [va_up_self, va_up_ne _ _ (by decide), va_up_self, alk_lk hw hz hg hka hkb] at c_102
                refine lv_iinc (v := nI (k + 1)) (lv' := [(5, .int (nI (k + 1))), (4, .ref (ad (30 + 2 * u))), (3, .ref (ad (30 + 2 * t))), (0, .ref (ad 0)), (1, .int (nI j)), (2, .int (nI q))]) hx hb dX7_alike_111 hl (k := 0) rfl (nI_1 _) (by decide) rfl (fun ls hl => ?_)
                refine lv_goto (tgt := 61) hx hb dX7_alike_114 (by decide) ?_
                exact ih_lp (k + 1) (by omega) (by omega) _ (by repeat' (first | exact hI | refine HI_up ?_ ?_ | refine cOK_rd hw ?_ (by omega) | refine cOK_td ?_ (by omega) | exact cOK_th (by omega) | refine HI_sm hw ?_ (by omega) (by omega) | refine HI_c (st := st) ?_ (by omega))) (by show (alkA P t u k && alkP P t u k) = true; rw [hak, c_102]; rfl) _ _ hH hS ls (lv_sub hl [0, 1, 2, 3, 4, 5] rfl)
              · have c_102 := b2i_f c_102
                rw [va_up_self, va_up_ne _ _ (by decide), va_up_self, alk_lk hw hz hg hka hkb] at c_102
                refine lv_aload_n hx hb dX7_alike_105 rfl (lv_at hl 3 rfl) ?_
                refine lv_iconst (v := 0) hx hb dX7_alike_106 (by decide) ?_
                refine cm_V (As' := [.int (0)]) (rest := []) hC (c_X7_done) mv_X7_done qM_X7_50 ⟨⟨rfl, rfl⟩, Nat.le_of_ble_eq_true rfl, Nat.le_of_ble_eq_true rfl⟩ hK hH hS hA (hp.recv hK hH (i := 0) (by omega) rfl rfl) hl.1 ⟨Nat.zero_le _, Nat.zero_le _⟩ rfl rfl (Nat.le_of_ble_eq_true rfl) dX7_alike_107 (fun H locs hH hS => ?_)
                subst hQ
                exact cx_ri hC hr hlk (hpost.mk (by have e9 := alkA_no c_102 (show k < P.ln t by omega); have e8 : sp_alike P (nI j) (nI q) = (b2i (alkA P t u (P.ln t)), P, 0) := (by simp [sp_alike, isC_nI hja, isC_nI hjb, cN_c hja, cN_c hjb, rs_2ok hqa hqb, h1a, h1b, c_49]); rw [e8, e9]; rfl) (by repeat' (first | exact hI | refine HI_up ?_ ?_ | refine cOK_rd hw ?_ (by omega) | refine cOK_td ?_ (by omega) | exact cOK_th (by omega) | refine HI_sm hw ?_ (by omega) (by omega) | refine HI_c (st := st) ?_ (by omega)))) hH hS dX7_alike_110
        exact lp ((P.ln t) + 1) 0 (by omega) (by omega) _ (hI) (rfl) _ _ hH hS ls (lv_sub hl [0, 1, 2, 3, 4, 5] rfl)
      · have c_49 := nc_ne (a := (P.ln t)) (b := (P.ln u)) (by omega) (by omega) c_49
        refine lv_aload_n hx hb dX7_alike_52 rfl (lv_at hl 2 rfl) ?_
        refine lv_iconst (v := 0) hx hb dX7_alike_53 (by decide) ?_
        refine cm_V (As' := [.int (0)]) (rest := []) hC (c_X7_done) mv_X7_done qM_X7_50 ⟨⟨rfl, rfl⟩, Nat.le_of_ble_eq_true rfl, Nat.le_of_ble_eq_true rfl⟩ hK hH hS hA (hp.recv hK hH (i := 0) (by omega) rfl rfl) hl.1 ⟨Nat.zero_le _, Nat.zero_le _⟩ rfl rfl (Nat.le_of_ble_eq_true rfl) dX7_alike_54 (fun H locs hH hS => ?_)
        subst hQ
        exact cx_ri hC hr hlk (hpost.mk (by simp [sp_alike, isC_nI hja, isC_nI hjb, cN_c hja, cN_c hjb, rs_2ok hqa hqb, h1a, h1b, c_49]) (by repeat' (first | exact hI | refine HI_up ?_ ?_ | refine cOK_rd hw ?_ (by omega) | refine cOK_td ?_ (by omega) | exact cOK_th (by omega) | refine HI_sm hw ?_ (by omega) (by omega) | refine HI_c (st := st) ?_ (by omega)))) hH hS dX7_alike_57
theorem mv_X7_find : mvok RX7 yX7_find cX7_find 8 (some .int) 5 := ⟨qK_X7_find, qI_X7_find, qSel_X7_X7_find, qInit_X7, by decide +kernel⟩
set_option maxHeartbeats 4000000 in
set_option maxRecDepth 100000 in
theorem c_X7_find {l : Launch} {D : va_G} {cy : Nat → ClassId} {ad : Nat → Nat} {P : AS} {wy : Int32} {cl : Nat → CE} {st : Nat → Nat} {tg : Nat → Int32} {c i so a b : Int32} (hw : WF P) (hz : WZ P) (hI : HI P cl st) (hg : ∀ a b, gd (P.re a b)) : CX l yX7_find cX7_find 8 (some .int) (rm_ 3 62) D cy (30 + 2 * P.n) ad [.ref (ad 0), .int (c), .int (i), .int (so), .int (a), .int (b)] (hct cy ad P wy cl st tg) (hpost cy ad (sp_find P c i so a b)) := by
  refine CX.startQ (by decide) (Nat.le_of_ble_eq_true rfl) ?_
  intro p_ e_ s m_ args_ below meth cd A ls Q hQ hC hr hlk hK hA hH hl
  obtain ⟨hx, hb, hml, hown, hts⟩ := id hC
  have hS : va_S A s.heap s.heap [] := va_S.rf
  have hl : lv_has ls 8 [(0, .ref (ad 0)), (1, .int (c)), (2, .int (i)), (3, .int (so)), (4, .int (a)), (5, .int (b))] := hl
  refine lv_iload_n hx hb dX7_find_0 rfl (lv_at hl 3 rfl) ?_
  refine cm_S (As := [.int (so)]) (rest := []) hC (c_X7_isSort) ms_X7_isSort qM_X7_172 ⟨⟨rfl, rfl⟩, Nat.le_of_ble_eq_true rfl, Nat.le_of_ble_eq_true rfl⟩ hK hH hS hA hl.1 ⟨Nat.zero_le _, Nat.zero_le _⟩ rfl rfl (Nat.le_of_ble_eq_true rfl) dX7_find_1 (fun H locs hH hS => ?_)
  refine lv_if_ne (tgt := 13) hx hb dX7_find_4 (by decide) (fun c_4 => ?_) (fun c_4 => ?_)
  · have c_4 := b2i_t c_4
    obtain ⟨s8, hk7, rfl⟩ := inR_ex (n := 7) (by decide) c_4
    refine lv_aload_n hx hb dX7_find_13 rfl (lv_at hl 0 rfl) ?_
    refine lv_iload_n hx hb dX7_find_14 rfl (lv_at hl 1 rfl) ?_
    refine cm_V (As' := [.int (c)]) (rest := []) hC (c_X7_rowIn hw) mv_X7_rowIn qM_X7_61 ⟨⟨rfl, rfl⟩, Nat.le_of_ble_eq_true rfl, Nat.le_of_ble_eq_true rfl⟩ hK hH hS hA (hp.recv hK hH (i := 0) (by omega) rfl rfl) hl.1 ⟨Nat.zero_le _, Nat.zero_le _⟩ rfl rfl (Nat.le_of_ble_eq_true rfl) dX7_find_15 (fun H locs hH hS => ?_)
    rcases rw_cases P ad c with ⟨hna, hra⟩ | ⟨j, t, hja, rfl, h1a, hka, hra, hna⟩
    · refine W.eq (g2 := F0 m_ 18 ls (.null :: [])) (by rw [hna]; rfl) ?_
      refine lv_astoreN (lv' := [(6, .null), (0, .ref (ad 0)), (1, .int (c)), (2, .int (i)), (3, .int (nI s8)), (4, .int (a)), (5, .int (b))]) hx hb dX7_find_18 hl (by decide) rfl (fun ls hl => ?_)
      refine lv_aloadN hx hb dX7_find_20 (lv_at hl 0 rfl) ?_
      refine lv_ifnonnullN hx hb dX7_find_22 ?_
      refine lv_aload_n hx hb dX7_find_25 rfl (lv_at hl 1 rfl) ?_
      refine lv_aload_n hx hb dX7_find_26 rfl (lv_at hl 1 rfl) ?_
      refine lv_iload_n hx hb dX7_find_27 rfl (lv_at hl 2 rfl) ?_
      refine cm_V (As' := [.int (c)]) (rest := [.ref (ad 0)]) hC (c_X7_rowAmiss hw) mv_X7_rowAmiss qM_X7_65 ⟨⟨rfl, rfl⟩, Nat.le_of_ble_eq_true rfl, Nat.le_of_ble_eq_true rfl⟩ hK hH hS hA (hp.recv hK hH (i := 0) (by omega) rfl rfl) hl.1 ⟨Nat.zero_le _, Nat.zero_le _⟩ rfl rfl (Nat.le_of_ble_eq_true rfl) dX7_find_28 (fun H locs hH hS => ?_)
      refine cm_V (As' := [.int (nI (rsA P c))]) (rest := []) hC (c_X7_refuse) mv_X7_refuse qM_X7_41 ⟨⟨rfl, rfl⟩, Nat.le_of_ble_eq_true rfl, Nat.le_of_ble_eq_true rfl⟩ hK hH hS hA (hp.recv hK hH (i := 0) (by omega) rfl rfl) hl.1 ⟨Nat.zero_le _, Nat.zero_le _⟩ rfl rfl (Nat.le_of_ble_eq_true rfl) dX7_find_31 (fun H locs hH hS => ?_)
      subst hQ
      exact cx_ri hC hr hlk (hpost.mk (by rcases rs_n (P := P) (c := c) with ⟨a1, a2⟩ | ⟨a1, a2⟩ <;> simp [sp_find, rf, rsPl, rsVal, a1, a2, c_4, cN_s (show s8 ≤ 7 from hk7) (by decide), hra] <;> rfl) (by repeat' (first | exact hI | refine HI_up ?_ ?_ | refine cOK_rd hw ?_ (by omega) | refine cOK_td ?_ (by omega) | exact cOK_th (by omega) | refine HI_sm hw ?_ (by omega) (by omega) | refine HI_c (st := st) ?_ (by omega)))) hH hS dX7_find_34
    · have hqa : rsRow P j = 0 := by rw [← rsA_j hja]; exact hra
      have hta : t < P.n := by have := hw.2.2.2.1 j; omega
      have hlna := hw.2.1 t
      refine W.eq (g2 := F0 m_ 18 ls (.ref (ad (30 + 2 * t)) :: [])) (by rw [hna]; rfl) ?_
      refine lv_astore (lv' := [(6, .ref (ad (30 + 2 * t))), (0, .ref (ad 0)), (1, .int (nI j)), (2, .int (i)), (3, .int (nI s8)), (4, .int (a)), (5, .int (b))]) hx hb dX7_find_18 hl (by decide) rfl (fun ls hl => ?_)
      refine lv_aload hx hb dX7_find_20 (lv_at hl 0 rfl) ?_
      refine lv_ifnonnull (tgt := 35) hx hb dX7_find_22 (by decide) ?_
      refine lv_aload hx hb dX7_find_35 (lv_at hl 0 rfl) ?_
      refine cm_R (As := []) (rest := []) (i := 30 + 2 * t) hC (rc_isPlain (t := t) hw (by omega) (by omega)) qM_X7_132 ⟨Nat.le_of_ble_eq_true rfl, Nat.le_of_ble_eq_true rfl⟩ hK hH hS hA hl.1 ⟨Nat.zero_le _, Nat.zero_le _⟩ rfl rfl (Nat.le_of_ble_eq_true rfl) dX7_find_37 (fun H locs hH hS => ?_)
      refine lv_if_ne (tgt := 50) hx hb dX7_find_40 (by decide) (fun c_40 => ?_) (fun c_40 => ?_)
      · have c_40 := b2d_t c_40
        refine lv_aload_n hx hb dX7_find_50 rfl (lv_at hl 1 rfl) ?_
        refine g_get hC hK inG7 hH 0 (by omega) rfl (ci := 5) rfl 3 (by decide) qF_X7_26 (Or.inl rfl) rfl dX7_find_51 ?_
        refine lv_iload_n hx hb dX7_find_54 rfl (lv_at hl 4 rfl) ?_
        refine lv_iload hx hb dX7_find_55 (lv_at hl 5 rfl) ?_
        refine lv_iload hx hb dX7_find_57 (lv_at hl 6 rfl) ?_
        refine cm_V (As' := [.int (nI s8), .int (a), .int (b)]) (rest := []) hC (c_X1_holdTold (j := 24) (by omega) (by omega)) mv_X1_holdTold qM_X7_175 ⟨⟨rfl, rfl⟩, Nat.le_of_ble_eq_true rfl, Nat.le_of_ble_eq_true rfl⟩ hK hH hS hA (hp.recv hK hH (i := 4 + 24) (by omega) (hct_c (by omega)) rfl) hl.1 ⟨Nat.zero_le _, Nat.zero_le _⟩ rfl rfl (Nat.le_of_ble_eq_true rfl) dX7_find_59 (fun H locs hH hS => ?_)
        refine lv_iload_n hx hb dX7_find_62 rfl (lv_at hl 3 rfl) ?_
        refine lv_iconst (v := 0) hx hb dX7_find_63 (by decide) ?_
        refine hj_max hC hl.1 qM_X7_179 (Nat.le_of_ble_eq_true rfl) (Nat.le_of_ble_eq_true rfl) ⟨Nat.zero_le _, Nat.zero_le _⟩ dX7_find_64 ?_
        have hci := cN_lt i
        refine lv_chg (y := nI (cN i)) (mx_cN i) ?_
        refine lv_istore (lv' := [(7, .int (nI (cN i))), (6, .ref (ad (30 + 2 * t))), (0, .ref (ad 0)), (1, .int (nI j)), (2, .int (i)), (3, .int (nI s8)), (4, .int (a)), (5, .int (b))]) hx hb dX7_find_67 hl (by decide) rfl (fun ls hl => ?_)
        have lp : ∀ (n9 k : Nat), k ≤ (P.ln t + cN i) → (P.ln t + cN i) < k + n9 → ∀ (cl : Nat → CE) (hI : HI P cl st) (hone : ∃ y, cl 24 = tdC s8 a b y) (hkb : k < 2147483648) (hge : cN i ≤ k) (hfd : fnd P t s8 (told s8 a b) (P.ln t + 1) (cN i) = fnd P t s8 (told s8 a b) (P.ln t + 1 - (k - cN i)) k) (H : Heap) (locs : List Loc), hp D A (30 + 2 * P.n) ad (hct cy ad P wy cl st tg) H → va_S A s.heap H locs → ∀ (ls : Array Slot), lv_has ls 8 [(7, .int (nI k)), (6, .ref (ad (30 + 2 * t))), (0, .ref (ad 0)), (1, .int (nI j)), (2, .int (i)), (3, .int (nI s8)), (4, .int (a)), (5, .int (b))] → W p_ l e_ (rm_ 3 62) s m_ args_ below meth cd H locs 0 0 Q (F0 m_ 69 ls []) := by
          intro n9
          induction n9 with
          | zero => intro k h1 h2; omega
          | succ n9 ih_lp =>
            intro k hk1 hk2 cl hI hone hkb hge hfd H locs hH hS ls hl
            refine lv_iload hx hb dX7_find_69 (lv_at hl 0 rfl) ?_
            refine lv_aload hx hb dX7_find_71 (lv_at hl 1 rfl) ?_
            refine cm_R (As := []) (rest := [.int (nI k)]) (i := 30 + 2 * t) hC (rc_length (t := t) hw (by omega) (by omega)) qM_X7_68 ⟨Nat.le_of_ble_eq_true rfl, Nat.le_of_ble_eq_true rfl⟩ hK hH hS hA hl.1 ⟨Nat.zero_le _, Nat.zero_le _⟩ rfl rfl (Nat.le_of_ble_eq_true rfl) dX7_find_73 (fun H locs hH hS => ?_)
            refine lv_icmp_ge (tgt := 117) hx hb dX7_find_76 (by decide) (fun c_76 => ?_) (fun c_76 => ?_)
            · have c_76 := nc_le (a := (P.ln t)) (b := k) (by omega) (by omega) c_76
              refine lv_aload_n hx hb dX7_find_117 rfl (lv_at hl 2 rfl) ?_
              refine lv_iconst (v := (-1)) hx hb dX7_find_118 (by decide) ?_
              refine cm_V (As' := [.int ((-1))]) (rest := []) hC (c_X7_done) mv_X7_done qM_X7_50 ⟨⟨rfl, rfl⟩, Nat.le_of_ble_eq_true rfl, Nat.le_of_ble_eq_true rfl⟩ hK hH hS hA (hp.recv hK hH (i := 0) (by omega) rfl rfl) hl.1 ⟨Nat.zero_le _, Nat.zero_le _⟩ rfl rfl (Nat.le_of_ble_eq_true rfl) dX7_find_119 (fun H locs hH hS => ?_)
              subst hQ
              exact cx_ri hC hr hlk (hpost.mk (by rw [find_eq hw hja h1a hqa hk7 c_40, hfd, fnd_end (by omega)]) (by repeat' (first | exact hI | refine HI_up ?_ ?_ | refine cOK_rd hw ?_ (by omega) | refine cOK_td ?_ (by omega) | exact cOK_th (by omega) | refine HI_sm hw ?_ (by omega) (by omega) | refine HI_c (st := st) ?_ (by omega)))) hH hS dX7_find_122
            · have c_76 := nc_nle (a := (P.ln t)) (b := k) (by omega) (by omega) c_76
              refine lv_aload hx hb dX7_find_79 (lv_at hl 1 rfl) ?_
              refine lv_iload hx hb dX7_find_81 (lv_at hl 0 rfl) ?_
              refine lv_aload_n hx hb dX7_find_83 rfl (lv_at hl 2 rfl) ?_
              refine g_get hC hK inG7 hH 0 (by omega) rfl (ci := 5) rfl 4 (by decide) qF_X7_30 (Or.inl rfl) rfl dX7_find_84 ?_
              refine cm_R (As := [.int (nI k), .ref (ad (4 + 25))]) (rest := []) (i := 30 + 2 * t) hC (rc_read (t := t) (i := k) (j := 25) hw (by omega) (by omega) (by omega) (by omega)) qM_X7_117 ⟨Nat.le_of_ble_eq_true rfl, Nat.le_of_ble_eq_true rfl⟩ hK hH hS hA hl.1 ⟨Nat.zero_le _, Nat.zero_le _⟩ rfl rfl (Nat.le_of_ble_eq_true rfl) dX7_find_87 (fun H locs hH hS => ?_)
              refine lv_aload_n hx hb dX7_find_90 rfl (lv_at hl 2 rfl) ?_
              refine g_get hC hK inG7 hH 0 (by omega) rfl (ci := 5) rfl 4 (by decide) qF_X7_30 (Or.inl rfl) rfl dX7_find_91 ?_
              refine lv_aload_n hx hb dX7_find_94 rfl (lv_at hl 2 rfl) ?_
              refine g_get hC hK inG7 hH 0 (by omega) rfl (ci := 5) rfl 3 (by decide) qF_X7_26 (Or.inl rfl) rfl dX7_find_95 ?_
              refine cm_V (As' := [.ref (ad (4 + 24))]) (rest := []) hC (c_X1_isLike (j := 25) (i := 24) (by omega) (by omega) ((HI_c (st := st) (by repeat' (first | exact hI | refine HI_up ?_ ?_ | refine cOK_rd hw ?_ (by omega) | refine cOK_td ?_ (by omega) | exact cOK_th (by omega) | refine HI_sm hw ?_ (by omega) (by omega) | refine HI_c (st := st) ?_ (by omega))) (by omega)).2) ((HI_c (st := st) (by repeat' (first | exact hI | refine HI_up ?_ ?_ | refine cOK_rd hw ?_ (by omega) | refine cOK_td ?_ (by omega) | exact cOK_th (by omega) | refine HI_sm hw ?_ (by omega) (by omega) | refine HI_c (st := st) ?_ (by omega))) (by omega)).2)) mv_X1_isLike qM_X7_182 ⟨⟨rfl, rfl⟩, Nat.le_of_ble_eq_true rfl, Nat.le_of_ble_eq_true rfl⟩ hK hH hS hA (hp.recv hK hH (i := 4 + 25) (by omega) (hct_c (by omega)) rfl) hl.1 ⟨Nat.zero_le _, Nat.zero_le _⟩ rfl rfl (Nat.le_of_ble_eq_true rfl) dX7_find_98 (fun H locs hH hS => ?_)
              refine lv_if_eq (tgt := 111) hx hb dX7_find_101 (by decide) (fun c_101 => ?_) (fun c_101 => ?_)
              · have c_101 := b2i_f c_101
                obtain ⟨y9, hy9⟩ := hone
                rw [va_up_self, va_up_ne _ _ (by decide), hy9, find_lk hg c_40 hk7] at c_101
                have c_101 := of_decide_eq_false c_101
                refine lv_iinc (v := nI (k + 1)) (lv' := [(7, .int (nI (k + 1))), (6, .ref (ad (30 + 2 * t))), (0, .ref (ad 0)), (1, .int (nI j)), (2, .int (i)), (3, .int (nI s8)), (4, .int (a)), (5, .int (b))]) hx hb dX7_find_111 hl (k := 0) rfl (nI_1 _) (by decide) rfl (fun ls hl => ?_)
                refine lv_goto (tgt := 69) hx hb dX7_find_114 (by decide) ?_
                exact ih_lp (k + 1) (by omega) (by omega) _ (by repeat' (first | exact hI | refine HI_up ?_ ?_ | refine cOK_rd hw ?_ (by omega) | refine cOK_td ?_ (by omega) | exact cOK_th (by omega) | refine HI_sm hw ?_ (by omega) (by omega) | refine HI_c (st := st) ?_ (by omega))) (⟨y9, by rw [va_up_ne _ _ (by decide)]; exact hy9⟩) (by omega) (by omega) (by rw [hfd, fnd_no (by omega) (by omega) c_101]; congr 1; omega) _ _ hH hS ls (lv_sub hl [0, 1, 2, 3, 4, 5, 6, 7] rfl)
              · have c_101 := b2i_t c_101
                obtain ⟨y9, hy9⟩ := hone
                rw [va_up_self, va_up_ne _ _ (by decide), hy9, find_lk hg c_40 hk7] at c_101
                have c_101 := of_decide_eq_true c_101
                refine lv_aload_n hx hb dX7_find_104 rfl (lv_at hl 2 rfl) ?_
                refine lv_iload hx hb dX7_find_105 (lv_at hl 0 rfl) ?_
                refine cm_V (As' := [.int (nI k)]) (rest := []) hC (c_X7_done) mv_X7_done qM_X7_50 ⟨⟨rfl, rfl⟩, Nat.le_of_ble_eq_true rfl, Nat.le_of_ble_eq_true rfl⟩ hK hH hS hA (hp.recv hK hH (i := 0) (by omega) rfl rfl) hl.1 ⟨Nat.zero_le _, Nat.zero_le _⟩ rfl rfl (Nat.le_of_ble_eq_true rfl) dX7_find_107 (fun H locs hH hS => ?_)
                subst hQ
                exact cx_ri hC hr hlk (hpost.mk (by rw [find_eq hw hja h1a hqa hk7 c_40, hfd, fnd_yes (by omega) (by omega) c_101]) (by repeat' (first | exact hI | refine HI_up ?_ ?_ | refine cOK_rd hw ?_ (by omega) | refine cOK_td ?_ (by omega) | exact cOK_th (by omega) | refine HI_sm hw ?_ (by omega) (by omega) | refine HI_c (st := st) ?_ (by omega)))) hH hS dX7_find_110
        exact lp ((P.ln t + cN i) + 1) (cN i) (by omega) (by omega) _ (by repeat' (first | exact hI | refine HI_up ?_ ?_ | refine cOK_rd hw ?_ (by omega) | refine cOK_td ?_ (by omega) | exact cOK_th (by omega) | refine HI_sm hw ?_ (by omega) (by omega) | refine HI_c (st := st) ?_ (by omega))) (⟨_, va_up_self _ _ _⟩) (by omega) (Nat.le_refl _) (by rw [Nat.sub_self, Nat.sub_zero]) _ _ hH hS ls (lv_sub hl [0, 1, 2, 3, 4, 5, 6, 7] rfl)
      · have c_40 := b2d_f c_40
        refine lv_aload_n hx hb dX7_find_43 rfl (lv_at hl 1 rfl) ?_
        refine lv_bipush (v := 6) hx hb dX7_find_44 (by decide) ?_
        refine cm_V (As' := [.int (6)]) (rest := []) hC (c_X7_refuse) mv_X7_refuse qM_X7_41 ⟨⟨rfl, rfl⟩, Nat.le_of_ble_eq_true rfl, Nat.le_of_ble_eq_true rfl⟩ hK hH hS hA (hp.recv hK hH (i := 0) (by omega) rfl rfl) hl.1 ⟨Nat.zero_le _, Nat.zero_le _⟩ rfl rfl (Nat.le_of_ble_eq_true rfl) dX7_find_46 (fun H locs hH hS => ?_)
        subst hQ
        exact cx_ri hC hr hlk (hpost.mk (by simp [sp_find, rf, rsPl, rsVal, c_4, cN_s (show s8 ≤ 7 from hk7) (by decide), isC_nI hja, cN_c hja, hqa, h1a, c_40] <;> rfl) (by repeat' (first | exact hI | refine HI_up ?_ ?_ | refine cOK_rd hw ?_ (by omega) | refine cOK_td ?_ (by omega) | exact cOK_th (by omega) | refine HI_sm hw ?_ (by omega) (by omega) | refine HI_c (st := st) ?_ (by omega)))) hH hS dX7_find_49
  · have c_4 := b2i_f c_4
    refine lv_aload_n hx hb dX7_find_7 rfl (lv_at hl 0 rfl) ?_
    refine lv_iconst (v := 1) hx hb dX7_find_8 (by decide) ?_
    refine cm_V (As' := [.int (1)]) (rest := []) hC (c_X7_refuse) mv_X7_refuse qM_X7_41 ⟨⟨rfl, rfl⟩, Nat.le_of_ble_eq_true rfl, Nat.le_of_ble_eq_true rfl⟩ hK hH hS hA (hp.recv hK hH (i := 0) (by omega) rfl rfl) hl.1 ⟨Nat.zero_le _, Nat.zero_le _⟩ rfl rfl (Nat.le_of_ble_eq_true rfl) dX7_find_9 (fun H locs hH hS => ?_)
    subst hQ
    exact cx_ri hC hr hlk (hpost.mk (by simp [sp_find, rf, rsPl, rsVal, c_4] <;> rfl) (by repeat' (first | exact hI | refine HI_up ?_ ?_ | refine cOK_rd hw ?_ (by omega) | refine cOK_td ?_ (by omega) | exact cOK_th (by omega) | refine HI_sm hw ?_ (by omega) (by omega) | refine HI_c (st := st) ?_ (by omega)))) hH hS dX7_find_12
theorem mv_X7_copy : mvok RX7 yX7_copy cX7_copy 6 (some .int) 2 := ⟨qK_X7_copy, qI_X7_copy, qSel_X7_X7_copy, qInit_X7, by decide +kernel⟩
set_option maxHeartbeats 4000000 in
set_option maxRecDepth 100000 in
theorem c_X7_copy {l : Launch} {D : va_G} {cy : Nat → ClassId} {ad : Nat → Nat} {P : AS} {wy : Int32} {cl : Nat → CE} {st : Nat → Nat} {tg : Nat → Int32} {c d : Int32} (hw : WF P) (hz : WZ P) (hI : HI P cl st) : CX l yX7_copy cX7_copy 6 (some .int) (rm_ 4 86) D cy (30 + 2 * P.n) ad [.ref (ad 0), .int (c), .int (d)] (hct cy ad P wy cl st tg) (hpost cy ad (sp_copy P c d)) := by
  refine CX.startQ (by decide) (Nat.le_of_ble_eq_true rfl) ?_
  intro p_ e_ s m_ args_ below meth cd A ls Q hQ hC hr hlk hK hA hH hl
  obtain ⟨hx, hb, hml, hown, hts⟩ := id hC
  have hS : va_S A s.heap s.heap [] := va_S.rf
  have hl : lv_has ls 6 [(0, .ref (ad 0)), (1, .int (c)), (2, .int (d))] := hl
  refine lv_aload_n hx hb dX7_copy_0 rfl (lv_at hl 0 rfl) ?_
  refine lv_iload_n hx hb dX7_copy_1 rfl (lv_at hl 1 rfl) ?_
  refine cm_V (As' := [.int (c)]) (rest := []) hC (c_X7_rowIn hw) mv_X7_rowIn qM_X7_61 ⟨⟨rfl, rfl⟩, Nat.le_of_ble_eq_true rfl, Nat.le_of_ble_eq_true rfl⟩ hK hH hS hA (hp.recv hK hH (i := 0) (by omega) rfl rfl) hl.1 ⟨Nat.zero_le _, Nat.zero_le _⟩ rfl rfl (Nat.le_of_ble_eq_true rfl) dX7_copy_2 (fun H locs hH hS => ?_)
  rcases rw_cases P ad c with ⟨hna, hra⟩ | ⟨j, t, hja, rfl, h1a, hka, hra, hna⟩
  · refine W.eq (g2 := F0 m_ 5 ls (.null :: [])) (by rw [hna]; rfl) ?_
    refine lv_astore_nN (lv' := [(3, .null), (0, .ref (ad 0)), (1, .int (c)), (2, .int (d))]) hx hb dX7_copy_5 rfl hl (by decide) rfl (fun ls hl => ?_)
    refine lv_aload_n hx hb dX7_copy_6 rfl (lv_at hl 1 rfl) ?_
    refine lv_iload_n hx hb dX7_copy_7 rfl (lv_at hl 3 rfl) ?_
    refine cm_V (As' := [.int (d)]) (rest := []) hC (c_X7_rowIn hw) mv_X7_rowIn qM_X7_61 ⟨⟨rfl, rfl⟩, Nat.le_of_ble_eq_true rfl, Nat.le_of_ble_eq_true rfl⟩ hK hH hS hA (hp.recv hK hH (i := 0) (by omega) rfl rfl) hl.1 ⟨Nat.zero_le _, Nat.zero_le _⟩ rfl rfl (Nat.le_of_ble_eq_true rfl) dX7_copy_8 (fun H locs hH hS => ?_)
    rcases rw_cases P ad d with ⟨hnb, hrb⟩ | ⟨q, u, hjb, rfl, h1b, hkb, hrb, hnb⟩
    · refine W.eq (g2 := F0 m_ 11 ls (.null :: [])) (by rw [hnb]; rfl) ?_
      refine lv_astoreN (lv' := [(4, .null), (3, .null), (0, .ref (ad 0)), (1, .int (c)), (2, .int (d))]) hx hb dX7_copy_11 hl (by decide) rfl (fun ls hl => ?_)
      refine lv_aload_nN hx hb dX7_copy_13 rfl (lv_at hl 1 rfl) ?_
      refine lv_ifnullN (tgt := 22) hx hb dX7_copy_14 (by decide) ?_
      obtain ⟨za, hza⟩ : ∃ z, rsA P c = z := ⟨_, rfl⟩
      obtain ⟨zb, hzb⟩ : ∃ z, rsA P d = z := ⟨_, rfl⟩
      have hla3 : za ≤ 3 := hza ▸ rsA_le P _
      have hlb3 : zb ≤ 3 := hzb ▸ rsA_le P _
      refine lv_aload_n hx hb dX7_copy_22 rfl (lv_at hl 2 rfl) ?_
      refine lv_aload_n hx hb dX7_copy_23 rfl (lv_at hl 2 rfl) ?_
      refine lv_iload_n hx hb dX7_copy_24 rfl (lv_at hl 3 rfl) ?_
      refine cm_V (As' := [.int (c)]) (rest := [.ref (ad 0)]) hC (c_X7_rowAmissA hw hza) mv_X7_rowAmiss qM_X7_65 ⟨⟨rfl, rfl⟩, Nat.le_of_ble_eq_true rfl, Nat.le_of_ble_eq_true rfl⟩ hK hH hS hA (hp.recv hK hH (i := 0) (by omega) rfl rfl) hl.1 ⟨Nat.zero_le _, Nat.zero_le _⟩ rfl rfl (Nat.le_of_ble_eq_true rfl) dX7_copy_25 (fun H locs hH hS => ?_)
      refine lv_aload_n hx hb dX7_copy_28 rfl (lv_at hl 2 rfl) ?_
      refine lv_iload_n hx hb dX7_copy_29 rfl (lv_at hl 4 rfl) ?_
      refine cm_V (As' := [.int (d)]) (rest := [.int (nI za), .ref (ad 0)]) hC (c_X7_rowAmissA hw hzb) mv_X7_rowAmiss qM_X7_65 ⟨⟨rfl, rfl⟩, Nat.le_of_ble_eq_true rfl, Nat.le_of_ble_eq_true rfl⟩ hK hH hS hA (hp.recv hK hH (i := 0) (by omega) rfl rfl) hl.1 ⟨Nat.zero_le _, Nat.zero_le _⟩ rfl rfl (Nat.le_of_ble_eq_true rfl) dX7_copy_30 (fun H locs hH hS => ?_)
      refine cm_S (As := [.int (nI za), .int (nI zb)]) (rest := [.ref (ad 0)]) hC (c_X7_earlier (a := za) (b := zb) (by omega) (by omega)) ms_X7_earlier qM_X7_135 ⟨⟨rfl, rfl⟩, Nat.le_of_ble_eq_true rfl, Nat.le_of_ble_eq_true rfl⟩ hK hH hS hA hl.1 ⟨Nat.zero_le _, Nat.zero_le _⟩ rfl rfl (Nat.le_of_ble_eq_true rfl) dX7_copy_33 (fun H locs hH hS => ?_)
      refine cm_V (As' := [.int (nI (earl za zb))]) (rest := []) hC (c_X7_refuse) mv_X7_refuse qM_X7_41 ⟨⟨rfl, rfl⟩, Nat.le_of_ble_eq_true rfl, Nat.le_of_ble_eq_true rfl⟩ hK hH hS hA (hp.recv hK hH (i := 0) (by omega) rfl rfl) hl.1 ⟨Nat.zero_le _, Nat.zero_le _⟩ rfl rfl (Nat.le_of_ble_eq_true rfl) dX7_copy_36 (fun H locs hH hS => ?_)
      subst hQ
      exact cx_ri hC hr hlk (hpost.mk (by subst hza; subst hzb; exact (by unfold sp_copy; exact rf2 (by omega))) (by repeat' (first | exact hI | refine HI_up ?_ ?_ | refine cOK_rd hw ?_ (by omega) | refine cOK_td ?_ (by omega) | exact cOK_th (by omega) | refine HI_sm hw ?_ (by omega) (by omega) | refine HI_c (st := st) ?_ (by omega)))) hH hS dX7_copy_39
    · have hqb : rsRow P q = 0 := by rw [← rsA_j hjb]; exact hrb
      have htb : u < P.n := by have := hw.2.2.2.1 q; omega
      have hlnb := hw.2.1 u
      refine W.eq (g2 := F0 m_ 11 ls (.ref (ad (30 + 2 * u)) :: [])) (by rw [hnb]; rfl) ?_
      refine lv_astore (lv' := [(4, .ref (ad (30 + 2 * u))), (3, .null), (0, .ref (ad 0)), (1, .int (c)), (2, .int (nI q))]) hx hb dX7_copy_11 hl (by decide) rfl (fun ls hl => ?_)
      refine lv_aload_nN hx hb dX7_copy_13 rfl (lv_at hl 1 rfl) ?_
      refine lv_ifnullN (tgt := 22) hx hb dX7_copy_14 (by decide) ?_
      obtain ⟨za, hza⟩ : ∃ z, rsA P c = z := ⟨_, rfl⟩
      obtain ⟨zb, hzb⟩ : ∃ z, rsA P (nI q) = z := ⟨_, rfl⟩
      have hla3 : za ≤ 3 := hza ▸ rsA_le P _
      have hlb3 : zb ≤ 3 := hzb ▸ rsA_le P _
      refine lv_aload_n hx hb dX7_copy_22 rfl (lv_at hl 2 rfl) ?_
      refine lv_aload_n hx hb dX7_copy_23 rfl (lv_at hl 2 rfl) ?_
      refine lv_iload_n hx hb dX7_copy_24 rfl (lv_at hl 3 rfl) ?_
      refine cm_V (As' := [.int (c)]) (rest := [.ref (ad 0)]) hC (c_X7_rowAmissA hw hza) mv_X7_rowAmiss qM_X7_65 ⟨⟨rfl, rfl⟩, Nat.le_of_ble_eq_true rfl, Nat.le_of_ble_eq_true rfl⟩ hK hH hS hA (hp.recv hK hH (i := 0) (by omega) rfl rfl) hl.1 ⟨Nat.zero_le _, Nat.zero_le _⟩ rfl rfl (Nat.le_of_ble_eq_true rfl) dX7_copy_25 (fun H locs hH hS => ?_)
      refine lv_aload_n hx hb dX7_copy_28 rfl (lv_at hl 2 rfl) ?_
      refine lv_iload_n hx hb dX7_copy_29 rfl (lv_at hl 4 rfl) ?_
      refine cm_V (As' := [.int (nI q)]) (rest := [.int (nI za), .ref (ad 0)]) hC (c_X7_rowAmissA hw hzb) mv_X7_rowAmiss qM_X7_65 ⟨⟨rfl, rfl⟩, Nat.le_of_ble_eq_true rfl, Nat.le_of_ble_eq_true rfl⟩ hK hH hS hA (hp.recv hK hH (i := 0) (by omega) rfl rfl) hl.1 ⟨Nat.zero_le _, Nat.zero_le _⟩ rfl rfl (Nat.le_of_ble_eq_true rfl) dX7_copy_30 (fun H locs hH hS => ?_)
      refine cm_S (As := [.int (nI za), .int (nI zb)]) (rest := [.ref (ad 0)]) hC (c_X7_earlier (a := za) (b := zb) (by omega) (by omega)) ms_X7_earlier qM_X7_135 ⟨⟨rfl, rfl⟩, Nat.le_of_ble_eq_true rfl, Nat.le_of_ble_eq_true rfl⟩ hK hH hS hA hl.1 ⟨Nat.zero_le _, Nat.zero_le _⟩ rfl rfl (Nat.le_of_ble_eq_true rfl) dX7_copy_33 (fun H locs hH hS => ?_)
      refine cm_V (As' := [.int (nI (earl za zb))]) (rest := []) hC (c_X7_refuse) mv_X7_refuse qM_X7_41 ⟨⟨rfl, rfl⟩, Nat.le_of_ble_eq_true rfl, Nat.le_of_ble_eq_true rfl⟩ hK hH hS hA (hp.recv hK hH (i := 0) (by omega) rfl rfl) hl.1 ⟨Nat.zero_le _, Nat.zero_le _⟩ rfl rfl (Nat.le_of_ble_eq_true rfl) dX7_copy_36 (fun H locs hH hS => ?_)
      subst hQ
      exact cx_ri hC hr hlk (hpost.mk (by subst hza; subst hzb; exact (by unfold sp_copy; exact rf2 (by omega))) (by repeat' (first | exact hI | refine HI_up ?_ ?_ | refine cOK_rd hw ?_ (by omega) | refine cOK_td ?_ (by omega) | exact cOK_th (by omega) | refine HI_sm hw ?_ (by omega) (by omega) | refine HI_c (st := st) ?_ (by omega)))) hH hS dX7_copy_39
  · have hqa : rsRow P j = 0 := by rw [← rsA_j hja]; exact hra
    have hta : t < P.n := by have := hw.2.2.2.1 j; omega
    have hlna := hw.2.1 t
    refine W.eq (g2 := F0 m_ 5 ls (.ref (ad (30 + 2 * t)) :: [])) (by rw [hna]; rfl) ?_
    refine lv_astore_n (lv' := [(3, .ref (ad (30 + 2 * t))), (0, .ref (ad 0)), (1, .int (nI j)), (2, .int (d))]) hx hb dX7_copy_5 rfl hl (by decide) rfl (fun ls hl => ?_)
    refine lv_aload_n hx hb dX7_copy_6 rfl (lv_at hl 1 rfl) ?_
    refine lv_iload_n hx hb dX7_copy_7 rfl (lv_at hl 3 rfl) ?_
    refine cm_V (As' := [.int (d)]) (rest := []) hC (c_X7_rowIn hw) mv_X7_rowIn qM_X7_61 ⟨⟨rfl, rfl⟩, Nat.le_of_ble_eq_true rfl, Nat.le_of_ble_eq_true rfl⟩ hK hH hS hA (hp.recv hK hH (i := 0) (by omega) rfl rfl) hl.1 ⟨Nat.zero_le _, Nat.zero_le _⟩ rfl rfl (Nat.le_of_ble_eq_true rfl) dX7_copy_8 (fun H locs hH hS => ?_)
    rcases rw_cases P ad d with ⟨hnb, hrb⟩ | ⟨q, u, hjb, rfl, h1b, hkb, hrb, hnb⟩
    · refine W.eq (g2 := F0 m_ 11 ls (.null :: [])) (by rw [hnb]; rfl) ?_
      refine lv_astoreN (lv' := [(4, .null), (3, .ref (ad (30 + 2 * t))), (0, .ref (ad 0)), (1, .int (nI j)), (2, .int (d))]) hx hb dX7_copy_11 hl (by decide) rfl (fun ls hl => ?_)
      refine lv_aload_n hx hb dX7_copy_13 rfl (lv_at hl 1 rfl) ?_
      refine lv_ifnull hx hb dX7_copy_14 ?_
      refine lv_aloadN hx hb dX7_copy_17 (lv_at hl 0 rfl) ?_
      refine lv_ifnonnullN hx hb dX7_copy_19 ?_
      obtain ⟨za, hza⟩ : ∃ z, rsA P (nI j) = z := ⟨_, rfl⟩
      obtain ⟨zb, hzb⟩ : ∃ z, rsA P d = z := ⟨_, rfl⟩
      have hla3 : za ≤ 3 := hza ▸ rsA_le P _
      have hlb3 : zb ≤ 3 := hzb ▸ rsA_le P _
      refine lv_aload_n hx hb dX7_copy_22 rfl (lv_at hl 2 rfl) ?_
      refine lv_aload_n hx hb dX7_copy_23 rfl (lv_at hl 2 rfl) ?_
      refine lv_iload_n hx hb dX7_copy_24 rfl (lv_at hl 3 rfl) ?_
      refine cm_V (As' := [.int (nI j)]) (rest := [.ref (ad 0)]) hC (c_X7_rowAmissA hw hza) mv_X7_rowAmiss qM_X7_65 ⟨⟨rfl, rfl⟩, Nat.le_of_ble_eq_true rfl, Nat.le_of_ble_eq_true rfl⟩ hK hH hS hA (hp.recv hK hH (i := 0) (by omega) rfl rfl) hl.1 ⟨Nat.zero_le _, Nat.zero_le _⟩ rfl rfl (Nat.le_of_ble_eq_true rfl) dX7_copy_25 (fun H locs hH hS => ?_)
      refine lv_aload_n hx hb dX7_copy_28 rfl (lv_at hl 2 rfl) ?_
      refine lv_iload_n hx hb dX7_copy_29 rfl (lv_at hl 4 rfl) ?_
      refine cm_V (As' := [.int (d)]) (rest := [.int (nI za), .ref (ad 0)]) hC (c_X7_rowAmissA hw hzb) mv_X7_rowAmiss qM_X7_65 ⟨⟨rfl, rfl⟩, Nat.le_of_ble_eq_true rfl, Nat.le_of_ble_eq_true rfl⟩ hK hH hS hA (hp.recv hK hH (i := 0) (by omega) rfl rfl) hl.1 ⟨Nat.zero_le _, Nat.zero_le _⟩ rfl rfl (Nat.le_of_ble_eq_true rfl) dX7_copy_30 (fun H locs hH hS => ?_)
      refine cm_S (As := [.int (nI za), .int (nI zb)]) (rest := [.ref (ad 0)]) hC (c_X7_earlier (a := za) (b := zb) (by omega) (by omega)) ms_X7_earlier qM_X7_135 ⟨⟨rfl, rfl⟩, Nat.le_of_ble_eq_true rfl, Nat.le_of_ble_eq_true rfl⟩ hK hH hS hA hl.1 ⟨Nat.zero_le _, Nat.zero_le _⟩ rfl rfl (Nat.le_of_ble_eq_true rfl) dX7_copy_33 (fun H locs hH hS => ?_)
      refine cm_V (As' := [.int (nI (earl za zb))]) (rest := []) hC (c_X7_refuse) mv_X7_refuse qM_X7_41 ⟨⟨rfl, rfl⟩, Nat.le_of_ble_eq_true rfl, Nat.le_of_ble_eq_true rfl⟩ hK hH hS hA (hp.recv hK hH (i := 0) (by omega) rfl rfl) hl.1 ⟨Nat.zero_le _, Nat.zero_le _⟩ rfl rfl (Nat.le_of_ble_eq_true rfl) dX7_copy_36 (fun H locs hH hS => ?_)
      subst hQ
      exact cx_ri hC hr hlk (hpost.mk (by subst hza; subst hzb; exact (by unfold sp_copy; exact rf2 (by omega))) (by repeat' (first | exact hI | refine HI_up ?_ ?_ | refine cOK_rd hw ?_ (by omega) | refine cOK_td ?_ (by omega) | exact cOK_th (by omega) | refine HI_sm hw ?_ (by omega) (by omega) | refine HI_c (st := st) ?_ (by omega)))) hH hS dX7_copy_39
    · have hqb : rsRow P q = 0 := by rw [← rsA_j hjb]; exact hrb
      have htb : u < P.n := by have := hw.2.2.2.1 q; omega
      have hlnb := hw.2.1 u
      refine W.eq (g2 := F0 m_ 11 ls (.ref (ad (30 + 2 * u)) :: [])) (by rw [hnb]; rfl) ?_
      refine lv_astore (lv' := [(4, .ref (ad (30 + 2 * u))), (3, .ref (ad (30 + 2 * t))), (0, .ref (ad 0)), (1, .int (nI j)), (2, .int (nI q))]) hx hb dX7_copy_11 hl (by decide) rfl (fun ls hl => ?_)
      refine lv_aload_n hx hb dX7_copy_13 rfl (lv_at hl 1 rfl) ?_
      refine lv_ifnull hx hb dX7_copy_14 ?_
      refine lv_aload hx hb dX7_copy_17 (lv_at hl 0 rfl) ?_
      refine lv_ifnonnull (tgt := 40) hx hb dX7_copy_19 (by decide) ?_
      refine lv_aload_n hx hb dX7_copy_40 rfl (lv_at hl 1 rfl) ?_
      refine cm_R (As := []) (rest := []) (i := 30 + 2 * t) hC (rc_length (t := t) hw (by omega) (by omega)) qM_X7_68 ⟨Nat.le_of_ble_eq_true rfl, Nat.le_of_ble_eq_true rfl⟩ hK hH hS hA hl.1 ⟨Nat.zero_le _, Nat.zero_le _⟩ rfl rfl (Nat.le_of_ble_eq_true rfl) dX7_copy_41 (fun H locs hH hS => ?_)
      refine lv_aload hx hb dX7_copy_44 (lv_at hl 0 rfl) ?_
      refine cm_R (As := []) (rest := [.int (nI (P.ln t))]) (i := 30 + 2 * u) hC (rc_length (t := u) hw (by omega) (by omega)) qM_X7_68 ⟨Nat.le_of_ble_eq_true rfl, Nat.le_of_ble_eq_true rfl⟩ hK hH hS hA hl.1 ⟨Nat.zero_le _, Nat.zero_le _⟩ rfl rfl (Nat.le_of_ble_eq_true rfl) dX7_copy_46 (fun H locs hH hS => ?_)
      refine lv_icmp_eq (tgt := 58) hx hb dX7_copy_49 (by decide) (fun c_49 => ?_) (fun c_49 => ?_)
      · have c_49 := nc_eq (a := (P.ln t)) (b := (P.ln u)) (by omega) (by omega) c_49
        refine lv_iconst (v := 0) hx hb dX7_copy_58 (by decide) ?_
        refine lv_istore (lv' := [(5, .int (0)), (4, .ref (ad (30 + 2 * u))), (3, .ref (ad (30 + 2 * t))), (0, .ref (ad 0)), (1, .int (nI j)), (2, .int (nI q))]) hx hb dX7_copy_59 hl (by decide) rfl (fun ls hl => ?_)
        have lp : ∀ (n9 k : Nat), k ≤ (P.ln t) → (P.ln t) < k + n9 → ∀ (cl : Nat → CE) (hI : HI P cl st) (hmv : mvR P t u (fun k => nI k) (fun k => nI k) k = 0) (hsg : SGd P u (fun i => mvV P t u (cN (nI i))) cl st k) (H : Heap) (locs : List Loc), hp D A (30 + 2 * P.n) ad (hct cy ad P wy cl st tg) H → va_S A s.heap H locs → ∀ (ls : Array Slot), lv_has ls 6 [(5, .int (nI k)), (4, .ref (ad (30 + 2 * u))), (3, .ref (ad (30 + 2 * t))), (0, .ref (ad 0)), (1, .int (nI j)), (2, .int (nI q))] → W p_ l e_ (rm_ 4 86) s m_ args_ below meth cd H locs 0 0 Q (F0 m_ 61 ls []) := by
          intro n9
          induction n9 with
          | zero => intro k h1 h2; omega
          | succ n9 ih_lp =>
            intro k hk1 hk2 cl hI hmv hsg H locs hH hS ls hl
            refine lv_iload hx hb dX7_copy_61 (lv_at hl 0 rfl) ?_
            refine lv_aload_n hx hb dX7_copy_63 rfl (lv_at hl 2 rfl) ?_
            refine cm_R (As := []) (rest := [.int (nI k)]) (i := 30 + 2 * t) hC (rc_length (t := t) hw (by omega) (by omega)) qM_X7_68 ⟨Nat.le_of_ble_eq_true rfl, Nat.le_of_ble_eq_true rfl⟩ hK hH hS hA hl.1 ⟨Nat.zero_le _, Nat.zero_le _⟩ rfl rfl (Nat.le_of_ble_eq_true rfl) dX7_copy_64 (fun H locs hH hS => ?_)
            refine lv_icmp_ge (tgt := 110) hx hb dX7_copy_67 (by decide) (fun c_67 => ?_) (fun c_67 => ?_)
            · have c_67 := nc_le (a := (P.ln t)) (b := k) (by omega) (by omega) c_67
              refine lv_aload_n hx hb dX7_copy_110 rfl (lv_at hl 3 rfl) ?_
              refine lv_aload_n hx hb dX7_copy_111 rfl (lv_at hl 3 rfl) ?_
              refine lv_aload hx hb dX7_copy_112 (lv_at hl 1 rfl) ?_
              refine cm_V (As' := [.ref (ad (30 + 2 * u))]) (rest := [.ref (ad 0)]) hC (c_X7_writeStage (t := u) hw (by omega) (by omega) (by repeat' (first | exact hI | refine HI_up ?_ ?_ | refine cOK_rd hw ?_ (by omega) | refine cOK_td ?_ (by omega) | exact cOK_th (by omega) | refine HI_sm hw ?_ (by omega) (by omega) | refine HI_c (st := st) ?_ (by omega)))) mv_X7_writeStage qM_X7_143 ⟨⟨rfl, rfl⟩, Nat.le_of_ble_eq_true rfl, Nat.le_of_ble_eq_true rfl⟩ hK hH hS hA (hp.recv hK hH (i := 0) (by omega) rfl rfl) hl.1 ⟨Nat.zero_le _, Nat.zero_le _⟩ rfl rfl (Nat.le_of_ble_eq_true rfl) dX7_copy_114 (fun H locs hH hS => ?_)
              refine cm_V (As' := [.int (nI (P.ln u))]) (rest := []) hC (c_X7_done (P := wgP P u (fun i => i) (fun i => cl (st i)) (P.ln u))) mv_X7_done qM_X7_50 ⟨⟨rfl, rfl⟩, Nat.le_of_ble_eq_true rfl, Nat.le_of_ble_eq_true rfl⟩ hK hH hS hA (hp.recv hK hH (i := 0) (by omega) rfl rfl) hl.1 ⟨Nat.zero_le _, Nat.zero_le _⟩ rfl rfl (Nat.le_of_ble_eq_true rfl) dX7_copy_117 (fun H locs hH hS => ?_)
              subst hQ
              exact cx_ri hC hr hlk (hpost.mk (P := wgP P u (fun i => i) (fun i => cl (st i)) (P.ln u)) (by have e8 : sp_copy P (nI j) (nI q) = sp_move P 0 t u (fun k => nI k) (fun k => nI k) (P.ln t) := (by simp [sp_copy, isC_nI hja, isC_nI hjb, cN_c hja, cN_c hjb, rs_2ok hqa hqb, h1a, h1b, c_49]); rw [e8]; unfold sp_move; rw [show P.ln t = k by omega, if_pos hmv, ← mv_end hz (pos := fun i => i) hsg (fun i hi => (cN_s (show i ≤ 24 by omega) (by decide)).symm), show P.ln u = k by omega]) ((HI_n (P := P) (by repeat' (first | exact hI | refine HI_up ?_ ?_ | refine cOK_rd hw ?_ (by omega) | refine cOK_td ?_ (by omega) | exact cOK_th (by omega) | refine HI_sm hw ?_ (by omega) (by omega) | refine HI_c (st := st) ?_ (by omega))) rfl))) hH hS dX7_copy_120
            · have c_67 := nc_nle (a := (P.ln t)) (b := k) (by omega) (by omega) c_67
              refine lv_aload_n hx hb dX7_copy_70 rfl (lv_at hl 2 rfl) ?_
              refine lv_iload hx hb dX7_copy_71 (lv_at hl 0 rfl) ?_
              refine lv_aload_n hx hb dX7_copy_73 rfl (lv_at hl 3 rfl) ?_
              refine g_get hC hK inG7 hH 0 (by omega) rfl (ci := 5) rfl 1 (by decide) qF_X7_17 (Or.inl rfl) rfl dX7_copy_74 ?_
              refine lv_iload hx hb dX7_copy_77 (lv_at hl 0 rfl) ?_
              have hsk := hI.2.1 k (by omega)
              refine hr_sg hC hK hH k (by omega) dX7_copy_79 ?_
              refine cm_R (As := [.int (nI k), .ref (ad (4 + st k))]) (rest := []) (i := 30 + 2 * t) hC (rc_read (t := t) (i := k) (j := st k) hw (by omega) (by omega) (by omega) (by omega)) qM_X7_117 ⟨Nat.le_of_ble_eq_true rfl, Nat.le_of_ble_eq_true rfl⟩ hK hH hS hA hl.1 ⟨Nat.zero_le _, Nat.zero_le _⟩ rfl rfl (Nat.le_of_ble_eq_true rfl) dX7_copy_80 (fun H locs hH hS => ?_)
              refine lv_aload hx hb dX7_copy_83 (lv_at hl 1 rfl) ?_
              refine lv_aload_n hx hb dX7_copy_85 rfl (lv_at hl 3 rfl) ?_
              refine g_get hC hK inG7 hH 0 (by omega) rfl (ci := 5) rfl 1 (by decide) qF_X7_17 (Or.inl rfl) rfl dX7_copy_86 ?_
              refine lv_iload hx hb dX7_copy_89 (lv_at hl 0 rfl) ?_
              refine hr_sg hC hK hH k (by omega) dX7_copy_91 ?_
              refine cm_R (As := [.ref (ad (4 + st k))]) (rest := []) (i := 30 + 2 * u) hC (rc_takes (t := u) (j := st k) hw (by omega) (by omega) (by omega) (HI_c (st := st) (by repeat' (first | exact hI | refine HI_up ?_ ?_ | refine cOK_rd hw ?_ (by omega) | refine cOK_td ?_ (by omega) | exact cOK_th (by omega) | refine HI_sm hw ?_ (by omega) (by omega) | refine HI_c (st := st) ?_ (by omega))) (by omega))) qM_X7_139 ⟨Nat.le_of_ble_eq_true rfl, Nat.le_of_ble_eq_true rfl⟩ hK hH hS hA hl.1 ⟨Nat.zero_le _, Nat.zero_le _⟩ rfl rfl (Nat.le_of_ble_eq_true rfl) dX7_copy_92 (fun H locs hH hS => ?_)
              refine lv_if_ne (tgt := 104) hx hb dX7_copy_95 (by decide) (fun c_95 => ?_) (fun c_95 => ?_)
              · have c_95 := b2i_t c_95
                rw [va_up_self] at c_95
                have hmr : smR P t u (nI k) (nI k) (cl (st k)) = mvr P t u (fun k => nI k) (fun k => nI k) k := sm_mv hw
                have h5r : smR P t u (nI k) (nI k) (cl (st k)) = 0 := by unfold smR; rw [if_pos ⟨hasP_nI (by omega) (by omega), hasP_nI (by omega) (by omega)⟩, cN_s (show k ≤ 24 by omega) (by decide), c_95]; rfl
                refine lv_iinc (v := nI (k + 1)) (lv' := [(5, .int (nI (k + 1))), (4, .ref (ad (30 + 2 * u))), (3, .ref (ad (30 + 2 * t))), (0, .ref (ad 0)), (1, .int (nI j)), (2, .int (nI q))]) hx hb dX7_copy_104 hl (k := 0) rfl (nI_1 _) (by decide) rfl (fun ls hl => ?_)
                refine lv_goto (tgt := 61) hx hb dX7_copy_107 (by decide) ?_
                exact ih_lp (k + 1) (by omega) (by omega) _ (by repeat' (first | exact hI | refine HI_up ?_ ?_ | refine cOK_rd hw ?_ (by omega) | refine cOK_td ?_ (by omega) | exact cOK_th (by omega) | refine HI_sm hw ?_ (by omega) (by omega) | refine HI_c (st := st) ?_ (by omega))) ((mvR_s hmv).trans (by rw [← hmr]; exact h5r)) (SG_s hI (by omega) hsg (by rw [cN_s (show k ≤ 24 by omega) (by decide)]; exact rd_mv hw hz hka (by have h9 := mvr_go (hmr.symm.trans h5r); rw [cN_s (show k ≤ 24 by omega) (by decide)] at h9; exact h9))) _ _ hH hS ls (lv_sub hl [0, 1, 2, 3, 4, 5] rfl)
              · have c_95 := b2i_f c_95
                rw [va_up_self] at c_95
                have hmr : smR P t u (nI k) (nI k) (cl (st k)) = mvr P t u (fun k => nI k) (fun k => nI k) k := sm_mv hw
                have h5r : smR P t u (nI k) (nI k) (cl (st k)) = 5 := by unfold smR; rw [if_pos ⟨hasP_nI (by omega) (by omega), hasP_nI (by omega) (by omega)⟩, cN_s (show k ≤ 24 by omega) (by decide), c_95]; rfl
                refine lv_aload_n hx hb dX7_copy_98 rfl (lv_at hl 3 rfl) ?_
                refine lv_iconst (v := 5) hx hb dX7_copy_99 (by decide) ?_
                refine cm_V (As' := [.int (5)]) (rest := []) hC (c_X7_refuse) mv_X7_refuse qM_X7_41 ⟨⟨rfl, rfl⟩, Nat.le_of_ble_eq_true rfl, Nat.le_of_ble_eq_true rfl⟩ hK hH hS hA (hp.recv hK hH (i := 0) (by omega) rfl rfl) hl.1 ⟨Nat.zero_le _, Nat.zero_le _⟩ rfl rfl (Nat.le_of_ble_eq_true rfl) dX7_copy_100 (fun H locs hH hS => ?_)
                subst hQ
                exact cx_ri hC hr hlk (hpost.mk (by have e8 : sp_copy P (nI j) (nI q) = sp_move P 0 t u (fun k => nI k) (fun k => nI k) (P.ln t) := (by simp [sp_copy, isC_nI hja, isC_nI hjb, cN_c hja, cN_c hjb, rs_2ok hqa hqb, h1a, h1b, c_49]); rw [e8]; unfold sp_move; rw [mvR_end hmv (show k < P.ln t by omega) (show mvr P t u (fun k => nI k) (fun k => nI k) k = 5 from by rw [← hmr]; exact h5r) (by decide : (5 : Nat) ≠ 0), if_neg (by decide)]; rfl) (by repeat' (first | exact hI | refine HI_up ?_ ?_ | refine cOK_rd hw ?_ (by omega) | refine cOK_td ?_ (by omega) | exact cOK_th (by omega) | refine HI_sm hw ?_ (by omega) (by omega) | refine HI_c (st := st) ?_ (by omega)))) hH hS dX7_copy_103
        exact lp ((P.ln t) + 1) 0 (by omega) (by omega) _ (hI) (rfl) (fun i hi => absurd hi (Nat.not_lt_zero i)) _ _ hH hS ls (lv_sub hl [0, 1, 2, 3, 4, 5] rfl)
      · have c_49 := nc_ne (a := (P.ln t)) (b := (P.ln u)) (by omega) (by omega) c_49
        refine lv_aload_n hx hb dX7_copy_52 rfl (lv_at hl 2 rfl) ?_
        refine lv_iconst (v := 4) hx hb dX7_copy_53 (by decide) ?_
        refine cm_V (As' := [.int (4)]) (rest := []) hC (c_X7_refuse) mv_X7_refuse qM_X7_41 ⟨⟨rfl, rfl⟩, Nat.le_of_ble_eq_true rfl, Nat.le_of_ble_eq_true rfl⟩ hK hH hS hA (hp.recv hK hH (i := 0) (by omega) rfl rfl) hl.1 ⟨Nat.zero_le _, Nat.zero_le _⟩ rfl rfl (Nat.le_of_ble_eq_true rfl) dX7_copy_54 (fun H locs hH hS => ?_)
        subst hQ
        exact cx_ri hC hr hlk (hpost.mk (by simp [sp_copy, rf, isC_nI hja, isC_nI hjb, cN_c hja, cN_c hjb, rs_2ok hqa hqb, h1a, h1b, c_49]; rfl) (by repeat' (first | exact hI | refine HI_up ?_ ?_ | refine cOK_rd hw ?_ (by omega) | refine cOK_td ?_ (by omega) | exact cOK_th (by omega) | refine HI_sm hw ?_ (by omega) (by omega) | refine HI_c (st := st) ?_ (by omega)))) hH hS dX7_copy_57
