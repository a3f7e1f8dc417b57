theorem mv_X8_mergeAll : mvok RX8 yX8_mergeAll cX8_mergeAll 6 none 2 := ⟨qK_X8_mergeAll, qI_X8_mergeAll, qSel_X8_X8_mergeAll, qInit_X8, by decide +kernel⟩
set_option maxHeartbeats 4000000 in
set_option maxRecDepth 100000 in
theorem c_X8_mergeAll {l : Launch} {D : va_G} {cy : Nat → ClassId} {ad : Nat → Nat} {P : AS} {wy : Int32} {so : Int32} {w : Int64} {r : UInt64} {ns : Nat → Int32} {nw : Nat → Int64} {nr : Nat → UInt64} {fr : Nat → Int32} {tt : Nat → Int32} {x y : Nat} (hx5 : x < 513) (hy5 : y < 513) (hlxy : P.ln x + P.ln y ≤ 24) (h8x : P.kd x < 8) (h8y : P.kd y < 8) : CX l yX8_mergeAll cX8_mergeAll 6 none (rm_ 2 54) D cy 13 ad [.ref (ad 0), .int (nI x), .int (nI y)] (mct cy ad P wy so w r ns nw nr fr tt) (mpoK cy ad none P wy (ldI ns (fun i => nI (mgS P x y i)) (P.ln x + P.ln y)) (ldL nw (fun i => (mgV P x y i).1) (P.ln x + P.ln y)) (ldD nr (fun i => (mgV P x y i).2) (P.ln x + P.ln y)) fr tt) := by
  refine CX.startQ (by decide) (Nat.le_of_ble_eq_true rfl) ?_
  intro p_ e_ s m_ args_ below meth cd A ls Q hQ hC hr hlk hK hA hH hl
  obtain ⟨hx, hb, hml, hown, hts⟩ := id hC
  have hS : va_S A s.heap s.heap [] := va_S.rf
  have hl : lv_has ls 6 [(0, .ref (ad 0)), (1, .int (nI x)), (2, .int (nI y))] := hl
  refine lv_iconst (v := 0) hx hb dX8_mergeAll_0 (by decide) ?_
  refine lv_istore_n (lv' := [(3, .int (0)), (0, .ref (ad 0)), (1, .int (nI x)), (2, .int (nI y))]) hx hb dX8_mergeAll_1 rfl hl (by decide) rfl (fun ls hl => ?_)
  refine lv_iconst (v := 0) hx hb dX8_mergeAll_2 (by decide) ?_
  refine lv_istore (lv' := [(4, .int (0)), (3, .int (0)), (0, .ref (ad 0)), (1, .int (nI x)), (2, .int (nI y))]) hx hb dX8_mergeAll_3 hl (by decide) rfl (fun ls hl => ?_)
  have lp : ∀ (n9 k : Nat), k ≤ (P.ln x + P.ln y) → (P.ln x + P.ln y) < k + n9 → ∀ (so : Int32) (w : Int64) (r : UInt64)  (H : Heap) (locs : List Loc), hp D A 13 ad (mct cy ad P wy so w r (ldI ns (fun i => nI (mgS P x y i)) k) (ldL nw (fun i => (mgV P x y i).1) k) (ldD nr (fun i => (mgV P x y i).2) k) fr tt) H → va_S A s.heap H locs → ∀ (ls : Array Slot), lv_has ls 6 [(3, .int (nI (mgI P x y k))), (4, .int (nI (k - mgI P x y k))), (0, .ref (ad 0)), (1, .int (nI x)), (2, .int (nI y))] → W p_ l e_ (rm_ 2 54) s m_ args_ below meth cd H locs 0 0 Q (F0 m_ 5 ls []) := by
    intro n9
    induction n9 with
    | zero => intro k h1 h2; omega
    | succ n9 ih_lp =>
      intro k hk1 hk2 so w r  H locs hH hS ls hl
      obtain ⟨hm1, hm2, hm3⟩ := mgI_ok P x y k hk1
      refine lv_iload_n hx hb dX8_mergeAll_5 rfl (lv_at hl 0 rfl) ?_
      refine lv_aload_n hx hb dX8_mergeAll_6 rfl (lv_at hl 2 rfl) ?_
      refine g_get hC hK inG8 hH 0 (by decide) rfl rfl 2 (by decide) qF_X8_16 (Or.inl rfl) rfl dX8_mergeAll_7 ?_
      refine lv_iload_n hx hb dX8_mergeAll_10 rfl (lv_at hl 3 rfl) ?_
      refine gN_iald hC hK hH 3 (by decide) rfl x (by omega) dX8_mergeAll_11 ?_
      refine lv_icmp_lt (tgt := 26) hx hb dX8_mergeAll_12 (by decide) (fun c_12 => ?_) (fun c_12 => ?_)
      · have c_12 := nc_lt (a := (mgI P x y k)) (b := (P.ln x)) (by omega) (by omega) c_12
        refine lv_iload_n hx hb dX8_mergeAll_26 rfl (lv_at hl 0 rfl) ?_
        refine lv_aload_n hx hb dX8_mergeAll_27 rfl (lv_at hl 2 rfl) ?_
        refine g_get hC hK inG8 hH 0 (by decide) rfl rfl 2 (by decide) qF_X8_16 (Or.inl rfl) rfl dX8_mergeAll_28 ?_
        refine lv_iload_n hx hb dX8_mergeAll_31 rfl (lv_at hl 3 rfl) ?_
        refine gN_iald hC hK hH 3 (by decide) rfl x (by omega) dX8_mergeAll_32 ?_
        refine lv_icmp_ne (tgt := 40) hx hb dX8_mergeAll_33 (by decide) (fun c_33 => ?_) (fun c_33 => ?_)
        · have c_33 := nc_ne (a := (mgI P x y k)) (b := (P.ln x)) (by omega) (by omega) c_33
          refine lv_iconst (v := 0) hx hb dX8_mergeAll_40 (by decide) ?_
          refine lv_istore (lv' := [(5, .int (0)), (3, .int (nI (mgI P x y k))), (4, .int (nI (k - mgI P x y k))), (0, .ref (ad 0)), (1, .int (nI x)), (2, .int (nI y))]) hx hb dX8_mergeAll_41 hl (by decide) rfl (fun ls hl => ?_)
          refine lv_iload hx hb dX8_mergeAll_43 (lv_at hl 0 rfl) ?_
          refine lv_if_ne (tgt := 109) hx hb dX8_mergeAll_45 (by decide) (fun c_45 => absurd c_45 (by decide)) (fun c_45 => ?_)
          refine lv_iload hx hb dX8_mergeAll_48 (lv_at hl 2 rfl) ?_
          refine lv_aload_n hx hb dX8_mergeAll_50 rfl (lv_at hl 3 rfl) ?_
          refine g_get hC hK inG8 hH 0 (by decide) rfl rfl 2 (by decide) qF_X8_16 (Or.inl rfl) rfl dX8_mergeAll_51 ?_
          refine lv_iload_n hx hb dX8_mergeAll_54 rfl (lv_at hl 5 rfl) ?_
          refine gN_iald hC hK hH 3 (by decide) rfl y (by omega) dX8_mergeAll_55 ?_
          refine lv_icmp_ge (tgt := 109) hx hb dX8_mergeAll_56 (by decide) (fun c_56 => ?_) (fun c_56 => ?_)
          · have c_56 := nc_le (a := (P.ln y)) (b := (k - mgI P x y k)) (by omega) (by omega) c_56
            have hO : mgO P x y (mgI P x y k) (k - mgI P x y k) = false := by simp [mgO, show ¬ mgI P x y k = P.ln x by omega, show ¬ (k - mgI P x y k < P.ln y) by omega]
            obtain ⟨e1, e2, e3⟩ := mgI_F hO
            refine lv_iload hx hb dX8_mergeAll_109 (lv_at hl 0 rfl) ?_
            refine lv_if_eq (tgt := 124) hx hb dX8_mergeAll_111 (by decide) (fun c_111 => ?_) (fun c_111 => absurd c_111 (by decide))
            refine lv_aload_n hx hb dX8_mergeAll_124 rfl (lv_at hl 3 rfl) ?_
            refine lv_iload_n hx hb dX8_mergeAll_125 rfl (lv_at hl 4 rfl) ?_
            refine lv_iload_n hx hb dX8_mergeAll_126 rfl (lv_at hl 1 rfl) ?_
            refine cm_V (As' := [.int (nI x), .int (nI (mgI P x y k))]) (rest := []) hC (c_X8_get (by omega) (by omega)) mv_X8_get qM_X8_143 ⟨⟨rfl, rfl⟩, Nat.le_of_ble_eq_true rfl, Nat.le_of_ble_eq_true rfl⟩ hK hH hS hA (hp.recv hK hH (i := 0) (by decide) rfl rfl) hl.1 ⟨Nat.zero_le _, Nat.zero_le _⟩ rfl rfl (Nat.le_of_ble_eq_true rfl) dX8_mergeAll_127 (fun H locs hH hS => ?_)
            refine lv_aload_n hx hb dX8_mergeAll_130 rfl (lv_at hl 3 rfl) ?_
            refine g_get hC hK inG8 hH 0 (by decide) rfl rfl 12 (by decide) qF_X8_33 (Or.inl rfl) rfl dX8_mergeAll_131 ?_
            refine lv_iload_n hx hb dX8_mergeAll_134 rfl (lv_at hl 1 rfl) ?_
            refine lv_iload hx hb dX8_mergeAll_135 (lv_at hl 2 rfl) ?_
            refine lv_iadd hx hb dX8_mergeAll_137 ?_
            refine lv_chg (y := nI k) (by rw [nI_add]; congr 1; omega) ?_
            refine lv_aload_n hx hb dX8_mergeAll_138 rfl (lv_at hl 3 rfl) ?_
            refine g_get hC hK inG8 hH 0 (by decide) rfl rfl 9 (by decide) qF_X8_66 (Or.inl rfl) rfl dX8_mergeAll_139 ?_
            refine lv_chg (y := nI (mgS P x y k)) (by rw [e2]) ?_
            refine gN_iast (ct' := mct cy ad P wy (nI (P.kd x)) (P.wh x (mgI P x y k)) (P.re x (mgI P x y k)) (upd (ldI ns (fun i => nI (mgS P x y i)) k) k (nI (mgS P x y k))) (ldL nw (fun i => (mgV P x y i).1) k) (ldD nr (fun i => (mgV P x y i).2) k) fr tt) hC hK hH hS 8 (by decide) rfl k (by omega) rfl mct_8 dX8_mergeAll_142 (fun H locs hH hS => ?_)
            refine lv_aload_n hx hb dX8_mergeAll_143 rfl (lv_at hl 3 rfl) ?_
            refine g_get hC hK inG8 hH 0 (by decide) rfl rfl 13 (by decide) qF_X8_36 (Or.inl rfl) rfl dX8_mergeAll_144 ?_
            refine lv_iload_n hx hb dX8_mergeAll_147 rfl (lv_at hl 1 rfl) ?_
            refine lv_iload hx hb dX8_mergeAll_148 (lv_at hl 2 rfl) ?_
            refine lv_iadd hx hb dX8_mergeAll_150 ?_
            refine lv_chg (y := nI k) (by rw [nI_add]; congr 1; omega) ?_
            refine lv_aload_n hx hb dX8_mergeAll_151 rfl (lv_at hl 3 rfl) ?_
            refine g_get hC hK inG8 hH 0 (by decide) rfl rfl 10 (by decide) qF_X8_69 (Or.inl rfl) rfl dX8_mergeAll_152 ?_
            refine lv_chgl (y := (mgV P x y k).1) (by rw [e3]) ?_
            refine gN_last (ct' := mct cy ad P wy (nI (P.kd x)) (P.wh x (mgI P x y k)) (P.re x (mgI P x y k)) (upd (ldI ns (fun i => nI (mgS P x y i)) k) k (nI (mgS P x y k))) (vp_updL (ldL nw (fun i => (mgV P x y i).1) k) k ((mgV P x y k).1)) (ldD nr (fun i => (mgV P x y i).2) k) fr tt) hC hK hH hS 9 (by decide) rfl k (by omega) rfl mct_9 dX8_mergeAll_155 (fun H locs hH hS => ?_)
            refine lv_aload_n hx hb dX8_mergeAll_156 rfl (lv_at hl 3 rfl) ?_
            refine g_get hC hK inG8 hH 0 (by decide) rfl rfl 14 (by decide) qF_X8_39 (Or.inl rfl) rfl dX8_mergeAll_157 ?_
            refine lv_iload_n hx hb dX8_mergeAll_160 rfl (lv_at hl 1 rfl) ?_
            refine lv_iload hx hb dX8_mergeAll_161 (lv_at hl 2 rfl) ?_
            refine lv_iadd hx hb dX8_mergeAll_163 ?_
            refine lv_chg (y := nI k) (by rw [nI_add]; congr 1; omega) ?_
            refine lv_aload_n hx hb dX8_mergeAll_164 rfl (lv_at hl 3 rfl) ?_
            refine g_get hC hK inG8 hH 0 (by decide) rfl rfl 11 (by decide) qF_X8_73 (Or.inl rfl) rfl dX8_mergeAll_165 ?_
            refine lv_chgd (y := (mgV P x y k).2) (by rw [e3]) ?_
            refine gN_dast (ct' := mct cy ad P wy (nI (P.kd x)) (P.wh x (mgI P x y k)) (P.re x (mgI P x y k)) (upd (ldI ns (fun i => nI (mgS P x y i)) k) k (nI (mgS P x y k))) (vp_updL (ldL nw (fun i => (mgV P x y i).1) k) k ((mgV P x y k).1)) (vf_upd (ldD nr (fun i => (mgV P x y i).2) k) k ((mgV P x y k).2)) fr tt) hC hK hH hS 10 (by decide) rfl k (by omega) rfl mct_10 dX8_mergeAll_168 (fun H locs hH hS => ?_)
            refine lv_iload_n hx hb dX8_mergeAll_169 rfl (lv_at hl 1 rfl) ?_
            refine lv_iload hx hb dX8_mergeAll_170 (lv_at hl 0 rfl) ?_
            refine lv_if_eq (tgt := 179) hx hb dX8_mergeAll_172 (by decide) (fun c_172 => ?_) (fun c_172 => absurd c_172 (by decide))
            refine lv_iconst (v := 1) hx hb dX8_mergeAll_179 (by decide) ?_
            refine lv_iadd hx hb dX8_mergeAll_180 ?_
            refine lv_chg (y := nI (mgI P x y (k + 1))) (by rw [e1]; exact nI_1 _) ?_
            refine lv_istore_n (lv' := [(3, .int (nI (mgI P x y (k + 1)))), (5, .int (0)), (4, .int (nI (k - mgI P x y k))), (0, .ref (ad 0)), (1, .int (nI x)), (2, .int (nI y))]) hx hb dX8_mergeAll_181 rfl hl (by decide) rfl (fun ls hl => ?_)
            refine lv_iload hx hb dX8_mergeAll_182 (lv_at hl 2 rfl) ?_
            refine lv_iload hx hb dX8_mergeAll_184 (lv_at hl 1 rfl) ?_
            refine lv_if_eq (tgt := 193) hx hb dX8_mergeAll_186 (by decide) (fun c_186 => ?_) (fun c_186 => absurd c_186 (by decide))
            refine lv_iconst (v := 0) hx hb dX8_mergeAll_193 (by decide) ?_
            refine lv_iadd hx hb dX8_mergeAll_194 ?_
            refine lv_chg (y := nI ((k + 1) - mgI P x y (k + 1))) (by rw [e1]; rw [Int32.add_zero]; congr 1; omega) ?_
            refine lv_istore (lv' := [(4, .int (nI ((k + 1) - mgI P x y (k + 1)))), (3, .int (nI (mgI P x y (k + 1)))), (5, .int (0)), (0, .ref (ad 0)), (1, .int (nI x)), (2, .int (nI y))]) hx hb dX8_mergeAll_195 hl (by decide) rfl (fun ls hl => ?_)
            refine lv_goto (tgt := 5) hx hb dX8_mergeAll_197 (by decide) ?_
            exact ih_lp (k + 1) (by omega) (by omega) _ _ _  _ _ hH hS ls (lv_sub hl [1, 0, 3, 4, 5] rfl)
          · have c_56 := nc_nle (a := (P.ln y)) (b := (k - mgI P x y k)) (by omega) (by omega) c_56
            refine lv_aload_n hx hb dX8_mergeAll_59 rfl (lv_at hl 3 rfl) ?_
            refine lv_iload_n hx hb dX8_mergeAll_60 rfl (lv_at hl 5 rfl) ?_
            refine lv_iload hx hb dX8_mergeAll_61 (lv_at hl 2 rfl) ?_
            refine cm_V (As' := [.int (nI y), .int (nI (k - mgI P x y k))]) (rest := []) hC (c_X8_get (by omega) (by omega)) mv_X8_get qM_X8_143 ⟨⟨rfl, rfl⟩, Nat.le_of_ble_eq_true rfl, Nat.le_of_ble_eq_true rfl⟩ hK hH hS hA (hp.recv hK hH (i := 0) (by decide) rfl rfl) hl.1 ⟨Nat.zero_le _, Nat.zero_le _⟩ rfl rfl (Nat.le_of_ble_eq_true rfl) dX8_mergeAll_63 (fun H locs hH hS => ?_)
            refine lv_aload_n hx hb dX8_mergeAll_66 rfl (lv_at hl 3 rfl) ?_
            refine lv_aload_n hx hb dX8_mergeAll_67 rfl (lv_at hl 3 rfl) ?_
            refine g_get hC hK inG8 hH 0 (by decide) rfl rfl 1 (by decide) qF_X8_13 (Or.inl rfl) rfl dX8_mergeAll_68 ?_
            refine lv_iload_n hx hb dX8_mergeAll_71 rfl (lv_at hl 4 rfl) ?_
            refine gN_iald hC hK hH 2 (by decide) rfl x (by omega) dX8_mergeAll_72 ?_
            refine lv_aload_n hx hb dX8_mergeAll_73 rfl (lv_at hl 3 rfl) ?_
            refine g_get hC hK inG8 hH 0 (by decide) rfl rfl 4 (by decide) qF_X8_22 (Or.inl rfl) rfl dX8_mergeAll_74 ?_
            refine lv_bipush (v := 24) hx hb dX8_mergeAll_77 (by decide) ?_
            refine lv_iload_n hx hb dX8_mergeAll_79 rfl (lv_at hl 4 rfl) ?_
            refine lv_imul hx hb dX8_mergeAll_80 ?_
            refine lv_iload_n hx hb dX8_mergeAll_81 rfl (lv_at hl 1 rfl) ?_
            refine lv_iadd hx hb dX8_mergeAll_82 ?_
            refine mr_wh hC hK hH x (mgI P x y k) (by omega) dX8_mergeAll_83 ?_
            refine lv_aload_n hx hb dX8_mergeAll_84 rfl (lv_at hl 3 rfl) ?_
            refine g_get hC hK inG8 hH 0 (by decide) rfl rfl 5 (by decide) qF_X8_26 (Or.inl rfl) rfl dX8_mergeAll_85 ?_
            refine lv_bipush (v := 24) hx hb dX8_mergeAll_88 (by decide) ?_
            refine lv_iload_n hx hb dX8_mergeAll_90 rfl (lv_at hl 4 rfl) ?_
            refine lv_imul hx hb dX8_mergeAll_91 ?_
            refine lv_iload_n hx hb dX8_mergeAll_92 rfl (lv_at hl 1 rfl) ?_
            refine lv_iadd hx hb dX8_mergeAll_93 ?_
            refine mr_re hC hK hH x (mgI P x y k) (by omega) dX8_mergeAll_94 ?_
            refine cm_V (As' := [.int (nI (P.kd x)), .long (P.wh x (mgI P x y k)), .double (P.re x (mgI P x y k))]) (rest := []) hC (c_X8_against (by omega) (by omega)) mv_X8_against qM_X8_163 ⟨⟨rfl, rfl⟩, Nat.le_of_ble_eq_true rfl, Nat.le_of_ble_eq_true rfl⟩ hK hH hS hA (hp.recv hK hH (i := 0) (by decide) rfl rfl) hl.1 ⟨Nat.zero_le _, Nat.zero_le _⟩ rfl rfl (Nat.le_of_ble_eq_true rfl) dX8_mergeAll_95 (fun H locs hH hS => ?_)
            refine lv_iconst (v := (-1)) hx hb dX8_mergeAll_98 (by decide) ?_
            refine lv_icmp_ne (tgt := 106) hx hb dX8_mergeAll_99 (by decide) (fun c_99 => ?_) (fun c_99 => ?_)
            · refine lv_iconst (v := 0) hx hb dX8_mergeAll_106 (by decide) ?_
              refine lv_istore (lv' := [(5, .int (0)), (3, .int (nI (mgI P x y k))), (4, .int (nI (k - mgI P x y k))), (0, .ref (ad 0)), (1, .int (nI x)), (2, .int (nI y))]) hx hb dX8_mergeAll_107 hl (by decide) rfl (fun ls hl => ?_)
              have hO : mgO P x y (mgI P x y k) (k - mgI P x y k) = false := by simp [mgO, show ¬ mgI P x y k = P.ln x by omega, show k - mgI P x y k < P.ln y by omega, c_99]
              obtain ⟨e1, e2, e3⟩ := mgI_F hO
              refine lv_iload hx hb dX8_mergeAll_109 (lv_at hl 0 rfl) ?_
              refine lv_if_eq (tgt := 124) hx hb dX8_mergeAll_111 (by decide) (fun c_111 => ?_) (fun c_111 => absurd c_111 (by decide))
              refine lv_aload_n hx hb dX8_mergeAll_124 rfl (lv_at hl 3 rfl) ?_
              refine lv_iload_n hx hb dX8_mergeAll_125 rfl (lv_at hl 4 rfl) ?_
              refine lv_iload_n hx hb dX8_mergeAll_126 rfl (lv_at hl 1 rfl) ?_
              refine cm_V (As' := [.int (nI x), .int (nI (mgI P x y k))]) (rest := []) hC (c_X8_get (by omega) (by omega)) mv_X8_get qM_X8_143 ⟨⟨rfl, rfl⟩, Nat.le_of_ble_eq_true rfl, Nat.le_of_ble_eq_true rfl⟩ hK hH hS hA (hp.recv hK hH (i := 0) (by decide) rfl rfl) hl.1 ⟨Nat.zero_le _, Nat.zero_le _⟩ rfl rfl (Nat.le_of_ble_eq_true rfl) dX8_mergeAll_127 (fun H locs hH hS => ?_)
              refine lv_aload_n hx hb dX8_mergeAll_130 rfl (lv_at hl 3 rfl) ?_
              refine g_get hC hK inG8 hH 0 (by decide) rfl rfl 12 (by decide) qF_X8_33 (Or.inl rfl) rfl dX8_mergeAll_131 ?_
              refine lv_iload_n hx hb dX8_mergeAll_134 rfl (lv_at hl 1 rfl) ?_
              refine lv_iload hx hb dX8_mergeAll_135 (lv_at hl 2 rfl) ?_
              refine lv_iadd hx hb dX8_mergeAll_137 ?_
              refine lv_chg (y := nI k) (by rw [nI_add]; congr 1; omega) ?_
              refine lv_aload_n hx hb dX8_mergeAll_138 rfl (lv_at hl 3 rfl) ?_
              refine g_get hC hK inG8 hH 0 (by decide) rfl rfl 9 (by decide) qF_X8_66 (Or.inl rfl) rfl dX8_mergeAll_139 ?_
              refine lv_chg (y := nI (mgS P x y k)) (by rw [e2]) ?_
              refine gN_iast (ct' := mct cy ad P wy (nI (P.kd x)) (P.wh x (mgI P x y k)) (P.re x (mgI P x y k)) (upd (ldI ns (fun i => nI (mgS P x y i)) k) k (nI (mgS P x y k))) (ldL nw (fun i => (mgV P x y i).1) k) (ldD nr (fun i => (mgV P x y i).2) k) fr tt) hC hK hH hS 8 (by decide) rfl k (by omega) rfl mct_8 dX8_mergeAll_142 (fun H locs hH hS => ?_)
              refine lv_aload_n hx hb dX8_mergeAll_143 rfl (lv_at hl 3 rfl) ?_
              refine g_get hC hK inG8 hH 0 (by decide) rfl rfl 13 (by decide) qF_X8_36 (Or.inl rfl) rfl dX8_mergeAll_144 ?_
              refine lv_iload_n hx hb dX8_mergeAll_147 rfl (lv_at hl 1 rfl) ?_
              refine lv_iload hx hb dX8_mergeAll_148 (lv_at hl 2 rfl) ?_
              refine lv_iadd hx hb dX8_mergeAll_150 ?_
              refine lv_chg (y := nI k) (by rw [nI_add]; congr 1; omega) ?_
              refine lv_aload_n hx hb dX8_mergeAll_151 rfl (lv_at hl 3 rfl) ?_
              refine g_get hC hK inG8 hH 0 (by decide) rfl rfl 10 (by decide) qF_X8_69 (Or.inl rfl) rfl dX8_mergeAll_152 ?_
              refine lv_chgl (y := (mgV P x y k).1) (by rw [e3]) ?_
              refine gN_last (ct' := mct cy ad P wy (nI (P.kd x)) (P.wh x (mgI P x y k)) (P.re x (mgI P x y k)) (upd (ldI ns (fun i => nI (mgS P x y i)) k) k (nI (mgS P x y k))) (vp_updL (ldL nw (fun i => (mgV P x y i).1) k) k ((mgV P x y k).1)) (ldD nr (fun i => (mgV P x y i).2) k) fr tt) hC hK hH hS 9 (by decide) rfl k (by omega) rfl mct_9 dX8_mergeAll_155 (fun H locs hH hS => ?_)
              refine lv_aload_n hx hb dX8_mergeAll_156 rfl (lv_at hl 3 rfl) ?_
              refine g_get hC hK inG8 hH 0 (by decide) rfl rfl 14 (by decide) qF_X8_39 (Or.inl rfl) rfl dX8_mergeAll_157 ?_
              refine lv_iload_n hx hb dX8_mergeAll_160 rfl (lv_at hl 1 rfl) ?_
              refine lv_iload hx hb dX8_mergeAll_161 (lv_at hl 2 rfl) ?_
              refine lv_iadd hx hb dX8_mergeAll_163 ?_
              refine lv_chg (y := nI k) (by rw [nI_add]; congr 1; omega) ?_
              refine lv_aload_n hx hb dX8_mergeAll_164 rfl (lv_at hl 3 rfl) ?_
              refine g_get hC hK inG8 hH 0 (by decide) rfl rfl 11 (by decide) qF_X8_73 (Or.inl rfl) rfl dX8_mergeAll_165 ?_
              refine lv_chgd (y := (mgV P x y k).2) (by rw [e3]) ?_
              refine gN_dast (ct' := mct cy ad P wy (nI (P.kd x)) (P.wh x (mgI P x y k)) (P.re x (mgI P x y k)) (upd (ldI ns (fun i => nI (mgS P x y i)) k) k (nI (mgS P x y k))) (vp_updL (ldL nw (fun i => (mgV P x y i).1) k) k ((mgV P x y k).1)) (vf_upd (ldD nr (fun i => (mgV P x y i).2) k) k ((mgV P x y k).2)) fr tt) hC hK hH hS 10 (by decide) rfl k (by omega) rfl mct_10 dX8_mergeAll_168 (fun H locs hH hS => ?_)
              refine lv_iload_n hx hb dX8_mergeAll_169 rfl (lv_at hl 1 rfl) ?_
              refine lv_iload hx hb dX8_mergeAll_170 (lv_at hl 0 rfl) ?_
              refine lv_if_eq (tgt := 179) hx hb dX8_mergeAll_172 (by decide) (fun c_172 => ?_) (fun c_172 => absurd c_172 (by decide))
              refine lv_iconst (v := 1) hx hb dX8_mergeAll_179 (by decide) ?_
              refine lv_iadd hx hb dX8_mergeAll_180 ?_
              refine lv_chg (y := nI (mgI P x y (k + 1))) (by rw [e1]; exact nI_1 _) ?_
              refine lv_istore_n (lv' := [(3, .int (nI (mgI P x y (k + 1)))), (5, .int (0)), (4, .int (nI (k - mgI P x y k))), (0, .ref (ad 0)), (1, .int (nI x)), (2, .int (nI y))]) hx hb dX8_mergeAll_181 rfl hl (by decide) rfl (fun ls hl => ?_)
              refine lv_iload hx hb dX8_mergeAll_182 (lv_at hl 2 rfl) ?_
              refine lv_iload hx hb dX8_mergeAll_184 (lv_at hl 1 rfl) ?_
              refine lv_if_eq (tgt := 193) hx hb dX8_mergeAll_186 (by decide) (fun c_186 => ?_) (fun c_186 => absurd c_186 (by decide))
              refine lv_iconst (v := 0) hx hb dX8_mergeAll_193 (by decide) ?_
              refine lv_iadd hx hb dX8_mergeAll_194 ?_
              refine lv_chg (y := nI ((k + 1) - mgI P x y (k + 1))) (by rw [e1]; rw [Int32.add_zero]; congr 1; omega) ?_
              refine lv_istore (lv' := [(4, .int (nI ((k + 1) - mgI P x y (k + 1)))), (3, .int (nI (mgI P x y (k + 1)))), (5, .int (0)), (0, .ref (ad 0)), (1, .int (nI x)), (2, .int (nI y))]) hx hb dX8_mergeAll_195 hl (by decide) rfl (fun ls hl => ?_)
              refine lv_goto (tgt := 5) hx hb dX8_mergeAll_197 (by decide) ?_
              exact ih_lp (k + 1) (by omega) (by omega) _ _ _  _ _ hH hS ls (lv_sub hl [1, 0, 3, 4, 5] rfl)
            · refine lv_iconst (v := 1) hx hb dX8_mergeAll_102 (by decide) ?_
              refine lv_goto (tgt := 107) hx hb dX8_mergeAll_103 (by decide) ?_
              refine lv_istore (lv' := [(5, .int (1)), (3, .int (nI (mgI P x y k))), (4, .int (nI (k - mgI P x y k))), (0, .ref (ad 0)), (1, .int (nI x)), (2, .int (nI y))]) hx hb dX8_mergeAll_107 hl (by decide) rfl (fun ls hl => ?_)
              have hO : mgO P x y (mgI P x y k) (k - mgI P x y k) = true := by simp [mgO, show ¬ mgI P x y k = P.ln x by omega, show k - mgI P x y k < P.ln y by omega, c_99]
              obtain ⟨e1, e2, e3⟩ := mgI_T hO
              refine lv_iload hx hb dX8_mergeAll_109 (lv_at hl 0 rfl) ?_
              refine lv_if_eq (tgt := 124) hx hb dX8_mergeAll_111 (by decide) (fun c_111 => absurd c_111 (by decide)) (fun c_111 => ?_)
              refine lv_aload_n hx hb dX8_mergeAll_114 rfl (lv_at hl 3 rfl) ?_
              refine lv_iload_n hx hb dX8_mergeAll_115 rfl (lv_at hl 5 rfl) ?_
              refine lv_iload hx hb dX8_mergeAll_116 (lv_at hl 2 rfl) ?_
              refine cm_V (As' := [.int (nI y), .int (nI (k - mgI P x y k))]) (rest := []) hC (c_X8_get (by omega) (by omega)) mv_X8_get qM_X8_143 ⟨⟨rfl, rfl⟩, Nat.le_of_ble_eq_true rfl, Nat.le_of_ble_eq_true rfl⟩ hK hH hS hA (hp.recv hK hH (i := 0) (by decide) rfl rfl) hl.1 ⟨Nat.zero_le _, Nat.zero_le _⟩ rfl rfl (Nat.le_of_ble_eq_true rfl) dX8_mergeAll_118 (fun H locs hH hS => ?_)
              refine lv_goto (tgt := 130) hx hb dX8_mergeAll_121 (by decide) ?_
              refine lv_aload_n hx hb dX8_mergeAll_130 rfl (lv_at hl 3 rfl) ?_
              refine g_get hC hK inG8 hH 0 (by decide) rfl rfl 12 (by decide) qF_X8_33 (Or.inl rfl) rfl dX8_mergeAll_131 ?_
              refine lv_iload_n hx hb dX8_mergeAll_134 rfl (lv_at hl 1 rfl) ?_
              refine lv_iload hx hb dX8_mergeAll_135 (lv_at hl 2 rfl) ?_
              refine lv_iadd hx hb dX8_mergeAll_137 ?_
              refine lv_chg (y := nI k) (by rw [nI_add]; congr 1; omega) ?_
              refine lv_aload_n hx hb dX8_mergeAll_138 rfl (lv_at hl 3 rfl) ?_
              refine g_get hC hK inG8 hH 0 (by decide) rfl rfl 9 (by decide) qF_X8_66 (Or.inl rfl) rfl dX8_mergeAll_139 ?_
              refine lv_chg (y := nI (mgS P x y k)) (by rw [e2]) ?_
              refine gN_iast (ct' := mct cy ad P wy (nI (P.kd y)) (P.wh y (k - mgI P x y k)) (P.re y (k - mgI P x y k)) (upd (ldI ns (fun i => nI (mgS P x y i)) k) k (nI (mgS P x y k))) (ldL nw (fun i => (mgV P x y i).1) k) (ldD nr (fun i => (mgV P x y i).2) k) fr tt) hC hK hH hS 8 (by decide) rfl k (by omega) rfl mct_8 dX8_mergeAll_142 (fun H locs hH hS => ?_)
              refine lv_aload_n hx hb dX8_mergeAll_143 rfl (lv_at hl 3 rfl) ?_
              refine g_get hC hK inG8 hH 0 (by decide) rfl rfl 13 (by decide) qF_X8_36 (Or.inl rfl) rfl dX8_mergeAll_144 ?_
              refine lv_iload_n hx hb dX8_mergeAll_147 rfl (lv_at hl 1 rfl) ?_
              refine lv_iload hx hb dX8_mergeAll_148 (lv_at hl 2 rfl) ?_
              refine lv_iadd hx hb dX8_mergeAll_150 ?_
              refine lv_chg (y := nI k) (by rw [nI_add]; congr 1; omega) ?_
              refine lv_aload_n hx hb dX8_mergeAll_151 rfl (lv_at hl 3 rfl) ?_
              refine g_get hC hK inG8 hH 0 (by decide) rfl rfl 10 (by decide) qF_X8_69 (Or.inl rfl) rfl dX8_mergeAll_152 ?_
              refine lv_chgl (y := (mgV P x y k).1) (by rw [e3]) ?_
              refine gN_last (ct' := mct cy ad P wy (nI (P.kd y)) (P.wh y (k - mgI P x y k)) (P.re y (k - mgI P x y k)) (upd (ldI ns (fun i => nI (mgS P x y i)) k) k (nI (mgS P x y k))) (vp_updL (ldL nw (fun i => (mgV P x y i).1) k) k ((mgV P x y k).1)) (ldD nr (fun i => (mgV P x y i).2) k) fr tt) hC hK hH hS 9 (by decide) rfl k (by omega) rfl mct_9 dX8_mergeAll_155 (fun H locs hH hS => ?_)
              refine lv_aload_n hx hb dX8_mergeAll_156 rfl (lv_at hl 3 rfl) ?_
              refine g_get hC hK inG8 hH 0 (by decide) rfl rfl 14 (by decide) qF_X8_39 (Or.inl rfl) rfl dX8_mergeAll_157 ?_
              refine lv_iload_n hx hb dX8_mergeAll_160 rfl (lv_at hl 1 rfl) ?_
              refine lv_iload hx hb dX8_mergeAll_161 (lv_at hl 2 rfl) ?_
              refine lv_iadd hx hb dX8_mergeAll_163 ?_
              refine lv_chg (y := nI k) (by rw [nI_add]; congr 1; omega) ?_
              refine lv_aload_n hx hb dX8_mergeAll_164 rfl (lv_at hl 3 rfl) ?_
              refine g_get hC hK inG8 hH 0 (by decide) rfl rfl 11 (by decide) qF_X8_73 (Or.inl rfl) rfl dX8_mergeAll_165 ?_
              refine lv_chgd (y := (mgV P x y k).2) (by rw [e3]) ?_
              refine gN_dast (ct' := mct cy ad P wy (nI (P.kd y)) (P.wh y (k - mgI P x y k)) (P.re y (k - mgI P x y k)) (upd (ldI ns (fun i => nI (mgS P x y i)) k) k (nI (mgS P x y k))) (vp_updL (ldL nw (fun i => (mgV P x y i).1) k) k ((mgV P x y k).1)) (vf_upd (ldD nr (fun i => (mgV P x y i).2) k) k ((mgV P x y k).2)) fr tt) hC hK hH hS 10 (by decide) rfl k (by omega) rfl mct_10 dX8_mergeAll_168 (fun H locs hH hS => ?_)
              refine lv_iload_n hx hb dX8_mergeAll_169 rfl (lv_at hl 1 rfl) ?_
              refine lv_iload hx hb dX8_mergeAll_170 (lv_at hl 0 rfl) ?_
              refine lv_if_eq (tgt := 179) hx hb dX8_mergeAll_172 (by decide) (fun c_172 => absurd c_172 (by decide)) (fun c_172 => ?_)
              refine lv_iconst (v := 0) hx hb dX8_mergeAll_175 (by decide) ?_
              refine lv_goto (tgt := 180) hx hb dX8_mergeAll_176 (by decide) ?_
              refine lv_iadd hx hb dX8_mergeAll_180 ?_
              refine lv_chg (y := nI (mgI P x y (k + 1))) (by rw [e1]; exact Int32.add_zero _) ?_
              refine lv_istore_n (lv' := [(3, .int (nI (mgI P x y (k + 1)))), (5, .int (1)), (4, .int (nI (k - mgI P x y k))), (0, .ref (ad 0)), (1, .int (nI x)), (2, .int (nI y))]) hx hb dX8_mergeAll_181 rfl hl (by decide) rfl (fun ls hl => ?_)
              refine lv_iload hx hb dX8_mergeAll_182 (lv_at hl 2 rfl) ?_
              refine lv_iload hx hb dX8_mergeAll_184 (lv_at hl 1 rfl) ?_
              refine lv_if_eq (tgt := 193) hx hb dX8_mergeAll_186 (by decide) (fun c_186 => absurd c_186 (by decide)) (fun c_186 => ?_)
              refine lv_iconst (v := 1) hx hb dX8_mergeAll_189 (by decide) ?_
              refine lv_goto (tgt := 194) hx hb dX8_mergeAll_190 (by decide) ?_
              refine lv_iadd hx hb dX8_mergeAll_194 ?_
              refine lv_chg (y := nI ((k + 1) - mgI P x y (k + 1))) (by rw [e1]; rw [nI_1]; congr 1; omega) ?_
              refine lv_istore (lv' := [(4, .int (nI ((k + 1) - mgI P x y (k + 1)))), (3, .int (nI (mgI P x y (k + 1)))), (5, .int (1)), (0, .ref (ad 0)), (1, .int (nI x)), (2, .int (nI y))]) hx hb dX8_mergeAll_195 hl (by decide) rfl (fun ls hl => ?_)
              refine lv_goto (tgt := 5) hx hb dX8_mergeAll_197 (by decide) ?_
              exact ih_lp (k + 1) (by omega) (by omega) _ _ _  _ _ hH hS ls (lv_sub hl [1, 0, 3, 4, 5] rfl)
        · have c_33 := nc_eq (a := (mgI P x y k)) (b := (P.ln x)) (by omega) (by omega) c_33
          refine lv_iconst (v := 1) hx hb dX8_mergeAll_36 (by decide) ?_
          refine lv_goto (tgt := 41) hx hb dX8_mergeAll_37 (by decide) ?_
          refine lv_istore (lv' := [(5, .int (1)), (3, .int (nI (mgI P x y k))), (4, .int (nI (k - mgI P x y k))), (0, .ref (ad 0)), (1, .int (nI x)), (2, .int (nI y))]) hx hb dX8_mergeAll_41 hl (by decide) rfl (fun ls hl => ?_)
          refine lv_iload hx hb dX8_mergeAll_43 (lv_at hl 0 rfl) ?_
          refine lv_if_ne (tgt := 109) hx hb dX8_mergeAll_45 (by decide) (fun c_45 => ?_) (fun c_45 => absurd c_45 (by decide))
          have hO : mgO P x y (mgI P x y k) (k - mgI P x y k) = true := by simp [mgO, show mgI P x y k = P.ln x by omega]
          obtain ⟨e1, e2, e3⟩ := mgI_T hO
          refine lv_iload hx hb dX8_mergeAll_109 (lv_at hl 0 rfl) ?_
          refine lv_if_eq (tgt := 124) hx hb dX8_mergeAll_111 (by decide) (fun c_111 => absurd c_111 (by decide)) (fun c_111 => ?_)
          refine lv_aload_n hx hb dX8_mergeAll_114 rfl (lv_at hl 3 rfl) ?_
          refine lv_iload_n hx hb dX8_mergeAll_115 rfl (lv_at hl 5 rfl) ?_
          refine lv_iload hx hb dX8_mergeAll_116 (lv_at hl 2 rfl) ?_
          refine cm_V (As' := [.int (nI y), .int (nI (k - mgI P x y k))]) (rest := []) hC (c_X8_get (by omega) (by omega)) mv_X8_get qM_X8_143 ⟨⟨rfl, rfl⟩, Nat.le_of_ble_eq_true rfl, Nat.le_of_ble_eq_true rfl⟩ hK hH hS hA (hp.recv hK hH (i := 0) (by decide) rfl rfl) hl.1 ⟨Nat.zero_le _, Nat.zero_le _⟩ rfl rfl (Nat.le_of_ble_eq_true rfl) dX8_mergeAll_118 (fun H locs hH hS => ?_)
          refine lv_goto (tgt := 130) hx hb dX8_mergeAll_121 (by decide) ?_
          refine lv_aload_n hx hb dX8_mergeAll_130 rfl (lv_at hl 3 rfl) ?_
          refine g_get hC hK inG8 hH 0 (by decide) rfl rfl 12 (by decide) qF_X8_33 (Or.inl rfl) rfl dX8_mergeAll_131 ?_
          refine lv_iload_n hx hb dX8_mergeAll_134 rfl (lv_at hl 1 rfl) ?_
          refine lv_iload hx hb dX8_mergeAll_135 (lv_at hl 2 rfl) ?_
          refine lv_iadd hx hb dX8_mergeAll_137 ?_
          refine lv_chg (y := nI k) (by rw [nI_add]; congr 1; omega) ?_
          refine lv_aload_n hx hb dX8_mergeAll_138 rfl (lv_at hl 3 rfl) ?_
          refine g_get hC hK inG8 hH 0 (by decide) rfl rfl 9 (by decide) qF_X8_66 (Or.inl rfl) rfl dX8_mergeAll_139 ?_
          refine lv_chg (y := nI (mgS P x y k)) (by rw [e2]) ?_
          refine gN_iast (ct' := mct cy ad P wy (nI (P.kd y)) (P.wh y (k - mgI P x y k)) (P.re y (k - mgI P x y k)) (upd (ldI ns (fun i => nI (mgS P x y i)) k) k (nI (mgS P x y k))) (ldL nw (fun i => (mgV P x y i).1) k) (ldD nr (fun i => (mgV P x y i).2) k) fr tt) hC hK hH hS 8 (by decide) rfl k (by omega) rfl mct_8 dX8_mergeAll_142 (fun H locs hH hS => ?_)
          refine lv_aload_n hx hb dX8_mergeAll_143 rfl (lv_at hl 3 rfl) ?_
          refine g_get hC hK inG8 hH 0 (by decide) rfl rfl 13 (by decide) qF_X8_36 (Or.inl rfl) rfl dX8_mergeAll_144 ?_
          refine lv_iload_n hx hb dX8_mergeAll_147 rfl (lv_at hl 1 rfl) ?_
          refine lv_iload hx hb dX8_mergeAll_148 (lv_at hl 2 rfl) ?_
          refine lv_iadd hx hb dX8_mergeAll_150 ?_
          refine lv_chg (y := nI k) (by rw [nI_add]; congr 1; omega) ?_
          refine lv_aload_n hx hb dX8_mergeAll_151 rfl (lv_at hl 3 rfl) ?_
          refine g_get hC hK inG8 hH 0 (by decide) rfl rfl 10 (by decide) qF_X8_69 (Or.inl rfl) rfl dX8_mergeAll_152 ?_
          refine lv_chgl (y := (mgV P x y k).1) (by rw [e3]) ?_
          refine gN_last (ct' := mct cy ad P wy (nI (P.kd y)) (P.wh y (k - mgI P x y k)) (P.re y (k - mgI P x y k)) (upd (ldI ns (fun i => nI (mgS P x y i)) k) k (nI (mgS P x y k))) (vp_updL (ldL nw (fun i => (mgV P x y i).1) k) k ((mgV P x y k).1)) (ldD nr (fun i => (mgV P x y i).2) k) fr tt) hC hK hH hS 9 (by decide) rfl k (by omega) rfl mct_9 dX8_mergeAll_155 (fun H locs hH hS => ?_)
          refine lv_aload_n hx hb dX8_mergeAll_156 rfl (lv_at hl 3 rfl) ?_
          refine g_get hC hK inG8 hH 0 (by decide) rfl rfl 14 (by decide) qF_X8_39 (Or.inl rfl) rfl dX8_mergeAll_157 ?_
          refine lv_iload_n hx hb dX8_mergeAll_160 rfl (lv_at hl 1 rfl) ?_
          refine lv_iload hx hb dX8_mergeAll_161 (lv_at hl 2 rfl) ?_
          refine lv_iadd hx hb dX8_mergeAll_163 ?_
          refine lv_chg (y := nI k) (by rw [nI_add]; congr 1; omega) ?_
          refine lv_aload_n hx hb dX8_mergeAll_164 rfl (lv_at hl 3 rfl) ?_
          refine g_get hC hK inG8 hH 0 (by decide) rfl rfl 11 (by decide) qF_X8_73 (Or.inl rfl) rfl dX8_mergeAll_165 ?_
          refine lv_chgd (y := (mgV P x y k).2) (by rw [e3]) ?_
          refine gN_dast (ct' := mct cy ad P wy (nI (P.kd y)) (P.wh y (k - mgI P x y k)) (P.re y (k - mgI P x y k)) (upd (ldI ns (fun i => nI (mgS P x y i)) k) k (nI (mgS P x y k))) (vp_updL (ldL nw (fun i => (mgV P x y i).1) k) k ((mgV P x y k).1)) (vf_upd (ldD nr (fun i => (mgV P x y i).2) k) k ((mgV P x y k).2)) fr tt) hC hK hH hS 10 (by decide) rfl k (by omega) rfl mct_10 dX8_mergeAll_168 (fun H locs hH hS => ?_)
          refine lv_iload_n hx hb dX8_mergeAll_169 rfl (lv_at hl 1 rfl) ?_
          refine lv_iload hx hb dX8_mergeAll_170 (lv_at hl 0 rfl) ?_
          refine lv_if_eq (tgt := 179) hx hb dX8_mergeAll_172 (by decide) (fun c_172 => absurd c_172 (by decide)) (fun c_172 => ?_)
          refine lv_iconst (v := 0) hx hb dX8_mergeAll_175 (by decide) ?_
          refine lv_goto (tgt := 180) hx hb dX8_mergeAll_176 (by decide) ?_
          refine lv_iadd hx hb dX8_mergeAll_180 ?_
          refine lv_chg (y := nI (mgI P x y (k + 1))) (by rw [e1]; exact Int32.add_zero _) ?_
          refine lv_istore_n (lv' := [(3, .int (nI (mgI P x y (k + 1)))), (5, .int (1)), (4, .int (nI (k - mgI P x y k))), (0, .ref (ad 0)), (1, .int (nI x)), (2, .int (nI y))]) hx hb dX8_mergeAll_181 rfl hl (by decide) rfl (fun ls hl => ?_)
          refine lv_iload hx hb dX8_mergeAll_182 (lv_at hl 2 rfl) ?_
          refine lv_iload hx hb dX8_mergeAll_184 (lv_at hl 1 rfl) ?_
          refine lv_if_eq (tgt := 193) hx hb dX8_mergeAll_186 (by decide) (fun c_186 => absurd c_186 (by decide)) (fun c_186 => ?_)
          refine lv_iconst (v := 1) hx hb dX8_mergeAll_189 (by decide) ?_
          refine lv_goto (tgt := 194) hx hb dX8_mergeAll_190 (by decide) ?_
          refine lv_iadd hx hb dX8_mergeAll_194 ?_
          refine lv_chg (y := nI ((k + 1) - mgI P x y (k + 1))) (by rw [e1]; rw [nI_1]; congr 1; omega) ?_
          refine lv_istore (lv' := [(4, .int (nI ((k + 1) - mgI P x y (k + 1)))), (3, .int (nI (mgI P x y (k + 1)))), (5, .int (1)), (0, .ref (ad 0)), (1, .int (nI x)), (2, .int (nI y))]) hx hb dX8_mergeAll_195 hl (by decide) rfl (fun ls hl => ?_)
          refine lv_goto (tgt := 5) hx hb dX8_mergeAll_197 (by decide) ?_
          exact ih_lp (k + 1) (by omega) (by omega) _ _ _  _ _ hH hS ls (lv_sub hl [1, 0, 3, 4, 5] rfl)
      · have c_12 := nc_nlt (a := (mgI P x y k)) (b := (P.ln x)) (by omega) (by omega) c_12
        refine lv_iload hx hb dX8_mergeAll_15 (lv_at hl 1 rfl) ?_
        refine lv_aload_n hx hb dX8_mergeAll_17 rfl (lv_at hl 2 rfl) ?_
        refine g_get hC hK inG8 hH 0 (by decide) rfl rfl 2 (by decide) qF_X8_16 (Or.inl rfl) rfl dX8_mergeAll_18 ?_
        refine lv_iload_n hx hb dX8_mergeAll_21 rfl (lv_at hl 4 rfl) ?_
        refine gN_iald hC hK hH 3 (by decide) rfl y (by omega) dX8_mergeAll_22 ?_
        refine lv_icmp_ge (tgt := 200) hx hb dX8_mergeAll_23 (by decide) (fun c_23 => ?_) (fun c_23 => ?_)
        · have c_23 := nc_le (a := (P.ln y)) (b := (k - mgI P x y k)) (by omega) (by omega) c_23
          subst hQ
          exact cx_rv hC hr hlk ⟨rfl, _, _, _, by rw [show P.ln x + P.ln y = k by omega]⟩ hH hS dX8_mergeAll_200
        · have c_23 := nc_nle (a := (P.ln y)) (b := (k - mgI P x y k)) (by omega) (by omega) c_23
          refine lv_iload_n hx hb dX8_mergeAll_26 rfl (lv_at hl 0 rfl) ?_
          refine lv_aload_n hx hb dX8_mergeAll_27 rfl (lv_at hl 2 rfl) ?_
          refine g_get hC hK inG8 hH 0 (by decide) rfl rfl 2 (by decide) qF_X8_16 (Or.inl rfl) rfl dX8_mergeAll_28 ?_
          refine lv_iload_n hx hb dX8_mergeAll_31 rfl (lv_at hl 3 rfl) ?_
          refine gN_iald hC hK hH 3 (by decide) rfl x (by omega) dX8_mergeAll_32 ?_
          refine lv_icmp_ne (tgt := 40) hx hb dX8_mergeAll_33 (by decide) (fun c_33 => ?_) (fun c_33 => ?_)
          · have c_33 := nc_ne (a := (mgI P x y k)) (b := (P.ln x)) (by omega) (by omega) c_33
            refine lv_iconst (v := 0) hx hb dX8_mergeAll_40 (by decide) ?_
            refine lv_istore (lv' := [(5, .int (0)), (3, .int (nI (mgI P x y k))), (4, .int (nI (k - mgI P x y k))), (0, .ref (ad 0)), (1, .int (nI x)), (2, .int (nI y))]) hx hb dX8_mergeAll_41 hl (by decide) rfl (fun ls hl => ?_)
            refine lv_iload hx hb dX8_mergeAll_43 (lv_at hl 0 rfl) ?_
            refine lv_if_ne (tgt := 109) hx hb dX8_mergeAll_45 (by decide) (fun c_45 => absurd c_45 (by decide)) (fun c_45 => ?_)
            refine lv_iload hx hb dX8_mergeAll_48 (lv_at hl 2 rfl) ?_
            refine lv_aload_n hx hb dX8_mergeAll_50 rfl (lv_at hl 3 rfl) ?_
            refine g_get hC hK inG8 hH 0 (by decide) rfl rfl 2 (by decide) qF_X8_16 (Or.inl rfl) rfl dX8_mergeAll_51 ?_
            refine lv_iload_n hx hb dX8_mergeAll_54 rfl (lv_at hl 5 rfl) ?_
            refine gN_iald hC hK hH 3 (by decide) rfl y (by omega) dX8_mergeAll_55 ?_
            refine lv_icmp_ge (tgt := 109) hx hb dX8_mergeAll_56 (by decide) (fun c_56 => ?_) (fun c_56 => ?_)
            · have c_56 := nc_le (a := (P.ln y)) (b := (k - mgI P x y k)) (by omega) (by omega) c_56
              have hO : mgO P x y (mgI P x y k) (k - mgI P x y k) = false := by simp [mgO, show ¬ mgI P x y k = P.ln x by omega, show ¬ (k - mgI P x y k < P.ln y) by omega]
              obtain ⟨e1, e2, e3⟩ := mgI_F hO
              refine lv_iload hx hb dX8_mergeAll_109 (lv_at hl 0 rfl) ?_
              refine lv_if_eq (tgt := 124) hx hb dX8_mergeAll_111 (by decide) (fun c_111 => ?_) (fun c_111 => absurd c_111 (by decide))
              refine lv_aload_n hx hb dX8_mergeAll_124 rfl (lv_at hl 3 rfl) ?_
              refine lv_iload_n hx hb dX8_mergeAll_125 rfl (lv_at hl 4 rfl) ?_
              refine lv_iload_n hx hb dX8_mergeAll_126 rfl (lv_at hl 1 rfl) ?_
              refine cm_V (As' := [.int (nI x), .int (nI (mgI P x y k))]) (rest := []) hC (c_X8_get (by omega) (by omega)) mv_X8_get qM_X8_143 ⟨⟨rfl, rfl⟩, Nat.le_of_ble_eq_true rfl, Nat.le_of_ble_eq_true rfl⟩ hK hH hS hA (hp.recv hK hH (i := 0) (by decide) rfl rfl) hl.1 ⟨Nat.zero_le _, Nat.zero_le _⟩ rfl rfl (Nat.le_of_ble_eq_true rfl) dX8_mergeAll_127 (fun H locs hH hS => ?_)
              refine lv_aload_n hx hb dX8_mergeAll_130 rfl (lv_at hl 3 rfl) ?_
              refine g_get hC hK inG8 hH 0 (by decide) rfl rfl 12 (by decide) qF_X8_33 (Or.inl rfl) rfl dX8_mergeAll_131 ?_
              refine lv_iload_n hx hb dX8_mergeAll_134 rfl (lv_at hl 1 rfl) ?_
              refine lv_iload hx hb dX8_mergeAll_135 (lv_at hl 2 rfl) ?_
              refine lv_iadd hx hb dX8_mergeAll_137 ?_
              refine lv_chg (y := nI k) (by rw [nI_add]; congr 1; omega) ?_
              refine lv_aload_n hx hb dX8_mergeAll_138 rfl (lv_at hl 3 rfl) ?_
              refine g_get hC hK inG8 hH 0 (by decide) rfl rfl 9 (by decide) qF_X8_66 (Or.inl rfl) rfl dX8_mergeAll_139 ?_
              refine lv_chg (y := nI (mgS P x y k)) (by rw [e2]) ?_
              refine gN_iast (ct' := mct cy ad P wy (nI (P.kd x)) (P.wh x (mgI P x y k)) (P.re x (mgI P x y k)) (upd (ldI ns (fun i => nI (mgS P x y i)) k) k (nI (mgS P x y k))) (ldL nw (fun i => (mgV P x y i).1) k) (ldD nr (fun i => (mgV P x y i).2) k) fr tt) hC hK hH hS 8 (by decide) rfl k (by omega) rfl mct_8 dX8_mergeAll_142 (fun H locs hH hS => ?_)
              refine lv_aload_n hx hb dX8_mergeAll_143 rfl (lv_at hl 3 rfl) ?_
              refine g_get hC hK inG8 hH 0 (by decide) rfl rfl 13 (by decide) qF_X8_36 (Or.inl rfl) rfl dX8_mergeAll_144 ?_
              refine lv_iload_n hx hb dX8_mergeAll_147 rfl (lv_at hl 1 rfl) ?_
              refine lv_iload hx hb dX8_mergeAll_148 (lv_at hl 2 rfl) ?_
              refine lv_iadd hx hb dX8_mergeAll_150 ?_
              refine lv_chg (y := nI k) (by rw [nI_add]; congr 1; omega) ?_
              refine lv_aload_n hx hb dX8_mergeAll_151 rfl (lv_at hl 3 rfl) ?_
              refine g_get hC hK inG8 hH 0 (by decide) rfl rfl 10 (by decide) qF_X8_69 (Or.inl rfl) rfl dX8_mergeAll_152 ?_
              refine lv_chgl (y := (mgV P x y k).1) (by rw [e3]) ?_
              refine gN_last (ct' := mct cy ad P wy (nI (P.kd x)) (P.wh x (mgI P x y k)) (P.re x (mgI P x y k)) (upd (ldI ns (fun i => nI (mgS P x y i)) k) k (nI (mgS P x y k))) (vp_updL (ldL nw (fun i => (mgV P x y i).1) k) k ((mgV P x y k).1)) (ldD nr (fun i => (mgV P x y i).2) k) fr tt) hC hK hH hS 9 (by decide) rfl k (by omega) rfl mct_9 dX8_mergeAll_155 (fun H locs hH hS => ?_)
              refine lv_aload_n hx hb dX8_mergeAll_156 rfl (lv_at hl 3 rfl) ?_
              refine g_get hC hK inG8 hH 0 (by decide) rfl rfl 14 (by decide) qF_X8_39 (Or.inl rfl) rfl dX8_mergeAll_157 ?_
              refine lv_iload_n hx hb dX8_mergeAll_160 rfl (lv_at hl 1 rfl) ?_
              refine lv_iload hx hb dX8_mergeAll_161 (lv_at hl 2 rfl) ?_
              refine lv_iadd hx hb dX8_mergeAll_163 ?_
              refine lv_chg (y := nI k) (by rw [nI_add]; congr 1; omega) ?_
              refine lv_aload_n hx hb dX8_mergeAll_164 rfl (lv_at hl 3 rfl) ?_
              refine g_get hC hK inG8 hH 0 (by decide) rfl rfl 11 (by decide) qF_X8_73 (Or.inl rfl) rfl dX8_mergeAll_165 ?_
              refine lv_chgd (y := (mgV P x y k).2) (by rw [e3]) ?_
              refine gN_dast (ct' := mct cy ad P wy (nI (P.kd x)) (P.wh x (mgI P x y k)) (P.re x (mgI P x y k)) (upd (ldI ns (fun i => nI (mgS P x y i)) k) k (nI (mgS P x y k))) (vp_updL (ldL nw (fun i => (mgV P x y i).1) k) k ((mgV P x y k).1)) (vf_upd (ldD nr (fun i => (mgV P x y i).2) k) k ((mgV P x y k).2)) fr tt) hC hK hH hS 10 (by decide) rfl k (by omega) rfl mct_10 dX8_mergeAll_168 (fun H locs hH hS => ?_)
              refine lv_iload_n hx hb dX8_mergeAll_169 rfl (lv_at hl 1 rfl) ?_
              refine lv_iload hx hb dX8_mergeAll_170 (lv_at hl 0 rfl) ?_
              refine lv_if_eq (tgt := 179) hx hb dX8_mergeAll_172 (by decide) (fun c_172 => ?_) (fun c_172 => absurd c_172 (by decide))
              refine lv_iconst (v := 1) hx hb dX8_mergeAll_179 (by decide) ?_
              refine lv_iadd hx hb dX8_mergeAll_180 ?_
              refine lv_chg (y := nI (mgI P x y (k + 1))) (by rw [e1]; exact nI_1 _) ?_
              refine lv_istore_n (lv' := [(3, .int (nI (mgI P x y (k + 1)))), (5, .int (0)), (4, .int (nI (k - mgI P x y k))), (0, .ref (ad 0)), (1, .int (nI x)), (2, .int (nI y))]) hx hb dX8_mergeAll_181 rfl hl (by decide) rfl (fun ls hl => ?_)
              refine lv_iload hx hb dX8_mergeAll_182 (lv_at hl 2 rfl) ?_
              refine lv_iload hx hb dX8_mergeAll_184 (lv_at hl 1 rfl) ?_
              refine lv_if_eq (tgt := 193) hx hb dX8_mergeAll_186 (by decide) (fun c_186 => ?_) (fun c_186 => absurd c_186 (by decide))
              refine lv_iconst (v := 0) hx hb dX8_mergeAll_193 (by decide) ?_
              refine lv_iadd hx hb dX8_mergeAll_194 ?_
              refine lv_chg (y := nI ((k + 1) - mgI P x y (k + 1))) (by rw [e1]; rw [Int32.add_zero]; congr 1; omega) ?_
              refine lv_istore (lv' := [(4, .int (nI ((k + 1) - mgI P x y (k + 1)))), (3, .int (nI (mgI P x y (k + 1)))), (5, .int (0)), (0, .ref (ad 0)), (1, .int (nI x)), (2, .int (nI y))]) hx hb dX8_mergeAll_195 hl (by decide) rfl (fun ls hl => ?_)
              refine lv_goto (tgt := 5) hx hb dX8_mergeAll_197 (by decide) ?_
              exact ih_lp (k + 1) (by omega) (by omega) _ _ _  _ _ hH hS ls (lv_sub hl [1, 0, 3, 4, 5] rfl)
            · have c_56 := nc_nle (a := (P.ln y)) (b := (k - mgI P x y k)) (by omega) (by omega) c_56
              refine lv_aload_n hx hb dX8_mergeAll_59 rfl (lv_at hl 3 rfl) ?_
              refine lv_iload_n hx hb dX8_mergeAll_60 rfl (lv_at hl 5 rfl) ?_
              refine lv_iload hx hb dX8_mergeAll_61 (lv_at hl 2 rfl) ?_
              refine cm_V (As' := [.int (nI y), .int (nI (k - mgI P x y k))]) (rest := []) hC (c_X8_get (by omega) (by omega)) mv_X8_get qM_X8_143 ⟨⟨rfl, rfl⟩, Nat.le_of_ble_eq_true rfl, Nat.le_of_ble_eq_true rfl⟩ hK hH hS hA (hp.recv hK hH (i := 0) (by decide) rfl rfl) hl.1 ⟨Nat.zero_le _, Nat.zero_le _⟩ rfl rfl (Nat.le_of_ble_eq_true rfl) dX8_mergeAll_63 (fun H locs hH hS => ?_)
              refine lv_aload_n hx hb dX8_mergeAll_66 rfl (lv_at hl 3 rfl) ?_
              refine lv_aload_n hx hb dX8_mergeAll_67 rfl (lv_at hl 3 rfl) ?_
              refine g_get hC hK inG8 hH 0 (by decide) rfl rfl 1 (by decide) qF_X8_13 (Or.inl rfl) rfl dX8_mergeAll_68 ?_
              refine lv_iload_n hx hb dX8_mergeAll_71 rfl (lv_at hl 4 rfl) ?_
              refine gN_iald hC hK hH 2 (by decide) rfl x (by omega) dX8_mergeAll_72 ?_
              refine lv_aload_n hx hb dX8_mergeAll_73 rfl (lv_at hl 3 rfl) ?_
              refine g_get hC hK inG8 hH 0 (by decide) rfl rfl 4 (by decide) qF_X8_22 (Or.inl rfl) rfl dX8_mergeAll_74 ?_
              refine lv_bipush (v := 24) hx hb dX8_mergeAll_77 (by decide) ?_
              refine lv_iload_n hx hb dX8_mergeAll_79 rfl (lv_at hl 4 rfl) ?_
              refine lv_imul hx hb dX8_mergeAll_80 ?_
              refine lv_iload_n hx hb dX8_mergeAll_81 rfl (lv_at hl 1 rfl) ?_
              refine lv_iadd hx hb dX8_mergeAll_82 ?_
              refine mr_wh hC hK hH x (mgI P x y k) (by omega) dX8_mergeAll_83 ?_
              refine lv_aload_n hx hb dX8_mergeAll_84 rfl (lv_at hl 3 rfl) ?_
              refine g_get hC hK inG8 hH 0 (by decide) rfl rfl 5 (by decide) qF_X8_26 (Or.inl rfl) rfl dX8_mergeAll_85 ?_
              refine lv_bipush (v := 24) hx hb dX8_mergeAll_88 (by decide) ?_
              refine lv_iload_n hx hb dX8_mergeAll_90 rfl (lv_at hl 4 rfl) ?_
              refine lv_imul hx hb dX8_mergeAll_91 ?_
              refine lv_iload_n hx hb dX8_mergeAll_92 rfl (lv_at hl 1 rfl) ?_
              refine lv_iadd hx hb dX8_mergeAll_93 ?_
              refine mr_re hC hK hH x (mgI P x y k) (by omega) dX8_mergeAll_94 ?_
              refine cm_V (As' := [.int (nI (P.kd x)), .long (P.wh x (mgI P x y k)), .double (P.re x (mgI P x y k))]) (rest := []) hC (c_X8_against (by omega) (by omega)) mv_X8_against qM_X8_163 ⟨⟨rfl, rfl⟩, Nat.le_of_ble_eq_true rfl, Nat.le_of_ble_eq_true rfl⟩ hK hH hS hA (hp.recv hK hH (i := 0) (by decide) rfl rfl) hl.1 ⟨Nat.zero_le _, Nat.zero_le _⟩ rfl rfl (Nat.le_of_ble_eq_true rfl) dX8_mergeAll_95 (fun H locs hH hS => ?_)
              refine lv_iconst (v := (-1)) hx hb dX8_mergeAll_98 (by decide) ?_
              refine lv_icmp_ne (tgt := 106) hx hb dX8_mergeAll_99 (by decide) (fun c_99 => ?_) (fun c_99 => ?_)
              · refine lv_iconst (v := 0) hx hb dX8_mergeAll_106 (by decide) ?_
                refine lv_istore (lv' := [(5, .int (0)), (3, .int (nI (mgI P x y k))), (4, .int (nI (k - mgI P x y k))), (0, .ref (ad 0)), (1, .int (nI x)), (2, .int (nI y))]) hx hb dX8_mergeAll_107 hl (by decide) rfl (fun ls hl => ?_)
                have hO : mgO P x y (mgI P x y k) (k - mgI P x y k) = false := by simp [mgO, show ¬ mgI P x y k = P.ln x by omega, show k - mgI P x y k < P.ln y by omega, c_99]
                obtain ⟨e1, e2, e3⟩ := mgI_F hO
                refine lv_iload hx hb dX8_mergeAll_109 (lv_at hl 0 rfl) ?_
                refine lv_if_eq (tgt := 124) hx hb dX8_mergeAll_111 (by decide) (fun c_111 => ?_) (fun c_111 => absurd c_111 (by decide))
                refine lv_aload_n hx hb dX8_mergeAll_124 rfl (lv_at hl 3 rfl) ?_
                refine lv_iload_n hx hb dX8_mergeAll_125 rfl (lv_at hl 4 rfl) ?_
                refine lv_iload_n hx hb dX8_mergeAll_126 rfl (lv_at hl 1 rfl) ?_
                refine cm_V (As' := [.int (nI x), .int (nI (mgI P x y k))]) (rest := []) hC (c_X8_get (by omega) (by omega)) mv_X8_get qM_X8_143 ⟨⟨rfl, rfl⟩, Nat.le_of_ble_eq_true rfl, Nat.le_of_ble_eq_true rfl⟩ hK hH hS hA (hp.recv hK hH (i := 0) (by decide) rfl rfl) hl.1 ⟨Nat.zero_le _, Nat.zero_le _⟩ rfl rfl (Nat.le_of_ble_eq_true rfl) dX8_mergeAll_127 (fun H locs hH hS => ?_)
                refine lv_aload_n hx hb dX8_mergeAll_130 rfl (lv_at hl 3 rfl) ?_
                refine g_get hC hK inG8 hH 0 (by decide) rfl rfl 12 (by decide) qF_X8_33 (Or.inl rfl) rfl dX8_mergeAll_131 ?_
                refine lv_iload_n hx hb dX8_mergeAll_134 rfl (lv_at hl 1 rfl) ?_
                refine lv_iload hx hb dX8_mergeAll_135 (lv_at hl 2 rfl) ?_
                refine lv_iadd hx hb dX8_mergeAll_137 ?_
                refine lv_chg (y := nI k) (by rw [nI_add]; congr 1; omega) ?_
                refine lv_aload_n hx hb dX8_mergeAll_138 rfl (lv_at hl 3 rfl) ?_
                refine g_get hC hK inG8 hH 0 (by decide) rfl rfl 9 (by decide) qF_X8_66 (Or.inl rfl) rfl dX8_mergeAll_139 ?_
                refine lv_chg (y := nI (mgS P x y k)) (by rw [e2]) ?_
                refine gN_iast (ct' := mct cy ad P wy (nI (P.kd x)) (P.wh x (mgI P x y k)) (P.re x (mgI P x y k)) (upd (ldI ns (fun i => nI (mgS P x y i)) k) k (nI (mgS P x y k))) (ldL nw (fun i => (mgV P x y i).1) k) (ldD nr (fun i => (mgV P x y i).2) k) fr tt) hC hK hH hS 8 (by decide) rfl k (by omega) rfl mct_8 dX8_mergeAll_142 (fun H locs hH hS => ?_)
                refine lv_aload_n hx hb dX8_mergeAll_143 rfl (lv_at hl 3 rfl) ?_
                refine g_get hC hK inG8 hH 0 (by decide) rfl rfl 13 (by decide) qF_X8_36 (Or.inl rfl) rfl dX8_mergeAll_144 ?_
                refine lv_iload_n hx hb dX8_mergeAll_147 rfl (lv_at hl 1 rfl) ?_
                refine lv_iload hx hb dX8_mergeAll_148 (lv_at hl 2 rfl) ?_
                refine lv_iadd hx hb dX8_mergeAll_150 ?_
                refine lv_chg (y := nI k) (by rw [nI_add]; congr 1; omega) ?_
                refine lv_aload_n hx hb dX8_mergeAll_151 rfl (lv_at hl 3 rfl) ?_
                refine g_get hC hK inG8 hH 0 (by decide) rfl rfl 10 (by decide) qF_X8_69 (Or.inl rfl) rfl dX8_mergeAll_152 ?_
                refine lv_chgl (y := (mgV P x y k).1) (by rw [e3]) ?_
                refine gN_last (ct' := mct cy ad P wy (nI (P.kd x)) (P.wh x (mgI P x y k)) (P.re x (mgI P x y k)) (upd (ldI ns (fun i => nI (mgS P x y i)) k) k (nI (mgS P x y k))) (vp_updL (ldL nw (fun i => (mgV P x y i).1) k) k ((mgV P x y k).1)) (ldD nr (fun i => (mgV P x y i).2) k) fr tt) hC hK hH hS 9 (by decide) rfl k (by omega) rfl mct_9 dX8_mergeAll_155 (fun H locs hH hS => ?_)
                refine lv_aload_n hx hb dX8_mergeAll_156 rfl (lv_at hl 3 rfl) ?_
                refine g_get hC hK inG8 hH 0 (by decide) rfl rfl 14 (by decide) qF_X8_39 (Or.inl rfl) rfl dX8_mergeAll_157 ?_
                refine lv_iload_n hx hb dX8_mergeAll_160 rfl (lv_at hl 1 rfl) ?_
                refine lv_iload hx hb dX8_mergeAll_161 (lv_at hl 2 rfl) ?_
                refine lv_iadd hx hb dX8_mergeAll_163 ?_
                refine lv_chg (y := nI k) (by rw [nI_add]; congr 1; omega) ?_
                refine lv_aload_n hx hb dX8_mergeAll_164 rfl (lv_at hl 3 rfl) ?_
                refine g_get hC hK inG8 hH 0 (by decide) rfl rfl 11 (by decide) qF_X8_73 (Or.inl rfl) rfl dX8_mergeAll_165 ?_
                refine lv_chgd (y := (mgV P x y k).2) (by rw [e3]) ?_
                refine gN_dast (ct' := mct cy ad P wy (nI (P.kd x)) (P.wh x (mgI P x y k)) (P.re x (mgI P x y k)) (upd (ldI ns (fun i => nI (mgS P x y i)) k) k (nI (mgS P x y k))) (vp_updL (ldL nw (fun i => (mgV P x y i).1) k) k ((mgV P x y k).1)) (vf_upd (ldD nr (fun i => (mgV P x y i).2) k) k ((mgV P x y k).2)) fr tt) hC hK hH hS 10 (by decide) rfl k (by omega) rfl mct_10 dX8_mergeAll_168 (fun H locs hH hS => ?_)
                refine lv_iload_n hx hb dX8_mergeAll_169 rfl (lv_at hl 1 rfl) ?_
                refine lv_iload hx hb dX8_mergeAll_170 (lv_at hl 0 rfl) ?_
                refine lv_if_eq (tgt := 179) hx hb dX8_mergeAll_172 (by decide) (fun c_172 => ?_) (fun c_172 => absurd c_172 (by decide))
                refine lv_iconst (v := 1) hx hb dX8_mergeAll_179 (by decide) ?_
                refine lv_iadd hx hb dX8_mergeAll_180 ?_
                refine lv_chg (y := nI (mgI P x y (k + 1))) (by rw [e1]; exact nI_1 _) ?_
                refine lv_istore_n (lv' := [(3, .int (nI (mgI P x y (k + 1)))), (5, .int (0)), (4, .int (nI (k - mgI P x y k))), (0, .ref (ad 0)), (1, .int (nI x)), (2, .int (nI y))]) hx hb dX8_mergeAll_181 rfl hl (by decide) rfl (fun ls hl => ?_)
                refine lv_iload hx hb dX8_mergeAll_182 (lv_at hl 2 rfl) ?_
                refine lv_iload hx hb dX8_mergeAll_184 (lv_at hl 1 rfl) ?_
                refine lv_if_eq (tgt := 193) hx hb dX8_mergeAll_186 (by decide) (fun c_186 => ?_) (fun c_186 => absurd c_186 (by decide))
                refine lv_iconst (v := 0) hx hb dX8_mergeAll_193 (by decide) ?_
                refine lv_iadd hx hb dX8_mergeAll_194 ?_
                refine lv_chg (y := nI ((k + 1) - mgI P x y (k + 1))) (by rw [e1]; rw [Int32.add_zero]; congr 1; omega) ?_
                refine lv_istore (lv' := [(4, .int (nI ((k + 1) - mgI P x y (k + 1)))), (3, .int (nI (mgI P x y (k + 1)))), (5, .int (0)), (0, .ref (ad 0)), (1, .int (nI x)), (2, .int (nI y))]) hx hb dX8_mergeAll_195 hl (by decide) rfl (fun ls hl => ?_)
                refine lv_goto (tgt := 5) hx hb dX8_mergeAll_197 (by decide) ?_
                exact ih_lp (k + 1) (by omega) (by omega) _ _ _  _ _ hH hS ls (lv_sub hl [1, 0, 3, 4, 5] rfl)
              · refine lv_iconst (v := 1) hx hb dX8_mergeAll_102 (by decide) ?_
                refine lv_goto (tgt := 107) hx hb dX8_mergeAll_103 (by decide) ?_
                refine lv_istore (lv' := [(5, .int (1)), (3, .int (nI (mgI P x y k))), (4, .int (nI (k - mgI P x y k))), (0, .ref (ad 0)), (1, .int (nI x)), (2, .int (nI y))]) hx hb dX8_mergeAll_107 hl (by decide) rfl (fun ls hl => ?_)
                have hO : mgO P x y (mgI P x y k) (k - mgI P x y k) = true := by simp [mgO, show ¬ mgI P x y k = P.ln x by omega, show k - mgI P x y k < P.ln y by omega, c_99]
                obtain ⟨e1, e2, e3⟩ := mgI_T hO
                refine lv_iload hx hb dX8_mergeAll_109 (lv_at hl 0 rfl) ?_
                refine lv_if_eq (tgt := 124) hx hb dX8_mergeAll_111 (by decide) (fun c_111 => absurd c_111 (by decide)) (fun c_111 => ?_)
                refine lv_aload_n hx hb dX8_mergeAll_114 rfl (lv_at hl 3 rfl) ?_
                refine lv_iload_n hx hb dX8_mergeAll_115 rfl (lv_at hl 5 rfl) ?_
                refine lv_iload hx hb dX8_mergeAll_116 (lv_at hl 2 rfl) ?_
                refine cm_V (As' := [.int (nI y), .int (nI (k - mgI P x y k))]) (rest := []) hC (c_X8_get (by omega) (by omega)) mv_X8_get qM_X8_143 ⟨⟨rfl, rfl⟩, Nat.le_of_ble_eq_true rfl, Nat.le_of_ble_eq_true rfl⟩ hK hH hS hA (hp.recv hK hH (i := 0) (by decide) rfl rfl) hl.1 ⟨Nat.zero_le _, Nat.zero_le _⟩ rfl rfl (Nat.le_of_ble_eq_true rfl) dX8_mergeAll_118 (fun H locs hH hS => ?_)
                refine lv_goto (tgt := 130) hx hb dX8_mergeAll_121 (by decide) ?_
                refine lv_aload_n hx hb dX8_mergeAll_130 rfl (lv_at hl 3 rfl) ?_
                refine g_get hC hK inG8 hH 0 (by decide) rfl rfl 12 (by decide) qF_X8_33 (Or.inl rfl) rfl dX8_mergeAll_131 ?_
                refine lv_iload_n hx hb dX8_mergeAll_134 rfl (lv_at hl 1 rfl) ?_
                refine lv_iload hx hb dX8_mergeAll_135 (lv_at hl 2 rfl) ?_
                refine lv_iadd hx hb dX8_mergeAll_137 ?_
                refine lv_chg (y := nI k) (by rw [nI_add]; congr 1; omega) ?_
                refine lv_aload_n hx hb dX8_mergeAll_138 rfl (lv_at hl 3 rfl) ?_
                refine g_get hC hK inG8 hH 0 (by decide) rfl rfl 9 (by decide) qF_X8_66 (Or.inl rfl) rfl dX8_mergeAll_139 ?_
                refine lv_chg (y := nI (mgS P x y k)) (by rw [e2]) ?_
                refine gN_iast (ct' := mct cy ad P wy (nI (P.kd y)) (P.wh y (k - mgI P x y k)) (P.re y (k - mgI P x y k)) (upd (ldI ns (fun i => nI (mgS P x y i)) k) k (nI (mgS P x y k))) (ldL nw (fun i => (mgV P x y i).1) k) (ldD nr (fun i => (mgV P x y i).2) k) fr tt) hC hK hH hS 8 (by decide) rfl k (by omega) rfl mct_8 dX8_mergeAll_142 (fun H locs hH hS => ?_)
                refine lv_aload_n hx hb dX8_mergeAll_143 rfl (lv_at hl 3 rfl) ?_
                refine g_get hC hK inG8 hH 0 (by decide) rfl rfl 13 (by decide) qF_X8_36 (Or.inl rfl) rfl dX8_mergeAll_144 ?_
                refine lv_iload_n hx hb dX8_mergeAll_147 rfl (lv_at hl 1 rfl) ?_
                refine lv_iload hx hb dX8_mergeAll_148 (lv_at hl 2 rfl) ?_
                refine lv_iadd hx hb dX8_mergeAll_150 ?_
                refine lv_chg (y := nI k) (by rw [nI_add]; congr 1; omega) ?_
                refine lv_aload_n hx hb dX8_mergeAll_151 rfl (lv_at hl 3 rfl) ?_
                refine g_get hC hK inG8 hH 0 (by decide) rfl rfl 10 (by decide) qF_X8_69 (Or.inl rfl) rfl dX8_mergeAll_152 ?_
                refine lv_chgl (y := (mgV P x y k).1) (by rw [e3]) ?_
                refine gN_last (ct' := mct cy ad P wy (nI (P.kd y)) (P.wh y (k - mgI P x y k)) (P.re y (k - mgI P x y k)) (upd (ldI ns (fun i => nI (mgS P x y i)) k) k (nI (mgS P x y k))) (vp_updL (ldL nw (fun i => (mgV P x y i).1) k) k ((mgV P x y k).1)) (ldD nr (fun i => (mgV P x y i).2) k) fr tt) hC hK hH hS 9 (by decide) rfl k (by omega) rfl mct_9 dX8_mergeAll_155 (fun H locs hH hS => ?_)
                refine lv_aload_n hx hb dX8_mergeAll_156 rfl (lv_at hl 3 rfl) ?_
                refine g_get hC hK inG8 hH 0 (by decide) rfl rfl 14 (by decide) qF_X8_39 (Or.inl rfl) rfl dX8_mergeAll_157 ?_
                refine lv_iload_n hx hb dX8_mergeAll_160 rfl (lv_at hl 1 rfl) ?_
                refine lv_iload hx hb dX8_mergeAll_161 (lv_at hl 2 rfl) ?_
                refine lv_iadd hx hb dX8_mergeAll_163 ?_
                refine lv_chg (y := nI k) (by rw [nI_add]; congr 1; omega) ?_
                refine lv_aload_n hx hb dX8_mergeAll_164 rfl (lv_at hl 3 rfl) ?_
                refine g_get hC hK inG8 hH 0 (by decide) rfl rfl 11 (by decide) qF_X8_73 (Or.inl rfl) rfl dX8_mergeAll_165 ?_
                refine lv_chgd (y := (mgV P x y k).2) (by rw [e3]) ?_
                refine gN_dast (ct' := mct cy ad P wy (nI (P.kd y)) (P.wh y (k - mgI P x y k)) (P.re y (k - mgI P x y k)) (upd (ldI ns (fun i => nI (mgS P x y i)) k) k (nI (mgS P x y k))) (vp_updL (ldL nw (fun i => (mgV P x y i).1) k) k ((mgV P x y k).1)) (vf_upd (ldD nr (fun i => (mgV P x y i).2) k) k ((mgV P x y k).2)) fr tt) hC hK hH hS 10 (by decide) rfl k (by omega) rfl mct_10 dX8_mergeAll_168 (fun H locs hH hS => ?_)
                refine lv_iload_n hx hb dX8_mergeAll_169 rfl (lv_at hl 1 rfl) ?_
                refine lv_iload hx hb dX8_mergeAll_170 (lv_at hl 0 rfl) ?_
                refine lv_if_eq (tgt := 179) hx hb dX8_mergeAll_172 (by decide) (fun c_172 => absurd c_172 (by decide)) (fun c_172 => ?_)
                refine lv_iconst (v := 0) hx hb dX8_mergeAll_175 (by decide) ?_
                refine lv_goto (tgt := 180) hx hb dX8_mergeAll_176 (by decide) ?_
                refine lv_iadd hx hb dX8_mergeAll_180 ?_
                refine lv_chg (y := nI (mgI P x y (k + 1))) (by rw [e1]; exact Int32.add_zero _) ?_
                refine lv_istore_n (lv' := [(3, .int (nI (mgI P x y (k + 1)))), (5, .int (1)), (4, .int (nI (k - mgI P x y k))), (0, .ref (ad 0)), (1, .int (nI x)), (2, .int (nI y))]) hx hb dX8_mergeAll_181 rfl hl (by decide) rfl (fun ls hl => ?_)
                refine lv_iload hx hb dX8_mergeAll_182 (lv_at hl 2 rfl) ?_
                refine lv_iload hx hb dX8_mergeAll_184 (lv_at hl 1 rfl) ?_
                refine lv_if_eq (tgt := 193) hx hb dX8_mergeAll_186 (by decide) (fun c_186 => absurd c_186 (by decide)) (fun c_186 => ?_)
                refine lv_iconst (v := 1) hx hb dX8_mergeAll_189 (by decide) ?_
                refine lv_goto (tgt := 194) hx hb dX8_mergeAll_190 (by decide) ?_
                refine lv_iadd hx hb dX8_mergeAll_194 ?_
                refine lv_chg (y := nI ((k + 1) - mgI P x y (k + 1))) (by rw [e1]; rw [nI_1]; congr 1; omega) ?_
                refine lv_istore (lv' := [(4, .int (nI ((k + 1) - mgI P x y (k + 1)))), (3, .int (nI (mgI P x y (k + 1)))), (5, .int (1)), (0, .ref (ad 0)), (1, .int (nI x)), (2, .int (nI y))]) hx hb dX8_mergeAll_195 hl (by decide) rfl (fun ls hl => ?_)
                refine lv_goto (tgt := 5) hx hb dX8_mergeAll_197 (by decide) ?_
                exact ih_lp (k + 1) (by omega) (by omega) _ _ _  _ _ hH hS ls (lv_sub hl [1, 0, 3, 4, 5] rfl)
          · have c_33 := nc_eq (a := (mgI P x y k)) (b := (P.ln x)) (by omega) (by omega) c_33
            refine lv_iconst (v := 1) hx hb dX8_mergeAll_36 (by decide) ?_
            refine lv_goto (tgt := 41) hx hb dX8_mergeAll_37 (by decide) ?_
            refine lv_istore (lv' := [(5, .int (1)), (3, .int (nI (mgI P x y k))), (4, .int (nI (k - mgI P x y k))), (0, .ref (ad 0)), (1, .int (nI x)), (2, .int (nI y))]) hx hb dX8_mergeAll_41 hl (by decide) rfl (fun ls hl => ?_)
            refine lv_iload hx hb dX8_mergeAll_43 (lv_at hl 0 rfl) ?_
            refine lv_if_ne (tgt := 109) hx hb dX8_mergeAll_45 (by decide) (fun c_45 => ?_) (fun c_45 => absurd c_45 (by decide))
            have hO : mgO P x y (mgI P x y k) (k - mgI P x y k) = true := by simp [mgO, show mgI P x y k = P.ln x by omega]
            obtain ⟨e1, e2, e3⟩ := mgI_T hO
            refine lv_iload hx hb dX8_mergeAll_109 (lv_at hl 0 rfl) ?_
            refine lv_if_eq (tgt := 124) hx hb dX8_mergeAll_111 (by decide) (fun c_111 => absurd c_111 (by decide)) (fun c_111 => ?_)
            refine lv_aload_n hx hb dX8_mergeAll_114 rfl (lv_at hl 3 rfl) ?_
            refine lv_iload_n hx hb dX8_mergeAll_115 rfl (lv_at hl 5 rfl) ?_
            refine lv_iload hx hb dX8_mergeAll_116 (lv_at hl 2 rfl) ?_
            refine cm_V (As' := [.int (nI y), .int (nI (k - mgI P x y k))]) (rest := []) hC (c_X8_get (by omega) (by omega)) mv_X8_get qM_X8_143 ⟨⟨rfl, rfl⟩, Nat.le_of_ble_eq_true rfl, Nat.le_of_ble_eq_true rfl⟩ hK hH hS hA (hp.recv hK hH (i := 0) (by decide) rfl rfl) hl.1 ⟨Nat.zero_le _, Nat.zero_le _⟩ rfl rfl (Nat.le_of_ble_eq_true rfl) dX8_mergeAll_118 (fun H locs hH hS => ?_)
            refine lv_goto (tgt := 130) hx hb dX8_mergeAll_121 (by decide) ?_
            refine lv_aload_n hx hb dX8_mergeAll_130 rfl (lv_at hl 3 rfl) ?_
            refine g_get hC hK inG8 hH 0 (by decide) rfl rfl 12 (by decide) qF_X8_33 (Or.inl rfl) rfl dX8_mergeAll_131 ?_
            refine lv_iload_n hx hb dX8_mergeAll_134 rfl (lv_at hl 1 rfl) ?_
            refine lv_iload hx hb dX8_mergeAll_135 (lv_at hl 2 rfl) ?_
            refine lv_iadd hx hb dX8_mergeAll_137 ?_
            refine lv_chg (y := nI k) (by rw [nI_add]; congr 1; omega) ?_
            refine lv_aload_n hx hb dX8_mergeAll_138 rfl (lv_at hl 3 rfl) ?_
            refine g_get hC hK inG8 hH 0 (by decide) rfl rfl 9 (by decide) qF_X8_66 (Or.inl rfl) rfl dX8_mergeAll_139 ?_
            refine lv_chg (y := nI (mgS P x y k)) (by rw [e2]) ?_
            refine gN_iast (ct' := mct cy ad P wy (nI (P.kd y)) (P.wh y (k - mgI P x y k)) (P.re y (k - mgI P x y k)) (upd (ldI ns (fun i => nI (mgS P x y i)) k) k (nI (mgS P x y k))) (ldL nw (fun i => (mgV P x y i).1) k) (ldD nr (fun i => (mgV P x y i).2) k) fr tt) hC hK hH hS 8 (by decide) rfl k (by omega) rfl mct_8 dX8_mergeAll_142 (fun H locs hH hS => ?_)
            refine lv_aload_n hx hb dX8_mergeAll_143 rfl (lv_at hl 3 rfl) ?_
            refine g_get hC hK inG8 hH 0 (by decide) rfl rfl 13 (by decide) qF_X8_36 (Or.inl rfl) rfl dX8_mergeAll_144 ?_
            refine lv_iload_n hx hb dX8_mergeAll_147 rfl (lv_at hl 1 rfl) ?_
            refine lv_iload hx hb dX8_mergeAll_148 (lv_at hl 2 rfl) ?_
            refine lv_iadd hx hb dX8_mergeAll_150 ?_
            refine lv_chg (y := nI k) (by rw [nI_add]; congr 1; omega) ?_
            refine lv_aload_n hx hb dX8_mergeAll_151 rfl (lv_at hl 3 rfl) ?_
            refine g_get hC hK inG8 hH 0 (by decide) rfl rfl 10 (by decide) qF_X8_69 (Or.inl rfl) rfl dX8_mergeAll_152 ?_
            refine lv_chgl (y := (mgV P x y k).1) (by rw [e3]) ?_
            refine gN_last (ct' := mct cy ad P wy (nI (P.kd y)) (P.wh y (k - mgI P x y k)) (P.re y (k - mgI P x y k)) (upd (ldI ns (fun i => nI (mgS P x y i)) k) k (nI (mgS P x y k))) (vp_updL (ldL nw (fun i => (mgV P x y i).1) k) k ((mgV P x y k).1)) (ldD nr (fun i => (mgV P x y i).2) k) fr tt) hC hK hH hS 9 (by decide) rfl k (by omega) rfl mct_9 dX8_mergeAll_155 (fun H locs hH hS => ?_)
            refine lv_aload_n hx hb dX8_mergeAll_156 rfl (lv_at hl 3 rfl) ?_
            refine g_get hC hK inG8 hH 0 (by decide) rfl rfl 14 (by decide) qF_X8_39 (Or.inl rfl) rfl dX8_mergeAll_157 ?_
            refine lv_iload_n hx hb dX8_mergeAll_160 rfl (lv_at hl 1 rfl) ?_
            refine lv_iload hx hb dX8_mergeAll_161 (lv_at hl 2 rfl) ?_
            refine lv_iadd hx hb dX8_mergeAll_163 ?_
            refine lv_chg (y := nI k) (by rw [nI_add]; congr 1; omega) ?_
            refine lv_aload_n hx hb dX8_mergeAll_164 rfl (lv_at hl 3 rfl) ?_
            refine g_get hC hK inG8 hH 0 (by decide) rfl rfl 11 (by decide) qF_X8_73 (Or.inl rfl) rfl dX8_mergeAll_165 ?_
            refine lv_chgd (y := (mgV P x y k).2) (by rw [e3]) ?_
            refine gN_dast (ct' := mct cy ad P wy (nI (P.kd y)) (P.wh y (k - mgI P x y k)) (P.re y (k - mgI P x y k)) (upd (ldI ns (fun i => nI (mgS P x y i)) k) k (nI (mgS P x y k))) (vp_updL (ldL nw (fun i => (mgV P x y i).1) k) k ((mgV P x y k).1)) (vf_upd (ldD nr (fun i => (mgV P x y i).2) k) k ((mgV P x y k).2)) fr tt) hC hK hH hS 10 (by decide) rfl k (by omega) rfl mct_10 dX8_mergeAll_168 (fun H locs hH hS => ?_)
            refine lv_iload_n hx hb dX8_mergeAll_169 rfl (lv_at hl 1 rfl) ?_
            refine lv_iload hx hb dX8_mergeAll_170 (lv_at hl 0 rfl) ?_
            refine lv_if_eq (tgt := 179) hx hb dX8_mergeAll_172 (by decide) (fun c_172 => absurd c_172 (by decide)) (fun c_172 => ?_)
            refine lv_iconst (v := 0) hx hb dX8_mergeAll_175 (by decide) ?_
            refine lv_goto (tgt := 180) hx hb dX8_mergeAll_176 (by decide) ?_
            refine lv_iadd hx hb dX8_mergeAll_180 ?_
            refine lv_chg (y := nI (mgI P x y (k + 1))) (by rw [e1]; exact Int32.add_zero _) ?_
            refine lv_istore_n (lv' := [(3, .int (nI (mgI P x y (k + 1)))), (5, .int (1)), (4, .int (nI (k - mgI P x y k))), (0, .ref (ad 0)), (1, .int (nI x)), (2, .int (nI y))]) hx hb dX8_mergeAll_181 rfl hl (by decide) rfl (fun ls hl => ?_)
            refine lv_iload hx hb dX8_mergeAll_182 (lv_at hl 2 rfl) ?_
            refine lv_iload hx hb dX8_mergeAll_184 (lv_at hl 1 rfl) ?_
            refine lv_if_eq (tgt := 193) hx hb dX8_mergeAll_186 (by decide) (fun c_186 => absurd c_186 (by decide)) (fun c_186 => ?_)
            refine lv_iconst (v := 1) hx hb dX8_mergeAll_189 (by decide) ?_
            refine lv_goto (tgt := 194) hx hb dX8_mergeAll_190 (by decide) ?_
            refine lv_iadd hx hb dX8_mergeAll_194 ?_
            refine lv_chg (y := nI ((k + 1) - mgI P x y (k + 1))) (by rw [e1]; rw [nI_1]; congr 1; omega) ?_
            refine lv_istore (lv' := [(4, .int (nI ((k + 1) - mgI P x y (k + 1)))), (3, .int (nI (mgI P x y (k + 1)))), (5, .int (1)), (0, .ref (ad 0)), (1, .int (nI x)), (2, .int (nI y))]) hx hb dX8_mergeAll_195 hl (by decide) rfl (fun ls hl => ?_)
            refine lv_goto (tgt := 5) hx hb dX8_mergeAll_197 (by decide) ?_
            exact ih_lp (k + 1) (by omega) (by omega) _ _ _  _ _ hH hS ls (lv_sub hl [1, 0, 3, 4, 5] rfl)
  exact lp ((P.ln x + P.ln y) + 1) 0 (by omega) (by omega) _ _ _  _ _ hH hS ls (lv_sub hl [1, 0, 2, 3, 4] rfl)
theorem mv_X8_rankOf : mvok RX8 yX8_rankOf cX8_rankOf 4 (some .long) 1 := ⟨qK_X8_rankOf, qI_X8_rankOf, qSel_X8_X8_rankOf, qInit_X8, by decide +kernel⟩
set_option maxHeartbeats 4000000 in
set_option maxRecDepth 100000 in
theorem c_X8_rankOf {l : Launch} {D : va_G} {cy : Nat → ClassId} {ad : Nat → Nat} {P : AS} {wy : Int32} {so : Int32} {w : Int64} {r : UInt64} {ns : Nat → Int32} {nw : Nat → Int64} {nr : Nat → UInt64} {fr : Nat → Int32} {tt : Nat → Int32} {q : Nat} (hq : q ≤ 513) (hw : WF P) : CM l yX8_rankOf cX8_rankOf 4 (some .long) (rm_ 1 21) D cy 13 ad [.ref (ad 0), .long (lN q)] (mct cy ad P wy so w r ns nw nr fr tt) (some (.long (rank P q))) (mct cy ad P wy so w r ns nw nr fr tt) := by
  refine CM.start (by decide) (Nat.le_of_ble_eq_true rfl) ?_
  intro p_ e_ s m_ below meth cd A ls hC hr hlk hin hK hA hH hl
  obtain ⟨hx, hb, hml, hown, hts⟩ := id hC
  have hS : va_S A s.heap s.heap [] := va_S.rf
  have hl : lv_has ls 4 [(0, .ref (ad 0)), (1, .long (lN q))] := hl
  rcases co_cases q with rfl | ⟨x, rfl⟩
  · refine lv_lload_n hx hb dX8_rankOf_0 rfl (lv_at hl 1 rfl) ?_
    refine lv_lconst (v := 0) hx hb dX8_rankOf_1 (by decide) ?_
    refine W.lcmp hx hb dX8_rankOf_2 ?_
    refine lv_if_ne (tgt := 10) hx hb dX8_rankOf_3 (by decide) (fun c_3 => absurd c_3 (by decide)) (fun c_3 => ?_)
    refine lv_ldc2 hx hb hown (hts _ qKL_X8_170) dX8_rankOf_6 ?_
    exact cm_rl hC hr hlk (rfl) (rfl) hH hS dX8_rankOf_9
  · refine lv_lload_n hx hb dX8_rankOf_0 rfl (lv_at hl 1 rfl) ?_
    refine lv_lconst (v := 0) hx hb dX8_rankOf_1 (by decide) ?_
    refine W.lcmp hx hb dX8_rankOf_2 ?_
    refine lv_if_ne (tgt := 10) hx hb dX8_rankOf_3 (by decide) (fun c_3 => ?_) (fun c_3 => absurd (lc_eqT c_3) (fun h => absurd ((lN_z (by omega)).mp h) (by omega)))
    refine lv_lload_n hx hb dX8_rankOf_10 rfl (lv_at hl 1 rfl) ?_
    refine lv_l2i hx hb dX8_rankOf_11 rfl ?_
    refine lv_iconst (v := 1) hx hb dX8_rankOf_12 (by decide) ?_
    refine lv_isub hx hb dX8_rankOf_13 ?_
    have hkx := hw.1 x
    refine lv_chg (y := nI x) (by rw [lN_i, nI_pred]) ?_
    refine lv_istore_n (lv' := [(3, .int (nI x)), (0, .ref (ad 0)), (1, .long (lN (x + 1)))]) hx hb dX8_rankOf_14 rfl hl (by decide) rfl (fun ls hl => ?_)
    refine lv_aload_n hx hb dX8_rankOf_15 rfl (lv_at hl 1 rfl) ?_
    refine lv_iload_n hx hb dX8_rankOf_16 rfl (lv_at hl 0 rfl) ?_
    refine cm_V (As' := [.int (nI x)]) (rest := []) hC (c_X8_isRow (by omega) hw) mv_X8_isRow qM_X8_60 ⟨⟨rfl, rfl⟩, Nat.le_of_ble_eq_true rfl, Nat.le_of_ble_eq_true rfl⟩ hK hH hS hA (hp.recv hK hH (i := 0) (by decide) rfl rfl) hl.1 ⟨Nat.zero_le _, Nat.zero_le _⟩ rfl rfl (Nat.le_of_ble_eq_true rfl) dX8_rankOf_17 (fun H locs hH hS => ?_)
    refine lv_if_eq (tgt := 33) hx hb dX8_rankOf_20 (by decide) (fun c_20 => ?_) (fun c_20 => ?_)
    · have c_20 := b2d_f c_20
      refine lv_aload_n hx hb dX8_rankOf_33 rfl (lv_at hl 1 rfl) ?_
      refine g_get hC hK inG8 hH 0 (by decide) rfl rfl 3 (by decide) qF_X8_19 (Or.inl rfl) rfl dX8_rankOf_34 ?_
      refine lv_iload_n hx hb dX8_rankOf_37 rfl (lv_at hl 0 rfl) ?_
      refine gN_iald hC hK hH 4 (by decide) rfl x (by omega) dX8_rankOf_38 ?_
      refine lv_i2l hx hb dX8_rankOf_39 rfl ?_
      exact cm_rl hC hr hlk (by unfold rank; rw [if_neg (by omega)]; show _ = if P.kd x < 12 then _ else _; first | rw [if_pos (by omega)]; rfl | rw [if_neg (by omega)]; rfl) (rfl) hH hS dX8_rankOf_40
    · have c_20 := b2d_t c_20
      refine lv_aload_n hx hb dX8_rankOf_23 rfl (lv_at hl 1 rfl) ?_
      refine g_get hC hK inG8 hH 0 (by decide) rfl rfl 2 (by decide) qF_X8_16 (Or.inl rfl) rfl dX8_rankOf_24 ?_
      refine lv_iload_n hx hb dX8_rankOf_27 rfl (lv_at hl 0 rfl) ?_
      refine gN_iald hC hK hH 3 (by decide) rfl x (by omega) dX8_rankOf_28 ?_
      refine lv_i2l hx hb dX8_rankOf_29 rfl ?_
      refine lv_goto (tgt := 40) hx hb dX8_rankOf_30 (by decide) ?_
      exact cm_rl hC hr hlk (by unfold rank; rw [if_neg (by omega)]; show _ = if P.kd x < 12 then _ else _; first | rw [if_pos (by omega)]; rfl | rw [if_neg (by omega)]; rfl) (rfl) hH hS dX8_rankOf_40
theorem mv_X8_isBefore : mvok RX8 yX8_isBefore cX8_isBefore 4 (some .boolean) 3 := ⟨qK_X8_isBefore, qI_X8_isBefore, qSel_X8_X8_isBefore, qInit_X8, by decide +kernel⟩
set_option maxHeartbeats 4000000 in
set_option maxRecDepth 100000 in
theorem c_X8_isBefore {l : Launch} {D : va_G} {cy : Nat → ClassId} {ad : Nat → Nat} {P : AS} {wy : Int32} {so : Int32} {w : Int64} {r : UInt64} {ns : Nat → Int32} {nw : Nat → Int64} {nr : Nat → UInt64} {fr : Nat → Int32} {tt : Nat → Int32} {t i j : Nat} (ht : t < 513) (hi : i < 24) (hj : j < 24) (hw : WF P) (h12 : P.kd t < 12) : CX l yX8_isBefore cX8_isBefore 4 (some .boolean) (rm_ 2 54) D cy 13 ad [.ref (ad 0), .int (nI t), .int (nI i), .int (nI j)] (mct cy ad P wy so w r ns nw nr fr tt) (mpoK cy ad (some (.int (b2i (bef P t i j)))) P wy ns nw nr fr tt) := by
  refine CX.start (by decide) (Nat.le_of_ble_eq_true rfl) ?_
  intro p_ e_ s m_ below meth cd A ls hC hr hlk hin hK hA hH hl
  obtain ⟨hx, hb, hml, hown, hts⟩ := id hC
  have hS : va_S A s.heap s.heap [] := va_S.rf
  have hl : lv_has ls 4 [(0, .ref (ad 0)), (1, .int (nI t)), (2, .int (nI i)), (3, .int (nI j))] := hl
  refine lv_aload_n hx hb dX8_isBefore_0 rfl (lv_at hl 0 rfl) ?_
  refine lv_iload_n hx hb dX8_isBefore_1 rfl (lv_at hl 1 rfl) ?_
  refine cm_V (As' := [.int (nI t)]) (rest := []) hC (c_X8_isPlain (by omega) hw) mv_X8_isPlain qM_X8_91 ⟨⟨rfl, rfl⟩, Nat.le_of_ble_eq_true rfl, Nat.le_of_ble_eq_true rfl⟩ hK hH hS hA (hp.recv hK hH (i := 0) (by decide) rfl rfl) hl.1 ⟨Nat.zero_le _, Nat.zero_le _⟩ rfl rfl (Nat.le_of_ble_eq_true rfl) dX8_isBefore_2 (fun H locs hH hS => ?_)
  refine lv_if_ne (tgt := 48) hx hb dX8_isBefore_5 (by decide) (fun c_5 => ?_) (fun c_5 => ?_)
  · have c_5 := b2d_t c_5
    refine lv_aload_n hx hb dX8_isBefore_48 rfl (lv_at hl 0 rfl) ?_
    refine lv_iload_n hx hb dX8_isBefore_49 rfl (lv_at hl 1 rfl) ?_
    refine lv_iload_n hx hb dX8_isBefore_50 rfl (lv_at hl 2 rfl) ?_
    refine cm_V (As' := [.int (nI t), .int (nI i)]) (rest := []) hC (c_X8_get (by omega) (by omega)) mv_X8_get qM_X8_143 ⟨⟨rfl, rfl⟩, Nat.le_of_ble_eq_true rfl, Nat.le_of_ble_eq_true rfl⟩ hK hH hS hA (hp.recv hK hH (i := 0) (by decide) rfl rfl) hl.1 ⟨Nat.zero_le _, Nat.zero_le _⟩ rfl rfl (Nat.le_of_ble_eq_true rfl) dX8_isBefore_51 (fun H locs hH hS => ?_)
    refine lv_aload_n hx hb dX8_isBefore_54 rfl (lv_at hl 0 rfl) ?_
    refine lv_aload_n hx hb dX8_isBefore_55 rfl (lv_at hl 0 rfl) ?_
    refine g_get hC hK inG8 hH 0 (by decide) rfl rfl 1 (by decide) qF_X8_13 (Or.inl rfl) rfl dX8_isBefore_56 ?_
    refine lv_iload_n hx hb dX8_isBefore_59 rfl (lv_at hl 1 rfl) ?_
    refine gN_iald hC hK hH 2 (by decide) rfl t (by omega) dX8_isBefore_60 ?_
    refine lv_aload_n hx hb dX8_isBefore_61 rfl (lv_at hl 0 rfl) ?_
    refine g_get hC hK inG8 hH 0 (by decide) rfl rfl 4 (by decide) qF_X8_22 (Or.inl rfl) rfl dX8_isBefore_62 ?_
    refine lv_bipush (v := 24) hx hb dX8_isBefore_65 (by decide) ?_
    refine lv_iload_n hx hb dX8_isBefore_67 rfl (lv_at hl 1 rfl) ?_
    refine lv_imul hx hb dX8_isBefore_68 ?_
    refine lv_iload_n hx hb dX8_isBefore_69 rfl (lv_at hl 3 rfl) ?_
    refine lv_iadd hx hb dX8_isBefore_70 ?_
    refine mr_wh hC hK hH t j (by omega) dX8_isBefore_71 ?_
    refine lv_aload_n hx hb dX8_isBefore_72 rfl (lv_at hl 0 rfl) ?_
    refine g_get hC hK inG8 hH 0 (by decide) rfl rfl 5 (by decide) qF_X8_26 (Or.inl rfl) rfl dX8_isBefore_73 ?_
    refine lv_bipush (v := 24) hx hb dX8_isBefore_76 (by decide) ?_
    refine lv_iload_n hx hb dX8_isBefore_78 rfl (lv_at hl 1 rfl) ?_
    refine lv_imul hx hb dX8_isBefore_79 ?_
    refine lv_iload_n hx hb dX8_isBefore_80 rfl (lv_at hl 3 rfl) ?_
    refine lv_iadd hx hb dX8_isBefore_81 ?_
    refine mr_re hC hK hH t j (by omega) dX8_isBefore_82 ?_
    refine cm_V (As' := [.int (nI (P.kd t)), .long (P.wh t j), .double (P.re t j)]) (rest := []) hC (c_X8_against (by omega) (by omega)) mv_X8_against qM_X8_163 ⟨⟨rfl, rfl⟩, Nat.le_of_ble_eq_true rfl, Nat.le_of_ble_eq_true rfl⟩ hK hH hS hA (hp.recv hK hH (i := 0) (by decide) rfl rfl) hl.1 ⟨Nat.zero_le _, Nat.zero_le _⟩ rfl rfl (Nat.le_of_ble_eq_true rfl) dX8_isBefore_83 (fun H locs hH hS => ?_)
    refine lv_iconst (v := (-1)) hx hb dX8_isBefore_86 (by decide) ?_
    refine lv_icmp_ne (tgt := 94) hx hb dX8_isBefore_87 (by decide) (fun c_87 => ?_) (fun c_87 => ?_)
    · refine lv_iconst (v := 0) hx hb dX8_isBefore_94 (by decide) ?_
      exact cx_rz hC hr hlk (by first | exact Or.inl rfl | exact Or.inr rfl | exact b2i_01 _) ⟨congrArg (fun z => some (Value.int z)) (by rw [bef, if_pos c_5]; first | exact b2d_1 (by assumption) | exact b2d_0 (by assumption)), _, _, _, rfl⟩ hH hS dX8_isBefore_95
    · refine lv_iconst (v := 1) hx hb dX8_isBefore_90 (by decide) ?_
      refine lv_goto (tgt := 95) hx hb dX8_isBefore_91 (by decide) ?_
      exact cx_rz hC hr hlk (by first | exact Or.inl rfl | exact Or.inr rfl | exact b2i_01 _) ⟨congrArg (fun z => some (Value.int z)) (by rw [bef, if_pos c_5]; first | exact b2d_1 (by assumption) | exact b2d_0 (by assumption)), _, _, _, rfl⟩ hH hS dX8_isBefore_95
  · have c_5 := b2d_f c_5
    have hn513 := hw.2.2.1
    obtain ⟨qa, h9qa, h8qa⟩ := hw.2.2.2.2 t i (by omega)
    obtain ⟨qb, h9qb, h8qb⟩ := hw.2.2.2.2 t j (by omega)
    refine lv_aload_n hx hb dX8_isBefore_8 rfl (lv_at hl 0 rfl) ?_
    refine lv_aload_n hx hb dX8_isBefore_9 rfl (lv_at hl 0 rfl) ?_
    refine g_get hC hK inG8 hH 0 (by decide) rfl rfl 4 (by decide) qF_X8_22 (Or.inl rfl) rfl dX8_isBefore_10 ?_
    refine lv_bipush (v := 24) hx hb dX8_isBefore_13 (by decide) ?_
    refine lv_iload_n hx hb dX8_isBefore_15 rfl (lv_at hl 1 rfl) ?_
    refine lv_imul hx hb dX8_isBefore_16 ?_
    refine lv_iload_n hx hb dX8_isBefore_17 rfl (lv_at hl 2 rfl) ?_
    refine lv_iadd hx hb dX8_isBefore_18 ?_
    refine mr_wh hC hK hH t i (by omega) dX8_isBefore_19 ?_
    refine lv_chgl (y := lN qa) (h9qa) ?_
    refine cm_V (As' := [.long (lN qa)]) (rest := []) hC (c_X8_rankOf (q := qa) (by omega) hw) mv_X8_rankOf qM_X8_172 ⟨⟨rfl, rfl⟩, Nat.le_of_ble_eq_true rfl, Nat.le_of_ble_eq_true rfl⟩ hK hH hS hA (hp.recv hK hH (i := 0) (by decide) rfl rfl) hl.1 ⟨Nat.zero_le _, Nat.zero_le _⟩ rfl rfl (Nat.le_of_ble_eq_true rfl) dX8_isBefore_20 (fun H locs hH hS => ?_)
    refine lv_aload_n hx hb dX8_isBefore_23 rfl (lv_at hl 0 rfl) ?_
    refine lv_aload_n hx hb dX8_isBefore_24 rfl (lv_at hl 0 rfl) ?_
    refine g_get hC hK inG8 hH 0 (by decide) rfl rfl 4 (by decide) qF_X8_22 (Or.inl rfl) rfl dX8_isBefore_25 ?_
    refine lv_bipush (v := 24) hx hb dX8_isBefore_28 (by decide) ?_
    refine lv_iload_n hx hb dX8_isBefore_30 rfl (lv_at hl 1 rfl) ?_
    refine lv_imul hx hb dX8_isBefore_31 ?_
    refine lv_iload_n hx hb dX8_isBefore_32 rfl (lv_at hl 3 rfl) ?_
    refine lv_iadd hx hb dX8_isBefore_33 ?_
    refine mr_wh hC hK hH t j (by omega) dX8_isBefore_34 ?_
    refine lv_chgl (y := lN qb) (h9qb) ?_
    refine cm_V (As' := [.long (lN qb)]) (rest := [.long (rank P qa)]) hC (c_X8_rankOf (q := qb) (by omega) hw) mv_X8_rankOf qM_X8_172 ⟨⟨rfl, rfl⟩, Nat.le_of_ble_eq_true rfl, Nat.le_of_ble_eq_true rfl⟩ hK hH hS hA (hp.recv hK hH (i := 0) (by decide) rfl rfl) hl.1 ⟨Nat.zero_le _, Nat.zero_le _⟩ rfl rfl (Nat.le_of_ble_eq_true rfl) dX8_isBefore_35 (fun H locs hH hS => ?_)
    refine W.lcmp hx hb dX8_isBefore_38 ?_
    refine lv_if_ge (tgt := 46) hx hb dX8_isBefore_39 (by decide) (fun c_39 => ?_) (fun c_39 => ?_)
    · have c_39 := lc_geT c_39
      refine lv_iconst (v := 0) hx hb dX8_isBefore_46 (by decide) ?_
      exact cx_rz hC hr hlk (by first | exact Or.inl rfl | exact Or.inr rfl | exact b2i_01 _) ⟨congrArg (fun z => some (Value.int z)) (by rw [bef, if_neg c_5, h9qa, h9qb, lN_clamp (n := qa) (by omega), lN_clamp (n := qb) (by omega)]; first | exact b2d_1 (by assumption) | exact b2d_0 (by assumption)), _, _, _, rfl⟩ hH hS dX8_isBefore_47
    · have c_39 := lc_geF c_39
      refine lv_iconst (v := 1) hx hb dX8_isBefore_42 (by decide) ?_
      refine lv_goto (tgt := 47) hx hb dX8_isBefore_43 (by decide) ?_
      exact cx_rz hC hr hlk (by first | exact Or.inl rfl | exact Or.inr rfl | exact b2i_01 _) ⟨congrArg (fun z => some (Value.int z)) (by rw [bef, if_neg c_5, h9qa, h9qb, lN_clamp (n := qa) (by omega), lN_clamp (n := qb) (by omega)]; first | exact b2d_1 (by assumption) | exact b2d_0 (by assumption)), _, _, _, rfl⟩ hH hS dX8_isBefore_47
theorem mv_X8_swap : mvok RX8 yX8_swap cX8_swap 4 none 3 := ⟨qK_X8_swap, qI_X8_swap, qSel_X8_X8_swap, qInit_X8, by decide +kernel⟩
set_option maxHeartbeats 4000000 in
set_option maxRecDepth 100000 in
theorem c_X8_swap {l : Launch} {D : va_G} {cy : Nat → ClassId} {ad : Nat → Nat} {P : AS} {wy : Int32} {so : Int32} {w : Int64} {r : UInt64} {ns : Nat → Int32} {nw : Nat → Int64} {nr : Nat → UInt64} {fr : Nat → Int32} {tt : Nat → Int32} {t i j : Nat} (ht : t < 513) (hi : i < 24) (hj : j < 24) (hij : i ≠ j) : CM l yX8_swap cX8_swap 4 none (rm_ 1 22) D cy 13 ad [.ref (ad 0), .int (nI t), .int (nI i), .int (nI j)] (mct cy ad P wy so w r ns nw nr fr tt) none (mct cy ad (swp P t i j) wy (nI (P.kd t)) (P.wh t i) (P.re t i) ns nw nr fr tt) := by
  refine CM.start (by decide) (Nat.le_of_ble_eq_true rfl) ?_
  intro p_ e_ s m_ below meth cd A ls hC hr hlk hin hK hA hH hl
  obtain ⟨hx, hb, hml, hown, hts⟩ := id hC
  have hS : va_S A s.heap s.heap [] := va_S.rf
  have hl : lv_has ls 4 [(0, .ref (ad 0)), (1, .int (nI t)), (2, .int (nI i)), (3, .int (nI j))] := hl
  refine lv_aload_n hx hb dX8_swap_0 rfl (lv_at hl 0 rfl) ?_
  refine lv_iload_n hx hb dX8_swap_1 rfl (lv_at hl 1 rfl) ?_
  refine lv_iload_n hx hb dX8_swap_2 rfl (lv_at hl 2 rfl) ?_
  refine cm_V (As' := [.int (nI t), .int (nI i)]) (rest := []) hC (c_X8_get (by omega) (by omega)) mv_X8_get qM_X8_143 ⟨⟨rfl, rfl⟩, Nat.le_of_ble_eq_true rfl, Nat.le_of_ble_eq_true rfl⟩ hK hH hS hA (hp.recv hK hH (i := 0) (by decide) rfl rfl) hl.1 ⟨Nat.zero_le _, Nat.zero_le _⟩ rfl rfl (Nat.le_of_ble_eq_true rfl) dX8_swap_3 (fun H locs hH hS => ?_)
  refine lv_aload_n hx hb dX8_swap_6 rfl (lv_at hl 0 rfl) ?_
  refine g_get hC hK inG8 hH 0 (by decide) rfl rfl 4 (by decide) qF_X8_22 (Or.inl rfl) rfl dX8_swap_7 ?_
  refine lv_bipush (v := 24) hx hb dX8_swap_10 (by decide) ?_
  refine lv_iload_n hx hb dX8_swap_12 rfl (lv_at hl 1 rfl) ?_
  refine lv_imul hx hb dX8_swap_13 ?_
  refine lv_iload_n hx hb dX8_swap_14 rfl (lv_at hl 2 rfl) ?_
  refine lv_iadd hx hb dX8_swap_15 ?_
  refine lv_aload_n hx hb dX8_swap_16 rfl (lv_at hl 0 rfl) ?_
  refine g_get hC hK inG8 hH 0 (by decide) rfl rfl 4 (by decide) qF_X8_22 (Or.inl rfl) rfl dX8_swap_17 ?_
  refine lv_bipush (v := 24) hx hb dX8_swap_20 (by decide) ?_
  refine lv_iload_n hx hb dX8_swap_22 rfl (lv_at hl 1 rfl) ?_
  refine lv_imul hx hb dX8_swap_23 ?_
  refine lv_iload_n hx hb dX8_swap_24 rfl (lv_at hl 3 rfl) ?_
  refine lv_iadd hx hb dX8_swap_25 ?_
  refine mr_wh hC hK hH t j (by omega) dX8_swap_26 ?_
  refine lv_chgl (y := P.wh t j) (rfl) ?_
  refine mr_whs hC hK hH hS t i (by omega) dX8_swap_27 (fun H locs hH hS => ?_)
  refine lv_aload_n hx hb dX8_swap_28 rfl (lv_at hl 0 rfl) ?_
  refine g_get hC hK inG8 hH 0 (by decide) rfl rfl 5 (by decide) qF_X8_26 (Or.inl rfl) rfl dX8_swap_29 ?_
  refine lv_bipush (v := 24) hx hb dX8_swap_32 (by decide) ?_
  refine lv_iload_n hx hb dX8_swap_34 rfl (lv_at hl 1 rfl) ?_
  refine lv_imul hx hb dX8_swap_35 ?_
  refine lv_iload_n hx hb dX8_swap_36 rfl (lv_at hl 2 rfl) ?_
  refine lv_iadd hx hb dX8_swap_37 ?_
  refine lv_aload_n hx hb dX8_swap_38 rfl (lv_at hl 0 rfl) ?_
  refine g_get hC hK inG8 hH 0 (by decide) rfl rfl 5 (by decide) qF_X8_26 (Or.inl rfl) rfl dX8_swap_39 ?_
  refine lv_bipush (v := 24) hx hb dX8_swap_42 (by decide) ?_
  refine lv_iload_n hx hb dX8_swap_44 rfl (lv_at hl 1 rfl) ?_
  refine lv_imul hx hb dX8_swap_45 ?_
  refine lv_iload_n hx hb dX8_swap_46 rfl (lv_at hl 3 rfl) ?_
  refine lv_iadd hx hb dX8_swap_47 ?_
  refine mr_re hC hK hH t j (by omega) dX8_swap_48 ?_
  refine lv_chgd (y := P.re t j) (rfl) ?_
  refine mr_res hC hK hH hS t i (by omega) dX8_swap_49 (fun H locs hH hS => ?_)
  refine lv_aload_n hx hb dX8_swap_50 rfl (lv_at hl 0 rfl) ?_
  refine lv_iload_n hx hb dX8_swap_51 rfl (lv_at hl 1 rfl) ?_
  refine lv_iload_n hx hb dX8_swap_52 rfl (lv_at hl 3 rfl) ?_
  refine cm_V (As' := [.int (nI t), .int (nI j)]) (rest := []) hC (c_X8_set (by omega) (by omega)) mv_X8_set qM_X8_135 ⟨⟨rfl, rfl⟩, Nat.le_of_ble_eq_true rfl, Nat.le_of_ble_eq_true rfl⟩ hK hH hS hA (hp.recv hK hH (i := 0) (by decide) rfl rfl) hl.1 ⟨Nat.zero_le _, Nat.zero_le _⟩ rfl rfl (Nat.le_of_ble_eq_true rfl) dX8_swap_53 (fun H locs hH hS => ?_)
  exact cm_rv hC hr hlk (rfl) hH hS dX8_swap_56
theorem mv_X8_takeOut : mvok RX8 yX8_takeOut cX8_takeOut 3 none 1 := ⟨qK_X8_takeOut, qI_X8_takeOut, qSel_X8_X8_takeOut, qInit_X8, by decide +kernel⟩
set_option maxHeartbeats 4000000 in
set_option maxRecDepth 100000 in
theorem c_X8_takeOut {l : Launch} {D : va_G} {cy : Nat → ClassId} {ad : Nat → Nat} {P : AS} {wy : Int32} {so : Int32} {w : Int64} {r : UInt64} {ns : Nat → Int32} {nw : Nat → Int64} {nr : Nat → UInt64} {fr : Nat → Int32} {tt : Nat → Int32} {t : Nat} (ht : t < 513) (hw : WF P) : CM l yX8_takeOut cX8_takeOut 3 none (rm_ 0 0) D cy 13 ad [.ref (ad 0), .int (nI t)] (mct cy ad P wy so w r ns nw nr fr tt) none (mct cy ad P wy so w r ns (ldL nw (P.wh t) (P.ln t)) (ldD nr (P.re t) (P.ln t)) fr tt) := by
  have hlt := hw.2.1 t
  refine CM.startQ (by decide) (Nat.le_of_ble_eq_true rfl) ?_
  intro p_ e_ s m_ args_ below meth cd A ls Q hQ hC hr hlk hK hA hH hl
  obtain ⟨hx, hb, hml, hown, hts⟩ := id hC
  have hS : va_S A s.heap s.heap [] := va_S.rf
  have hl : lv_has ls 3 [(0, .ref (ad 0)), (1, .int (nI t))] := hl
  refine lv_iconst (v := 0) hx hb dX8_takeOut_0 (by decide) ?_
  refine lv_istore_n (lv' := [(2, .int (0)), (0, .ref (ad 0)), (1, .int (nI t))]) hx hb dX8_takeOut_1 rfl hl (by decide) rfl (fun ls hl => ?_)
  have lp : ∀ (n9 k : Nat), k ≤ (P.ln t) → (P.ln t) < k + n9 → ∀   (H : Heap) (locs : List Loc), hp D A 13 ad (mct cy ad P wy so w r ns (ldL nw (P.wh t) k) (ldD nr (P.re t) k) fr tt) H → va_S A s.heap H locs → ∀ (ls : Array Slot), lv_has ls 3 [(2, .int (nI k)), (0, .ref (ad 0)), (1, .int (nI t))] → W p_ l e_ (rm_ 0 0) s m_ args_ below meth cd H locs 0 0 Q (F0 m_ 2 ls []) := by
    intro n9
    induction n9 with
    | zero => intro k h1 h2; omega
    | succ n9 ih_lp =>
      intro k hk1 hk2   H locs hH hS ls hl
      refine lv_iload_n hx hb dX8_takeOut_2 rfl (lv_at hl 0 rfl) ?_
      refine lv_aload_n hx hb dX8_takeOut_3 rfl (lv_at hl 1 rfl) ?_
      refine g_get hC hK inG8 hH 0 (by decide) rfl rfl 2 (by decide) qF_X8_16 (Or.inl rfl) rfl dX8_takeOut_4 ?_
      refine lv_iload_n hx hb dX8_takeOut_7 rfl (lv_at hl 2 rfl) ?_
      refine gN_iald hC hK hH 3 (by decide) rfl t (by omega) dX8_takeOut_8 ?_
      refine lv_icmp_ge (tgt := 52) hx hb dX8_takeOut_9 (by decide) (fun c_9 => ?_) (fun c_9 => ?_)
      · have c_9 := nc_le (a := (P.ln t)) (b := k) (by omega) (by omega) c_9
        subst hQ
        exact cm_rv hC hr hlk (by rw [show P.ln t = k by omega]) hH hS dX8_takeOut_52
      · have c_9 := nc_nle (a := (P.ln t)) (b := k) (by omega) (by omega) c_9
        refine lv_aload_n hx hb dX8_takeOut_12 rfl (lv_at hl 1 rfl) ?_
        refine g_get hC hK inG8 hH 0 (by decide) rfl rfl 13 (by decide) qF_X8_36 (Or.inl rfl) rfl dX8_takeOut_13 ?_
        refine lv_iload_n hx hb dX8_takeOut_16 rfl (lv_at hl 0 rfl) ?_
        refine lv_aload_n hx hb dX8_takeOut_17 rfl (lv_at hl 1 rfl) ?_
        refine g_get hC hK inG8 hH 0 (by decide) rfl rfl 4 (by decide) qF_X8_22 (Or.inl rfl) rfl dX8_takeOut_18 ?_
        refine lv_bipush (v := 24) hx hb dX8_takeOut_21 (by decide) ?_
        refine lv_iload_n hx hb dX8_takeOut_23 rfl (lv_at hl 2 rfl) ?_
        refine lv_imul hx hb dX8_takeOut_24 ?_
        refine lv_iload_n hx hb dX8_takeOut_25 rfl (lv_at hl 0 rfl) ?_
        refine lv_iadd hx hb dX8_takeOut_26 ?_
        refine mr_wh hC hK hH t k (by omega) dX8_takeOut_27 ?_
        refine gN_last (ct' := mct cy ad P wy so w r ns (vp_updL (ldL nw (P.wh t) k) k (P.wh t k)) (ldD nr (P.re t) k) fr tt) hC hK hH hS 9 (by decide) rfl k (by omega) rfl mct_9 dX8_takeOut_28 (fun H locs hH hS => ?_)
        refine lv_aload_n hx hb dX8_takeOut_29 rfl (lv_at hl 1 rfl) ?_
        refine g_get hC hK inG8 hH 0 (by decide) rfl rfl 14 (by decide) qF_X8_39 (Or.inl rfl) rfl dX8_takeOut_30 ?_
        refine lv_iload_n hx hb dX8_takeOut_33 rfl (lv_at hl 0 rfl) ?_
        refine lv_aload_n hx hb dX8_takeOut_34 rfl (lv_at hl 1 rfl) ?_
        refine g_get hC hK inG8 hH 0 (by decide) rfl rfl 5 (by decide) qF_X8_26 (Or.inl rfl) rfl dX8_takeOut_35 ?_
        refine lv_bipush (v := 24) hx hb dX8_takeOut_38 (by decide) ?_
        refine lv_iload_n hx hb dX8_takeOut_40 rfl (lv_at hl 2 rfl) ?_
        refine lv_imul hx hb dX8_takeOut_41 ?_
        refine lv_iload_n hx hb dX8_takeOut_42 rfl (lv_at hl 0 rfl) ?_
        refine lv_iadd hx hb dX8_takeOut_43 ?_
        refine mr_re hC hK hH t k (by omega) dX8_takeOut_44 ?_
        refine gN_dast (ct' := mct cy ad P wy so w r ns (vp_updL (ldL nw (P.wh t) k) k (P.wh t k)) (vf_upd (ldD nr (P.re t) k) k (P.re t k)) fr tt) hC hK hH hS 10 (by decide) rfl k (by omega) rfl mct_10 dX8_takeOut_45 (fun H locs hH hS => ?_)
        refine lv_iinc (v := nI (k + 1)) (lv' := [(2, .int (nI (k + 1))), (0, .ref (ad 0)), (1, .int (nI t))]) hx hb dX8_takeOut_46 hl (k := 0) rfl (nI_1 _) (by decide) rfl (fun ls hl => ?_)
        refine lv_goto (tgt := 2) hx hb dX8_takeOut_49 (by decide) ?_
        exact ih_lp (k + 1) (by omega) (by omega)   _ _ hH hS ls (lv_sub hl [0, 1, 2] rfl)
  exact lp ((P.ln t) + 1) 0 (by omega) (by omega)   _ _ hH hS ls (lv_sub hl [0, 1, 2] rfl)
