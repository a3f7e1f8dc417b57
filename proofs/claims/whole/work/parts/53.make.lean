/-! MAKING A THING -/
/-- a state with one thing more, before it is laid into a column -/
abbrev AS.more (P : AS) (k len : Nat) (tag : Int32) : AS := (P.n + 1, va_up P.kd P.n k, va_up P.ln P.n len, va_up P.tg P.n tag, P.wh, P.re, P.co)
theorem OK_more {P : AS} (h : OKP P) {k len : Nat} {tag : Int32} (hk : k ≤ 14) (hl : len ≤ 24) (hn : P.n ≤ 512) : WF (P.more k len tag) := by
  obtain ⟨h1, h2, h3, h4, h5⟩ := (OK_add h (j := 0) (tag := tag) hk hl hn).1
  refine ⟨h1, h2, h3, fun c => ?_, h5⟩
  have := co_le h c
  show P.co c ≤ P.n + 1
  omega
theorem rfO_ne {ad ad' : Nat → Nat} {q n : Nat} (h : ∀ i, i < 30 + 2 * n → ad' i = ad i) (hq : q ≤ n) : rfO ad' q = rfO ad q := by
  unfold rfO
  by_cases c : q = 0
  · rw [if_pos c, if_pos c]
  · rw [if_neg c, if_neg c, h _ (by omega)]
theorem hct_grow {D : va_G} {A : Nat → Prop} {cy : Nat → ClassId} {ad : Nat → Nat} {P : AS} {wy : Int32} {cl : Nat → CE} {st : Nat → Nat} {tg : Nat → Int32} {H H1 : Heap} (hok : OKP P) (hI : HI P cl st) (h : hp D A (30 + 2 * P.n) ad (hct cy ad P wy cl st tg) H) (keep : ∀ q : Nat, q < H.size → H1[q]? = H[q]?) {k len : Nat} {tag : Int32} {q q' : Nat} (hq : H.size ≤ q) (hA : A q) (hob : va_at D vwCl (q, if k < 12 then nrO k q' else .inr (0, [.int (nI k), .int tag])) H1) (har : k < 12 → H.size ≤ q' ∧ q' ≠ q ∧ A q' ∧ va_at D vwCl (q', nrA cy k len) H1) :
    ∃ ad' : Nat → Nat, (∀ i, i < 30 + 2 * P.n → ad' i = ad i) ∧ ad' (30 + 2 * P.n) = q ∧ hp D A (30 + 2 * (P.more k len tag).n) ad' (hct cy ad' (P.more k len tag) wy cl st tg) H1 := by
  have hlo : ∀ i, i < 30 + 2 * P.n → va_up (va_up ad (30 + 2 * P.n) q) (31 + 2 * P.n) q' i = ad i := fun i hi => by rw [va_up_ne _ _ (by omega), va_up_ne _ _ (by omega)]
  have h30 : va_up (va_up ad (30 + 2 * P.n) q) (31 + 2 * P.n) q' (30 + 2 * P.n) = q := by rw [va_up_ne _ _ (by omega), va_up_self]
  have h31 : va_up (va_up ad (30 + 2 * P.n) q) (31 + 2 * P.n) q' (31 + 2 * P.n) = q' := va_up_self _ _ _
  generalize va_up (va_up ad (30 + 2 * P.n) q) (31 + 2 * P.n) q' = ad' at hlo h30 h31
  refine ⟨ad', hlo, h30, ?_⟩
  have hkn : va_up P.kd P.n k P.n = k := va_up_self _ _ _
  have hln : va_up P.ln P.n len P.n = len := va_up_self _ _ _
  have htn : va_up P.tg P.n tag P.n = tag := va_up_self _ _ _
  have eo : hct cy ad' (P.more k len tag) wy cl st tg (30 + 2 * P.n) = some (if k < 12 then nrO k q' else .inr (0, [.int (nI k), .int tag])) := by
    rw [hct_o]
    unfold obE nrO
    rw [show (P.more k len tag).kd P.n = k from hkn, show (P.more k len tag).tg P.n = tag from htn, h31]
    by_cases c : k < 12
    · rw [if_pos c]
      by_cases c5 : k ≤ 5
      · rw [if_pos c5, if_pos c5]
      · rw [if_neg c5, if_neg c5]
        by_cases c7 : k ≤ 7
        · rw [if_pos c7, if_pos c7]
        · rw [if_neg c7, if_neg c7, if_pos (by omega)]
    · rw [if_neg c, if_neg (by omega), if_neg (by omega), if_neg (by omega)]
  have hz0 : P.wh P.n = fun _ => 0 := by funext i; exact (hok.2.2.2 P.n i (Nat.le_refl _)).1
  have hr0 : P.re P.n = fun _ => 0 := by funext i; exact (hok.2.2.2 P.n i (Nat.le_refl _)).2
  have ea : ∀ x, hct cy ad' (P.more k len tag) wy cl st tg (31 + 2 * P.n) = some x → k < 12 ∧ x = nrA cy k len := by
    intro x hx
    rw [hct_a] at hx
    unfold arE at hx
    have hx : (if va_up P.kd P.n k P.n ≤ 5 then some (Sum.inl (cy 1, va_up P.ln P.n len P.n, Sum.inr (Sum.inl (P.wh P.n)))) else if va_up P.kd P.n k P.n ≤ 7 then some (Sum.inl (cy 2, va_up P.ln P.n len P.n, Sum.inr (Sum.inr (Sum.inr (Sum.inl (P.re P.n)))))) else if va_up P.kd P.n k P.n ≤ 11 then some (Sum.inl (cy 4, va_up P.ln P.n len P.n, Sum.inr (Sum.inr (Sum.inr (Sum.inr (fun i => rfO ad' (P.wh P.n i).toNatClampNeg)))))) else none) = some x := hx
    rw [hkn, hln, hz0, hr0] at hx
    unfold nrA
    by_cases c5 : k ≤ 5
    · rw [if_pos c5] at hx; cases hx; rw [if_pos c5]; exact ⟨by omega, rfl⟩
    · rw [if_neg c5] at hx
      by_cases c7 : k ≤ 7
      · rw [if_pos c7] at hx; cases hx; rw [if_neg c5, if_pos c7]; exact ⟨by omega, rfl⟩
      · rw [if_neg c7] at hx
        by_cases c11 : k ≤ 11
        · rw [if_pos c11] at hx; cases hx; rw [if_neg c5, if_neg c7]; exact ⟨by omega, rfl⟩
        · rw [if_neg c11] at hx; cases hx
  have old : ∀ i x, i < 30 + 2 * P.n → hct cy ad' (P.more k len tag) wy cl st tg i = some x → ∃ y, hct cy ad P wy cl st tg i = some y ∧ (va_at D vwCl (ad i, y) H → va_at D vwCl (ad i, x) H) := by
    intro i x hi hx
    by_cases c4 : i < 4
    · rcases (by omega : i = 0 ∨ i = 1 ∨ i = 2 ∨ i = 3) with rfl | rfl | rfl | rfl
      · refine ⟨x, ?_, id⟩
        rw [← hx]
        show some _ = some (Sum.inr (5, [Value.ref (ad' 1), Value.ref (ad' 2), Value.ref (ad' 3), Value.ref (ad' (4 + 24)), Value.ref (ad' (4 + 25)), Value.int wy]))
        rw [hlo 1 (by omega), hlo 2 (by omega), hlo 3 (by omega), hlo (4 + 24) (by omega), hlo (4 + 25) (by omega)]
      · refine ⟨x, ?_, id⟩
        rw [← hx]
        show some (Sum.inl (cy 4, 12, Sum.inr (Sum.inr (Sum.inr (Sum.inr (fun c => rfO ad (P.co c))))))) = some (Sum.inl (cy 4, 12, Sum.inr (Sum.inr (Sum.inr (Sum.inr (fun c => rfO ad' (P.co c)))))))
        rw [show (fun c => rfO ad' (P.co c)) = fun c => rfO ad (P.co c) from funext fun c => rfO_ne hlo (co_le hok c)]
      · cases hx
        refine ⟨_, rfl, fun h9 => ?_⟩
        have h8 : H[ad 2]? = some (arrV (cy 3) 24 (fun j => va_rf (some (ad (4 + st j))))) := h9
        rw [arrV_congr (g := fun j => va_rf (some (ad' (4 + st j)))) (fun j hj => by rw [hlo _ (by have := hI.2.1 j hj; omega)])] at h8
        exact h8
      · exact ⟨x, hx, id⟩
    · by_cases c30 : i < 30
      · refine ⟨x, ?_, id⟩
        rw [← hx]
        unfold hct
        rw [if_neg c4, if_neg c4, if_pos c30, if_pos c30]
        unfold ceE
        rw [rfO_ne hlo (hI.1 (i - 4) (by omega)).2]
      · have ht : (i - 30) / 2 ≠ P.n := by omega
        have hkt : va_up P.kd P.n k ((i - 30) / 2) = P.kd ((i - 30) / 2) := va_up_ne _ _ ht
        have hlt : va_up P.ln P.n len ((i - 30) / 2) = P.ln ((i - 30) / 2) := va_up_ne _ _ ht
        have htt : va_up P.tg P.n tag ((i - 30) / 2) = P.tg ((i - 30) / 2) := va_up_ne _ _ ht
        refine ⟨x, ?_, id⟩
        rw [← hx]
        unfold hct
        rw [if_neg c4, if_neg c4, if_neg c30, if_neg c30]
        by_cases c2 : i % 2 = 0
        · rw [if_pos c2, if_pos c2]
          unfold obE
          show some (if P.kd _ ≤ 5 then _ else _) = some (if va_up P.kd P.n k _ ≤ 5 then Sum.inr (4, [Value.int (nI (va_up P.kd P.n k _)), _]) else if va_up P.kd P.n k _ ≤ 7 then Sum.inr (2, [Value.int (nI (va_up P.kd P.n k _)), _]) else if va_up P.kd P.n k _ ≤ 11 then Sum.inr (3, [Value.int (nI (va_up P.kd P.n k _)), _]) else Sum.inr (0, [Value.int (nI (va_up P.kd P.n k _)), Value.int (va_up P.tg P.n tag _)]))
          rw [hkt, htt, hlo (31 + 2 * ((i - 30) / 2)) (by omega)]
        · rw [if_neg c2, if_neg c2]
          unfold arE
          show (if P.kd _ ≤ 5 then _ else _) = (if va_up P.kd P.n k _ ≤ 5 then some (Sum.inl (cy 1, va_up P.ln P.n len _, _)) else if va_up P.kd P.n k _ ≤ 7 then some (Sum.inl (cy 2, va_up P.ln P.n len _, _)) else if va_up P.kd P.n k _ ≤ 11 then some (Sum.inl (cy 4, va_up P.ln P.n len _, Sum.inr (Sum.inr (Sum.inr (Sum.inr (fun j => rfO ad' (P.wh _ j).toNatClampNeg)))))) else none)
          rw [hkt, hlt]
          by_cases c8 : 8 ≤ P.kd ((i - 30) / 2)
          · rw [show (fun j => rfO ad' (P.wh ((i - 30) / 2) j).toNatClampNeg) = fun j => rfO ad (P.wh ((i - 30) / 2) j).toNatClampNeg from funext fun j => by
              obtain ⟨r, e1, e2⟩ := hok.1.2.2.2.2 ((i - 30) / 2) j c8
              have := hok.1.2.2.1
              rw [e1, lN_clamp (by omega)]
              exact rfO_ne hlo e2]
          · by_cases c5 : P.kd ((i - 30) / 2) ≤ 5
            · rw [if_pos c5, if_pos c5]
            · rw [if_neg c5, if_neg c5, if_pos (by omega), if_pos (by omega)]
  have lts : ∀ i x, i < 30 + 2 * P.n → hct cy ad' (P.more k len tag) wy cl st tg i = some x → ad' i < H.size := fun i x hi hx => by
    obtain ⟨y, hy, -⟩ := old i x hi hx
    rw [hlo i hi]; exact h.lt hi hy
  have hcase : ∀ i, i < 30 + 2 * (P.n + 1) → i < 30 + 2 * P.n ∨ i = 30 + 2 * P.n ∨ i = 31 + 2 * P.n := fun i hi => by omega
  refine h.grow keep (fun i x hi hx => ?_) (fun i j x y hi hj hx hy hge hij => ?_)
  · rcases hcase i hi with c | rfl | rfl
    · obtain ⟨y, hy, hv⟩ := old i x c hx
      exact Or.inl ⟨c, hlo i c, y, hy, hv⟩
    · rw [eo] at hx; cases hx
      rw [h30]
      exact Or.inr ⟨hq, hA, hob⟩
    · obtain ⟨k12, rfl⟩ := ea x hx
      obtain ⟨a1, a2, a3, a4⟩ := har k12
      rw [h31]
      exact Or.inr ⟨a1, a3, a4⟩
  · rcases hcase i hi with c | rfl | rfl
    · have := lts i x c hx; omega
    · rcases hcase j hj with c2 | rfl | rfl
      · have := lts j y c2 hy; omega
      · rfl
      · obtain ⟨k12, -⟩ := ea y hy
        rw [h30, h31] at hij
        exact absurd hij.symm (har k12).2.1
    · rcases hcase j hj with c2 | rfl | rfl
      · have := lts j y c2 hy; omega
      · obtain ⟨k12, -⟩ := ea x hx
        rw [h30, h31] at hij
        exact absurd hij (har k12).2.1
      · rfl
/-- a call of the house whose world may grow -/
def hG (cy : Nat → ClassId) (ad : Nat → Nat) (P : AS) (x : Int32 × AS × Int32) : Option Value → Nat → (Nat → Nat) → (Nat → Option va_E) → Prop := fun v N' ad' c' => N' = 30 + 2 * x.2.1.n ∧ (∀ i, i < 30 + 2 * P.n → ad' i = ad i) ∧ hpost cy ad' x v c'
theorem hG.mk {cy : Nat → ClassId} {ad ad' : Nat → Nat} {x : Int32 × AS × Int32} {v : Int32} {P P' : AS} {wy : Int32} {cl : Nat → CE} {st : Nat → Nat} {tg : Nat → Int32} (h : x = (v, P', wy)) (ha : ∀ i, i < 30 + 2 * P.n → ad' i = ad i) (hI : HI P' cl st) : hG cy ad P x (some (.int v)) (30 + 2 * P'.n) ad' (hct cy ad' P' wy cl st tg) := by
  subst h; exact ⟨rfl, ha, rfl, _, _, _, rfl, hI⟩
theorem HI_le {P P' : AS} {cl : Nat → CE} {st : Nat → Nat} (h : HI P cl st) (e : P.n ≤ P'.n) : HI P' cl st := ⟨fun j hj => ⟨(h.1 j hj).1, Nat.le_trans (h.1 j hj).2 e⟩, h.2⟩
theorem mv_X7_make : mvok RX7 yX7_make cX7_make 4 (some .int) 3 := ⟨qK_X7_make, qI_X7_make, qSel_X7_X7_make, qInit_X7, by decide +kernel⟩
set_option maxHeartbeats 4000000 in
set_option maxRecDepth 100000 in
theorem c_X7_make {l : Launch} {D : va_G} {cy : Nat → ClassId} {ad : Nat → Nat} {P : AS} {wy : Int32} {cl : Nat → CE} {st : Nat → Nat} {tg : Nat → Int32} {c k n : Int32} (hok : OKP P) (hn5 : P.n ≤ 512) (hI : HI P cl st) : CG l yX7_make cX7_make 4 (some .int) (rmC 5 2 26 97) D cy 2 26 (30 + 2 * P.n) ad [.ref (ad 0), .int c, .int k, .int n] (hct cy ad P wy cl st tg) (hG cy ad P (sp_make P c k n)) := by
  have hw := hok.1
  refine CG.start (by decide) (Nat.le_of_ble_eq_true rfl) ?_
  intro p_ e_ s m_ args_ below meth cd A ls Q hQ hC hr hlk hin hK hA hH hl
  obtain ⟨hx, hb, hml, hown, hts⟩ := id hC
  have hS : va_S A s.heap s.heap [] := va_S.rf
  have hl : lv_has ls 4 [(0, .ref (ad 0)), (1, .int c), (2, .int k), (3, .int n)] := hl
  refine lv_iload_n hx hb dX7_make_0 rfl (lv_at hl 1 rfl) ?_
  refine cm_S (As := [.int c]) (rest := []) hC (c_X7_isColumn) ms_X7_isColumn qM_X7_37 ⟨⟨rfl, rfl⟩, Nat.le_of_ble_eq_true rfl, Nat.le_of_ble_eq_true rfl⟩ hK hH hS hA hl.1 ⟨Nat.zero_le _, Nat.zero_le _⟩ rfl rfl (Nat.le_of_ble_eq_true rfl) dX7_make_1 (fun H locs hH hS => ?_)
  refine lv_if_eq (tgt := 17) hx hb dX7_make_4 (by decide) (fun c4 => ?_) (fun c4 => ?_)
  · have c4 := b2i_f c4
    refine lv_aload_n hx hb dX7_make_17 rfl (lv_at hl 0 rfl) ?_
    refine lv_iconst (v := 1) hx hb dX7_make_18 (by decide) ?_
    refine cm_V (As' := [.int (1)]) (rest := []) hC (c_X7_refuse) mv_X7_refuse qM_X7_41 ⟨⟨rfl, rfl⟩, Nat.le_of_ble_eq_true rfl, Nat.le_of_ble_eq_true rfl⟩ hK hH hS hA (hp.recv hK hH (i := 0) (by omega) rfl rfl) hl.1 ⟨Nat.zero_le _, Nat.zero_le _⟩ rfl rfl (Nat.le_of_ble_eq_true rfl) dX7_make_19 (fun H locs hH hS => ?_)
    rw [hQ]
    exact cg_ri hC hr hlk (hG.mk (by unfold sp_make; rw [if_neg (fun z => by rw [z.1] at c4; cases c4)]; rfl) (fun _ _ => rfl) hI) hH hS (Nat.zero_le _) (Nat.zero_le _) dX7_make_22
  · have c4 := b2i_t c4
    refine lv_iload_n hx hb dX7_make_7 rfl (lv_at hl 2 rfl) ?_
    refine lv_if_lt (tgt := 17) hx hb dX7_make_8 (by decide) (fun c8 => ?_) (fun c8 => ?_)
    · skip
      refine lv_aload_n hx hb dX7_make_17 rfl (lv_at hl 0 rfl) ?_
      refine lv_iconst (v := 1) hx hb dX7_make_18 (by decide) ?_
      refine cm_V (As' := [.int (1)]) (rest := []) hC (c_X7_refuse) mv_X7_refuse qM_X7_41 ⟨⟨rfl, rfl⟩, Nat.le_of_ble_eq_true rfl, Nat.le_of_ble_eq_true rfl⟩ hK hH hS hA (hp.recv hK hH (i := 0) (by omega) rfl rfl) hl.1 ⟨Nat.zero_le _, Nat.zero_le _⟩ rfl rfl (Nat.le_of_ble_eq_true rfl) dX7_make_19 (fun H locs hH hS => ?_)
      rw [hQ]
      exact cg_ri hC hr hlk (hG.mk (by unfold sp_make; rw [if_neg (fun z => by rw [inR_lo c8] at z; cases z.2.1)]; rfl) (fun _ _ => rfl) hI) hH hS (Nat.zero_le _) (Nat.zero_le _) dX7_make_22
    · refine lv_iload_n hx hb dX7_make_11 rfl (lv_at hl 2 rfl) ?_
      refine lv_bipush (v := 14) hx hb dX7_make_12 (by decide) ?_
      refine lv_icmp_le (tgt := 23) hx hb dX7_make_14 (by decide) (fun c14 => ?_) (fun c14 => ?_)
      · have hk14 : inR k 0 14 = true := inR_in c8 (fun z => by rw [i_lt] at z; rw [i_le] at c14; omega)
        obtain ⟨b, hb14, rfl⟩ := inR_ex (n := 14) (by decide) hk14
        obtain ⟨j, hj, rfl⟩ := isC_ex c4
        have hcb : cN (nI b) = b := cN_nI (by omega)
        refine lv_iload_n hx hb dX7_make_23 rfl (lv_at hl 2 rfl) ?_
        refine lv_bipush (v := 12) hx hb dX7_make_24 (by decide) ?_
        refine lv_icmp_lt (tgt := 50) hx hb dX7_make_26 (by decide) (fun c26 => ?_) (fun c26 => ?_)
        · have c26 := nc_lt (a := b) (b := 12) (by omega) (by decide) c26
          refine lv_iload_n hx hb dX7_make_50 rfl (lv_at hl 3 rfl) ?_
          refine lv_if_lt (tgt := 60) hx hb dX7_make_51 (by decide) (fun c51 => ?_) (fun c51 => ?_)
          · skip
            refine lv_aload_n hx hb dX7_make_60 rfl (lv_at hl 0 rfl) ?_
            refine lv_iconst (v := 1) hx hb dX7_make_61 (by decide) ?_
            refine cm_V (As' := [.int (1)]) (rest := []) hC (c_X7_refuse) mv_X7_refuse qM_X7_41 ⟨⟨rfl, rfl⟩, Nat.le_of_ble_eq_true rfl, Nat.le_of_ble_eq_true rfl⟩ hK hH hS hA (hp.recv hK hH (i := 0) (by omega) rfl rfl) hl.1 ⟨Nat.zero_le _, Nat.zero_le _⟩ rfl rfl (Nat.le_of_ble_eq_true rfl) dX7_make_62 (fun H locs hH hS => ?_)
            rw [hQ]
            exact cg_ri hC hr hlk (hG.mk (by unfold sp_make; rw [if_neg (fun z => by rcases z.2.2 with y | y; rw [hcb] at y; omega; rw [inR_lo c51] at y; cases y)]; rfl) (fun _ _ => rfl) hI) hH hS (Nat.zero_le _) (Nat.zero_le _) dX7_make_65
          · refine lv_iload_n hx hb dX7_make_54 rfl (lv_at hl 3 rfl) ?_
            refine lv_bipush (v := 24) hx hb dX7_make_55 (by decide) ?_
            refine lv_icmp_le (tgt := 66) hx hb dX7_make_57 (by decide) (fun c57 => ?_) (fun c57 => ?_)
            · have hn24 : inR n 0 24 = true := inR_in c51 (fun z => by rw [i_lt] at z; rw [i_le] at c57; omega)
              obtain ⟨u, hu, rfl⟩ := inR_ex (n := 24) (by decide) hn24
              have hcu : cN (nI u) = u := cN_nI (by omega)
              refine lv_aload_n hx hb dX7_make_66 rfl (lv_at hl 0 rfl) ?_
              refine g_get hC hK inG7 hH 0 (by omega) rfl (ci := 5) rfl 0 (by decide) qF_X7_11 (Or.inl rfl) rfl dX7_make_67 ?_
              refine lv_iload_n hx hb dX7_make_70 rfl (lv_at hl 1 rfl) ?_
              refine lv_iload_n hx hb dX7_make_71 rfl (lv_at hl 2 rfl) ?_
              refine lv_iload_n hx hb dX7_make_72 rfl (lv_at hl 3 rfl) ?_
              refine cg_S (N := 0) (ad := ad) (ct := hct cy ad P wy cl st tg) (As := [.int (nI b), .int (nI u)]) (rest := [.int (nI j), .ref (ad 1)]) hC (c_X7_newRow c26 hu) ms_X7_newRow qM_X7_53 ⟨⟨rfl, rfl⟩, Nat.le_of_ble_eq_true rfl, Nat.le_of_ble_eq_true rfl⟩ hK hp.nil hS hA hl.1 ⟨Nat.le_of_ble_eq_true rfl, Nat.le_of_ble_eq_true rfl⟩ rfl rfl (Nat.le_of_ble_eq_true rfl) dX7_make_73 (fun v N' ad' ct' H2 locs2 hpo hH2 hS hz2 hk2 => ?_)
              obtain ⟨rfl, q, q', rfl, rfl, rfl⟩ := hpo
              have hfr : ∀ x, cA 0 ad (hct cy ad P wy cl st tg) H.size x → H.size ≤ x := fun x z => by
                rcases z with ⟨i, _, hi, _⟩ | z
                · omega
                · exact z
              obtain ⟨⟨hAq, hq0⟩, hob⟩ := hH2.2 0 _ (by decide) rfl
              obtain ⟨⟨hAq', hq1⟩, har⟩ := hH2.2 1 _ (by decide) rfl
              have hne : q' ≠ q := fun e9 => by have := hH2.1 1 0 _ _ (by decide) (by decide) rfl rfl e9; omega
              obtain ⟨ad', hlo, h30, hH⟩ := hct_grow (k := b) (len := u) (tag := nI u) (q := q) (q' := q') hok hI hH (fun x hx9 => hk2 x hx9 (fun z => by have := hfr x z; omega)) (hfr _ hq0) hAq (by rw [if_pos c26]; exact hob) (fun _ => ⟨hfr _ hq1, hne, hAq', har⟩)
              have hw1 := OK_more hok (k := b) (len := u) (tag := nI u) hb14 (by omega) hn5
              have e1 : (Value.ref q) = va_rf (rfO ad' (P.n + 1)) := by rw [rfO_s, h30]; rfl
              show W _ _ _ _ _ _ _ _ _ _ _ _ _ _ _ (F0 _ _ _ [.ref q, .int (nI j), .ref (ad 1)])
              rw [e1, ← hlo 1 (by omega)]
              refine hr_cos (P := P.more b u (nI u)) hC hK hw1 hH hS j (P.n + 1) hj (Nat.le_refl _) dX7_make_76 (fun H locs hH hS => ?_)
              refine lv_aload_n hx hb dX7_make_77 rfl (lv_at hl 0 rfl) ?_
              refine lv_iconst (v := 1) hx hb dX7_make_78 (by decide) ?_
              rw [← hlo 0 (by omega)]
              refine cm_V (As' := [.int 1]) (rest := []) hC (c_X7_done (P := (P.more b u (nI u)).setCo j (P.n + 1))) mv_X7_done qM_X7_50 ⟨⟨rfl, rfl⟩, Nat.le_of_ble_eq_true rfl, Nat.le_of_ble_eq_true rfl⟩ hK hH hS hA (hp.recv hK hH (i := 0) (by omega) rfl rfl) hl.1 ⟨Nat.le_of_ble_eq_true rfl, Nat.le_of_ble_eq_true rfl⟩ rfl rfl (Nat.le_of_ble_eq_true rfl) dX7_make_79 (fun H locs hH hS => ?_)
              rw [hQ]
              exact cg_ri hC hr hlk (hG.mk (P' := P.add j b u (nI u)) (by unfold sp_make; rw [if_pos ⟨c4, hk14, Or.inr hn24⟩, cN_c hj, hcb, hcu, if_pos c26]) hlo (HI_le hI (Nat.le_succ _))) hH hS (Nat.le_of_ble_eq_true rfl) (Nat.le_of_ble_eq_true rfl) dX7_make_82
            · skip
              refine lv_aload_n hx hb dX7_make_60 rfl (lv_at hl 0 rfl) ?_
              refine lv_iconst (v := 1) hx hb dX7_make_61 (by decide) ?_
              refine cm_V (As' := [.int (1)]) (rest := []) hC (c_X7_refuse) mv_X7_refuse qM_X7_41 ⟨⟨rfl, rfl⟩, Nat.le_of_ble_eq_true rfl, Nat.le_of_ble_eq_true rfl⟩ hK hH hS hA (hp.recv hK hH (i := 0) (by omega) rfl rfl) hl.1 ⟨Nat.zero_le _, Nat.zero_le _⟩ rfl rfl (Nat.le_of_ble_eq_true rfl) dX7_make_62 (fun H locs hH hS => ?_)
              rw [hQ]
              exact cg_ri hC hr hlk (hG.mk (by unfold sp_make; rw [if_neg (fun z => by rcases z.2.2 with y | y; rw [hcb] at y; omega; rw [inR_hi (by rw [i_le] at c57; rw [i_lt]; omega)] at y; cases y)]; rfl) (fun _ _ => rfl) hI) hH hS (Nat.zero_le _) (Nat.zero_le _) dX7_make_65
        · have c26 := nc_nlt (a := b) (b := 12) (by omega) (by decide) c26
          refine lv_aload_n hx hb dX7_make_29 rfl (lv_at hl 0 rfl) ?_
          refine g_get hC hK inG7 hH 0 (by omega) rfl (ci := 5) rfl 0 (by decide) qF_X7_11 (Or.inl rfl) rfl dX7_make_30 ?_
          refine lv_iload_n hx hb dX7_make_33 rfl (lv_at hl 1 rfl) ?_
          refine g_new (ci := 0) (fs := [.int 0, .int 0]) hC hK inG0 tyX0 tyX0_ok qC_X7_45 qNew_X0 qInit_X0 rfl (fun j hj => by rcases (by omega : j = 0 ∨ j = 1) with rfl | rfl <;> rfl) hS hA (Nat.le_of_ble_eq_true rfl) (Nat.le_of_ble_eq_true rfl) dX7_make_34 (fun H1 z1 o1 hA1 hat hS => ?_)
          have hH1 := hp.mk1 hA1 hat
          refine lv_dup hx hb dX7_make_37 rfl ?_
          refine lv_iload_n hx hb dX7_make_38 rfl (lv_at hl 2 rfl) ?_
          refine lv_iload_n hx hb dX7_make_39 rfl (lv_at hl 3 rfl) ?_
          refine cg_I (As' := [.int (nI b), .int n]) (rest := [.ref H.size, .int (nI j), .ref (ad 1)]) hC (CM.cg c_X0_init) mi_X0 qM_X7_47 ⟨⟨rfl, rfl⟩, Nat.le_of_ble_eq_true rfl, Nat.le_of_ble_eq_true rfl⟩ hK hH1 hS hA hl.1 ⟨Nat.le_of_ble_eq_true rfl, Nat.le_of_ble_eq_true rfl⟩ rfl rfl (Nat.le_of_ble_eq_true rfl) dX7_make_40 (fun v N' ad' ct' H2 locs2 hpo hH2 hS hz2 hk2 => ?_)
          obtain ⟨rfl, rfl, rfl, rfl⟩ := hpo
          have kp := keep2 z1 o1 hk2
          have hob : va_at D vwCl (H.size, .inr (0, [.int (nI b), .int n])) H2 := (hH2.2 0 _ (by decide) rfl).2
          obtain ⟨ad', hlo, h30, hH⟩ := hct_grow (k := b) (len := 0) (tag := n) (q := H.size) (q' := 0) hok hI hH kp (Nat.le_refl _) hA1 (by rw [if_neg (by omega)]; exact hob) (fun z => by omega)
          generalize H.size = q at h30 ⊢
          have hw1 := OK_more hok (k := b) (len := 0) (tag := n) hb14 (by omega) hn5
          have e1 : (Value.ref q) = va_rf (rfO ad' (P.n + 1)) := by rw [rfO_s, h30]; rfl
          show W _ _ _ _ _ _ _ _ _ _ _ _ _ _ _ (F0 _ _ _ [.ref q, .int (nI j), .ref (ad 1)])
          rw [e1, ← hlo 1 (by omega)]
          refine hr_cos (P := P.more b 0 (n)) hC hK hw1 hH hS j (P.n + 1) hj (Nat.le_refl _) dX7_make_43 (fun H locs hH hS => ?_)
          refine lv_aload_n hx hb dX7_make_44 rfl (lv_at hl 0 rfl) ?_
          refine lv_iconst (v := 1) hx hb dX7_make_45 (by decide) ?_
          rw [← hlo 0 (by omega)]
          refine cm_V (As' := [.int 1]) (rest := []) hC (c_X7_done (P := (P.more b 0 (n)).setCo j (P.n + 1))) mv_X7_done qM_X7_50 ⟨⟨rfl, rfl⟩, Nat.le_of_ble_eq_true rfl, Nat.le_of_ble_eq_true rfl⟩ hK hH hS hA (hp.recv hK hH (i := 0) (by omega) rfl rfl) hl.1 ⟨Nat.le_of_ble_eq_true rfl, Nat.le_of_ble_eq_true rfl⟩ rfl rfl (Nat.le_of_ble_eq_true rfl) dX7_make_46 (fun H locs hH hS => ?_)
          rw [hQ]
          exact cg_ri hC hr hlk (hG.mk (P' := P.add j b 0 (n)) (by unfold sp_make; rw [if_pos ⟨c4, hk14, Or.inl (by rw [hcb]; omega)⟩, cN_c hj, hcb, if_neg (by omega)]) hlo (HI_le hI (Nat.le_succ _))) hH hS (Nat.le_of_ble_eq_true rfl) (Nat.le_of_ble_eq_true rfl) dX7_make_49
      · skip
        refine lv_aload_n hx hb dX7_make_17 rfl (lv_at hl 0 rfl) ?_
        refine lv_iconst (v := 1) hx hb dX7_make_18 (by decide) ?_
        refine cm_V (As' := [.int (1)]) (rest := []) hC (c_X7_refuse) mv_X7_refuse qM_X7_41 ⟨⟨rfl, rfl⟩, Nat.le_of_ble_eq_true rfl, Nat.le_of_ble_eq_true rfl⟩ hK hH hS hA (hp.recv hK hH (i := 0) (by omega) rfl rfl) hl.1 ⟨Nat.zero_le _, Nat.zero_le _⟩ rfl rfl (Nat.le_of_ble_eq_true rfl) dX7_make_19 (fun H locs hH hS => ?_)
        rw [hQ]
        exact cg_ri hC hr hlk (hG.mk (by unfold sp_make; rw [if_neg (fun z => by rw [inR_hi (by rw [i_le] at c14; rw [i_lt]; omega)] at z; cases z.2.1)]; rfl) (fun _ _ => rfl) hI) hH hS (Nat.zero_le _) (Nat.zero_le _) dX7_make_22
