/-! THE CLAIM OUT OF ONE WALK OF THE LAW'S BODY. Your part is whole_start (and what it stands on); all else here is the same for every law, but numbers. -/
def R_law : String := "ColumnHouseLaw"
def lw_P (b : Addr) (xs : List Int32) (args : Array Value) (s : State) : Prop := args = #[.ref b] ∧ s.IntsAt b xs ∧ xs.length ≤ 3072 ∧ (Jvm.Cond.and given_1 narrow_1).before args s = true
/-- what a walk over the start with the record d0 says of its end, said of the start itself -/
theorem lw_closed {s t : State} {o : Outcome} {d0 : Drawn} {L : List Loc} {k n : Nat} (hd0 : s.drawn.sameBut d0 lw_cs) (hv : ∃ v, o = .returned v) (hW : (s.setDrawn d0).WarmedH t.vm) (hs : (s.setDrawn d0).sameButNew ({ t with vm := s.vm } : State) L k n) : State.butDraws s t lw_cs (fun t1 => Framed s o t1 L k n) := by
  have h2 : t.drawn = d0 := congrArg State.drawn hs.1
  refine ⟨⟨hv, hW, State.sameButNew.setDrawn hs s.drawn⟩, ?_, by decide⟩
  rw [h2]
  exact hd0
def lw_Q (_ : Array Value) (s : State) (o : Outcome) (t : State) : Prop := o = .returned (some (.int 1)) ∧ State.butDraws s t lw_cs (fun t1 => Framed s o t1 [] 600000 7302250)
def lw_Z (below : List Frame) (a : Array Value) (s : State) : State → Prop := fun t => ∃ o, t.status = .running ∧ Ended t below o ∧ lw_Q a s o t
/-- the law's own end, with 1 on the stack, nothing written that was there before, its room as the claim has it; d0: the record of draws at this point (at the entry s.drawn: begin with 'refine W.base ?_' and 'have hd0 := Drawn.sameBut.refl s.drawn lw_cs') -/
theorem lw_ret {p : Program} {l : Launch} {e : Env} {s : State} {m : MethodId} {below : List Frame} {meth : Method} {c : Code} {b : Nat} {d0 : Drawn} (hd0 : s.drawn.sameBut d0 lw_cs) (hx : p.tables.exec = Jvm.exec) (hb : c.code = code) (hr : meth.sig.returnType = ret) (hlocks : meth.locks = false) {pc : Nat} {H : Heap} {ls : Array Slot} (hdg : decode code pc = .ok (.ireturn, 1)) : W p l e room_1 (s.setDrawn d0) m #[Value.ref b] below meth c H [] 600000 7302250 (lw_Z below #[Value.ref b] s) (F0 m pc ls [.int 1]) := by
  intro T hT X
  obtain ⟨fs, hret, hrun, hended, hW, hframe⟩ := X.leave (v := some (.int 1)) (hlocks := hlocks) (fun h => by rw [hr] at h; cases h)
  have hmeth' : T.vm.method? m = some meth := X.method'
  refine ⟨T.setFrames fs, ?_, .returned (some (.int 1)), hrun, hended, rfl, lw_closed hd0 ⟨_, rfl⟩ hW hframe⟩
  jvm_step X.here [X.here.top, hx, hb, hdg, hmeth', hr, ret, narrow_b1]
  (try refine ⟨rfl, ?_⟩); (try refine ⟨rfl, ?_⟩)
  first | (intro acts; rw [hret _ acts rfl rfl rfl]) | rw [hret _ _ rfl rfl rfl]
  exact Steps.refl _
/-- what holds at the law's entry: the machine, the code, the tables' words (any of lw_tbl by 'hts w (by decide +kernel)'), the script of L ints xs at the cell b, what the Statement gives of the start (any of its parts by flat_of_before) -/
def lw_At (p : Program) (s : State) (m : MethodId) (meth : Method) (c : Code) (b L : Nat) (xs : Nat → Int32) : Prop :=
  p.tables.exec = Jvm.exec ∧ c.code = code ∧ meth.sig.returnType = ret ∧ c.maxLocals = 8 ∧ s.vm.findClass R_law = some m.cls ∧ (∀ w ∈ lw_tbl, w.before #[Value.ref b] s = true) ∧ va_X b L xs s s.heap ∧ b < s.heap.size ∧ meth.locks = false ∧ (Jvm.Cond.and given_1 narrow_1).before #[Value.ref b] s = true
set_option maxHeartbeats 4000000 in
set_option maxRecDepth 100000 in
/-- THE LAW'S LOOP: at its head, with t calls done, house and model are in one state -/
theorem law_loop {p : Program} {l : Launch} {e : Env} {s : State} {m : MethodId} {below : List Frame} {meth : Method} {c : Code} {b L : Nat} {xs : Nat → Int32} {D : va_G} {cy : Nat → ClassId} {q0 q2 : Nat} (hL : L ≤ 3072) (C0 : lw_At p s m meth c b L xs) (hK : kx D cy s) :
    ∀ (n9 t : Nat), L < 6 * t + n9 → 6 * t ≤ L → ∀ (P : AS) (wy : Int32) (H : Heap) (locs : List Loc) (ls : Array Slot), OKP P → P.n ≤ t → lw2 D cy (fun q : Nat => s.heap.size ≤ q) P wy P wy q0 q2 H → va_S (fun q : Nat => s.heap.size ≤ q) s.heap H locs → lv_has ls 8 (lwLv t q2 q0 b) → W p l e room_1 s m #[Value.ref b] below meth c H locs (43 + 2 * t) (26490 + 26 * t) (lw_Z below #[Value.ref b] s) (F0 m 18 ls []) := by
  obtain ⟨hx, hb, hr, hml, hown, hts, hX, hbl, hlocks, hgv⟩ := C0
  have hC : CallFix p m c cL_law 8 s #[Value.ref b] gtbl "ColumnHouseLaw" := ⟨hx, hb, hml, hown, gt_sub hts⟩
  have hbA : ¬ (fun q : Nat => s.heap.size ≤ q) b := Nat.not_le.mpr hbl
  intro n9
  induction n9 with
  | zero => intro t h1 h2; omega
  | succ n9 ih =>
    intro t h1 h2 P wy H locs ls hok hn S hS hl
    refine lv_iload_n hx hb dL_law_18 rfl (lv_at hl 0 rfl) ?_
    refine lv_aload_n hx hb dL_law_19 rfl (lv_at hl 3 rfl) ?_
    refine va_slen hx hb hX hbl hbA hS dL_law_20 ?_
    refine lv_bipush (v := 6) hx hb dL_law_21 (by decide) ?_
    refine lv_isub hx hb dL_law_23 ?_
    have e1 : (Int32.ofNat L - 6).toInt = (L : Int) - 6 := by
      have h9 : (Int32.ofNat L).toInt = (L : Int) := nI_toInt (n := L) (by omega)
      rw [Int32.toInt_sub, h9]
      exact tr_bm (x := (L : Int) - 6) (by omega) (by omega)
    have e2 : (nI (6 * t)).toInt = ((6 * t : Nat) : Int) := nI_toInt (by omega)
    refine lv_icmp_gt (tgt := 1080) hx hb dL_law_24 (by decide) (fun c24 => ?_) (fun c24 => ?_)
    · refine lv_iconst (v := 1) hx hb dL_law_1080 (by decide) ?_
      refine va_forget (fun q hq => hS.2.2 q hq) ?_
      refine W.widen (k := 600000) (n := 7302250) (by omega) (by omega) ?_
      refine W.base ?_
      exact lw_ret (Drawn.sameBut.refl s.drawn lw_cs) hx hb hr hlocks dL_law_1081
    · have hle : 6 * t + 6 ≤ L := by rw [i_lt, e1, e2] at c24; omega
      have tail : ∀ (P' : AS) (wy' : Int32) (H1 : Heap) (locs1 : List Loc) (ls1 : Array Slot), OKP P' → P'.n ≤ P.n + 1 → lw2 D cy (fun q : Nat => s.heap.size ≤ q) P' wy' P' wy' q0 q2 H1 → va_S (fun q : Nat => s.heap.size ≤ q) s.heap H1 locs1 → lv_has ls1 8 (lwLv t q2 q0 b) → W p l e room_1 s m #[Value.ref b] below meth c H1 locs1 (43 + 2 * t + 2) (26490 + 26 * t + 26) (lw_Z below #[Value.ref b] s) (F0 m 1074 ls1 []) := by
        intro P' wy' H1 locs1 ls1 hok' hn' S' hS' hl'
        refine lv_iinc (v := nI (6 * (t + 1))) (lv' := lwLv (t + 1) q2 q0 b) hx hb dL_law_1074 hl' (k := 0) rfl (by show nI (6 * t) + nI 6 = _; rw [nI_add]; congr 1) (by decide) rfl (fun ls hl => ?_)
        refine lv_goto (tgt := 18) hx hb dL_law_1077 (by decide) ?_
        refine W.widen (k := 43 + 2 * (t + 1)) (n := 26490 + 26 * (t + 1)) (by omega) (by omega) ?_
        exact ih (t + 1) (by omega) (by omega) P' wy' H1 locs1 ls hok' (by omega) S' hS' hl
      refine lv_aload_n hx hb dL_law_27 rfl (lv_at hl 3 rfl) ?_
      refine lv_iload_n hx hb dL_law_28 rfl (lv_at hl 0 rfl) ?_
      refine va_sld hx hb hX hbl hbA hS (vp_in_nI (show 6 * t < L by omega) (by omega)) dL_law_29 ?_
      refine lv_bipush (v := 31) hx hb dL_law_30 (by decide) ?_
      refine lv_iand hx hb dL_law_32 ?_
      generalize xs (nI (6 * t)).toNatClampNeg &&& 31 = v
      by_cases hin : 0 ≤ v.toInt ∧ v.toInt ≤ 23
      · rcases (by omega : v.toInt = 0 ∨ v.toInt = 1 ∨ v.toInt = 2 ∨ v.toInt = 3 ∨ v.toInt = 4 ∨ v.toInt = 5 ∨ v.toInt = 6 ∨ v.toInt = 7 ∨ v.toInt = 8 ∨ v.toInt = 9 ∨ v.toInt = 10 ∨ v.toInt = 11 ∨ v.toInt = 12 ∨ v.toInt = 13 ∨ v.toInt = 14 ∨ v.toInt = 15 ∨ v.toInt = 16 ∨ v.toInt = 17 ∨ v.toInt = 18 ∨ v.toInt = 19 ∨ v.toInt = 20 ∨ v.toInt = 21 ∨ v.toInt = 22 ∨ v.toInt = 23) with hv | hv | hv | hv | hv | hv | hv | hv | hv | hv | hv | hv | hv | hv | hv | hv | hv | hv | hv | hv | hv | hv | hv | hv
        · refine lv_tableIn (off := 111) (tgt := 144) hx hb dL_law_33 (by rw [hv]; decide) (by rw [hv]; decide) (by rw [hv]; rfl) (by decide) ?_
          exact lw_c0 hC hK hX hbl hL hle hok (by omega) S hS hl (by omega) (by omega) tail
        · refine lv_tableIn (off := 154) (tgt := 187) hx hb dL_law_33 (by rw [hv]; decide) (by rw [hv]; decide) (by rw [hv]; rfl) (by decide) ?_
          exact lw_c1 hC hK hX hbl hL hle hok (by omega) S hS hl (by omega) (by omega) tail
        · refine lv_tableIn (off := 187) (tgt := 220) hx hb dL_law_33 (by rw [hv]; decide) (by rw [hv]; decide) (by rw [hv]; rfl) (by decide) ?_
          exact lw_c2 hC hK hX hbl hL hle hok (by omega) S hS hl (by omega) (by omega) tail
        · refine lv_tableIn (off := 210) (tgt := 243) hx hb dL_law_33 (by rw [hv]; decide) (by rw [hv]; decide) (by rw [hv]; rfl) (by decide) ?_
          exact lw_c3 hC hK hX hbl hL hle hok (by omega) S hS hl (by omega) (by omega) tail
        · refine lv_tableIn (off := 233) (tgt := 266) hx hb dL_law_33 (by rw [hv]; decide) (by rw [hv]; decide) (by rw [hv]; rfl) (by decide) ?_
          exact lw_c4 hC hK hX hbl hL hle hok (by omega) S hS hl (by omega) (by omega) tail
        · refine lv_tableIn (off := 256) (tgt := 289) hx hb dL_law_33 (by rw [hv]; decide) (by rw [hv]; decide) (by rw [hv]; rfl) (by decide) ?_
          exact lw_c5 hC hK hX hbl hL hle hok (by omega) S hS hl (by omega) (by omega) tail
        · refine lv_tableIn (off := 279) (tgt := 312) hx hb dL_law_33 (by rw [hv]; decide) (by rw [hv]; decide) (by rw [hv]; rfl) (by decide) ?_
          exact lw_c6 hC hK hX hbl hL hle hok (by omega) S hS hl (by omega) (by omega) tail
        · refine lv_tableIn (off := 342) (tgt := 375) hx hb dL_law_33 (by rw [hv]; decide) (by rw [hv]; decide) (by rw [hv]; rfl) (by decide) ?_
          exact lw_c7 hC hK hX hbl hL hle hok (by omega) S hS hl (by omega) (by omega) tail
        · refine lv_tableIn (off := 405) (tgt := 438) hx hb dL_law_33 (by rw [hv]; decide) (by rw [hv]; decide) (by rw [hv]; rfl) (by decide) ?_
          exact lw_c8 hC hK hX hbl hL hle hok (by omega) S hS hl (by omega) (by omega) tail
        · refine lv_tableIn (off := 448) (tgt := 481) hx hb dL_law_33 (by rw [hv]; decide) (by rw [hv]; decide) (by rw [hv]; rfl) (by decide) ?_
          exact lw_c9 hC hK hX hbl hL hle hok (by omega) S hS hl (by omega) (by omega) tail
        · refine lv_tableIn (off := 492) (tgt := 525) hx hb dL_law_33 (by rw [hv]; decide) (by rw [hv]; decide) (by rw [hv]; rfl) (by decide) ?_
          exact lw_c10 hC hK hX hbl hL hle hok (by omega) S hS hl (by omega) (by omega) tail
        · refine lv_tableIn (off := 563) (tgt := 596) hx hb dL_law_33 (by rw [hv]; decide) (by rw [hv]; decide) (by rw [hv]; rfl) (by decide) ?_
          exact lw_c11 hC hK hX hbl hL hle hok (by omega) S hS hl (by omega) (by omega) tail
        · refine lv_tableIn (off := 596) (tgt := 629) hx hb dL_law_33 (by rw [hv]; decide) (by rw [hv]; decide) (by rw [hv]; rfl) (by decide) ?_
          exact lw_c12 hC hK hX hbl hL hle hok (by omega) S hS hl (by omega) (by omega) tail
        · refine lv_tableIn (off := 639) (tgt := 672) hx hb dL_law_33 (by rw [hv]; decide) (by rw [hv]; decide) (by rw [hv]; rfl) (by decide) ?_
          exact lw_c13 hC hK hX hbl hL hle hok (by omega) S hS hl (by omega) (by omega) tail
        · refine lv_tableIn (off := 672) (tgt := 705) hx hb dL_law_33 (by rw [hv]; decide) (by rw [hv]; decide) (by rw [hv]; rfl) (by decide) ?_
          exact lw_c14 hC hK hX hbl hL hle hok (by omega) S hS hl (by omega) (by omega) tail
        · refine lv_tableIn (off := 715) (tgt := 748) hx hb dL_law_33 (by rw [hv]; decide) (by rw [hv]; decide) (by rw [hv]; rfl) (by decide) ?_
          exact lw_c15 hC hK hX hbl hL hle hok (by omega) S hS hl (by omega) (by omega) tail
        · refine lv_tableIn (off := 758) (tgt := 791) hx hb dL_law_33 (by rw [hv]; decide) (by rw [hv]; decide) (by rw [hv]; rfl) (by decide) ?_
          exact lw_c16 hC hK hX hbl hL hle hok (by omega) S hS hl (by omega) (by omega) tail
        · refine lv_tableIn (off := 801) (tgt := 834) hx hb dL_law_33 (by rw [hv]; decide) (by rw [hv]; decide) (by rw [hv]; rfl) (by decide) ?_
          exact lw_c17 hC hK hX hbl hL hle hok (by omega) S hS hl (by omega) (by omega) tail
        · refine lv_tableIn (off := 824) (tgt := 857) hx hb dL_law_33 (by rw [hv]; decide) (by rw [hv]; decide) (by rw [hv]; rfl) (by decide) ?_
          exact lw_c18 hC hK hX hbl hL hle hok (by omega) S hS hl (by omega) (by omega) tail
        · refine lv_tableIn (off := 857) (tgt := 890) hx hb dL_law_33 (by rw [hv]; decide) (by rw [hv]; decide) (by rw [hv]; rfl) (by decide) ?_
          exact lw_c19 hC hK hX hbl hL hle hok (by omega) S hS hl (by omega) (by omega) tail
        · refine lv_tableIn (off := 881) (tgt := 914) hx hb dL_law_33 (by rw [hv]; decide) (by rw [hv]; decide) (by rw [hv]; rfl) (by decide) ?_
          exact lw_c20 hC hK hX hbl hL hle hok (by omega) S hS hl (by omega) (by omega) tail
        · refine lv_tableIn (off := 932) (tgt := 965) hx hb dL_law_33 (by rw [hv]; decide) (by rw [hv]; decide) (by rw [hv]; rfl) (by decide) ?_
          exact lw_c21 hC hK hX hbl hL hle hok (by omega) S hS hl (by omega) (by omega) tail
        · refine lv_tableIn (off := 995) (tgt := 1028) hx hb dL_law_33 (by rw [hv]; decide) (by rw [hv]; decide) (by rw [hv]; rfl) (by decide) ?_
          exact lw_c22 hC hK hX hbl hL hle hok (by omega) S hS hl (by omega) (by omega) tail
        · refine lv_tableIn (off := 1028) (tgt := 1061) hx hb dL_law_33 (by rw [hv]; decide) (by rw [hv]; decide) (by rw [hv]; rfl) (by decide) ?_
          exact lw_c23 hC hK hX hbl hL hle hok (by omega) S hS hl (by omega) (by omega) tail
      · refine lv_tableOut (tgt := 1074) hx hb dL_law_33 (by omega) (by decide) ?_
        refine W.widen (k := 43 + 2 * t + 2) (n := 26490 + 26 * t + 26) (by omega) (by omega) ?_
        exact tail P wy H locs ls hok (Nat.le_succ _) S hS hl
set_option maxHeartbeats 4000000 in
set_option maxRecDepth 100000 in
/-- THE LAW, from its entry -/
theorem whole_start {p : Program} {e : Env} {s : State} {m : MethodId} {below : List Frame} {meth : Method} {c : Code} (l : Launch) {b L : Nat} {xs : Nat → Int32} (hL : L ≤ 3072) (C0 : lw_At p s m meth c b L xs) : W p l e room_1 s m #[Value.ref b] below meth c s.heap [] 0 0 (lw_Z below #[Value.ref b] s) (entryFrame m ([Value.ref b] : List Value).toArray 8) := by
  obtain ⟨hx, hb, hr, hml, hown, hts, hX, hbl, hlocks, hgv⟩ := id C0
  have hC : CallFix p m c cL_law 8 s #[Value.ref b] gtbl "ColumnHouseLaw" := ⟨hx, hb, hml, hown, gt_sub hts⟩
  have hA : ∀ q : Nat, s.heap.size ≤ q → (fun q : Nat => s.heap.size ≤ q) q := fun _ h => h
  obtain ⟨D, cy, hK⟩ := kx_start hts hgv
  have hS : va_S (fun q : Nat => s.heap.size ≤ q) s.heap s.heap [] := va_S.rf
  have hl := lv_entry ([.ref b]) (n := 8) (Nat.le_of_ble_eq_true rfl)
  rw [lg_entry_eq]
  generalize (lg_sl ([.ref b]) ++ List.replicate (8 - (lg_sl ([.ref b])).length) Slot.unset).toArray = ls at hl ⊢
  have hl : lv_has ls 8 [(0, .ref b)] := hl
  refine g_new (ci := 5) (fs := [.null, .null, .null, .null, .null, .int 0]) hC hK inG7 tyX7 tyX7_ok qC_L_7 qNew_X7 qInit_X7 rfl (fun j hj => by rcases (by omega : j = 0 ∨ j = 1 ∨ j = 2 ∨ j = 3 ∨ j = 4 ∨ j = 5) with rfl | rfl | rfl | rfl | rfl | rfl <;> rfl) hS hA (Nat.le_of_ble_eq_true rfl) (Nat.le_of_ble_eq_true rfl) dL_law_0 (fun H1 z1 o1 hA1 hat hS => ?_)
  have hH1 := hp.mk1 hA1 hat
  refine lv_dup hx hb dL_law_3 rfl ?_
  refine cg_I (As' := []) (rest := [.ref s.heap.size]) hC c_X7_init mi_X7 qM_L_9 ⟨⟨rfl, rfl⟩, Nat.le_of_ble_eq_true rfl, Nat.le_of_ble_eq_true rfl⟩ hK hH1 hS hA hl.1 ⟨Nat.le_of_ble_eq_true rfl, Nat.le_of_ble_eq_true rfl⟩ rfl rfl (Nat.le_of_ble_eq_true rfl) dL_law_4 (fun v N' ad ct H locs hpo hH hS hz hk => ?_)
  obtain ⟨rfl, rfl, h0, rfl⟩ := hpo
  have hH := hH.mono (B := (fun q : Nat => s.heap.size ≤ q)) (fun _ _ _ _ h => h.1)
  refine lv_astore_n (lv' := [(1, .ref s.heap.size), (0, .ref b)]) hx hb dL_law_7 rfl hl (by decide) rfl (fun ls hl => ?_)
  refine g_new (ci := 6) (fs := [.null, .null, .null, .null, .null, .null, .int 0, .null, .int 0, .int 0, .long 0, .double 0, .null, .null, .null, .null, .null]) hC hK inG8 tyX8 tyX8_ok qC_L_10 qNew_X8 qInit_X8 rfl (fun j hj => by rcases (by omega : j = 0 ∨ j = 1 ∨ j = 2 ∨ j = 3 ∨ j = 4 ∨ j = 5 ∨ j = 6 ∨ j = 7 ∨ j = 8 ∨ j = 9 ∨ j = 10 ∨ j = 11 ∨ j = 12 ∨ j = 13 ∨ j = 14 ∨ j = 15 ∨ j = 16) with rfl | rfl | rfl | rfl | rfl | rfl | rfl | rfl | rfl | rfl | rfl | rfl | rfl | rfl | rfl | rfl | rfl <;> rfl) hS hA (Nat.le_of_ble_eq_true rfl) (Nat.le_of_ble_eq_true rfl) dL_law_8 (fun H2 z2 o2 hA2 hat2 hS => ?_)
  have hHk := hH.kept (H1 := H2) (fun i x hi hx9 => o2 _ (hH.lt hi hx9))
  have hlt0 : ∀ i x, i < 30 + 2 * P0.n → hct cy ad P0 0 (fun _ => (-1, 0, 0, 0)) (fun k => k) (fun _ => 0) i = some x → ad i < H.size := fun i x hi hx9 => hH.lt hi hx9
  have hH2 := hp.mk1 hA2 hat2
  refine lv_dup hx hb dL_law_11 rfl ?_
  refine cg_I (As' := []) (rest := [.ref H.size]) hC c_X8_init mi_X8 qM_L_12 ⟨⟨rfl, rfl⟩, Nat.le_of_ble_eq_true rfl, Nat.le_of_ble_eq_true rfl⟩ hK hH2 hS hA hl.1 ⟨Nat.le_of_ble_eq_true rfl, Nat.le_of_ble_eq_true rfl⟩ rfl rfl (Nat.le_of_ble_eq_true rfl) dL_law_12 (fun v N' ad2 ct H3 locs3 hpo hH3 hS hz3 hk3 => ?_)
  obtain ⟨rfl, rfl, h2, rfl⟩ := hpo
  have hHf := hHk.beside hk3 (fun i j x x' hi hx9 hj hx' h9 => by have := hlt0 i x hi hx9; have h8 : ad i = H.size := h9; omega)
  have hdj : DJ (30 + 2 * P0.n) ad (hct cy ad P0 0 (fun _ => (-1, 0, 0, 0)) (fun k => k) (fun _ => 0)) 13 ad2 (mct cy ad2 P0 0 0 0 0 (fun _ => 0) (fun _ => 0) (fun _ => 0) (fun _ => 0) (fun _ => 0)) := by
    intro i j x x' hi hx9 hj hx' h9
    have h8 := hlt0 i x hi hx9
    rcases (hH3.2 j x' hj hx').1.2 with ⟨i0, _, _, _, hq⟩ | hq
    · have hq' : ad2 j = H.size := hq
      omega
    · omega
  have hH3 := hH3.mono (B := (fun q : Nat => s.heap.size ≤ q)) (fun _ _ _ _ h => h.1)
  refine lv_astore_n (lv' := [(2, .ref H.size), (1, .ref s.heap.size), (0, .ref b)]) hx hb dL_law_15 rfl hl (by decide) rfl (fun ls hl => ?_)
  refine lv_iconst (v := 0) hx hb dL_law_16 (by decide) ?_
  refine lv_istore_n (lv' := lwLv 0 H.size s.heap.size b) hx hb dL_law_17 rfl hl (by decide) rfl (fun ls hl => ?_)
  refine W.widen (k := 43 + 2 * 0) (n := 26490 + 26 * 0) (Nat.le_of_ble_eq_true rfl) (Nat.le_of_ble_eq_true rfl) ?_
  exact law_loop hL C0 hK (L + 1) 0 (by omega) (Nat.zero_le _) P0 0 _ _ ls OK_P0 (Nat.le_refl _) ⟨ad, _, _, _, ad2, _, _, _, _, _, _, _, _, h0, h2, HI_P0, hHf, hH3, hdj⟩ hS hl
