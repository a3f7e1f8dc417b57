/-! THE LAW: two worlds side by side -/
theorem ptN_n (P : AS) (t : Nat) (pos : Nat → Nat) (v : Nat → Int64 × UInt64) : ∀ k, (ptN P t pos v k).n = P.n
  | 0 => rfl
  | k + 1 => ptN_n P t pos v k
theorem n_lay (P : AS) (c d : Int32) : (sp_lay P c d).2.1.n = P.n := by unfold sp_lay; split <;> rfl
theorem n_places (P : AS) (c : Int32) : (sp_places P c).2.1.n = P.n := by
  unfold sp_places
  repeat' split
  all_goals rfl
theorem n_kind (P : AS) (c : Int32) : (sp_kind P c).2.1.n = P.n := by
  unfold sp_kind
  repeat' split
  all_goals rfl
theorem n_tag (P : AS) (c : Int32) : (sp_tag P c).2.1.n = P.n := by
  unfold sp_tag
  repeat' split
  all_goals rfl
theorem n_load (P : AS) (c : Int32) : (sp_load P c).2.1.n = P.n := by
  unfold sp_load
  repeat' split
  all_goals rfl
theorem n_put (P : AS) (c i k a b : Int32) : (sp_put P c i k a b).2.1.n = P.n := by
  unfold sp_put
  repeat' split
  all_goals rfl
theorem n_putThing (P : AS) (c i d : Int32) : (sp_putThing P c i d).2.1.n = P.n := by
  unfold sp_putThing
  repeat' split
  all_goals rfl
theorem n_number (P : AS) (c i k : Int32) : (sp_number P c i k).2.1 = P := by
  unfold sp_number
  repeat' split
  all_goals rfl
theorem n_point (P : AS) (c i k : Int32) : (sp_point P c i k).2.1 = P := by
  unfold sp_point
  repeat' split
  all_goals rfl
theorem n_what (P : AS) (c i : Int32) : (sp_what P c i).2.1 = P := by
  unfold sp_what
  repeat' split
  all_goals rfl
theorem p_places (P : AS) (c : Int32) : (sp_places P c).2.1 = P := by
  unfold sp_places
  repeat' split
  all_goals rfl
theorem p_kind (P : AS) (c : Int32) : (sp_kind P c).2.1 = P := by
  unfold sp_kind
  repeat' split
  all_goals rfl
theorem p_tag (P : AS) (c : Int32) : (sp_tag P c).2.1 = P := by
  unfold sp_tag
  repeat' split
  all_goals rfl
theorem p_load (P : AS) (c : Int32) : (sp_load P c).2.1 = P := by
  unfold sp_load
  repeat' split
  all_goals rfl
theorem n_take (P : AS) (c i d : Int32) : (sp_take P c i d).2.1.n = P.n := by
  unfold sp_take
  repeat' split
  all_goals rfl
theorem n_move (P : AS) (wy : Int32) (f t : Nat) (fr tt : Nat → Int32) (n : Nat) : (sp_move P wy f t fr tt n).2.1.n = P.n := by
  unfold sp_move
  split
  · show (mvW P f t fr tt n).n = _
    rw [← pt_mv]; exact ptN_n _ _ _ _ _
  · rfl
theorem n_copy (P : AS) (c d : Int32) : (sp_copy P c d).2.1.n = P.n := by
  unfold sp_copy
  repeat' split
  all_goals first | rfl | exact n_move _ _ _ _ _ _ _
theorem n_gather (P : AS) (c x d : Int32) : (sp_gather P c x d).2.1.n = P.n := by
  unfold sp_gather
  repeat' split
  all_goals first | rfl | exact n_move _ _ _ _ _ _ _
theorem n_scatter (P : AS) (c x d : Int32) : (sp_scatter P c x d).2.1.n = P.n := by
  unfold sp_scatter
  repeat' split
  all_goals first | rfl | exact n_move _ _ _ _ _ _ _
theorem n_merge (P : AS) (c d e : Int32) : (sp_merge P c d e).2.1.n = P.n := by
  unfold sp_merge
  repeat' split
  all_goals first | rfl | exact (mgW_same _ _ _ _ _).1
theorem n_sort (P : AS) (c : Int32) : (sp_sort P c).2.1.n = P.n := by
  unfold sp_sort
  repeat' split
  all_goals first | rfl | exact (bubO_same _ _ _).1
theorem n_turn (P : AS) (c n : Int32) : (sp_turn P c n).2.1.n = P.n := by
  unfold sp_turn
  repeat' split
  all_goals first | rfl | (show (trW _ _ _ _).n = _; rw [← pt_tr]; exact ptN_n _ _ _ _ _)
theorem p_sum (P : AS) (c : Int32) : (sp_sum P c).2.1 = P := by
  unfold sp_sum
  repeat' split
  all_goals rfl
theorem p_total (P : AS) (c : Int32) : (sp_total P c).2.1 = P := by
  unfold sp_total
  repeat' split
  all_goals rfl
theorem p_find (P : AS) (c i k a b : Int32) : (sp_find P c i k a b).2.1 = P := by
  unfold sp_find
  repeat' split
  all_goals rfl
theorem p_alike (P : AS) (c d : Int32) : (sp_alike P c d).2.1 = P := by
  unfold sp_alike
  repeat' split
  all_goals rfl
theorem vn_point {P : AS} (h : OKP P) (c i k : Int32) : vf_n64 (sp_point P c i k).1 := by
  unfold sp_point
  split
  · split
    · exact (gd_wdn (h.2.2.1 _ _)).1
    · exact gd_0.1
  · exact gd_0.1
theorem vn_total {P : AS} (h : OKP P) (c : Int32) : vf_n64 (sp_total P c).1 := by
  unfold sp_total
  split
  · split
    · split
      · exact suD_n h.2.2.1 _ _
      · exact gd_0.1
    · exact gd_0.1
  · exact gd_0.1
theorem dcmp_same {x : UInt64} (h : vf_n64 x) : Op.cmpValue (FP.dcmp x x) CmpOp.l = 0 := by
  rw [show FP.dcmp x x = some .eq from FP.Core.dcmp_refl (nf64.mp h)]; rfl
/-- no cell is in both -/
def DJ (N : Nat) (ad : Nat → Nat) (ct : Nat → Option va_E) (N2 : Nat) (ad2 : Nat → Nat) (ct2 : Nat → Option va_E) : Prop := ∀ (i j : Nat) (e e' : va_E), i < N → ct i = some e → j < N2 → ct2 j = some e' → ad i ≠ ad2 j
/-- the house in the state P, the model in the state P2 -/
def lw2 (D : va_G) (cy : Nat → ClassId) (A : Nat → Prop) (P : AS) (wy : Int32) (P2 : AS) (wy2 : Int32) (q0 q2 : Nat) (H : Heap) : Prop :=
  ∃ (ad : Nat → Nat) (cl : Nat → CE) (st : Nat → Nat) (tg : Nat → Int32) (ad2 : Nat → Nat) (so : Int32) (w : Int64) (r : UInt64) (ns : Nat → Int32) (nw : Nat → Int64) (nr : Nat → UInt64) (fr tt : Nat → Int32),
    ad 0 = q0 ∧ ad2 0 = q2 ∧ HI P cl st ∧ hp D A (30 + 2 * P.n) ad (hct cy ad P wy cl st tg) H ∧ hp D A 13 ad2 (mct cy ad2 P2 wy2 so w r ns nw nr fr tt) H ∧ DJ (30 + 2 * P.n) ad (hct cy ad P wy cl st tg) 13 ad2 (mct cy ad2 P2 wy2 so w r ns nw nr fr tt)
def hNo (cy : Nat → ClassId) (ad : Nat → Nat) (V : Value) (P' : AS) (wy' : Int32) : Option Value → Nat → (Nat → Nat) → (Nat → Option va_E) → Prop := fun v N' ad' c' => v = some V ∧ N' = 30 + 2 * P'.n ∧ ad' 0 = ad 0 ∧ ∃ (cl : Nat → CE) (st : Nat → Nat) (tg : Nat → Int32), c' = hct cy ad' P' wy' cl st tg ∧ HI P' cl st
def mNo (cy : Nat → ClassId) (ad : Nat → Nat) (V : Value) (P' : AS) (wy' : Int32) : Option Value → (Nat → Option va_E) → Prop := fun v c' => v = some V ∧ ∃ (so : Int32) (w : Int64) (r : UInt64) (ns : Nat → Int32) (nw : Nat → Int64) (nr : Nat → UInt64) (fr tt : Nat → Int32), c' = mct cy ad P' wy' so w r ns nw nr fr tt
section NORM
variable {l : Launch} {y : MethodName} {bs : ByteArray} {mL : Nat} {ret : Option FieldType} {rm : Room} {D : va_G} {cy : Nat → ClassId} {N mc ms : Nat} {ad : Nat → Nat} {av : List Value} {ct : Nat → Option va_E} {P : AS}
theorem CG.mono {post post' : Option Value → Nat → (Nat → Nat) → (Nat → Option va_E) → Prop} (h : CG l y bs mL ret rm D cy mc ms N ad av ct post) (hp : ∀ v N' ad' ct', post v N' ad' ct' → post' v N' ad' ct') : CG l y bs mL ret rm D cy mc ms N ad av ct post' := by
  intro sz p e ha hc hk s m args below hf happ hpre hT
  obtain ⟨k, o, h1, h2, h3, ⟨⟨v, N', ad', ct', hv, hpo, hb⟩, hz⟩, hL⟩ := h sz p e ha hc hk s m args below hf happ hpre hT
  exact ⟨k, o, h1, h2, h3, ⟨⟨v, N', ad', ct', hv, hp v N' ad' ct' hpo, hb⟩, hz⟩, hL⟩
theorem CX.toN {x : Int32 × AS × Int32} (h : CX l y bs mL ret rm D cy (30 + 2 * P.n) ad av ct (hpost cy ad x)) (hn : x.2.1.n = P.n) : CG l y bs mL ret rm D cy 0 0 (30 + 2 * P.n) ad av ct (hNo cy ad (.int x.1) x.2.1 x.2.2) :=
  (CX.cg h).mono (fun v N' ad' ct' ⟨e1, e2, e3, cl, st, tg, e4, e5⟩ => ⟨e3, by rw [e1, hn], by rw [e2], cl, st, tg, by rw [e2]; exact e4, e5⟩)
theorem CX.toNL {x : Int64 × AS × Int32} (h : CX l y bs mL ret rm D cy (30 + 2 * P.n) ad av ct (hpostL cy ad x)) (hn : x.2.1.n = P.n) : CG l y bs mL ret rm D cy 0 0 (30 + 2 * P.n) ad av ct (hNo cy ad (.long x.1) x.2.1 x.2.2) :=
  (CX.cg h).mono (fun v N' ad' ct' ⟨e1, e2, e3, cl, st, tg, e4, e5⟩ => ⟨e3, by rw [e1, hn], by rw [e2], cl, st, tg, by rw [e2]; exact e4, e5⟩)
theorem CX.toND {x : UInt64 × AS × Int32} (h : CX l y bs mL ret rm D cy (30 + 2 * P.n) ad av ct (hpostD cy ad x)) (hn : x.2.1.n = P.n) : CG l y bs mL ret rm D cy 0 0 (30 + 2 * P.n) ad av ct (hNo cy ad (.double x.1) x.2.1 x.2.2) :=
  (CX.cg h).mono (fun v N' ad' ct' ⟨e1, e2, e3, cl, st, tg, e4, e5⟩ => ⟨e3, by rw [e1, hn], by rw [e2], cl, st, tg, by rw [e2]; exact e4, e5⟩)
theorem CG.toN {x : Int32 × AS × Int32} (h : CG l y bs mL ret rm D cy mc ms (30 + 2 * P.n) ad av ct (hG cy ad P x)) : CG l y bs mL ret rm D cy mc ms (30 + 2 * P.n) ad av ct (hNo cy ad (.int x.1) x.2.1 x.2.2) :=
  h.mono (fun v N' ad' ct' ⟨e1, e2, e3, cl, st, tg, e4, e5⟩ => ⟨e3, e1, e2 0 (by omega), cl, st, tg, e4, e5⟩)
theorem CM.toN {V : Value} {wy : Int32} {cl : Nat → CE} {st : Nat → Nat} {tg : Nat → Int32} (h : CM l y bs mL ret rm D cy (30 + 2 * P.n) ad av ct (some V) (hct cy ad P wy cl st tg)) (hI : HI P cl st) : CG l y bs mL ret rm D cy 0 0 (30 + 2 * P.n) ad av ct (hNo cy ad V P wy) :=
  (CM.cg h).mono (fun v N' ad' ct' ⟨e1, e2, e3, e4⟩ => ⟨e3, e1, by rw [e2], cl, st, tg, by rw [e2]; exact e4, hI⟩)
end NORM
section LAWK
variable {p : Program} {l : Launch} {e : Env} {R : Room} {s : State} {m : MethodId} {args : Array Value} {below : List Frame} {meth : Method} {c : Code} {H : Heap} {locs : List Loc} {cells slots mc ms : Nat} {Q : State → Prop}
variable {cc : ByteArray} {pc : Nat} {ls : Array Slot} {rest st0 : List Value} {D : va_G} {cy : Nat → ClassId} {A : Nat → Prop} {nL : Nat} {H0 : Heap} {own : String}
variable {y : MethodName} {bs : ByteArray} {mL n index : Nat} {ret : Option FieldType} {rm : Room} {As : List Value} {P P2 P' : AS} {wy wy2 wy' : Int32} {q0 q2 : Nat} {V : Value}
theorem lw_house (hC : CallFix p m c cc nL s args gtbl own) (hK : kx D cy s) (S : lw2 D cy A P wy P2 wy2 q0 q2 H) (hS : va_S A H0 H locs) (hA : ∀ q, H0.size ≤ q → A q)
    (hM : ∀ (ad : Nat → Nat) (cl : Nat → CE) (st : Nat → Nat) (tg : Nat → Int32), HI P cl st → CG l y bs mL ret rm D cy mc ms (30 + 2 * P.n) ad (.ref (ad 0) :: As) (hct cy ad P wy cl st tg) (hNo cy ad V P' wy'))
    (ho : mvok RX7 y bs mL ret n) (hlk : Cond.methodLink own index y ∈ gtbl) (hR : (rm.cells = mc ∧ rm.slots = ms) ∧ rm.frames + 1 ≤ R.frames ∧ 8 + (mL + 11) + rm.locals ≤ R.locals)
    (hsize : ls.size = nL) (hf : cells + mc ≤ R.cells ∧ slots + ms ≤ R.slots) (hn : As.length = n) (hst : st0 = As.reverse ++ .ref q0 :: rest) (hW : (rest.map fun v => v.category).sum ≤ 8) (hdg : decode cc pc = .ok (.invokevirtual index, 3))
    (kk : ∀ (H1 : Heap) (locs1 : List Loc), lw2 D cy A P' wy' P2 wy2 q0 q2 H1 → va_S A H0 H1 locs1 → W p l e R s m args below meth c H1 locs1 (cells + mc) (slots + ms) Q (F0 m (pc + 3) ls (V :: rest))) : W p l e R s m args below meth c H locs cells slots Q (F0 m pc ls st0) := by
  obtain ⟨ad, cl, st, tg, ad2, so, w, r, ns, nw, nr, fr, tt, h0, h2, hI, hH, hH2, hd⟩ := S
  subst h0
  refine cg_V (As' := As) hC (hM ad cl st tg hI) ho hlk hR hK hH hS hA (hp.recv hK hH (i := 0) (by omega) rfl rfl) hsize hf hn hst hW hdg (fun v N' ad' ct' H1 locs1 hpo hH1 hS1 hz1 hk1 => ?_)
  obtain ⟨rfl, rfl, e0, cl', st', tg', rfl, hI'⟩ := hpo
  refine kk H1 locs1 ⟨ad', cl', st', tg', ad2, so, w, r, ns, nw, nr, fr, tt, e0, h2, hI', hH1.mono (fun _ _ _ _ h => h.1), hH2.beside hk1 (fun i j x x' hi hx hj hx' h9 => hd j i x' x hj hx' hi hx h9.symm), fun i j x x' hi hx hj hx' h9 => ?_⟩ hS1
  have hlt := hH2.lt hj hx'
  rcases (hH1.2 i x hi hx).1.2 with ⟨i0, e0', hi0, he0, hq⟩ | hq
  · exact hd i0 j e0' x' hi0 he0 hj hx' (hq.symm.trans h9)
  · omega
theorem lw_model (hC : CallFix p m c cc nL s args gtbl own) (hK : kx D cy s) (S : lw2 D cy A P wy P2 wy2 q0 q2 H) (hS : va_S A H0 H locs) (hA : ∀ q, H0.size ≤ q → A q)
    (hM : ∀ (ad : Nat → Nat) (so : Int32) (w : Int64) (r : UInt64) (ns : Nat → Int32) (nw : Nat → Int64) (nr : Nat → UInt64) (fr tt : Nat → Int32), CX l y bs mL ret rm D cy 13 ad (.ref (ad 0) :: As) (mct cy ad P2 wy2 so w r ns nw nr fr tt) (mNo cy ad V P' wy'))
    (ho : mvok RX8 y bs mL ret n) (hlk : Cond.methodLink own index y ∈ gtbl) (hR : (rm.cells = 0 ∧ rm.slots = 0) ∧ rm.frames + 1 ≤ R.frames ∧ 8 + (mL + 11) + rm.locals ≤ R.locals)
    (hsize : ls.size = nL) (hf : cells ≤ R.cells ∧ slots ≤ R.slots) (hn : As.length = n) (hst : st0 = As.reverse ++ .ref q2 :: rest) (hW : (rest.map fun v => v.category).sum ≤ 8) (hdg : decode cc pc = .ok (.invokevirtual index, 3))
    (kk : ∀ (H1 : Heap) (locs1 : List Loc), lw2 D cy A P wy P' wy' q0 q2 H1 → va_S A H0 H1 locs1 → W p l e R s m args below meth c H1 locs1 cells slots Q (F0 m (pc + 3) ls (V :: rest))) : W p l e R s m args below meth c H locs cells slots Q (F0 m pc ls st0) := by
  obtain ⟨ad, cl, st, tg, ad2, so, w, r, ns, nw, nr, fr, tt, h0, h2, hI, hH, hH2, hd⟩ := S
  subst h2
  refine cg_V (As' := As) hC (CX.cg (hM ad2 so w r ns nw nr fr tt)) ho hlk hR hK hH2 hS hA (hp.recv hK hH2 (i := 0) (by omega) rfl rfl) hsize hf hn hst hW hdg (fun v N' ad' ct' H1 locs1 hpo hH1 hS1 hz1 hk1 => ?_)
  obtain ⟨rfl, rfl, rfl, so', w', r', ns', nw', nr', fr', tt', rfl⟩ := hpo
  refine kk H1 locs1 ⟨ad, cl, st, tg, ad', so', w', r', ns', nw', nr', fr', tt', h0, rfl, hI, hH.beside hk1 (fun i j x x' hi hx hj hx' => hd i j x x' hi hx hj hx'), hH1.mono (fun _ _ _ _ h => h.1), fun i j x x' hi hx hj hx' h9 => ?_⟩ hS1
  have hlt := hH.lt hi hx
  rcases (hH1.2 j x' hj hx').1.2 with ⟨i0, e0', hi0, he0, hq⟩ | hq
  · exact hd i i0 x e0' hi hx hi0 he0 (h9.trans hq)
  · omega
/-- the law's argument k of its t-th call -/
theorem lw_arg {b L : Nat} {xs : Nat → Int32} {lv : List (Nat × Value)} {nI0 : Int} (hC : CallFix p m c cc nL s args gtbl own) (hX : va_X b L xs s H0) (hbl : b < H0.size) (hbA : ¬ A b) (hS : va_S A H0 H locs) (hl : lv_has ls nL lv) {t : Nat} (k : Nat) {i0 i3 : Nat} (h0 : lv[i0]? = some (0, .ref b)) (h3 : lv[i3]? = some (3, .int (nI (6 * t)))) (hk : k ≤ 5) (ht : 6 * t + 6 ≤ L) (hL : L ≤ 3072) (hn : Int32.ofInt nI0 = nI k)
    (d0 : decode cc pc = .ok (.aload_n 0, 1)) (d1 : decode cc (pc + 1) = .ok (.iload_n 3, 1)) (d2 : decode cc (pc + 1 + 1) = .ok (.iconst nI0, 1)) (d3 : decode cc (pc + 1 + 1 + 1) = .ok (.iadd, 1)) (d4 : decode cc (pc + 1 + 1 + 1 + 1) = .ok (.iaload, 1))
    (kk : W p l e R s m args below meth c H locs cells slots Q (F0 m (pc + 1 + 1 + 1 + 1 + 1) ls (.int (xs (6 * t + k)) :: rest))) : W p l e R s m args below meth c H locs cells slots Q (F0 m pc ls rest) := by
  refine lv_aload_n hC.1 hC.2.1 d0 rfl (lv_at hl i0 h0) ?_
  refine lv_iload_n hC.1 hC.2.1 d1 rfl (lv_at hl i3 h3) ?_
  refine lv_iconst (v := nI k) hC.1 hC.2.1 d2 hn ?_
  refine lv_iadd hC.1 hC.2.1 d3 ?_
  refine lv_chg (y := nI (6 * t + k)) (nI_add _ _) ?_
  refine va_sld hC.1 hC.2.1 hX hbl hbA hS (vp_in_nI (show 6 * t + k < L by omega) (by omega)) d4 ?_
  rw [nI_clamp (by omega)]
  exact kk
end LAWK
theorem HI_P0 : HI P0 (fun _ => (-1, 0, 0, 0)) (fun k => k) := ⟨fun j _ => ⟨Or.inl rfl, Nat.le_refl _⟩, fun k hk => hk, fun a b _ _ h => h⟩
theorem OK_P0 : OKP P0 := by
  refine ⟨⟨fun _ => Nat.zero_le _, fun _ => Nat.zero_le _, Nat.zero_le _, fun _ => Nat.le_refl _, fun t i h => ?_⟩, fun t i => ⟨fun _ => rfl, fun _ => rfl⟩, fun a b => gd_0, fun t i _ => ⟨rfl, rfl⟩⟩
  have h' : 8 ≤ (0 : Nat) := h
  omega
/-- what the tables say at the law's start -/
theorem kx_start {s : State} {args : Array Value} (hts : ∀ w ∈ lw_tbl, w.before args s = true) (hgv : (Jvm.Cond.and given_1 narrow_1).before args s = true) : ∃ (D : va_G) (cy : Nat → ClassId), kx D cy s := by
  have ht := gt_sub hts
  have hs := flat_of_before _ hgv
  obtain ⟨c0, i0, k0⟩ := u_known (C := RX0) (T := TX0) (N := 2) (n := 2) ht inG0 (ht _ qNew_X0)
  obtain ⟨c1, i1, k1⟩ := u_known (C := RX1) (T := TX1) (N := 4) (n := 4) ht inG1 (ht _ qNew_X1)
  obtain ⟨c2, i2, k2⟩ := u_known (C := RX2) (T := TX2) (N := 2) (n := 2) ht inG2 (ht _ qNew_X2)
  obtain ⟨c3, i3, k3⟩ := u_known (C := RX5) (T := TX5) (N := 2) (n := 2) ht inG5 (ht _ qNew_X5)
  obtain ⟨c4, i4, k4⟩ := u_known (C := RX6) (T := TX6) (N := 2) (n := 2) ht inG6 (ht _ qNew_X6)
  obtain ⟨c5, i5, k5⟩ := u_known (C := RX7) (T := TX7) (N := 6) (n := 6) ht inG7 (ht _ qNew_X7)
  obtain ⟨c6, i6, k6⟩ := u_known (C := RX8) (T := TX8) (N := 17) (n := 17) ht inG8 (ht _ qNew_X8)
  obtain ⟨D, hD⟩ : ∃ D : va_G, ∀ (k : Nat) (q : vw_C), vwCl[k]? = some q → u_Kn s q.1 q.2.1 q.2.2 (D.1 k) (D.2 k) := by
    refine ⟨(fun k => if k = 0 then c0 else if k = 1 then c1 else if k = 2 then c2 else if k = 3 then c3 else if k = 4 then c4 else if k = 5 then c5 else c6, fun k => if k = 0 then i0 else if k = 1 then i1 else if k = 2 then i2 else if k = 3 then i3 else if k = 4 then i4 else if k = 5 then i5 else i6), ?_⟩
    intro k q hq
    match k, hq with
    | 0, hq => cases hq; exact k0
    | 1, hq => cases hq; exact k1
    | 2, hq => cases hq; exact k2
    | 3, hq => cases hq; exact k3
    | 4, hq => cases hq; exact k4
    | 5, hq => cases hq; exact k5
    | 6, hq => cases hq; exact k6
    | k + 7, hq => simp [vwCl] at hq
  obtain ⟨a0, b0, d0, e1, e2, e3⟩ := Cond.arrayClass_spec (ht _ qA_int)
  obtain ⟨a1, b1, d1, f1, f2, f3⟩ := Cond.arrayClass_spec (ht _ qA_long)
  obtain ⟨a2, b2, d2, g1, g2, g3⟩ := Cond.arrayClass_spec (ht _ qA_double)
  have o1 : va_AO RX1 s := va_AO.of (hts (.arrayOver (.object RX1)) (by decide +kernel))
  have o4 : va_AO RX4 s := va_AO.of (hts (.arrayOver (.object RX4)) (by decide +kernel))
  obtain ⟨d3, a3, b3, h1, h2, h3, h4, h5⟩ := Cond.arrayOver_spec o1
  obtain ⟨d4, a4, b4, j1, j2, j3, j4, j5⟩ := Cond.arrayOver_spec o4
  refine ⟨D, fun k => if k = 0 then a0 else if k = 1 then a1 else if k = 2 then a2 else if k = 3 then a3 else a4, ⟨hD, fun k q hq => ?_⟩, fun w hw => va_Nw.of (by have := nwL_kind w hw; cases w <;> first | (cases this; done) | rfl) (hts w (nwL_in w hw)), ⟨o1, o4⟩, va_Nc.of (hs (.not (.castable RX0 RX3)) (by decide +kernel)), va_Nc.of (hs (.not (.castable RX2 RX0)) (by decide +kernel)), va_Nc.of (hs (.not (.castable RX5 RX0)) (by decide +kernel)), va_Nc.of (hs (.not (.castable RX6 RX0)) (by decide +kernel))⟩
  match k, hq with
  | 0, hq => cases hq; exact ⟨fun n z => ⟨fun k h => (by cases h), b0, e2, d0, e3⟩, e1⟩
  | 1, hq => cases hq; exact ⟨fun n z => ⟨fun k h => (by cases h), b1, f2, d1, f3⟩, f1⟩
  | 2, hq => cases hq; exact ⟨fun n z => ⟨fun k h => (by cases h), b2, g2, d2, g3⟩, g1⟩
  | 3, hq => cases hq; exact ⟨fun n z => ⟨fun k h => (by cases h), b3, h3, d3, h4⟩, b3, d3, h3, h4, h1, h5⟩
  | 4, hq => cases hq; exact ⟨fun n z => ⟨fun k h => (by cases h), b4, j3, d4, j4⟩, b4, d4, j3, j4, j1, j5⟩
  | k + 5, hq => simp [cy_tys] at hq
