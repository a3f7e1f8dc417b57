/-! WORLDS THAT GROW -/
theorem hp.grow {D : va_G} {A : Nat → Prop} {N N' : Nat} {ad ad' : Nat → Nat} {ct ct' : Nat → Option va_E} {H H1 : Heap} (h : hp D A N ad ct H) (keep : ∀ q : Nat, q < H.size → H1[q]? = H[q]?)
    (hold : ∀ (i : Nat) (e' : va_E), i < N' → ct' i = some e' → (i < N ∧ ad' i = ad i ∧ ∃ e, ct i = some e ∧ (va_at D vwCl (ad i, e) H → va_at D vwCl (ad i, e') H)) ∨ (H.size ≤ ad' i ∧ A (ad' i) ∧ va_at D vwCl (ad' i, e') H1))
    (hnew : ∀ (i j : Nat) (e e' : va_E), i < N' → j < N' → ct' i = some e → ct' j = some e' → H.size ≤ ad' i → ad' i = ad' j → i = j) : hp D A N' ad' ct' H1 := by
  refine ⟨fun i j e e' hi hj he he' hij => ?_, fun i e' hi he' => ?_⟩
  · rcases hold i e hi he with ⟨a1, a2, x, a3, -⟩ | ⟨a1, -⟩
    · rcases hold j e' hj he' with ⟨b1, b2, y, b3, -⟩ | ⟨b1, -⟩
      · exact h.1 i j x y a1 b1 a3 b3 (by rw [← a2, ← b2]; exact hij)
      · exact (hnew j i e' e hj hi he' he b1 hij.symm).symm
    · exact hnew i j e e' hi hj he he' a1 hij
  · rcases hold i e' hi he' with ⟨a1, a2, x, a3, a4⟩ | ⟨a1, a2, a3⟩
    · obtain ⟨g1, g2⟩ := h.2 i x a1 a3
      rw [a2]
      exact ⟨g1, (a4 g2).kept (keep _ g2.lt)⟩
    · exact ⟨a2, a3⟩
theorem hp.lt {D : va_G} {A : Nat → Prop} {N : Nat} {ad : Nat → Nat} {ct : Nat → Option va_E} {H : Heap} (h : hp D A N ad ct H) {i : Nat} {e : va_E} (hi : i < N) (he : ct i = some e) : ad i < H.size := (h.2 i e hi he).2.lt
/-- a world beside a call that doesn't reach it -/
theorem hp.beside {D : va_G} {A : Nat → Prop} {N N0 : Nat} {ad ad0 : Nat → Nat} {ct ct0 : Nat → Option va_E} {H H1 : Heap} (h : hp D A N ad ct H) (hk : ∀ q : Nat, q < H.size → ¬ cA N0 ad0 ct0 H.size q → H1[q]? = H[q]?)
    (hd : ∀ (i j : Nat) (e e' : va_E), i < N → ct i = some e → j < N0 → ct0 j = some e' → ad i ≠ ad0 j) : hp D A N ad ct H1 :=
  h.kept (fun i e hi he => hk _ (h.lt hi he) (fun z => by
    rcases z with ⟨j, e', hj, he', hq⟩ | z
    · exact hd i j e e' hi he hj he' hq
    · have := h.lt hi he; omega))
def CG (l : Launch) (y : MethodName) (bs : ByteArray) (mL : Nat) (ret : Option FieldType) (rm : Room) (D : va_G) (cy : Nat → ClassId) (mc ms : Nat) (N : Nat) (ad : Nat → Nat) (av : List Value) (ct : Nat → Option va_E) (post : Option Value → Nat → (Nat → Nat) → (Nat → Option va_E) → Prop) : Prop :=
  ∀ sz : Nat, Met l y (Cond.code y bs mL ret :: gtbl) rm (va_Pc av (fun U => U.heap.size = sz ∧ hp D (fun _ => True) N ad ct U.heap ∧ kx D cy U))
    (fun _ st o t => (∃ (v : Option Value) (N' : Nat) (ad' : Nat → Nat) (ct' : Nat → Option va_E), o = .returned v ∧ post v N' ad' ct' ∧ hp D (cA N ad ct sz) N' ad' ct' t.heap) ∧ va_F (cA N ad ct sz) st t) mc ms (cA N ad ct sz)
section CGOF
variable {l : Launch} {y : MethodName} {bs : ByteArray} {mL : Nat} {rm : Room} {D : va_G} {cy : Nat → ClassId} {N mc ms : Nat} {ad : Nat → Nat} {av : List Value} {ct : Nat → Option va_E}
theorem CG.start {ret : Option FieldType} {post : Option Value → Nat → (Nat → Nat) → (Nat → Option va_E) → Prop} (hy : plainName y.cls = true) (hav : (lg_sl av).length ≤ mL)
    (body : ∀ (p : Program) (e : Env) (s : State) (m : MethodId) (args : Array Value) (below : List Frame) (meth : Method) (c : Code) (A : Nat → Prop) (ls : Array Slot) (Q : State → Prop), Q = MQ below (fun _ st o t => (∃ (v : Option Value) (N' : Nat) (ad' : Nat → Nat) (ct' : Nat → Option va_E), o = .returned v ∧ post v N' ad' ct' ∧ hp D A N' ad' ct' t.heap) ∧ va_F A st t) args s mc ms A → CallFix p m c bs mL s args gtbl y.cls → meth.sig.returnType = ret → meth.locks = false → (y.name = "<init>" → meth.name = "<init>") → kx D cy s → (∀ q, s.heap.size ≤ q → A q) → hp D A N ad ct s.heap → lv_has ls mL (lv_args 0 av) →
      W p l e rm s m args below meth c s.heap [] 0 0 Q (F0 m 0 ls [])) : CG l y bs mL ret rm D cy mc ms N ad av ct post := by
  intro sz
  refine Met.ofW (cc := bs) (maxL := mL) (ret := ret) hy rfl ?_
  intro p e s m args below meth c s₁ B hml hv
  obtain ⟨rfl, hsz, hP, hK⟩ := hv
  subst hsz
  have hl := lv_entry av (n := mL) hav
  rw [lg_entry_eq]
  refine body p e s m _ below meth c _ _ _ rfl ⟨B.exec, B.bytes, hml, findClass_of_methodNamed B.named, fun w hw => atoms_spec (ws := Cond.code y bs mL ret :: gtbl) B.pre w (List.mem_cons_of_mem _ hw)⟩ B.returns B.notSynchronized (fun h => by rw [← h]; exact (name_of_methodNamed B.named B.method).1) hK (fun q h => Or.inr h) hP.self hl
theorem CX.cg {ret : Option FieldType} {post : Option Value → (Nat → Option va_E) → Prop} (h : CX l y bs mL ret rm D cy N ad av ct post) : CG l y bs mL ret rm D cy 0 0 N ad av ct (fun v N' ad' ct' => N' = N ∧ ad' = ad ∧ post v ct') := by
  intro sz p e ha hc hk s m args below hf happ hpre hT
  obtain ⟨k, o, h1, h2, h3, ⟨⟨v, ct', hv, hpo, hb⟩, hz⟩, hL⟩ := h sz p e ha hc hk s m args below hf happ hpre hT
  exact ⟨k, o, h1, h2, h3, ⟨⟨v, N, ad, ct', hv, ⟨rfl, rfl, hpo⟩, hb⟩, hz⟩, hL⟩
theorem CM.cg {ret : Option FieldType} {r : Option Value} {ct' : Nat → Option va_E} (h : CM l y bs mL ret rm D cy N ad av ct r ct') : CG l y bs mL ret rm D cy 0 0 N ad av ct (fun v N' ad' c' => N' = N ∧ ad' = ad ∧ v = r ∧ c' = ct') :=
  CX.cg (CM.cx (post := fun v c' => v = r ∧ c' = ct') h ⟨rfl, rfl⟩)
end CGOF
section CGCALL
variable {p : Program} {l : Launch} {e : Env} {R : Room} {s : State} {m : MethodId} {args : Array Value} {below : List Frame} {meth : Method} {c : Code} {H : Heap} {locs : List Loc} {cells slots mc ms : Nat} {Q : State → Prop}
variable {cc : ByteArray} {pc : Nat} {ls : Array Slot} {rest st0 : List Value} {D : va_G} {cy : Nat → ClassId} {A : Nat → Prop} {N nL : Nat} {ad : Nat → Nat} {ct ct' : Nat → Option va_E} {H0 : Heap} {own : String}
variable {y : MethodName} {bs : ByteArray} {mL n index : Nat} {ret : Option FieldType} {rm : Room} {As : List Value} {post : Option Value → Nat → (Nat → Nat) → (Nat → Option va_E) → Prop}
theorem cg_go (hr : va_Run p l e R s m args below meth c H locs cells slots mc ms (F0 m pc ls st0) rest (fun st o t => (∃ (v : Option Value) (N' : Nat) (ad' : Nat → Nat) (ct' : Nat → Option va_E), o = .returned v ∧ post v N' ad' ct' ∧ hp D (cA N ad ct H.size) N' ad' ct' t.heap) ∧ va_F (cA N ad ct H.size) st t) (cA N ad ct H.size)) (hH : hp D A N ad ct H) (hS : va_S A H0 H locs) (hA : ∀ q, H0.size ≤ q → A q)
    (kk : ∀ (v : Option Value) (N' : Nat) (ad' : Nat → Nat) (ct' : Nat → Option va_E) (H1 : Heap) (locs1 : List Loc), post v N' ad' ct' → hp D (fun q => A q ∧ cA N ad ct H.size q) N' ad' ct' H1 → va_S A H0 H1 locs1 → H.size ≤ H1.size → (∀ q, q < H.size → ¬ cA N ad ct H.size q → H1[q]? = H[q]?) → W p l e R s m args below meth c H1 locs1 (cells + mc) (slots + ms) Q (F0 m (pc + 3) ls (v.toList ++ rest))) : W p l e R s m args below meth c H locs cells slots Q (F0 m pc ls st0) := by
  intro T hT X
  obtain ⟨v, st₀, t, T', L, h0, X', hL, e1, e2, ⟨⟨v', N', ad', ct', hv, hpo, hb⟩, hz, hk⟩, st⟩ := hr T hT X
  cases hv
  have hfr := hH.free hS hA
  rw [h0] at hz hk
  obtain ⟨t2, a1, b1⟩ := kk v N' ad' ct' T'.heap (locs ++ L) hpo (by rw [e1]; exact hb.mono (fun i e _ _ h => ⟨hfr _ h, h⟩))
    ⟨Nat.le_trans hS.1 (by rw [e1]; exact hz), fun q h1 h2 => by rw [e1, hk q (Nat.lt_of_lt_of_le h1 hS.1) (fun z => h2 (hfr q z))]; exact hS.2.1 q h1 h2, fun q hq => by
      rcases List.mem_append.mp hq with h | h
      · exact hS.2.2 q h
      · exact hfr _ (hL q h)⟩ (by rw [e1]; exact hz) (fun q h1 h2 => by rw [e1]; exact hk q h1 h2) T' rfl X'
  exact ⟨t2, st t2 a1, b1⟩
theorem cg_V {b : Nat} {C : String} {As' : List Value} (hC : CallFix p m c cc nL s args gtbl own) (hM : CG l y bs mL ret rm D cy mc ms N ad (.ref b :: As') ct post) (ho : mvok C y bs mL ret n) (hlk : Cond.methodLink own index y ∈ gtbl) (hR : (rm.cells = mc ∧ rm.slots = ms) ∧ rm.frames + 1 ≤ R.frames ∧ 8 + (mL + 11) + rm.locals ≤ R.locals) (hK : kx D cy s) (hH : hp D A N ad ct H) (hS : va_S A H0 H locs) (hA : ∀ q, H0.size ≤ q → A q)
    (hrc : ∃ cell : Cell, H[b]? = some cell ∧ cell.vm.isStatics = false ∧ s.vm.findClass C = some cell.cls)
    (hsize : ls.size = nL) (hf : cells + mc ≤ R.cells ∧ slots + ms ≤ R.slots) (hn : As'.length = n) (hst : st0 = As'.reverse ++ .ref b :: rest) (hW : (rest.map fun v => v.category).sum ≤ 8) (hdg : decode cc pc = .ok (.invokevirtual index, 3))
    (kk : ∀ (v : Option Value) (N' : Nat) (ad' : Nat → Nat) (ct' : Nat → Option va_E) (H1 : Heap) (locs1 : List Loc), post v N' ad' ct' → hp D (fun q => A q ∧ cA N ad ct H.size q) N' ad' ct' H1 → va_S A H0 H1 locs1 → H.size ≤ H1.size → (∀ q, q < H.size → ¬ cA N ad ct H.size q → H1[q]? = H[q]?) → W p l e R s m args below meth c H1 locs1 (cells + mc) (slots + ms) Q (F0 m (pc + 3) ls (v.toList ++ rest))) : W p l e R s m args below meth c H locs cells slots Q (F0 m pc ls st0) := by
  obtain ⟨h1, h2, h3, h4, hd⟩ := ho
  subst hst
  refine cg_go (va_runV (As := As') (rest := rest) hC (hM H.size) (cwV n hC.2.2.2.2 (gw_code h1 (fun w hw => ?_)) rfl hR.1.1 hR.1.2 hd hR.2) ⟨cm_blind, hrc, cm_pre hK hH⟩ rfl hn hsize rfl (lv_room hW) hdg hf) hH hS hA kk
  simp only [List.mem_cons, List.not_mem_nil, or_false] at hw
  rcases hw with rfl | rfl | rfl | rfl <;> assumption
theorem cg_S (hC : CallFix p m c cc nL s args gtbl own) (hM : CG l y bs mL ret rm D cy mc ms N ad As ct post) (ho : msok y bs mL ret n) (hlk : Cond.methodLink own index y ∈ gtbl) (hR : (rm.cells = mc ∧ rm.slots = ms) ∧ rm.frames + 1 ≤ R.frames ∧ 8 + (mL + 11) + rm.locals ≤ R.locals) (hK : kx D cy s) (hH : hp D A N ad ct H) (hS : va_S A H0 H locs) (hA : ∀ q, H0.size ≤ q → A q)
    (hsize : ls.size = nL) (hf : cells + mc ≤ R.cells ∧ slots + ms ≤ R.slots) (hn : As.length = n) (hst : st0 = As.reverse ++ rest) (hW : (rest.map fun v => v.category).sum ≤ 8) (hdg : decode cc pc = .ok (.invokestatic index, 3))
    (kk : ∀ (v : Option Value) (N' : Nat) (ad' : Nat → Nat) (ct' : Nat → Option va_E) (H1 : Heap) (locs1 : List Loc), post v N' ad' ct' → hp D (fun q => A q ∧ cA N ad ct H.size q) N' ad' ct' H1 → va_S A H0 H1 locs1 → H.size ≤ H1.size → (∀ q, q < H.size → ¬ cA N ad ct H.size q → H1[q]? = H[q]?) → W p l e R s m args below meth c H1 locs1 (cells + mc) (slots + ms) Q (F0 m (pc + 3) ls (v.toList ++ rest))) : W p l e R s m args below meth c H locs cells slots Q (F0 m pc ls st0) := by
  obtain ⟨h1, h2, h3, hd⟩ := ho
  subst hst
  refine cg_go (va_runS (As := As) (rest := rest) hC (hM H.size) (va_cwS n hC.2.2.2.2 (gw_code h1 (fun w hw => ?_)) rfl hR.1.1 hR.1.2 hd hR.2) ⟨cm_blind, cm_pre hK hH⟩ rfl hn hsize rfl (lv_room hW) hdg hf) hH hS hA kk
  simp only [List.mem_cons, List.not_mem_nil, or_false] at hw
  rcases hw with rfl | rfl | rfl <;> assumption
/-- what a constructor's own words are -/
def miok (y : MethodName) (bs : ByteArray) (mL n : Nat) : Prop := Cond.code y bs mL none ∈ gtbl ∧ Cond.instanceMethod y ∈ gtbl ∧ Cond.initialized y.cls ∈ gtbl ∧ y.name = "<init>" ∧ (y.cls ≠ "java/lang/invoke/MethodHandle" ∧ y.cls ≠ "java/lang/invoke/VarHandle" ∧ (parseMethodDescriptor y.desc).map (fun d => d.parameters.length) = some n)
theorem cg_I {b : Nat} {As' : List Value} (hC : CallFix p m c cc nL s args gtbl own) (hM : CG l y bs mL none rm D cy mc ms N ad (.ref b :: As') ct post) (ho : miok y bs mL n) (hlk : Cond.methodLink own index y ∈ gtbl) (hR : (rm.cells = mc ∧ rm.slots = ms) ∧ rm.frames + 1 ≤ R.frames ∧ 8 + (mL + 11) + rm.locals ≤ R.locals) (hK : kx D cy s) (hH : hp D A N ad ct H) (hS : va_S A H0 H locs) (hA : ∀ q, H0.size ≤ q → A q)
    (hsize : ls.size = nL) (hf : cells + mc ≤ R.cells ∧ slots + ms ≤ R.slots) (hn : As'.length = n) (hst : st0 = As'.reverse ++ .ref b :: rest) (hW : (rest.map fun v => v.category).sum ≤ 8) (hdg : decode cc pc = .ok (.invokespecial index, 3))
    (kk : ∀ (v : Option Value) (N' : Nat) (ad' : Nat → Nat) (ct' : Nat → Option va_E) (H1 : Heap) (locs1 : List Loc), post v N' ad' ct' → hp D (fun q => A q ∧ cA N ad ct H.size q) N' ad' ct' H1 → va_S A H0 H1 locs1 → H.size ≤ H1.size → (∀ q, q < H.size → ¬ cA N ad ct H.size q → H1[q]? = H[q]?) → W p l e R s m args below meth c H1 locs1 (cells + mc) (slots + ms) Q (F0 m (pc + 3) ls (v.toList ++ rest))) : W p l e R s m args below meth c H locs cells slots Q (F0 m pc ls st0) := by
  obtain ⟨h1, h2, h3, h4, hd⟩ := ho
  subst hst
  have hG : GoodIn gtbl (Cond.code y bs mL none :: gtbl) := gw_code (ws := []) h1 (fun w hw => by cases hw)
  exact cg_go (va_runI (As := As') (rest := rest) hC (hM H.size) (cwI n hC.2.2.2.2 hG rfl hR.1.1 hR.1.2 (hC.2.2.2.2 _ h3) (hC.2.2.2.2 _ hlk) (hC.2.2.2.2 _ h2) h4 hd hR.2) ⟨cm_blind, cm_pre hK hH⟩ rfl hn hsize rfl (lv_room hW) hdg hf) hH hS hA kk
theorem cg_IN {b : Nat} {host : String} {As' : List Value} (hC : CallFix p m c cc nL s args gtbl own) (hM : CG l y bs mL none rm D cy mc ms N ad (.ref b :: As') ct post) (ho : miok y bs mL n) (hlk : Cond.methodLinkNest own index y host ∈ nwL) (hR : (rm.cells = mc ∧ rm.slots = ms) ∧ rm.frames + 1 ≤ R.frames ∧ 8 + (mL + 11) + rm.locals ≤ R.locals) (hK : kx D cy s) (hH : hp D A N ad ct H) (hS : va_S A H0 H locs) (hA : ∀ q, H0.size ≤ q → A q)
    (hsize : ls.size = nL) (hf : cells + mc ≤ R.cells ∧ slots + ms ≤ R.slots) (hn : As'.length = n) (hst : st0 = As'.reverse ++ .ref b :: rest) (hW : (rest.map fun v => v.category).sum ≤ 8) (hdg : decode cc pc = .ok (.invokespecial index, 3))
    (kk : ∀ (v : Option Value) (N' : Nat) (ad' : Nat → Nat) (ct' : Nat → Option va_E) (H1 : Heap) (locs1 : List Loc), post v N' ad' ct' → hp D (fun q => A q ∧ cA N ad ct H.size q) N' ad' ct' H1 → va_S A H0 H1 locs1 → H.size ≤ H1.size → (∀ q, q < H.size → ¬ cA N ad ct H.size q → H1[q]? = H[q]?) → W p l e R s m args below meth c H1 locs1 (cells + mc) (slots + ms) Q (F0 m (pc + 3) ls (v.toList ++ rest))) : W p l e R s m args below meth c H locs cells slots Q (F0 m pc ls st0) := by
  obtain ⟨h1, h2, h3, h4, hd⟩ := ho
  subst hst
  have hG : GoodIn gtbl (Cond.code y bs mL none :: gtbl) := gw_code (ws := []) h1 (fun w hw => by cases hw)
  exact cg_go (va_runIN (As := As') (rest := rest) hC (hM H.size) ⟨va_cnB n hC.2.2.2.2 hG rfl hR.1.1 hR.1.2 (hK.2.1 _ hlk) (hC.2.2.2.2 _ h3) hd hR.2, h4, hC.2.2.2.2 _ h2⟩ ⟨cm_blind, cm_pre hK hH⟩ rfl hn hsize rfl (lv_room hW) hdg hf) hH hS hA kk
/-- ends -/
theorem cg_ri {v : Int32} {N' : Nat} {ad' : Nat → Nat} {ctF : Nat → Option va_E} (hC : CallFix p m c cc nL s args gtbl own) (hr : meth.sig.returnType = some .int) (hlocks : meth.locks = false) (hpo : post (some (.int v)) N' ad' ctF) (hH : hp D A N' ad' ctF H) (hS : va_S A s.heap H locs) (h1 : cells ≤ mc) (h2 : slots ≤ ms) (hdg : decode cc pc = .ok (.ireturn, 1)) :
    W p l e R s m args below meth c H locs cells slots (MQ below (fun _ st o t => (∃ (v : Option Value) (N' : Nat) (ad' : Nat → Nat) (ct' : Nat → Option va_E), o = .returned v ∧ post v N' ad' ct' ∧ hp D A N' ad' ct' t.heap) ∧ va_F A st t) args s mc ms A) (F0 m pc ls [.int v]) :=
  W.widen h1 h2 (W.iret hC.1 hC.2.1 hr (fun t ht hW => ⟨⟨_, _, _, _, rfl, hpo, by rw [ht]; exact hH⟩, hS.F ht⟩) hS.2.2 hdg)
theorem cg_rv {N' : Nat} {ad' : Nat → Nat} {ctF : Nat → Option va_E} (hC : CallFix p m c cc nL s args gtbl own) (hr : meth.sig.returnType = none) (hlocks : meth.locks = false) (hpo : post none N' ad' ctF) (hH : hp D A N' ad' ctF H) (hS : va_S A s.heap H locs) (h1 : cells ≤ mc) (h2 : slots ≤ ms) (hdg : decode cc pc = .ok (.return_, 1)) :
    W p l e R s m args below meth c H locs cells slots (MQ below (fun _ st o t => (∃ (v : Option Value) (N' : Nat) (ad' : Nat → Nat) (ct' : Nat → Option va_E), o = .returned v ∧ post v N' ad' ct' ∧ hp D A N' ad' ct' t.heap) ∧ va_F A st t) args s mc ms A) (F0 m pc ls []) :=
  W.widen h1 h2 (W.vret hC.1 hC.2.1 hr (fun t ht hW => ⟨⟨_, _, _, _, rfl, hpo, by rw [ht]; exact hH⟩, hS.F ht⟩) hS.2.2 hdg)
theorem cg_ra {q : Nat} {cn : String} {N' : Nat} {ad' : Nat → Nat} {ctF : Nat → Option va_E} (hC : CallFix p m c cc nL s args gtbl own) (hr : meth.sig.returnType = some (.object cn)) (hlocks : meth.locks = false) (hpo : post (some (.ref q)) N' ad' ctF) (hH : hp D A N' ad' ctF H) (hS : va_S A s.heap H locs) (h1 : cells ≤ mc) (h2 : slots ≤ ms) (hdg : decode cc pc = .ok (.areturn, 1)) :
    W p l e R s m args below meth c H locs cells slots (MQ below (fun _ st o t => (∃ (v : Option Value) (N' : Nat) (ad' : Nat → Nat) (ct' : Nat → Option va_E), o = .returned v ∧ post v N' ad' ct' ∧ hp D A N' ad' ct' t.heap) ∧ va_F A st t) args s mc ms A) (F0 m pc ls [.ref q]) :=
  W.widen h1 h2 (W.aret hC.1 hC.2.1 hr (Or.inl ⟨_, rfl⟩) (Or.inr ⟨_, rfl⟩) (fun t ht hW => ⟨⟨_, _, _, _, rfl, hpo, by rw [ht]; exact hH⟩, hS.F ht⟩) hS.2.2 hdg)
/-- a new object -/
theorem g_new (hC : CallFix p m c cc nL s args gtbl own) (hK : kx D cy s) {C : String} {T : u_T} {NF ci : Nat} (hin : ∀ w ∈ u_ws C T NF, w ∈ gtbl) (ty : Nat → FieldType) (hty : ∀ k, k < NF → parseFieldDescriptor (T k).2.2.1 = some (ty k)) (hcl : Cond.classLink own index C ∈ gtbl) (hinst : Cond.instantiable C NF ∈ gtbl) (hini : Cond.initialized C ∈ gtbl) (hc : vwCl[ci]? = some (C, T, NF)) {fs : List Value} (hfs : ∀ j, j < NF → defaultValue (ty j) = vp_V fs j)
    (hS : va_S A H0 H locs) (hA : ∀ q, H0.size ≤ q → A q) (hcells : cells + 1 ≤ R.cells) (hslots : slots + NF ≤ R.slots) (hdg : decode cc pc = .ok (.new index, 3))
    (kk : ∀ H1 : Heap, H1.size = H.size + 1 → (∀ q : Nat, q < H.size → H1[q]? = H[q]?) → A H.size → va_at D vwCl (H.size, .inr (ci, fs)) H1 → va_S A H0 H1 locs → W p l e R s m args below meth c H1 locs (cells + 1) (slots + NF) Q (F0 m (pc + 3) ls (.ref H.size :: rest))) : W p l e R s m args below meth c H locs cells slots Q (F0 m pc ls rest) := by
  have hKn := hK.1.1 ci _ hc
  refine W.newcK hC.1 hC.2.1 hC.2.2.2.1 (hC.2.2.2.2 _ hcl) (hC.2.2.2.2 _ hinst) (hC.2.2.2.2 _ hini) rfl hdg hcells hslots hKn.2.1 rfl fun H1 kC hkC e1 z1 o1 => ?_
  exact kk H1 z1 o1 (hA _ hS.1) ⟨_, hc, (u_born ty hC.2.2.2.2 hin hKn hkC e1 hty).to hfs⟩ ⟨Nat.le_trans hS.1 (by omega), fun x h1 h2 => (o1 x (Nat.lt_of_lt_of_le h1 hS.1)).trans (hS.2.1 x h1 h2), hS.2.2⟩
/-- a new array of numbers -/
theorem g_newa (hC : CallFix p m c cc nL s args gtbl own) (hK : kx D cy s) {atype : ArrayType} (harr : Cond.arrayClass (newarray.typeOf atype) ∈ gtbl) {t0 : Nat} (ht : (cy_tys cy)[t0]? = some (cy t0, newarray.typeOf atype)) {x : Int32} {n' : Nat} {a0 : vp_A} (ha : vp_cell (cy t0) a0 = arrV (cy t0) n' (fun _ => defaultValue (newarray.typeOf atype)))
    (hn : ¬ x < 0) (hN : x.toNatClampNeg = n') (hbytes : n' * componentBytes (newarray.typeOf atype) ≤ 536870912) (hS : va_S A H0 H locs) (hA : ∀ q, H0.size ≤ q → A q) (hcells : cells + 1 ≤ R.cells) (hslots : slots + n' ≤ R.slots) (hdg : decode cc pc = .ok (.newarray atype, 2))
    (kk : ∀ H1 : Heap, H1.size = H.size + 1 → (∀ q : Nat, q < H.size → H1[q]? = H[q]?) → A H.size → va_at D vwCl (H.size, .inl (cy t0, a0)) H1 → va_S A H0 H1 locs → W p l e R s m args below meth c H1 locs (cells + 1) (slots + n') Q (F0 m (pc + 2) ls (.ref H.size :: rest))) : W p l e R s m args below meth c H locs cells slots Q (F0 m pc ls (.int x :: rest)) := by
  refine va_newaK hC.1 hC.2.1 (hC.2.2.2.2 _ harr) rfl hdg rfl hn hN hbytes hcells hslots rfl fun H1 cA e1 z1 o1 hAr hNm => ?_
  have hcA : cA = cy t0 := by
    have h2 := (hK.1.2 t0 _ ht).2
    have h3 : s.vm.findClass ("[" ++ (newarray.typeOf atype).toString) = some (cy t0) := by cases atype <;> exact h2
    exact Option.some.inj (hNm.symm.trans h3)
  subst hcA
  exact kk H1 z1 o1 (hA _ hS.1) (by show H1[H.size]? = some (vp_cell _ _); rw [ha]; exact e1) ⟨Nat.le_trans hS.1 (by omega), fun x h1 h2 => (o1 x (Nat.lt_of_lt_of_le h1 hS.1)).trans (hS.2.1 x h1 h2), hS.2.2⟩
/-- a new array of references -/
theorem g_newq (hC : CallFix p m c cc nL s args gtbl own) (hK : kx D cy s) {C : String} (hcl : Cond.classLink own index C ∈ gtbl) (hover : va_AO C s) {t0 : Nat} (ht : (cy_tys cy)[t0]? = some (cy t0, .object C)) {x : Int32} {n' : Nat}
    (hn : ¬ x < 0) (hN : x.toNatClampNeg = n') (hbytes : n' * 4 ≤ 536870912) (hS : va_S A H0 H locs) (hA : ∀ q, H0.size ≤ q → A q) (hcells : cells + 1 ≤ R.cells) (hslots : slots + n' ≤ R.slots) (hdg : decode cc pc = .ok (.anewarray index, 3))
    (kk : ∀ H1 : Heap, H1.size = H.size + 1 → (∀ q : Nat, q < H.size → H1[q]? = H[q]?) → A H.size → va_at D vwCl (H.size, .inl (cy t0, n', .inr (.inr (.inr (.inr (fun _ => none)))))) H1 → va_S A H0 H1 locs → W p l e R s m args below meth c H1 locs (cells + 1) (slots + n') Q (F0 m (pc + 3) ls (.ref H.size :: rest))) : W p l e R s m args below meth c H locs cells slots Q (F0 m pc ls (.int x :: rest)) := by
  subst hN
  refine W.anew hC.1 hC.2.1 hC.2.2.2.1 (hC.2.2.2.2 _ hcl) (va_AO.use hover) rfl hdg rfl hn hbytes hcells hslots fun cA kA comp f1 f2 f3 f4 => ?_
  generalize hH1 : H.push ({ cls := cA, slots := Array.replicate x.toNatClampNeg .null, vm := .none } : Cell) = H1
  have z1 : H1.size = H.size + 1 := by rw [← hH1, Array.size_push]
  have e1 : H1[H.size]? = some (arrV cA x.toNatClampNeg (fun _ => .null)) := by rw [← hH1, Array.getElem?_push_size, ← arrV_new]
  have o1 : ∀ q : Nat, q < H.size → H1[q]? = H[q]? := fun q hq => by rw [← hH1, Array.getElem?_push, if_neg (Nat.ne_of_lt hq)]
  have hcA : cA = cy t0 := by
    obtain ⟨kA', comp', -, -, -, h3⟩ := (hK.1.2 t0 _ ht).2
    exact Option.some.inj (f1.symm.trans h3)
  subst hcA
  exact kk H1 z1 o1 (hA _ hS.1) (by show H1[H.size]? = some (vp_cell _ _); rw [vp_cell_q]; exact e1) ⟨Nat.le_trans hS.1 (by omega), fun x h1 h2 => (o1 x (Nat.lt_of_lt_of_le h1 hS.1)).trans (hS.2.1 x h1 h2), hS.2.2⟩
/-- a final field, in a constructor of the class that declares it -/
theorem g_putF (hC : CallFix p m c cc nL s args gtbl own) (hK : kx D cy s) {ref C : String} {T : u_T} {NF ci : Nat} (hin : ∀ w ∈ u_ws C T NF, w ∈ gtbl) (ty0 : Nat → FieldType) (hty : ∀ k, k < NF → parseFieldDescriptor (T k).2.2.1 = some (ty0 k)) (hnm : ∀ a, a < NF → ∀ b, b < NF → a ≠ b → (T a).2.1 ≠ (T b).2.1) (hinit : meth.name = "<init>")
    (hH : hp D A N ad ct H) (hS : va_S A H0 H locs) (i : Nat) (hi : i < N) {fs : List Value} (he : ct i = some (.inr (ci, fs))) (hc : vwCl[ci]? = some (C, T, NF)) (k : Nat) (hk : k < NF) (hlink : Cond.fieldLink own index ref (T k).2.1 (T k).2.2.1 ∈ gtbl) (href : ref = (T k).1) (hfin : (T k).2.2.2 = true) (hdecl : (T k).1 = own)
    {v : Value} (hn : narrow (ty0 k) v = v) (hfit : fits (ty0 k) v = true) (hl : k < fs.length) (he' : ct' i = some (.inr (ci, fs.set k v))) (ho : ∀ j, j ≠ i → ct' j = ct j) (hdg : decode cc pc = .ok (.putfield index, 3))
    (kk : ∀ (H1 : Heap) (locs1 : List Loc), hp D A N ad ct' H1 → va_S A H0 H1 locs1 → H1.size = H.size → (∀ q : Nat, q ≠ ad i → H1[q]? = H[q]?) → W p l e R s m args below meth c H1 locs1 cells slots Q (F0 m (pc + 3) ls rest)) : W p l e R s m args below meth c H locs cells slots Q (F0 m pc ls (v :: .ref (ad i) :: rest)) := by
  have hts := hC.2.2.2.2
  have hown := hC.2.2.2.1
  have hap := va_apart (own := own) hts hin ty0 hty hnm hK.1 hc
  obtain ⟨hAi, r, h1, cell, q1, q2, q3, q4⟩ := hH.2 i _ hi he
  have hr : r = (C, T, NF) := Option.some.inj (h1.symm.trans hc)
  subst hr
  obtain ⟨hSl, hfc, kC, hkC, hkind⟩ := hK.1.1 ci _ hc
  obtain ⟨cf, kf, fi, f, hi2, hsl⟩ := hSl k hk
  have hlay := hts _ (hin _ (u_in_lay hk))
  unfold u_lay at hlay
  rw [if_pos hfin] at hlay
  have hst := (u_facts hfc hkC (u_lays hts hin hk) hi2).1
  have hcf : m.cls = cf := by
    obtain ⟨_, _, c', _, _, _, -, -, hf', -, -, -, hown2, -⟩ := Cond.laysFinal_spec hlay
    have e1 : c' = cf := by have := hi2.symm.trans hf'; simp at this; exact this.1.symm
    rw [hdecl] at hown2
    rw [← e1]; exact Option.some.inj (hown.symm.trans hown2)
  have h6 := u_fits hfc hkC hkind (Or.inr hlay) hi2 (hty k hk) hn hfit
  refine W.putFinK hC.1 hC.2.1 hown (hts _ hlink) (by rw [href]; exact hi2) hst hcf hinit (by rw [q2]; exact h6) q1 q3 (by rw [hsl]; exact k2_hasslot (q4 k hk)) rfl rfl hdg fun H' e1 e2 e3 => ?_
  rw [hsl] at e1 ⊢
  exact kk H' _ (hH.set hi he he' ho ⟨_, hc, t_OB.to (V := updV (vp_V fs) k v) ⟨_, e1, q2, q3, t_set q4 hap hk v⟩ (fun j _ => vp_updV_set hl v j)⟩ e3) (hS.put e2 e3 hAi) e2 e3
/-- java.lang.Object's constructor -/
theorem g_obj (hC : CallFix p m c cc nL s args gtbl own) {a : Nat} (hlk : Cond.methodLink own index ({ cls := "java/lang/Object", name := "<init>", desc := "()V" } : MethodName) ∈ gtbl) (hsize : ls.size = nL) (hdg : decode cc pc = .ok (.invokespecial index, 3)) (h1 : 1 ≤ R.frames) (h2 : (rest.map fun v => v.category).sum + 12 ≤ R.locals)
    (kk : W p l e R s m args below meth c H locs cells slots Q (F0 m (pc + 3) ls rest)) : W p l e R s m args below meth c H locs cells slots Q (F0 m pc ls (.ref a :: rest)) :=
  W.objInit hC.1 hC.2.1 hC.2.2.2.1 (hC.2.2.2.2 _ hlk) (hC.2.2.2.2 _ qI_OB_init) (hC.2.2.2.2 _ qK_OB_init) rfl (by rw [hC.2.2.1]; exact hsize) rfl hdg h1 (by show 2 * 0 + _ + 12 ≤ _; omega) kk
end CGCALL
