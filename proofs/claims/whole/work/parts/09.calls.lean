/-! contracts over one world, and the rows of their calls -/
/-- from every state whose heap holds ct: the method returns r, and the heap holds ct'; nothing outside the world is changed -/
def CM (l : Launch) (y : MethodName) (bs : ByteArray) (mL : Nat) (ret : Option FieldType) (rm : Room) (D : va_G) (cy : Nat → ClassId) (N : Nat) (ad : Nat → Nat) (av : List Value) (ct : Nat → Option va_E) (r : Option Value) (ct' : Nat → Option va_E) : Prop :=
  ∀ sz : Nat, Met l y (Cond.code y bs mL ret :: gtbl) rm (va_Pc av (fun U => U.heap.size = sz ∧ hp D (fun _ => True) N ad ct U.heap ∧ kx D cy U))
    (fun _ st o t => o = .returned r ∧ hp D (cA N ad ct sz) N ad ct' t.heap ∧ va_F (cA N ad ct sz) st t) 0 0 (cA N ad ct sz)
theorem cm_blind {D : va_G} {cy : Nat → ClassId} {N : Nat} {ad : Nat → Nat} {ct : Nat → Option va_E} {av : List Value} {sz : Nat} : FrameBlind (va_Pc av (fun U => U.heap.size = sz ∧ hp D (fun _ => True) N ad ct U.heap ∧ kx D cy U)) := by
  intro a U g mk h
  obtain ⟨h0, h1, h2, h3⟩ := h
  exact ⟨h0, h1, h2, kx.same (u := U) (U := U.calling g mk a) rfl h3⟩
section CMOF
variable {l : Launch} {y : MethodName} {bs : ByteArray} {mL : Nat} {rm : Room} {D : va_G} {cy : Nat → ClassId} {N : Nat} {ad : Nat → Nat} {av : List Value} {ct ct' : Nat → Option va_E}
theorem CM.start {ret : Option FieldType} {r : Option Value} (hy : plainName y.cls = true) (hav : (lg_sl av).length ≤ mL)
    (body : ∀ (p : Program) (e : Env) (s : State) (m : MethodId) (below : List Frame) (meth : Method) (c : Code) (A : Nat → Prop) (ls : Array Slot), CallFix p m c bs mL s av.toArray gtbl y.cls → meth.sig.returnType = ret → meth.locks = false → (y.name = "<init>" → meth.name = "<init>") → kx D cy s → (∀ q, s.heap.size ≤ q → A q) → hp D A N ad ct s.heap → lv_has ls mL (lv_args 0 av) →
      W p l e rm s m av.toArray below meth c s.heap [] 0 0 (MQ below (fun _ st o t => o = .returned r ∧ hp D A N ad ct' t.heap ∧ va_F A st t) av.toArray s 0 0 A) (F0 m 0 ls [])) : CM l y bs mL ret rm D cy N ad av ct r ct' := by
  intro sz
  refine Met.ofW (cc := bs) (maxL := mL) (ret := ret) hy rfl ?_
  intro p e s m args below meth c s₁ B hml hv
  obtain ⟨rfl, hsz, hP, hK⟩ := hv
  subst hsz
  have hl := lv_entry av (n := mL) hav
  rw [lg_entry_eq]
  refine body p e s m below meth c _ _ ⟨B.exec, B.bytes, hml, findClass_of_methodNamed B.named, fun w hw => atoms_spec (ws := Cond.code y bs mL ret :: gtbl) B.pre w (List.mem_cons_of_mem _ hw)⟩ B.returns B.notSynchronized (fun h => by rw [← h]; exact (name_of_methodNamed B.named B.method).1) hK (fun q h => Or.inr h) hP.self hl
end CMOF
section CMCALL
variable {p : Program} {l : Launch} {e : Env} {R : Room} {s : State} {m : MethodId} {args : Array Value} {below : List Frame} {meth : Method} {c : Code} {H : Heap} {locs : List Loc} {cells slots : Nat} {Q : State → Prop}
variable {cc : ByteArray} {pc : Nat} {ls : Array Slot} {rest st0 : List Value} {D : va_G} {cy : Nat → ClassId} {A : Nat → Prop} {N nL : Nat} {ad : Nat → Nat} {ct ct' : Nat → Option va_E} {H0 : Heap} {own : String}
variable {y : MethodName} {bs : ByteArray} {mL n index : Nat} {ret : Option FieldType} {rm : Room} {As : List Value} {r : Option Value}
theorem cm_go (hr : va_Run p l e R s m args below meth c H locs cells slots 0 0 (F0 m pc ls st0) rest (fun st o t => o = .returned r ∧ hp D (cA N ad ct H.size) N ad ct' t.heap ∧ va_F (cA N ad ct H.size) st t) (cA N ad ct H.size)) (hH : hp D A N ad ct H) (hS : va_S A H0 H locs) (hA : ∀ q, H0.size ≤ q → A q)
    (kk : ∀ (H1 : Heap) (locs1 : List Loc), hp D A N ad ct' H1 → va_S A H0 H1 locs1 → W p l e R s m args below meth c H1 locs1 cells slots Q (F0 m (pc + 3) ls (r.toList ++ rest))) : W p l e R s m args below meth c H locs cells slots Q (F0 m pc ls st0) := by
  intro T hT X
  obtain ⟨v, st₀, t, T', L, h0, X', hL, e1, e2, ⟨hv, hb, hz, hk⟩, st⟩ := hr T hT X
  cases hv
  have hfr := hH.free hS hA
  rw [h0] at hz hk
  obtain ⟨t2, a1, b1⟩ := kk T'.heap (locs ++ L) (by rw [e1]; exact hb.mono (fun i e _ _ h => hfr _ h))
    ⟨Nat.le_trans hS.1 (by rw [e1]; exact hz), fun q h1 h2 => by rw [e1, hk q (Nat.lt_of_lt_of_le h1 hS.1) (fun z => h2 (hfr q z))]; exact hS.2.1 q h1 h2, fun q hq => by
      rcases List.mem_append.mp hq with h | h
      · exact hS.2.2 q h
      · exact hfr _ (hL q h)⟩ T' rfl X'
  exact ⟨t2, st t2 a1, b1⟩
theorem cm_pre (hK : kx D cy s) (hH : hp D A N ad ct H) : ∀ U : State, U.heap = H → s.WarmedH U.vm → va_Pc As (fun U => U.heap.size = H.size ∧ hp D (fun _ => True) N ad ct U.heap ∧ kx D cy U) As.toArray U :=
  fun U hU hW => ⟨rfl, by rw [hU], by rw [hU]; exact hH.mono (fun _ _ _ _ _ => trivial), hK.warm hW⟩
/-- what a method's own words are, for a static method -/
def msok (y : MethodName) (bs : ByteArray) (mL : Nat) (ret : Option FieldType) (n : Nat) : Prop := Cond.code y bs mL ret ∈ gtbl ∧ Cond.static y ∈ gtbl ∧ Cond.initialized y.cls ∈ gtbl ∧ (y.cls ≠ "java/lang/invoke/MethodHandle" ∧ y.cls ≠ "java/lang/invoke/VarHandle" ∧ (parseMethodDescriptor y.desc).map (fun d => d.parameters.length) = some n)
/-- for an instance method that class C selects for itself -/
def mvok (C : String) (y : MethodName) (bs : ByteArray) (mL : Nat) (ret : Option FieldType) (n : Nat) : Prop := Cond.code y bs mL ret ∈ gtbl ∧ Cond.instanceMethod y ∈ gtbl ∧ Cond.selects C y y ∈ gtbl ∧ Cond.initialized C ∈ gtbl ∧ (y.cls = C ∧ y.cls ≠ "java/lang/invoke/MethodHandle" ∧ y.cls ≠ "java/lang/invoke/VarHandle" ∧ (parseMethodDescriptor y.desc).map (fun d => d.parameters.length) = some n)
theorem gw_code {ws : List Cond} (h5 : Cond.code y bs mL ret ∈ gtbl) (h : ∀ w ∈ ws, w ∈ gtbl) : GoodIn gtbl (ws ++ (Cond.code y bs mL ret :: gtbl)) := by
  intro w hw
  rcases List.mem_append.mp hw with h1 | h1
  · exact gt_good w (h w h1)
  · rcases List.mem_cons.mp h1 with h2 | h2
    · rw [h2]; exact gt_good _ h5
    · exact gt_good _ h2
theorem cm_S (hC : CallFix p m c cc nL s args gtbl own) (hM : CM l y bs mL ret rm D cy N ad As ct r ct') (ho : msok y bs mL ret n) (hlk : Cond.methodLink own index y ∈ gtbl) (hR : (rm.cells = 0 ∧ rm.slots = 0) ∧ rm.frames + 1 ≤ R.frames ∧ 8 + (mL + 11) + rm.locals ≤ R.locals) (hK : kx D cy s) (hH : hp D A N ad ct H) (hS : va_S A H0 H locs) (hA : ∀ q, H0.size ≤ q → A q)
    (hsize : ls.size = nL) (hf : cells ≤ R.cells ∧ slots ≤ R.slots) (hn : As.length = n) (hst : st0 = As.reverse ++ rest) (hW : (rest.map fun v => v.category).sum ≤ 8) (hdg : decode cc pc = .ok (.invokestatic index, 3))
    (kk : ∀ (H1 : Heap) (locs1 : List Loc), hp D A N ad ct' H1 → va_S A H0 H1 locs1 → W p l e R s m args below meth c H1 locs1 cells slots Q (F0 m (pc + 3) ls (r.toList ++ rest))) : W p l e R s m args below meth c H locs cells slots Q (F0 m pc ls st0) := by
  obtain ⟨h1, h2, h3, hd⟩ := ho
  subst hst
  refine cm_go (va_runS (As := As) (rest := rest) hC (hM H.size) (va_cwS n hC.2.2.2.2 (gw_code h1 (fun w hw => ?_)) rfl hR.1.1 hR.1.2 hd hR.2) ⟨cm_blind, cm_pre hK hH⟩ rfl hn hsize rfl (lv_room hW) hdg hf) hH hS hA kk
  simp only [List.mem_cons, List.not_mem_nil, or_false] at hw
  rcases hw with rfl | rfl | rfl <;> assumption
theorem cm_V {b : Nat} {C : String} {As' : List Value} (hC : CallFix p m c cc nL s args gtbl own) (hM : CM l y bs mL ret rm D cy N ad (.ref b :: As') ct r ct') (ho : mvok C y bs mL ret n) (hlk : Cond.methodLink own index y ∈ gtbl) (hR : (rm.cells = 0 ∧ rm.slots = 0) ∧ rm.frames + 1 ≤ R.frames ∧ 8 + (mL + 11) + rm.locals ≤ R.locals) (hK : kx D cy s) (hH : hp D A N ad ct H) (hS : va_S A H0 H locs) (hA : ∀ q, H0.size ≤ q → A q)
    (hrc : ∃ cell : Cell, H[b]? = some cell ∧ cell.vm.isStatics = false ∧ s.vm.findClass C = some cell.cls)
    (hsize : ls.size = nL) (hf : cells ≤ R.cells ∧ slots ≤ R.slots) (hn : As'.length = n) (hst : st0 = As'.reverse ++ .ref b :: rest) (hW : (rest.map fun v => v.category).sum ≤ 8) (hdg : decode cc pc = .ok (.invokevirtual index, 3))
    (kk : ∀ (H1 : Heap) (locs1 : List Loc), hp D A N ad ct' H1 → va_S A H0 H1 locs1 → W p l e R s m args below meth c H1 locs1 cells slots Q (F0 m (pc + 3) ls (r.toList ++ rest))) : W p l e R s m args below meth c H locs cells slots Q (F0 m pc ls st0) := by
  obtain ⟨h1, h2, h3, h4, hd⟩ := ho
  subst hst
  refine cm_go (va_runV (As := As') (rest := rest) hC (hM H.size) (cwV n hC.2.2.2.2 (gw_code h1 (fun w hw => ?_)) rfl hR.1.1 hR.1.2 hd hR.2) ⟨cm_blind, hrc, cm_pre hK hH⟩ rfl hn hsize rfl (lv_room hW) hdg hf) hH hS hA kk
  simp only [List.mem_cons, List.not_mem_nil, or_false] at hw
  rcases hw with rfl | rfl | rfl | rfl <;> assumption
/-- an inherited method, or one that is declared above and made below: x is named, class C selects y -/
def muok (C owner : String) (x y : MethodName) (bs : ByteArray) (mL : Nat) (ret : Option FieldType) (n : Nat) : Prop := Cond.code y bs mL ret ∈ gtbl ∧ Cond.sameMethod x.cls owner x.name x.desc ∈ gtbl ∧ Cond.selects C x y ∈ gtbl ∧ Cond.instanceMethod y ∈ gtbl ∧ Cond.initialized y.cls ∈ gtbl ∧ (y = ⟨owner, x.name, x.desc⟩ ∨ Cond.declares ⟨owner, x.name, x.desc⟩ ∈ nwL) ∧ (owner ≠ "java/lang/invoke/MethodHandle" ∧ owner ≠ "java/lang/invoke/VarHandle" ∧ (parseMethodDescriptor x.desc).map (fun d => d.parameters.length) = some n)
theorem cm_U {b : Nat} {C owner : String} {x : MethodName} {As' : List Value} (hC : CallFix p m c cc nL s args gtbl own) (hM : CM l y bs mL ret rm D cy N ad (.ref b :: As') ct r ct') (ho : muok C owner x y bs mL ret n) (hlk : Cond.methodLink own index x ∈ gtbl) (hR : (rm.cells = 0 ∧ rm.slots = 0) ∧ rm.frames + 1 ≤ R.frames ∧ 8 + (mL + 11) + rm.locals ≤ R.locals) (hK : kx D cy s) (hH : hp D A N ad ct H) (hS : va_S A H0 H locs) (hA : ∀ q, H0.size ≤ q → A q)
    (hrc : ∃ cell : Cell, H[b]? = some cell ∧ cell.vm.isStatics = false ∧ s.vm.findClass C = some cell.cls)
    (hsize : ls.size = nL) (hf : cells ≤ R.cells ∧ slots ≤ R.slots) (hn : As'.length = n) (hst : st0 = As'.reverse ++ .ref b :: rest) (hW : (rest.map fun v => v.category).sum ≤ 8) (hdg : decode cc pc = .ok (.invokevirtual index, 3))
    (kk : ∀ (H1 : Heap) (locs1 : List Loc), hp D A N ad ct' H1 → va_S A H0 H1 locs1 → W p l e R s m args below meth c H1 locs1 cells slots Q (F0 m (pc + 3) ls (r.toList ++ rest))) : W p l e R s m args below meth c H locs cells slots Q (F0 m pc ls st0) := by
  obtain ⟨h1, h2, h3, h4, h5, h6, hd⟩ := ho
  subst hst
  have hG : GoodIn gtbl (va_wsU own index C owner x y (Cond.code y bs mL ret :: gtbl)) := gw_code h1 (fun w hw => by
    simp only [List.mem_cons, List.not_mem_nil, or_false] at hw
    rcases hw with rfl | rfl | rfl | rfl | rfl <;> assumption)
  have cw : va_CU R s args own C owner index x y bs mL ret (Cond.code y bs mL ret :: gtbl) rm 0 0 n := by
    rcases h6 with h | h
    · exact va_cwU n hC.2.2.2.2 hG rfl hR.1.1 hR.1.2 h hd hR.2
    · exact va_cwA n hC.2.2.2.2 hG rfl hR.1.1 hR.1.2 (hK.2.1 _ h) hd hR.2
  exact cm_go (va_runU (As := As') (rest := rest) hC (hM H.size) cw ⟨cm_blind, hrc, cm_pre hK hH⟩ rfl hn hsize rfl (lv_room hW) hdg hf) hH hS hA kk
/-- a private static method of the nest's host -/
theorem cm_SN {host : String} (hC : CallFix p m c cc nL s args gtbl own) (hM : CM l y bs mL ret rm D cy N ad As ct r ct') (ho : msok y bs mL ret n) (hlk : Cond.methodLinkNest own index y host ∈ nwL) (hR : (rm.cells = 0 ∧ rm.slots = 0) ∧ rm.frames + 1 ≤ R.frames ∧ 8 + (mL + 11) + rm.locals ≤ R.locals) (hK : kx D cy s) (hH : hp D A N ad ct H) (hS : va_S A H0 H locs) (hA : ∀ q, H0.size ≤ q → A q)
    (hsize : ls.size = nL) (hf : cells ≤ R.cells ∧ slots ≤ R.slots) (hn : As.length = n) (hst : st0 = As.reverse ++ rest) (hW : (rest.map fun v => v.category).sum ≤ 8) (hdg : decode cc pc = .ok (.invokestatic index, 3))
    (kk : ∀ (H1 : Heap) (locs1 : List Loc), hp D A N ad ct' H1 → va_S A H0 H1 locs1 → W p l e R s m args below meth c H1 locs1 cells slots Q (F0 m (pc + 3) ls (r.toList ++ rest))) : W p l e R s m args below meth c H locs cells slots Q (F0 m pc ls st0) := by
  obtain ⟨h1, h2, h3, hd⟩ := ho
  subst hst
  have hG : GoodIn gtbl (Cond.code y bs mL ret :: gtbl) := gw_code (ws := []) h1 (fun w hw => by cases hw)
  exact cm_go (va_runSN (As := As) (rest := rest) hC (hM H.size) ⟨va_cnB n hC.2.2.2.2 hG rfl hR.1.1 hR.1.2 (hK.2.1 _ hlk) (hC.2.2.2.2 _ h3) hd hR.2, hC.2.2.2.2 _ h2, trivial⟩ ⟨cm_blind, cm_pre hK hH⟩ rfl hn hsize rfl (lv_room hW) hdg hf) hH hS hA kk
/-- a constructor, over a world that has the new object already -/
theorem cm_I {b : Nat} {As' : List Value} (hC : CallFix p m c cc nL s args gtbl own) (hM : CM l y bs mL none rm D cy N ad (.ref b :: As') ct r ct') (ho : Cond.code y bs mL none ∈ gtbl ∧ Cond.instanceMethod y ∈ gtbl ∧ Cond.initialized y.cls ∈ gtbl ∧ y.name = "<init>" ∧ (y.cls ≠ "java/lang/invoke/MethodHandle" ∧ y.cls ≠ "java/lang/invoke/VarHandle" ∧ (parseMethodDescriptor y.desc).map (fun d => d.parameters.length) = some n)) (hlk : Cond.methodLink own index y ∈ gtbl) (hR : (rm.cells = 0 ∧ rm.slots = 0) ∧ rm.frames + 1 ≤ R.frames ∧ 8 + (mL + 11) + rm.locals ≤ R.locals) (hK : kx D cy s) (hH : hp D A N ad ct H) (hS : va_S A H0 H locs) (hA : ∀ q, H0.size ≤ q → A q)
    (hsize : ls.size = nL) (hf : cells ≤ R.cells ∧ slots ≤ R.slots) (hn : As'.length = n) (hst : st0 = As'.reverse ++ .ref b :: rest) (hW : (rest.map fun v => v.category).sum ≤ 8) (hdg : decode cc pc = .ok (.invokespecial index, 3))
    (kk : ∀ (H1 : Heap) (locs1 : List Loc), hp D A N ad ct' H1 → va_S A H0 H1 locs1 → W p l e R s m args below meth c H1 locs1 cells slots Q (F0 m (pc + 3) ls (r.toList ++ rest))) : W p l e R s m args below meth c H locs cells slots Q (F0 m pc ls st0) := by
  obtain ⟨h1, h2, h3, h4, hd⟩ := ho
  subst hst
  have hG : GoodIn gtbl (Cond.code y bs mL none :: gtbl) := gw_code (ws := []) h1 (fun w hw => by cases hw)
  exact cm_go (va_runI (As := As') (rest := rest) hC (hM H.size) (cwI n hC.2.2.2.2 hG rfl hR.1.1 hR.1.2 (hC.2.2.2.2 _ h3) (hC.2.2.2.2 _ hlk) (hC.2.2.2.2 _ h2) h4 hd hR.2) ⟨cm_blind, cm_pre hK hH⟩ rfl hn hsize rfl (lv_room hW) hdg hf) hH hS hA kk
/-- ends -/
theorem cm_ri {rv v : Int32} {ctF : Nat → Option va_E} (hC : CallFix p m c cc nL s args gtbl own) (hr : meth.sig.returnType = some .int) (hlocks : meth.locks = false) (hv : v = rv) (hc : ctF = ct') (hH : hp D A N ad ctF H) (hS : va_S A s.heap H locs) (hdg : decode cc pc = .ok (.ireturn, 1)) :
    W p l e R s m args below meth c H locs 0 0 (MQ below (fun _ st o t => o = .returned (some (.int rv)) ∧ hp D A N ad ct' t.heap ∧ va_F A st t) args s 0 0 A) (F0 m pc ls [.int v]) := by
  subst hv; subst hc
  exact W.iret hC.1 hC.2.1 hr (fun t ht hW => ⟨rfl, by rw [ht]; exact hH, hS.F ht⟩) hS.2.2 hdg
theorem cm_rl {rv v : Int64} {ctF : Nat → Option va_E} (hC : CallFix p m c cc nL s args gtbl own) (hr : meth.sig.returnType = some .long) (hlocks : meth.locks = false) (hv : v = rv) (hc : ctF = ct') (hH : hp D A N ad ctF H) (hS : va_S A s.heap H locs) (hdg : decode cc pc = .ok (.lreturn, 1)) :
    W p l e R s m args below meth c H locs 0 0 (MQ below (fun _ st o t => o = .returned (some (.long rv)) ∧ hp D A N ad ct' t.heap ∧ va_F A st t) args s 0 0 A) (F0 m pc ls [.long v]) := by
  subst hv; subst hc
  exact W.lret hC.1 hC.2.1 hr (fun t ht hW => ⟨rfl, by rw [ht]; exact hH, hS.F ht⟩) hS.2.2 hdg
theorem cm_rd {rv v : UInt64} {ctF : Nat → Option va_E} (hC : CallFix p m c cc nL s args gtbl own) (hr : meth.sig.returnType = some .double) (hlocks : meth.locks = false) (hv : v = rv) (hc : ctF = ct') (hH : hp D A N ad ctF H) (hS : va_S A s.heap H locs) (hdg : decode cc pc = .ok (.dreturn, 1)) :
    W p l e R s m args below meth c H locs 0 0 (MQ below (fun _ st o t => o = .returned (some (.double rv)) ∧ hp D A N ad ct' t.heap ∧ va_F A st t) args s 0 0 A) (F0 m pc ls [.double v]) := by
  subst hv; subst hc
  exact W.dret hC.1 hC.2.1 hr (fun t ht hW => ⟨rfl, by rw [ht]; exact hH, hS.F ht⟩) hS.2.2 hdg
theorem cm_rv {ctF : Nat → Option va_E} (hC : CallFix p m c cc nL s args gtbl own) (hr : meth.sig.returnType = none) (hlocks : meth.locks = false) (hc : ctF = ct') (hH : hp D A N ad ctF H) (hS : va_S A s.heap H locs) (hdg : decode cc pc = .ok (.return_, 1)) :
    W p l e R s m args below meth c H locs 0 0 (MQ below (fun _ st o t => o = .returned none ∧ hp D A N ad ct' t.heap ∧ va_F A st t) args s 0 0 A) (F0 m pc ls []) := by
  subst hc
  exact W.vret hC.1 hC.2.1 hr (fun t ht hW => ⟨rfl, by rw [ht]; exact hH, hS.F ht⟩) hS.2.2 hdg
theorem cm_rz {rv v : Int32} {ctF : Nat → Option va_E} (hC : CallFix p m c cc nL s args gtbl own) (hr : meth.sig.returnType = some .boolean) (hlocks : meth.locks = false) (h01 : v = 0 ∨ v = 1) (hv : v = rv) (hc : ctF = ct') (hH : hp D A N ad ctF H) (hS : va_S A s.heap H locs) (hdg : decode cc pc = .ok (.ireturn, 1)) :
    W p l e R s m args below meth c H locs 0 0 (MQ below (fun _ st o t => o = .returned (some (.int rv)) ∧ hp D A N ad ct' t.heap ∧ va_F A st t) args s 0 0 A) (F0 m pc ls [.int v]) := by
  subst hv; subst hc
  exact W.zret hC.1 hC.2.1 hr (by rcases h01 with rfl | rfl <;> decide) (fun t ht hW => ⟨rfl, by rw [ht]; exact hH, hS.F ht⟩) hS.2.2 hdg
theorem cm_ra {rv v : Option Nat} {cn : String} {ctF : Nat → Option va_E} (hC : CallFix p m c cc nL s args gtbl own) (hr : meth.sig.returnType = some (.object cn)) (hlocks : meth.locks = false) (hv : v = rv) (hc : ctF = ct') (hH : hp D A N ad ctF H) (hS : va_S A s.heap H locs) (hdg : decode cc pc = .ok (.areturn, 1)) :
    W p l e R s m args below meth c H locs 0 0 (MQ below (fun _ st o t => o = .returned (some (va_rf rv)) ∧ hp D A N ad ct' t.heap ∧ va_F A st t) args s 0 0 A) (F0 m pc ls [va_rf v]) := by
  subst hv; subst hc
  exact W.aret hC.1 hC.2.1 hr (Or.inl ⟨_, rfl⟩) (by cases v; exact Or.inl rfl; exact Or.inr ⟨_, rfl⟩) (fun t ht hW => ⟨rfl, by rw [ht]; exact hH, hS.F ht⟩) hS.2.2 hdg
end CMCALL
/-- the same with an open end: what is answered and held behind it is told by 'post' -/
def CX (l : Launch) (y : MethodName) (bs : ByteArray) (mL : Nat) (ret : Option FieldType) (rm : Room) (D : va_G) (cy : Nat → ClassId) (N : Nat) (ad : Nat → Nat) (av : List Value) (ct : Nat → Option va_E) (post : Option Value → (Nat → Option va_E) → Prop) : Prop :=
  ∀ sz : Nat, Met l y (Cond.code y bs mL ret :: gtbl) rm (va_Pc av (fun U => U.heap.size = sz ∧ hp D (fun _ => True) N ad ct U.heap ∧ kx D cy U))
    (fun _ st o t => (∃ (v : Option Value) (ct' : Nat → Option va_E), o = .returned v ∧ post v ct' ∧ hp D (cA N ad ct sz) N ad ct' t.heap) ∧ va_F (cA N ad ct sz) st t) 0 0 (cA N ad ct sz)
section CXOF
variable {l : Launch} {y : MethodName} {bs : ByteArray} {mL : Nat} {rm : Room} {D : va_G} {cy : Nat → ClassId} {N : Nat} {ad : Nat → Nat} {av : List Value} {ct : Nat → Option va_E}
theorem CX.start {ret : Option FieldType} {post : Option Value → (Nat → Option va_E) → Prop} (hy : plainName y.cls = true) (hav : (lg_sl av).length ≤ mL)
    (body : ∀ (p : Program) (e : Env) (s : State) (m : MethodId) (below : List Frame) (meth : Method) (c : Code) (A : Nat → Prop) (ls : Array Slot), CallFix p m c bs mL s av.toArray gtbl y.cls → meth.sig.returnType = ret → meth.locks = false → (y.name = "<init>" → meth.name = "<init>") → kx D cy s → (∀ q, s.heap.size ≤ q → A q) → hp D A N ad ct s.heap → lv_has ls mL (lv_args 0 av) →
      W p l e rm s m av.toArray below meth c s.heap [] 0 0 (MQ below (fun _ st o t => (∃ (v : Option Value) (ct' : Nat → Option va_E), o = .returned v ∧ post v ct' ∧ hp D A N ad ct' t.heap) ∧ va_F A st t) av.toArray s 0 0 A) (F0 m 0 ls [])) : CX l y bs mL ret rm D cy N ad av ct post := by
  intro sz
  refine Met.ofW (cc := bs) (maxL := mL) (ret := ret) hy rfl ?_
  intro p e s m args below meth c s₁ B hml hv
  obtain ⟨rfl, hsz, hP, hK⟩ := hv
  subst hsz
  have hl := lv_entry av (n := mL) hav
  rw [lg_entry_eq]
  refine body p e s m below meth c _ _ ⟨B.exec, B.bytes, hml, findClass_of_methodNamed B.named, fun w hw => atoms_spec (ws := Cond.code y bs mL ret :: gtbl) B.pre w (List.mem_cons_of_mem _ hw)⟩ B.returns B.notSynchronized (fun h => by rw [← h]; exact (name_of_methodNamed B.named B.method).1) hK (fun q h => Or.inr h) hP.self hl
theorem CM.cx {ret : Option FieldType} {r : Option Value} {ct' : Nat → Option va_E} {post : Option Value → (Nat → Option va_E) → Prop} (h : CM l y bs mL ret rm D cy N ad av ct r ct') (hp : post r ct') : CX l y bs mL ret rm D cy N ad av ct post := by
  intro sz p e ha hc hk s m args below hf happ hpre hT
  obtain ⟨k, o, h1, h2, h3, ⟨hv, hb, hz⟩, hL⟩ := h sz p e ha hc hk s m args below hf happ hpre hT
  exact ⟨k, o, h1, h2, h3, ⟨⟨r, ct', hv, hp, hb⟩, hz⟩, hL⟩
end CXOF
section CXCALL
variable {p : Program} {l : Launch} {e : Env} {R : Room} {s : State} {m : MethodId} {args : Array Value} {below : List Frame} {meth : Method} {c : Code} {H : Heap} {locs : List Loc} {cells slots : Nat} {Q : State → Prop}
variable {cc : ByteArray} {pc : Nat} {ls : Array Slot} {rest st0 : List Value} {D : va_G} {cy : Nat → ClassId} {A : Nat → Prop} {N nL : Nat} {ad : Nat → Nat} {ct ct' : Nat → Option va_E} {H0 : Heap} {own : String}
variable {y : MethodName} {bs : ByteArray} {mL n index : Nat} {ret : Option FieldType} {rm : Room} {As : List Value} {post : Option Value → (Nat → Option va_E) → Prop}
theorem cx_go (hr : va_Run p l e R s m args below meth c H locs cells slots 0 0 (F0 m pc ls st0) rest (fun st o t => (∃ (v : Option Value) (ct' : Nat → Option va_E), o = .returned v ∧ post v ct' ∧ hp D (cA N ad ct H.size) N ad ct' t.heap) ∧ va_F (cA N ad ct H.size) st t) (cA N ad ct H.size)) (hH : hp D A N ad ct H) (hS : va_S A H0 H locs) (hA : ∀ q, H0.size ≤ q → A q)
    (kk : ∀ (v : Option Value) (ct' : Nat → Option va_E) (H1 : Heap) (locs1 : List Loc), post v ct' → hp D A N ad ct' H1 → va_S A H0 H1 locs1 → (∀ q, q < H.size → ¬ cA N ad ct H.size q → H1[q]? = H[q]?) → W p l e R s m args below meth c H1 locs1 cells slots Q (F0 m (pc + 3) ls (v.toList ++ rest))) : W p l e R s m args below meth c H locs cells slots Q (F0 m pc ls st0) := by
  intro T hT X
  obtain ⟨v, st₀, t, T', L, h0, X', hL, e1, e2, ⟨⟨v', ct', hv, hpo, hb⟩, hz, hk⟩, st⟩ := hr T hT X
  cases hv
  have hfr := hH.free hS hA
  rw [h0] at hz hk
  obtain ⟨t2, a1, b1⟩ := kk v ct' T'.heap (locs ++ L) hpo (by rw [e1]; exact hb.mono (fun i e _ _ h => hfr _ h))
    ⟨Nat.le_trans hS.1 (by rw [e1]; exact hz), fun q h1 h2 => by rw [e1, hk q (Nat.lt_of_lt_of_le h1 hS.1) (fun z => h2 (hfr q z))]; exact hS.2.1 q h1 h2, fun q hq => by
      rcases List.mem_append.mp hq with h | h
      · exact hS.2.2 q h
      · exact hfr _ (hL q h)⟩ (fun q h1 h2 => by rw [e1]; exact hk q h1 h2) T' rfl X'
  exact ⟨t2, st t2 a1, b1⟩
theorem cx_V {b : Nat} {C : String} {As' : List Value} (hC : CallFix p m c cc nL s args gtbl own) (hM : CX l y bs mL ret rm D cy N ad (.ref b :: As') ct post) (ho : mvok C y bs mL ret n) (hlk : Cond.methodLink own index y ∈ gtbl) (hR : (rm.cells = 0 ∧ rm.slots = 0) ∧ rm.frames + 1 ≤ R.frames ∧ 8 + (mL + 11) + rm.locals ≤ R.locals) (hK : kx D cy s) (hH : hp D A N ad ct H) (hS : va_S A H0 H locs) (hA : ∀ q, H0.size ≤ q → A q)
    (hrc : ∃ cell : Cell, H[b]? = some cell ∧ cell.vm.isStatics = false ∧ s.vm.findClass C = some cell.cls)
    (hsize : ls.size = nL) (hf : cells ≤ R.cells ∧ slots ≤ R.slots) (hn : As'.length = n) (hst : st0 = As'.reverse ++ .ref b :: rest) (hW : (rest.map fun v => v.category).sum ≤ 8) (hdg : decode cc pc = .ok (.invokevirtual index, 3))
    (kk : ∀ (v : Option Value) (ct' : Nat → Option va_E) (H1 : Heap) (locs1 : List Loc), post v ct' → hp D A N ad ct' H1 → va_S A H0 H1 locs1 → (∀ q, q < H.size → ¬ cA N ad ct H.size q → H1[q]? = H[q]?) → W p l e R s m args below meth c H1 locs1 cells slots Q (F0 m (pc + 3) ls (v.toList ++ rest))) : W p l e R s m args below meth c H locs cells slots Q (F0 m pc ls st0) := by
  obtain ⟨h1, h2, h3, h4, hd⟩ := ho
  subst hst
  refine cx_go (va_runV (As := As') (rest := rest) hC (hM H.size) (cwV n hC.2.2.2.2 (gw_code h1 (fun w hw => ?_)) rfl hR.1.1 hR.1.2 hd hR.2) ⟨cm_blind, hrc, cm_pre hK hH⟩ rfl hn hsize rfl (lv_room hW) hdg hf) hH hS hA kk
  simp only [List.mem_cons, List.not_mem_nil, or_false] at hw
  rcases hw with rfl | rfl | rfl | rfl <;> assumption
theorem cx_ri {v : Int32} {ctF : Nat → Option va_E} (hC : CallFix p m c cc nL s args gtbl own) (hr : meth.sig.returnType = some .int) (hlocks : meth.locks = false) (hpo : post (some (.int v)) ctF) (hH : hp D A N ad ctF H) (hS : va_S A s.heap H locs) (hdg : decode cc pc = .ok (.ireturn, 1)) :
    W p l e R s m args below meth c H locs 0 0 (MQ below (fun _ st o t => (∃ (v : Option Value) (ct' : Nat → Option va_E), o = .returned v ∧ post v ct' ∧ hp D A N ad ct' t.heap) ∧ va_F A st t) args s 0 0 A) (F0 m pc ls [.int v]) :=
  W.iret hC.1 hC.2.1 hr (fun t ht hW => ⟨⟨_, _, rfl, hpo, by rw [ht]; exact hH⟩, hS.F ht⟩) hS.2.2 hdg
theorem cx_rl {v : Int64} {ctF : Nat → Option va_E} (hC : CallFix p m c cc nL s args gtbl own) (hr : meth.sig.returnType = some .long) (hlocks : meth.locks = false) (hpo : post (some (.long v)) ctF) (hH : hp D A N ad ctF H) (hS : va_S A s.heap H locs) (hdg : decode cc pc = .ok (.lreturn, 1)) :
    W p l e R s m args below meth c H locs 0 0 (MQ below (fun _ st o t => (∃ (v : Option Value) (ct' : Nat → Option va_E), o = .returned v ∧ post v ct' ∧ hp D A N ad ct' t.heap) ∧ va_F A st t) args s 0 0 A) (F0 m pc ls [.long v]) :=
  W.lret hC.1 hC.2.1 hr (fun t ht hW => ⟨⟨_, _, rfl, hpo, by rw [ht]; exact hH⟩, hS.F ht⟩) hS.2.2 hdg
theorem cx_rd {v : UInt64} {ctF : Nat → Option va_E} (hC : CallFix p m c cc nL s args gtbl own) (hr : meth.sig.returnType = some .double) (hlocks : meth.locks = false) (hpo : post (some (.double v)) ctF) (hH : hp D A N ad ctF H) (hS : va_S A s.heap H locs) (hdg : decode cc pc = .ok (.dreturn, 1)) :
    W p l e R s m args below meth c H locs 0 0 (MQ below (fun _ st o t => (∃ (v : Option Value) (ct' : Nat → Option va_E), o = .returned v ∧ post v ct' ∧ hp D A N ad ct' t.heap) ∧ va_F A st t) args s 0 0 A) (F0 m pc ls [.double v]) :=
  W.dret hC.1 hC.2.1 hr (fun t ht hW => ⟨⟨_, _, rfl, hpo, by rw [ht]; exact hH⟩, hS.F ht⟩) hS.2.2 hdg
theorem cx_rz {v : Int32} {ctF : Nat → Option va_E} (hC : CallFix p m c cc nL s args gtbl own) (hr : meth.sig.returnType = some .boolean) (hlocks : meth.locks = false) (h01 : v = 0 ∨ v = 1) (hpo : post (some (.int v)) ctF) (hH : hp D A N ad ctF H) (hS : va_S A s.heap H locs) (hdg : decode cc pc = .ok (.ireturn, 1)) :
    W p l e R s m args below meth c H locs 0 0 (MQ below (fun _ st o t => (∃ (v : Option Value) (ct' : Nat → Option va_E), o = .returned v ∧ post v ct' ∧ hp D A N ad ct' t.heap) ∧ va_F A st t) args s 0 0 A) (F0 m pc ls [.int v]) :=
  W.zret hC.1 hC.2.1 hr (by rcases h01 with rfl | rfl <;> decide) (fun t ht hW => ⟨⟨_, _, rfl, hpo, by rw [ht]; exact hH⟩, hS.F ht⟩) hS.2.2 hdg
theorem cx_rv {ctF : Nat → Option va_E} (hC : CallFix p m c cc nL s args gtbl own) (hr : meth.sig.returnType = none) (hlocks : meth.locks = false) (hpo : post none ctF) (hH : hp D A N ad ctF H) (hS : va_S A s.heap H locs) (hdg : decode cc pc = .ok (.return_, 1)) :
    W p l e R s m args below meth c H locs 0 0 (MQ below (fun _ st o t => (∃ (v : Option Value) (ct' : Nat → Option va_E), o = .returned v ∧ post v ct' ∧ hp D A N ad ct' t.heap) ∧ va_F A st t) args s 0 0 A) (F0 m pc ls []) :=
  W.vret hC.1 hC.2.1 hr (fun t ht hW => ⟨⟨_, _, rfl, hpo, by rw [ht]; exact hH⟩, hS.F ht⟩) hS.2.2 hdg
end CXCALL
section STQ
variable {l : Launch} {y : MethodName} {bs : ByteArray} {mL : Nat} {rm : Room} {D : va_G} {cy : Nat → ClassId} {N : Nat} {ad : Nat → Nat} {av : List Value} {ct ct' : Nat → Option va_E}
theorem CX.startQ {ret : Option FieldType} {post : Option Value → (Nat → Option va_E) → Prop} (hy : plainName y.cls = true) (hav : (lg_sl av).length ≤ mL)
    (body : ∀ (p : Program) (e : Env) (s : State) (m : MethodId) (args : Array Value) (below : List Frame) (meth : Method) (c : Code) (A : Nat → Prop) (ls : Array Slot) (Q : State → Prop), Q = MQ below (fun _ st o t => (∃ (v : Option Value) (ct' : Nat → Option va_E), o = .returned v ∧ post v ct' ∧ hp D A N ad ct' t.heap) ∧ va_F A st t) args s 0 0 A → CallFix p m c bs mL s args gtbl y.cls → meth.sig.returnType = ret → meth.locks = false → kx D cy s → (∀ q, s.heap.size ≤ q → A q) → hp D A N ad ct s.heap → lv_has ls mL (lv_args 0 av) →
      W p l e rm s m args below meth c s.heap [] 0 0 Q (F0 m 0 ls [])) : CX l y bs mL ret rm D cy N ad av ct post :=
  CX.start hy hav (fun p e s m below meth c A ls hC hr hlk _ hK hA hH hl => body p e s m _ below meth c A ls _ rfl hC hr hlk hK hA hH hl)
theorem CM.startQ {ret : Option FieldType} {r : Option Value} (hy : plainName y.cls = true) (hav : (lg_sl av).length ≤ mL)
    (body : ∀ (p : Program) (e : Env) (s : State) (m : MethodId) (args : Array Value) (below : List Frame) (meth : Method) (c : Code) (A : Nat → Prop) (ls : Array Slot) (Q : State → Prop), Q = MQ below (fun _ st o t => o = .returned r ∧ hp D A N ad ct' t.heap ∧ va_F A st t) args s 0 0 A → CallFix p m c bs mL s args gtbl y.cls → meth.sig.returnType = ret → meth.locks = false → kx D cy s → (∀ q, s.heap.size ≤ q → A q) → hp D A N ad ct s.heap → lv_has ls mL (lv_args 0 av) →
      W p l e rm s m args below meth c s.heap [] 0 0 Q (F0 m 0 ls [])) : CM l y bs mL ret rm D cy N ad av ct r ct' :=
  CM.start hy hav (fun p e s m below meth c A ls hC hr hlk _ hK hA hH hl => body p e s m _ below meth c A ls _ rfl hC hr hlk hK hA hH hl)
end STQ
