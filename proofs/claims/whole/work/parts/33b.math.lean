section JMATH
variable {p : Program} {l : Launch} {e : Env} {R : Room} {s : State} {m : MethodId} {args : Array Value} {below : List Frame} {meth : Method} {c : Code} {H : Heap} {locs : List Loc} {cells slots : Nat} {Q : State → Prop}
variable {cc : ByteArray} {pc nL : Nat} {ls : Array Slot} {rest : List Value} {own : String} {index : Nat} {x y : Int32}
theorem hj_min (hC : CallFix p m c cc nL s args gtbl own) (hsize : ls.size = nL) (hlk : Cond.methodLink own index yJ9_min_7cf53 ∈ gtbl) (hfr : 1 ≤ R.frames) (hlo : (rest.map fun v => v.category).sum + 13 ≤ R.locals) (hf : cells ≤ R.cells ∧ slots ≤ R.slots) (hdg : decode cc pc = .ok (.invokestatic index, 3))
    (kk : W p l e R s m args below meth c H locs cells slots Q (F0 m (pc + 3) ls (.int (mnI x y) :: rest))) : W p l e R s m args below meth c H locs cells slots Q (F0 m pc ls (.int y :: .int x :: rest)) :=
  va_mmin hC.1 hC.2.1 (hC.2.2.1.trans hsize.symm) hC.2.2.2.1 (hC.2.2.2.2 _ hlk) (hC.2.2.2.2 _ qSt_J9_min) (hC.2.2.2.2 _ qInit_J9) (hC.2.2.2.2 _ qK_J9_min) hfr hlo hf.1 hf.2 hdg kk
theorem hj_max (hC : CallFix p m c cc nL s args gtbl own) (hsize : ls.size = nL) (hlk : Cond.methodLink own index yJ9_max_7cf53 ∈ gtbl) (hfr : 1 ≤ R.frames) (hlo : (rest.map fun v => v.category).sum + 13 ≤ R.locals) (hf : cells ≤ R.cells ∧ slots ≤ R.slots) (hdg : decode cc pc = .ok (.invokestatic index, 3))
    (kk : W p l e R s m args below meth c H locs cells slots Q (F0 m (pc + 3) ls (.int (mxI x y) :: rest))) : W p l e R s m args below meth c H locs cells slots Q (F0 m pc ls (.int y :: .int x :: rest)) :=
  va_mmax hC.1 hC.2.1 (hC.2.2.1.trans hsize.symm) hC.2.2.2.1 (hC.2.2.2.2 _ hlk) (hC.2.2.2.2 _ qSt_J9_max) (hC.2.2.2.2 _ qInit_J9) (hC.2.2.2.2 _ qK_J9_max) hfr hlo hf.1 hf.2 hdg kk
abbrev fmo (x y : Int32) : Int32 := Jvm.Free.MCB.fmod x y
theorem hj_fmod (hC : CallFix p m c cc nL s args gtbl own) (hsize : ls.size = nL) (hlk : Cond.methodLink own index yJ9_floorMod_7cf53 ∈ gtbl) (hfr : 1 ≤ R.frames) (hW : (rest.map fun v => v.category).sum ≤ 8) (hlo : 22 ≤ R.locals) (hf : cells ≤ R.cells ∧ slots ≤ R.slots) (hy : y ≠ 0) (hdg : decode cc pc = .ok (.invokestatic index, 3))
    (kk : W p l e R s m args below meth c H locs cells slots Q (F0 m (pc + 3) ls (.int (fmo x y) :: rest))) : W p l e R s m args below meth c H locs cells slots Q (F0 m pc ls (.int y :: .int x :: rest)) := by
  have hcode : (Cond.code Jvm.Free.MCB.FloorMod.yN Jvm.Free.MCB.FloorMod.yB 3 (some .int)).before args s = true := hC.2.2.2.2 _ qK_J9_floorMod
  have hini : (Cond.initialized "java/lang/Math").before args s = true := hC.2.2.2.2 _ qInit_J9
  intro T hT X
  obtain ⟨v, vm₁, ⟨U', l2, c2, s2⟩, hW₁, X', ⟨hp, hv⟩, st⟩ := callS X hC.1 (y := Jvm.Free.MCB.FloorMod.yN) (bytes := Jvm.Free.MCB.FloorMod.yB) (maxL := 3) (ret := some .int) hC.2.2.2.1 (hC.2.2.2.2 _ hlk) (hC.2.2.2.2 _ qSt_J9_floorMod) hini hcode (by decide) (Jvm.Free.MCB.FloorMod.pays (W := 8) (len := 3) hfr hlo hcode hini) (g := F0 m pc ls (.int y :: .int x :: rest)) rfl (by rw [hC.2.2.1]; exact hsize) (argsL := [.int x, .int y]) (rest := rest)
    (fun sig hs => by
      have h : parseMethodDescriptor "(II)I" = some { parameters := [.int, .int], returnType := some .int } := by decide +kernel
      rw [show Jvm.Free.MCB.FloorMod.yN.desc = "(II)I" from rfl, h] at hs
      rw [← Option.some.inj hs]; rfl)
    rfl (by show 2 * 0 + _ ≤ 8; omega) (by rw [hC.2.1]; exact hdg) (fun vm₁ h => ⟨hf.1, hf.2, (x, y), rfl, hy⟩)
  obtain rfl := hv (x, y) ⟨rfl, hy⟩
  obtain ⟨e1, e2, e3, e4⟩ := hp
  dsimp only [Pt.U, Pt.locs, Pt.cells, Pt.slots] at X' e1 e2 e3 e4 st
  subst e2; subst e3; subst e4
  obtain ⟨t2, a1, b1⟩ := kk U' (e1.trans hT) X'
  exact ⟨t2, st t2 a1, b1⟩
end JMATH
