section JMATH
variable {p : Program} {l : Launch} {e : Env} {R : Room} {s : State} {m : MethodId} {args : Array Value} {below : List Frame} {meth : Method} {c : Code} {H : Heap} {locs : List Loc} {cells slots : Nat} {Q : State → Prop}
variable {cc : ByteArray} {pc nL : Nat} {ls : Array Slot} {rest : List Value} {own : String} {index : Nat} {x y : Int32}
theorem hj_min (hC : CallFix p m c cc nL s args gtbl own) (hsize : ls.size = nL) (hlk : Cond.methodLink own index yJ9_min_7cf53 ∈ gtbl) (hfr : 1 ≤ R.frames) (hlo : (rest.map fun v => v.category).sum + 13 ≤ R.locals) (hf : cells ≤ R.cells ∧ slots ≤ R.slots) (hdg : decode cc pc = .ok (.invokestatic index, 3))
    (kk : W p l e R s m args below meth c H locs cells slots Q (F0 m (pc + 3) ls (.int (mnI x y) :: rest))) : W p l e R s m args below meth c H locs cells slots Q (F0 m pc ls (.int y :: .int x :: rest)) :=
  va_mmin hC.1 hC.2.1 (hC.2.2.1.trans hsize.symm) hC.2.2.2.1 (hC.2.2.2.2 _ hlk) (hC.2.2.2.2 _ qSt_J9_min) (hC.2.2.2.2 _ qInit_J9) (hC.2.2.2.2 _ qK_J9_min) hfr hlo hf.1 hf.2 hdg kk
theorem hj_max (hC : CallFix p m c cc nL s args gtbl own) (hsize : ls.size = nL) (hlk : Cond.methodLink own index yJ9_max_7cf53 ∈ gtbl) (hfr : 1 ≤ R.frames) (hlo : (rest.map fun v => v.category).sum + 13 ≤ R.locals) (hf : cells ≤ R.cells ∧ slots ≤ R.slots) (hdg : decode cc pc = .ok (.invokestatic index, 3))
    (kk : W p l e R s m args below meth c H locs cells slots Q (F0 m (pc + 3) ls (.int (mxI x y) :: rest))) : W p l e R s m args below meth c H locs cells slots Q (F0 m pc ls (.int y :: .int x :: rest)) :=
  va_mmax hC.1 hC.2.1 (hC.2.2.1.trans hsize.symm) hC.2.2.2.1 (hC.2.2.2.2 _ hlk) (hC.2.2.2.2 _ qSt_J9_max) (hC.2.2.2.2 _ qInit_J9) (hC.2.2.2.2 _ qK_J9_max) hfr hlo hf.1 hf.2 hdg kk
/-- Java's remainder, and Math.floorMod -/
def rmI (a b : Int32) : Int32 := a - a / b * b
def fmo (x y : Int32) : Int32 := if 0 ≤ (x ^^^ y) then rmI x y else if rmI x y = 0 then rmI x y else rmI x y + y
def fmS : Spec where
  pre := .and (.count 2) (.code yJ9_floorMod_7cf53 cJ9_floorMod_7cf53 3 (some .int))
  post := .tt
  room := {}
theorem c_J9_floorMod (l : Launch) (x y : Int32) : MetFree l yJ9_floorMod_7cf53 fmS (fun args _ => args = #[.int x, .int y] ∧ y ≠ 0) (fun _ _ _ _ _ => True) (PureRet (some (.int (fmo x y)))) := by
  refine MetFree.of_bodySF (code := cJ9_floorMod_7cf53) (maxLocals := 3) (ret := some .int) (by decide +kernel) ?_ ?_
  · intro args s m h9 hn
    simp only [fmS, Cond.before_and, Bool.and_eq_true] at h9
    obtain ⟨meth, c, h1, h2, h3, h4, h5, h6, -, -⟩ := Cond.code_spec hn h9.2
    exact ⟨meth, c, h1, h2, h3, h4, h5, h6⟩
  · intro p e s m args below meth c s₁ B hml hP _
    obtain ⟨rfl, hy⟩ := hP
    have X₀ := Stand.of_body B
    have hx := B.exec
    have hb := B.bytes
    have hr := B.returns
    have hlocks := B.notSynchronized
    have hh0 : s₁.heap = s.heap := by rw [B.state]; rfl
    have K : W p l e fmS.room s m #[.int x, .int y] below meth c s.heap [] 0 0 (MQ below (fun _ st o t => o = .returned (some (.int (fmo x y))) ∧ t.heap = st.heap) #[.int x, .int y] s 0 0 (fun _ => False)) (entryFrame m ([.int x, .int y] : List Value).toArray 3) := by
      have hl := lv_entry [.int x, .int y] (n := 3) (Nat.le_of_ble_eq_true rfl)
      rw [lg_entry_eq]
      generalize (lg_sl ([.int x, .int y]) ++ List.replicate (3 - (lg_sl ([.int x, .int y])).length) Slot.unset).toArray = ls at hl ⊢
      have hl : lv_has ls 3 [(0, .int x), (1, .int y)] := hl
      refine lv_iload_n hx hb dJ9_floorMod_7cf53_0 rfl (lv_at hl 0 rfl) ?_
      refine lv_iload_n hx hb dJ9_floorMod_7cf53_1 rfl (lv_at hl 1 rfl) ?_
      refine lv_irem hx hb dJ9_floorMod_7cf53_2 hy ?_
      refine lv_istore_n (lv' := [(2, .int (rmI x y)), (0, .int x), (1, .int y)]) hx hb dJ9_floorMod_7cf53_3 rfl hl (by decide) rfl (fun ls hl => ?_)
      refine lv_iload_n hx hb dJ9_floorMod_7cf53_4 rfl (lv_at hl 1 rfl) ?_
      refine lv_iload_n hx hb dJ9_floorMod_7cf53_5 rfl (lv_at hl 2 rfl) ?_
      refine lv_ixor hx hb dJ9_floorMod_7cf53_6 ?_
      refine lv_if_ge (tgt := 18) hx hb dJ9_floorMod_7cf53_7 (by decide) (fun c7 => ?_) (fun c7 => ?_)
      · refine lv_iload_n hx hb dJ9_floorMod_7cf53_18 rfl (lv_at hl 0 rfl) ?_
        exact W.iret hx hb hr (fun t ht _ => ⟨by unfold fmo; rw [if_pos c7], ht⟩) (fun q hq => absurd hq List.not_mem_nil) dJ9_floorMod_7cf53_19
      · refine lv_iload_n hx hb dJ9_floorMod_7cf53_10 rfl (lv_at hl 0 rfl) ?_
        refine lv_if_eq (tgt := 18) hx hb dJ9_floorMod_7cf53_11 (by decide) (fun c11 => ?_) (fun c11 => ?_)
        · refine lv_iload_n hx hb dJ9_floorMod_7cf53_18 rfl (lv_at hl 0 rfl) ?_
          exact W.iret hx hb hr (fun t ht _ => ⟨by unfold fmo; rw [if_neg c7, if_pos c11], ht⟩) (fun q hq => absurd hq List.not_mem_nil) dJ9_floorMod_7cf53_19
        · refine lv_iload_n hx hb dJ9_floorMod_7cf53_14 rfl (lv_at hl 0 rfl) ?_
          refine lv_iload_n hx hb dJ9_floorMod_7cf53_15 rfl (lv_at hl 2 rfl) ?_
          refine lv_iadd hx hb dJ9_floorMod_7cf53_16 ?_
          exact W.iret hx hb hr (fun t ht _ => ⟨by unfold fmo; rw [if_neg c7, if_neg c11], ht⟩) (fun q hq => absurd hq List.not_mem_nil) dJ9_floorMod_7cf53_17
    obtain ⟨t, a1, o, b1, b2, ⟨rfl, hh⟩, J, hF, hJ⟩ := K s₁ hh0 X₀
    obtain rfl : J = [] := by
      cases J with
      | nil => rfl
      | cons a J => exact absurd (hJ a List.mem_cons_self) id
    exact ⟨t, _, a1, b1, b2, rfl, hh, hF⟩
theorem hj_fmod (hC : CallFix p m c cc nL s args gtbl own) (hsize : ls.size = nL) (hlk : Cond.methodLink own index yJ9_floorMod_7cf53 ∈ gtbl) (hfr : 1 ≤ R.frames) (hW : (rest.map fun v => v.category).sum ≤ 8) (hlo : 22 ≤ R.locals) (hf : cells ≤ R.cells ∧ slots ≤ R.slots) (hy : y ≠ 0) (hdg : decode cc pc = .ok (.invokestatic index, 3))
    (kk : W p l e R s m args below meth c H locs cells slots Q (F0 m (pc + 3) ls (.int (fmo x y) :: rest))) : W p l e R s m args below meth c H locs cells slots Q (F0 m pc ls (.int y :: .int x :: rest)) := by
  have hcode : (Cond.code yJ9_floorMod_7cf53 cJ9_floorMod_7cf53 3 (some .int)).before args s = true := hC.2.2.2.2 _ qK_J9_floorMod
  have hini : (Cond.initialized yJ9_floorMod_7cf53.cls).before args s = true := hC.2.2.2.2 _ qInit_J9
  have hB : Back l R p e below s args yJ9_floorMod_7cf53 3 8 _ _ := Back.of_pure (S := fmS) (tab := .code yJ9_floorMod_7cf53 cJ9_floorMod_7cf53 3 (some .int)) (n := 2) (bytes := cJ9_floorMod_7cf53) (maxL := 3) (ret := some .int) (P := fun (q : Int32 × Int32) a' _ => a' = #[.int q.1, .int q.2] ∧ q.2 ≠ 0) (val := fun q : Int32 × Int32 => some (.int (fmo q.1 q.2)))
    (fun q => c_J9_floorMod l q.1 q.2) rfl rfl rfl hfr hlo (fun g a U h => by rw [h.1]; rfl) (fun _ _ _ _ _ _ h => h) (by decide) hcode hcode hini
  intro T hT X
  obtain ⟨v, vm₁, ⟨U', l2, c2, s2⟩, hW₁, X', ⟨hp, hv⟩, st⟩ := callS X hC.1 (y := yJ9_floorMod_7cf53) (bytes := cJ9_floorMod_7cf53) (maxL := 3) (ret := some .int) hC.2.2.2.1 (hC.2.2.2.2 _ hlk) (hC.2.2.2.2 _ qSt_J9_floorMod) hini hcode (by decide) hB (g := F0 m pc ls (.int y :: .int x :: rest)) rfl (by rw [hC.2.2.1]; exact hsize) (argsL := [.int x, .int y]) (rest := rest)
    (fun sig hs => by
      have h : parseMethodDescriptor "(II)I" = some { parameters := [.int, .int], returnType := some .int } := by decide +kernel
      rw [show yJ9_floorMod_7cf53.desc = "(II)I" from rfl, h] at hs
      rw [← Option.some.inj hs]; rfl)
    rfl (by show 2 * 0 + _ ≤ 8; omega) (by rw [hC.2.1]; exact hdg) (fun vm₁ h => ⟨hf.1, hf.2, (x, y), rfl, hy⟩)
  obtain rfl := hv (x, y) ⟨rfl, hy⟩
  obtain ⟨e1, e2, e3, e4⟩ := hp
  dsimp only [Pt.U, Pt.locs, Pt.cells, Pt.slots] at X' e1 e2 e3 e4 st
  subst e2; subst e3; subst e4
  obtain ⟨t2, a1, b1⟩ := kk U' (e1.trans hT) X'
  exact ⟨t2, st t2 a1, b1⟩
end JMATH
