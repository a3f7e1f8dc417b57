abbrev cy_tys (cy : Nat → ClassId) : List (ClassId × FieldType) := [(cy 0, .int), (cy 1, .long), (cy 2, .double), (cy 3, .object RX1), (cy 4, .object RX4)]
/-- table words that a call may not carry as words: casts, declarations, nest links -/
def nwL : List Cond := [.castable RX0 RX4, .castable RX2 RX3, .castable RX2 RX4, .castable RX5 RX3, .castable RX5 RX4, .castable RX6 RX3, .castable RX6 RX4,
  .declares ⟨RX3, "length", "()I"⟩, .declares ⟨RX3, "read", "(ILColumnHouse$Cell;)V"⟩, .declares ⟨RX3, "write", "(ILColumnHouse$Cell;)V"⟩, .declares ⟨RX4, "measure", "()I"⟩,
  .methodLinkNest RX7 21 yX1_init RX7, .methodLinkNest RX3 23 yX7_goesInto RX7, .methodLinkNest RX3 40 yX7_fits RX7]
def nw_kind : Cond → Bool
  | .castable .. => true
  | .declares .. => true
  | .methodLinkNest .. => true
  | _ => false
theorem nw_warm {w : Cond} (hw : nw_kind w = true) {s U : State} (hW : s.WarmedH U.vm) (h : va_Nw w s) : va_Nw w U := by
  cases w <;> first | (cases hw; done) | exact va_Nw.warmC hW h | exact va_Nw.warmD hW h | exact va_Nw.warmM hW h
theorem nw_same {w : Cond} (hw : nw_kind w = true) {u U : State} (hv : u.vm = U.vm) (h : va_Nw w u) : va_Nw w U := by
  cases w <;> first | (cases hw; done) | exact va_Nw.same rfl hv h
theorem nwL_in : ∀ w ∈ nwL, w ∈ lw_tbl := by decide +kernel
theorem nwL_kind : ∀ w ∈ nwL, nw_kind w = true := by decide +kernel
/-- what a walk needs of the tables, apart from words -/
def kx (D : va_G) (cy : Nat → ClassId) (U : State) : Prop :=
  va_K D vwCl (cy_tys cy) U ∧ (∀ w ∈ nwL, va_Nw w U) ∧ (va_AO RX1 U ∧ va_AO RX4 U) ∧ va_Nc RX0 RX3 U ∧ va_Nc RX2 RX0 U ∧ va_Nc RX5 RX0 U ∧ va_Nc RX6 RX0 U
theorem kx.warm {D : va_G} {cy : Nat → ClassId} {s U : State} (hW : s.WarmedH U.vm) (h : kx D cy s) : kx D cy U := by
  obtain ⟨h1, h2, ⟨h3, h4⟩, h5, h6, h7, h8⟩ := h
  exact ⟨va_K.moved hW.alike h1, fun w hw => nw_warm (nwL_kind w hw) hW (h2 w hw), ⟨h3.moved hW.alike, h4.moved hW.alike⟩, h5.moved hW.alike, h6.moved hW.alike, h7.moved hW.alike, h8.moved hW.alike⟩
theorem kx.same {D : va_G} {cy : Nat → ClassId} {u U : State} (hv : u.vm = U.vm) (h : kx D cy u) : kx D cy U := by
  obtain ⟨h1, h2, ⟨h3, h4⟩, h5, h6, h7, h8⟩ := h
  have ha : u.vm.Alike U.vm := by rw [hv]; exact Vm.Alike.refl U.vm
  exact ⟨va_K.moved ha h1, fun w hw => nw_same (nwL_kind w hw) hv (h2 w hw), ⟨h3.moved ha, h4.moved ha⟩, h5.moved ha, h6.moved ha, h7.moved ha, h8.moved ha⟩
/-- the world -/
def hp (D : va_G) (A : Nat → Prop) (N : Nat) (ad : Nat → Nat) (ct : Nat → Option va_E) (H : Heap) : Prop :=
  (∀ (i j : Nat) (e e' : va_E), i < N → j < N → ct i = some e → ct j = some e' → ad i = ad j → i = j) ∧ ∀ (i : Nat) (e : va_E), i < N → ct i = some e → A (ad i) ∧ va_at D vwCl (ad i, e) H
theorem hp.one {D : va_G} {A : Nat → Prop} {N : Nat} {ad : Nat → Nat} {ct : Nat → Option va_E} {H : Heap} (h : hp D A N ad ct H) {i : Nat} {e : va_E} (hi : i < N) (he : ct i = some e) : va_P D vwCl [(ad i, e)] H := by
  intro k q hk
  match k, hk with
  | 0, hk => cases hk; exact (h.2 i e hi he).2
  | k + 1, hk => simp at hk
theorem hp.mono {D : va_G} {A B : Nat → Prop} {N : Nat} {ad : Nat → Nat} {ct : Nat → Option va_E} {H : Heap} (h : hp D A N ad ct H) (hAB : ∀ (i : Nat) (e : va_E), i < N → ct i = some e → A (ad i) → B (ad i)) : hp D B N ad ct H :=
  ⟨h.1, fun i e hi he => ⟨hAB i e hi he (h.2 i e hi he).1, (h.2 i e hi he).2⟩⟩
theorem hp.kept {D : va_G} {A : Nat → Prop} {N : Nat} {ad : Nat → Nat} {ct : Nat → Option va_E} {H H1 : Heap} (h : hp D A N ad ct H) (hk : ∀ (i : Nat) (e : va_E), i < N → ct i = some e → H1[ad i]? = H[ad i]?) : hp D A N ad ct H1 :=
  ⟨h.1, fun i e hi he => ⟨(h.2 i e hi he).1, (h.2 i e hi he).2.kept (hk i e hi he)⟩⟩
theorem hp.set {D : va_G} {A : Nat → Prop} {N : Nat} {ad : Nat → Nat} {ct ct' : Nat → Option va_E} {H H1 : Heap} (h : hp D A N ad ct H) {i : Nat} {e e' : va_E} (hi : i < N) (he : ct i = some e) (he' : ct' i = some e') (ho : ∀ j, j ≠ i → ct' j = ct j)
    (hat : va_at D vwCl (ad i, e') H1) (oq : ∀ q : Nat, q ≠ ad i → H1[q]? = H[q]?) : hp D A N ad ct' H1 := by
  have key : ∀ (j : Nat) (x : va_E), ct' j = some x → ∃ y, ct j = some y := by
    intro j x hx
    by_cases hj : j = i
    · exact ⟨e, by rw [hj]; exact he⟩
    · exact ⟨x, by rw [← ho j hj]; exact hx⟩
  refine ⟨fun a b x y ha hb hx hy hab => ?_, fun j x hj hx => ?_⟩
  · obtain ⟨x0, hx0⟩ := key a x hx
    obtain ⟨y0, hy0⟩ := key b y hy
    exact h.1 a b x0 y0 ha hb hx0 hy0 hab
  · by_cases hji : j = i
    · subst hji
      cases he'.symm.trans hx
      exact ⟨(h.2 j e hi he).1, hat⟩
    · have hx' : ct j = some x := by rw [← ho j hji]; exact hx
      exact ⟨(h.2 j x hj hx').1, (h.2 j x hj hx').2.kept (oq _ (fun z => hji (h.1 j i x e hj hi hx' he z)))⟩
/-- which cells a method may change -/
def cA (N : Nat) (ad : Nat → Nat) (ct : Nat → Option va_E) (sz : Nat) : Nat → Prop := fun q => (∃ (i : Nat) (e : va_E), i < N ∧ ct i = some e ∧ q = ad i) ∨ sz ≤ q
theorem hp.self {D : va_G} {A : Nat → Prop} {N : Nat} {ad : Nat → Nat} {ct : Nat → Option va_E} {H : Heap} {sz : Nat} (h : hp D A N ad ct H) : hp D (cA N ad ct sz) N ad ct H :=
  h.mono (fun i e hi he _ => Or.inl ⟨i, e, hi, he, rfl⟩)
theorem hp.free {D : va_G} {A : Nat → Prop} {N : Nat} {ad : Nat → Nat} {ct : Nat → Option va_E} {H H0 : Heap} {locs : List Loc} (h : hp D A N ad ct H) (hS : va_S A H0 H locs) (hA : ∀ q, H0.size ≤ q → A q) : ∀ q, cA N ad ct H.size q → A q := by
  intro q hq
  rcases hq with ⟨i, e, hi, he, rfl⟩ | hq
  · exact (h.2 i e hi he).1
  · exact hA q (Nat.le_trans hS.1 hq)
section GROWS
variable {p : Program} {l : Launch} {e : Env} {R : Room} {s : State} {m : MethodId} {args : Array Value} {below : List Frame} {meth : Method} {c : Code} {H : Heap} {locs : List Loc} {cells slots : Nat} {Q : State → Prop}
variable {cc : ByteArray} {pc : Nat} {ls : Array Slot} {rest : List Value} {D : va_G} {cy : Nat → ClassId} {A : Nat → Prop} {N nL : Nat} {ad : Nat → Nat} {ct ct' : Nat → Option va_E} {H0 : Heap} {own : String}
theorem g_get (hC : CallFix p m c cc nL s args gtbl own) (hK : kx D cy s) {ref C : String} {T : u_T} {NF ci index : Nat} (hin : ∀ w ∈ u_ws C T NF, w ∈ gtbl) (hH : hp D A N ad ct H) (i : Nat) (hi : i < N) {fs : List Value} (he : ct i = some (.inr (ci, fs))) (hc : vwCl[ci]? = some (C, T, NF)) (k : Nat) (hk : k < NF)
    (hlink : Cond.fieldLink own index ref (T k).2.1 (T k).2.2.1 ∈ gtbl) (hsame : ref = (T k).1 ∨ Cond.sameField ref (T k).1 (T k).2.1 (T k).2.2.1 ∈ gtbl) {v : Value} (hv : fs[k]? = some v) (hdg : decode cc pc = .ok (.getfield index, 3))
    (kk : W p l e R s m args below meth c H locs cells slots Q (F0 m (pc + 3) ls (v :: rest))) : W p l e R s m args below meth c H locs cells slots Q (F0 m pc ls (.ref (ad i) :: rest)) :=
  va_get hC.1 hC.2.1 hC.2.2.2.2 hin hC.2.2.2.1 hK.1 (hH.one hi he) 0 rfl hc k hk (hC.2.2.2.2 _ hlink) (fun x hx => by
    rcases hsame with h | h
    · rw [h]; exact hx
    · exact u_same (hC.2.2.2.2 _ h) x hx) hv hdg kk
theorem g_put (hC : CallFix p m c cc nL s args gtbl own) (hK : kx D cy s) {ref C : String} {T : u_T} {NF ci index : Nat} (hin : ∀ w ∈ u_ws C T NF, w ∈ gtbl) (ty0 : Nat → FieldType) (hty : ∀ k, k < NF → parseFieldDescriptor (T k).2.2.1 = some (ty0 k)) (hnm : ∀ a, a < NF → ∀ b, b < NF → a ≠ b → (T a).2.1 ≠ (T b).2.1)
    (hH : hp D A N ad ct H) (hS : va_S A H0 H locs) (i : Nat) (hi : i < N) {fs : List Value} (he : ct i = some (.inr (ci, fs))) (hc : vwCl[ci]? = some (C, T, NF)) (k : Nat) (hk : k < NF) (hlink : Cond.fieldLink own index ref (T k).2.1 (T k).2.2.1 ∈ gtbl) (href : ref = (T k).1) (hfin : (T k).2.2.2 = false)
    {v : Value} (hn : narrow (ty0 k) v = v) (hfit : fits (ty0 k) v = true) (hl : k < fs.length) (he' : ct' i = some (.inr (ci, fs.set k v))) (ho : ∀ j, j ≠ i → ct' j = ct j) (hdg : decode cc pc = .ok (.putfield index, 3))
    (kk : ∀ (H1 : Heap) (locs1 : List Loc), hp D A N ad ct' H1 → va_S A H0 H1 locs1 → W p l e R s m args below meth c H1 locs1 cells slots Q (F0 m (pc + 3) ls rest)) : W p l e R s m args below meth c H locs cells slots Q (F0 m pc ls (v :: .ref (ad i) :: rest)) := by
  have hts := hC.2.2.2.2
  have hap := va_apart (own := own) hts hin ty0 hty hnm hK.1 hc
  obtain ⟨hAi, r, h1, cell, q1, q2, q3, q4⟩ := hH.2 i _ hi he
  have hr : r = (C, T, NF) := Option.some.inj (h1.symm.trans hc)
  subst hr
  obtain ⟨hSl, hfc, kC, hkC, hkind⟩ := hK.1.1 ci _ hc
  obtain ⟨cf, kf, fi, f, hi2, hsl⟩ := hSl k hk
  have hlay := hts _ (hin _ (u_in_lay hk))
  unfold u_lay at hlay
  rw [if_neg (by rw [hfin]; decide)] at hlay
  have hst := (u_facts hfc hkC (u_lays hts hin hk) hi2).1
  have h6 := u_store hfc hkC hkind hlay hi2 (hty k hk) hn hfit
  refine W.putK hC.1 hC.2.1 (f := f) ⟨hC.2.2.2.1, hts _ hlink, ⟨_, _, _, by rw [href]; exact hi2⟩, hst⟩ (by rw [q2]; exact h6) q1 q3 (by rw [hsl]; exact k2_hasslot (q4 k hk)) rfl rfl hdg fun H' e1 e2 e3 => ?_
  rw [hsl] at e1 ⊢
  exact kk H' _ (hH.set hi he he' ho ⟨_, hc, t_OB.to (V := updV (vp_V fs) k v) ⟨_, e1, q2, q3, t_set q4 hap hk v⟩ (fun j _ => vp_updV_set hl v j)⟩ e3) (hS.put e2 e3 hAi)
theorem g_iald (hC : CallFix p m c cc nL s args gtbl own) (hK : kx D cy s) (hH : hp D A N ad ct H) (i : Nat) (hi : i < N) {n : Nat} {f : Nat → Int32} (he : ct i = some (.inl (cy 0, n, .inl f))) {x : Int32} (hin : vp_in x n) (hdg : decode cc pc = .ok (.iaload, 1))
    (kk : W p l e R s m args below meth c H locs cells slots Q (F0 m (pc + 1) ls (.int (f x.toNatClampNeg) :: rest))) : W p l e R s m args below meth c H locs cells slots Q (F0 m pc ls (.int x :: .ref (ad i) :: rest)) :=
  va_iald hC.1 hC.2.1 hK.1 (hH.one hi he) 0 0 rfl rfl hin hdg kk
theorem g_lald (hC : CallFix p m c cc nL s args gtbl own) (hK : kx D cy s) (hH : hp D A N ad ct H) (i : Nat) (hi : i < N) {n : Nat} {f : Nat → Int64} (he : ct i = some (.inl (cy 1, n, .inr (.inl f)))) {x : Int32} (hin : vp_in x n) (hdg : decode cc pc = .ok (.laload, 1))
    (kk : W p l e R s m args below meth c H locs cells slots Q (F0 m (pc + 1) ls (.long (f x.toNatClampNeg) :: rest))) : W p l e R s m args below meth c H locs cells slots Q (F0 m pc ls (.int x :: .ref (ad i) :: rest)) :=
  va_lald hC.1 hC.2.1 hK.1 (hH.one hi he) 0 1 rfl rfl hin hdg kk
theorem g_dald (hC : CallFix p m c cc nL s args gtbl own) (hK : kx D cy s) (hH : hp D A N ad ct H) (i : Nat) (hi : i < N) {n : Nat} {f : Nat → UInt64} (he : ct i = some (.inl (cy 2, n, .inr (.inr (.inr (.inl f)))))) {x : Int32} (hin : vp_in x n) (hdg : decode cc pc = .ok (.daload, 1))
    (kk : W p l e R s m args below meth c H locs cells slots Q (F0 m (pc + 1) ls (.double (f x.toNatClampNeg) :: rest))) : W p l e R s m args below meth c H locs cells slots Q (F0 m pc ls (.int x :: .ref (ad i) :: rest)) :=
  va_dald hC.1 hC.2.1 hK.1 (hH.one hi he) 0 2 rfl rfl hin hdg kk
theorem g_aald3 (hC : CallFix p m c cc nL s args gtbl own) (hK : kx D cy s) (hH : hp D A N ad ct H) (i : Nat) (hi : i < N) {n : Nat} {f : Nat → Option Nat} (he : ct i = some (.inl (cy 3, n, .inr (.inr (.inr (.inr f)))))) {x : Int32} (hin : vp_in x n) (hdg : decode cc pc = .ok (.aaload, 1))
    (kk : W p l e R s m args below meth c H locs cells slots Q (F0 m (pc + 1) ls (va_rf (f x.toNatClampNeg) :: rest))) : W p l e R s m args below meth c H locs cells slots Q (F0 m pc ls (.int x :: .ref (ad i) :: rest)) :=
  va_aldq hC.1 hC.2.1 hK.1 (hH.one hi he) 0 3 rfl rfl hin hdg kk
theorem g_aald4 (hC : CallFix p m c cc nL s args gtbl own) (hK : kx D cy s) (hH : hp D A N ad ct H) (i : Nat) (hi : i < N) {n : Nat} {f : Nat → Option Nat} (he : ct i = some (.inl (cy 4, n, .inr (.inr (.inr (.inr f)))))) {x : Int32} (hin : vp_in x n) (hdg : decode cc pc = .ok (.aaload, 1))
    (kk : W p l e R s m args below meth c H locs cells slots Q (F0 m (pc + 1) ls (va_rf (f x.toNatClampNeg) :: rest))) : W p l e R s m args below meth c H locs cells slots Q (F0 m pc ls (.int x :: .ref (ad i) :: rest)) :=
  va_aldq hC.1 hC.2.1 hK.1 (hH.one hi he) 0 4 rfl rfl hin hdg kk
theorem g_alen (hC : CallFix p m c cc nL s args gtbl own) (hK : kx D cy s) (hH : hp D A N ad ct H) (i : Nat) (hi : i < N) {t0 : Nat} {ty : FieldType} {x : vp_A} (ht : (cy_tys cy)[t0]? = some (cy t0, ty)) (he : ct i = some (.inl (cy t0, x))) (hdg : decode cc pc = .ok (.arraylength, 1))
    (kk : W p l e R s m args below meth c H locs cells slots Q (F0 m (pc + 1) ls (.int (nI x.1) :: rest))) : W p l e R s m args below meth c H locs cells slots Q (F0 m pc ls (.ref (ad i) :: rest)) :=
  va_alen hC.1 hC.2.1 hK.1 (hH.one hi he) 0 t0 rfl ht rfl hdg kk
theorem g_iast (hC : CallFix p m c cc nL s args gtbl own) (hK : kx D cy s) (hH : hp D A N ad ct H) (hS : va_S A H0 H locs) (i : Nat) (hi : i < N) {n : Nat} {f : Nat → Int32} (he : ct i = some (.inl (cy 0, n, .inl f))) {x v : Int32} (hin : vp_in x n) (he' : ct' i = some (.inl (cy 0, n, .inl (upd f x.toNatClampNeg v)))) (ho : ∀ j, j ≠ i → ct' j = ct j) (hdg : decode cc pc = .ok (.iastore, 1))
    (kk : ∀ (H1 : Heap) (locs1 : List Loc), hp D A N ad ct' H1 → va_S A H0 H1 locs1 → W p l e R s m args below meth c H1 locs1 cells slots Q (F0 m (pc + 1) ls rest)) : W p l e R s m args below meth c H locs cells slots Q (F0 m pc ls (.int v :: .int x :: .ref (ad i) :: rest)) := by
  obtain ⟨hAi, hcell⟩ := hH.2 i _ hi he
  refine W.iast hC.1 hC.2.1 hcell ((hK.1.2 0 _ rfl).1 n (fun j => .int (f j))) (fun q => by cases q) (by show ¬ (x < 0 ∨ (arrV _ _ _).slots.size ≤ _); rw [arrV_size]; exact hin) rfl rfl hdg fun H1 e z oq => ?_
  refine kk H1 _ (hH.set hi he he' ho ?_ oq) (hS.put z oq hAi)
  show H1[ad i]? = some (vp_cell _ _)
  rw [e, vp_cell_i, vp_cell_i, arrV_store]
  congr 2
  funext q
  by_cases hq : q = x.toNatClampNeg
  · subst hq; simp [updV, upd]
  · simp [updV, upd, hq]
theorem g_last (hC : CallFix p m c cc nL s args gtbl own) (hK : kx D cy s) (hH : hp D A N ad ct H) (hS : va_S A H0 H locs) (i : Nat) (hi : i < N) {n : Nat} {f : Nat → Int64} (he : ct i = some (.inl (cy 1, n, .inr (.inl f)))) {x : Int32} {v : Int64} (hin : vp_in x n) (he' : ct' i = some (.inl (cy 1, n, .inr (.inl (vp_updL f x.toNatClampNeg v))))) (ho : ∀ j, j ≠ i → ct' j = ct j) (hdg : decode cc pc = .ok (.lastore, 1))
    (kk : ∀ (H1 : Heap) (locs1 : List Loc), hp D A N ad ct' H1 → va_S A H0 H1 locs1 → W p l e R s m args below meth c H1 locs1 cells slots Q (F0 m (pc + 1) ls rest)) : W p l e R s m args below meth c H locs cells slots Q (F0 m pc ls (.long v :: .int x :: .ref (ad i) :: rest)) := by
  obtain ⟨hAi, hcell⟩ := hH.2 i _ hi he
  refine W.last hC.1 hC.2.1 hcell ((hK.1.2 1 _ rfl).1 n (fun j => .long (f j))) (fun q => by cases q) (by show ¬ (x < 0 ∨ (arrV _ _ _).slots.size ≤ _); rw [arrV_size]; exact hin) rfl rfl hdg fun H1 e z oq => ?_
  refine kk H1 _ (hH.set hi he he' ho ?_ oq) (hS.put z oq hAi)
  show H1[ad i]? = some (vp_cell _ _)
  rw [e, vp_cell_l, vp_cell_l, arrV_store]
  congr 2
  funext q
  by_cases hq : q = x.toNatClampNeg
  · subst hq; simp [updV, vp_updL]
  · simp [updV, vp_updL, hq]
theorem g_dast (hC : CallFix p m c cc nL s args gtbl own) (hK : kx D cy s) (hH : hp D A N ad ct H) (hS : va_S A H0 H locs) (i : Nat) (hi : i < N) {n : Nat} {f : Nat → UInt64} (he : ct i = some (.inl (cy 2, n, .inr (.inr (.inr (.inl f)))))) {x : Int32} {v : UInt64} (hin : vp_in x n) (he' : ct' i = some (.inl (cy 2, n, .inr (.inr (.inr (.inl (vf_upd f x.toNatClampNeg v))))))) (ho : ∀ j, j ≠ i → ct' j = ct j) (hdg : decode cc pc = .ok (.dastore, 1))
    (kk : ∀ (H1 : Heap) (locs1 : List Loc), hp D A N ad ct' H1 → va_S A H0 H1 locs1 → W p l e R s m args below meth c H1 locs1 cells slots Q (F0 m (pc + 1) ls rest)) : W p l e R s m args below meth c H locs cells slots Q (F0 m pc ls (.double v :: .int x :: .ref (ad i) :: rest)) := by
  obtain ⟨hAi, hcell⟩ := hH.2 i _ hi he
  refine W.dast hC.1 hC.2.1 hcell ((hK.1.2 2 _ rfl).1 n (fun j => .double (f j))) (fun q => by cases q) (by show ¬ (x < 0 ∨ (arrV _ _ _).slots.size ≤ _); rw [arrV_size]; exact hin) rfl rfl hdg fun H1 e z oq => ?_
  refine kk H1 _ (hH.set hi he he' ho ?_ oq) (hS.put z oq hAi)
  show H1[ad i]? = some (vp_cell _ _)
  rw [e, vp_cell_d, vp_cell_d, arrV_store]
  congr 2
  funext q
  by_cases hq : q = x.toNatClampNeg
  · subst hq; simp [updV, vf_upd]
  · simp [updV, vf_upd, hq]
/-- an object of a class that the array's component takes, into an array of things (t0 = 4) or of cells (t0 = 3) -/
theorem g_aast (hC : CallFix p m c cc nL s args gtbl own) (hK : kx D cy s) (hH : hp D A N ad ct H) (hS : va_S A H0 H locs) (i : Nat) (hi : i < N) {n t0 : Nat} {E : String} (ht : (cy_tys cy)[t0]? = some (cy t0, .object E)) {f : Nat → Option Nat} (he : ct i = some (.inl (cy t0, n, .inr (.inr (.inr (.inr f)))))) {x : Int32} (hin : vp_in x n)
    (k : Nat) (hk : k < N) {ci : Nat} {fs : List Value} (hek : ct k = some (.inr (ci, fs))) {r : vw_C} (hc : vwCl[ci]? = some r) (hca : r.1 = E ∨ Cond.castable r.1 E ∈ nwL)
    (he' : ct' i = some (.inl (cy t0, n, .inr (.inr (.inr (.inr (va_up f x.toNatClampNeg (some (ad k))))))))) (ho : ∀ j, j ≠ i → ct' j = ct j) (hdg : decode cc pc = .ok (.aastore, 1))
    (kk : ∀ (H1 : Heap) (locs1 : List Loc), hp D A N ad ct' H1 → va_S A H0 H1 locs1 → W p l e R s m args below meth c H1 locs1 cells slots Q (F0 m (pc + 1) ls rest)) : W p l e R s m args below meth c H locs cells slots Q (F0 m pc ls (.ref (ad k) :: .int x :: .ref (ad i) :: rest)) := by
  have hlt : x.toNatClampNeg < n := Nat.not_le.mp fun q => hin (Or.inr q)
  have h0 : ¬ x < 0 := fun q => hin (Or.inl q)
  obtain ⟨hAi, hcell⟩ := hH.2 i _ hi he
  obtain ⟨-, r', hr', cellV, g1, g2, g3, -⟩ := hH.2 k _ hk hek
  have hcls := (hK.1.1 ci r hc).2
  obtain ⟨kA, comp, k1, k2, k3, -⟩ := (hK.1.2 t0 _ ht).2
  obtain ⟨kC, hkC, -⟩ := id hcls.2
  have hasg : s.vm.assignable (D.1 ci) comp = true := by
    rcases hca with h | h
    · have hcomp : comp = D.1 ci := Option.some.inj (k3.symm.trans (by rw [← h]; exact hcls.1))
      rw [hcomp]; exact va_assign hcls
    · obtain ⟨c0, t1, f1, f2, f3⟩ := Cond.castable_spec (va_Nw.use (A := args) rfl (hK.2.1 _ h))
      cases hcls.1.symm.trans f1
      cases k3.symm.trans f2
      exact f3
  obtain ⟨kcomp, hkcomp, -⟩ := Vm.findClass_spec k3
  refine W.aast hC.1 hC.2.1 hcell (fun q h => by cases h) (fun h => by cases h) k1 k2 rfl hkcomp ⟨h0, by show _ < (arrV _ _ _).slots.size; rw [arrV_size]; exact hlt⟩ g1 (fun q h => by rw [g3] at h; cases h) (by rw [g2]; exact hkC) (by rw [g2]; exact hasg) rfl rfl hdg fun H1 e z oq => ?_
  refine kk H1 _ (hH.set hi he he' ho ?_ oq) (hS.put z oq hAi)
  show H1[ad i]? = some (vp_cell _ _)
  rw [e, vp_cell_q, vp_cell_q, arrV_store]
  congr 2
  funext q
  by_cases hq : q = x.toNatClampNeg
  · subst hq; simp [updV, va_up, va_rf]
  · simp [updV, va_up, hq]
theorem g_aastN (hC : CallFix p m c cc nL s args gtbl own) (hK : kx D cy s) (hH : hp D A N ad ct H) (hS : va_S A H0 H locs) (i : Nat) (hi : i < N) {n t0 : Nat} {E : String} (ht : (cy_tys cy)[t0]? = some (cy t0, .object E)) {f : Nat → Option Nat} (he : ct i = some (.inl (cy t0, n, .inr (.inr (.inr (.inr f)))))) {x : Int32} (hin : vp_in x n)
    (he' : ct' i = some (.inl (cy t0, n, .inr (.inr (.inr (.inr (va_up f x.toNatClampNeg none))))))) (ho : ∀ j, j ≠ i → ct' j = ct j) (hdg : decode cc pc = .ok (.aastore, 1))
    (kk : ∀ (H1 : Heap) (locs1 : List Loc), hp D A N ad ct' H1 → va_S A H0 H1 locs1 → W p l e R s m args below meth c H1 locs1 cells slots Q (F0 m (pc + 1) ls rest)) : W p l e R s m args below meth c H locs cells slots Q (F0 m pc ls (.null :: .int x :: .ref (ad i) :: rest)) := by
  obtain ⟨hAi, hcell⟩ := hH.2 i _ hi he
  refine va_WaastN (C := E) hC.1 hC.2.1 hcell ((hK.1.2 t0 _ ht).1 n (fun j => va_rf (f j))) (fun h => by cases h) (by show ¬ (x < 0 ∨ (arrV _ _ _).slots.size ≤ _); rw [arrV_size]; exact hin) rfl rfl hdg fun H1 e z oq => ?_
  refine kk H1 _ (hH.set hi he he' ho ?_ oq) (hS.put z oq hAi)
  show H1[ad i]? = some (vp_cell _ _)
  rw [e, vp_cell_q, vp_cell_q, arrV_store]
  congr 2
  funext q
  by_cases hq : q = x.toNatClampNeg
  · subst hq; simp [updV, va_up, va_rf]
  · simp [updV, va_up, hq]
theorem hp.recv (hK : kx D cy s) (hH : hp D A N ad ct H) {i ci : Nat} {fs : List Value} {r : vw_C} (hi : i < N) (he : ct i = some (.inr (ci, fs))) (hc : vwCl[ci]? = some r) : ∃ cell : Cell, H[ad i]? = some cell ∧ cell.vm.isStatics = false ∧ s.vm.findClass r.1 = some cell.cls :=
  va_recv hK.1 (hH.one hi he) hc (q0 := 0) rfl
theorem g_castY (hC : CallFix p m c cc nL s args gtbl own) (hK : kx D cy s) (hH : hp D A N ad ct H) (i : Nat) (hi : i < N) {ci index : Nat} {fs : List Value} {r : vw_C} {nm : String} (he : ct i = some (.inr (ci, fs))) (hc : vwCl[ci]? = some r) (hlink : Cond.classLink own index nm ∈ gtbl) (hca : r.1 = nm ∨ Cond.castable r.1 nm ∈ nwL) (hdg : decode cc pc = .ok (.checkcast index, 3))
    (k : W p l e R s m args below meth c H locs cells slots Q (F0 m (pc + 3) ls (.ref (ad i) :: rest))) : W p l e R s m args below meth c H locs cells slots Q (F0 m pc ls (.ref (ad i) :: rest)) := by
  rcases hca with h | h
  · subst h
    exact va_castS hC.1 hC.2.1 hC.2.2.2.1 (hC.2.2.2.2 _ hlink) ((hK.1.1 ci r hc).2) (hp.recv hK hH hi he hc) hdg k
  · exact va_castY hC.1 hC.2.1 hC.2.2.2.1 (hC.2.2.2.2 _ hlink) (hK.2.1 _ h) (hp.recv hK hH hi he hc) hdg k
theorem g_instY (hC : CallFix p m c cc nL s args gtbl own) (hK : kx D cy s) (hH : hp D A N ad ct H) (i : Nat) (hi : i < N) {ci index : Nat} {fs : List Value} {r : vw_C} {nm : String} (he : ct i = some (.inr (ci, fs))) (hc : vwCl[ci]? = some r) (hlink : Cond.classLink own index nm ∈ gtbl) (hca : r.1 = nm ∨ Cond.castable r.1 nm ∈ nwL) (hdg : decode cc pc = .ok (.instanceof index, 3))
    (k : W p l e R s m args below meth c H locs cells slots Q (F0 m (pc + 3) ls (.int 1 :: rest))) : W p l e R s m args below meth c H locs cells slots Q (F0 m pc ls (.ref (ad i) :: rest)) := by
  rcases hca with h | h
  · subst h
    exact va_instS hC.1 hC.2.1 hC.2.2.2.1 (hC.2.2.2.2 _ hlink) ((hK.1.1 ci r hc).2) (hp.recv hK hH hi he hc) hdg k
  · exact va_instY hC.1 hC.2.1 hC.2.2.2.1 (hC.2.2.2.2 _ hlink) (hK.2.1 _ h) (hp.recv hK hH hi he hc) hdg k
theorem g_instNo (hC : CallFix p m c cc nL s args gtbl own) (hK : kx D cy s) (hH : hp D A N ad ct H) (i : Nat) (hi : i < N) {ci index : Nat} {fs : List Value} {r : vw_C} {nm : String} (he : ct i = some (.inr (ci, fs))) (hc : vwCl[ci]? = some r) (hlink : Cond.classLink own index nm ∈ gtbl) (hca : va_Nc r.1 nm s) (hdg : decode cc pc = .ok (.instanceof index, 3))
    (k : W p l e R s m args below meth c H locs cells slots Q (F0 m (pc + 3) ls (.int 0 :: rest))) : W p l e R s m args below meth c H locs cells slots Q (F0 m pc ls (.ref (ad i) :: rest)) :=
  va_instNo hC.1 hC.2.1 hC.2.2.2.1 (hC.2.2.2.2 _ hlink) hca (hp.recv hK hH hi he hc) hdg k
end GROWS
