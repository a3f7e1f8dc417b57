/-! rows at an index that is a number; rows of the model's own arrays -/
section NROWS
variable {p : Program} {l : Launch} {e : Env} {R : Room} {s : State} {m : MethodId} {args : Array Value} {below : List Frame} {meth : Method} {c : Code} {H : Heap} {locs : List Loc} {cells slots : Nat} {Q : State → Prop}
variable {cc : ByteArray} {pc : Nat} {ls : Array Slot} {rest : List Value} {D : va_G} {cy : Nat → ClassId} {A : Nat → Prop} {N nL : Nat} {ad : Nat → Nat} {ct ct' : Nat → Option va_E} {H0 : Heap} {own : String}
theorem lv_chg {x y : Int32} (h : x = y) (k : W p l e R s m args below meth c H locs cells slots Q (F0 m pc ls (.int y :: rest))) : W p l e R s m args below meth c H locs cells slots Q (F0 m pc ls (.int x :: rest)) := by
  subst h; exact k
theorem lv_chgl {x y : Int64} (h : x = y) (k : W p l e R s m args below meth c H locs cells slots Q (F0 m pc ls (.long y :: rest))) : W p l e R s m args below meth c H locs cells slots Q (F0 m pc ls (.long x :: rest)) := by
  subst h; exact k
theorem lv_chgd {x y : UInt64} (h : x = y) (k : W p l e R s m args below meth c H locs cells slots Q (F0 m pc ls (.double y :: rest))) : W p l e R s m args below meth c H locs cells slots Q (F0 m pc ls (.double x :: rest)) := by
  subst h; exact k
theorem gN_iald (hC : CallFix p m c cc nL s args gtbl own) (hK : kx D cy s) (hH : hp D A N ad ct H) (i : Nat) (hi : i < N) {n : Nat} {f : Nat → Int32} (he : ct i = some (.inl (cy 0, n, .inl f))) (u : Nat) (hu : u < n ∧ n < 2 ^ 31) (hdg : decode cc pc = .ok (.iaload, 1))
    (kk : W p l e R s m args below meth c H locs cells slots Q (F0 m (pc + 1) ls (.int (f u) :: rest))) : W p l e R s m args below meth c H locs cells slots Q (F0 m pc ls (.int (nI u) :: .ref (ad i) :: rest)) :=
  g_iald hC hK hH i hi he (vp_in_nI hu.1 hu.2) hdg (by rw [nI_clamp (by omega)]; exact kk)
theorem gN_lald (hC : CallFix p m c cc nL s args gtbl own) (hK : kx D cy s) (hH : hp D A N ad ct H) (i : Nat) (hi : i < N) {n : Nat} {f : Nat → Int64} (he : ct i = some (.inl (cy 1, n, .inr (.inl f)))) (u : Nat) (hu : u < n ∧ n < 2 ^ 31) (hdg : decode cc pc = .ok (.laload, 1))
    (kk : W p l e R s m args below meth c H locs cells slots Q (F0 m (pc + 1) ls (.long (f u) :: rest))) : W p l e R s m args below meth c H locs cells slots Q (F0 m pc ls (.int (nI u) :: .ref (ad i) :: rest)) :=
  g_lald hC hK hH i hi he (vp_in_nI hu.1 hu.2) hdg (by rw [nI_clamp (by omega)]; exact kk)
theorem gN_dald (hC : CallFix p m c cc nL s args gtbl own) (hK : kx D cy s) (hH : hp D A N ad ct H) (i : Nat) (hi : i < N) {n : Nat} {f : Nat → UInt64} (he : ct i = some (.inl (cy 2, n, .inr (.inr (.inr (.inl f)))))) (u : Nat) (hu : u < n ∧ n < 2 ^ 31) (hdg : decode cc pc = .ok (.daload, 1))
    (kk : W p l e R s m args below meth c H locs cells slots Q (F0 m (pc + 1) ls (.double (f u) :: rest))) : W p l e R s m args below meth c H locs cells slots Q (F0 m pc ls (.int (nI u) :: .ref (ad i) :: rest)) :=
  g_dald hC hK hH i hi he (vp_in_nI hu.1 hu.2) hdg (by rw [nI_clamp (by omega)]; exact kk)
theorem gN_iast (hC : CallFix p m c cc nL s args gtbl own) (hK : kx D cy s) (hH : hp D A N ad ct H) (hS : va_S A H0 H locs) (i : Nat) (hi : i < N) {n : Nat} {f : Nat → Int32} (he : ct i = some (.inl (cy 0, n, .inl f))) (u : Nat) (hu : u < n ∧ n < 2 ^ 31) {v : Int32} (he' : ct' i = some (.inl (cy 0, n, .inl (upd f u v)))) (ho : ∀ j, j ≠ i → ct' j = ct j) (hdg : decode cc pc = .ok (.iastore, 1))
    (kk : ∀ (H1 : Heap) (locs1 : List Loc), hp D A N ad ct' H1 → va_S A H0 H1 locs1 → W p l e R s m args below meth c H1 locs1 cells slots Q (F0 m (pc + 1) ls rest)) : W p l e R s m args below meth c H locs cells slots Q (F0 m pc ls (.int v :: .int (nI u) :: .ref (ad i) :: rest)) :=
  g_iast hC hK hH hS i hi he (vp_in_nI hu.1 hu.2) (by rw [nI_clamp (by omega)]; exact he') ho hdg kk
theorem gN_last (hC : CallFix p m c cc nL s args gtbl own) (hK : kx D cy s) (hH : hp D A N ad ct H) (hS : va_S A H0 H locs) (i : Nat) (hi : i < N) {n : Nat} {f : Nat → Int64} (he : ct i = some (.inl (cy 1, n, .inr (.inl f)))) (u : Nat) (hu : u < n ∧ n < 2 ^ 31) {v : Int64} (he' : ct' i = some (.inl (cy 1, n, .inr (.inl (vp_updL f u v))))) (ho : ∀ j, j ≠ i → ct' j = ct j) (hdg : decode cc pc = .ok (.lastore, 1))
    (kk : ∀ (H1 : Heap) (locs1 : List Loc), hp D A N ad ct' H1 → va_S A H0 H1 locs1 → W p l e R s m args below meth c H1 locs1 cells slots Q (F0 m (pc + 1) ls rest)) : W p l e R s m args below meth c H locs cells slots Q (F0 m pc ls (.long v :: .int (nI u) :: .ref (ad i) :: rest)) :=
  g_last hC hK hH hS i hi he (vp_in_nI hu.1 hu.2) (by rw [nI_clamp (by omega)]; exact he') ho hdg kk
theorem gN_dast (hC : CallFix p m c cc nL s args gtbl own) (hK : kx D cy s) (hH : hp D A N ad ct H) (hS : va_S A H0 H locs) (i : Nat) (hi : i < N) {n : Nat} {f : Nat → UInt64} (he : ct i = some (.inl (cy 2, n, .inr (.inr (.inr (.inl f)))))) (u : Nat) (hu : u < n ∧ n < 2 ^ 31) {v : UInt64} (he' : ct' i = some (.inl (cy 2, n, .inr (.inr (.inr (.inl (vf_upd f u v))))))) (ho : ∀ j, j ≠ i → ct' j = ct j) (hdg : decode cc pc = .ok (.dastore, 1))
    (kk : ∀ (H1 : Heap) (locs1 : List Loc), hp D A N ad ct' H1 → va_S A H0 H1 locs1 → W p l e R s m args below meth c H1 locs1 cells slots Q (F0 m (pc + 1) ls rest)) : W p l e R s m args below meth c H locs cells slots Q (F0 m pc ls (.double v :: .int (nI u) :: .ref (ad i) :: rest)) :=
  g_dast hC hK hH hS i hi he (vp_in_nI hu.1 hu.2) (by rw [nI_clamp (by omega)]; exact he') ho hdg kk
end NROWS
theorem ix24 (t i : Nat) : (24 : Int32) * nI t + nI i = nI (24 * t + i) := by
  rw [show (24 : Int32) = nI 24 from rfl, pk_mul, nI_add]
theorem ix24d {t i : Nat} (hi : i < 24) : (24 * t + i) / 24 = t ∧ (24 * t + i) % 24 = i := by omega
abbrev AS.setN (P : AS) (v : Nat) : AS := (v, P.kd, P.ln, P.tg, P.wh, P.re, P.co)
abbrev AS.setKd (P : AS) (t v : Nat) : AS := (P.n, va_up P.kd t v, P.ln, P.tg, P.wh, P.re, P.co)
abbrev AS.setLn (P : AS) (t v : Nat) : AS := (P.n, P.kd, va_up P.ln t v, P.tg, P.wh, P.re, P.co)
abbrev AS.setTg (P : AS) (t : Nat) (v : Int32) : AS := (P.n, P.kd, P.ln, va_up P.tg t v, P.wh, P.re, P.co)
section MROWS
variable {p : Program} {l : Launch} {e : Env} {R : Room} {s : State} {m : MethodId} {args : Array Value} {below : List Frame} {meth : Method} {c : Code} {H : Heap} {locs : List Loc} {cells slots : Nat} {Q : State → Prop}
variable {cc : ByteArray} {pc : Nat} {ls : Array Slot} {rest : List Value} {D : va_G} {cy : Nat → ClassId} {A : Nat → Prop} {nL : Nat} {ad : Nat → Nat} {H0 : Heap} {own : String}
variable {P : AS} {wy so : Int32} {w : Int64} {r : UInt64} {ns : Nat → Int32} {nw : Nat → Int64} {nr : Nat → UInt64} {fr tt : Nat → Int32}
theorem mr_wh (hC : CallFix p m c cc nL s args gtbl own) (hK : kx D cy s) (hH : hp D A 13 ad (mct cy ad P wy so w r ns nw nr fr tt) H) (t i : Nat) (hu : t < 513 ∧ i < 24) (hdg : decode cc pc = .ok (.laload, 1))
    (kk : W p l e R s m args below meth c H locs cells slots Q (F0 m (pc + 1) ls (.long (P.wh t i) :: rest))) : W p l e R s m args below meth c H locs cells slots Q (F0 m pc ls (.int ((24 : Int32) * nI t + nI i) :: .ref (ad 5) :: rest)) := by
  rw [ix24]
  refine gN_lald hC hK hH 5 (by decide) rfl (24 * t + i) ⟨by omega, by decide⟩ hdg ?_
  rw [(ix24d hu.2).1, (ix24d hu.2).2]
  exact kk
theorem mr_re (hC : CallFix p m c cc nL s args gtbl own) (hK : kx D cy s) (hH : hp D A 13 ad (mct cy ad P wy so w r ns nw nr fr tt) H) (t i : Nat) (hu : t < 513 ∧ i < 24) (hdg : decode cc pc = .ok (.daload, 1))
    (kk : W p l e R s m args below meth c H locs cells slots Q (F0 m (pc + 1) ls (.double (P.re t i) :: rest))) : W p l e R s m args below meth c H locs cells slots Q (F0 m pc ls (.int ((24 : Int32) * nI t + nI i) :: .ref (ad 6) :: rest)) := by
  rw [ix24]
  refine gN_dald hC hK hH 6 (by decide) rfl (24 * t + i) ⟨by omega, by decide⟩ hdg ?_
  rw [(ix24d hu.2).1, (ix24d hu.2).2]
  exact kk
theorem up2_flat {α : Type} (f : Nat → Nat → α) {t i : Nat} (hi : i < 24) (v : α) (k : Nat) : up2 f t i v (k / 24) (k % 24) = if k = 24 * t + i then v else f (k / 24) (k % 24) := by
  unfold up2
  by_cases h : k = 24 * t + i
  · rw [if_pos h, if_pos (by omega)]
  · rw [if_neg h, if_neg (by omega)]
theorem mr_whs (hC : CallFix p m c cc nL s args gtbl own) (hK : kx D cy s) (hH : hp D A 13 ad (mct cy ad P wy so w r ns nw nr fr tt) H) (hS : va_S A H0 H locs) (t i : Nat) (hu : t < 513 ∧ i < 24) {v : Int64} (hdg : decode cc pc = .ok (.lastore, 1))
    (kk : ∀ (H1 : Heap) (locs1 : List Loc), hp D A 13 ad (mct cy ad (P.setW t i v) wy so w r ns nw nr fr tt) H1 → va_S A H0 H1 locs1 → W p l e R s m args below meth c H1 locs1 cells slots Q (F0 m (pc + 1) ls rest)) : W p l e R s m args below meth c H locs cells slots Q (F0 m pc ls (.long v :: .int ((24 : Int32) * nI t + nI i) :: .ref (ad 5) :: rest)) := by
  rw [ix24]
  refine gN_last (ct' := mct cy ad (P.setW t i v) wy so w r ns nw nr fr tt) hC hK hH hS 5 (by decide) rfl (24 * t + i) ⟨by omega, by decide⟩ ?_ ?_ hdg kk
  · show some _ = some _
    congr 6
    funext k
    exact up2_flat P.wh hu.2 v k
  · intro j hj
    rcases j with _ | _ | _ | _ | _ | _ | j <;> first | rfl | exact absurd rfl hj
theorem mr_res (hC : CallFix p m c cc nL s args gtbl own) (hK : kx D cy s) (hH : hp D A 13 ad (mct cy ad P wy so w r ns nw nr fr tt) H) (hS : va_S A H0 H locs) (t i : Nat) (hu : t < 513 ∧ i < 24) {v : UInt64} (hdg : decode cc pc = .ok (.dastore, 1))
    (kk : ∀ (H1 : Heap) (locs1 : List Loc), hp D A 13 ad (mct cy ad (P.setR t i v) wy so w r ns nw nr fr tt) H1 → va_S A H0 H1 locs1 → W p l e R s m args below meth c H1 locs1 cells slots Q (F0 m (pc + 1) ls rest)) : W p l e R s m args below meth c H locs cells slots Q (F0 m pc ls (.double v :: .int ((24 : Int32) * nI t + nI i) :: .ref (ad 6) :: rest)) := by
  rw [ix24]
  refine gN_dast (ct' := mct cy ad (P.setR t i v) wy so w r ns nw nr fr tt) hC hK hH hS 6 (by decide) rfl (24 * t + i) ⟨by omega, by decide⟩ ?_ ?_ hdg kk
  · show some _ = some _
    congr 8
    funext k
    exact up2_flat P.re hu.2 v k
  · intro j hj
    rcases j with _ | _ | _ | _ | _ | _ | _ | j <;> first | rfl | exact absurd rfl hj
theorem va_up_nI (f : Nat → Nat) (k v : Nat) : (fun j => nI (va_up f k v j)) = upd (fun j => nI (f j)) k (nI v) := by
  funext j
  unfold va_up upd
  by_cases h : j = k
  · rw [if_pos h, if_pos h]
  · rw [if_neg h, if_neg h]
theorem mr_cos (hC : CallFix p m c cc nL s args gtbl own) (hK : kx D cy s) (hH : hp D A 13 ad (mct cy ad P wy so w r ns nw nr fr tt) H) (hS : va_S A H0 H locs) (j v : Nat) (hu : j < 12) (hdg : decode cc pc = .ok (.iastore, 1))
    (kk : ∀ (H1 : Heap) (locs1 : List Loc), hp D A 13 ad (mct cy ad (P.setCo j v) wy so w r ns nw nr fr tt) H1 → va_S A H0 H1 locs1 → W p l e R s m args below meth c H1 locs1 cells slots Q (F0 m (pc + 1) ls rest)) : W p l e R s m args below meth c H locs cells slots Q (F0 m pc ls (.int (nI v) :: .int (nI j) :: .ref (ad 7) :: rest)) := by
  refine gN_iast (ct' := mct cy ad (P.setCo j v) wy so w r ns nw nr fr tt) hC hK hH hS 7 (by decide) rfl j ⟨hu, by decide⟩ ?_ ?_ hdg kk
  · show some (Sum.inl (cy 0, 12, Sum.inl (fun k => nI (va_up P.co j v k)))) = _
    rw [va_up_nI]
  · intro j hj
    rcases j with _ | _ | _ | _ | _ | _ | _ | _ | j <;> first | rfl | exact absurd rfl hj
theorem mr_kds (hC : CallFix p m c cc nL s args gtbl own) (hK : kx D cy s) (hH : hp D A 13 ad (mct cy ad P wy so w r ns nw nr fr tt) H) (hS : va_S A H0 H locs) (j v : Nat) (hu : j < 513) (hdg : decode cc pc = .ok (.iastore, 1))
    (kk : ∀ (H1 : Heap) (locs1 : List Loc), hp D A 13 ad (mct cy ad (P.setKd j v) wy so w r ns nw nr fr tt) H1 → va_S A H0 H1 locs1 → W p l e R s m args below meth c H1 locs1 cells slots Q (F0 m (pc + 1) ls rest)) : W p l e R s m args below meth c H locs cells slots Q (F0 m pc ls (.int (nI v) :: .int (nI j) :: .ref (ad 2) :: rest)) := by
  refine gN_iast (ct' := mct cy ad (P.setKd j v) wy so w r ns nw nr fr tt) hC hK hH hS 2 (by decide) rfl j ⟨hu, by decide⟩ ?_ ?_ hdg kk
  · show some (Sum.inl (cy 0, 513, Sum.inl (fun k => nI (va_up P.kd j v k)))) = _
    rw [va_up_nI]
  · intro j hj
    rcases j with _ | _ | _ | j <;> first | rfl | exact absurd rfl hj
theorem mr_lns (hC : CallFix p m c cc nL s args gtbl own) (hK : kx D cy s) (hH : hp D A 13 ad (mct cy ad P wy so w r ns nw nr fr tt) H) (hS : va_S A H0 H locs) (j v : Nat) (hu : j < 513) (hdg : decode cc pc = .ok (.iastore, 1))
    (kk : ∀ (H1 : Heap) (locs1 : List Loc), hp D A 13 ad (mct cy ad (P.setLn j v) wy so w r ns nw nr fr tt) H1 → va_S A H0 H1 locs1 → W p l e R s m args below meth c H1 locs1 cells slots Q (F0 m (pc + 1) ls rest)) : W p l e R s m args below meth c H locs cells slots Q (F0 m pc ls (.int (nI v) :: .int (nI j) :: .ref (ad 3) :: rest)) := by
  refine gN_iast (ct' := mct cy ad (P.setLn j v) wy so w r ns nw nr fr tt) hC hK hH hS 3 (by decide) rfl j ⟨hu, by decide⟩ ?_ ?_ hdg kk
  · show some (Sum.inl (cy 0, 513, Sum.inl (fun k => nI (va_up P.ln j v k)))) = _
    rw [va_up_nI]
  · intro j hj
    rcases j with _ | _ | _ | _ | j <;> first | rfl | exact absurd rfl hj
theorem mr_tgs (hC : CallFix p m c cc nL s args gtbl own) (hK : kx D cy s) (hH : hp D A 13 ad (mct cy ad P wy so w r ns nw nr fr tt) H) (hS : va_S A H0 H locs) (j : Nat) (v : Int32) (hu : j < 513) (hdg : decode cc pc = .ok (.iastore, 1))
    (kk : ∀ (H1 : Heap) (locs1 : List Loc), hp D A 13 ad (mct cy ad (P.setTg j v) wy so w r ns nw nr fr tt) H1 → va_S A H0 H1 locs1 → W p l e R s m args below meth c H1 locs1 cells slots Q (F0 m (pc + 1) ls rest)) : W p l e R s m args below meth c H locs cells slots Q (F0 m pc ls (.int v :: .int (nI j) :: .ref (ad 4) :: rest)) := by
  refine gN_iast (ct' := mct cy ad (P.setTg j v) wy so w r ns nw nr fr tt) hC hK hH hS 4 (by decide) rfl j ⟨hu, by decide⟩ ?_ ?_ hdg kk
  · rfl
  · intro j hj
    rcases j with _ | _ | _ | _ | _ | j <;> first | rfl | exact absurd rfl hj
theorem mct_8 {ns' : Nat → Int32} : ∀ j, j ≠ 8 → mct cy ad P wy so w r ns' nw nr fr tt j = mct cy ad P wy so w r ns nw nr fr tt j := by
  intro j hj
  rcases j with _ | _ | _ | _ | _ | _ | _ | _ | _ | j <;> first | rfl | exact absurd rfl hj
theorem mct_9 {nw' : Nat → Int64} : ∀ j, j ≠ 9 → mct cy ad P wy so w r ns nw' nr fr tt j = mct cy ad P wy so w r ns nw nr fr tt j := by
  intro j hj
  rcases j with _ | _ | _ | _ | _ | _ | _ | _ | _ | _ | j <;> first | rfl | exact absurd rfl hj
theorem mct_10 {nr' : Nat → UInt64} : ∀ j, j ≠ 10 → mct cy ad P wy so w r ns nw nr' fr tt j = mct cy ad P wy so w r ns nw nr fr tt j := by
  intro j hj
  rcases j with _ | _ | _ | _ | _ | _ | _ | _ | _ | _ | _ | j <;> first | rfl | exact absurd rfl hj
theorem mct_11 {fr' : Nat → Int32} : ∀ j, j ≠ 11 → mct cy ad P wy so w r ns nw nr fr' tt j = mct cy ad P wy so w r ns nw nr fr tt j := by
  intro j hj
  rcases j with _ | _ | _ | _ | _ | _ | _ | _ | _ | _ | _ | _ | j <;> first | rfl | exact absurd rfl hj
theorem mct_12 {tt' : Nat → Int32} : ∀ j, j ≠ 12 → mct cy ad P wy so w r ns nw nr fr tt' j = mct cy ad P wy so w r ns nw nr fr tt j := by
  intro j hj
  rcases j with _ | _ | _ | _ | _ | _ | _ | _ | _ | _ | _ | _ | _ | j <;> first | rfl | exact absurd rfl hj
theorem mct_n {v : Nat} : ∀ j, j ≠ 0 → mct cy ad (P.setN v) wy so w r ns nw nr fr tt j = mct cy ad P wy so w r ns nw nr fr tt j := by
  intro j hj
  cases j with
  | zero => exact absurd rfl hj
  | succ j => rfl
end MROWS
