theorem WF_put {P : AS} (hw : WF P) {t i : Nat} {x : Int64 × UInt64} (h : 8 ≤ P.kd t → ∃ q, x.1 = lN q ∧ q ≤ P.n) : WF (P.put t i x) := by
  obtain ⟨h1, h2, h3, h4, h5⟩ := hw
  refine ⟨h1, h2, h3, h4, fun a b hab => ?_⟩
  show ∃ q, up2 P.wh t i x.1 a b = lN q ∧ q ≤ P.n
  unfold up2
  by_cases e : a = t ∧ b = i
  · rw [if_pos e]; exact h (by rw [← e.1]; exact hab)
  · rw [if_neg e]; exact h5 a b hab
theorem WF_swp {P : AS} (hw : WF P) (t i j : Nat) : WF (swp P t i j) := by
  have h1 : WF (P.put t i (P.wh t j, P.re t j)) := WF_put hw (hw.2.2.2.2 t j)
  exact WF_put (P := P.put t i (P.wh t j, P.re t j)) h1 (hw.2.2.2.2 t i)
theorem WF_bubI {P : AS} (hw : WF P) (t : Nat) : ∀ k, WF (bubI P t k)
  | 0 => hw
  | k + 1 => by
    unfold bubI
    split
    · exact WF_swp (WF_bubI hw t k) _ _ _
    · exact WF_bubI hw t k
theorem WF_bubO {P : AS} (hw : WF P) (t : Nat) : ∀ k, WF (bubO P t k)
  | 0 => hw
  | k + 1 => WF_bubI (WF_bubO hw t k) t _
theorem fnd_end {P : AS} {t s : Nat} {x : Int64 × UInt64} {f k : Nat} (h : P.ln t ≤ k) : fnd P t s x f k = -1 := by
  cases f with
  | zero => rfl
  | succ f => show (if _ then _ else _) = _; rw [if_neg (by omega)]
theorem fnd_yes {P : AS} {t s : Nat} {x : Int64 × UInt64} {f k : Nat} (h : k < P.ln t) (hf : 0 < f) (hy : agn s x.1 x.2 (P.kd t) (P.wh t k) (P.re t k) = 0) : fnd P t s x f k = nI k := by
  cases f with
  | zero => omega
  | succ f => show (if _ then (if _ then _ else _) else _) = _; rw [if_pos h, if_pos (show likeV P t k s x = true from decide_eq_true hy)]
theorem fnd_no {P : AS} {t s : Nat} {x : Int64 × UInt64} {f k : Nat} (h : k < P.ln t) (hf : 0 < f) (hy : ¬ agn s x.1 x.2 (P.kd t) (P.wh t k) (P.re t k) = 0) : fnd P t s x f k = fnd P t s x (f - 1) (k + 1) := by
  cases f with
  | zero => omega
  | succ f => show (if _ then (if _ then _ else _) else _) = _; rw [if_pos h, if_neg (fun e : likeV P t k s x = true => hy (of_decide_eq_true e))]; rfl
theorem ex_lt {i : Int32} {n : Nat} (hn : n < 2 ^ 31) (h : 0 ≤ i) (h2 : ¬ nI n ≤ i) : ∃ k, k < n ∧ i = nI k := by
  rw [i_le] at h h2
  rw [nI_toInt hn] at h2
  have e0 : (0 : Int32).toInt = 0 := by decide
  rw [e0] at h
  refine ⟨i.toInt.toNat, by omega, ?_⟩
  rw [i_eq, nI_toInt (by omega)]; omega
theorem cN_neg {i : Int32} (h : ¬ 0 ≤ i) : cN i = 0 := by
  rw [i_le] at h
  have e0 : (0 : Int32).toInt = 0 := by decide
  rw [e0] at h
  show i.toInt.toNat = 0; omega
theorem nle_neg {i : Int32} {n : Nat} (hn : n < 2 ^ 31) (h : ¬ 0 ≤ i) : ¬ nI n ≤ i := by
  rw [i_le] at h ⊢
  have e0 : (0 : Int32).toInt = 0 := by decide
  rw [e0] at h
  rw [nI_toInt hn]; omega
theorem alkA_le {P : AS} {t u : Nat} : ∀ {n k : Nat}, alkA P t u n = true → k ≤ n → alkA P t u k = true
  | 0, k, h, hk => by rw [show k = 0 by omega]; rfl
  | n + 1, k, h, hk => by
    by_cases e : k = n + 1
    · rw [e]; exact h
    · have h2 : (alkA P t u n && alkP P t u n) = true := h
      rw [Bool.and_eq_true] at h2
      exact alkA_le h2.1 (by omega)
theorem alkA_no {P : AS} {t u k n : Nat} (h : alkP P t u k = false) (hk : k < n) : alkA P t u n = false := by
  cases e : alkA P t u n with
  | false => rfl
  | true =>
    have h2 : (alkA P t u k && alkP P t u k) = true := alkA_le e (k := k + 1) (by omega)
    rw [h, Bool.and_false] at h2; cases h2
theorem mgG_no {P : AS} {x y t k n : Nat} (h : goes (mgS P x y k) (P.kd t) = false) (hk : k < n) : mgG P x y t n = false := by
  cases e : mgG P x y t n with
  | false => rfl
  | true =>
    have h2 : (mgG P x y t k && goes (mgS P x y k) (P.kd t)) = true := mgG_le e (k := k + 1) (by omega)
    rw [h, Bool.and_false] at h2; cases h2
def deq (x y : UInt64) : Bool := decide (Op.cmpValue (FP.dcmp x y) CmpOp.l = 0)
/-- how many places of thing t have not what is kept of them -/
def othC (P : AS) (t : Nat) (nw : Nat → Int64) (nr : Nat → UInt64) : Nat → Nat
  | 0 => 0
  | k + 1 => othC P t nw nr k + (if P.wh t k = nw k ∧ deq (P.re t k) (nr k) = true then 0 else 1)
theorem othC_le (P : AS) (t : Nat) (nw : Nat → Int64) (nr : Nat → UInt64) : ∀ k, othC P t nw nr k ≤ k
  | 0 => Nat.le_refl _
  | k + 1 => by have := othC_le P t nw nr k; show _ + (if _ then _ else _) ≤ _; split <;> omega
/-- 32-bit remainders -/
theorem tr_bm {x : Int} (h : -2147483648 ≤ x) (h2 : x < 2147483648) : x.bmod (2 ^ 32) = x := Int.bmod_eq_of_le (by omega) (by omega)
theorem tr_rem (n : Int32) {m : Nat} (h0 : 0 < m) (hm : m ≤ 24) : (n - n / nI m * nI m).toInt = n.toInt.tmod m := by
  rw [Int32.toInt_sub, Int32.toInt_mul, Int32.toInt_div, nI_toInt (by omega), Int.bmod_mul_bmod, Int.sub_bmod_bmod, Int.mul_comm, ← Int.tmod_def]
  have h1 := Int.tmod_lt_of_pos n.toInt (b := (m : Int)) (by omega)
  have h2 := Int.lt_tmod_of_pos n.toInt (b := (m : Int)) (by omega)
  exact tr_bm (by omega) (by omega)
theorem tr_eq (n : Int32) {m k : Nat} (hm : m ≤ 24) (hk : k < m) : ((nI k + (n - n / nI m * nI m)) + nI m) - ((nI k + (n - n / nI m * nI m)) + nI m) / nI m * nI m = nI (trn n m k) := by
  have h1 := Int.tmod_lt_of_pos n.toInt (b := (m : Int)) (by omega)
  have h2 := Int.lt_tmod_of_pos n.toInt (b := (m : Int)) (by omega)
  have hr := tr_rem n (m := m) (by omega) hm
  have ht : trn n m k < m := by
    unfold trn
    have h1 := Int.emod_nonneg ((k : Int) + n.toInt) (b := (m : Int)) (by omega)
    have h2 := Int.emod_lt_of_pos ((k : Int) + n.toInt) (b := (m : Int)) (by omega)
    omega
  have hx : ((nI k + (n - n / nI m * nI m)) + nI m).toInt = (k : Int) + n.toInt.tmod m + m := by
    rw [Int32.toInt_add, Int32.toInt_add, hr, nI_toInt (by omega), nI_toInt (by omega), Int.bmod_add_bmod]
    exact tr_bm (by omega) (by omega)
  refine Int32.toInt_inj.mp ?_
  rw [tr_rem _ (by omega) hm, hx, nI_toInt (by omega), Int.tmod_eq_emod_of_nonneg (by omega)]
  have e1 : (k : Int) + n.toInt.tmod m + m = ((k : Int) + n.toInt) + m * (1 - n.toInt.tdiv m) := by
    rw [Int.tmod_def, Int.mul_sub, Int.mul_one]; omega
  rw [e1, Int.add_mul_emod_self_left]
  unfold trn
  rw [Int.toNat_of_nonneg (Int.emod_nonneg _ (by omega))]
theorem trn_lt (n : Int32) {m k : Nat} (hk : k < m) : trn n m k < m := by
  unfold trn
  have h1 := Int.emod_nonneg ((k : Int) + n.toInt) (b := (m : Int)) (by omega)
  have h2 := Int.emod_lt_of_pos ((k : Int) + n.toInt) (b := (m : Int)) (by omega)
  omega
