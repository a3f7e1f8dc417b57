theorem inR_k {k a b : Nat} (hk : k < 2 ^ 31) (ha : a < 2 ^ 31) (hb : b < 2 ^ 31) : inR (nI k) (nI a) (nI b) = true ↔ a ≤ k ∧ k ≤ b := by
  unfold inR
  rw [Bool.and_eq_true, decide_eq_true_eq, decide_eq_true_eq, nI_leI ha hk, nI_leI hk hb]
theorem inR_kf {k a b : Nat} (hk : k < 2 ^ 31) (ha : a < 2 ^ 31) (hb : b < 2 ^ 31) (h : inR (nI k) (nI a) (nI b) = false) : ¬ (a ≤ k ∧ k ≤ b) := by
  intro h2
  rw [← inR_k hk ha hb, h] at h2; cases h2
theorem othC_congr {P : AS} {t : Nat} {nw nw' : Nat → Int64} {nr nr' : Nat → UInt64} : ∀ {n : Nat}, (∀ j, j < n → nw j = nw' j ∧ nr j = nr' j) → othC P t nw nr n = othC P t nw' nr' n
  | 0, _ => rfl
  | n + 1, h => by
    show _ + (if _ then _ else _) = _ + (if _ then _ else _)
    rw [othC_congr (n := n) (fun j hj => h j (by omega)), (h n (by omega)).1, (h n (by omega)).2]
theorem gd_up2 {f : Nat → Nat → UInt64} (h : ∀ a b, gd (f a b)) {t i : Nat} {v : UInt64} (hv : gd v) : ∀ a b, gd (up2 f t i v a b) := by
  intro a b
  unfold up2
  split
  · exact hv
  · exact h a b
theorem gd_bubI {P : AS} (h : ∀ a b, gd (P.re a b)) (t : Nat) : ∀ k a b, gd ((bubI P t k).re a b)
  | 0 => h
  | k + 1 => by
    unfold bubI
    split
    · exact gd_up2 (gd_up2 (gd_bubI h t k) (gd_bubI h t k _ _)) (gd_bubI h t k _ _)
    · exact gd_bubI h t k
theorem gd_bubO {P : AS} (h : ∀ a b, gd (P.re a b)) (t : Nat) : ∀ k a b, gd ((bubO P t k).re a b)
  | 0 => h
  | k + 1 => gd_bubI (gd_bubO h t k) t _
def sp_sort (P : AS) (c : Int32) : Int32 × AS × Int32 :=
  if isC c = true then (if rsRow P (cN c) = 0 then (nI (othC (bubO P (P.co (cN c) - 1) (P.ln (P.co (cN c) - 1) - 1)) (P.co (cN c) - 1) (P.wh (P.co (cN c) - 1)) (P.re (P.co (cN c) - 1)) (P.ln (P.co (cN c) - 1))), bubO P (P.co (cN c) - 1) (P.ln (P.co (cN c) - 1) - 1), 0) else rf P (rsRow P (cN c))) else rf P 1
theorem alkP_v {P : AS} {t u i : Nat} (h : P.kd t < 8) (h2 : P.kd u < 8) : alkP P t u i = decide (agn (P.kd t) (P.wh t i) (P.re t i) (P.kd u) (P.wh u i) (P.re u i) = 0) := by
  unfold alkP; rw [if_pos (by rw [decide_eq_true h, decide_eq_true h2]), if_pos h]
theorem alkP_t {P : AS} {t u i : Nat} (h : ¬ P.kd t < 8) (h2 : ¬ P.kd u < 8) : alkP P t u i = decide (P.wh t i = P.wh u i) := by
  unfold alkP; rw [if_pos (by rw [decide_eq_false h, decide_eq_false h2]), if_neg h]
theorem alkP_n {P : AS} {t u i : Nat} (h : ¬ (P.kd t < 8 ↔ P.kd u < 8)) : alkP P t u i = false := by
  unfold alkP; rw [if_neg (fun h2 => h (by rw [decide_eq_decide] at h2; exact h2))]
