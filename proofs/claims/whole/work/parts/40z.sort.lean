/-! SORTING, in mathematics: an order of places by a key, then by place; sinking and swapping both come to it -/
def Rk (key : Nat → Int) (a b : Nat) : Prop := key a < key b ∨ (key a = key b ∧ a < b)
theorem Rk_tr {key : Nat → Int} {a b c : Nat} (h : Rk key a b) (h2 : Rk key b c) : Rk key a c := by unfold Rk at *; omega
/-- a row of places that is in order, of the places below k, and all of them -/
def Srt (key : Nat → Int) (σ : Nat → Nat) (k : Nat) : Prop := (∀ i j, i < j → j < k → Rk key (σ i) (σ j)) ∧ (∀ i, i < k → σ i < k) ∧ ∀ x, x < k → ∃ i, i < k ∧ σ i = x
theorem Srt_eq {key : Nat → Int} {σ τ : Nat → Nat} {L : Nat} (h : Srt key σ L) (h2 : Srt key τ L) : ∀ n i, i < n → i < L → σ i = τ i := by
  intro n
  induction n with
  | zero => intro i hi; omega
  | succ n ih =>
    intro i hi hL
    by_cases e : i < n
    · exact ih i e hL
    · have hin : i = n := by omega
      subst hin
      have a1 : ¬ Rk key (σ i) (τ i) := by
        obtain ⟨j, hj, ej⟩ := h2.2.2 (σ i) (h.2.1 i hL)
        by_cases c : j < i
        · have h3 := h.1 j i c hL
          rw [ih j c hj, ej] at h3
          unfold Rk at h3; omega
        · by_cases c2 : j = i
          · rw [← ej, c2]; unfold Rk; omega
          · have h3 := h2.1 i j (by omega) hj
            rw [ej] at h3
            unfold Rk at *; omega
      have a2 : ¬ Rk key (τ i) (σ i) := by
        obtain ⟨j, hj, ej⟩ := h.2.2 (τ i) (h2.2.1 i hL)
        by_cases c : j < i
        · have h3 := h2.1 j i c hL
          rw [← ih j c hj, ej] at h3
          unfold Rk at h3; omega
        · by_cases c2 : j = i
          · rw [← ej, c2]; unfold Rk; omega
          · have h3 := h.1 i j (by omega) hj
            rw [ej] at h3
            unfold Rk at *; omega
      unfold Rk at a1 a2; omega
theorem skA_t {bf : Nat → Bool} : ∀ {n a : Nat}, skA bf n ≤ a → a < n → bf a = true
  | 0, a, _, h => by omega
  | n + 1, a, h, h2 => by
    unfold skA at h
    by_cases c : bf n = true
    · rw [if_pos c] at h
      by_cases e : a = n
      · rw [e]; exact c
      · exact skA_t h (by omega)
    · rw [if_neg c] at h; omega
theorem skA_f {bf : Nat → Bool} : ∀ {n : Nat}, 0 < skA bf n → bf (skA bf n - 1) = false
  | 0, h => by unfold skA at h; omega
  | n + 1, h => by
    unfold skA at h ⊢
    by_cases c : bf n = true
    · rw [if_pos c] at h ⊢; exact skA_f h
    · rw [if_neg c] at h ⊢; rw [Nat.add_sub_cancel]; cases e : bf n; rfl; exact absurd e c
theorem Srt_ins {key : Nat → Int} {σ : Nat → Nat} {k : Nat} (h : Srt key σ k) {p : Nat} (hp : p ≤ k) (h1 : ∀ a, p ≤ a → a < k → key k < key (σ a)) (h2 : 0 < p → ¬ key k < key (σ (p - 1))) : Srt key (ins σ p k k) (k + 1) := by
  obtain ⟨g1, g2, g3⟩ := h
  have hlo : ∀ a, a < p → Rk key (σ a) k := by
    intro a ha
    have h3 := h2 (by omega)
    have h4 := g2 a (by omega)
    by_cases e : a = p - 1
    · rw [← e] at h3; unfold Rk; omega
    · have h5 := g1 a (p - 1) (by omega) (by omega)
      unfold Rk at *; omega
  refine ⟨?_, ?_, ?_⟩
  · intro i j hij hj
    unfold ins
    by_cases c1 : i < p
    · rw [if_pos c1]
      by_cases c2 : j < p
      · rw [if_pos c2]; exact g1 i j hij (by omega)
      · rw [if_neg c2]
        by_cases c3 : j = p
        · rw [if_pos c3]; exact hlo i c1
        · rw [if_neg c3, if_pos (by omega)]; exact g1 i (j - 1) (by omega) (by omega)
    · rw [if_neg c1, if_neg (show ¬ j < p by omega), if_neg (show ¬ j = p by omega), if_pos (show j ≤ k by omega)]
      by_cases c2 : i = p
      · rw [if_pos c2]; exact Or.inl (h1 (j - 1) (by omega) (by omega))
      · rw [if_neg c2, if_pos (by omega)]; exact g1 (i - 1) (j - 1) (by omega) (by omega)
  · intro i hi
    unfold ins
    by_cases c1 : i < p
    · rw [if_pos c1]; have := g2 i (by omega); omega
    · rw [if_neg c1]
      by_cases c2 : i = p
      · rw [if_pos c2]; omega
      · rw [if_neg c2, if_pos (by omega)]; have := g2 (i - 1) (by omega); omega
  · intro x hx
    by_cases e : x = k
    · refine ⟨p, by omega, ?_⟩
      unfold ins; rw [if_neg (by omega), if_pos rfl, e]
    · obtain ⟨i, hi, ei⟩ := g3 x (by omega)
      by_cases c : i < p
      · exact ⟨i, by omega, by unfold ins; rw [if_pos c]; exact ei⟩
      · exact ⟨i + 1, by omega, by unfold ins; rw [if_neg (by omega), if_neg (by omega), if_pos (by omega), Nat.add_sub_cancel]; exact ei⟩
/-- swapping neighbours -/
def swN (τ : Nat → Nat) (i : Nat) : Nat → Nat := fun j => if j = i then τ (i + 1) else if j = i + 1 then τ i else τ j
def tI (lt : Nat → Nat → Bool) (τ : Nat → Nat) : Nat → Nat → Nat
  | 0 => τ
  | i + 1 => if lt (tI lt τ i (i + 1)) (tI lt τ i i) = true then swN (tI lt τ i) i else tI lt τ i
def tO (lt : Nat → Nat → Bool) (L : Nat) : Nat → Nat → Nat
  | 0 => fun i => i
  | k + 1 => tI lt (tO lt L k) (L - 1)
/-- what the swapping keeps: likes in their order; the last m in their places -/
def Bst (key : Nat → Int) (L m : Nat) (τ : Nat → Nat) : Prop := (∀ i j, i < j → j < L → key (τ i) = key (τ j) → τ i < τ j) ∧ (∀ i j, i < j → j < L → L ≤ j + m → Rk key (τ i) (τ j)) ∧ (∀ i, i < L → τ i < L) ∧ (∀ i, L ≤ i → τ i = i) ∧ ∀ x, x < L → ∃ i, i < L ∧ τ i = x
theorem swN_0 (τ : Nat → Nat) (i : Nat) : swN τ i i = τ (i + 1) := by unfold swN; rw [if_pos rfl]
theorem swN_1 (τ : Nat → Nat) (i : Nat) : swN τ i (i + 1) = τ i := by unfold swN; rw [if_neg (by omega), if_pos rfl]
theorem swN_n (τ : Nat → Nat) {i j : Nat} (h : j ≠ i) (h2 : j ≠ i + 1) : swN τ i j = τ j := by unfold swN; rw [if_neg h, if_neg h2]
theorem Bst_sw {key : Nat → Int} {L m k : Nat} {τ : Nat → Nat} (h : Bst key L m τ) (hk : k + 1 < L) (hl : key (τ (k + 1)) < key (τ k)) : Bst key L m (swN τ k) := by
  obtain ⟨g1, g2, g3, g4, g5⟩ := h
  have hm : ¬ L ≤ k + 1 + m := fun z => by have := g2 k (k + 1) (by omega) hk z; unfold Rk at this; omega
  refine ⟨?_, ?_, ?_, ?_, ?_⟩
  · intro i j hij hj
    by_cases a : i = k
    · subst a
      rw [swN_0]
      by_cases b : j = i + 1
      · subst b; rw [swN_1]; omega
      · rw [swN_n _ (by omega) b]; exact g1 (i + 1) j (by omega) hj
    · by_cases a2 : i = k + 1
      · subst a2
        rw [swN_1, swN_n _ (by omega) (by omega)]; exact g1 k j (by omega) hj
      · rw [swN_n _ a a2]
        by_cases b : j = k
        · subst b; rw [swN_0]; exact g1 i (j + 1) (by omega) (by omega)
        · by_cases b2 : j = k + 1
          · subst b2; rw [swN_1]; exact g1 i k (by omega) (by omega)
          · rw [swN_n _ b b2]; exact g1 i j hij hj
  · intro i j hij hj hm2
    rw [swN_n _ (show j ≠ k by omega) (show j ≠ k + 1 by omega)]
    by_cases a : i = k
    · subst a; rw [swN_0]; exact g2 (i + 1) j (by omega) hj hm2
    · by_cases a2 : i = k + 1
      · subst a2; rw [swN_1]; exact g2 k j (by omega) hj hm2
      · rw [swN_n _ a a2]; exact g2 i j hij hj hm2
  · intro i hi
    by_cases a : i = k
    · subst a; rw [swN_0]; exact g3 (i + 1) hk
    · by_cases a2 : i = k + 1
      · subst a2; rw [swN_1]; exact g3 k (by omega)
      · rw [swN_n _ a a2]; exact g3 i hi
  · intro i hi
    rw [swN_n _ (by omega) (by omega)]; exact g4 i hi
  · intro x hx
    obtain ⟨i, hi, ei⟩ := g5 x hx
    by_cases a : i = k
    · subst a; exact ⟨i + 1, hk, by rw [swN_1]; exact ei⟩
    · by_cases a2 : i = k + 1
      · subst a2; exact ⟨k, by omega, by rw [swN_0]; exact ei⟩
      · exact ⟨i, hi, by rw [swN_n _ a a2]; exact ei⟩
theorem Bst_I {key : Nat → Int} {lt : Nat → Nat → Bool} (hlt : ∀ a b, lt a b = decide (key a < key b)) {L m : Nat} {τ : Nat → Nat} (h : Bst key L m τ) : ∀ k, k < L → Bst key L m (tI lt τ k) ∧ (∀ i, i < k → Rk key (tI lt τ k i) (tI lt τ k k)) ∧ (L ≤ k + m + 1 → Bst key L (m + 1) (tI lt τ k)) := by
  intro k
  induction k with
  | zero =>
    intro hk
    refine ⟨h, fun i hi => by omega, fun hL => ?_⟩
    obtain ⟨g1, g2, g3, g4, g5⟩ := h
    refine ⟨g1, fun i j hij hj _ => ?_, g3, g4, g5⟩
    exact g2 i j hij hj (by omega)
  | succ k ih =>
    intro hk
    obtain ⟨h1, h2, h3⟩ := ih (by omega)
    unfold tI
    by_cases c : lt (tI lt τ k (k + 1)) (tI lt τ k k) = true
    · rw [if_pos c]
      rw [hlt, decide_eq_true_eq] at c
      have hs := Bst_sw h1 hk c
      have hm : ¬ L ≤ k + 1 + m := fun z => by have := h1.2.1 k (k + 1) (by omega) hk z; unfold Rk at this; omega
      have hR : ∀ i, i < k + 1 → Rk key (swN (tI lt τ k) k i) (swN (tI lt τ k) k (k + 1)) := by
        intro i hi
        rw [swN_1]
        by_cases a : i = k
        · subst a; rw [swN_0]; exact Or.inl c
        · rw [swN_n _ a (by omega)]; exact h2 i (by omega)
      refine ⟨hs, hR, fun hL => ?_⟩
      obtain ⟨g1, g2, g3, g4, g5⟩ := hs
      refine ⟨g1, fun i j hij hj hj2 => ?_, g3, g4, g5⟩
      by_cases e : j = k + 1
      · subst e; exact hR i hij
      · exact g2 i j hij hj (by omega)
    · rw [if_neg c]
      rw [hlt, decide_eq_true_eq] at c
      have hR0 : Rk key (tI lt τ k k) (tI lt τ k (k + 1)) := by
        by_cases e : key (tI lt τ k k) = key (tI lt τ k (k + 1))
        · exact Or.inr ⟨e, h1.1 k (k + 1) (by omega) hk e⟩
        · exact Or.inl (by omega)
      have hR : ∀ i, i < k + 1 → Rk key (tI lt τ k i) (tI lt τ k (k + 1)) := by
        intro i hi
        by_cases a : i = k
        · subst a; exact hR0
        · exact Rk_tr (h2 i (by omega)) hR0
      refine ⟨h1, hR, fun hL => ?_⟩
      by_cases e2 : L ≤ k + m + 1
      · exact h3 e2
      · obtain ⟨g1, g2, g3, g4, g5⟩ := h1
        refine ⟨g1, fun i j hij hj hj2 => ?_, g3, g4, g5⟩
        by_cases e : j = k + 1
        · subst e; exact hR i hij
        · exact g2 i j hij hj (by omega)
theorem Bst_O {key : Nat → Int} {lt : Nat → Nat → Bool} (hlt : ∀ a b, lt a b = decide (key a < key b)) {L : Nat} (hL : 0 < L) : ∀ k, Bst key L k (tO lt L k)
  | 0 => ⟨fun i j h _ _ => h, fun i j _ _ _ => by omega, fun i h => h, fun _ _ => rfl, fun x h => ⟨x, h, rfl⟩⟩
  | k + 1 => ((Bst_I hlt (Bst_O hlt hL k)) (L - 1) (by omega)).2.2 (by omega)
theorem Srt_O {key : Nat → Int} {lt : Nat → Nat → Bool} (hlt : ∀ a b, lt a b = decide (key a < key b)) {L : Nat} (hL : 0 < L) : Srt key (tO lt L (L - 1)) L := by
  obtain ⟨g1, g2, g3, g4, g5⟩ := Bst_O hlt hL (L - 1)
  exact ⟨fun i j hij hj => g2 i j hij hj (by omega), g3, g5⟩
theorem tO_out {key : Nat → Int} {lt : Nat → Nat → Bool} (hlt : ∀ a b, lt a b = decide (key a < key b)) {L : Nat} (hL : 0 < L) {k i : Nat} (h : L ≤ i) : tO lt L k i = i := (Bst_O hlt hL k).2.2.2.1 i h
/-- row t with its places in the order τ -/
def prm (P : AS) (t : Nat) (τ : Nat → Nat) : AS := (P.n, P.kd, P.ln, P.tg, fun u j => if u = t then P.wh t (τ j) else P.wh u j, fun u j => if u = t then P.re t (τ j) else P.re u j, P.co)
theorem prm_id (P : AS) (t : Nat) : prm P t (fun i => i) = P := by
  have h1 : (fun u j => if u = t then P.wh t j else P.wh u j) = P.wh := by
    funext u j; by_cases h : u = t
    · rw [if_pos h, h]
    · rw [if_neg h]
  have h2 : (fun u j => if u = t then P.re t j else P.re u j) = P.re := by
    funext u j; by_cases h : u = t
    · rw [if_pos h, h]
    · rw [if_neg h]
  show (P.n, P.kd, P.ln, P.tg, (fun u j => if u = t then P.wh t j else P.wh u j), (fun u j => if u = t then P.re t j else P.re u j), P.co) = P
  rw [h1, h2]
theorem sw_up {α : Type} (f : Nat → Nat → α) (t : Nat) (τ : Nat → Nat) (i : Nat) : up2 (up2 (fun u j => if u = t then f t (τ j) else f u j) t (i + 1) ((fun u j => if u = t then f t (τ j) else f u j) t i)) t i ((fun u j => if u = t then f t (τ j) else f u j) t (i + 1)) = (fun u j => if u = t then f t (swN τ i j) else f u j) := by
  funext u j
  unfold up2 swN
  by_cases h : u = t
  · subst h
    by_cases a : j = i
    · simp [a]
    · by_cases b : j = i + 1
      · simp [b]
      · simp [a, b]
  · simp [h]
theorem prm_sw (P : AS) (t : Nat) (τ : Nat → Nat) (i : Nat) : swp (prm P t τ) t (i + 1) i = prm P t (swN τ i) := by
  have h1 := sw_up P.wh t τ i
  have h2 := sw_up P.re t τ i
  show (P.n, P.kd, P.ln, P.tg, up2 (up2 _ t (i + 1) _) t i _, up2 (up2 _ t (i + 1) _) t i _, P.co) = _
  exact (congrArg (fun a => ((P.n, P.kd, P.ln, P.tg, a, _, P.co) : AS)) h1).trans (congrArg (fun b => ((P.n, P.kd, P.ln, P.tg, _, b, P.co) : AS)) h2)
theorem prm_w (P : AS) (t : Nat) (τ : Nat → Nat) (i : Nat) : (prm P t τ).wh t i = P.wh t (τ i) := if_pos rfl
theorem prm_r (P : AS) (t : Nat) (τ : Nat → Nat) (i : Nat) : (prm P t τ).re t i = P.re t (τ i) := if_pos rfl
theorem bef_prm (P : AS) (t : Nat) (τ : Nat → Nat) (i j : Nat) : bef (prm P t τ) t i j = bef P t (τ i) (τ j) := by
  unfold bef
  rw [prm_w, prm_w, prm_r, prm_r]
  rfl
theorem bubI_prm (P : AS) (t : Nat) (τ : Nat → Nat) : ∀ k, bubI (prm P t τ) t k = prm P t (tI (bef P t) τ k)
  | 0 => rfl
  | k + 1 => by
    unfold bubI tI
    rw [bubI_prm P t τ k, bef_prm, prm_sw]
    split <;> rfl
theorem bubO_prm (P : AS) (t : Nat) : ∀ k, bubO P t k = prm P t (tO (bef P t) (P.ln t) k)
  | 0 => (prm_id P t).symm
  | k + 1 => by
    unfold bubO tO
    rw [bubO_prm P t k, bubI_prm]
/-- by what the places of row t are put in order -/
def kyP (P : AS) (t i : Nat) : Int := if P.kd t ≤ 5 then (P.wh t i).toInt else if P.kd t ≤ 7 then FP.Core.dkey (P.re t i) else (rank P (P.wh t i).toNatClampNeg).toInt
theorem cmpD_key {x y : UInt64} (h : vf_n64 x) (h2 : vf_n64 y) : cmpD x y = -1 ↔ FP.Core.dkey x < FP.Core.dkey y := by
  have hx := (FP.Core.notNaN_iff x).mp (nf64.mp h)
  have hy := (FP.Core.notNaN_iff y).mp (nf64.mp h2)
  obtain ⟨o, ho⟩ := FP.Core.dcmp_of_notNaN (nf64.mp h) (nf64.mp h2)
  have ho' : FP.dcmp x y = some o := ho
  rw [← FP.Core.dcmp_lt_key hx hy, ho]
  unfold cmpD
  rw [ho']
  cases o <;> decide
theorem bef_key {P : AS} (hg : ∀ a b, gd (P.re a b)) (t a b : Nat) : bef P t a b = decide (kyP P t a < kyP P t b) := by
  unfold bef kyP
  by_cases h5 : P.kd t ≤ 5
  · rw [if_pos (by omega), if_pos h5, if_pos h5, decide_eq_decide]
    unfold agn
    rw [if_neg (by omega)]
    unfold ordW
    rw [if_pos rfl, ← Int64.lt_iff_toInt_lt]
    by_cases h : P.wh t a < P.wh t b
    · rw [if_pos h]; exact ⟨fun _ => h, fun _ => rfl⟩
    · rw [if_neg h]
      refine ⟨fun h2 => ?_, fun h2 => absurd h2 h⟩
      split at h2 <;> exact absurd h2 (by decide)
  · rw [if_neg h5, if_neg h5]
    by_cases h7 : P.kd t ≤ 7
    · rw [if_pos (by omega), if_pos h7, if_pos h7, decide_eq_decide]
      unfold agn dbl
      rw [if_pos (by omega), if_neg h5, if_neg h5]
      exact cmpD_key (hg t a).1 (hg t b).1
    · rw [if_neg (by omega), if_neg h7, if_neg h7, decide_eq_decide, Int64.lt_iff_toInt_lt]
theorem rank_m (P : AS) {q : Nat} (h : q ≠ 0) : rank P q = (meas P (q - 1)).toInt64 := by
  unfold rank meas
  rw [if_neg h]
  split <;> rfl
theorem bfp_bef {P : AS} (t a b : Nat) : bfp P t a b = bef P t a b := by
  unfold bfp
  by_cases h8 : P.kd t < 8
  · have hv : cV (rdC P t a (-1, 0, 0, 0)) = true := by
      rcases rd_k (P := P) t a (-1, 0, 0, 0) with ⟨h, e⟩ | ⟨h, e⟩ | ⟨h, e⟩
      · rw [e]; exact cV_n h8 _
      · rw [e]; exact cV_n h8 _
      · omega
    unfold cBf bef
    rw [if_pos hv, if_pos h8]
    exact rd_ls h8 h8 Iff.rfl
  · rcases rd_k (P := P) t a (-1, 0, 0, 0) with ⟨h, e⟩ | ⟨h, e⟩ | ⟨h, e⟩ <;> try omega
    rcases rd_k (P := P) t b (-1, 0, 0, 0) with ⟨h', e'⟩ | ⟨h', e'⟩ | ⟨h', e'⟩ <;> try omega
    rw [e, e']
    unfold cBf bef
    rw [cV_m, if_neg (by decide), if_neg h8]
    show (if (P.wh t a).toNatClampNeg = 0 ∨ (P.wh t b).toNatClampNeg = 0 then decide ((P.wh t a).toNatClampNeg = 0 ∧ (P.wh t b).toNatClampNeg ≠ 0) else decide (meas P ((P.wh t a).toNatClampNeg - 1) < meas P ((P.wh t b).toNatClampNeg - 1))) = _
    generalize (P.wh t a).toNatClampNeg = q
    generalize (P.wh t b).toNatClampNeg = q'
    have hb : ∀ x : Int32, (-4294967296 : Int64) < x.toInt64 := fun x => by
      rw [Int64.lt_iff_toInt_lt, Int32.toInt_toInt64]
      have := Int32.le_toInt x
      show (-4294967296 : Int) < _
      omega
    by_cases h1 : q = 0
    · by_cases h2 : q' = 0
      · rw [if_pos (Or.inl h1), h1, h2]; simp
      · rw [if_pos (Or.inl h1), rank_m P h2, h1]
        rw [decide_eq_decide]
        exact ⟨fun _ => hb _, fun _ => ⟨rfl, h2⟩⟩
    · by_cases h2 : q' = 0
      · rw [if_pos (Or.inr h2), rank_m P h1, h2, decide_eq_decide]
        refine ⟨fun h => absurd h.1 h1, fun h => ?_⟩
        have h3 := hb (meas P (q - 1))
        have h4 : (meas P (q - 1)).toInt64 < (-4294967296 : Int64) := h
        rw [Int64.lt_iff_toInt_lt] at h3 h4
        omega
      · rw [if_neg (by omega), rank_m P h1, rank_m P h2, decide_eq_decide, Int64.lt_iff_toInt_lt, Int32.toInt_toInt64, Int32.toInt_toInt64, Int32.lt_iff_toInt_lt]
theorem Srt_sgm {P : AS} (hg : ∀ a b, gd (P.re a b)) (t : Nat) : ∀ k, Srt (kyP P t) (sgm P t k) k
  | 0 => ⟨fun i j _ h => by omega, fun i h => by omega, fun x h => by omega⟩
  | k + 1 => by
    have hb : ∀ a b, bfp P t a b = decide (kyP P t a < kyP P t b) := fun a b => (bfp_bef t a b).trans (bef_key hg t a b)
    refine Srt_ins (Srt_sgm hg t k) (skA_le _ k) (fun a h1 h2 => ?_) (fun h1 h2 => ?_)
    · have h3 := skA_t h1 h2
      rw [hb, decide_eq_true_eq] at h3
      exact h3
    · have h3 := skA_f h1
      rw [hb, decide_eq_false_iff_not] at h3
      exact h3 h2
theorem wg_so {P : AS} (hw : WF P) (hz : WZ P) {t L : Nat} {x : Nat → CE} {σ : Nat → Nat} (hx : ∀ i, i < L → ∃ y, x i = rdC P t (σ i) y) : ∀ k, k ≤ L → (∀ u j, wgW P t (fun i => i) x k u j = if u = t ∧ j < k then P.wh t (σ j) else P.wh u j) ∧ ∀ u j, wgR P t (fun i => i) x k u j = if u = t ∧ j < k then P.re t (σ j) else P.re u j
  | 0, _ => ⟨fun u j => by rw [if_neg (by omega)]; rfl, fun u j => by rw [if_neg (by omega)]; rfl⟩
  | k + 1, hk => by
    obtain ⟨i1, i2⟩ := wg_so hw hz hx k (by omega)
    obtain ⟨y, hy⟩ := hx k (by omega)
    have up : ∀ {α : Type} (f g : Nat → Nat → α) (v : α), (∀ u j, f u j = if u = t ∧ j < k then g t (σ j) else g u j) → v = g t (σ k) → ∀ u j, up2 f t k v u j = if u = t ∧ j < k + 1 then g t (σ j) else g u j := by
      intro α f g v hf hv u j
      unfold up2
      by_cases a : u = t
      · by_cases b : j = k
        · rw [if_pos ⟨a, b⟩, if_pos ⟨a, by omega⟩, hv, b]
        · rw [if_neg (fun z => b z.2), hf]
          by_cases c : j < k
          · rw [if_pos ⟨a, c⟩, if_pos ⟨a, by omega⟩]
          · rw [if_neg (fun z => c z.2), if_neg (fun z => by omega)]
      · rw [if_neg (fun z => a z.1), hf, if_neg (fun z => a z.1), if_neg (fun z => a z.1)]
    have no : ∀ {α : Type} (f g : Nat → Nat → α), (∀ u j, f u j = if u = t ∧ j < k then g t (σ j) else g u j) → (∀ i j, g t i = g t j) → ∀ u j, f u j = if u = t ∧ j < k + 1 then g t (σ j) else g u j := by
      intro α f g hf hc u j
      rw [hf]
      by_cases a : u = t
      · subst a
        by_cases c : j < k
        · rw [if_pos ⟨rfl, c⟩, if_pos ⟨rfl, by omega⟩]
        · rw [if_neg (fun z => c z.2)]
          by_cases c2 : j < k + 1
          · rw [if_pos ⟨rfl, c2⟩]; exact hc _ _
          · rw [if_neg (fun z => c2 z.2)]
      · rw [if_neg (fun z => a z.1), if_neg (fun z => a z.1)]
    unfold wgW wgR
    by_cases h5 : P.kd t ≤ 5
    · simp only [if_pos h5]
      refine ⟨up _ P.wh _ i1 ?_, no _ P.re i2 (fun i j => by rw [(hz t i).1 (Or.inl h5), (hz t j).1 (Or.inl h5)])⟩
      rw [hy]; unfold rdC; rw [if_pos h5]
    · simp only [if_neg h5]
      by_cases h7 : P.kd t ≤ 7
      · simp only [if_pos h7]
        refine ⟨no _ P.wh i1 (fun i j => by rw [(hz t i).2 ⟨by omega, h7⟩, (hz t j).2 ⟨by omega, h7⟩]), up _ P.re _ i2 ?_⟩
        rw [hy]; unfold rdC cP; rw [if_neg h5, if_pos h7, cW_n (by omega) (by omega), if_neg (by decide)]
      · simp only [if_neg h7]
        refine ⟨up _ P.wh _ i1 ?_, no _ P.re i2 (fun i j => by rw [(hz t i).1 (Or.inr (by omega)), (hz t j).1 (Or.inr (by omega))])⟩
        rw [hy]; unfold rdC; rw [if_neg h5, if_neg h7]
        obtain ⟨q, hq, hq2⟩ := hw.2.2.2.2 t (σ k) (by omega)
        show lN (P.wh t (σ k)).toNatClampNeg = _
        have h3 := hw.2.2.1
        rw [hq, lN_clamp (by omega)]
theorem oth_so {P : AS} (hg : ∀ a b, gd (P.re a b)) {t : Nat} {σ τ : Nat → Nat} : ∀ k, (∀ i, i < k → σ i = τ i) → ulC P t σ k = othC (prm P t τ) t (P.wh t) (P.re t) k
  | 0, _ => rfl
  | k + 1, h => by
    unfold ulC othC lkp
    rw [oth_so hg k (fun i hi => h i (by omega)), prm_w, prm_r, h k (by omega)]
    have e : (P.wh t k = P.wh t (τ k) ∧ deq (P.re t k) (P.re t (τ k)) = true) ↔ (P.wh t (τ k) = P.wh t k ∧ deq (P.re t (τ k)) (P.re t k) = true) := by
      rw [(fp_eq (hg t k).1 (hg t (τ k)).1).2]; exact ⟨fun z => ⟨z.1.symm, z.2⟩, fun z => ⟨z.1.symm, z.2⟩⟩
    by_cases c : P.wh t (τ k) = P.wh t k ∧ deq (P.re t (τ k)) (P.re t k) = true
    · rw [if_pos (decide_eq_true (e.mpr c)), if_pos c]; rfl
    · rw [if_neg (fun z => c (e.mp (of_decide_eq_true z))), if_neg c]
/-- sorting: what the house's sinking makes is what the model's swapping makes -/
theorem so_gen {P : AS} (hw : WF P) (hz : WZ P) (hg : ∀ a b, gd (P.re a b)) {t : Nat} {x : Nat → CE} (h : ∀ i, i < P.ln t → ∃ y, x i = rdC P t (sgm P t (P.ln t) i) y) : wgP P t (fun i => i) x (P.ln t) = bubO P t (P.ln t - 1) ∧ ulC P t (sgm P t (P.ln t)) (P.ln t) = othC (bubO P t (P.ln t - 1)) t (P.wh t) (P.re t) (P.ln t) := by
  have he : ∀ i, i < P.ln t → sgm P t (P.ln t) i = tO (bef P t) (P.ln t) (P.ln t - 1) i := fun i hi => Srt_eq (Srt_sgm hg t (P.ln t)) (Srt_O (fun a b => bef_key hg t a b) (by omega)) (i + 1) i (by omega) hi
  have ho : ∀ i, P.ln t ≤ i → tO (bef P t) (P.ln t) (P.ln t - 1) i = i := by
    intro i hi
    by_cases c : P.ln t = 0
    · rw [c]; rfl
    · exact tO_out (key := kyP P t) (fun a b => bef_key hg t a b) (by omega) hi
  rw [bubO_prm]
  refine ⟨?_, oth_so hg _ he⟩
  obtain ⟨i1, i2⟩ := wg_so hw hz h (P.ln t) (Nat.le_refl _)
  have e1 : wgW P t (fun i => i) x (P.ln t) = fun u j => if u = t then P.wh t (tO (bef P t) (P.ln t) (P.ln t - 1) j) else P.wh u j := by
    funext u j
    rw [i1]
    by_cases a : u = t
    · by_cases c : j < P.ln t
      · rw [if_pos ⟨a, c⟩, if_pos a, he j c]
      · rw [if_neg (fun z => c z.2), if_pos a, ho j (by omega), a]
    · rw [if_neg (fun z => a z.1), if_neg a]
  have e2 : wgR P t (fun i => i) x (P.ln t) = fun u j => if u = t then P.re t (tO (bef P t) (P.ln t) (P.ln t - 1) j) else P.re u j := by
    funext u j
    rw [i2]
    by_cases a : u = t
    · by_cases c : j < P.ln t
      · rw [if_pos ⟨a, c⟩, if_pos a, he j c]
      · rw [if_neg (fun z => c z.2), if_pos a, ho j (by omega), a]
    · rw [if_neg (fun z => a z.1), if_neg a]
  show (P.n, P.kd, P.ln, P.tg, wgW P t (fun i => i) x (P.ln t), wgR P t (fun i => i) x (P.ln t), P.co) = _
  rw [e1, e2]
  rfl
