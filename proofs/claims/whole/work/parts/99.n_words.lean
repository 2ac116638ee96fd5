/-! the reference looks at a word -/
def kx : List Nat := [1, 11, 12, 2, 3, 4, 5, 6, 7, 8, 9, 10, 13, 14, 15]
def kl (k : Nat) : Nat := ab_sLen.getD (kx.getD k 0) 0
def kb (k j : Nat) : Int := ((ab_sByt.getD (kx.getD k 0) []).getD j 0).toInt
def kA (k : Nat) : Int := -((kx.getD k 0 : Int) + 1)
theorem k_facts : ∀ k, k < 15 → (1 ≤ kl k ∧ kl k ≤ 7) ∧ (∀ j, j < kl k → 97 ≤ kb k j ∧ kb k j ≤ 122) ∧ (nmN (kb k) (kl k) : Int) = in_keys.getD k 0 := by decide +kernel
theorem k_dist : ∀ i, i < 15 → ∀ j, j < 15 → in_keys.getD i 0 = in_keys.getD j 0 → i = j := by decide +kernel
theorem k_slen : ∀ k, k < 15 → ab_slen (kA k) = some (kl k : Int) := by decide +kernel
theorem k_schr : ∀ k, k < 15 → ∀ j, j < kl k → ab_schr (kA k) (j : Int) = some (kb k j) := by decide +kernel
theorem gvN_inj {t t' : Nat → Int} : ∀ n, allL t n → allL t' n → gvN t n = gvN t' n → ∀ i, i < n → t i = t' i := by
  intro n
  induction n with
  | zero => intro _ _ _ i hi; exact absurd hi (Nat.not_lt_zero _)
  | succ n ih =>
    intro h h' e i hi
    have l := h n (by omega)
    have l' := h' n (by omega)
    unfold isL at l l'
    rw [gvN, gvN] at e
    unfold ltN at e
    by_cases z : i = n
    · subst z; omega
    · exact ih (fun k hk => h k (by omega)) (fun k hk => h' k (by omega)) (by omega) i (by omega)
theorem nmN_ne {t t' : Nat → Int} {n m : Nat} (hn : n < m + 1) (h7 : m + 1 ≤ 7) (h' : allL t' (m + 1)) : nmN t n ≠ nmN t' (m + 1) := by
  intro e
  unfold nmN at e
  have p : 0 < 32 ^ (7 - (m + 1)) := Nat.pow_pos (by decide)
  have s : 32 ^ (7 - n) = 32 ^ (m - n) * 32 * 32 ^ (7 - (m + 1)) := by
    rw [← Nat.pow_succ, ← Nat.pow_add]; congr 1; omega
  rw [s, ← Nat.mul_assoc] at e
  have e := Nat.eq_of_mul_eq_mul_right p e
  rw [gvN, ← Nat.mul_assoc] at e
  have l' := h' m (by omega)
  unfold isL at l'
  unfold ltN at e
  generalize gvN t n * 32 ^ (m - n) = A at e
  omega
theorem nmN_inj {t t' : Nat → Int} {n n' : Nat} (h1 : 1 ≤ n) (h7 : n ≤ 7) (h1' : 1 ≤ n') (h7' : n' ≤ 7) (h : allL t n) (h' : allL t' n') (e : nmN t n = nmN t' n') : n = n' ∧ ∀ i, i < n → t i = t' i := by
  have en : n = n' := by
    by_cases z : n < n'
    · obtain ⟨m, rfl⟩ : ∃ m, n' = m + 1 := ⟨n' - 1, by omega⟩
      exact absurd e (nmN_ne z h7' h')
    · by_cases y : n' < n
      · obtain ⟨m, rfl⟩ : ∃ m, n = m + 1 := ⟨n - 1, by omega⟩
        exact absurd e.symm (nmN_ne y h7 h)
      · omega
  subst en
  refine ⟨rfl, gvN_inj n h h' ?_⟩
  exact Nat.eq_of_mul_eq_mul_right (Nat.pow_pos (by decide)) e
theorem nmN_cg {t t' : Nat → Int} : ∀ n, (∀ i, i < n → t i = t' i) → gvN t n = gvN t' n := by
  intro n
  induction n with
  | zero => intro _; rfl
  | succ n ih => intro h; rw [gvN, gvN, ih (fun i hi => h i (by omega))]; unfold ltN; rw [h n (by omega)]
theorem kyN_iff {x : Int} {k : Nat} (hk : k < 15) : kyN x = (k : Int) ↔ in_keys.getD k 0 = x := by
  unfold kyN
  constructor
  · intro e
    obtain ⟨j, e2, _, _, h3, _⟩ := fnd_yes _ _ (by rw [e]; omega)
    rw [e] at e2
    have : j = k := by omega
    subst this
    exact of_decide_eq_true h3
  · intro e
    by_cases z : fnd (fun k => decide (in_keys.getD k 0 = x)) 15 0 = -1
    · exact absurd e (of_decide_eq_false (fnd_no _ _ z k (by omega) (by omega)))
    · obtain ⟨j, e2, _, h2, h3, _⟩ := fnd_yes _ _ z
      have := k_dist j (by omega) k hk (by rw [of_decide_eq_true h3, e])
      rw [e2, this]
theorem kyN_in (x : Int) : -1 ≤ kyN x ∧ kyN x < 15 := by
  unfold kyN
  by_cases z : fnd (fun k => decide (in_keys.getD k 0 = x)) 15 0 = -1
  · omega
  · obtain ⟨j, e2, _, h2, _⟩ := fnd_yes _ _ z
    omega
section WH
variable {T : Nat → Int} {L q : Nat} {σ : st_S}
theorem key_iff (h : kdQ T L q = 1) {k : Nat} (hk : k < 15) : (nQ T L q = kl k ∧ ∀ j, j < kl k → T (q + j) = kb k j) ↔ (nQ T L q ≤ 7 ∧ kyN (nmN (sh T q) (nQ T L q) : Int) = (k : Int)) := by
  obtain ⟨w1, w2, w3⟩ := all_w h
  obtain ⟨⟨f1, f2⟩, f3, f4⟩ := k_facts k hk
  rw [kyN_iff hk, ← f4]
  constructor
  · intro ⟨a, d⟩
    refine ⟨by omega, ?_⟩
    unfold nmN
    rw [a, nmN_cg (t := sh T q) (t' := kb k) (kl k) (fun i hi => d i hi)]
  · intro ⟨a, d⟩
    have := nmN_inj f1 f2 w1 a (fun i hi => f3 i hi) w3 (by omega)
    exact ⟨this.1.symm, fun j hj => (this.2 j hj).symm⟩
theorem k8_1 (h : kdQ T L q = 1) {k : Nat} (hk : k < 15) : (k8 T L q = 1 ∧ v8 T L q = (k : Int)) ↔ (nQ T L q ≤ 7 ∧ kyN (nmN (sh T q) (nQ T L q) : Int) = (k : Int)) := by
  unfold k8 v8
  rw [h, if_neg (by decide), if_pos rfl, if_pos rfl]
  by_cases e : 7 < nQ T L q
  · rw [if_pos e]
    exact ⟨fun z => absurd z.1 (by decide), fun z => by omega⟩
  · rw [if_neg e]
    by_cases y : kyN (nmN (sh T q) (nQ T L q) : Int) = -1
    · rw [if_pos y, if_pos y]
      exact ⟨fun z => absurd z.1 (by decide), fun z => by omega⟩
    · rw [if_neg y, if_neg y]
      exact ⟨fun z => ⟨by omega, z.2⟩, fun z => ⟨rfl, z.2⟩⟩
theorem k8_not1 (h : kdQ T L q ≠ 1) : k8 T L q ≠ 1 := by
  unfold k8
  split
  · decide
  · split <;> decide
theorem p9_isWord_L39 (hT : ∀ j, j < nQ T L q → σ 599 (q + j) = T (q + j)) (hq : q + nQ T L q ≤ 1200) (h7 : σ 596 7 = (q : Int)) {k : Nat} (hk : k < 15) (hn : nQ T L q = kl k) : ∀ (c n i : Nat) (v : Int), i + c = kl k → (v = 1 ∧ (∀ j, j < i → T (q + j) = kb k j) ∨ v = 0 ∧ ∃ j, j < i ∧ T (q + j) ≠ kb k j) → c < n → g_X9_isWord_L39 n (kA k) v (i : Int) σ = some (if ∀ j, j < kl k → T (q + j) = kb k j then 1 else 0, σ) := by
  intro c
  induction c with
  | zero =>
    intro n i v hi hv hn'
    obtain ⟨m, rfl⟩ : ∃ m, n = m + 1 := ⟨n - 1, by omega⟩
    have e : i = kl k := by omega
    rw [e] at hv
    rw [g_X9_isWord_L39, k_slen k hk, Option.bind_some, if_pos (by omega)]
    rcases hv with ⟨rfl, h⟩ | ⟨rfl, j, h1, h2⟩
    · rw [if_pos h]; rfl
    · rw [if_neg (fun z => h2 (z j h1))]; rfl
  | succ c ih =>
    intro n i v hi hv hn'
    obtain ⟨m, rfl⟩ : ∃ m, n = m + 1 := ⟨n - 1, by omega⟩
    rw [g_X9_isWord_L39, k_slen k hk, Option.bind_some, if_neg (by omega)]
    rcases hv with ⟨rfl, h⟩ | ⟨rfl, j, h1, h2⟩
    · rw [if_neg one0, h7, show ab_w32 ((q : Int) + (i : Int)) = ((q + i : Nat) : Int) by rw [w32i (by omega) (by omega)]; omega, sa_ld_of (by omega) (by omega), Option.bind_some, Int.toNat_natCast, hT i (by omega), k_schr k hk i (by omega), Option.bind_some]
      unfold g_X9_isWord_J75
      rw [w32s (by omega)]
      by_cases e : T (q + i) = kb k i
      · rw [if_pos e]
        exact ih m (i + 1) 1 (by omega) (Or.inl ⟨rfl, fun j hj => by
          by_cases z : j = i
          · rw [z]; exact e
          · exact h j (by omega)⟩) (by omega)
      · rw [if_neg e]
        exact ih m (i + 1) 0 (by omega) (Or.inr ⟨rfl, i, by omega, e⟩) (by omega)
    · rw [if_pos rfl, if_neg (fun z => h2 (z j (by omega)))]; rfl
theorem p9_isWord_0 {k : Nat} (hk : k < 15) : g_X9_isWord_J35 (kA k) σ = some (0, σ) := by
  obtain ⟨⟨f1, f2⟩, _⟩ := k_facts k hk
  unfold g_X9_isWord_J35 g_X9_isWord_J36
  rw [show ab_FU = 99999 + 1 from rfl, g_X9_isWord_L39, k_slen k hk, Option.bind_some, if_neg (by omega), if_pos rfl]; rfl
theorem p9_isWord_b (hg : σ 596 10 ≠ 0) {k : Nat} (hk : k < 15) : g_X9_isWord (kA k) σ = some (0, σ) := by
  unfold g_X9_isWord g_X9_good
  rw [if_neg hg, Option.bind_some]
  dsimp only
  rw [if_pos rfl, p9_isWord_0 hk]
theorem p9_isWord (ox : okX T L) (hT : Tx9 σ T L) (hA : At9 σ T L q) (hg : σ 596 10 = 0) {k : Nat} (hk : k < 15) : g_X9_isWord (kA k) σ = some (if k8 T L q = 1 ∧ v8 T L q = (k : Int) then 1 else 0, σ) := by
  have o1 := ox.1
  obtain ⟨h7, h6, h8, _⟩ := hA
  unfold g_X9_isWord g_X9_good
  rw [if_pos hg, Option.bind_some]
  dsimp only
  rw [if_neg one0]
  by_cases e : kdQ T L q = 1
  · obtain ⟨w1, w2, w3⟩ := all_w e
    have nq : (enQ T L q : Int) - (q : Int) = (nQ T L q : Int) := by unfold nQ at w1 ⊢; omega
    have ki := key_iff e hk
    have k1 := k8_1 e hk
    rw [if_pos (show σ 596 8 = 1 by rw [h8, e]; rfl), k_slen k hk, Option.bind_some]
    have hE : ab_w32 (σ 596 6 - σ 596 7) = (nQ T L q : Int) := by rw [h6, h7, nq, w32i (by omega) (by omega)]
    by_cases z : nQ T L q = kl k
    · rw [if_pos (show ab_w32 (σ 596 6 - σ 596 7) = (kl k : Int) by rw [hE]; omega)]
      unfold g_X9_isWord_J36
      refine (p9_isWord_L39 (fun j hj => hT.2 _ (by omega)) (by omega) h7 hk z (kl k) ab_FU 0 1 (by omega) (Or.inl ⟨rfl, fun j hj => absurd hj (Nat.not_lt_zero _)⟩) (by have := (k_facts k hk).1; show _ < 100000; omega)).trans ?_
      by_cases y : ∀ j, j < kl k → T (q + j) = kb k j
      · rw [if_pos y, if_pos (k1.mpr (ki.mp ⟨z, y⟩))]
      · rw [if_neg y, if_neg (fun w => y (ki.mpr (k1.mp w)).2)]
    · rw [if_neg (show ¬ ab_w32 (σ 596 6 - σ 596 7) = (kl k : Int) by rw [hE]; omega), p9_isWord_0 hk, if_neg (fun w => z (ki.mpr (k1.mp w)).1)]
  · rw [if_neg (show ¬ σ 596 8 = 1 by rw [h8]; omega), p9_isWord_0 hk, if_neg (fun w => k8_not1 e w.1)]
/-- one of c own words from a on -/
def chc (T : Nat → Int) (L q : Nat) (a c : Int) : Int := if k8 T L q = 1 ∧ a ≤ v8 T L q ∧ v8 T L q < a + c then v8 T L q - a else -1
theorem v8_in (h : k8 T L q = 1) : kdQ T L q = 1 ∧ 0 ≤ v8 T L q ∧ v8 T L q < 15 := by
  have k1 : kdQ T L q = 1 := by
    by_cases e : kdQ T L q = 1
    · exact e
    · exact absurd h (k8_not1 e)
  have ki := kyN_in (nmN (sh T q) (nQ T L q) : Int)
  unfold k8 at h
  unfold v8
  rw [k1, if_neg (by decide), if_pos rfl] at h
  rw [k1, if_pos rfl]
  by_cases y : kyN (nmN (sh T q) (nQ T L q) : Int) = -1
  · rw [if_pos y] at h
    split at h
    · exact absurd h (by decide)
    · exact absurd h (by decide)
  · rw [if_neg y]
    exact ⟨rfl, by omega, by omega⟩
theorem p9_roleHere_b (hg : σ 596 10 ≠ 0) : g_X9_roleHere σ = some (-1, σ) := by
  unfold g_X9_roleHere
  have w : ∀ k, k < 15 → g_X9_isWord (kA k) σ = some (0, σ) := fun k hk => p9_isWord_b hg hk
  have w3 : g_X9_isWord (-3) σ = some (0, σ) := w 3 (by decide)
  have w4 : g_X9_isWord (-4) σ = some (0, σ) := w 4 (by decide)
  have w5 : g_X9_isWord (-5) σ = some (0, σ) := w 5 (by decide)
  have w6 : g_X9_isWord (-6) σ = some (0, σ) := w 6 (by decide)
  have w7 : g_X9_isWord (-7) σ = some (0, σ) := w 7 (by decide)
  have w8 : g_X9_isWord (-8) σ = some (0, σ) := w 8 (by decide)
  simp only [w3, w4, w5, w6, w7, w8, Option.bind_some, if_pos]
theorem p9_roleHere (ox : okX T L) (hT : Tx9 σ T L) (hA : At9 σ T L q) (hg : σ 596 10 = 0) : g_X9_roleHere σ = some (chc T L q 3 6, σ) := by
  unfold g_X9_roleHere
  have w : ∀ k, k < 15 → g_X9_isWord (kA k) σ = some (if k8 T L q = 1 ∧ v8 T L q = (k : Int) then 1 else 0, σ) := fun k hk => p9_isWord ox hT hA hg hk
  have w3 : g_X9_isWord (-3) σ = some (if k8 T L q = 1 ∧ v8 T L q = 3 then 1 else 0, σ) := w 3 (by decide)
  have w4 : g_X9_isWord (-4) σ = some (if k8 T L q = 1 ∧ v8 T L q = 4 then 1 else 0, σ) := w 4 (by decide)
  have w5 : g_X9_isWord (-5) σ = some (if k8 T L q = 1 ∧ v8 T L q = 5 then 1 else 0, σ) := w 5 (by decide)
  have w6 : g_X9_isWord (-6) σ = some (if k8 T L q = 1 ∧ v8 T L q = 6 then 1 else 0, σ) := w 6 (by decide)
  have w7 : g_X9_isWord (-7) σ = some (if k8 T L q = 1 ∧ v8 T L q = 7 then 1 else 0, σ) := w 7 (by decide)
  have w8 : g_X9_isWord (-8) σ = some (if k8 T L q = 1 ∧ v8 T L q = 8 then 1 else 0, σ) := w 8 (by decide)
  simp only [w3, w4, w5, w6, w7, w8, Option.bind_some]
  unfold chc
  by_cases e : k8 T L q = 1
  · have vi := v8_in e
    have hv : v8 T L q = 0 ∨ v8 T L q = 1 ∨ v8 T L q = 2 ∨ v8 T L q = 3 ∨ v8 T L q = 4 ∨ v8 T L q = 5 ∨ v8 T L q = 6 ∨ v8 T L q = 7 ∨ v8 T L q = 8 ∨ v8 T L q = 9 ∨ v8 T L q = 10 ∨ v8 T L q = 11 ∨ v8 T L q = 12 ∨ v8 T L q = 13 ∨ v8 T L q = 14 := by omega
    rcases hv with hv | hv | hv | hv | hv | hv | hv | hv | hv | hv | hv | hv | hv | hv | hv <;> simp [e, hv]
  · simp [e]
theorem p9_isOwnWord (ox : okX T L) (hT : Tx9 σ T L) (hA : At9 σ T L q) (hg : σ 596 10 = 0) : g_X9_isOwnWord σ = some (if k8 T L q = 1 then 1 else 0, σ) := by
  unfold g_X9_isOwnWord g_X9_isOwnWord_J89
  have w : ∀ k, k < 15 → g_X9_isWord (kA k) σ = some (if k8 T L q = 1 ∧ v8 T L q = (k : Int) then 1 else 0, σ) := fun k hk => p9_isWord ox hT hA hg hk
  have w0 : g_X9_isWord (-2) σ = some (if k8 T L q = 1 ∧ v8 T L q = 0 then 1 else 0, σ) := w 0 (by decide)
  have w1 : g_X9_isWord (-12) σ = some (if k8 T L q = 1 ∧ v8 T L q = 1 then 1 else 0, σ) := w 1 (by decide)
  have w2 : g_X9_isWord (-13) σ = some (if k8 T L q = 1 ∧ v8 T L q = 2 then 1 else 0, σ) := w 2 (by decide)
  have w9 : g_X9_isWord (-9) σ = some (if k8 T L q = 1 ∧ v8 T L q = 9 then 1 else 0, σ) := w 9 (by decide)
  have w10 : g_X9_isWord (-10) σ = some (if k8 T L q = 1 ∧ v8 T L q = 10 then 1 else 0, σ) := w 10 (by decide)
  have w11 : g_X9_isWord (-11) σ = some (if k8 T L q = 1 ∧ v8 T L q = 11 then 1 else 0, σ) := w 11 (by decide)
  have w12 : g_X9_isWord (-14) σ = some (if k8 T L q = 1 ∧ v8 T L q = 12 then 1 else 0, σ) := w 12 (by decide)
  have w13 : g_X9_isWord (-15) σ = some (if k8 T L q = 1 ∧ v8 T L q = 13 then 1 else 0, σ) := w 13 (by decide)
  have w14 : g_X9_isWord (-16) σ = some (if k8 T L q = 1 ∧ v8 T L q = 14 then 1 else 0, σ) := w 14 (by decide)
  rw [p9_roleHere ox hT hA hg]
  simp only [w0, w1, w2, w9, w10, w11, w12, w13, w14, Option.bind_some]
  unfold chc
  by_cases e : k8 T L q = 1
  · have vi := v8_in e
    have hv : v8 T L q = 0 ∨ v8 T L q = 1 ∨ v8 T L q = 2 ∨ v8 T L q = 3 ∨ v8 T L q = 4 ∨ v8 T L q = 5 ∨ v8 T L q = 6 ∨ v8 T L q = 7 ∨ v8 T L q = 8 ∨ v8 T L q = 9 ∨ v8 T L q = 10 ∨ v8 T L q = 11 ∨ v8 T L q = 12 ∨ v8 T L q = 13 ∨ v8 T L q = 14 := by omega
    rcases hv with hv | hv | hv | hv | hv | hv | hv | hv | hv | hv | hv | hv | hv | hv | hv <;> simp [e, hv]
  · simp [e]
end WH
