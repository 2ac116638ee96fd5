/-! nearest, senses -/
def nrS (b : BV) (s : Nat) : Nat → Nat → Int → Nat → Int
  | 0, _, k, _ => k
  | c + 1, t, k, a => if t = s then nrS b s c (t + 1) k a else if a < cm b s t then nrS b s c (t + 1) (t : Int) (cm b s t) else nrS b s c (t + 1) k a
theorem S_nearest : Stp1 (InvD DR) g_X8_nearest g_X9_nearest := by
  intro x σ _ ⟨S, r8, r9, ok⟩
  have okB := ok.2.2.2.2.1
  have o1 := okB.1
  by_cases hx : 0 ≤ x ∧ x < (bn (sB S) : Int)
  · obtain ⟨s, rfl⟩ := Int.eq_ofNat_of_zero_le hx.1
    have hs : s < bn (sB S) := by omega
    refine qry (r := nrS (sB S) s (bn (sB S)) 0 (-1) 0) ok (fun τ h8 => ?_) (fun τ h9 => ?_) r8 r9
    · have hT := h8.2.2.2.2.2.2.2.1
      have key : ∀ (c n t a : Nat) (k : Int), t + c = bn (sB S) → c < n → g_X8_nearest_L18 n (s : Int) k (a : Int) (t : Int) τ = some (nrS (sB S) s c t k a, τ) := by
        intro c
        induction c with
        | zero =>
          intro n t a k ht hn
          obtain ⟨m, rfl⟩ : ∃ m, n = m + 1 := ⟨n - 1, by omega⟩
          rw [g_X8_nearest_L18, h8.2.2.2.1.1, if_pos (by omega), nrS]
        | succ c ih =>
          intro n t a k ht hn
          obtain ⟨m, rfl⟩ : ∃ m, n = m + 1 := ⟨n - 1, by omega⟩
          rw [g_X8_nearest_L18, h8.2.2.2.1.1, if_neg (by omega), nrS]
          unfold g_X8_nearest_J50 g_X8_nearest_J64
          rw [w32s (by omega)]
          by_cases e : t = s
          · rw [if_pos (by omega), if_pos e, if_pos (by omega)]; exact ih m (t + 1) a k (by omega) (by omega)
          · rw [if_neg (by omega), if_neg e, p5_inBoth okB hT hs (by omega), Option.bind_some]
            dsimp only
            by_cases e2 : a < cm (sB S) s t
            · rw [if_neg (by omega), if_pos e2]; exact ih m (t + 1) _ _ (by omega) (by omega)
            · rw [if_pos (by omega), if_neg e2]; exact ih m (t + 1) a k (by omega) (by omega)
      unfold g_X8_nearest
      rw [p8_isString h8.2.2.2.1, if_pos hx, Option.bind_some]
      dsimp only
      rw [if_neg one0]
      exact key (bn (sB S)) ab_FU 0 0 (-1) (by omega) (by show _ < 100000; omega)
    · obtain ⟨τ1, e1, e2, e3, e4⟩ := l9w ok h9
      refine ⟨τ1, ?_, e4⟩
      have key : ∀ (c n t a : Nat) (k : Int), t + c = bn (sB S) → c < n → g_X9_nearest_L22 n (s : Int) k (a : Int) (t : Int) τ1 = some (nrS (sB S) s c t k a, τ1) := by
        intro c
        induction c with
        | zero =>
          intro n t a k ht hn
          obtain ⟨m, rfl⟩ : ∃ m, n = m + 1 := ⟨n - 1, by omega⟩
          rw [g_X9_nearest_L22, p9_strings e3 okB, Option.bind_some]
          dsimp only
          rw [if_pos (by omega), nrS]
        | succ c ih =>
          intro n t a k ht hn
          obtain ⟨m, rfl⟩ : ∃ m, n = m + 1 := ⟨n - 1, by omega⟩
          rw [g_X9_nearest_L22, p9_strings e3 okB, Option.bind_some]
          dsimp only
          rw [if_neg (by omega), nrS]
          unfold g_X9_nearest_J62
          rw [w32s (by omega)]
          by_cases e : t = s
          · rw [if_pos (by omega), if_pos e]; exact ih m (t + 1) a k (by omega) (by omega)
          · rw [if_neg (by omega), if_neg e, p9_commonOf okB e3 e2 hs (by omega), Option.bind_some]
            dsimp only
            by_cases z : a < cm (sB S) s t
            · rw [if_pos (by omega), if_pos z, p9_commonOf okB e3 e2 hs (by omega), Option.bind_some]; exact ih m (t + 1) _ _ (by omega) (by omega)
            · rw [if_neg (by omega), if_neg z]; exact ih m (t + 1) a k (by omega) (by omega)
      unfold g_X9_nearest
      rw [p9_isString h9.2.2.2.1 okB, if_pos hx, Option.bind_some]
      dsimp only
      rw [if_neg one0, e1, Option.bind_some]
      exact key (bn (sB S)) ab_FU 0 0 (-1) (by omega) (by show _ < 100000; omega)
  · refine qry (r := -2) ok (fun τ h8 => ?_) (fun τ h9 => ⟨τ, ?_, L9.rfl'⟩) r8 r9
    · unfold g_X8_nearest
      rw [p8_isString h8.2.2.2.1, if_neg hx]; rfl
    · unfold g_X9_nearest
      rw [p9_isString h9.2.2.2.1 okB, if_neg hx]; rfl
def osP (b : BV) (s : Nat) : Nat → Bool := fun t => decide (oneS b s t ≠ 0)
def fsS (b : BV) : Nat → Bool := fun s => decide (fnd (osP b s) s 0 = -1)
theorem S_senses : Stp0 (InvD DR) g_X8_senses g_X9_senses := by
  intro σ ⟨S, r8, r9, ok⟩
  have okB := ok.2.2.2.2.1
  have o1 := okB.1
  refine qry (r := (cN (fsS (sB S)) (bn (sB S)) 0 0 : Int)) ok (fun τ h8 => ?_) (fun τ h9 => ?_) r8 r9
  · have hT := h8.2.2.2.2.2.2.2.1
    have in1 : ∀ (s : Nat), s < bn (sB S) → g_X5_isFirstOfSense (s : Int) τ = some (if fnd (osP (sB S) s) s 0 = -1 then 1 else 0, τ) := by
      intro s hs
      have key : ∀ (c n t : Nat), t + c = s → c < n → g_X5_isFirstOfSense_L2 n (s : Int) (t : Int) τ = some (if fnd (osP (sB S) s) c t = -1 then 1 else 0, τ) := by
        intro c
        induction c with
        | zero =>
          intro n t ht hn
          obtain ⟨m, rfl⟩ : ∃ m, n = m + 1 := ⟨n - 1, by omega⟩
          rw [g_X5_isFirstOfSense_L2, if_pos (by omega), fnd, if_pos rfl]
        | succ c ih =>
          intro n t ht hn
          obtain ⟨m, rfl⟩ : ∃ m, n = m + 1 := ⟨n - 1, by omega⟩
          rw [g_X5_isFirstOfSense_L2, if_neg (by omega), p5_areOfOneSense okB hT hs (by omega), Option.bind_some, fnd]
          dsimp only
          by_cases e : oneS (sB S) s t = 0
          · rw [if_pos e, if_neg (show ¬ osP (sB S) s t = true from fun q => (of_decide_eq_true q) e), w32s (by omega)]; exact ih m (t + 1) (by omega) (by omega)
          · rw [if_neg e, if_pos (show osP (sB S) s t = true from decide_eq_true e), if_neg (by omega)]
      exact key s ab_FU 0 (by omega) (by show _ < 100000; omega)
    have key : ∀ (c n s a : Nat), s + c = bn (sB S) → a ≤ s → c < n → g_X8_senses_L4 n (a : Int) (s : Int) τ = some ((cN (fsS (sB S)) c s a : Int), τ) := by
      intro c
      induction c with
      | zero =>
        intro n s a hs ha hn
        obtain ⟨m, rfl⟩ : ∃ m, n = m + 1 := ⟨n - 1, by omega⟩
        rw [g_X8_senses_L4, h8.2.2.2.1.1, if_pos (by omega), cN]
      | succ c ih =>
        intro n s a hs ha hn
        obtain ⟨m, rfl⟩ : ∃ m, n = m + 1 := ⟨n - 1, by omega⟩
        rw [g_X8_senses_L4, h8.2.2.2.1.1, if_neg (by omega), in1 s (by omega), Option.bind_some, cN]
        unfold g_X8_senses_J29
        dsimp only
        rw [w32s (by omega), w32s (by omega)]
        by_cases e : fnd (osP (sB S) s) s 0 = -1
        · rw [if_pos e, if_neg one0, if_pos (show fsS (sB S) s = true from decide_eq_true e)]; exact ih m (s + 1) (a + 1) (by omega) (by omega) (by omega)
        · rw [if_neg e, if_pos rfl, if_neg (show ¬ fsS (sB S) s = true from fun q => e (of_decide_eq_true q))]; exact ih m (s + 1) a (by omega) (by omega) (by omega)
    exact key (bn (sB S)) ab_FU 0 0 (by omega) (by omega) (by show _ < 100000; omega)
  · obtain ⟨τ1, e1, e2, e3, e4⟩ := l9w ok h9
    refine ⟨τ1, ?_, e4⟩
    have in1 : ∀ (s : Nat), s < bn (sB S) → ∀ (K : Int → Int → Int → st_S → Option (Int × st_S)) (v1 : Int), g_X9_senses_L21 K ab_FU v1 (s : Int) 1 0 τ1 = K v1 (s : Int) (if fnd (osP (sB S) s) s 0 = -1 then 1 else 0) τ1 := by
      intro s hs K v1
      have zero : ∀ (n t : Nat), t ≤ s → g_X9_senses_L21 K (n + 1) v1 (s : Int) 0 (t : Int) τ1 = K v1 (s : Int) 0 τ1 := by
        intro n t ht
        rw [g_X9_senses_L21]
        split
        · rfl
        · rw [if_pos rfl]
      have key : ∀ (c n t : Nat), t + c = s → c + 1 < n → g_X9_senses_L21 K n v1 (s : Int) 1 (t : Int) τ1 = K v1 (s : Int) (if fnd (osP (sB S) s) c t = -1 then 1 else 0) τ1 := by
        intro c
        induction c with
        | zero =>
          intro n t ht hn
          obtain ⟨m, rfl⟩ : ∃ m, n = m + 1 := ⟨n - 1, by omega⟩
          rw [g_X9_senses_L21, if_pos (by omega), fnd, if_pos rfl]
        | succ c ih =>
          intro n t ht hn
          obtain ⟨m, rfl⟩ : ∃ m, n = m + 1 := ⟨n - 1, by omega⟩
          obtain ⟨m', rfl⟩ : ∃ m', m = m' + 1 := ⟨m - 1, by omega⟩
          rw [g_X9_senses_L21, if_neg (by omega), if_neg one0, p9_areOneSense okB e3 e2 hs (by omega), Option.bind_some, fnd]
          unfold g_X9_senses_J46
          dsimp only
          rw [w32s (by omega)]
          by_cases e : oneS (sB S) s t = 0
          · rw [if_pos e, if_neg (show ¬ osP (sB S) s t = true from fun q => (of_decide_eq_true q) e)]; exact ih (m' + 1) (t + 1) (by omega) (by omega)
          · rw [if_neg e, if_pos (show osP (sB S) s t = true from decide_eq_true e), if_neg (by omega)]; exact zero m' (t + 1) (by omega)
      exact key s ab_FU 0 (by omega) (by show _ < 100000; omega)
    have key : ∀ (c n s a : Nat), s + c = bn (sB S) → a ≤ s → c < n → g_X9_senses_L8 n (a : Int) (s : Int) τ1 = some ((cN (fsS (sB S)) c s a : Int), τ1) := by
      intro c
      induction c with
      | zero =>
        intro n s a hs ha hn
        obtain ⟨m, rfl⟩ : ∃ m, n = m + 1 := ⟨n - 1, by omega⟩
        rw [g_X9_senses_L8, p9_strings e3 okB, Option.bind_some]
        dsimp only
        rw [if_pos (by omega), cN]
      | succ c ih =>
        intro n s a hs ha hn
        obtain ⟨m, rfl⟩ : ∃ m, n = m + 1 := ⟨n - 1, by omega⟩
        rw [g_X9_senses_L8, p9_strings e3 okB, Option.bind_some]
        dsimp only
        rw [if_neg (by omega), in1 s (by omega), cN]
        unfold g_X9_senses_J53 g_X9_senses_J63
        rw [w32s (by omega), w32s (by omega), Int.add_zero, w32i (x := (a : Int)) (by omega) (by omega)]
        by_cases e : fnd (osP (sB S) s) s 0 = -1
        · rw [if_pos e, if_neg one0, if_pos (show fsS (sB S) s = true from decide_eq_true e)]; exact ih m (s + 1) (a + 1) (by omega) (by omega) (by omega)
        · rw [if_neg e, if_pos rfl, if_neg (show ¬ fsS (sB S) s = true from fun q => e (of_decide_eq_true q))]; exact ih m (s + 1) a (by omega) (by omega) (by omega)
    unfold g_X9_senses
    rw [e1, Option.bind_some]
    exact key (bn (sB S)) ab_FU 0 0 (by omega) (by omega) (by show _ < 100000; omega)
