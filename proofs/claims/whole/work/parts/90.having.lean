/-! in which strings words are -/
def hwP (b : BV) (s : Nat) (w r : Int) : Nat → Bool := fun j => decide ((tw b s j : Int) = w ∧ (r = -1 ∨ btm b 0 s j = r))
def hw (b : BV) (s : Nat) (w r : Int) (k : Nat) : Int := if fnd (hwP b s w r) k 0 = -1 then 0 else 1
theorem hw_01 (b : BV) (s : Nat) (w r : Int) (k : Nat) : hw b s w r k = 0 ∨ hw b s w r k = 1 := by unfold hw; split <;> simp
theorem hw_1 {b : BV} {s : Nat} {w r : Int} {k : Nat} : hw b s w r k ≠ 0 ↔ ∃ j, j < k ∧ (tw b s j : Int) = w ∧ (r = -1 ∨ btm b 0 s j = r) := by
  unfold hw
  constructor
  · intro h
    have h1 : fnd (hwP b s w r) k 0 ≠ -1 := fun q => h (if_pos q)
    obtain ⟨j, _, _, h2, h3, _⟩ := fnd_yes _ _ h1
    exact ⟨j, by omega, of_decide_eq_true h3⟩
  · rintro ⟨j, hj, hp⟩ h
    have h1 : fnd (hwP b s w r) k 0 = -1 := by
      by_cases e : fnd (hwP b s w r) k 0 = -1
      · exact e
      · rw [if_neg e] at h; omega
    have := fnd_no _ _ h1 j (by omega) (by omega)
    exact absurd hp (of_decide_eq_false this)
theorem p5_hasTwo {σ : st_S} {b : BV} (ok : OkB b) (hT : T8 σ b) {s k : Nat} (hs : s < bn b) (hk : k ≤ bsz b s) {r : Int} (hr : r ≠ -1) (w : Int) : g_X5_hasTwo (s : Int) (k : Int) r w σ = some (hw b s w r k, σ) := by
  have o1 := ok.1
  have o2 := ok.2.1 s hs
  have key : ∀ (c n i : Nat), i + c = k → c < n → g_X5_hasTwo_L6 n (s : Int) (k : Int) r w ((6 * s + i : Nat) : Int) σ = some (if fnd (hwP b s w r) c i = -1 then 0 else 1, σ) := by
    intro c
    induction c with
    | zero =>
      intro n i hi hn
      obtain ⟨m, rfl⟩ : ∃ m, n = m + 1 := ⟨n - 1, by omega⟩
      rw [g_X5_hasTwo_L6, w6 (by omega) (by omega), if_pos (by omega), fnd, if_pos rfl]
    | succ c ih =>
      intro n i hi hn
      obtain ⟨m, rfl⟩ : ∃ m, n = m + 1 := ⟨n - 1, by omega⟩
      have t8 := (hT.2 s hs).2 i (by omega)
      rw [g_X5_hasTwo_L6, w6 (by omega) (by omega), if_neg (by omega), sa_ld_of (by omega) (by omega), Option.bind_some, Int.toNat_natCast, t8.1, fnd]
      unfold g_X5_hasTwo_J42
      by_cases e1 : btm b 0 s i = r
      · rw [if_pos e1, sa_ld_of (by omega) (by omega), Option.bind_some, Int.toNat_natCast, t8.2.1]
        by_cases e2 : (tw b s i : Int) = w
        · rw [if_pos e2, if_pos (show hwP b s w r i = true from decide_eq_true ⟨e2, Or.inr e1⟩), if_neg (by omega)]
        · rw [if_neg e2, if_neg (show ¬ hwP b s w r i = true from fun q => e2 (of_decide_eq_true q).1), w32s (by omega)]
          exact ih m (i + 1) (by omega) (by omega)
      · rw [if_neg e1, if_neg (show ¬ hwP b s w r i = true from fun q => (of_decide_eq_true q).2.elim hr e1), w32s (by omega)]
        exact ih m (i + 1) (by omega) (by omega)
  unfold g_X5_hasTwo
  rw [w6' (by omega)]
  exact key k ab_FU 0 (by omega) (by show _ < 100000; omega)
theorem p9_hasWord {σ : st_S} {b : BV} (ok : OkB b) (hB : RB9 σ 597 0 b) (hW : Wd9 σ b) {s : Nat} (hs : s < bn b) (r w : Int) : g_X9_hasWord (s : Int) w r σ = some (hw b s w r (bsz b s), σ) := by
  have o1 := ok.1
  have o2 := ok.2.1 s hs
  have key : ∀ (c n i : Nat), i + c = bsz b s → c < n → g_X9_hasWord_L3 n (s : Int) w r (i : Int) σ = some (if fnd (hwP b s w r) c i = -1 then 0 else 1, σ) := by
    intro c
    induction c with
    | zero =>
      intro n i hi hn
      obtain ⟨m, rfl⟩ : ∃ m, n = m + 1 := ⟨n - 1, by omega⟩
      rw [g_X9_hasWord_L3, p9_terms hB ok hs, Option.bind_some]
      dsimp only
      rw [if_pos (by omega), fnd, if_pos rfl]
    | succ c ih =>
      intro n i hi hn
      obtain ⟨m, rfl⟩ : ∃ m, n = m + 1 := ⟨n - 1, by omega⟩
      rw [g_X9_hasWord_L3, p9_terms hB ok hs, Option.bind_some]
      dsimp only
      rw [if_neg (by omega), p9_place (by omega) (by omega), Option.bind_some]
      dsimp only
      rw [sa_ld_of (by omega) (by omega), Option.bind_some, Int.toNat_natCast, hW.2 s hs i (by omega), fnd]
      unfold g_X9_hasWord_J46
      by_cases e2 : (tw b s i : Int) = w
      · rw [if_pos e2]
        by_cases e3 : r = -1
        · rw [if_pos e3, if_pos (show hwP b s w r i = true from decide_eq_true ⟨e2, Or.inl e3⟩), if_neg (by omega)]
        · rw [if_neg e3, p9_roleOf hB ok hs (by omega), Option.bind_some]
          dsimp only
          by_cases e1 : btm b 0 s i = r
          · rw [if_pos e1, if_pos (show hwP b s w r i = true from decide_eq_true ⟨e2, Or.inr e1⟩), if_neg (by omega)]
          · rw [if_neg e1, if_neg (show ¬ hwP b s w r i = true from fun q => (of_decide_eq_true q).2.elim e3 e1), w32s (by omega)]
            exact ih m (i + 1) (by omega) (by omega)
      · rw [if_neg e2, if_neg (show ¬ hwP b s w r i = true from fun q => e2 (of_decide_eq_true q).1), w32s (by omega)]
        exact ih m (i + 1) (by omega) (by omega)
  exact key (bsz b s) ab_FU 0 (by omega) (by show _ < 100000; omega)
def bset (p : Nat → Bool) : Nat → Nat → Nat → Nat
  | 0, _, a => a
  | c + 1, i, a => bset p c (i + 1) (if p i = true then a ||| 2 ^ i else a)
theorem bset_lt (p : Nat → Bool) : ∀ (c i a : Nat), i + c ≤ 12 → a < 4096 → bset p c i a < 4096 := by
  intro c
  induction c with
  | zero => intro i a _ h; exact h
  | succ c ih =>
    intro i a hi h
    rw [bset]
    refine ih _ _ (by omega) ?_
    split
    · exact or12 h (p2lt (by omega))
    · exact h
theorem bset_bit (p : Nat → Bool) (u : Nat) : ∀ (c i a : Nat), (bset p c i a).testBit u = true ↔ a.testBit u = true ∨ (i ≤ u ∧ u < i + c ∧ p u = true) := by
  intro c
  induction c with
  | zero => intro i a; rw [bset]; constructor; exact Or.inl; rintro (h | h); exact h; omega
  | succ c ih =>
    intro i a
    rw [bset, ih]
    by_cases e : p i = true
    · rw [if_pos e, Nat.testBit_or, Bool.or_eq_true, Nat.testBit_two_pow, decide_eq_true_iff]
      constructor
      · rintro ((h | h) | h)
        · exact Or.inl h
        · subst h; exact Or.inr ⟨by omega, by omega, e⟩
        · exact Or.inr ⟨by omega, by omega, h.2.2⟩
      · rintro (h | h)
        · exact Or.inl (Or.inl h)
        · by_cases z : u = i
          · exact Or.inl (Or.inr z.symm)
          · exact Or.inr ⟨by omega, by omega, h.2.2⟩
    · rw [if_neg e]
      constructor
      · rintro (h | h)
        · exact Or.inl h
        · exact Or.inr ⟨by omega, by omega, h.2.2⟩
      · rintro (h | h)
        · exact Or.inl h
        · by_cases z : u = i
          · subst z; exact absurd h.2.2 e
          · exact Or.inr ⟨by omega, by omega, h.2.2⟩
def hvP (b : BV) (w r : Int) : Nat → Bool := fun s => decide (hw b s w r (bsz b s) ≠ 0)
def hv (b : BV) (w r : Int) : Nat := bset (hvP b w r) (bn b) 0 0
theorem hv_lt {b : BV} (ok : OkB b) (w r : Int) : hv b w r < 4096 := bset_lt _ _ _ _ (by have := ok.1; omega) (by decide)
theorem hv_bit {b : BV} {w r : Int} {u : Nat} : (hv b w r).testBit u = true ↔ u < bn b ∧ ∃ j, j < bsz b u ∧ (tw b u j : Int) = w ∧ (r = -1 ∨ btm b 0 u j = r) := by
  unfold hv
  rw [bset_bit, Nat.zero_testBit]
  constructor
  · rintro (h | ⟨_, h2, h3⟩)
    · cases h
    · exact ⟨by omega, hw_1.mp (of_decide_eq_true h3)⟩
  · rintro ⟨h1, h2⟩
    exact Or.inr ⟨by omega, by omega, decide_eq_true (hw_1.mpr h2)⟩
theorem Wd8.m {σ : st_S} {b : BV} (ok : OkB b) (h : Wd8 σ b) {j : Nat} (hj : j < (wl b).1) : σ 148 j = (wl b).2 j ∧ σ 149 j = (hv b (j : Int) (-1) : Int) := by
  obtain ⟨M, hM, h2⟩ := h
  refine ⟨(hM.2 j hj).1, ?_⟩
  rw [(hM.2 j hj).2]
  congr 1
  apply Nat.eq_of_testBit_eq
  intro u
  have e : (M j).testBit u = true ↔ (hv b (j : Int) (-1)).testBit u = true := by
    rw [(h2 j hj).2 u, hv_bit]
    unfold hasW
    constructor
    · rintro ⟨a, v, hv', e⟩; exact ⟨a, v, hv', by omega, Or.inl rfl⟩
    · rintro ⟨a, v, hv', e, _⟩; exact ⟨a, v, hv', by omega⟩
  cases h1 : (M j).testBit u <;> cases h3 : (hv b (j : Int) (-1)).testBit u
  · rfl
  · rw [h1, h3] at e; have := e.mpr rfl; cases this
  · rw [h1, h3] at e; have := e.mp rfl; cases this
  · rfl
theorem p5_stringsWith {σ : st_S} {b : BV} (ok : OkB b) (hT : T8 σ b) {r : Int} (hr : r ≠ -1) (w : Int) : g_X5_stringsWith r w σ = some ((hv b w r : Int), σ) := by
  have o1 := ok.1
  have key : ∀ (c n i a : Nat), i + c = bn b → a < 4096 → c < n → g_X5_stringsWith_L5 n r w (a : Int) (i : Int) σ = some ((bset (hvP b w r) c i a : Int), σ) := by
    intro c
    induction c with
    | zero =>
      intro n i a hi ha hn
      obtain ⟨m, rfl⟩ : ∃ m, n = m + 1 := ⟨n - 1, by omega⟩
      rw [g_X5_stringsWith_L5, hT.1, if_pos (by omega), bset]
    | succ c ih =>
      intro n i a hi ha hn
      obtain ⟨m, rfl⟩ : ∃ m, n = m + 1 := ⟨n - 1, by omega⟩
      have p2 := p2lt (show i < 12 by omega)
      rw [g_X5_stringsWith_L5, hT.1, if_neg (by omega), sa_ld_of (by omega) (by omega), Option.bind_some, Int.toNat_natCast, (hT.2 i (by omega)).1, p5_hasTwo ok hT (by omega) (Nat.le_refl _) hr, Option.bind_some, bset]
      unfold g_X5_stringsWith_J39
      dsimp only
      by_cases e : hw b i w r (bsz b i) = 0
      · rw [if_pos e, if_neg (show ¬ hvP b w r i = true from fun q => (of_decide_eq_true q) e), w32s (by omega)]
        exact ih m (i + 1) a (by omega) ha (by omega)
      · rw [if_neg e, if_pos (show hvP b w r i = true from decide_eq_true e), w32s (by omega), shl1 (by omega), or_nat (by omega) (by omega)]
        exact ih m (i + 1) _ (by omega) (or12 ha p2) (by omega)
  exact key (bn b) ab_FU 0 0 (by omega) (by decide) (by show _ < 100000; omega)
theorem or0 {a : Nat} (h : a < 4096) : ab_or (a : Int) 0 = (a : Int) := by
  have := or_nat (m := a) (n := 0) (by omega) (by omega)
  rw [Nat.or_zero] at this; exact this
theorem p9_having0 {σ : st_S} {b : BV} (ok : OkB b) (hB : RB9 σ 597 0 b) (hW : Wd9 σ b) (w r : Int) : g_X9_having0 w r σ = some ((hv b w r : Int), σ) := by
  have o1 := ok.1
  have key : ∀ (c n i a : Nat), i + c = bn b → a < 4096 → c < n → g_X9_having0_L5 n w r (a : Int) (i : Int) σ = some ((bset (hvP b w r) c i a : Int), σ) := by
    intro c
    induction c with
    | zero =>
      intro n i a hi ha hn
      obtain ⟨m, rfl⟩ : ∃ m, n = m + 1 := ⟨n - 1, by omega⟩
      rw [g_X9_having0_L5, p9_strings hB ok, Option.bind_some]
      dsimp only
      rw [if_pos (by omega), bset]
    | succ c ih =>
      intro n i a hi ha hn
      obtain ⟨m, rfl⟩ : ∃ m, n = m + 1 := ⟨n - 1, by omega⟩
      have p2 := p2lt (show i < 12 by omega)
      rw [g_X9_having0_L5, p9_strings hB ok, Option.bind_some]
      dsimp only
      rw [if_neg (by omega), p9_hasWord ok hB hW (by omega), Option.bind_some, bset]
      unfold g_X9_having0_J34
      dsimp only
      by_cases e : hw b i w r (bsz b i) = 0
      · rw [if_pos e, if_neg (show ¬ hvP b w r i = true from fun q => (of_decide_eq_true q) e), w32s (by omega), or0 ha]
        exact ih m (i + 1) a (by omega) ha (by omega)
      · rw [if_neg e, if_pos (show hvP b w r i = true from decide_eq_true e), w32s (by omega), shl1 (by omega), or_nat (by omega) (by omega)]
        exact ih m (i + 1) _ (by omega) (or12 ha p2) (by omega)
  exact key (bn b) ab_FU 0 0 (by omega) (by decide) (by show _ < 100000; omega)
/-- in how many -/
def oft (b : BV) (w : Int) : Nat := pc (hv b w (-1))
theorem oft_le (b : BV) (w : Int) : oft b w ≤ 12 := pc_le _
theorem p7_stringCount {σ : st_S} {b : BV} (ok : OkB b) (h : Wd8 σ b) {j : Nat} (hj : j < (wl b).1) : g_X7_stringCount (j : Int) σ = some ((oft b (j : Int) : Int), σ) := by
  have wle := wl_le ok
  unfold g_X7_stringCount
  rw [sa_ld_of (by omega) (by omega), Option.bind_some, Int.toNat_natCast, (h.m ok hj).2, jBitCount (hv_lt ok _ _)]; rfl
theorem p9_oftenOf {σ : st_S} {b : BV} (ok : OkB b) (hB : RB9 σ 597 0 b) (hW : Wd9 σ b) (w : Int) : g_X9_oftenOf w σ = some ((oft b w : Int), σ) := by
  unfold g_X9_oftenOf
  rw [p9_having0 ok hB hW, Option.bind_some]
  dsimp only
  rw [p9_bits (hv_lt ok _ _)]; rfl
theorem p9_isIn {σ : st_S} {b : BV} (ok : OkB b) (hB : RB9 σ 597 0 b) (hW : Wd9 σ b) (w r : Int) : g_X9_isIn w r σ = some (if hv b w r = 0 then 0 else 1, σ) := by
  unfold g_X9_isIn
  rw [p9_having0 ok hB hW, Option.bind_some]
  dsimp only
  by_cases e : hv b w r = 0
  · rw [if_pos (by omega), if_pos e]
  · rw [if_neg (by omega), if_neg e]
/-- a question about a word: what both do first -/
theorem w9 {S : SV} {τ : st_S} (ok : OkS S) (h9 : Rep9 τ S) (x : Int) : ∃ τ1, g_X9_isWordNow x τ = some (if 0 ≤ x ∧ x < ((wl (sB S)).1 : Int) then 1 else 0, τ1) ∧ Wd9 τ1 (sB S) ∧ RB9 τ1 597 0 (sB S) ∧ L9 τ τ1 := by
  obtain ⟨τ1, q1, q2, q3⟩ := p9_isWordNow ok.2.2.2.2.1 h9.2.2.2.1 x
  exact ⟨τ1, q1, q2, h9.2.2.2.1.fr (q3.1 597 (by omega)), q3.l9⟩
theorem l9w {S : SV} {τ : st_S} (ok : OkS S) (h9 : Rep9 τ S) : ∃ τ1, g_X9_laysWords τ = some τ1 ∧ Wd9 τ1 (sB S) ∧ RB9 τ1 597 0 (sB S) ∧ L9 τ τ1 := by
  obtain ⟨τ1, q1, q2, q3⟩ := p9_words ok.2.2.2.2.1 h9.2.2.2.1
  exact ⟨τ1, q1, q2, h9.2.2.2.1.fr (q3.1 597 (by omega)), q3.l9⟩
theorem S_often : Stp1 (InvD DR) g_X8_often g_X9_often := by
  intro x σ _ ⟨S, r8, r9, ok⟩
  have okB := ok.2.2.2.2.1
  by_cases hx : 0 ≤ x ∧ x < ((wl (sB S)).1 : Int)
  · obtain ⟨j, rfl⟩ := Int.eq_ofNat_of_zero_le hx.1
    refine qry (r := (oft (sB S) (j : Int) : Int)) ok (fun τ h8 => ?_) (fun τ h9 => ?_) r8 r9
    · unfold g_X8_often
      rw [p8_isWord h8.2.2.2.2.2.2.1, if_pos hx, Option.bind_some]
      dsimp only
      rw [if_neg one0, p7_stringCount okB h8.2.2.2.2.2.2.1 (by omega)]; rfl
    · obtain ⟨τ1, e1, e2, e3, e4⟩ := w9 ok h9 (j : Int)
      refine ⟨τ1, ?_, e4⟩
      unfold g_X9_often
      rw [e1, if_pos hx, Option.bind_some]
      dsimp only
      rw [if_neg one0, p9_oftenOf okB e3 e2]; rfl
  · refine qry (r := -2) ok (fun τ h8 => ?_) (fun τ h9 => ?_) r8 r9
    · unfold g_X8_often
      rw [p8_isWord h8.2.2.2.2.2.2.1, if_neg hx]; rfl
    · obtain ⟨τ1, e1, e2, e3, e4⟩ := w9 ok h9 x
      refine ⟨τ1, ?_, e4⟩
      unfold g_X9_often
      rw [e1, if_neg hx]; rfl
theorem S_having : Stp2 (InvD DR) g_X8_having g_X9_having := by
  intro x y σ _ _ ⟨S, r8, r9, ok⟩
  have okB := ok.2.2.2.2.1
  have wle := wl_le okB
  by_cases hx : 0 ≤ x ∧ x < ((wl (sB S)).1 : Int)
  · obtain ⟨j, rfl⟩ := Int.eq_ofNat_of_zero_le hx.1
    by_cases hy : -1 ≤ y ∧ y ≤ 5
    · refine qry (r := (hv (sB S) (j : Int) y : Int)) ok (fun τ h8 => ?_) (fun τ h9 => ?_) r8 r9
      · unfold g_X8_having g_X8_having_J23
        rw [p8_isWord h8.2.2.2.2.2.2.1, if_pos hx, Option.bind_some]
        dsimp only
        rw [if_neg one0]
        by_cases hr : y = -1
        · rw [if_pos hr, if_pos hr, sa_ld_of (by omega) (by omega), Option.bind_some, Int.toNat_natCast, (h8.2.2.2.2.2.2.1.m okB (by omega)).2, hr]
        · rw [if_neg hr, p8_isRole, if_pos (by omega), Option.bind_some]
          dsimp only
          rw [if_neg one0, if_neg hr, p5_stringsWith okB h8.2.2.2.2.2.2.2.1 hr]; rfl
      · obtain ⟨τ1, e1, e2, e3, e4⟩ := w9 ok h9 (j : Int)
        refine ⟨τ1, ?_, e4⟩
        unfold g_X9_having
        rw [e1, if_pos hx, Option.bind_some]
        dsimp only
        rw [if_neg one0, p9_in1 hy.1 hy.2, Option.bind_some]
        dsimp only
        rw [if_neg one0, p9_having0 okB e3 e2]; rfl
    · refine qry (r := -2) ok (fun τ h8 => ?_) (fun τ h9 => ?_) r8 r9
      · unfold g_X8_having
        rw [p8_isWord h8.2.2.2.2.2.2.1, if_pos hx, Option.bind_some]
        dsimp only
        rw [if_neg one0, if_neg (by omega), p8_isRole, if_neg (by omega)]; rfl
      · obtain ⟨τ1, e1, e2, e3, e4⟩ := w9 ok h9 (j : Int)
        refine ⟨τ1, ?_, e4⟩
        unfold g_X9_having g_X9_having_J31
        rw [e1, if_pos hx, Option.bind_some]
        dsimp only
        rw [if_neg one0, p9_in0 hy]; rfl
  · refine qry (r := -2) ok (fun τ h8 => ?_) (fun τ h9 => ?_) r8 r9
    · unfold g_X8_having
      rw [p8_isWord h8.2.2.2.2.2.2.1, if_neg hx]; rfl
    · obtain ⟨τ1, e1, e2, e3, e4⟩ := w9 ok h9 x
      refine ⟨τ1, ?_, e4⟩
      unfold g_X9_having g_X9_having_J31
      rw [e1, if_neg hx]; rfl
/-! counted -/
def cN (p : Nat → Bool) : Nat → Nat → Nat → Nat
  | 0, _, a => a
  | c + 1, i, a => cN p c (i + 1) (if p i = true then a + 1 else a)
theorem cN_le (p : Nat → Bool) : ∀ (c i a : Nat), cN p c i a ≤ a + c := by
  intro c
  induction c with
  | zero => intro i a; exact Nat.le_refl _
  | succ c ih => intro i a; rw [cN]; have := ih (i + 1) (if p i = true then a + 1 else a); split at this <;> split <;> first | omega | contradiction
/-- the k-th that has p; how many (k NONE) -/
def kth (p : Nat → Bool) (k : Int) : Nat → Nat → Nat → Int
  | 0, _, a => if k = -1 then (a : Int) else -1
  | c + 1, i, a => if p i = true then (if (a : Int) = k then (i : Int) else kth p k c (i + 1) (a + 1)) else kth p k c (i + 1) a
theorem S_gather : Stp2 (InvD DR) g_X8_gather g_X9_gather := by
  intro x y σ _ _ ⟨S, r8, r9, ok⟩
  have okB := ok.2.2.2.2.1
  have wle := wl_le okB
  by_cases hx : 0 ≤ x ∧ x ≤ 5
  · by_cases hy : -1 ≤ y
    · refine qry (r := kth (fun w => decide (hv (sB S) (w : Int) x ≠ 0)) y (wl (sB S)).1 0 0) ok (fun τ h8 => ?_) (fun τ h9 => ?_) r8 r9
      · obtain ⟨M, hM, _⟩ := h8.2.2.2.2.2.2.1
        have hT := h8.2.2.2.2.2.2.2.1
        have key : ∀ (c n i a : Nat), i + c = (wl (sB S)).1 → a ≤ i → c < n → g_X8_gather_L20 (fun w65_2 w65_3 σx65 => if w65_2 = (-1 : Int) then some (w65_3, σx65) else some ((-1 : Int), σx65)) n x y (a : Int) (i : Int) τ = some (kth (fun w => decide (hv (sB S) (w : Int) x ≠ 0)) y c i a, τ) := by
          intro c
          induction c with
          | zero =>
            intro n i a hi ha hn
            obtain ⟨m, rfl⟩ : ∃ m, n = m + 1 := ⟨n - 1, by omega⟩
            rw [g_X8_gather_L20, hM.1, if_pos (by omega), kth]
            split <;> rfl
          | succ c ih =>
            intro n i a hi ha hn
            obtain ⟨m, rfl⟩ : ∃ m, n = m + 1 := ⟨n - 1, by omega⟩
            rw [g_X8_gather_L20, hM.1, if_neg (by omega), p5_stringsWith okB hT (by omega), Option.bind_some, kth]
            unfold g_X8_gather_J59
            dsimp only
            by_cases e : hv (sB S) (i : Int) x = 0
            · rw [if_pos (by omega), if_neg (show ¬ decide (hv (sB S) (i : Int) x ≠ 0) = true from fun q => (of_decide_eq_true q) e), w32s (by omega)]
              exact ih m (i + 1) a (by omega) (by omega) (by omega)
            · rw [if_neg (by omega), if_pos (show decide (hv (sB S) (i : Int) x ≠ 0) = true from decide_eq_true e)]
              by_cases e2 : (a : Int) = y
              · rw [if_pos e2, if_pos e2]
              · rw [if_neg e2, if_neg e2, w32s (by omega), w32s (by omega)]
                exact ih m (i + 1) (a + 1) (by omega) (by omega) (by omega)
        unfold g_X8_gather
        rw [p8_isRole, if_pos hx, Option.bind_some]
        dsimp only
        rw [if_neg one0, if_pos hy]
        exact key (wl (sB S)).1 ab_FU 0 0 (by omega) (by omega) (by show _ < 100000; omega)
      · obtain ⟨τ1, e1, e2, e3, e4⟩ := l9w ok h9
        refine ⟨τ1, ?_, e4⟩
        have key : ∀ (c n i a : Nat), i + c = (wl (sB S)).1 → a ≤ i → c < n → g_X9_gather_L29 (fun w68_2 w68_3 σx68 => if w68_2 = (-1 : Int) then some (w68_3, σx68) else some ((-1 : Int), σx68)) n x y (a : Int) (i : Int) τ1 = some (kth (fun w => decide (hv (sB S) (w : Int) x ≠ 0)) y c i a, τ1) := by
          intro c
          induction c with
          | zero =>
            intro n i a hi ha hn
            obtain ⟨m, rfl⟩ : ∃ m, n = m + 1 := ⟨n - 1, by omega⟩
            rw [g_X9_gather_L29, e2.1.1, if_pos (by omega), kth]
            split <;> rfl
          | succ c ih =>
            intro n i a hi ha hn
            obtain ⟨m, rfl⟩ : ∃ m, n = m + 1 := ⟨n - 1, by omega⟩
            rw [g_X9_gather_L29, e2.1.1, if_neg (by omega), p9_isIn okB e3 e2, Option.bind_some, kth]
            unfold g_X9_gather_J62
            dsimp only
            by_cases e : hv (sB S) (i : Int) x = 0
            · rw [if_pos e, if_pos rfl, if_neg (show ¬ decide (hv (sB S) (i : Int) x ≠ 0) = true from fun q => (of_decide_eq_true q) e), w32s (by omega)]
              exact ih m (i + 1) a (by omega) (by omega) (by omega)
            · rw [if_neg e, if_neg one0, if_pos (show decide (hv (sB S) (i : Int) x ≠ 0) = true from decide_eq_true e)]
              by_cases e2 : (a : Int) = y
              · rw [if_pos e2, if_pos e2]
              · rw [if_neg e2, if_neg e2, w32s (by omega), w32s (by omega)]
                exact ih m (i + 1) (a + 1) (by omega) (by omega) (by omega)
        unfold g_X9_gather
        rw [p9_in1 hx.1 hx.2, Option.bind_some]
        dsimp only
        rw [if_neg one0, if_pos hy, e1, Option.bind_some]
        exact key (wl (sB S)).1 ab_FU 0 0 (by omega) (by omega) (by show _ < 100000; omega)
    · refine qry (r := -2) ok (fun τ h8 => ?_) (fun τ h9 => ⟨τ, ?_, L9.rfl'⟩) r8 r9
      · unfold g_X8_gather
        rw [p8_isRole, if_pos hx, Option.bind_some]
        dsimp only
        rw [if_neg one0, if_neg hy]
      · unfold g_X9_gather
        rw [p9_in1 hx.1 hx.2, Option.bind_some]
        dsimp only
        rw [if_neg one0, if_neg hy]
  · refine qry (r := -2) ok (fun τ h8 => ?_) (fun τ h9 => ⟨τ, ?_, L9.rfl'⟩) r8 r9
    · unfold g_X8_gather
      rw [p8_isRole, if_neg hx]; rfl
    · unfold g_X9_gather
      rw [p9_in0 hx]; rfl
theorem S_shared : Stp1 (InvD DR) g_X8_shared g_X9_shared := by
  intro x σ _ ⟨S, r8, r9, ok⟩
  have okB := ok.2.2.2.2.1
  have wle := wl_le okB
  by_cases hx : 0 ≤ x ∧ x ≤ 5
  · refine qry (r := (cN (fun w => decide (2 ≤ oft (sB S) (w : Int) ∧ hv (sB S) (w : Int) x ≠ 0)) (wl (sB S)).1 0 0 : Int)) ok (fun τ h8 => ?_) (fun τ h9 => ?_) r8 r9
    · have hW := h8.2.2.2.2.2.2.1
      obtain ⟨M, hM, _⟩ := h8.2.2.2.2.2.2.1
      have hT := h8.2.2.2.2.2.2.2.1
      have key : ∀ (c n i a : Nat), i + c = (wl (sB S)).1 → a ≤ i → c < n → g_X8_shared_L14 n x (a : Int) (i : Int) τ = some ((cN (fun w => decide (2 ≤ oft (sB S) (w : Int) ∧ hv (sB S) (w : Int) x ≠ 0)) c i a : Int), τ) := by
        intro c
        induction c with
        | zero =>
          intro n i a hi ha hn
          obtain ⟨m, rfl⟩ : ∃ m, n = m + 1 := ⟨n - 1, by omega⟩
          rw [g_X8_shared_L14, hM.1, if_pos (by omega), cN]
        | succ c ih =>
          intro n i a hi ha hn
          obtain ⟨m, rfl⟩ : ∃ m, n = m + 1 := ⟨n - 1, by omega⟩
          rw [g_X8_shared_L14, hM.1, if_neg (by omega), p7_stringCount okB hW (by omega), Option.bind_some, cN]
          unfold g_X8_shared_J52
          dsimp only
          by_cases e1 : oft (sB S) (i : Int) < 2
          · rw [if_pos (by omega), if_neg (show ¬ decide (2 ≤ oft (sB S) (i : Int) ∧ hv (sB S) (i : Int) x ≠ 0) = true from fun q => by have := (of_decide_eq_true q).1; omega), w32s (by omega)]
            exact ih m (i + 1) a (by omega) (by omega) (by omega)
          · rw [if_neg (by omega), p5_stringsWith okB hT (by omega), Option.bind_some]
            dsimp only
            by_cases e : hv (sB S) (i : Int) x = 0
            · rw [if_pos (by omega), if_neg (show ¬ decide (2 ≤ oft (sB S) (i : Int) ∧ hv (sB S) (i : Int) x ≠ 0) = true from fun q => (of_decide_eq_true q).2 e), w32s (by omega)]
              exact ih m (i + 1) a (by omega) (by omega) (by omega)
            · rw [if_neg (by omega), if_pos (show decide (2 ≤ oft (sB S) (i : Int) ∧ hv (sB S) (i : Int) x ≠ 0) = true from decide_eq_true ⟨by omega, e⟩), w32s (by omega), w32s (by omega)]
              exact ih m (i + 1) (a + 1) (by omega) (by omega) (by omega)
      unfold g_X8_shared
      rw [p8_isRole, if_pos hx, Option.bind_some]
      dsimp only
      rw [if_neg one0]
      exact key (wl (sB S)).1 ab_FU 0 0 (by omega) (by omega) (by show _ < 100000; omega)
    · obtain ⟨τ1, e1, e2, e3, e4⟩ := l9w ok h9
      refine ⟨τ1, ?_, e4⟩
      have key : ∀ (c n i a : Nat), i + c = (wl (sB S)).1 → a ≤ i → c < n → g_X9_shared_L23 n x (a : Int) (i : Int) τ1 = some ((cN (fun w => decide (2 ≤ oft (sB S) (w : Int) ∧ hv (sB S) (w : Int) x ≠ 0)) c i a : Int), τ1) := by
        intro c
        induction c with
        | zero =>
          intro n i a hi ha hn
          obtain ⟨m, rfl⟩ : ∃ m, n = m + 1 := ⟨n - 1, by omega⟩
          rw [g_X9_shared_L23, e2.1.1, if_pos (by omega), cN]
        | succ c ih =>
          intro n i a hi ha hn
          obtain ⟨m, rfl⟩ : ∃ m, n = m + 1 := ⟨n - 1, by omega⟩
          rw [g_X9_shared_L23, e2.1.1, if_neg (by omega), p9_isIn okB e3 e2, Option.bind_some, cN]
          unfold g_X9_shared_J54 g_X9_shared_J55
          dsimp only
          by_cases e : hv (sB S) (i : Int) x = 0
          · rw [if_pos e, if_pos rfl, if_neg (show ¬ decide (2 ≤ oft (sB S) (i : Int) ∧ hv (sB S) (i : Int) x ≠ 0) = true from fun q => (of_decide_eq_true q).2 e), Int.add_zero, w32i (x := (a : Int)) (by omega) (by omega), w32s (by omega)]
            exact ih m (i + 1) a (by omega) (by omega) (by omega)
          · rw [if_neg e, if_neg one0, p9_oftenOf okB e3 e2, Option.bind_some]
            dsimp only
            by_cases e1 : oft (sB S) (i : Int) < 2
            · rw [if_pos (by omega), if_neg (show ¬ decide (2 ≤ oft (sB S) (i : Int) ∧ hv (sB S) (i : Int) x ≠ 0) = true from fun q => by have := (of_decide_eq_true q).1; omega), Int.add_zero, w32i (x := (a : Int)) (by omega) (by omega), w32s (by omega)]
              exact ih m (i + 1) a (by omega) (by omega) (by omega)
            · rw [if_neg (by omega), if_pos (show decide (2 ≤ oft (sB S) (i : Int) ∧ hv (sB S) (i : Int) x ≠ 0) = true from decide_eq_true ⟨by omega, e⟩), w32s (by omega), w32s (by omega)]
              exact ih m (i + 1) (a + 1) (by omega) (by omega) (by omega)
      unfold g_X9_shared
      rw [p9_in1 hx.1 hx.2, Option.bind_some]
      dsimp only
      rw [if_neg one0, e1, Option.bind_some]
      exact key (wl (sB S)).1 ab_FU 0 0 (by omega) (by omega) (by show _ < 100000; omega)
  · refine qry (r := -2) ok (fun τ h8 => ?_) (fun τ h9 => ⟨τ, ?_, L9.rfl'⟩) r8 r9
    · unfold g_X8_shared
      rw [p8_isRole, if_neg hx]; rfl
    · unfold g_X9_shared
      rw [p9_in0 hx]; rfl
