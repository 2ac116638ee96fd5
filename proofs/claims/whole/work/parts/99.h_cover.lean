/-! the smallest set of strings that has every word -/
theorem nz_bit {x : Nat} : x ≠ 0 ↔ ∃ u, x.testBit u = true := by
  constructor
  · intro h
    by_cases e : ∃ u, x.testBit u = true
    · exact e
    · exact absurd (Nat.eq_of_testBit_eq (fun i => by rw [Nat.zero_testBit]; exact Bool.eq_false_iff.mpr (fun q => e ⟨i, q⟩))) h
  · intro ⟨u, hu⟩ e
    rw [e, Nat.zero_testBit] at hu; cases hu
theorem wd_in {b : BV} (ok : OkB b) {j : Nat} (hj : j < (wl b).1) : ∃ u v, u < bn b ∧ v < bsz b u ∧ tw b u v = j := by
  obtain ⟨u, v, h1, h2, h3⟩ := (wl_ok ok).2.2.2 j hj
  have hu : u < bn b := by unfold bef at h1; omega
  have s := tw_spec ok hu h2
  exact ⟨u, v, hu, h2, (wl_ok ok).2.2.1 _ _ s.2.1 hj (by rw [s.2.2, h3])⟩
/-- a word is in a string of the set -/
def inS (b : BV) (m j k : Nat) : Prop := ∃ u, u < k ∧ m.testBit u = true ∧ ∃ i, i < bsz b u ∧ tw b u i = j
theorem hv_inS {b : BV} {m j : Nat} : hv b (j : Int) (-1) &&& m ≠ 0 ↔ inS b m j (bn b) := by
  rw [nz_bit]
  constructor
  · intro ⟨u, hu⟩
    rw [Nat.testBit_and, Bool.and_eq_true, hv_bit] at hu
    obtain ⟨⟨h1, i, h2, h3, _⟩, h4⟩ := hu
    exact ⟨u, h1, h4, i, h2, by omega⟩
  · intro ⟨u, h1, h4, i, h2, h3⟩
    refine ⟨u, ?_⟩
    rw [Nat.testBit_and, Bool.and_eq_true, hv_bit]
    exact ⟨⟨h1, i, h2, by omega, Or.inl rfl⟩, h4⟩
def cov (b : BV) (m : Nat) : Bool := decide (∀ j, j < (wl b).1 → hv b (j : Int) (-1) &&& m ≠ 0)
theorem cov_iff {b : BV} {m : Nat} : cov b m = true ↔ ∀ j, j < (wl b).1 → inS b m j (bn b) := by
  unfold cov
  rw [decide_eq_true_iff]
  exact ⟨fun h j hj => hv_inS.mp (h j hj), fun h j hj => hv_inS.mpr (h j hj)⟩
theorem cov_full {b : BV} (ok : OkB b) : cov b (2 ^ bn b - 1) = true := by
  rw [cov_iff]
  intro j hj
  obtain ⟨u, v, h1, h2, h3⟩ := wd_in ok hj
  exact ⟨u, h1, by rw [Nat.testBit_two_pow_sub_one]; exact decide_eq_true h1, v, h2, h3⟩
theorem cov_0 {b : BV} (h : 0 < (wl b).1) : ¬ cov b 0 = true := by
  rw [cov_iff]
  intro q
  obtain ⟨u, _, h2, _⟩ := q 0 h
  rw [Nat.zero_testBit] at h2; cases h2
theorem pc_full {n m : Nat} (hn : n ≤ 12) (hm : m < 2 ^ n) (h : pc (2 ^ n - 1) ≤ pc m) : m = 2 ^ n - 1 := by
  have key : ∀ a, a < 64 → ∀ b, b < 64 → ∀ n, n < 13 → 64 * a + b < 2 ^ n → pc (2 ^ n - 1) ≤ pc (64 * a + b) → 64 * a + b = 2 ^ n - 1 := by decide +kernel
  have p := (p2le hn).2.1
  have := key (m / 64) (by omega) (m % 64) (by omega) n (by omega)
  rw [Nat.div_add_mod] at this
  exact this hm h
def cvC (b : BV) : Nat → Nat → Nat → Nat
  | 0, _, v => v
  | c + 1, m, v => if pc v ≤ pc m then cvC b c (m + 1) v else if cov b m = true then cvC b c (m + 1) m else cvC b c (m + 1) v
def cvR (b : BV) : Nat → Nat → Int → Int
  | 0, _, v => v
  | c + 1, m, v => if v = -1 ∨ pc m < pc v.toNat then (if cov b m = true then cvR b c (m + 1) (m : Int) else cvR b c (m + 1) v) else cvR b c (m + 1) v
theorem cv_same {b : BV} : ∀ (c m v : Nat), cvR b c m (v : Int) = (cvC b c m v : Int) := by
  intro c
  induction c with
  | zero => intro m v; rfl
  | succ c ih =>
    intro m v
    rw [cvR, cvC, Int.toNat_natCast]
    by_cases e : pc v ≤ pc m
    · rw [if_pos e, if_neg (by omega), ih]
    · rw [if_neg e, if_pos (by omega)]
      split <;> exact ih _ _
theorem cv_start {b : BV} (ok : OkB b) : ∀ (c m : Nat), m + (c + 1) = 2 ^ bn b → cvR b (c + 1) m (-1) = (cvC b (c + 1) m (2 ^ bn b - 1) : Int) := by
  intro c
  induction c with
  | zero =>
    intro m hm
    have e : m = 2 ^ bn b - 1 := by omega
    rw [e, cvR, if_pos (Or.inl rfl), if_pos (cov_full ok), cvC, if_pos (Nat.le_refl _)]; rfl
  | succ c ih =>
    intro m hm
    have o1 := ok.1
    rw [cvR, if_pos (Or.inl rfl), cvC]
    by_cases h : cov b m = true
    · rw [if_pos h, if_pos h]
      by_cases e : pc (2 ^ bn b - 1) ≤ pc m
      · have := pc_full o1 (by omega) e; omega
      · rw [if_neg e]; exact cv_same _ _ _
    · rw [if_neg h, if_neg h, ih (m + 1) (by omega)]
      split <;> rfl
/-! the class -/
theorem p7_areAllIn {σ : st_S} {b : BV} (ok : OkB b) (hW : Wd8 σ b) {m : Nat} (hm : m < 4096) : g_X7_areAllIn (m : Int) σ = some (if cov b m = true then 1 else 0, σ) := by
  have wle := wl_le ok
  have key : ∀ (c n j : Nat), j + c = (wl b).1 → (∀ k, k < j → hv b (k : Int) (-1) &&& m ≠ 0) → c < n → g_X7_areAllIn_L2 n (m : Int) (j : Int) σ = some (if cov b m = true then 1 else 0, σ) := by
    intro c
    induction c with
    | zero =>
      intro n j hj h hn
      obtain ⟨M, hM, _⟩ := hW
      obtain ⟨z, rfl⟩ : ∃ z, n = z + 1 := ⟨n - 1, by omega⟩
      rw [g_X7_areAllIn_L2, hM.1, if_pos (by omega), if_pos (show cov b m = true from decide_eq_true (fun k hk => h k (by omega)))]
    | succ c ih =>
      intro n j hj h hn
      have e1 := (hW.m ok (show j < (wl b).1 by omega)).2
      have hl := hv_lt ok (j : Int) (-1)
      have W0 : σ 147 0 = ((wl b).1 : Int) := by obtain ⟨M, hM, _⟩ := hW; exact hM.1
      obtain ⟨z, rfl⟩ : ∃ z, n = z + 1 := ⟨n - 1, by omega⟩
      rw [g_X7_areAllIn_L2, W0, if_neg (by omega), sa_ld_of (by omega) (by omega), Option.bind_some, Int.toNat_natCast, e1, and_nat (by omega) (by omega)]
      by_cases e : hv b (j : Int) (-1) &&& m = 0
      · rw [e, if_pos (show ((0 : Nat) : Int) = 0 from rfl), if_neg (show ¬ cov b m = true from fun q => (of_decide_eq_true q) j (by omega) e)]
      · rw [if_neg (by omega), w32s (by omega)]
        exact ih z (j + 1) (by omega) (fun k hk => by
          by_cases z : k = j
          · rw [z]; exact e
          · exact h k (by omega)) (by omega)
  exact key (wl b).1 ab_FU 0 (by omega) (fun k hk => absurd hk (Nat.not_lt_zero _)) (by show _ < 100000; omega)
/-! the reference -/
def C9 (σ σ' : st_S) : Prop := ∀ c, c ≠ 611 → c ≠ 612 → σ' c = σ c
def LH (σ : st_S) (b : BV) (s k : Nat) : Prop := ∃ L H : Nat, σ 611 s = (L : Int) ∧ σ 612 s = (H : Int) ∧ L < 2 ^ 36 ∧ H < 2 ^ 36 ∧ (∀ w, L.testBit w = true ↔ w < 36 ∧ ∃ i, i < k ∧ tw b s i = w) ∧ ∀ w, H.testBit w = true ↔ ∃ i, i < k ∧ tw b s i = w + 36
theorem shl36 {k : Nat} (h : k < 36) : ab_lshl 1 (k : Int) = ((2 ^ k : Nat) : Int) ∧ 2 ^ k < 2 ^ 36 := by
  have key : ∀ k : Nat, k < 36 → ab_lshl 1 (k : Int) = ((2 ^ k : Nat) : Int) ∧ 2 ^ k < 2 ^ 36 := by decide +kernel
  exact key k h
theorem sub36 {k : Nat} (h : k ≤ 36) : ab_w64 (ab_lshl 1 (k : Int) - 1) = ((2 ^ k - 1 : Nat) : Int) := by
  have key : ∀ k : Nat, k ≤ 36 → ab_w64 (ab_lshl 1 (k : Int) - 1) = ((2 ^ k - 1 : Nat) : Int) := by decide +kernel
  exact key k h
theorem p9_cover_L39 {b : BV} (ok : OkB b) {s : Nat} (hs : s < bn b) : ∀ (c i : Nat) (σ : st_S), i + c = bsz b s → RB9 σ 597 0 b → Wd9 σ b → LH σ b s i →
    ∃ σ', (∀ (K : Int → st_S → Option (Int × st_S)) n, c < n → g_X9_cover_L39 K n (s : Int) (i : Int) σ = K (s : Int) σ') ∧ LH σ' b s (bsz b s) ∧ (∀ u, u ≠ s → σ' 611 u = σ 611 u ∧ σ' 612 u = σ 612 u) ∧ C9 σ σ' := by
  have o1 := ok.1
  have o2 := ok.2.1 s hs
  have wle := wl_le ok
  intro c
  induction c with
  | zero =>
    intro i σ hi hB hW h
    refine ⟨σ, fun K n hn => ?_, by rw [← show i = bsz b s by omega]; exact h, fun _ _ => ⟨rfl, rfl⟩, fun _ _ _ => rfl⟩
    obtain ⟨m, rfl⟩ : ∃ m, n = m + 1 := ⟨n - 1, by omega⟩
    rw [g_X9_cover_L39, p9_terms hB ok hs, Option.bind_some]
    dsimp only
    rw [if_pos (by omega)]
  | succ c ih =>
    intro i σ hi hB hW h
    obtain ⟨L, H, h1, h2, h3, h4, h5, h6⟩ := h
    have t := (tw_spec ok hs (show i < bsz b s by omega)).2.1
    have e6 : σ 601 (6 * s + i) = (tw b s i : Int) := hW.2 s hs i (by omega)
    by_cases e : 36 ≤ tw b s i
    · obtain ⟨z1, z2⟩ := shl36 (k := tw b s i - 36) (by omega)
      have lt : H ||| 2 ^ (tw b s i - 36) < 2 ^ 36 := Nat.or_lt_two_pow h4 z2
      have fr : C9 σ (up2 σ 612 s ((H ||| 2 ^ (tw b s i - 36) : Nat) : Int)) := fun c _ y => up2_o _ _ y
      obtain ⟨σ', q1, q2, q3, q4⟩ := ih (i + 1) (up2 σ 612 s ((H ||| 2 ^ (tw b s i - 36) : Nat) : Int)) (by omega) (hB.fr (fr _ (by decide) (by decide))) (hW.fr (by rw [fr _ (by decide) (by decide)]) (fr _ (by decide) (by decide)) (fr _ (by decide) (by decide))) ⟨L, H ||| 2 ^ (tw b s i - 36), by rw [up2_o _ _ (by decide)]; exact h1, up2_at _ _ _ _, h3, lt, fun w => by
        rw [h5 w]
        constructor
        · intro ⟨a1, j, a2, a3⟩; exact ⟨a1, j, by omega, a3⟩
        · intro ⟨a1, j, a2, a3⟩
          refine ⟨a1, j, ?_, a3⟩
          by_cases z : j = i
          · rw [z] at a3; omega
          · omega, fun w => by
        rw [Nat.testBit_or, Bool.or_eq_true, h6 w, Nat.testBit_two_pow, decide_eq_true_iff]
        constructor
        · rintro (⟨j, a2, a3⟩ | a)
          · exact ⟨j, by omega, a3⟩
          · exact ⟨i, by omega, by omega⟩
        · intro ⟨j, a2, a3⟩
          by_cases z : j = i
          · rw [z] at a3; exact Or.inr (by omega)
          · exact Or.inl ⟨j, by omega, a3⟩⟩
      refine ⟨σ', fun K n hn => ?_, q2, fun u hu => ⟨by rw [(q3 u hu).1, up2_o _ _ (by decide)], by rw [(q3 u hu).2, up2_ne _ _ (fun q => hu q.2)]⟩, fun c x y => by rw [q4 c x y, fr c x y]⟩
      obtain ⟨m, rfl⟩ : ∃ m, n = m + 1 := ⟨n - 1, by omega⟩
      rw [g_X9_cover_L39, p9_terms hB ok hs, Option.bind_some]
      dsimp only
      rw [if_neg (by omega), p9_place (by omega) (by omega), Option.bind_some]
      dsimp only
      rw [sa_ld_of (by omega) (by omega), Option.bind_some, Int.toNat_natCast, e6, if_pos (by omega), sa_ld_of (by omega) (by omega), Option.bind_some, Int.toNat_natCast, h2, w32i (by omega) (by omega), show (tw b s i : Int) - 36 = ((tw b s i - 36 : Nat) : Int) by omega, z1, lor_nat (by omega) (by omega), sa_st_of (by omega) (by omega), Option.bind_some, Int.toNat_natCast]
      unfold g_X9_cover_J95
      rw [w32s (by omega)]
      exact q1 K m (by omega)
    · obtain ⟨z1, z2⟩ := shl36 (k := tw b s i) (by omega)
      have lt : L ||| 2 ^ (tw b s i) < 2 ^ 36 := Nat.or_lt_two_pow h3 z2
      have fr : C9 σ (up2 σ 611 s ((L ||| 2 ^ (tw b s i) : Nat) : Int)) := fun c x _ => up2_o _ _ x
      obtain ⟨σ', q1, q2, q3, q4⟩ := ih (i + 1) (up2 σ 611 s ((L ||| 2 ^ (tw b s i) : Nat) : Int)) (by omega) (hB.fr (fr _ (by decide) (by decide))) (hW.fr (by rw [fr _ (by decide) (by decide)]) (fr _ (by decide) (by decide)) (fr _ (by decide) (by decide))) ⟨L ||| 2 ^ (tw b s i), H, up2_at _ _ _ _, by rw [up2_o _ _ (by decide)]; exact h2, lt, h4, fun w => by
        rw [Nat.testBit_or, Bool.or_eq_true, h5 w, Nat.testBit_two_pow, decide_eq_true_iff]
        constructor
        · rintro (⟨a1, j, a2, a3⟩ | a)
          · exact ⟨a1, j, by omega, a3⟩
          · exact ⟨by omega, i, by omega, by omega⟩
        · intro ⟨a1, j, a2, a3⟩
          by_cases z : j = i
          · rw [z] at a3; exact Or.inr (by omega)
          · exact Or.inl ⟨a1, j, by omega, a3⟩, fun w => by
        rw [h6 w]
        constructor
        · intro ⟨j, a2, a3⟩; exact ⟨j, by omega, a3⟩
        · intro ⟨j, a2, a3⟩
          refine ⟨j, ?_, a3⟩
          by_cases z : j = i
          · rw [z] at a3; omega
          · omega⟩
      refine ⟨σ', fun K n hn => ?_, q2, fun u hu => ⟨by rw [(q3 u hu).1, up2_ne _ _ (fun q => hu q.2)], by rw [(q3 u hu).2, up2_o _ _ (by decide)]⟩, fun c x y => by rw [q4 c x y, fr c x y]⟩
      obtain ⟨m, rfl⟩ : ∃ m, n = m + 1 := ⟨n - 1, by omega⟩
      rw [g_X9_cover_L39, p9_terms hB ok hs, Option.bind_some]
      dsimp only
      rw [if_neg (by omega), p9_place (by omega) (by omega), Option.bind_some]
      dsimp only
      rw [sa_ld_of (by omega) (by omega), Option.bind_some, Int.toNat_natCast, e6, if_neg (by omega), sa_ld_of (by omega) (by omega), Option.bind_some, Int.toNat_natCast, h1, z1, lor_nat (by omega) (by omega), sa_st_of (by omega) (by omega), Option.bind_some, Int.toNat_natCast]
      unfold g_X9_cover_J95
      rw [w32s (by omega)]
      exact q1 K m (by omega)
theorem p9_cover_L15 {b : BV} (ok : OkB b) (K : st_S → Option (Int × st_S)) : ∀ (c s : Nat) (σ : st_S), s + c = bn b → RB9 σ 597 0 b → Wd9 σ b → (∀ u, u < s → LH σ b u (bsz b u)) →
    ∃ σ', (∀ n, c < n → g_X9_cover_L15 K n (s : Int) σ = K σ') ∧ (∀ u, u < bn b → LH σ' b u (bsz b u)) ∧ C9 σ σ' := by
  have o1 := ok.1
  intro c
  induction c with
  | zero =>
    intro s σ hs hB hW h
    refine ⟨σ, fun n hn => ?_, fun u hu => h u (by omega), fun _ _ _ => rfl⟩
    obtain ⟨m, rfl⟩ : ∃ m, n = m + 1 := ⟨n - 1, by omega⟩
    rw [g_X9_cover_L15, p9_strings hB ok, Option.bind_some]
    dsimp only
    rw [if_pos (by omega)]
  | succ c ih =>
    intro s σ hs hB hW h
    have o2 := ok.2.1 s (by omega)
    have f0 : C9 σ (up2 (up2 σ 611 s 0) 612 s 0) := fun c x y => by rw [up2_o _ _ y, up2_o _ _ x]
    have l0 : LH (up2 (up2 σ 611 s 0) 612 s 0) b s 0 := ⟨0, 0, by rw [up2_o _ _ (by decide), up2_at]; rfl, by rw [up2_at]; rfl, by decide, by decide, fun w => by
      rw [Nat.zero_testBit]
      exact ⟨fun q => (by cases q), fun ⟨_, j, a, _⟩ => absurd a (Nat.not_lt_zero _)⟩, fun w => by
      rw [Nat.zero_testBit]
      exact ⟨fun q => (by cases q), fun ⟨j, a, _⟩ => absurd a (Nat.not_lt_zero _)⟩⟩
    obtain ⟨σ1, a1, a2, a3', a4'⟩ := p9_cover_L39 ok (show s < bn b by omega) (bsz b s) 0 (up2 (up2 σ 611 s 0) 612 s 0) (by omega) (hB.fr (f0 _ (by decide) (by decide))) (hW.fr (by rw [f0 _ (by decide) (by decide)]) (f0 _ (by decide) (by decide)) (f0 _ (by decide) (by decide))) l0
    have a4 : C9 σ σ1 := fun c x y => by rw [a4' c x y, f0 c x y]
    have a3 : ∀ u, u ≠ s → σ1 611 u = σ 611 u ∧ σ1 612 u = σ 612 u := fun u hu => ⟨by rw [(a3' u hu).1, up2_o _ _ (by decide), up2_ne _ _ (fun q => hu q.2)], by rw [(a3' u hu).2, up2_ne _ _ (fun q => hu q.2), up2_o _ _ (by decide)]⟩
    obtain ⟨σ', q1, q2, q3⟩ := ih (s + 1) σ1 (by omega) (hB.fr (a4 _ (by decide) (by decide))) (hW.fr (by rw [a4 _ (by decide) (by decide)]) (a4 _ (by decide) (by decide)) (a4 _ (by decide) (by decide))) (fun u hu => by
      by_cases z : u = s
      · rw [z]; exact a2
      · obtain ⟨L, H, y1, y2, y3⟩ := h u (by omega)
        exact ⟨L, H, by rw [(a3 u z).1]; exact y1, by rw [(a3 u z).2]; exact y2, y3⟩)
    refine ⟨σ', fun n hn => ?_, q2, fun c x y => by rw [q3 c x y, a4 c x y]⟩
    obtain ⟨m, rfl⟩ : ∃ m, n = m + 1 := ⟨n - 1, by omega⟩
    rw [g_X9_cover_L15, p9_strings hB ok, Option.bind_some]
    dsimp only
    rw [if_neg (by omega), sa_st_of (by omega) (by omega), Option.bind_some, sa_st_of (by omega) (by omega), Option.bind_some, Int.toNat_natCast]
    refine (a1 _ ab_FU (by show _ < 100000; omega)).trans ?_
    rw [w32s (by omega)]
    exact q1 m (by omega)
theorem inS_s {b : BV} {m j k : Nat} : inS b m j (k + 1) ↔ inS b m j k ∨ (m.testBit k = true ∧ ∃ i, i < bsz b k ∧ tw b k i = j) := by
  constructor
  · intro ⟨u, h1, h2, h3⟩
    by_cases z : u = k
    · rw [z] at h2 h3; exact Or.inr ⟨h2, h3⟩
    · exact Or.inl ⟨u, by omega, h2, h3⟩
  · rintro (⟨u, h1, h2, h3⟩ | ⟨h2, h3⟩)
    · exact ⟨u, by omega, h2, h3⟩
    · exact ⟨k, by omega, h2, h3⟩
theorem p9_cover_L148 {b : BV} {σ : st_S} (ok : OkB b) (hB : RB9 σ 597 0 b) (hM : ∀ u, u < bn b → LH σ b u (bsz b u)) {m : Nat} (hm : m < 4096) : ∀ (c k L H : Nat), k + c = bn b → L < 2 ^ 36 → H < 2 ^ 36 → (∀ w, L.testBit w = true ↔ w < 36 ∧ inS b m w k) → (∀ w, H.testBit w = true ↔ inS b m (w + 36) k) →
    ∃ L' H' : Nat, (∀ (K : Int → Int → Int → Int → st_S → Option (Int × st_S)) n v, c < n → g_X9_cover_L148 K n v (m : Int) (L : Int) (H : Int) (k : Int) σ = K v (m : Int) (L' : Int) (H' : Int) σ) ∧ (∀ w, L'.testBit w = true ↔ w < 36 ∧ inS b m w (bn b)) ∧ ∀ w, H'.testBit w = true ↔ inS b m (w + 36) (bn b) := by
  have o1 := ok.1
  intro c
  induction c with
  | zero =>
    intro k L H hk h1 h2 h3 h4
    have e : k = bn b := by omega
    rw [e] at h3 h4
    refine ⟨L, H, fun K n v hn => ?_, h3, h4⟩
    obtain ⟨z, rfl⟩ : ∃ z, n = z + 1 := ⟨n - 1, by omega⟩
    rw [g_X9_cover_L148, p9_strings hB ok, Option.bind_some]
    dsimp only
    rw [if_pos (by omega)]
  | succ c ih =>
    intro k L H hk h1 h2 h3 h4
    have bt := bit_nat (m := m) (i := k) (by omega) (by omega)
    by_cases e : m.testBit k = true
    · obtain ⟨A, B, y1, y2, y3, y4, y5, y6⟩ := hM k (by omega)
      obtain ⟨L', H', q1, q2, q3⟩ := ih (k + 1) (L ||| A) (H ||| B) (by omega) (Nat.or_lt_two_pow h1 y3) (Nat.or_lt_two_pow h2 y4) (fun w => by
        rw [Nat.testBit_or, Bool.or_eq_true, h3 w, y5 w, inS_s]
        constructor
        · rintro (⟨a, c⟩ | ⟨a, c⟩)
          · exact ⟨a, Or.inl c⟩
          · exact ⟨a, Or.inr ⟨e, c⟩⟩
        · rintro ⟨a, c | ⟨_, c⟩⟩
          · exact Or.inl ⟨a, c⟩
          · exact Or.inr ⟨a, c⟩) (fun w => by
        rw [Nat.testBit_or, Bool.or_eq_true, h4 w, y6 w, inS_s]
        constructor
        · rintro (c | c)
          · exact Or.inl c
          · exact Or.inr ⟨e, c⟩
        · rintro (c | ⟨_, c⟩)
          · exact Or.inl c
          · exact Or.inr c)
      refine ⟨L', H', fun K n v hn => ?_, q2, q3⟩
      obtain ⟨z, rfl⟩ : ∃ z, n = z + 1 := ⟨n - 1, by omega⟩
      rw [g_X9_cover_L148, p9_strings hB ok, Option.bind_some]
      dsimp only
      rw [if_neg (by omega), bt, if_pos e, if_neg one0, sa_ld_of (by omega) (by omega), Option.bind_some, sa_ld_of (by omega) (by omega), Option.bind_some, Int.toNat_natCast, y1, y2]
      unfold g_X9_cover_J191
      rw [lor_nat (by omega) (by omega), lor_nat (by omega) (by omega), w32s (by omega)]
      exact q1 K z v (by omega)
    · obtain ⟨L', H', q1, q2, q3⟩ := ih (k + 1) L H (by omega) h1 h2 (fun w => by
        rw [h3 w, inS_s]
        constructor
        · rintro ⟨a, c⟩; exact ⟨a, Or.inl c⟩
        · rintro ⟨a, c | ⟨c, _⟩⟩
          · exact ⟨a, c⟩
          · exact absurd c e) (fun w => by
        rw [h4 w, inS_s]
        constructor
        · exact fun c => Or.inl c
        · rintro (c | ⟨c, _⟩)
          · exact c
          · exact absurd c e)
      refine ⟨L', H', fun K n v hn => ?_, q2, q3⟩
      obtain ⟨z, rfl⟩ : ∃ z, n = z + 1 := ⟨n - 1, by omega⟩
      rw [g_X9_cover_L148, p9_strings hB ok, Option.bind_some]
      dsimp only
      rw [if_neg (by omega), bt, if_neg e, if_pos rfl]
      unfold g_X9_cover_J191
      rw [w32s (by omega)]
      exact q1 K z v (by omega)
theorem full_iff {X n : Nat} {P : Nat → Prop} (h : ∀ w, X.testBit w = true ↔ P w) (hP : ∀ w, P w → w < n) : X = 2 ^ n - 1 ↔ ∀ w, w < n → P w := by
  constructor
  · intro e w hw
    rw [← h w, e, Nat.testBit_two_pow_sub_one]; exact decide_eq_true hw
  · intro q
    refine Nat.eq_of_testBit_eq (fun w => Bool.eq_iff_iff.mpr ?_)
    rw [h w, Nat.testBit_two_pow_sub_one, decide_eq_true_iff]
    exact ⟨hP w, q w⟩
theorem p9_cover_J140 {b : BV} {σ : st_S} (ok : OkB b) (hB : RB9 σ 597 0 b) (hW : Wd9 σ b) (hM : ∀ u, u < bn b → LH σ b u (bsz b u)) {m : Nat} (hm : m < 4096) (rec : Int → Int → st_S → Option (Int × st_S)) (v : Int) :
    g_X9_cover_J140 rec v (m : Int) σ = rec (if cov b m = true then (m : Int) else v) ((m + 1 : Nat) : Int) σ := by
  have o1 := ok.1
  have wle := wl_le ok
  obtain ⟨L, H, q1, q2, q3⟩ := p9_cover_L148 ok hB hM hm (bn b) 0 0 0 (by omega) (by decide) (by decide) (fun w => by
    rw [Nat.zero_testBit]
    exact ⟨fun q => (by cases q), fun ⟨_, u, a, _⟩ => absurd a (Nat.not_lt_zero _)⟩) (fun w => by
    rw [Nat.zero_testBit]
    exact ⟨fun q => (by cases q), fun ⟨u, a, _⟩ => absurd a (Nat.not_lt_zero _)⟩)
  have inW : ∀ w, inS b m w (bn b) → w < (wl b).1 := fun w ⟨u, a, _, i, c, d⟩ => by rw [← d]; exact (tw_spec ok a c).2.1
  have f1 := full_iff (n := if (wl b).1 < 36 then (wl b).1 else 36) q2 (fun w ⟨a, c⟩ => by have := inW w c; split <;> omega)
  have f2 := full_iff (n := (wl b).1 - 36) q3 (fun w c => by have := inW _ c; omega)
  have both : cov b m = true ↔ L = 2 ^ (if (wl b).1 < 36 then (wl b).1 else 36) - 1 ∧ H = 2 ^ ((wl b).1 - 36) - 1 := by
    rw [cov_iff, f1, f2]
    constructor
    · intro h
      exact ⟨fun w hw => ⟨by split at hw <;> omega, h w (by split at hw <;> omega)⟩, fun w hw => h _ (by omega)⟩
    · intro ⟨g1, g2⟩ j hj
      by_cases z : j < 36
      · exact (g1 j (by split <;> omega)).2
      · have := g2 (j - 36) (by omega)
        rw [Nat.sub_add_cancel (by omega)] at this
        exact this
  have m1 : ab_mn 36 ((wl b).1 : Int) = ((if (wl b).1 < 36 then (wl b).1 else 36 : Nat) : Int) := by
    unfold ab_mn
    by_cases z : (wl b).1 < 36
    · rw [if_pos (by omega), if_pos z]
    · rw [if_neg (by omega), if_neg z]; rfl
  have m2 : ab_mx 0 (ab_w32 (((wl b).1 : Int) - 36)) = (((wl b).1 - 36 : Nat) : Int) := by
    rw [w32i (by omega) (by omega)]
    unfold ab_mx
    split <;> omega
  unfold g_X9_cover_J140
  refine (q1 _ ab_FU v (by show _ < 100000; omega)).trans ?_
  rw [hW.1.1, m1, m2, sub36 (by split <;> omega), sub36 (by omega)]
  unfold g_X9_cover_J238
  rw [w32s (by omega)]
  by_cases e1 : L = 2 ^ (if (wl b).1 < 36 then (wl b).1 else 36) - 1
  · rw [if_pos (cmp_eq.mpr (by rw [← e1]))]
    by_cases e2 : H = 2 ^ ((wl b).1 - 36) - 1
    · rw [if_pos (cmp_eq.mpr (by rw [← e2])), if_pos (both.mpr ⟨e1, e2⟩)]
    · rw [if_neg (show ¬ ab_cmp (H : Int) ((2 ^ ((wl b).1 - 36) - 1 : Nat) : Int) = 0 from fun q => e2 (Int.ofNat.inj (cmp_eq.mp q))), if_neg (fun q => e2 (both.mp q).2)]
  · rw [if_neg (show ¬ ab_cmp (L : Int) ((2 ^ (if (wl b).1 < 36 then (wl b).1 else 36) - 1 : Nat) : Int) = 0 from fun q => e1 (Int.ofNat.inj (cmp_eq.mp q))), if_neg (fun q => e1 (both.mp q).1)]
theorem S_cover : Stp0 (InvD DR) g_X8_cover g_X9_cover := by
  intro σ ⟨S, r8, r9, ok⟩
  have okB := ok.2.2.2.2.1
  have o1 := okB.1
  have wle := wl_le okB
  have p2 := p2le o1
  by_cases w0 : (wl (sB S)).1 = 0
  · refine qry (r := -1) ok (fun τ h8 => ?_) (fun τ h9 => ?_) r8 r9
    · obtain ⟨M, hM, _⟩ := h8.2.2.2.2.2.2.1
      unfold g_X8_cover
      rw [hM.1, w0, if_pos (show ((0 : Nat) : Int) = 0 from rfl)]
    · obtain ⟨τ1, e1, e2, e3, e4⟩ := l9w ok h9
      refine ⟨τ1, ?_, e4⟩
      unfold g_X9_cover
      rw [e1, Option.bind_some, e2.1.1, w0, if_pos (show ((0 : Nat) : Int) = 0 from rfl)]
  · refine qry (r := (cvC (sB S) (2 ^ bn (sB S) - 1) 1 (2 ^ bn (sB S) - 1) : Int)) ok (fun τ h8 => ?_) (fun τ h9 => ?_) r8 r9
    · have hW := h8.2.2.2.2.2.2.1
      have h0 : τ 13 0 = (bn (sB S) : Int) := h8.2.2.2.1.1
      have key : ∀ (c n m v : Nat), m + c = 2 ^ bn (sB S) → v < 4096 → c < n → g_X8_cover_L26 n (v : Int) (m : Int) τ = some ((cvC (sB S) c m v : Int), τ) := by
        intro c
        induction c with
        | zero =>
          intro n m v hm hv hn
          obtain ⟨z, rfl⟩ : ∃ z, n = z + 1 := ⟨n - 1, by omega⟩
          rw [g_X8_cover_L26, h0, shl1 (by omega), if_pos (by omega)]; rfl
        | succ c ih =>
          intro n m v hm hv hn
          obtain ⟨z, rfl⟩ : ∃ z, n = z + 1 := ⟨n - 1, by omega⟩
          rw [g_X8_cover_L26, h0, shl1 (by omega), if_neg (by omega), jBitCount (by omega), Option.bind_some]
          dsimp only
          rw [jBitCount hv, Option.bind_some]
          unfold g_X8_cover_J63
          dsimp only
          rw [w32s (by omega), cvC]
          by_cases e : pc v ≤ pc m
          · rw [if_pos (by omega), if_pos e]; exact ih z (m + 1) v (by omega) hv (by omega)
          · rw [if_neg (by omega), if_neg e, p7_areAllIn okB hW (by omega), Option.bind_some]
            dsimp only
            by_cases e2 : cov (sB S) m = true
            · rw [if_pos e2, if_neg one0, if_pos e2]; exact ih z (m + 1) m (by omega) (by omega) (by omega)
            · rw [if_neg e2, if_pos rfl, if_neg e2]; exact ih z (m + 1) v (by omega) hv (by omega)
      obtain ⟨M, hM, _⟩ := hW
      unfold g_X8_cover
      rw [hM.1, if_neg (by omega), h0, sub1 o1]
      exact key (2 ^ bn (sB S) - 1) ab_FU 1 (2 ^ bn (sB S) - 1) (by omega) (by omega) (by show _ < 100000; omega)
    · obtain ⟨τ1, e1, e2, e3, e4⟩ := l9w ok h9
      have main : ∀ τ2, C9 τ1 τ2 → (∀ u, u < bn (sB S) → LH τ2 (sB S) u (bsz (sB S) u)) → g_X9_cover_L111 ab_FU (-1) 0 τ2 = some ((cvC (sB S) (2 ^ bn (sB S) - 1) 1 (2 ^ bn (sB S) - 1) : Int), τ2) := by
        intro τ2 f hM
        have B2 := e3.fr (f _ (by decide) (by decide))
        have W2 := e2.fr (by rw [f _ (by decide) (by decide)]) (f _ (by decide) (by decide)) (f _ (by decide) (by decide))
        have key : ∀ (c n m : Nat) (v : Int), m + c = 2 ^ bn (sB S) → -1 ≤ v ∧ v < 4096 → c < n → g_X9_cover_L111 n v (m : Int) τ2 = some (cvR (sB S) c m v, τ2) := by
          intro c
          induction c with
          | zero =>
            intro n m v hm hv hn
            obtain ⟨z, rfl⟩ : ∃ z, n = z + 1 := ⟨n - 1, by omega⟩
            rw [g_X9_cover_L111, p9_strings B2 okB, Option.bind_some]
            dsimp only
            rw [shl1 (by omega), if_pos (by omega)]; rfl
          | succ c ih =>
            intro n m v hm hv hn
            have st : ∀ z, c < z → g_X9_cover_J140 (g_X9_cover_L111 z) v (m : Int) τ2 = some (if cov (sB S) m = true then cvR (sB S) c (m + 1) (m : Int) else cvR (sB S) c (m + 1) v, τ2) := by
              intro z hz
              rw [p9_cover_J140 okB B2 W2 hM (by omega), ih z (m + 1) _ (by omega) (by split <;> omega) hz]
              split <;> rfl
            obtain ⟨z, rfl⟩ : ∃ z, n = z + 1 := ⟨n - 1, by omega⟩
            rw [g_X9_cover_L111, p9_strings B2 okB, Option.bind_some]
            dsimp only
            rw [shl1 (by omega), if_neg (by omega), cvR]
            by_cases e : v = -1
            · rw [if_pos e, if_pos (Or.inl e)]; exact st z (by omega)
            · obtain ⟨k, rfl⟩ := Int.eq_ofNat_of_zero_le (show 0 ≤ v by omega)
              rw [if_neg e, p9_bits (by omega), Option.bind_some]
              dsimp only
              rw [p9_bits (by omega), Option.bind_some]
              dsimp only
              rw [Int.toNat_natCast]
              by_cases e2 : pc m < pc k
              · rw [if_pos (by omega), if_pos (Or.inr e2)]; exact st z (by omega)
              · rw [if_neg (by omega), if_neg (by omega)]
                unfold g_X9_cover_J238
                rw [w32s (by omega)]
                exact ih z (m + 1) _ (by omega) hv (by omega)
        refine (key (2 ^ bn (sB S)) ab_FU 0 (-1) (by omega) (by decide) (by show _ < 100000; omega)).trans ?_
        have n1 : 2 ≤ 2 ^ bn (sB S) := by
          obtain ⟨u, _, hu, _⟩ := wd_in okB (show 0 < (wl (sB S)).1 by omega)
          have : 2 ^ 1 ≤ 2 ^ bn (sB S) := Nat.pow_le_pow_right (by decide) (by omega)
          omega
        obtain ⟨d, hd⟩ : ∃ d, 2 ^ bn (sB S) = d + 2 := ⟨2 ^ bn (sB S) - 2, by omega⟩
        have c0 := cov_0 (show 0 < (wl (sB S)).1 by omega)
        have st := cv_start okB d 1 (by omega)
        rw [show 2 ^ bn (sB S) - 1 = d + 1 by omega] at st ⊢
        rw [← st, hd, cvR, if_pos (Or.inl rfl), if_neg c0]
      obtain ⟨τ2, b1, b2, b3⟩ := p9_cover_L15 okB (fun σx107 => g_X9_cover_L111 ab_FU (-1 : Int) (0 : Int) σx107) (bn (sB S)) 0 τ1 (by omega) e3 e2 (fun u hu => absurd hu (Nat.not_lt_zero _))
      refine ⟨τ2, ?_, ⟨fun a ha => by rw [b3 a (by omega) (by omega)]; exact e4.1 a ha, fun f hf => by rw [b3 596 (by decide) (by decide)]; exact e4.2 f hf⟩⟩
      unfold g_X9_cover
      rw [e1, Option.bind_some, e2.1.1, if_neg (by omega)]
      refine (b1 ab_FU (by show _ < 100000; omega)).trans ?_
      exact main τ2 b3 b2
