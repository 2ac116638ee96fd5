/-! where sees lead: the class goes see by see, the reference over all sees 13 times -/
theorem fnd_lo (p : Nat → Bool) : ∀ c i, -1 ≤ fnd p c i := by
  intro c
  induction c with
  | zero => intro i; show (-1 : Int) ≤ -1; omega
  | succ c ih =>
    intro i
    rw [fnd]; split
    · omega
    · exact ih _
theorem fnd_no {p : Nat → Bool} : ∀ c i, fnd p c i = -1 → ∀ j, i ≤ j → j < i + c → p j = false := by
  intro c
  induction c with
  | zero => intro i _ j h1 h2; omega
  | succ c ih =>
    intro i h j h1 h2
    rw [fnd] at h
    split at h
    · omega
    · next hp =>
      by_cases e : j = i
      · subst e; simpa using hp
      · exact ih _ h j (by omega) (by omega)
theorem fnd_none {p : Nat → Bool} : ∀ c i, (∀ j, i ≤ j → j < i + c → p j = false) → fnd p c i = -1 := by
  intro c
  induction c with
  | zero => intro i _; rfl
  | succ c ih =>
    intro i h
    rw [fnd, if_neg (by rw [h i (by omega) (by omega)]; decide)]
    exact ih _ (fun j h1 h2 => h j (by omega) (by omega))
theorem fnd_yes {p : Nat → Bool} : ∀ c i, fnd p c i ≠ -1 → ∃ j : Nat, fnd p c i = (j : Int) ∧ i ≤ j ∧ j < i + c ∧ p j = true ∧ ∀ l, i ≤ l → l < j → p l = false := by
  intro c
  induction c with
  | zero => intro i h; exact absurd rfl h
  | succ c ih =>
    intro i h
    rw [fnd] at h ⊢
    split at h
    · next hp => rw [if_pos hp]; exact ⟨i, rfl, by omega, by omega, hp, fun l h1 h2 => by omega⟩
    · next hp =>
      rw [if_neg hp]
      obtain ⟨j, e, h1, h2, h3, h4⟩ := ih _ h
      refine ⟨j, e, by omega, by omega, h3, fun l q1 q2 => ?_⟩
      by_cases el : l = i
      · subst el; simpa using hp
      · exact h4 l (by omega) q2
theorem fnd_hit {p : Nat → Bool} {c i j : Nat} (h1 : i ≤ j) (h2 : j < i + c) (hp : p j = true) (hl : ∀ l, i ≤ l → l < j → p l = false) : fnd p c i = (j : Int) := by
  by_cases h : fnd p c i = -1
  · have := fnd_no c i h j h1 h2; rw [hp] at this; cases this
  · obtain ⟨j', e, q1, q2, q3, q4⟩ := fnd_yes c i h
    have : j' = j := by
      by_cases a : j' < j
      · have := hl j' q1 a; rw [q3] at this; cases this
      · by_cases b : j < j'
        · have := q4 j h1 b; rw [hp] at this; cases this
        · omega
    rw [e, this]
section US
variable {b : BV}
theorem sk_no {x : Int} (h : sk b x = -1) : ∀ k, k < bm b → bsf b k ≠ x := by
  intro k hk e
  have := fnd_no _ _ h k (by omega) (by omega)
  rw [decide_eq_false_iff_not] at this
  exact this e
theorem sk_none {x : Int} (h : ∀ k, k < bm b → bsf b k ≠ x) : sk b x = -1 := fnd_none _ _ (fun j _ h2 => decide_eq_false (h j (by omega)))
theorem sk_yes {x : Int} (h : sk b x ≠ -1) : ∃ k : Nat, sk b x = (k : Int) ∧ k < bm b ∧ bsf b k = x := by
  obtain ⟨j, e, _, h2, h3, _⟩ := fnd_yes _ _ h
  exact ⟨j, e, by omega, of_decide_eq_true h3⟩
theorem sk_of (ok : OkB b) {x : Int} {k : Nat} (hk : k < bm b) (h : bsf b k = x) : sk b x = (k : Int) := by
  refine fnd_hit (by omega) (by omega) (decide_eq_true h) (fun l _ hl => decide_eq_false (fun e => ?_))
  have := ok.2.2.2.2.2.2.2.2.1 l k (by omega) hk (by rw [e, h])
  omega
theorem nx_term {x : Int} (h : sk b x = -1) : nx b x = x := if_pos h
theorem nxi_term {x : Int} (h : sk b x = -1) : ∀ n, nxi b n x = x := by
  intro n
  induction n with
  | zero => rfl
  | succ n ih => rw [nxi, nx_term h, ih]
theorem nxi_add (b : BV) : ∀ (m n : Nat) (x : Int), nxi b (m + n) x = nxi b n (nxi b m x) := by
  intro m
  induction m with
  | zero => intro n x; rw [Nat.zero_add]; rfl
  | succ m ih => intro n x; rw [Nat.succ_add, nxi, nxi, ih]
theorem php : ∀ (n : Nat) (f : Nat → Nat), (∀ j, j ≤ n → f j < n) → ∃ i j, i < j ∧ j ≤ n ∧ f i = f j := by
  intro n
  induction n with
  | zero => intro f h; have := h 0 (by omega); omega
  | succ n ih =>
    intro f h
    by_cases q : ∃ i, i ≤ n ∧ f i = f (n + 1)
    · obtain ⟨i, h1, h2⟩ := q
      exact ⟨i, n + 1, by omega, by omega, h2⟩
    · have q' : ∀ i, i ≤ n → f i ≠ f (n + 1) := fun i h1 h2 => q ⟨i, h1, h2⟩
      obtain ⟨i, j, h1, h2, h3⟩ := ih (fun j => if f j = n then f (n + 1) else f j) (fun j hj => by
        have a := h j (by omega)
        have b := h (n + 1) (by omega)
        have c := q' j hj
        show (if f j = n then f (n + 1) else f j) < n
        split <;> omega)
      refine ⟨i, j, h1, by omega, ?_⟩
      have a := q' i (by omega)
      have c := q' j h2
      have h3' : (if f i = n then f (n + 1) else f i) = (if f j = n then f (n + 1) else f j) := h3
      split at h3' <;> split at h3' <;> omega
theorem nxi_per (b : BV) {y : Int} {d : Nat} (h : nxi b d y = y) : ∀ q, nxi b (d * q) y = y := by
  intro q
  induction q with
  | zero => rfl
  | succ q ih => rw [Nat.mul_succ, nxi_add, ih, h]
theorem us_end (ok : OkB b) (x : Int) : sk b (us b x) = -1 := by
  by_cases hT : sk b (us b x) = -1
  · exact hT
  · exfalso
    have all : ∀ j, j ≤ 12 → sk b (nxi b j x) ≠ -1 := by
      intro j hj e
      apply hT
      have : us b x = nxi b (12 - j) (nxi b j x) := by rw [← nxi_add]; unfold us; congr 1; omega
      rw [this, nxi_term e]; exact e
    have o7 := ok.2.2.2.2.2.2.1
    obtain ⟨i, j, h1, h2, h3⟩ := php 12 (fun j => (sk b (nxi b j x)).toNat) (fun j hj => by
      obtain ⟨k, e, hk, _⟩ := sk_yes (all j hj)
      show (sk b (nxi b j x)).toNat < 12
      rw [e]; omega)
    have h3' : (sk b (nxi b i x)).toNat = (sk b (nxi b j x)).toNat := h3
    obtain ⟨k, e, hk, ek⟩ := sk_yes (all i (by omega))
    obtain ⟨l, e', hl, el⟩ := sk_yes (all j h2)
    have ekl : k = l := by rw [e, e'] at h3'; omega
    have same : nxi b i x = nxi b j x := by rw [← ek, ← el, ekl]
    have per : nxi b (j - i) (nxi b i x) = nxi b i x := by
      rw [← nxi_add, same]; congr 1; omega
    obtain ⟨T, hTT⟩ := ok.2.2.2.2.2.2.2.2.2 x
    have p2 := nxi_per b per T
    have : nxi b ((j - i) * T) (nxi b i x) = nxi b (i + (j - i) * T - T) (nxi b T x) := by
      rw [← nxi_add, ← nxi_add]; congr 1
      have : T ≤ (j - i) * T := Nat.le_mul_of_pos_left T (by omega)
      omega
    rw [this, nxi_term hTT] at p2
    exact all i (by omega) (by rw [← p2]; exact hTT)
theorem us_far (ok : OkB b) (x : Int) {j : Nat} (h : 12 ≤ j) : nxi b j x = us b x := by
  have e : nxi b j x = nxi b (j - 12) (us b x) := by unfold us; rw [← nxi_add]; congr 1; omega
  rw [e, nxi_term (us_end ok x)]
theorem us_us (ok : OkB b) (x : Int) : us b (us b x) = us b x := nxi_term (us_end ok x) 12
/-- the class -/
theorem p0_seeOf_L {σ : st_S} {a : Nat} (h : RB8 σ a b) (ok : OkB b) (x : Int) : ∀ (c n i : Nat), i + c = bm b → c < n → g_X0_seeOf_L2 n a x (i : Int) σ = some (fnd (fun k => decide (bsf b k = x)) c i, σ) := by
  have o1 := ok.2.2.2.2.2.2.1
  have r1 := h.2.2.2.2.1
  have r2 : ∀ k, k < bm b → σ (a + 9) k = bsf b k := fun k hk => (h.2.2.2.2.2 k hk).1
  intro c
  induction c with
  | zero =>
    intro n i hi hn
    obtain ⟨m, rfl⟩ : ∃ m, n = m + 1 := ⟨n - 1, by omega⟩
    rw [g_X0_seeOf_L2, fnd]; repeat (first | rw [Option.bind_some] | dsimp only | rw [r1] | rw [Int.toNat_natCast] | rw [w32s (by omega)] | rw [w32p (by omega)] | rw [w32q (by omega)] | rw [w32i (by omega) (by omega)] | rw [sa_ld_of (by omega) (by omega)] | rw [sa_st_of (by omega) (by omega)] | rw [if_pos (by omega)] | rw [if_neg (by omega)] | rw [if_neg one0] | rw [if_pos rfl])
  | succ c ih =>
    intro n i hi hn
    obtain ⟨m, rfl⟩ : ∃ m, n = m + 1 := ⟨n - 1, by omega⟩
    rw [g_X0_seeOf_L2, fnd]; repeat (first | rw [Option.bind_some] | dsimp only | rw [r1] | rw [r2 _ (by omega)] | rw [Int.toNat_natCast] | rw [w32s (by omega)] | rw [w32p (by omega)] | rw [w32q (by omega)] | rw [w32i (by omega) (by omega)] | rw [sa_ld_of (by omega) (by omega)] | rw [sa_st_of (by omega) (by omega)] | rw [if_pos (by omega)] | rw [if_neg (by omega)] | rw [if_neg one0] | rw [if_pos rfl])
    by_cases e : bsf b i = x
    · rw [if_pos (cmp_eq.mpr e), if_pos (decide_eq_true e)]
    · rw [if_neg (fun q => e (cmp_eq.mp q)), if_neg (by simpa using e)]
      repeat (first | rw [Option.bind_some] | dsimp only | rw [ih m (i + 1) (by omega) (by omega)] | rw [Int.toNat_natCast] | rw [w32s (by omega)] | rw [w32p (by omega)] | rw [w32q (by omega)] | rw [w32i (by omega) (by omega)] | rw [sa_ld_of (by omega) (by omega)] | rw [sa_st_of (by omega) (by omega)] | rw [if_pos (by omega)] | rw [if_neg (by omega)] | rw [if_neg one0] | rw [if_pos rfl])
theorem p0_seeOf {σ : st_S} {a : Nat} (h : RB8 σ a b) (ok : OkB b) (x : Int) : g_X0_seeOf a x σ = some (sk b x, σ) := by
  have o1 := ok.2.2.2.2.2.2.1
  exact p0_seeOf_L h ok x (bm b) ab_FU 0 (by omega) (by show _ < 100000; omega)
theorem p0_used_L {σ : st_S} {a : Nat} (h : RB8 σ a b) (ok : OkB b) : ∀ (c n i : Nat) (x : Int), i + c = 12 → c < n → g_X0_used_L5 n a x (i : Int) σ = some (nxi b c x, σ) := by
  have o1 := ok.2.2.2.2.2.2.1
  have r2 : ∀ k, k < bm b → σ (a + 10) k = bst b k := fun k hk => (h.2.2.2.2.2 k hk).2
  intro c
  induction c with
  | zero =>
    intro n i x hi hn
    obtain ⟨m, rfl⟩ : ∃ m, n = m + 1 := ⟨n - 1, by omega⟩
    rw [g_X0_used_L5, nxi]; repeat (first | rw [Option.bind_some] | dsimp only | rw [Int.toNat_natCast] | rw [w32s (by omega)] | rw [w32p (by omega)] | rw [w32q (by omega)] | rw [w32i (by omega) (by omega)] | rw [sa_ld_of (by omega) (by omega)] | rw [sa_st_of (by omega) (by omega)] | rw [if_pos (by omega)] | rw [if_neg (by omega)] | rw [if_neg one0] | rw [if_pos rfl])
  | succ c ih =>
    intro n i x hi hn
    obtain ⟨m, rfl⟩ : ∃ m, n = m + 1 := ⟨n - 1, by omega⟩
    rw [g_X0_used_L5]; repeat (first | rw [Option.bind_some] | dsimp only | rw [p0_seeOf h ok] | rw [Int.toNat_natCast] | rw [w32s (by omega)] | rw [w32p (by omega)] | rw [w32q (by omega)] | rw [w32i (by omega) (by omega)] | rw [sa_ld_of (by omega) (by omega)] | rw [sa_st_of (by omega) (by omega)] | rw [if_pos (by omega)] | rw [if_neg (by omega)] | rw [if_neg one0] | rw [if_pos rfl])
    by_cases e : sk b x = -1
    · rw [if_pos e, nxi_term e]
    · obtain ⟨k, ek, hk, _⟩ := sk_yes e
      rw [nxi, nx, if_neg e, if_neg e, ek]
      repeat (first | rw [Option.bind_some] | dsimp only | rw [r2 _ (by omega)] | rw [ih m (i + 1) _ (by omega) (by omega)] | rw [Int.toNat_natCast] | rw [w32s (by omega)] | rw [w32p (by omega)] | rw [w32q (by omega)] | rw [w32i (by omega) (by omega)] | rw [sa_ld_of (by omega) (by omega)] | rw [sa_st_of (by omega) (by omega)] | rw [if_pos (by omega)] | rw [if_neg (by omega)] | rw [if_neg one0] | rw [if_pos rfl])
theorem p0_used {σ : st_S} {a : Nat} (h : RB8 σ a b) (ok : OkB b) (x : Int) : g_X0_used a x σ = some (us b x, σ) :=
  p0_used_L h ok 12 ab_FU 0 x (by omega) (by show _ < 100000; omega)
/-- the reference: the sees of a row -/
def RB9s (σ : st_S) (c : Nat) (b : BV) : Prop := σ c 1 = (bm b : Int) ∧ ∀ k, k < bm b → σ c (8 + 2 * k) = bsf b k ∧ σ c (9 + 2 * k) = bst b k
theorem RB9.s {σ : st_S} {c : Nat} (h : RB9 σ c 0 b) : RB9s σ c b :=
  ⟨h.2.2.2.2.1, fun k hk => ⟨by rw [← (h.2.2.2.2.2 k hk).1, Nat.zero_add], by rw [← (h.2.2.2.2.2 k hk).2, Nat.zero_add]⟩⟩
def scn (b : BV) : Nat → Nat → Int → Int
  | 0, _, w => w
  | c + 1, k, w => scn b c (k + 1) (if bsf b k = w then bst b k else w)
def scnI (b : BV) : Nat → Int → Int
  | 0, w => w
  | r + 1, w => scnI b r (scn b (bm b) 0 w)
theorem scn_path (ok : OkB b) : ∀ (c k : Nat) (w : Int), k + c = bm b → ∃ j, scn b c k w = nxi b j w ∧ ((∃ k', k ≤ k' ∧ k' < bm b ∧ bsf b k' = w) → 1 ≤ j) := by
  intro c
  induction c with
  | zero => intro k w h; exact ⟨0, rfl, fun ⟨k', h1, h2, _⟩ => by omega⟩
  | succ c ih =>
    intro k w h
    rw [scn]
    by_cases e : bsf b k = w
    · rw [if_pos e]
      obtain ⟨j, h1, _⟩ := ih (k + 1) (bst b k) (by omega)
      refine ⟨j + 1, ?_, fun _ => by omega⟩
      rw [h1, nxi, nx, sk_of ok (by omega) e, if_neg (by omega), Int.toNat_natCast]
    · rw [if_neg e]
      obtain ⟨j, h1, h2⟩ := ih (k + 1) w (by omega)
      refine ⟨j, h1, fun ⟨k', q1, q2, q3⟩ => h2 ⟨k', ?_, q2, q3⟩⟩
      by_cases ek : k' = k
      · subst ek; exact absurd q3 e
      · omega
theorem scnI_path (ok : OkB b) : ∀ (r : Nat) (w : Int), ∃ j, r ≤ j ∧ scnI b r w = nxi b j w := by
  intro r
  induction r with
  | zero => intro w; exact ⟨0, by omega, rfl⟩
  | succ r ih =>
    intro w
    obtain ⟨j, h1, h2⟩ := scn_path ok (bm b) 0 w (by omega)
    obtain ⟨l, h3, h4⟩ := ih (scn b (bm b) 0 w)
    rw [scnI, h4, h1, ← nxi_add]
    by_cases t : sk b w = -1
    · exact ⟨r + 1, by omega, by rw [nxi_term t, nxi_term t]⟩
    · obtain ⟨k, _, hk, ek⟩ := sk_yes t
      have := h2 ⟨k, by omega, hk, ek⟩
      exact ⟨j + l, by omega, rfl⟩
theorem scn_us (ok : OkB b) (w : Int) : scnI b 13 w = us b w := by
  obtain ⟨j, h1, h2⟩ := scnI_path ok 13 w
  rw [h2, us_far ok w (by omega)]
theorem p9_usedOf_L15 {σ : st_S} {a : Nat} (h : RB9s σ a b) (ok : OkB b) (k56 : Nat → Int → Int → st_S → Option (Int × st_S)) (v5 : Int) : ∀ (c n i : Nat) (w : Int), i + c = bm b → c < n → g_X9_usedOf_L15 k56 n a w v5 (i : Int) σ = k56 a (scn b c i w) v5 σ := by
  have o1 := ok.2.2.2.2.2.2.1
  have r1 := h.1
  have r2 : ∀ k, k < bm b → σ a (8 + 2 * k) = bsf b k := fun k hk => (h.2 k hk).1
  have r3 : ∀ k, k < bm b → σ a (9 + 2 * k) = bst b k := fun k hk => (h.2 k hk).2
  intro c
  induction c with
  | zero =>
    intro n i w hi hn
    obtain ⟨m, rfl⟩ : ∃ m, n = m + 1 := ⟨n - 1, by omega⟩
    rw [g_X9_usedOf_L15, scn]; repeat (first | rw [Option.bind_some] | dsimp only | rw [show (1 : Int).toNat = 1 from rfl] | rw [r1] | rw [Int.toNat_natCast] | rw [w32s (by omega)] | rw [w32p (by omega)] | rw [w32q (by omega)] | rw [w32i (by omega) (by omega)] | rw [sa_ld_of (by omega) (by omega)] | rw [sa_st_of (by omega) (by omega)] | rw [if_pos (by omega)] | rw [if_neg (by omega)] | rw [if_neg one0] | rw [if_pos rfl])
  | succ c ih =>
    intro n i w hi hn
    obtain ⟨m, rfl⟩ : ∃ m, n = m + 1 := ⟨n - 1, by omega⟩
    have e1 : ab_w32 ((8 : Int) + (ab_w32 ((2 : Int) * (i : Int)))) = ((8 + 2 * i : Nat) : Int) := by unfold ab_w32; omega
    have e2 : ab_w32 (((8 + 2 * i : Nat) : Int) + 1) = ((9 + 2 * i : Nat) : Int) := by unfold ab_w32; omega
    rw [g_X9_usedOf_L15, scn, e1, e2]; repeat (first | rw [Option.bind_some] | dsimp only | rw [show (1 : Int).toNat = 1 from rfl] | rw [r1] | rw [r2 _ (by omega)] | rw [Int.toNat_natCast] | rw [w32s (by omega)] | rw [w32p (by omega)] | rw [w32q (by omega)] | rw [w32i (by omega) (by omega)] | rw [sa_ld_of (by omega) (by omega)] | rw [sa_st_of (by omega) (by omega)] | rw [if_pos (by omega)] | rw [if_neg (by omega)] | rw [if_neg one0] | rw [if_pos rfl])
    by_cases e : bsf b i = w
    · rw [if_pos (cmp_eq.mpr e), if_pos e]
      unfold g_X9_usedOf_J50
      repeat (first | rw [Option.bind_some] | dsimp only | rw [r3 _ (by omega)] | rw [ih m (i + 1) _ (by omega) (by omega)] | rw [Int.toNat_natCast] | rw [w32s (by omega)] | rw [w32p (by omega)] | rw [w32q (by omega)] | rw [w32i (by omega) (by omega)] | rw [sa_ld_of (by omega) (by omega)] | rw [sa_st_of (by omega) (by omega)] | rw [if_pos (by omega)] | rw [if_neg (by omega)] | rw [if_neg one0] | rw [if_pos rfl])
    · rw [if_neg (fun q => e (cmp_eq.mp q)), if_neg e]
      unfold g_X9_usedOf_J50
      repeat (first | rw [Option.bind_some] | dsimp only | rw [ih m (i + 1) _ (by omega) (by omega)] | rw [Int.toNat_natCast] | rw [w32s (by omega)] | rw [w32p (by omega)] | rw [w32q (by omega)] | rw [w32i (by omega) (by omega)] | rw [sa_ld_of (by omega) (by omega)] | rw [sa_st_of (by omega) (by omega)] | rw [if_pos (by omega)] | rw [if_neg (by omega)] | rw [if_neg one0] | rw [if_pos rfl])
theorem p9_usedOf_L5 {σ : st_S} {a : Nat} (h : RB9s σ a b) (ok : OkB b) : ∀ (c n i : Nat) (w : Int), i + c = 13 → c < n → g_X9_usedOf_L5 n a w (i : Int) σ = some (scnI b c w, σ) := by
  have o1 := ok.2.2.2.2.2.2.1
  intro c
  induction c with
  | zero =>
    intro n i w hi hn
    obtain ⟨m, rfl⟩ : ∃ m, n = m + 1 := ⟨n - 1, by omega⟩
    rw [g_X9_usedOf_L5, scnI]; repeat (first | rw [Option.bind_some] | dsimp only | rw [Int.toNat_natCast] | rw [w32s (by omega)] | rw [w32p (by omega)] | rw [w32q (by omega)] | rw [w32i (by omega) (by omega)] | rw [sa_ld_of (by omega) (by omega)] | rw [sa_st_of (by omega) (by omega)] | rw [if_pos (by omega)] | rw [if_neg (by omega)] | rw [if_neg one0] | rw [if_pos rfl])
  | succ c ih =>
    intro n i w hi hn
    obtain ⟨m, rfl⟩ : ∃ m, n = m + 1 := ⟨n - 1, by omega⟩
    rw [g_X9_usedOf_L5, scnI, if_neg (by omega)]
    rw [show (0 : Int) = ((0 : Nat) : Int) from rfl, p9_usedOf_L15 h ok _ _ (bm b) ab_FU 0 w (by omega) (by show _ < 100000; omega)]
    repeat (first | rw [Option.bind_some] | dsimp only | rw [ih m (i + 1) _ (by omega) (by omega)] | rw [Int.toNat_natCast] | rw [w32s (by omega)] | rw [w32p (by omega)] | rw [w32q (by omega)] | rw [w32i (by omega) (by omega)] | rw [sa_ld_of (by omega) (by omega)] | rw [sa_st_of (by omega) (by omega)] | rw [if_pos (by omega)] | rw [if_neg (by omega)] | rw [if_neg one0] | rw [if_pos rfl])
theorem p9_usedOf {σ : st_S} {a : Nat} (h : RB9s σ a b) (ok : OkB b) (w : Int) : g_X9_usedOf a w σ = some (us b w, σ) := by
  rw [← scn_us ok w]
  exact p9_usedOf_L5 h ok 13 ab_FU 0 w (by omega) (by show _ < 100000; omega)
end US
