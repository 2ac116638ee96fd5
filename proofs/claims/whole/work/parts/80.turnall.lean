/-! the class turns all; lines and heads -/
theorem p6_L18 {a a1 : Nat} (ha : isTu a = true) (h1a : a1 + 8 < 147) {b : BV} (ok : OkB b) {wy : Nat → Int} {s : Nat} (hs : s < bn b) : ∀ (c i : Nat) (t : OR) (r : Nat → Nat) (σ : st_S), i + c = bsz b s → t.1 ≤ 6 * s + i → TS σ a b wy r t → BK σ a1 b wy → T8 σ b →
    ∃ σ' r', (∀ (k : Nat → Nat → Int → st_S → Option st_S) (n : Nat), c < n → g_X6_turnAll_L18 k n a a1 (s : Int) (i : Int) σ = k a a1 (s : Int) σ') ∧ TS σ' a b wy r' ((elI b s c i).foldl (sIns b wy) t) ∧ ((elI b s c i).foldl (sIns b wy) t).1 ≤ 6 * s + bsz b s ∧ ∀ c, (c < a ∨ a + 219 < c) → σ' c = σ c := by
  have o1 := ok.1
  have o2 := ok.2.1 s hs
  have har : a = 156 ∨ a = 376 := tu_of ha
  intro c
  induction c with
  | zero =>
    intro i t r σ hi ht hS hB _
    refine ⟨σ, r, fun k n hn => ?_, hS, by show t.1 ≤ _; omega, fun _ _ => rfl⟩
    obtain ⟨m, rfl⟩ : ∃ m, n = m + 1 := ⟨n - 1, by omega⟩
    have b2 := (hB.2.1 s hs).2.1
    rw [g_X6_turnAll_L18, sa_ld_of (by omega) (by omega), Option.bind_some, Int.toNat_natCast, b2, if_pos (by omega)]
  | succ c ih =>
    intro i t r σ hi ht hS hB hT
    have b2 := (hB.2.1 s hs).2.1
    have b4 := ((hB.2.1 s hs).2.2 i (by omega)).2
    rw [elI]
    by_cases e1 : btm b 1 s i = 1
    · rw [if_pos e1]
      obtain ⟨σ1, r1, q1, q2, q3⟩ := p6_addEntry ha h1a ok (x := (s, i)) ⟨hs, by show i < bsz b s; omega⟩ hS hB hT (by omega)
      obtain ⟨σ', r', k1, k2, k3, k4⟩ := ih (i + 1) (sIns b wy t (s, i)) r1 σ1 (by omega) (by show t.1 + 1 ≤ _; omega) q2 (hB.fr (fun k hk => q3 _ (by omega))) (hT.fr (fun c _ _ => q3 _ (by omega)))
      refine ⟨σ', r', fun k n hn => ?_, k2, k3, fun c hc => by rw [k4 c hc, q3 c hc]⟩
      obtain ⟨m, rfl⟩ : ∃ m, n = m + 1 := ⟨n - 1, by omega⟩
      rw [g_X6_turnAll_L18, sa_ld_of (by omega) (by omega), Option.bind_some, Int.toNat_natCast, b2, if_neg (by omega), w6 (by omega) (by omega), sa_ld_of (by omega) (by omega), Option.bind_some, Int.toNat_natCast, b4, if_pos e1, show g_X6_addEntry a a1 (s : Int) (i : Int) σ = _ from q1, Option.bind_some]
      unfold g_X6_turnAll_J54
      rw [w32s (by omega)]
      exact k1 k m (by omega)
    · rw [if_neg e1]
      obtain ⟨σ', r', k1, k2, k3, k4⟩ := ih (i + 1) t r σ (by omega) (by omega) hS hB hT
      refine ⟨σ', r', fun k n hn => ?_, k2, k3, k4⟩
      obtain ⟨m, rfl⟩ : ∃ m, n = m + 1 := ⟨n - 1, by omega⟩
      rw [g_X6_turnAll_L18, sa_ld_of (by omega) (by omega), Option.bind_some, Int.toNat_natCast, b2, if_neg (by omega), w6 (by omega) (by omega), sa_ld_of (by omega) (by omega), Option.bind_some, Int.toNat_natCast, b4, if_neg e1]
      unfold g_X6_turnAll_J54
      rw [w32s (by omega)]
      exact k1 k m (by omega)
theorem p6_L7 {a a1 : Nat} (ha : isTu a = true) (h1a : a1 + 8 < 147) {b : BV} (ok : OkB b) {wy : Nat → Int} : ∀ (c s : Nat) (t : OR) (r : Nat → Nat) (σ : st_S), s + c = bn b → t.1 ≤ 6 * s → TS σ a b wy r t → BK σ a1 b wy → T8 σ b →
    ∃ σ' r', (∀ (k : Nat → st_S → Option st_S) (n : Nat), c < n → g_X6_turnAll_L7 k n a a1 (s : Int) σ = k a σ') ∧ TS σ' a b wy r' ((elS b c s).foldl (sIns b wy) t) ∧ ((elS b c s).foldl (sIns b wy) t).1 ≤ 72 ∧ ∀ c, (c < a ∨ a + 219 < c) → σ' c = σ c := by
  have o1 := ok.1
  have har : a = 156 ∨ a = 376 := tu_of ha
  intro c
  induction c with
  | zero =>
    intro s t r σ hi ht hS hB _
    refine ⟨σ, r, fun k n hn => ?_, hS, by show t.1 ≤ _; omega, fun _ _ => rfl⟩
    obtain ⟨m, rfl⟩ : ∃ m, n = m + 1 := ⟨n - 1, by omega⟩
    rw [g_X6_turnAll_L7, hB.1, if_pos (by omega)]
  | succ c ih =>
    intro s t r σ hi ht hS hB hT
    have o2 := ok.2.1 s (by omega)
    rw [elS, List.foldl_append]
    obtain ⟨σ1, r1, q1, q2, q3, q4⟩ := p6_L18 ha h1a ok (show s < bn b by omega) (bsz b s) 0 t r σ (by omega) (by omega) hS hB hT
    rw [show ((0 : Nat) : Int) = 0 from rfl] at q1
    obtain ⟨σ', r', k1, k2, k3, k4⟩ := ih (s + 1) _ r1 σ1 (by omega) (by omega) q2 (hB.fr (fun k hk => q4 _ (by omega))) (hT.fr (fun c _ _ => q4 _ (by omega)))
    refine ⟨σ', r', fun k n hn => ?_, k2, k3, fun c hc => by rw [k4 c hc, q4 c hc]⟩
    obtain ⟨m, rfl⟩ : ∃ m, n = m + 1 := ⟨n - 1, by omega⟩
    rw [g_X6_turnAll_L7, hB.1, if_neg (by omega), q1 _ ab_FU (by show _ < 100000; omega), w32s (by omega)]
    exact k1 k m (by omega)
/-! lines, heads -/
def lnK (b : BV) (wy : Nat → Int) (f : Nat → Nat × Nat) : Nat → Nat
  | 0 => 0
  | k + 1 => lnK b wy f k + (if cW b wy (f (k + 1)) (f k) = 0 then 0 else 1)
def hdK (b : BV) (f : Nat → Nat × Nat) : Nat → Nat
  | 0 => 0
  | k + 1 => hdK b f k + (if lw b (f (k + 1)) = lw b (f k) then 0 else 1)
/-- how many there are when k are numbered -/
def nK (g : Nat → Nat) : Nat → Nat
  | 0 => 0
  | k + 1 => g k + 1
/-- the first of the c from i on whose number is l or more -/
def fsk (g : Nat → Nat) (l : Nat) : Nat → Nat → Nat
  | 0, i => i
  | c + 1, i => if l ≤ g i then i else fsk g l c (i + 1)
def Stair (g : Nat → Nat) : Prop := g 0 = 0 ∧ ∀ k, g (k + 1) = g k ∨ g (k + 1) = g k + 1
theorem lnK_st (b : BV) (wy : Nat → Int) (f : Nat → Nat × Nat) : Stair (lnK b wy f) := ⟨rfl, fun k => by rw [lnK]; split <;> simp⟩
theorem hdK_st (b : BV) (f : Nat → Nat × Nat) : Stair (hdK b f) := ⟨rfl, fun k => by rw [hdK]; split <;> simp⟩
theorem Stair.mono {g : Nat → Nat} (h : Stair g) : ∀ (j i : Nat), g i ≤ g (i + j) := by
  intro j
  induction j with
  | zero => intro i; exact Nat.le_refl _
  | succ j ih => intro i; have := ih i; have := h.2 (i + j); rw [← Nat.add_assoc]; omega
theorem Stair.mo {g : Nat → Nat} (h : Stair g) {i j : Nat} (hij : i ≤ j) : g i ≤ g j := by
  have := h.mono (j - i) i; rwa [show i + (j - i) = j by omega] at this
theorem Stair.le {g : Nat → Nat} (h : Stair g) : ∀ k, g k ≤ k := by
  intro k
  induction k with
  | zero => rw [h.1]; omega
  | succ k ih => have := h.2 k; omega
theorem nK_le {g : Nat → Nat} (h : Stair g) (n : Nat) : nK g n ≤ n := by
  cases n with
  | zero => exact Nat.le_refl _
  | succ n => have := h.le n; show g n + 1 ≤ n + 1; omega
theorem nK_lt {g : Nat → Nat} (h : Stair g) {k n : Nat} (hk : k < n) : g k < nK g n := by
  cases n with
  | zero => omega
  | succ n => have := h.mo (show k ≤ n by omega); show g k < g n + 1; omega
theorem fsk_spec (g : Nat → Nat) (l : Nat) : ∀ (c i : Nat), i ≤ fsk g l c i ∧ fsk g l c i ≤ i + c ∧ (∀ j, i ≤ j → j < fsk g l c i → g j < l) ∧ (fsk g l c i < i + c → l ≤ g (fsk g l c i)) := by
  intro c
  induction c with
  | zero => intro i; exact ⟨Nat.le_refl _, Nat.le_refl _, fun j h1 h2 => by have : j < i := h2; omega, fun h => by have : i < i + 0 := h; omega⟩
  | succ c ih =>
    intro i
    rw [fsk]
    split
    · next h => exact ⟨by omega, by omega, fun j h1 h2 => by omega, fun _ => h⟩
    · next h =>
      obtain ⟨h1, h2, h3, h4⟩ := ih (i + 1)
      refine ⟨by omega, by omega, fun j q1 q2 => ?_, fun q => h4 (by omega)⟩
      by_cases e : j = i
      · subst e; omega
      · exact h3 j (by omega) q2
theorem fsk_eq {g : Nat → Nat} {l c i k : Nat} (h1 : i ≤ k) (h2 : k ≤ i + c) (h3 : ∀ j, i ≤ j → j < k → g j < l) (h4 : k < i + c → l ≤ g k) : fsk g l c i = k := by
  obtain ⟨q1, q2, q3, q4⟩ := fsk_spec g l c i
  by_cases a : fsk g l c i < k
  · have := h3 _ q1 a; have := q4 (by omega); omega
  · by_cases b : k < fsk g l c i
    · have := q3 k h1 b; have := h4 (by omega); omega
    · omega
/-- line l (head l) is what stands from its first one up to that of the next -/
theorem fsk_in {g : Nat → Nat} (h : Stair g) {n l k : Nat} (hk : k < n) : g k = l ↔ fsk g l n 0 ≤ k ∧ k < fsk g (l + 1) n 0 := by
  obtain ⟨q1, q2, q3, q4⟩ := fsk_spec g l n 0
  obtain ⟨r1, r2, r3, r4⟩ := fsk_spec g (l + 1) n 0
  constructor
  · intro e
    refine ⟨?_, ?_⟩
    · by_cases z : k < fsk g l n 0
      · have := q3 k (by omega) z; omega
      · omega
    · by_cases z : fsk g (l + 1) n 0 ≤ k
      · have := h.mo z; have := r4 (by omega); omega
      · omega
  · rintro ⟨a, b⟩
    have e1 := h.mo a
    have e2 := q4 (by omega)
    have e3 := r3 k (by omega) b
    omega
theorem Stair.hit {g : Nat → Nat} (h : Stair g) : ∀ (k l : Nat), l ≤ g k → ∃ j, j ≤ k ∧ g j = l := by
  intro k
  induction k with
  | zero => intro l hl; rw [h.1] at hl; exact ⟨0, by omega, by rw [h.1]; omega⟩
  | succ k ih =>
    intro l hl
    by_cases e : l ≤ g k
    · obtain ⟨j, h1, h2⟩ := ih l e; exact ⟨j, by omega, h2⟩
    · have := h.2 k; exact ⟨k + 1, by omega, by omega⟩
theorem fsk_at {g : Nat → Nat} (h : Stair g) {n l : Nat} (hl : l < nK g n) : fsk g l n 0 < n ∧ g (fsk g l n 0) = l := by
  obtain ⟨m, rfl⟩ : ∃ m, n = m + 1 := ⟨n - 1, by cases n with | zero => exact absurd hl (Nat.not_lt_zero _) | succ n => omega⟩
  have hl' : l ≤ g m := by have : l < g m + 1 := hl; omega
  obtain ⟨j, j1, j2⟩ := h.hit m l hl'
  have z := (fsk_in h (n := m + 1) (l := l) (k := j) (by omega)).mp j2
  obtain ⟨q1, q2, q3, q4⟩ := fsk_spec g l (m + 1) 0
  refine ⟨by omega, ?_⟩
  have := q4 (by omega)
  have := h.mo z.1
  omega
theorem fsk_end {g : Nat → Nat} (h : Stair g) (n : Nat) : fsk g (nK g n) n 0 = n := fsk_eq (by omega) (by omega) (fun j _ hj => nK_lt h hj) (fun q => by omega)
theorem fsk_mo {g : Nat → Nat} {n l l' : Nat} (hl : l ≤ l') : fsk g l n 0 ≤ fsk g l' n 0 := by
  obtain ⟨q1, q2, q3, q4⟩ := fsk_spec g l n 0
  obtain ⟨r1, r2, r3, r4⟩ := fsk_spec g l' n 0
  by_cases z : fsk g l' n 0 < fsk g l n 0
  · have := q3 _ (by omega) z; have := r4 (by omega); omega
  · omega
/-- numbered: k entries -/
def NM (σ : st_S) (a : Nat) (b : BV) (wy : Nat → Int) (r : Nat → Nat) (t : OR) (k : Nat) : Prop :=
  TS σ a b wy r t ∧ σ a 3 = (nK (lnK b wy t.2) k : Int) ∧ σ a 5 = (nK (hdK b t.2) k : Int) ∧ (∀ l, l < nK (lnK b wy t.2) k → σ (a + 2) l = (fsk (lnK b wy t.2) l t.1 0 : Int)) ∧ (∀ l, l < nK (hdK b t.2) k → σ (a + 3) l = (fsk (hdK b t.2) l t.1 0 : Int)) ∧
  ∀ j, j < k → σ (r j) 9 = (lnK b wy t.2 j : Int) ∧ σ (r j) 10 = (hdK b t.2 j : Int)
theorem TS.fr {σ σ' : st_S} {a : Nat} {b : BV} {wy : Nat → Int} {r : Nat → Nat} {t : OR} (h : TS σ a b wy r t) (ht : t.1 ≤ 72) (h1 : σ' a 1 = σ a 1) (h2 : ∀ c, a + 1 ≤ c → c ≤ a + 219 → c ≠ a + 2 → c ≠ a + 3 → ∀ f, f ≠ 9 → f ≠ 10 → σ' c f = σ c f) (h3 : σ' (a + 1) = σ (a + 1)) (h4 : ∀ k, k < 72 → σ' (r k + 1) = σ (r k + 1) ∧ σ' (r k + 2) = σ (r k + 2)) : TS σ' a b wy r t := by
  obtain ⟨t1, tS, tE⟩ := h
  refine ⟨by rw [h1]; exact t1, ⟨fun k hk => by rw [h3]; exact tS.1 k hk, tS.2⟩, fun k hk => ⟨(tE k hk).1, ?_⟩⟩
  have := (tS.1 k (by omega)).2
  unfold OkR at this
  exact (tE k hk).2.fr (fun f q1 q2 => h2 _ (by omega) (by omega) (by omega) (by omega) f q1 q2) (h4 k (by omega)).1 (h4 k (by omega)).2
theorem p6_L12 {a : Nat} (ha : isTu a = true) {b : BV} (ok : OkB b) {wy : Nat → Int} {r : Nat → Nat} {t : OR} (ht : t.1 ≤ 72) : ∀ (c k : Nat) (σ : st_S), k + c = t.1 → NM σ a b wy r t k →
    ∃ σ', (∀ (K : Nat → st_S → Option st_S) (n : Nat), c < n → g_X6_numberLinesAndHeads_L12 K n a (k : Int) σ = K a σ') ∧ NM σ' a b wy r t t.1 ∧ ∀ c, (c < a ∨ a + 219 < c) → σ' c = σ c := by
  have har : a = 156 ∨ a = 376 := tu_of ha
  intro c
  induction c with
  | zero =>
    intro k σ hk hN
    have : k = t.1 := by omega
    subst this
    refine ⟨σ, fun K n hn => ?_, hN, fun _ _ => rfl⟩
    obtain ⟨m, rfl⟩ : ∃ m, n = m + 1 := ⟨n - 1, by omega⟩
    rw [g_X6_numberLinesAndHeads_L12, hN.1.1, if_pos (by omega)]
  | succ c ih =>
    intro k σ hk hN
    obtain ⟨hT, n3, n5, nl, nh, nj⟩ := hN
    have stl := lnK_st b wy t.2
    have sth := hdK_st b t.2
    have s1 := (hT.2.1.1 k (by omega)).1
    have sok := (hT.2.1.1 k (by omega)).2
    have s2 := sa_en_of (sok.en ha)
    have le1 := nK_le stl k
    have le2 := nK_le sth k
    have sok' := sok
    unfold OkR at sok'
    -- the next line's number, the next head's
    let ln := lnK b wy t.2
    let hd := hdK b t.2
    have far : ∀ j, j < 72 → j ≠ k → r j ≠ r k ∧ r j ≠ r k + 1 ∧ r j ≠ r k + 2 ∧ r j + 1 ≠ r k ∧ r j + 2 ≠ r k ∧ r j + 1 ≠ r k + 2 ∧ r j + 2 ≠ r k + 1 := fun j hj hn => hT.2.1.far hj (by omega) hn
    -- the last two writes
    have fin : ∀ σ2 : st_S, σ2 a 1 = σ a 1 → (∀ c, c ≠ a → c ≠ a + 2 → c ≠ a + 3 → σ2 c = σ c) → σ2 a 3 = (nK ln (k + 1) : Int) → σ2 a 5 = (nK hd (k + 1) : Int) → (∀ l, l < nK ln (k + 1) → σ2 (a + 2) l = (fsk ln l t.1 0 : Int)) → (∀ l, l < nK hd (k + 1) → σ2 (a + 3) l = (fsk hd l t.1 0 : Int)) →
        ∃ σ', (∀ (K : Nat → st_S → Option st_S) (m : Nat), c < m → g_X6_numberLinesAndHeads_J102 (g_X6_numberLinesAndHeads_L12 K m) K a (k : Int) (r k) σ2 = K a σ') ∧ NM σ' a b wy r t t.1 ∧ ∀ c, (c < a ∨ a + 219 < c) → σ' c = σ c := by
      intro σ2 h1 h2 h3 h5 hl hh
      generalize hσ4 : up2 (up2 σ2 (r k) 9 (ln k : Int)) (r k) 10 (hd k : Int) = σ4
      have f4 : ∀ c, c ≠ r k → σ4 c = σ2 c := fun c hc => by rw [← hσ4, up2_o _ _ hc, up2_o _ _ hc]
      have g4 : ∀ c f, f ≠ 9 → f ≠ 10 → σ4 c f = σ2 c f := fun c f q1 q2 => by rw [← hσ4, up2_ne _ _ (by omega), up2_ne _ _ (by omega)]
      have hN4 : NM σ4 a b wy r t (k + 1) := by
        refine ⟨hT.fr ht (by rw [f4 _ (by omega)]; exact h1) (fun c q1 q2 q3 q4 f q5 q6 => by rw [g4 c f q5 q6, h2 c (by omega) q3 q4]) (by rw [f4 _ (by omega), h2 _ (by omega) (by omega) (by omega)]) (fun j hj => ?_), by rw [f4 _ (by omega)]; exact h3, by rw [f4 _ (by omega)]; exact h5, by rw [f4 _ (by omega)]; exact hl, by rw [f4 _ (by omega)]; exact hh, fun j hj => ?_⟩
        · have z := (hT.2.1.1 j hj).2
          unfold OkR at z
          by_cases ej : j = k
          · subst ej; exact ⟨by rw [f4 _ (by omega), h2 _ (by omega) (by omega) (by omega)], by rw [f4 _ (by omega), h2 _ (by omega) (by omega) (by omega)]⟩
          · have := far j hj ej
            exact ⟨by rw [f4 _ (by omega), h2 _ (by omega) (by omega) (by omega)], by rw [f4 _ (by omega), h2 _ (by omega) (by omega) (by omega)]⟩
        · by_cases ej : j = k
          · subst ej; rw [← hσ4]; exact ⟨by rw [up2_ne _ _ (by omega), up2_at], by rw [up2_at]⟩
          · have := far j (by omega) ej
            have z := (hT.2.1.1 j (by omega)).2
            unfold OkR at z
            rw [f4 _ (by omega), h2 _ (by omega) (by omega) (by omega)]; exact nj j (by omega)
      obtain ⟨σ', q1, q2, q3⟩ := ih (k + 1) σ4 (by omega) hN4
      refine ⟨σ', fun K m hm => ?_, q2, fun c hc => by rw [q3 c hc, f4 c (by omega), h2 c (by omega) (by omega) (by omega)]⟩
      unfold g_X6_numberLinesAndHeads_J102
      have e3 : ab_w32 (σ2 a 3 - 1) = (ln k : Int) := by rw [h3]; show ab_w32 (((ln k + 1 : Nat) : Int) - 1) = _; have := stl.le k; exact w32p (by show lnK b wy t.2 k < _; omega)
      have e5 : ab_w32 (up2 σ2 (r k) 9 (ln k : Int) a 5 - 1) = (hd k : Int) := by rw [up2_o _ _ (by omega), h5]; show ab_w32 (((hd k + 1 : Nat) : Int) - 1) = _; have := sth.le k; exact w32p (by show hdK b t.2 k < _; omega)
      rw [e3, Option.bind_some, e5, Option.bind_some, hσ4, w32s (by omega)]
      exact q1 K m hm
    -- heads
    have mid : ∀ σ1 : st_S, σ1 a 1 = σ a 1 → σ1 a 5 = σ a 5 → σ1 (a + 3) = σ (a + 3) → (∀ c, c ≠ a → c ≠ a + 2 → σ1 c = σ c) → σ1 a 3 = (nK ln (k + 1) : Int) → (∀ l, l < nK ln (k + 1) → σ1 (a + 2) l = (fsk ln l t.1 0 : Int)) →
        ∃ σ', (∀ (K : Nat → st_S → Option st_S) (m : Nat), c < m → g_X6_numberLinesAndHeads_J63 (g_X6_numberLinesAndHeads_L12 K m) K a (k : Int) (r k) σ1 = K a σ') ∧ NM σ' a b wy r t t.1 ∧ ∀ c, (c < a ∨ a + 219 < c) → σ' c = σ c := by
      intro σ1 h1 h5 hh0 h2 h3 hl
      have new : nK hd (k + 1) = nK hd k + 1 → ∃ σ', (∀ (K : Nat → st_S → Option st_S) (m : Nat), c < m → g_X6_numberLinesAndHeads_J85 (g_X6_numberLinesAndHeads_L12 K m) K a (k : Int) (r k) σ1 = K a σ') ∧ NM σ' a b wy r t t.1 ∧ ∀ c, (c < a ∨ a + 219 < c) → σ' c = σ c := by
        intro en
        obtain ⟨σ', q1, q2, q3⟩ := fin (up2 (up2 σ1 a 5 ((nK hd k + 1 : Nat) : Int)) (a + 3) (nK hd k) (k : Int)) (by rw [up2_o _ _ (by omega), up2_ne _ _ (by omega)]; exact h1) (fun c q1 q2 q3 => by rw [up2_o _ _ q3, up2_o _ _ q1, h2 c q1 q2]) (by rw [up2_o _ _ (by omega), up2_ne _ _ (by omega)]; exact h3) (by rw [up2_o _ _ (by omega), up2_at, en]) (fun l hl' => by rw [up2_o _ _ (by omega), up2_o _ _ (by omega)]; exact hl l hl') (fun l hl' => by
          by_cases el : l = nK hd k
          · subst el
            rw [up2_at]
            have : fsk hd (nK hd k) t.1 0 = k := fsk_eq (by omega) (by omega) (fun j _ hj => nK_lt sth hj) (fun _ => by have : nK hd (k + 1) = hd k + 1 := rfl; omega)
            rw [this]
          · rw [up2_ne _ _ (by omega), up2_o _ _ (by omega), hh0]; exact nh l (by show l < nK hd k; omega))
        refine ⟨σ', fun K m hm => ?_, q2, q3⟩
        unfold g_X6_numberLinesAndHeads_J85
        have e5 : σ1 a 5 = (nK hd k : Int) := by rw [h5]; exact n5
        have le2' : nK hd k ≤ k := le2
        rw [e5, w32s (by omega), Option.bind_some, sa_st_of (by omega) (by omega), Option.bind_some, Int.toNat_natCast]
        exact q1 K m hm
      by_cases k0 : k = 0
      · obtain ⟨σ', q1, q2, q3⟩ := new (by subst k0; rfl)
        refine ⟨σ', fun K m hm => ?_, q2, q3⟩
        unfold g_X6_numberLinesAndHeads_J63
        rw [if_pos (by omega)]
        exact q1 K m hm
      · obtain ⟨k', rfl⟩ : ∃ k', k = k' + 1 := ⟨k - 1, by omega⟩
        have p1 := (hT.2.1.1 k' (by omega)).1
        have pok := (hT.2.1.1 k' (by omega)).2
        have p2 := sa_en_of (pok.en ha)
        unfold OkR at pok
        have l1 : σ1 (r (k' + 1)) 3 = (lw b (t.2 (k' + 1)) : Int) := by rw [h2 _ (by omega) (by omega)]; exact (hT.2.2 (k' + 1) (by omega)).2.2.2.2.1
        have l2 : σ1 (r k') 3 = (lw b (t.2 k') : Int) := by rw [h2 _ (by omega) (by omega)]; exact (hT.2.2 k' (by omega)).2.2.2.2.1
        have sl1 : σ1 (a + 1) k' = (r k' : Int) := by rw [h2 _ (by omega) (by omega)]; exact p1
        have run : ∀ (K : Nat → st_S → Option st_S) (m : Nat), g_X6_numberLinesAndHeads_J63 (g_X6_numberLinesAndHeads_L12 K m) K a ((k' + 1 : Nat) : Int) (r (k' + 1)) σ1 = if lw b (t.2 (k' + 1)) = lw b (t.2 k') then g_X6_numberLinesAndHeads_J102 (g_X6_numberLinesAndHeads_L12 K m) K a ((k' + 1 : Nat) : Int) (r (k' + 1)) σ1 else g_X6_numberLinesAndHeads_J85 (g_X6_numberLinesAndHeads_L12 K m) K a ((k' + 1 : Nat) : Int) (r (k' + 1)) σ1 := by
          intro K m
          unfold g_X6_numberLinesAndHeads_J63
          rw [if_neg (by omega), w32p (by omega), sa_ld_of (by omega) (by omega), Option.bind_some, Int.toNat_natCast, sl1, p2, Option.bind_some, l1, l2]
          by_cases z : lw b (t.2 (k' + 1)) = lw b (t.2 k')
          · rw [if_pos z, if_pos (by omega)]
          · rw [if_neg z, if_neg (by omega)]
        by_cases z : lw b (t.2 (k' + 1)) = lw b (t.2 k')
        · have en : nK hd (k' + 1 + 1) = nK hd (k' + 1) := by
            show hdK b t.2 (k' + 1) + 1 = hdK b t.2 k' + 1
            rw [hdK, if_pos z]
          obtain ⟨σ', q1, q2, q3⟩ := fin σ1 h1 (fun c q1 q2 _ => h2 c q1 q2) h3 (by rw [h5, en]; exact n5) hl (fun l hl' => by rw [hh0]; exact nh l (by rw [en] at hl'; exact hl'))
          refine ⟨σ', fun K m hm => ?_, q2, q3⟩
          rw [run, if_pos z]; exact q1 K m hm
        · obtain ⟨σ', q1, q2, q3⟩ := new (by
            show hdK b t.2 (k' + 1) + 1 = hdK b t.2 k' + 1 + 1
            rw [hdK, if_neg z])
          refine ⟨σ', fun K m hm => ?_, q2, q3⟩
          rw [run, if_neg z]; exact q1 K m hm
    -- lines
    have newl : nK ln (k + 1) = nK ln k + 1 → ∃ σ', (∀ (K : Nat → st_S → Option st_S) (m : Nat), c < m → g_X6_numberLinesAndHeads_J46 (g_X6_numberLinesAndHeads_L12 K m) K a (k : Int) (r k) σ = K a σ') ∧ NM σ' a b wy r t t.1 ∧ ∀ c, (c < a ∨ a + 219 < c) → σ' c = σ c := by
      intro en
      obtain ⟨σ', q1, q2, q3⟩ := mid (up2 (up2 σ a 3 ((nK ln k + 1 : Nat) : Int)) (a + 2) (nK ln k) (k : Int)) (by rw [up2_o _ _ (by omega), up2_ne _ _ (by omega)]) (by rw [up2_o _ _ (by omega), up2_ne _ _ (by omega)]) (by rw [up2_o _ _ (by omega), up2_o _ _ (by omega)]) (fun c q1 q2 => by rw [up2_o _ _ q2, up2_o _ _ q1]) (by rw [up2_o _ _ (by omega), up2_at, en]) (fun l hl' => by
        by_cases el : l = nK ln k
        · subst el
          rw [up2_at]
          have : fsk ln (nK ln k) t.1 0 = k := fsk_eq (by omega) (by omega) (fun j _ hj => nK_lt stl hj) (fun _ => by have : nK ln (k + 1) = ln k + 1 := rfl; omega)
          rw [this]
        · rw [up2_ne _ _ (by omega), up2_o _ _ (by omega)]; exact nl l (by show l < nK ln k; omega))
      refine ⟨σ', fun K m hm => ?_, q2, q3⟩
      unfold g_X6_numberLinesAndHeads_J46
      have e3 : σ a 3 = (nK ln k : Int) := n3
      have le1' : nK ln k ≤ k := le1
      rw [e3, w32s (by omega), Option.bind_some, sa_st_of (by omega) (by omega), Option.bind_some, Int.toNat_natCast]
      exact q1 K m hm
    by_cases k0 : k = 0
    · obtain ⟨σ', q1, q2, q3⟩ := newl (by subst k0; rfl)
      refine ⟨σ', fun K n hn => ?_, q2, q3⟩
      obtain ⟨m, rfl⟩ : ∃ m, n = m + 1 := ⟨n - 1, by omega⟩
      rw [g_X6_numberLinesAndHeads_L12, hT.1, if_neg (by omega), sa_ld_of (by omega) (by omega), Option.bind_some, Int.toNat_natCast, s1, s2, Option.bind_some, if_pos (by omega)]
      exact q1 K m (by omega)
    · obtain ⟨k', rfl⟩ : ∃ k', k = k' + 1 := ⟨k - 1, by omega⟩
      have p1 := (hT.2.1.1 k' (by omega)).1
      have pok := (hT.2.1.1 k' (by omega)).2
      have p2 := sa_en_of (pok.en ha)
      have hc := p2_compareWords ok (hT.2.2 (k' + 1) (by omega)).1 (hT.2.2 k' (by omega)).1 (hT.2.2 (k' + 1) (by omega)).2 (hT.2.2 k' (by omega)).2
      have run : ∀ (K : Nat → st_S → Option st_S) (m : Nat), g_X6_numberLinesAndHeads_L12 K (m + 1) a ((k' + 1 : Nat) : Int) σ = if cW b wy (t.2 (k' + 1)) (t.2 k') = 0 then g_X6_numberLinesAndHeads_J63 (g_X6_numberLinesAndHeads_L12 K m) K a ((k' + 1 : Nat) : Int) (r (k' + 1)) σ else g_X6_numberLinesAndHeads_J46 (g_X6_numberLinesAndHeads_L12 K m) K a ((k' + 1 : Nat) : Int) (r (k' + 1)) σ := by
        intro K m
        rw [g_X6_numberLinesAndHeads_L12, hT.1, if_neg (by omega), sa_ld_of (by omega) (by omega), Option.bind_some, Int.toNat_natCast, s1, s2, Option.bind_some, if_neg (by omega), w32p (by omega), sa_ld_of (by omega) (by omega), Option.bind_some, Int.toNat_natCast, p1, p2, Option.bind_some, hc, Option.bind_some]
      by_cases z : cW b wy (t.2 (k' + 1)) (t.2 k') = 0
      · have en : nK ln (k' + 1 + 1) = nK ln (k' + 1) := by
          show lnK b wy t.2 (k' + 1) + 1 = lnK b wy t.2 k' + 1
          rw [lnK, if_pos z]
        obtain ⟨σ', q1, q2, q3⟩ := mid σ rfl rfl rfl (fun _ _ _ => rfl) (by rw [en]; exact n3) (fun l hl' => nl l (by rw [en] at hl'; exact hl'))
        refine ⟨σ', fun K n hn => ?_, q2, q3⟩
        obtain ⟨m, rfl⟩ : ∃ m, n = m + 1 := ⟨n - 1, by omega⟩
        rw [run, if_pos z]; exact q1 K m (by omega)
      · obtain ⟨σ', q1, q2, q3⟩ := newl (by
          show lnK b wy t.2 (k' + 1) + 1 = lnK b wy t.2 k' + 1 + 1
          rw [lnK, if_neg z])
        refine ⟨σ', fun K n hn => ?_, q2, q3⟩
        obtain ⟨m, rfl⟩ : ∃ m, n = m + 1 := ⟨n - 1, by omega⟩
        rw [run, if_neg z]; exact q1 K m (by omega)
/-- a turning as it stands: entries in order, lines, heads -/
def nE (b : BV) (wy : Nat → Int) : Nat := (so b wy).1
def sE (b : BV) (wy : Nat → Int) : Nat → Nat × Nat := (so b wy).2
def lnO (b : BV) (wy : Nat → Int) : Nat → Nat := lnK b wy (sE b wy)
def hdO (b : BV) (wy : Nat → Int) : Nat → Nat := hdK b (sE b wy)
def nL (b : BV) (wy : Nat → Int) : Nat := nK (lnO b wy) (nE b wy)
def nH (b : BV) (wy : Nat → Int) : Nat := nK (hdO b wy) (nE b wy)
def lF (b : BV) (wy : Nat → Int) (l : Nat) : Nat := fsk (lnO b wy) l (nE b wy) 0
def hF (b : BV) (wy : Nat → Int) (l : Nat) : Nat := fsk (hdO b wy) l (nE b wy) 0
def TU (σ : st_S) (a : Nat) (b : BV) (wy : Nat → Int) : Prop := ∃ r, TS σ a b wy r (so b wy) ∧ σ a 3 = (nL b wy : Int) ∧ σ a 5 = (nH b wy : Int) ∧ (∀ l, l ≤ nL b wy → σ (a + 2) l = (lF b wy l : Int)) ∧ (∀ l, l ≤ nH b wy → σ (a + 3) l = (hF b wy l : Int)) ∧
  ∀ j, j < nE b wy → σ (r j) 9 = (lnO b wy j : Int) ∧ σ (r j) 10 = (hdO b wy j : Int)
theorem p6_number {a : Nat} (ha : isTu a = true) {b : BV} (ok : OkB b) {wy : Nat → Int} {r : Nat → Nat} {σ : st_S} (ht : nE b wy ≤ 72) (hT : TS σ a b wy r (so b wy)) :
    ∃ σ', g_X6_numberLinesAndHeads a σ = some σ' ∧ TU σ' a b wy ∧ ∀ c, (c < a ∨ a + 219 < c) → σ' c = σ c := by
  have har : a = 156 ∨ a = 376 := tu_of ha
  have f0 : ∀ c, c ≠ a → up2 (up2 σ a 3 0) a 5 0 c = σ c := fun c hc => by rw [up2_o _ _ hc, up2_o _ _ hc]
  have hN : NM (up2 (up2 σ a 3 0) a 5 0) a b wy r (so b wy) 0 := by
    refine ⟨hT.fr ht (by rw [up2_ne _ _ (by omega), up2_ne _ _ (by omega)]) (fun c q1 q2 q3 q4 f q5 q6 => by rw [f0 c (by omega)]) (f0 _ (by omega)) (fun k hk => ?_), by rw [up2_ne _ _ (by omega), up2_at]; rfl, by rw [up2_at]; rfl, fun l hl => absurd hl (Nat.not_lt_zero _), fun l hl => absurd hl (Nat.not_lt_zero _), fun j hj => absurd hj (Nat.not_lt_zero _)⟩
    have := (hT.2.1.1 k hk).2
    unfold OkR at this
    exact ⟨f0 _ (by omega), f0 _ (by omega)⟩
  obtain ⟨σ1, q1, ⟨t1, n3, n5, nl, nh, nj⟩, q3⟩ := p6_L12 ha ok ht (so b wy).1 0 _ (by omega) hN
  rw [show ((0 : Nat) : Int) = 0 from rfl] at q1
  have le1 : nL b wy ≤ nE b wy := nK_le (lnK_st b wy _) _
  have le2 : nH b wy ≤ nE b wy := nK_le (hdK_st b _) _
  have n3' : σ1 a 3 = (nL b wy : Int) := n3
  have n5' : σ1 a 5 = (nH b wy : Int) := n5
  have n1' : σ1 a 1 = (nE b wy : Int) := t1.1
  generalize hσ2 : up2 σ1 (a + 2) (nL b wy) (nE b wy : Int) = σ2
  generalize hσ3 : up2 σ2 (a + 3) (nH b wy) (nE b wy : Int) = σ3
  have f3 : ∀ c, c ≠ a + 2 → c ≠ a + 3 → σ3 c = σ1 c := fun c h1 h2 => by rw [← hσ3, ← hσ2, up2_o _ _ h2, up2_o _ _ h1]
  refine ⟨σ3, ?_, ⟨r, t1.fr ht (by rw [f3 _ (by omega) (by omega)]) (fun c x1 x2 x3 x4 f _ _ => by rw [f3 c x3 x4]) (f3 _ (by omega) (by omega)) (fun k hk => ?_), by rw [f3 _ (by omega) (by omega)]; exact n3, by rw [f3 _ (by omega) (by omega)]; exact n5, fun l hl => ?_, fun l hl => ?_, fun j hj => ?_⟩, fun c hc => by rw [f3 c (by omega) (by omega), q3 c hc, f0 c (by omega)]⟩
  · unfold g_X6_numberLinesAndHeads
    rw [Option.bind_some, Option.bind_some, q1 _ ab_FU (by show (so b wy).1 < 100000; have : (so b wy).1 ≤ 72 := ht; omega), n3', n1', sa_st_of (by omega) (by omega), Option.bind_some, Int.toNat_natCast, hσ2]
    have m5 : σ2 a 5 = (nH b wy : Int) := by rw [← hσ2, up2_o _ _ (by omega)]; exact n5'
    have m1 : σ2 a 1 = (nE b wy : Int) := by rw [← hσ2, up2_o _ _ (by omega)]; exact n1'
    rw [m5, m1, sa_st_of (by omega) (by omega), Option.bind_some, Int.toNat_natCast, hσ3]
  · have := (t1.2.1.1 k hk).2
    unfold OkR at this
    exact ⟨f3 _ (by omega) (by omega), f3 _ (by omega) (by omega)⟩
  · rw [← hσ3, up2_o _ _ (by omega), ← hσ2]
    by_cases el : l = nL b wy
    · subst el; rw [up2_at]
      have : lF b wy (nL b wy) = nE b wy := fsk_end (lnK_st b wy _) _
      rw [this]
    · rw [up2_ne _ _ (by omega)]; exact nl l (by show l < nL b wy; omega)
  · rw [← hσ3]
    by_cases el : l = nH b wy
    · subst el; rw [up2_at]
      have : hF b wy (nH b wy) = nE b wy := fsk_end (hdK_st b _) _
      rw [this]
    · rw [up2_ne _ _ (by omega), ← hσ2, up2_o _ _ (by omega)]; exact nh l (by show l < nH b wy; omega)
  · have := (t1.2.1.1 j (by have : nE b wy = (so b wy).1 := rfl; omega)).2
    unfold OkR at this
    rw [f3 _ (by omega) (by omega)]; exact nj j hj
theorem p6_turnAll {a a1 : Nat} (ha : isTu a = true) (h1a : a1 + 8 < 147) {b : BV} (ok : OkB b) {wy : Nat → Int} {r : Nat → Nat} {σ : st_S} (hS : SL σ a r) (hB : BK σ a1 b wy) (hT : T8 σ b) :
    ∃ σ', g_X6_turnAll a a1 σ = some σ' ∧ TU σ' a b wy ∧ nE b wy ≤ 72 ∧ ∀ c, (c < a ∨ a + 219 < c) → σ' c = σ c := by
  have har : a = 156 ∨ a = 376 := tu_of ha
  have o1 := ok.1
  have f0 : ∀ c, c ≠ a → up2 σ a 1 0 c = σ c := fun c hc => up2_o _ _ hc
  have hS0 : TS (up2 σ a 1 0) a b wy r (0, fun _ => (0, 0)) := ⟨up2_at _ _ _ _, ⟨fun k hk => by rw [f0 _ (by omega)]; exact hS.1 k hk, hS.2⟩, fun k hk => absurd hk (Nat.not_lt_zero _)⟩
  obtain ⟨σ1, r1, q1, q2, q3, q4⟩ := p6_L7 ha h1a ok (bn b) 0 (0, fun _ => (0, 0)) r _ (by omega) (by show 0 ≤ _; omega) hS0 (hB.fr (fun k hk => f0 _ (by omega))) (hT.fr (fun c _ _ => f0 _ (by omega)))
  rw [show ((0 : Nat) : Int) = 0 from rfl] at q1
  obtain ⟨σ2, k1, k2, k3⟩ := p6_number ha ok (r := r1) q3 q2
  refine ⟨σ2, ?_, k2, q3, fun c hc => by rw [k3 c hc, q4 c hc, f0 c (by omega)]⟩
  unfold g_X6_turnAll
  rw [Option.bind_some, q1 _ ab_FU (by show _ < 100000; omega), k1]; rfl
theorem TU.sl {σ : st_S} {a : Nat} {b : BV} {wy : Nat → Int} (h : TU σ a b wy) : ∃ r, SL σ a r := by
  obtain ⟨r, h, _⟩ := h; exact ⟨r, h.2.1⟩
