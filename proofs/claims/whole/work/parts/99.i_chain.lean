/-! words joined by strings: chain, groups -/
theorem hv_has {b : BV} {w s : Nat} : (hv b (w : Int) (-1)).testBit s = true ↔ hasW b w s := by
  rw [hv_bit]
  constructor
  · intro ⟨h1, i, h2, h3, _⟩; exact ⟨h1, i, h2, by omega⟩
  · intro ⟨h1, i, h2, h3⟩; exact ⟨h1, i, h2, by omega, Or.inl rfl⟩
theorem hasW_lt {b : BV} (ok : OkB b) {w s : Nat} (h : hasW b w s) : w < (wl b).1 := by
  obtain ⟨h1, i, h2, h3⟩ := h
  rw [← h3]; exact (tw_spec ok h1 h2).2.1
def adj (b : BV) (v w : Nat) : Prop := ∃ s, hasW b v s ∧ hasW b w s
def Rk (b : BV) (u : Nat) : Nat → Nat → Prop
  | 0, w => w = u
  | k + 1, w => ∃ v, Rk b u k v ∧ adj b v w
def lev (b : BV) (u k w : Nat) : Prop := Rk b u k w ∧ ∀ i, i < k → ¬ Rk b u i w
section CH
variable {b : BV} {u : Nat}
theorem adj_refl (ok : OkB b) {w : Nat} (h : w < (wl b).1) : adj b w w := by
  obtain ⟨s, v, h1, h2, h3⟩ := wd_in ok h
  exact ⟨s, ⟨h1, v, h2, h3⟩, ⟨h1, v, h2, h3⟩⟩
theorem Rk_lt (ok : OkB b) (hu : u < (wl b).1) : ∀ (k : Nat) {w : Nat}, Rk b u k w → w < (wl b).1
  | 0, _, h => by have h : _ = u := h; rw [h]; exact hu
  | _ + 1, _, ⟨_, _, _, _, h⟩ => hasW_lt ok h
theorem Rk_s (ok : OkB b) (hu : u < (wl b).1) {k w : Nat} (h : Rk b u k w) : Rk b u (k + 1) w := ⟨w, h, adj_refl ok (Rk_lt ok hu k h)⟩
theorem Rk_le (ok : OkB b) (hu : u < (wl b).1) {k w : Nat} (h : Rk b u k w) : ∀ d, Rk b u (k + d) w
  | 0 => h
  | d + 1 => Rk_s ok hu (Rk_le ok hu h d)
theorem Rk_mono (ok : OkB b) (hu : u < (wl b).1) {k l w : Nat} (h : Rk b u k w) (hl : k ≤ l) : Rk b u l w := by
  have := Rk_le ok hu h (l - k)
  rw [show k + (l - k) = l by omega] at this; exact this
theorem lev_ex : ∀ (k w : Nat), Rk b u k w → ∃ i, i ≤ k ∧ lev b u i w := by
  intro k
  induction k using Nat.strongRecOn with
  | ind k ih =>
    intro w h
    by_cases e : ∃ i, i < k ∧ Rk b u i w
    · obtain ⟨i, h1, h2⟩ := e
      obtain ⟨j, h3, h4⟩ := ih i h1 w h2
      exact ⟨j, by omega, h4⟩
    · exact ⟨k, Nat.le_refl _, h, fun i hi q => e ⟨i, hi, q⟩⟩
theorem lev_uniq {k l w : Nat} (h : lev b u k w) (h2 : lev b u l w) : k = l := by
  by_cases e : k < l
  · exact absurd h.1 (h2.2 k e)
  · by_cases e2 : l < k
    · exact absurd h2.1 (h.2 l e2)
    · omega
theorem lev_pre {k w : Nat} (h : lev b u (k + 1) w) : ∃ v s, lev b u k v ∧ hasW b v s ∧ hasW b w s := by
  obtain ⟨⟨v, h1, s, h2, h3⟩, h4⟩ := h
  exact ⟨v, s, ⟨h1, fun i hi q => h4 (i + 1) (by omega) ⟨v, q, s, h2, h3⟩⟩, h2, h3⟩
theorem lev_chain : ∀ (k w : Nat), lev b u k w → ∀ i, i < k → ∃ s v w, lev b u i v ∧ lev b u (i + 1) w ∧ hasW b v s ∧ hasW b w s := by
  intro k
  induction k with
  | zero => intro w _ i hi; exact absurd hi (Nat.not_lt_zero _)
  | succ k ih =>
    intro w h i hi
    obtain ⟨v, s, h1, h2, h3⟩ := lev_pre h
    by_cases e : i = k
    · subst e; exact ⟨s, v, w, h1, h, h2, h3⟩
    · exact ih v h1 i (by omega)
theorem lev_words : ∀ (k w : Nat), lev b u k w → ∀ i, i ≤ k → ∃ v, lev b u i v := by
  intro k w h i hi
  by_cases e : i = k
  · subst e; exact ⟨w, h⟩
  · obtain ⟨_, v, _, h1, _⟩ := lev_chain k w h i (by omega)
    exact ⟨v, h1⟩
theorem pick {P : Nat → Nat → Prop} {k : Nat} (h : ∀ i, i < k → ∃ x, P i x) : ∃ f : Nat → Nat, ∀ i, i < k → P i (f i) := by
  induction k with
  | zero => exact ⟨fun _ => 0, fun i hi => absurd hi (Nat.not_lt_zero _)⟩
  | succ k ih =>
    obtain ⟨f, hf⟩ := ih (fun i hi => h i (by omega))
    obtain ⟨x, hx⟩ := h k (by omega)
    refine ⟨fun i => if i = k then x else f i, fun i hi => ?_⟩
    show P i (if i = k then x else f i)
    by_cases e : i = k
    · rw [if_pos e, e]; exact hx
    · rw [if_neg e]; exact hf i (by omega)
theorem lev_le (ok : OkB b) {k w : Nat} (h : lev b u k w) : k ≤ 12 := by
  have o1 := ok.1
  by_cases e : k ≤ bn b
  · omega
  · obtain ⟨f, hf⟩ := pick (lev_chain k w h)
    obtain ⟨i, j, h1, h2, h3⟩ := php (bn b) f (fun j hj => by
      obtain ⟨v, w, _, _, q, _⟩ := hf j (by omega)
      exact q.1)
    obtain ⟨v, _, a1, _, a3, _⟩ := hf i (by omega)
    obtain ⟨_, w', _, a2, _, a4⟩ := hf j (by omega)
    rw [h3] at a3
    exact absurd (show Rk b u (i + 1) w' from ⟨v, a1.1, _, a3, a4⟩) (a2.2 (i + 1) (by omega))
theorem lev_ltW (ok : OkB b) (hu : u < (wl b).1) {k w : Nat} (h : lev b u k w) : k < (wl b).1 := by
  by_cases e : k < (wl b).1
  · exact e
  · obtain ⟨f, hf⟩ := pick (k := k + 1) (fun i hi => lev_words k w h i (by omega))
    obtain ⟨i, j, h1, h2, h3⟩ := php (wl b).1 f (fun j hj => Rk_lt ok hu j (hf j (by omega)).1)
    have a1 := hf i (by omega)
    have a2 := hf j (by omega)
    rw [h3] at a1
    have := lev_uniq a1 a2
    omega
/-- how far: -1 if never -/
def Dist (b : BV) (u w : Nat) (r : Int) : Prop := (r = -1 ∧ ∀ k, ¬ Rk b u k w) ∨ ∃ k, lev b u k w ∧ r = (k : Int)
theorem Dist.uniq {w : Nat} {r r' : Int} (h : Dist b u w r) (h2 : Dist b u w r') : r = r' := by
  rcases h with ⟨h1, h3⟩ | ⟨k, h1, h3⟩
  · rcases h2 with ⟨g1, _⟩ | ⟨l, g1, _⟩
    · rw [h1, g1]
    · exact absurd g1.1 (h3 l)
  · rcases h2 with ⟨g1, g3⟩ | ⟨l, g1, g3⟩
    · exact absurd h1.1 (g3 k)
    · rw [h3, g3, lev_uniq h1 g1]
/-! the class's sets of strings -/
def spr (b : BV) (m : Nat) : Nat → Nat → Nat → Nat
  | 0, _, a => a
  | c + 1, j, a => spr b m c (j + 1) (if hv b (j : Int) (-1) &&& m = 0 then a else a ||| hv b (j : Int) (-1))
theorem spr_lt (ok : OkB b) {m : Nat} : ∀ (c j a : Nat), a < 4096 → spr b m c j a < 4096 := by
  intro c
  induction c with
  | zero => intro j a h; exact h
  | succ c ih =>
    intro j a h
    rw [spr]
    refine ih (j + 1) _ ?_
    split
    · exact h
    · exact Nat.or_lt_two_pow (n := 12) h (hv_lt ok _ _)
theorem spr_bit {m s : Nat} : ∀ (c j a : Nat), (spr b m c j a).testBit s = true ↔ a.testBit s = true ∨ ∃ w, j ≤ w ∧ w < j + c ∧ hv b (w : Int) (-1) &&& m ≠ 0 ∧ hasW b w s := by
  intro c
  induction c with
  | zero =>
    intro j a
    rw [spr]
    exact ⟨fun h => Or.inl h, fun h => by
      rcases h with h | ⟨w, h1, h2, _⟩
      · exact h
      · omega⟩
  | succ c ih =>
    intro j a
    rw [spr, ih]
    by_cases e : hv b (j : Int) (-1) &&& m = 0
    · rw [if_pos e]
      constructor
      · rintro (h | ⟨w, h1, h2, h3⟩)
        · exact Or.inl h
        · exact Or.inr ⟨w, by omega, by omega, h3⟩
      · rintro (h | ⟨w, h1, h2, h3, h4⟩)
        · exact Or.inl h
        · by_cases z : w = j
          · rw [z] at h3; exact absurd e h3
          · exact Or.inr ⟨w, by omega, by omega, h3, h4⟩
    · rw [if_neg e, Nat.testBit_or, Bool.or_eq_true, hv_has]
      constructor
      · rintro ((h | h) | ⟨w, h1, h2, h3⟩)
        · exact Or.inl h
        · exact Or.inr ⟨j, Nat.le_refl _, by omega, e, h⟩
        · exact Or.inr ⟨w, by omega, by omega, h3⟩
      · rintro (h | ⟨w, h1, h2, h3, h4⟩)
        · exact Or.inl (Or.inl h)
        · by_cases z : w = j
          · rw [z] at h4; exact Or.inl (Or.inr h4)
          · exact Or.inr ⟨w, by omega, by omega, h3, h4⟩
def mkN (b : BV) (u : Nat) : Nat → Nat
  | 0 => hv b (u : Int) (-1)
  | k + 1 => spr b (mkN b u k) (wl b).1 0 (mkN b u k)
theorem mkN_lt (ok : OkB b) : ∀ k, mkN b u k < 4096
  | 0 => hv_lt ok _ _
  | k + 1 => spr_lt ok _ _ _ (mkN_lt ok k)
theorem mkN_bit (ok : OkB b) (hu : u < (wl b).1) {s : Nat} : ∀ k, (mkN b u k).testBit s = true ↔ ∃ v, Rk b u k v ∧ hasW b v s := by
  intro k
  induction k generalizing s with
  | zero =>
    rw [mkN, hv_has]
    exact ⟨fun h => ⟨u, rfl, h⟩, fun ⟨v, h1, h2⟩ => by have h1 : v = u := h1; rw [← h1]; exact h2⟩
  | succ k ih =>
    rw [mkN, spr_bit, ih]
    constructor
    · rintro (⟨v, h1, h2⟩ | ⟨w, _, h2, h3, h4⟩)
      · exact ⟨v, Rk_s ok hu h1, h2⟩
      · rw [nz_bit] at h3
        obtain ⟨t, ht⟩ := h3
        rw [Nat.testBit_and, Bool.and_eq_true, hv_has, ih] at ht
        obtain ⟨g1, v, g2, g3⟩ := ht
        exact ⟨w, ⟨v, g2, t, g3, g1⟩, h4⟩
    · intro ⟨w, ⟨v, h1, t, h2, h3⟩, h4⟩
      have hw := hasW_lt ok h4
      refine Or.inr ⟨w, by omega, by omega, nz_bit.mpr ⟨t, ?_⟩, h4⟩
      rw [Nat.testBit_and, Bool.and_eq_true, hv_has, ih]
      exact ⟨h3, v, h1, h2⟩
theorem mkN_test (ok : OkB b) (hu : u < (wl b).1) {k w : Nat} : mkN b u k &&& hv b (w : Int) (-1) ≠ 0 ↔ Rk b u (k + 1) w := by
  rw [nz_bit]
  constructor
  · intro ⟨s, hs⟩
    rw [Nat.testBit_and, Bool.and_eq_true, mkN_bit ok hu, hv_has] at hs
    obtain ⟨⟨v, h1, h2⟩, h3⟩ := hs
    exact ⟨v, h1, s, h2, h3⟩
  · intro ⟨v, h1, s, h2, h3⟩
    refine ⟨s, ?_⟩
    rw [Nat.testBit_and, Bool.and_eq_true, mkN_bit ok hu, hv_has]
    exact ⟨⟨v, h1, h2⟩, h3⟩
def stG (b : BV) (u w : Nat) : Nat → Nat → Int
  | 0, _ => -1
  | c + 1, k => if mkN b u k &&& hv b (w : Int) (-1) = 0 then stG b u w c (k + 1) else ((k + 1 : Nat) : Int)
theorem stG_dist (ok : OkB b) (hu : u < (wl b).1) {w : Nat} : ∀ (c k : Nat), k + c = 12 → (∀ i, i ≤ k → ¬ Rk b u i w) → Dist b u w (stG b u w c k) := by
  intro c
  induction c with
  | zero =>
    intro k hk h
    refine Or.inl ⟨rfl, fun l q => ?_⟩
    obtain ⟨i, _, h2⟩ := lev_ex l w q
    exact h i (by have := lev_le ok h2; omega) h2.1
  | succ c ih =>
    intro k hk h
    rw [stG]
    by_cases e : mkN b u k &&& hv b (w : Int) (-1) = 0
    · rw [if_pos e]
      refine ih (k + 1) (by omega) (fun i hi => ?_)
      by_cases z : i = k + 1
      · rw [z]; exact fun q => (mkN_test ok hu).mpr q e
      · exact h i (by omega)
    · rw [if_neg e]
      exact Or.inr ⟨k + 1, ⟨(mkN_test ok hu).mp e, fun i hi => h i (by omega)⟩, rfl⟩
def dS (b : BV) (u w : Nat) : Int := if u = w then 0 else stG b u w 12 0
theorem dS_dist (ok : OkB b) (hu : u < (wl b).1) {w : Nat} : Dist b u w (dS b u w) := by
  unfold dS
  by_cases e : u = w
  · rw [if_pos e]
    exact Or.inr ⟨0, ⟨e.symm, fun i hi => absurd hi (Nat.not_lt_zero _)⟩, rfl⟩
  · rw [if_neg e]
    refine stG_dist ok hu 12 0 rfl (fun i hi q => ?_)
    have : i = 0 := by omega
    subst this
    exact e (show w = u from q).symm
end CH
section C8
variable {σ : st_S} {b : BV}
theorem p7_spread (ok : OkB b) (hW : Wd8 σ b) {a : Nat} (ha : a < 4096) : g_X7_spread (a : Int) σ = some ((spr b a (wl b).1 0 a : Int), σ) := by
  have wle := wl_le ok
  have W0 : σ 147 0 = ((wl b).1 : Int) := by obtain ⟨M, hM, _⟩ := hW; exact hM.1
  have key : ∀ (c n j v : Nat), j + c = (wl b).1 → v < 4096 → c < n → g_X7_spread_L4 n (a : Int) (v : Int) (j : Int) σ = some ((spr b a c j v : Int), σ) := by
    intro c
    induction c with
    | zero =>
      intro n j v hj hv hn
      obtain ⟨m, rfl⟩ : ∃ m, n = m + 1 := ⟨n - 1, by omega⟩
      rw [g_X7_spread_L4, W0, if_pos (by omega)]; rfl
    | succ c ih =>
      intro n j v hj hv' hn
      have e1 := (hW.m ok (show j < (wl b).1 by omega)).2
      have hl := hv_lt ok (j : Int) (-1)
      obtain ⟨m, rfl⟩ : ∃ m, n = m + 1 := ⟨n - 1, by omega⟩
      rw [g_X7_spread_L4, W0, if_neg (by omega), sa_ld_of (by omega) (by omega), Option.bind_some, Int.toNat_natCast, e1, and_nat (by omega) (by omega), spr]
      unfold g_X7_spread_J32
      rw [w32s (by omega)]
      by_cases e : hv b (j : Int) (-1) &&& a = 0
      · rw [e, if_pos (show ((0 : Nat) : Int) = 0 from rfl), if_pos rfl]; exact ih m (j + 1) v (by omega) hv' (by omega)
      · rw [if_neg (by omega), if_neg e, Option.bind_some, or_nat (by omega) (by omega)]
        exact ih m (j + 1) _ (by omega) (Nat.or_lt_two_pow (n := 12) hv' hl) (by omega)
  exact key (wl b).1 ab_FU 0 a (by omega) ha (by show _ < 100000; omega)
theorem p7_stepsBetween (ok : OkB b) (hW : Wd8 σ b) {u w : Nat} (hu : u < (wl b).1) (hw : w < (wl b).1) : g_X7_stepsBetween (u : Int) (w : Int) σ = some (stG b u w 12 0, σ) := by
  have wle := wl_le ok
  have e1 := (hW.m ok hu).2
  have e2 := (hW.m ok hw).2
  have hl := hv_lt ok (w : Int) (-1)
  have key : ∀ (c n k : Nat), k + c = 12 → c < n → g_X7_stepsBetween_L10 n (w : Int) (mkN b u k : Int) ((k + 1 : Nat) : Int) σ = some (stG b u w c k, σ) := by
    intro c
    induction c with
    | zero =>
      intro n k hk hn
      obtain ⟨m, rfl⟩ : ∃ m, n = m + 1 := ⟨n - 1, by omega⟩
      rw [g_X7_stepsBetween_L10, if_pos (by omega)]; rfl
    | succ c ih =>
      intro n k hk hn
      have ml := mkN_lt (b := b) (u := u) ok k
      obtain ⟨m, rfl⟩ : ∃ m, n = m + 1 := ⟨n - 1, by omega⟩
      rw [g_X7_stepsBetween_L10, if_neg (by omega), sa_ld_of (by omega) (by omega), Option.bind_some, Int.toNat_natCast, e2, and_nat (by omega) (by omega), stG]
      by_cases e : mkN b u k &&& hv b (w : Int) (-1) = 0
      · rw [e, if_pos (show ((0 : Nat) : Int) = 0 from rfl), if_pos rfl, p7_spread ok hW ml, Option.bind_some]
        dsimp only
        rw [w32s (by omega)]
        exact ih m (k + 1) (by omega) (by omega)
      · rw [if_neg (by omega), if_neg e]
  unfold g_X7_stepsBetween
  rw [sa_ld_of (by omega) (by omega), Option.bind_some, Int.toNat_natCast, e1]
  exact key 12 ab_FU 0 rfl (by show _ < 100000; omega)
theorem p7_groupOf (ok : OkB b) (hW : Wd8 σ b) {u : Nat} (hu : u < (wl b).1) : g_X7_groupOf (u : Int) σ = some ((mkN b u 12 : Int), σ) := by
  have wle := wl_le ok
  have e1 := (hW.m ok hu).2
  have key : ∀ (c n k : Nat), k + c = 12 → c < n → g_X7_groupOf_L9 n (mkN b u k : Int) (k : Int) σ = some ((mkN b u 12 : Int), σ) := by
    intro c
    induction c with
    | zero =>
      intro n k hk hn
      obtain ⟨m, rfl⟩ : ∃ m, n = m + 1 := ⟨n - 1, by omega⟩
      rw [g_X7_groupOf_L9, if_pos (by omega), show k = 12 by omega]
    | succ c ih =>
      intro n k hk hn
      have ml := mkN_lt (b := b) (u := u) ok k
      obtain ⟨m, rfl⟩ : ∃ m, n = m + 1 := ⟨n - 1, by omega⟩
      rw [g_X7_groupOf_L9, if_neg (by omega), p7_spread ok hW ml, Option.bind_some]
      dsimp only
      rw [w32s (by omega)]
      exact ih m (k + 1) (by omega) (by omega)
  unfold g_X7_groupOf
  rw [sa_ld_of (by omega) (by omega), Option.bind_some, Int.toNat_natCast, e1]
  exact key 12 ab_FU 0 rfl (by show _ < 100000; omega)
end C8
/-! the reference -/
def Fr613 (σ σ' : st_S) : Prop := ∀ c, c ≠ 613 → σ' c = σ c
section C9s
variable {b : BV}
theorem p9_far_L58 {σ : st_S} (ok : OkB b) (hB : RB9 σ 597 0 b) (hW : Wd9 σ b) {s d : Nat} (hs : s < bn b) : ∀ (c i : Nat) (x : Int), i + c = bsz b s → (x = 0 ∧ (∀ j, j < i → σ 613 (tw b s j) ≠ (d : Int)) ∨ x = 1 ∧ ∃ j, j < i ∧ σ 613 (tw b s j) = (d : Int)) →
    ∃ x' : Int, (x' = 0 ∧ (∀ j, j < bsz b s → σ 613 (tw b s j) ≠ (d : Int)) ∨ x' = 1 ∧ ∃ j, j < bsz b s ∧ σ 613 (tw b s j) = (d : Int)) ∧ ∀ (K : Int → Int → Int → st_S → Option st_S) n, c < n → g_X9_laysFar_L58 K n (d : Int) (s : Int) x (i : Int) σ = K (d : Int) (s : Int) x' σ := by
  have o1 := ok.1
  have o2 := ok.2.1 s hs
  have wle := wl_le ok
  intro c
  induction c with
  | zero =>
    intro i x hi h
    have e : i = bsz b s := by omega
    rw [e] at h
    refine ⟨x, h, fun K n hn => ?_⟩
    obtain ⟨m, rfl⟩ : ∃ m, n = m + 1 := ⟨n - 1, by omega⟩
    rw [g_X9_laysFar_L58, p9_terms hB ok hs, Option.bind_some]
    dsimp only
    rw [if_pos (by omega)]
  | succ c ih =>
    intro i x hi h
    have t := (tw_spec ok hs (show i < bsz b s by omega)).2.1
    have e6 : σ 601 (6 * s + i) = (tw b s i : Int) := hW.2 s hs i (by omega)
    rcases h with ⟨rfl, h⟩ | ⟨rfl, h⟩
    · by_cases e : σ 613 (tw b s i) = (d : Int)
      · obtain ⟨x', q1, q2⟩ := ih (i + 1) 1 (by omega) (Or.inr ⟨rfl, i, by omega, e⟩)
        refine ⟨x', q1, fun K n hn => ?_⟩
        obtain ⟨m, rfl⟩ : ∃ m, n = m + 1 := ⟨n - 1, by omega⟩
        rw [g_X9_laysFar_L58, p9_terms hB ok hs, Option.bind_some]
        dsimp only
        rw [if_neg (by omega), if_pos rfl, p9_place (by omega) (by omega), Option.bind_some]
        dsimp only
        rw [sa_ld_of (by omega) (by omega), Option.bind_some, Int.toNat_natCast, e6, sa_ld_of (by omega) (by omega), Option.bind_some, Int.toNat_natCast, if_pos e]
        unfold g_X9_laysFar_J93 g_X9_laysFar_J98
        rw [w32s (by omega)]
        exact q2 K m (by omega)
      · obtain ⟨x', q1, q2⟩ := ih (i + 1) 0 (by omega) (Or.inl ⟨rfl, fun j hj => by
          by_cases z : j = i
          · rw [z]; exact e
          · exact h j (by omega)⟩)
        refine ⟨x', q1, fun K n hn => ?_⟩
        obtain ⟨m, rfl⟩ : ∃ m, n = m + 1 := ⟨n - 1, by omega⟩
        rw [g_X9_laysFar_L58, p9_terms hB ok hs, Option.bind_some]
        dsimp only
        rw [if_neg (by omega), if_pos rfl, p9_place (by omega) (by omega), Option.bind_some]
        dsimp only
        rw [sa_ld_of (by omega) (by omega), Option.bind_some, Int.toNat_natCast, e6, sa_ld_of (by omega) (by omega), Option.bind_some, Int.toNat_natCast, if_neg e]
        unfold g_X9_laysFar_J98
        rw [w32s (by omega)]
        exact q2 K m (by omega)
    · obtain ⟨j, h1, h2⟩ := h
      obtain ⟨x', q1, q2⟩ := ih (i + 1) 1 (by omega) (Or.inr ⟨rfl, j, by omega, h2⟩)
      refine ⟨x', q1, fun K n hn => ?_⟩
      obtain ⟨m, rfl⟩ : ∃ m, n = m + 1 := ⟨n - 1, by omega⟩
      rw [g_X9_laysFar_L58, p9_terms hB ok hs, Option.bind_some]
      dsimp only
      rw [if_neg (by omega), if_neg one0]
      unfold g_X9_laysFar_J93 g_X9_laysFar_J98
      rw [w32s (by omega)]
      exact q2 K m (by omega)
theorem p9_far_L109 (ok : OkB b) {s d : Nat} (hs : s < bn b) (hd : d < 1000) : ∀ (c i : Nat) (σ : st_S), i + c = bsz b s → RB9 σ 597 0 b → Wd9 σ b →
    ∃ σ', (∀ (K : Int → Int → st_S → Option st_S) n, c < n → g_X9_laysFar_L109 K n (d : Int) (s : Int) 1 (i : Int) σ = K (d : Int) (s : Int) σ') ∧ Fr613 σ σ' ∧ ∀ j, (σ 613 j ≠ -1 → σ' 613 j = σ 613 j) ∧ (σ 613 j = -1 → (∃ k, i ≤ k ∧ k < bsz b s ∧ tw b s k = j) → σ' 613 j = ((d + 1 : Nat) : Int)) ∧ (σ 613 j = -1 → ¬ (∃ k, i ≤ k ∧ k < bsz b s ∧ tw b s k = j) → σ' 613 j = -1) := by
  have o1 := ok.1
  have o2 := ok.2.1 s hs
  have wle := wl_le ok
  intro c
  induction c with
  | zero =>
    intro i σ hi hB hW
    refine ⟨σ, fun K n hn => ?_, fun _ _ => rfl, fun j => ⟨fun _ => rfl, fun _ ⟨k, h1, h2, _⟩ => by omega, fun h _ => h⟩⟩
    obtain ⟨m, rfl⟩ : ∃ m, n = m + 1 := ⟨n - 1, by omega⟩
    rw [g_X9_laysFar_L109, p9_terms hB ok hs, Option.bind_some]
    dsimp only
    rw [if_pos (by omega)]
  | succ c ih =>
    intro i σ hi hB hW
    have t := (tw_spec ok hs (show i < bsz b s by omega)).2.1
    have e6 : σ 601 (6 * s + i) = (tw b s i : Int) := hW.2 s hs i (by omega)
    by_cases e : σ 613 (tw b s i) = -1
    · have fr : Fr613 σ (up2 σ 613 (tw b s i) ((d + 1 : Nat) : Int)) := fun c x => up2_o _ _ x
      obtain ⟨σ', q1, q2, q3⟩ := ih (i + 1) (up2 σ 613 (tw b s i) ((d + 1 : Nat) : Int)) (by omega) (hB.fr (fr _ (by decide))) (hW.fr (by rw [fr _ (by decide)]) (fr _ (by decide)) (fr _ (by decide)))
      refine ⟨σ', fun K n hn => ?_, fun c x => by rw [q2 c x, fr c x], fun j => ?_⟩
      · obtain ⟨m, rfl⟩ : ∃ m, n = m + 1 := ⟨n - 1, by omega⟩
        rw [g_X9_laysFar_L109, p9_terms hB ok hs, Option.bind_some]
        dsimp only
        rw [if_neg (by omega), if_neg one0, p9_place (by omega) (by omega), Option.bind_some]
        dsimp only
        rw [sa_ld_of (by omega) (by omega), Option.bind_some, Int.toNat_natCast, e6, sa_ld_of (by omega) (by omega), Option.bind_some, Int.toNat_natCast, if_pos e, p9_place (by omega) (by omega), Option.bind_some]
        dsimp only
        rw [sa_ld_of (by omega) (by omega), Option.bind_some, Int.toNat_natCast, e6, w32s (by omega), sa_st_of (by omega) (by omega), Option.bind_some, Int.toNat_natCast]
        unfold g_X9_laysFar_J163
        rw [w32s (by omega)]
        exact q1 K m (by omega)
      · by_cases z : j = tw b s i
        · have at1 : up2 σ 613 (tw b s i) ((d + 1 : Nat) : Int) 613 j = ((d + 1 : Nat) : Int) := by rw [z, up2_at]
          have k1 := (q3 j).1 (by rw [at1]; omega)
          rw [at1] at k1
          exact ⟨fun h => absurd (by rw [z]; exact e) h, fun _ _ => k1, fun _ h => absurd ⟨i, Nat.le_refl _, by omega, z.symm⟩ h⟩
        · have at1 : up2 σ 613 (tw b s i) ((d + 1 : Nat) : Int) 613 j = σ 613 j := up2_ne _ _ (fun q => z q.2)
          have k3 := q3 j
          rw [at1] at k3
          refine ⟨k3.1, fun h ⟨k, h1, h2, h3⟩ => k3.2.1 h ⟨k, ?_, h2, h3⟩, fun h h1 => k3.2.2 h (fun ⟨k, g1, g2, g3⟩ => h1 ⟨k, by omega, g2, g3⟩)⟩
          by_cases y : k = i
          · rw [y] at h3; exact absurd h3.symm z
          · omega
    · obtain ⟨σ', q1, q2, q3⟩ := ih (i + 1) σ (by omega) hB hW
      refine ⟨σ', fun K n hn => ?_, q2, fun j => ⟨(q3 j).1, fun h ⟨k, h1, h2, h3⟩ => (q3 j).2.1 h ⟨k, ?_, h2, h3⟩, fun h h1 => (q3 j).2.2 h (fun ⟨k, g1, g2, g3⟩ => h1 ⟨k, by omega, g2, g3⟩)⟩⟩
      · obtain ⟨m, rfl⟩ : ∃ m, n = m + 1 := ⟨n - 1, by omega⟩
        rw [g_X9_laysFar_L109, p9_terms hB ok hs, Option.bind_some]
        dsimp only
        rw [if_neg (by omega), if_neg one0, p9_place (by omega) (by omega), Option.bind_some]
        dsimp only
        rw [sa_ld_of (by omega) (by omega), Option.bind_some, Int.toNat_natCast, e6, sa_ld_of (by omega) (by omega), Option.bind_some, Int.toNat_natCast, if_neg e]
        unfold g_X9_laysFar_J163
        rw [w32s (by omega)]
        exact q1 K m (by omega)
      · by_cases y : k = i
        · rw [y] at h3; rw [h3] at e; exact absurd h e
        · omega
/-- a string that has a word at d -/
def atD (b : BV) (σ : st_S) (d t : Nat) : Prop := ∃ v, σ 613 v = (d : Int) ∧ hasW b v t
theorem p9_far_L44 (ok : OkB b) {d : Nat} (hd : d < 1000) : ∀ (c s : Nat) (σ : st_S), s + c = bn b → RB9 σ 597 0 b → Wd9 σ b →
    ∃ σ', (∀ (K : Int → st_S → Option st_S) n, c < n → g_X9_laysFar_L44 K n (d : Int) (s : Int) σ = K (d : Int) σ') ∧ Fr613 σ σ' ∧ ∀ j, (σ 613 j ≠ -1 → σ' 613 j = σ 613 j) ∧ (σ 613 j = -1 → (∃ t, s ≤ t ∧ atD b σ d t ∧ hasW b j t) → σ' 613 j = ((d + 1 : Nat) : Int)) ∧ (σ 613 j = -1 → ¬ (∃ t, s ≤ t ∧ atD b σ d t ∧ hasW b j t) → σ' 613 j = -1) := by
  have o1 := ok.1
  intro c
  induction c with
  | zero =>
    intro s σ hs hB hW
    refine ⟨σ, fun K n hn => ?_, fun _ _ => rfl, fun j => ⟨fun _ => rfl, fun _ ⟨t, h1, _, h3⟩ => by have := h3.1; omega, fun h _ => h⟩⟩
    obtain ⟨m, rfl⟩ : ∃ m, n = m + 1 := ⟨n - 1, by omega⟩
    rw [g_X9_laysFar_L44, p9_strings hB ok, Option.bind_some]
    dsimp only
    rw [if_pos (by omega)]
  | succ c ih =>
    intro s σ hs hB hW
    have o2 := ok.2.1 s (by omega)
    obtain ⟨x, x1, x2⟩ := p9_far_L58 (d := d) ok hB hW (show s < bn b by omega) (bsz b s) 0 0 (by omega) (Or.inl ⟨rfl, fun j hj => absurd hj (Nat.not_lt_zero _)⟩)
    -- after this string
    have mid : ∃ σ1, (∀ (K : Int → Int → st_S → Option st_S), g_X9_laysFar_L109 K ab_FU (d : Int) (s : Int) x 0 σ = K (d : Int) (s : Int) σ1) ∧ Fr613 σ σ1 ∧ ∀ j, (σ 613 j ≠ -1 → σ1 613 j = σ 613 j) ∧ (σ 613 j = -1 → (atD b σ d s ∧ hasW b j s) → σ1 613 j = ((d + 1 : Nat) : Int)) ∧ (σ 613 j = -1 → ¬ (atD b σ d s ∧ hasW b j s) → σ1 613 j = -1) := by
      rcases x1 with ⟨rfl, h⟩ | ⟨rfl, h⟩
      · refine ⟨σ, fun K => ?_, fun _ _ => rfl, fun j => ⟨fun _ => rfl, fun _ ⟨⟨v, g1, g2, i, g3, g4⟩, _⟩ => ?_, fun q _ => q⟩⟩
        · rw [show ab_FU = 99999 + 1 from rfl, g_X9_laysFar_L109, p9_terms hB ok (by omega), Option.bind_some]
          dsimp only
          rw [if_neg (by omega), if_pos rfl]
        · rw [← g4] at g1; exact absurd g1 (h i g3)
      · obtain ⟨σ1, q1, q2, q3⟩ := p9_far_L109 ok (show s < bn b by omega) hd (bsz b s) 0 σ (by omega) hB hW
        obtain ⟨i, g1, g2⟩ := h
        refine ⟨σ1, fun K => q1 K ab_FU (by show _ < 100000; omega), q2, fun j => ⟨(q3 j).1, fun h ⟨_, _, k, y1, y2⟩ => (q3 j).2.1 h ⟨k, by omega, y1, y2⟩, fun h y => (q3 j).2.2 h (fun ⟨k, _, y1, y2⟩ => y ⟨⟨_, g2, by omega, i, g1, rfl⟩, by omega, k, y1, y2⟩)⟩⟩
    obtain ⟨σ1, a1, a2, a3⟩ := mid
    obtain ⟨σ', q1, q2, q3⟩ := ih (s + 1) σ1 (by omega) (hB.fr (a2 _ (by decide))) (hW.fr (by rw [a2 _ (by decide)]) (a2 _ (by decide)) (a2 _ (by decide)))
    have atE : ∀ t, atD b σ1 d t ↔ atD b σ d t := by
      intro t
      have pt : ∀ v, σ1 613 v = (d : Int) ↔ σ 613 v = (d : Int) := by
        intro v
        obtain ⟨b1, b2, b3⟩ := a3 v
        by_cases z : σ 613 v = -1
        · by_cases y : atD b σ d s ∧ hasW b v s
          · rw [b2 z y, z]; omega
          · rw [b3 z y, z]
        · rw [b1 z]
      exact ⟨fun ⟨v, h1, h2⟩ => ⟨v, (pt v).mp h1, h2⟩, fun ⟨v, h1, h2⟩ => ⟨v, (pt v).mpr h1, h2⟩⟩
    refine ⟨σ', fun K n hn => ?_, fun c x => by rw [q2 c x, a2 c x], fun j => ?_⟩
    · obtain ⟨m, rfl⟩ : ∃ m, n = m + 1 := ⟨n - 1, by omega⟩
      rw [g_X9_laysFar_L44, p9_strings hB ok, Option.bind_some]
      dsimp only
      rw [if_neg (by omega)]
      refine (x2 _ ab_FU (by show _ < 100000; omega)).trans ?_
      rw [a1]
      unfold g_X9_laysFar_J169
      rw [w32s (by omega)]
      exact q1 K m (by omega)
    · obtain ⟨b1, b2, b3⟩ := a3 j
      obtain ⟨c1, c2, c3⟩ := q3 j
      refine ⟨fun h => by rw [c1 (by rw [b1 h]; exact h), b1 h], fun h ⟨t, h1, h2, h3⟩ => ?_, fun h h1 => ?_⟩
      · by_cases y : atD b σ d s ∧ hasW b j s
        · have z := b2 h y
          rw [c1 (by rw [z]; omega), z]
        · refine c2 (b3 h y) ⟨t, ?_, (atE t).mpr h2, h3⟩
          by_cases w : t = s
          · rw [w] at h2 h3; exact absurd ⟨h2, h3⟩ y
          · omega
      · refine c3 (b3 h (fun y => h1 ⟨s, Nat.le_refl _, y⟩)) (fun ⟨t, y1, y2, y3⟩ => h1 ⟨t, by omega, (atE t).mp y2, y3⟩)
def FarI (b : BV) (u : Nat) (σ : st_S) (d : Nat) : Prop := ∀ j, j < (wl b).1 → (σ 613 j = -1 ∧ ∀ k, k ≤ d → ¬ Rk b u k j) ∨ ∃ k, k ≤ d ∧ lev b u k j ∧ σ 613 j = (k : Int)
theorem p9_far_L34 (ok : OkB b) {u : Nat} (hu : u < (wl b).1) : ∀ (c d : Nat) (σ : st_S), d + c = (wl b).1 → RB9 σ 597 0 b → Wd9 σ b → FarI b u σ d →
    ∃ σ', (∀ n, c < n → g_X9_laysFar_L34 n (d : Int) σ = some σ') ∧ FarI b u σ' (wl b).1 ∧ Fr613 σ σ' := by
  have o1 := ok.1
  have wle := wl_le ok
  intro c
  induction c with
  | zero =>
    intro d σ hd hB hW h
    refine ⟨σ, fun n hn => ?_, by rw [← show d = (wl b).1 by omega]; exact h, fun _ _ => rfl⟩
    obtain ⟨m, rfl⟩ : ∃ m, n = m + 1 := ⟨n - 1, by omega⟩
    rw [g_X9_laysFar_L34, hW.1.1, if_pos (by omega)]
  | succ c ih =>
    intro d σ hd hB hW h
    obtain ⟨σ1, a1, a2, a3⟩ := p9_far_L44 (d := d) ok (by omega) (bn b) 0 σ (by omega) hB hW
    obtain ⟨σ', q1, q2, q3⟩ := ih (d + 1) σ1 (by omega) (hB.fr (a2 _ (by decide))) (hW.fr (by rw [a2 _ (by decide)]) (a2 _ (by decide)) (a2 _ (by decide))) (fun j hj => by
      obtain ⟨b1, b2, b3⟩ := a3 j
      rcases h j hj with ⟨h1, h2⟩ | ⟨k, h1, h2, h3⟩
      · by_cases y : ∃ t, 0 ≤ t ∧ atD b σ d t ∧ hasW b j t
        · obtain ⟨t, _, ⟨v, y1, y2⟩, y3⟩ := y
          refine Or.inr ⟨d + 1, Nat.le_refl _, ⟨⟨v, ?_, t, y2, y3⟩, fun i hi => h2 i (by omega)⟩, b2 h1 ⟨t, Nat.zero_le _, ⟨v, y1, y2⟩, y3⟩⟩
          rcases h v (hasW_lt ok y2) with ⟨g1, _⟩ | ⟨k, _, g2, g3⟩
          · omega
          · rw [show d = k by omega]; exact g2.1
        · refine Or.inl ⟨b3 h1 y, fun k hk q => ?_⟩
          by_cases z : k = d + 1
          · subst z
            obtain ⟨v, g1, t, g2, g3⟩ := q
            rcases h v (hasW_lt ok g2) with ⟨_, f2⟩ | ⟨k, f1, f2, f3⟩
            · exact f2 d (Nat.le_refl _) g1
            · by_cases w : k = d
              · subst w; exact y ⟨t, Nat.zero_le _, ⟨v, f3, g2⟩, g3⟩
              · exact h2 (k + 1) (by omega) ⟨v, f2.1, t, g2, g3⟩
          · exact h2 k (by omega) q
      · exact Or.inr ⟨k, by omega, h2, by rw [b1 (by omega)]; exact h3⟩)
    refine ⟨σ', fun n hn => ?_, q2, fun c x => by rw [q3 c x, a2 c x]⟩
    obtain ⟨m, rfl⟩ : ∃ m, n = m + 1 := ⟨n - 1, by omega⟩
    rw [g_X9_laysFar_L34, hW.1.1, if_neg (by omega)]
    refine (a1 _ ab_FU (by show _ < 100000; omega)).trans ?_
    rw [w32s (by omega)]
    exact q1 m (by omega)
theorem p9_laysFar {σ : st_S} (ok : OkB b) (hB : RB9 σ 597 0 b) (hW : Wd9 σ b) {u : Nat} (hu : u < (wl b).1) : ∃ σ', g_X9_laysFar (u : Int) σ = some σ' ∧ (∀ j, j < (wl b).1 → σ' 613 j = dS b u j) ∧ Fr613 σ σ' := by
  have wle := wl_le ok
  have key : ∀ (K : st_S → Option st_S) (c j : Nat) (σ : st_S), j + c = (wl b).1 → σ 596 14 = ((wl b).1 : Int) → (∀ k, k < j → σ 613 k = if k = u then 0 else -1) → ∃ σ', (∀ n, c < n → g_X9_laysFar_L2 K n (u : Int) (j : Int) σ = K σ') ∧ (∀ k, k < (wl b).1 → σ' 613 k = if k = u then 0 else -1) ∧ Fr613 σ σ' := by
    intro K c
    induction c with
    | zero =>
      intro j σ hj h14 h
      refine ⟨σ, fun n hn => ?_, fun k hk => h k (by omega), fun _ _ => rfl⟩
      obtain ⟨m, rfl⟩ : ∃ m, n = m + 1 := ⟨n - 1, by omega⟩
      rw [g_X9_laysFar_L2, h14, if_pos (by omega)]
    | succ c ih =>
      intro j σ hj h14 h
      have fr : Fr613 σ (up2 σ 613 j (if j = u then 0 else -1)) := fun c x => up2_o _ _ x
      obtain ⟨σ', q1, q2, q3⟩ := ih (j + 1) (up2 σ 613 j (if j = u then 0 else -1)) (by omega) (by rw [fr 596 (by decide)]; exact h14) (fun k hk => by
        by_cases z : k = j
        · rw [z, up2_at]
        · rw [up2_ne _ _ (fun q => z q.2)]; exact h k (by omega))
      refine ⟨σ', fun n hn => ?_, q2, fun c x => by rw [q3 c x, fr c x]⟩
      obtain ⟨m, rfl⟩ : ∃ m, n = m + 1 := ⟨n - 1, by omega⟩
      rw [g_X9_laysFar_L2, h14, if_neg (by omega)]
      unfold g_X9_laysFar_J25
      by_cases z : j = u
      · rw [if_pos (by omega), sa_st_of (by omega) (by omega), Option.bind_some, Int.toNat_natCast, w32s (by omega)]
        have := q1 m (by omega)
        rw [if_pos z] at this
        exact this
      · rw [if_neg (by omega), sa_st_of (by omega) (by omega), Option.bind_some, Int.toNat_natCast, w32s (by omega)]
        have := q1 m (by omega)
        rw [if_neg z] at this
        exact this
  obtain ⟨σ1, a1, a2, a3⟩ := key (fun σx32 => g_X9_laysFar_L34 ab_FU (0 : Int) σx32) (wl b).1 0 σ (by omega) hW.1.1 (fun k hk => absurd hk (Nat.not_lt_zero _))
  obtain ⟨σ', q1, q2, q3⟩ := p9_far_L34 ok hu (wl b).1 0 σ1 (by omega) (hB.fr (a3 _ (by decide))) (hW.fr (by rw [a3 _ (by decide)]) (a3 _ (by decide)) (a3 _ (by decide))) (fun j hj => by
    by_cases z : j = u
    · exact Or.inr ⟨0, Nat.le_refl _, ⟨z, fun i hi => absurd hi (Nat.not_lt_zero _)⟩, by rw [a2 j hj, if_pos z]; rfl⟩
    · refine Or.inl ⟨by rw [a2 j hj, if_neg z], fun k hk q => ?_⟩
      have : k = 0 := by omega
      subst this
      exact z q)
  refine ⟨σ', ?_, fun j hj => ?_, fun c x => by rw [q3 c x, a3 c x]⟩
  · unfold g_X9_laysFar
    refine (a1 ab_FU (by show _ < 100000; omega)).trans ?_
    exact q1 ab_FU (by show _ < 100000; omega)
  · refine Dist.uniq (b := b) (u := u) (w := j) ?_ (dS_dist ok hu)
    rcases q2 j hj with ⟨h1, h2⟩ | ⟨k, _, h2, h3⟩
    · refine Or.inl ⟨h1, fun k q => ?_⟩
      obtain ⟨i, _, g2⟩ := lev_ex k j q
      have := lev_ltW ok hu g2
      exact h2 i (by omega) g2.1
    · exact Or.inr ⟨k, h2, h3⟩
end C9s
theorem Fr613.l9 {σ σ' : st_S} (h : Fr613 σ σ') : L9 σ σ' := ⟨fun a ha => h a (by omega), fun f _ => by rw [h 596 (by decide)]⟩
theorem S_chain : Stp2 (InvD DR) g_X8_chain g_X9_chain := by
  intro x y σ _ _ ⟨S, r8, r9, ok⟩
  have okB := ok.2.2.2.2.1
  have wle := wl_le okB
  by_cases hx : 0 ≤ x ∧ x < ((wl (sB S)).1 : Int)
  · obtain ⟨u, rfl⟩ := Int.eq_ofNat_of_zero_le hx.1
    by_cases hy : 0 ≤ y ∧ y < ((wl (sB S)).1 : Int)
    · obtain ⟨w, rfl⟩ := Int.eq_ofNat_of_zero_le hy.1
      refine qry (r := dS (sB S) u w) ok (fun τ h8 => ?_) (fun τ h9 => ?_) r8 r9
      · have hW := h8.2.2.2.2.2.2.1
        unfold g_X8_chain
        rw [p8_isWord hW, if_pos hx, Option.bind_some]
        dsimp only
        rw [if_neg one0, p8_isWord hW, if_pos hy, Option.bind_some]
        dsimp only
        rw [if_neg one0]
        unfold dS
        by_cases e : u = w
        · rw [if_pos (by omega), if_pos e]
        · rw [if_neg (by omega), if_neg e, p7_stepsBetween okB hW (by omega) (by omega)]; rfl
      · obtain ⟨τ1, e1, e2, e3, e4⟩ := w9 ok h9 (u : Int)
        obtain ⟨τ2, b1, b2, b3⟩ := p9_laysFar okB e3 e2 (show u < (wl (sB S)).1 by omega)
        refine ⟨τ2, ?_, e4.trans b3.l9⟩
        unfold g_X9_chain
        rw [e1, if_pos hx, Option.bind_some]
        dsimp only
        rw [if_neg one0, e2.1.1, w32i (by omega) (by omega), p9_in1 hy.1 (by omega), Option.bind_some]
        dsimp only
        rw [if_neg one0, b1, Option.bind_some, sa_ld_of (by omega) (by omega), Option.bind_some, Int.toNat_natCast, b2 w (by omega)]
    · refine qry (r := -2) ok (fun τ h8 => ?_) (fun τ h9 => ?_) r8 r9
      · have hW := h8.2.2.2.2.2.2.1
        unfold g_X8_chain
        rw [p8_isWord hW, if_pos hx, Option.bind_some]
        dsimp only
        rw [if_neg one0, p8_isWord hW, if_neg hy]; rfl
      · obtain ⟨τ1, e1, e2, e3, e4⟩ := w9 ok h9 (u : Int)
        refine ⟨τ1, ?_, e4⟩
        unfold g_X9_chain
        rw [e1, if_pos hx, Option.bind_some]
        dsimp only
        rw [if_neg one0, e2.1.1, w32i (by omega) (by omega), p9_in0 (by omega)]; rfl
  · refine qry (r := -2) ok (fun τ h8 => ?_) (fun τ h9 => ?_) r8 r9
    · have hW := h8.2.2.2.2.2.2.1
      unfold g_X8_chain
      rw [p8_isWord hW, if_neg hx]; rfl
    · obtain ⟨τ1, e1, e2, e3, e4⟩ := w9 ok h9 x
      refine ⟨τ1, ?_, e4⟩
      unfold g_X9_chain
      rw [e1, if_neg hx]; rfl
