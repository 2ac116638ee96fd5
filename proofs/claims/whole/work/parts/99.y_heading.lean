/-! a heading is read alike on both sides -/
def bAdd (b : BV) (ad : Int) (m : Nat) (tm : Nat → Nat → Int) : BV := (bn b + 1, (fun s => if s = bn b then ad else badr b s), (fun s => if s = bn b then m else bsz b s), (fun f s i => if s = bn b then tm f i else btm b f s i), bwy b, bm b, bsf b, bst b)
section BA
variable {b : BV} {ad : Int} {m : Nat} {tm : Nat → Nat → Int}
theorem bAdd_n : bn (bAdd b ad m tm) = bn b + 1 := rfl
theorem bAdd_o {s : Nat} (h : s ≠ bn b) : badr (bAdd b ad m tm) s = badr b s ∧ bsz (bAdd b ad m tm) s = bsz b s ∧ ∀ f i, btm (bAdd b ad m tm) f s i = btm b f s i := ⟨if_neg h, if_neg h, fun _ _ => if_neg h⟩
theorem bAdd_i : badr (bAdd b ad m tm) (bn b) = ad ∧ bsz (bAdd b ad m tm) (bn b) = m ∧ ∀ f i, btm (bAdd b ad m tm) f (bn b) i = tm f i := ⟨if_pos rfl, if_pos rfl, fun _ _ => if_pos rfl⟩
theorem bAdd_ok (ok : OkB b) (hn : bn b < 12) (ha : 0 ≤ ad ∧ ad ≤ 999) (hu : ∀ s, s < bn b → badr b s ≠ ad) (hm : 1 ≤ m ∧ m ≤ 6) (hr : okR m tm) : OkB (bAdd b ad m tm) := by
  obtain ⟨o1, o2, o3, o4, o5, o6, o7, o8, o9, o10⟩ := ok
  obtain ⟨i1, i2, i3⟩ := bAdd_i (b := b) (ad := ad) (m := m) (tm := tm)
  refine ⟨by rw [bAdd_n]; omega, fun s hs => ?_, fun s t hs ht e => ?_, fun s hs i hi => ?_, fun s hs i hi => ?_, o6, o7, o8, o9, OkB.term (b := b) ⟨o1, o2, o3, o4, o5, o6, o7, o8, o9, o10⟩ rfl (fun _ _ => rfl) (fun _ _ => rfl)⟩
  · rw [bAdd_n] at hs
    by_cases z : s = bn b
    · subst z; rw [i1, i2]; exact ⟨ha.1, ha.2, hm.1, hm.2⟩
    · obtain ⟨q1, q2, _⟩ := bAdd_o (ad := ad) (m := m) (tm := tm) z
      rw [q1, q2]; exact o2 s (by omega)
  · rw [bAdd_n] at hs ht
    by_cases z : s = bn b
    · by_cases y : t = bn b
      · omega
      · rw [z, i1, (bAdd_o y).1] at e
        exact absurd e.symm (hu t (by omega))
    · by_cases y : t = bn b
      · rw [y, i1, (bAdd_o z).1] at e
        exact absurd e (hu s (by omega))
      · rw [(bAdd_o z).1, (bAdd_o y).1] at e
        exact o3 s t (by omega) (by omega) e
  · rw [bAdd_n] at hs
    by_cases z : s = bn b
    · subst z
      rw [i2] at hi
      rw [i3, i3, i3, i3, i3]; exact hr.1 i hi
    · obtain ⟨q1, q2, q3⟩ := bAdd_o (ad := ad) (m := m) (tm := tm) z
      rw [q2] at hi
      rw [q3, q3, q3, q3, q3]; exact o4 s (by omega) i hi
  · rw [bAdd_n] at hs
    by_cases z : s = bn b
    · subst z
      rw [i2] at hi
      rw [i3, i3]; exact hr.2 i hi
    · obtain ⟨q1, q2, q3⟩ := bAdd_o (ad := ad) (m := m) (tm := tm) z
      rw [q2] at hi
      rw [q3, q3]; exact o5 s (by omega) i hi
theorem rb8_add {σ σ' : st_S} (h : RB8 σ 24 b) (ok : OkB b) (hn : bn b < 12) (hf : FH8 (bn b) σ σ') (hr : ∀ i, i < m → ∀ f, f < 5 → σ' (27 + f) (6 * bn b + i) = tm f i) :
    RB8 (up2 (up2 (up2 σ' 25 (bn b) ad) 26 (bn b) (m : Int)) 24 0 ((bn b + 1 : Nat) : Int)) 24 (bAdd b ad m tm) := by
  obtain ⟨h1, h2, h3, h4, h5, h6⟩ := h
  obtain ⟨i1, i2, i3⟩ := bAdd_i (b := b) (ad := ad) (m := m) (tm := tm)
  have o2 := ok.2.1
  refine ⟨up2_at _ _ _ _, fun s hs => ?_, fun s hs i hi f hf5 => ?_, fun r hr6 => ?_, ?_, fun k hk => ?_⟩
  · rw [bAdd_n] at hs
    by_cases z : s = bn b
    · subst z
      exact ⟨by rw [i1, up2_o _ _ (by decide), up2_o _ _ (by decide)]; exact up2_at _ _ _ _, by rw [i2, up2_o _ _ (by decide)]; exact up2_at _ _ _ _⟩
    · obtain ⟨q1, q2, _⟩ := bAdd_o (ad := ad) (m := m) (tm := tm) z
      exact ⟨by rw [q1, up2_o _ _ (by decide), up2_o _ _ (by decide), up2_ne _ _ (fun q => z q.2), hf.1 _ (by decide) (by decide)]; exact (h2 s (by omega)).1, by rw [q2, up2_o _ _ (by decide), up2_ne _ _ (fun q => z q.2), up2_o _ _ (by decide), hf.1 _ (by decide) (by decide)]; exact (h2 s (by omega)).2⟩
  · rw [bAdd_n] at hs
    rw [up2_o _ _ (by omega), up2_o _ _ (by omega), up2_o _ _ (by omega)]
    by_cases z : s = bn b
    · subst z
      rw [i2] at hi
      rw [i3]; exact hr i hi f hf5
    · obtain ⟨q1, q2, q3⟩ := bAdd_o (ad := ad) (m := m) (tm := tm) z
      rw [q2] at hi
      have := o2 s (by omega)
      rw [q3, hf.2.1 _ (by omega) (by omega) _ (by omega)]; exact h3 s (by omega) i hi f hf5
  · rw [up2_o _ _ (by decide), up2_o _ _ (by decide), up2_o _ _ (by decide), hf.1 _ (by decide) (by decide)]; exact h4 r hr6
  · rw [up2_ne _ _ (by decide), up2_o _ _ (by decide), up2_o _ _ (by decide), hf.1 _ (by decide) (by decide)]; exact h5
  · rw [up2_o _ _ (by decide), up2_o _ _ (by decide), up2_o _ _ (by decide), up2_o _ _ (by decide), up2_o _ _ (by decide), up2_o _ _ (by decide), hf.1 _ (by decide) (by decide), hf.1 _ (by decide) (by decide)]; exact h6 k hk
theorem rb9_add {σ σ' : st_S} (h : RB9 σ 598 0 b) (ok : OkB b) (hf : ∀ z, z < 34 + 32 * bn b → z ≠ 32 + 32 * bn b → z ≠ 33 + 32 * bn b → z ≠ 0 → σ' 598 z = σ 598 z) (ha : σ' 598 (32 + 32 * bn b) = ad) (hm : σ' 598 (33 + 32 * bn b) = (m : Int)) (h0 : σ' 598 0 = ((bn b + 1 : Nat) : Int)) (hr : ∀ i, i < m → ∀ f, f < 5 → σ' 598 (34 + 32 * bn b + 5 * i + f) = tm f i) :
    RB9 σ' 598 0 (bAdd b ad m tm) := by
  obtain ⟨h1, h2, h3, h4, h5, h6⟩ := h
  obtain ⟨i1, i2, i3⟩ := bAdd_i (b := b) (ad := ad) (m := m) (tm := tm)
  have o2 := ok.2.1
  have o7 := ok.2.2.2.2.2.2.1
  refine ⟨h0, fun s hs => ?_, fun s hs i hi f hf5 => ?_, fun r hr6 => ?_, ?_, fun k hk => ?_⟩
  · rw [bAdd_n] at hs
    rw [Nat.zero_add, Nat.zero_add]
    by_cases z : s = bn b
    · subst z
      rw [i1, i2]; exact ⟨ha, hm⟩
    · obtain ⟨q1, q2, _⟩ := bAdd_o (ad := ad) (m := m) (tm := tm) z
      rw [q1, q2, hf _ (by omega) (by omega) (by omega) (by omega), hf _ (by omega) (by omega) (by omega) (by omega)]
      have := h2 s (by omega)
      rw [Nat.zero_add, Nat.zero_add] at this
      exact this
  · rw [bAdd_n] at hs
    rw [Nat.zero_add]
    by_cases z : s = bn b
    · subst z
      rw [i2] at hi
      rw [i3]; exact hr i hi f hf5
    · obtain ⟨q1, q2, q3⟩ := bAdd_o (ad := ad) (m := m) (tm := tm) z
      rw [q2] at hi
      have := o2 s (by omega)
      rw [q3, hf _ (by omega) (by omega) (by omega) (by omega)]
      have := h3 s (by omega) i hi f hf5
      rw [Nat.zero_add] at this
      exact this
  · rw [Nat.zero_add, hf _ (by omega) (by omega) (by omega) (by omega)]
    have := h4 r hr6
    rw [Nat.zero_add] at this
    exact this
  · rw [hf _ (by omega) (by omega) (by omega) (by omega)]; exact h5
  · have hk : k < bm b := hk
    rw [Nat.zero_add, Nat.zero_add, hf _ (by omega) (by omega) (by omega) (by omega), hf _ (by omega) (by omega) (by omega) (by omega)]
    have := h6 k hk
    rw [Nat.zero_add, Nat.zero_add] at this
    exact this
end BA
def FG8 (σ σ' : st_S) : Prop := (∀ c, c ≠ 8 → (c < 24 ∨ 31 < c) → σ' c = σ c) ∧ ∀ f, f ≠ 5 → f ≠ 7 → f ≠ 9 → f ≠ 10 → σ' 8 f = σ 8 f
def FG9 (σ σ' : st_S) : Prop := (∀ c, c ≠ 596 → c ≠ 598 → σ' c = σ c) ∧ ∀ f, (f < 6 ∨ 11 < f) → σ' 596 f = σ 596 f
theorem FG8.trans {σ σ1 σ2 : st_S} (h : FG8 σ σ1) (h2 : FG8 σ1 σ2) : FG8 σ σ2 := ⟨fun c x y => by rw [h2.1 c x y, h.1 c x y], fun f a b c d => by rw [h2.2 f a b c d, h.2 f a b c d]⟩
theorem FG9.trans {σ σ1 σ2 : st_S} (h : FG9 σ σ1) (h2 : FG9 σ1 σ2) : FG9 σ σ2 := ⟨fun c x y => by rw [h2.1 c x y, h.1 c x y], fun f x => by rw [h2.2 f x, h.2 f x]⟩
theorem Fd8.g {σ σ' : st_S} (h : Fd8 σ σ') : FG8 σ σ' := ⟨fun c x _ => h.1 c x, h.2⟩
theorem F9r.g {σ σ' : st_S} (h : F9r σ σ') : FG9 σ σ' := ⟨fun c x _ => h.1 c x, h.2⟩
theorem FH8.g {s : Nat} {σ σ' : st_S} (h : FH8 s σ σ') : FG8 σ σ' := ⟨fun c x y => h.1 c x (by omega), h.2.2⟩
theorem FH9.g {s : Nat} {σ σ' : st_S} (h : FH9 s σ σ') : FG9 σ σ' := ⟨fun c x y => h.1 c x y, h.2.2⟩
theorem FG8.up {σ : st_S} {a x : Nat} (ha : 24 ≤ a ∧ a ≤ 31) (v : Int) : FG8 σ (up2 σ a x v) := ⟨fun c _ b => up2_o _ _ (by omega), fun f _ _ _ _ => by rw [up2_o _ _ (by omega)]⟩
theorem FG9.up {σ : st_S} {x : Nat} (v : Int) : FG9 σ (up2 σ 598 x v) := ⟨fun c _ b => up2_o _ _ b, fun f _ => by rw [up2_o _ _ (by decide)]⟩
def HD8 (T : Nat → Int) (L N : Nat) (σ σ' : st_S) (r : Int) : RS (Nat × BV) → Prop
  | .inl (c, p) => r = 0 ∧ σ' 8 9 = c ∧ σ' 8 10 = p
  | .inr (j', b') => r = 1 ∧ Cu8 σ' T L N j' ∧ RB8 σ' 24 b' ∧ σ' 8 9 = σ 8 9 ∧ σ' 8 10 = σ 8 10
def HD9 (T : Nat → Int) (L : Nat) (b : BV) (σ' : st_S) : RS (Nat × BV) → Prop
  | .inl (c, p) => σ' 596 10 = c ∧ σ' 596 11 = p ∧ c ≠ 0
  | .inr (j', b') => A9 σ' T L j' ∧ σ' 596 10 = 0 ∧ σ' 598 0 = (bn b : Int) ∧ RB9 (up2 σ' 598 0 ((bn b + 1 : Nat) : Int)) 598 0 b'
def HG2 (N j : Nat) (b : BV) : RS (Nat × BV) → Prop
  | .inl _ => True
  | .inr (j', b') => j ≤ j' ∧ j' ≤ N ∧ OkB b' ∧ bn b' = bn b + 1
section HE
variable {T : Nat → Int} {L N : Nat} {σ : st_S} {j : Nat} {b : BV}
theorem num8 {q : Nat} (h : k8 T L q = 4) : 0 ≤ v8 T L q ∧ v8 T L q ≤ 1000 := by
  have k := k8_4.mp h
  unfold v8
  rw [k, if_neg (by decide), if_pos rfl]
  split <;> omega
theorem num9 (h : A9 σ T L j) (h4 : k8 T L (sJ T L j) = 4) : (v8 T L (sJ T L j) ≤ 999 → σ 596 9 = v8 T L (sJ T L j)) ∧ (¬ v8 T L (sJ T L j) ≤ 999 → 999 < σ 596 9) := by
  have k := k8_4.mp h4
  obtain ⟨_, _, _, h2, _⟩ := h.2
  have e := h2 k
  rw [e]
  unfold v8
  rw [k, if_neg (by decide), if_pos rfl]
  unfold nQ
  generalize nvN T (sJ T L j) (enQ T L (sJ T L j) - sJ T L j) = v
  constructor
  · intro z
    split <;> split <;> (try split at z) <;> omega
  · intro z
    split <;> (try split at z) <;> omega
theorem p9_isAddr_L (h : RB9 σ 598 0 b) (ok : OkB b) (x : Int) : ∀ (c n i : Nat), i + c = bn b → c < n → g_X9_isAddress_L2 n x (i : Int) σ = some (if fnd (fun s => decide (badr b s = x)) c i = -1 then 0 else 1, σ) := by
  have o1 := ok.1
  have h0 : sa_ld σ 598 416 0 = some (bn b : Int) := by rw [sa_ld_of (by decide) (by decide)]; exact congrArg some h.1
  intro c
  induction c with
  | zero =>
    intro n i hi hn
    obtain ⟨m, rfl⟩ : ∃ m, n = m + 1 := ⟨n - 1, by omega⟩
    rw [g_X9_isAddress_L2, h0, Option.bind_some, w32i (by omega) (by omega), if_pos (by omega), fnd, if_pos rfl]
  | succ c ih =>
    intro n i hi hn
    obtain ⟨m, rfl⟩ : ∃ m, n = m + 1 := ⟨n - 1, by omega⟩
    have e1 := (h.2.1 i (by omega)).1
    rw [g_X9_isAddress_L2, h0, Option.bind_some, w32i (x := (bn b : Int)) (by omega) (by omega), if_neg (by omega), show ab_w32 (32 + ab_w32 (32 * (i : Int))) = ((0 + 32 + 32 * i : Nat) : Int) by rw [w32i (x := 32 * (i : Int)) (by omega) (by omega), w32i (by omega) (by omega)]; omega, sa_ld_of (by omega) (by omega), Option.bind_some, Int.toNat_natCast, e1]
    by_cases e : badr b i = x
    · have ef : fnd (fun s => decide (badr b s = x)) (c + 1) i = (i : Int) := by rw [fnd, if_pos (decide_eq_true e)]
      rw [if_pos (cmp_eq.mpr e), ef, if_neg (show ¬ (i : Int) = -1 by omega)]
    · have ef : fnd (fun s => decide (badr b s = x)) (c + 1) i = fnd (fun s => decide (badr b s = x)) c (i + 1) := by rw [fnd, if_neg (by simpa using e)]
      rw [if_neg (fun z => e (cmp_eq.mp z)), ef, w32s (by omega)]
      exact ih m (i + 1) (by omega) (by omega)
theorem p9_isAddr (h : RB9 σ 598 0 b) (ok : OkB b) (x : Int) : g_X9_isAddress x σ = some (if fnd (fun s => decide (badr b s = x)) (bn b) 0 = -1 then 0 else 1, σ) := by
  have o1 := ok.1
  exact p9_isAddr_L h ok x (bn b) ab_FU 0 (by omega) (by show _ < 100000; omega)
theorem p9_rJ90b (hg : σ 596 10 ≠ 0) (v : Int) : g_X9_readString_J90 v σ = some σ := by
  unfold g_X9_readString_J90
  rw [p9_good0 hg, Option.bind_some]
  dsimp only
  rw [if_pos rfl]
theorem p9_rJ63b (hg : σ 596 10 ≠ 0) (v : Int) : g_X9_readString_J63 v σ = some σ := by
  unfold g_X9_readString_J63
  rw [p9_good0 hg, Option.bind_some]
  dsimp only
  rw [if_pos rfl, p9_rJ90b hg]
theorem p9_rJ32b (hg : σ 596 10 ≠ 0) (v : Int) : g_X9_readString_J32 v σ = some σ := by
  unfold g_X9_readString_J32
  rw [p9_good0 hg, Option.bind_some]
  dsimp only
  rw [if_pos rfl, p9_rJ63b hg]
end HE
