/-! the terms of a heading, one after another, on both sides -/
def tv (tm : Nat → Nat → Int) (i : Nat) (ro ld nm vi bk : Int) : Nat → Nat → Int := fun f i' => if i' = i then (if f = 0 then ro else if f = 1 then ld else if f = 2 then nm else if f = 3 then vi else bk) else tm f i'
def okR (n : Nat) (tm : Nat → Nat → Int) : Prop := (∀ i, i < n → (0 ≤ tm 0 i ∧ tm 0 i ≤ 5) ∧ (tm 1 i = 0 ∨ tm 1 i = 1) ∧ (isNm (tm 2 i) ∧ tm 2 i ≠ 0) ∧ isNm (tm 3 i) ∧ isNm (tm 4 i)) ∧ ∀ i, i + 1 < n → tm 0 i ≤ tm 0 (i + 1)
theorem tv_o {tm : Nat → Nat → Int} {i i' f : Nat} {ro ld nm vi bk : Int} (h : i' ≠ i) : tv tm i ro ld nm vi bk f i' = tm f i' := if_neg h
theorem tv_i {tm : Nat → Nat → Int} {i : Nat} {ro ld nm vi bk : Int} : tv tm i ro ld nm vi bk 0 i = ro ∧ tv tm i ro ld nm vi bk 1 i = ld ∧ tv tm i ro ld nm vi bk 2 i = nm ∧ tv tm i ro ld nm vi bk 3 i = vi ∧ tv tm i ro ld nm vi bk 4 i = bk := by
  unfold tv
  refine ⟨?_, ?_, ?_, ?_, ?_⟩ <;> rw [if_pos rfl] <;> rfl
theorem okR_tv {tm : Nat → Nat → Int} {i : Nat} {ro ld nm vi bk pr : Int} (h : okR i tm) (hp : i = 0 ∧ pr = 0 ∨ 0 < i ∧ tm 0 (i - 1) = pr) (h1 : pr ≤ ro) (h2 : 0 ≤ ro ∧ ro ≤ 5) (h3 : ld = 0 ∨ ld = 1) (h4 : isNm nm ∧ nm ≠ 0) (h5 : isNm vi) (h6 : isNm bk) : okR (i + 1) (tv tm i ro ld nm vi bk) := by
  obtain ⟨t0, t1, t2, t3, t4⟩ := tv_i (tm := tm) (i := i) (ro := ro) (ld := ld) (nm := nm) (vi := vi) (bk := bk)
  refine ⟨fun k hk => ?_, fun k hk => ?_⟩
  · by_cases e : k = i
    · subst e; rw [t0, t1, t2, t3, t4]; exact ⟨h2, h3, h4, h5, h6⟩
    · rw [tv_o e, tv_o e, tv_o e, tv_o e, tv_o e]; exact h.1 k (by omega)
  · rw [tv_o (by omega)]
    by_cases e : k + 1 = i
    · subst e
      rw [t0]
      rcases hp with ⟨z, _⟩ | ⟨_, z⟩
      · omega
      · rw [Nat.add_sub_cancel] at z; omega
    · rw [tv_o e]; exact h.2 k (by omega)
def FH8 (s : Nat) (σ σ' : st_S) : Prop := (∀ c, c ≠ 8 → (c < 27 ∨ 31 < c) → σ' c = σ c) ∧ (∀ c, 27 ≤ c → c ≤ 31 → ∀ y, y < 6 * s → σ' c y = σ c y) ∧ ∀ f, f ≠ 5 → f ≠ 7 → f ≠ 9 → f ≠ 10 → σ' 8 f = σ 8 f
def FH9 (s : Nat) (σ σ' : st_S) : Prop := (∀ c, c ≠ 596 → c ≠ 598 → σ' c = σ c) ∧ (∀ z, z < 34 + 32 * s → σ' 598 z = σ 598 z) ∧ ∀ f, (f < 6 ∨ 11 < f) → σ' 596 f = σ 596 f
theorem FH8.trans {s : Nat} {σ σ1 σ2 : st_S} (h : FH8 s σ σ1) (h2 : FH8 s σ1 σ2) : FH8 s σ σ2 := ⟨fun c a b => by rw [h2.1 c a b, h.1 c a b], fun c a b y z => by rw [h2.2.1 c a b y z, h.2.1 c a b y z], fun f a b c d => by rw [h2.2.2 f a b c d, h.2.2 f a b c d]⟩
theorem FH9.trans {s : Nat} {σ σ1 σ2 : st_S} (h : FH9 s σ σ1) (h2 : FH9 s σ1 σ2) : FH9 s σ σ2 := ⟨fun c a b => by rw [h2.1 c a b, h.1 c a b], fun z a => by rw [h2.2.1 z a, h.2.1 z a], fun f a => by rw [h2.2.2 f a, h.2.2 f a]⟩
theorem FT.h {s i : Nat} {σ σ' : st_S} (h : FT (6 * s + i) σ σ') : FH8 s σ σ' := ⟨h.1, fun c a b y z => h.2.1 c a b y (by omega), h.2.2⟩
theorem FR.h {s i : Nat} {σ σ' : st_S} (h : FR (34 + 32 * s + 5 * i) σ σ') : FH9 s σ σ' := ⟨h.1, fun z a => h.2.1 z (by omega), h.2.2⟩
theorem FH8.s5 {s : Nat} {σ σ' : st_S} (h : ∀ c, c ≠ 8 → σ' c = σ c) (h2 : ∀ f, f ≠ 5 → σ' 8 f = σ 8 f) : FH8 s σ σ' := ⟨fun c a _ => h c a, fun c _ _ y _ => by rw [h c (by omega)], fun f a _ _ _ => h2 f a⟩
theorem F69.h {s : Nat} {σ σ' : st_S} (h : F69 σ σ') : FH9 s σ σ' := ⟨fun c a _ => h.1 c a, fun z _ => by rw [h.1 598 (by decide)], fun f a => h.2 f (by omega)⟩
def HC8 (T : Nat → Int) (L N s : Nat) (σ : st_S) (G : Option (Int × st_S)) (K : Int → st_S → Option (Int × st_S)) : RS (Nat × Nat × (Nat → Nat → Int)) → Prop
  | .inl (c, p) => ∃ σ', G = some (0, σ') ∧ FH8 s σ σ' ∧ σ' 8 9 = c ∧ σ' 8 10 = p
  | .inr (j', m, tm) => ∃ σ', G = K ((m - 1 : Nat) : Int) σ' ∧ FH8 s σ σ' ∧ Cu8 σ' T L N j' ∧ (∀ i, i < m → ∀ f, f < 5 → σ' (27 + f) (6 * s + i) = tm f i) ∧ σ' 8 9 = σ 8 9 ∧ σ' 8 10 = σ 8 10
def HC9 (T : Nat → Int) (L s : Nat) (σ : st_S) (G : Option st_S) (K : Int → st_S → Option st_S) : RS (Nat × Nat × (Nat → Nat → Int)) → Prop
  | .inl (c, p) => ∃ σ', G = some σ' ∧ FH9 s σ σ' ∧ σ' 596 10 = c ∧ σ' 596 11 = p ∧ c ≠ 0
  | .inr (j', m, tm) => ∃ σ', G = K (m : Int) σ' ∧ FH9 s σ σ' ∧ A9 σ' T L j' ∧ σ' 596 10 = 0 ∧ (∀ i, i < m → ∀ f, f < 5 → σ' 598 (34 + 32 * s + 5 * i + f) = tm f i)
def HG (N j : Nat) : RS (Nat × Nat × (Nat → Nat → Int)) → Prop
  | .inl _ => True
  | .inr (j', m, tm) => j ≤ j' ∧ j' ≤ N ∧ 1 ≤ m ∧ m ≤ 6 ∧ okR m tm
section HL
variable {T : Nat → Int} {L N : Nat}
/-- one turn of the class -/
theorem h8_e {σ : st_S} {j s i : Nat} (hs : s < 12) (hi : i ≤ 6) (h : Cu8 σ T L N j) {pr : Int} (hpr : i = 0 ∧ pr = 0 ∨ 0 < i ∧ σ 27 (6 * s + i - 1) = pr) {c p : Int} (ht : tmS T L N j i pr = .inl (c, p)) (k : Nat → Int → Int → Int → st_S → Option (Int × st_S)) (n : Nat) (v3 : Int) :
    ∃ σ', g_X4_readHeading_L93 k (n + 1) 24 (s : Int) v3 (i : Int) σ = some (0, σ') ∧ FH8 s σ σ' ∧ σ' 8 9 = c ∧ σ' 8 10 = p := by
  obtain ⟨r, σ', a1, a2, a3⟩ := p4_readTerm hs hi h hpr
  rw [ht] at a3
  obtain ⟨rfl, b1, b2⟩ := a3
  refine ⟨σ', ?_, a2.h, b1, b2⟩
  rw [g_X4_readHeading_L93, if_neg (by omega), a1, Option.bind_some]
  dsimp only
  rw [if_pos rfl]
theorem h8_s {σ : st_S} {j s i : Nat} (hs : s < 12) (hi : i ≤ 6) (h : Cu8 σ T L N j) {pr : Int} (hpr : i = 0 ∧ pr = 0 ∨ 0 < i ∧ σ 27 (6 * s + i - 1) = pr) {j' : Nat} {ro ld nm vi bk : Int} (ht : tmS T L N j i pr = .inr (j', ro, ld, nm, vi, bk)) :
    ∃ σ', FT (6 * s + i) σ σ' ∧ Cu8 σ' T L N j' ∧ (σ' 27 (6 * s + i) = ro ∧ σ' 28 (6 * s + i) = ld ∧ σ' 29 (6 * s + i) = nm ∧ σ' 30 (6 * s + i) = vi ∧ σ' 31 (6 * s + i) = bk) ∧ (σ' 8 9 = σ 8 9 ∧ σ' 8 10 = σ 8 10) ∧ ∀ (k : Nat → Int → Int → Int → st_S → Option (Int × st_S)) (n : Nat) (v3 : Int),
      g_X4_readHeading_L93 k (n + 1) 24 (s : Int) v3 (i : Int) σ = if k8 T L (sJ T L j') = 5 ∧ v8 T L (sJ T L j') = 44 then (g_X4_step σ').bind fun q3 => g_X4_readHeading_L93 k n 24 (s : Int) v3 ((i + 1 : Nat) : Int) q3 else k 24 (s : Int) v3 (i : Int) σ' := by
  obtain ⟨r, σ', a1, a2, a3⟩ := p4_readTerm hs hi h hpr
  rw [ht] at a3
  obtain ⟨rfl, b1, b2, b3, b4, b5, b6, b7, b8⟩ := a3
  refine ⟨σ', a2, b1, ⟨b2, b3, b4, b5, b6⟩, ⟨b7, b8⟩, fun k n v3 => ?_⟩
  rw [g_X4_readHeading_L93, if_neg (by omega), a1, Option.bind_some]
  dsimp only
  rw [if_neg one0, p4_isSign b1, Option.bind_some, w32s (by omega)]
  dsimp only
  by_cases e : k8 T L (sJ T L j') = 5 ∧ v8 T L (sJ T L j') = 44
  · rw [if_pos e, if_pos e, if_neg one0]
  · rw [if_neg e, if_neg e, if_pos rfl]
/-- one turn of the reference -/
theorem h9_e (ox : okX T L) (hN : sJ T L N = L) {σ : st_S} {j s i : Nat} (hs : s < 12) (hi : i ≤ 6) (hj : j ≤ N) (h : A9 σ T L j) (hg : σ 596 10 = 0) {pr : Int} {c p : Int} (ht : tmS T L N j i pr = .inl (c, p)) (k : Int → Int → st_S → Option st_S) (n : Nat) :
    ∃ σ', g_X9_readString_L129 k (n + 1) (s : Int) (i : Int) pr σ = some σ' ∧ FH9 s σ σ' ∧ σ' 596 10 = c ∧ σ' 596 11 = p ∧ c ≠ 0 := by
  obtain ⟨σ', a1, a2, a3⟩ := p9_readTerm ox hN hj h hg hs hi pr
  rw [ht] at a3
  obtain ⟨b1, b2, b3⟩ := a3
  refine ⟨σ', ?_, a2.h, b1, b2, b3⟩
  rw [g_X9_readString_L129, a1, Option.bind_some, p9_good0 (by rw [b1]; exact b3), Option.bind_some]
  dsimp only
  rw [if_pos rfl]
theorem h9_s (ox : okX T L) (hN : sJ T L N = L) {σ : st_S} {j s i : Nat} (hs : s < 12) (hi : i ≤ 6) (hj : j ≤ N) (h : A9 σ T L j) (hg : σ 596 10 = 0) {pr : Int} {j' : Nat} {ro ld nm vi bk : Int} (ht : tmS T L N j i pr = .inr (j', ro, ld, nm, vi, bk)) :
    ∃ σ', FR (34 + 32 * s + 5 * i) σ σ' ∧ (A9 σ' T L j' ∧ σ' 596 10 = 0) ∧ (σ' 598 (34 + 32 * s + 5 * i) = ro ∧ σ' 598 (34 + 32 * s + 5 * i + 1) = ld ∧ σ' 598 (34 + 32 * s + 5 * i + 2) = nm ∧ σ' 598 (34 + 32 * s + 5 * i + 3) = vi ∧ σ' 598 (34 + 32 * s + 5 * i + 4) = bk) ∧ ∀ (k : Int → Int → st_S → Option st_S) (n : Nat),
      g_X9_readString_L129 k (n + 1) (s : Int) (i : Int) pr σ = (g_X9_eatsByte 44 σ').bind fun q5 => if q5.1 = (0 : Int) then k (s : Int) ((i + 1 : Nat) : Int) q5.2 else g_X9_readString_L129 k n (s : Int) ((i + 1 : Nat) : Int) ro q5.2 := by
  have o := tmS_ok hj ht
  obtain ⟨σ', a1, a2, a3⟩ := p9_readTerm ox hN hj h hg hs hi pr
  rw [ht] at a3
  obtain ⟨b1, b2, b3, b4, b5, b6, b7⟩ := a3
  refine ⟨σ', a2, ⟨b1, b2⟩, ⟨b3, b4, b5, b6, b7⟩, fun k n => ?_⟩
  have w1 : ab_w32 (((34 + 32 * s + 5 * i : Nat) : Int) + 0) = ((34 + 32 * s + 5 * i : Nat) : Int) := by rw [w32i (by omega) (by omega)]; omega
  rw [g_X9_readString_L129, a1, Option.bind_some, p9_good1 b2, Option.bind_some]
  dsimp only
  rw [if_neg one0, p9_termAt hs (by omega), Option.bind_some]
  dsimp only
  rw [w1, sa_ld_of (by omega) (by omega), Option.bind_some, Int.toNat_natCast, b3, w32i (x := ro) (by omega) (by omega), w32s (by omega)]
theorem hd_L (ox : okX T L) (hN : sJ T L N = L) {s : Nat} (hs : s < 12) : ∀ (c i j : Nat) (pr : Int) (tm : Nat → Nat → Int), i + c = 6 → j ≤ N → okR i tm → (i = 0 ∧ pr = 0 ∨ 0 < i ∧ tm 0 (i - 1) = pr) →
    ∃ x : RS (Nat × Nat × (Nat → Nat → Int)), HG N j x ∧
      (∀ σ, Cu8 σ T L N j → (∀ i', i' < i → ∀ f, f < 5 → σ (27 + f) (6 * s + i') = tm f i') → ∀ k n v3, c < n → HC8 T L N s σ (g_X4_readHeading_L93 k n 24 (s : Int) v3 (i : Int) σ) (k 24 (s : Int) v3) x) ∧
      (∀ σ, A9 σ T L j → σ 596 10 = 0 → (∀ i', i' < i → ∀ f, f < 5 → σ 598 (34 + 32 * s + 5 * i' + f) = tm f i') → ∀ k n, c < n → HC9 T L s σ (g_X9_readString_L129 k n (s : Int) (i : Int) pr σ) (k (s : Int)) x) := by
  have pr8 : ∀ {i : Nat} {pr : Int} {tm : Nat → Nat → Int} {σ : st_S}, (i = 0 ∧ pr = 0 ∨ 0 < i ∧ tm 0 (i - 1) = pr) → (∀ i', i' < i → ∀ f, f < 5 → σ (27 + f) (6 * s + i') = tm f i') → (i = 0 ∧ pr = 0 ∨ 0 < i ∧ σ 27 (6 * s + i - 1) = pr) := by
    intro i pr tm σ h h2
    rcases h with h | ⟨h, e⟩
    · exact Or.inl h
    · refine Or.inr ⟨h, ?_⟩
      have := h2 (i - 1) (by omega) 0 (by omega)
      rw [show 6 * s + (i - 1) = 6 * s + i - 1 by omega] at this
      rw [← e]; exact this
  intro c
  induction c with
  | zero =>
    intro i j pr tm hi hj okr hp
    have hi6 : i = 6 := by omega
    subst hi6
    obtain ⟨⟨cc, p⟩, ht⟩ := tmS_6 (T := T) (L := L) (pr := pr) hj
    refine ⟨.inl (cc, p), True.intro, fun σ h hr k n v3 hn => ?_, fun σ h hg hr k n hn => ?_⟩
    · obtain ⟨z, rfl⟩ : ∃ z, n = z + 1 := ⟨n - 1, by omega⟩
      exact h8_e hs (by omega) h (pr8 hp hr) ht k z v3
    · obtain ⟨z, rfl⟩ : ∃ z, n = z + 1 := ⟨n - 1, by omega⟩
      exact h9_e ox hN hs (by omega) hj h hg ht k z
  | succ c ih =>
    intro i j pr tm hi hj okr hp
    rcases ht : tmS T L N j i pr with ⟨cc, p⟩ | ⟨j', ro, ld, nm, vi, bk⟩
    · refine ⟨.inl (cc, p), True.intro, fun σ h hr k n v3 hn => ?_, fun σ h hg hr k n hn => ?_⟩
      · obtain ⟨z, rfl⟩ : ∃ z, n = z + 1 := ⟨n - 1, by omega⟩
        exact h8_e hs (by omega) h (pr8 hp hr) ht k z v3
      · obtain ⟨z, rfl⟩ : ∃ z, n = z + 1 := ⟨n - 1, by omega⟩
        exact h9_e ox hN hs (by omega) hj h hg ht k z
    · obtain ⟨o1, o2, o3, o4, o5, o6, o7, o8, o9⟩ := tmS_ok hj ht
      have okr' := okR_tv okr hp o4 o5 o6 o7 o8 o9
      have row8 : ∀ {σ σ' : st_S}, (∀ i', i' < i → ∀ f, f < 5 → σ (27 + f) (6 * s + i') = tm f i') → FT (6 * s + i) σ σ' → (σ' 27 (6 * s + i) = ro ∧ σ' 28 (6 * s + i) = ld ∧ σ' 29 (6 * s + i) = nm ∧ σ' 30 (6 * s + i) = vi ∧ σ' 31 (6 * s + i) = bk) → ∀ i', i' < i + 1 → ∀ f, f < 5 → σ' (27 + f) (6 * s + i') = tv tm i ro ld nm vi bk f i' := by
        intro σ σ' hr hf hv i' hi' f hf5
        by_cases e : i' = i
        · subst e
          obtain ⟨t0, t1, t2, t3, t4⟩ := tv_i (tm := tm) (i := i') (ro := ro) (ld := ld) (nm := nm) (vi := vi) (bk := bk)
          have : f = 0 ∨ f = 1 ∨ f = 2 ∨ f = 3 ∨ f = 4 := by omega
          rcases this with rfl | rfl | rfl | rfl | rfl
          · rw [t0]; exact hv.1
          · rw [t1]; exact hv.2.1
          · rw [t2]; exact hv.2.2.1
          · rw [t3]; exact hv.2.2.2.1
          · rw [t4]; exact hv.2.2.2.2
        · rw [tv_o e, hf.2.1 (27 + f) (by omega) (by omega) _ (by omega)]; exact hr i' (by omega) f hf5
      have row9 : ∀ {σ σ' : st_S}, (∀ i', i' < i → ∀ f, f < 5 → σ 598 (34 + 32 * s + 5 * i' + f) = tm f i') → FR (34 + 32 * s + 5 * i) σ σ' → (σ' 598 (34 + 32 * s + 5 * i) = ro ∧ σ' 598 (34 + 32 * s + 5 * i + 1) = ld ∧ σ' 598 (34 + 32 * s + 5 * i + 2) = nm ∧ σ' 598 (34 + 32 * s + 5 * i + 3) = vi ∧ σ' 598 (34 + 32 * s + 5 * i + 4) = bk) → ∀ i', i' < i + 1 → ∀ f, f < 5 → σ' 598 (34 + 32 * s + 5 * i' + f) = tv tm i ro ld nm vi bk f i' := by
        intro σ σ' hr hf hv i' hi' f hf5
        by_cases e : i' = i
        · subst e
          obtain ⟨t0, t1, t2, t3, t4⟩ := tv_i (tm := tm) (i := i') (ro := ro) (ld := ld) (nm := nm) (vi := vi) (bk := bk)
          have : f = 0 ∨ f = 1 ∨ f = 2 ∨ f = 3 ∨ f = 4 := by omega
          rcases this with rfl | rfl | rfl | rfl | rfl
          · rw [t0]; exact hv.1
          · rw [t1]; exact hv.2.1
          · rw [t2]; exact hv.2.2.1
          · rw [t3]; exact hv.2.2.2.1
          · rw [t4]; exact hv.2.2.2.2
        · rw [tv_o e, hf.2.1 _ (by omega)]; exact hr i' (by omega) f hf5
      by_cases e44 : k8 T L (sJ T L j') = 5 ∧ v8 T L (sJ T L j') = 44
      · obtain ⟨x, x1, x2, x3⟩ := ih (i + 1) (nxJ N j') ro (tv tm i ro ld nm vi bk) (by omega) (nx_le o3) okr' (Or.inr ⟨by omega, by rw [Nat.add_sub_cancel]; exact tv_i.1⟩)
        refine ⟨x, ?_, fun σ h hr k n v3 hn => ?_, fun σ h hg hr k n hn => ?_⟩
        · have g := nx_ge (N := N) (j := j')
          rcases x with _ | ⟨jx, mx, tx⟩
          · exact True.intro
          · obtain ⟨y1, y2⟩ := x1
            exact ⟨by omega, y2⟩
        · obtain ⟨z, rfl⟩ : ∃ z, n = z + 1 := ⟨n - 1, by omega⟩
          obtain ⟨σ', a1, a2, a3, a4, a5⟩ := h8_s hs (by omega) h (pr8 hp hr) ht
          obtain ⟨σ'', b1, b2, b3, b4⟩ := p4_step a2
          have q := x2 σ'' b2 (fun i' hi' f hf => by rw [b3 (27 + f) (by omega)]; exact row8 hr a1 a3 i' hi' f hf) k z v3 (by omega)
          rw [a5, if_pos e44, b1, Option.bind_some]
          have fr := a1.h.trans (FH8.s5 (s := s) b3 b4)
          rcases x with ⟨cx, px⟩ | ⟨jx, mx, tx⟩
          · obtain ⟨w, w1, w2, w3⟩ := q
            exact ⟨w, w1, fr.trans w2, w3⟩
          · obtain ⟨w, w1, w2, w3, w4, w5, w6⟩ := q
            exact ⟨w, w1, fr.trans w2, w3, w4, by rw [w5, b4 9 (by decide)]; exact a4.1, by rw [w6, b4 10 (by decide)]; exact a4.2⟩
        · obtain ⟨z, rfl⟩ : ∃ z, n = z + 1 := ⟨n - 1, by omega⟩
          obtain ⟨σ', a1, ⟨a2, a3⟩, a4, a5⟩ := h9_s ox hN hs (by omega) hj h hg ht
          rcases p9_eatsByte ox hN o3 a2 a3 (a := 44) (by omega) with ⟨_, _, σ'', b1, b2, b3⟩ | ⟨b1, _⟩
          · have q := x3 σ'' b2 (by rw [b3.2 10 (by omega)]; exact a3) (fun i' hi' f hf => by rw [b3.1 598 (by decide)]; exact row9 hr a1 a4 i' hi' f hf) k z (by omega)
            rw [a5, b1, Option.bind_some]
            dsimp only
            rw [if_neg one0]
            have fr := a1.h.trans (b3.h (s := s))
            rcases x with ⟨cx, px⟩ | ⟨jx, mx, tx⟩
            · obtain ⟨w, w1, w2, w3⟩ := q
              exact ⟨w, w1, fr.trans w2, w3⟩
            · obtain ⟨w, w1, w2, w3⟩ := q
              exact ⟨w, w1, fr.trans w2, w3⟩
          · exact absurd e44 b1
      · refine ⟨.inr (j', i + 1, tv tm i ro ld nm vi bk), ⟨o2, o3, by omega, by omega, okr'⟩, fun σ h hr k n v3 hn => ?_, fun σ h hg hr k n hn => ?_⟩
        · obtain ⟨z, rfl⟩ : ∃ z, n = z + 1 := ⟨n - 1, by omega⟩
          obtain ⟨σ', a1, a2, a3, a4, a5⟩ := h8_s hs (by omega) h (pr8 hp hr) ht
          refine ⟨σ', ?_, a1.h, a2, fun i' hi' f hf => row8 hr a1 a3 i' hi' f hf, a4.1, a4.2⟩
          rw [a5, if_neg e44, Nat.add_sub_cancel]
        · obtain ⟨z, rfl⟩ : ∃ z, n = z + 1 := ⟨n - 1, by omega⟩
          obtain ⟨σ', a1, ⟨a2, a3⟩, a4, a5⟩ := h9_s ox hN hs (by omega) hj h hg ht
          refine ⟨σ', ?_, a1.h, a2, a3, fun i' hi' f hf => row9 hr a1 a4 i' hi' f hf⟩
          rcases p9_eatsByte ox hN o3 a2 a3 (a := 44) (by omega) with ⟨b1, b2, _⟩ | ⟨_, b1⟩
          · exact absurd ⟨b1, b2⟩ e44
          · rw [a5, b1, Option.bind_some]
            dsimp only
            rw [if_pos rfl]
end HL
