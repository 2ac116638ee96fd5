/-! feed -/
def tpush (t : Nat × (Nat → Int)) (x : Int) : Nat × (Nat → Int) := (t.1 + 1, fun i => if i = t.1 then ab_w8 x else t.2 i)
def tpush4 (t : Nat × (Nat → Int)) (x : Int) : Nat × (Nat → Int) := tpush (tpush (tpush (tpush t (ab_shr x 24)) (ab_shr x 16)) (ab_shr x 8)) (ab_shr x 0)
theorem w8w8 (x : Int) : ab_w8 (ab_w8 x) = ab_w8 x := by unfold ab_w8; omega
/-- a row of bytes of the class -/
def By8 (σ : st_S) (a : Nat) (t : Nat × (Nat → Int)) : Prop := σ a 1 = (t.1 : Int) ∧ ∀ i, i < t.1 → σ (a + 1) i = t.2 i
theorem p1_put {σ : st_S} {a : Nat} {t : Nat × (Nat → Int)} (h : By8 σ a t) (hn : t.1 < by_n a) (hb : by_n a ≤ 2000) (x : Int) : ∃ σ', g_X1_put a x σ = some σ' ∧ By8 σ' a (tpush t x) ∧ ∀ c, c ≠ a → c ≠ a + 1 → σ' c = σ c := by
  obtain ⟨h1, h2⟩ := h
  refine ⟨up2 (up2 σ a 1 ((t.1 + 1 : Nat) : Int)) (a + 1) t.1 (ab_w8 x), ?_, ⟨?_, fun i hi => ?_⟩, fun c hc1 hc2 => ?_⟩
  · unfold g_X1_put
    rw [h1, if_neg (by omega), w32i (by omega) (by omega), Option.bind_some, sa_st_of (by omega) (by omega), Option.bind_some, w8w8]
    rfl
  · rw [up2_o _ _ (by omega), up2_at]; rfl
  · show up2 (up2 σ a 1 ((t.1 + 1 : Nat) : Int)) (a + 1) t.1 (ab_w8 x) (a + 1) i = if i = t.1 then ab_w8 x else t.2 i
    by_cases e : i = t.1
    · subst e; rw [up2_at, if_pos rfl]
    · rw [up2_ne _ _ (fun q => e q.2), up2_o _ _ (by omega), if_neg e]
      exact h2 i (by have : i < t.1 + 1 := hi; omega)
  · rw [up2_o _ _ hc2, up2_o _ _ hc1]
theorem p1_putFour {σ : st_S} {a : Nat} {t : Nat × (Nat → Int)} (h : By8 σ a t) (hn : t.1 + 4 ≤ by_n a) (hb : by_n a ≤ 2000) (x : Int) : ∃ σ', g_X1_putFour a x σ = some σ' ∧ By8 σ' a (tpush4 t x) ∧ ∀ c, c ≠ a → c ≠ a + 1 → σ' c = σ c := by
  obtain ⟨s1, e1, k1, f1⟩ := p1_put h (by omega) hb (ab_shr x 24)
  obtain ⟨s2, e2, k2, f2⟩ := p1_put k1 (by show t.1 + 1 < _; omega) hb (ab_shr x 16)
  obtain ⟨s3, e3, k3, f3⟩ := p1_put k2 (by show t.1 + 1 + 1 < _; omega) hb (ab_shr x 8)
  obtain ⟨s4, e4, k4, f4⟩ := p1_put k3 (by show t.1 + 1 + 1 + 1 < _; omega) hb (ab_shr x 0)
  refine ⟨s4, ?_, k4, fun c h1 h2 => by rw [f4 c h1 h2, f3 c h1 h2, f2 c h1 h2, f1 c h1 h2]⟩
  unfold g_X1_putFour
  have w1 : ab_w32 (24 + -8) = 16 := by decide
  have w2 : ab_w32 (16 + -8) = 8 := by decide
  have w3 : ab_w32 (8 + -8) = 0 := by decide
  have w4 : ab_w32 (0 + -8) = -8 := by decide
  rw [show ab_FU = 99995 + 1 + 1 + 1 + 1 + 1 from rfl]
  rw [g_X1_putFour_L3, if_neg (by decide), e1, Option.bind_some, w1]
  rw [g_X1_putFour_L3, if_neg (by decide), e2, Option.bind_some, w2]
  rw [g_X1_putFour_L3, if_neg (by decide), e3, Option.bind_some, w3]
  rw [g_X1_putFour_L3, if_neg (by decide), e4, Option.bind_some, w4]
  rw [g_X1_putFour_L3, if_pos (by decide)]
def Tp9 (σ : st_S) (t : Nat × (Nat → Int)) : Prop := σ 596 4 = (t.1 : Int) ∧ ∀ i, i < t.1 → σ 599 i = t.2 i
theorem p9_put1 {σ : st_S} {t : Nat × (Nat → Int)} (h : Tp9 σ t) (hn : t.1 < 1200) (x : Int) : ∃ σ1 σ2, sa_st σ 599 1200 (σ 596 4) (ab_w8 (ab_w8 x)) = some σ1 ∧ up2 σ1 596 4 (ab_w32 ((σ1 596 4) + 1)) = σ2 ∧ Tp9 σ2 (tpush t x) ∧ (∀ c, c ≠ 596 → c ≠ 599 → σ2 c = σ c) ∧ ∀ f, f ≠ 4 → σ2 596 f = σ 596 f := by
  obtain ⟨h1, h2⟩ := h
  refine ⟨_, _, sa_st_of (by omega) (by omega), rfl, ⟨?_, fun i hi => ?_⟩, fun c hc1 hc2 => ?_, fun f hf => ?_⟩
  · rw [up2_at, up2_o _ _ (by decide), h1, w32i (by omega) (by omega)]; rfl
  · rw [up2_o _ _ (by decide), w8w8, h1]
    show up2 σ 599 ((t.1 : Int)).toNat (ab_w8 x) 599 i = if i = t.1 then ab_w8 x else t.2 i
    by_cases e : i = t.1
    · subst e; rw [Int.toNat_natCast, up2_at, if_pos rfl]
    · rw [Int.toNat_natCast, up2_ne _ _ (fun q => e q.2), if_neg e]
      exact h2 i (by have : i < t.1 + 1 := hi; omega)
  · rw [up2_o _ _ hc1, up2_o _ _ hc2]
  · rw [up2_ne _ _ (fun q => hf q.2), up2_o _ _ (by decide)]
theorem p9_puts4 {σ : st_S} {t : Nat × (Nat → Int)} (h : Tp9 σ t) (hn : t.1 + 4 ≤ 1200) (x : Int) : ∃ σ', g_X9_puts4 x σ = some σ' ∧ Tp9 σ' (tpush4 t x) ∧ (∀ c, c ≠ 596 → c ≠ 599 → σ' c = σ c) ∧ ∀ f, f ≠ 4 → σ' 596 f = σ 596 f := by
  obtain ⟨u1, s1, e1, z1, k1, f1, g1⟩ := p9_put1 h (by omega) (ab_shr x 24)
  obtain ⟨u2, s2, e2, z2, k2, f2, g2⟩ := p9_put1 k1 (by show t.1 + 1 < _; omega) (ab_shr x 16)
  obtain ⟨u3, s3, e3, z3, k3, f3, g3⟩ := p9_put1 k2 (by show t.1 + 1 + 1 < _; omega) (ab_shr x 8)
  obtain ⟨u4, s4, e4, z4, k4, f4, g4⟩ := p9_put1 k3 (by show t.1 + 1 + 1 + 1 < _; omega) (ab_shr x 0)
  refine ⟨s4, ?_, k4, fun c h1 h2 => by rw [f4 c h1 h2, f3 c h1 h2, f2 c h1 h2, f1 c h1 h2], fun f hf => by rw [g4 f hf, g3 f hf, g2 f hf, g1 f hf]⟩
  unfold g_X9_puts4
  have w1 : ab_w32 (24 + -8) = 16 := by decide
  have w2 : ab_w32 (16 + -8) = 8 := by decide
  have w3 : ab_w32 (8 + -8) = 0 := by decide
  have w4 : ab_w32 (0 + -8) = -8 := by decide
  rw [show ab_FU = 99995 + 1 + 1 + 1 + 1 + 1 from rfl]
  rw [g_X9_puts4_L3, if_neg (by decide), e1, Option.bind_some, Option.bind_some, z1, w1]
  rw [g_X9_puts4_L3, if_neg (by decide), e2, Option.bind_some, Option.bind_some, z2, w2]
  rw [g_X9_puts4_L3, if_neg (by decide), e3, Option.bind_some, Option.bind_some, z3, w3]
  rw [g_X9_puts4_L3, if_neg (by decide), e4, Option.bind_some, Option.bind_some, z4, w4]
  rw [g_X9_puts4_L3, if_pos (by decide)]
theorem Rep8.setT {Dr : st_S → BV → Prop} (hD : DrIn Dr) {σ σ' : st_S} {S : SV} (h : Rep8 Dr σ S) (e : ∀ a, a ≠ 2 → a ≠ 3 → σ' a = σ a) {t : Nat × (Nat → Int)} (ht : By8 σ' 2 t) : Rep8 Dr σ' (withT S t) := by
  obtain ⟨h1, h2, h3, h4, ⟨h5, h6, h7⟩, h8, h9⟩ := h
  refine ⟨ht, by rw [e 4 (by decide) (by decide), e 5 (by decide) (by decide)]; exact h2, by rw [e 8 (by decide) (by decide)]; exact h3, h4.fr (fun k hk => e _ (by omega) (by omega)), ⟨by rw [e 35 (by decide) (by decide)]; exact h5, by rw [e 35 (by decide) (by decide)]; exact h6, fun j hj => ?_⟩, by rw [e 9 (by decide) (by decide)]; exact h8, hD σ _ _ (fun a h1 _ => e a (by omega) (by omega)) h9⟩
  rw [e 35 (by decide) (by decide)]; exact (h7 j hj).fr (fun k hk => e _ (by omega) (by omega))
theorem Rep9.setT {σ σ' : st_S} {S : SV} (h : Rep9 σ S) (e : ∀ a, a ≠ 596 → a ≠ 599 → σ' a = σ a) (e2 : ∀ f, f ≠ 4 → σ' 596 f = σ 596 f) {t : Nat × (Nat → Int)} (ht : Tp9 σ' t) : Rep9 σ' (withT S t) := by
  obtain ⟨h1, h2, h3, h4, h5, h6⟩ := h
  exact ⟨ht, by rw [e2 28 (by decide), e 609 (by decide) (by decide)]; exact h2, by rw [e2 10 (by decide), e2 11 (by decide)]; exact h3, h4.fr (e _ (by decide) (by decide)), by rw [e2 34 (by decide)]; exact h5, fun j hj => (h6 j hj).fr (e _ (by decide) (by decide))⟩
theorem tpush_ok {t : Nat × (Nat → Int)} (h : ∀ i, i < t.1 → -128 ≤ t.2 i ∧ t.2 i < 128) (x : Int) : ∀ i, i < (tpush t x).1 → -128 ≤ (tpush t x).2 i ∧ (tpush t x).2 i < 128 := by
  intro i hi
  show -128 ≤ (if i = t.1 then ab_w8 x else t.2 i) ∧ (if i = t.1 then ab_w8 x else t.2 i) < 128
  split
  · unfold ab_w8; omega
  · exact h i (by have : i < t.1 + 1 := hi; omega)
theorem tpush4_ok {t : Nat × (Nat → Int)} (h : ∀ i, i < t.1 → -128 ≤ t.2 i ∧ t.2 i < 128) (x : Int) : ∀ i, i < (tpush4 t x).1 → -128 ≤ (tpush4 t x).2 i ∧ (tpush4 t x).2 i < 128 := tpush_ok (tpush_ok (tpush_ok (tpush_ok h _) _) _) _
def tfeed (t : Nat × (Nat → Int)) (a b c d e : Int) : Nat × (Nat → Int) := tpush4 (tpush4 (tpush4 (tpush4 (tpush4 t a) b) c) d) e
theorem S_feed {Dr : st_S → BV → Prop} (hD : DrIn Dr) : Stp5 (InvD Dr) g_X8_feed g_X9_feed := by
  intro a b c d e σ _ _ _ _ _ ⟨S, r8, r9, ok⟩
  have o1 := ok.1
  by_cases hw : (sT S).1 + 20 ≤ 1200
  · refine stp_of hD (S' := withT S (tfeed (sT S) a b c d e)) (r := (((sT S).1 + 20 : Nat) : Int)) ?_ ?_ ?_ r8 r9
    · intro τ h8
      obtain ⟨s1, e1, k1, f1⟩ := p1_putFour (a := 2) h8.1 (by show _ ≤ 1200; omega) (by decide) a
      obtain ⟨s2, e2, k2, f2⟩ := p1_putFour (a := 2) k1 (by show (sT S).1 + 4 + 4 ≤ 1200; omega) (by decide) b
      obtain ⟨s3, e3, k3, f3⟩ := p1_putFour (a := 2) k2 (by show (sT S).1 + 4 + 4 + 4 ≤ 1200; omega) (by decide) c
      obtain ⟨s4, e4, k4, f4⟩ := p1_putFour (a := 2) k3 (by show (sT S).1 + 4 + 4 + 4 + 4 ≤ 1200; omega) (by decide) d
      obtain ⟨s5, e5, k5, f5⟩ := p1_putFour (a := 2) k4 (by show (sT S).1 + 4 + 4 + 4 + 4 + 4 ≤ 1200; omega) (by decide) e
      have fr : ∀ z, z ≠ 2 → z ≠ 3 → s5 z = τ z := fun z h1 h2 => by rw [f5 z h1 h2, f4 z h1 h2, f3 z h1 h2, f2 z h1 h2, f1 z h1 h2]
      refine ⟨s5, ?_, h8.setT hD fr k5, fun z hz => fr z (by omega) (by omega)⟩
      unfold g_X8_feed
      rw [h8.1.1, w32i (by omega) (by omega), if_pos (by omega), e1, Option.bind_some, e2, Option.bind_some, e3, Option.bind_some, e4, Option.bind_some, e5, Option.bind_some, k5.1]
      rfl
    · intro τ h9
      obtain ⟨s1, e1, k1, f1, g1⟩ := p9_puts4 h9.1 (by omega) a
      obtain ⟨s2, e2, k2, f2, g2⟩ := p9_puts4 k1 (by show (sT S).1 + 4 + 4 ≤ 1200; omega) b
      obtain ⟨s3, e3, k3, f3, g3⟩ := p9_puts4 k2 (by show (sT S).1 + 4 + 4 + 4 ≤ 1200; omega) c
      obtain ⟨s4, e4, k4, f4, g4⟩ := p9_puts4 k3 (by show (sT S).1 + 4 + 4 + 4 + 4 ≤ 1200; omega) d
      obtain ⟨s5, e5, k5, f5, g5⟩ := p9_puts4 k4 (by show (sT S).1 + 4 + 4 + 4 + 4 + 4 ≤ 1200; omega) e
      have fr : ∀ z, z ≠ 596 → z ≠ 599 → s5 z = τ z := fun z h1 h2 => by rw [f5 z h1 h2, f4 z h1 h2, f3 z h1 h2, f2 z h1 h2, f1 z h1 h2]
      have gr : ∀ f, f ≠ 4 → s5 596 f = τ 596 f := fun f hf => by rw [g5 f hf, g4 f hf, g3 f hf, g2 f hf, g1 f hf]
      refine ⟨s5, ?_, h9.setT fr gr k5, fun z hz => fr z (by omega) (by omega)⟩
      unfold g_X9_feed
      rw [h9.1.1, w32i (by omega) (by omega), if_pos (by omega), e1, Option.bind_some, e2, Option.bind_some, e3, Option.bind_some, e4, Option.bind_some, e5, Option.bind_some, k5.1]
      rfl
    · obtain ⟨p1, p2, p3⟩ := ok
      exact ⟨by show (sT S).1 + 4 + 4 + 4 + 4 + 4 ≤ 1200; omega, tpush4_ok (tpush4_ok (tpush4_ok (tpush4_ok (tpush4_ok p2 a) b) c) d) e, p3⟩
  · refine stp_of hD (S' := S) (r := -1) ?_ ?_ ok r8 r9
    · intro τ h8
      refine ⟨τ, ?_, h8, fun _ _ => rfl⟩
      unfold g_X8_feed
      rw [h8.1.1, w32i (by omega) (by omega), if_neg (by omega)]
    · intro τ h9
      refine ⟨τ, ?_, h9, fun _ _ => rfl⟩
      unfold g_X9_feed
      rw [h9.1.1, w32i (by omega) (by omega), if_neg (by omega)]
