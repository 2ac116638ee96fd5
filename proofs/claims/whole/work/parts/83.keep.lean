/-! books are copied; what is worked out of the book; what is kept -/
def DR (σ : st_S) (b : BV) : Prop := Wd8 σ b ∧ T8 σ b ∧ TU σ 156 b (bwy b) ∧ (∃ r, SL σ 376 r) ∧ nE b (bwy b) ≤ 72
theorem SL.fr {σ σ' : st_S} {a : Nat} {r : Nat → Nat} (h : SL σ a r) (e : σ' (a + 1) = σ (a + 1)) : SL σ' a r := ⟨fun k hk => by rw [e]; exact h.1 k hk, h.2⟩
theorem TU.fr {σ σ' : st_S} {a : Nat} {b : BV} {wy : Nat → Int} (hn : nE b wy ≤ 72) (h : TU σ a b wy) (e : ∀ c, a ≤ c → c ≤ a + 219 → σ' c = σ c) : TU σ' a b wy := by
  obtain ⟨r, t, h3, h5, hl, hh, hj⟩ := h
  have ok : ∀ k, k < 72 → OkR a (r k) := fun k hk => (t.2.1.1 k hk).2
  unfold OkR at ok
  refine ⟨r, t.fr hn (by rw [e a (by omega) (by omega)]) (fun c h1 h2 _ _ f _ _ => by rw [e c (by omega) h2]) (e _ (by omega) (by omega)) (fun k hk => by have := ok k hk; exact ⟨e _ (by omega) (by omega), e _ (by omega) (by omega)⟩), by rw [e a (by omega) (by omega)]; exact h3, by rw [e a (by omega) (by omega)]; exact h5, by rw [e (a + 2) (by omega) (by omega)]; exact hl, by rw [e (a + 3) (by omega) (by omega)]; exact hh, fun j hj' => ?_⟩
  have := ok j (by omega)
  rw [e (r j) (by omega) (by omega)]; exact hj j hj'
theorem dr_in : DrIn DR := by
  intro σ σ' b e ⟨h1, h2, h3, ⟨r, h4⟩, h5⟩
  exact ⟨h1.fr (fun a p q => e a (by omega) (by omega)), h2.fr (fun a p q => e a (by omega) (by omega)), h3.fr h5 (fun c p q => e c (by omega) (by omega)), ⟨r, h4.fr (e 377 (by decide) (by decide))⟩, h5⟩
/-- only the places of entries -/
def DS (σ : st_S) (_ : BV) : Prop := (∃ r, SL σ 156 r) ∧ ∃ r, SL σ 376 r
theorem ds_in : DrIn DS := by
  intro σ σ' b e ⟨⟨r1, h1⟩, ⟨r2, h2⟩⟩
  exact ⟨⟨r1, h1.fr (e 157 (by decide) (by decide))⟩, ⟨r2, h2.fr (e 377 (by decide) (by decide))⟩⟩
theorem DR.ds {σ : st_S} {b b' : BV} (h : DR σ b) : DS σ b' := ⟨h.2.2.1.sl, h.2.2.2.1⟩
theorem Rep8.ds {σ : st_S} {S : SV} (h : Rep8 DR σ S) : Rep8 DS σ S := ⟨h.1, h.2.1, h.2.2.1, h.2.2.2.1, h.2.2.2.2.1, h.2.2.2.2.2.1, h.2.2.2.2.2.2.ds⟩
/-- all anew -/
theorem p8_renew {σ : st_S} {S : SV} (h : Rep8 DS σ S) (ok : OkB (sB S)) : ∃ σ', g_X8_renew σ = some σ' ∧ Rep8 DR σ' S ∧ (∀ a, (a < 147 ∨ 375 < a) → σ' a = σ a) := by
  obtain ⟨h1, h2, h3, h4, ⟨h5, h6, h7⟩, h8, ⟨r1, s1⟩, s2⟩ := h
  obtain ⟨σ1, a1, a2, a3⟩ := p7_gatherFrom ok h4
  have B1 : RB8 σ1 13 (sB S) := h4.fr (fun k hk => a3 _ (by omega) (by omega) (by omega))
  obtain ⟨σ2, b1, b2, b3⟩ := p5_takeFrom ok B1 a2
  have B2 : RB8 σ2 13 (sB S) := B1.fr (fun k hk => b3 _ (by omega))
  have S2 : SL σ2 156 r1 := s1.fr (by rw [b3 157 (by decide), a3 157 (by decide) (by decide) (by decide)])
  obtain ⟨σ3, c1, c2, c3, c4⟩ := p6_turnAll (a := 156) (a1 := 13) (by decide) (by decide) ok S2 B2.bk b2
  have fr : ∀ a, (a < 147 ∨ 375 < a) → σ3 a = σ a := fun a ha => by rw [c4 a (by omega), b3 a (by omega), a3 a (by omega) (by omega) (by omega)]
  refine ⟨σ3, ?_, ⟨by rw [fr 2 (by decide), fr 3 (by decide)]; exact h1, by rw [fr 4 (by decide), fr 5 (by decide)]; exact h2, by rw [fr 8 (by decide)]; exact h3, h4.fr (fun k hk => fr _ (by omega)), ⟨by rw [fr 35 (by decide)]; exact h5, by rw [fr 35 (by decide)]; exact h6, fun j hj => ?_⟩, by rw [fr 9 (by decide)]; exact h8, ⟨?_, b2.fr (fun a p q => c4 a (by omega)), c2, ?_, c3⟩⟩, fr⟩
  · unfold g_X8_renew
    rw [a1, Option.bind_some, b1, Option.bind_some, c1]; rfl
  · rw [fr 35 (by decide)]; exact (h7 j hj).fr (fun k hk => fr _ (by omega))
  · exact (a2.fr (fun a p q => b3 a (by omega))).fr (fun a p q => c4 a (by omega))
  · obtain ⟨r, s⟩ := s2
    exact ⟨r, s.fr (fr 377 (by decide))⟩
/-! copies -/
theorem cp2_o (σ : st_S) {a sp b dp n a' : Nat} (h : a' ≠ b) : cp2 σ a sp b dp n a' = σ a' := by
  funext f'; unfold cp2; rw [if_neg (fun q => h q.1)]
theorem cp2_at (σ : st_S) {a sp b dp n x : Nat} : cp2 σ a sp b dp n b x = if dp ≤ x ∧ x < dp + n then σ a (sp + (x - dp)) else σ b x := by
  unfold cp2
  by_cases h : dp ≤ x ∧ x < dp + n
  · rw [if_pos ⟨rfl, h⟩, if_pos h]
  · rw [if_neg (fun q => h q.2), if_neg h]
theorem sa_cp_of {σ : st_S} {a na sp b nb dp n : Nat} (h1 : sp + n ≤ na) (h2 : dp + n ≤ nb) : sa_cp σ a na (sp : Int) b nb (dp : Int) (n : Int) = some (cp2 σ a sp b dp n) := by
  unfold sa_cp
  rw [if_pos ⟨by omega, by omega, by omega, by omega, by omega⟩, Int.toNat_natCast, Int.toNat_natCast, Int.toNat_natCast]
theorem p0_copyStrings {σ : st_S} {a0 a1 : Nat} (hd : a0 = a1 ∨ a0 + 10 < a1 ∨ a1 + 10 < a0) {f t n : Nat} (h1 : f + n ≤ 12) (h2 : t + n ≤ 12) :
    ∃ σ', g_X0_copyStrings a0 a1 (f : Int) (t : Int) (n : Int) σ = some σ' ∧ (∀ k, 1 ≤ k → k ≤ 2 → ∀ x, σ' (a0 + k) x = if t ≤ x ∧ x < t + n then σ (a1 + k) (f + (x - t)) else σ (a0 + k) x) ∧ (∀ k, 3 ≤ k → k ≤ 7 → ∀ x, σ' (a0 + k) x = if 6 * t ≤ x ∧ x < 6 * t + 6 * n then σ (a1 + k) (6 * f + (x - 6 * t)) else σ (a0 + k) x) ∧ ∀ c, (c < a0 + 1 ∨ a0 + 7 < c) → σ' c = σ c := by
  generalize g1 : cp2 σ (a1 + 1) f (a0 + 1) t n = s1
  have o1 : ∀ c, c ≠ a0 + 1 → s1 c = σ c := fun c hc => by rw [← g1, cp2_o _ hc]
  have d1 : ∀ c, (c < a0 + 1 ∨ a0 + 1 < c) → s1 c = σ c := fun c hc => by rw [o1 c (by omega)]
  have e1 : ∀ x, s1 (a0 + 1) x = if t ≤ x ∧ x < t + n then σ (a1 + 1) (f + (x - t)) else σ (a0 + 1) x := fun x => by
    rw [← g1, cp2_at]
  generalize g2 : cp2 s1 (a1 + 2) f (a0 + 2) t n = s2
  have o2 : ∀ c, c ≠ a0 + 2 → s2 c = s1 c := fun c hc => by rw [← g2, cp2_o _ hc]
  have d2 : ∀ c, (c < a0 + 1 ∨ a0 + 2 < c) → s2 c = σ c := fun c hc => by rw [o2 c (by omega), d1 c (by omega)]
  have e2 : ∀ x, s2 (a0 + 2) x = if t ≤ x ∧ x < t + n then σ (a1 + 2) (f + (x - t)) else σ (a0 + 2) x := fun x => by
    rw [← g2, cp2_at, d1 (a1 + 2) (by omega), d1 (a0 + 2) (by omega)]
  generalize g3 : cp2 s2 (a1 + 3) (6 * f) (a0 + 3) (6 * t) (6 * n) = s3
  have o3 : ∀ c, c ≠ a0 + 3 → s3 c = s2 c := fun c hc => by rw [← g3, cp2_o _ hc]
  have d3 : ∀ c, (c < a0 + 1 ∨ a0 + 3 < c) → s3 c = σ c := fun c hc => by rw [o3 c (by omega), d2 c (by omega)]
  have e3 : ∀ x, s3 (a0 + 3) x = if 6 * t ≤ x ∧ x < 6 * t + 6 * n then σ (a1 + 3) (6 * f + (x - (6 * t))) else σ (a0 + 3) x := fun x => by
    rw [← g3, cp2_at, d2 (a1 + 3) (by omega), d2 (a0 + 3) (by omega)]
  generalize g4 : cp2 s3 (a1 + 4) (6 * f) (a0 + 4) (6 * t) (6 * n) = s4
  have o4 : ∀ c, c ≠ a0 + 4 → s4 c = s3 c := fun c hc => by rw [← g4, cp2_o _ hc]
  have d4 : ∀ c, (c < a0 + 1 ∨ a0 + 4 < c) → s4 c = σ c := fun c hc => by rw [o4 c (by omega), d3 c (by omega)]
  have e4 : ∀ x, s4 (a0 + 4) x = if 6 * t ≤ x ∧ x < 6 * t + 6 * n then σ (a1 + 4) (6 * f + (x - (6 * t))) else σ (a0 + 4) x := fun x => by
    rw [← g4, cp2_at, d3 (a1 + 4) (by omega), d3 (a0 + 4) (by omega)]
  generalize g5 : cp2 s4 (a1 + 5) (6 * f) (a0 + 5) (6 * t) (6 * n) = s5
  have o5 : ∀ c, c ≠ a0 + 5 → s5 c = s4 c := fun c hc => by rw [← g5, cp2_o _ hc]
  have d5 : ∀ c, (c < a0 + 1 ∨ a0 + 5 < c) → s5 c = σ c := fun c hc => by rw [o5 c (by omega), d4 c (by omega)]
  have e5 : ∀ x, s5 (a0 + 5) x = if 6 * t ≤ x ∧ x < 6 * t + 6 * n then σ (a1 + 5) (6 * f + (x - (6 * t))) else σ (a0 + 5) x := fun x => by
    rw [← g5, cp2_at, d4 (a1 + 5) (by omega), d4 (a0 + 5) (by omega)]
  generalize g6 : cp2 s5 (a1 + 6) (6 * f) (a0 + 6) (6 * t) (6 * n) = s6
  have o6 : ∀ c, c ≠ a0 + 6 → s6 c = s5 c := fun c hc => by rw [← g6, cp2_o _ hc]
  have d6 : ∀ c, (c < a0 + 1 ∨ a0 + 6 < c) → s6 c = σ c := fun c hc => by rw [o6 c (by omega), d5 c (by omega)]
  have e6 : ∀ x, s6 (a0 + 6) x = if 6 * t ≤ x ∧ x < 6 * t + 6 * n then σ (a1 + 6) (6 * f + (x - (6 * t))) else σ (a0 + 6) x := fun x => by
    rw [← g6, cp2_at, d5 (a1 + 6) (by omega), d5 (a0 + 6) (by omega)]
  generalize g7 : cp2 s6 (a1 + 7) (6 * f) (a0 + 7) (6 * t) (6 * n) = s7
  have o7 : ∀ c, c ≠ a0 + 7 → s7 c = s6 c := fun c hc => by rw [← g7, cp2_o _ hc]
  have d7 : ∀ c, (c < a0 + 1 ∨ a0 + 7 < c) → s7 c = σ c := fun c hc => by rw [o7 c (by omega), d6 c (by omega)]
  have e7 : ∀ x, s7 (a0 + 7) x = if 6 * t ≤ x ∧ x < 6 * t + 6 * n then σ (a1 + 7) (6 * f + (x - (6 * t))) else σ (a0 + 7) x := fun x => by
    rw [← g7, cp2_at, d6 (a1 + 7) (by omega), d6 (a0 + 7) (by omega)]
  refine ⟨s7, ?_, fun k k1 k2 x => ?_, fun k k1 k2 x => ?_, fun c hc => d7 c hc⟩
  · unfold g_X0_copyStrings
    rw [show ab_w32 ((f : Int) * 6) = ((6 * f : Nat) : Int) by rw [w32i (by omega) (by omega)]; omega, show ab_w32 ((t : Int) * 6) = ((6 * t : Nat) : Int) by rw [w32i (by omega) (by omega)]; omega, show ab_w32 ((n : Int) * 6) = ((6 * n : Nat) : Int) by rw [w32i (by omega) (by omega)]; omega]
    rw [sa_cp_of (by omega) (by omega), Option.bind_some, g1]
    rw [sa_cp_of (by omega) (by omega), Option.bind_some, g2]
    rw [sa_cp_of (by omega) (by omega), Option.bind_some, g3]
    rw [sa_cp_of (by omega) (by omega), Option.bind_some, g4]
    rw [sa_cp_of (by omega) (by omega), Option.bind_some, g5]
    rw [sa_cp_of (by omega) (by omega), Option.bind_some, g6]
    rw [sa_cp_of (by omega) (by omega), Option.bind_some, g7]
  · obtain rfl | rfl : k = 1 ∨ k = 2 := by omega
    · rw [o7 (a0 + 1) (by omega), o6 (a0 + 1) (by omega), o5 (a0 + 1) (by omega), o4 (a0 + 1) (by omega), o3 (a0 + 1) (by omega), o2 (a0 + 1) (by omega), e1]
    · rw [o7 (a0 + 2) (by omega), o6 (a0 + 2) (by omega), o5 (a0 + 2) (by omega), o4 (a0 + 2) (by omega), o3 (a0 + 2) (by omega), e2]
  · obtain rfl | rfl | rfl | rfl | rfl : k = 3 ∨ k = 4 ∨ k = 5 ∨ k = 6 ∨ k = 7 := by omega
    · rw [o7 (a0 + 3) (by omega), o6 (a0 + 3) (by omega), o5 (a0 + 3) (by omega), o4 (a0 + 3) (by omega), e3]
    · rw [o7 (a0 + 4) (by omega), o6 (a0 + 4) (by omega), o5 (a0 + 4) (by omega), e4]
    · rw [o7 (a0 + 5) (by omega), o6 (a0 + 5) (by omega), e5]
    · rw [o7 (a0 + 6) (by omega), e6]
    · rw [e7]
theorem p0_copyFrom {σ : st_S} {a0 a1 : Nat} {b : BV} (hd : a0 + 10 < a1 ∨ a1 + 10 < a0) (ok : OkB b) (hB : RB8 σ a1 b) :
    ∃ σ', g_X0_copyFrom a0 a1 σ = some σ' ∧ RB8 σ' a0 b ∧ ∀ c, (c < a0 ∨ a0 + 10 < c) → σ' c = σ c := by
  have k1 := ok.1
  have k7 := ok.2.2.2.2.2.2.1
  obtain ⟨r0, r1, r2, r3, r4, r5⟩ := hB
  have u0 : ∀ c, c ≠ a0 → up2 σ a0 0 (bn b : Int) c = σ c := fun c hc => up2_o _ _ hc
  obtain ⟨s1, c1, c2, c3, c4⟩ := p0_copyStrings (σ := up2 σ a0 0 (bn b : Int)) (a0 := a0) (a1 := a1) (f := 0) (t := 0) (n := bn b) (by omega) (by omega) (by omega)
  generalize g2 : cp2 s1 (a1 + 8) 0 (a0 + 8) 0 6 = s2
  generalize g3 : up2 s2 a0 9 (bm b : Int) = s3
  generalize g4 : cp2 s3 (a1 + 9) 0 (a0 + 9) 0 (bm b) = s4
  generalize g5 : cp2 s4 (a1 + 10) 0 (a0 + 10) 0 (bm b) = s5
  have o2 : ∀ c, c ≠ a0 + 8 → s2 c = s1 c := fun c hc => by rw [← g2, cp2_o _ hc]
  have o3 : ∀ c, c ≠ a0 → s3 c = s2 c := fun c hc => by rw [← g3, up2_o _ _ hc]
  have o4 : ∀ c, c ≠ a0 + 9 → s4 c = s3 c := fun c hc => by rw [← g4, cp2_o _ hc]
  have o5 : ∀ c, c ≠ a0 + 10 → s5 c = s4 c := fun c hc => by rw [← g5, cp2_o _ hc]
  have far : ∀ c, (c < a0 ∨ a0 + 10 < c) → s1 c = σ c := fun c hc => by rw [c4 c (by omega), u0 c (by omega)]
  have m0 : s1 a0 0 = (bn b : Int) := by rw [c4 a0 (by omega), up2_at]
  have n2 : s2 a1 9 = (bm b : Int) := by rw [o2 a1 (by omega), far a1 (by omega)]; exact r4
  have n3 : s3 a0 9 = (bm b : Int) := by rw [← g3, up2_at]
  have n4 : s4 a0 9 = (bm b : Int) := by rw [o4 a0 (by omega)]; exact n3
  refine ⟨s5, ?_, ⟨?_, fun s hs => ⟨?_, ?_⟩, fun s hs i hi f hf => ?_, fun r hr => ?_, ?_, fun k hk => ⟨?_, ?_⟩⟩, fun c hc => by rw [o5 c (by omega), o4 c (by omega), o3 c (by omega), o2 c (by omega), far c hc]⟩
  · unfold g_X0_copyFrom
    rw [r0, Option.bind_some, up2_at, show (0 : Int) = ((0 : Nat) : Int) from rfl, c1, Option.bind_some, show (6 : Int) = ((6 : Nat) : Int) from rfl, sa_cp_of (by omega) (by omega), Option.bind_some, g2, n2, Option.bind_some, g3, n3, sa_cp_of (by omega) (by omega), Option.bind_some, g4, n4, sa_cp_of (by omega) (by omega), Option.bind_some, g5]
  · rw [o5 a0 (by omega), o4 a0 (by omega), ← g3, up2_ne _ _ (by omega), o2 a0 (by omega)]; exact m0
  · rw [o5 (a0 + 1) (by omega), o4 (a0 + 1) (by omega), o3 (a0 + 1) (by omega), o2 (a0 + 1) (by omega), c2 1 (by omega) (by omega), if_pos (by omega), u0 (a1 + 1) (by omega), Nat.zero_add, Nat.sub_zero]; exact (r1 s hs).1
  · rw [o5 (a0 + 2) (by omega), o4 (a0 + 2) (by omega), o3 (a0 + 2) (by omega), o2 (a0 + 2) (by omega), c2 2 (by omega) (by omega), if_pos (by omega), u0 (a1 + 2) (by omega), Nat.zero_add, Nat.sub_zero]; exact (r1 s hs).2
  · have := ok.2.1 s hs
    rw [Nat.add_assoc, o5 (a0 + (3 + f)) (by omega), o4 (a0 + (3 + f)) (by omega), o3 (a0 + (3 + f)) (by omega), o2 (a0 + (3 + f)) (by omega), c3 (3 + f) (by omega) (by omega), if_pos (by omega), u0 (a1 + (3 + f)) (by omega), Nat.mul_zero, Nat.zero_add, Nat.sub_zero, ← Nat.add_assoc]; exact r2 s hs i hi f hf
  · rw [o5 (a0 + 8) (by omega), o4 (a0 + 8) (by omega), o3 (a0 + 8) (by omega), ← g2, cp2_at, if_pos (by omega), far (a1 + 8) (by omega), Nat.zero_add, Nat.sub_zero]; exact r3 r hr
  · rw [o5 a0 (by omega)]; exact n4
  · rw [o5 (a0 + 9) (by omega), ← g4, cp2_at, if_pos (by omega), o3 (a1 + 9) (by omega), o2 (a1 + 9) (by omega), far (a1 + 9) (by omega), Nat.zero_add, Nat.sub_zero]; exact (r5 k hk).1
  · rw [← g5, cp2_at, if_pos (by omega), o4 (a1 + 10) (by omega), o3 (a1 + 10) (by omega), o2 (a1 + 10) (by omega), far (a1 + 10) (by omega), Nat.zero_add, Nat.sub_zero]; exact (r5 k hk).2
/-! what is kept -/
def hpush (h : Nat × (Nat → BV)) (b : BV) : Nat × (Nat → BV) := if h.1 < 10 then (h.1 + 1, fun j => if j = h.1 then b else h.2 j) else (10, fun j => if j = 9 then b else h.2 (j + 1))
def withB (S : SV) (b : BV) : SV := (S.1, S.2.1, S.2.2.1, b, S.2.2.2.2)
def withH (S : SV) (h : Nat × (Nat → BV)) : SV := (S.1, S.2.1, S.2.2.1, S.2.2.2.1, h)
def keepS (S : SV) : SV := withH S (hpush (sH S) (sB S))
def actS (S : SV) (b : BV) : SV := withB (keepS S) b
theorem rm10 {x : Nat} (h : x < 100) : ab_rm_ (x : Int) 10 = some ((x % 10 : Nat) : Int) := by
  have key : ∀ x : Nat, x < 100 → ab_rm_ (x : Int) 10 = some ((x % 10 : Nat) : Int) := by decide +kernel
  exact key x h
theorem OkS.keep {S : SV} (ok : OkS S) : OkS (keepS S) := by
  obtain ⟨o1, o2, o3, o4, o5, o6, o7⟩ := ok
  refine ⟨o1, o2, o3, o4, o5, ?_, ?_⟩
  · show (hpush (sH S) (sB S)).1 ≤ 10
    unfold hpush
    split
    · show (sH S).1 + 1 ≤ 10; omega
    · exact Nat.le_refl _
  · show ∀ j, j < (hpush (sH S) (sB S)).1 → OkB ((hpush (sH S) (sB S)).2 j)
    unfold hpush
    split
    · intro j hj
      have hj : j < (sH S).1 + 1 := hj
      show OkB (if j = (sH S).1 then sB S else (sH S).2 j)
      split
      · exact o5
      · exact o7 j (by omega)
    · intro j hj
      have hj : j < 10 := hj
      show OkB (if j = 9 then sB S else (sH S).2 (j + 1))
      split
      · exact o5
      · exact o7 (j + 1) (by omega)
theorem OkS.act {S : SV} (ok : OkS S) {b : BV} (hb : OkB b) : OkS (actS S b) := by
  have := ok.keep
  exact ⟨this.1, this.2.1, this.2.2.1, this.2.2.2.1, hb, this.2.2.2.2.2⟩
theorem p3_keep {D : st_S → BV → Prop} (hD : DrIn D) {σ : st_S} {S : SV} (h : Rep8 D σ S) (ok : OkS S) : ∃ σ', g_X3_keep 13 σ = some σ' ∧ Rep8 D σ' (keepS S) ∧ ∀ a, (a < 35 ∨ 146 < a) → σ' a = σ a := by
  obtain ⟨h1, h2, h3, h4, ⟨h5, h6, h7⟩, h8, h9⟩ := h
  have n10 := ok.2.2.2.2.2.1
  obtain ⟨fi, ef⟩ := Int.eq_ofNat_of_zero_le h6.1
  have fl : fi < 10 := by have := h6.2; rw [ef] at this; omega
  rw [ef] at h7
  rw [Int.toNat_natCast] at h7
  generalize hn : (sH S).1 = n at h5 h7 n10
  have hr : (fi + n) % 10 < 10 := Nat.mod_lt _ (by decide)
  obtain ⟨σ1, c1, c2, c3⟩ := p0_copyFrom (a0 := 37 + 11 * ((fi + n) % 10)) (a1 := 13) (by omega) ok.2.2.2.2.1 h4
  have p1 : σ1 35 1 = (fi : Int) := by rw [c3 35 (by omega)]; exact ef
  have p2 : σ1 35 2 = (n : Int) := by rw [c3 35 (by omega)]; exact h5
  have run : ∀ x : st_S, (if (10 : Int) ≤ σ1 35 2 then (ab_rm_ (ab_w32 ((σ1 35 1) + (1 : Int))) (10 : Int)).bind fun t3 => (some (up2 σ1 35 1 t3)).bind fun σ1 => some σ1 else (some (up2 σ1 35 2 (ab_w32 ((σ1 35 2) + (1 : Int))))).bind fun σ2 => some σ2) = some x → g_X3_keep 13 σ = some x := by
    intro x hx
    unfold g_X3_keep
    rw [ef, h5, show ab_w32 ((fi : Int) + (n : Int)) = ((fi + n : Nat) : Int) by rw [w32i (by omega) (by omega)]; omega, rm10 (by omega), Option.bind_some, if_pos (by omega), Option.bind_some, Int.toNat_natCast, c1, Option.bind_some]
    exact hx
  have base : ∀ σ2 : st_S, (∀ a, a ≠ 35 → σ2 a = σ1 a) → ∀ (h : Nat × (Nat → BV)), σ2 35 2 = (h.1 : Int) → (0 ≤ σ2 35 1 ∧ σ2 35 1 < 10) → (∀ j, j < h.1 → RB8 σ2 (37 + 11 * (((σ2 35 1).toNat + j) % 10)) (h.2 j)) → Rep8 D σ2 (withH S h) ∧ ∀ a, (a < 35 ∨ 146 < a) → σ2 a = σ a := by
    intro σ2 f2 hh q1 q2 q3
    have fr : ∀ a, (a < 35 ∨ 146 < a) → σ2 a = σ a := fun a ha => by rw [f2 a (by omega), c3 a (by omega)]
    exact ⟨⟨by rw [fr 2 (by decide), fr 3 (by decide)]; exact h1, by rw [fr 4 (by decide), fr 5 (by decide)]; exact h2, by rw [fr 8 (by decide)]; exact h3, h4.fr (fun k hk => fr _ (by omega)), ⟨q1, q2, q3⟩, by rw [fr 9 (by decide)]; exact h8, hD σ _ _ (fun a p q => fr a (by omega)) h9⟩, fr⟩
  unfold keepS hpush
  rw [hn]
  by_cases hc : n < 10
  · rw [if_pos hc]
    have f2 : ∀ a, a ≠ 35 → up2 σ1 35 2 ((n + 1 : Nat) : Int) a = σ1 a := fun a ha => up2_o _ _ ha
    have e1 : up2 σ1 35 2 ((n + 1 : Nat) : Int) 35 1 = (fi : Int) := by rw [up2_ne _ _ (by omega)]; exact p1
    obtain ⟨q1, q2⟩ := base (up2 σ1 35 2 ((n + 1 : Nat) : Int)) f2 (n + 1, fun j => if j = n then sB S else (sH S).2 j) (up2_at _ _ _ _) (by rw [e1]; omega) (fun j hj => by
      have hj : j < n + 1 := hj
      rw [e1, Int.toNat_natCast]
      show RB8 _ _ (if j = n then sB S else (sH S).2 j)
      have hm : (fi + j) % 10 < 10 := Nat.mod_lt _ (by decide)
      by_cases ej : j = n
      · subst ej; rw [if_pos rfl]; exact c2.fr (fun k hk => f2 _ (by omega))
      · rw [if_neg ej]
        exact (h7 j (by omega)).fr (fun k hk => by rw [f2 _ (by omega), c3 _ (by omega)]))
    exact ⟨_, run _ (by rw [p2, if_neg (by omega), w32s (by omega)]; rfl), q1, q2⟩
  · have n9 : n = 10 := by omega
    subst n9
    rw [if_neg hc]
    have f2 : ∀ a, a ≠ 35 → up2 σ1 35 1 (((fi + 1) % 10 : Nat) : Int) a = σ1 a := fun a ha => up2_o _ _ ha
    have e1 : up2 σ1 35 1 (((fi + 1) % 10 : Nat) : Int) 35 1 = (((fi + 1) % 10 : Nat) : Int) := up2_at _ _ _ _
    obtain ⟨q1, q2⟩ := base (up2 σ1 35 1 (((fi + 1) % 10 : Nat) : Int)) f2 (10, fun j => if j = 9 then sB S else (sH S).2 (j + 1)) (by rw [up2_ne _ _ (by omega)]; exact p2) (by rw [e1]; omega) (fun j hj => by
      have hj : j < 10 := hj
      rw [e1, Int.toNat_natCast]
      show RB8 _ _ (if j = 9 then sB S else (sH S).2 (j + 1))
      have hm : ((fi + 1) % 10 + j) % 10 = (fi + (j + 1)) % 10 := by omega
      rw [hm]
      by_cases ej : j = 9
      · subst ej; rw [if_pos rfl]; exact c2.fr (fun k hk => f2 _ (by omega))
      · rw [if_neg ej]
        exact (h7 (j + 1) (by omega)).fr (fun k hk => by rw [f2 _ (by omega), c3 _ (by omega)]))
    exact ⟨_, run _ (by rw [p2, if_pos (by omega), p1, w32s (by omega), rm10 (by omega)]; rfl), q1, q2⟩
/-- the book is another one -/
theorem Rep8.book {σ σ' : st_S} {S : SV} (h : Rep8 DS σ S) (e : ∀ a, (a < 13 ∨ 23 < a) → σ' a = σ a) {b : BV} (hb : RB8 σ' 13 b) : Rep8 DS σ' (withB S b) := by
  obtain ⟨h1, h2, h3, h4, ⟨h5, h6, h7⟩, h8, h9⟩ := h
  refine ⟨by rw [e 2 (by decide), e 3 (by decide)]; exact h1, by rw [e 4 (by decide), e 5 (by decide)]; exact h2, by rw [e 8 (by decide)]; exact h3, hb, ⟨by rw [e 35 (by decide)]; exact h5, by rw [e 35 (by decide)]; exact h6, fun j hj => ?_⟩, by rw [e 9 (by decide)]; exact h8, ds_in σ σ' (sB S) (fun a p q => e a (by omega)) h9⟩
  rw [e 35 (by decide)]; exact (h7 j hj).fr (fun k hk => e _ (by omega))
/-! the reference -/
theorem RB9.mv {σ σ' : st_S} {c o c' o' : Nat} {b : BV} (ok : OkB b) (h : RB9 σ c o b) (e : ∀ x, x < 416 → σ' c' (o' + x) = σ c (o + x)) : RB9 σ' c' o' b := by
  obtain ⟨r0, r1, r2, r3, r4, r5⟩ := h
  have k1 := ok.1
  have k7 := ok.2.2.2.2.2.2.1
  refine ⟨by have := e 0 (by omega); rw [Nat.add_zero, Nat.add_zero] at this; rw [this]; exact r0, fun s hs => ?_, fun s hs i hi f hf => ?_, fun r hr => ?_, by rw [e 1 (by omega)]; exact r4, fun k hk => ?_⟩
  · rw [Nat.add_assoc, Nat.add_assoc, e (32 + 32 * s) (by omega), e (33 + 32 * s) (by omega), ← Nat.add_assoc, ← Nat.add_assoc]; exact r1 s hs
  · have := ok.2.1 s hs
    rw [show o' + 34 + 32 * s + 5 * i + f = o' + (34 + 32 * s + 5 * i + f) by omega, e _ (by omega), show o + (34 + 32 * s + 5 * i + f) = o + 34 + 32 * s + 5 * i + f by omega]; exact r2 s hs i hi f hf
  · rw [Nat.add_assoc, e (2 + r) (by omega), ← Nat.add_assoc]; exact r3 r hr
  · rw [Nat.add_assoc, Nat.add_assoc, e (8 + 2 * k) (by omega), e (9 + 2 * k) (by omega), ← Nat.add_assoc, ← Nat.add_assoc]; exact r5 k hk
set_option maxRecDepth 8000 in
theorem p9_keeps_L13 : ∀ (c v : Nat) (σ : st_S), v + c = 4160 → 416 ≤ v → ∃ σ', (∀ (k : st_S → Option st_S) (n : Nat), c < n → g_X9_keeps_L13 k n (v : Int) σ = k σ') ∧ (∀ x, x < 4160 → σ' 614 x = if v - 416 ≤ x ∧ x < 3744 then σ 614 (x + 416) else σ 614 x) ∧ ∀ a, a ≠ 614 → σ' a = σ a := by
  intro c
  induction c with
  | zero =>
    intro v σ hv h4
    refine ⟨σ, fun k n hn => ?_, fun x hx => by rw [if_neg (by omega)], fun _ _ => rfl⟩
    obtain ⟨m, rfl⟩ : ∃ m, n = m + 1 := ⟨n - 1, by omega⟩
    rw [g_X9_keeps_L13, if_pos (by omega)]
  | succ c ih =>
    intro v σ hv h4
    obtain ⟨σ', q1, q2, q3⟩ := ih (v + 1) (up2 σ 614 (v - 416) (σ 614 v)) (by omega) (by omega)
    refine ⟨σ', fun k n hn => ?_, fun x hx => ?_, fun a ha => by rw [q3 a ha, up2_o _ _ ha]⟩
    · obtain ⟨m, rfl⟩ : ∃ m, n = m + 1 := ⟨n - 1, by omega⟩
      rw [g_X9_keeps_L13, if_neg (by omega), sa_ld_of (by omega) (by omega), Option.bind_some, Int.toNat_natCast, show ab_w32 ((v : Int) - 416) = ((v - 416 : Nat) : Int) by rw [w32i (by omega) (by omega)]; omega, sa_st_of (by omega) (by omega), Option.bind_some, Int.toNat_natCast, w32s (by omega)]
      exact q1 k m (by omega)
    · rw [q2 x hx]
      by_cases e1 : x = v - 416
      · rw [if_neg (by omega), if_pos (by omega), e1, up2_at, show v - 416 + 416 = v by omega]
      · by_cases e2 : v + 1 - 416 ≤ x ∧ x < 3744
        · rw [if_pos e2, if_pos (by omega), up2_ne _ _ (by omega)]
        · rw [if_neg e2, if_neg (by omega), up2_ne _ _ (by omega)]
theorem p9_keeps_L54 {n0 : Nat} (h10 : n0 < 10) : ∀ (c v : Nat) (σ : st_S), v + c = 416 → σ 596 34 = (n0 : Int) → ∃ σ', (∀ (k : st_S → Option st_S) (n : Nat), c < n → g_X9_keeps_L54 k n (v : Int) σ = k σ') ∧ (∀ x, σ' 614 x = if 416 * n0 + v ≤ x ∧ x < 416 * n0 + 416 then σ 597 (x - 416 * n0) else σ 614 x) ∧ ∀ a, a ≠ 614 → σ' a = σ a := by
  intro c
  induction c with
  | zero =>
    intro v σ hv h34
    refine ⟨σ, fun k n hn => ?_, fun x => by rw [if_neg (by omega)], fun _ _ => rfl⟩
    obtain ⟨m, rfl⟩ : ∃ m, n = m + 1 := ⟨n - 1, by omega⟩
    rw [g_X9_keeps_L54, if_pos (by omega)]
  | succ c ih =>
    intro v σ hv h34
    obtain ⟨σ', q1, q2, q3⟩ := ih (v + 1) (up2 σ 614 (416 * n0 + v) (σ 597 v)) (by omega) (by rw [up2_o _ _ (by decide)]; exact h34)
    refine ⟨σ', fun k n hn => ?_, fun x => ?_, fun a ha => by rw [q3 a ha, up2_o _ _ ha]⟩
    · obtain ⟨m, rfl⟩ : ∃ m, n = m + 1 := ⟨n - 1, by omega⟩
      rw [g_X9_keeps_L54, if_neg (by omega), sa_ld_of (by omega) (by omega), Option.bind_some, Int.toNat_natCast, h34, show ab_w32 (ab_w32 ((416 : Int) * (n0 : Int)) + (v : Int)) = ((416 * n0 + v : Nat) : Int) by rw [w32i (x := (416 : Int) * (n0 : Int)) (by omega) (by omega), w32i (by omega) (by omega)]; omega, sa_st_of (by omega) (by omega), Option.bind_some, Int.toNat_natCast, w32s (by omega)]
      exact q1 k m (by omega)
    · rw [q2 x]
      by_cases e1 : x = 416 * n0 + v
      · rw [if_neg (by omega), if_pos (by omega), e1, up2_at, Nat.add_sub_cancel_left]
      · by_cases e2 : 416 * n0 + (v + 1) ≤ x ∧ x < 416 * n0 + 416
        · rw [if_pos e2, if_pos (by omega), up2_o _ _ (by decide)]
        · rw [if_neg e2, if_neg (by omega), up2_ne _ _ (by omega)]
theorem p9_keeps {σ : st_S} {S : SV} (h : Rep9 σ S) (ok : OkS S) : ∃ σ', g_X9_keeps σ = some σ' ∧ Rep9 σ' (keepS S) ∧ (∀ a, a ≠ 596 → a ≠ 614 → σ' a = σ a) ∧ ∀ f, f ≠ 34 → σ' 596 f = σ 596 f := by
  obtain ⟨h1, h2, h3, h4, h5, h6⟩ := h
  have n10 := ok.2.2.2.2.2.1
  have okb := ok.2.2.2.2.1
  have okh := ok.2.2.2.2.2.2
  -- the second loop
  have snd : ∀ (n0 : Nat) (σ1 : st_S), n0 < 10 → σ1 596 34 = (n0 : Int) → (∀ a, a ≠ 596 → a ≠ 614 → σ1 a = σ a) → (∀ f, f ≠ 34 → σ1 596 f = σ 596 f) → ∀ (H : Nat → BV), (∀ j, j < n0 → RB9 σ1 614 (416 * j) (H j) ∧ OkB (H j)) →
      ∃ σ', g_X9_keeps_J52 σ1 = some σ' ∧ Rep9 σ' (withH S (n0 + 1, fun j => if j = n0 then sB S else H j)) ∧ (∀ a, a ≠ 596 → a ≠ 614 → σ' a = σ a) ∧ ∀ f, f ≠ 34 → σ' 596 f = σ 596 f := by
    intro n0 σ1 hn h34 f1 g1 H hH
    obtain ⟨σ2, q1, q2, q3⟩ := p9_keeps_L54 hn 416 0 σ1 (by omega) h34
    rw [show ((0 : Nat) : Int) = 0 from rfl] at q1
    have fr : ∀ a, a ≠ 596 → a ≠ 614 → up2 σ2 596 34 ((n0 + 1 : Nat) : Int) a = σ a := fun a x y => by rw [up2_o _ _ x, q3 a y, f1 a x y]
    have gr : ∀ f, f ≠ 34 → up2 σ2 596 34 ((n0 + 1 : Nat) : Int) 596 f = σ 596 f := fun f hf => by rw [up2_ne _ _ (by omega), q3 596 (by decide), g1 f hf]
    refine ⟨up2 σ2 596 34 ((n0 + 1 : Nat) : Int), ?_, ⟨by rw [gr 4 (by decide), fr 599 (by decide) (by decide)]; exact h1, by rw [gr 28 (by decide), fr 609 (by decide) (by decide)]; exact h2, by rw [gr 10 (by decide), gr 11 (by decide)]; exact h3, h4.fr (fr 597 (by decide) (by decide)), up2_at _ _ _ _, fun j hj => ?_⟩, fr, gr⟩
    · unfold g_X9_keeps_J52
      rw [q1 _ ab_FU (by show _ < 100000; omega), q3 596 (by decide), h34, w32s (by omega)]; rfl
    · have hj : j < n0 + 1 := hj
      show RB9 _ 614 (416 * j) (if j = n0 then sB S else H j)
      by_cases ej : j = n0
      · subst ej
        rw [if_pos rfl]
        refine h4.mv okb (fun x hx => ?_)
        rw [up2_o _ _ (by decide), q2, if_pos (by omega), f1 597 (by decide) (by decide), Nat.add_sub_cancel_left, Nat.zero_add]
      · rw [if_neg ej]
        refine (hH j (by omega)).1.mv (hH j (by omega)).2 (fun x hx => ?_)
        rw [up2_o _ _ (by decide), q2, if_neg (by omega)]
  unfold keepS hpush g_X9_keeps
  by_cases hc : (sH S).1 < 10
  · rw [if_pos hc, h5, if_neg (by omega)]
    exact snd (sH S).1 σ hc h5 (fun _ _ _ => rfl) (fun _ _ => rfl) (sH S).2 (fun j hj => ⟨h6 j hj, okh j hj⟩)
  · have n9 : (sH S).1 = 10 := by omega
    rw [if_neg hc, h5, if_pos (by omega)]
    obtain ⟨σ1, q1, q2, q3⟩ := p9_keeps_L13 3744 416 σ (by omega) (by omega)
    have q1' : ∀ (k : st_S → Option st_S) (n : Nat), 3744 < n → g_X9_keeps_L13 k n (416 : Int) σ = k σ1 := q1
    rw [q1' _ ab_FU (by decide), q3 596 (by decide), h5, n9, show ab_w32 (((10 : Nat) : Int) - 1) = ((9 : Nat) : Int) from rfl, Option.bind_some]
    obtain ⟨σ', s1, s2, s3, s4⟩ := snd 9 (up2 σ1 596 34 ((9 : Nat) : Int)) (by decide) (up2_at _ _ _ _) (fun a x y => by rw [up2_o _ _ x, q3 a y]) (fun f hf => by rw [up2_ne _ _ (by omega), q3 596 (by decide)]) (fun j => (sH S).2 (j + 1)) (fun j hj => by
      refine ⟨(h6 (j + 1) (by omega)).mv (okh (j + 1) (by omega)) (fun x hx => ?_), okh (j + 1) (by omega)⟩
      rw [up2_o _ _ (by decide), q2 _ (by omega), if_pos (by omega)]; congr 1; omega)
    exact ⟨σ', s1, s2, s3, s4⟩
theorem Rep9.book {σ σ' : st_S} {S : SV} (h : Rep9 σ S) (e : ∀ a, a ≠ 597 → σ' a = σ a) {b : BV} (hb : RB9 σ' 597 0 b) : Rep9 σ' (withB S b) := by
  obtain ⟨h1, h2, h3, h4, h5, h6⟩ := h
  exact ⟨by rw [e 596 (by decide), e 599 (by decide)]; exact h1, by rw [e 596 (by decide), e 609 (by decide)]; exact h2, by rw [e 596 (by decide)]; exact h3, hb, by rw [e 596 (by decide)]; exact h5, fun j hj => (h6 j hj).fr (e 614 (by decide))⟩
/-- laying, printing, working leaves what is told -/
theorem Rep9.lay {σ σ' : st_S} {S : SV} (h : Rep9 σ S) (e : ∀ a, (a = 597 ∨ a = 599 ∨ a = 609 ∨ a = 614) → σ' a = σ a) (e2 : ∀ f, (f = 4 ∨ f = 10 ∨ f = 11 ∨ f = 28 ∨ f = 34) → σ' 596 f = σ 596 f) : Rep9 σ' S := by
  obtain ⟨h1, h2, h3, h4, h5, h6⟩ := h
  exact ⟨by rw [e2 4 (by decide), e 599 (by decide)]; exact h1, by rw [e2 28 (by decide), e 609 (by decide)]; exact h2, by rw [e2 10 (by decide), e2 11 (by decide)]; exact h3, h4.fr (e 597 (by decide)), by rw [e2 34 (by decide)]; exact h5, fun j hj => (h6 j hj).fr (e 614 (by decide))⟩
theorem Rep9.g9 {σ σ' : st_S} {S : SV} (h : Rep9 σ S) (g : G9 σ σ') : Rep9 σ' S := h.lay (fun a ha => g.1 a (by omega)) (fun f hf => g.2 f (by omega))
