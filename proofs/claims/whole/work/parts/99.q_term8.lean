/-! the class reads a term into its spare book (24) -/
def FT (x : Nat) (σ σ' : st_S) : Prop := (∀ c, c ≠ 8 → (c < 27 ∨ 31 < c) → σ' c = σ c) ∧ (∀ c, 27 ≤ c → c ≤ 31 → ∀ y, y ≠ x → σ' c y = σ c y) ∧ ∀ f, f ≠ 5 → f ≠ 7 → f ≠ 9 → f ≠ 10 → σ' 8 f = σ 8 f
theorem FT.trans {x : Nat} {σ σ1 σ2 : st_S} (h : FT x σ σ1) (h2 : FT x σ1 σ2) : FT x σ σ2 := ⟨fun c a b => by rw [h2.1 c a b, h.1 c a b], fun c a b y z => by rw [h2.2.1 c a b y z, h.2.1 c a b y z], fun f a b c d => by rw [h2.2.2 f a b c d, h.2.2 f a b c d]⟩
theorem Fd8.t {x : Nat} {σ σ' : st_S} (h : Fd8 σ σ') : FT x σ σ' := ⟨fun c a _ => h.1 c a, fun c a b y _ => by rw [h.1 c (by omega)], h.2⟩
theorem FT.up {x a : Nat} {σ : st_S} (ha : 27 ≤ a ∧ a ≤ 31) (v : Int) : FT x σ (up2 σ a x v) := ⟨fun c h1 h2 => up2_o _ _ (by omega), fun c _ _ y hy => up2_ne _ _ (fun q => hy q.2), fun f _ _ _ _ => by rw [up2_o _ _ (by omega)]⟩
def Tm8 (T : Nat → Int) (L N x : Nat) (σ σ' : st_S) (r : Int) : RS (Nat × Int × Int × Int × Int × Int) → Prop
  | .inl (c, p) => r = 0 ∧ σ' 8 9 = c ∧ σ' 8 10 = p
  | .inr (j', ro, ld, nm, vi, bk) => r = 1 ∧ Cu8 σ' T L N j' ∧ σ' 27 x = ro ∧ σ' 28 x = ld ∧ σ' 29 x = nm ∧ σ' 30 x = vi ∧ σ' 31 x = bk ∧ σ' 8 9 = σ 8 9 ∧ σ' 8 10 = σ 8 10
def tmJ (ro ld : Int) : RS (Nat × Int × Int × Int) → RS (Nat × Int × Int × Int × Int × Int)
  | .inl e => .inl e
  | .inr (j', nm, via, back) => .inr (j', ro, ld, nm, via, back)
section T8s
variable {T : Nat → Int} {L N j : Nat} {σ : st_S}
theorem Cu8.up (h : Cu8 σ T L N j) {a x : Nat} (ha : 27 ≤ a ∧ a ≤ 31) (v : Int) : Cu8 (up2 σ a x v) T L N j := h.fr (fun c a b => up2_o _ _ (by omega)) (by rw [up2_o _ _ (by omega)]) (by rw [up2_o _ _ (by omega)])
theorem p4_J160 {x : Nat} (hx : x < 72) (h : Cu8 σ T L N j) (e2 : k8 T L (sJ T L j) = 2) (ro ld : Int) (h27 : σ 27 x = ro) :
    ∃ r σ', g_X4_readTerm_J160 24 (x : Int) ld (x : Int) 28 σ = some (r, σ') ∧ FT x σ σ' ∧ Tm8 T L N x σ σ' r (tmJ ro ld (tm2 T L N j)) := by
  have h3 : Cu8 (up2 σ 28 x ld) T L N j := h.up (by omega) _
  have h4 : Cu8 (up2 (up2 σ 28 x ld) 29 x (v8 T L (sJ T L j))) T L N j := h3.up (by omega) _
  have f4 : FT x σ (up2 (up2 σ 28 x ld) 29 x (v8 T L (sJ T L j))) := (FT.up (by omega) _).trans (FT.up (by omega) _)
  have g27 : up2 (up2 σ 28 x ld) 29 x (v8 T L (sJ T L j)) 27 x = ro := by rw [up2_o _ _ (by decide), up2_o _ _ (by decide)]; exact h27
  have g28 : up2 (up2 σ 28 x ld) 29 x (v8 T L (sJ T L j)) 28 x = ld := by rw [up2_o _ _ (by decide), up2_at]
  have g29 : up2 (up2 σ 28 x ld) 29 x (v8 T L (sJ T L j)) 29 x = v8 T L (sJ T L j) := up2_at _ _ _ _
  have g8 : up2 (up2 σ 28 x ld) 29 x (v8 T L (sJ T L j)) 8 = σ 8 := by rw [up2_o _ _ (by decide), up2_o _ _ (by decide)]
  have st : g_X4_readTerm_J160 24 (x : Int) ld (x : Int) 28 σ = (g_X4_step (up2 (up2 σ 28 x ld) 29 x (v8 T L (sJ T L j)))).bind fun q2 => (g_X4_readJoin (13 : Int) q2).bind fun q3 => if q3.1 = (0 : Int) then some ((0 : Int), q3.2) else (sa_st q3.2 30 72 (x : Int) (q3.2 8 7)).bind fun σ3 => (g_X4_readJoin (14 : Int) σ3).bind fun q4 => if q4.1 = (0 : Int) then some ((0 : Int), q4.2) else (sa_st q4.2 31 72 (x : Int) (q4.2 8 7)).bind fun σ4 => some ((1 : Int), σ4) := by
    unfold g_X4_readTerm_J160
    rw [sa_st_of (by omega) (by omega), Option.bind_some, Int.toNat_natCast, p4_val h3 (by rw [e2]; decide) (by rw [e2]; decide), Option.bind_some]
    simp only [Nat.reduceAdd]
    rw [sa_st_of (by omega) (by omega), Option.bind_some, Int.toNat_natCast]
  rw [st]
  generalize up2 (up2 σ 28 x ld) 29 x (v8 T L (sJ T L j)) = s4 at *
  obtain ⟨s5, a1, a2, a3, a4⟩ := p4_step h4
  have f5 : FT x s4 s5 := (Fd8.s5 a3 a4).t
  obtain ⟨r1, s6, b1, b2, b3⟩ := p4_readJoin a2 13
  rw [a1, Option.bind_some, b1, Option.bind_some]
  dsimp only
  unfold tm2
  rw [if_pos e2]
  rcases hj1 : jn T L N 13 (nxJ N j) with ⟨c, p⟩ | ⟨via, j3⟩
  · rw [hj1] at b3
    obtain ⟨rfl, c1, c2⟩ := b3
    refine ⟨0, s6, by rw [if_pos rfl], (f4.trans f5).trans b2.t, ⟨rfl, c1, c2⟩⟩
  · rw [hj1] at b3
    obtain ⟨rfl, c1, c2, c3, c4⟩ := b3
    have f7 : FT x s6 (up2 s6 30 x via) := FT.up (by omega) _
    obtain ⟨r2, s8, d1, d2, d3⟩ := p4_readJoin (c1.up (a := 30) (x := x) (by omega) via) 14
    rw [if_neg one0, c2, sa_st_of (by omega) (by omega), Option.bind_some, Int.toNat_natCast, d1, Option.bind_some]
    dsimp only
    have f8 := (((f4.trans f5).trans b2.t).trans f7).trans (d2.t (x := x))
    have k1 : ∀ c, 27 ≤ c → c ≤ 29 → s8 c x = s4 c x := fun c y z => by rw [d2.1 c (by omega), up2_o _ _ (by omega), b2.1 c (by omega), a3 c (by omega)]
    rcases hj2 : jn T L N 14 j3 with ⟨c, p⟩ | ⟨back, j4⟩
    · rw [hj2] at d3
      obtain ⟨rfl, e1, e3⟩ := d3
      refine ⟨0, s8, by rw [if_pos rfl], f8, ⟨rfl, e1, e3⟩⟩
    · rw [hj2] at d3
      obtain ⟨rfl, e1, e3, e4, e5⟩ := d3
      refine ⟨1, up2 s8 31 x back, by rw [if_neg one0, e3, sa_st_of (by omega) (by omega), Option.bind_some, Int.toNat_natCast], f8.trans (FT.up (by omega) _), ⟨rfl, e1.up (by omega) _, ?_, ?_, ?_, ?_, up2_at _ _ _ _, ?_, ?_⟩⟩
      · rw [up2_o _ _ (by decide), k1 27 (by omega) (by omega)]; exact g27
      · rw [up2_o _ _ (by decide), k1 28 (by omega) (by omega)]; exact g28
      · rw [up2_o _ _ (by decide), k1 29 (by omega) (by omega)]; exact g29
      · rw [up2_o _ _ (by decide), d2.1 30 (by decide), up2_at]
      · rw [up2_o _ _ (by decide), e4, up2_o _ _ (by decide), c3, a4 9 (by decide), g8]
      · rw [up2_o _ _ (by decide), e5, up2_o _ _ (by decide), c4, a4 10 (by decide), g8]
theorem p4_J112 {x : Nat} (hx : x < 72) (h : Cu8 σ T L N j) (ro : Int) {ld : Int} (hld : ld = 0 ∨ ld = 1) :
    ∃ r σ', g_X4_readTerm_J112 24 ld ro (x : Int) σ = some (r, σ') ∧ FT x σ σ' ∧ Tm8 T L N x σ σ' r (tmJ ro ld (tm2 T L N (nxJ N j))) := by
  obtain ⟨s1, a1, a2, a3, a4⟩ := p4_step h
  have f1 : FT x σ s1 := (Fd8.s5 a3 a4).t
  unfold g_X4_readTerm_J112
  rw [a1, Option.bind_some, p4_kind a2, Option.bind_some]
  by_cases e2 : k8 T L (sJ T L (nxJ N j)) = 2
  · obtain ⟨r, σ', b1, b2, b3⟩ := p4_J160 hx (a2.up (a := 27) (x := x) (by omega) ro) e2 ro ld (up2_at _ _ _ _)
    refine ⟨r, σ', ?_, (f1.trans (FT.up (by omega) _)).trans b2, ?_⟩
    · rw [if_pos e2]
      simp only [Nat.reduceAdd]
      rw [sa_st_of (by omega) (by omega), Option.bind_some, Int.toNat_natCast]
      rcases hld with rfl | rfl
      · rw [if_pos rfl]; exact b1
      · rw [if_neg one0]; exact b1
    · revert b3
      rcases tmJ ro ld (tm2 T L N (nxJ N j)) with ⟨c, p⟩ | ⟨j', y1, y2, y3, y4, y5⟩
      · exact fun b3 => b3
      · rintro ⟨c1, c2, c3, c4, c5, c6, c7, c8, c9⟩
        exact ⟨c1, c2, c3, c4, c5, c6, c7, by rw [c8, up2_o _ _ (by decide), a4 9 (by decide)], by rw [c9, up2_o _ _ (by decide), a4 10 (by decide)]⟩
  · unfold tm2
    rw [if_neg e2, if_neg e2]
    refine ⟨0, e8 s1 1 (sJ T L (nxJ N j) : Int), by rw [p4_fail a2]; rfl, f1.trans (Fd8.fl _ _).t, ⟨rfl, (e89 _ _).1, (e89 _ _).2⟩⟩
end T8s
