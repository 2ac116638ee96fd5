/-! a line is read alike on both sides -/
section LN
variable {T : Nat → Int} {L N : Nat} {j : Nat} {b : BV}
theorem p9_J151b {σ : st_S} (hg : σ 596 10 ≠ 0) : g_X9_readLine_J151 σ = some σ := by
  unfold g_X9_readLine_J151
  rw [p9_passes0 hg]; rfl
/-- the sign behind a line -/
theorem semi (ox : okX T L) (hN : sJ T L N = L) {x : RS (Nat × BV × Int)} (gx : GL N j x) : ∃ y : RS (Nat × BV × Int), GL N j y ∧
    (∀ σ σ' r, RL8 T L N σ σ' r x → ∃ r2 σ2, g_X4_readLine_J79 r σ' = some (r2, σ2) ∧ FL8 σ' σ2 ∧ RL8 T L N σ σ2 r2 y) ∧
    (∀ σ', RL9 T L σ' x → ∃ σ2, g_X9_readLine_J151 σ' = some σ2 ∧ FL9 σ' σ2 ∧ RL9 T L σ2 y) := by
  rcases x with ⟨c, p⟩ | ⟨j1, b1, m1⟩
  · refine ⟨.inl (c, p), True.intro, fun σ σ' r h => ?_, fun σ' h => ?_⟩
    · obtain ⟨rfl, h1, h2⟩ := h
      refine ⟨0, σ', ?_, FL8.rfl', rfl, h1, h2⟩
      unfold g_X4_readLine_J79
      rw [if_pos rfl]; rfl
    · obtain ⟨h1, h2, h3⟩ := h
      exact ⟨σ', p9_J151b (by rw [h1]; exact h3), FL9.rfl', h1, h2, h3⟩
  · obtain ⟨g1, g2, g3⟩ := gx
    by_cases e : k8 T L (sJ T L j1) = 5 ∧ v8 T L (sJ T L j1) = 59
    · have n1 := nx_ge (N := N) (j := j1)
      refine ⟨.inr (nxJ N j1, b1, m1), ⟨g1, by omega, nx_le g3⟩, fun σ σ' r h => ?_, fun σ' h => ?_⟩
      · obtain ⟨rfl, h1, h2, h3, h4, h5⟩ := h
        rcases p4_takeSign h1 59 with ⟨_, _, s, c1, c2, c3, c4⟩ | ⟨c1, _⟩
        · refine ⟨1, s, ?_, FL8.s5 c3 c4, rfl, c2, h2.fr (fun k hk => c3 _ (by omega)), by rw [c4 6 (by decide)]; exact h3, by rw [c4 9 (by decide)]; exact h4, by rw [c4 10 (by decide)]; exact h5⟩
          unfold g_X4_readLine_J79
          rw [if_neg one0, c1, Option.bind_some]
          dsimp only
          rw [if_neg one0]
        · exact absurd e c1
      · obtain ⟨h1, h2, h3, h4⟩ := h
        rcases p9_passes ox hN g3 h1 h2 (a := 59) (by omega) with ⟨_, _, s, c1, c2, c3⟩ | ⟨c1, _⟩
        · refine ⟨s, ?_, c3.r.g.l, c2, by rw [c3.2 10 (by omega)]; exact h2, h3.fr (c3.1 598 (by decide)), by rw [c3.2 12 (by omega)]; exact h4⟩
          unfold g_X9_readLine_J151
          rw [c1]; rfl
        · exact absurd e c1
    · refine ⟨.inl (1, (sJ T L j1 : Int)), True.intro, fun σ σ' r h => ?_, fun σ' h => ?_⟩
      · obtain ⟨rfl, h1, h2, h3, h4, h5⟩ := h
        rcases p4_takeSign h1 59 with ⟨c1, c2, _⟩ | ⟨_, c1⟩
        · exact absurd ⟨c1, c2⟩ e
        · refine ⟨0, _, ?_, (Fd8.fl _ _).g.l, rfl, (e89 _ _).1, (e89 _ _).2⟩
          unfold g_X4_readLine_J79
          rw [if_neg one0, c1, Option.bind_some]
          dsimp only
          rw [if_pos rfl]; rfl
      · obtain ⟨h1, h2, h3, h4⟩ := h
        rcases p9_passes ox hN g3 h1 h2 (a := 59) (by omega) with ⟨c1, c2, _⟩ | ⟨_, c1⟩
        · exact absurd ⟨c1, c2⟩ e
        · refine ⟨_, ?_, (F9r.fl _ _).g.l, er10 _ _, er11 _ _, by decide⟩
          unfold g_X9_readLine_J151
          rw [c1]; rfl
/-- a heading as a line's middle -/
theorem hl_both (ox : okX T L) (hN : sJ T L N = L) (ok : OkB b) (hn : bn b < 12) (hj : j ≤ N) (m : Int) : ∃ x : RS (Nat × BV × Int), GL N (nxJ N j) x ∧
    (∀ σ, Cu8 σ T L N j → RB8 σ 24 b → σ 8 6 = m → ∃ r σ', ((g_X4_step σ).bind fun q4 => (g_X4_readHeading 24 q4).bind fun q5 => g_X4_readLine_J79 q5.1 q5.2) = g_X4_readLine_J79 r σ' ∧ FL8 σ σ' ∧ RL8 T L N σ σ' r x) ∧
    (∀ σ, A9 σ T L (nxJ N j) → σ 596 10 = 0 → RB9 σ 598 0 b → σ 596 12 = m → ∃ σ', g_X9_readLine_J118 σ = g_X9_readLine_J151 σ' ∧ FL9 σ σ' ∧ RL9 T L σ' x) := by
  have l1 := nx_le hj
  obtain ⟨x, x1, x2, x3⟩ := hd_both (b := b) ox hN ok hn l1
  refine ⟨match x with | .inl e => .inl e | .inr (j', b') => .inr (j', b', m), ?_, fun σ h hb hm => ?_, fun σ h hg hb hm => ?_⟩
  · rcases x with e | ⟨j', b'⟩
    · exact True.intro
    · exact ⟨x1.2.2.1, x1.1, x1.2.1⟩
  · obtain ⟨s1, a1, a2, a3, a4⟩ := p4_step h
    obtain ⟨r, s2, c1, c2, c3⟩ := x2 s1 a2 (hb.fr (fun k hk => a3 _ (by omega)))
    refine ⟨r, s2, ?_, (FL8.s5 a3 a4).trans c2.l, ?_⟩
    · rw [a1, Option.bind_some, c1, Option.bind_some]
    · rcases x with ⟨c, p⟩ | ⟨j', b'⟩
      · exact c3
      · obtain ⟨d1, d2, d3, d4, d5⟩ := c3
        exact ⟨d1, d2, d3, by rw [c2.2 6 (by decide) (by decide) (by decide) (by decide), a4 6 (by decide)]; exact hm, by rw [d4]; exact a4 9 (by decide), by rw [d5]; exact a4 10 (by decide)⟩
  · obtain ⟨s2, c1, c2, c3⟩ := x3 σ h hg hb
    rcases x with ⟨c, p⟩ | ⟨j', b'⟩
    · obtain ⟨d1, d2, d3⟩ := c3
      refine ⟨s2, ?_, c2.l, d1, d2, d3⟩
      unfold g_X9_readLine_J118
      rw [c1, Option.bind_some, p9_good0 (by rw [d1]; exact d3), Option.bind_some]
      dsimp only
      rw [if_pos rfl]
    · obtain ⟨d1, d2, d3, d4⟩ := c3
      refine ⟨up2 s2 598 0 ((bn b + 1 : Nat) : Int), ?_, c2.l.trans (FL9.up _), d1.up _, by rw [up2_o _ _ (by decide)]; exact d2, d4, by rw [up2_o _ _ (by decide), c2.2 12 (by omega)]; exact hm⟩
      unfold g_X9_readLine_J118
      rw [c1, Option.bind_some, p9_good1 d2, Option.bind_some]
      dsimp only
      rw [if_neg one0, show (0 : Int) = ((0 : Nat) : Int) from rfl, sa_ld_of (by omega) (by omega), Option.bind_some, Int.toNat_natCast, d3, w64i (by omega) (by omega), sa_st_of (by omega) (by omega), Option.bind_some, Int.toNat_natCast]; rfl
theorem ln_both (ox : okX T L) (hN : sJ T L N = L) (ok : OkB b) (hj : j ≤ N) (m : Int) : ∃ x : RS (Nat × BV × Int), GL N (nxJ N j) x ∧
    (∀ σ, Cu8 σ T L N j → RB8 σ 24 b → σ 8 6 = m → ∃ r σ', g_X4_readLine 24 σ = some (r, σ') ∧ FL8 σ σ' ∧ RL8 T L N σ σ' r x) ∧
    (∀ σ, A9 σ T L j → σ 596 10 = 0 → RB9 σ 598 0 b → σ 596 12 = m → ∃ σ', g_X9_readLine σ = some σ' ∧ FL9 σ σ' ∧ RL9 T L σ' x) := by
  have o1 := ok.1
  have o7 := ok.2.2.2.2.2.2.1
  have iw : ∀ {σ : st_S}, A9 σ T L j → σ 596 10 = 0 → g_X9_isWord (-2) σ = some (if k8 T L (sJ T L j) = 1 ∧ v8 T L (sJ T L j) = 0 then 1 else 0, σ) ∧ g_X9_isWord (-12) σ = some (if k8 T L (sJ T L j) = 1 ∧ v8 T L (sJ T L j) = 1 then 1 else 0, σ) ∧ g_X9_isWord (-13) σ = some (if k8 T L (sJ T L j) = 1 ∧ v8 T L (sJ T L j) = 2 then 1 else 0, σ) := by
    intro σ h hg
    have i0 := p9_isWord ox h.1 h.2 hg (k := 0) (by decide)
    have i1 := p9_isWord ox h.1 h.2 hg (k := 1) (by decide)
    have i2 := p9_isWord ox h.1 h.2 hg (k := 2) (by decide)
    rw [show kA 0 = -2 by decide +kernel] at i0
    rw [show kA 1 = -12 by decide +kernel] at i1
    rw [show kA 2 = -13 by decide +kernel] at i2
    exact ⟨i0, i1, i2⟩
  by_cases e0 : k8 T L (sJ T L j) = 1 ∧ v8 T L (sJ T L j) = 0
  · obtain ⟨x, x1, x2, x3⟩ := lw_both (b := b) ox hN ok hj m
    obtain ⟨y, y1, y2, y3⟩ := semi ox hN x1
    refine ⟨y, y1, fun σ h hb hm => ?_, fun σ h hg hb hm => ?_⟩
    · obtain ⟨r, s, a1, a2, a3⟩ := x2 σ h hb hm
      obtain ⟨r2, s2, c1, c2, c3⟩ := y2 σ s r a3
      refine ⟨r2, s2, ?_, a2.trans c2, c3⟩
      unfold g_X4_readLine
      rw [p4_isKey h, if_pos e0, Option.bind_some]
      dsimp only
      rw [if_neg one0, a1, Option.bind_some]
      exact c1
    · obtain ⟨i0, i1, i2⟩ := iw h hg
      obtain ⟨s0, d1, d2, d3⟩ := p9_goes ox hN hj h
      obtain ⟨s, a1, a2, a3⟩ := x3 s0 d2 (by rw [d3.2 10 (by omega)]; exact hg) (hb.fr (d3.1 598 (by decide))) (by rw [d3.2 12 (by omega)]; exact hm)
      obtain ⟨s2, c1, c2, c3⟩ := y3 s a3
      refine ⟨s2, ?_, (d3.r.g.l.trans a2).trans c2, c3⟩
      unfold g_X9_readLine
      rw [i0, if_pos e0, Option.bind_some]
      dsimp only
      rw [if_neg one0, d1, Option.bind_some, a1, Option.bind_some, c1]
  · by_cases e1 : k8 T L (sJ T L j) = 1 ∧ v8 T L (sJ T L j) = 1
    · by_cases hm12 : bm b < 12
      · obtain ⟨x, x1, x2, x3⟩ := se_both (b := b) ox hN ok hm12 hj m
        obtain ⟨y, y1, y2, y3⟩ := semi ox hN x1
        refine ⟨y, y1, fun σ h hb hm => ?_, fun σ h hg hb hm => ?_⟩
        · obtain ⟨r, s, a1, a2, a3⟩ := x2 σ h hb hm
          obtain ⟨r2, s2, c1, c2, c3⟩ := y2 σ s r a3
          refine ⟨r2, s2, ?_, a2.trans c2, c3⟩
          unfold g_X4_readLine
          rw [p4_isKey h, if_neg e0, Option.bind_some]
          dsimp only
          rw [if_pos rfl, p4_isKey h, if_pos e1, Option.bind_some]
          dsimp only
          rw [if_neg one0, a1, Option.bind_some]
          exact c1
        · obtain ⟨i0, i1, i2⟩ := iw h hg
          obtain ⟨s0, d1, d2, d3⟩ := p9_goes ox hN hj h
          have hg0 : s0 596 10 = 0 := by rw [d3.2 10 (by omega)]; exact hg
          obtain ⟨s, a1, a2, a3⟩ := x3 s0 d2 hg0 (hb.fr (d3.1 598 (by decide))) (by rw [d3.2 12 (by omega)]; exact hm)
          obtain ⟨s2, c1, c2, c3⟩ := y3 s a3
          refine ⟨s2, ?_, (d3.r.g.l.trans a2).trans c2, c3⟩
          have q4 : σ 598 1 = (bm b : Int) := hb.2.2.2.2.1
          unfold g_X9_readLine
          rw [i0, if_neg e0, Option.bind_some]
          dsimp only
          rw [if_pos rfl, i1, if_pos e1, Option.bind_some]
          dsimp only
          rw [if_neg one0, show (1 : Int) = ((1 : Nat) : Int) from rfl, sa_ld_of (by omega) (by omega), Option.bind_some, Int.toNat_natCast, q4, if_neg (fun z => by have := cmp_eq.mp z; omega)]
          unfold g_X9_readLine_J51
          rw [p9_good1 hg, Option.bind_some]
          dsimp only
          rw [if_neg one0, d1, Option.bind_some]
          unfold g_X9_readLine_J62
          rw [p9_good1 hg0, Option.bind_some]
          dsimp only
          rw [if_neg one0, a1, Option.bind_some, c1]
      · refine ⟨.inl (4, (sJ T L j : Int)), True.intro, fun σ h hb hm => ?_, fun σ h hg hb hm => ?_⟩
        · have e9 : σ 24 9 = (bm b : Int) := hb.2.2.2.2.1
          refine ⟨0, _, ?_, (Fd8.fl _ _).g.l, rfl, (e89 _ _).1, (e89 _ _).2⟩
          unfold g_X4_readLine
          rw [p4_isKey h, if_neg e0, Option.bind_some]
          dsimp only
          rw [if_pos rfl, p4_isKey h, if_pos e1, Option.bind_some]
          dsimp only
          rw [if_neg one0]
          unfold g_X4_readSee
          rw [e9, if_neg (by omega), p4_fail h]; rfl
        · obtain ⟨i0, i1, i2⟩ := iw h hg
          have q4 : σ 598 1 = (bm b : Int) := hb.2.2.2.2.1
          have bad : er σ 4 (sJ T L j : Int) 596 10 ≠ 0 := by rw [er10]; decide
          refine ⟨er σ 4 (sJ T L j : Int), ?_, (F9r.fl _ _).g.l, er10 _ _, er11 _ _, by decide⟩
          unfold g_X9_readLine
          rw [i0, if_neg e0, Option.bind_some]
          dsimp only
          rw [if_pos rfl, i1, if_pos e1, Option.bind_some]
          dsimp only
          rw [if_neg one0, show (1 : Int) = ((1 : Nat) : Int) from rfl, sa_ld_of (by omega) (by omega), Option.bind_some, Int.toNat_natCast, q4, if_pos (cmp_eq.mpr (by omega)), p9_errs1 hg, Option.bind_some, h.2.1]
          unfold g_X9_readLine_J51
          rw [p9_good0 bad, Option.bind_some]
          dsimp only
          rw [if_pos rfl]
          unfold g_X9_readLine_J62
          rw [p9_good0 bad, Option.bind_some]
          dsimp only
          rw [if_pos rfl, p9_J151b bad]
    · by_cases e2 : k8 T L (sJ T L j) = 1 ∧ v8 T L (sJ T L j) = 2
      · by_cases hn12 : bn b < 12
        · obtain ⟨x, x1, x2, x3⟩ := hl_both (b := b) ox hN ok hn12 hj m
          obtain ⟨y, y1, y2, y3⟩ := semi ox hN x1
          refine ⟨y, y1, fun σ h hb hm => ?_, fun σ h hg hb hm => ?_⟩
          · obtain ⟨r, s, a1, a2, a3⟩ := x2 σ h hb hm
            obtain ⟨r2, s2, c1, c2, c3⟩ := y2 σ s r a3
            refine ⟨r2, s2, ?_, a2.trans c2, c3⟩
            unfold g_X4_readLine
            rw [p4_isKey h, if_neg e0, Option.bind_some]
            dsimp only
            rw [if_pos rfl, p4_isKey h, if_neg e1, Option.bind_some]
            dsimp only
            rw [if_pos rfl, p4_isKey h, if_pos e2, Option.bind_some]
            dsimp only
            rw [if_neg one0, if_pos (show σ 24 0 < 12 by rw [hb.1]; omega), a1, c1]
          · obtain ⟨i0, i1, i2⟩ := iw h hg
            obtain ⟨s0, d1, d2, d3⟩ := p9_goes ox hN hj h
            have hg0 : s0 596 10 = 0 := by rw [d3.2 10 (by omega)]; exact hg
            obtain ⟨s, a1, a2, a3⟩ := x3 s0 d2 hg0 (hb.fr (d3.1 598 (by decide))) (by rw [d3.2 12 (by omega)]; exact hm)
            obtain ⟨s2, c1, c2, c3⟩ := y3 s a3
            refine ⟨s2, ?_, (d3.r.g.l.trans a2).trans c2, c3⟩
            have q0 : σ 598 0 = (bn b : Int) := hb.1
            have q0' : sa_ld σ 598 416 0 = some (bn b : Int) := by rw [sa_ld_of (by decide) (by decide)]; exact congrArg some q0
            unfold g_X9_readLine
            rw [i0, if_neg e0, Option.bind_some]
            dsimp only
            rw [if_pos rfl, i1, if_neg e1, Option.bind_some]
            dsimp only
            rw [if_pos rfl, i2, if_pos e2, Option.bind_some]
            dsimp only
            rw [if_neg one0, q0', Option.bind_some, if_neg (fun z => by have := cmp_eq.mp z; omega)]
            unfold g_X9_readLine_J107
            rw [p9_good1 hg, Option.bind_some]
            dsimp only
            rw [if_neg one0, d1, Option.bind_some, a1, c1]
        · refine ⟨.inl (4, (sJ T L j : Int)), True.intro, fun σ h hb hm => ?_, fun σ h hg hb hm => ?_⟩
          · refine ⟨0, _, ?_, (Fd8.fl _ _).g.l, rfl, (e89 _ _).1, (e89 _ _).2⟩
            unfold g_X4_readLine
            rw [p4_isKey h, if_neg e0, Option.bind_some]
            dsimp only
            rw [if_pos rfl, p4_isKey h, if_neg e1, Option.bind_some]
            dsimp only
            rw [if_pos rfl, p4_isKey h, if_pos e2, Option.bind_some]
            dsimp only
            rw [if_neg one0, if_neg (show ¬ σ 24 0 < 12 by rw [hb.1]; omega), p4_fail h]; rfl
          · obtain ⟨i0, i1, i2⟩ := iw h hg
            have q0 : σ 598 0 = (bn b : Int) := hb.1
            have q0' : sa_ld σ 598 416 0 = some (bn b : Int) := by rw [sa_ld_of (by decide) (by decide)]; exact congrArg some q0
            have bad : er σ 4 (sJ T L j : Int) 596 10 ≠ 0 := by rw [er10]; decide
            refine ⟨er σ 4 (sJ T L j : Int), ?_, (F9r.fl _ _).g.l, er10 _ _, er11 _ _, by decide⟩
            unfold g_X9_readLine
            rw [i0, if_neg e0, Option.bind_some]
            dsimp only
            rw [if_pos rfl, i1, if_neg e1, Option.bind_some]
            dsimp only
            rw [if_pos rfl, i2, if_pos e2, Option.bind_some]
            dsimp only
            rw [if_neg one0, q0', Option.bind_some, if_pos (cmp_eq.mpr (by omega)), p9_errs1 hg, Option.bind_some, h.2.1]
            unfold g_X9_readLine_J107
            rw [p9_good0 bad, Option.bind_some]
            dsimp only
            have q0e : sa_ld (er σ 4 (sJ T L j : Int)) 598 416 0 = some (bn b : Int) := by
              rw [sa_ld_of (by decide) (by decide)]
              unfold er
              rw [up2_o _ _ (by decide), up2_o _ _ (by decide)]
              exact congrArg some q0
            rw [if_pos rfl]
            unfold g_X9_readLine_J118 g_X9_readString
            rw [q0e, Option.bind_some, p9_good0 bad, Option.bind_some]
            dsimp only
            rw [if_pos rfl, p9_rJ32b bad, Option.bind_some, p9_good0 bad, Option.bind_some]
            dsimp only
            rw [if_pos rfl, p9_J151b bad]
      · refine ⟨.inl (1, (sJ T L j : Int)), True.intro, fun σ h hb hm => ?_, fun σ h hg hb hm => ?_⟩
        · refine ⟨0, _, ?_, (Fd8.fl _ _).g.l, rfl, (e89 _ _).1, (e89 _ _).2⟩
          unfold g_X4_readLine
          rw [p4_isKey h, if_neg e0, Option.bind_some]
          dsimp only
          rw [if_pos rfl, p4_isKey h, if_neg e1, Option.bind_some]
          dsimp only
          rw [if_pos rfl, p4_isKey h, if_neg e2, Option.bind_some]
          dsimp only
          rw [if_pos rfl, p4_fail h]; rfl
        · obtain ⟨i0, i1, i2⟩ := iw h hg
          have bad : er σ 1 (sJ T L j : Int) 596 10 ≠ 0 := by rw [er10]; decide
          refine ⟨er σ 1 (sJ T L j : Int), ?_, (F9r.fl _ _).g.l, er10 _ _, er11 _ _, by decide⟩
          unfold g_X9_readLine
          rw [i0, if_neg e0, Option.bind_some]
          dsimp only
          rw [if_pos rfl, i1, if_neg e1, Option.bind_some]
          dsimp only
          rw [if_pos rfl, i2, if_neg e2, Option.bind_some]
          dsimp only
          rw [if_pos rfl, p9_errs1 hg, Option.bind_some, h.2.1, p9_J151b bad]
end LN
