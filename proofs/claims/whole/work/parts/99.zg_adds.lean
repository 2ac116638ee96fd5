/-! adds -/
theorem p9_aL18 : ∀ (c i : Nat) (σ : st_S), i + c = 416 → ∃ σ', (∀ k n, c < n → g_X9_adds_L18 k n (i : Int) σ = k σ') ∧ (∀ x, i ≤ x → x < 416 → σ' 598 x = σ 597 x) ∧ (∀ x, x < i → σ' 598 x = σ 598 x) ∧ ∀ a, a ≠ 598 → σ' a = σ a := by
  intro c
  induction c with
  | zero =>
    intro i σ hi
    refine ⟨σ, fun k n hn => ?_, fun x h1 h2 => by omega, fun x _ => rfl, fun _ _ => rfl⟩
    obtain ⟨m, rfl⟩ : ∃ m, n = m + 1 := ⟨n - 1, by omega⟩
    rw [g_X9_adds_L18, if_pos (by omega)]
  | succ c ih =>
    intro i σ hi
    obtain ⟨σ', a1, a2, a3, a4⟩ := ih (i + 1) (up2 σ 598 i (σ 597 i)) (by omega)
    refine ⟨σ', fun k n hn => ?_, fun x h1 h2 => ?_, fun x hx => ?_, fun a ha => by rw [a4 a ha, up2_o _ _ ha]⟩
    · obtain ⟨m, rfl⟩ : ∃ m, n = m + 1 := ⟨n - 1, by omega⟩
      rw [g_X9_adds_L18, if_neg (by omega), sa_ld_of (by omega) (by omega), Option.bind_some, sa_st_of (by omega) (by omega), Option.bind_some, Int.toNat_natCast, w32s (by omega), a1 k m (by omega)]
    · by_cases z : x = i
      · subst z; rw [a3 x (by omega), up2_at]
      · rw [a2 x (by omega) h2, up2_o _ _ (by decide)]
    · rw [a3 x (by omega), up2_ne _ _ (by omega)]
theorem p9_aL92 : ∀ (c i : Nat) (σ : st_S), i + c = 416 → ∃ σ', (∀ k n, c < n → g_X9_adds_L92 k n (i : Int) σ = k σ') ∧ (∀ x, i ≤ x → x < 416 → σ' 597 x = σ 598 x) ∧ (∀ x, x < i → σ' 597 x = σ 597 x) ∧ ∀ a, a ≠ 597 → σ' a = σ a := by
  intro c
  induction c with
  | zero =>
    intro i σ hi
    refine ⟨σ, fun k n hn => ?_, fun x h1 h2 => by omega, fun x _ => rfl, fun _ _ => rfl⟩
    obtain ⟨m, rfl⟩ : ∃ m, n = m + 1 := ⟨n - 1, by omega⟩
    rw [g_X9_adds_L92, if_pos (by omega)]
  | succ c ih =>
    intro i σ hi
    obtain ⟨σ', a1, a2, a3, a4⟩ := ih (i + 1) (up2 σ 597 i (σ 598 i)) (by omega)
    refine ⟨σ', fun k n hn => ?_, fun x h1 h2 => ?_, fun x hx => ?_, fun a ha => by rw [a4 a ha, up2_o _ _ ha]⟩
    · obtain ⟨m, rfl⟩ : ∃ m, n = m + 1 := ⟨n - 1, by omega⟩
      rw [g_X9_adds_L92, if_neg (by omega), sa_ld_of (by omega) (by omega), Option.bind_some, sa_st_of (by omega) (by omega), Option.bind_some, Int.toNat_natCast, w32s (by omega), a1 k m (by omega)]
    · by_cases z : x = i
      · subst z; rw [a3 x (by omega), up2_at]
      · rw [a2 x (by omega) h2, up2_o _ _ (by decide)]
    · rw [a3 x (by omega), up2_ne _ _ (by omega)]
/-- what an added text reads as -/
def AX8 (σ σ' : st_S) (r : Int) : RS BV → Prop
  | .inl (c, p) => r = 0 ∧ σ' 8 9 = c ∧ σ' 8 10 = p
  | .inr b' => r = 1 ∧ RB8 σ' 24 b' ∧ σ' 8 9 = σ 8 9 ∧ σ' 8 10 = σ 8 10
def AX9 (b : BV) (σ' : st_S) : RS BV → Prop
  | .inl (c, p) => σ' 596 10 = c ∧ σ' 596 11 = p ∧ c ≠ 0
  | .inr b' => σ' 596 10 = 0 ∧ σ' 596 11 = -1 ∧ σ' 598 0 = (bn b : Int) ∧ RB9 (up2 σ' 598 0 ((bn b + 1 : Nat) : Int)) 598 0 b'
def AG (b : BV) : RS BV → Prop
  | .inl _ => True
  | .inr b' => OkB b' ∧ bn b' = bn b + 1
section AD2
variable {T : Nat → Int} {L N : Nat} {b : BV}
theorem ad_both (ox : okX T L) (hN : sJ T L N = L) (ok : OkB b) (hn : bn b < 12) : ∃ x : RS BV, AG b x ∧
    (∀ σ, Cu8 σ T L N 0 → RB8 σ 24 b → ∃ r σ', ((g_X4_readHeading 24 σ).bind fun q2 =>
  if q2.1 = (0 : Int) then
    some ((0 : Int), q2.2)
  else
  (g_X4_takeSign (59 : Int) q2.2).bind fun q3 =>
  if q3.1 = (0 : Int) then
    some ((0 : Int), q3.2)
  else
  (sa_ld q3.2 10 1201 (q3.2 8 5)).bind fun t4 =>
  if t4 = (0 : Int) then
    g_X4_readAdded_J44 q3.2
  else
  (g_X4_fail (1 : Int) q3.2).bind fun q5 =>
  if q5.1 = (0 : Int) then
    some ((0 : Int), q5.2)
  else
  g_X4_readAdded_J44 q5.2) = some (r, σ') ∧ FG8 σ σ' ∧ AX8 σ σ' r x) ∧
    (∀ σ, A9 σ T L 0 → σ 596 10 = 0 → RB9 σ 598 0 b → ∃ σ', ((g_X9_readString σ).bind fun q3 =>
    (g_X9_passesByte (59 : Int) q3).bind fun q4 =>
    (g_X9_good q4).bind fun q5 =>
    if q5.1 = (0 : Int) then
      g_X9_adds_J76 q5.2
    else
    if q5.2 596 8 = (0 : Int) then
      g_X9_adds_J76 q5.2
    else
    (g_X9_errs (1 : Int) (q5.2 596 7) q5.2).bind fun q6 =>
    g_X9_adds_J76 q6) = g_X9_adds_J76 σ' ∧ FG9 σ σ' ∧ AX9 b σ' x) := by
  obtain ⟨x, x1, x2, x3⟩ := hd_both (b := b) (j := 0) ox hN ok hn (Nat.zero_le _)
  rcases x with ⟨c, p⟩ | ⟨j1, b1⟩
  · refine ⟨.inl (c, p), True.intro, fun σ h hb => ?_, fun σ h hg hb => ?_⟩
    · obtain ⟨r, s, a1, a2, rfl, a4, a5⟩ := x2 σ h hb
      refine ⟨0, s, ?_, a2, rfl, a4, a5⟩
      rw [a1, Option.bind_some]
      dsimp only
      rw [if_pos rfl]
    · obtain ⟨s, a1, a2, a3, a4, a5⟩ := x3 σ h hg hb
      have bad : s 596 10 ≠ 0 := by rw [a3]; exact a5
      refine ⟨s, ?_, a2, a3, a4, a5⟩
      rw [a1, Option.bind_some, p9_passes0 bad, Option.bind_some, p9_good0 bad, Option.bind_some]
      dsimp only
      rw [if_pos rfl]
  · obtain ⟨g1, g2, g3, g4⟩ := x1
    by_cases e : k8 T L (sJ T L j1) = 5 ∧ v8 T L (sJ T L j1) = 59
    · have to8 : ∀ σ, Cu8 σ T L N 0 → RB8 σ 24 b → ∃ s, Cu8 s T L N (nxJ N j1) ∧ RB8 s 24 b1 ∧ FG8 σ s ∧ s 8 9 = σ 8 9 ∧ s 8 10 = σ 8 10 ∧ ∀ K : st_S → Option (Int × st_S), ((g_X4_readHeading 24 σ).bind fun q2 => if q2.1 = (0 : Int) then some ((0 : Int), q2.2) else (g_X4_takeSign (59 : Int) q2.2).bind fun q3 => if q3.1 = (0 : Int) then some ((0 : Int), q3.2) else K q3.2) = K s := by
        intro σ h hb
        obtain ⟨r, s, a1, a2, rfl, a4, a5, a6, a7⟩ := x2 σ h hb
        rcases p4_takeSign a4 59 with ⟨_, _, s2, c1, c2, c3, c4⟩ | ⟨c1, _⟩
        · refine ⟨s2, c2, a5.fr (fun k hk => c3 _ (by omega)), a2.trans (Fd8.s5 c3 c4).g, by rw [c4 9 (by decide)]; exact a6, by rw [c4 10 (by decide)]; exact a7, fun K => ?_⟩
          rw [a1, Option.bind_some]
          dsimp only
          rw [if_neg one0, c1, Option.bind_some]
          dsimp only
          rw [if_neg one0]
        · exact absurd e c1
      have to9 : ∀ σ, A9 σ T L 0 → σ 596 10 = 0 → RB9 σ 598 0 b → ∃ s, A9 s T L (nxJ N j1) ∧ s 596 10 = 0 ∧ s 598 0 = (bn b : Int) ∧ RB9 (up2 s 598 0 ((bn b + 1 : Nat) : Int)) 598 0 b1 ∧ FG9 σ s ∧ ∀ K : st_S → Option (Int × st_S), ((g_X9_readString σ).bind fun q3 => (g_X9_passesByte (59 : Int) q3).bind fun q4 => K q4) = K s := by
        intro σ h hg hb
        obtain ⟨s, a1, a2, a3, a4, a5, a6⟩ := x3 σ h hg hb
        rcases p9_passes ox hN g2 a3 a4 (a := 59) (by omega) with ⟨_, _, s2, c1, c2, c3⟩ | ⟨c1, _⟩
        · refine ⟨s2, c2, by rw [c3.2 10 (by omega)]; exact a4, by rw [c3.1 598 (by decide)]; exact a5, ?_, a2.trans c3.r.g, fun K => ?_⟩
          · refine a6.fr ?_
            funext z
            unfold up2
            rw [c3.1 598 (by decide)]
          · rw [a1, Option.bind_some, c1, Option.bind_some]
        · exact absurd e c1
      by_cases k0 : k8 T L (sJ T L (nxJ N j1)) = 0
      · refine ⟨.inr b1, ⟨g3, g4⟩, fun σ h hb => ?_, fun σ h hg hb => ?_⟩
        · obtain ⟨s, a1, a2, a3, a4, a5, a6⟩ := to8 σ h hb
          refine ⟨1, s, ?_, a3, rfl, a2, a4, a5⟩
          refine (a6 (fun q => (sa_ld q 10 1201 (q 8 5)).bind fun t4 => if t4 = (0 : Int) then g_X4_readAdded_J44 q else (g_X4_fail (1 : Int) q).bind fun q5 => if q5.1 = (0 : Int) then some ((0 : Int), q5.2) else g_X4_readAdded_J44 q5.2)).trans ?_
          rw [p4_kind a1, Option.bind_some, if_pos k0]; rfl
        · obtain ⟨s, a1, a2, a3, a4, a5, a6⟩ := to9 σ h hg hb
          refine ⟨s, ?_, a5, a2, a1.1.1.2, a3, a4⟩
          have q8 : s 596 8 = 0 := by rw [a1.2.2.2.1, k8_0.mp k0]; rfl
          refine (a6 _).trans ?_
          rw [p9_good1 a2, Option.bind_some]
          dsimp only
          rw [if_neg one0, if_pos q8]
      · refine ⟨.inl (1, (sJ T L (nxJ N j1) : Int)), True.intro, fun σ h hb => ?_, fun σ h hg hb => ?_⟩
        · obtain ⟨s, a1, a2, a3, a4, a5, a6⟩ := to8 σ h hb
          refine ⟨0, _, ?_, a3.trans (Fd8.fl _ _).g, rfl, (e89 _ _).1, (e89 _ _).2⟩
          refine (a6 (fun q => (sa_ld q 10 1201 (q 8 5)).bind fun t4 => if t4 = (0 : Int) then g_X4_readAdded_J44 q else (g_X4_fail (1 : Int) q).bind fun q5 => if q5.1 = (0 : Int) then some ((0 : Int), q5.2) else g_X4_readAdded_J44 q5.2)).trans ?_
          rw [p4_kind a1, Option.bind_some, if_neg k0, p4_fail a1, Option.bind_some]
          dsimp only
          rw [if_pos rfl]
        · obtain ⟨s, a1, a2, a3, a4, a5, a6⟩ := to9 σ h hg hb
          refine ⟨er s 1 (sJ T L (nxJ N j1) : Int), ?_, a5.trans (F9r.fl _ _).g, er10 _ _, er11 _ _, by decide⟩
          have q8 : ¬ s 596 8 = 0 := by rw [a1.2.2.2.1]; intro w; exact k0 (k8_0.mpr (by omega))
          refine (a6 _).trans ?_
          rw [p9_good1 a2, Option.bind_some]
          dsimp only
          rw [if_neg one0, if_neg q8, p9_errs1 a2, Option.bind_some, a1.2.1]
    · refine ⟨.inl (1, (sJ T L j1 : Int)), True.intro, fun σ h hb => ?_, fun σ h hg hb => ?_⟩
      · obtain ⟨r, s, a1, a2, rfl, a4, a5, a6, a7⟩ := x2 σ h hb
        rcases p4_takeSign a4 59 with ⟨c1, c2, _⟩ | ⟨_, c1⟩
        · exact absurd ⟨c1, c2⟩ e
        · refine ⟨0, _, ?_, a2.trans (Fd8.fl _ _).g, rfl, (e89 _ _).1, (e89 _ _).2⟩
          rw [a1, Option.bind_some]
          dsimp only
          rw [if_neg one0, c1, Option.bind_some]
          dsimp only
          rw [if_pos rfl]
      · obtain ⟨s, a1, a2, a3, a4, a5, a6⟩ := x3 σ h hg hb
        rcases p9_passes ox hN g2 a3 a4 (a := 59) (by omega) with ⟨c1, c2, _⟩ | ⟨_, c1⟩
        · exact absurd ⟨c1, c2⟩ e
        · have bad : er s 1 (sJ T L j1 : Int) 596 10 ≠ 0 := by rw [er10]; decide
          refine ⟨_, ?_, a2.trans (F9r.fl _ _).g, er10 _ _, er11 _ _, by decide⟩
          rw [a1, Option.bind_some, c1, Option.bind_some, p9_good0 bad, Option.bind_some]
          dsimp only
          rw [if_pos rfl]
end AD2
theorem S_adds : Stp0 (InvD DR) g_X8_adds g_X9_adds := by
  intro σ ⟨S, r8, r9, ok⟩
  have okB := ok.2.2.2.2.1
  have ox : okX (sT S).2 (sT S).1 := ⟨ok.1, ok.2.1⟩
  have o1 := okB.1
  have str : ∀ τ, Rep9 τ S → g_X9_strings τ = some ((bn (sB S) : Int), τ) := fun τ h9 => p9_strings h9.2.2.2.1 okB
  by_cases hn : bn (sB S) < 12
  · obtain ⟨N, n1, n2, n3, beg⟩ := p4_begins ok r8
    obtain ⟨x, x1, x2, x3⟩ := ad_both (b := sB S) ox n2 okB hn
    have rd8 : ∀ τ, Rep8 DR τ S → ∃ r s s3, (∀ K : Int → st_S → Option (Int × st_S), ((g_X0_copyFrom 24 13 τ).bind fun q1 => (g_X4_readAdded 2 24 q1).bind fun q2 => K q2.1 q2.2) = K r s) ∧ (∀ a, a ≠ 8 → (a < 10 ∨ 12 < a) → (a < 24 ∨ 34 < a) → s a = τ a) ∧ AX8 s3 s r x ∧ s3 8 9 = 0 ∧ s3 8 10 = -1 := by
      intro τ h8
      obtain ⟨s0, d1, d2, d3⟩ := p0_copyFrom (σ := τ) (a0 := 24) (a1 := 13) (by omega) okB h8.2.2.2.1
      obtain ⟨s1, a1, a2, a3, a4, a5, a6⟩ := beg s0 (by rw [d3 2 (by omega), d3 3 (by omega)]; exact h8.1) (by rw [d3 9 (by omega)]; exact h8.2.2.2.2.2.1)
      obtain ⟨r, s, c1, c2, c3⟩ := x2 s1 a2 (d2.fr (fun k hk => a6 _ (by omega) (by omega) (by omega) (by omega)))
      refine ⟨r, s, s1, fun K => ?_, fun a h1 h2 h3 => by rw [c2.1 a h1 (by omega), a6 a h1 (by omega) (by omega) (by omega), d3 a (by omega)], c3, a4, a5⟩
      have e1 : g_X4_readAdded 2 24 s0 = some (r, s) := by
        unfold g_X4_readAdded
        rw [a1, Option.bind_some]
        exact c1
      rw [d1, Option.bind_some, e1, Option.bind_some]
    have rd9 : ∀ τ, Rep9 τ S → ∃ s, g_X9_adds τ = g_X9_adds_J76 s ∧ (∀ a, a ≠ 596 → a ≠ 598 → s a = τ a) ∧ (∀ f, 12 < f → s 596 f = τ 596 f) ∧ s 596 4 = 0 ∧ AX9 (sB S) s x := by
      intro τ h9
      obtain ⟨s1, a1, a2, a3, a4, a5, a6⟩ := p9_begins h9 ok
      obtain ⟨s2, b1, b2, _, b4⟩ := p9_aL18 416 0 s1 (by omega)
      have hA : A9 s2 (sT S).2 (sT S).1 0 := by
        have e : s2 596 = s1 596 := b4 596 (by decide)
        obtain ⟨⟨t1, t2⟩, t3⟩ := a2
        refine ⟨⟨by rw [e]; exact t1, fun i hi => by rw [b4 599 (by decide)]; exact t2 i hi⟩, ?_⟩
        unfold At9 at t3 ⊢
        rw [e]; exact t3
      have hB : RB9 s2 598 0 (sB S) := h9.2.2.2.1.cp okB (fun z hz => by rw [b2 z (by omega) hz, a5 597 (by decide)])
      obtain ⟨s, c1, c2, c3⟩ := x3 s2 hA (by rw [b4 596 (by decide)]; exact a3) hB
      refine ⟨s, ?_, fun a h1 h2 => by rw [c2.1 a h1 h2, b4 a h2, a5 a h1], fun f hf => by rw [c2.2 f (by omega), b4 596 (by decide), a6 f (by omega)], by rw [c2.2 4 (by omega), b4 596 (by decide)]; exact a4, c3⟩
      unfold g_X9_adds
      rw [str τ h9, Option.bind_some]
      dsimp only
      rw [if_neg (by omega), a1, Option.bind_some]
      refine (b1 _ ab_FU (by show _ < 100000; omega)).trans ?_
      exact c1
    rcases x with ⟨c, p⟩ | b'
    · refine stp_of dr_in (S' := rdS S (c, p)) (r := -4) ?_ ?_ (ok.rd _) r8 r9
      · intro τ h8
        obtain ⟨r, s, s3, a1, a2, a3, _, _⟩ := rd8 τ h8
        obtain ⟨rfl, a4, a5⟩ := a3
        refine ⟨up2 s 2 1 0, ?_, rep8_rd dr_in h8 (fun a h1 h2 h3 h4 => by rw [up2_o _ _ h1]; exact a2 a h2 h3 h4) (up2_at _ _ _ _) (by rw [up2_o _ _ (by decide)]; exact a4) (by rw [up2_o _ _ (by decide)]; exact a5), fun a ha => by rw [up2_o _ _ (by omega)]; exact a2 a (by omega) (by omega) (by omega)⟩
        unfold g_X8_adds
        rw [h8.2.2.2.1.1, if_pos (by omega)]
        refine (a1 (fun q r => (some (up2 r 2 1 (0 : Int))).bind fun σ1 => if q = (0 : Int) then some ((-4 : Int), σ1) else (g_X3_keep 13 σ1).bind fun q3 => (g_X0_copyFrom 13 24 q3).bind fun q4 => (g_X8_renew q4).bind fun q5 => some (ab_w32 ((q5 13 0) - (1 : Int)), q5))).trans ?_
        rw [Option.bind_some, if_pos rfl]
      · intro τ h9
        obtain ⟨s, a1, a2, a3, a4, a5, a6, a7⟩ := rd9 τ h9
        refine ⟨s, ?_, rep9_rd h9 a2 a3 a4 a5 a6, fun a ha => a2 a (by omega) (by omega)⟩
        rw [a1]
        unfold g_X9_adds_J76
        rw [p9_good0 (by rw [a5]; exact a7), Option.bind_some]
        dsimp only
        rw [if_pos rfl]
    · obtain ⟨okb, nb⟩ : OkB b' ∧ bn b' = bn (sB S) + 1 := x1
      have okr := ok.rd (0, -1)
      refine stp_of dr_in (S' := actS (rdS S (0, -1)) b') (r := (bn (sB S) : Int)) ?_ ?_ (okr.act okb) r8 r9
      · intro τ h8
        obtain ⟨r, s, s3, a1, a2, a3, z1, z2⟩ := rd8 τ h8
        obtain ⟨rfl, a4, a6, a7⟩ := a3
        have k1 : Rep8 DR (up2 s 2 1 0) (rdS S (0, -1)) := rep8_rd dr_in h8 (fun a h1 h2 h3 h4 => by rw [up2_o _ _ h1]; exact a2 a h2 h3 h4) (up2_at _ _ _ _) (by rw [up2_o _ _ (by decide), a6]; exact z1) (by rw [up2_o _ _ (by decide), a7]; exact z2)
        obtain ⟨s4, c1, c2, c3⟩ := p3_keep dr_in k1 okr
        obtain ⟨s5, d1, d2, d3⟩ := p0_copyFrom (σ := s4) (a0 := 13) (a1 := 24) (by omega) okb (a4.fr (fun k hk => by rw [c3 _ (by omega), up2_o _ _ (by omega)]))
        obtain ⟨s6, e1, e2, e3⟩ := p8_renew (c2.ds.book (fun a ha => d3 a (by omega)) d2) okb
        have e13 : s6 13 0 = (bn b' : Int) := e2.2.2.2.1.1
        refine ⟨s6, ?_, e2, fun a ha => by rw [e3 a (by omega), d3 a (by omega), c3 a (by omega), up2_o _ _ (by omega)]; exact a2 a (by omega) (by omega) (by omega)⟩
        unfold g_X8_adds
        rw [h8.2.2.2.1.1, if_pos (by omega)]
        refine (a1 (fun q r => (some (up2 r 2 1 (0 : Int))).bind fun σ1 => if q = (0 : Int) then some ((-4 : Int), σ1) else (g_X3_keep 13 σ1).bind fun q3 => (g_X0_copyFrom 13 24 q3).bind fun q4 => (g_X8_renew q4).bind fun q5 => some (ab_w32 ((q5 13 0) - (1 : Int)), q5))).trans ?_
        rw [Option.bind_some, if_neg one0, c1, Option.bind_some, d1, Option.bind_some, e1, Option.bind_some, e13, nb, w32i (by omega) (by omega), show ((bn (sB S) + 1 : Nat) : Int) - 1 = (bn (sB S) : Int) by omega]
      · intro τ h9
        obtain ⟨s, a1, a2, a3, a4, a5, a6, a7, a8⟩ := rd9 τ h9
        have k1 : Rep9 s (rdS S (0, -1)) := rep9_rd h9 a2 a3 a4 a5 a6
        obtain ⟨s1, b1, b2, b3, b4, fin⟩ := act9 k1 okr
        obtain ⟨s2, c1, c2, _, c4⟩ := p9_aL92 416 0 s1 (by omega)
        have w0 : s2 597 0 = (bn (sB S) : Int) := by rw [c2 0 (by omega) (by omega), b3 598 (by decide) (by decide)]; exact a7
        have hb9 : RB9 (up2 s2 597 0 ((bn (sB S) + 1 : Nat) : Int)) 597 0 b' := a8.cp okb (fun z hz => by
          by_cases y : z = 0
          · subst y; rw [up2_at, up2_at]
          · rw [up2_ne _ _ (fun q => y q.2), up2_ne _ _ (fun q => y q.2), c2 z (by omega) hz, b3 598 (by decide) (by decide)])
        obtain ⟨z1, z2⟩ := fin _ _ (fun a ha => by rw [up2_o _ _ ha, c4 a ha]) hb9
        refine ⟨up2 s2 597 0 ((bn (sB S) + 1 : Nat) : Int), ?_, z1, fun a ha => by rw [z2 a ha]; exact a2 a (by omega) (by omega)⟩
        rw [a1]
        unfold g_X9_adds_J76
        rw [p9_good1 a5, Option.bind_some]
        dsimp only
        rw [if_neg one0, b1, Option.bind_some]
        refine (c1 _ ab_FU (by show _ < 100000; omega)).trans ?_
        have st2 := p9_strings hb9 okb
        rw [show (0 : Int) = ((0 : Nat) : Int) from rfl, sa_ld_of (by omega) (by omega), Option.bind_some, Int.toNat_natCast, w0, w64i (by omega) (by omega), sa_st_of (by omega) (by omega), Option.bind_some, Int.toNat_natCast, show (bn (sB S) : Int) + 1 = ((bn (sB S) + 1 : Nat) : Int) by omega, st2, Option.bind_some]
        dsimp only
        rw [nb, w32i (by omega) (by omega), show ((bn (sB S) + 1 : Nat) : Int) - 1 = (bn (sB S) : Int) by omega]
  · refine stp_of dr_in (S' := S) (r := -5) ?_ ?_ ok r8 r9
    · intro τ h8
      refine ⟨τ, ?_, h8, fun _ _ => rfl⟩
      unfold g_X8_adds
      rw [h8.2.2.2.1.1, if_neg (by omega)]
    · intro τ h9
      refine ⟨τ, ?_, h9, fun _ _ => rfl⟩
      unfold g_X9_adds
      rw [str τ h9, Option.bind_some]
      dsimp only
      rw [if_pos (by omega)]
