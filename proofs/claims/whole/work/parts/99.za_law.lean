/-! a law is read alike on both sides -/
def FL8 (σ σ' : st_S) : Prop := (∀ c, c ≠ 8 → (c < 24 ∨ 34 < c) → σ' c = σ c) ∧ ∀ f, (f < 5 ∨ f = 8) → σ' 8 f = σ 8 f
def FL9 (σ σ' : st_S) : Prop := (∀ c, c ≠ 596 → c ≠ 598 → σ' c = σ c) ∧ ∀ f, (f < 6 ∨ 12 < f) → σ' 596 f = σ 596 f
theorem FL8.rfl' {σ : st_S} : FL8 σ σ := ⟨fun _ _ _ => rfl, fun _ _ => rfl⟩
theorem FL9.rfl' {σ : st_S} : FL9 σ σ := ⟨fun _ _ _ => rfl, fun _ _ => rfl⟩
theorem FL8.trans {σ σ1 σ2 : st_S} (h : FL8 σ σ1) (h2 : FL8 σ1 σ2) : FL8 σ σ2 := ⟨fun c x y => by rw [h2.1 c x y, h.1 c x y], fun f a => by rw [h2.2 f a, h.2 f a]⟩
theorem FL9.trans {σ σ1 σ2 : st_S} (h : FL9 σ σ1) (h2 : FL9 σ1 σ2) : FL9 σ σ2 := ⟨fun c x y => by rw [h2.1 c x y, h.1 c x y], fun f x => by rw [h2.2 f x, h.2 f x]⟩
theorem FG8.l {σ σ' : st_S} (h : FG8 σ σ') : FL8 σ σ' := ⟨fun c x y => h.1 c x (by omega), fun f a => h.2 f (by omega) (by omega) (by omega) (by omega)⟩
theorem FG9.l {σ σ' : st_S} (h : FG9 σ σ') : FL9 σ σ' := ⟨h.1, fun f a => h.2 f (by omega)⟩
theorem FL8.up {σ : st_S} {a x : Nat} (ha : 24 ≤ a ∧ a ≤ 34) (v : Int) : FL8 σ (up2 σ a x v) := ⟨fun c _ b => up2_o _ _ (by omega), fun f _ => by rw [up2_o _ _ (by omega)]⟩
theorem FL8.u6 {σ : st_S} (v : Int) : FL8 σ (up2 σ 8 6 v) := ⟨fun c x _ => up2_o _ _ x, fun f a => up2_ne _ _ (by omega)⟩
theorem FL9.up {σ : st_S} {x : Nat} (v : Int) : FL9 σ (up2 σ 598 x v) := ⟨fun c _ b => up2_o _ _ b, fun f _ => by rw [up2_o _ _ (by decide)]⟩
theorem FL9.u12 {σ : st_S} (v : Int) : FL9 σ (up2 σ 596 12 v) := ⟨fun c x _ => up2_o _ _ x, fun f a => up2_ne _ _ (by omega)⟩
theorem FL8.s5 {σ σ' : st_S} (h : ∀ c, c ≠ 8 → σ' c = σ c) (h2 : ∀ f, f ≠ 5 → σ' 8 f = σ 8 f) : FL8 σ σ' := ⟨fun c a _ => h c a, fun f a => h2 f (by omega)⟩
def RL8 (T : Nat → Int) (L N : Nat) (σ σ' : st_S) (r : Int) : RS (Nat × BV × Int) → Prop
  | .inl (c, p) => r = 0 ∧ σ' 8 9 = c ∧ σ' 8 10 = p
  | .inr (j', b', m') => r = 1 ∧ Cu8 σ' T L N j' ∧ RB8 σ' 24 b' ∧ σ' 8 6 = m' ∧ σ' 8 9 = σ 8 9 ∧ σ' 8 10 = σ 8 10
def RL9 (T : Nat → Int) (L : Nat) (σ' : st_S) : RS (Nat × BV × Int) → Prop
  | .inl (c, p) => σ' 596 10 = c ∧ σ' 596 11 = p ∧ c ≠ 0
  | .inr (j', b', m') => A9 σ' T L j' ∧ σ' 596 10 = 0 ∧ RB9 σ' 598 0 b' ∧ σ' 596 12 = m'
def GL (N j : Nat) : RS (Nat × BV × Int) → Prop
  | .inl _ => True
  | .inr (j', b', _) => OkB b' ∧ j ≤ j' ∧ j' ≤ N
section LW
variable {T : Nat → Int} {L N : Nat} {j : Nat} {b : BV}
theorem rb8_law {σ : st_S} (h : RB8 σ 24 b) (r : Nat) (w : Int) : RB8 (up2 σ 32 r w) 24 (bLaw b r w) := by
  obtain ⟨q0, q1, q2, q3, q4, q5⟩ := h
  refine ⟨by rw [up2_o _ _ (by decide)]; exact q0, fun s hs => by rw [up2_o _ _ (by decide), up2_o _ _ (by decide)]; exact q1 s hs, fun s hs i hi f hf => by rw [up2_o _ _ (by omega)]; exact q2 s hs i hi f hf, fun k hk => ?_, by rw [up2_o _ _ (by decide)]; exact q4, fun k hk => by rw [up2_o _ _ (by decide), up2_o _ _ (by decide)]; exact q5 k hk⟩
  show up2 σ 32 r w 32 k = if k = r then w else bwy b k
  by_cases ek : k = r
  · subst ek; rw [up2_at, if_pos rfl]
  · rw [up2_ne _ _ (by omega), if_neg ek]; exact q3 k hk
theorem rb9_law {σ : st_S} (h : RB9 σ 598 0 b) {r : Nat} (hr : r < 6) (w : Int) : RB9 (up2 σ 598 (2 + r) w) 598 0 (bLaw b r w) := by
  obtain ⟨q0, q1, q2, q3, q4, q5⟩ := h
  refine ⟨?_, fun s hs => ?_, fun s hs i hi f hf => ?_, fun k hk => ?_, ?_, fun k hk => ?_⟩
  · rw [up2_ne _ _ (by omega)]; exact q0
  · rw [up2_ne _ _ (by omega), up2_ne _ _ (by omega)]; exact q1 s hs
  · rw [up2_ne _ _ (by omega)]; exact q2 s hs i hi f hf
  · show _ = if k = r then w else bwy b k
    by_cases ek : k = r
    · subst ek; rw [Nat.zero_add, up2_at, if_pos rfl]
    · rw [up2_ne _ _ (by omega), if_neg ek]; exact q3 k hk
  · rw [up2_ne _ _ (by omega)]; exact q4
  · rw [up2_ne _ _ (by omega), up2_ne _ _ (by omega)]; exact q5 k hk
theorem p9_J126b {σ : st_S} (hg : σ 596 10 ≠ 0) (v w : Int) : g_X9_readLaw_J126 v w σ = some σ := by
  unfold g_X9_readLaw_J126
  rw [p9_good0 hg, Option.bind_some]
  dsimp only
  rw [if_pos rfl]
theorem p9_J47b {σ : st_S} (hg : σ 596 10 ≠ 0) (v : Int) : g_X9_readLaw_J47 v σ = some σ := by
  unfold g_X9_readLaw_J47
  rw [p9_good0 hg, Option.bind_some]
  dsimp only
  rw [if_pos rfl]
theorem p9_J19b {σ : st_S} (hg : σ 596 10 ≠ 0) (v : Int) : g_X9_readLaw_J19 v σ = some σ := by
  unfold g_X9_readLaw_J19
  rw [p9_good0 hg, Option.bind_some]
  dsimp only
  rw [if_pos rfl, p9_J47b hg]
theorem p9_way (ox : okX T L) {σ : st_S} (h : A9 σ T L j) (hg : σ 596 10 = 0) (v : Int) : ((g_X9_isWord (-9 : Int) σ).bind fun q3 =>
  if q3.1 = (0 : Int) then
    (g_X9_isWord (-10 : Int) q3.2).bind fun q4 =>
    if q4.1 = (0 : Int) then
      (g_X9_isWord (-11 : Int) q4.2).bind fun q5 =>
      if q5.1 = (0 : Int) then
        g_X9_readLaw_J111 v (-1 : Int) q5.2
      else
      g_X9_readLaw_J111 v (2 : Int) q5.2
    else
    g_X9_readLaw_J111 v (1 : Int) q4.2
  else
  g_X9_readLaw_J111 v (0 : Int) q3.2) = g_X9_readLaw_J111 v (chc T L (sJ T L j) 9 3) σ := by
  have i9 : g_X9_isWord (-9) σ = some (if k8 T L (sJ T L j) = 1 ∧ v8 T L (sJ T L j) = 9 then 1 else 0, σ) := by
    have := p9_isWord ox h.1 h.2 hg (k := 9) (by decide)
    rw [show kA 9 = -9 by decide +kernel] at this; exact this
  have i10 : g_X9_isWord (-10) σ = some (if k8 T L (sJ T L j) = 1 ∧ v8 T L (sJ T L j) = 10 then 1 else 0, σ) := by
    have := p9_isWord ox h.1 h.2 hg (k := 10) (by decide)
    rw [show kA 10 = -10 by decide +kernel] at this; exact this
  have i11 : g_X9_isWord (-11) σ = some (if k8 T L (sJ T L j) = 1 ∧ v8 T L (sJ T L j) = 11 then 1 else 0, σ) := by
    have := p9_isWord ox h.1 h.2 hg (k := 11) (by decide)
    rw [show kA 11 = -11 by decide +kernel] at this; exact this
  by_cases e1 : k8 T L (sJ T L j) = 1
  · by_cases e9 : v8 T L (sJ T L j) = 9
    · have hc : chc T L (sJ T L j) 9 3 = 0 := by unfold chc; rw [if_pos ⟨e1, by omega, by omega⟩]; omega
      rw [if_pos ⟨e1, e9⟩] at i9
      rw [i9, Option.bind_some, hc]
      dsimp only
      rw [if_neg one0]
    · rw [if_neg (fun z => e9 z.2)] at i9
      rw [i9, Option.bind_some]
      dsimp only
      rw [if_pos rfl]
      by_cases e10 : v8 T L (sJ T L j) = 10
      · have hc : chc T L (sJ T L j) 9 3 = 1 := by unfold chc; rw [if_pos ⟨e1, by omega, by omega⟩]; omega
        rw [if_pos ⟨e1, e10⟩] at i10
        rw [i10, Option.bind_some, hc]
        dsimp only
        rw [if_neg one0]
      · rw [if_neg (fun z => e10 z.2)] at i10
        rw [i10, Option.bind_some]
        dsimp only
        rw [if_pos rfl]
        by_cases e11 : v8 T L (sJ T L j) = 11
        · have hc : chc T L (sJ T L j) 9 3 = 2 := by unfold chc; rw [if_pos ⟨e1, by omega, by omega⟩]; omega
          rw [if_pos ⟨e1, e11⟩] at i11
          rw [i11, Option.bind_some, hc]
          dsimp only
          rw [if_neg one0]
        · have hc : chc T L (sJ T L j) 9 3 = -1 := by unfold chc; rw [if_neg (fun z => by omega)]
          rw [if_neg (fun z => e11 z.2)] at i11
          rw [i11, Option.bind_some, hc]
          dsimp only
          rw [if_pos rfl]
  · have hc : chc T L (sJ T L j) 9 3 = -1 := by unfold chc; rw [if_neg (fun z => e1 z.1)]
    rw [if_neg (fun z => e1 z.1)] at i9 i10 i11
    rw [i9, Option.bind_some]
    dsimp only
    rw [if_pos rfl, i10, Option.bind_some]
    dsimp only
    rw [if_pos rfl, i11, Option.bind_some, hc]
    dsimp only
    rw [if_pos rfl]
theorem lw_both (ox : okX T L) (hN : sJ T L N = L) (ok : OkB b) (hj : j ≤ N) (m : Int) : ∃ x : RS (Nat × BV × Int), GL N (nxJ N j) x ∧
    (∀ σ, Cu8 σ T L N j → RB8 σ 24 b → σ 8 6 = m → ∃ r σ', g_X4_readLaw 24 σ = some (r, σ') ∧ FL8 σ σ' ∧ RL8 T L N σ σ' r x) ∧
    (∀ σ, A9 σ T L (nxJ N j) → σ 596 10 = 0 → RB9 σ 598 0 b → σ 596 12 = m → ∃ σ', g_X9_readLaw σ = some σ' ∧ FL9 σ σ' ∧ RL9 T L σ' x) := by
  have l1 := nx_le hj
  have l2 := nx_le l1
  have l3 := nx_le l2
  have g2 := nx_ge (N := N) (j := nxJ N j)
  have g3 := nx_ge (N := N) (j := nxJ N (nxJ N j))
  have ch8 : ∀ {σ : st_S} {k : Nat}, Cu8 σ T L N k → g_X4_choice 3 6 σ = some (chc T L (sJ T L k) 3 6, σ) := fun h => p4_choice h (a := 3) (c := 6) (by decide) (by decide)
  have ch9 : ∀ {σ : st_S} {k : Nat}, Cu8 σ T L N k → g_X4_choice 9 3 σ = some (chc T L (sJ T L k) 9 3, σ) := fun h => p4_choice h (a := 9) (c := 3) (by decide) (by decide)
  by_cases c1 : chc T L (sJ T L (nxJ N j)) 3 6 = -1
  · refine ⟨.inl (1, (sJ T L (nxJ N j) : Int)), True.intro, fun σ h hb hm => ?_, fun σ h hg hb hm => ?_⟩
    · obtain ⟨s1, a1, a2, a3, a4⟩ := p4_step h
      refine ⟨0, _, ?_, (FL8.s5 a3 a4).trans (Fd8.fl _ _).g.l, rfl, (e89 _ _).1, (e89 _ _).2⟩
      unfold g_X4_readLaw
      rw [a1, Option.bind_some, ch8 a2, Option.bind_some]
      dsimp only
      rw [if_pos c1, p4_fail a2]; rfl
    · refine ⟨er σ 1 (sJ T L (nxJ N j) : Int), ?_, (F9r.fl _ _).g.l, er10 _ _, er11 _ _, by decide⟩
      unfold g_X9_readLaw
      rw [p9_roleHere ox h.1 h.2 hg, Option.bind_some]
      dsimp only
      rw [if_pos c1, p9_errs1 hg, Option.bind_some, h.2.1, p9_J19b (by rw [er10]; decide)]
  · have ci := chc_in c1
    obtain ⟨ro, hro⟩ := Int.eq_ofNat_of_zero_le ci.1
    have hro : chc T L (sJ T L (nxJ N j)) 3 6 = (ro : Int) := hro
    have r6 : ro < 6 := by omega
    by_cases cb : ab_and (ab_shr m (ro : Int)) 1 = 1
    · refine ⟨.inl (3, (sJ T L (nxJ N j) : Int)), True.intro, fun σ h hb hm => ?_, fun σ h hg hb hm => ?_⟩
      · obtain ⟨s1, a1, a2, a3, a4⟩ := p4_step h
        refine ⟨0, _, ?_, (FL8.s5 a3 a4).trans (Fd8.fl _ _).g.l, rfl, (e89 _ _).1, (e89 _ _).2⟩
        have hbt : g_X8_hasBit (s1 8 6) (chc T L (sJ T L (nxJ N j)) 3 6) s1 = some (1, s1) := by
          unfold g_X8_hasBit
          rw [if_pos (show ab_and (ab_shr (s1 8 6) (chc T L (sJ T L (nxJ N j)) 3 6)) 1 = 1 by rw [a4 6 (by decide), hm, hro]; exact cb)]
        unfold g_X4_readLaw
        rw [a1, Option.bind_some, ch8 a2, Option.bind_some]
        dsimp only
        rw [if_neg c1, hbt, Option.bind_some]
        dsimp only
        rw [if_neg one0, p4_fail a2]; rfl
      · refine ⟨er σ 3 (sJ T L (nxJ N j) : Int), ?_, (F9r.fl _ _).g.l, er10 _ _, er11 _ _, by decide⟩
        unfold g_X9_readLaw g_X9_readLaw_J19
        rw [p9_roleHere ox h.1 h.2 hg, Option.bind_some]
        dsimp only
        rw [if_neg c1, p9_good1 hg, Option.bind_some]
        dsimp only
        rw [if_neg one0, if_pos (show ab_and (ab_shr (σ 596 12) (chc T L (sJ T L (nxJ N j)) 3 6)) 1 = 1 by rw [hm, hro]; exact cb), p9_errs1 hg, Option.bind_some, h.2.1, p9_J47b (by rw [er10]; decide)]
    · have st8 : ∀ {σ : st_S}, Cu8 σ T L N j → σ 8 6 = m → ∃ s2, FL8 σ s2 ∧ Cu8 s2 T L N (nxJ N (nxJ N j)) ∧ (∀ c, c ≠ 8 → s2 c = σ c) ∧ (∀ f, f ≠ 5 → f ≠ 6 → s2 8 f = σ 8 f) ∧ s2 8 6 = ab_or m (ab_shl 1 (ro : Int)) ∧ g_X4_readLaw 24 σ = if chc T L (sJ T L (nxJ N (nxJ N j))) 9 3 = -1 then some (0, e8 s2 1 (sJ T L (nxJ N (nxJ N j)) : Int)) else (sa_st s2 32 6 (ro : Int) (chc T L (sJ T L (nxJ N (nxJ N j))) 9 3)).bind fun σ2 => (g_X4_step σ2).bind fun q6 => some ((1 : Int), q6) := by
        intro σ h hm
        obtain ⟨s1, a1, a2, a3, a4⟩ := p4_step h
        have a2' : Cu8 (up2 s1 8 6 (ab_or m (ab_shl 1 (ro : Int)))) T L N (nxJ N j) := a2.fr (fun c x y => up2_o _ _ (by omega)) (up2_ne _ _ (by decide)) (up2_ne _ _ (by decide))
        obtain ⟨s2, b1, b2, b3, b4⟩ := p4_step a2'
        refine ⟨s2, ((FL8.s5 a3 a4).trans (FL8.u6 _)).trans (FL8.s5 b3 b4), b2, fun c hc => by rw [b3 c hc, up2_o _ _ hc, a3 c hc], fun f f5 f6 => by rw [b4 f f5, up2_ne _ _ (fun q => f6 q.2), a4 f f5], by rw [b4 6 (by decide), up2_at], ?_⟩
        have hbt : g_X8_hasBit (s1 8 6) (chc T L (sJ T L (nxJ N j)) 3 6) s1 = some (0, s1) := by
          unfold g_X8_hasBit
          rw [if_neg (show ¬ ab_and (ab_shr (s1 8 6) (chc T L (sJ T L (nxJ N j)) 3 6)) 1 = 1 by rw [a4 6 (by decide), hm, hro]; exact cb)]
        unfold g_X4_readLaw
        rw [a1, Option.bind_some, ch8 a2, Option.bind_some]
        dsimp only
        rw [if_neg c1, hbt, Option.bind_some, hro]
        dsimp only
        rw [if_pos rfl, Option.bind_some, a4 6 (by decide), hm, b1, Option.bind_some, ch9 b2, Option.bind_some]
        dsimp only
        by_cases c2 : chc T L (sJ T L (nxJ N (nxJ N j))) 9 3 = -1
        · rw [if_pos c2, if_pos c2, p4_fail b2]; rfl
        · rw [if_neg c2, if_neg c2]
      have st9 : ∀ {σ : st_S}, A9 σ T L (nxJ N j) → σ 596 10 = 0 → σ 596 12 = m → ∃ s2, FL9 σ s2 ∧ A9 s2 T L (nxJ N (nxJ N j)) ∧ s2 596 10 = 0 ∧ s2 598 = σ 598 ∧ s2 596 12 = ab_or m (ab_shl 1 (ro : Int)) ∧ g_X9_readLaw σ = g_X9_readLaw_J111 (ro : Int) (chc T L (sJ T L (nxJ N (nxJ N j))) 9 3) s2 := by
        intro σ h hg hm
        have h' : A9 (up2 σ 596 12 (ab_or m (ab_shl 1 (ro : Int)))) T L (nxJ N j) := by
          obtain ⟨⟨t1, t2⟩, w1, w2, w3, w4, w5⟩ := h
          exact ⟨⟨by rw [up2_ne _ _ (by decide), up2_ne _ _ (by decide)]; exact t1, fun i hi => by rw [up2_o _ _ (by decide)]; exact t2 i hi⟩, by rw [up2_ne _ _ (by decide)]; exact w1, by rw [up2_ne _ _ (by decide)]; exact w2, by rw [up2_ne _ _ (by decide)]; exact w3, fun z => by rw [up2_ne _ _ (by decide)]; exact w4 z, fun z => by rw [up2_ne _ _ (by decide)]; exact w5 z⟩
        obtain ⟨s2, b1, b2, b3⟩ := p9_goes ox hN l1 h'
        have hg2 : s2 596 10 = 0 := by rw [b3.2 10 (by omega), up2_ne _ _ (by decide)]; exact hg
        refine ⟨s2, (FL9.u12 _).trans b3.r.g.l, b2, hg2, by rw [b3.1 598 (by decide), up2_o _ _ (by decide)], by rw [b3.2 12 (by omega), up2_at], ?_⟩
        unfold g_X9_readLaw g_X9_readLaw_J19
        rw [p9_roleHere ox h.1 h.2 hg, Option.bind_some]
        dsimp only
        rw [if_neg c1, p9_good1 hg, Option.bind_some]
        dsimp only
        rw [if_neg one0, if_neg (show ¬ ab_and (ab_shr (σ 596 12) (chc T L (sJ T L (nxJ N j)) 3 6)) 1 = 1 by rw [hm, hro]; exact cb), hro]
        unfold g_X9_readLaw_J47
        rw [p9_good1 hg, Option.bind_some]
        dsimp only
        rw [if_neg one0, Option.bind_some, hm, b1, Option.bind_some]
        exact p9_way ox b2 hg2 (ro : Int)
      by_cases c2 : chc T L (sJ T L (nxJ N (nxJ N j))) 9 3 = -1
      · refine ⟨.inl (1, (sJ T L (nxJ N (nxJ N j)) : Int)), True.intro, fun σ h hb hm => ?_, fun σ h hg hb hm => ?_⟩
        · obtain ⟨s2, a1, a2, a3, a4, a5, a6⟩ := st8 h hm
          exact ⟨0, _, by rw [a6, if_pos c2], a1.trans (Fd8.fl _ _).g.l, rfl, (e89 _ _).1, (e89 _ _).2⟩
        · obtain ⟨s2, a1, a2, a3, a4, a5, a6⟩ := st9 h hg hm
          refine ⟨er s2 1 (sJ T L (nxJ N (nxJ N j)) : Int), ?_, a1.trans (F9r.fl _ _).g.l, er10 _ _, er11 _ _, by decide⟩
          rw [a6, c2]
          unfold g_X9_readLaw_J111
          rw [if_pos rfl, p9_errs1 a3, Option.bind_some, a2.2.1, p9_J126b (by rw [er10]; decide)]
      · have cj := chc_in c2
        refine ⟨.inr (nxJ N (nxJ N (nxJ N j)), bLaw b ro (chc T L (sJ T L (nxJ N (nxJ N j))) 9 3), ab_or m (ab_shl 1 (ro : Int))), ⟨bLaw_ok ok ⟨cj.1, by omega⟩, by omega, l3⟩, fun σ h hb hm => ?_, fun σ h hg hb hm => ?_⟩
        · obtain ⟨s2, a1, a2, a3, a4, a5, a6⟩ := st8 h hm
          generalize chc T L (sJ T L (nxJ N (nxJ N j))) 9 3 = w at *
          have hb2 : RB8 s2 24 b := hb.fr (fun k hk => a3 _ (by omega))
          have hb3 := rb8_law hb2 ro w
          have a2' : Cu8 (up2 s2 32 ro w) T L N (nxJ N (nxJ N j)) := a2.fr (fun c x y => up2_o _ _ (by omega)) (by rw [up2_o _ _ (by decide)]) (by rw [up2_o _ _ (by decide)])
          obtain ⟨s3, b1, b2, b3, b4⟩ := p4_step a2'
          refine ⟨1, s3, ?_, (a1.trans (FL8.up (by omega) _)).trans (FL8.s5 b3 b4), rfl, b2, hb3.fr (fun k hk => b3 _ (by omega)), ?_, ?_, ?_⟩
          · rw [a6, if_neg c2, sa_st_of (by omega) (by omega), Option.bind_some, Int.toNat_natCast, b1]; rfl
          · rw [b4 6 (by decide), up2_o _ _ (by decide)]; exact a5
          · rw [b4 9 (by decide), up2_o _ _ (by decide)]; exact a4 9 (by decide) (by decide)
          · rw [b4 10 (by decide), up2_o _ _ (by decide)]; exact a4 10 (by decide) (by decide)
        · obtain ⟨s2, a1, a2, a3, a4, a5, a6⟩ := st9 h hg hm
          generalize chc T L (sJ T L (nxJ N (nxJ N j))) 9 3 = w at *
          have hb3 := rb9_law (hb.fr (σ' := s2) a4) r6 w
          obtain ⟨s3, b1, b2, b3⟩ := p9_goes ox hN l2 (a2.up (z := 2 + ro) w)
          refine ⟨s3, ?_, (a1.trans (FL9.up _)).trans b3.r.g.l, b2, ?_, hb3.fr (b3.1 598 (by decide)), ?_⟩
          · rw [a6]
            unfold g_X9_readLaw_J111 g_X9_readLaw_J126
            rw [if_neg c2, p9_good1 a3, Option.bind_some]
            dsimp only
            rw [if_neg one0, show ab_w32 (2 + (ro : Int)) = ((2 + ro : Nat) : Int) by rw [w32i (by omega) (by omega)]; omega, sa_st_of (by omega) (by omega), Option.bind_some, Int.toNat_natCast, b1]; rfl
          · rw [b3.2 10 (by omega), up2_o _ _ (by decide)]; exact a3
          · rw [b3.2 12 (by omega), up2_o _ _ (by decide)]; exact a5
end LW
