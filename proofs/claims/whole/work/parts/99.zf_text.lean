/-! text, both sides -/
theorem rep8_fg {σ : st_S} {S : SV} (h : Rep8 DR σ S) : Rep8 DR (up2 σ 35 2 0) (withH S (0, (sH S).2)) := by
  obtain ⟨q1, q2, q3, q4, ⟨q5, q6, q7⟩, q8, q9⟩ := h
  have e : ∀ a, a ≠ 35 → up2 σ 35 2 0 a = σ a := fun a ha => up2_o _ _ ha
  exact ⟨by rw [e 2 (by decide), e 3 (by decide)]; exact q1, by rw [e 4 (by decide), e 5 (by decide)]; exact q2, by rw [e 8 (by decide)]; exact q3, q4.fr (fun k hk => e _ (by omega)), ⟨up2_at _ _ _ _, by rw [up2_ne _ _ (by decide)]; exact q6, fun j hj => absurd hj (Nat.not_lt_zero _)⟩, by rw [e 9 (by decide)]; exact q8, dr_in σ _ _ (fun a h1 _ => e a (by omega)) q9⟩
theorem S_text : Stp0 (InvD DR) g_X8_text g_X9_text := by
  intro σ ⟨S, r8, r9, ok⟩
  have ox : okX (sT S).2 (sT S).1 := ⟨ok.1, ok.2.1⟩
  obtain ⟨N, n1, n2, n3, beg⟩ := p4_begins ok r8
  obtain ⟨x, x1, x2, x3⟩ := tx_both ox n2 n3 n1 N N 0 0 bE 0 (Nat.le_refl _) (by omega) (Nat.le_refl _) bE_ok
  have rd8 : ∀ τ, Rep8 DR τ S → ∃ r s s3, g_X4_readText 2 24 τ = some (r, s) ∧ (∀ a, a ≠ 8 → (a < 10 ∨ 12 < a) → (a < 24 ∨ 34 < a) → s a = τ a) ∧ TL8 s3 s r x ∧ s3 8 9 = 0 ∧ s3 8 10 = -1 := by
    intro τ h8
    obtain ⟨s1, a1, a2, a3, a4, a5, a6⟩ := beg τ h8.1 h8.2.2.2.2.2.1
    obtain ⟨s2, b1, b2, b3⟩ := p0_clear (σ := s1)
    have e2 : ∀ a, a ≠ 24 → a ≠ 32 → up2 s2 8 8 0 a = up2 s1 8 8 0 a := fun a h1 h2 => by
      funext y
      unfold up2
      rw [b3 a h1 h2]
    obtain ⟨r, s, c1, c2, c3⟩ := x2 (up2 s2 8 8 0) (a2.fr (fun c x y => by rw [up2_o _ _ (by omega), b3 c (by omega) (by omega)]) (by rw [up2_ne _ _ (by decide), b3 8 (by decide) (by decide)]) (by rw [up2_ne _ _ (by decide), b3 8 (by decide) (by decide)])) (b2.fr (fun k hk => up2_o _ _ (by omega))) (by rw [up2_ne _ _ (by decide), b3 8 (by decide) (by decide)]; exact a3) (up2_at _ _ _ _) ab_FU (by show _ < 100000; omega)
    refine ⟨r, s, up2 s2 8 8 0, ?_, fun a h1 h2 h3 => ?_, c3, by rw [up2_ne _ _ (by decide), b3 8 (by decide) (by decide)]; exact a4, by rw [up2_ne _ _ (by decide), b3 8 (by decide) (by decide)]; exact a5⟩
    · unfold g_X4_readText
      rw [a1, Option.bind_some, b1, Option.bind_some, Option.bind_some]
      exact c1
    · rw [c2 a h1 h3, up2_o _ _ h1, b3 a (by omega) (by omega), a6 a h1 (by omega) (by omega) (by omega)]
  have rd9 : ∀ τ, Rep9 τ S → ∃ v s, g_X9_text τ = g_X9_text_J57 v s ∧ (∀ a, a ≠ 596 → a ≠ 598 → s a = τ a) ∧ (∀ f, 12 < f → s 596 f = τ 596 f) ∧ s 596 4 = 0 ∧ TL9 s v x := by
    intro τ h9
    obtain ⟨s1, a1, a2, a3, a4, a5, a6⟩ := p9_begins h9 ok
    obtain ⟨s2, b1, b2, _, b4⟩ := p9_tL11 416 0 (up2 s1 596 12 0) (by omega)
    have hA : A9 s2 (sT S).2 (sT S).1 0 := by
      obtain ⟨⟨t1, t2⟩, w1, w2, w3, w4, w5⟩ := a2
      have e : s2 596 = up2 s1 596 12 0 596 := b4 596 (by decide)
      exact ⟨⟨by rw [e, up2_ne _ _ (by decide), up2_ne _ _ (by decide)]; exact t1, fun i hi => by rw [b4 599 (by decide), up2_o _ _ (by decide)]; exact t2 i hi⟩, by rw [e, up2_ne _ _ (by decide)]; exact w1, by rw [e, up2_ne _ _ (by decide)]; exact w2, by rw [e, up2_ne _ _ (by decide)]; exact w3, fun z => by rw [e, up2_ne _ _ (by decide)]; exact w4 z, fun z => by rw [e, up2_ne _ _ (by decide)]; exact w5 z⟩
    have hB : RB9 s2 598 0 bE := ⟨b2 0 (by omega) (by omega), fun s hs => absurd hs (Nat.not_lt_zero _), fun s hs => absurd hs (Nat.not_lt_zero _), fun r hr => b2 _ (by omega) (by omega), b2 _ (by omega) (by omega), fun k hk => absurd hk (Nat.not_lt_zero _)⟩
    obtain ⟨v, s, c1, c2, c3⟩ := x3 s2 hA (by rw [b4 596 (by decide), up2_ne _ _ (by decide)]; exact a3) hB (by rw [b4 596 (by decide), up2_at]) ab_FU (by show _ < 100000; omega)
    refine ⟨v, s, ?_, fun a h1 h2 => by rw [c2.1 a h1 h2, b4 a h2, up2_o _ _ h1, a5 a h1], fun f hf => by rw [c2.2 f (by omega), b4 596 (by decide), up2_ne _ _ (by omega), a6 f (by omega)], by rw [c2.2 4 (by omega), b4 596 (by decide), up2_ne _ _ (by decide)]; exact a4, c3⟩
    unfold g_X9_text
    rw [a1, Option.bind_some, Option.bind_some]
    refine (b1 _ ab_FU (by show _ < 100000; omega)).trans ?_
    exact c1 _
  rcases x with ⟨c, p⟩ | ⟨b', l'⟩
  · refine stp_of dr_in (S' := rdS S (c, p)) (r := -4) ?_ ?_ (ok.rd _) r8 r9
    · intro τ h8
      obtain ⟨r, s, s3, a1, a2, a3, _, _⟩ := rd8 τ h8
      obtain ⟨rfl, a4, a5⟩ := a3
      refine ⟨up2 s 2 1 0, ?_, rep8_rd dr_in h8 (fun a h1 h2 h3 h4 => by rw [up2_o _ _ h1]; exact a2 a h2 h3 h4) (up2_at _ _ _ _) (by rw [up2_o _ _ (by decide)]; exact a4) (by rw [up2_o _ _ (by decide)]; exact a5), fun a ha => by rw [up2_o _ _ (by omega)]; exact a2 a (by omega) (by omega) (by omega)⟩
      unfold g_X8_text
      rw [a1, Option.bind_some, Option.bind_some]
      dsimp only
      rw [if_pos rfl]
    · intro τ h9
      obtain ⟨v, s, a1, a2, a3, a4, a5, a6, a7⟩ := rd9 τ h9
      refine ⟨s, ?_, rep9_rd h9 a2 a3 a4 a5 a6, fun a ha => a2 a (by omega) (by omega)⟩
      rw [a1]
      unfold g_X9_text_J57
      rw [p9_good0 (by rw [a5]; exact a7), Option.bind_some]
      dsimp only
      rw [if_pos rfl]
  · have okb : OkB b' := x1
    refine stp_of dr_in (S' := withB (withH (rdS S (0, -1)) (0, (sH S).2)) b') (r := (l' : Int)) ?_ ?_ ⟨Nat.zero_le _, fun i hi => absurd hi (Nat.not_lt_zero _), ok.2.2.1, ok.2.2.2.1, okb, Nat.zero_le _, fun j hj => absurd hj (Nat.not_lt_zero _)⟩ r8 r9
    · intro τ h8
      obtain ⟨r, s, s3, a1, a2, a3, z1, z2⟩ := rd8 τ h8
      obtain ⟨rfl, a4, a5, a6, a7⟩ := a3
      have k1 : Rep8 DR (up2 s 2 1 0) (rdS S (0, -1)) := rep8_rd dr_in h8 (fun a h1 h2 h3 h4 => by rw [up2_o _ _ h1]; exact a2 a h2 h3 h4) (up2_at _ _ _ _) (by rw [up2_o _ _ (by decide), a6]; exact z1) (by rw [up2_o _ _ (by decide), a7]; exact z2)
      have k2 := (rep8_fg k1).ds
      obtain ⟨s4, c1, c2, c3⟩ := p0_copyFrom (σ := up2 (up2 s 2 1 0) 35 2 0) (a0 := 13) (a1 := 24) (by omega) okb (a4.fr (fun k hk => by rw [up2_o _ _ (by omega), up2_o _ _ (by omega)]))
      obtain ⟨s5, d1, d2, d3⟩ := p8_renew (k2.book (fun a ha => c3 a (by omega)) c2) okb
      refine ⟨s5, ?_, d2, fun a ha => by rw [d3 a (by omega), c3 a (by omega), up2_o _ _ (by omega), up2_o _ _ (by omega)]; exact a2 a (by omega) (by omega) (by omega)⟩
      unfold g_X8_text
      rw [a1, Option.bind_some, Option.bind_some]
      dsimp only
      rw [if_neg one0]
      unfold g_X3_forgetAll
      rw [Option.bind_some, Option.bind_some, c1, Option.bind_some, d1, Option.bind_some, d3 8 (by omega), c3 8 (by omega), up2_o _ _ (by decide), up2_o _ _ (by decide), a5]
    · intro τ h9
      obtain ⟨v, s, a1, a2, a3, a4, a5, a6, a7, a8⟩ := rd9 τ h9
      have k1 : Rep9 s (rdS S (0, -1)) := rep9_rd h9 a2 a3 a4 a6 a7
      obtain ⟨s2, b1, b2, _, b4⟩ := p9_tL69 v 416 0 s (by omega)
      have e : ∀ f, f ≠ 34 → up2 s2 596 34 0 596 f = s 596 f := fun f hf => by rw [up2_ne _ _ (fun q => hf q.2), b4 596 (by decide)]
      have e2 : ∀ a, a ≠ 596 → a ≠ 597 → up2 s2 596 34 0 a = s a := fun a h1 h2 => by rw [up2_o _ _ h1, b4 a h2]
      refine ⟨up2 s2 596 34 0, ?_, ?_, fun a ha => by rw [e2 a (by omega) (by omega)]; exact a2 a (by omega) (by omega)⟩
      · rw [a1]
        unfold g_X9_text_J57
        rw [p9_good1 a6, Option.bind_some]
        dsimp only
        rw [if_neg one0]
        refine (b1 _ ab_FU (by show _ < 100000; omega)).trans ?_
        rw [Option.bind_some, a5]
      · obtain ⟨q1, q2, q3, q4, q5, q6⟩ := k1
        exact ⟨⟨by rw [e 4 (by decide)]; exact q1.1, fun i hi => absurd hi (Nat.not_lt_zero _)⟩, by rw [e 28 (by decide), e2 609 (by decide) (by decide)]; exact q2, by rw [e 10 (by decide), e 11 (by decide)]; exact q3, a8.cp okb (fun z hz => by rw [up2_o _ _ (by decide)]; exact b2 z (by omega) hz), up2_at _ _ _ _, fun j hj => absurd hj (Nat.not_lt_zero _)⟩
