/-! all lines of a text, on both sides -/
def TL8 (σ σ' : st_S) (r : Int) : RS (BV × Nat) → Prop
  | .inl (c, p) => r = 0 ∧ σ' 8 9 = c ∧ σ' 8 10 = p
  | .inr (b', l') => r = 1 ∧ RB8 σ' 24 b' ∧ σ' 8 8 = (l' : Int) ∧ σ' 8 9 = σ 8 9 ∧ σ' 8 10 = σ 8 10
def TL9 (σ' : st_S) (v : Int) : RS (BV × Nat) → Prop
  | .inl (c, p) => σ' 596 10 = c ∧ σ' 596 11 = p ∧ c ≠ 0
  | .inr (b', l') => v = (l' : Int) ∧ σ' 596 10 = 0 ∧ σ' 596 11 = -1 ∧ RB9 σ' 598 0 b'
def TG : RS (BV × Nat) → Prop
  | .inl _ => True
  | .inr (b', _) => OkB b'
section TB
variable {T : Nat → Int} {L N : Nat}
theorem k8_at {j : Nat} (h : sJ T L j < L) : k8 T L (sJ T L j) ≠ 0 := by
  intro z
  have := k8_0.mp z
  unfold kdQ at this
  rw [if_neg (by omega)] at this
  split at this
  · omega
  · split at this <;> omega
theorem k8_L {j : Nat} (h : sJ T L j = L) : k8 T L (sJ T L j) = 0 := k8_0.mpr (by unfold kdQ; rw [if_pos (by omega)])
theorem tx_both (ox : okX T L) (hN : sJ T L N = L) (hl : ∀ j, j < N → sJ T L j < L) (h12 : N ≤ 1200) : ∀ (C c j l : Nat) (b : BV) (m : Int), c ≤ C → j + c = N → l ≤ j → OkB b →
    ∃ x : RS (BV × Nat), TG x ∧
      (∀ σ, Cu8 σ T L N j → RB8 σ 24 b → σ 8 6 = m → σ 8 8 = (l : Int) → ∀ n, C < n → ∃ r σ', g_X4_readText_L14 n 24 σ = some (r, σ') ∧ (∀ a, a ≠ 8 → (a < 24 ∨ 34 < a) → σ' a = σ a) ∧ TL8 σ σ' r x) ∧
      (∀ σ, A9 σ T L j → σ 596 10 = 0 → RB9 σ 598 0 b → σ 596 12 = m → ∀ n, C + 1 < n → ∃ v σ', (∀ k, g_X9_text_L33 k n (l : Int) σ = k v σ') ∧ FL9 σ σ' ∧ TL9 σ' v x) := by
  intro C
  induction C with
  | zero =>
    intro c j l b m hc hj hlj ok
    have e0 : j = N := by omega
    subst e0
    have k0 := k8_L hN
    refine ⟨.inr (b, l), ok, fun σ h hb hm h8 n hn => ?_, fun σ h hg hb hm n hn => ?_⟩
    · obtain ⟨z, rfl⟩ : ∃ z, n = z + 1 := ⟨n - 1, by omega⟩
      refine ⟨1, σ, ?_, fun _ _ _ => rfl, rfl, hb, h8, rfl, rfl⟩
      rw [g_X4_readText_L14, h.1, h8, if_neg (by omega), p4_kind h, Option.bind_some, if_pos k0]
    · obtain ⟨z, rfl⟩ : ∃ z, n = z + 1 := ⟨n - 1, by omega⟩
      refine ⟨(l : Int), σ, fun k => ?_, FL9.rfl', rfl, hg, h.1.1.2, hb⟩
      have q8 : σ 596 8 = 0 := by rw [h.2.2.2.1, k8_0.mp k0]; rfl
      rw [g_X9_text_L33, p9_good1 hg, Option.bind_some]
      dsimp only
      rw [if_neg one0, if_pos q8]
  | succ C ih =>
    intro c j l b m hc hj hlj ok
    by_cases hcC : c ≤ C
    · obtain ⟨x, x1, x2, x3⟩ := ih c j l b m hcC hj hlj ok
      exact ⟨x, x1, fun σ h hb hm h8 n hn => x2 σ h hb hm h8 n (by omega), fun σ h hg hb hm n hn => x3 σ h hg hb hm n (by omega)⟩
    · have hjN : j < N := by omega
      have k1 := k8_at (hl j hjN)
      have nj : nxJ N j = j + 1 := by unfold nxJ; rw [if_pos hjN]
      obtain ⟨y, y1, y2, y3⟩ := ln_both (b := b) (j := j) ox hN ok (by omega) m
      rw [nj] at y1
      have go8 : ∀ {σ : st_S}, Cu8 σ T L N j → σ 8 8 = (l : Int) → ∀ z, g_X4_readText_L14 (z + 1) 24 σ = (g_X4_readLine 24 σ).bind fun q2 => if q2.1 = (0 : Int) then some ((0 : Int), q2.2) else (some (up2 q2.2 8 8 (ab_w32 ((q2.2 8 8) + (1 : Int))))).bind fun σ1 => g_X4_readText_L14 z 24 σ1 := by
        intro σ h h8 z
        rw [g_X4_readText_L14, h.1, h8, if_neg (by omega), p4_kind h, Option.bind_some, if_neg k1]
      have go9 : ∀ {σ : st_S}, A9 σ T L j → σ 596 10 = 0 → ∀ k z, g_X9_text_L33 k (z + 1) (l : Int) σ = (g_X9_readLine σ).bind fun q2 => g_X9_text_L33 k z ((l + 1 : Nat) : Int) q2 := by
        intro σ h hg k z
        have q8 : ¬ σ 596 8 = 0 := by rw [h.2.2.2.1]; intro w; exact k1 (k8_0.mpr (by omega))
        rw [g_X9_text_L33, p9_good1 hg, Option.bind_some]
        dsimp only
        rw [if_neg one0, if_neg q8, w32s (by omega)]
      rcases y with ⟨cc, p⟩ | ⟨j1, b1, m1⟩
      · refine ⟨.inl (cc, p), True.intro, fun σ h hb hm h8 n hn => ?_, fun σ h hg hb hm n hn => ?_⟩
        · obtain ⟨z, rfl⟩ : ∃ z, n = z + 1 := ⟨n - 1, by omega⟩
          obtain ⟨r, s, a1, a2, a3⟩ := y2 σ h hb hm
          obtain ⟨rfl, a4, a5⟩ := a3
          refine ⟨0, s, ?_, a2.1, rfl, a4, a5⟩
          rw [go8 h h8, a1, Option.bind_some]
          dsimp only
          rw [if_pos rfl]
        · obtain ⟨z, rfl⟩ : ∃ z, n = z + 1 + 1 := ⟨n - 2, by omega⟩
          obtain ⟨s, a1, a2, a3, a4, a5⟩ := y3 σ h hg hb hm
          refine ⟨((l + 1 : Nat) : Int), s, fun k => ?_, a2, a3, a4, a5⟩
          rw [go9 h hg, a1, Option.bind_some, g_X9_text_L33, p9_good0 (by rw [a3]; exact a5), Option.bind_some]
          dsimp only
          rw [if_pos rfl]
      · obtain ⟨g1, g2, g3⟩ := y1
        obtain ⟨x, x1, x2, x3⟩ := ih (N - j1) j1 (l + 1) b1 m1 (by omega) (by omega) (by omega) g1
        refine ⟨x, x1, fun σ h hb hm h8 n hn => ?_, fun σ h hg hb hm n hn => ?_⟩
        · obtain ⟨z, rfl⟩ : ∃ z, n = z + 1 := ⟨n - 1, by omega⟩
          obtain ⟨r, s, a1, a2, a3⟩ := y2 σ h hb hm
          obtain ⟨rfl, a4, a5, a6, a7, a8⟩ := a3
          have e8 : s 8 8 = (l : Int) := by rw [a2.2 8 (by omega)]; exact h8
          obtain ⟨r2, s2, c1, c2, c3⟩ := x2 (up2 s 8 8 ((l + 1 : Nat) : Int)) (a4.fr (fun c x y => up2_o _ _ (by omega)) (up2_ne _ _ (by decide)) (up2_ne _ _ (by decide))) (a5.fr (fun k hk => up2_o _ _ (by omega))) (by rw [up2_ne _ _ (by decide)]; exact a6) (up2_at _ _ _ _) z (by omega)
          refine ⟨r2, s2, ?_, fun a p q => by rw [c2 a p q, up2_o _ _ p]; exact a2.1 a p q, ?_⟩
          · rw [go8 h h8, a1, Option.bind_some]
            dsimp only
            rw [if_neg one0, Option.bind_some, e8, w32s (by omega), c1]
          · rcases x with ⟨cc, p⟩ | ⟨bx, lx⟩
            · exact c3
            · obtain ⟨d1, d2, d3, d4, d5⟩ := c3
              exact ⟨d1, d2, d3, by rw [d4, up2_ne _ _ (by decide)]; exact a7, by rw [d5, up2_ne _ _ (by decide)]; exact a8⟩
        · obtain ⟨z, rfl⟩ : ∃ z, n = z + 1 := ⟨n - 1, by omega⟩
          obtain ⟨s, a1, a2, a3, a4, a5, a6⟩ := y3 σ h hg hb hm
          obtain ⟨v, s2, c1, c2, c3⟩ := x3 s a3 a4 a5 a6 z (by omega)
          refine ⟨v, s2, fun k => ?_, a2.trans c2, c3⟩
          rw [go9 h hg, a1, Option.bind_some, c1]
end TB
