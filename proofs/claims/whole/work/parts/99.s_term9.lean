/-! the reference reads a term -/
section TN
variable {T : Nat → Int} {L N j : Nat} {σ : st_S}
theorem jn_le {key : Int} (hj : j ≤ N) {x : Int} {j' : Nat} (h : jn T L N key j = .inr (x, j')) : j' ≤ N := by
  unfold jn at h
  by_cases e : k8 T L (sJ T L j) = 1 ∧ v8 T L (sJ T L j) = key
  · rw [if_pos e] at h
    by_cases e2 : k8 T L (sJ T L (nxJ N j)) = 2
    · rw [if_pos e2] at h
      injection h with h
      injection h with _ h
      rw [← h]; exact nx_le (nx_le hj)
    · rw [if_neg e2] at h; injection h
  · rw [if_neg e] at h
    injection h with h
    injection h with _ h
    omega
theorem p9_J124 (ox : okX T L) (hN : sJ T L N = L) (hj : j ≤ N) (h : A9 σ T L j) (hg : σ 596 10 = 0) {y : Nat} (hy : y + 4 < 416) (ro : Int) {ld : Int} (h1 : σ 598 (y + 1) = ld) :
    ∃ σ', g_X9_readTerm_J124 (y : Int) ro σ = some σ' ∧ FR y σ σ' ∧ Tm9 T L y σ' (tmJ ro ld (tm2 T L N (nxJ N j))) := by
  obtain ⟨s1, a1, a2, a3⟩ := p9_goes ox hN hj h
  have g1 : s1 596 10 = 0 := by rw [a3.2 10 (by omega)]; exact hg
  have k13 : kA 13 = -15 := by decide +kernel
  have e3 : sa_st s1 598 416 (y : Int) ro = some (up2 s1 598 y ro) := by rw [sa_st_of (by omega) (by omega), Int.toNat_natCast]
  have hy' : y < 1000 := by omega
  have st : g_X9_readTerm_J124 (y : Int) ro σ = (g_X9_wordRead (up2 s1 598 y ro)).bind fun q3 => (sa_st q3.2 598 416 ((y + 2 : Nat) : Int) q3.1).bind fun σ2 => ((g_X9_eats (kA 13) σ2).bind fun q4 => if q4.1 = (0 : Int) then (fun (x : Int) (σ : st_S) => g_X9_readTerm_J186 (y : Int) x ((y + 3 : Nat) : Int) σ) 0 q4.2 else (g_X9_wordRead q4.2).bind fun q5 => (fun (x : Int) (σ : st_S) => g_X9_readTerm_J186 (y : Int) x ((y + 3 : Nat) : Int) σ) q5.1 q5.2) := by
    have w0 : ab_w32 ((y : Int) + 0) = (y : Int) := by rw [Int.add_zero, w32i (by omega) (by omega)]
    have w2 : ab_w32 ((y : Int) + 2) = ((y + 2 : Nat) : Int) := w32y (k := 2) hy' (by decide)
    have w3 : ab_w32 ((y : Int) + 3) = ((y + 3 : Nat) : Int) := w32y (k := 3) hy' (by decide)
    unfold g_X9_readTerm_J124
    rw [p9_good1 hg, Option.bind_some]
    simp only [w0, w2, w3]
    rw [if_neg one0, a1, Option.bind_some, e3, Option.bind_some, k13]
  have o2 : ∀ c, c ≠ 598 → up2 s1 598 y ro c = s1 c := fun c hc => up2_o _ _ hc
  have g2 : up2 s1 598 y ro 596 10 = 0 := by rw [o2 596 (by decide)]; exact g1
  have A2 : A9 (up2 s1 598 y ro) T L (nxJ N j) := a2.up ro
  have f2 : FR y σ (up2 s1 598 y ro) := a3.r.t.trans (FR.up (by omega) _)
  have v0 : up2 s1 598 y ro 598 y = ro := up2_at _ _ _ _
  have v1 : up2 s1 598 y ro 598 (y + 1) = ld := by rw [up2_ne _ _ (by omega), a3.1 598 (by decide)]; exact h1
  rw [st]
  generalize up2 s1 598 y ro = s2 at *
  unfold tm2
  rcases p9_wordRead ox hN (nx_le hj) A2 g2 with ⟨e2, s3, b1, b2, b3⟩ | ⟨e2, b1⟩
  · rw [if_pos e2, b1, Option.bind_some]
    dsimp only
    rw [sa_st_of (by omega) (by omega), Option.bind_some, Int.toNat_natCast]
    have o4 : ∀ c, c ≠ 598 → up2 s3 598 (y + 2) (v8 T L (sJ T L (nxJ N j))) c = s3 c := fun c hc => up2_o _ _ hc
    have g4 : up2 s3 598 (y + 2) (v8 T L (sJ T L (nxJ N j))) 596 10 = 0 := by rw [o4 596 (by decide), b3.2 10 (by omega)]; exact g2
    have A4 := b2.up (z := y + 2) (v8 T L (sJ T L (nxJ N j)))
    have f4 : FR y σ (up2 s3 598 (y + 2) (v8 T L (sJ T L (nxJ N j)))) := (f2.trans b3.r.t).trans (FR.up (by omega) _)
    have u0 : up2 s3 598 (y + 2) (v8 T L (sJ T L (nxJ N j))) 598 y = ro := by rw [up2_ne _ _ (by omega), b3.1 598 (by decide)]; exact v0
    have u1 : up2 s3 598 (y + 2) (v8 T L (sJ T L (nxJ N j))) 598 (y + 1) = ld := by rw [up2_ne _ _ (by omega), b3.1 598 (by decide)]; exact v1
    have u2 : up2 s3 598 (y + 2) (v8 T L (sJ T L (nxJ N j))) 598 (y + 2) = v8 T L (sJ T L (nxJ N j)) := up2_at _ _ _ _
    generalize up2 s3 598 (y + 2) (v8 T L (sJ T L (nxJ N j))) = s4 at *
    obtain ⟨x, s5, c1, c2, c3⟩ := p9_join ox hN (nx_le (nx_le hj)) A4 g4 (k := 13) (by decide)
    rw [c1 (fun (x : Int) (σ : st_S) => g_X9_readTerm_J186 (y : Int) x ((y + 3 : Nat) : Int) σ)]
    have j186 := p9_J186 (σ := s5) ox hN hy x
    have c3 : Jn9 T L s5 x (jn T L N 13 (nxJ N (nxJ N j))) := c3
    rcases hj1 : jn T L N 13 (nxJ N (nxJ N j)) with ⟨c, p⟩ | ⟨via, j3⟩
    · rw [hj1] at c3
      obtain ⟨d1, d2, d3⟩ := c3
      refine ⟨_, j186.2 (by rw [d1]; exact d3), ((f4.trans c2.t).trans (FR.up (by omega) _)).trans (FR.up (by omega) _), ⟨by rw [up2_o _ _ (by decide), up2_o _ _ (by decide)]; exact d1, by rw [up2_o _ _ (by decide), up2_o _ _ (by decide)]; exact d2, d3⟩⟩
    · rw [hj1] at c3
      obtain ⟨rfl, d2, d3⟩ := c3
      have hj3 := jn_le (nx_le (nx_le hj)) hj1
      obtain ⟨bk, s6, k1, k2, k3⟩ := j186.1 hj3 d2 d3
      have f6 : FR y σ (up2 s6 598 (y + 4) bk) := (((f4.trans c2.t).trans (FR.up (by omega) _)).trans k2.t).trans (FR.up (by omega) _)
      refine ⟨_, k1, f6, ?_⟩
      have r6 : ∀ z, z ≠ y + 3 → z ≠ y + 4 → up2 s6 598 (y + 4) bk 598 z = s4 598 z := fun z z1 z2 => by rw [up2_ne _ _ (fun q => z2 q.2), k2.1 598 (by decide), up2_ne _ _ (fun q => z1 q.2), c2.1 598 (by decide)]
      rcases hj2 : jn T L N 14 j3 with ⟨c, p⟩ | ⟨back, j4⟩
      · rw [hj2] at k3
        obtain ⟨m1, m2, m3⟩ := k3
        simp only [hj2, tmJ]
        exact ⟨by rw [up2_o _ _ (by decide)]; exact m1, by rw [up2_o _ _ (by decide)]; exact m2, m3⟩
      · rw [hj2] at k3
        obtain ⟨rfl, m2, m3⟩ := k3
        simp only [hj2, tmJ]
        exact ⟨m2.up _, by rw [up2_o _ _ (by decide)]; exact m3, by rw [r6 _ (by omega) (by omega)]; exact u0, by rw [r6 _ (by omega) (by omega)]; exact u1, by rw [r6 _ (by omega) (by omega)]; exact u2, by rw [up2_ne _ _ (by omega), k2.1 598 (by decide), up2_at], up2_at _ _ _ _⟩
  · rw [if_neg e2, b1, Option.bind_some]
    dsimp only
    rw [sa_st_of (by omega) (by omega), Option.bind_some, Int.toNat_natCast]
    have e10 : up2 (er s2 1 (sJ T L (nxJ N j) : Int)) 598 (y + 2) 0 596 10 = 1 := by rw [up2_o _ _ (by decide), er10]
    rw [p9_join0 (by rw [e10]; decide) (k := 13) (by decide) (fun (x : Int) (σ : st_S) => g_X9_readTerm_J186 (y : Int) x ((y + 3 : Nat) : Int) σ)]
    refine ⟨_, (p9_J186 ox hN hy 0).2 (by rw [e10]; decide), (((f2.trans (F9r.fl _ _).t).trans (FR.up (by omega) _)).trans (FR.up (by omega) _)).trans (FR.up (by omega) _), ⟨?_, ?_, by decide⟩⟩
    · rw [up2_o _ _ (by decide), up2_o _ _ (by decide), up2_o _ _ (by decide), er10]
    · rw [up2_o _ _ (by decide), up2_o _ _ (by decide), up2_o _ _ (by decide), er11]
end TN
