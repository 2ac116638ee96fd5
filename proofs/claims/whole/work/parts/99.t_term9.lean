/-! the reference reads a term: the role -/
section TO
variable {T : Nat → Int} {L N j : Nat} {σ : st_S}
theorem p9_J124b (hg : σ 596 10 ≠ 0) (y ro : Int) : g_X9_readTerm_J124 y ro σ = some σ := by
  unfold g_X9_readTerm_J124
  rw [p9_good0 hg, Option.bind_some]
  dsimp only
  rw [if_pos rfl]
theorem p9_J102b (hg : σ 596 10 ≠ 0) (pr y ro : Int) : g_X9_readTerm_J102 pr y ro σ = some σ := by
  unfold g_X9_readTerm_J102
  rw [p9_good0 hg, Option.bind_some]
  dsimp only
  rw [if_pos rfl, p9_J124b hg]
theorem p9_J80 (ox : okX T L) (hN : sJ T L N = L) (hj : j ≤ N) (h : A9 σ T L j) (hg : σ 596 10 = 0) {y : Nat} (hy : y + 4 < 416) (pr ld : Int) :
    ∃ σ', g_X9_readTerm_J80 pr (y : Int) ld ((y + 1 : Nat) : Int) σ = some σ' ∧ FR y σ σ' ∧ Tm9 T L y σ' (if chc T L (sJ T L j) 3 6 = -1 then .inl (1, (sJ T L j : Int)) else if chc T L (sJ T L j) 3 6 < pr then .inl (5, (sJ T L j : Int)) else tmJ (chc T L (sJ T L j) 3 6) ld (tm2 T L N (nxJ N j))) := by
  have A1 := h.up (z := y + 1) ld
  have f1 : FR y σ (up2 σ 598 (y + 1) ld) := FR.up (by omega) _
  have e1 : up2 σ 598 (y + 1) ld 596 = σ 596 := up2_o _ _ (by decide)
  have v1 : up2 σ 598 (y + 1) ld 598 (y + 1) = ld := up2_at _ _ _ _
  have st : g_X9_readTerm_J80 pr (y : Int) ld ((y + 1 : Nat) : Int) σ = (g_X9_roleHere (up2 σ 598 (y + 1) ld)).bind fun q1 => if q1.1 = (-1 : Int) then (g_X9_errs (1 : Int) (q1.2 596 7) q1.2).bind fun q2 => g_X9_readTerm_J102 pr (y : Int) q1.1 q2 else g_X9_readTerm_J102 pr (y : Int) q1.1 q1.2 := by
    unfold g_X9_readTerm_J80
    rw [sa_st_of (by omega) (by omega), Option.bind_some, Int.toNat_natCast]
  rw [st]
  generalize up2 σ 598 (y + 1) ld = s1 at *
  have g1 : s1 596 10 = 0 := by rw [e1]; exact hg
  rw [p9_roleHere ox A1.1 A1.2 g1, Option.bind_some]
  dsimp only
  by_cases e : chc T L (sJ T L j) 3 6 = -1
  · rw [if_pos e, if_pos e, p9_errs1 g1, Option.bind_some, A1.2.1, p9_J102b (by rw [er10]; decide)]
    exact ⟨_, rfl, f1.trans (F9r.fl _ _).t, ⟨er10 _ _, er11 _ _, by decide⟩⟩
  · rw [if_neg e, if_neg e]
    unfold g_X9_readTerm_J102
    rw [p9_good1 g1, Option.bind_some]
    dsimp only
    rw [if_neg one0]
    by_cases e3 : chc T L (sJ T L j) 3 6 < pr
    · rw [if_neg (by omega), if_pos e3, p9_errs1 g1, Option.bind_some, A1.2.1, p9_J124b (by rw [er10]; decide)]
      exact ⟨_, rfl, f1.trans (F9r.fl _ _).t, ⟨er10 _ _, er11 _ _, by decide⟩⟩
    · rw [if_pos (by omega), if_neg e3]
      obtain ⟨σ', a1, a2, a3⟩ := p9_J124 ox hN hj A1 g1 hy (chc T L (sJ T L j) 3 6) v1
      exact ⟨σ', a1, f1.trans a2, a3⟩
end TO
