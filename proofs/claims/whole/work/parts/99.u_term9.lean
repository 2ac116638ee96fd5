/-! the reference reads a whole term -/
section TV
variable {T : Nat → Int} {L N j : Nat} {σ : st_S}
theorem p9_J50b (hg : σ 596 10 ≠ 0) (pr y : Int) : g_X9_readTerm_J50 pr y σ = some σ := by
  unfold g_X9_readTerm_J50
  rw [p9_good0 hg, Option.bind_some]
  dsimp only
  rw [if_pos rfl]
theorem p9_J50 (ox : okX T L) (hN : sJ T L N = L) (hj : j ≤ N) (h : A9 σ T L j) (hg : σ 596 10 = 0) {y : Nat} (hy : y + 4 < 416) (pr : Int) {i : Nat} (hi : i < 6) :
    ∃ σ', g_X9_readTerm_J50 pr (y : Int) σ = some σ' ∧ FR y σ σ' ∧ Tm9 T L y σ' (tmS T L N j i pr) := by
  have k12 : kA 12 = -14 := by decide +kernel
  have st : g_X9_readTerm_J50 pr (y : Int) σ = (g_X9_eats (-14) σ).bind fun q2 => if q2.1 = (0 : Int) then g_X9_readTerm_J80 pr (y : Int) 1 ((y + 1 : Nat) : Int) q2.2 else g_X9_readTerm_J80 pr (y : Int) 0 ((y + 1 : Nat) : Int) q2.2 := by
    have w1 : ab_w32 ((y : Int) + 1) = ((y + 1 : Nat) : Int) := w32s (by omega)
    unfold g_X9_readTerm_J50
    rw [p9_good1 hg, Option.bind_some]
    simp only [w1]
    rw [if_neg one0]
  rw [st, tmS_eq]
  have ea := p9_eats ox hN hj h hg (k := 12) (by decide)
  rw [k12] at ea
  by_cases e : isNot T L j
  · rcases ea with ⟨e1, e2, s1, a1, a2, a3⟩ | ⟨e1, a1⟩
    · obtain ⟨σ', b1, b2, b3⟩ := p9_J80 ox hN (nx_le hj) a2 (by rw [a3.2 10 (by omega)]; exact hg) hy pr 0
      rw [a1, Option.bind_some]
      dsimp only
      rw [if_neg one0, if_neg (fun z => z.1 e), if_neg (show ¬ ¬ i < 6 by omega), if_pos e, if_pos e]
      exact ⟨σ', b1, a3.r.t.trans b2, b3⟩
    · exact absurd e e1
  · rcases ea with ⟨e1, e2, s1, a1, a2, a3⟩ | ⟨e1, a1⟩
    · exact absurd ⟨e1, e2⟩ e
    · obtain ⟨σ', b1, b2, b3⟩ := p9_J80 ox hN hj h hg hy pr 1
      rw [a1, Option.bind_some]
      dsimp only
      rw [if_pos rfl, if_neg e, if_neg e]
      refine ⟨σ', b1, b2, ?_⟩
      by_cases c : chc T L (sJ T L j) 3 6 = -1
      · rw [if_pos c] at b3
        rw [if_pos ⟨e, c⟩]; exact b3
      · rw [if_neg (show ¬ (¬ isNot T L j ∧ chc T L (sJ T L j) 3 6 = -1) from fun z => c z.2), if_neg (show ¬ ¬ i < 6 by omega)]; exact b3
end TV
