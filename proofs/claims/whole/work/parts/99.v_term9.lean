/-! the reference reads a whole term, by its place -/
section TX
variable {T : Nat → Int} {L N j : Nat} {σ : st_S}
theorem p9_readTerm (ox : okX T L) (hN : sJ T L N = L) (hj : j ≤ N) (h : A9 σ T L j) (hg : σ 596 10 = 0) {s i : Nat} (hs : s < 12) (hi : i ≤ 6) (pr : Int) :
    ∃ σ', g_X9_readTerm (s : Int) (i : Int) pr σ = some σ' ∧ FR (34 + 32 * s + 5 * i) σ σ' ∧ Tm9 T L (34 + 32 * s + 5 * i) σ' (tmS T L N j i pr) := by
  have k12 : kA 12 = -14 := by decide +kernel
  have iw := p9_isWord ox h.1 h.2 hg (k := 12) (by decide)
  rw [k12] at iw
  have iw : g_X9_isWord (-14) σ = some (if k8 T L (sJ T L j) = 1 ∧ v8 T L (sJ T L j) = 12 then 1 else 0, σ) := iw
  have ta := p9_termAt (σ := σ) (s := s) (i := i) hs (by omega)
  by_cases e6 : i < 6
  · obtain ⟨σ', b1, b2, b3⟩ := p9_J50 ox hN hj h hg (y := 34 + 32 * s + 5 * i) (by omega) pr e6
    refine ⟨σ', ?_, b2, b3⟩
    unfold g_X9_readTerm
    rw [ta, Option.bind_some]
    dsimp only
    rw [p9_good1 hg, Option.bind_some]
    dsimp only
    rw [if_neg one0, if_neg (show ¬ (i : Int) = 6 by omega)]
    exact b1
  · have i6 : (i : Int) = 6 := by omega
    have bad : ∀ c : Int, c ≠ 0 → g_X9_readTerm_J43 pr ((34 + 32 * s + 5 * i : Nat) : Int) c σ = some (er σ c (sJ T L j : Int)) := fun c hc => by
      unfold g_X9_readTerm_J43
      rw [p9_errs1 hg, Option.bind_some, h.2.1, p9_J50b (by rw [er10]; exact hc)]
    have st : g_X9_readTerm (s : Int) (i : Int) pr σ = (g_X9_isWord (-14) σ).bind fun q3 => if q3.1 = (0 : Int) then (g_X9_roleHere q3.2).bind fun q4 => if q4.1 = (-1 : Int) then g_X9_readTerm_J43 pr ((34 + 32 * s + 5 * i : Nat) : Int) 1 q4.2 else g_X9_readTerm_J38 pr ((34 + 32 * s + 5 * i : Nat) : Int) q4.2 else g_X9_readTerm_J38 pr ((34 + 32 * s + 5 * i : Nat) : Int) q3.2 := by
      unfold g_X9_readTerm
      rw [ta, Option.bind_some]
      dsimp only
      rw [p9_good1 hg, Option.bind_some]
      dsimp only
      rw [if_neg one0, if_pos i6]
    rw [st, iw, Option.bind_some, tmS_eq]
    unfold g_X9_readTerm_J38
    dsimp only
    by_cases e : isNot T L j
    · rw [if_pos e, if_neg one0, if_neg (fun z => z.1 e), if_pos e6, bad 4 (by decide)]
      exact ⟨_, rfl, (F9r.fl _ _).t, ⟨er10 _ _, er11 _ _, by decide⟩⟩
    · rw [if_neg e, if_pos rfl, p9_roleHere ox h.1 h.2 hg, Option.bind_some]
      dsimp only
      by_cases c : chc T L (sJ T L j) 3 6 = -1
      · rw [if_pos c, if_pos ⟨e, c⟩, bad 1 (by decide)]
        exact ⟨_, rfl, (F9r.fl _ _).t, ⟨er10 _ _, er11 _ _, by decide⟩⟩
      · rw [if_neg c, if_neg (show ¬ (¬ isNot T L j ∧ chc T L (sJ T L j) 3 6 = -1) from fun z => c z.2), if_pos e6, bad 4 (by decide)]
        exact ⟨_, rfl, (F9r.fl _ _).t, ⟨er10 _ _, er11 _ _, by decide⟩⟩
end TX
