/-! a whole term, on both sides -/
section TW
variable {T : Nat → Int} {L N j : Nat} {σ : st_S}
theorem p4_J59 {s i : Nat} (hs : s < 12) (hi : i < 6) (h : Cu8 σ T L N j) {pr ld : Int} (hld : ld = 0 ∨ ld = 1) (hpr : i = 0 ∧ pr = 0 ∨ 0 < i ∧ σ 27 (6 * s + i - 1) = pr) :
    ∃ r σ', g_X4_readTerm_J59 24 (s : Int) (i : Int) ld σ = some (r, σ') ∧ FT (6 * s + i) σ σ' ∧ Tm8 T L N (6 * s + i) σ σ' r (if chc T L (sJ T L j) 3 6 = -1 then .inl (1, (sJ T L j : Int)) else if chc T L (sJ T L j) 3 6 < pr then .inl (5, (sJ T L j : Int)) else tmJ (chc T L (sJ T L j) 3 6) ld (tm2 T L N (nxJ N j))) := by
  have ch : g_X4_choice 3 6 σ = some (chc T L (sJ T L j) 3 6, σ) := p4_choice h (a := 3) (c := 6) (by decide) (by decide)
  have ix : ab_w32 (ab_w32 ((s : Int) * 6) + (i : Int)) = ((6 * s + i : Nat) : Int) := by rw [w32i (x := (s : Int) * 6) (by omega) (by omega), w32i (by omega) (by omega)]; omega
  have ci : chc T L (sJ T L j) 3 6 = -1 ∨ 0 ≤ chc T L (sJ T L j) 3 6 := by unfold chc; split <;> omega
  unfold g_X4_readTerm_J59
  rw [ch, Option.bind_some]
  dsimp only
  by_cases e : chc T L (sJ T L j) 3 6 = -1
  · rw [if_pos e, if_pos e]
    exact ⟨0, e8 σ 1 (sJ T L j : Int), by rw [p4_fail h]; rfl, (Fd8.fl _ _).t, ⟨rfl, (e89 _ _).1, (e89 _ _).2⟩⟩
  · rw [if_neg e, if_neg e, ix]
    obtain ⟨r, σ', b1, b2, b3⟩ := p4_J112 (x := 6 * s + i) (by omega) h (chc T L (sJ T L j) 3 6) hld
    rcases hpr with ⟨rfl, rfl⟩ | ⟨h0, hp⟩
    · rw [if_pos (by omega), if_neg (show ¬ chc T L (sJ T L j) 3 6 < 0 by omega)]
      exact ⟨r, σ', b1, b2, b3⟩
    · have i1 : ab_w32 (((6 * s + i : Nat) : Int) - 1) = ((6 * s + i - 1 : Nat) : Int) := by rw [w32i (by omega) (by omega)]; omega
      rw [if_neg (by omega), i1]
      simp only [Nat.reduceAdd]
      rw [sa_ld_of (by omega) (by omega), Option.bind_some, Int.toNat_natCast, hp]
      by_cases e3 : chc T L (sJ T L j) 3 6 < pr
      · rw [if_neg (by omega), if_pos e3]
        exact ⟨0, e8 σ 5 (sJ T L j : Int), by rw [p4_fail h]; rfl, (Fd8.fl _ _).t, ⟨rfl, (e89 _ _).1, (e89 _ _).2⟩⟩
      · rw [if_pos (by omega), if_neg e3]
        exact ⟨r, σ', b1, b2, b3⟩
theorem tmS_eq (j i : Nat) (pr : Int) : tmS T L N j i pr = if ¬ isNot T L j ∧ chc T L (sJ T L j) 3 6 = -1 then .inl (1, (sJ T L j : Int)) else if ¬ i < 6 then .inl (4, (sJ T L j : Int)) else if chc T L (sJ T L (if isNot T L j then nxJ N j else j)) 3 6 = -1 then .inl (1, (sJ T L (if isNot T L j then nxJ N j else j) : Int)) else if chc T L (sJ T L (if isNot T L j then nxJ N j else j)) 3 6 < pr then .inl (5, (sJ T L (if isNot T L j then nxJ N j else j) : Int)) else tmJ (chc T L (sJ T L (if isNot T L j then nxJ N j else j)) 3 6) (if isNot T L j then 0 else 1) (tm2 T L N (nxJ N (if isNot T L j then nxJ N j else j))) := by
  unfold tmS tmJ
  rcases tm2 T L N (nxJ N (if isNot T L j then nxJ N j else j)) with ⟨c, p⟩ | ⟨a, b, c, d⟩ <;> rfl
theorem p4_readTerm {s i : Nat} (hs : s < 12) (hi : i ≤ 6) (h : Cu8 σ T L N j) {pr : Int} (hpr : i = 0 ∧ pr = 0 ∨ 0 < i ∧ σ 27 (6 * s + i - 1) = pr) :
    ∃ r σ', g_X4_readTerm 24 (s : Int) (i : Int) σ = some (r, σ') ∧ FT (6 * s + i) σ σ' ∧ Tm8 T L N (6 * s + i) σ σ' r (tmS T L N j i pr) := by
  have ch : g_X4_choice 3 6 σ = some (chc T L (sJ T L j) 3 6, σ) := p4_choice h (a := 3) (c := 6) (by decide) (by decide)
  rw [tmS_eq]
  unfold g_X4_readTerm
  rw [p4_isKey h, Option.bind_some]
  dsimp only
  by_cases e : isNot T L j
  · have e' : k8 T L (sJ T L j) = 1 ∧ v8 T L (sJ T L j) = 12 := e
    rw [if_pos e', if_neg one0, if_neg (fun z => z.1 e), if_pos e, if_pos e]
    unfold g_X4_readTerm_J14 g_X4_readTerm_J38
    rw [if_pos rfl]
    by_cases e6 : i < 6
    · obtain ⟨s1, a1, a2, a3, a4⟩ := p4_step h
      obtain ⟨r, σ', b1, b2, b3⟩ := p4_J59 (pr := pr) hs e6 a2 (Or.inl rfl) (by rw [a3 27 (by decide)]; exact hpr)
      rw [if_pos (by omega), if_pos rfl, a1, Option.bind_some, if_neg (by omega)]
      refine ⟨r, σ', b1, (Fd8.s5 a3 a4).t.trans b2, ?_⟩
      revert b3
      rcases (if chc T L (sJ T L (nxJ N j)) 3 6 = -1 then (Sum.inl (1, (sJ T L (nxJ N j) : Int)) : RS (Nat × Int × Int × Int × Int × Int)) else if chc T L (sJ T L (nxJ N j)) 3 6 < pr then .inl (5, (sJ T L (nxJ N j) : Int)) else tmJ (chc T L (sJ T L (nxJ N j)) 3 6) 0 (tm2 T L N (nxJ N (nxJ N j)))) with ⟨c, p⟩ | ⟨j', y1, y2, y3, y4, y5⟩
      · exact fun b3 => b3
      · rintro ⟨c1, c2, c3, c4, c5, c6, c7, c8, c9⟩
        exact ⟨c1, c2, c3, c4, c5, c6, c7, by rw [c8, a4 9 (by decide)], by rw [c9, a4 10 (by decide)]⟩
    · rw [if_neg (by omega), if_pos e6]
      exact ⟨0, e8 σ 4 (sJ T L j : Int), by rw [p4_fail h]; rfl, (Fd8.fl _ _).t, ⟨rfl, (e89 _ _).1, (e89 _ _).2⟩⟩
  · have e' : ¬ (k8 T L (sJ T L j) = 1 ∧ v8 T L (sJ T L j) = 12) := e
    rw [if_neg e', if_pos rfl, if_neg e, if_neg e]
    unfold g_X4_readTerm_J14 g_X4_readTerm_J38
    rw [if_neg one0, ch, Option.bind_some]
    dsimp only
    by_cases e1 : chc T L (sJ T L j) 3 6 = -1
    · rw [if_pos e1, if_pos ⟨e, e1⟩]
      exact ⟨0, e8 σ 1 (sJ T L j : Int), by rw [p4_fail h]; rfl, (Fd8.fl _ _).t, ⟨rfl, (e89 _ _).1, (e89 _ _).2⟩⟩
    · rw [if_neg e1, if_neg (show ¬ (¬ isNot T L j ∧ chc T L (sJ T L j) 3 6 = -1) from fun z => e1 z.2)]
      by_cases e6 : i < 6
      · obtain ⟨r, σ', b1, b2, b3⟩ := p4_J59 (pr := pr) hs e6 h (Or.inr rfl) hpr
        rw [if_pos (show (i : Int) < 6 by omega), if_neg one0, if_neg (show ¬ ¬ i < 6 by omega)]
        exact ⟨r, σ', b1, b2, b3⟩
      · rw [if_neg (show ¬ (i : Int) < 6 by omega), if_pos e6]
        exact ⟨0, e8 σ 4 (sJ T L j : Int), by rw [p4_fail h]; rfl, (Fd8.fl _ _).t, ⟨rfl, (e89 _ _).1, (e89 _ _).2⟩⟩
/-! the reference -/
def FR (y : Nat) (σ σ' : st_S) : Prop := (∀ c, c ≠ 596 → c ≠ 598 → σ' c = σ c) ∧ (∀ z, (z < y ∨ y + 4 < z) → σ' 598 z = σ 598 z) ∧ ∀ f, (f < 6 ∨ 11 < f) → σ' 596 f = σ 596 f
theorem FR.trans {y : Nat} {σ σ1 σ2 : st_S} (h : FR y σ σ1) (h2 : FR y σ1 σ2) : FR y σ σ2 := ⟨fun c a b => by rw [h2.1 c a b, h.1 c a b], fun z a => by rw [h2.2.1 z a, h.2.1 z a], fun f a => by rw [h2.2.2 f a, h.2.2 f a]⟩
theorem F9r.t {y : Nat} {σ σ' : st_S} (h : F9r σ σ') : FR y σ σ' := ⟨fun c a _ => h.1 c a, fun z _ => by rw [h.1 598 (by decide)], h.2⟩
theorem FR.up {y z : Nat} {σ : st_S} (hz : y ≤ z ∧ z ≤ y + 4) (v : Int) : FR y σ (up2 σ 598 z v) := ⟨fun c _ b => up2_o _ _ b, fun w hw => up2_ne _ _ (fun q => by have := q.2; omega), fun f _ => by rw [up2_o _ _ (by decide)]⟩
theorem A9.up (h : A9 σ T L j) {z : Nat} (v : Int) : A9 (up2 σ 598 z v) T L j := by
  have e : up2 σ 598 z v 596 = σ 596 := up2_o _ _ (by decide)
  obtain ⟨⟨h1, h2⟩, h3⟩ := h
  refine ⟨⟨by rw [e]; exact h1, fun i hi => by rw [up2_o _ _ (by decide)]; exact h2 i hi⟩, ?_⟩
  unfold At9 at h3 ⊢
  rw [e]; exact h3
def Tm9 (T : Nat → Int) (L y : Nat) (σ' : st_S) : RS (Nat × Int × Int × Int × Int × Int) → Prop
  | .inl (c, p) => σ' 596 10 = c ∧ σ' 596 11 = p ∧ c ≠ 0
  | .inr (j', ro, ld, nm, vi, bk) => A9 σ' T L j' ∧ σ' 596 10 = 0 ∧ σ' 598 y = ro ∧ σ' 598 (y + 1) = ld ∧ σ' 598 (y + 2) = nm ∧ σ' 598 (y + 3) = vi ∧ σ' 598 (y + 4) = bk
theorem w32y {y k : Nat} (h : y < 1000) (hk : k ≤ 4) : ab_w32 ((y : Int) + (k : Int)) = ((y + k : Nat) : Int) := by rw [w32i (by omega) (by omega)]; omega
/-- back, behind all else -/
theorem p9_J186 (ox : okX T L) (hN : sJ T L N = L) {y : Nat} (hy : y + 4 < 416) (x : Int) : (∀ {j}, j ≤ N → A9 σ T L j → σ 596 10 = 0 → ∃ bk σ', g_X9_readTerm_J186 (y : Int) x ((y + 3 : Nat) : Int) σ = some (up2 σ' 598 (y + 4) bk) ∧ F9r (up2 σ 598 (y + 3) x) σ' ∧ Jn9 T L σ' bk (jn T L N 14 j)) ∧
    (σ 596 10 ≠ 0 → g_X9_readTerm_J186 (y : Int) x ((y + 3 : Nat) : Int) σ = some (up2 (up2 σ 598 (y + 3) x) 598 (y + 4) 0)) := by
  have w4 : ab_w32 ((y : Int) + 4) = ((y + 4 : Nat) : Int) := w32y (k := 4) (by omega) (by decide)
  have e : up2 σ 598 (y + 3) x 596 = σ 596 := up2_o _ _ (by decide)
  have st : g_X9_readTerm_J186 (y : Int) x ((y + 3 : Nat) : Int) σ = ((g_X9_eats (kA 14) (up2 σ 598 (y + 3) x)).bind fun q4 => if q4.1 = (0 : Int) then (fun (bk : Int) (σ : st_S) => (sa_st σ 598 416 ((y + 4 : Nat) : Int) bk).bind fun σ2 => some σ2) 0 q4.2 else (g_X9_wordRead q4.2).bind fun q5 => (fun (bk : Int) (σ : st_S) => (sa_st σ 598 416 ((y + 4 : Nat) : Int) bk).bind fun σ2 => some σ2) q5.1 q5.2) := by
    unfold g_X9_readTerm_J186
    rw [sa_st_of (by omega) (by omega), Option.bind_some, Int.toNat_natCast, w4]; rfl
  constructor
  · intro j hj h hg
    obtain ⟨bk, σ', a1, a2, a3⟩ := p9_join ox hN hj (h.up (z := y + 3) x) (by rw [e]; exact hg) (k := 14) (by decide)
    refine ⟨bk, σ', ?_, a2, a3⟩
    rw [st, a1 (fun (bk : Int) (σ : st_S) => (sa_st σ 598 416 ((y + 4 : Nat) : Int) bk).bind fun σ2 => some σ2), sa_st_of (by omega) (by omega), Option.bind_some, Int.toNat_natCast]
  · intro hg
    rw [st, p9_join0 (by rw [e]; exact hg) (k := 14) (by decide) (fun (bk : Int) (σ : st_S) => (sa_st σ 598 416 ((y + 4 : Nat) : Int) bk).bind fun σ2 => some σ2), sa_st_of (by omega) (by omega), Option.bind_some, Int.toNat_natCast]
end TW
