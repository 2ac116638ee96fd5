/-! reading the book: the reference's row, the class's rows -/
theorem w32s {i : Nat} (h : i < 2147483647) : ab_w32 ((i : Int) + 1) = ((i + 1 : Nat) : Int) := by unfold ab_w32; omega
theorem w32p {i : Nat} (h : i < 2147483647) : ab_w32 (((i + 1 : Nat) : Int) - 1) = (i : Int) := by unfold ab_w32; omega
theorem w32q {i : Nat} (h : i < 2147483647) : ab_w32 (((i + 1 : Nat) : Int) + -1) = (i : Int) := by unfold ab_w32; omega
section RD
variable {σ : st_S} {b : BV}
theorem p9_strings (h : RB9 σ 597 0 b) (ok : OkB b) : g_X9_strings σ = some ((bn b : Int), σ) := by
  unfold g_X9_strings
  rw [sa_ld_of (by decide) (by decide), Option.bind_some]
  have e : σ 597 (0 : Int).toNat = (bn b : Int) := h.1
  have := ok.1
  rw [e, w32i (by omega) (by omega)]
theorem p9_sees (h : RB9 σ 597 0 b) (ok : OkB b) : g_X9_sees σ = some ((bm b : Int), σ) := by
  unfold g_X9_sees
  rw [sa_ld_of (by decide) (by decide), Option.bind_some]
  have e : σ 597 (1 : Int).toNat = (bm b : Int) := h.2.2.2.2.1
  have := ok.2.2.2.2.2.2.1
  rw [e, w32i (by omega) (by omega)]
theorem p9_addressOf (h : RB9 σ 597 0 b) (ok : OkB b) {s : Nat} (hs : s < bn b) : g_X9_addressOf (s : Int) σ = some (badr b s, σ) := by
  have o1 := ok.1
  have o2 := ok.2.1 s hs
  unfold g_X9_addressOf
  have e : ab_w32 ((32 : Int) + (ab_w32 ((32 : Int) * (s : Int)))) = ((0 + 32 + 32 * s : Nat) : Int) := by unfold ab_w32; omega
  rw [e, sa_ld_of (by omega) (by omega), Option.bind_some, Int.toNat_natCast, (h.2.1 s hs).1, w32i (by omega) (by omega)]
theorem p9_terms (h : RB9 σ 597 0 b) (ok : OkB b) {s : Nat} (hs : s < bn b) : g_X9_terms (s : Int) σ = some ((bsz b s : Int), σ) := by
  have o1 := ok.1
  have o2 := ok.2.1 s hs
  unfold g_X9_terms
  have e : ab_w32 ((ab_w32 ((32 : Int) + (ab_w32 ((32 : Int) * (s : Int))))) + (1 : Int)) = ((0 + 33 + 32 * s : Nat) : Int) := by unfold ab_w32; omega
  rw [e, sa_ld_of (by omega) (by omega), Option.bind_some, Int.toNat_natCast, (h.2.1 s hs).2, w32i (by omega) (by omega)]
theorem p9_termAt {s i : Nat} (hs : s < 12) (hi : i < 7) : g_X9_termAt (s : Int) (i : Int) σ = some (((34 + 32 * s + 5 * i : Nat) : Int), σ) := by
  unfold g_X9_termAt
  refine congrArg some (Prod.ext ?_ rfl)
  show ab_w32 _ = _
  unfold ab_w32; omega
theorem p9_roleOf (h : RB9 σ 597 0 b) (ok : OkB b) {s i : Nat} (hs : s < bn b) (hi : i < bsz b s) : g_X9_roleOf (s : Int) (i : Int) σ = some (btm b 0 s i, σ) := by
  have o1 := ok.1
  have o2 := ok.2.1 s hs
  have o4 := (ok.2.2.2.1 s hs i hi).1
  unfold g_X9_roleOf
  rw [p9_termAt (by omega) (by omega), Option.bind_some]
  dsimp only
  have e : ab_w32 (((34 + 32 * s + 5 * i : Nat) : Int) + 0) = ((0 + 34 + 32 * s + 5 * i + 0 : Nat) : Int) := by unfold ab_w32; omega
  rw [e, sa_ld_of (by omega) (by omega), Option.bind_some, Int.toNat_natCast, h.2.2.1 s hs i hi 0 (by decide), w32i (by omega) (by omega)]
theorem p9_doesLead (h : RB9 σ 597 0 b) (ok : OkB b) {s i : Nat} (hs : s < bn b) (hi : i < bsz b s) : g_X9_doesLead (s : Int) (i : Int) σ = some (btm b 1 s i, σ) := by
  have o1 := ok.1
  have o2 := ok.2.1 s hs
  have o4 := (ok.2.2.2.1 s hs i hi).2.1
  unfold g_X9_doesLead
  rw [p9_termAt (by omega) (by omega), Option.bind_some]
  dsimp only
  have e : ab_w32 (((34 + 32 * s + 5 * i : Nat) : Int) + 1) = ((0 + 34 + 32 * s + 5 * i + 1 : Nat) : Int) := by unfold ab_w32; omega
  rw [e, sa_ld_of (by omega) (by omega), Option.bind_some, Int.toNat_natCast, h.2.2.1 s hs i hi 1 (by decide)]
  rcases o4 with q | q <;> rw [q]
  · rw [if_neg (fun z => by have := cmp_eq.mp z; omega)]
  · rw [if_pos (cmp_eq.mpr rfl)]
theorem p9_isString (h : RB9 σ 597 0 b) (ok : OkB b) (s : Int) : g_X9_isString s σ = some (if 0 ≤ s ∧ s < (bn b : Int) then 1 else 0, σ) := by
  have o1 := ok.1
  unfold g_X9_isString
  rw [p9_strings h ok, Option.bind_some]
  dsimp only
  rw [w32i (by omega) (by omega)]
  by_cases hs : 0 ≤ s ∧ s < (bn b : Int)
  · rw [p9_in1 hs.1 (by omega), if_pos hs]; rfl
  · rw [p9_in0 (by omega), if_neg hs]; rfl
theorem p8_isString (h : RB8 σ 13 b) (s : Int) : g_X8_isString s σ = some (if 0 ≤ s ∧ s < (bn b : Int) then 1 else 0, σ) := by
  unfold g_X8_isString g_X8_isString_J19
  rw [h.1]
  by_cases h0 : s < 0
  · rw [if_pos h0, if_neg (by omega)]
  · rw [if_neg h0]
    by_cases h1 : (bn b : Int) ≤ s
    · rw [if_pos h1, if_neg (by omega)]
    · rw [if_neg h1, if_pos (by omega)]
theorem p8_isTerm (h : RB8 σ 13 b) (ok : OkB b) (s i : Int) : g_X8_isTerm s i σ = some (if (0 ≤ s ∧ s < (bn b : Int)) ∧ 0 ≤ i ∧ i < (bsz b s.toNat : Int) then 1 else 0, σ) := by
  have o1 := ok.1
  have r2 : ∀ s, s < bn b → σ 15 s = (bsz b s : Int) := fun s hs => (h.2.1 s hs).2
  unfold g_X8_isTerm g_X8_isTerm_J29
  rw [p8_isString h]
  by_cases hs : 0 ≤ s ∧ s < (bn b : Int)
  · repeat (first | rw [Option.bind_some] | dsimp only | rw [r2 _ (by omega)] | rw [Int.toNat_natCast] | rw [w32s (by omega)] | rw [w32p (by omega)] | rw [w32q (by omega)] | rw [w32i (by omega) (by omega)] | rw [sa_ld_of (by omega) (by omega)] | rw [sa_st_of (by omega) (by omega)] | rw [if_pos (by omega)] | rw [if_neg (by omega)] | rw [if_neg one0] | rw [if_pos rfl])
    split <;> repeat (first | rw [Option.bind_some] | dsimp only | rw [Int.toNat_natCast] | rw [w32s (by omega)] | rw [w32p (by omega)] | rw [w32q (by omega)] | rw [w32i (by omega) (by omega)] | rw [sa_ld_of (by omega) (by omega)] | rw [sa_st_of (by omega) (by omega)] | rw [if_pos (by omega)] | rw [if_neg (by omega)] | rw [if_neg one0] | rw [if_pos rfl])
    split <;> repeat (first | rw [Option.bind_some] | dsimp only | rw [Int.toNat_natCast] | rw [w32s (by omega)] | rw [w32p (by omega)] | rw [w32q (by omega)] | rw [w32i (by omega) (by omega)] | rw [sa_ld_of (by omega) (by omega)] | rw [sa_st_of (by omega) (by omega)] | rw [if_pos (by omega)] | rw [if_neg (by omega)] | rw [if_neg one0] | rw [if_pos rfl])
  · repeat (first | rw [Option.bind_some] | dsimp only | rw [Int.toNat_natCast] | rw [w32s (by omega)] | rw [w32p (by omega)] | rw [w32q (by omega)] | rw [w32i (by omega) (by omega)] | rw [sa_ld_of (by omega) (by omega)] | rw [sa_st_of (by omega) (by omega)] | rw [if_pos (by omega)] | rw [if_neg (by omega)] | rw [if_neg one0] | rw [if_pos rfl])
theorem p9_isTerm (h : RB9 σ 597 0 b) (ok : OkB b) (s i : Int) : g_X9_isTerm s i σ = some (if (0 ≤ s ∧ s < (bn b : Int)) ∧ 0 ≤ i ∧ i < (bsz b s.toNat : Int) then 1 else 0, σ) := by
  have o1 := ok.1
  unfold g_X9_isTerm g_X9_isTerm_J29
  rw [p9_isString h ok]
  by_cases hs : 0 ≤ s ∧ s < (bn b : Int)
  · obtain ⟨n, rfl⟩ := Int.eq_ofNat_of_zero_le hs.1
    have hn : n < bn b := by omega
    have o2 := ok.2.1 n hn
    repeat (first | rw [Option.bind_some] | dsimp only | rw [p9_terms h ok (by omega)] | rw [Int.toNat_natCast] | rw [w32s (by omega)] | rw [w32p (by omega)] | rw [w32q (by omega)] | rw [w32i (by omega) (by omega)] | rw [sa_ld_of (by omega) (by omega)] | rw [sa_st_of (by omega) (by omega)] | rw [if_pos (by omega)] | rw [if_neg (by omega)] | rw [if_neg one0] | rw [if_pos rfl])
    by_cases h0 : 0 ≤ i ∧ i < (bsz b n : Int)
    · repeat (first | rw [Option.bind_some] | dsimp only | rw [p9_in1 (by omega) (by omega)] | rw [Int.toNat_natCast] | rw [w32s (by omega)] | rw [w32p (by omega)] | rw [w32q (by omega)] | rw [w32i (by omega) (by omega)] | rw [sa_ld_of (by omega) (by omega)] | rw [sa_st_of (by omega) (by omega)] | rw [if_pos (by omega)] | rw [if_neg (by omega)] | rw [if_neg one0] | rw [if_pos rfl])
    · repeat (first | rw [Option.bind_some] | dsimp only | rw [p9_in0 (by omega)] | rw [Int.toNat_natCast] | rw [w32s (by omega)] | rw [w32p (by omega)] | rw [w32q (by omega)] | rw [w32i (by omega) (by omega)] | rw [sa_ld_of (by omega) (by omega)] | rw [sa_st_of (by omega) (by omega)] | rw [if_pos (by omega)] | rw [if_neg (by omega)] | rw [if_neg one0] | rw [if_pos rfl])
  · repeat (first | rw [Option.bind_some] | dsimp only | rw [Int.toNat_natCast] | rw [w32s (by omega)] | rw [w32p (by omega)] | rw [w32q (by omega)] | rw [w32i (by omega) (by omega)] | rw [sa_ld_of (by omega) (by omega)] | rw [sa_st_of (by omega) (by omega)] | rw [if_pos (by omega)] | rw [if_neg (by omega)] | rw [if_neg one0] | rw [if_pos rfl])
theorem p8_isRole (r : Int) : g_X8_isRole r σ = some (if 0 ≤ r ∧ r ≤ 5 then 1 else 0, σ) := by
  unfold g_X8_isRole g_X8_isRole_J14
  by_cases h0 : r < 0
  · rw [if_pos h0, if_neg (by omega)]
  · rw [if_neg h0]
    by_cases h1 : 6 ≤ r
    · rw [if_pos h1, if_neg (by omega)]
    · rw [if_neg h1, if_pos (by omega)]
theorem p8_isAddress (r : Int) : g_X8_isAddress r σ = some (if 0 ≤ r ∧ r ≤ 999 then 1 else 0, σ) := by
  unfold g_X8_isAddress g_X8_isAddress_J15
  by_cases h0 : r < 0
  · rw [if_pos h0, if_neg (by omega)]
  · rw [if_neg h0]
    by_cases h1 : 1000 ≤ r
    · rw [if_pos h1, if_neg (by omega)]
    · rw [if_neg h1, if_pos (by omega)]
theorem p0_stringAt_L {a : Nat} (h : RB8 σ a b) (ok : OkB b) (x : Int) : ∀ (c n i : Nat), i + c = bn b → c < n → g_X0_stringAt_L2 n a x (i : Int) σ = some (fnd (fun s => decide (badr b s = x)) c i, σ) := by
  have o1 := ok.1
  intro c
  induction c with
  | zero =>
    intro n i hi hn
    obtain ⟨m, rfl⟩ : ∃ m, n = m + 1 := ⟨n - 1, by omega⟩
    rw [g_X0_stringAt_L2, h.1, if_pos (by omega)]; rfl
  | succ c ih =>
    intro n i hi hn
    obtain ⟨m, rfl⟩ : ∃ m, n = m + 1 := ⟨n - 1, by omega⟩
    rw [g_X0_stringAt_L2, h.1, if_neg (by omega), sa_ld_of (by omega) (by omega), Option.bind_some, Int.toNat_natCast, (h.2.1 i (by omega)).1, fnd]
    by_cases e : badr b i = x
    · rw [if_pos e, if_pos (decide_eq_true e)]
    · rw [if_neg e, if_neg (by simpa using e), show ab_w32 ((i : Int) + 1) = ((i + 1 : Nat) : Int) by unfold ab_w32; omega]
      exact ih m (i + 1) (by omega) (by omega)
theorem p0_stringAt {a : Nat} (h : RB8 σ a b) (ok : OkB b) (x : Int) : g_X0_stringAt a x σ = some (fnd (fun s => decide (badr b s = x)) (bn b) 0, σ) := by
  have o1 := ok.1
  exact p0_stringAt_L h ok x (bn b) ab_FU 0 (by omega) (by show _ < 100000; omega)
theorem p9_at_L (h : RB9 σ 597 0 b) (ok : OkB b) (x : Int) : ∀ (c n i : Nat), i + c = bn b → c < n → g_X9_at_L17 n x (i : Int) σ = some (fnd (fun s => decide (badr b s = x)) c i, σ) := by
  have o1 := ok.1
  intro c
  induction c with
  | zero =>
    intro n i hi hn
    obtain ⟨m, rfl⟩ : ∃ m, n = m + 1 := ⟨n - 1, by omega⟩
    rw [g_X9_at_L17, p9_strings h ok, Option.bind_some]
    dsimp only
    rw [if_pos (by omega)]; rfl
  | succ c ih =>
    intro n i hi hn
    obtain ⟨m, rfl⟩ : ∃ m, n = m + 1 := ⟨n - 1, by omega⟩
    rw [g_X9_at_L17, p9_strings h ok, Option.bind_some]
    dsimp only
    rw [if_neg (by omega), p9_addressOf h ok (by omega), Option.bind_some, fnd]
    dsimp only
    by_cases e : badr b i = x
    · rw [if_pos e, if_pos (decide_eq_true e)]
    · rw [if_neg e, if_neg (by simpa using e), show ab_w32 ((i : Int) + 1) = ((i + 1 : Nat) : Int) by unfold ab_w32; omega]
      exact ih m (i + 1) (by omega) (by omega)
end RD
theorem S_way {Dr : st_S → BV → Prop} (hD : DrIn Dr) : Stp1 (InvD Dr) g_X8_way g_X9_way := by
  intro w σ _ ⟨S, r8, r9, ok⟩
  refine stp_of hD (S' := S) (r := if 0 ≤ w ∧ w ≤ 5 then bwy (sB S) w.toNat else -2) ?_ ?_ ok r8 r9
  · intro τ h8
    refine ⟨τ, ?_, h8, fun _ _ => rfl⟩
    unfold g_X8_way
    rw [p8_isRole, Option.bind_some]
    dsimp only
    by_cases hw : 0 ≤ w ∧ w ≤ 5
    · rw [if_pos hw, if_pos hw, if_neg one0, sa_ld_of hw.1 (by show w < 6; omega), Option.bind_some]
      rw [show τ 21 w.toNat = _ from h8.2.2.2.1.2.2.2.1 w.toNat (by omega)]
    · rw [if_neg hw, if_neg hw]; rfl
  · intro τ h9
    refine ⟨τ, ?_, h9, fun _ _ => rfl⟩
    unfold g_X9_way
    by_cases hw : 0 ≤ w ∧ w ≤ 5
    · have o := ok.2.2.2.2.1.2.2.2.2.2.1 w.toNat (by omega)
      rw [p9_in1 hw.1 hw.2, Option.bind_some, if_pos hw]
      dsimp only
      rw [if_neg one0, w32i (by omega) (by omega), sa_ld_of (by omega) (by show _ < (416 : Int); omega), Option.bind_some]
      have e := h9.2.2.2.1.2.2.2.1 w.toNat (by omega)
      rw [show ((2 : Int) + w).toNat = 0 + 2 + w.toNat by omega, e, w32i (by omega) (by omega)]
    · rw [p9_in0 hw, Option.bind_some, if_neg hw]; rfl
theorem S_at {Dr : st_S → BV → Prop} (hD : DrIn Dr) : Stp1 (InvD Dr) g_X8_at g_X9_at := by
  intro w σ _ ⟨S, r8, r9, ok⟩
  have okB := ok.2.2.2.2.1
  refine stp_of hD (S' := S) (r := if 0 ≤ w ∧ w ≤ 999 then fnd (fun s => decide (badr (sB S) s = w)) (bn (sB S)) 0 else -2) ?_ ?_ ok r8 r9
  · intro τ h8
    refine ⟨τ, ?_, h8, fun _ _ => rfl⟩
    unfold g_X8_at
    rw [p8_isAddress, Option.bind_some]
    dsimp only
    by_cases hw : 0 ≤ w ∧ w ≤ 999
    · rw [if_pos hw, if_pos hw, if_neg one0, p0_stringAt h8.2.2.2.1 okB, Option.bind_some]
    · rw [if_neg hw, if_neg hw]; rfl
  · intro τ h9
    refine ⟨τ, ?_, h9, fun _ _ => rfl⟩
    unfold g_X9_at
    by_cases hw : 0 ≤ w ∧ w ≤ 999
    · rw [p9_in1 hw.1 hw.2, Option.bind_some, if_pos hw]
      dsimp only
      rw [if_neg one0]
      have o1 := okB.1
      exact p9_at_L h9.2.2.2.1 okB w (bn (sB S)) ab_FU 0 (by omega) (by show _ < 100000; omega)
    · rw [p9_in0 hw, Option.bind_some, if_neg hw]; rfl
