/-! sharing, most, rarest, beside -/
theorem sub1 {k : Nat} (hk : k ≤ 12) : ab_w32 (ab_shl 1 (k : Int) - 1) = ((2 ^ k - 1 : Nat) : Int) := by
  have key : ∀ k : Nat, k ≤ 12 → ab_w32 (ab_shl 1 (k : Int) - 1) = ((2 ^ k - 1 : Nat) : Int) := by decide +kernel
  exact key k hk
theorem p2le {k : Nat} (hk : k ≤ 12) : 2 ^ k - 1 < 4096 ∧ 2 ^ k ≤ 4096 ∧ 1 ≤ 2 ^ k := by
  have key : ∀ k : Nat, k ≤ 12 → 2 ^ k - 1 < 4096 ∧ 2 ^ k ≤ 4096 ∧ 1 ≤ 2 ^ k := by decide +kernel
  exact key k hk
theorem and12 {m n : Nat} (hm : m < 4096) : m &&& n < 4096 := Nat.lt_of_le_of_lt Nat.and_le_left hm
def shr (b : BV) (s set : Nat) : Nat → Nat → Nat → Nat
  | 0, _, a => a
  | c + 1, i, a => shr b s set c (i + 1) (if set.testBit i = true then a &&& hv b (tw b s i : Int) (-1) else a)
theorem shr_lt {b : BV} (s set : Nat) : ∀ (c i a : Nat), a < 4096 → shr b s set c i a < 4096 := by
  intro c
  induction c with
  | zero => intro i a h; exact h
  | succ c ih =>
    intro i a h
    rw [shr]
    refine ih _ _ ?_
    split
    · exact and12 h
    · exact h
def shg (b : BV) (s set : Nat) : Nat := shr b s set (bsz b s) 0 (2 ^ bn b - 1)
theorem p8_hasBit {σ : st_S} {m i : Nat} (hm : m < 4096) (hi : i < 32) : g_X8_hasBit (m : Int) (i : Int) σ = some (if m.testBit i = true then 1 else 0, σ) := by
  unfold g_X8_hasBit
  rw [bit_nat (by omega) hi]
  by_cases e : m.testBit i = true
  · rw [if_pos e, if_pos rfl]
  · rw [if_neg e, if_neg (by decide)]
theorem p8_stringsSharing {σ : st_S} {b : BV} (ok : OkB b) (hB : RB8 σ 13 b) (hW : Wd8 σ b) (hT : T8 σ b) {s set : Nat} (hs : s < bn b) (hset : set < 4096) : g_X8_stringsSharing (s : Int) (set : Int) σ = some ((shg b s set : Int), σ) := by
  have o1 := ok.1
  have o2 := ok.2.1 s hs
  have wle := wl_le ok
  have r2 : σ 15 s = (bsz b s : Int) := (hB.2.1 s hs).2
  have key : ∀ (c n i a : Nat), i + c = bsz b s → a < 4096 → c < n → g_X8_stringsSharing_L15 n (s : Int) (set : Int) (a : Int) (i : Int) σ = some ((shr b s set c i a : Int), σ) := by
    intro c
    induction c with
    | zero =>
      intro n i a hi ha hn
      obtain ⟨m, rfl⟩ : ∃ m, n = m + 1 := ⟨n - 1, by omega⟩
      rw [g_X8_stringsSharing_L15, sa_ld_of (by omega) (by omega), Option.bind_some, Int.toNat_natCast, r2, if_pos (by omega), shr]
    | succ c ih =>
      intro n i a hi ha hn
      obtain ⟨m, rfl⟩ : ∃ m, n = m + 1 := ⟨n - 1, by omega⟩
      have t1 := ((hT.2 s hs).2 i (by omega)).2.1
      have t2 := (tw_spec ok hs (show i < bsz b s by omega)).2.1
      have t3 := hv_lt ok (tw b s i : Int) (-1)
      rw [g_X8_stringsSharing_L15, sa_ld_of (by omega) (by omega), Option.bind_some, Int.toNat_natCast, r2, if_neg (by omega), p8_hasBit hset (by omega), Option.bind_some, shr]
      unfold g_X8_stringsSharing_J64
      dsimp only
      by_cases e : set.testBit i = true
      · rw [if_pos e, if_neg one0, if_pos e, w6 (by omega) (by omega), sa_ld_of (by omega) (by omega), Option.bind_some, Int.toNat_natCast, t1, sa_ld_of (by omega) (by omega), Option.bind_some, Int.toNat_natCast, (hW.m ok t2).2, and_nat (by omega) (by omega), w32s (by omega)]
        exact ih m (i + 1) _ (by omega) (and12 ha) (by omega)
      · rw [if_neg e, if_pos rfl, if_neg e, w32s (by omega)]
        exact ih m (i + 1) a (by omega) ha (by omega)
  unfold g_X8_stringsSharing
  rw [hB.1, sub1 o1]
  exact key (bsz b s) ab_FU 0 _ (by omega) (p2le o1).1 (by show _ < 100000; omega)
theorem p9_sharing0 {σ : st_S} {b : BV} (ok : OkB b) (hB : RB9 σ 597 0 b) (hW : Wd9 σ b) {s set : Nat} (hs : s < bn b) (hset : set < 4096) : g_X9_sharing0 (s : Int) (set : Int) σ = some ((shg b s set : Int), σ) := by
  have o1 := ok.1
  have o2 := ok.2.1 s hs
  have key : ∀ (c n i a : Nat), i + c = bsz b s → a < 4096 → c < n → g_X9_sharing0_L12 n (s : Int) (set : Int) (a : Int) (i : Int) σ = some ((shr b s set c i a : Int), σ) := by
    intro c
    induction c with
    | zero =>
      intro n i a hi ha hn
      obtain ⟨m, rfl⟩ : ∃ m, n = m + 1 := ⟨n - 1, by omega⟩
      rw [g_X9_sharing0_L12, p9_terms hB ok hs, Option.bind_some]
      dsimp only
      rw [if_pos (by omega), shr]
    | succ c ih =>
      intro n i a hi ha hn
      obtain ⟨m, rfl⟩ : ∃ m, n = m + 1 := ⟨n - 1, by omega⟩
      have t3 := hv_lt ok (tw b s i : Int) (-1)
      rw [g_X9_sharing0_L12, p9_terms hB ok hs, Option.bind_some]
      dsimp only
      rw [if_neg (by omega), bit_nat (by omega) (by omega), shr]
      unfold g_X9_sharing0_J51
      by_cases e : set.testBit i = true
      · rw [if_pos e, if_pos rfl, if_pos e, p9_place (by omega) (by omega), Option.bind_some]
        dsimp only
        rw [sa_ld_of (by omega) (by omega), Option.bind_some, Int.toNat_natCast, hW.2 s hs i (by omega), p9_having0 ok hB hW, Option.bind_some]
        dsimp only
        rw [and_nat (by omega) (by omega), w32s (by omega)]
        exact ih m (i + 1) _ (by omega) (and12 ha) (by omega)
      · rw [if_neg e, if_neg (by decide), if_neg e, w32s (by omega)]
        exact ih m (i + 1) a (by omega) ha (by omega)
  unfold g_X9_sharing0
  rw [p9_strings hB ok, Option.bind_some]
  dsimp only
  rw [sub1 o1]
  exact key (bsz b s) ab_FU 0 _ (by omega) (p2le o1).1 (by show _ < 100000; omega)
theorem S_sharing : Stp2 (InvD DR) g_X8_sharing g_X9_sharing := by
  intro x y σ _ _ ⟨S, r8, r9, ok⟩
  have okB := ok.2.2.2.2.1
  have o1 := okB.1
  by_cases hx : 0 ≤ x ∧ x < (bn (sB S) : Int)
  · obtain ⟨s, rfl⟩ := Int.eq_ofNat_of_zero_le hx.1
    have hs : s < bn (sB S) := by omega
    have o2 := okB.2.1 s hs
    have p2 := p2le (k := bsz (sB S) s) (by omega)
    have e6 : ab_shl 1 (bsz (sB S) s : Int) = ((2 ^ bsz (sB S) s : Nat) : Int) := shl1 (by omega)
    by_cases hy : 0 ≤ y ∧ y < ((2 ^ bsz (sB S) s : Nat) : Int)
    · obtain ⟨set, rfl⟩ := Int.eq_ofNat_of_zero_le hy.1
      refine qry (r := (shg (sB S) s set : Int)) ok (fun τ h8 => ?_) (fun τ h9 => ?_) r8 r9
      · have r2 : τ 15 s = (bsz (sB S) s : Int) := (h8.2.2.2.1.2.1 s hs).2
        unfold g_X8_sharing
        rw [p8_isString h8.2.2.2.1, if_pos hx, Option.bind_some]
        dsimp only
        rw [if_neg one0, if_neg (by omega), sa_ld_of (by omega) (by omega), Option.bind_some, Int.toNat_natCast, r2, e6, if_pos hy.2, p8_stringsSharing okB h8.2.2.2.1 h8.2.2.2.2.2.2.1 h8.2.2.2.2.2.2.2.1 hs (by omega)]; rfl
      · obtain ⟨τ1, e1, e2, e3, e4⟩ := l9w ok h9
        refine ⟨τ1, ?_, e4⟩
        unfold g_X9_sharing
        rw [p9_isString h9.2.2.2.1 okB, if_pos hx, Option.bind_some]
        dsimp only
        rw [if_neg one0, p9_terms h9.2.2.2.1 okB hs, Option.bind_some]
        dsimp only
        rw [sub1 (by omega), p9_in1 (by omega) (by omega), Option.bind_some]
        dsimp only
        rw [if_neg one0, e1, Option.bind_some, p9_sharing0 okB e3 e2 hs (by omega)]; rfl
    · refine qry (r := -2) ok (fun τ h8 => ?_) (fun τ h9 => ⟨τ, ?_, L9.rfl'⟩) r8 r9
      · have r2 : τ 15 s = (bsz (sB S) s : Int) := (h8.2.2.2.1.2.1 s hs).2
        unfold g_X8_sharing
        rw [p8_isString h8.2.2.2.1, if_pos hx, Option.bind_some]
        dsimp only
        rw [if_neg one0]
        by_cases h0 : y < 0
        · rw [if_pos h0]
        · rw [if_neg h0, sa_ld_of (by omega) (by omega), Option.bind_some, Int.toNat_natCast, r2, e6, if_neg (by omega)]
      · unfold g_X9_sharing
        rw [p9_isString h9.2.2.2.1 okB, if_pos hx, Option.bind_some]
        dsimp only
        rw [if_neg one0, p9_terms h9.2.2.2.1 okB hs, Option.bind_some]
        dsimp only
        rw [sub1 (by omega), p9_in0 (by omega)]; rfl
  · refine qry (r := -2) ok (fun τ h8 => ?_) (fun τ h9 => ⟨τ, ?_, L9.rfl'⟩) r8 r9
    · unfold g_X8_sharing
      rw [p8_isString h8.2.2.2.1, if_neg hx]; rfl
    · unfold g_X9_sharing
      rw [p9_isString h9.2.2.2.1 okB, if_neg hx]; rfl
/-! most -/
def rkP (b : BV) (w : Nat) : Nat → Bool := fun o => decide (oft b (w : Int) < oft b (o : Int) ∨ oft b (o : Int) = oft b (w : Int) ∧ o < w)
def rk (b : BV) (w : Nat) : Nat := cN (rkP b w) (wl b).1 0 0
theorem p7_rankOf {σ : st_S} {b : BV} (ok : OkB b) (hW : Wd8 σ b) {w : Nat} (hw : w < (wl b).1) : g_X7_rankOf (w : Int) σ = some ((rk b w : Int), σ) := by
  have wle := wl_le ok
  obtain ⟨M, hM, _⟩ := id hW
  have ow := oft_le b (w : Int)
  have key : ∀ (c n i a : Nat), i + c = (wl b).1 → a ≤ i → c < n → g_X7_rankOf_L11 n (w : Int) (a : Int) (oft b (w : Int) : Int) (i : Int) σ = some ((cN (rkP b w) c i a : Int), σ) := by
    intro c
    induction c with
    | zero =>
      intro n i a hi ha hn
      obtain ⟨m, rfl⟩ : ∃ m, n = m + 1 := ⟨n - 1, by omega⟩
      rw [g_X7_rankOf_L11, hM.1, if_pos (by omega), cN]
    | succ c ih =>
      intro n i a hi ha hn
      obtain ⟨m, rfl⟩ : ∃ m, n = m + 1 := ⟨n - 1, by omega⟩
      have yes : rkP b w i = true → g_X7_rankOf_J46 (g_X7_rankOf_L11 m) (w : Int) (a : Int) (oft b (w : Int) : Int) (i : Int) σ = some ((cN (rkP b w) (c + 1) i a : Int), σ) := by
        intro z
        unfold g_X7_rankOf_J46 g_X7_rankOf_J49
        rw [cN, if_pos z, w32s (by omega), w32s (by omega)]
        exact ih m (i + 1) (a + 1) (by omega) (by omega) (by omega)
      have no : ¬ rkP b w i = true → g_X7_rankOf_J49 (g_X7_rankOf_L11 m) (w : Int) (a : Int) (oft b (w : Int) : Int) (i : Int) σ = some ((cN (rkP b w) (c + 1) i a : Int), σ) := by
        intro z
        unfold g_X7_rankOf_J49
        rw [cN, if_neg z, w32s (by omega)]
        exact ih m (i + 1) a (by omega) (by omega) (by omega)
      rw [g_X7_rankOf_L11, hM.1, if_neg (by omega), p7_stringCount ok hW (by omega), Option.bind_some]
      dsimp only
      by_cases e1 : oft b (w : Int) < oft b (i : Int)
      · rw [if_pos (by omega)]; exact yes (decide_eq_true (Or.inl e1))
      · rw [if_neg (by omega)]
        by_cases e2 : oft b (i : Int) = oft b (w : Int)
        · rw [if_pos (by omega)]
          by_cases e3 : w ≤ i
          · rw [if_pos (by omega)]; exact no (fun q => by have := of_decide_eq_true q; omega)
          · rw [if_neg (by omega)]; exact yes (decide_eq_true (Or.inr ⟨e2, by omega⟩))
        · rw [if_neg (by omega)]; exact no (fun q => by have := of_decide_eq_true q; omega)
  unfold g_X7_rankOf
  rw [p7_stringCount ok hW hw, Option.bind_some]
  exact key (wl b).1 ab_FU 0 0 (by omega) (by omega) (by show _ < 100000; omega)
theorem p9_most_L26 {σ : st_S} {b : BV} (ok : OkB b) (hB : RB9 σ 597 0 b) (hW : Wd9 σ b) (K : Int → Int → Int → st_S → Option (Int × st_S)) (v1 : Int) {w : Nat} (hw : w < (wl b).1) : g_X9_most_L26 K ab_FU v1 (w : Int) 0 0 σ = K v1 (w : Int) (rk b w : Int) σ := by
  have wle := wl_le ok
  have key : ∀ (c n i a : Nat), i + c = (wl b).1 → a ≤ i → c < n → g_X9_most_L26 K n v1 (w : Int) (a : Int) (i : Int) σ = K v1 (w : Int) (cN (rkP b w) c i a : Int) σ := by
    intro c
    induction c with
    | zero =>
      intro n i a hi ha hn
      obtain ⟨m, rfl⟩ : ∃ m, n = m + 1 := ⟨n - 1, by omega⟩
      rw [g_X9_most_L26, hW.1.1, if_pos (by omega), cN]
    | succ c ih =>
      intro n i a hi ha hn
      obtain ⟨m, rfl⟩ : ∃ m, n = m + 1 := ⟨n - 1, by omega⟩
      have yes : rkP b w i = true → g_X9_most_J70 (g_X9_most_L26 K m) K v1 (w : Int) (i : Int) (a : Int) σ = K v1 (w : Int) (cN (rkP b w) (c + 1) i a : Int) σ := by
        intro z
        unfold g_X9_most_J70 g_X9_most_J75
        rw [cN, if_pos z, w32s (by omega), w32s (by omega)]
        exact ih m (i + 1) (a + 1) (by omega) (by omega) (by omega)
      have no : ¬ rkP b w i = true → g_X9_most_J74 (g_X9_most_L26 K m) K v1 (w : Int) (i : Int) (a : Int) σ = K v1 (w : Int) (cN (rkP b w) (c + 1) i a : Int) σ := by
        intro z
        unfold g_X9_most_J74 g_X9_most_J75
        rw [cN, if_neg z, Int.add_zero, w32i (x := (a : Int)) (by omega) (by omega), w32s (by omega)]
        exact ih m (i + 1) a (by omega) (by omega) (by omega)
      rw [g_X9_most_L26, hW.1.1, if_neg (by omega), p9_oftenOf ok hB hW, Option.bind_some]
      dsimp only
      rw [p9_oftenOf ok hB hW, Option.bind_some]
      dsimp only
      by_cases e1 : oft b (w : Int) < oft b (i : Int)
      · rw [if_pos (by omega)]; exact yes (decide_eq_true (Or.inl e1))
      · rw [if_neg (by omega), p9_oftenOf ok hB hW, Option.bind_some]
        dsimp only
        rw [p9_oftenOf ok hB hW, Option.bind_some]
        dsimp only
        by_cases e2 : oft b (i : Int) = oft b (w : Int)
        · rw [if_pos (by omega)]
          by_cases e3 : w ≤ i
          · rw [if_pos (by omega)]; exact no (fun q => by have := of_decide_eq_true q; omega)
          · rw [if_neg (by omega)]; exact yes (decide_eq_true (Or.inr ⟨e2, by omega⟩))
        · rw [if_neg (by omega)]; exact no (fun q => by have := of_decide_eq_true q; omega)
  exact key (wl b).1 ab_FU 0 0 (by omega) (by omega) (by show _ < 100000; omega)
theorem S_most : Stp1 (InvD DR) g_X8_most g_X9_most := by
  intro x σ _ ⟨S, r8, r9, ok⟩
  have okB := ok.2.2.2.2.1
  have wle := wl_le okB
  by_cases hx : 0 ≤ x
  · refine qry (r := fnd (fun w => decide ((rk (sB S) w : Int) = x)) (wl (sB S)).1 0) ok (fun τ h8 => ?_) (fun τ h9 => ?_) r8 r9
    · have hW := h8.2.2.2.2.2.2.1
      obtain ⟨M, hM, _⟩ := id hW
      have key : ∀ (c n i : Nat), i + c = (wl (sB S)).1 → c < n → g_X8_most_L9 n x (i : Int) τ = some (fnd (fun w => decide ((rk (sB S) w : Int) = x)) c i, τ) := by
        intro c
        induction c with
        | zero =>
          intro n i hi hn
          obtain ⟨m, rfl⟩ : ∃ m, n = m + 1 := ⟨n - 1, by omega⟩
          rw [g_X8_most_L9, hM.1, if_pos (by omega), fnd]
        | succ c ih =>
          intro n i hi hn
          obtain ⟨m, rfl⟩ : ∃ m, n = m + 1 := ⟨n - 1, by omega⟩
          rw [g_X8_most_L9, hM.1, if_neg (by omega), p7_rankOf okB hW (by omega), Option.bind_some, fnd]
          dsimp only
          by_cases e : (rk (sB S) i : Int) = x
          · rw [if_pos e, if_pos (decide_eq_true e)]
          · rw [if_neg e, if_neg (show ¬ decide ((rk (sB S) i : Int) = x) = true from fun q => e (of_decide_eq_true q)), w32s (by omega)]
            exact ih m (i + 1) (by omega) (by omega)
      unfold g_X8_most
      rw [if_pos hx]
      exact key (wl (sB S)).1 ab_FU 0 (by omega) (by show _ < 100000; omega)
    · obtain ⟨τ1, e1, e2, e3, e4⟩ := l9w ok h9
      refine ⟨τ1, ?_, e4⟩
      have key : ∀ (c n i : Nat), i + c = (wl (sB S)).1 → c < n → g_X9_most_L13 n x (i : Int) τ1 = some (fnd (fun w => decide ((rk (sB S) w : Int) = x)) c i, τ1) := by
        intro c
        induction c with
        | zero =>
          intro n i hi hn
          obtain ⟨m, rfl⟩ : ∃ m, n = m + 1 := ⟨n - 1, by omega⟩
          rw [g_X9_most_L13, e2.1.1, if_pos (by omega), fnd]
        | succ c ih =>
          intro n i hi hn
          obtain ⟨m, rfl⟩ : ∃ m, n = m + 1 := ⟨n - 1, by omega⟩
          rw [g_X9_most_L13, e2.1.1, if_neg (by omega), p9_most_L26 okB e3 e2 _ _ (by omega), fnd]
          by_cases e : (rk (sB S) i : Int) = x
          · rw [if_pos e, if_pos (decide_eq_true e)]
          · rw [if_neg e, if_neg (show ¬ decide ((rk (sB S) i : Int) = x) = true from fun q => e (of_decide_eq_true q)), w32s (by omega)]
            exact ih m (i + 1) (by omega) (by omega)
      unfold g_X9_most
      rw [if_pos hx, e1, Option.bind_some]
      exact key (wl (sB S)).1 ab_FU 0 (by omega) (by show _ < 100000; omega)
  · refine qry (r := -2) ok (fun τ h8 => ?_) (fun τ h9 => ⟨τ, ?_, L9.rfl'⟩) r8 r9
    · unfold g_X8_most; rw [if_neg hx]
    · unfold g_X9_most; rw [if_neg hx]
/-! rarest -/
def ofT (b : BV) (s i : Nat) : Nat := oft b (tw b s i : Int)
def rr (b : BV) (s : Nat) : Nat → Nat → Nat → Nat
  | 0, _, k => k
  | c + 1, i, k => rr b s c (i + 1) (if ofT b s i < ofT b s k then i else k)
theorem S_rarest : Stp1 (InvD DR) g_X8_rarest g_X9_rarest := by
  intro x σ _ ⟨S, r8, r9, ok⟩
  have okB := ok.2.2.2.2.1
  have o1 := okB.1
  have wle := wl_le okB
  by_cases hx : 0 ≤ x ∧ x < (bn (sB S) : Int)
  · obtain ⟨s, rfl⟩ := Int.eq_ofNat_of_zero_le hx.1
    have hs : s < bn (sB S) := by omega
    have o2 := okB.2.1 s hs
    refine qry (r := (rr (sB S) s (bsz (sB S) s - 1) 1 0 : Int)) ok (fun τ h8 => ?_) (fun τ h9 => ?_) r8 r9
    · have hW := h8.2.2.2.2.2.2.1
      have hT := h8.2.2.2.2.2.2.2.1
      have r2 : τ 15 s = (bsz (sB S) s : Int) := (h8.2.2.2.1.2.1 s hs).2
      have step : ∀ (n i : Nat) (v2 v3 : Int), i < bsz (sB S) s → g_X8_rarest_L19 (n + 1) (s : Int) v2 v3 (i : Int) τ = if v3 ≤ (ofT (sB S) s i : Int) then g_X8_rarest_L19 n (s : Int) v2 v3 ((i + 1 : Nat) : Int) τ else g_X8_rarest_L19 n (s : Int) (i : Int) (ofT (sB S) s i : Int) ((i + 1 : Nat) : Int) τ := by
        intro n i v2 v3 hi
        have t1 := ((hT.2 s hs).2 i hi).2.1
        have t2 := (tw_spec okB hs hi).2.1
        rw [g_X8_rarest_L19, sa_ld_of (by omega) (by omega), Option.bind_some, Int.toNat_natCast, r2, if_neg (by omega), w6 (by omega) (by omega), sa_ld_of (by omega) (by omega), Option.bind_some, Int.toNat_natCast, t1, p7_stringCount okB hW t2, Option.bind_some]
        unfold g_X8_rarest_J69
        rw [w32s (by omega)]
        rfl
      have key : ∀ (c n i k : Nat), i + c = bsz (sB S) s → c < n → g_X8_rarest_L19 n (s : Int) (k : Int) (ofT (sB S) s k : Int) (i : Int) τ = some ((rr (sB S) s c i k : Int), τ) := by
        intro c
        induction c with
        | zero =>
          intro n i k hi hn
          obtain ⟨m, rfl⟩ : ∃ m, n = m + 1 := ⟨n - 1, by omega⟩
          rw [g_X8_rarest_L19, sa_ld_of (by omega) (by omega), Option.bind_some, Int.toNat_natCast, r2, if_pos (by omega), rr]
        | succ c ih =>
          intro n i k hi hn
          obtain ⟨m, rfl⟩ : ∃ m, n = m + 1 := ⟨n - 1, by omega⟩
          rw [step m i _ _ (by omega), rr]
          by_cases e : ofT (sB S) s i < ofT (sB S) s k
          · rw [if_neg (by omega), if_pos e]; exact ih m (i + 1) i (by omega) (by omega)
          · rw [if_pos (by omega), if_neg e]; exact ih m (i + 1) k (by omega) (by omega)
      unfold g_X8_rarest
      rw [p8_isString h8.2.2.2.1, if_pos hx, Option.bind_some]
      dsimp only
      have o12 : ofT (sB S) s 0 ≤ 12 := oft_le _ _
      rw [if_neg one0, show ab_FU = 99999 + 1 from rfl, show (0 : Int) = ((0 : Nat) : Int) from rfl, step 99999 0 _ _ (by omega), if_neg (by omega)]
      exact key (bsz (sB S) s - 1) 99999 1 0 (by omega) (by omega)
    · obtain ⟨τ1, e1, e2, e3, e4⟩ := l9w ok h9
      refine ⟨τ1, ?_, e4⟩
      have key : ∀ (c n i k : Nat), i + c = bsz (sB S) s → k < bsz (sB S) s → c < n → g_X9_rarest_L19 n (s : Int) (k : Int) (i : Int) τ1 = some ((rr (sB S) s c i k : Int), τ1) := by
        intro c
        induction c with
        | zero =>
          intro n i k hi hk hn
          obtain ⟨m, rfl⟩ : ∃ m, n = m + 1 := ⟨n - 1, by omega⟩
          rw [g_X9_rarest_L19, p9_terms e3 okB hs, Option.bind_some]
          dsimp only
          rw [if_pos (by omega), rr]
        | succ c ih =>
          intro n i k hi hk hn
          obtain ⟨m, rfl⟩ : ∃ m, n = m + 1 := ⟨n - 1, by omega⟩
          rw [g_X9_rarest_L19, p9_terms e3 okB hs, Option.bind_some]
          dsimp only
          rw [if_neg (by omega), p9_place (by omega) (by omega), Option.bind_some]
          dsimp only
          rw [sa_ld_of (by omega) (by omega), Option.bind_some, Int.toNat_natCast, e2.2 s hs i (by omega), p9_oftenOf okB e3 e2, Option.bind_some]
          dsimp only
          rw [p9_place (by omega) (by omega), Option.bind_some]
          dsimp only
          rw [sa_ld_of (by omega) (by omega), Option.bind_some, Int.toNat_natCast, e2.2 s hs k hk, p9_oftenOf okB e3 e2, Option.bind_some, rr]
          unfold g_X9_rarest_J61
          dsimp only
          by_cases e : ofT (sB S) s i < ofT (sB S) s k
          · rw [if_neg (show ¬ (oft (sB S) (tw (sB S) s k : Int) : Int) ≤ (oft (sB S) (tw (sB S) s i : Int) : Int) by unfold ofT at e; omega), if_pos e, w32s (by omega)]; exact ih m (i + 1) i (by omega) (by omega) (by omega)
          · rw [if_pos (show (oft (sB S) (tw (sB S) s k : Int) : Int) ≤ (oft (sB S) (tw (sB S) s i : Int) : Int) by unfold ofT at e; omega), if_neg e, w32s (by omega)]; exact ih m (i + 1) k (by omega) (by omega) (by omega)
      unfold g_X9_rarest
      rw [p9_isString h9.2.2.2.1 okB, if_pos hx, Option.bind_some]
      dsimp only
      rw [if_neg one0, e1, Option.bind_some]
      exact key (bsz (sB S) s - 1) ab_FU 1 0 (by omega) (by omega) (by show _ < 100000; omega)
  · refine qry (r := -2) ok (fun τ h8 => ?_) (fun τ h9 => ⟨τ, ?_, L9.rfl'⟩) r8 r9
    · unfold g_X8_rarest
      rw [p8_isString h8.2.2.2.1, if_neg hx]; rfl
    · unfold g_X9_rarest
      rw [p9_isString h9.2.2.2.1 okB, if_neg hx]; rfl
