/-! entries asked for: count, entry, row -/
theorem TU.v {σ : st_S} {a : Nat} (ha : isTu a = true) {b : BV} {wy : Nat → Int} (h : TU σ a b wy) (hn : nE b wy ≤ 72) : ∃ r : Nat → Nat, σ a 1 = (nE b wy : Int) ∧ σ a 3 = (nL b wy : Int) ∧ σ a 5 = (nH b wy : Int) ∧ (∀ l, l ≤ nL b wy → σ (a + 2) l = (lF b wy l : Int)) ∧ (∀ l, l ≤ nH b wy → σ (a + 3) l = (hF b wy l : Int)) ∧
    ∀ k, k < nE b wy → σ (a + 1) k = (r k : Int) ∧ sa_en (r k : Int) = some (r k) ∧ isE b (sE b wy k) ∧ E8 σ (r k) b wy (sE b wy k) ∧ σ (r k) 9 = (lnO b wy k : Int) ∧ σ (r k) 10 = (hdO b wy k : Int) := by
  obtain ⟨r, t, h3, h5, hl, hh, hj⟩ := h
  refine ⟨r, t.1, h3, h5, hl, hh, fun k hk => ?_⟩
  have s := t.2.1.1 k (by omega)
  have e := t.2.2 k hk
  exact ⟨s.1, sa_en_of (s.2.en ha), e.1, e.2, (hj k hk).1, (hj k hk).2⟩
theorem l9l {S : SV} {τ : st_S} (ok : OkS S) (h9 : Rep9 τ S) : ∃ τ1, g_X9_lays τ = some τ1 ∧ TU9 τ1 (sB S) (bwy (sB S)) ∧ RB9 τ1 597 0 (sB S) ∧ L9 τ τ1 := by
  obtain ⟨τ1, q1, q2, q3⟩ := p9_lays ok.2.2.2.2.1 h9.2.2.2.1
  exact ⟨τ1, q1, q2, h9.2.2.2.1.fr (q3.1 597 (by omega)), q3.l9⟩
theorem nL_le (b : BV) (wy : Nat → Int) : nL b wy ≤ nE b wy := nK_le (lnK_st b wy _) _
theorem nH_le (b : BV) (wy : Nat → Int) : nH b wy ≤ nE b wy := nK_le (hdK_st b _) _
def smT (b : BV) : Nat → Nat → Nat → Nat
  | 0, _, a => a
  | c + 1, s, a => smT b c (s + 1) (a + bsz b s)
theorem S_count : Stp1 (InvD DR) g_X8_count g_X9_count := by
  intro x σ _ ⟨S, r8, r9, ok⟩
  have okB := ok.2.2.2.2.1
  have o1 := okB.1
  refine qry (r := if x = 0 then (bn (sB S) : Int) else if x = 1 then (smT (sB S) (bn (sB S)) 0 0 : Int) else if x = 2 then (bm (sB S) : Int) else if x = 3 then ((wl (sB S)).1 : Int) else if x = 4 then (nE (sB S) (bwy (sB S)) : Int) else if x = 5 then (nL (sB S) (bwy (sB S)) : Int) else if x = 6 then (nH (sB S) (bwy (sB S)) : Int) else if x = 7 then ((sH S).1 : Int) else if x = 8 then ((sT S).1 : Int) else if x = 9 then ((sO S).1 : Int) else -1) ok (fun τ h8 => ?_) (fun τ h9 => ?_) r8 r9
  · obtain ⟨h1, h2, h3, h4, ⟨h5, h6, h7⟩, h8', ⟨d1, d2, d3, d4, d5⟩⟩ := h8
    obtain ⟨r, v1, v3, v5, _⟩ := d3.v (by decide) d5
    obtain ⟨M, hM, _⟩ := d1
    have key : ∀ (c n s a : Nat), s + c = bn (sB S) → a ≤ 6 * s → c < n → g_X0_termsOfAll_L4 n 13 (a : Int) (s : Int) τ = some ((smT (sB S) c s a : Int), τ) := by
      intro c
      induction c with
      | zero =>
        intro n s a hs ha hn
        obtain ⟨m, rfl⟩ : ∃ m, n = m + 1 := ⟨n - 1, by omega⟩
        rw [g_X0_termsOfAll_L4, h4.1, if_pos (by omega), smT]
      | succ c ih =>
        intro n s a hs ha hn
        obtain ⟨m, rfl⟩ : ∃ m, n = m + 1 := ⟨n - 1, by omega⟩
        have o2 := okB.2.1 s (by omega)
        have e : τ 15 s = (bsz (sB S) s : Int) := (h4.2.1 s (by omega)).2
        rw [g_X0_termsOfAll_L4, h4.1, if_neg (by omega)]
        simp only [Nat.reduceAdd]
        rw [sa_ld_of (by omega) (by omega), Option.bind_some, Int.toNat_natCast, e, w32s (by omega), show ab_w32 ((a : Int) + (bsz (sB S) s : Int)) = ((a + bsz (sB S) s : Nat) : Int) by rw [w32i (by omega) (by omega)]; omega, smT]
        exact ih m (s + 1) _ (by omega) (by omega) (by omega)
    have t1 : g_X0_termsOfAll 13 τ = some ((smT (sB S) (bn (sB S)) 0 0 : Int), τ) := key (bn (sB S)) ab_FU 0 0 (by omega) (by omega) (by show _ < 100000; omega)
    unfold g_X8_count
    rw [t1, h4.1, h4.2.2.2.2.1, hM.1, v1, v3, v5, h5, h1.1, h2.1]
    split
    · rfl
    · split
      · rfl
      · split
        · rfl
        · split
          · rfl
          · split
            · rfl
            · split
              · rfl
              · split
                · rfl
                · split
                  · rfl
                  · split
                    · rfl
                    · split <;> rfl
  · -- the loop
    have lp : ∀ τ1 : st_S, RB9 τ1 597 0 (sB S) → g_X9_count_J16 x τ1 = g_X9_count_J47 x (if x = 1 then (smT (sB S) (bn (sB S)) 0 0 : Int) else 0) τ1 := by
      intro τ1 B1
      unfold g_X9_count_J16
      by_cases hx : x = 1
      · rw [if_pos hx]
        have key : ∀ (c n s a : Nat), s + c = bn (sB S) → a ≤ 6 * s → c < n → g_X9_count_L20 (fun w47_1 w47_2 σx47 => g_X9_count_J47 w47_1 w47_2 σx47) n x (a : Int) (s : Int) τ1 = g_X9_count_J47 x (smT (sB S) c s a : Int) τ1 := by
          intro c
          induction c with
          | zero =>
            intro n s a hs ha hn
            obtain ⟨m, rfl⟩ : ∃ m, n = m + 1 := ⟨n - 1, by omega⟩
            rw [g_X9_count_L20, p9_strings B1 okB, Option.bind_some]
            dsimp only
            rw [if_pos (by omega), smT]
          | succ c ih =>
            intro n s a hs ha hn
            obtain ⟨m, rfl⟩ : ∃ m, n = m + 1 := ⟨n - 1, by omega⟩
            have o2 := okB.2.1 s (by omega)
            rw [g_X9_count_L20, p9_strings B1 okB, Option.bind_some]
            dsimp only
            rw [if_neg (by omega), if_pos hx, p9_terms B1 okB (by omega), Option.bind_some]
            dsimp only
            rw [w32s (by omega), show ab_w32 ((a : Int) + (bsz (sB S) s : Int)) = ((a + bsz (sB S) s : Nat) : Int) by rw [w32i (by omega) (by omega)]; omega, smT]
            exact ih m (s + 1) _ (by omega) (by omega) (by omega)
        exact key (bn (sB S)) ab_FU 0 0 (by omega) (by omega) (by show _ < 100000; omega)
      · rw [if_neg hx, show ab_FU = 99999 + 1 from rfl, g_X9_count_L20, p9_strings B1 okB, Option.bind_some]
        dsimp only
        split <;> rfl
    by_cases hx : 1 ≤ x ∧ x ≤ 6
    · obtain ⟨τ1, e1, e2, e3, e4⟩ := l9l ok h9
      refine ⟨τ1, ?_, e4⟩
      unfold g_X9_count
      rw [p9_in1 hx.1 hx.2, Option.bind_some]
      dsimp only
      rw [if_neg one0, e1, Option.bind_some, lp τ1 e3]
      unfold g_X9_count_J47
      rw [e2.1.1.1, e2.2.2.2.1, e2.2.2.2.2.1, e2.2.1.1, ← nE_len (sB S) (bwy (sB S)), p9_strings e3 okB, p9_sees e3 okB]
      rw [if_neg (show ¬ x = 0 by omega), if_neg (show ¬ x = 0 by omega)]
      split
      · rfl
      · split
        · rfl
        · split
          · rfl
          · split
            · rfl
            · split
              · rfl
              · split
                · rfl
                · omega
    · refine ⟨τ, ?_, L9.rfl'⟩
      unfold g_X9_count
      rw [p9_in0 hx, Option.bind_some]
      dsimp only
      rw [if_pos rfl, lp τ h9.2.2.2.1]
      unfold g_X9_count_J47
      rw [h9.2.2.2.2.1, h9.1.1, h9.2.1.1, p9_strings h9.2.2.2.1 okB]
      split
      · rfl
      · rw [if_neg (show ¬ x = 1 by omega), if_neg (show ¬ x = 1 by omega), if_neg (show ¬ x = 2 by omega), if_neg (show ¬ x = 2 by omega), if_neg (show ¬ x = 3 by omega), if_neg (show ¬ x = 3 by omega), if_neg (show ¬ x = 4 by omega), if_neg (show ¬ x = 4 by omega), if_neg (show ¬ x = 5 by omega), if_neg (show ¬ x = 5 by omega), if_neg (show ¬ x = 6 by omega), if_neg (show ¬ x = 6 by omega)]
        split
        · rfl
        · split
          · rfl
          · split <;> rfl
theorem gG_lt {b : BV} (ok : OkB b) (wy : Nat → Int) {x : Nat × Nat} (h : isE b x) : gG b wy x < 64 := (en_ok ok wy h).1
theorem S_entry : Stp2 (InvD DR) g_X8_entry g_X9_entry := by
  intro x y σ _ _ ⟨S, r8, r9, ok⟩
  have okB := ok.2.2.2.2.1
  have o1 := okB.1
  by_cases h0 : x < 0
  · refine qry (r := -2) ok (fun τ h8 => ?_) (fun τ h9 => ⟨τ, ?_, L9.rfl'⟩) r8 r9
    · unfold g_X8_entry; rw [if_pos h0]
    · unfold g_X9_entry; rw [if_pos h0]
  · obtain ⟨k, rfl⟩ := Int.eq_ofNat_of_zero_le (show 0 ≤ x by omega)
    by_cases hy : 0 ≤ y ∧ y ≤ 5
    · by_cases hk : k < nE (sB S) (bwy (sB S))
      · refine qry (r := if y = 0 then ((sE (sB S) (bwy (sB S)) k).1 : Int) else if y = 1 then ((sE (sB S) (bwy (sB S)) k).2 : Int) else if y = 2 then (lnO (sB S) (bwy (sB S)) k : Int) else if y = 3 then (nA (sB S) (bwy (sB S)) (sE (sB S) (bwy (sB S)) k) : Int) else if y = 4 then (nB (sB S) (bwy (sB S)) (sE (sB S) (bwy (sB S)) k) : Int) else (pc (gG (sB S) (bwy (sB S)) (sE (sB S) (bwy (sB S)) k)) : Int)) ok (fun τ h8 => ?_) (fun τ h9 => ?_) r8 r9
        · obtain ⟨d1, d2, d3, d4, d5⟩ := h8.2.2.2.2.2.2
          obtain ⟨r, v1, v3, v5, vl, vh, vk⟩ := d3.v (by decide) d5
          obtain ⟨k1, k2, k3, k4, k5, k6⟩ := vk k hk
          have k1 : τ 157 k = (r k : Int) := k1
          have g6 := gG_lt okB (bwy (sB S)) k3
          have l5 := en_le okB (bwy (sB S)) k3
          unfold g_X8_entry
          rw [if_neg h0, if_neg (by omega), if_pos hy.2, v1, if_pos (by omega), sa_ld_of (by omega) (by omega), Option.bind_some, Int.toNat_natCast, k1, k2, Option.bind_some, k4.1, k4.2.2.1, k5, k4.2.2.2.2.1, k4.h7, k4.h8, jBitCount (by omega)]
          split
          · rfl
          · split
            · rfl
            · split
              · rfl
              · split
                · rfl
                · split
                  · refine congrArg some (Prod.ext ?_ rfl)
                    show ab_w32 _ = _
                    rw [w32i (by omega) (by omega)]; omega
                  · rfl
        · obtain ⟨τ1, e1, e2, e3, e4⟩ := l9l ok h9
          refine ⟨τ1, ?_, e4⟩
          obtain ⟨t1, t2, ⟨o, t3⟩, t4, t5, t6, t7⟩ := e2
          obtain ⟨k1, k2, k3, k4⟩ := t3 k hk
          have ne := nE_len (sB S) (bwy (sB S))
          unfold g_X9_entry
          rw [if_neg h0, p9_in1 hy.1 hy.2, Option.bind_some]
          dsimp only
          rw [if_neg one0, e1, Option.bind_some, t2.1, if_pos (by omega), sa_ld_of (by omega) (by omega), Option.bind_some, Int.toNat_natCast, k1]
          split
          · rw [sa_ld_of (by omega) (by omega), Option.bind_some, Int.toNat_natCast, k4.1]
          · split
            · rw [sa_ld_of (by omega) (by omega), Option.bind_some, Int.toNat_natCast, k4.2.1]
            · split
              · rw [sa_ld_of (by omega) (by omega), Option.bind_some, Int.toNat_natCast, (t6 k hk).1]
              · split
                · rw [show ab_w32 ((12 : Int) * (o k : Int)) = ((12 * o k : Nat) : Int) by rw [w32i (by omega) (by omega)]; omega, sa_ld_of (by omega) (by omega), Option.bind_some, Int.toNat_natCast, k4.2.2.2.1.1]; rfl
                · split
                  · rw [show ab_w32 (ab_w32 ((12 : Int) * (o k : Int)) + 6) = ((12 * o k + 6 : Nat) : Int) by rw [w32i (x := (12 : Int) * (o k : Int)) (by omega) (by omega), w32i (by omega) (by omega)]; omega, sa_ld_of (by omega) (by omega), Option.bind_some, Int.toNat_natCast, k4.2.2.2.2.1]; rfl
                  · rw [sa_ld_of (by omega) (by omega), Option.bind_some, Int.toNat_natCast, k4.2.2.1]
      · refine qry (r := -1) ok (fun τ h8 => ?_) (fun τ h9 => ?_) r8 r9
        · obtain ⟨d1, d2, d3, d4, d5⟩ := h8.2.2.2.2.2.2
          obtain ⟨r, v1, _⟩ := d3.v (by decide) d5
          unfold g_X8_entry
          rw [if_neg h0, if_neg (by omega), if_pos hy.2, v1, if_neg (by omega)]
        · obtain ⟨τ1, e1, e2, e3, e4⟩ := l9l ok h9
          refine ⟨τ1, ?_, e4⟩
          have ne := nE_len (sB S) (bwy (sB S))
          unfold g_X9_entry
          rw [if_neg h0, p9_in1 hy.1 hy.2, Option.bind_some]
          dsimp only
          rw [if_neg one0, e1, Option.bind_some, e2.2.1.1, if_neg (by omega)]
    · refine qry (r := -2) ok (fun τ h8 => ?_) (fun τ h9 => ⟨τ, ?_, L9.rfl'⟩) r8 r9
      · unfold g_X8_entry
        rw [if_neg h0]
        by_cases z : y < 0
        · rw [if_pos z]
        · rw [if_neg z, if_neg (by omega)]
      · unfold g_X9_entry
        rw [if_neg h0, p9_in0 hy]; rfl
theorem S_row : Stp3 (InvD DR) g_X8_row g_X9_row := by
  intro x y z σ _ _ _ ⟨S, r8, r9, ok⟩
  have okB := ok.2.2.2.2.1
  have o1 := okB.1
  by_cases h0 : x < 0 ∨ z < 0 ∨ ¬ (0 ≤ y ∧ y ≤ 1)
  · refine qry (r := -2) ok (fun τ h8 => ?_) (fun τ h9 => ⟨τ, ?_, L9.rfl'⟩) r8 r9
    · unfold g_X8_row
      by_cases a : x < 0
      · rw [if_pos a]
      · rw [if_neg a]
        by_cases c : y < 0
        · rw [if_pos c]
        · rw [if_neg c]
          by_cases d : 1 < y
          · rw [if_pos d]
          · rw [if_neg d, if_neg (by omega)]
    · unfold g_X9_row
      by_cases a : x < 0
      · rw [if_pos a]
      · rw [if_neg a]
        by_cases c : z < 0
        · rw [if_pos c]
        · rw [if_neg c, p9_in0 (by omega)]; rfl
  · obtain ⟨k, rfl⟩ := Int.eq_ofNat_of_zero_le (show 0 ≤ x by omega)
    obtain ⟨i, rfl⟩ := Int.eq_ofNat_of_zero_le (show 0 ≤ z by omega)
    by_cases hk : k < nE (sB S) (bwy (sB S))
    · generalize hbb : sB S = b at *
      generalize hxx : sE b (bwy b) k = e at *
      refine qry (r := if y = 0 then (if i < nA b (bwy b) e then (wA b (bwy b) e i : Int) else -1) else (if i < nB b (bwy b) e then (wB b (bwy b) e i : Int) else -1)) ok (fun τ h8 => ?_) (fun τ h9 => ?_) r8 r9
      · obtain ⟨d1, d2, d3, d4, d5⟩ := h8.2.2.2.2.2.2
        rw [hbb] at d3 d5
        obtain ⟨r, v1, v3, v5, vl, vh, vk⟩ := d3.v (by decide) d5
        obtain ⟨k1, k2, k3, k4, k5, k6⟩ := vk k hk
        rw [hxx] at k3 k4
        have k1 : τ 157 k = (r k : Int) := k1
        have l5 := en_le okB (bwy b) k3
        unfold g_X8_row g_X8_row_J57 g_X8_row_J76
        rw [if_neg (by omega), if_neg (by omega), if_neg (by omega), if_pos (by omega), v1, if_pos (by omega), sa_ld_of (by omega) (by omega), Option.bind_some, Int.toNat_natCast, k1, k2, Option.bind_some, k4.2.2.2.2.1, k4.h7]
        by_cases hy : y = 0
        · rw [if_pos hy, if_pos hy, if_pos hy]
          by_cases hi : i < nA b (bwy b) e
          · rw [if_pos hi, if_neg (by rw [w32i (by omega) (by omega)]; omega), show ab_w32 ((0 : Int) + (i : Int)) = (i : Int) by rw [w32i (by omega) (by omega)]; omega, sa_ld_of (by omega) (by omega), Option.bind_some, Int.toNat_natCast, (k4.ra hi).2]
          · rw [if_neg hi, if_pos (by rw [w32i (by omega) (by omega)]; omega)]
        · rw [if_neg hy, if_neg hy, if_neg hy]
          by_cases hi : i < nB b (bwy b) e
          · rw [if_pos hi, if_neg (by rw [w32i (by omega) (by omega)]; omega), show ab_w32 ((nA b (bwy b) e : Int) + (i : Int)) = ((nA b (bwy b) e + i : Nat) : Int) by rw [w32i (by omega) (by omega)]; omega, sa_ld_of (by omega) (by omega), Option.bind_some, Int.toNat_natCast, (k4.rb hi).2]
          · rw [if_neg hi, if_pos (by rw [w32i (by omega) (by omega)]; omega)]
      · obtain ⟨τ1, e1, e2, e3, e4⟩ := l9l ok h9
        rw [hbb] at e2 e3
        refine ⟨τ1, ?_, e4⟩
        obtain ⟨t1, t2, ⟨o, t3⟩, t4, t5, t6, t7⟩ := e2
        obtain ⟨k1, k2, k3, k4⟩ := t3 k hk
        rw [hxx] at k3 k4
        have ne := nE_len b (bwy b)
        have l5 := en_le okB (bwy b) k3
        have ex := k3.1
        have o2 := okB.2.1 e.1 k3.1
        have q1 : (en b (bwy b) e).1.1 = nA b (bwy b) e := rfl
        have q2 : (en b (bwy b) e).2.1.1 = nB b (bwy b) e := rfl
        have ra := k4.2.2.2.1
        have rb := k4.2.2.2.2
        unfold Rw9 at ra rb
        rw [q1] at ra
        rw [q2] at rb
        unfold g_X9_row
        rw [if_neg (by omega), if_neg (by omega), p9_in1 (by omega) (by omega), Option.bind_some]
        dsimp only
        rw [if_neg one0, e1, Option.bind_some, t2.1, if_pos (by omega), sa_ld_of (by omega) (by omega), Option.bind_some, Int.toNat_natCast, k1]
        by_cases hy : y = 0
        · subst hy
          rw [if_pos rfl, show ab_w32 (ab_w32 ((12 : Int) * (o k : Int)) + ab_w32 ((6 : Int) * 0)) = ((12 * o k : Nat) : Int) by rw [w32i (x := (12 : Int) * (o k : Int)) (by omega) (by omega), w32i (x := (6 : Int) * 0) (by omega) (by omega), w32i (by omega) (by omega)]; omega, sa_ld_of (by omega) (by omega), Option.bind_some, Int.toNat_natCast, ra.1]
          by_cases hi : i < nA b (bwy b) e
          · have pl := (pA_lt okB (bwy b) k3 hi).1
            have ra2 : τ1 607 (12 * o k + 1 + i) = ((6 * e.1 + pA b (bwy b) e i : Nat) : Int) := ra.2 i hi
            rw [if_pos hi, if_neg (by omega), w32s (by omega), show ab_w32 (((12 * o k + 1 : Nat) : Int) + (i : Int)) = ((12 * o k + 1 + i : Nat) : Int) by rw [w32i (by omega) (by omega)]; omega, sa_ld_of (by omega) (by omega), Option.bind_some, Int.toNat_natCast, ra2, sa_ld_of (by omega) (by omega), Option.bind_some, Int.toNat_natCast, t1.2 e.1 k3.1 _ pl]; rfl
          · rw [if_neg hi, if_pos (by omega)]
        · have hy1 : y = 1 := by omega
          subst hy1
          rw [if_neg (by decide), show ab_w32 (ab_w32 ((12 : Int) * (o k : Int)) + ab_w32 ((6 : Int) * 1)) = ((12 * o k + 6 : Nat) : Int) by rw [w32i (x := (12 : Int) * (o k : Int)) (by omega) (by omega), w32i (x := (6 : Int) * 1) (by omega) (by omega), w32i (by omega) (by omega)]; omega, sa_ld_of (by omega) (by omega), Option.bind_some, Int.toNat_natCast, rb.1]
          by_cases hi : i < nB b (bwy b) e
          · have pl := (pB_lt okB (bwy b) k3 hi).1
            have rb2 : τ1 607 (12 * o k + 6 + 1 + i) = ((6 * e.1 + pB b (bwy b) e i : Nat) : Int) := rb.2 i hi
            rw [if_pos hi, if_neg (by omega), w32s (by omega), show ab_w32 (((12 * o k + 6 + 1 : Nat) : Int) + (i : Int)) = ((12 * o k + 6 + 1 + i : Nat) : Int) by rw [w32i (by omega) (by omega)]; omega, sa_ld_of (by omega) (by omega), Option.bind_some, Int.toNat_natCast, rb2, sa_ld_of (by omega) (by omega), Option.bind_some, Int.toNat_natCast, t1.2 e.1 k3.1 _ pl]; rfl
          · rw [if_neg hi, if_pos (by omega)]
    · refine qry (r := -1) ok (fun τ h8 => ?_) (fun τ h9 => ?_) r8 r9
      · obtain ⟨d1, d2, d3, d4, d5⟩ := h8.2.2.2.2.2.2
        obtain ⟨r, v1, _⟩ := d3.v (by decide) d5
        unfold g_X8_row
        rw [if_neg (by omega), if_neg (by omega), if_neg (by omega), if_pos (by omega), v1, if_neg (by omega)]
      · obtain ⟨τ1, e1, e2, e3, e4⟩ := l9l ok h9
        refine ⟨τ1, ?_, e4⟩
        have ne := nE_len (sB S) (bwy (sB S))
        unfold g_X9_row
        rw [if_neg (by omega), if_neg (by omega), p9_in1 (by omega) (by omega), Option.bind_some]
        dsimp only
        rw [if_neg one0, e1, Option.bind_some, e2.2.1.1, if_neg (by omega)]
