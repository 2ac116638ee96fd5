/-! shown, lost -/
/-- whether an entry shows a word: leads with it, above, below -/
def shw (b : BV) (wy : Nat → Int) (x : Nat × Nat) (w what : Int) : Int :=
  if what = 0 then (if (lw b x : Int) = w then 1 else 0) else if what = 1 then (if fnd (fun k => decide ((wA b wy x k : Int) = w)) (nA b wy x) 0 = -1 then 0 else 1) else (if fnd (fun k => decide ((wB b wy x k : Int) = w)) (nB b wy x) 0 = -1 then 0 else 1)
theorem p2_shows {σ : st_S} {e : Nat} {b : BV} {wy : Nat → Int} {x : Nat × Nat} (ok : OkB b) (hx : isE b x) (h : E8 σ e b wy x) (w : Int) {what : Int} (hw : 0 ≤ what ∧ what ≤ 2) : g_X2_shows e w what σ = some (shw b wy x w what, σ) := by
  have l5 := en_le ok wy hx
  have key : ∀ (f : Nat → Nat) (a q : Nat), q ≤ 5 → (∀ k, a + k < q → σ (e + 2) (a + k) = (f k : Int)) → ∀ (c n k : Nat), a + k + c = q → c < n → g_X2_shows_L53 n e w (q : Int) ((a + k : Nat) : Int) σ = some (if fnd (fun k => decide ((f k : Int) = w)) c k = -1 then 0 else 1, σ) := by
    intro f a q hq hf c
    induction c with
    | zero =>
      intro n k hk hn
      obtain ⟨m, rfl⟩ : ∃ m, n = m + 1 := ⟨n - 1, by omega⟩
      rw [g_X2_shows_L53, if_pos (by omega), fnd, if_pos rfl]
    | succ c ih =>
      intro n k hk hn
      obtain ⟨m, rfl⟩ : ∃ m, n = m + 1 := ⟨n - 1, by omega⟩
      rw [g_X2_shows_L53, if_neg (by omega), sa_ld_of (by omega) (by omega), Option.bind_some, Int.toNat_natCast, hf k (by omega), fnd]
      by_cases z : (f k : Int) = w
      · rw [if_pos z, if_pos (decide_eq_true z), if_neg (by omega)]
      · rw [if_neg z, if_neg (show ¬ decide ((f k : Int) = w) = true from fun q => z (of_decide_eq_true q)), w32s (by omega)]
        exact ih m (k + 1) (by omega) (by omega)
  unfold g_X2_shows g_X2_shows_J31 g_X2_shows_J48 shw
  rw [h.2.2.2.1, h.2.2.2.2.1, h.h7]
  by_cases h0 : what = 0
  · rw [if_pos h0, if_pos h0]
    by_cases z : (lw b x : Int) = w
    · rw [if_pos z, if_pos z]
    · rw [if_neg z, if_neg z]
  · rw [if_neg h0, if_neg h0]
    by_cases h1 : what = 1
    · rw [if_pos h1, if_pos h1, if_pos h1]
      have := key (wA b wy x) 0 (nA b wy x) (by omega) (fun k hk => by rw [Nat.zero_add]; exact (h.ra (by omega)).2) (nA b wy x) ab_FU 0 (by omega) (by show _ < 100000; omega)
      exact this
    · rw [if_neg h1, if_neg h1, if_neg h1]
      exact key (wB b wy x) (nA b wy x) (nA b wy x + nB b wy x) (by omega) (fun k hk => (h.rb (by omega)).2) (nB b wy x) ab_FU 0 (by omega) (by show _ < 100000; omega)
theorem S_shown : Stp2 (InvD DR) g_X8_shown g_X9_shown := by
  intro x y σ _ _ ⟨S, r8, r9, ok⟩
  have okB := ok.2.2.2.2.1
  have lL := nL_le (sB S) (bwy (sB S))
  by_cases hx : 0 ≤ x ∧ x < ((wl (sB S)).1 : Int)
  · by_cases hy : 0 ≤ y ∧ y ≤ 2
    · refine qry (r := (cN (fun l => decide (shw (sB S) (bwy (sB S)) (sE (sB S) (bwy (sB S)) (lF (sB S) (bwy (sB S)) l)) x y ≠ 0)) (nL (sB S) (bwy (sB S))) 0 0 : Int)) ok (fun τ h8 => ?_) (fun τ h9 => ?_) r8 r9
      · obtain ⟨hn, r, v⟩ := v8of h8
        have key : ∀ (c n l a : Nat), l + c = nL (sB S) (bwy (sB S)) → a ≤ l → c < n → g_X8_shown_L25 n x y (a : Int) (l : Int) τ = some ((cN (fun l => decide (shw (sB S) (bwy (sB S)) (sE (sB S) (bwy (sB S)) (lF (sB S) (bwy (sB S)) l)) x y ≠ 0)) c l a : Int), τ) := by
          intro c
          induction c with
          | zero =>
            intro n l a hl ha hn
            obtain ⟨m, rfl⟩ : ∃ m, n = m + 1 := ⟨n - 1, by omega⟩
            rw [g_X8_shown_L25, v.2.1, if_pos (by omega), cN]
          | succ c ih =>
            intro n l a hl ha hn'
            obtain ⟨m, rfl⟩ : ∃ m, n = m + 1 := ⟨n - 1, by omega⟩
            obtain ⟨q1, _⟩ := lF_at (show l < nL (sB S) (bwy (sB S)) by omega)
            obtain ⟨k1, k2, k3, k4, k5, k6⟩ := v.2.2.2.2.2 _ q1
            have k1 : τ 157 (lF (sB S) (bwy (sB S)) l) = (r (lF (sB S) (bwy (sB S)) l) : Int) := k1
            have f1 : τ 158 l = (lF (sB S) (bwy (sB S)) l : Int) := v.2.2.2.1 l (by omega)
            rw [g_X8_shown_L25, v.2.1, if_neg (by omega), sa_ld_of (by omega) (by omega), Option.bind_some, Int.toNat_natCast, f1, sa_ld_of (by omega) (by omega), Option.bind_some, Int.toNat_natCast, k1, k2, Option.bind_some, p2_shows okB k3 k4 x hy, Option.bind_some, cN]
            unfold g_X8_shown_J66
            dsimp only
            rw [w32s (by omega), w32s (by omega)]
            by_cases e : shw (sB S) (bwy (sB S)) (sE (sB S) (bwy (sB S)) (lF (sB S) (bwy (sB S)) l)) x y = 0
            · rw [if_pos e, if_neg (show ¬ decide (shw (sB S) (bwy (sB S)) (sE (sB S) (bwy (sB S)) (lF (sB S) (bwy (sB S)) l)) x y ≠ 0) = true from fun q => (of_decide_eq_true q) e)]; exact ih m (l + 1) a (by omega) (by omega) (by omega)
            · rw [if_neg e, if_pos (decide_eq_true e)]; exact ih m (l + 1) (a + 1) (by omega) (by omega) (by omega)
        unfold g_X8_shown
        rw [p8_isWord h8.2.2.2.2.2.2.1, if_pos hx, Option.bind_some]
        dsimp only
        rw [if_neg one0, if_neg (by omega), if_pos hy.2]
        exact key _ ab_FU 0 0 (by omega) (by omega) (by show _ < 100000; omega)
      · obtain ⟨τ0, w1, w2, w3, w4⟩ := w9 ok h9 x
        obtain ⟨τ1, e1, ⟨hn, o, v⟩, _, e3, e4⟩ := v9of ok (h9.lay (fun a ha => w4.1 a (by omega)) (fun f hf => w4.2 f hf))
        refine ⟨τ1, ?_, w4.trans e4⟩
        -- a row
        have row : ∀ (K : Int → Int → Int → Int → Int → st_S → Option (Int × st_S)) (a l : Int) (s R : Nat) (q : RW), s < bn (sB S) → R + 5 < 864 → Rw9 τ1 R s q → q.1 ≤ 5 → (∀ k, k < q.1 → q.2 k < bsz (sB S) s) → ∀ (c n k : Nat), k + c = q.1 → c < n → ∀ is : Int, (is = 0 ∨ is = 1) → 0 < y → g_X9_shown_L97 K n x y a l is (R : Int) ((k + 1 : Nat) : Int) τ1 = K x y a l (if is = 1 then 1 else if fnd (fun k => decide ((tw (sB S) s (q.2 k) : Int) = x)) c k = -1 then 0 else 1) τ1 := by
          intro K a l s R q hs hR hq h5 hi c
          have o1 := okB.1
          have o2 := okB.2.1 s hs
          induction c with
          | zero =>
            intro n k hk hn is his hy0
            obtain ⟨m, rfl⟩ : ∃ m, n = m + 1 := ⟨n - 1, by omega⟩
            rw [g_X9_shown_L97, sa_ld_of (by omega) (by omega), Option.bind_some, Int.toNat_natCast, hq.1, if_pos (by omega), fnd, if_pos rfl]
            rcases his with rfl | rfl
            · rw [if_neg (by decide)]
            · rw [if_pos rfl]
          | succ c ih =>
            intro n k hk hn' is his hy0
            obtain ⟨m, rfl⟩ : ∃ m, n = m + 1 := ⟨n - 1, by omega⟩
            have e1 := hq.2 k (by omega)
            have i1 := hi k (by omega)
            have w1 := v.2.2.2.1.2 s hs _ i1
            rw [g_X9_shown_L97, sa_ld_of (by omega) (by omega), Option.bind_some, Int.toNat_natCast, hq.1, if_neg (by omega), if_neg (by omega), fnd]
            unfold g_X9_shown_J137 g_X9_shown_J142
            rw [w32s (by omega)]
            rcases his with rfl | rfl
            · rw [if_pos rfl, if_neg (by decide), show ab_w32 ((R : Int) + ((k + 1 : Nat) : Int)) = ((R + 1 + k : Nat) : Int) by rw [w32i (by omega) (by omega)]; omega, sa_ld_of (by omega) (by omega), Option.bind_some, Int.toNat_natCast, e1, sa_ld_of (by omega) (by omega), Option.bind_some, Int.toNat_natCast, w1]
              by_cases z : (tw (sB S) s (q.2 k) : Int) = x
              · rw [if_pos z, if_pos (decide_eq_true z), if_neg (by omega)]
                have := ih m (k + 1) (by omega) (by omega) 1 (Or.inr rfl) hy0
                rw [if_pos rfl] at this; exact this
              · rw [if_neg z, if_neg (show ¬ decide ((tw (sB S) s (q.2 k) : Int) = x) = true from fun q => z (of_decide_eq_true q))]
                have := ih m (k + 1) (by omega) (by omega) 0 (Or.inl rfl) hy0
                rw [if_neg (by decide)] at this; exact this
            · rw [if_neg one0, if_pos rfl]
              have := ih m (k + 1) (by omega) (by omega) 1 (Or.inr rfl) hy0
              rw [if_pos rfl] at this; exact this
        have key : ∀ (c n l a : Nat), l + c = nL (sB S) (bwy (sB S)) → a ≤ l → c < n → g_X9_shown_L32 n x y (a : Int) (l : Int) τ1 = some ((cN (fun l => decide (shw (sB S) (bwy (sB S)) (sE (sB S) (bwy (sB S)) (lF (sB S) (bwy (sB S)) l)) x y ≠ 0)) c l a : Int), τ1) := by
          intro c
          induction c with
          | zero =>
            intro n l a hl ha hn
            obtain ⟨m, rfl⟩ : ∃ m, n = m + 1 := ⟨n - 1, by omega⟩
            rw [g_X9_shown_L32, v.2.1, if_pos (by omega), cN]
          | succ c ih =>
            intro n l a hl ha hn'
            obtain ⟨m, rfl⟩ : ∃ m, n = m + 1 := ⟨n - 1, by omega⟩
            obtain ⟨q1, _⟩ := lF_at (show l < nL (sB S) (bwy (sB S)) by omega)
            obtain ⟨k1, k2, k3, k4, k5, k6⟩ := v.2.2.2.2 _ q1
            have l5 := en_le okB (bwy (sB S)) k3
            have z1 : nA (sB S) (bwy (sB S)) (sE (sB S) (bwy (sB S)) (lF (sB S) (bwy (sB S)) l)) = (en (sB S) (bwy (sB S)) (sE (sB S) (bwy (sB S)) (lF (sB S) (bwy (sB S)) l))).1.1 := rfl
            have z2 : nB (sB S) (bwy (sB S)) (sE (sB S) (bwy (sB S)) (lF (sB S) (bwy (sB S)) l)) = (en (sB S) (bwy (sB S)) (sE (sB S) (bwy (sB S)) (lF (sB S) (bwy (sB S)) l))).2.1.1 := rfl
            have fin : ∀ v6 : Int, v6 = shw (sB S) (bwy (sB S)) (sE (sB S) (bwy (sB S)) (lF (sB S) (bwy (sB S)) l)) x y → g_X9_shown_J150 (g_X9_shown_L32 m) x y (a : Int) (l : Int) v6 τ1 = some ((cN (fun l => decide (shw (sB S) (bwy (sB S)) (sE (sB S) (bwy (sB S)) (lF (sB S) (bwy (sB S)) l)) x y ≠ 0)) (c + 1) l a : Int), τ1) := by
              intro v6 h6
              unfold g_X9_shown_J150 g_X9_shown_J161
              rw [cN, w32s (by omega), w32s (by omega), Int.add_zero, w32i (x := (a : Int)) (by omega) (by omega)]
              by_cases e : v6 = 0
              · rw [if_pos e, if_neg (show ¬ decide (shw (sB S) (bwy (sB S)) (sE (sB S) (bwy (sB S)) (lF (sB S) (bwy (sB S)) l)) x y ≠ 0) = true from fun q => (of_decide_eq_true q) (by rw [← h6]; exact e))]; exact ih m (l + 1) a (by omega) (by omega) (by omega)
              · rw [if_neg e, if_pos (decide_eq_true (by rw [← h6]; exact e))]; exact ih m (l + 1) (a + 1) (by omega) (by omega) (by omega)
            rw [g_X9_shown_L32, v.2.1, if_neg (by omega), p9_firstOf hn v (by omega), Option.bind_some]
            dsimp only
            rw [sa_ld_of (by omega) (by omega), Option.bind_some, Int.toNat_natCast, k1]
            generalize hX : sE (sB S) (bwy (sB S)) (lF (sB S) (bwy (sB S)) l) = X at *
            generalize hO : o (lF (sB S) (bwy (sB S)) l) = O at *
            have r12 : ab_w32 ((12 : Int) * (O : Int)) = ((12 * O : Nat) : Int) := by rw [w32i (by omega) (by omega)]; omega
            unfold g_X9_shown_J72 g_X9_shown_J73 g_X9_shown_J91
            rw [r12]
            by_cases h0 : y = 0
            · rw [if_pos h0, p9_leadWord okB k3 k2 v.2.2.2.1 k4, Option.bind_some]
              dsimp only
              have skip : ∀ v6 : Int, g_X9_shown_L97 (fun w150_1 w150_2 w150_3 w150_4 w150_6 σx150 => g_X9_shown_J150 (g_X9_shown_L32 m) w150_1 w150_2 w150_3 w150_4 w150_6 σx150) ab_FU x y (a : Int) (l : Int) v6 (ab_w32 (((12 * O : Nat) : Int) + 0)) 1 τ1 = g_X9_shown_J150 (g_X9_shown_L32 m) x y (a : Int) (l : Int) v6 τ1 := by
                intro v6
                rw [show ab_FU = 99999 + 1 from rfl, Int.add_zero, w32i (x := ((12 * O : Nat) : Int)) (by omega) (by omega), g_X9_shown_L97, sa_ld_of (by omega) (by omega), Option.bind_some]
                split
                · rfl
                · rw [if_pos (by omega)]
              rw [if_neg (show ¬ y = 2 by omega), if_neg (show ¬ y = 2 by omega), skip, skip]
              by_cases z : (lw (sB S) X : Int) = x
              · rw [if_pos z]; exact fin 1 (by unfold shw; rw [if_pos h0, if_pos z])
              · rw [if_neg z]; exact fin 0 (by unfold shw; rw [if_pos h0, if_neg z])
            · rw [if_neg h0]
              by_cases h1 : y = 1
              · rw [if_neg (show ¬ y = 2 by omega), Int.add_zero, w32i (x := ((12 * O : Nat) : Int)) (by omega) (by omega)]
                refine (row _ (a : Int) (l : Int) X.1 (12 * O) (en (sB S) (bwy (sB S)) X).1 k3.1 (by omega) k4.2.2.2.1 (by omega) (fun k hk => (pA_lt okB (bwy (sB S)) k3 hk).1) _ ab_FU 0 (by rw [Nat.zero_add]) (by show _ < 100000; omega) 0 (Or.inl rfl) (by omega)).trans ?_
                rw [if_neg (by decide)]
                exact fin _ (by unfold shw; rw [if_neg h0, if_pos h1]; rfl)
              · rw [if_pos (show y = 2 by omega), show ab_w32 (((12 * O : Nat) : Int) + 6) = ((12 * O + 6 : Nat) : Int) by rw [w32i (by omega) (by omega)]; omega]
                refine (row _ (a : Int) (l : Int) X.1 (12 * O + 6) (en (sB S) (bwy (sB S)) X).2.1 k3.1 (by omega) k4.2.2.2.2 (by omega) (fun k hk => (pB_lt okB (bwy (sB S)) k3 hk).1) _ ab_FU 0 (by rw [Nat.zero_add]) (by show _ < 100000; omega) 0 (Or.inl rfl) (by omega)).trans ?_
                rw [if_neg (by decide)]
                exact fin _ (by unfold shw; rw [if_neg h0, if_neg h1]; rfl)
        unfold g_X9_shown
        rw [w1, if_pos hx, Option.bind_some]
        dsimp only
        rw [if_neg one0, p9_in1 hy.1 hy.2, Option.bind_some]
        dsimp only
        rw [if_neg one0, e1, Option.bind_some]
        exact key _ ab_FU 0 0 (by omega) (by omega) (by show _ < 100000; omega)
    · refine qry (r := -2) ok (fun τ h8 => ?_) (fun τ h9 => ?_) r8 r9
      · unfold g_X8_shown
        rw [p8_isWord h8.2.2.2.2.2.2.1, if_pos hx, Option.bind_some]
        dsimp only
        rw [if_neg one0]
        by_cases h0 : y < 0
        · rw [if_pos h0]
        · rw [if_neg h0, if_neg (by omega)]
      · obtain ⟨τ1, e1, e2, e3, e4⟩ := w9 ok h9 x
        refine ⟨τ1, ?_, e4⟩
        unfold g_X9_shown
        rw [e1, if_pos hx, Option.bind_some]
        dsimp only
        rw [if_neg one0, p9_in0 hy]; rfl
  · refine qry (r := -2) ok (fun τ h8 => ?_) (fun τ h9 => ?_) r8 r9
    · unfold g_X8_shown
      rw [p8_isWord h8.2.2.2.2.2.2.1, if_neg hx]; rfl
    · obtain ⟨τ1, e1, e2, e3, e4⟩ := w9 ok h9 x
      refine ⟨τ1, ?_, e4⟩
      unfold g_X9_shown
      rw [e1, if_neg hx]; rfl
/-! lost -/
def rmv (f : Nat → Nat) : Nat → Nat → Nat → Nat
  | 0, _, a => a
  | c + 1, k, a => rmv f c (k + 1) (andn a (2 ^ f k))
theorem andn_l {a m : Nat} (ha : a < 4096) : andn a m < 4096 := Nat.xor_lt_two_pow (n := 12) ha (and12 ha)
theorem rmv_lt {f : Nat → Nat} : ∀ (c k a : Nat), a < 4096 → rmv f c k a < 4096 := by
  intro c
  induction c with
  | zero => intro k a h; exact h
  | succ c ih => intro k a h; exact ih (k + 1) _ (andn_l h)
theorem rmv_bit {f : Nat → Nat} {u : Nat} : ∀ (c k a : Nat), (rmv f c k a).testBit u = true ↔ a.testBit u = true ∧ ∀ j, k ≤ j → j < k + c → f j ≠ u := by
  intro c
  induction c with
  | zero => intro k a; exact ⟨fun h => ⟨h, fun j h1 h2 => by omega⟩, fun h => h.1⟩
  | succ c ih =>
    intro k a
    rw [rmv, ih, andn_bit, Bool.and_eq_true, Bool.not_eq_true', Nat.testBit_two_pow]
    constructor
    · rintro ⟨⟨h1, h2⟩, h3⟩
      refine ⟨h1, fun j j1 j2 => ?_⟩
      by_cases z : j = k
      · subst z; exact of_decide_eq_false h2
      · exact h3 j (by omega) (by omega)
    · rintro ⟨h1, h2⟩
      exact ⟨⟨h1, decide_eq_false (h2 k (by omega) (by omega))⟩, fun j j1 j2 => h2 j (by omega) (by omega)⟩
theorem rm6 {s p : Nat} (hs : s < 12) (hp : p < 6) : ab_rm_ ((6 * s + p : Nat) : Int) 6 = some (p : Int) := by
  have key : ∀ s : Nat, s < 12 → ∀ p : Nat, p < 6 → ab_rm_ ((6 * s + p : Nat) : Int) 6 = some (p : Int) := by decide +kernel
  exact key s hs p hp
theorem S_lost : Stp1 (InvD DR) g_X8_lost g_X9_lost := by
  intro x σ _ ⟨S, r8, r9, ok⟩
  have okB := ok.2.2.2.2.1
  have o1 := okB.1
  by_cases h0 : 0 ≤ x
  · obtain ⟨k, rfl⟩ := Int.eq_ofNat_of_zero_le h0
    by_cases hk : k < nE (sB S) (bwy (sB S))
    · refine qry (r := (gG (sB S) (bwy (sB S)) (sE (sB S) (bwy (sB S)) k) : Int)) ok (fun τ h8 => ?_) (fun τ h9 => ?_) r8 r9
      · obtain ⟨hn, r, v⟩ := v8of h8
        obtain ⟨k1, k2, k3, k4, k5, k6⟩ := v.2.2.2.2.2 k hk
        have k1 : τ 157 k = (r k : Int) := k1
        unfold g_X8_lost
        rw [if_pos h0, v.1, if_neg (by omega), sa_ld_of (by omega) (by omega), Option.bind_some, Int.toNat_natCast, k1, k2, Option.bind_some, k4.h8]
      · obtain ⟨τ1, e1, ⟨hn, o, v⟩, _, e3, e4⟩ := v9of ok h9
        refine ⟨τ1, ?_, e4⟩
        obtain ⟨k1, k2, k3, k4, k5, k6⟩ := v.2.2.2.2 k hk
        generalize hX : sE (sB S) (bwy (sB S)) k = X at *
        generalize hO : o k = O at *
        have l5 := en_le okB (bwy (sB S)) k3
        have hs := k3.1
        have hp := k3.2
        have o2 := okB.2.1 X.1 hs
        have z1 : nA (sB S) (bwy (sB S)) X = (en (sB S) (bwy (sB S)) X).1.1 := rfl
        have z2 : nB (sB S) (bwy (sB S)) X = (en (sB S) (bwy (sB S)) X).2.1.1 := rfl
        have row : ∀ (K : Int → Int → Int → st_S → Option (Int × st_S)) (bl : Nat) (q : RW), bl < 2 → Rw9 τ1 (12 * O + 6 * bl) X.1 q → q.1 ≤ 5 → (∀ k, k < q.1 → q.2 k < bsz (sB S) X.1) → ∀ (c n k a : Nat), k + c = q.1 → a < 4096 → c < n → g_X9_lost_L66 K n (O : Int) (a : Int) (bl : Int) ((k + 1 : Nat) : Int) τ1 = K (O : Int) (rmv q.2 c k a : Int) (bl : Int) τ1 := by
          intro K bl q hbl hq h5 hi c
          have rr : ab_w32 (ab_w32 ((12 : Int) * (O : Int)) + ab_w32 ((6 : Int) * (bl : Int))) = ((12 * O + 6 * bl : Nat) : Int) := by
            rw [w32i (x := (12 : Int) * (O : Int)) (by omega) (by omega), w32i (x := (6 : Int) * (bl : Int)) (by omega) (by omega), w32i (by omega) (by omega)]; omega
          induction c with
          | zero =>
            intro n k a hk ha hn
            obtain ⟨m, rfl⟩ : ∃ m, n = m + 1 := ⟨n - 1, by omega⟩
            rw [g_X9_lost_L66, rr, sa_ld_of (by omega) (by omega), Option.bind_some, Int.toNat_natCast, hq.1, if_pos (by omega), rmv]
          | succ c ih =>
            intro n k a hk ha hn'
            obtain ⟨m, rfl⟩ : ∃ m, n = m + 1 := ⟨n - 1, by omega⟩
            have e1 := hq.2 k (by omega)
            have i1 := hi k (by omega)
            rw [g_X9_lost_L66, rr, sa_ld_of (by omega) (by omega), Option.bind_some, Int.toNat_natCast, hq.1, if_neg (by omega), show ab_w32 (((12 * O + 6 * bl : Nat) : Int) + ((k + 1 : Nat) : Int)) = ((12 * O + 6 * bl + 1 + k : Nat) : Int) by rw [w32i (by omega) (by omega)]; omega, sa_ld_of (by omega) (by omega), Option.bind_some, Int.toNat_natCast, e1, rm6 (by omega) (by omega), Option.bind_some, andn12 ha (by omega), w32s (by omega), rmv]
            exact ih m (k + 1) _ (by omega) (andn_l ha) (by omega)
        have p2 := p2le (k := bsz (sB S) X.1) (by omega)
        generalize hA0 : andn (2 ^ bsz (sB S) X.1 - 1) (2 ^ X.2) = A0
        have a0 : A0 < 4096 := by rw [← hA0]; exact andn_l p2.1
        have run : g_X9_lost (k : Int) τ = some ((rmv (pB (sB S) (bwy (sB S)) X) (nB (sB S) (bwy (sB S)) X) 0 (rmv (pA (sB S) (bwy (sB S)) X) (nA (sB S) (bwy (sB S)) X) 0 A0) : Int), τ1) := by
          unfold g_X9_lost
          rw [if_pos h0, e1, Option.bind_some, v.1, if_pos (by omega), sa_ld_of (by omega) (by omega), Option.bind_some, Int.toNat_natCast, k1, sa_ld_of (by omega) (by omega), Option.bind_some, Int.toNat_natCast, k4.1, p9_terms e3 okB hs, Option.bind_some]
          dsimp only
          rw [sa_ld_of (by omega) (by omega), Option.bind_some, Int.toNat_natCast, k4.2.1, sub1 (by omega), andn12 p2.1 (by omega), hA0, show ab_FU = 99997 + 1 + 1 + 1 from rfl, g_X9_lost_L57, if_neg (by decide)]
          refine (row _ 0 (en (sB S) (bwy (sB S)) X).1 (by omega) (by rw [Nat.mul_zero, Nat.add_zero]; exact k4.2.2.2.1) (by omega) (fun k hk => (pA_lt okB (bwy (sB S)) k3 hk).1) _ (99997 + 1 + 1 + 1) 0 A0 (by rw [Nat.zero_add]) a0 (by omega)).trans ?_
          rw [show ab_w32 (((0 : Nat) : Int) + 1) = ((1 : Nat) : Int) from w32s (by omega), g_X9_lost_L57, if_neg (by decide)]
          refine (row _ 1 (en (sB S) (bwy (sB S)) X).2.1 (by omega) (by rw [Nat.mul_one]; exact k4.2.2.2.2) (by omega) (fun k hk => (pB_lt okB (bwy (sB S)) k3 hk).1) _ ab_FU 0 _ (by rw [Nat.zero_add]) (rmv_lt _ _ _ a0) (by show _ < 100000; omega)).trans ?_
          rw [show ab_w32 (((1 : Nat) : Int) + 1) = ((2 : Nat) : Int) from w32s (by omega), g_X9_lost_L57, if_pos (by decide)]
          rfl
        rw [run]
        refine congrArg some (Prod.ext ?_ rfl)
        show ((_ : Nat) : Int) = ((_ : Nat) : Int)
        refine congrArg (fun z : Nat => (z : Int)) ?_
        have eo := (en_ok okB (bwy (sB S)) k3).2.2.2.2
        apply Nat.eq_of_testBit_eq
        intro u
        have e : (rmv (pB (sB S) (bwy (sB S)) X) (nB (sB S) (bwy (sB S)) X) 0 (rmv (pA (sB S) (bwy (sB S)) X) (nA (sB S) (bwy (sB S)) X) 0 A0)).testBit u = true ↔ (gG (sB S) (bwy (sB S)) X).testBit u = true := by
          have eu := eo u
          have eu : (gG (sB S) (bwy (sB S)) X).testBit u = true ↔ (u < bsz (sB S) X.1 ∧ u ≠ X.2) ∧ ¬ inR (en (sB S) (bwy (sB S)) X).1 u ∧ ¬ inR (en (sB S) (bwy (sB S)) X).2.1 u := eu
          rw [eu, rmv_bit, rmv_bit, ← hA0, andn_bit, Bool.and_eq_true, Bool.not_eq_true', Nat.testBit_two_pow, Nat.testBit_two_pow_sub_one]
          constructor
          · rintro ⟨⟨⟨h1, h2⟩, h3⟩, h4⟩
            exact ⟨⟨of_decide_eq_true h1, fun z => (of_decide_eq_false h2) z.symm⟩, fun ⟨j, j1, j2⟩ => h3 j (by omega) (by omega) j2, fun ⟨j, j1, j2⟩ => h4 j (by omega) (by omega) j2⟩
          · rintro ⟨⟨h1, h2⟩, h3, h4⟩
            exact ⟨⟨⟨decide_eq_true h1, decide_eq_false (fun z => h2 z.symm)⟩, fun j _ j2 z => h3 ⟨j, by omega, z⟩⟩, fun j _ j2 z => h4 ⟨j, by omega, z⟩⟩
        cases h1 : (rmv (pB (sB S) (bwy (sB S)) X) (nB (sB S) (bwy (sB S)) X) 0 (rmv (pA (sB S) (bwy (sB S)) X) (nA (sB S) (bwy (sB S)) X) 0 A0)).testBit u <;> cases h3 : (gG (sB S) (bwy (sB S)) X).testBit u
        · rfl
        · rw [h1, h3] at e; have := e.mpr rfl; cases this
        · rw [h1, h3] at e; have := e.mp rfl; cases this
        · rfl
    · refine qry (r := -1) ok (fun τ h8 => ?_) (fun τ h9 => ?_) r8 r9
      · obtain ⟨hn, r, v⟩ := v8of h8
        unfold g_X8_lost
        rw [if_pos h0, v.1, if_pos (by omega)]
      · obtain ⟨τ1, e1, ⟨hn, o, v⟩, _, e3, e4⟩ := v9of ok h9
        refine ⟨τ1, ?_, e4⟩
        unfold g_X9_lost
        rw [if_pos h0, e1, Option.bind_some, v.1, if_neg (by omega)]
  · refine qry (r := -2) ok (fun τ h8 => ?_) (fun τ h9 => ⟨τ, ?_, L9.rfl'⟩) r8 r9
    · unfold g_X8_lost; rw [if_neg h0]
    · unfold g_X9_lost; rw [if_neg h0]
