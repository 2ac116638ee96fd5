/-! apart, beside -/
def ap (b : BV) (s : Nat) : Nat → Nat → Int → Int
  | 0, _, k => k
  | c + 1, t, k => ap b s c (t + 1) (if (k = -1 ∨ pc t < pc k.toNat) ∧ shg b s t = 2 ^ s then (t : Int) else k)
theorem S_apart : Stp1 (InvD DR) g_X8_apart g_X9_apart := by
  intro x σ _ ⟨S, r8, r9, ok⟩
  have okB := ok.2.2.2.2.1
  have o1 := okB.1
  by_cases hx : 0 ≤ x ∧ x < (bn (sB S) : Int)
  · obtain ⟨s, rfl⟩ := Int.eq_ofNat_of_zero_le hx.1
    have hs : s < bn (sB S) := by omega
    have o2 := okB.2.1 s hs
    have p2 := p2le (k := bsz (sB S) s) (by omega)
    have e6 : ab_shl 1 (bsz (sB S) s : Int) = ((2 ^ bsz (sB S) s : Nat) : Int) := shl1 (by omega)
    have e7 : ab_shl 1 (s : Int) = ((2 ^ s : Nat) : Int) := shl1 (by omega)
    refine qry (r := ap (sB S) s (2 ^ bsz (sB S) s) 0 (-1)) ok (fun τ h8 => ?_) (fun τ h9 => ?_) r8 r9
    · have r2 : τ 15 s = (bsz (sB S) s : Int) := (h8.2.2.2.1.2.1 s hs).2
      have ss : ∀ t : Nat, t < 4096 → g_X8_stringsSharing (s : Int) (t : Int) τ = some ((shg (sB S) s t : Int), τ) := fun t ht => p8_stringsSharing okB h8.2.2.2.1 h8.2.2.2.2.2.2.1 h8.2.2.2.2.2.2.2.1 hs ht
      have key : ∀ (c n t : Nat) (k : Int), t + c = 2 ^ bsz (sB S) s → (k = -1 ∨ 0 ≤ k ∧ k < 4096) → c < n → g_X8_apart_L15 n (s : Int) k (t : Int) τ = some (ap (sB S) s c t k, τ) := by
        intro c
        induction c with
        | zero =>
          intro n t k ht hk hn
          obtain ⟨m, rfl⟩ : ∃ m, n = m + 1 := ⟨n - 1, by omega⟩
          rw [g_X8_apart_L15, sa_ld_of (by omega) (by omega), Option.bind_some, Int.toNat_natCast, r2, e6, if_pos (by omega), ap]
        | succ c ih =>
          intro n t k ht hk hn
          obtain ⟨m, rfl⟩ : ∃ m, n = m + 1 := ⟨n - 1, by omega⟩
          have j46 : (k = -1 ∨ pc t < pc k.toNat) → g_X8_apart_J46 (g_X8_apart_L15 m) (s : Int) k (t : Int) τ = some (ap (sB S) s (c + 1) t k, τ) := by
            intro hc
            unfold g_X8_apart_J46 g_X8_apart_J51 g_X8_apart_J72
            rw [if_neg one0, ss t (by omega), Option.bind_some, e7, ap, w32s (by omega)]
            dsimp only
            by_cases e : shg (sB S) s t = 2 ^ s
            · rw [if_pos (by omega), if_pos ⟨hc, e⟩]; exact ih m (t + 1) _ (by omega) (by omega) (by omega)
            · rw [if_neg (by omega), if_neg (fun q => e q.2)]; exact ih m (t + 1) _ (by omega) hk (by omega)
          rw [g_X8_apart_L15, sa_ld_of (by omega) (by omega), Option.bind_some, Int.toNat_natCast, r2, e6, if_neg (by omega)]
          by_cases hk1 : k = -1
          · rw [if_pos hk1]; exact j46 (Or.inl hk1)
          · obtain ⟨k', rfl⟩ := Int.eq_ofNat_of_zero_le (show 0 ≤ k by omega)
            rw [if_neg hk1, jBitCount (by omega), Option.bind_some]
            dsimp only
            rw [jBitCount (by omega), Option.bind_some]
            dsimp only
            by_cases e : pc k' ≤ pc t
            · rw [if_pos (by omega), ap, if_neg (fun q => by rcases q.1 with z | z; exact hk1 z; rw [Int.toNat_natCast] at z; omega)]
              unfold g_X8_apart_J51 g_X8_apart_J72
              rw [if_pos rfl, w32s (by omega)]
              exact ih m (t + 1) _ (by omega) hk (by omega)
            · rw [if_neg (by omega)]; exact j46 (Or.inr (by rw [Int.toNat_natCast]; omega))
      unfold g_X8_apart
      rw [p8_isString h8.2.2.2.1, if_pos hx, Option.bind_some]
      dsimp only
      rw [if_neg one0]
      exact key _ ab_FU 0 (-1) (by omega) (Or.inl rfl) (by show _ < 100000; omega)
    · obtain ⟨τ1, e1, e2, e3, e4⟩ := l9w ok h9
      refine ⟨τ1, ?_, e4⟩
      have ss : ∀ t : Nat, t < 4096 → g_X9_sharing0 (s : Int) (t : Int) τ1 = some ((shg (sB S) s t : Int), τ1) := fun t ht => p9_sharing0 okB e3 e2 hs ht
      have key : ∀ (c n t : Nat) (k : Int), t + c = 2 ^ bsz (sB S) s → (k = -1 ∨ 0 ≤ k ∧ k < 4096) → c < n → g_X9_apart_L19 n (s : Int) k (t : Int) τ1 = some (ap (sB S) s c t k, τ1) := by
        intro c
        induction c with
        | zero =>
          intro n t k ht hk hn
          obtain ⟨m, rfl⟩ : ∃ m, n = m + 1 := ⟨n - 1, by omega⟩
          rw [g_X9_apart_L19, p9_terms e3 okB hs, Option.bind_some]
          dsimp only
          rw [e6, if_pos (by omega), ap]
        | succ c ih =>
          intro n t k ht hk hn
          obtain ⟨m, rfl⟩ : ∃ m, n = m + 1 := ⟨n - 1, by omega⟩
          have j46 : (k = -1 ∨ pc t < pc k.toNat) → g_X9_apart_J46 (g_X9_apart_L19 m) (s : Int) k (t : Int) τ1 = some (ap (sB S) s (c + 1) t k, τ1) := by
            intro hc
            unfold g_X9_apart_J46 g_X9_apart_J60
            rw [ss t (by omega), Option.bind_some, e7, ap, w32s (by omega)]
            dsimp only
            by_cases e : shg (sB S) s t = 2 ^ s
            · rw [if_pos (by omega), if_pos ⟨hc, e⟩]; exact ih m (t + 1) _ (by omega) (by omega) (by omega)
            · rw [if_neg (by omega), if_neg (fun q => e q.2)]; exact ih m (t + 1) _ (by omega) hk (by omega)
          rw [g_X9_apart_L19, p9_terms e3 okB hs, Option.bind_some]
          dsimp only
          rw [e6, if_neg (by omega)]
          by_cases hk1 : k = -1
          · rw [if_pos hk1]; exact j46 (Or.inl hk1)
          · obtain ⟨k', rfl⟩ := Int.eq_ofNat_of_zero_le (show 0 ≤ k by omega)
            rw [if_neg hk1, p9_bits (by omega), Option.bind_some]
            dsimp only
            rw [p9_bits (by omega), Option.bind_some]
            dsimp only
            by_cases e : pc k' ≤ pc t
            · rw [if_pos (by omega), ap, if_neg (fun q => by rcases q.1 with z | z; exact hk1 z; rw [Int.toNat_natCast] at z; omega)]
              unfold g_X9_apart_J60
              rw [w32s (by omega)]
              exact ih m (t + 1) _ (by omega) hk (by omega)
            · rw [if_neg (by omega)]; exact j46 (Or.inr (by rw [Int.toNat_natCast]; omega))
      unfold g_X9_apart
      rw [p9_isString h9.2.2.2.1 okB, if_pos hx, Option.bind_some]
      dsimp only
      rw [if_neg one0, e1, Option.bind_some]
      exact key _ ab_FU 0 (-1) (by omega) (Or.inl rfl) (by show _ < 100000; omega)
  · refine qry (r := -2) ok (fun τ h8 => ?_) (fun τ h9 => ⟨τ, ?_, L9.rfl'⟩) r8 r9
    · unfold g_X8_apart
      rw [p8_isString h8.2.2.2.1, if_neg hx]; rfl
    · unfold g_X9_apart
      rw [p9_isString h9.2.2.2.1 okB, if_neg hx]; rfl
def flP (b : BV) (s : Nat) (w o : Int) : Nat → Bool := fun i => decide ((tw b s (i - 1) : Int) = w ∧ (tw b s i : Int) = o)
def flS (b : BV) (w o : Int) : Nat → Bool := fun s => decide (fnd (flP b s w o) (bsz b s - 1) 1 ≠ -1)
def fl (b : BV) (w o : Int) : Int := if fnd (flS b w o) (bn b) 0 = -1 then 0 else 1
theorem p5_follow {σ : st_S} {b : BV} (ok : OkB b) (hT : T8 σ b) (w o : Int) : g_X5_follow w o σ = some (fl b w o, σ) := by
  have o1 := ok.1
  have in1 : ∀ (s : Nat), s < bn b → ∀ (K : Int → Int → Int → st_S → Option (Int × st_S)) (c n i : Nat), i + c = bsz b s → 1 ≤ i → c < n → g_X5_follow_L18 K n w o (s : Int) ((6 * s + i : Nat) : Int) σ = if fnd (flP b s w o) c i = -1 then K w o (s : Int) σ else some (1, σ) := by
    intro s hs K c
    have o2 := ok.2.1 s hs
    induction c with
    | zero =>
      intro n i hi h1 hn
      obtain ⟨m, rfl⟩ : ∃ m, n = m + 1 := ⟨n - 1, by omega⟩
      rw [g_X5_follow_L18, sa_ld_of (by omega) (by omega), Option.bind_some, Int.toNat_natCast, (hT.2 s hs).1, w6 (by omega) (by omega), if_pos (by omega), fnd, if_pos rfl]
    | succ c ih =>
      intro n i hi h1 hn
      obtain ⟨m, rfl⟩ : ∃ m, n = m + 1 := ⟨n - 1, by omega⟩
      have t1 := ((hT.2 s hs).2 i (by omega)).2.1
      have t2 := ((hT.2 s hs).2 (i - 1) (by omega)).2.1
      rw [g_X5_follow_L18, sa_ld_of (by omega) (by omega), Option.bind_some, Int.toNat_natCast, (hT.2 s hs).1, w6 (by omega) (by omega), if_neg (by omega), show ab_w32 (((6 * s + i : Nat) : Int) - 1) = ((6 * s + (i - 1) : Nat) : Int) by rw [w32i (by omega) (by omega)]; omega, sa_ld_of (by omega) (by omega), Option.bind_some, Int.toNat_natCast, t2, fnd]
      unfold g_X5_follow_J60
      by_cases e1 : (tw b s (i - 1) : Int) = w
      · rw [if_pos e1, sa_ld_of (by omega) (by omega), Option.bind_some, Int.toNat_natCast, t1]
        by_cases e2 : (tw b s i : Int) = o
        · rw [if_pos e2, if_pos (show flP b s w o i = true from decide_eq_true ⟨e1, e2⟩), if_neg (by omega)]
        · rw [if_neg e2, if_neg (show ¬ flP b s w o i = true from fun q => e2 (of_decide_eq_true q).2), w32s (by omega)]
          exact ih m (i + 1) (by omega) (by omega) (by omega)
      · rw [if_neg e1, if_neg (show ¬ flP b s w o i = true from fun q => e1 (of_decide_eq_true q).1), w32s (by omega)]
        exact ih m (i + 1) (by omega) (by omega) (by omega)
  have key : ∀ (c n s : Nat), s + c = bn b → c < n → g_X5_follow_L2 n w o (s : Int) σ = some (if fnd (flS b w o) c s = -1 then 0 else 1, σ) := by
    intro c
    induction c with
    | zero =>
      intro n s hs hn
      obtain ⟨m, rfl⟩ : ∃ m, n = m + 1 := ⟨n - 1, by omega⟩
      rw [g_X5_follow_L2, hT.1, if_pos (by omega), fnd, if_pos rfl]
    | succ c ih =>
      intro n s hs hn
      obtain ⟨m, rfl⟩ : ∃ m, n = m + 1 := ⟨n - 1, by omega⟩
      have o2 := ok.2.1 s (by omega)
      rw [g_X5_follow_L2, hT.1, if_neg (by omega), w6' (by omega), w32s (by omega), in1 s (by omega) _ (bsz b s - 1) ab_FU 1 (by omega) (by omega) (by show _ < 100000; omega), fnd]
      by_cases e : fnd (flP b s w o) (bsz b s - 1) 1 = -1
      · rw [if_pos e, if_neg (show ¬ flS b w o s = true from fun q => (of_decide_eq_true q) e), w32s (by omega)]
        exact ih m (s + 1) (by omega) (by omega)
      · rw [if_neg e, if_pos (show flS b w o s = true from decide_eq_true e), if_neg (by omega)]
  exact key (bn b) ab_FU 0 (by omega) (by show _ < 100000; omega)
theorem p9_isBeside {σ : st_S} {b : BV} (ok : OkB b) (hB : RB9 σ 597 0 b) (hW : Wd9 σ b) (w o what : Int) : g_X9_isBeside w o what σ = some (if what = 0 then fl b o w else fl b w o, σ) := by
  have o1 := ok.1
  have in1 : ∀ (u v : Int), (what = 0 → u = o ∧ v = w) → (what ≠ 0 → u = w ∧ v = o) → ∀ (s : Nat), s < bn b → ∀ (K : Int → Int → Int → Int → st_S → Option (Int × st_S)) (c n i : Nat), i + c = bsz b s → 1 ≤ i → c < n → g_X9_isBeside_L15 (fun σx72 => some ((1 : Int), σx72)) K n w o what (s : Int) (i : Int) σ = if fnd (flP b s u v) c i = -1 then K w o what (s : Int) σ else some (1, σ) := by
    intro u v hu hu' s hs K c
    have o2 := ok.2.1 s hs
    induction c with
    | zero =>
      intro n i hi h1 hn
      obtain ⟨m, rfl⟩ : ∃ m, n = m + 1 := ⟨n - 1, by omega⟩
      rw [g_X9_isBeside_L15, p9_terms hB ok hs, Option.bind_some]
      dsimp only
      rw [if_pos (by omega), fnd, if_pos rfl]
    | succ c ih =>
      intro n i hi h1 hn
      obtain ⟨m, rfl⟩ : ∃ m, n = m + 1 := ⟨n - 1, by omega⟩
      rw [g_X9_isBeside_L15, p9_terms hB ok hs, Option.bind_some]
      dsimp only
      rw [if_neg (by omega), show ab_w32 ((i : Int) - 1) = ((i - 1 : Nat) : Int) by rw [w32i (by omega) (by omega)]; omega, p9_place (by omega) (by omega), Option.bind_some]
      dsimp only
      rw [sa_ld_of (by omega) (by omega), Option.bind_some, Int.toNat_natCast, hW.2 s hs (i - 1) (by omega), p9_place (by omega) (by omega), Option.bind_some]
      dsimp only
      rw [sa_ld_of (by omega) (by omega), Option.bind_some, Int.toNat_natCast, hW.2 s hs i (by omega), fnd]
      unfold g_X9_isBeside_J89
      rw [w32s (by omega)]
      have nx := ih m (i + 1) (by omega) (by omega) (by omega)
      by_cases hz : what = 0
      · obtain ⟨rfl, rfl⟩ := hu hz
        rw [if_pos hz]
        by_cases e1 : (tw b s i : Int) = v
        · rw [if_pos e1]
          by_cases e2 : (tw b s (i - 1) : Int) = u
          · rw [if_pos e2, if_pos (show flP b s u v i = true from decide_eq_true ⟨e2, e1⟩), if_neg (by omega)]
          · rw [if_neg e2, if_neg (show ¬ flP b s u v i = true from fun q => e2 (of_decide_eq_true q).1)]; exact nx
        · rw [if_neg e1, if_neg (show ¬ flP b s u v i = true from fun q => e1 (of_decide_eq_true q).2)]; exact nx
      · obtain ⟨rfl, rfl⟩ := hu' hz
        rw [if_neg hz]
        by_cases e1 : (tw b s (i - 1) : Int) = u
        · rw [if_pos e1]
          by_cases e2 : (tw b s i : Int) = v
          · rw [if_pos e2, if_pos (show flP b s u v i = true from decide_eq_true ⟨e1, e2⟩), if_neg (by omega)]
          · rw [if_neg e2, if_neg (show ¬ flP b s u v i = true from fun q => e2 (of_decide_eq_true q).2)]; exact nx
        · rw [if_neg e1, if_neg (show ¬ flP b s u v i = true from fun q => e1 (of_decide_eq_true q).1)]; exact nx
  have key : ∀ (u v : Int), (what = 0 → u = o ∧ v = w) → (what ≠ 0 → u = w ∧ v = o) → ∀ (c n s : Nat), s + c = bn b → c < n → g_X9_isBeside_L3 (fun σx72 => some ((1 : Int), σx72)) n w o what (s : Int) σ = some (if fnd (flS b u v) c s = -1 then 0 else 1, σ) := by
    intro u v hu hu' c
    induction c with
    | zero =>
      intro n s hs hn
      obtain ⟨m, rfl⟩ : ∃ m, n = m + 1 := ⟨n - 1, by omega⟩
      rw [g_X9_isBeside_L3, p9_strings hB ok, Option.bind_some]
      dsimp only
      rw [if_pos (by omega), fnd, if_pos rfl]
    | succ c ih =>
      intro n s hs hn
      obtain ⟨m, rfl⟩ : ∃ m, n = m + 1 := ⟨n - 1, by omega⟩
      have o2 := ok.2.1 s (by omega)
      rw [g_X9_isBeside_L3, p9_strings hB ok, Option.bind_some]
      dsimp only
      rw [if_neg (by omega)]
      refine (in1 u v hu hu' s (by omega) _ (bsz b s - 1) ab_FU 1 (by omega) (by omega) (by show _ < 100000; omega)).trans ?_
      rw [fnd]
      by_cases e : fnd (flP b s u v) (bsz b s - 1) 1 = -1
      · rw [if_pos e, if_neg (show ¬ flS b u v s = true from fun q => (of_decide_eq_true q) e)]
        rw [w32s (by omega)]
        exact ih m (s + 1) (by omega) (by omega)
      · rw [if_neg e, if_pos (show flS b u v s = true from decide_eq_true e), if_neg (by omega)]
  unfold g_X9_isBeside
  by_cases hz : what = 0
  · rw [if_pos hz]; exact key o w (fun _ => ⟨rfl, rfl⟩) (fun q => absurd hz q) (bn b) ab_FU 0 (by omega) (by show _ < 100000; omega)
  · rw [if_neg hz]; exact key w o (fun q => absurd q hz) (fun _ => ⟨rfl, rfl⟩) (bn b) ab_FU 0 (by omega) (by show _ < 100000; omega)
theorem S_beside : Stp3 (InvD DR) g_X8_beside g_X9_beside := by
  intro x y z σ _ _ _ ⟨S, r8, r9, ok⟩
  have okB := ok.2.2.2.2.1
  have wle := wl_le okB
  by_cases hx : 0 ≤ x ∧ x < ((wl (sB S)).1 : Int)
  · by_cases hy : 0 ≤ y ∧ y ≤ 1
    · by_cases hz : -1 ≤ z
      · let p : Nat → Bool := fun j => decide ((if y = 0 then fl (sB S) (j : Int) x else fl (sB S) x (j : Int)) ≠ 0)
        refine qry (r := kth p z (wl (sB S)).1 0 0) ok (fun τ h8 => ?_) (fun τ h9 => ?_) r8 r9
        · have hW := h8.2.2.2.2.2.2.1
          obtain ⟨M, hM, _⟩ := id hW
          have hT := h8.2.2.2.2.2.2.2.1
          have key : ∀ (c n i a : Nat), i + c = (wl (sB S)).1 → a ≤ i → c < n → g_X8_beside_L31 (fun w98_3 w98_4 σx98 => if w98_3 = (-1 : Int) then some (w98_4, σx98) else some ((-1 : Int), σx98)) n x y z (a : Int) (i : Int) τ = some (kth p z c i a, τ) := by
            intro c
            induction c with
            | zero =>
              intro n i a hi ha hn
              obtain ⟨m, rfl⟩ : ∃ m, n = m + 1 := ⟨n - 1, by omega⟩
              rw [g_X8_beside_L31, hM.1, if_pos (by omega), kth]
              split <;> rfl
            | succ c ih =>
              intro n i a hi ha hn
              obtain ⟨m, rfl⟩ : ∃ m, n = m + 1 := ⟨n - 1, by omega⟩
              have j70 : ∀ v : Int, v = (if y = 0 then fl (sB S) (i : Int) x else fl (sB S) x (i : Int)) → g_X8_beside_J70 (g_X8_beside_L31 (fun w98_3 w98_4 σx98 => if w98_3 = (-1 : Int) then some (w98_4, σx98) else some ((-1 : Int), σx98)) m) (fun w98_3 w98_4 σx98 => if w98_3 = (-1 : Int) then some (w98_4, σx98) else some ((-1 : Int), σx98)) x y z (a : Int) (i : Int) v τ = some (kth p z (c + 1) i a, τ) := by
                intro v hv
                unfold g_X8_beside_J70 g_X8_beside_J92
                rw [kth]
                by_cases e : v = 0
                · rw [if_pos e, if_neg (show ¬ p i = true from fun q => (of_decide_eq_true q) (by rw [← hv]; exact e)), w32s (by omega)]
                  exact ih m (i + 1) a (by omega) (by omega) (by omega)
                · rw [if_neg e, if_pos (show p i = true from decide_eq_true (by rw [← hv]; exact e))]
                  by_cases e2 : (a : Int) = z
                  · rw [if_pos e2, if_pos e2]
                  · rw [if_neg e2, if_neg e2, w32s (by omega), w32s (by omega)]
                    exact ih m (i + 1) (a + 1) (by omega) (by omega) (by omega)
              rw [g_X8_beside_L31, hM.1, if_neg (by omega)]
              by_cases h0 : y = 0
              · rw [if_pos h0, p5_follow okB hT, Option.bind_some]; exact j70 _ (by rw [if_pos h0])
              · rw [if_neg h0, p5_follow okB hT, Option.bind_some]; exact j70 _ (by rw [if_neg h0])
          unfold g_X8_beside
          rw [p8_isWord hW, if_pos hx, Option.bind_some]
          dsimp only
          rw [if_neg one0, if_neg (by omega), if_neg (by omega), if_pos hz]
          exact key (wl (sB S)).1 ab_FU 0 0 (by omega) (by omega) (by show _ < 100000; omega)
        · obtain ⟨τ1, e1, e2, e3, e4⟩ := w9 ok h9 x
          refine ⟨τ1, ?_, e4⟩
          have key : ∀ (c n i a : Nat), i + c = (wl (sB S)).1 → a ≤ i → c < n → g_X9_beside_L32 (fun w73_3 w73_4 σx73 => if w73_3 = (-1 : Int) then some (w73_4, σx73) else some ((-1 : Int), σx73)) n x y z (a : Int) (i : Int) τ1 = some (kth p z c i a, τ1) := by
            intro c
            induction c with
            | zero =>
              intro n i a hi ha hn
              obtain ⟨m, rfl⟩ : ∃ m, n = m + 1 := ⟨n - 1, by omega⟩
              rw [g_X9_beside_L32, e2.1.1, if_pos (by omega), kth]
              split <;> rfl
            | succ c ih =>
              intro n i a hi ha hn
              obtain ⟨m, rfl⟩ : ∃ m, n = m + 1 := ⟨n - 1, by omega⟩
              rw [g_X9_beside_L32, e2.1.1, if_neg (by omega), p9_isBeside okB e3 e2, Option.bind_some, kth]
              unfold g_X9_beside_J67
              dsimp only
              by_cases e : (if y = 0 then fl (sB S) (i : Int) x else fl (sB S) x (i : Int)) = 0
              · rw [if_pos e, if_neg (show ¬ p i = true from fun q => (of_decide_eq_true q) e), w32s (by omega)]
                exact ih m (i + 1) a (by omega) (by omega) (by omega)
              · rw [if_neg e, if_pos (show p i = true from decide_eq_true e)]
                by_cases e2 : (a : Int) = z
                · rw [if_pos e2, if_pos e2]
                · rw [if_neg e2, if_neg e2, w32s (by omega), w32s (by omega)]
                  exact ih m (i + 1) (a + 1) (by omega) (by omega) (by omega)
          unfold g_X9_beside
          rw [e1, if_pos hx, Option.bind_some]
          dsimp only
          rw [if_neg one0, p9_in1 hy.1 hy.2, Option.bind_some]
          dsimp only
          rw [if_neg one0, if_pos hz]
          exact key (wl (sB S)).1 ab_FU 0 0 (by omega) (by omega) (by show _ < 100000; omega)
      · refine qry (r := -2) ok (fun τ h8 => ?_) (fun τ h9 => ?_) r8 r9
        · unfold g_X8_beside
          rw [p8_isWord h8.2.2.2.2.2.2.1, if_pos hx, Option.bind_some]
          dsimp only
          rw [if_neg one0, if_neg (by omega), if_neg (by omega), if_neg hz]
        · obtain ⟨τ1, e1, e2, e3, e4⟩ := w9 ok h9 x
          refine ⟨τ1, ?_, e4⟩
          unfold g_X9_beside
          rw [e1, if_pos hx, Option.bind_some]
          dsimp only
          rw [if_neg one0, p9_in1 hy.1 hy.2, Option.bind_some]
          dsimp only
          rw [if_neg one0, if_neg hz]
    · refine qry (r := -2) ok (fun τ h8 => ?_) (fun τ h9 => ?_) r8 r9
      · unfold g_X8_beside
        rw [p8_isWord h8.2.2.2.2.2.2.1, if_pos hx, Option.bind_some]
        dsimp only
        rw [if_neg one0]
        by_cases h0 : y < 0
        · rw [if_pos h0]
        · rw [if_neg h0, if_pos (by omega)]
      · obtain ⟨τ1, e1, e2, e3, e4⟩ := w9 ok h9 x
        refine ⟨τ1, ?_, e4⟩
        unfold g_X9_beside
        rw [e1, if_pos hx, Option.bind_some]
        dsimp only
        rw [if_neg one0, p9_in0 hy]; rfl
  · refine qry (r := -2) ok (fun τ h8 => ?_) (fun τ h9 => ?_) r8 r9
    · unfold g_X8_beside
      rw [p8_isWord h8.2.2.2.2.2.2.1, if_neg hx]; rfl
    · obtain ⟨τ1, e1, e2, e3, e4⟩ := w9 ok h9 x
      refine ⟨τ1, ?_, e4⟩
      unfold g_X9_beside
      rw [e1, if_neg hx]; rfl
