/-! swaps -/
def prm (i j k : Nat) : Nat := if k = i then j else if k = j then i else k
theorem prm_lt {i j k n : Nat} (hi : i < n) (hj : j < n) (hk : k < n) : prm i j k < n := by
  unfold prm; split
  · exact hj
  · split
    · exact hi
    · exact hk
def bSwap (b : BV) (s i j : Nat) : BV := (bn b, badr b, bsz b, (fun f s' k => if s' = s then btm b f s (prm i j k) else btm b f s' k), bwy b, bm b, bsf b, bst b)
theorem role_prm {b : BV} {s i j k : Nat} (e : btm b 0 s i = btm b 0 s j) : btm b 0 s (prm i j k) = btm b 0 s k := by
  unfold prm; split
  · next h => rw [h]; exact e.symm
  · split
    · next h => rw [h]; exact e
    · rfl
theorem bSwap_ok {b : BV} (ok : OkB b) {s i j : Nat} (hi : i < bsz b s) (hj : j < bsz b s) (e : btm b 0 s i = btm b 0 s j) : OkB (bSwap b s i j) := by
  obtain ⟨o1, o2, o3, o4, o5, o6, o7, o8, o9, o10⟩ := ok
  have cs : ∀ s' k f, btm (bSwap b s i j) f s' k = if s' = s then btm b f s (prm i j k) else btm b f s' k := fun s' k f => rfl
  refine ⟨o1, o2, o3, fun s' hs' k hk => ?_, fun s' hs' k hk => ?_, o6, o7, o8, o9, OkB.term (b := b) ⟨o1, o2, o3, o4, o5, o6, o7, o8, o9, o10⟩ rfl (fun _ _ => rfl) (fun _ _ => rfl)⟩
  · rw [cs, cs, cs, cs, cs]
    by_cases z : s' = s
    · rw [if_pos z, if_pos z, if_pos z, if_pos z, if_pos z]
      subst z
      exact o4 s' hs' _ (prm_lt hi hj hk)
    · rw [if_neg z, if_neg z, if_neg z, if_neg z, if_neg z]; exact o4 s' hs' k hk
  · rw [cs, cs]
    by_cases z : s' = s
    · rw [if_pos z, if_pos z, role_prm e, role_prm e]
      subst z
      exact o5 s' hs' k hk
    · rw [if_neg z, if_neg z]; exact o5 s' hs' k hk
theorem mono_adj {f : Nat → Int} {n : Nat} (h : ∀ k, k + 1 < n → f k ≤ f (k + 1)) : ∀ (d i : Nat), i + d < n → f i ≤ f (i + d) := by
  intro d
  induction d with
  | zero => intro i _; exact Int.le_refl _
  | succ d ih => intro i hi; have a := ih i (by omega); have c := h (i + d) (by omega); rw [← Nat.add_assoc]; omega
def dsc (f : Nat → Int) : Nat → Nat → Bool
  | 0, _ => true
  | c + 1, k => if f (k - 1) ≤ f k then dsc f c (k + 1) else false
theorem dsc_yes {f : Nat → Int} : ∀ (c k : Nat), dsc f c k = true → ∀ l, k ≤ l → l < k + c → f (l - 1) ≤ f l := by
  intro c
  induction c with
  | zero => intro k _ l h1 h2; omega
  | succ c ih =>
    intro k h l h1 h2
    rw [dsc] at h
    split at h
    · next hc =>
      by_cases e : l = k
      · rw [e]; exact hc
      · exact ih (k + 1) h l (by omega) (by omega)
    · cases h
theorem dsc_of {f : Nat → Int} : ∀ (c k : Nat), (∀ l, k ≤ l → l < k + c → f (l - 1) ≤ f l) → dsc f c k = true := by
  intro c
  induction c with
  | zero => intro k _; rfl
  | succ c ih =>
    intro k h
    rw [dsc, if_pos (h k (by omega) (by omega))]
    exact ih (k + 1) (fun l h1 h2 => h l (by omega) (by omega))
theorem dsc_eq {b : BV} (ok : OkB b) {s i j : Nat} (hs : s < bn b) (hi : i < bsz b s) (hj : j < bsz b s) (hij : i ≠ j) : dsc (fun k => btm b 0 s (prm i j k)) (bsz b s - 1) 1 = true ↔ btm b 0 s i = btm b 0 s j := by
  have so := ok.2.2.2.2.1 s hs
  have m1 := mono_adj (f := fun k => btm b 0 s k) (n := bsz b s) so
  have pi : prm i j i = j := if_pos rfl
  have pj : prm i j j = i := by unfold prm; rw [if_neg (fun q => hij q.symm), if_pos rfl]
  constructor
  · intro h
    have m2 := mono_adj (f := fun k => btm b 0 s (prm i j k)) (n := bsz b s) (fun k hk => by
      have := dsc_yes _ _ h (k + 1) (by omega) (by omega)
      simpa using this)
    rcases Nat.lt_or_gt_of_ne hij with z | z
    · have a := m1 (j - i) i (by omega)
      have c := m2 (j - i) i (by omega)
      rw [show i + (j - i) = j by omega] at a c
      simp only [pi, pj] at a c
      omega
    · have a := m1 (i - j) j (by omega)
      have c := m2 (i - j) j (by omega)
      rw [show j + (i - j) = i by omega] at a c
      simp only [pi, pj] at a c
      omega
  · intro e
    refine dsc_of _ _ (fun l h1 h2 => ?_)
    show btm b 0 s (prm i j (l - 1)) ≤ btm b 0 s (prm i j l)
    rw [role_prm e, role_prm e]
    have := so (l - 1) (by omega)
    rw [show l - 1 + 1 = l by omega] at this; exact this
theorem p9_roleIf {σ : st_S} {b : BV} (h : RB9 σ 597 0 b) (ok : OkB b) {s i j k : Nat} (hs : s < bn b) (hi : i < bsz b s) (hj : j < bsz b s) (hk : k < bsz b s) : g_X9_roleIf (s : Int) (k : Int) (i : Int) (j : Int) σ = some (btm b 0 s (prm i j k), σ) := by
  unfold g_X9_roleIf g_X9_roleIf_J23 prm
  by_cases e1 : k = i
  · rw [if_pos (by omega), if_pos e1, p9_roleOf h ok hs hj]; rfl
  · rw [if_neg (by omega), if_neg e1]
    by_cases e2 : k = j
    · rw [if_pos (by omega), if_pos e2, p9_roleOf h ok hs hi]; rfl
    · rw [if_neg (by omega), if_neg e2, p9_roleOf h ok hs hk]; rfl
theorem p9_swaps_L29 {σ : st_S} {b : BV} (h : RB9 σ 597 0 b) (ok : OkB b) {s i j : Nat} (hs : s < bn b) (hi : i < bsz b s) (hj : j < bsz b s) (K : Int → Int → Int → st_S → Option (Int × st_S)) : ∀ (c k n : Nat), k + c = bsz b s → 1 ≤ k → c < n → g_X9_swaps_L29 K n (s : Int) (i : Int) (j : Int) (k : Int) σ = if dsc (fun k => btm b 0 s (prm i j k)) c k = true then K (s : Int) (i : Int) (j : Int) σ else some (-6, σ) := by
  have o1 := ok.1
  have o2 := ok.2.1 s hs
  intro c
  induction c with
  | zero =>
    intro k n hk h1 hn
    obtain ⟨m, rfl⟩ : ∃ m, n = m + 1 := ⟨n - 1, by omega⟩
    rw [g_X9_swaps_L29, p9_terms h ok hs, Option.bind_some]
    dsimp only
    rw [if_pos (by omega), dsc, if_pos rfl]
  | succ c ih =>
    intro k n hk h1 hn
    obtain ⟨m, rfl⟩ : ∃ m, n = m + 1 := ⟨n - 1, by omega⟩
    rw [g_X9_swaps_L29, p9_terms h ok hs, Option.bind_some]
    dsimp only
    rw [if_neg (by omega), p9_roleIf h ok hs hi hj (by omega), Option.bind_some]
    dsimp only
    rw [show ab_w32 ((k : Int) - 1) = ((k - 1 : Nat) : Int) by rw [w32i (by omega) (by omega)]; omega, p9_roleIf h ok hs hi hj (by omega), Option.bind_some, dsc]
    dsimp only
    by_cases e : btm b 0 s (prm i j (k - 1)) ≤ btm b 0 s (prm i j k)
    · rw [if_pos e, if_pos e, w32s (by omega)]; exact ih (k + 1) m (by omega) (by omega) (by omega)
    · rw [if_neg e, if_neg e, if_neg (by decide)]
theorem p9_swaps_one {s i j : Int} {k m A B : Nat} {σ : st_S} (tA : ∀ τ : st_S, g_X9_termAt s i τ = some ((A : Int), τ)) (tB : ∀ τ : st_S, g_X9_termAt s j τ = some ((B : Int), τ)) (hA : A + 5 ≤ 416) (hB : B + 5 ≤ 416) (hk : k < 5) : g_X9_swaps_L78 (m + 1) s i j (k : Int) σ = g_X9_swaps_L78 m s i j ((k + 1 : Nat) : Int) (up2 (up2 σ 597 (A + k) (σ 597 (B + k))) 597 (B + k) (σ 597 (A + k))) := by
  have wA : ab_w32 ((A : Int) + (k : Int)) = ((A + k : Nat) : Int) := by rw [w32i (by omega) (by omega)]; omega
  have wB : ab_w32 ((B : Int) + (k : Int)) = ((B + k : Nat) : Int) := by rw [w32i (by omega) (by omega)]; omega
  rw [g_X9_swaps_L78, if_neg (by omega), tA, Option.bind_some]
  dsimp only
  rw [wA, sa_ld_of (by omega) (by omega), Option.bind_some, Int.toNat_natCast, tA, Option.bind_some]
  dsimp only
  rw [tB, Option.bind_some]
  dsimp only
  rw [wB, sa_ld_of (by omega) (by omega), Option.bind_some, Int.toNat_natCast, wA, sa_st_of (by omega) (by omega), Option.bind_some, Int.toNat_natCast, tB, Option.bind_some]
  dsimp only
  rw [wB, sa_st_of (by omega) (by omega), Option.bind_some, Int.toNat_natCast, w32s (by omega)]
theorem p9_swaps_L78 {s i j : Nat} (hs : s < 12) (hi : i < 6) (hj : j < 6) (hij : i ≠ j) : ∀ (c k : Nat) (σ : st_S), k + c = 5 → ∃ σ', (∀ n, c < n → g_X9_swaps_L78 n (s : Int) (i : Int) (j : Int) (k : Int) σ = some (1, σ')) ∧ (∀ f, f < 5 → k ≤ f → σ' 597 (34 + 32 * s + 5 * i + f) = σ 597 (34 + 32 * s + 5 * j + f) ∧ σ' 597 (34 + 32 * s + 5 * j + f) = σ 597 (34 + 32 * s + 5 * i + f)) ∧ (∀ x, (∀ f, f < 5 → k ≤ f → x ≠ 34 + 32 * s + 5 * i + f ∧ x ≠ 34 + 32 * s + 5 * j + f) → σ' 597 x = σ 597 x) ∧ ∀ a, a ≠ 597 → σ' a = σ a := by
  intro c
  induction c with
  | zero =>
    intro k σ hk
    refine ⟨σ, fun n hn => ?_, fun f h1 h2 => by omega, fun _ _ => rfl, fun _ _ => rfl⟩
    obtain ⟨m, rfl⟩ : ∃ m, n = m + 1 := ⟨n - 1, by omega⟩
    rw [g_X9_swaps_L78, if_pos (by omega)]
  | succ c ih =>
    intro k σ hk
    generalize hA : 34 + 32 * s + 5 * i = A
    generalize hB : 34 + 32 * s + 5 * j = B
    have hk5 : k < 5 := by omega
    have hi7 : i < 7 := by omega
    have hj7 : j < 7 := by omega
    have hA5 : A + 5 ≤ 416 := by omega
    have hB5 : B + 5 ≤ 416 := by omega
    have ne : ∀ f g, f < 5 → g < 5 → A + f ≠ B + g := fun f g hf hg => by
      rcases Nat.lt_or_gt_of_ne hij with z | z <;> omega
    generalize hc : up2 (up2 σ 597 (A + k) (σ 597 (B + k))) 597 (B + k) (σ 597 (A + k)) = τ
    have v : ∀ x, x ≠ A + k → x ≠ B + k → τ 597 x = σ 597 x := fun x h1 h2 => by rw [← hc, up2_ne _ _ (by omega), up2_ne _ _ (by omega)]
    have nek := ne k k (by omega) (by omega)
    have vA : τ 597 (A + k) = σ 597 (B + k) := by rw [← hc, up2_ne _ _ (fun q => nek q.2), up2_at]
    have vB : τ 597 (B + k) = σ 597 (A + k) := by rw [← hc, up2_at]
    obtain ⟨σ', q1, q2, q3, q4⟩ := ih (k + 1) τ (by omega)
    rw [hA, hB] at q2 q3
    refine ⟨σ', fun n hn => ?_, fun f h1 h2 => ?_, fun x hx => ?_, fun a ha => by rw [q4 a ha, ← hc, up2_o _ _ ha, up2_o _ _ ha]⟩
    · obtain ⟨m, rfl⟩ : ∃ m, n = m + 1 := ⟨n - 1, by omega⟩
      rw [p9_swaps_one (A := A) (B := B) (fun τ => by rw [p9_termAt hs hi7, hA]) (fun τ => by rw [p9_termAt hs hj7, hB]) hA5 hB5 hk5, hc]
      exact q1 m (by omega)
    · by_cases e : f = k
      · subst e
        rw [q3 (A + f) (fun g g1 g2 => ⟨by omega, ne f g h1 g1⟩), q3 (B + f) (fun g g1 g2 => ⟨fun q => ne g f g1 h1 q.symm, by omega⟩)]
        exact ⟨vA, vB⟩
      · obtain ⟨y1, y2⟩ := q2 f h1 (by omega)
        rw [y1, y2]
        exact ⟨v _ (fun q => ne k f (by omega) h1 q.symm) (by omega), v _ (by omega) (ne f k h1 (by omega))⟩
    · rw [q3 x (fun f g1 g2 => hx f g1 (by omega))]
      obtain ⟨y1, y2⟩ := hx k (by omega) (Nat.le_refl _)
      exact v x y1 y2
theorem p0_exchangeIn {σ : st_S} {a t u : Nat} (ht : t < 72) (hu : u < 72) : g_X0_exchangeIn a (t : Int) (u : Int) σ = some (up2 (up2 σ a t (σ a u)) a u (σ a t)) := by
  unfold g_X0_exchangeIn
  rw [sa_ld_of (by omega) (by omega), Option.bind_some, sa_ld_of (by omega) (by omega), Option.bind_some, sa_st_of (by omega) (by omega), Option.bind_some, sa_st_of (by omega) (by omega), Option.bind_some, Int.toNat_natCast, Int.toNat_natCast]
theorem swp_at {σ : st_S} {a t u x : Nat} : up2 (up2 σ a t (σ a u)) a u (σ a t) a x = σ a (if x = t then u else if x = u then t else x) := by
  by_cases e2 : x = u
  · subst e2
    rw [up2_at]
    by_cases e1 : x = t
    · rw [if_pos e1, e1]
    · rw [if_neg e1, if_pos rfl]
  · rw [up2_ne _ _ (by omega)]
    by_cases e1 : x = t
    · subst e1; rw [up2_at, if_pos rfl]
    · rw [up2_ne _ _ (by omega), if_neg e1, if_neg e2]
theorem S_swaps : Stp3 (InvD DR) g_X8_swaps g_X9_swaps := by
  intro x y z σ _ _ _ ⟨S, r8, r9, ok⟩
  have okB := ok.2.2.2.2.1
  have o1 := okB.1
  have o7 := okB.2.2.2.2.2.2.1
  by_cases hx : (0 ≤ x ∧ x < (bn (sB S) : Int)) ∧ 0 ≤ y ∧ y < (bsz (sB S) x.toNat : Int)
  · by_cases hz : (0 ≤ x ∧ x < (bn (sB S) : Int)) ∧ 0 ≤ z ∧ z < (bsz (sB S) x.toNat : Int)
    · by_cases hyz : y = z
      · refine stp_of dr_in (S' := S) (r := -2) ?_ ?_ ok r8 r9
        · intro τ h8
          refine ⟨τ, ?_, h8, fun _ _ => rfl⟩
          unfold g_X8_swaps
          rw [p8_isTerm h8.2.2.2.1 okB, if_pos hx, Option.bind_some]
          dsimp only
          rw [if_neg one0, p8_isTerm h8.2.2.2.1 okB, if_pos hz, Option.bind_some]
          dsimp only
          rw [if_neg one0, if_pos hyz]
        · intro τ h9
          refine ⟨τ, ?_, h9, fun _ _ => rfl⟩
          unfold g_X9_swaps
          rw [p9_isTerm h9.2.2.2.1 okB, if_pos hx, Option.bind_some]
          dsimp only
          rw [if_neg one0, p9_isTerm h9.2.2.2.1 okB, if_pos hz, Option.bind_some]
          dsimp only
          rw [if_neg one0, if_pos hyz]
      · obtain ⟨s, rfl⟩ := Int.eq_ofNat_of_zero_le hx.1.1
        obtain ⟨i, rfl⟩ := Int.eq_ofNat_of_zero_le hx.2.1
        obtain ⟨j, rfl⟩ := Int.eq_ofNat_of_zero_le hz.2.1
        have hs : s < bn (sB S) := by omega
        have hi : i < bsz (sB S) s := by have := hx.2.2; rw [Int.toNat_natCast] at this; omega
        have hj : j < bsz (sB S) s := by have := hz.2.2; rw [Int.toNat_natCast] at this; omega
        have hij : i ≠ j := fun q => hyz (by rw [q])
        have o2 := okB.2.1 s hs
        have run8 : ∀ τ, Rep8 DR τ S → g_X8_swaps (s : Int) (i : Int) (j : Int) τ = if btm (sB S) 0 s i = btm (sB S) 0 s j then ((g_X3_keep 13 τ).bind fun q5 => (g_X0_exchange 13 ((6 * s + i : Nat) : Int) ((6 * s + j : Nat) : Int) q5).bind fun q6 => (g_X8_renew q6).bind fun q7 => some ((1 : Int), q7)) else some (-6, τ) := by
          intro τ h8
          have e1 : τ 16 (6 * s + i) = btm (sB S) 0 s i := h8.2.2.2.1.2.2.1 s hs i hi 0 (by decide)
          have e2 : τ 16 (6 * s + j) = btm (sB S) 0 s j := h8.2.2.2.1.2.2.1 s hs j hj 0 (by decide)
          unfold g_X8_swaps
          rw [p8_isTerm h8.2.2.2.1 okB, if_pos hx, Option.bind_some]
          dsimp only
          rw [if_neg one0, p8_isTerm h8.2.2.2.1 okB, if_pos hz, Option.bind_some]
          dsimp only
          rw [if_neg one0, if_neg hyz, w6 (by omega) (by omega), w6 (by omega) (by omega), sa_ld_of (by omega) (by omega), Option.bind_some, sa_ld_of (by omega) (by omega), Option.bind_some, Int.toNat_natCast, Int.toNat_natCast, e1, e2]
        have run9 : ∀ τ, Rep9 τ S → g_X9_swaps (s : Int) (i : Int) (j : Int) τ = if btm (sB S) 0 s i = btm (sB S) 0 s j then ((g_X9_keeps τ).bind fun q3 => g_X9_swaps_L78 ab_FU (s : Int) (i : Int) (j : Int) (0 : Int) q3) else some (-6, τ) := by
          intro τ h9
          unfold g_X9_swaps
          rw [p9_isTerm h9.2.2.2.1 okB, if_pos hx, Option.bind_some]
          dsimp only
          rw [if_neg one0, p9_isTerm h9.2.2.2.1 okB, if_pos hz, Option.bind_some]
          dsimp only
          rw [if_neg one0, if_neg hyz, show (1 : Int) = ((1 : Nat) : Int) from rfl, p9_swaps_L29 h9.2.2.2.1 okB hs hi hj _ (bsz (sB S) s - 1) 1 ab_FU (by omega) (by omega) (by show _ < 100000; omega)]
          have de := dsc_eq okB hs hi hj hij
          by_cases e : btm (sB S) 0 s i = btm (sB S) 0 s j
          · rw [if_pos (de.mpr e), if_pos e]
          · rw [if_neg (fun q => e (de.mp q)), if_neg e]
        by_cases he : btm (sB S) 0 s i = btm (sB S) 0 s j
        · have hb := bSwap_ok okB hi hj he
          refine stp_of dr_in (S' := actS S (bSwap (sB S) s i j)) (r := 1) ?_ ?_ (ok.act hb) r8 r9
          · intro τ h8
            obtain ⟨σ1, σ2, σ3, a1, a2, a3, a4, a5⟩ := act8 h8 ok hb (mod := fun q => g_X0_exchange 13 ((6 * s + i : Nat) : Int) ((6 * s + j : Nat) : Int) q) (fun q hq _ => by
              obtain ⟨q0, q1, q2, q3, q4, q5⟩ := hq
              generalize hc1 : up2 (up2 q 17 (6 * s + i) (q 17 (6 * s + j))) 17 (6 * s + j) (q 17 (6 * s + i)) = t1
              generalize hc2 : up2 (up2 t1 18 (6 * s + i) (t1 18 (6 * s + j))) 18 (6 * s + j) (t1 18 (6 * s + i)) = t2
              generalize hc3 : up2 (up2 t2 19 (6 * s + i) (t2 19 (6 * s + j))) 19 (6 * s + j) (t2 19 (6 * s + i)) = t3
              generalize hc4 : up2 (up2 t3 20 (6 * s + i) (t3 20 (6 * s + j))) 20 (6 * s + j) (t3 20 (6 * s + i)) = t4
              have g1 : ∀ a, a ≠ 17 → t1 a = q a := fun a ha => by rw [← hc1, up2_o _ _ ha, up2_o _ _ ha]
              have g2 : ∀ a, a ≠ 18 → t2 a = t1 a := fun a ha => by rw [← hc2, up2_o _ _ ha, up2_o _ _ ha]
              have g3 : ∀ a, a ≠ 19 → t3 a = t2 a := fun a ha => by rw [← hc3, up2_o _ _ ha, up2_o _ _ ha]
              have g4 : ∀ a, a ≠ 20 → t4 a = t3 a := fun a ha => by rw [← hc4, up2_o _ _ ha, up2_o _ _ ha]
              have gf : ∀ a, (a < 17 ∨ 20 < a) → t4 a = q a := fun a ha => by rw [g4 a (by omega), g3 a (by omega), g2 a (by omega), g1 a (by omega)]
              have pv : ∀ a, 17 ≤ a → a ≤ 20 → ∀ x, t4 a x = q a (if x = 6 * s + i then 6 * s + j else if x = 6 * s + j then 6 * s + i else x) := by
                intro a h1 h2 x
                obtain rfl | rfl | rfl | rfl : a = 17 ∨ a = 18 ∨ a = 19 ∨ a = 20 := by omega
                · rw [g4 17 (by decide), g3 17 (by decide), g2 17 (by decide), ← hc1, swp_at]
                · rw [g4 18 (by decide), g3 18 (by decide), ← hc2, swp_at, g1 18 (by decide)]
                · rw [g4 19 (by decide), ← hc3, swp_at, g2 19 (by decide), g1 19 (by decide)]
                · rw [← hc4, swp_at, g3 20 (by decide), g2 20 (by decide), g1 20 (by decide)]
              refine ⟨t4, ?_, ⟨by rw [gf _ (by decide)]; exact q0, fun s hs => by rw [gf _ (by decide), gf _ (by decide)]; exact q1 s hs, fun s' hs' k hk f hf => ?_, fun k hk => by rw [gf _ (by decide)]; exact q3 k hk, by rw [gf _ (by decide)]; exact q4, fun k hk => by rw [gf _ (by decide), gf _ (by decide)]; exact q5 k hk⟩, fun a ha => gf a (by omega)⟩
              · show g_X0_exchange 13 ((6 * s + i : Nat) : Int) ((6 * s + j : Nat) : Int) q = some t4
                unfold g_X0_exchange
                simp only [Nat.reduceAdd]
                rw [sa_ld_of (by omega) (by omega), Option.bind_some, sa_ld_of (by omega) (by omega), Option.bind_some, sa_st_of (by omega) (by omega), Option.bind_some, sa_st_of (by omega) (by omega), Option.bind_some, Int.toNat_natCast, Int.toNat_natCast, hc1, p0_exchangeIn (by omega) (by omega), Option.bind_some, hc2, p0_exchangeIn (by omega) (by omega), Option.bind_some, hc3, p0_exchangeIn (by omega) (by omega), Option.bind_some, hc4]
              · have hk : k < bsz (sB S) s' := hk
                have o2' := okB.2.1 s' hs'
                show _ = if s' = s then btm (sB S) f s (prm i j k) else btm (sB S) f s' k
                by_cases f0 : f = 0
                · subst f0
                  rw [gf _ (by decide)]
                  have g := q2 s' hs' k hk 0 (by decide)
                  by_cases es : s' = s
                  · rw [if_pos es, role_prm he, ← es]; exact g
                  · rw [if_neg es]; exact g
                · rw [pv (13 + 3 + f) (by omega) (by omega)]
                  by_cases es : s' = s
                  · subst es
                    rw [if_pos rfl]
                    have g := q2 s' hs' (prm i j k) (prm_lt hi hj hk) f hf
                    rw [← g]
                    congr 1
                    unfold prm
                    by_cases c1 : k = i
                    · rw [if_pos (by omega), if_pos c1]
                    · rw [if_neg (by omega), if_neg c1]
                      by_cases c2 : k = j
                      · rw [if_pos (by omega), if_pos c2]
                      · rw [if_neg (by omega), if_neg c2]
                  · rw [if_neg es, if_neg (by omega), if_neg (by omega)]; exact q2 s' hs' k hk f hf)
            refine ⟨σ3, ?_, a4, a5⟩
            rw [run8 τ h8, if_pos he, a1, Option.bind_some, a2, Option.bind_some, a3]; rfl
          · intro τ h9
            obtain ⟨σ1, a1, ⟨q0, q1, q2, q3, q4, q5⟩, a3, a4, fin⟩ := act9 h9 ok
            obtain ⟨σ2, d1, d2, d3, d4⟩ := p9_swaps_L78 (s := s) (i := i) (j := j) (by omega) (by omega) (by omega) hij 5 0 σ1 (by omega)
            rw [show ((0 : Nat) : Int) = 0 from rfl] at d1
            have hb9 : RB9 σ2 597 0 (bSwap (sB S) s i j) := by
              refine ⟨by rw [d3 _ (fun f h1 _ => ⟨by omega, by omega⟩)]; exact q0, fun s' hs' => ?_, fun s' hs' k hk f hf => ?_, fun r hr => by rw [d3 _ (fun f h1 _ => ⟨by omega, by omega⟩)]; exact q3 r hr, by rw [d3 _ (fun f h1 _ => ⟨by omega, by omega⟩)]; exact q4, fun k hk => ?_⟩
              · have ha : ∀ t, t < 6 → ∀ f, f < 5 → 0 + 32 + 32 * s' ≠ 34 + 32 * s + 5 * t + f ∧ 0 + 33 + 32 * s' ≠ 34 + 32 * s + 5 * t + f := fun t ht f hf => by
                  rcases Nat.lt_or_ge s s' with z | z <;> omega
                rw [d3 _ (fun f h1 _ => ⟨(ha i (by omega) f h1).1, (ha j (by omega) f h1).1⟩), d3 _ (fun f h1 _ => ⟨(ha i (by omega) f h1).2, (ha j (by omega) f h1).2⟩)]; exact q1 s' hs'
              · have hk : k < bsz (sB S) s' := hk
                have o2' := okB.2.1 s' hs'
                show _ = if s' = s then btm (sB S) f s (prm i j k) else btm (sB S) f s' k
                by_cases es : s' = s
                · subst es
                  rw [if_pos rfl]
                  have g := q2 s' hs' (prm i j k) (prm_lt hi hj hk) f hf
                  rw [← g]
                  unfold prm
                  by_cases c1 : k = i
                  · subst c1; rw [if_pos rfl]; have := (d2 f hf (by omega)).1; rw [Nat.zero_add]; exact this
                  · rw [if_neg c1]
                    by_cases c2 : k = j
                    · subst c2; rw [if_pos rfl]; have := (d2 f hf (by omega)).2; rw [Nat.zero_add]; exact this
                    · rw [if_neg c2, d3 _ (fun g h1 _ => ⟨fun q => c1 (ix9 (s := s') (s' := s') (f := f) (g := g) (by omega) (by omega) hf h1 (by omega)).2.1, fun q => c2 (ix9 (s := s') (s' := s') (f := f) (g := g) (by omega) (by omega) hf h1 (by omega)).2.1⟩)]
                · rw [if_neg es, d3 _ (fun g h1 _ => ⟨fun q => es (ix9 (s := s) (s' := s') (i := i) (i' := k) (f := f) (g := g) (by omega) (by omega) hf h1 (by omega)).1, fun q => es (ix9 (s := s) (s' := s') (i := j) (i' := k) (f := f) (g := g) (by omega) (by omega) hf h1 (by omega)).1⟩)]
                  exact q2 s' hs' k hk f hf
              · have hk : k < bm (sB S) := hk
                rw [d3 _ (fun f h1 _ => ⟨by omega, by omega⟩), d3 _ (fun f h1 _ => ⟨by omega, by omega⟩)]; exact q5 k hk
            obtain ⟨z1, z2⟩ := fin _ _ d4 hb9
            refine ⟨σ2, ?_, z1, z2⟩
            rw [run9 τ h9, if_pos he, a1, Option.bind_some]
            exact d1 ab_FU (by show _ < 100000; omega)
        · refine stp_of dr_in (S' := S) (r := -6) ?_ ?_ ok r8 r9
          · intro τ h8; exact ⟨τ, by rw [run8 τ h8, if_neg he], h8, fun _ _ => rfl⟩
          · intro τ h9; exact ⟨τ, by rw [run9 τ h9, if_neg he], h9, fun _ _ => rfl⟩
    · refine stp_of dr_in (S' := S) (r := -2) ?_ ?_ ok r8 r9
      · intro τ h8
        refine ⟨τ, ?_, h8, fun _ _ => rfl⟩
        unfold g_X8_swaps
        rw [p8_isTerm h8.2.2.2.1 okB, if_pos hx, Option.bind_some]
        dsimp only
        rw [if_neg one0, p8_isTerm h8.2.2.2.1 okB, if_neg hz, Option.bind_some]; rfl
      · intro τ h9
        refine ⟨τ, ?_, h9, fun _ _ => rfl⟩
        unfold g_X9_swaps
        rw [p9_isTerm h9.2.2.2.1 okB, if_pos hx, Option.bind_some]
        dsimp only
        rw [if_neg one0, p9_isTerm h9.2.2.2.1 okB, if_neg hz, Option.bind_some]; rfl
  · refine stp_of dr_in (S' := S) (r := -2) ?_ ?_ ok r8 r9
    · intro τ h8
      refine ⟨τ, ?_, h8, fun _ _ => rfl⟩
      unfold g_X8_swaps
      rw [p8_isTerm h8.2.2.2.1 okB, if_neg hx, Option.bind_some]; rfl
    · intro τ h9
      refine ⟨τ, ?_, h9, fun _ _ => rfl⟩
      unfold g_X9_swaps
      rw [p9_isTerm h9.2.2.2.1 okB, if_neg hx, Option.bind_some]; rfl
