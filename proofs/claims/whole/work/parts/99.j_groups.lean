/-! groups of words -/
section GR
variable {b : BV}
theorem Rk_add {u v : Nat} {k : Nat} (h : Rk b u k v) : ∀ (l : Nat) {w : Nat}, Rk b v l w → Rk b u (k + l) w
  | 0, w, h2 => by have h2 : w = v := h2; rw [h2]; exact h
  | l + 1, _, ⟨x, h2, h3⟩ => ⟨x, Rk_add h l h2, h3⟩
theorem Rk_sym {u : Nat} : ∀ (k : Nat) {w : Nat}, Rk b u k w → Rk b w k u
  | 0, _, h => (show _ = u from h).symm
  | k + 1, w, ⟨v, h1, s, h2, h3⟩ => by
    have := Rk_add (b := b) (u := w) (v := v) (k := 1) ⟨w, rfl, s, h3, h2⟩ k (Rk_sym k h1)
    rw [Nat.add_comm] at this; exact this
theorem dS_no (ok : OkB b) {u w : Nat} (hu : u < (wl b).1) : dS b u w = -1 ↔ ∀ k, ¬ Rk b u k w := by
  rcases dS_dist ok hu (w := w) with ⟨h1, h2⟩ | ⟨k, h1, h2⟩
  · exact ⟨fun _ => h2, fun _ => h1⟩
  · exact ⟨fun q => by omega, fun q => absurd h1.1 (q k)⟩
def fstB (b : BV) (w : Nat) : Bool := decide (∀ j, j < w → dS b w j = -1)
def gpN (b : BV) : Nat → Nat → Nat → Nat
  | 0, _, a => a
  | c + 1, w, a => gpN b c (w + 1) (if fstB b w = true then a + 1 else a)
/-- strings reached from words before w -/
def sn (b : BV) (w s : Nat) : Prop := ∃ u, u < w ∧ ∃ k v, Rk b u k v ∧ hasW b v s
theorem sn_test (ok : OkB b) {w m : Nat} (hw : w < (wl b).1) (h : ∀ s, m.testBit s = true ↔ sn b w s) : hv b (w : Int) (-1) &&& m = 0 ↔ fstB b w = true := by
  have main : hv b (w : Int) (-1) &&& m ≠ 0 ↔ ∃ u, u < w ∧ ∃ k, Rk b u k w := by
    rw [nz_bit]
    constructor
    · intro ⟨s, hs⟩
      rw [Nat.testBit_and, Bool.and_eq_true, hv_has, h] at hs
      obtain ⟨h1, u, h2, k, v, h3, h4⟩ := hs
      exact ⟨u, h2, k + 1, v, h3, s, h4, h1⟩
    · intro ⟨u, h1, k, h2⟩
      obtain ⟨s, i, g1, g2, g3⟩ := wd_in ok hw
      refine ⟨s, ?_⟩
      rw [Nat.testBit_and, Bool.and_eq_true, hv_has, h]
      exact ⟨⟨g1, i, g2, g3⟩, u, h1, k, w, h2, g1, i, g2, g3⟩
  unfold fstB
  rw [decide_eq_true_iff]
  constructor
  · intro e j hj
    rw [dS_no ok hw]
    intro k q
    exact main.mpr ⟨j, hj, k, Rk_sym k q⟩ e
  · intro e
    by_cases z : hv b (w : Int) (-1) &&& m = 0
    · exact z
    · obtain ⟨u, h1, k, h2⟩ := main.mp z
      exact absurd (Rk_sym k h2) ((dS_no ok hw).mp (e u h1) k)
theorem sn_s1 (ok : OkB b) {w m : Nat} (hw : w < (wl b).1) (h : ∀ s, m.testBit s = true ↔ sn b w s) : ∀ s, (m ||| mkN b w 12).testBit s = true ↔ sn b (w + 1) s := by
  intro s
  rw [Nat.testBit_or, Bool.or_eq_true, h, mkN_bit ok hw]
  constructor
  · rintro (⟨u, h1, h2⟩ | ⟨v, h1, h2⟩)
    · exact ⟨u, by omega, h2⟩
    · exact ⟨w, by omega, 12, v, h1, h2⟩
  · intro ⟨u, h1, k, v, h2, h3⟩
    by_cases z : u = w
    · subst z
      obtain ⟨i, _, g2⟩ := lev_ex k v h2
      exact Or.inr ⟨v, Rk_mono ok hw g2.1 (lev_le ok g2), h3⟩
    · exact Or.inl ⟨u, by omega, k, v, h2, h3⟩
theorem sn_s0 (ok : OkB b) {w m : Nat} (hw : w < (wl b).1) (h : ∀ s, m.testBit s = true ↔ sn b w s) (e : ¬ fstB b w = true) : ∀ s, m.testBit s = true ↔ sn b (w + 1) s := by
  have ex : ∃ u, u < w ∧ ∃ k, Rk b u k w := by
    by_cases q : ∃ u, u < w ∧ ∃ k, Rk b u k w
    · exact q
    · exact absurd (decide_eq_true (fun j hj => (dS_no ok hw).mpr (fun k z => q ⟨j, hj, k, Rk_sym k z⟩))) e
  obtain ⟨u0, g1, l, g2⟩ := ex
  intro s
  rw [h]
  constructor
  · intro ⟨u, h1, h2⟩; exact ⟨u, by omega, h2⟩
  · intro ⟨u, h1, k, v, h2, h3⟩
    by_cases z : u = w
    · subst z; exact ⟨u0, g1, l + k, v, Rk_add g2 k h2, h3⟩
    · exact ⟨u, by omega, k, v, h2, h3⟩
theorem p9_groups_L26 {σ : st_S} (ok : OkB b) {w : Nat} (hw : w < (wl b).1) (hF : ∀ j, j < (wl b).1 → σ 613 j = dS b w j) : ∀ (c j : Nat) (x : Int), j + c = w → (x = 1 ∧ (∀ i, i < j → dS b w i = -1) ∨ x = 0 ∧ ∃ i, i < j ∧ dS b w i ≠ -1) →
    ∀ (K : Int → Int → Int → st_S → Option (Int × st_S)) (v : Int) n, c < n → g_X9_groups_L26 K n v (w : Int) x (j : Int) σ = K v (w : Int) (if fstB b w = true then 1 else 0) σ := by
  have wle := wl_le ok
  intro c
  induction c with
  | zero =>
    intro j x hj h K v n hn
    obtain ⟨m, rfl⟩ : ∃ m, n = m + 1 := ⟨n - 1, by omega⟩
    have e : j = w := by omega
    subst e
    rw [g_X9_groups_L26, if_pos (Int.le_refl _)]
    rcases h with ⟨rfl, h⟩ | ⟨rfl, i, h1, h2⟩
    · rw [if_pos (show fstB b j = true from decide_eq_true h)]
    · rw [if_neg (show ¬ fstB b j = true from fun q => h2 (of_decide_eq_true q i h1))]
  | succ c ih =>
    intro j x hj h K v n hn
    obtain ⟨m, rfl⟩ : ∃ m, n = m + 1 := ⟨n - 1, by omega⟩
    rw [g_X9_groups_L26, if_neg (by omega)]
    rcases h with ⟨rfl, h⟩ | ⟨rfl, i, h1, h2⟩
    · rw [if_neg one0, sa_ld_of (by omega) (by omega), Option.bind_some, Int.toNat_natCast, hF j (by omega)]
      unfold g_X9_groups_J52
      rw [w32s (by omega)]
      by_cases e : dS b w j = -1
      · rw [if_pos e]
        exact ih (j + 1) 1 (by omega) (Or.inl ⟨rfl, fun i hi => by
          by_cases z : i = j
          · rw [z]; exact e
          · exact h i (by omega)⟩) K v m (by omega)
      · rw [if_neg e]
        exact ih (j + 1) 0 (by omega) (Or.inr ⟨rfl, j, by omega, e⟩) K v m (by omega)
    · rw [if_pos rfl, if_neg (show ¬ fstB b w = true from fun q => h2 (of_decide_eq_true q i (by omega)))]
theorem p9_groups_L8 (ok : OkB b) : ∀ (c w a : Nat) (σ : st_S), w + c = (wl b).1 → a ≤ w → RB9 σ 597 0 b → Wd9 σ b → ∃ σ', (∀ n, c < n → g_X9_groups_L8 n (a : Int) (w : Int) σ = some ((gpN b c w a : Int), σ')) ∧ Fr613 σ σ' := by
  have wle := wl_le ok
  intro c
  induction c with
  | zero =>
    intro w a σ hw ha hB hW
    refine ⟨σ, fun n hn => ?_, fun _ _ => rfl⟩
    obtain ⟨m, rfl⟩ : ∃ m, n = m + 1 := ⟨n - 1, by omega⟩
    rw [g_X9_groups_L8, hW.1.1, if_pos (by omega)]; rfl
  | succ c ih =>
    intro w a σ hw ha hB hW
    obtain ⟨σ1, a1, a2, a3⟩ := p9_laysFar ok hB hW (show w < (wl b).1 by omega)
    obtain ⟨σ', q1, q2⟩ := ih (w + 1) (if fstB b w = true then a + 1 else a) σ1 (by omega) (by split <;> omega) (hB.fr (a3 _ (by decide))) (hW.fr (by rw [a3 _ (by decide)]) (a3 _ (by decide)) (a3 _ (by decide)))
    refine ⟨σ', fun n hn => ?_, fun c x => by rw [q2 c x, a3 c x]⟩
    obtain ⟨m, rfl⟩ : ∃ m, n = m + 1 := ⟨n - 1, by omega⟩
    rw [g_X9_groups_L8, hW.1.1, if_neg (by omega), a1, Option.bind_some, gpN]
    refine (p9_groups_L26 ok (show w < (wl b).1 by omega) a2 w 0 1 (by omega) (Or.inl ⟨rfl, fun i hi => absurd hi (Nat.not_lt_zero _)⟩) _ _ ab_FU (by show _ < 100000; omega)).trans ?_
    unfold g_X9_groups_J59 g_X9_groups_J69
    rw [w32s (by omega)]
    have := q1 m (by omega)
    by_cases e : fstB b w = true
    · rw [if_pos e, if_neg one0, w32s (by omega)]
      rw [if_pos e] at this ⊢
      exact this
    · rw [if_neg e, if_pos rfl, Int.add_zero, w32i (by omega) (by omega)]
      rw [if_neg e] at this ⊢
      exact this
end GR
theorem S_groups : Stp0 (InvD DR) g_X8_groups g_X9_groups := by
  intro σ ⟨S, r8, r9, ok⟩
  have okB := ok.2.2.2.2.1
  have wle := wl_le okB
  refine qry (r := (gpN (sB S) (wl (sB S)).1 0 0 : Int)) ok (fun τ h8 => ?_) (fun τ h9 => ?_) r8 r9
  · have hW := h8.2.2.2.2.2.2.1
    have W0 : τ 147 0 = ((wl (sB S)).1 : Int) := by obtain ⟨M, hM, _⟩ := hW; exact hM.1
    have key : ∀ (c n w a m : Nat), w + c = (wl (sB S)).1 → a ≤ w → m < 4096 → (∀ s, m.testBit s = true ↔ sn (sB S) w s) → c < n → g_X8_groups_L6 n (a : Int) (m : Int) (w : Int) τ = some ((gpN (sB S) c w a : Int), τ) := by
      intro c
      induction c with
      | zero =>
        intro n w a m hw ha hm h hn
        obtain ⟨z, rfl⟩ : ∃ z, n = z + 1 := ⟨n - 1, by omega⟩
        rw [g_X8_groups_L6, W0, if_pos (by omega)]; rfl
      | succ c ih =>
        intro n w a m hw ha hm h hn
        have e1 := (hW.m okB (show w < (wl (sB S)).1 by omega)).2
        have hl := hv_lt okB (w : Int) (-1)
        have tst := sn_test okB (show w < (wl (sB S)).1 by omega) h
        obtain ⟨z, rfl⟩ : ∃ z, n = z + 1 := ⟨n - 1, by omega⟩
        rw [g_X8_groups_L6, W0, if_neg (by omega), sa_ld_of (by omega) (by omega), Option.bind_some, Int.toNat_natCast, e1, and_nat (by omega) (by omega), gpN]
        unfold g_X8_groups_J48
        rw [w32s (by omega)]
        by_cases e : fstB (sB S) w = true
        · have ml := mkN_lt (b := sB S) (u := w) okB 12
          rw [tst.mpr e, if_pos (show ((0 : Nat) : Int) = 0 from rfl), if_pos e, p7_groupOf okB hW (by omega), Option.bind_some]
          dsimp only
          rw [or_nat (by omega) (by omega), w32s (by omega)]
          exact ih z (w + 1) (a + 1) _ (by omega) (by omega) (Nat.or_lt_two_pow (n := 12) hm ml) (sn_s1 okB (by omega) h) (by omega)
        · rw [if_neg (show ¬ ((hv (sB S) (w : Int) (-1) &&& m : Nat) : Int) = 0 from fun q => e (tst.mp (by omega))), if_neg e, w32s (by omega)]
          exact ih z (w + 1) a m (by omega) (by omega) hm (sn_s0 okB (by omega) h e) (by omega)
    unfold g_X8_groups
    exact key (wl (sB S)).1 ab_FU 0 0 0 (by omega) (by omega) (by decide) (fun s => by
      rw [Nat.zero_testBit]
      exact ⟨fun q => (by cases q), fun ⟨u, h, _⟩ => absurd h (Nat.not_lt_zero _)⟩) (by show _ < 100000; omega)
  · obtain ⟨τ1, e1, e2, e3, e4⟩ := l9w ok h9
    obtain ⟨τ2, b1, b2⟩ := p9_groups_L8 okB (wl (sB S)).1 0 0 τ1 (by omega) (by omega) e3 e2
    refine ⟨τ2, ?_, e4.trans b2.l9⟩
    unfold g_X9_groups
    rw [e1, Option.bind_some]
    exact b1 ab_FU (by show _ < 100000; omega)
