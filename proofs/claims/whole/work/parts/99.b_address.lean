/-! entries stand in order; addresses of a line -/
theorem crl_neg {fa fb : Nat → Nat} {na nb : Nat} : ∀ (c k : Nat), crl fb fa nb na c k = - crl fa fb na nb c k := by
  intro c
  induction c with
  | zero => intro k; show (nb : Int) - na = - ((na : Int) - nb); omega
  | succ c ih =>
    intro k
    rw [crl, crl]
    by_cases h : na ≤ k ∨ nb ≤ k
    · rw [if_pos h, if_pos (by omega)]; omega
    · rw [if_neg h, if_neg (by omega)]
      by_cases e : fa k = fb k
      · rw [if_pos e, if_pos e.symm, ih]
      · rw [if_neg e, if_neg (fun z => e z.symm)]; omega
theorem cW_neg (b : BV) (wy : Nat → Int) (x y : Nat × Nat) : cW b wy y x = - cW b wy x y := by
  unfold cW
  by_cases e : lw b x = lw b y
  · have n1 : crw (wA b wy y) (wA b wy x) (nA b wy y) (nA b wy x) = - crw (wA b wy x) (wA b wy y) (nA b wy x) (nA b wy y) := crl_neg 7 0
    have n2 : crw (wB b wy y) (wB b wy x) (nB b wy y) (nB b wy x) = - crw (wB b wy x) (wB b wy y) (nB b wy x) (nB b wy y) := crl_neg 7 0
    rw [if_pos e, if_pos e.symm, n1, n2]
    by_cases z : crw (wA b wy x) (wA b wy y) (nA b wy x) (nA b wy y) = 0
    · rw [if_pos z, if_pos (by omega)]
    · rw [if_neg z, if_neg (by omega)]
  · rw [if_neg e, if_neg (fun z => e z.symm)]; omega
theorem cE_neg (b : BV) (wy : Nat → Int) (x y : Nat × Nat) : cE b wy y x = - cE b wy x y := by
  unfold cE
  rw [cW_neg b wy x y]
  by_cases z : cW b wy x y = 0
  · rw [if_pos z, if_pos (by omega)]
    by_cases z2 : badr b x.1 - badr b y.1 = 0
    · rw [if_pos z2, if_pos (by omega)]; omega
    · rw [if_neg z2, if_neg (by omega)]; omega
  · rw [if_neg z, if_neg (by omega)]
def Srt (b : BV) (wy : Nat → Int) (t : OR) : Prop := ∀ k, k + 1 < t.1 → cE b wy (t.2 k) (t.2 (k + 1)) ≤ 0
theorem cpos_spec {b : BV} {wy : Nat → Int} {f : Nat → Nat × Nat} {x : Nat × Nat} : ∀ n, (∀ j, cpos b wy f x n ≤ j → j < n → 0 < cE b wy (f j) x) ∧ (0 < cpos b wy f x n → cE b wy (f (cpos b wy f x n - 1)) x ≤ 0) := by
  intro n
  induction n with
  | zero => exact ⟨fun j h1 h2 => by omega, fun h => absurd h (Nat.not_lt_zero _)⟩
  | succ n ih =>
    rw [cpos]
    by_cases e : 0 < cE b wy (f n) x
    · rw [if_pos e]
      refine ⟨fun j h1 h2 => ?_, ih.2⟩
      by_cases z : j = n
      · rw [z]; exact e
      · exact ih.1 j h1 (by omega)
    · rw [if_neg e]
      exact ⟨fun j h1 h2 => by omega, fun _ => by rw [Nat.add_sub_cancel]; omega⟩
theorem Srt.ins {b : BV} {wy : Nat → Int} {t : OR} (h : Srt b wy t) (x : Nat × Nat) : Srt b wy (sIns b wy t x) := by
  intro k hk
  have hk : k + 1 < t.1 + 1 := hk
  have hp := cpos_le b wy t.2 x t.1
  obtain ⟨s1, s2⟩ := cpos_spec (b := b) (wy := wy) (f := t.2) (x := x) t.1
  show cE b wy (insG t.2 (cpos b wy t.2 x t.1) x k) (insG t.2 (cpos b wy t.2 x t.1) x (k + 1)) ≤ 0
  generalize cpos b wy t.2 x t.1 = p at *
  by_cases a : k + 1 < p
  · rw [insG_lt (by omega), insG_lt a]; exact h k (by omega)
  · by_cases a2 : k + 1 = p
    · rw [insG_lt (by omega), a2, insG_at]
      have := s2 (by omega)
      rw [show p - 1 = k by omega] at this; exact this
    · by_cases a3 : k = p
      · rw [a3, insG_at, insG_gt (by omega), Nat.add_sub_cancel, cE_neg]
        have := s1 p (by omega) (by omega)
        omega
      · rw [insG_gt (by omega), insG_gt (by omega), Nat.add_sub_cancel]
        have := h (k - 1) (by omega)
        rw [show k - 1 + 1 = k by omega] at this; exact this
theorem so_srt (b : BV) (wy : Nat → Int) : Srt b wy (so b wy) := by
  have : ∀ (l : List (Nat × Nat)) (t : OR), Srt b wy t → Srt b wy (l.foldl (sIns b wy) t) := by
    intro l
    induction l with
    | nil => intro t h; exact h
    | cons x l ih => intro t h; exact ih _ (h.ins x)
  exact this _ _ (fun k hk => absurd hk (Nat.not_lt_zero _))
/-- the address of an entry -/
def agr (b : BV) (wy : Nat → Int) (k : Nat) : Int := badr b (sE b wy k).1
section AG
variable {b : BV} {wy : Nat → Int}
theorem agr_in (ok : OkB b) (hE : ∀ k, k < nE b wy → isE b (sE b wy k)) {k : Nat} (hk : k < nE b wy) : 0 ≤ agr b wy k ∧ agr b wy k ≤ 999 := by
  have := ok.2.1 _ (hE k hk).1; unfold agr; omega
theorem agr_mo (hE : ∀ k, k < nE b wy → isE b (sE b wy k)) : ∀ (d k : Nat), k + d < nE b wy → lnO b wy k = lnO b wy (k + d) → agr b wy k ≤ agr b wy (k + d) := by
  have st := lnK_st b wy (sE b wy)
  intro d
  induction d with
  | zero => intro k _ _; exact Int.le_refl _
  | succ d ih =>
    intro k hk hl
    have m1 : lnO b wy k ≤ lnO b wy (k + d) := st.mo (by omega)
    have m2 : lnO b wy (k + d) ≤ lnO b wy (k + d + 1) := st.mo (by omega)
    rw [← Nat.add_assoc] at hl ⊢
    have a := ih k (by omega) (by omega)
    have e : lnO b wy (k + d + 1) = lnO b wy (k + d) := by omega
    have c0 : cW b wy (sE b wy (k + d + 1)) (sE b wy (k + d)) = 0 := by
      by_cases z : cW b wy (sE b wy (k + d + 1)) (sE b wy (k + d)) = 0
      · exact z
      · have : lnO b wy (k + d + 1) = lnO b wy (k + d) + 1 := by
          show lnK b wy (sE b wy) (k + d + 1) = _
          rw [lnK, if_neg z]; rfl
        omega
    have s := so_srt b wy (k + d) (by have : nE b wy = (so b wy).1 := rfl; omega)
    have s : cE b wy (sE b wy (k + d)) (sE b wy (k + d + 1)) ≤ 0 := s
    unfold cE at s
    rw [if_pos (by rw [cW_neg] at c0; omega)] at s
    have : agr b wy (k + d) ≤ agr b wy (k + d + 1) := by
      unfold agr
      by_cases z : badr b (sE b wy (k + d)).1 - badr b (sE b wy (k + d + 1)).1 = 0
      · omega
      · rw [if_neg z] at s; omega
    omega
theorem agr_le (hE : ∀ k, k < nE b wy → isE b (sE b wy k)) {j k : Nat} (hjk : j ≤ k) (hk : k < nE b wy) (hl : lnO b wy j = lnO b wy k) : agr b wy j ≤ agr b wy k := by
  have := agr_mo hE (k - j) j (by omega) (by rw [show j + (k - j) = k by omega]; exact hl)
  rw [show j + (k - j) = k by omega] at this; exact this
/-- the next address of a line above one; none -/
def abv (b : BV) (wy : Nat → Int) (l : Nat) (v : Int) : Int :=
  if fnd (fun j => decide (lnO b wy j = l ∧ v < agr b wy j)) (nE b wy) 0 = -1 then -1 else agr b wy (fnd (fun j => decide (lnO b wy j = l ∧ v < agr b wy j)) (nE b wy) 0).toNat
theorem abv_at {l k : Nat} {v : Int} (hk : k < nE b wy) (hl : lnO b wy k = l) (hv : v < agr b wy k) (hb : ∀ j, j < k → lnO b wy j = l → agr b wy j ≤ v) : abv b wy l v = agr b wy k := by
  have : fnd (fun j => decide (lnO b wy j = l ∧ v < agr b wy j)) (nE b wy) 0 = (k : Int) := fnd_hit (by omega) (by omega) (decide_eq_true ⟨hl, hv⟩) (fun j _ hj => decide_eq_false (fun z => by have := hb j hj z.1; omega))
  unfold abv
  rw [this, if_neg (by omega), Int.toNat_natCast]
theorem abv_no {l : Nat} {v : Int} (hb : ∀ j, j < nE b wy → lnO b wy j = l → agr b wy j ≤ v) : abv b wy l v = -1 := by
  have : fnd (fun j => decide (lnO b wy j = l ∧ v < agr b wy j)) (nE b wy) 0 = -1 := fnd_none _ _ (fun j _ hj => decide_eq_false (fun z => by have := hb j (by omega) z.1; omega))
  unfold abv
  rw [if_pos this]
theorem p9_addressAbove {σ : st_S} {o : Nat → Nat} (ok : OkB b) (hn : nE b wy ≤ 72) (h : V9 σ b wy o) (hB : RB9 σ 597 0 b) (l : Nat) (v : Int) : g_X9_addressAbove (l : Int) v σ = some (abv b wy l v, σ) := by
  have hE : ∀ k, k < nE b wy → isE b (sE b wy k) := fun k hk => (h.2.2.2.2 k hk).2.2.1
  -- one found: it stays
  have stay : ∀ (k0 : Nat), k0 < nE b wy → lnO b wy k0 = l → ∀ (c n k : Nat), k + c = nE b wy → k0 < k → c < n → g_X9_addressAbove_L5 n (l : Int) v (agr b wy k0) (k : Int) σ = some (agr b wy k0, σ) := by
    intro k0 h0 hl c
    have a0 := agr_in ok hE h0
    induction c with
    | zero =>
      intro n k hk _ hn
      obtain ⟨m, rfl⟩ : ∃ m, n = m + 1 := ⟨n - 1, by omega⟩
      rw [g_X9_addressAbove_L5, h.1, if_pos (by omega)]
    | succ c ih =>
      intro n k hk hk0 hn'
      obtain ⟨m, rfl⟩ : ∃ m, n = m + 1 := ⟨n - 1, by omega⟩
      obtain ⟨k1, k2, k3, k4, k5, k6⟩ := h.2.2.2.2 k (by omega)
      rw [g_X9_addressAbove_L5, h.1, if_neg (by omega), sa_ld_of (by omega) (by omega), Option.bind_some, Int.toNat_natCast, k1, sa_ld_of (by omega) (by omega), Option.bind_some, Int.toNat_natCast, k4.1, p9_addressOf hB ok k3.1, Option.bind_some]
      dsimp only
      rw [sa_ld_of (by omega) (by omega), Option.bind_some, Int.toNat_natCast, k5]
      unfold g_X9_addressAbove_J60 g_X9_addressAbove_J63
      rw [w32s (by omega)]
      have nx := ih m (k + 1) (by omega) (by omega) (by omega)
      by_cases e : lnO b wy k = l
      · have mo := agr_le hE (show k0 ≤ k by omega) (by omega) (by rw [hl, e])
        have mo : agr b wy k0 ≤ badr b (sE b wy k).1 := mo
        rw [if_pos (by omega)]
        by_cases z : badr b (sE b wy k).1 ≤ v
        · rw [if_pos z]; exact nx
        · rw [if_neg z, if_neg (by omega), if_pos mo]; exact nx
      · rw [if_neg (by omega)]; exact nx
  have key : ∀ (c n k : Nat), k + c = nE b wy → c < n → g_X9_addressAbove_L5 n (l : Int) v (-1) (k : Int) σ = some (if fnd (fun j => decide (lnO b wy j = l ∧ v < agr b wy j)) c k = -1 then -1 else agr b wy (fnd (fun j => decide (lnO b wy j = l ∧ v < agr b wy j)) c k).toNat, σ) := by
    intro c
    induction c with
    | zero =>
      intro n k hk hn
      obtain ⟨m, rfl⟩ : ∃ m, n = m + 1 := ⟨n - 1, by omega⟩
      rw [g_X9_addressAbove_L5, h.1, if_pos (by omega), fnd, if_pos rfl]
    | succ c ih =>
      intro n k hk hn'
      obtain ⟨m, rfl⟩ : ∃ m, n = m + 1 := ⟨n - 1, by omega⟩
      obtain ⟨k1, k2, k3, k4, k5, k6⟩ := h.2.2.2.2 k (by omega)
      rw [g_X9_addressAbove_L5, h.1, if_neg (by omega), sa_ld_of (by omega) (by omega), Option.bind_some, Int.toNat_natCast, k1, sa_ld_of (by omega) (by omega), Option.bind_some, Int.toNat_natCast, k4.1, p9_addressOf hB ok k3.1, Option.bind_some]
      dsimp only
      rw [sa_ld_of (by omega) (by omega), Option.bind_some, Int.toNat_natCast, k5, fnd]
      unfold g_X9_addressAbove_J60 g_X9_addressAbove_J63
      rw [w32s (by omega)]
      have nx := ih m (k + 1) (by omega) (by omega)
      by_cases e : lnO b wy k = l
      · rw [if_pos (by omega)]
        by_cases z : badr b (sE b wy k).1 ≤ v
        · rw [if_pos z, if_neg (show ¬ decide (lnO b wy k = l ∧ v < agr b wy k) = true from fun q => by have := (of_decide_eq_true q).2; unfold agr at this; omega)]; exact nx
        · rw [if_neg z, if_pos rfl, if_pos (show decide (lnO b wy k = l ∧ v < agr b wy k) = true from decide_eq_true ⟨e, by unfold agr; omega⟩), if_neg (by omega), Int.toNat_natCast]
          exact stay k (by omega) e c m (k + 1) (by omega) (by omega) (by omega)
      · rw [if_neg (by omega), if_neg (show ¬ decide (lnO b wy k = l ∧ v < agr b wy k) = true from fun q => e (of_decide_eq_true q).1)]; exact nx
  exact key (nE b wy) ab_FU 0 (by omega) (by show _ < 100000; omega)
/-- the d-th address more from entry k on, above v -/
def adS (b : BV) (wy : Nat → Int) : Nat → Nat → Int → Int → Int
  | 0, _, _, _ => -1
  | c + 1, k, v, d => if agr b wy k ≤ v then adS b wy c (k + 1) v d else if d ≤ 0 then agr b wy k else adS b wy c (k + 1) (agr b wy k) (d - 1)
/-- how many more -/
def adC (b : BV) (wy : Nat → Int) : Nat → Nat → Int → Nat
  | 0, _, _ => 0
  | c + 1, k, v => if agr b wy k ≤ v then adC b wy c (k + 1) v else adC b wy c (k + 1) (agr b wy k) + 1
theorem adC_le : ∀ (c k : Nat) (v : Int), adC b wy c k v ≤ c := by
  intro c
  induction c with
  | zero => intro k v; exact Nat.le_refl _
  | succ c ih => intro k v; rw [adC]; have h1 := ih (k + 1) v; have h2 := ih (k + 1) (agr b wy k); split <;> omega
end AG
theorem pc_or12 {g i : Nat} (hg : g < 4096) (hi : i < 12) (h : g.testBit i = false) : pc (g ||| 2 ^ i) = pc g + 1 := by
  have key : ∀ a, a < 64 → ∀ c, c < 64 → ∀ i, i < 12 → (64 * a + c).testBit i = false → pc ((64 * a + c) ||| 2 ^ i) = pc (64 * a + c) + 1 := by decide +kernel
  have k := key (g / 64) (by omega) (g % 64) (by omega) i hi
  rw [Nat.div_add_mod] at k; exact k h
theorem or_in {g i : Nat} (h : g.testBit i = true) : g ||| 2 ^ i = g := by
  apply Nat.eq_of_testBit_eq
  intro u
  rw [Nat.testBit_or, Nat.testBit_two_pow]
  by_cases e : i = u
  · subst e; rw [h]; rfl
  · rw [decide_eq_false e, Bool.or_false]
/-- strings of a line are as many as its addresses -/
theorem pc_line {b : BV} {wy : Nat → Int} (ok : OkB b) (hE : ∀ k, k < nE b wy → isE b (sE b wy k)) {l : Nat} (hl : l < nL b wy) : pc (sts b wy (lnO b wy) l) = adC b wy (lF b wy (l + 1) - lF b wy l) (lF b wy l) (-1) := by
  obtain ⟨q1, q2⟩ := lF_lt hl
  have o1 := ok.1
  rw [sts_range (g := lnO b wy) (lnK_st b wy _)]
  show pc (flt (fun _ => true) (fun k => (sE b wy k).1) (lF b wy (l + 1) - lF b wy l) (lF b wy l) 0) = _
  have inn : ∀ k, k < nE b wy → (lnO b wy k = l ↔ lF b wy l ≤ k ∧ k < lF b wy (l + 1)) := fun k hk => fsk_in (lnK_st b wy (sE b wy)) hk
  generalize hp : lF b wy l = p at *
  generalize hq : lF b wy (l + 1) = q at *
  have key : ∀ (c k a : Nat) (v : Int), k + c = q → p ≤ k → a < 4096 → (∀ u, a.testBit u = true ↔ ∃ j, p ≤ j ∧ j < k ∧ (sE b wy j).1 = u) → (k = p ∧ v = -1 ∨ p < k ∧ v = agr b wy (k - 1)) → pc (flt (fun _ => true) (fun k => (sE b wy k).1) c k a) = pc a + adC b wy c k v := by
    intro c
    induction c with
    | zero => intro k a v _ _ _ _ _; rfl
    | succ c ih =>
      intro k a v hk hpk ha hb hv
      have ek := hE k (by omega)
      have g0 := agr_in ok hE (show k < nE b wy by omega)
      have ln : lnO b wy k = l := (inn k (by omega)).mpr ⟨hpk, by omega⟩
      have s12 : (sE b wy k).1 < 12 := by have := ek.1; omega
      have nb : ∀ u, (a ||| 2 ^ (sE b wy k).1).testBit u = true ↔ ∃ j, p ≤ j ∧ j < k + 1 ∧ (sE b wy j).1 = u := by
        intro u
        rw [Nat.testBit_or, Bool.or_eq_true, hb u, Nat.testBit_two_pow, decide_eq_true_iff]
        constructor
        · rintro (⟨j, j1, j2, j3⟩ | h)
          · exact ⟨j, j1, by omega, j3⟩
          · exact ⟨k, hpk, by omega, h⟩
        · rintro ⟨j, j1, j2, j3⟩
          by_cases z : j = k
          · subst z; exact Or.inr j3
          · exact Or.inl ⟨j, j1, by omega, j3⟩
      rw [flt, if_pos rfl, adC]
      by_cases e : agr b wy k ≤ v
      · rw [if_pos e]
        rcases hv with ⟨_, hv⟩ | ⟨hpk', hv⟩
        · omega
        · have ln1 : lnO b wy (k - 1) = l := (inn (k - 1) (by omega)).mpr ⟨by omega, by omega⟩
          have mo := agr_le hE (show k - 1 ≤ k by omega) (by omega) (by rw [ln, ln1])
          have same : (sE b wy k).1 = (sE b wy (k - 1)).1 := ok.2.2.1 _ _ ek.1 (hE (k - 1) (by omega)).1 (by unfold agr at *; omega)
          have tb : a.testBit (sE b wy k).1 = true := (hb _).mpr ⟨k - 1, by omega, by omega, same.symm⟩
          have oi := or_in tb
          rw [oi] at nb ⊢
          exact ih (k + 1) a v (by omega) (by omega) ha nb (Or.inr ⟨by omega, by rw [Nat.add_sub_cancel]; omega⟩)
      · rw [if_neg e]
        have tb : a.testBit (sE b wy k).1 = false := by
          cases h : a.testBit (sE b wy k).1
          · rfl
          · obtain ⟨j, j1, j2, j3⟩ := (hb _).mp h
            exfalso
            rcases hv with ⟨hv0, hv⟩ | ⟨hpk', hv⟩
            · omega
            · have ln1 : lnO b wy (k - 1) = l := (inn (k - 1) (by omega)).mpr ⟨by omega, by omega⟩
              have lnj : lnO b wy j = l := (inn j (by omega)).mpr ⟨j1, by omega⟩
              have mo := agr_le hE (show j ≤ k - 1 by omega) (by omega) (by rw [lnj, ln1])
              have : agr b wy j = agr b wy k := by unfold agr; rw [j3]
              omega
        rw [ih (k + 1) _ (agr b wy k) (by omega) (by omega) (or12 ha (p2lt s12)) nb (Or.inr ⟨by omega, by rw [Nat.add_sub_cancel]⟩), pc_or12 ha s12 tb]
        omega
  have := key (q - p) p 0 (-1) (by omega) (Nat.le_refl _) (by decide) (fun u => by rw [Nat.zero_testBit]; exact ⟨fun h => (by cases h), fun ⟨j, j1, j2, _⟩ => by omega⟩) (Or.inl ⟨rfl, rfl⟩)
  rw [this]
  show 0 + _ = _
  rw [Nat.zero_add]
theorem p9_isLineNow {S : SV} {τ : st_S} (ok : OkS S) (h9 : Rep9 τ S) (x : Int) : ∃ τ1, g_X9_isLineNow x τ = some (if 0 ≤ x ∧ x < (nL (sB S) (bwy (sB S)) : Int) then 1 else 0, τ1) ∧ (nE (sB S) (bwy (sB S)) ≤ 72 ∧ ∃ o, V9 τ1 (sB S) (bwy (sB S)) o) ∧ RB9 τ1 597 0 (sB S) ∧ L9 τ τ1 := by
  obtain ⟨τ1, e1, ⟨hn, o, v⟩, _, e3, e4⟩ := v9of ok h9
  have lL := nL_le (sB S) (bwy (sB S))
  refine ⟨τ1, ?_, ⟨hn, o, v⟩, e3, e4⟩
  unfold g_X9_isLineNow
  rw [e1, Option.bind_some, v.2.1, w32i (by omega) (by omega)]
  by_cases h : 0 ≤ x ∧ x < (nL (sB S) (bwy (sB S)) : Int)
  · rw [p9_in1 h.1 (by omega), if_pos h]; rfl
  · rw [p9_in0 (by omega), if_neg h]; rfl
theorem S_address : Stp2 (InvD DR) g_X8_address g_X9_address := by
  intro x y σ _ _ ⟨S, r8, r9, ok⟩
  have okB := ok.2.2.2.2.1
  have lL := nL_le (sB S) (bwy (sB S))
  by_cases hx : 0 ≤ x ∧ x < (nL (sB S) (bwy (sB S)) : Int)
  · obtain ⟨l, rfl⟩ := Int.eq_ofNat_of_zero_le hx.1
    have hl : l < nL (sB S) (bwy (sB S)) := by omega
    obtain ⟨q1, q2⟩ := lF_lt hl
    have inn : ∀ k, k < nE (sB S) (bwy (sB S)) → (lnO (sB S) (bwy (sB S)) k = l ↔ lF (sB S) (bwy (sB S)) l ≤ k ∧ k < lF (sB S) (bwy (sB S)) (l + 1)) := fun k hk => fsk_in (lnK_st (sB S) (bwy (sB S)) (sE (sB S) (bwy (sB S)))) hk
    by_cases hy : 0 ≤ y
    · refine qry (r := adS (sB S) (bwy (sB S)) (lF (sB S) (bwy (sB S)) (l + 1) - lF (sB S) (bwy (sB S)) l) (lF (sB S) (bwy (sB S)) l) (-1) y) ok (fun τ h8 => ?_) (fun τ h9 => ?_) r8 r9
      · obtain ⟨hn, r, v⟩ := v8of h8
        have hE : ∀ k, k < nE (sB S) (bwy (sB S)) → isE (sB S) (sE (sB S) (bwy (sB S)) k) := fun k hk => (v.2.2.2.2.2 k hk).2.2.1
        have f1 : τ 158 l = (lF (sB S) (bwy (sB S)) l : Int) := v.2.2.2.1 l (by omega)
        have f2 : τ 158 (l + 1) = (lF (sB S) (bwy (sB S)) (l + 1) : Int) := v.2.2.2.1 (l + 1) (by omega)
        have key : ∀ (c n k a : Nat) (w : Int), k + c = lF (sB S) (bwy (sB S)) (l + 1) → lF (sB S) (bwy (sB S)) l ≤ k → a ≤ k → (a : Int) ≤ y → (∀ j, k ≤ j → j < lF (sB S) (bwy (sB S)) (l + 1) → w ≤ agr (sB S) (bwy (sB S)) j) → c < n → g_X8_address_L31 n (l : Int) y (a : Int) w (k : Int) τ = some (adS (sB S) (bwy (sB S)) c k w (y - (a : Int)), τ) := by
          intro c
          induction c with
          | zero =>
            intro n k a w hk hp ha hay hw hn
            obtain ⟨m, rfl⟩ : ∃ m, n = m + 1 := ⟨n - 1, by omega⟩
            rw [g_X8_address_L31, w32s (by omega), sa_ld_of (by omega) (by omega), Option.bind_some, Int.toNat_natCast, f2, if_pos (by omega), adS]
          | succ c ih =>
            intro n k a w hk hp ha hay hw hn'
            obtain ⟨m, rfl⟩ : ∃ m, n = m + 1 := ⟨n - 1, by omega⟩
            obtain ⟨k1, k2, k3, k4, k5, k6⟩ := v.2.2.2.2.2 k (by omega)
            have k1 : τ 157 k = (r k : Int) := k1
            have wk := hw k (by omega) (by omega)
            have ln : lnO (sB S) (bwy (sB S)) k = l := (inn k (by omega)).mpr ⟨hp, by omega⟩
            have ea : τ (r k) 1 = agr (sB S) (bwy (sB S)) k := k4.2.1
            rw [g_X8_address_L31, w32s (by omega), sa_ld_of (by omega) (by omega), Option.bind_some, Int.toNat_natCast, f2, if_neg (by omega), sa_ld_of (by omega) (by omega), Option.bind_some, Int.toNat_natCast, k1, k2, Option.bind_some, ea, adS]
            unfold g_X8_address_J87
            rw [w32s (by omega), w32s (by omega)]
            by_cases e : agr (sB S) (bwy (sB S)) k = w
            · rw [if_pos e, if_pos (by omega)]; exact ih m (k + 1) a w (by omega) (by omega) (by omega) hay (fun j j1 j2 => hw j (by omega) j2) (by omega)
            · rw [if_neg e, if_neg (show ¬ agr (sB S) (bwy (sB S)) k ≤ w by omega)]
              by_cases z : (a : Int) = y
              · rw [if_pos z, if_pos (by omega)]
              · rw [if_neg z, if_neg (by omega)]
                have := ih m (k + 1) (a + 1) (agr (sB S) (bwy (sB S)) k) (by omega) (by omega) (by omega) (by omega) (fun j j1 j2 => agr_le hE (by omega) (by omega) (by rw [ln, (inn j (by omega)).mpr ⟨by omega, j2⟩])) (by omega)
                rw [show y - (a : Int) - 1 = y - ((a + 1 : Nat) : Int) by omega]
                exact this
        unfold g_X8_address
        rw [p8_isLine v, if_pos hx, Option.bind_some]
        dsimp only
        rw [if_neg one0, if_pos hy, sa_ld_of (by omega) (by omega), Option.bind_some, Int.toNat_natCast, f1]
        have := key (lF (sB S) (bwy (sB S)) (l + 1) - lF (sB S) (bwy (sB S)) l) ab_FU (lF (sB S) (bwy (sB S)) l) 0 (-1) (by omega) (Nat.le_refl _) (by omega) hy (fun j j1 j2 => by have := agr_in okB hE (show j < nE (sB S) (bwy (sB S)) by omega); omega) (by show _ < 100000; omega)
        rw [show y - ((0 : Nat) : Int) = y by omega] at this
        exact this
      · obtain ⟨τ1, e1, ⟨hn, o, v⟩, e3, e4⟩ := p9_isLineNow ok h9 (l : Int)
        refine ⟨τ1, ?_, e4⟩
        have hE : ∀ k, k < nE (sB S) (bwy (sB S)) → isE (sB S) (sE (sB S) (bwy (sB S)) k) := fun k hk => (v.2.2.2.2 k hk).2.2.1
        have key : ∀ (c n k a : Nat) (w : Int), k + c = lF (sB S) (bwy (sB S)) (l + 1) → lF (sB S) (bwy (sB S)) l ≤ k → a ≤ k → (a : Int) ≤ y → (∀ j, j < k → lnO (sB S) (bwy (sB S)) j = l → agr (sB S) (bwy (sB S)) j ≤ w) → c + 1 < n → g_X9_address_L25 n (l : Int) y (abv (sB S) (bwy (sB S)) l w) (a : Int) τ1 = some (adS (sB S) (bwy (sB S)) c k w (y - (a : Int)), τ1) := by
          intro c
          induction c with
          | zero =>
            intro n k a w hk hp ha hay hw hn
            obtain ⟨m, rfl⟩ : ∃ m, n = m + 1 := ⟨n - 1, by omega⟩
            rw [abv_no (fun j j1 j2 => hw j (by have := (inn j j1).mp j2; omega) j2), g_X9_address_L25, adS]
            split
            · rfl
            · rw [if_pos rfl]
          | succ c ih =>
            intro n k a w hk hp ha hay hw hn'
            have ln : lnO (sB S) (bwy (sB S)) k = l := (inn k (by omega)).mpr ⟨hp, by omega⟩
            have ai := agr_in okB hE (show k < nE (sB S) (bwy (sB S)) by omega)
            rw [adS]
            by_cases e : agr (sB S) (bwy (sB S)) k ≤ w
            · rw [if_pos e]
              exact ih n (k + 1) a w (by omega) (by omega) (by omega) hay (fun j j1 j2 => by
                by_cases z : j = k
                · rw [z]; exact e
                · exact hw j (by omega) j2) (by omega)
            · obtain ⟨m, rfl⟩ : ∃ m, n = m + 1 := ⟨n - 1, by omega⟩
              rw [if_neg e, abv_at (by omega) ln (by omega) hw, g_X9_address_L25]
              by_cases z : (a : Int) = y
              · rw [if_pos (by omega), if_pos (by omega)]
              · rw [if_neg (by omega), if_neg (by omega), if_neg (by omega), p9_addressAbove okB hn v e3, Option.bind_some]
                dsimp only
                rw [w32s (by omega)]
                have := ih m (k + 1) (a + 1) (agr (sB S) (bwy (sB S)) k) (by omega) (by omega) (by omega) (by omega) (fun j j1 j2 => agr_le hE (by omega) (by omega) (by rw [ln, j2])) (by omega)
                rw [show y - (a : Int) - 1 = y - ((a + 1 : Nat) : Int) by omega]
                exact this
        unfold g_X9_address
        rw [e1, if_pos hx, Option.bind_some]
        dsimp only
        rw [if_neg one0, if_pos hy, p9_addressAbove okB hn v e3, Option.bind_some]
        dsimp only
        have := key (lF (sB S) (bwy (sB S)) (l + 1) - lF (sB S) (bwy (sB S)) l) ab_FU (lF (sB S) (bwy (sB S)) l) 0 (-1) (by omega) (Nat.le_refl _) (by omega) hy (fun j j1 j2 => by have := (inn j (by omega)).mp j2; omega) (by show _ < 100000; omega)
        rw [show y - ((0 : Nat) : Int) = y by omega] at this
        exact this
    · refine qry (r := -2) ok (fun τ h8 => ?_) (fun τ h9 => ?_) r8 r9
      · obtain ⟨hn, r, v⟩ := v8of h8
        unfold g_X8_address
        rw [p8_isLine v, if_pos hx, Option.bind_some]
        dsimp only
        rw [if_neg one0, if_neg hy]
      · obtain ⟨τ1, e1, ⟨hn, o, v⟩, e3, e4⟩ := p9_isLineNow ok h9 (l : Int)
        refine ⟨τ1, ?_, e4⟩
        unfold g_X9_address
        rw [e1, if_pos hx, Option.bind_some]
        dsimp only
        rw [if_neg one0, if_neg hy]
  · refine qry (r := -2) ok (fun τ h8 => ?_) (fun τ h9 => ?_) r8 r9
    · obtain ⟨hn, r, v⟩ := v8of h8
      unfold g_X8_address
      rw [p8_isLine v, if_neg hx]; rfl
    · obtain ⟨τ1, e1, ⟨hn, o, v⟩, e3, e4⟩ := p9_isLineNow ok h9 x
      refine ⟨τ1, ?_, e4⟩
      unfold g_X9_address
      rw [e1, if_neg hx]; rfl
theorem S_line : Stp2 (InvD DR) g_X8_line g_X9_line := by
  intro x y σ _ _ ⟨S, r8, r9, ok⟩
  have okB := ok.2.2.2.2.1
  have lL := nL_le (sB S) (bwy (sB S))
  by_cases hx : 0 ≤ x ∧ x < (nL (sB S) (bwy (sB S)) : Int)
  · obtain ⟨l, rfl⟩ := Int.eq_ofNat_of_zero_le hx.1
    have hl : l < nL (sB S) (bwy (sB S)) := by omega
    obtain ⟨q1, q2⟩ := lF_lt hl
    have inn : ∀ k, k < nE (sB S) (bwy (sB S)) → (lnO (sB S) (bwy (sB S)) k = l ↔ lF (sB S) (bwy (sB S)) l ≤ k ∧ k < lF (sB S) (bwy (sB S)) (l + 1)) := fun k hk => fsk_in (lnK_st (sB S) (bwy (sB S)) (sE (sB S) (bwy (sB S)))) hk
    by_cases hy : 0 ≤ y ∧ y ≤ 3
    · refine qry (r := if y = 0 then (lF (sB S) (bwy (sB S)) l : Int) else if y = 1 then ((lF (sB S) (bwy (sB S)) (l + 1) - lF (sB S) (bwy (sB S)) l : Nat) : Int) else if y = 2 then (adC (sB S) (bwy (sB S)) (lF (sB S) (bwy (sB S)) (l + 1) - lF (sB S) (bwy (sB S)) l) (lF (sB S) (bwy (sB S)) l) (-1) : Int) else (hdO (sB S) (bwy (sB S)) (lF (sB S) (bwy (sB S)) l) : Int)) ok (fun τ h8 => ?_) (fun τ h9 => ?_) r8 r9
      · obtain ⟨hn, r, v⟩ := v8of h8
        have hE : ∀ k, k < nE (sB S) (bwy (sB S)) → isE (sB S) (sE (sB S) (bwy (sB S)) k) := fun k hk => (v.2.2.2.2.2 k hk).2.2.1
        have f1 : τ 158 l = (lF (sB S) (bwy (sB S)) l : Int) := v.2.2.2.1 l (by omega)
        have f2 : τ 158 (l + 1) = (lF (sB S) (bwy (sB S)) (l + 1) : Int) := v.2.2.2.1 (l + 1) (by omega)
        obtain ⟨k1, k2, k3, k4, k5, k6⟩ := v.2.2.2.2.2 (lF (sB S) (bwy (sB S)) l) (by omega)
        have k1 : τ 157 (lF (sB S) (bwy (sB S)) l) = (r (lF (sB S) (bwy (sB S)) l) : Int) := k1
        have l1 := sts_lt okB v (lnO (sB S) (bwy (sB S))) l
        unfold g_X8_line
        rw [p8_isLine v, if_pos hx, Option.bind_some]
        dsimp only
        rw [if_neg one0, sa_ld_of (by omega) (by omega), Option.bind_some, Int.toNat_natCast, f1]
        split
        · rfl
        · split
          · rw [w32s (by omega), sa_ld_of (by omega) (by omega), Option.bind_some, Int.toNat_natCast, f2]
            refine congrArg some (Prod.ext ?_ rfl)
            show ab_w32 _ = _
            rw [w32i (by omega) (by omega)]; omega
          · split
            · rw [p6_stringsOfLine okB hn v hl, Option.bind_some]
              dsimp only
              rw [jBitCount l1, pc_line okB hE hl]; rfl
            · rw [if_pos (by omega), sa_ld_of (by omega) (by omega), Option.bind_some, Int.toNat_natCast, k1, k2, Option.bind_some, k6]
      · obtain ⟨τ1, e1, ⟨hn, o, v⟩, e3, e4⟩ := p9_isLineNow ok h9 (l : Int)
        refine ⟨τ1, ?_, e4⟩
        have hE : ∀ k, k < nE (sB S) (bwy (sB S)) → isE (sB S) (sE (sB S) (bwy (sB S)) k) := fun k hk => (v.2.2.2.2 k hk).2.2.1
        have many : g_X9_manyOf (l : Int) τ1 = some (((lF (sB S) (bwy (sB S)) (l + 1) - lF (sB S) (bwy (sB S)) l : Nat) : Int), τ1) := by
          have key : ∀ (c n k a : Nat), k + c = nE (sB S) (bwy (sB S)) → a ≤ k → c < n → g_X9_manyOf_L4 n (l : Int) (a : Int) (k : Int) τ1 = some ((cN (fun k => decide (lnO (sB S) (bwy (sB S)) k = l)) c k a : Int), τ1) := by
            intro c
            induction c with
            | zero =>
              intro n k a hk ha hn
              obtain ⟨m, rfl⟩ : ∃ m, n = m + 1 := ⟨n - 1, by omega⟩
              rw [g_X9_manyOf_L4, v.1, if_pos (by omega), cN]
            | succ c ih =>
              intro n k a hk ha hn'
              obtain ⟨m, rfl⟩ : ∃ m, n = m + 1 := ⟨n - 1, by omega⟩
              obtain ⟨k1, k2, k3, k4, k5, k6⟩ := v.2.2.2.2 k (by omega)
              rw [g_X9_manyOf_L4, v.1, if_neg (by omega), sa_ld_of (by omega) (by omega), Option.bind_some, Int.toNat_natCast, k5, cN]
              unfold g_X9_manyOf_J28
              rw [w32s (by omega), w32s (by omega), Int.add_zero, w32i (x := (a : Int)) (by omega) (by omega)]
              by_cases e : lnO (sB S) (bwy (sB S)) k = l
              · rw [if_pos (by omega), if_pos (decide_eq_true e)]; exact ih m (k + 1) (a + 1) (by omega) (by omega) (by omega)
              · rw [if_neg (by omega), if_neg (show ¬ decide (lnO (sB S) (bwy (sB S)) k = l) = true from fun q => e (of_decide_eq_true q))]; exact ih m (k + 1) a (by omega) (by omega) (by omega)
          have := key (nE (sB S) (bwy (sB S))) ab_FU 0 0 (by omega) (by omega) (by show _ < 100000; omega)
          rw [cN_eqs (g := lnO (sB S) (bwy (sB S))) (lnK_st (sB S) (bwy (sB S)) (sE (sB S) (bwy (sB S))))] at this
          exact this
        have adrs : g_X9_addressesOf (l : Int) τ1 = some ((adC (sB S) (bwy (sB S)) (lF (sB S) (bwy (sB S)) (l + 1) - lF (sB S) (bwy (sB S)) l) (lF (sB S) (bwy (sB S)) l) (-1) : Int), τ1) := by
          have key : ∀ (c n k a : Nat) (w : Int), k + c = lF (sB S) (bwy (sB S)) (l + 1) → lF (sB S) (bwy (sB S)) l ≤ k → a ≤ k → (∀ j, j < k → lnO (sB S) (bwy (sB S)) j = l → agr (sB S) (bwy (sB S)) j ≤ w) → c + 1 < n → g_X9_addressesOf_L9 n (l : Int) (a : Int) (abv (sB S) (bwy (sB S)) l w) τ1 = some (((a + adC (sB S) (bwy (sB S)) c k w : Nat) : Int), τ1) := by
            intro c
            induction c with
            | zero =>
              intro n k a w hk hp ha hw hn
              obtain ⟨m, rfl⟩ : ∃ m, n = m + 1 := ⟨n - 1, by omega⟩
              rw [abv_no (fun j j1 j2 => hw j (by have := (inn j j1).mp j2; omega) j2), g_X9_addressesOf_L9, if_pos rfl, adC, Nat.add_zero]
            | succ c ih =>
              intro n k a w hk hp ha hw hn'
              have ln : lnO (sB S) (bwy (sB S)) k = l := (inn k (by omega)).mpr ⟨hp, by omega⟩
              have ai := agr_in okB hE (show k < nE (sB S) (bwy (sB S)) by omega)
              rw [adC]
              by_cases e : agr (sB S) (bwy (sB S)) k ≤ w
              · rw [if_pos e]
                exact ih n (k + 1) a w (by omega) (by omega) (by omega) (fun j j1 j2 => by
                  by_cases z : j = k
                  · rw [z]; exact e
                  · exact hw j (by omega) j2) (by omega)
              · obtain ⟨m, rfl⟩ : ∃ m, n = m + 1 := ⟨n - 1, by omega⟩
                rw [if_neg e, abv_at (by omega) ln (by omega) hw, g_X9_addressesOf_L9, if_neg (by omega), p9_addressAbove okB hn v e3, Option.bind_some]
                dsimp only
                rw [w32s (by omega)]
                have := ih m (k + 1) (a + 1) (agr (sB S) (bwy (sB S)) k) (by omega) (by omega) (by omega) (fun j j1 j2 => agr_le hE (by omega) (by omega) (by rw [ln, j2])) (by omega)
                rw [this]
                refine congrArg some (Prod.ext ?_ rfl)
                show ((_ : Nat) : Int) = ((_ : Nat) : Int)
                omega
          unfold g_X9_addressesOf
          rw [p9_addressAbove okB hn v e3, Option.bind_some]
          dsimp only
          have := key (lF (sB S) (bwy (sB S)) (l + 1) - lF (sB S) (bwy (sB S)) l) ab_FU (lF (sB S) (bwy (sB S)) l) 0 (-1) (by omega) (Nat.le_refl _) (by omega) (fun j j1 j2 => by have := (inn j (by omega)).mp j2; omega) (by show _ < 100000; omega)
          rw [Nat.zero_add] at this
          exact this
        obtain ⟨k1, k2, k3, k4, k5, k6⟩ := v.2.2.2.2 (lF (sB S) (bwy (sB S)) l) (by omega)
        unfold g_X9_line
        rw [e1, if_pos hx, Option.bind_some]
        dsimp only
        rw [if_neg one0, p9_in1 hy.1 hy.2, Option.bind_some]
        dsimp only
        rw [if_neg one0, p9_firstOf hn v hl, many, adrs]
        split
        · rfl
        · split
          · rfl
          · split
            · rfl
            · rw [Option.bind_some]
              dsimp only
              rw [sa_ld_of (by omega) (by omega), Option.bind_some, Int.toNat_natCast, k6]
    · refine qry (r := -2) ok (fun τ h8 => ?_) (fun τ h9 => ?_) r8 r9
      · obtain ⟨hn, r, v⟩ := v8of h8
        unfold g_X8_line
        rw [p8_isLine v, if_pos hx, Option.bind_some]
        dsimp only
        rw [if_neg one0, sa_ld_of (by omega) (by omega), Option.bind_some, if_neg (by omega), if_neg (by omega), if_neg (by omega), if_neg (by omega)]
      · obtain ⟨τ1, e1, ⟨hn, o, v⟩, e3, e4⟩ := p9_isLineNow ok h9 (l : Int)
        refine ⟨τ1, ?_, e4⟩
        unfold g_X9_line
        rw [e1, if_pos hx, Option.bind_some]
        dsimp only
        rw [if_neg one0, p9_in0 hy]; rfl
  · refine qry (r := -2) ok (fun τ h8 => ?_) (fun τ h9 => ?_) r8 r9
    · obtain ⟨hn, r, v⟩ := v8of h8
      unfold g_X8_line
      rw [p8_isLine v, if_neg hx]; rfl
    · obtain ⟨τ1, e1, ⟨hn, o, v⟩, e3, e4⟩ := p9_isLineNow ok h9 x
      refine ⟨τ1, ?_, e4⟩
      unfold g_X9_line
      rw [e1, if_neg hx]; rfl
