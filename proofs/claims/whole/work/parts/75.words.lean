theorem cmp_le {x y : Int} : ab_cmp x y ≤ 0 ↔ x ≤ y := by unfold ab_cmp; split <;> (try split) <;> omega
theorem cmp_ge {x y : Int} : 0 ≤ ab_cmp x y ↔ y ≤ x := by unfold ab_cmp; split <;> (try split) <;> omega
/-! the row of words: both sides sort them in the same way -/
abbrev WL : Type := Nat × (Nat → Int)
def fw (t : WL) (x : Int) : Int := fnd (fun k => decide (t.2 k = x)) t.1 0
def ipos (f : Nat → Int) (x : Int) : Nat → Nat
  | 0 => 0
  | k + 1 => if x < f k then ipos f x k else k + 1
def insG {α : Type} (f : Nat → α) (p : Nat) (x : α) : Nat → α := fun j => if j < p then f j else if j = p then x else f (j - 1)
def wAdd (t : WL) (x : Int) : WL := if fw t x = -1 then (t.1 + 1, insG t.2 (ipos t.2 x t.1) x) else t
def wI (g : Nat → Int) : Nat → Nat → WL → WL
  | 0, _, t => t
  | c + 1, i, t => wI g c (i + 1) (wAdd t (g i))
/-- the used name of a term (f: 2 its own, 3 via, 4 back) -/
def un (b : BV) (f s i : Nat) : Int := us b (btm b f s i)
def wS (b : BV) : Nat → Nat → WL → WL
  | 0, _, t => t
  | c + 1, s, t => wS b c (s + 1) (wI (un b 2 s) (bsz b s) 0 t)
def wl (b : BV) : WL := wS b (bn b) 0 (0, fun _ => 0)
theorem ipos_le (f : Nat → Int) (x : Int) : ∀ k, ipos f x k ≤ k := by
  intro k
  induction k with
  | zero => exact Nat.le_refl _
  | succ k ih => rw [ipos]; split <;> omega
/-- what holds of the words when all terms ahead of (s, i) are in -/
def bef (u v s i : Nat) : Prop := u < s ∨ u = s ∧ v < i
def WOK (b : BV) (s i : Nat) (t : WL) : Prop :=
  t.1 ≤ 6 * s + i ∧ (∀ u v, bef u v s i → v < bsz b u → fw t (un b 2 u v) ≠ -1) ∧ (∀ j k, j < t.1 → k < t.1 → t.2 j = t.2 k → j = k) ∧ ∀ j, j < t.1 → ∃ u v, bef u v s i ∧ v < bsz b u ∧ t.2 j = un b 2 u v
theorem fw_yes {t : WL} {x : Int} (h : fw t x ≠ -1) : ∃ k : Nat, fw t x = (k : Int) ∧ k < t.1 ∧ t.2 k = x := by
  obtain ⟨j, e, _, h2, h3, _⟩ := fnd_yes _ _ h
  exact ⟨j, e, by omega, of_decide_eq_true h3⟩
theorem fw_no {t : WL} {x : Int} (h : fw t x = -1) : ∀ k, k < t.1 → t.2 k ≠ x := by
  intro k hk e
  have := fnd_no _ _ h k (by omega) (by omega)
  rw [decide_eq_false_iff_not] at this
  exact this e
theorem fw_in {t : WL} {x : Int} {k : Nat} (hk : k < t.1) (e : t.2 k = x) : fw t x ≠ -1 := fun h => fw_no h k hk e
theorem insG_lt {α : Type} {f : Nat → α} {p j : Nat} {x : α} (h : j < p) : insG f p x j = f j := if_pos h
theorem insG_at {α : Type} {f : Nat → α} {p : Nat} {x : α} : insG f p x p = x := by unfold insG; rw [if_neg (by omega), if_pos rfl]
theorem insG_gt {α : Type} {f : Nat → α} {p j : Nat} {x : α} (h : p < j) : insG f p x j = f (j - 1) := by unfold insG; rw [if_neg (by omega), if_neg (by omega)]
theorem WOK.step {b : BV} {s i : Nat} {t : WL} (h : WOK b s i t) (hi : i < bsz b s) : WOK b s (i + 1) (wAdd t (un b 2 s i)) := by
  obtain ⟨h1, h2, h3, h4⟩ := h
  have bs : ∀ u v, bef u v s (i + 1) → bef u v s i ∨ (u = s ∧ v = i) := by
    intro u v q; unfold bef at q ⊢; omega
  have bs' : ∀ u v, bef u v s i → bef u v s (i + 1) := by
    intro u v q; unfold bef at q ⊢; omega
  unfold wAdd
  by_cases e : fw t (un b 2 s i) = -1
  · rw [if_pos e]
    have hp := ipos_le t.2 (un b 2 s i) t.1
    have no := fw_no e
    have gt : ∀ j, j < t.1 + 1 → (j < ipos t.2 (un b 2 s i) t.1 ∧ insG t.2 (ipos t.2 (un b 2 s i) t.1) (un b 2 s i) j = t.2 j) ∨ (j = ipos t.2 (un b 2 s i) t.1 ∧ insG t.2 (ipos t.2 (un b 2 s i) t.1) (un b 2 s i) j = un b 2 s i) ∨ (ipos t.2 (un b 2 s i) t.1 < j ∧ insG t.2 (ipos t.2 (un b 2 s i) t.1) (un b 2 s i) j = t.2 (j - 1)) := by
      intro j _
      by_cases a : j < ipos t.2 (un b 2 s i) t.1
      · exact Or.inl ⟨a, insG_lt a⟩
      · by_cases a' : j = ipos t.2 (un b 2 s i) t.1
        · exact Or.inr (Or.inl ⟨a', by rw [a']; exact insG_at⟩)
        · exact Or.inr (Or.inr ⟨by omega, insG_gt (by omega)⟩)
    refine ⟨by show t.1 + 1 ≤ _; omega, fun u v q hv => ?_, fun j k hj hk ejk => ?_, fun j hj => ?_⟩
    · rcases bs u v q with q | ⟨rfl, rfl⟩
      · obtain ⟨k, _, hk, ek⟩ := fw_yes (h2 u v q hv)
        by_cases a : k < ipos t.2 (un b 2 s i) t.1
        · exact fw_in (k := k) (by show k < t.1 + 1; omega) (by show insG _ _ _ k = _; rw [insG_lt a, ek])
        · exact fw_in (k := k + 1) (by show k + 1 < t.1 + 1; omega) (by show insG _ _ _ (k + 1) = _; rw [insG_gt (by omega), Nat.add_sub_cancel, ek])
      · exact fw_in (k := ipos t.2 (un b 2 u v) t.1) (by show _ < t.1 + 1; omega) insG_at
    · have hj' : j < t.1 + 1 := hj
      have hk' : k < t.1 + 1 := hk
      have ejk' : insG t.2 (ipos t.2 (un b 2 s i) t.1) (un b 2 s i) j = insG t.2 (ipos t.2 (un b 2 s i) t.1) (un b 2 s i) k := ejk
      rcases gt j hj' with ⟨a1, a2⟩ | ⟨a1, a2⟩ | ⟨a1, a2⟩ <;> rcases gt k hk' with ⟨c1, c2⟩ | ⟨c1, c2⟩ | ⟨c1, c2⟩ <;> rw [a2, c2] at ejk'
      · exact h3 j k (by omega) (by omega) ejk'
      · exact absurd ejk' (no j (by omega))
      · have := h3 j (k - 1) (by omega) (by omega) ejk'; omega
      · exact absurd ejk'.symm (no k (by omega))
      · omega
      · exact absurd ejk'.symm (no (k - 1) (by omega))
      · have := h3 (j - 1) k (by omega) (by omega) ejk'; omega
      · exact absurd ejk' (no (j - 1) (by omega))
      · have := h3 (j - 1) (k - 1) (by omega) (by omega) ejk'; omega
    · have hj' : j < t.1 + 1 := hj
      show ∃ u v, bef u v s (i + 1) ∧ v < bsz b u ∧ insG t.2 (ipos t.2 (un b 2 s i) t.1) (un b 2 s i) j = un b 2 u v
      rcases gt j hj' with ⟨a1, a2⟩ | ⟨a1, a2⟩ | ⟨a1, a2⟩ <;> rw [a2]
      · obtain ⟨u, v, q, hv, e'⟩ := h4 j (by omega); exact ⟨u, v, bs' u v q, hv, e'⟩
      · exact ⟨s, i, Or.inr ⟨rfl, by omega⟩, hi, rfl⟩
      · obtain ⟨u, v, q, hv, e'⟩ := h4 (j - 1) (by omega); exact ⟨u, v, bs' u v q, hv, e'⟩
  · rw [if_neg e]
    refine ⟨by omega, fun u v q hv => ?_, h3, fun j hj => ?_⟩
    · rcases bs u v q with q | ⟨rfl, rfl⟩
      · exact h2 u v q hv
      · exact e
    · obtain ⟨u, v, q, hv, e'⟩ := h4 j hj; exact ⟨u, v, bs' u v q, hv, e'⟩
theorem WOK.wI {b : BV} {s : Nat} : ∀ (c i : Nat) (t : WL), i + c = bsz b s → WOK b s i t → WOK b s (bsz b s) (wI (un b 2 s) c i t) := by
  intro c
  induction c with
  | zero => intro i t hi h; rw [← hi]; exact h
  | succ c ih => intro i t hi h; exact ih (i + 1) _ (by omega) (h.step (by omega))
theorem WOK.next {b : BV} {s : Nat} {t : WL} (hb : bsz b s ≤ 6) (h : WOK b s (bsz b s) t) : WOK b (s + 1) 0 t := by
  obtain ⟨h1, h2, h3, h4⟩ := h
  refine ⟨by omega, fun u v q hv => ?_, h3, fun j hj => ?_⟩
  · refine h2 u v ?_ hv
    unfold bef at q ⊢
    by_cases e : u = s
    · subst e; exact Or.inr ⟨rfl, hv⟩
    · exact Or.inl (by omega)
  · obtain ⟨u, v, q, hv, e'⟩ := h4 j hj
    exact ⟨u, v, by unfold bef at q ⊢; omega, hv, e'⟩
theorem WOK.wS {b : BV} (ok : OkB b) : ∀ (c s : Nat) (t : WL), s + c = bn b → WOK b s 0 t → WOK b (bn b) 0 (wS b c s t) := by
  intro c
  induction c with
  | zero => intro s t hs h; rw [← hs]; exact h
  | succ c ih => intro s t hs h; exact ih (s + 1) _ (by omega) ((WOK.wI (bsz b s) 0 t (by omega) h).next (ok.2.1 s (by omega)).2.2.2)
theorem WOK.zero (b : BV) : WOK b 0 0 (0, fun _ => 0) := ⟨Nat.le_refl _, fun u v q => by unfold bef at q; omega, fun j k hj => absurd hj (Nat.not_lt_zero _), fun j hj => absurd hj (Nat.not_lt_zero _)⟩
theorem wl_ok {b : BV} (ok : OkB b) : WOK b (bn b) 0 (wl b) := WOK.wS ok (bn b) 0 _ (by omega) (WOK.zero b)
/-- the number of a term's word -/
def tw (b : BV) (s i : Nat) : Nat := (fw (wl b) (un b 2 s i)).toNat
theorem tw_spec {b : BV} (ok : OkB b) {s i : Nat} (hs : s < bn b) (hi : i < bsz b s) : fw (wl b) (un b 2 s i) = (tw b s i : Int) ∧ tw b s i < (wl b).1 ∧ (wl b).2 (tw b s i) = un b 2 s i := by
  obtain ⟨k, e, hk, ek⟩ := fw_yes ((wl_ok ok).2.1 s i (Or.inl hs) hi)
  have : tw b s i = k := by unfold tw; rw [e]; rfl
  rw [this]; exact ⟨e, hk, ek⟩
theorem wl_le {b : BV} (ok : OkB b) : (wl b).1 ≤ 72 := by have := (wl_ok ok).1; have := ok.1; omega
/-! the reference -/
def W9 (σ : st_S) (t : WL) : Prop := σ 596 14 = (t.1 : Int) ∧ ∀ j, j < t.1 → σ 600 j = t.2 j
theorem p9_findWord_L {σ : st_S} {t : WL} (h : W9 σ t) (hn : t.1 ≤ 72) (x : Int) : ∀ (c n i : Nat), i + c = t.1 → c < n → g_X9_findWord_L2 n x (i : Int) σ = some (fnd (fun k => decide (t.2 k = x)) c i, σ) := by
  have r1 := h.1
  have r2 := h.2
  intro c
  induction c with
  | zero =>
    intro n i hi hn
    obtain ⟨m, rfl⟩ : ∃ m, n = m + 1 := ⟨n - 1, by omega⟩
    rw [g_X9_findWord_L2, fnd]; repeat (first | rw [Option.bind_some] | dsimp only | rw [r1] | rw [Int.toNat_natCast] | rw [w32s (by omega)] | rw [w32p (by omega)] | rw [w32q (by omega)] | rw [w32i (by omega) (by omega)] | rw [sa_ld_of (by omega) (by omega)] | rw [sa_st_of (by omega) (by omega)] | rw [if_pos (by omega)] | rw [if_neg (by omega)] | rw [if_neg one0] | rw [if_pos rfl])
  | succ c ih =>
    intro n i hi hn
    obtain ⟨m, rfl⟩ : ∃ m, n = m + 1 := ⟨n - 1, by omega⟩
    rw [g_X9_findWord_L2, fnd]; repeat (first | rw [Option.bind_some] | dsimp only | rw [r1] | rw [r2 _ (by omega)] | rw [Int.toNat_natCast] | rw [w32s (by omega)] | rw [w32p (by omega)] | rw [w32q (by omega)] | rw [w32i (by omega) (by omega)] | rw [sa_ld_of (by omega) (by omega)] | rw [sa_st_of (by omega) (by omega)] | rw [if_pos (by omega)] | rw [if_neg (by omega)] | rw [if_neg one0] | rw [if_pos rfl])
    by_cases e : t.2 i = x
    · rw [if_pos (cmp_eq.mpr e), if_pos (decide_eq_true e)]
    · rw [if_neg (fun q => e (cmp_eq.mp q)), if_neg (by simpa using e)]
      repeat (first | rw [Option.bind_some] | dsimp only | rw [ih m (i + 1) (by omega) (by omega)] | rw [Int.toNat_natCast] | rw [w32s (by omega)] | rw [w32p (by omega)] | rw [w32q (by omega)] | rw [w32i (by omega) (by omega)] | rw [sa_ld_of (by omega) (by omega)] | rw [sa_st_of (by omega) (by omega)] | rw [if_pos (by omega)] | rw [if_neg (by omega)] | rw [if_neg one0] | rw [if_pos rfl])
theorem p9_findWord {σ : st_S} {t : WL} (h : W9 σ t) (hn : t.1 ≤ 72) (x : Int) : g_X9_findWord x σ = some (fw t x, σ) :=
  p9_findWord_L h hn x t.1 ab_FU 0 (by omega) (by show _ < 100000; omega)
theorem p9_shift (f : Nat → Int) (v1 v2 x : Int) : ∀ (p : Nat), p < 72 → ∀ σ : st_S, (∀ j, j < p → σ 600 j = f j) →
    ∃ σ', (∀ (k : Int → Int → Int → Int → st_S → Option st_S) (n : Nat), p < n → g_X9_laysWords_L64 k n v1 v2 x (p : Int) σ = k v1 v2 x (ipos f x p : Nat) σ') ∧ (∀ j, j < ipos f x p → σ' 600 j = f j) ∧ (∀ j, ipos f x p < j → j ≤ p → σ' 600 j = f (j - 1)) ∧ (∀ j, p < j → σ' 600 j = σ 600 j) ∧ ∀ c, c ≠ 600 → σ' c = σ c := by
  intro p
  induction p with
  | zero =>
    intro _ σ _
    refine ⟨σ, fun k n hn => ?_, fun j hj => absurd hj (Nat.not_lt_zero _), fun j h1 h2 => by omega, fun _ _ => rfl, fun _ _ => rfl⟩
    obtain ⟨m, rfl⟩ : ∃ m, n = m + 1 := ⟨n - 1, by omega⟩
    rw [g_X9_laysWords_L64, if_pos (by omega)]; rfl
  | succ p ih =>
    intro hp σ hσ
    have r1 := hσ p (by omega)
    by_cases e : x < f p
    · obtain ⟨σ', k1, k2, k3, k4, k5⟩ := ih (by omega) (up2 σ 600 (p + 1) (f p)) (fun j hj => by rw [up2_ne _ _ (by omega)]; exact hσ j (by omega))
      have ei : ipos f x (p + 1) = ipos f x p := by rw [ipos, if_pos e]
      refine ⟨σ', fun k n hn => ?_, fun j hj => k2 j (by omega), fun j h1 h2 => ?_, fun j hj => ?_, fun c hc => ?_⟩
      · obtain ⟨m, rfl⟩ : ∃ m, n = m + 1 := ⟨n - 1, by omega⟩
        rw [g_X9_laysWords_L64, ei]; repeat (first | rw [Option.bind_some] | dsimp only | rw [r1] | rw [if_neg (fun q => absurd (cmp_gt.mpr e) (by omega))] | rw [k1 k m (by omega)] | rw [Int.toNat_natCast] | rw [w32s (by omega)] | rw [w32p (by omega)] | rw [w32q (by omega)] | rw [w32i (by omega) (by omega)] | rw [sa_ld_of (by omega) (by omega)] | rw [sa_st_of (by omega) (by omega)] | rw [if_pos (by omega)] | rw [if_neg (by omega)] | rw [if_neg one0] | rw [if_pos rfl])
      · by_cases ej : j = p + 1
        · subst ej; rw [k4 _ (by omega), up2_at, Nat.add_sub_cancel]
        · exact k3 j (by omega) (by omega)
      · rw [k4 j (by omega), up2_ne _ _ (by omega)]
      · rw [k5 c hc, up2_o _ _ hc]
    · have ei : ipos f x (p + 1) = p + 1 := by rw [ipos, if_neg e]
      refine ⟨σ, fun k n hn => ?_, fun j hj => hσ j (by omega), fun j h1 h2 => by omega, fun _ _ => rfl, fun _ _ => rfl⟩
      obtain ⟨m, rfl⟩ : ∃ m, n = m + 1 := ⟨n - 1, by omega⟩
      rw [g_X9_laysWords_L64, ei]; (try simp only [cmp_eq, cmp_le, cmp_lt, cmp_gt, cmp_ge]); repeat (first | rw [Option.bind_some] | dsimp only | rw [r1] | rw [Int.toNat_natCast] | rw [w32s (by omega)] | rw [w32p (by omega)] | rw [w32q (by omega)] | rw [w32i (by omega) (by omega)] | rw [sa_ld_of (by omega) (by omega)] | rw [sa_st_of (by omega) (by omega)] | rw [if_pos (by omega)] | rw [if_neg (by omega)] | rw [if_neg one0] | rw [if_pos rfl])

theorem W9.fr {σ σ' : st_S} {t : WL} (h : W9 σ t) (e1 : σ' 596 14 = σ 596 14) (e2 : σ' 600 = σ 600) : W9 σ' t := by
  unfold W9; rw [e1, e2]; exact h
theorem p9_laysWords_L17 {b : BV} (ok : OkB b) {s : Nat} (hs : s < bn b) : ∀ (c i : Nat) (t : WL) (σ : st_S), i + c = bsz b s → RB9 σ 597 0 b → W9 σ t → WOK b s i t →
    ∃ σ', (∀ (k : Int → st_S → Option st_S) (n : Nat), c < n → g_X9_laysWords_L17 k n (s : Int) (i : Int) σ = k (s : Int) σ') ∧ W9 σ' (wI (un b 2 s) c i t) ∧ (∀ a, a ≠ 600 → a ≠ 596 → σ' a = σ a) ∧ ∀ f, f ≠ 14 → σ' 596 f = σ 596 f := by
  have o1 := ok.1
  have o2 := ok.2.1 s hs
  intro c
  induction c with
  | zero =>
    intro i t σ hi hB hW _
    refine ⟨σ, fun k n hn => ?_, hW, fun _ _ _ => rfl, fun _ _ => rfl⟩
    obtain ⟨m, rfl⟩ : ∃ m, n = m + 1 := ⟨n - 1, by omega⟩
    rw [g_X9_laysWords_L17]; repeat (first | rw [Option.bind_some] | dsimp only | rw [p9_terms hB ok hs] | rw [Int.toNat_natCast] | rw [w32s (by omega)] | rw [w32p (by omega)] | rw [w32q (by omega)] | rw [w32i (by omega) (by omega)] | rw [sa_ld_of (by omega) (by omega)] | rw [sa_st_of (by omega) (by omega)] | rw [if_pos (by omega)] | rw [if_neg (by omega)] | rw [if_neg one0] | rw [if_pos rfl])
  | succ c ih =>
    intro i t σ hi hB hW hO
    have hO' := hO.step (show i < bsz b s by omega)
    have tn : t.1 < 72 := by have := hO.1; omega
    have e0 : ab_w32 (((34 + 32 * s + 5 * i : Nat) : Int) + 2) = ((0 + 34 + 32 * s + 5 * i + 2 : Nat) : Int) := by unfold ab_w32; omega
    have e1 := hB.2.2.1 s hs i (by omega) 2 (by decide)
    have hrun : ∀ (k : Int → st_S → Option st_S) (m : Nat), g_X9_laysWords_L17 k (m + 1) (s : Int) (i : Int) σ = if fw t (un b 2 s i) = -1 then g_X9_laysWords_L64 (fun w105_1 w105_2 w105_3 w105_5 σx105 =>
        g_X9_laysWords_J105 (g_X9_laysWords_L17 k m) k w105_1 w105_2 w105_3 w105_5 σx105) ab_FU s i (un b 2 s i) (t.1 : Nat) σ else g_X9_laysWords_J123 (g_X9_laysWords_L17 k m) k (s : Int) (i : Int) σ := by
      intro k m
      rw [g_X9_laysWords_L17]
      repeat (first | rw [Option.bind_some] | dsimp only | rw [p9_terms hB ok hs] | rw [p9_termAt (by omega) (by omega)] | rw [e0] | rw [e1] | rw [p9_usedOf hB.s ok] | rw [p9_findWord hW (by omega)] | rw [hW.1] | rw [Int.toNat_natCast] | rw [w32s (by omega)] | rw [w32p (by omega)] | rw [w32q (by omega)] | rw [w32i (by omega) (by omega)] | rw [sa_ld_of (by omega) (by omega)] | rw [sa_st_of (by omega) (by omega)] | rw [if_pos (by omega)] | rw [if_neg (by omega)] | rw [if_neg one0] | rw [if_pos rfl])
      rfl
    by_cases e : fw t (un b 2 s i) = -1
    · obtain ⟨σ1, k1, k2, k3, k4, k5⟩ := p9_shift t.2 s i (un b 2 s i) t.1 tn σ hW.2
      have hp := ipos_le t.2 (un b 2 s i) t.1
      have ew : wAdd t (un b 2 s i) = (t.1 + 1, insG t.2 (ipos t.2 (un b 2 s i) t.1) (un b 2 s i)) := if_pos e
      generalize hq : ipos t.2 (un b 2 s i) t.1 = p at k1 k2 k3 hp ew
      have g0 : σ1 596 14 = (t.1 : Int) := by rw [k5 596 (by decide)]; exact hW.1
      have hW' : W9 (up2 (up2 σ1 600 p (un b 2 s i)) 596 14 ((t.1 + 1 : Nat) : Int)) (wAdd t (un b 2 s i)) := by
        rw [ew]
        refine ⟨up2_at _ _ _ _, fun j hj => ?_⟩
        have hj' : j < t.1 + 1 := hj
        show _ = insG t.2 p (un b 2 s i) j
        rw [up2_o _ _ (by decide)]
        by_cases a : j < p
        · rw [insG_lt a, up2_ne _ _ (by omega), k2 j a]
        · by_cases a' : j = p
          · subst a'; rw [insG_at, up2_at]
          · rw [insG_gt (by omega), up2_ne _ _ (by omega), k3 j (by omega) (by omega)]
      have hf : ∀ a, a ≠ 600 → a ≠ 596 → up2 (up2 σ1 600 p (un b 2 s i)) 596 14 ((t.1 + 1 : Nat) : Int) a = σ a := fun a h1 h2 => by rw [up2_o _ _ h2, up2_o _ _ h1, k5 a h1]
      have hg : ∀ f, f ≠ 14 → up2 (up2 σ1 600 p (un b 2 s i)) 596 14 ((t.1 + 1 : Nat) : Int) 596 f = σ 596 f := fun f hf => by rw [up2_ne _ _ (fun q => hf q.2), up2_o _ _ (by decide), k5 596 (by decide)]
      obtain ⟨σ', q1, q2, q3, q4⟩ := ih (i + 1) _ _ (by omega) (hB.fr (hf 597 (by decide) (by decide))) hW' hO'
      refine ⟨σ', fun k n hn => ?_, q2, fun a h1 h2 => by rw [q3 a h1 h2, hf a h1 h2], fun f h1 => by rw [q4 f h1, hg f h1]⟩
      obtain ⟨m, rfl⟩ : ∃ m, n = m + 1 := ⟨n - 1, by omega⟩
      rw [hrun, if_pos e, k1 _ ab_FU (by show _ < 100000; omega)]
      unfold g_X9_laysWords_J105 g_X9_laysWords_J123
      repeat (first | rw [Option.bind_some] | dsimp only | rw [up2_o _ _ (by decide)] | rw [g0] | rw [q1 k m (by omega)] | rw [Int.toNat_natCast] | rw [w32s (by omega)] | rw [w32p (by omega)] | rw [w32q (by omega)] | rw [w32i (by omega) (by omega)] | rw [sa_ld_of (by omega) (by omega)] | rw [sa_st_of (by omega) (by omega)] | rw [if_pos (by omega)] | rw [if_neg (by omega)] | rw [if_neg one0] | rw [if_pos rfl])
    · have ew : wAdd t (un b 2 s i) = t := if_neg e
      rw [ew] at hO'
      obtain ⟨σ', q1, q2, q3, q4⟩ := ih (i + 1) t σ (by omega) hB hW hO'
      refine ⟨σ', fun k n hn => ?_, by rw [wI, ew]; exact q2, q3, q4⟩
      obtain ⟨m, rfl⟩ : ∃ m, n = m + 1 := ⟨n - 1, by omega⟩
      rw [hrun, if_neg e]
      unfold g_X9_laysWords_J123
      repeat (first | rw [Option.bind_some] | dsimp only | rw [q1 k m (by omega)] | rw [Int.toNat_natCast] | rw [w32s (by omega)] | rw [w32p (by omega)] | rw [w32q (by omega)] | rw [w32i (by omega) (by omega)] | rw [sa_ld_of (by omega) (by omega)] | rw [sa_st_of (by omega) (by omega)] | rw [if_pos (by omega)] | rw [if_neg (by omega)] | rw [if_neg one0] | rw [if_pos rfl])
theorem p9_laysWords_L7 {b : BV} (ok : OkB b) : ∀ (c s : Nat) (t : WL) (σ : st_S), s + c = bn b → RB9 σ 597 0 b → W9 σ t → WOK b s 0 t →
    ∃ σ', (∀ (k : st_S → Option st_S) (n : Nat), c < n → g_X9_laysWords_L7 k n (s : Int) σ = k σ') ∧ W9 σ' (wS b c s t) ∧ (∀ a, a ≠ 600 → a ≠ 596 → σ' a = σ a) ∧ ∀ f, f ≠ 14 → σ' 596 f = σ 596 f := by
  have o1 := ok.1
  intro c
  induction c with
  | zero =>
    intro s t σ hi hB hW _
    refine ⟨σ, fun k n hn => ?_, hW, fun _ _ _ => rfl, fun _ _ => rfl⟩
    obtain ⟨m, rfl⟩ : ∃ m, n = m + 1 := ⟨n - 1, by omega⟩
    rw [g_X9_laysWords_L7]; repeat (first | rw [Option.bind_some] | dsimp only | rw [p9_strings hB ok] | rw [Int.toNat_natCast] | rw [w32s (by omega)] | rw [w32p (by omega)] | rw [w32q (by omega)] | rw [w32i (by omega) (by omega)] | rw [sa_ld_of (by omega) (by omega)] | rw [sa_st_of (by omega) (by omega)] | rw [if_pos (by omega)] | rw [if_neg (by omega)] | rw [if_neg one0] | rw [if_pos rfl])
  | succ c ih =>
    intro s t σ hi hB hW hO
    have o2 := ok.2.1 s (by omega)
    obtain ⟨σ1, q1, q2, q3, q4⟩ := p9_laysWords_L17 ok (show s < bn b by omega) (bsz b s) 0 t σ (by omega) hB hW hO
    rw [show ((0 : Nat) : Int) = 0 from rfl] at q1
    have hO' := (WOK.wI (bsz b s) 0 t (by omega) hO).next o2.2.2.2
    obtain ⟨σ', r1, r2, r3, r4⟩ := ih (s + 1) _ σ1 (by omega) (hB.fr (q3 597 (by decide) (by decide))) q2 hO'
    refine ⟨σ', fun k n hn => ?_, r2, fun a h1 h2 => by rw [r3 a h1 h2, q3 a h1 h2], fun f h1 => by rw [r4 f h1, q4 f h1]⟩
    obtain ⟨m, rfl⟩ : ∃ m, n = m + 1 := ⟨n - 1, by omega⟩
    rw [g_X9_laysWords_L7]; repeat (first | rw [Option.bind_some] | dsimp only | rw [p9_strings hB ok] | rw [q1 _ ab_FU (by show _ < 100000; omega)] | rw [r1 k m (by omega)] | rw [Int.toNat_natCast] | rw [w32s (by omega)] | rw [w32p (by omega)] | rw [w32q (by omega)] | rw [w32i (by omega) (by omega)] | rw [sa_ld_of (by omega) (by omega)] | rw [sa_st_of (by omega) (by omega)] | rw [if_pos (by omega)] | rw [if_neg (by omega)] | rw [if_neg one0] | rw [if_pos rfl])
/-- the words' numbers -/
theorem p9_place {σ : st_S} {s i : Nat} (hs : s < 12) (hi : i < 7) : g_X9_place (s : Int) (i : Int) σ = some (((6 * s + i : Nat) : Int), σ) := by
  unfold g_X9_place
  refine congrArg some (Prod.ext ?_ rfl)
  show ab_w32 _ = _
  unfold ab_w32; omega
theorem p9_laysWords_L147 {b : BV} (ok : OkB b) {s : Nat} (hs : s < bn b) : ∀ (c i : Nat) (σ : st_S), i + c = bsz b s → RB9 σ 597 0 b → W9 σ (wl b) →
    ∃ σ', (∀ (k : Int → st_S → Option st_S) (n : Nat), c < n → g_X9_laysWords_L147 k n (s : Int) (i : Int) σ = k (s : Int) σ') ∧ (∀ j, i ≤ j → j < bsz b s → σ' 601 (6 * s + j) = (tw b s j : Int)) ∧ (∀ x, (x < 6 * s + i ∨ 6 * s + bsz b s ≤ x) → σ' 601 x = σ 601 x) ∧ ∀ a, a ≠ 601 → σ' a = σ a := by
  have o1 := ok.1
  have o2 := ok.2.1 s hs
  have wle := wl_le ok
  intro c
  induction c with
  | zero =>
    intro i σ hi hB hW
    refine ⟨σ, fun k n hn => ?_, fun j h1 h2 => by omega, fun _ _ => rfl, fun _ _ => rfl⟩
    obtain ⟨m, rfl⟩ : ∃ m, n = m + 1 := ⟨n - 1, by omega⟩
    rw [g_X9_laysWords_L147]; repeat (first | rw [Option.bind_some] | dsimp only | rw [p9_terms hB ok hs] | rw [Int.toNat_natCast] | rw [w32s (by omega)] | rw [w32p (by omega)] | rw [w32q (by omega)] | rw [w32i (by omega) (by omega)] | rw [sa_ld_of (by omega) (by omega)] | rw [sa_st_of (by omega) (by omega)] | rw [if_pos (by omega)] | rw [if_neg (by omega)] | rw [if_neg one0] | rw [if_pos rfl])
  | succ c ih =>
    intro i σ hi hB hW
    have e0 : ab_w32 (((34 + 32 * s + 5 * i : Nat) : Int) + 2) = ((0 + 34 + 32 * s + 5 * i + 2 : Nat) : Int) := by unfold ab_w32; omega
    have e1 := hB.2.2.1 s hs i (by omega) 2 (by decide)
    have e2 := (tw_spec ok hs (show i < bsz b s by omega)).1
    have hf : ∀ a, a ≠ 601 → up2 σ 601 (6 * s + i) (tw b s i : Int) a = σ a := fun a h1 => up2_o _ _ h1
    obtain ⟨σ', q1, q2, q3, q4⟩ := ih (i + 1) (up2 σ 601 (6 * s + i) (tw b s i : Int)) (by omega) (hB.fr (hf 597 (by decide))) (hW.fr (by rw [hf 596 (by decide)]) (hf 600 (by decide)))
    refine ⟨σ', fun k n hn => ?_, fun j h1 h2 => ?_, fun x hx => ?_, fun a h1 => by rw [q4 a h1, hf a h1]⟩
    · obtain ⟨m, rfl⟩ : ∃ m, n = m + 1 := ⟨n - 1, by omega⟩
      rw [g_X9_laysWords_L147]
      repeat (first | rw [Option.bind_some] | dsimp only | rw [p9_terms hB ok hs] | rw [p9_place (by omega) (by omega)] | rw [p9_termAt (by omega) (by omega)] | rw [e0] | rw [e1] | rw [p9_usedOf hB.s ok] | rw [p9_findWord hW (by omega)] | rw [show fw (wl b) (us b (btm b 2 s i)) = _ from e2] | rw [q1 k m (by omega)] | rw [Int.toNat_natCast] | rw [w32s (by omega)] | rw [w32p (by omega)] | rw [w32q (by omega)] | rw [w32i (by omega) (by omega)] | rw [sa_ld_of (by omega) (by omega)] | rw [sa_st_of (by omega) (by omega)] | rw [if_pos (by omega)] | rw [if_neg (by omega)] | rw [if_neg one0] | rw [if_pos rfl])
    · by_cases ej : j = i
      · subst ej; rw [q3 _ (Or.inl (by omega)), up2_at]
      · exact q2 j (by omega) h2
    · rw [q3 x (by omega), up2_ne _ _ (by omega)]
theorem p9_laysWords_L137 {b : BV} (ok : OkB b) : ∀ (c s : Nat) (σ : st_S), s + c = bn b → RB9 σ 597 0 b → W9 σ (wl b) →
    ∃ σ', (∀ (n : Nat), c < n → g_X9_laysWords_L137 n (s : Int) σ = some σ') ∧ (∀ u, s ≤ u → u < bn b → ∀ j, j < bsz b u → σ' 601 (6 * u + j) = (tw b u j : Int)) ∧ (∀ x, x < 6 * s → σ' 601 x = σ 601 x) ∧ ∀ a, a ≠ 601 → σ' a = σ a := by
  have o1 := ok.1
  intro c
  induction c with
  | zero =>
    intro s σ hi hB hW
    refine ⟨σ, fun n hn => ?_, fun u h1 h2 => by omega, fun _ _ => rfl, fun _ _ => rfl⟩
    obtain ⟨m, rfl⟩ : ∃ m, n = m + 1 := ⟨n - 1, by omega⟩
    rw [g_X9_laysWords_L137]; repeat (first | rw [Option.bind_some] | dsimp only | rw [p9_strings hB ok] | rw [Int.toNat_natCast] | rw [w32s (by omega)] | rw [w32p (by omega)] | rw [w32q (by omega)] | rw [w32i (by omega) (by omega)] | rw [sa_ld_of (by omega) (by omega)] | rw [sa_st_of (by omega) (by omega)] | rw [if_pos (by omega)] | rw [if_neg (by omega)] | rw [if_neg one0] | rw [if_pos rfl])
  | succ c ih =>
    intro s σ hi hB hW
    have o2 := ok.2.1 s (by omega)
    obtain ⟨σ1, q1, q2, q3, q4⟩ := p9_laysWords_L147 ok (show s < bn b by omega) (bsz b s) 0 σ (by omega) hB hW
    rw [show ((0 : Nat) : Int) = 0 from rfl] at q1
    obtain ⟨σ', r1, r2, r3, r4⟩ := ih (s + 1) σ1 (by omega) (hB.fr (q4 597 (by decide))) (hW.fr (by rw [q4 596 (by decide)]) (q4 600 (by decide)))
    refine ⟨σ', fun n hn => ?_, fun u h1 h2 j hj => ?_, fun x hx => by rw [r3 x (by omega), q3 x (by omega)], fun a h1 => by rw [r4 a h1, q4 a h1]⟩
    · obtain ⟨m, rfl⟩ : ∃ m, n = m + 1 := ⟨n - 1, by omega⟩
      rw [g_X9_laysWords_L137]; repeat (first | rw [Option.bind_some] | dsimp only | rw [p9_strings hB ok] | rw [q1 _ ab_FU (by show _ < 100000; omega)] | rw [r1 m (by omega)] | rw [Int.toNat_natCast] | rw [w32s (by omega)] | rw [w32p (by omega)] | rw [w32q (by omega)] | rw [w32i (by omega) (by omega)] | rw [sa_ld_of (by omega) (by omega)] | rw [sa_st_of (by omega) (by omega)] | rw [if_pos (by omega)] | rw [if_neg (by omega)] | rw [if_neg one0] | rw [if_pos rfl])
    · by_cases eu : u = s
      · subst eu; rw [r3 _ (by omega)]; exact q2 j (by omega) hj
      · exact r2 u (by omega) h2 j hj
/-- the reference's words stand -/
def Wd9 (σ : st_S) (b : BV) : Prop := W9 σ (wl b) ∧ ∀ s, s < bn b → ∀ i, i < bsz b s → σ 601 (6 * s + i) = (tw b s i : Int)
theorem p9_laysWords {b : BV} {σ : st_S} (ok : OkB b) (hB : RB9 σ 597 0 b) : ∃ σ', g_X9_laysWords σ = some σ' ∧ Wd9 σ' b ∧ (∀ a, a ≠ 600 → a ≠ 601 → a ≠ 596 → σ' a = σ a) ∧ ∀ f, f ≠ 14 → σ' 596 f = σ 596 f := by
  have o1 := ok.1
  have hf : ∀ a, a ≠ 596 → up2 σ 596 14 0 a = σ a := fun a h => up2_o _ _ h
  obtain ⟨σ1, q1, q2, q3, q4⟩ := p9_laysWords_L7 ok (bn b) 0 (0, fun _ => 0) (up2 σ 596 14 0) (by omega) (hB.fr (hf _ (by decide))) ⟨up2_at _ _ _ _, fun j hj => absurd hj (Nat.not_lt_zero _)⟩ (WOK.zero b)
  obtain ⟨σ2, r1, r2, r3, r4⟩ := p9_laysWords_L137 ok (bn b) 0 σ1 (by omega) (hB.fr (by rw [q3 _ (by decide) (by decide), hf _ (by decide)])) q2
  refine ⟨σ2, ?_, ⟨q2.fr (by rw [r4 596 (by decide)]) (r4 600 (by decide)), fun s hs i hi => r2 s (by omega) hs i hi⟩, fun a h1 h2 h3 => by rw [r4 a h2, q3 a h1 h3, hf a h3], fun f h => by rw [r4 596 (by decide), q4 f h, up2_ne _ _ (fun q => h q.2)]⟩
  unfold g_X9_laysWords
  rw [Option.bind_some]
  exact (q1 _ ab_FU (by show _ < 100000; omega)).trans (r1 ab_FU (by show _ < 100000; omega))
