/-! the class's words and terms -/
theorem w6 {s i : Nat} (hs : s < 100) (hi : i < 100) : ab_w32 (ab_w32 ((s : Int) * 6) + (i : Int)) = ((6 * s + i : Nat) : Int) := by
  rw [w32i (x := (s : Int) * 6) (by omega) (by omega), w32i (by omega) (by omega)]; omega
theorem w6' {s : Nat} (hs : s < 100) : ab_w32 ((s : Int) * 6) = ((6 * s : Nat) : Int) := by
  rw [w32i (by omega) (by omega)]; omega
def W8 (σ : st_S) (t : WL) (M : Nat → Nat) : Prop := σ 147 0 = (t.1 : Int) ∧ ∀ j, j < t.1 → σ 148 j = t.2 j ∧ σ 149 j = (M j : Int)
def MOK (b : BV) (s i : Nat) (t : WL) (M : Nat → Nat) : Prop := ∀ j, j < t.1 → M j < 4096 ∧ ∀ u, (M j).testBit u = true ↔ ∃ v, bef u v s i ∧ v < bsz b u ∧ un b 2 u v = t.2 j
def mAdd (t : WL) (M : Nat → Nat) (x : Int) (s : Nat) : Nat → Nat := if fw t x = -1 then insG M (ipos t.2 x t.1) (2 ^ s) else fun j => if j = (fw t x).toNat then M j ||| 2 ^ s else M j
theorem p2lt {s : Nat} (h : s < 12) : 2 ^ s < 4096 := Nat.pow_lt_pow_right (by decide) h
theorem or12 {m n : Nat} (hm : m < 4096) (hn : n < 4096) : m ||| n < 4096 := Nat.or_lt_two_pow (n := 12) hm hn
theorem MOK.step {b : BV} {s i : Nat} {t : WL} {M : Nat → Nat} (hw : WOK b s i t) (h : MOK b s i t M) (hi : i < bsz b s) (hs : s < 12) : MOK b s (i + 1) (wAdd t (un b 2 s i)) (mAdd t M (un b 2 s i) s) := by
  have bs : ∀ u v, bef u v s (i + 1) ↔ bef u v s i ∨ (u = s ∧ v = i) := by
    intro u v; unfold bef; omega
  have old : ∀ j, j < t.1 → t.2 j ≠ un b 2 s i → M j < 4096 ∧ ∀ u, (M j).testBit u = true ↔ ∃ v, bef u v s (i + 1) ∧ v < bsz b u ∧ un b 2 u v = t.2 j := by
    intro j hj ne
    refine ⟨(h j hj).1, fun u => ?_⟩
    rw [(h j hj).2 u]
    constructor
    · rintro ⟨v, q, hv, e⟩; exact ⟨v, (bs u v).mpr (Or.inl q), hv, e⟩
    · rintro ⟨v, q, hv, e⟩
      rcases (bs u v).mp q with q | ⟨rfl, rfl⟩
      · exact ⟨v, q, hv, e⟩
      · exact absurd e.symm ne
  intro j hj
  by_cases e : fw t (un b 2 s i) = -1
  · unfold wAdd at hj ⊢
    unfold mAdd
    rw [if_pos e] at hj ⊢
    rw [if_pos e]
    have hp := ipos_le t.2 (un b 2 s i) t.1
    have hj' : j < t.1 + 1 := hj
    have no := fw_no e
    show insG M _ _ j < 4096 ∧ ∀ u, (insG M _ _ j).testBit u = true ↔ ∃ v, bef u v s (i + 1) ∧ v < bsz b u ∧ un b 2 u v = insG t.2 _ _ j
    by_cases a : j < ipos t.2 (un b 2 s i) t.1
    · rw [insG_lt a, insG_lt a]; exact old j (by omega) (no j (by omega))
    · by_cases a' : j = ipos t.2 (un b 2 s i) t.1
      · rw [a', insG_at, insG_at]
        refine ⟨p2lt hs, fun u => ?_⟩
        rw [Nat.testBit_two_pow, decide_eq_true_iff]
        constructor
        · intro q; subst q; exact ⟨i, (bs _ _).mpr (Or.inr ⟨rfl, rfl⟩), hi, rfl⟩
        · rintro ⟨v, q, hv, e2⟩
          rcases (bs u v).mp q with q | ⟨rfl, rfl⟩
          · have := hw.2.1 u v q hv
            rw [e2] at this; exact absurd e this
          · rfl
      · rw [insG_gt (by omega), insG_gt (by omega)]; exact old (j - 1) (by omega) (no _ (by omega))
  · obtain ⟨k, ek, hk, e2⟩ := fw_yes e
    unfold wAdd at hj ⊢
    unfold mAdd
    rw [if_neg e] at hj ⊢
    rw [if_neg e, ek]
    show (if j = ((k : Int)).toNat then M j ||| 2 ^ s else M j) < 4096 ∧ ∀ u, (if j = ((k : Int)).toNat then M j ||| 2 ^ s else M j).testBit u = true ↔ _
    rw [Int.toNat_natCast]
    by_cases a : j = k
    · subst a
      rw [if_pos rfl]
      refine ⟨or12 (h j hj).1 (p2lt hs), fun u => ?_⟩
      rw [Nat.testBit_or, Bool.or_eq_true, (h j hj).2 u, Nat.testBit_two_pow, decide_eq_true_iff]
      constructor
      · rintro (⟨v, q, hv, e3⟩ | rfl)
        · exact ⟨v, (bs u v).mpr (Or.inl q), hv, e3⟩
        · exact ⟨i, (bs _ _).mpr (Or.inr ⟨rfl, rfl⟩), hi, e2.symm⟩
      · rintro ⟨v, q, hv, e3⟩
        rcases (bs u v).mp q with q | ⟨rfl, rfl⟩
        · exact Or.inl ⟨v, q, hv, e3⟩
        · exact Or.inr rfl
    · rw [if_neg a]
      exact old j hj (fun q => a (hw.2.2.1 j k hj hk (by rw [q, e2])))
theorem MOK.next {b : BV} {s : Nat} {t : WL} {M : Nat → Nat} (h : MOK b s (bsz b s) t M) : MOK b (s + 1) 0 t M := by
  intro j hj
  refine ⟨(h j hj).1, fun u => ?_⟩
  rw [(h j hj).2 u]
  constructor
  · rintro ⟨v, q, hv, e⟩; exact ⟨v, by unfold bef at q ⊢; omega, hv, e⟩
  · rintro ⟨v, q, hv, e⟩
    refine ⟨v, ?_, hv, e⟩
    unfold bef at q ⊢
    by_cases eu : u = s
    · subst eu; exact Or.inr ⟨rfl, hv⟩
    · exact Or.inl (by omega)
theorem p7_numberOf_L {σ : st_S} {t : WL} {M : Nat → Nat} (h : W8 σ t M) (hn : t.1 ≤ 72) (x : Int) : ∀ (c n i : Nat), i + c = t.1 → c < n → g_X7_numberOf_L2 n x (i : Int) σ = some (fnd (fun k => decide (t.2 k = x)) c i, σ) := by
  have r1 := h.1
  have r2 : ∀ j, j < t.1 → σ 148 j = t.2 j := fun j hj => (h.2 j hj).1
  intro c
  induction c with
  | zero =>
    intro n i hi hn
    obtain ⟨m, rfl⟩ : ∃ m, n = m + 1 := ⟨n - 1, by omega⟩
    rw [g_X7_numberOf_L2, fnd]; repeat (first | rw [Option.bind_some] | dsimp only | rw [r1] | rw [Int.toNat_natCast] | rw [w32s (by omega)] | rw [w32p (by omega)] | rw [w32q (by omega)] | rw [w32i (by omega) (by omega)] | rw [sa_ld_of (by omega) (by omega)] | rw [sa_st_of (by omega) (by omega)] | rw [if_pos (by omega)] | rw [if_neg (by omega)] | rw [if_neg one0] | rw [if_pos rfl])
  | succ c ih =>
    intro n i hi hn
    obtain ⟨m, rfl⟩ : ∃ m, n = m + 1 := ⟨n - 1, by omega⟩
    rw [g_X7_numberOf_L2, fnd]; repeat (first | rw [Option.bind_some] | dsimp only | rw [r1] | rw [r2 _ (by omega)] | rw [Int.toNat_natCast] | rw [w32s (by omega)] | rw [w32p (by omega)] | rw [w32q (by omega)] | rw [w32i (by omega) (by omega)] | rw [sa_ld_of (by omega) (by omega)] | rw [sa_st_of (by omega) (by omega)] | rw [if_pos (by omega)] | rw [if_neg (by omega)] | rw [if_neg one0] | rw [if_pos rfl])
    by_cases e : t.2 i = x
    · rw [if_pos (cmp_eq.mpr e), if_pos (decide_eq_true e)]
    · rw [if_neg (fun q => e (cmp_eq.mp q)), if_neg (by simpa using e)]
      repeat (first | rw [Option.bind_some] | dsimp only | rw [ih m (i + 1) (by omega) (by omega)] | rw [Int.toNat_natCast] | rw [w32s (by omega)] | rw [w32p (by omega)] | rw [w32q (by omega)] | rw [w32i (by omega) (by omega)] | rw [sa_ld_of (by omega) (by omega)] | rw [sa_st_of (by omega) (by omega)] | rw [if_pos (by omega)] | rw [if_neg (by omega)] | rw [if_neg one0] | rw [if_pos rfl])
theorem p7_numberOf {σ : st_S} {t : WL} {M : Nat → Nat} (h : W8 σ t M) (hn : t.1 ≤ 72) (x : Int) : g_X7_numberOf x σ = some (fw t x, σ) :=
  p7_numberOf_L h hn x t.1 ab_FU 0 (by omega) (by show _ < 100000; omega)
theorem p7_shift (f : Nat → Int) (M : Nat → Nat) (x s : Int) : ∀ (p : Nat), p < 72 → ∀ σ : st_S, (∀ j, j < p → σ 148 j = f j ∧ σ 149 j = (M j : Int)) →
    ∃ σ', (∀ (k : Int → Int → Int → st_S → Option st_S) (n : Nat), p < n → g_X7_sortIn_L43 k n x s (p : Int) σ = k x s (ipos f x p : Nat) σ') ∧ (∀ j, j < ipos f x p → σ' 148 j = f j ∧ σ' 149 j = (M j : Int)) ∧ (∀ j, ipos f x p < j → j ≤ p → σ' 148 j = f (j - 1) ∧ σ' 149 j = (M (j - 1) : Int)) ∧ (∀ j, p < j → σ' 148 j = σ 148 j ∧ σ' 149 j = σ 149 j) ∧ ∀ c, c ≠ 148 → c ≠ 149 → σ' c = σ c := by
  intro p
  induction p with
  | zero =>
    intro _ σ _
    refine ⟨σ, fun k n hn => ?_, fun j hj => absurd hj (Nat.not_lt_zero _), fun j h1 h2 => by omega, fun _ _ => ⟨rfl, rfl⟩, fun _ _ _ => rfl⟩
    obtain ⟨m, rfl⟩ : ∃ m, n = m + 1 := ⟨n - 1, by omega⟩
    rw [g_X7_sortIn_L43, if_pos (by omega)]; rfl
  | succ p ih =>
    intro hp σ hσ
    have r1 := (hσ p (by omega)).1
    have r2 := (hσ p (by omega)).2
    by_cases e : x < f p
    · have a1 : ∀ j, up2 (up2 σ 148 (p + 1) (f p)) 149 (p + 1) (M p : Int) 148 j = up2 σ 148 (p + 1) (f p) 148 j := fun j => by rw [up2_o _ _ (by decide)]
      have a2 : ∀ j, j ≠ p + 1 → up2 (up2 σ 148 (p + 1) (f p)) 149 (p + 1) (M p : Int) 149 j = σ 149 j := fun j hj => by rw [up2_ne _ _ (by omega), up2_o _ _ (by decide)]
      obtain ⟨σ', k1, k2, k3, k4, k5⟩ := ih (by omega) (up2 (up2 σ 148 (p + 1) (f p)) 149 (p + 1) (M p : Int)) (fun j hj => by rw [a1, a2 j (by omega), up2_ne _ _ (by omega)]; exact hσ j (by omega))
      have ei : ipos f x (p + 1) = ipos f x p := by rw [ipos, if_pos e]
      refine ⟨σ', fun k n hn => ?_, fun j hj => k2 j (by omega), fun j h1 h2 => ?_, fun j hj => ?_, fun c hc1 hc2 => ?_⟩
      · obtain ⟨m, rfl⟩ : ∃ m, n = m + 1 := ⟨n - 1, by omega⟩
        rw [g_X7_sortIn_L43, ei]; (try simp only [cmp_eq, cmp_le, cmp_lt, cmp_gt, cmp_ge]); repeat (first | rw [Option.bind_some] | dsimp only | rw [r1] | rw [up2_o _ _ (by decide)] | rw [r2] | rw [k1 k m (by omega)] | rw [Int.toNat_natCast] | rw [w32s (by omega)] | rw [w32p (by omega)] | rw [w32q (by omega)] | rw [w32i (by omega) (by omega)] | rw [sa_ld_of (by omega) (by omega)] | rw [sa_st_of (by omega) (by omega)] | rw [if_pos (by omega)] | rw [if_neg (by omega)] | rw [if_neg one0] | rw [if_pos rfl])
      · by_cases ej : j = p + 1
        · subst ej; rw [(k4 _ (by omega)).1, (k4 _ (by omega)).2, a1, up2_at, up2_at, Nat.add_sub_cancel]; exact ⟨rfl, rfl⟩
        · exact k3 j (by omega) (by omega)
      · rw [(k4 j (by omega)).1, (k4 j (by omega)).2, a1, a2 j (by omega), up2_ne _ _ (by omega)]; exact ⟨rfl, rfl⟩
      · rw [k5 c hc1 hc2, up2_o _ _ hc2, up2_o _ _ hc1]
    · have ei : ipos f x (p + 1) = p + 1 := by rw [ipos, if_neg e]
      refine ⟨σ, fun k n hn => ?_, fun j hj => hσ j (by omega), fun j h1 h2 => by omega, fun _ _ => ⟨rfl, rfl⟩, fun _ _ _ => rfl⟩
      obtain ⟨m, rfl⟩ : ∃ m, n = m + 1 := ⟨n - 1, by omega⟩
      rw [g_X7_sortIn_L43, ei]; (try simp only [cmp_eq, cmp_le, cmp_lt, cmp_gt, cmp_ge]); repeat (first | rw [Option.bind_some] | dsimp only | rw [r1] | rw [Int.toNat_natCast] | rw [w32s (by omega)] | rw [w32p (by omega)] | rw [w32q (by omega)] | rw [w32i (by omega) (by omega)] | rw [sa_ld_of (by omega) (by omega)] | rw [sa_st_of (by omega) (by omega)] | rw [if_pos (by omega)] | rw [if_neg (by omega)] | rw [if_neg one0] | rw [if_pos rfl])
theorem p7_sortIn {σ : st_S} {t : WL} {M : Nat → Nat} (h : W8 σ t M) (hM : ∀ j, j < t.1 → M j < 4096) (hn : t.1 < 72) (x : Int) {s : Nat} (hs : s < 12) :
    ∃ σ', g_X7_sortIn x (s : Int) σ = some σ' ∧ W8 σ' (wAdd t x) (mAdd t M x s) ∧ ∀ c, c ≠ 147 → c ≠ 148 → c ≠ 149 → σ' c = σ c := by
  have p2 := p2lt hs
  by_cases e : fw t x = -1
  · obtain ⟨σ1, k1, k2, k3, k4, k5⟩ := p7_shift t.2 M x s t.1 hn σ h.2
    have hp := ipos_le t.2 x t.1
    unfold wAdd mAdd
    rw [if_pos e, if_pos e]
    generalize hq : ipos t.2 x t.1 = p at k1 k2 k3 hp
    have g0 : σ1 147 0 = (t.1 : Int) := by rw [k5 147 (by decide) (by decide)]; exact h.1
    refine ⟨up2 (up2 (up2 σ1 148 p x) 149 p ((2 ^ s : Nat) : Int)) 147 0 ((t.1 + 1 : Nat) : Int), ?_, ⟨up2_at _ _ _ _, fun j hj => ?_⟩, fun c h1 h2 h3 => by rw [up2_o _ _ h1, up2_o _ _ h3, up2_o _ _ h2, k5 c h2 h3]⟩
    · unfold g_X7_sortIn
      have h1 := h.1
      repeat (first | rw [Option.bind_some] | dsimp only | rw [p7_numberOf h (by omega)] | rw [if_pos e] | rw [h1] | rw [Int.toNat_natCast] | rw [w32s (by omega)] | rw [w32p (by omega)] | rw [w32q (by omega)] | rw [w32i (by omega) (by omega)] | rw [sa_ld_of (by omega) (by omega)] | rw [sa_st_of (by omega) (by omega)] | rw [if_pos (by omega)] | rw [if_neg (by omega)] | rw [if_neg one0] | rw [if_pos rfl])
      refine (k1 _ ab_FU (by show _ < 100000; omega)).trans ?_
      unfold g_X7_sortIn_J100
      repeat (first | rw [Option.bind_some] | dsimp only | rw [shl1 (by omega)] | rw [up2_o _ _ (by decide)] | rw [g0] | rw [Int.toNat_natCast] | rw [w32s (by omega)] | rw [w32p (by omega)] | rw [w32q (by omega)] | rw [w32i (by omega) (by omega)] | rw [sa_ld_of (by omega) (by omega)] | rw [sa_st_of (by omega) (by omega)] | rw [if_pos (by omega)] | rw [if_neg (by omega)] | rw [if_neg one0] | rw [if_pos rfl])
    · have hj' : j < t.1 + 1 := hj
      show _ = insG t.2 p x j ∧ _ = ((insG M p (2 ^ s) j : Nat) : Int)
      have c1 : ∀ i, up2 (up2 (up2 σ1 148 p x) 149 p ((2 ^ s : Nat) : Int)) 147 0 ((t.1 + 1 : Nat) : Int) 148 i = up2 σ1 148 p x 148 i := fun i => by rw [up2_o _ _ (by decide), up2_o _ _ (by decide)]
      have c2 : ∀ i, up2 (up2 (up2 σ1 148 p x) 149 p ((2 ^ s : Nat) : Int)) 147 0 ((t.1 + 1 : Nat) : Int) 149 i = up2 (up2 σ1 148 p x) 149 p ((2 ^ s : Nat) : Int) 149 i := fun i => by rw [up2_o _ _ (by decide)]
      rw [c1, c2]
      by_cases a : j < p
      · rw [insG_lt a, insG_lt a, up2_ne _ _ (by omega), up2_ne _ _ (by omega), up2_o _ _ (by decide)]; exact k2 j a
      · by_cases a' : j = p
        · subst a'; rw [insG_at, insG_at, up2_at, up2_at]; exact ⟨rfl, rfl⟩
        · rw [insG_gt (by omega), insG_gt (by omega), up2_ne _ _ (by omega), up2_ne _ _ (by omega), up2_o _ _ (by decide)]; exact k3 j (by omega) (by omega)
  · obtain ⟨k, ek, hk, e2⟩ := fw_yes e
    have g2 := (h.2 k hk).2
    have g3 := hM k hk
    unfold wAdd mAdd
    rw [if_neg e, if_neg e, ek, Int.toNat_natCast]
    refine ⟨up2 σ 149 k ((M k ||| 2 ^ s : Nat) : Int), ?_, ⟨by rw [up2_o _ _ (by decide)]; exact h.1, fun j hj => ?_⟩, fun c h1 h2 h3 => up2_o _ _ h3⟩
    · unfold g_X7_sortIn
      repeat (first | rw [Option.bind_some] | dsimp only | rw [p7_numberOf h (by omega)] | rw [if_neg e] | rw [ek] | rw [shl1 (by omega)] | rw [g2] | rw [or_nat (by omega) (by omega)] | rw [Int.toNat_natCast] | rw [w32s (by omega)] | rw [w32p (by omega)] | rw [w32q (by omega)] | rw [w32i (by omega) (by omega)] | rw [sa_ld_of (by omega) (by omega)] | rw [sa_st_of (by omega) (by omega)] | rw [if_pos (by omega)] | rw [if_neg (by omega)] | rw [if_neg one0] | rw [if_pos rfl])
    · rw [up2_o _ _ (by decide)]
      refine ⟨(h.2 j hj).1, ?_⟩
      show _ = ((if j = k then M j ||| 2 ^ s else M j : Nat) : Int)
      by_cases a : j = k
      · subst a; rw [if_pos rfl, up2_at]
      · rw [if_neg a, up2_ne _ _ (by omega)]; exact (h.2 j hj).2
theorem p7_gather_L17 {b : BV} (ok : OkB b) {s : Nat} (hs : s < bn b) : ∀ (c i : Nat) (t : WL) (M : Nat → Nat) (σ : st_S), i + c = bsz b s → RB8 σ 13 b → W8 σ t M → WOK b s i t → MOK b s i t M →
    ∃ σ' M', (∀ (k : Nat → Int → st_S → Option st_S) (n : Nat), c < n → g_X7_gatherFrom_L17 k n 13 (s : Int) (i : Int) σ = k 13 (s : Int) σ') ∧ W8 σ' (wI (un b 2 s) c i t) M' ∧ MOK b s (bsz b s) (wI (un b 2 s) c i t) M' ∧ ∀ a, a ≠ 147 → a ≠ 148 → a ≠ 149 → σ' a = σ a := by
  have o1 := ok.1
  have o2 := ok.2.1 s hs
  intro c
  induction c with
  | zero =>
    intro i t M σ hi hB hW _ hM
    refine ⟨σ, M, fun k n hn => ?_, hW, by rw [← hi]; exact hM, fun _ _ _ _ => rfl⟩
    obtain ⟨m, rfl⟩ : ∃ m, n = m + 1 := ⟨n - 1, by omega⟩
    have e1 : σ 15 s = _ := (hB.2.1 s hs).2
    rw [g_X7_gatherFrom_L17]; simp only [Nat.reduceAdd]; repeat (first | rw [Option.bind_some] | dsimp only | rw [e1] | rw [Int.toNat_natCast] | rw [w32s (by omega)] | rw [w32p (by omega)] | rw [w32q (by omega)] | rw [w32i (by omega) (by omega)] | rw [sa_ld_of (by omega) (by omega)] | rw [sa_st_of (by omega) (by omega)] | rw [if_pos (by omega)] | rw [if_neg (by omega)] | rw [if_neg one0] | rw [if_pos rfl])
  | succ c ih =>
    intro i t M σ hi hB hW hO hM
    have tn : t.1 < 72 := by have := hO.1; omega
    have e1 : σ 15 s = _ := (hB.2.1 s hs).2
    have e2 : σ 18 (6 * s + i) = _ := hB.2.2.1 s hs i (by omega) 2 (by decide)
    obtain ⟨σ1, q1, q2, q3⟩ := p7_sortIn hW (fun j hj => (hM j hj).1) tn (un b 2 s i) (show s < 12 by omega)
    obtain ⟨σ', M', r1, r2, r3, r4⟩ := ih (i + 1) _ _ σ1 (by omega) (hB.fr (fun k hk => q3 _ (by omega) (by omega) (by omega))) q2 (hO.step (by omega)) (hM.step hO (by omega) (by omega))
    refine ⟨σ', M', fun k n hn => ?_, r2, r3, fun a h1 h2 h3 => by rw [r4 a h1 h2 h3, q3 a h1 h2 h3]⟩
    obtain ⟨m, rfl⟩ : ∃ m, n = m + 1 := ⟨n - 1, by omega⟩
    rw [g_X7_gatherFrom_L17]; simp only [Nat.reduceAdd]; repeat (first | rw [Option.bind_some] | dsimp only | rw [e1] | rw [w6 (by omega) (by omega)] | rw [e2] | rw [p0_used hB ok] | rw [show g_X7_sortIn (us b (btm b 2 s i)) s σ = _ from q1] | rw [r1 k m (by omega)] | rw [Int.toNat_natCast] | rw [w32s (by omega)] | rw [w32p (by omega)] | rw [w32q (by omega)] | rw [w32i (by omega) (by omega)] | rw [sa_ld_of (by omega) (by omega)] | rw [sa_st_of (by omega) (by omega)] | rw [if_pos (by omega)] | rw [if_neg (by omega)] | rw [if_neg one0] | rw [if_pos rfl])
theorem p7_gather_L7 {b : BV} (ok : OkB b) : ∀ (c s : Nat) (t : WL) (M : Nat → Nat) (σ : st_S), s + c = bn b → RB8 σ 13 b → W8 σ t M → WOK b s 0 t → MOK b s 0 t M →
    ∃ σ' M', (∀ (n : Nat), c < n → g_X7_gatherFrom_L7 n 13 (s : Int) σ = some σ') ∧ W8 σ' (wS b c s t) M' ∧ MOK b (bn b) 0 (wS b c s t) M' ∧ ∀ a, a ≠ 147 → a ≠ 148 → a ≠ 149 → σ' a = σ a := by
  have o1 := ok.1
  intro c
  induction c with
  | zero =>
    intro s t M σ hi hB hW _ hM
    refine ⟨σ, M, fun n hn => ?_, hW, by rw [← hi]; exact hM, fun _ _ _ _ => rfl⟩
    obtain ⟨m, rfl⟩ : ∃ m, n = m + 1 := ⟨n - 1, by omega⟩
    rw [g_X7_gatherFrom_L7]; repeat (first | rw [Option.bind_some] | dsimp only | rw [hB.1] | rw [Int.toNat_natCast] | rw [w32s (by omega)] | rw [w32p (by omega)] | rw [w32q (by omega)] | rw [w32i (by omega) (by omega)] | rw [sa_ld_of (by omega) (by omega)] | rw [sa_st_of (by omega) (by omega)] | rw [if_pos (by omega)] | rw [if_neg (by omega)] | rw [if_neg one0] | rw [if_pos rfl])
  | succ c ih =>
    intro s t M σ hi hB hW hO hM
    have o2 := ok.2.1 s (by omega)
    obtain ⟨σ1, M1, q1, q2, q3, q4⟩ := p7_gather_L17 ok (show s < bn b by omega) (bsz b s) 0 t M σ (by omega) hB hW hO hM
    rw [show ((0 : Nat) : Int) = 0 from rfl] at q1
    obtain ⟨σ', M', r1, r2, r3, r4⟩ := ih (s + 1) _ M1 σ1 (by omega) (hB.fr (fun k hk => q4 _ (by omega) (by omega) (by omega))) q2 ((WOK.wI (bsz b s) 0 t (by omega) hO).next o2.2.2.2) q3.next
    refine ⟨σ', M', fun n hn => ?_, r2, r3, fun a h1 h2 h3 => by rw [r4 a h1 h2 h3, q4 a h1 h2 h3]⟩
    obtain ⟨m, rfl⟩ : ∃ m, n = m + 1 := ⟨n - 1, by omega⟩
    rw [g_X7_gatherFrom_L7]; repeat (first | rw [Option.bind_some] | dsimp only | rw [hB.1] | rw [q1 _ ab_FU (by show _ < 100000; omega)] | rw [r1 m (by omega)] | rw [Int.toNat_natCast] | rw [w32s (by omega)] | rw [w32p (by omega)] | rw [w32q (by omega)] | rw [w32i (by omega) (by omega)] | rw [sa_ld_of (by omega) (by omega)] | rw [sa_st_of (by omega) (by omega)] | rw [if_pos (by omega)] | rw [if_neg (by omega)] | rw [if_neg one0] | rw [if_pos rfl])
/-- in which strings a word is -/
def hasW (b : BV) (w u : Nat) : Prop := u < bn b ∧ ∃ v, v < bsz b u ∧ tw b u v = w
def Wd8 (σ : st_S) (b : BV) : Prop := ∃ M, W8 σ (wl b) M ∧ ∀ j, j < (wl b).1 → M j < 4096 ∧ ∀ u, (M j).testBit u = true ↔ hasW b j u
theorem p7_gatherFrom {b : BV} {σ : st_S} (ok : OkB b) (hB : RB8 σ 13 b) : ∃ σ', g_X7_gatherFrom 13 σ = some σ' ∧ Wd8 σ' b ∧ ∀ a, a ≠ 147 → a ≠ 148 → a ≠ 149 → σ' a = σ a := by
  have o1 := ok.1
  have hf : ∀ a, a ≠ 147 → up2 σ 147 0 0 a = σ a := fun a h => up2_o _ _ h
  obtain ⟨σ1, M, q1, q2, q3, q4⟩ := p7_gather_L7 ok (bn b) 0 (0, fun _ => 0) (fun _ => 0) (up2 σ 147 0 0) (by omega) (hB.fr (fun k hk => hf _ (by omega))) ⟨up2_at _ _ _ _, fun j hj => absurd hj (Nat.not_lt_zero _)⟩ (WOK.zero b) (fun j hj => absurd hj (Nat.not_lt_zero _))
  refine ⟨σ1, ?_, ⟨M, q2, fun j hj => ⟨(q3 j hj).1, fun u => ?_⟩⟩, fun a h1 h2 h3 => by rw [q4 a h1 h2 h3, hf a h1]⟩
  · unfold g_X7_gatherFrom
    rw [Option.bind_some]
    exact q1 ab_FU (by show _ < 100000; omega)
  · rw [(q3 j hj).2 u]
    have hj' : j < (wl b).1 := hj
    constructor
    · rintro ⟨v, q, hv, e⟩
      have hu : u < bn b := by unfold bef at q; omega
      refine ⟨hu, v, hv, ?_⟩
      have t := tw_spec ok hu hv
      exact (wl_ok ok).2.2.1 _ _ t.2.1 hj' (by rw [t.2.2]; exact e)
    · rintro ⟨hu, v, hv, e⟩
      have t := tw_spec ok hu hv
      exact ⟨v, Or.inl hu, hv, by rw [← t.2.2, e]; rfl⟩
/-- the class's terms -/
def T8 (σ : st_S) (b : BV) : Prop := σ 150 0 = (bn b : Int) ∧ ∀ s, s < bn b → σ 151 s = (bsz b s : Int) ∧ ∀ i, i < bsz b s → σ 152 (6 * s + i) = btm b 0 s i ∧ σ 153 (6 * s + i) = (tw b s i : Int) ∧ σ 154 (6 * s + i) = un b 3 s i ∧ σ 155 (6 * s + i) = un b 4 s i
theorem mx0 {k : Nat} : ab_mx (k : Int) 0 = (k : Int) := by unfold ab_mx; split <;> omega

theorem p5_take_L36 {b : BV} (ok : OkB b) {s : Nat} (hs : s < bn b) : ∀ (c i : Nat) (σ : st_S), i + c = bsz b s → RB8 σ 13 b → Wd8 σ b → σ 151 s = (bsz b s : Int) →
    ∃ σ', (∀ (k : Nat → Int → st_S → Option st_S) (n : Nat), c < n → g_X5_takeFrom_L36 k n 13 (s : Int) ((6 * s + i : Nat) : Int) σ = k 13 (s : Int) σ') ∧
      (∀ j, i ≤ j → j < bsz b s → σ' 152 (6 * s + j) = btm b 0 s j ∧ σ' 153 (6 * s + j) = (tw b s j : Int) ∧ σ' 154 (6 * s + j) = un b 3 s j ∧ σ' 155 (6 * s + j) = un b 4 s j) ∧ (∀ x, x < 6 * s + i → σ' 152 x = σ 152 x ∧ σ' 153 x = σ 153 x ∧ σ' 154 x = σ 154 x ∧ σ' 155 x = σ 155 x) ∧ ∀ a, (a < 152 ∨ 155 < a) → σ' a = σ a := by
  have o1 := ok.1
  have o2 := ok.2.1 s hs
  have wle := wl_le ok
  intro c
  induction c with
  | zero =>
    intro i σ hi hB _ h1
    refine ⟨σ, fun k n hn => ?_, fun j h1 h2 => by omega, fun _ _ => ⟨rfl, rfl, rfl, rfl⟩, fun _ _ => rfl⟩
    obtain ⟨m, rfl⟩ : ∃ m, n = m + 1 := ⟨n - 1, by omega⟩
    rw [g_X5_takeFrom_L36]; repeat (first | rw [Option.bind_some] | dsimp only | rw [h1] | rw [w6 (by omega) (by omega)] | rw [Int.toNat_natCast] | rw [w32s (by omega)] | rw [w32p (by omega)] | rw [w32q (by omega)] | rw [w32i (by omega) (by omega)] | rw [sa_ld_of (by omega) (by omega)] | rw [sa_st_of (by omega) (by omega)] | rw [if_pos (by omega)] | rw [if_neg (by omega)] | rw [if_neg one0] | rw [if_pos rfl])
  | succ c ih =>
    intro i σ hi hB hW h1
    obtain ⟨M, hM, hM2⟩ := hW
    have e0 : σ 16 (6 * s + i) = btm b 0 s i := hB.2.2.1 s hs i (by omega) 0 (by decide)
    have e2 : σ 18 (6 * s + i) = btm b 2 s i := hB.2.2.1 s hs i (by omega) 2 (by decide)
    have e3 : σ 19 (6 * s + i) = btm b 3 s i := hB.2.2.1 s hs i (by omega) 3 (by decide)
    have e4 : σ 20 (6 * s + i) = btm b 4 s i := hB.2.2.1 s hs i (by omega) 4 (by decide)
    have ew := (tw_spec ok hs (show i < bsz b s by omega)).1
    generalize hσ4 : up2 (up2 (up2 (up2 σ 152 (6 * s + i) (btm b 0 s i)) 153 (6 * s + i) (tw b s i : Int)) 154 (6 * s + i) (un b 3 s i)) 155 (6 * s + i) (un b 4 s i) = σ4
    have hf : ∀ a, (a < 152 ∨ 155 < a) → σ4 a = σ a := fun a ha => by rw [← hσ4, up2_o _ _ (by omega), up2_o _ _ (by omega), up2_o _ _ (by omega), up2_o _ _ (by omega)]
    have hx : ∀ x, x ≠ 6 * s + i → σ4 152 x = σ 152 x ∧ σ4 153 x = σ 153 x ∧ σ4 154 x = σ 154 x ∧ σ4 155 x = σ 155 x := by
      intro x hx
      rw [← hσ4]
      refine ⟨?_, ?_, ?_, ?_⟩
      · rw [up2_o _ _ (by decide), up2_o _ _ (by decide), up2_o _ _ (by decide), up2_ne _ _ (by omega)]
      · rw [up2_o _ _ (by decide), up2_o _ _ (by decide), up2_ne _ _ (by omega), up2_o _ _ (by decide)]
      · rw [up2_o _ _ (by decide), up2_ne _ _ (by omega), up2_o _ _ (by decide), up2_o _ _ (by decide)]
      · rw [up2_ne _ _ (by omega), up2_o _ _ (by decide), up2_o _ _ (by decide), up2_o _ _ (by decide)]
    have hx0 : σ4 152 (6 * s + i) = btm b 0 s i ∧ σ4 153 (6 * s + i) = (tw b s i : Int) ∧ σ4 154 (6 * s + i) = un b 3 s i ∧ σ4 155 (6 * s + i) = un b 4 s i := by
      rw [← hσ4]
      refine ⟨?_, ?_, ?_, ?_⟩
      · rw [up2_o _ _ (by decide), up2_o _ _ (by decide), up2_o _ _ (by decide), up2_at]
      · rw [up2_o _ _ (by decide), up2_o _ _ (by decide), up2_at]
      · rw [up2_o _ _ (by decide), up2_at]
      · rw [up2_at]
    have hW' : ∀ {τ : st_S}, (∀ a, (a < 152 ∨ 155 < a) → τ a = σ a) → W8 τ (wl b) M := by
      intro τ hτ; unfold W8; rw [hτ 147 (by decide), hτ 148 (by decide), hτ 149 (by decide)]; exact hM
    have hB' : ∀ {τ : st_S}, (∀ a, (a < 152 ∨ 155 < a) → τ a = σ a) → RB8 τ 13 b := fun hτ => hB.fr (fun k hk => hτ _ (by omega))
    obtain ⟨σ', r1, r2, r3, r4⟩ := ih (i + 1) σ4 (by omega) (hB' hf) ⟨M, hW' hf, hM2⟩ (by rw [hf 151 (by decide)]; exact h1)
    refine ⟨σ', fun k n hn => ?_, fun j h1 h2 => ?_, fun x hx' => ?_, fun a ha => by rw [r4 a ha, hf a ha]⟩
    · obtain ⟨m, rfl⟩ : ∃ m, n = m + 1 := ⟨n - 1, by omega⟩
      have f1 : ∀ a, (a < 152 ∨ 155 < a) → up2 σ 152 (6 * s + i) (btm b 0 s i) a = σ a := fun a ha => up2_o _ _ (by omega)
      have f2 : ∀ a, (a < 152 ∨ 155 < a) → up2 (up2 σ 152 (6 * s + i) (btm b 0 s i)) 153 (6 * s + i) (tw b s i : Int) a = σ a := fun a ha => by rw [up2_o _ _ (by omega)]; exact f1 a ha
      have f3 : ∀ a, (a < 152 ∨ 155 < a) → up2 (up2 (up2 σ 152 (6 * s + i) (btm b 0 s i)) 153 (6 * s + i) (tw b s i : Int)) 154 (6 * s + i) (un b 3 s i) a = σ a := fun a ha => by rw [up2_o _ _ (by omega)]; exact f2 a ha
      rw [g_X5_takeFrom_L36]; simp only [Nat.reduceAdd]
      repeat (first | rw [Option.bind_some] | dsimp only | rw [h1] | rw [w6 (by omega) (by omega)] | rw [e0] | rw [f1 18 (by decide)] | rw [e2] | rw [p0_used (hB' f1) ok] | rw [p7_numberOf (hW' f1) wle] | rw [show fw (wl b) (us b (btm b 2 s i)) = _ from ew] | rw [mx0] | rw [f2 19 (by decide)] | rw [e3] | rw [p0_used (hB' f2) ok] | rw [show up2 (up2 (up2 σ 152 (6 * s + i) (btm b 0 s i)) 153 (6 * s + i) (tw b s i : Int)) 154 (6 * s + i) (us b (btm b 3 s i)) = up2 (up2 (up2 σ 152 (6 * s + i) (btm b 0 s i)) 153 (6 * s + i) (tw b s i : Int)) 154 (6 * s + i) (un b 3 s i) from rfl] | rw [f3 20 (by decide)] | rw [e4] | rw [p0_used (hB' f3) ok] | rw [show us b (btm b 4 s i) = un b 4 s i from rfl] | rw [hσ4] | rw [Int.toNat_natCast] | rw [w32s (by omega)] | rw [w32p (by omega)] | rw [w32q (by omega)] | rw [w32i (by omega) (by omega)] | rw [sa_ld_of (by omega) (by omega)] | rw [sa_st_of (by omega) (by omega)] | rw [if_pos (by omega)] | rw [if_neg (by omega)] | rw [if_neg one0] | rw [if_pos rfl])
      exact r1 k m (by omega)
    · by_cases ej : j = i
      · subst ej
        obtain ⟨z1, z2, z3, z4⟩ := r3 (6 * s + j) (by omega)
        rw [z1, z2, z3, z4]; exact hx0
      · exact r2 j (by omega) h2
    · obtain ⟨z1, z2, z3, z4⟩ := r3 x (by omega)
      rw [z1, z2, z3, z4]; exact hx x (by omega)
theorem p5_take_L10 {b : BV} (ok : OkB b) : ∀ (c s : Nat) (σ : st_S), s + c = bn b → RB8 σ 13 b → Wd8 σ b → σ 150 0 = (bn b : Int) →
    ∃ σ', (∀ (n : Nat), c < n → g_X5_takeFrom_L10 n 13 (s : Int) σ = some σ') ∧ (∀ u, s ≤ u → u < bn b → σ' 151 u = (bsz b u : Int) ∧ ∀ i, i < bsz b u → σ' 152 (6 * u + i) = btm b 0 u i ∧ σ' 153 (6 * u + i) = (tw b u i : Int) ∧ σ' 154 (6 * u + i) = un b 3 u i ∧ σ' 155 (6 * u + i) = un b 4 u i) ∧
      (∀ x, x < 6 * s → σ' 152 x = σ 152 x ∧ σ' 153 x = σ 153 x ∧ σ' 154 x = σ 154 x ∧ σ' 155 x = σ 155 x) ∧ (∀ x, x < s → σ' 151 x = σ 151 x) ∧ ∀ a, (a < 151 ∨ 155 < a) → σ' a = σ a := by
  have o1 := ok.1
  intro c
  induction c with
  | zero =>
    intro s σ hi hB _ h1
    refine ⟨σ, fun n hn => ?_, fun u h1 h2 => by omega, fun _ _ => ⟨rfl, rfl, rfl, rfl⟩, fun _ _ => rfl, fun _ _ => rfl⟩
    obtain ⟨m, rfl⟩ : ∃ m, n = m + 1 := ⟨n - 1, by omega⟩
    rw [g_X5_takeFrom_L10]; repeat (first | rw [Option.bind_some] | dsimp only | rw [h1] | rw [Int.toNat_natCast] | rw [w32s (by omega)] | rw [w32p (by omega)] | rw [w32q (by omega)] | rw [w32i (by omega) (by omega)] | rw [sa_ld_of (by omega) (by omega)] | rw [sa_st_of (by omega) (by omega)] | rw [if_pos (by omega)] | rw [if_neg (by omega)] | rw [if_neg one0] | rw [if_pos rfl])
  | succ c ih =>
    intro s σ hi hB hW h1
    have o2 := ok.2.1 s (by omega)
    have e0 : σ 15 s = (bsz b s : Int) := (hB.2.1 s (by omega)).2
    generalize hσ0 : up2 σ 151 s (bsz b s : Int) = σ0
    have hf0 : ∀ a, a ≠ 151 → σ0 a = σ a := fun a ha => by rw [← hσ0, up2_o _ _ ha]
    have wd : ∀ {τ : st_S}, (∀ a, (a < 151 ∨ 155 < a) → τ a = σ a) → Wd8 τ b := by
      intro τ hτ
      obtain ⟨M, hM, hM2⟩ := hW
      refine ⟨M, ?_, hM2⟩
      unfold W8; rw [hτ 147 (by decide), hτ 148 (by decide), hτ 149 (by decide)]; exact hM
    obtain ⟨σ1, q1, q2, q3, q4⟩ := p5_take_L36 ok (show s < bn b by omega) (bsz b s) 0 σ0 (by omega) (hB.fr (fun k hk => hf0 _ (by omega))) (wd (fun a ha => hf0 a (by omega))) (by rw [← hσ0, up2_at])
    have hf1 : ∀ a, (a < 151 ∨ 155 < a) → σ1 a = σ a := fun a ha => by rw [q4 a (by omega), hf0 a (by omega)]
    obtain ⟨σ', r1, r2, r3, r4, r5⟩ := ih (s + 1) σ1 (by omega) (hB.fr (fun k hk => hf1 _ (by omega))) (wd hf1) (by rw [hf1 150 (by decide)]; exact h1)
    refine ⟨σ', fun n hn => ?_, fun u h1 h2 => ?_, fun x hx => ?_, fun x hx => ?_, fun a ha => by rw [r5 a ha, hf1 a ha]⟩
    · obtain ⟨m, rfl⟩ : ∃ m, n = m + 1 := ⟨n - 1, by omega⟩
      rw [g_X5_takeFrom_L10, show (13 : Nat) + 2 = 15 from rfl]
      repeat (first | rw [Option.bind_some] | dsimp only | rw [h1] | rw [e0] | rw [hσ0] | rw [w6' (by omega)] | rw [Int.toNat_natCast] | rw [w32s (by omega)] | rw [w32p (by omega)] | rw [w32q (by omega)] | rw [w32i (by omega) (by omega)] | rw [sa_ld_of (by omega) (by omega)] | rw [sa_st_of (by omega) (by omega)] | rw [if_pos (by omega)] | rw [if_neg (by omega)] | rw [if_neg one0] | rw [if_pos rfl])
      refine (q1 _ ab_FU (by show _ < 100000; omega)).trans ?_
      repeat (first | rw [Option.bind_some] | dsimp only | rw [r1 m (by omega)] | rw [Int.toNat_natCast] | rw [w32s (by omega)] | rw [w32p (by omega)] | rw [w32q (by omega)] | rw [w32i (by omega) (by omega)] | rw [sa_ld_of (by omega) (by omega)] | rw [sa_st_of (by omega) (by omega)] | rw [if_pos (by omega)] | rw [if_neg (by omega)] | rw [if_neg one0] | rw [if_pos rfl])
    · by_cases eu : u = s
      · subst eu
        refine ⟨by rw [r4 u (by omega), q4 151 (by decide), ← hσ0, up2_at], fun i hi => ?_⟩
        obtain ⟨z1, z2, z3, z4⟩ := r3 (6 * u + i) (by omega)
        rw [z1, z2, z3, z4]; exact q2 i (by omega) hi
      · exact r2 u (by omega) h2
    · obtain ⟨z1, z2, z3, z4⟩ := r3 x (by omega)
      obtain ⟨y1, y2, y3, y4⟩ := q3 x (by omega)
      rw [z1, z2, z3, z4, y1, y2, y3, y4, hf0 152 (by decide), hf0 153 (by decide), hf0 154 (by decide), hf0 155 (by decide)]; exact ⟨rfl, rfl, rfl, rfl⟩
    · rw [r4 x (by omega), q4 151 (by decide), ← hσ0, up2_ne _ _ (by omega)]
theorem Wd8.fr {b : BV} {σ σ' : st_S} (h : Wd8 σ b) (e : ∀ a, 147 ≤ a → a ≤ 149 → σ' a = σ a) : Wd8 σ' b := by
  obtain ⟨M, hM, hM2⟩ := h
  refine ⟨M, ?_, hM2⟩
  unfold W8; rw [e 147 (by decide) (by decide), e 148 (by decide) (by decide), e 149 (by decide) (by decide)]; exact hM
theorem T8.fr {b : BV} {σ σ' : st_S} (h : T8 σ b) (e : ∀ a, 150 ≤ a → a ≤ 155 → σ' a = σ a) : T8 σ' b := by
  unfold T8; rw [e 150 (by decide) (by decide), e 151 (by decide) (by decide), e 152 (by decide) (by decide), e 153 (by decide) (by decide), e 154 (by decide) (by decide), e 155 (by decide) (by decide)]; exact h
theorem p5_takeFrom {b : BV} {σ : st_S} (ok : OkB b) (hB : RB8 σ 13 b) (hW : Wd8 σ b) : ∃ σ', g_X5_takeFrom 13 σ = some σ' ∧ T8 σ' b ∧ ∀ a, (a < 150 ∨ 155 < a) → σ' a = σ a := by
  have o1 := ok.1
  have hf : ∀ a, a ≠ 150 → up2 σ 150 0 (bn b : Int) a = σ a := fun a h => up2_o _ _ h
  obtain ⟨σ1, q1, q2, q3, q4, q5⟩ := p5_take_L10 ok (bn b) 0 (up2 σ 150 0 (bn b : Int)) (by omega) (hB.fr (fun k hk => hf _ (by omega))) (hW.fr (fun a h1 h2 => hf a (by omega))) (up2_at _ _ _ _)
  refine ⟨σ1, ?_, ⟨by rw [q5 150 (by decide), up2_at], fun s hs => q2 s (by omega) hs⟩, fun a ha => by rw [q5 a (by omega), hf a (by omega)]⟩
  unfold g_X5_takeFrom
  rw [Option.bind_some, hB.1]
  exact q1 ab_FU (by show _ < 100000; omega)
