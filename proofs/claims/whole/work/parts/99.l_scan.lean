/-! the class takes a text apart -/
def sh (T : Nat → Int) (q : Nat) : Nat → Int := fun i => T (q + i)
/-- only the rows of parts change, and of these only from k on -/
def FS (k : Nat) (σ σ' : st_S) : Prop := (∀ c, c ≠ 8 → c ≠ 10 → c ≠ 11 → c ≠ 12 → σ' c = σ c) ∧ (∀ f, f ≠ 4 → σ' 8 f = σ 8 f) ∧ ∀ j, j < k → σ' 10 j = σ 10 j ∧ σ' 11 j = σ 11 j ∧ σ' 12 j = σ 12 j
theorem FS.rfl' {k : Nat} {σ : st_S} : FS k σ σ := ⟨fun _ _ _ _ _ => rfl, fun _ _ => rfl, fun _ _ => ⟨rfl, rfl, rfl⟩⟩
theorem FS.trans {k : Nat} {σ σ1 σ2 : st_S} (h : FS k σ σ1) (h2 : FS k σ1 σ2) : FS k σ σ2 := ⟨fun c a b d e => by rw [h2.1 c a b d e, h.1 c a b d e], fun f a => by rw [h2.2.1 f a, h.2.1 f a], fun j hj => by obtain ⟨x1, x2, x3⟩ := h2.2.2 j hj; obtain ⟨y1, y2, y3⟩ := h.2.2 j hj; exact ⟨by rw [x1, y1], by rw [x2, y2], by rw [x3, y3]⟩⟩
theorem FS.le {k l : Nat} {σ σ' : st_S} (h : FS l σ σ') (hk : k ≤ l) : FS k σ σ' := ⟨h.1, h.2.1, fun j hj => h.2.2 j (by omega)⟩
theorem FS.up {k a j : Nat} {σ : st_S} (ha : a = 10 ∨ a = 11 ∨ a = 12) (hj : k ≤ j) (x : Int) : FS k σ (up2 σ a j x) := by
  refine ⟨fun c h8 h10 h11 h12 => up2_o _ _ (by omega), fun f _ => by rw [up2_o _ _ (by omega)], fun i hi => ?_⟩
  exact ⟨up2_ne _ _ (fun q => by have := q.2; omega), up2_ne _ _ (fun q => by have := q.2; omega), up2_ne _ _ (fun q => by have := q.2; omega)⟩
theorem FS.up4 {k : Nat} {σ : st_S} (x : Int) : FS k σ (up2 σ 8 4 x) := ⟨fun c h8 _ _ _ => up2_o _ _ h8, fun f hf => up2_ne _ _ (fun q => hf q.2), fun i _ => ⟨by rw [up2_o _ _ (by decide)], by rw [up2_o _ _ (by decide)], by rw [up2_o _ _ (by decide)]⟩⟩
def Tx8 (σ : st_S) (T : Nat → Int) (L : Nat) : Prop := σ 2 1 = (L : Int) ∧ ∀ i, i < L → σ 3 i = T i
theorem Tx8.fr {k : Nat} {σ σ' : st_S} {T : Nat → Int} {L : Nat} (h : Tx8 σ T L) (f : FS k σ σ') : Tx8 σ' T L := ⟨by rw [f.1 2 (by decide) (by decide) (by decide) (by decide)]; exact h.1, fun i hi => by rw [f.1 3 (by decide) (by decide) (by decide) (by decide)]; exact h.2 i hi⟩
def kB (t : Int) : Int := if t = 32 ∨ t = 10 then 6 else if 97 ≤ t ∧ t ≤ 122 then 2 else if 48 ≤ t ∧ t ≤ 57 then 4 else 5
theorem p4_kindOf {σ : st_S} (t : Int) : g_X4_kindOf t σ = some (kB t, σ) := by
  unfold g_X4_kindOf g_X4_kindOf_J40 kB
  by_cases h1 : t = 32
  · rw [if_pos h1, if_pos (Or.inl h1)]
  · rw [if_neg h1]
    by_cases h2 : t = 10
    · rw [if_pos h2, if_pos (Or.inr h2)]
    · rw [if_neg h2, if_neg (by omega), p8_isLetter, Option.bind_some]
      dsimp only
      by_cases h3 : 97 ≤ t ∧ t ≤ 122
      · rw [if_pos h3, if_neg one0, if_pos h3]
      · rw [if_neg h3, if_pos rfl, if_neg h3]
        by_cases h4 : t < 48
        · rw [if_pos h4, if_neg (by omega)]
        · rw [if_neg h4]
          by_cases h5 : 57 < t
          · rw [if_pos h5, if_neg (by omega)]
          · rw [if_neg h5, if_pos (by omega)]
/-- a new part at k -/
theorem p4_open {σ : st_S} {k : Nat} (h4 : σ 8 4 = (k : Int)) (hk : k ≤ 1200) (kd st : Int) : ∃ σ', g_X4_open kd st σ = some σ' ∧ σ' 8 4 = ((k + 1 : Nat) : Int) ∧ σ' 10 k = kd ∧ σ' 11 k = st ∧ σ' 12 k = 0 ∧ FS k σ σ' := by
  refine ⟨up2 (up2 (up2 (up2 σ 10 k kd) 11 k st) 12 k 0) 8 4 ((k + 1 : Nat) : Int), ?_, up2_at _ _ _ _, ?_, ?_, ?_, (((FS.up (by omega) (Nat.le_refl _) _).trans (FS.up (by omega) (Nat.le_refl _) _)).trans (FS.up (by omega) (Nat.le_refl _) _)).trans (FS.up4 _)⟩
  · unfold g_X4_open
    rw [h4, if_pos (by omega), sa_st_of (by omega) (by omega), Option.bind_some, up2_o (a' := 8) _ _ (by decide), h4, sa_st_of (by omega) (by omega), Option.bind_some, up2_o (a' := 8) _ _ (by decide), up2_o (a' := 8) _ _ (by decide), h4, sa_st_of (by omega) (by omega), Option.bind_some, up2_o (a' := 8) _ _ (by decide), up2_o (a' := 8) _ _ (by decide), up2_o (a' := 8) _ _ (by decide), h4, Option.bind_some, Int.toNat_natCast, w32s (by omega)]
  · rw [up2_o _ _ (by decide), up2_o _ _ (by decide), up2_o _ _ (by decide), up2_at]
  · rw [up2_o _ _ (by decide), up2_o _ _ (by decide), up2_at]
  · rw [up2_o _ _ (by decide), up2_at]
section SC
variable {T : Nat → Int} {L : Nat}
/-- one step of the scan -/
theorem p4_scan_s {σ : st_S} (ox : okX T L) (h : Tx8 σ T L) {p : Nat} (hp : p < L) (K : Nat → st_S → Option st_S) (n : Nat) (v : Int) :
    g_X4_scan_L10 K (n + 1) 2 v (p : Int) σ = if kB (T p) = v ∧ kB (T p) ≠ 5 then g_X4_scan_J50 (g_X4_scan_L10 K n) K 2 (p : Int) (T p) (kB (T p)) 1 σ else g_X4_scan_J50 (g_X4_scan_L10 K n) K 2 (p : Int) (T p) (kB (T p)) 0 σ := by
  have o1 := ox.1
  have e := h.2 p hp
  rw [g_X4_scan_L10, h.1, if_neg (by omega), show by_n 2 = 1200 from rfl]
  simp only [Nat.reduceAdd]
  rw [sa_ld_of (by omega) (by omega), Option.bind_some, Int.toNat_natCast, e, p4_kindOf, Option.bind_some]
  unfold g_X4_scan_J49
  dsimp only
  by_cases h1 : kB (T p) = v
  · rw [if_pos h1]
    by_cases h2 : kB (T p) = 5
    · rw [if_pos h2, if_neg (fun q => q.2 h2)]
    · rw [if_neg h2, if_pos ⟨h1, h2⟩]
  · rw [if_neg h1, if_neg (fun q => h1 q.1)]
theorem p4_scan_b (ox : okX T L) : ∀ (c p : Nat) (v : Int) (σ : st_S), p + c = L → Tx8 σ T L → ∀ (K : Nat → st_S → Option st_S) n, g_X4_scan_L10 K (n + (rn blB T c p - p)) 2 v (p : Int) σ = g_X4_scan_L10 K n 2 (if rn blB T c p = p then v else 6) (rn blB T c p : Int) σ := by
  have o1 := ox.1
  intro c
  induction c with
  | zero =>
    intro p v σ hp h K n
    have e : rn blB T 0 p = p := rfl
    rw [e, if_pos rfl, Nat.sub_self]; rfl
  | succ c ih =>
    intro p v σ hp h K n
    have le := rn_le (P := blB) (T := T) c (p + 1)
    rw [rn]
    by_cases e : blB (T p) = true
    · rw [if_pos e]
      have e' : T p = 32 ∨ T p = 10 := of_decide_eq_true e
      have k6 : kB (T p) = 6 := by unfold kB; rw [if_pos e']
      rw [show n + (rn blB T c (p + 1) - p) = (n + (rn blB T c (p + 1) - (p + 1))) + 1 by omega, p4_scan_s ox h (by omega)]
      unfold g_X4_scan_J50 g_X4_scan_J71 g_X4_scan_J92
      rw [k6, if_pos rfl, if_pos rfl, w32s (by omega), if_pos (show (6 : Int) = 6 from rfl), ite_self, ih (p + 1) 6 σ (by omega) h K n, if_neg (show ¬ rn blB T c (p + 1) = p by omega)]
      split <;> rfl
    · rw [if_neg e, Nat.sub_self, if_pos rfl]; rfl
/-- a word of n letters so far -/
def Wt (σ : st_S) (T : Nat → Int) (k q n : Nat) : Prop := σ 11 k = (q : Int) ∧ σ 10 k = (if n ≤ 7 then 2 else 3) ∧ σ 12 k = (gvN (sh T q) (if n ≤ 7 then n else 7) : Int)
theorem p4_ext_w {σ : st_S} {k q n : Nat} (hk : k ≤ 1200) (h : Wt σ T k q n) (hL : allL (sh T q) (n + 1)) : ∃ σ', g_X4_extend 2 (T (q + n)) (k : Int) σ = some σ' ∧ Wt σ' T k q (n + 1) ∧ FS k σ σ' ∧ σ' 8 = σ 8 := by
  obtain ⟨h1, h2, h3⟩ := h
  have ln : isL (T (q + n)) := hL n (by omega)
  unfold g_X4_extend
  by_cases e : n ≤ 6
  · rw [if_pos (show n ≤ 7 by omega)] at h2 h3
    have gl := gvN_lt n (fun j hj => hL j (by omega))
    have pw : 32 ^ n ≤ 32 ^ 6 := Nat.pow_le_pow_right (by decide) (by omega)
    have gl : gvN (sh T q) n < 1073741824 := Nat.lt_of_lt_of_le gl pw
    refine ⟨up2 σ 12 k (gvN (sh T q) (n + 1) : Int), ?_, ⟨by rw [up2_o _ _ (by decide)]; exact h1, by rw [up2_o _ _ (by decide), if_pos (show n + 1 ≤ 7 by omega)]; exact h2, by rw [up2_at, if_pos (show n + 1 ≤ 7 by omega)]⟩, FS.up (by omega) (Nat.le_refl _) _, up2_o _ _ (by decide)⟩
    rw [if_pos (by omega), if_neg (by decide), if_neg (by decide), sa_ld_of (by omega) (by omega), Option.bind_some, Int.toNat_natCast, h3, if_pos (cmp_lt.mpr (by omega)), Option.bind_some, p8_grown (by omega) ln, Option.bind_some]
    dsimp only
    rw [sa_st_of (by omega) (by omega), Option.bind_some, Int.toNat_natCast]; rfl
  · have e7 : (if n ≤ 7 then n else 7) = 7 := by split <;> omega
    rw [e7] at h3
    have gg := gvN_ge (t := sh T q) 6 (fun j hj => hL j (by omega))
    have gg : 1073741824 ≤ gvN (sh T q) 7 := gg
    refine ⟨up2 σ 10 k 3, ?_, ⟨by rw [up2_o _ _ (by decide)]; exact h1, by rw [up2_at, if_neg (by omega)], by rw [up2_o _ _ (by decide), if_neg (by omega)]; exact h3⟩, FS.up (by omega) (Nat.le_refl _) _, up2_o _ _ (by decide)⟩
    rw [if_pos (by omega), if_neg (by decide), if_neg (by decide), sa_ld_of (by omega) (by omega), Option.bind_some, Int.toNat_natCast, h3, if_neg (fun z => by have := cmp_lt.mp z; omega), sa_st_of (by omega) (by omega), Option.bind_some, Int.toNat_natCast]
theorem kB_le {t : Int} (h : leB t = true) : kB t = 2 := by
  have h : 97 ≤ t ∧ t ≤ 122 := of_decide_eq_true h
  unfold kB; rw [if_neg (by omega), if_pos h]
theorem kB_di {t : Int} (h : diB t = true) : kB t = 4 := by
  have h : 48 ≤ t ∧ t ≤ 57 := of_decide_eq_true h
  unfold kB; rw [if_neg (by omega), if_neg (by omega), if_pos h]
theorem p4_scan_w (ox : okX T L) {k q : Nat} (hk : k ≤ 1200) : ∀ (c p : Nat) (σ : st_S), p + c = L → q ≤ p → (∀ j, q ≤ j → j < p → leB (T j) = true) → Tx8 σ T L → Wt σ T k q (p - q) → σ 8 4 = ((k + 1 : Nat) : Int) →
    ∃ σ', (∀ (K : Nat → st_S → Option st_S) n, g_X4_scan_L10 K (n + (rn leB T c p - p)) 2 2 (p : Int) σ = g_X4_scan_L10 K n 2 2 (rn leB T c p : Int) σ') ∧ Wt σ' T k q (rn leB T c p - q) ∧ σ' 8 4 = ((k + 1 : Nat) : Int) ∧ FS k σ σ' := by
  have o1 := ox.1
  intro c
  induction c with
  | zero =>
    intro p σ hp hq hL h hW h4
    refine ⟨σ, fun K n => ?_, hW, h4, FS.rfl'⟩
    have e : rn leB T 0 p = p := rfl
    rw [e, Nat.sub_self]; rfl
  | succ c ih =>
    intro p σ hp hq hL h hW h4
    have le := rn_le (P := leB) (T := T) c (p + 1)
    rw [rn]
    by_cases e : leB (T p) = true
    · rw [if_pos e]
      have hL' : ∀ j, q ≤ j → j < p + 1 → leB (T j) = true := fun j h1 h2 => by
        by_cases z : j = p
        · rw [z]; exact e
        · exact hL j h1 (by omega)
      obtain ⟨s1, a1, a2, a3, a4⟩ := p4_ext_w (T := T) (q := q) (n := p - q) hk hW (fun j hj => of_decide_eq_true (hL' (q + j) (by omega) (by omega)))
      rw [show q + (p - q) = p by omega] at a1
      rw [show p - q + 1 = p + 1 - q by omega] at a2
      obtain ⟨σ', q1, q2, q3, q4⟩ := ih (p + 1) s1 (by omega) (by omega) hL' (h.fr a3) a2 (by rw [a4]; exact h4)
      refine ⟨σ', fun K n => ?_, q2, q3, a3.trans q4⟩
      rw [show n + (rn leB T c (p + 1) - p) = (n + (rn leB T c (p + 1) - (p + 1))) + 1 by omega, p4_scan_s ox h (by omega), kB_le e, if_pos ⟨rfl, by decide⟩]
      unfold g_X4_scan_J50 g_X4_scan_J71 g_X4_scan_J92
      rw [if_neg (by decide), if_neg one0, if_neg (by decide), h4, show ab_w32 (((k + 1 : Nat) : Int) - 1) = (k : Int) from w32p (by omega), a1, Option.bind_some, w32s (by omega)]
      exact q1 K n
    · rw [if_neg e]
      refine ⟨σ, fun K n => ?_, hW, h4, FS.rfl'⟩
      rw [Nat.sub_self]; rfl
/-- a number of n digits so far -/
def Nt (σ : st_S) (T : Nat → Int) (k q n : Nat) : Prop := σ 11 k = (q : Int) ∧ σ 10 k = 4 ∧ σ 12 k = ((if 1000 < nvN T q n then 1000 else nvN T q n : Nat) : Int)
theorem mn_step8 {V : Nat} {t : Int} (ht : 48 ≤ t ∧ t ≤ 57) : ab_mn (ab_w64 (ab_w64 (ab_w64 (((if 1000 < V then 1000 else V : Nat) : Int) * 10) + t) - 48)) 1000 = ((if 1000 < 10 * V + (t - 48).toNat then 1000 else 10 * V + (t - 48).toNat : Nat) : Int) := by
  have : (if 1000 < V then 1000 else V) ≤ 1000 := by split <;> omega
  generalize hX : (if 1000 < V then 1000 else V) = X at *
  rw [w64i (x := (X : Int) * 10) (by omega) (by omega), w64i (x := (X : Int) * 10 + t) (by omega) (by omega), w64i (by omega) (by omega), ← hX]
  unfold ab_mn
  by_cases e : 1000 < V
  · rw [if_pos e, if_pos (show 1000 < 10 * V + (t - 48).toNat by omega), if_pos (by omega)]; rfl
  · rw [if_neg e]
    by_cases e2 : 1000 < 10 * V + (t - 48).toNat
    · rw [if_pos e2, if_pos (by omega)]; rfl
    · rw [if_neg e2]
      split <;> omega
theorem p4_ext_n {σ : st_S} {k q n : Nat} (hk : k ≤ 1200) (h : Nt σ T k q n) (hL : diB (T (q + n)) = true) : ∃ σ', g_X4_extend 4 (T (q + n)) (k : Int) σ = some σ' ∧ Nt σ' T k q (n + 1) ∧ FS k σ σ' ∧ σ' 8 = σ 8 := by
  obtain ⟨h1, h2, h3⟩ := h
  refine ⟨up2 σ 12 k ((if 1000 < nvN T q (n + 1) then 1000 else nvN T q (n + 1) : Nat) : Int), ?_, ⟨by rw [up2_o _ _ (by decide)]; exact h1, by rw [up2_o _ _ (by decide)]; exact h2, up2_at _ _ _ _⟩, FS.up (by omega) (Nat.le_refl _) _, up2_o _ _ (by decide)⟩
  unfold g_X4_extend
  rw [if_pos (by omega), if_neg (by decide), if_pos rfl, sa_ld_of (by omega) (by omega), Option.bind_some, Int.toNat_natCast, h3, mn_step8 (of_decide_eq_true hL), sa_st_of (by omega) (by omega), Option.bind_some, Int.toNat_natCast]; rfl
theorem p4_scan_n (ox : okX T L) {k q : Nat} (hk : k ≤ 1200) : ∀ (c p : Nat) (σ : st_S), p + c = L → q ≤ p → Tx8 σ T L → Nt σ T k q (p - q) → σ 8 4 = ((k + 1 : Nat) : Int) →
    ∃ σ', (∀ (K : Nat → st_S → Option st_S) n, g_X4_scan_L10 K (n + (rn diB T c p - p)) 2 4 (p : Int) σ = g_X4_scan_L10 K n 2 4 (rn diB T c p : Int) σ') ∧ Nt σ' T k q (rn diB T c p - q) ∧ σ' 8 4 = ((k + 1 : Nat) : Int) ∧ FS k σ σ' := by
  have o1 := ox.1
  intro c
  induction c with
  | zero =>
    intro p σ hp hq h hW h4
    refine ⟨σ, fun K n => ?_, hW, h4, FS.rfl'⟩
    have e : rn diB T 0 p = p := rfl
    rw [e, Nat.sub_self]; rfl
  | succ c ih =>
    intro p σ hp hq h hW h4
    have le := rn_le (P := diB) (T := T) c (p + 1)
    rw [rn]
    by_cases e : diB (T p) = true
    · rw [if_pos e]
      obtain ⟨s1, a1, a2, a3, a4⟩ := p4_ext_n (T := T) (q := q) (n := p - q) hk hW (by rw [show q + (p - q) = p by omega]; exact e)
      rw [show q + (p - q) = p by omega] at a1
      rw [show p - q + 1 = p + 1 - q by omega] at a2
      obtain ⟨σ', q1, q2, q3, q4⟩ := ih (p + 1) s1 (by omega) (by omega) (h.fr a3) a2 (by rw [a4]; exact h4)
      refine ⟨σ', fun K n => ?_, q2, q3, a3.trans q4⟩
      rw [show n + (rn diB T c (p + 1) - p) = (n + (rn diB T c (p + 1) - (p + 1))) + 1 by omega, p4_scan_s ox h (by omega), kB_di e, if_pos ⟨rfl, by decide⟩]
      unfold g_X4_scan_J50 g_X4_scan_J71 g_X4_scan_J92
      rw [if_neg (by decide), if_neg one0, if_neg (by decide), h4, show ab_w32 (((k + 1 : Nat) : Int) - 1) = (k : Int) from w32p (by omega), a1, Option.bind_some, w32s (by omega)]
      exact q1 K n
    · rw [if_neg e]
      refine ⟨σ, fun K n => ?_, hW, h4, FS.rfl'⟩
      rw [Nat.sub_self]; rfl
/-- the j-th part as it is found -/
def Rw (σ : st_S) (T : Nat → Int) (L j : Nat) : Prop := (kdQ T L (stP T L (pkT T L j)) = 1 → Wt σ T j (stP T L (pkT T L j)) (enQ T L (stP T L (pkT T L j)) - stP T L (pkT T L j))) ∧ (kdQ T L (stP T L (pkT T L j)) = 2 → Nt σ T j (stP T L (pkT T L j)) (enQ T L (stP T L (pkT T L j)) - stP T L (pkT T L j))) ∧
  (kdQ T L (stP T L (pkT T L j)) = 3 → σ 11 j = (stP T L (pkT T L j) : Int) ∧ σ 10 j = 5 ∧ σ 12 j = T (stP T L (pkT T L j))) ∧ (kdQ T L (stP T L (pkT T L j)) = 0 → σ 11 j = (stP T L (pkT T L j) : Int) ∧ σ 10 j = 0)
theorem Rw.fr {σ σ' : st_S} {j k : Nat} (h : Rw σ T L j) (f : FS k σ σ') (hj : j < k) : Rw σ' T L j := by
  obtain ⟨e1, e2, e3⟩ := f.2.2 j hj
  obtain ⟨h1, h2, h3, h4⟩ := h
  refine ⟨fun z => ?_, fun z => ?_, fun z => ?_, fun z => ?_⟩
  · obtain ⟨a, b, c⟩ := h1 z; exact ⟨by rw [e2]; exact a, by rw [e1]; exact b, by rw [e3]; exact c⟩
  · obtain ⟨a, b, c⟩ := h2 z; exact ⟨by rw [e2]; exact a, by rw [e1]; exact b, by rw [e3]; exact c⟩
  · obtain ⟨a, b, c⟩ := h3 z; exact ⟨by rw [e2]; exact a, by rw [e1]; exact b, by rw [e3]; exact c⟩
  · obtain ⟨a, b⟩ := h4 z; exact ⟨by rw [e2]; exact a, by rw [e1]; exact b⟩
/-- one whole part -/
theorem p4_scan_t (ox : okX T L) {σ : st_S} {k : Nat} {v : Int} (h : Tx8 σ T L) (h4 : σ 8 4 = (k : Int)) (hk : k ≤ pkT T L k) (hv : pkT T L k < L → kB (T (pkT T L k)) = v → v = 5 ∨ v = 6) (hq : stP T L (pkT T L k) < L) :
    ∃ σ' v', (∀ (K : Nat → st_S → Option st_S) n, g_X4_scan_L10 K (n + (pkT T L (k + 1) - pkT T L k)) 2 v (pkT T L k : Int) σ = g_X4_scan_L10 K n 2 v' (pkT T L (k + 1) : Int) σ') ∧ σ' 8 4 = ((k + 1 : Nat) : Int) ∧ Rw σ' T L k ∧ (pkT T L (k + 1) < L → kB (T (pkT T L (k + 1))) = v' → v' = 5 ∨ v' = 6) ∧ FS k σ σ' := by
  have o1 := ox.1
  have pl := pkT_le (T := T) (L := L) k
  have sq := stP_in (T := T) pl
  have nb : ¬ blB (T (stP T L (pkT T L k))) = true := rn_stop (L - pkT T L k) (pkT T L k) (by have : rn blB T (L - pkT T L k) (pkT T L k) < L := hq; omega)
  have bl : ∀ (K : Nat → st_S → Option st_S) n, g_X4_scan_L10 K (n + (stP T L (pkT T L k) - pkT T L k)) 2 v (pkT T L k : Int) σ = g_X4_scan_L10 K n 2 (if stP T L (pkT T L k) = pkT T L k then v else 6) (stP T L (pkT T L k) : Int) σ := p4_scan_b ox (L - pkT T L k) (pkT T L k) v σ (by omega) h
  have kq : ¬ (kB (T (stP T L (pkT T L k))) = (if stP T L (pkT T L k) = pkT T L k then v else 6) ∧ kB (T (stP T L (pkT T L k))) ≠ 5) := by
    have n6 : kB (T (stP T L (pkT T L k))) ≠ 6 := by
      have : ¬ (T (stP T L (pkT T L k)) = 32 ∨ T (stP T L (pkT T L k)) = 10) := fun q => nb (decide_eq_true q)
      unfold kB; rw [if_neg this]; split
      · decide
      · split <;> decide
    intro ⟨a, c⟩
    by_cases z : stP T L (pkT T L k) = pkT T L k
    · rw [if_pos z] at a
      rw [z] at a n6 c
      have := hv (by omega) a
      omega
    · rw [if_neg z] at a; exact n6 a
  have eq := enQ_in (T := T) (L := L) sq.2
  have pe : pkT T L (k + 1) = enQ T L (stP T L (pkT T L k)) := rfl
  unfold Rw
  rw [pe]
  generalize stP T L (pkT T L k) = q at *
  generalize pkT T L k = p at *
  obtain ⟨c, hc⟩ : ∃ c, L - q = c + 1 := ⟨L - q - 1, by omega⟩
  have tq := ox.2 q hq
  by_cases l1 : leB (T q) = true
  · have k1 : kdQ T L q = 1 := by unfold kdQ; rw [if_neg (by omega), if_pos l1]
    have n1 : enQ T L q = rn leB T c (q + 1) := by unfold enQ; rw [k1, hc, rn, if_pos l1]; rfl
    obtain ⟨s1, a1, a2, a3, a4, a5, a6⟩ := p4_open h4 (by omega) 2 (q : Int)
    have W0 : Wt s1 T k q 0 := ⟨a4, a3, a5⟩
    obtain ⟨s2, b1, b2, b3, b4⟩ := p4_ext_w (T := T) (k := k) (n := 0) (by omega) W0 (fun j hj => by have : j = 0 := by omega
                                                                                                     subst this; exact of_decide_eq_true l1)
    obtain ⟨s3, c1, c2, c3, c4⟩ := p4_scan_w ox (k := k) (q := q) (by omega) c (q + 1) s2 (by omega) (by omega) (fun j j1 j2 => by rw [show j = q by omega]; exact l1) ((h.fr a6).fr b3) (by rw [show q + 1 - q = 0 + 1 by omega]; exact b2) (by rw [b4]; exact a2)
    have st := rn_stop (P := leB) (T := T) c (q + 1)
    rw [← n1] at c1 c2 st
    refine ⟨s3, 2, fun K n => ?_, c3, ⟨fun _ => c2, fun z => by omega, fun z => by omega, fun z => by omega⟩, fun hl z => ?_, (a6.trans b3).trans c4⟩
    · rw [show n + (enQ T L q - p) = (n + (enQ T L q - (q + 1)) + 1) + (q - p) by omega, bl, p4_scan_s ox h hq, if_neg kq, kB_le l1]
      unfold g_X4_scan_J50 g_X4_scan_J71 g_X4_scan_J92
      rw [if_neg (by decide), if_pos rfl, a1, Option.bind_some, if_neg (by decide), a2, show ab_w32 (((k + 1 : Nat) : Int) - 1) = (k : Int) from w32p (by omega)]
      rw [Nat.add_zero] at b1
      rw [b1, Option.bind_some, w32s (by omega)]
      exact c1 K n
    · have := st (by omega)
      exact absurd z (fun y => by
        have : ¬ (97 ≤ T (enQ T L q) ∧ T (enQ T L q) ≤ 122) := fun w => this (decide_eq_true w)
        unfold kB at y
        rw [if_neg this] at y
        split at y
        · omega
        · split at y <;> omega)
  · by_cases l2 : diB (T q) = true
    · have k2 : kdQ T L q = 2 := by unfold kdQ; rw [if_neg (by omega), if_neg l1, if_pos l2]
      have n2 : enQ T L q = rn diB T c (q + 1) := by unfold enQ; rw [k2, if_neg (by decide), if_neg (by decide), if_pos rfl, hc, rn, if_pos l2]
      obtain ⟨s1, a1, a2, a3, a4, a5, a6⟩ := p4_open h4 (by omega) 4 (q : Int)
      have W0 : Nt s1 T k q 0 := ⟨a4, a3, a5⟩
      obtain ⟨s2, b1, b2, b3, b4⟩ := p4_ext_n (T := T) (k := k) (n := 0) (by omega) W0 l2
      obtain ⟨s3, c1, c2, c3, c4⟩ := p4_scan_n ox (k := k) (q := q) (by omega) c (q + 1) s2 (by omega) (by omega) ((h.fr a6).fr b3) (by rw [show q + 1 - q = 0 + 1 by omega]; exact b2) (by rw [b4]; exact a2)
      have st := rn_stop (P := diB) (T := T) c (q + 1)
      rw [← n2] at c1 c2 st
      refine ⟨s3, 4, fun K n => ?_, c3, ⟨fun z => by omega, fun _ => c2, fun z => by omega, fun z => by omega⟩, fun hl z => ?_, (a6.trans b3).trans c4⟩
      · rw [show n + (enQ T L q - p) = (n + (enQ T L q - (q + 1)) + 1) + (q - p) by omega, bl, p4_scan_s ox h hq, if_neg kq, kB_di l2]
        unfold g_X4_scan_J50 g_X4_scan_J71 g_X4_scan_J92
        rw [if_neg (by decide), if_pos rfl, a1, Option.bind_some, if_neg (by decide), a2, show ab_w32 (((k + 1 : Nat) : Int) - 1) = (k : Int) from w32p (by omega)]
        rw [Nat.add_zero] at b1
        rw [b1, Option.bind_some, w32s (by omega)]
        exact c1 K n
      · have := st (by omega)
        exact absurd z (fun y => by
          have : ¬ (48 ≤ T (enQ T L q) ∧ T (enQ T L q) ≤ 57) := fun w => this (decide_eq_true w)
          unfold kB at y
          rw [if_neg this] at y
          split at y
          · omega
          · split at y <;> omega)
    · have k3 : kdQ T L q = 3 := by unfold kdQ; rw [if_neg (by omega), if_neg l1, if_neg l2]
      have n3 : enQ T L q = q + 1 := by unfold enQ; rw [k3]; rfl
      have k5 : kB (T q) = 5 := by
        have z1 : ¬ (T q = 32 ∨ T q = 10) := fun w => nb (decide_eq_true w)
        have z2 : ¬ (97 ≤ T q ∧ T q ≤ 122) := fun w => l1 (decide_eq_true w)
        have z3 : ¬ (48 ≤ T q ∧ T q ≤ 57) := fun w => l2 (decide_eq_true w)
        unfold kB; rw [if_neg z1, if_neg z2, if_neg z3]
      obtain ⟨s1, a1, a2, a3, a4, a5, a6⟩ := p4_open h4 (by omega) 5 (q : Int)
      refine ⟨up2 s1 12 k (T q), 5, fun K n => ?_, by rw [up2_o _ _ (by decide)]; exact a2, ⟨fun z => by omega, fun z => by omega, fun _ => ⟨by rw [up2_o _ _ (by decide)]; exact a4, by rw [up2_o _ _ (by decide)]; exact a3, up2_at _ _ _ _⟩, fun z => by omega⟩, fun _ _ => Or.inl rfl, a6.trans (FS.up (by omega) (Nat.le_refl _) _)⟩
      rw [n3, show n + (q + 1 - p) = (n + 1) + (q - p) by omega, bl, p4_scan_s ox h hq, if_neg kq, k5]
      unfold g_X4_scan_J50 g_X4_scan_J71 g_X4_scan_J92 g_X4_extend
      rw [if_neg (by decide), if_pos rfl, a1, Option.bind_some, if_neg (by decide), a2, show ab_w32 (((k + 1 : Nat) : Int) - 1) = (k : Int) from w32p (by omega), if_pos (by omega), if_pos rfl, sa_st_of (by omega) (by omega), Option.bind_some, Option.bind_some, Int.toNat_natCast, w32s (by omega)]
theorem p4_scan_all (ox : okX T L) : ∀ (d k : Nat) (v : Int) (σ : st_S), L - pkT T L k ≤ d → Tx8 σ T L → σ 8 4 = (k : Int) → k ≤ pkT T L k → (pkT T L k < L → kB (T (pkT T L k)) = v → v = 5 ∨ v = 6) → (∀ j, j < k → Rw σ T L j ∧ stP T L (pkT T L j) < L) →
    ∃ σ' N, (∀ (K : Nat → st_S → Option st_S) n, L - pkT T L k < n → g_X4_scan_L10 K n 2 v (pkT T L k : Int) σ = K 2 σ') ∧ k ≤ N ∧ N ≤ L ∧ σ' 8 4 = (N : Int) ∧ (∀ j, j < N → Rw σ' T L j ∧ stP T L (pkT T L j) < L) ∧ stP T L (pkT T L N) = L ∧ FS k σ σ' := by
  have o1 := ox.1
  intro d
  induction d with
  | zero =>
    intro k v σ hd h h4 hk hv hR
    have pl := pkT_le (T := T) (L := L) k
    have sq := stP_in (T := T) pl
    refine ⟨σ, k, fun K n hn => ?_, Nat.le_refl _, by omega, h4, hR, by omega, FS.rfl'⟩
    obtain ⟨m, rfl⟩ : ∃ m, n = m + 1 := ⟨n - 1, by omega⟩
    rw [g_X4_scan_L10, h.1, if_pos (by omega)]
  | succ d ih =>
    intro k v σ hd h h4 hk hv hR
    have pl := pkT_le (T := T) (L := L) k
    have sq := stP_in (T := T) pl
    by_cases hq : stP T L (pkT T L k) < L
    · obtain ⟨s1, v', a1, a2, a3, a4, a5⟩ := p4_scan_t ox h h4 hk hv hq
      have eq := enQ_in (T := T) (L := L) sq.2
      have pe : pkT T L (k + 1) = enQ T L (stP T L (pkT T L k)) := rfl
      obtain ⟨σ', N, q1, q2, q3, q4, q5, q6, q7⟩ := ih (k + 1) v' s1 (by omega) (h.fr a5) a2 (by omega) a4 (fun j hj => by
        by_cases z : j = k
        · rw [z]; exact ⟨a3, hq⟩
        · exact ⟨(hR j (by omega)).1.fr a5 (by omega), (hR j (by omega)).2⟩)
      refine ⟨σ', N, fun K n hn => ?_, by omega, q3, q4, q5, q6, a5.trans (q7.le (by omega))⟩
      rw [show n = (n - (pkT T L (k + 1) - pkT T L k)) + (pkT T L (k + 1) - pkT T L k) by omega, a1]
      exact q1 K _ (by omega)
    · have e : stP T L (pkT T L k) = L := by omega
      refine ⟨σ, k, fun K n hn => ?_, Nat.le_refl _, by omega, h4, hR, e, FS.rfl'⟩
      have bl := p4_scan_b ox (L - pkT T L k) (pkT T L k) v σ (by omega) h K (n - (L - pkT T L k))
      have e' : rn blB T (L - pkT T L k) (pkT T L k) = L := e
      rw [e', show n - (L - pkT T L k) + (L - pkT T L k) = n by omega] at bl
      rw [bl]
      obtain ⟨m, hm⟩ : ∃ m, n - (L - pkT T L k) = m + 1 := ⟨n - (L - pkT T L k) - 1, by omega⟩
      rw [hm, g_X4_scan_L10, h.1, if_pos (by omega)]
theorem p4_scan {σ : st_S} (ox : okX T L) (h : Tx8 σ T L) : ∃ σ' N, g_X4_scan 2 σ = some σ' ∧ N ≤ L ∧ σ' 8 4 = ((N + 1 : Nat) : Int) ∧ (∀ j, j ≤ N → Rw σ' T L j) ∧ (∀ j, j < N → stP T L (pkT T L j) < L) ∧ stP T L (pkT T L N) = L ∧ FS 0 σ σ' := by
  have o1 := ox.1
  obtain ⟨s1, N, q1, q2, q3, q4, q5, q6, q7⟩ := p4_scan_all ox L 0 6 (up2 σ 8 4 0) (by omega) (h.fr (FS.up4 (k := 0) _)) (up2_at _ _ _ _) (Nat.le_refl _) (fun _ z => Or.inr rfl) (fun j hj => absurd hj (Nat.not_lt_zero _))
  obtain ⟨s2, a1, a2, a3, a4, a5, a6⟩ := p4_open q4 (by omega) 0 (L : Int)
  refine ⟨s2, N, ?_, q3, a2, fun j hj => ?_, fun j hj => (q5 j hj).2, q6, (FS.up4 (k := 0) _).trans (q7.trans (a6.le (Nat.zero_le _)))⟩
  · unfold g_X4_scan
    rw [Option.bind_some]
    refine (q1 _ ab_FU (by show _ < 100000; omega)).trans ?_
    have : s1 2 1 = (L : Int) := ((h.fr (FS.up4 (k := 0) _)).fr q7).1
    rw [this, a1]; rfl
  · by_cases z : j < N
    · exact (q5 j z).1.fr a6 z
    · have e : j = N := by omega
      subst e
      have k0 : kdQ T L (stP T L (pkT T L j)) = 0 := by rw [q6]; unfold kdQ; rw [if_pos (Nat.le_refl _)]
      exact ⟨fun z => by omega, fun z => by omega, fun z => by omega, fun _ => ⟨by rw [a4, q6], a3⟩⟩
end SC
