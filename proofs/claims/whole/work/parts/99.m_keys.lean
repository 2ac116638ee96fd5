/-! own words; what a part is, in the class's terms -/
def nQ (T : Nat → Int) (L q : Nat) : Nat := enQ T L q - q
def kyN (x : Int) : Int := fnd (fun k => decide (in_keys.getD k 0 = x)) 15 0
def k8 (T : Nat → Int) (L q : Nat) : Int := if kdQ T L q = 0 then 0 else if kdQ T L q = 1 then (if 7 < nQ T L q then 3 else if kyN (nmN (sh T q) (nQ T L q) : Int) = -1 then 2 else 1) else if kdQ T L q = 2 then 4 else 5
def v8 (T : Nat → Int) (L q : Nat) : Int := if kdQ T L q = 1 then (if kyN (nmN (sh T q) (nQ T L q) : Int) = -1 then (nmN (sh T q) (nQ T L q) : Int) else kyN (nmN (sh T q) (nQ T L q) : Int)) else if kdQ T L q = 2 then ((if 1000 < nvN T q (nQ T L q) then 1000 else nvN T q (nQ T L q) : Nat) : Int) else T q
/-- where the j-th part begins -/
def sJ (T : Nat → Int) (L j : Nat) : Nat := stP T L (pkT T L j)
def Tk8 (σ : st_S) (T : Nat → Int) (L j : Nat) : Prop := σ 11 j = (sJ T L j : Int) ∧ σ 10 j = k8 T L (sJ T L j) ∧ (k8 T L (sJ T L j) ≠ 0 → k8 T L (sJ T L j) ≠ 3 → σ 12 j = v8 T L (sJ T L j))
theorem kd_cases (T : Nat → Int) (L q : Nat) : kdQ T L q = 0 ∨ kdQ T L q = 1 ∨ kdQ T L q = 2 ∨ kdQ T L q = 3 := by
  unfold kdQ
  split
  · exact Or.inl rfl
  · split
    · exact Or.inr (Or.inl rfl)
    · split
      · exact Or.inr (Or.inr (Or.inl rfl))
      · exact Or.inr (Or.inr (Or.inr rfl))
theorem kd1 {T : Nat → Int} {L q : Nat} (h : kdQ T L q = 1) : q < L ∧ enQ T L q = rn leB T (L - q) q := by
  constructor
  · by_cases e : q < L
    · exact e
    · unfold kdQ at h; rw [if_pos (by omega)] at h; omega
  · unfold enQ; rw [h]; rfl
theorem all_w {T : Nat → Int} {L q : Nat} (h : kdQ T L q = 1) : 1 ≤ nQ T L q ∧ q + nQ T L q ≤ L ∧ allL (sh T q) (nQ T L q) := by
  obtain ⟨h1, h2⟩ := kd1 h
  have eq := enQ_in (T := T) (L := L) (q := q) (by omega)
  have := eq.2.2 h1
  unfold nQ
  refine ⟨by omega, by omega, fun k hk => ?_⟩
  have z := rn_in (P := leB) (T := T) (L - q) q (q + k) (by omega) (by rw [← h2]; omega)
  exact of_decide_eq_true z
/-! the class: words are settled -/
def FJ (j : Nat) (σ σ' : st_S) : Prop := (∀ c, c ≠ 10 → c ≠ 12 → σ' c = σ c) ∧ ∀ i, i ≠ j → σ' 10 i = σ 10 i ∧ σ' 12 i = σ 12 i
theorem FJ.up {j a : Nat} {σ : st_S} (ha : a = 10 ∨ a = 12) (x : Int) : FJ j σ (up2 σ a j x) := ⟨fun c h1 h2 => up2_o _ _ (by omega), fun i hi => ⟨up2_ne _ _ (fun q => hi q.2), up2_ne _ _ (fun q => hi q.2)⟩⟩
theorem FJ.trans {j : Nat} {σ σ1 σ2 : st_S} (h : FJ j σ σ1) (h2 : FJ j σ1 σ2) : FJ j σ σ2 := ⟨fun c a b => by rw [h2.1 c a b, h.1 c a b], fun i hi => ⟨by rw [(h2.2 i hi).1, (h.2 i hi).1], by rw [(h2.2 i hi).2, (h.2 i hi).2]⟩⟩
theorem p4_settle_L17 {σ : st_S} (hK : ∀ k, k < 15 → σ 9 k = in_keys.getD k 0) {j : Nat} (hj : j ≤ 1200) {x : Int} (hx : σ 12 j = x) (K : Int → Int → st_S → Option st_S) : ∀ (c n i : Nat), i + c = 15 → c < n → g_X4_settle_L17 K n (j : Int) (i : Int) σ = if fnd (fun k => decide (in_keys.getD k 0 = x)) c i = -1 then some σ else K (j : Int) (fnd (fun k => decide (in_keys.getD k 0 = x)) c i) σ := by
  intro c
  induction c with
  | zero =>
    intro n i hi hn
    obtain ⟨m, rfl⟩ : ∃ m, n = m + 1 := ⟨n - 1, by omega⟩
    rw [g_X4_settle_L17, if_pos (by omega), fnd, if_pos rfl]
  | succ c ih =>
    intro n i hi hn
    obtain ⟨m, rfl⟩ : ∃ m, n = m + 1 := ⟨n - 1, by omega⟩
    rw [g_X4_settle_L17, if_neg (by omega), sa_ld_of (by omega) (by omega), Option.bind_some, sa_ld_of (by omega) (by omega), Option.bind_some, Int.toNat_natCast, Int.toNat_natCast, hK i (by omega), hx, fnd]
    by_cases e : in_keys.getD i 0 = x
    · rw [if_pos (cmp_eq.mpr e), if_pos (decide_eq_true e), if_neg (by omega)]
    · rw [if_neg (fun q => e (cmp_eq.mp q)), if_neg (show ¬ decide (in_keys.getD i 0 = x) = true from fun q => e (of_decide_eq_true q)), w32s (by omega)]
      exact ih m (i + 1) (by omega) (by omega)
theorem p4_settle {σ : st_S} {T : Nat → Int} (hK : ∀ k, k < 15 → σ 9 k = in_keys.getD k 0) {j q n : Nat} (hj : j ≤ 1200) (h1 : 1 ≤ n) (h7 : n ≤ 7) (hL : allL (sh T q) n) (h2 : σ 10 j = 2) (hx : σ 12 j = (gvN (sh T q) n : Int)) :
    ∃ σ', g_X4_settle (j : Int) σ = some σ' ∧ FJ j σ σ' ∧ (if kyN (nmN (sh T q) n : Int) = -1 then σ' 10 j = 2 ∧ σ' 12 j = (nmN (sh T q) n : Int) else σ' 10 j = 1 ∧ σ' 12 j = kyN (nmN (sh T q) n : Int)) := by
  have ni := nmN_in h1 h7 hL
  have al := p8_aligned (σ := σ) (x := gvN (sh T q) n) (d := 7 - n) (by omega) ni.1 ni.2
  have fr := FJ.up (σ := σ) (j := j) (a := 12) (Or.inr rfl) (nmN (sh T q) n : Int)
  have l17 := p4_settle_L17 (σ := up2 σ 12 j (nmN (sh T q) n : Int)) (fun k hk => by rw [up2_o _ _ (by decide)]; exact hK k hk) hj (up2_at _ _ _ _) (fun w42_1 w42_2 σx42 => (sa_st σx42 10 1201 w42_1 (1 : Int)).bind fun σ2 => (sa_st σ2 12 1201 w42_1 w42_2).bind fun σ3 => some σ3) 15 ab_FU 0 rfl (by show _ < 100000; omega)
  have go : g_X4_settle (j : Int) σ = g_X4_settle_L17 (fun w42_1 w42_2 σx42 => (sa_st σx42 10 1201 w42_1 (1 : Int)).bind fun σ2 => (sa_st σ2 12 1201 w42_1 w42_2).bind fun σ3 => some σ3) ab_FU (j : Int) 0 (up2 σ 12 j (nmN (sh T q) n : Int)) := by
    unfold g_X4_settle
    rw [sa_ld_of (by omega) (by omega), Option.bind_some, Int.toNat_natCast, hx, al, Option.bind_some]
    dsimp only
    rw [sa_st_of (by omega) (by omega), Option.bind_some, Int.toNat_natCast]; rfl
  rw [go]
  by_cases e : kyN (nmN (sh T q) n : Int) = -1
  · refine ⟨_, l17.trans (if_pos e), fr, ?_⟩
    rw [if_pos e]
    exact ⟨by rw [up2_o _ _ (by decide)]; exact h2, up2_at _ _ _ _⟩
  · refine ⟨up2 (up2 (up2 σ 12 j (nmN (sh T q) n : Int)) 10 j 1) 12 j (kyN (nmN (sh T q) n : Int)), (l17.trans (if_neg e)).trans ?_, (fr.trans (FJ.up (Or.inl rfl) _)).trans (FJ.up (Or.inr rfl) _), ?_⟩
    · rw [sa_st_of (by omega) (by omega), Option.bind_some, sa_st_of (by omega) (by omega), Option.bind_some, Int.toNat_natCast]; rfl
    · rw [if_neg e]
      exact ⟨by rw [up2_o _ _ (by decide), up2_at], up2_at _ _ _ _⟩
section KY
variable {T : Nat → Int} {L : Nat}
theorem p4_begin_L27 (ox : okX T L) {N : Nat} (hN : N ≤ L) : ∀ (c j : Nat) (σ : st_S), j + c = N + 1 → σ 8 4 = ((N + 1 : Nat) : Int) → (∀ k, k < 15 → σ 9 k = in_keys.getD k 0) → (∀ i, i < j → Tk8 σ T L i) → (∀ i, j ≤ i → i ≤ N → Rw σ T L i) →
    ∃ σ', (∀ n, c < n → g_X4_begin_L27 n (j : Int) σ = some σ') ∧ (∀ i, i ≤ N → Tk8 σ' T L i) ∧ ∀ c, c ≠ 10 → c ≠ 12 → σ' c = σ c := by
  have o1 := ox.1
  intro c
  induction c with
  | zero =>
    intro j σ hj h4 hK hT hR
    refine ⟨σ, fun n hn => ?_, fun i hi => hT i (by omega), fun _ _ _ => rfl⟩
    obtain ⟨m, rfl⟩ : ∃ m, n = m + 1 := ⟨n - 1, by omega⟩
    rw [g_X4_begin_L27, h4, if_pos (by omega)]
  | succ c ih =>
    intro j σ hj h4 hK hT hR
    obtain ⟨r1, r2, r3, r4⟩ := hR j (Nat.le_refl _) (by omega)
    -- this part
    have here : ∃ σ1, (∀ n, c < n → g_X4_begin_L27 (n + 1) (j : Int) σ = g_X4_begin_L27 n ((j + 1 : Nat) : Int) σ1) ∧ Tk8 σ1 T L j ∧ FJ j σ σ1 := by
      have stay : σ 10 j ≠ 2 → Tk8 σ T L j → ∃ σ1, (∀ n, c < n → g_X4_begin_L27 (n + 1) (j : Int) σ = g_X4_begin_L27 n ((j + 1 : Nat) : Int) σ1) ∧ Tk8 σ1 T L j ∧ FJ j σ σ1 := by
        intro z1 z2
        refine ⟨σ, fun n hn => ?_, z2, fun _ _ _ => rfl, fun _ _ => ⟨rfl, rfl⟩⟩
        rw [g_X4_begin_L27, h4, if_neg (by omega), sa_ld_of (by omega) (by omega), Option.bind_some, Int.toNat_natCast, if_neg z1]
        unfold g_X4_begin_J50
        rw [w32s (by omega)]
      unfold Tk8 sJ at *
      generalize stP T L (pkT T L j) = q at *
      rcases kd_cases T L q with k0 | k1 | k2 | k3
      · obtain ⟨a, d⟩ := r4 k0
        have e8 : k8 T L q = 0 := by unfold k8; rw [if_pos k0]
        exact stay (by rw [d]; decide) ⟨a, by rw [d, e8], fun z => absurd e8 z⟩
      · obtain ⟨a, d, g⟩ := r1 k1
        obtain ⟨w1, w2, w3⟩ := all_w k1
        have nq : enQ T L q - q = nQ T L q := rfl
        rw [nq] at d g
        by_cases e : nQ T L q ≤ 7
        · rw [if_pos e] at d g
          obtain ⟨σ1, s1, s2, s3⟩ := p4_settle (T := T) (q := q) hK (show j ≤ 1200 by omega) w1 e w3 d g
          refine ⟨σ1, fun n hn => ?_, ⟨by rw [s2.1 11 (by decide) (by decide)]; exact a, ?_⟩, s2⟩
          · rw [g_X4_begin_L27, h4, if_neg (by omega), sa_ld_of (by omega) (by omega), Option.bind_some, Int.toNat_natCast, if_pos d, s1, Option.bind_some]
            unfold g_X4_begin_J50
            rw [w32s (by omega)]
          · unfold k8 v8
            rw [k1, if_neg (by decide), if_pos rfl, if_neg (show ¬ 7 < nQ T L q by omega), if_pos rfl]
            by_cases y : kyN (nmN (sh T q) (nQ T L q) : Int) = -1
            · rw [if_pos y] at s3
              rw [if_pos y, if_pos y]; exact ⟨s3.1, fun _ _ => s3.2⟩
            · rw [if_neg y] at s3
              rw [if_neg y, if_neg y]; exact ⟨s3.1, fun _ _ => s3.2⟩
        · rw [if_neg e] at d
          have e8 : k8 T L q = 3 := by unfold k8; rw [k1, if_neg (by decide), if_pos rfl, if_pos (by omega)]
          exact stay (by rw [d]; decide) ⟨a, by rw [d, e8], fun _ z => absurd e8 z⟩
      · obtain ⟨a, d, g⟩ := r2 k2
        have e8 : k8 T L q = 4 := by unfold k8; rw [k2]; rfl
        exact stay (by rw [d]; decide) ⟨a, by rw [d, e8], fun _ _ => by unfold v8; rw [k2, if_neg (by decide), if_pos rfl]; exact g⟩
      · obtain ⟨a, d, g⟩ := r3 k3
        have e8 : k8 T L q = 5 := by unfold k8; rw [k3]; rfl
        exact stay (by rw [d]; decide) ⟨a, by rw [d, e8], fun _ _ => by unfold v8; rw [k3, if_neg (by decide), if_neg (by decide)]; exact g⟩
    obtain ⟨σ1, a1, a2, a3⟩ := here
    obtain ⟨σ', q1, q2, q3⟩ := ih (j + 1) σ1 (by omega) (by rw [a3.1 8 (by decide) (by decide)]; exact h4) (fun k hk => by rw [a3.1 9 (by decide) (by decide)]; exact hK k hk) (fun i hi => by
      by_cases z : i = j
      · rw [z]; exact a2
      · obtain ⟨b1, b2, b3⟩ := hT i (by omega)
        have f := a3.2 i z
        exact ⟨by rw [a3.1 11 (by decide) (by decide)]; exact b1, by rw [f.1]; exact b2, fun y1 y2 => by rw [f.2]; exact b3 y1 y2⟩) (fun i i1 i2 => by
      obtain ⟨b1, b2, b3, b4⟩ := hR i (by omega) i2
      have f := a3.2 i (by omega)
      have e11 : σ1 11 i = σ 11 i := by rw [a3.1 11 (by decide) (by decide)]
      refine ⟨fun z => ?_, fun z => ?_, fun z => ?_, fun z => ?_⟩
      · obtain ⟨x, y, w⟩ := b1 z; exact ⟨by rw [e11]; exact x, by rw [f.1]; exact y, by rw [f.2]; exact w⟩
      · obtain ⟨x, y, w⟩ := b2 z; exact ⟨by rw [e11]; exact x, by rw [f.1]; exact y, by rw [f.2]; exact w⟩
      · obtain ⟨x, y, w⟩ := b3 z; exact ⟨by rw [e11]; exact x, by rw [f.1]; exact y, by rw [f.2]; exact w⟩
      · obtain ⟨x, y⟩ := b4 z; exact ⟨by rw [e11]; exact x, by rw [f.1]; exact y⟩)
    refine ⟨σ', fun n hn => ?_, q2, fun c x y => by rw [q3 c x y, a3.1 c x y]⟩
    obtain ⟨m, rfl⟩ : ∃ m, n = m + 1 := ⟨n - 1, by omega⟩
    rw [a1 m (by omega)]
    exact q1 m (by omega)
/-- the class has taken the text apart: N parts and the end -/
theorem p4_begin {σ : st_S} (ox : okX T L) (h : Tx8 σ T L) (hK : ∀ k, k < 15 → σ 9 k = in_keys.getD k 0) : ∃ σ' N, g_X4_begin 2 σ = some σ' ∧ N ≤ L ∧ σ' 8 4 = ((N + 1 : Nat) : Int) ∧ (∀ j, j ≤ N → Tk8 σ' T L j) ∧ (∀ j, j < N → sJ T L j < L) ∧ sJ T L N = L ∧ σ' 8 5 = 0 ∧ σ' 8 6 = 0 ∧ σ' 8 9 = 0 ∧ σ' 8 10 = -1 ∧ ∀ c, c ≠ 8 → c ≠ 10 → c ≠ 11 → c ≠ 12 → σ' c = σ c := by
  have o1 := ox.1
  have o : ∀ c, c ≠ 8 → up2 (up2 (up2 (up2 σ 8 9 0) 8 10 (-1)) 8 6 0) 8 5 0 c = σ c := fun c hc => by rw [up2_o _ _ hc, up2_o _ _ hc, up2_o _ _ hc, up2_o _ _ hc]
  have w5 : up2 (up2 (up2 (up2 σ 8 9 0) 8 10 (-1)) 8 6 0) 8 5 0 8 5 = 0 := up2_at _ _ _ _
  have w6 : up2 (up2 (up2 (up2 σ 8 9 0) 8 10 (-1)) 8 6 0) 8 5 0 8 6 = 0 := by rw [up2_ne _ _ (by decide), up2_at]
  have w10 : up2 (up2 (up2 (up2 σ 8 9 0) 8 10 (-1)) 8 6 0) 8 5 0 8 10 = -1 := by rw [up2_ne _ _ (by decide), up2_ne _ _ (by decide), up2_at]
  have w9 : up2 (up2 (up2 (up2 σ 8 9 0) 8 10 (-1)) 8 6 0) 8 5 0 8 9 = 0 := by rw [up2_ne _ _ (by decide), up2_ne _ _ (by decide), up2_ne _ _ (by decide), up2_at]
  have gg : g_X4_begin 2 σ = (g_X4_scan 2 (up2 (up2 (up2 (up2 σ 8 9 0) 8 10 (-1)) 8 6 0) 8 5 0)).bind fun q1 => g_X4_begin_L27 ab_FU 0 q1 := rfl
  rw [gg]
  generalize up2 (up2 (up2 (up2 σ 8 9 0) 8 10 (-1)) 8 6 0) 8 5 0 = s0 at *
  obtain ⟨s1, N, a1, a2, a3, a4, a5, a6, a7⟩ := p4_scan (σ := s0) ox ⟨by rw [o 2 (by decide)]; exact h.1, fun i hi => by rw [o 3 (by decide)]; exact h.2 i hi⟩
  obtain ⟨s2, b1, b2, b3⟩ := p4_begin_L27 ox a2 (N + 1) 0 s1 (by omega) a3 (fun k hk => by rw [a7.1 9 (by decide) (by decide) (by decide) (by decide), o 9 (by decide)]; exact hK k hk) (fun i hi => absurd hi (Nat.not_lt_zero _)) (fun i _ hi => a4 i hi)
  have e8 : ∀ f, f ≠ 4 → s2 8 f = s0 8 f := fun f hf => by rw [b3 8 (by decide) (by decide), a7.2.1 f hf]
  refine ⟨s2, N, ?_, a2, by rw [b3 8 (by decide) (by decide)]; exact a3, b2, a5, a6, by rw [e8 5 (by decide)]; exact w5, by rw [e8 6 (by decide)]; exact w6, by rw [e8 9 (by decide)]; exact w9, by rw [e8 10 (by decide)]; exact w10, fun c c1 c2 c3 c4 => by rw [b3 c c2 c4, a7.1 c c1 c2 c3 c4, o c c1]⟩
  rw [a1, Option.bind_some]
  exact b1 ab_FU (by show _ < 100000; omega)
end KY
