/-! both sides at the j-th part of the text -/
def nxJ (N j : Nat) : Nat := if j < N then j + 1 else j
def A9 (σ : st_S) (T : Nat → Int) (L j : Nat) : Prop := Tx9 σ T L ∧ At9 σ T L (sJ T L j)
def er (σ : st_S) (c p : Int) : st_S := up2 (up2 σ 596 10 c) 596 11 p
section ST
variable {T : Nat → Int} {L N j : Nat} {σ : st_S}
theorem nx_le (h : j ≤ N) : nxJ N j ≤ N := by unfold nxJ; split <;> omega
theorem sJ_le : sJ T L j ≤ L := (stP_in (pkT_le j)).2
theorem p9_goes (ox : okX T L) (hN : sJ T L N = L) (hj : j ≤ N) (h : A9 σ T L j) : ∃ σ', g_X9_advance σ = some σ' ∧ A9 σ' T L (nxJ N j) ∧ F69 σ σ' := by
  obtain ⟨hT, hA⟩ := h
  have p6 : σ 596 6 = (pkT T L (j + 1) : Int) := hA.2.1
  obtain ⟨σ', a1, a2, a3⟩ := p9_advance ox hT (pkT_le (j + 1)) p6
  refine ⟨σ', a1, ⟨hT.fr a3, ?_⟩, a3⟩
  have e : sJ T L (nxJ N j) = stP T L (pkT T L (j + 1)) := by
    unfold nxJ
    by_cases z : j < N
    · rw [if_pos z]; rfl
    · rw [if_neg z]
      have : j = N := by omega
      subst this
      rw [hN]
      have e1 : pkT T L (j + 1) = L := by
        show enQ T L (sJ T L j) = L
        rw [hN]
        unfold enQ kdQ
        rw [if_pos (Nat.le_refl _), if_pos rfl]
      rw [e1]
      unfold stP
      rw [Nat.sub_self]; rfl
  rw [e]; exact a2
theorem p9_good1 (hg : σ 596 10 = 0) : g_X9_good σ = some (1, σ) := by unfold g_X9_good; rw [if_pos hg]
theorem p9_good0 (hg : σ 596 10 ≠ 0) : g_X9_good σ = some (0, σ) := by unfold g_X9_good; rw [if_neg hg]
theorem p9_errs1 (hg : σ 596 10 = 0) (c p : Int) : g_X9_errs c p σ = some (er σ c p) := by
  unfold g_X9_errs er
  rw [p9_good1 hg, Option.bind_some]
  dsimp only
  rw [if_neg one0, Option.bind_some, Option.bind_some]
theorem p9_errs0 (hg : σ 596 10 ≠ 0) (c p : Int) : g_X9_errs c p σ = some σ := by
  unfold g_X9_errs
  rw [p9_good0 hg, Option.bind_some]
  dsimp only
  rw [if_pos rfl]
theorem k8_5 {q : Nat} : k8 T L q = 5 ↔ kdQ T L q = 3 := by
  unfold k8
  rcases kd_cases T L q with e | e | e | e
  · rw [e]; simp
  · rw [e, if_neg (by decide), if_pos rfl]
    split
    · simp
    · split <;> simp
  · rw [e]; simp
  · rw [e]; simp
theorem k8_4 {q : Nat} : k8 T L q = 4 ↔ kdQ T L q = 2 := by
  unfold k8
  rcases kd_cases T L q with e | e | e | e
  · rw [e]; simp
  · rw [e, if_neg (by decide), if_pos rfl]
    split
    · simp
    · split <;> simp
  · rw [e]; simp
  · rw [e]; simp
theorem k8_0 {q : Nat} : k8 T L q = 0 ↔ kdQ T L q = 0 := by
  unfold k8
  rcases kd_cases T L q with e | e | e | e
  · rw [e]; simp
  · rw [e, if_neg (by decide), if_pos rfl]
    split
    · simp
    · split <;> simp
  · rw [e]; simp
  · rw [e]; simp
theorem k8_2 {q : Nat} : k8 T L q = 2 ↔ kdQ T L q = 1 ∧ nQ T L q ≤ 7 ∧ k8 T L q ≠ 1 := by
  unfold k8
  rcases kd_cases T L q with e | e | e | e
  · rw [e]; simp
  · rw [e, if_neg (by decide), if_pos rfl]
    by_cases z : 7 < nQ T L q
    · rw [if_pos z]; constructor
      · intro h; exact absurd h (by decide)
      · intro h; omega
    · rw [if_neg z]
      split
      · exact ⟨fun _ => ⟨rfl, by omega, by decide⟩, fun _ => rfl⟩
      · exact ⟨fun h => absurd h (by decide), fun h => absurd rfl h.2.2⟩
  · rw [e]; simp
  · rw [e]; simp
theorem v8_sign {q : Nat} (ox : okX T L) (h : kdQ T L q = 3) {a : Int} (ha : 0 ≤ a ∧ a < 128) : ub (T q) = a ↔ v8 T L q = a := by
  have hq : q < L := by
    by_cases z : q < L
    · exact z
    · unfold kdQ at h; rw [if_pos (by omega)] at h; omega
  have := ox.2 q hq
  have e : v8 T L q = T q := by unfold v8; rw [h, if_neg (by decide), if_neg (by decide)]
  rw [e]
  unfold ub
  split <;> omega
theorem v8_name {q : Nat} (h : k8 T L q = 2) : v8 T L q = (nmN (sh T q) (nQ T L q) : Int) ∧ isNm (v8 T L q) ∧ v8 T L q ≠ 0 := by
  obtain ⟨h1, h2, _⟩ := k8_2.mp h
  obtain ⟨w1, w2, w3⟩ := all_w h1
  have ni := nmN_in w1 h2 w3
  have e : v8 T L q = (nmN (sh T q) (nQ T L q) : Int) := by
    unfold k8 at h
    unfold v8
    rw [h1, if_neg (by decide), if_pos rfl, if_neg (by omega)] at h
    rw [h1, if_pos rfl]
    by_cases y : kyN (nmN (sh T q) (nQ T L q) : Int) = -1
    · rw [if_pos y]
    · rw [if_neg y] at h; exact absurd h (by decide)
  refine ⟨e, ?_, by omega⟩
  unfold isNm; omega
theorem p9_eatsByte0 (hg : σ 596 10 ≠ 0) (a : Int) : g_X9_eatsByte a σ = some (0, σ) := by
  unfold g_X9_eatsByte
  rw [p9_good0 hg, Option.bind_some]
  dsimp only
  rw [if_pos rfl]
theorem p9_eatsByte (ox : okX T L) (hN : sJ T L N = L) (hj : j ≤ N) (h : A9 σ T L j) (hg : σ 596 10 = 0) {a : Int} (ha : 0 ≤ a ∧ a < 128) :
    (k8 T L (sJ T L j) = 5 ∧ v8 T L (sJ T L j) = a ∧ ∃ σ', g_X9_eatsByte a σ = some (1, σ') ∧ A9 σ' T L (nxJ N j) ∧ F69 σ σ') ∨ (¬ (k8 T L (sJ T L j) = 5 ∧ v8 T L (sJ T L j) = a) ∧ g_X9_eatsByte a σ = some (0, σ)) := by
  obtain ⟨h7, h6, h8, h2, h3⟩ := h.2
  have st : g_X9_eatsByte a σ = if σ 596 8 = 3 then (if σ 596 9 = a then ((g_X9_advance σ).bind fun q2 => some ((1 : Int), q2)) else some (0, σ)) else some (0, σ) := by
    unfold g_X9_eatsByte
    rw [p9_good1 hg, Option.bind_some]
    dsimp only
    rw [if_neg one0]
  by_cases e : kdQ T L (sJ T L j) = 3
  · have e3 : σ 596 8 = 3 := by rw [h8, e]; rfl
    have vs := v8_sign ox e ha
    by_cases y : v8 T L (sJ T L j) = a
    · refine Or.inl ⟨k8_5.mpr e, y, ?_⟩
      obtain ⟨σ', a1, a2, a3⟩ := p9_goes ox hN hj h
      refine ⟨σ', ?_, a2, a3⟩
      rw [st, if_pos e3, if_pos (show σ 596 9 = a by rw [h3 e]; exact vs.mpr y), a1]; rfl
    · refine Or.inr ⟨fun z => y z.2, ?_⟩
      rw [st, if_pos e3, if_neg (show ¬ σ 596 9 = a by rw [h3 e]; exact fun z => y (vs.mp z))]
  · refine Or.inr ⟨fun z => e (k8_5.mp z.1), ?_⟩
    rw [st, if_neg (show ¬ σ 596 8 = 3 by rw [h8]; omega)]
theorem p9_passes0 (hg : σ 596 10 ≠ 0) (a : Int) : g_X9_passesByte a σ = some σ := by
  unfold g_X9_passesByte
  rw [p9_eatsByte0 hg, Option.bind_some]
  dsimp only
  rw [if_pos rfl, p9_errs0 hg]; rfl
theorem p9_passes (ox : okX T L) (hN : sJ T L N = L) (hj : j ≤ N) (h : A9 σ T L j) (hg : σ 596 10 = 0) {a : Int} (ha : 0 ≤ a ∧ a < 128) :
    (k8 T L (sJ T L j) = 5 ∧ v8 T L (sJ T L j) = a ∧ ∃ σ', g_X9_passesByte a σ = some σ' ∧ A9 σ' T L (nxJ N j) ∧ F69 σ σ') ∨ (¬ (k8 T L (sJ T L j) = 5 ∧ v8 T L (sJ T L j) = a) ∧ g_X9_passesByte a σ = some (er σ 1 (sJ T L j : Int))) := by
  rcases p9_eatsByte ox hN hj h hg ha with ⟨e1, e2, σ', a1, a2, a3⟩ | ⟨e1, a1⟩
  · refine Or.inl ⟨e1, e2, σ', ?_, a2, a3⟩
    unfold g_X9_passesByte
    rw [a1, Option.bind_some]
    dsimp only
    rw [if_neg one0]
  · refine Or.inr ⟨e1, ?_⟩
    unfold g_X9_passesByte
    rw [a1, Option.bind_some]
    dsimp only
    rw [if_pos rfl, p9_errs1 hg, h.2.1]; rfl
theorem p9_wordHere0 (hg : σ 596 10 ≠ 0) : g_X9_wordHere σ = some (0, σ) := by
  unfold g_X9_wordHere g_X9_wordHere_J45
  rw [p9_good0 hg, Option.bind_some]
  dsimp only
  rw [if_pos rfl, p9_good0 hg, Option.bind_some]
  dsimp only
  rw [if_pos rfl]
theorem er10 (c p : Int) : er σ c p 596 10 = c := by unfold er; rw [up2_ne _ _ (by decide), up2_at]
theorem er11 (c p : Int) : er σ c p 596 11 = p := by unfold er; rw [up2_at]
theorem p9_wordHere (ox : okX T L) (h : A9 σ T L j) (hg : σ 596 10 = 0) : g_X9_wordHere σ = if k8 T L (sJ T L j) = 2 then some (v8 T L (sJ T L j), σ) else some (0, er σ 1 (sJ T L j : Int)) := by
  have o1 := ox.1
  obtain ⟨h7, h6, h8, _⟩ := h.2
  have bad : g_X9_wordHere_J36 σ = some (0, er σ 1 (sJ T L j : Int)) := by
    unfold g_X9_wordHere_J36 g_X9_wordHere_J45
    rw [p9_errs1 hg, Option.bind_some, h7, p9_good0 (by rw [er10]; decide), Option.bind_some]
    dsimp only
    rw [if_pos rfl]
  unfold g_X9_wordHere
  rw [p9_good1 hg, Option.bind_some]
  dsimp only
  rw [if_neg one0]
  by_cases e : kdQ T L (sJ T L j) = 1
  · obtain ⟨w1, w2, w3⟩ := all_w e
    have nq : (enQ T L (sJ T L j) : Int) - (sJ T L j : Int) = (nQ T L (sJ T L j) : Int) := by unfold nQ at w1 ⊢; omega
    have hE : ab_w32 (σ 596 6 - σ 596 7) = (nQ T L (sJ T L j) : Int) := by rw [h6, h7, nq, w32i (by omega) (by omega)]
    rw [if_pos (show σ 596 8 = 1 by rw [h8, e]; rfl)]
    by_cases z : 7 < nQ T L (sJ T L j)
    · rw [if_pos (show (7 : Int) < ab_w32 (σ 596 6 - σ 596 7) by rw [hE]; omega), bad, if_neg (fun y => by have := k8_2.mp y; omega)]
    · rw [if_neg (show ¬ (7 : Int) < ab_w32 (σ 596 6 - σ 596 7) by rw [hE]; omega), p9_isOwnWord ox h.1 h.2 hg, Option.bind_some]
      dsimp only
      by_cases y : k8 T L (sJ T L j) = 1
      · rw [if_pos y, if_neg one0, bad, if_neg (by rw [y]; decide)]
      · have k2 := k8_2.mpr ⟨e, by omega, y⟩
        rw [if_neg y, if_pos rfl, if_pos k2]
        unfold g_X9_wordHere_J45
        rw [p9_good1 hg, Option.bind_some]
        dsimp only
        have pk := p9_packed (σ := σ) (t := sh T (sJ T L j)) (f := sJ T L j) (n := nQ T L (sJ T L j)) (by omega) (by omega) (fun i hi => h.1.2 _ (by omega)) w3
        rw [if_neg one0, h7, h6, show (enQ T L (sJ T L j) : Int) = ((sJ T L j + nQ T L (sJ T L j) : Nat) : Int) by omega, pk, (v8_name k2).1]; rfl
  · rw [if_neg (show ¬ σ 596 8 = 1 by rw [h8]; omega), bad, if_neg (fun y => e (k8_2.mp y).1)]
theorem p9_wordRead0 (hg : σ 596 10 ≠ 0) : g_X9_wordRead σ = some (0, σ) := by
  unfold g_X9_wordRead
  rw [p9_wordHere0 hg, Option.bind_some, p9_good0 hg, Option.bind_some]
  dsimp only
  rw [if_pos rfl]
theorem p9_wordRead (ox : okX T L) (hN : sJ T L N = L) (hj : j ≤ N) (h : A9 σ T L j) (hg : σ 596 10 = 0) :
    (k8 T L (sJ T L j) = 2 ∧ ∃ σ', g_X9_wordRead σ = some (v8 T L (sJ T L j), σ') ∧ A9 σ' T L (nxJ N j) ∧ F69 σ σ') ∨ (k8 T L (sJ T L j) ≠ 2 ∧ g_X9_wordRead σ = some (0, er σ 1 (sJ T L j : Int))) := by
  have w := p9_wordHere ox h hg
  by_cases e : k8 T L (sJ T L j) = 2
  · rw [if_pos e] at w
    obtain ⟨σ', a1, a2, a3⟩ := p9_goes ox hN hj h
    refine Or.inl ⟨e, σ', ?_, a2, a3⟩
    unfold g_X9_wordRead
    rw [w, Option.bind_some]
    dsimp only
    rw [p9_good1 hg, Option.bind_some]
    dsimp only
    rw [if_neg one0, a1]; rfl
  · rw [if_neg e] at w
    refine Or.inr ⟨e, ?_⟩
    unfold g_X9_wordRead
    rw [w, Option.bind_some]
    dsimp only
    rw [p9_good0 (by rw [er10]; decide), Option.bind_some]
    dsimp only
    rw [if_pos rfl]
theorem p9_eats0 (hg : σ 596 10 ≠ 0) {k : Nat} (hk : k < 15) : g_X9_eats (kA k) σ = some (0, σ) := by
  unfold g_X9_eats
  rw [p9_isWord_b hg hk, Option.bind_some]
  dsimp only
  rw [if_pos rfl]
theorem p9_eats (ox : okX T L) (hN : sJ T L N = L) (hj : j ≤ N) (h : A9 σ T L j) (hg : σ 596 10 = 0) {k : Nat} (hk : k < 15) :
    (k8 T L (sJ T L j) = 1 ∧ v8 T L (sJ T L j) = (k : Int) ∧ ∃ σ', g_X9_eats (kA k) σ = some (1, σ') ∧ A9 σ' T L (nxJ N j) ∧ F69 σ σ') ∨ (¬ (k8 T L (sJ T L j) = 1 ∧ v8 T L (sJ T L j) = (k : Int)) ∧ g_X9_eats (kA k) σ = some (0, σ)) := by
  have w := p9_isWord ox h.1 h.2 hg hk
  by_cases e : k8 T L (sJ T L j) = 1 ∧ v8 T L (sJ T L j) = (k : Int)
  · rw [if_pos e] at w
    obtain ⟨σ', a1, a2, a3⟩ := p9_goes ox hN hj h
    refine Or.inl ⟨e.1, e.2, σ', ?_, a2, a3⟩
    unfold g_X9_eats
    rw [w, Option.bind_some]
    dsimp only
    rw [if_neg one0, a1]; rfl
  · rw [if_neg e] at w
    refine Or.inr ⟨e, ?_⟩
    unfold g_X9_eats
    rw [w, Option.bind_some]
    dsimp only
    rw [if_pos rfl]
/-! the class -/
def Cu8 (σ : st_S) (T : Nat → Int) (L N j : Nat) : Prop := σ 8 4 = ((N + 1 : Nat) : Int) ∧ σ 8 5 = (j : Int) ∧ j ≤ N ∧ N ≤ 1200 ∧ ∀ i, i ≤ N → Tk8 σ T L i
theorem Cu8.fr {σ' : st_S} (h : Cu8 σ T L N j) (e : ∀ c, 10 ≤ c → c ≤ 12 → σ' c = σ c) (e4 : σ' 8 4 = σ 8 4) (e5 : σ' 8 5 = σ 8 5) : Cu8 σ' T L N j := by
  obtain ⟨h1, h2, h3, h4, h5⟩ := h
  exact ⟨by rw [e4]; exact h1, by rw [e5]; exact h2, h3, h4, fun i hi => by
    obtain ⟨a, b, c⟩ := h5 i hi
    exact ⟨by rw [e 11 (by omega) (by omega)]; exact a, by rw [e 10 (by omega) (by omega)]; exact b, fun x y => by rw [e 12 (by omega) (by omega)]; exact c x y⟩⟩
theorem p4_step (h : Cu8 σ T L N j) : ∃ σ', g_X4_step σ = some σ' ∧ Cu8 σ' T L N (nxJ N j) ∧ (∀ c, c ≠ 8 → σ' c = σ c) ∧ ∀ f, f ≠ 5 → σ' 8 f = σ 8 f := by
  obtain ⟨h1, h2, h3, h4, h5⟩ := h
  have go : g_X4_step σ = if ((N + 1 : Nat) : Int) ≤ ((j + 1 : Nat) : Int) then some σ else some (up2 σ 8 5 ((j + 1 : Nat) : Int)) := by
    unfold g_X4_step
    rw [h1, h2, w32s (by omega)]; rfl
  rw [go]
  unfold nxJ
  by_cases e : j < N
  · rw [if_neg (by omega), if_pos e]
    exact ⟨_, rfl, ⟨by rw [up2_ne _ _ (by decide)]; exact h1, up2_at _ _ _ _, by omega, h4, fun i hi => by
      obtain ⟨a, b, c⟩ := h5 i hi
      exact ⟨by rw [up2_o _ _ (by decide)]; exact a, by rw [up2_o _ _ (by decide)]; exact b, fun x y => by rw [up2_o _ _ (by decide)]; exact c x y⟩⟩, fun c hc => up2_o _ _ hc, fun f hf => up2_ne _ _ (fun q => hf q.2)⟩
  · rw [if_pos (by omega), if_neg e]
    exact ⟨σ, rfl, ⟨h1, h2, h3, h4, h5⟩, fun _ _ => rfl, fun _ _ => rfl⟩
theorem p4_kind (h : Cu8 σ T L N j) : sa_ld σ 10 1201 (σ 8 5) = some (k8 T L (sJ T L j)) := by
  obtain ⟨h1, h2, h3, h4, h5⟩ := h
  rw [h2, sa_ld_of (by omega) (by omega), Int.toNat_natCast, (h5 j h3).2.1]
theorem p4_val (h : Cu8 σ T L N j) (h0 : k8 T L (sJ T L j) ≠ 0) (h3' : k8 T L (sJ T L j) ≠ 3) : sa_ld σ 12 1201 (σ 8 5) = some (v8 T L (sJ T L j)) := by
  obtain ⟨h1, h2, h3, h4, h5⟩ := h
  rw [h2, sa_ld_of (by omega) (by omega), Int.toNat_natCast, (h5 j h3).2.2 h0 h3']
theorem p4_isKey (h : Cu8 σ T L N j) (k : Int) : g_X4_isKey k σ = some (if k8 T L (sJ T L j) = 1 ∧ v8 T L (sJ T L j) = k then 1 else 0, σ) := by
  unfold g_X4_isKey g_X4_isKey_J32
  rw [p4_kind h, Option.bind_some]
  by_cases e : k8 T L (sJ T L j) = 1
  · rw [if_pos e, p4_val h (by rw [e]; decide) (by rw [e]; decide), Option.bind_some]
    by_cases y : v8 T L (sJ T L j) = k
    · rw [if_pos (cmp_eq.mpr y), if_pos ⟨e, y⟩]
    · rw [if_neg (fun z => y (cmp_eq.mp z)), if_neg (fun z => y z.2)]
  · rw [if_neg e, if_neg (fun z => e z.1)]
theorem p4_isSign (h : Cu8 σ T L N j) (k : Int) : g_X4_isSign k σ = some (if k8 T L (sJ T L j) = 5 ∧ v8 T L (sJ T L j) = k then 1 else 0, σ) := by
  unfold g_X4_isSign g_X4_isSign_J32
  rw [p4_kind h, Option.bind_some]
  by_cases e : k8 T L (sJ T L j) = 5
  · rw [if_pos e, p4_val h (by rw [e]; decide) (by rw [e]; decide), Option.bind_some]
    by_cases y : v8 T L (sJ T L j) = k
    · rw [if_pos (cmp_eq.mpr y), if_pos ⟨e, y⟩]
    · rw [if_neg (fun z => y (cmp_eq.mp z)), if_neg (fun z => y z.2)]
  · rw [if_neg e, if_neg (fun z => e z.1)]
theorem p4_choice (h : Cu8 σ T L N j) {a c : Nat} (ha : a ≤ 20) (hc : c ≤ 20) : g_X4_choice (a : Int) (c : Int) σ = some (chc T L (sJ T L j) (a : Int) (c : Int), σ) := by
  unfold g_X4_choice g_X4_choice_J41 chc
  rw [p4_kind h, Option.bind_some]
  by_cases e : k8 T L (sJ T L j) = 1
  · have vi := v8_in e
    rw [if_pos e, p4_val h (by rw [e]; decide) (by rw [e]; decide), Option.bind_some, w32i (x := v8 T L (sJ T L j)) (by omega) (by omega), w32i (by omega) (by omega)]
    by_cases y1 : v8 T L (sJ T L j) - (a : Int) < 0
    · rw [if_pos y1, if_neg (by omega)]
    · rw [if_neg y1]
      by_cases y2 : (c : Int) ≤ v8 T L (sJ T L j) - (a : Int)
      · rw [if_pos y2, if_neg (by omega)]
      · rw [if_neg y2, if_pos ⟨e, by omega, by omega⟩]
  · rw [if_neg e, if_neg (fun z => e z.1)]
def e8 (σ : st_S) (c p : Int) : st_S := up2 (up2 σ 8 9 c) 8 10 p
theorem p4_fail (h : Cu8 σ T L N j) (c : Int) : g_X4_fail c σ = some (0, e8 σ c (sJ T L j : Int)) := by
  obtain ⟨h1, h2, h3, h4, h5⟩ := h
  unfold g_X4_fail e8
  rw [Option.bind_some, up2_ne _ _ (by decide), h2, sa_ld_of (by omega) (by omega), Option.bind_some, Int.toNat_natCast, up2_o _ _ (by decide), (h5 j h3).1, Option.bind_some]
theorem p4_takeSign (h : Cu8 σ T L N j) (a : Int) : (k8 T L (sJ T L j) = 5 ∧ v8 T L (sJ T L j) = a ∧ ∃ σ', g_X4_takeSign a σ = some (1, σ') ∧ Cu8 σ' T L N (nxJ N j) ∧ (∀ c, c ≠ 8 → σ' c = σ c) ∧ ∀ f, f ≠ 5 → σ' 8 f = σ 8 f) ∨ (¬ (k8 T L (sJ T L j) = 5 ∧ v8 T L (sJ T L j) = a) ∧ g_X4_takeSign a σ = some (0, e8 σ 1 (sJ T L j : Int))) := by
  by_cases e : k8 T L (sJ T L j) = 5 ∧ v8 T L (sJ T L j) = a
  · obtain ⟨σ', a1, a2, a3, a4⟩ := p4_step h
    refine Or.inl ⟨e.1, e.2, σ', ?_, a2, a3, a4⟩
    unfold g_X4_takeSign
    rw [p4_isSign h, if_pos e, Option.bind_some]
    dsimp only
    rw [if_neg one0, a1]; rfl
  · refine Or.inr ⟨e, ?_⟩
    unfold g_X4_takeSign
    rw [p4_isSign h, if_neg e, Option.bind_some]
    dsimp only
    rw [if_pos rfl, p4_fail h]; rfl
end ST
