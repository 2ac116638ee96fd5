/-! the reference prints -/
def Pr9 (σ : st_S) (t : TP) : Prop := σ 596 30 = (t.1 : Int) ∧ ∀ i, i < t.1 → σ 610 i = t.2 i
def F30 (σ σ' : st_S) : Prop := (∀ c, c ≠ 596 → c ≠ 610 → σ' c = σ c) ∧ ∀ f, f ≠ 30 → σ' 596 f = σ 596 f
theorem F30.trans {σ σ1 σ2 : st_S} (h : F30 σ σ1) (h2 : F30 σ1 σ2) : F30 σ σ2 := ⟨fun a x y => by rw [h2.1 a x y, h.1 a x y], fun x y => by rw [h2.2 x y, h.2 x y]⟩
theorem F30.rfl' {σ : st_S} : F30 σ σ := ⟨fun _ _ _ => rfl, fun _ _ => rfl⟩
theorem V9.fr {σ σ' : st_S} {b : BV} {wy : Nat → Int} {o : Nat → Nat} (ok : OkB b) (h : V9 σ b wy o) (f : F30 σ σ') : V9 σ' b wy o := by
  obtain ⟨h1, h2, h3, h4, h5⟩ := h
  refine ⟨by rw [f.2 16 (by decide)]; exact h1, by rw [f.2 17 (by decide)]; exact h2, by rw [f.2 18 (by decide)]; exact h3, h4.fr (f.2 14 (by decide)) (f.1 600 (by decide) (by decide)) (f.1 601 (by decide) (by decide)), fun k hk => ?_⟩
  obtain ⟨k1, k2, k3, k4, k5, k6⟩ := h5 k hk
  exact ⟨by rw [f.1 608 (by decide) (by decide)]; exact k1, k2, k3, k4.fr ok k3 (by rw [f.1 602 (by decide) (by decide)]) (by rw [f.1 603 (by decide) (by decide)]) (by rw [f.1 604 (by decide) (by decide)]) (fun j _ _ => by rw [f.1 607 (by decide) (by decide)]), by rw [f.1 605 (by decide) (by decide)]; exact k5, by rw [f.1 606 (by decide) (by decide)]; exact k6⟩
theorem q9_says {σ : st_S} {t : TP} (h : Pr9 σ t) (hn : t.1 < 400) (x : Int) : ∃ σ', g_X9_says x σ = some σ' ∧ Pr9 σ' (tpush t x) ∧ F30 σ σ' := by
  obtain ⟨h1, h2⟩ := h
  refine ⟨up2 (up2 σ 610 t.1 (ab_w8 x)) 596 30 ((t.1 + 1 : Nat) : Int), ?_, ⟨up2_at _ _ _ _, fun i hi => ?_⟩, fun c h1 h2 => by rw [up2_o _ _ h1, up2_o _ _ h2], fun f hf => by rw [up2_ne _ _ (by omega), up2_o _ _ (by decide)]⟩
  · unfold g_X9_says
    rw [h1, sa_st_of (by omega) (by omega), Option.bind_some, w8w8, Int.toNat_natCast, up2_o (a' := 596) _ _ (by decide), h1, w32s (by omega)]; rfl
  · show _ = if i = t.1 then ab_w8 x else t.2 i
    rw [up2_o _ _ (by decide)]
    by_cases e : i = t.1
    · subst e; rw [up2_at, if_pos rfl]
    · rw [up2_ne _ _ (by omega), if_neg e]; exact h2 i (by have : i < t.1 + 1 := hi; omega)
theorem q9_saysWord {σ : st_S} {t : TP} (h : Pr9 σ t) (hn : t.1 + 7 ≤ 400) {x : Int} (hx : isNm x) : ∃ σ', g_X9_saysWord x σ = some σ' ∧ Pr9 σ' (wp t x) ∧ F30 σ σ' := by
  have key : ∀ (c i : Nat) (t : TP) (σ : st_S), i + c = 7 → t.1 + c ≤ 400 → Pr9 σ t → ∃ σ', (∀ n, c < n → g_X9_saysWord_L2 n x (i : Int) σ = some σ') ∧ Pr9 σ' (wP x c i t) ∧ F30 σ σ' := by
    intro c
    induction c with
    | zero =>
      intro i t σ hi hn h
      refine ⟨σ, fun n hn' => ?_, h, F30.rfl'⟩
      obtain ⟨m, rfl⟩ : ∃ m, n = m + 1 := ⟨n - 1, by omega⟩
      rw [g_X9_saysWord_L2, if_pos (by omega)]
    | succ c ih =>
      intro i t σ hi hn h
      have li := ltr_in x i
      rw [wP]
      by_cases e : ltr x i = 0
      · rw [if_pos e]
        obtain ⟨σ', q1, q2, q3⟩ := ih (i + 1) t σ (by omega) (by omega) h
        refine ⟨σ', fun n hn' => ?_, q2, q3⟩
        obtain ⟨m, rfl⟩ : ∃ m, n = m + 1 := ⟨n - 1, by omega⟩
        rw [g_X9_saysWord_L2, if_neg (by omega), p9_letterOf hx (by omega), Option.bind_some]
        unfold g_X9_saysWord_J30
        dsimp only
        rw [if_pos (by omega), w32s (by omega)]; exact q1 m (by omega)
      · rw [if_neg e]
        obtain ⟨σ1, r1, r2, r3⟩ := q9_says h (by omega) (96 + ltr x i)
        obtain ⟨σ', q1, q2, q3⟩ := ih (i + 1) _ σ1 (by omega) (by rw [tp1]; omega) r2
        refine ⟨σ', fun n hn' => ?_, q2, r3.trans q3⟩
        obtain ⟨m, rfl⟩ : ∃ m, n = m + 1 := ⟨n - 1, by omega⟩
        rw [g_X9_saysWord_L2, if_neg (by omega), p9_letterOf hx (by omega), Option.bind_some]
        unfold g_X9_saysWord_J30
        dsimp only
        rw [if_neg (by omega), p9_letterOf hx (by omega), Option.bind_some]
        dsimp only
        rw [w32i (x := 97 + ltr x i) (by omega) (by omega), w32i (x := 97 + ltr x i - 1) (by omega) (by omega), show 97 + ltr x i - 1 = 96 + ltr x i by omega, r1, Option.bind_some, w32s (by omega)]; exact q1 m (by omega)
  obtain ⟨σ', q1, q2, q3⟩ := key 7 0 t σ (by omega) hn h
  exact ⟨σ', q1 ab_FU (by show _ < 100000; omega), q2, q3⟩
theorem q9_saysNumber {σ : st_S} {t : TP} (h : Pr9 σ t) (hn : t.1 + 3 ≤ 400) {x : Int} (hx : 0 ≤ x ∧ x ≤ 999) : ∃ σ', g_X9_saysNumber x σ = some σ' ∧ Pr9 σ' (aP t x) ∧ F30 σ σ' := by
  obtain ⟨v, rfl⟩ := Int.eq_ofNat_of_zero_le hx.1
  have d1 : ab_dv (v : Int) 1 = some (v : Int) := by unfold ab_dv; rw [if_pos (by omega), Int.ediv_one]
  have d10 : ab_dv (v : Int) 10 = some ((v : Int) / 10) := by unfold ab_dv; rw [if_pos (by omega)]
  have d100 : ab_dv (v : Int) 100 = some ((v : Int) / 100) := by unfold ab_dv; rw [if_pos (by omega)]
  have rm : ∀ y : Int, 0 ≤ y → ab_rm_ y 10 = some (y % 10) := fun y hy => by unfold ab_rm_; rw [if_pos (by omega)]
  have e100 : ab_dv 100 10 = some 10 := by decide
  have e10 : ab_dv 10 10 = some 1 := by decide
  have e1 : ab_dv 1 10 = some 0 := by decide
  -- the last digit
  have last : ∀ (t : TP) (σ : st_S) (n : Nat), Pr9 σ t → t.1 + 1 ≤ 400 → ∃ σ', g_X9_saysNumber_L18 (n + 1 + 1) (v : Int) 1 σ = some σ' ∧ Pr9 σ' (tpush t (48 + (v : Int) % 10)) ∧ F30 σ σ' := by
    intro t σ n h hn
    obtain ⟨s3, c1, c2, c3⟩ := q9_says h (by omega) (48 + (v : Int) % 10)
    refine ⟨s3, ?_, c2, c3⟩
    rw [g_X9_saysNumber_L18, if_neg (by decide), d1, Option.bind_some, rm _ (by omega), Option.bind_some, w32i (x := 48 + (v : Int) % 10) (by omega) (by omega), c1, Option.bind_some, e1, Option.bind_some, g_X9_saysNumber_L18, if_pos (by decide)]
  unfold g_X9_saysNumber aP
  by_cases h1 : (10 : Int) ≤ (v : Int)
  · have ten : ∀ (t : TP) (σ : st_S) (n : Nat), Pr9 σ t → t.1 + 2 ≤ 400 → ∃ σ', g_X9_saysNumber_L18 (n + 1 + 1 + 1) (v : Int) 10 σ = some σ' ∧ Pr9 σ' (tpush (tpush t (48 + (v : Int) / 10 % 10)) (48 + (v : Int) % 10)) ∧ F30 σ σ' := by
      intro t σ n h hn
      obtain ⟨s2, b1, b2, b3⟩ := q9_says h (by omega) (48 + (v : Int) / 10 % 10)
      obtain ⟨s3, c1, c2, c3⟩ := last _ s2 n b2 (by rw [tp1]; omega)
      refine ⟨s3, ?_, c2, b3.trans c3⟩
      rw [g_X9_saysNumber_L18, if_neg (by decide), d10, Option.bind_some, rm _ (by omega), Option.bind_some, w32i (x := 48 + (v : Int) / 10 % 10) (by omega) (by omega), b1, Option.bind_some, e10, Option.bind_some]
      exact c1
    rw [if_pos h1]
    by_cases h2 : (100 : Int) ≤ (v : Int)
    · rw [if_pos h2]
      obtain ⟨s1, a1, a2, a3⟩ := q9_says h (by omega) (48 + (v : Int) / 100)
      obtain ⟨s3, c1, c2, c3⟩ := ten _ s1 99996 a2 (by rw [tp1]; omega)
      refine ⟨s3, ?_, c2, a3.trans c3⟩
      rw [show ab_FU = 99997 + 1 + 1 + 1 from rfl, g_X9_saysNumber_L2, d1, Option.bind_some, if_neg (by omega), show ab_w32 (1 * 10) = 10 from rfl, g_X9_saysNumber_L2, d10, Option.bind_some, if_neg (by omega), show ab_w32 (10 * 10) = 100 from rfl, g_X9_saysNumber_L2, d100, Option.bind_some, if_pos (by omega), g_X9_saysNumber_L18, if_neg (by decide), d100, Option.bind_some, rm _ (by omega), Option.bind_some, show (v : Int) / 100 % 10 = (v : Int) / 100 by omega, w32i (x := 48 + (v : Int) / 100) (by omega) (by omega), a1, Option.bind_some, e100, Option.bind_some]
      exact c1
    · rw [if_neg h2]
      obtain ⟨s3, c1, c2, c3⟩ := ten t σ 99997 h (by omega)
      refine ⟨s3, ?_, c2, c3⟩
      rw [show ab_FU = 99998 + 1 + 1 from rfl, g_X9_saysNumber_L2, d1, Option.bind_some, if_neg (by omega), show ab_w32 (1 * 10) = 10 from rfl, g_X9_saysNumber_L2, d10, Option.bind_some, if_pos (by omega)]
      exact c1
  · rw [if_neg h1]
    obtain ⟨s3, c1, c2, c3⟩ := last t σ 99998 h (by omega)
    refine ⟨s3, ?_, c2, c3⟩
    rw [show ab_FU = 99999 + 1 from rfl, g_X9_saysNumber_L2, d1, Option.bind_some, if_pos (by omega)]
    exact c1
theorem p9_joinOf {σ : st_S} {b : BV} (ok : OkB b) (hB : RB9 σ 597 0 b) {s i : Nat} (hs : s < bn b) (hi : i < bsz b s) {f : Nat} (hf : f = 3 ∨ f = 4) : g_X9_joinOf ((6 * s + i : Nat) : Int) (f : Int) σ = some (un b f s i, σ) := by
  have o1 := ok.1
  have o2 := ok.2.1 s hs
  have dv : ab_dv ((6 * s + i : Nat) : Int) 6 = some (s : Int) := by unfold ab_dv; rw [if_pos (by omega)]; congr 1; omega
  have e := hB.2.2.1 s hs i hi f (by omega)
  unfold g_X9_joinOf
  rw [dv, Option.bind_some, rm6 (by omega) (by omega), Option.bind_some, p9_termAt (by omega) (by omega), Option.bind_some]
  dsimp only
  rw [show ab_w32 (((34 + 32 * s + 5 * i : Nat) : Int) + (f : Int)) = ((0 + 34 + 32 * s + 5 * i + f : Nat) : Int) by rw [w32i (by omega) (by omega)]; omega, sa_ld_of (by omega) (by omega), Option.bind_some, Int.toNat_natCast, e, p9_usedOf hB.s ok]; rfl
theorem RB9.f30 {σ σ' : st_S} {b : BV} (h : RB9 σ 597 0 b) (f : F30 σ σ') : RB9 σ' 597 0 b := h.fr (f.1 597 (by decide) (by decide))
theorem p9_prints {σ : st_S} {b : BV} {wy : Nat → Int} {o : Nat → Nat} (ok : OkB b) (hn : nE b wy ≤ 72) (h : V9 σ b wy o) (hB : RB9 σ 597 0 b) {l : Nat} (hl : l < nL b wy) : ∃ σ', g_X9_prints (l : Int) σ = some σ' ∧ Pr9 σ' (pl b wy l (0, fun _ => 0)) ∧ (pl b wy l (0, fun _ => 0)).1 ≤ 140 ∧ F30 σ σ' := by
  have o1 := ok.1
  have wle := wl_le ok
  obtain ⟨q1, q2⟩ := lF_lt hl
  have inn : ∀ k, k < nE b wy → (lnO b wy k = l ↔ lF b wy l ≤ k ∧ k < lF b wy (l + 1)) := fun k hk => fsk_in (lnK_st b wy (sE b wy)) hk
  have hE : ∀ k, k < nE b wy → isE b (sE b wy k) := fun k hk => (h.2.2.2.2 k hk).2.2.1
  have a12 : adC b wy (lF b wy (l + 1) - lF b wy l) (lF b wy l) (-1) ≤ 12 := by rw [← pc_line ok hE hl]; exact pc_le _
  obtain ⟨y1, y2, y3, y4, y5, y6⟩ := h.2.2.2.2 (lF b wy l) (by omega)
  have l5 := en_le ok wy y3
  unfold pl
  generalize hX : sE b wy (lF b wy l) = X at *
  generalize hO : o (lF b wy l) = O at *
  have o2 := ok.2.1 X.1 y3.1
  have xs := y3.1
  have lead : lw b X < (wl b).1 := (tw_spec ok y3.1 y3.2).2.1
  have z1 : (en b wy X).1.1 = nA b wy X := rfl
  have z2 : (en b wy X).2.1.1 = nB b wy X := rfl
  have wa : ∀ k, k < nA b wy X → wA b wy X k < (wl b).1 := fun k hk => (tw_spec ok y3.1 (pA_lt ok wy y3 hk).1).2.1
  have wb : ∀ k, k < nB b wy X → wB b wy X k < (wl b).1 := fun k hk => (tw_spec ok y3.1 (pB_lt ok wy y3 hk).1).2.1
  have rdE : ∀ {τ : st_S}, F30 σ τ → E9 τ O b wy X := fun f => y4.fr ok y3 (by rw [f.1 602 (by decide) (by decide)]) (by rw [f.1 603 (by decide) (by decide)]) (by rw [f.1 604 (by decide) (by decide)]) (fun j _ _ => by rw [f.1 607 (by decide) (by decide)])
  have r12 : ab_w32 ((12 : Int) * (O : Int)) = ((12 * O : Nat) : Int) := by rw [w32i (by omega) (by omega)]; omega
  -- addresses
  have adr : ∀ (c k : Nat) (v : Int) (t : TP) (τ : st_S), k + c = lF b wy (l + 1) → lF b wy l ≤ k → (∀ j, j < k → lnO b wy j = l → agr b wy j ≤ v) → Pr9 τ t → t.1 + 4 * adC b wy c k v ≤ 400 → F30 σ τ → ∃ τ', (∀ n, c + 1 < n → g_X9_prints_L239 n (l : Int) (if v = -1 then 32 else 44) (abv b wy l v) τ = some τ') ∧ Pr9 τ' (dPp b wy c k v t) ∧ F30 σ τ' := by
    intro c
    induction c with
    | zero =>
      intro k v t τ hk hp hv hP ht hF
      refine ⟨τ, fun n hn' => ?_, hP, hF⟩
      obtain ⟨m, rfl⟩ : ∃ m, n = m + 1 := ⟨n - 1, by omega⟩
      rw [abv_no (fun j j1 j2 => hv j (by have := (inn j j1).mp j2; omega) j2), g_X9_prints_L239, if_pos rfl]
    | succ c ih =>
      intro k v t τ hk hp hv hP ht hF
      have ai := agr_in ok hE (show k < nE b wy by omega)
      have ln : lnO b wy k = l := (inn k (by omega)).mpr ⟨hp, by omega⟩
      rw [dPp]
      rw [adC] at ht
      by_cases e : agr b wy k ≤ v
      · rw [if_pos e] at ht ⊢
        obtain ⟨τ', s1, s2, s3⟩ := ih (k + 1) v t τ (by omega) (by omega) (fun j j1 j2 => by
          by_cases z : j = k
          · rw [z]; exact e
          · exact hv j (by omega) j2) hP ht hF
        exact ⟨τ', fun n hn => s1 n (by omega), s2, s3⟩
      · rw [if_neg e] at ht ⊢
        obtain ⟨s1, a1, a2, a3⟩ := q9_says hP (by omega) (if v = -1 then 32 else 44)
        obtain ⟨s2, b1, b2, b3⟩ := q9_saysNumber a2 (by rw [tp1]; omega) ai
        have al := aP_le (t := tpush t (if v = -1 then 32 else 44)) (v := agr b wy k)
        simp only [tp1] at al
        have f12 : F30 σ s2 := hF.trans (a3.trans b3)
        obtain ⟨τ', r1, r2, r3⟩ := ih (k + 1) (agr b wy k) _ s2 (by omega) (by omega) (fun j j1 j2 => agr_le hE (by omega) (by omega) (by rw [ln, j2])) b2 (by omega) f12
        refine ⟨τ', fun n hn' => ?_, r2, r3⟩
        obtain ⟨m, rfl⟩ : ∃ m, n = m + 1 := ⟨n - 1, by omega⟩
        rw [abv_at (by omega) ln (by omega) hv, g_X9_prints_L239, if_neg (by omega), a1, Option.bind_some, b1, Option.bind_some, p9_addressAbove ok hn (h.fr ok f12) (hB.f30 f12), Option.bind_some]
        dsimp only
        have := r1 m (by omega)
        rw [if_neg (by omega)] at this
        exact this
  -- below
  have rowB : ∀ (K : Int → st_S → Option st_S) (c k : Nat) (t : TP) (τ : st_S), k + c = nB b wy X → Pr9 τ t → t.1 + 17 * c ≤ 400 → F30 σ τ → ∃ τ', (∀ n, c < n → g_X9_prints_L123 K n (l : Int) (O : Int) ((k + 1 : Nat) : Int) τ = K (l : Int) τ') ∧ Pr9 τ' (rBp b wy X c k t) ∧ F30 σ τ' := by
    intro K c
    have r6 : ab_w32 (ab_w32 ((12 : Int) * (O : Int)) + 6) = ((12 * O + 6 : Nat) : Int) := by rw [r12, w32i (by omega) (by omega)]; omega
    induction c with
    | zero =>
      intro k t τ hk hP ht hF
      have e9 := (rdE hF).2.2.2.2.1
      rw [z2] at e9
      refine ⟨τ, fun n hn' => ?_, hP, hF⟩
      obtain ⟨m, rfl⟩ : ∃ m, n = m + 1 := ⟨n - 1, by omega⟩
      rw [g_X9_prints_L123, r6, sa_ld_of (by omega) (by omega), Option.bind_some, Int.toNat_natCast, e9, if_pos (by omega)]
    | succ c ih =>
      intro k t τ hk hP ht hF
      have e9 := (rdE hF).2.2.2.2.1
      rw [z2] at e9
      have pk : τ 607 (12 * O + 6 + 1 + k) = ((6 * X.1 + pB b wy X k : Nat) : Int) := (rdE hF).2.2.2.2.2 k (by rw [z2]; omega)
      have pll := (pB_lt ok wy y3 (show k < nB b wy X by omega)).1
      have wk := wb k (by omega)
      have nm := (un_nm ok y3.1 pll).2.1
      have nw := (wl_nm ok wk).1
      -- sign, blank, via, blank, word
      have main : ∀ sg : Int, ∃ τ', (∀ n, g_X9_prints_J168 (g_X9_prints_L123 K n) K (l : Int) (O : Int) ((k + 1 : Nat) : Int) ((6 * X.1 + pB b wy X k : Nat) : Int) sg τ = g_X9_prints_L123 K n (l : Int) (O : Int) ((k + 1 + 1 : Nat) : Int) τ') ∧ Pr9 τ' (jB t sg (un b 3 X.1 (pB b wy X k)) ((wl b).2 (wB b wy X k))) ∧ F30 σ τ' := by
        intro sg
        obtain ⟨s1, a1, a2, a3⟩ := q9_says hP (by omega) sg
        obtain ⟨s2, b1, b2, b3⟩ := q9_says a2 (by rw [tp1]; omega) 32
        obtain ⟨s3, c1, c2, c3⟩ := q9_saysWord b2 (by rw [tp1, tp1]; omega) nm
        have wl3 := wp_le (tpush (tpush t sg) 32) (un b 3 X.1 (pB b wy X k))
        simp only [tp1] at wl3
        have f2 : F30 σ s2 := hF.trans (a3.trans b3)
        have f3 : F30 σ s3 := f2.trans c3
        have jo2 := p9_joinOf ok (hB.f30 f2) y3.1 pll (f := 3) (Or.inl rfl)
        have jo3 := p9_joinOf ok (hB.f30 f3) y3.1 pll (f := 3) (Or.inl rfl)
        rw [show ((3 : Nat) : Int) = 3 from rfl] at jo2 jo3
        have wd : ∀ {τ : st_S}, F30 σ τ → τ 601 (6 * X.1 + pB b wy X k) = (wB b wy X k : Int) ∧ τ 600 (wB b wy X k) = (wl b).2 (wB b wy X k) := fun f => ⟨by rw [f.1 601 (by decide) (by decide)]; exact h.2.2.2.1.2 X.1 y3.1 _ pll, by rw [f.1 600 (by decide) (by decide)]; exact h.2.2.2.1.1.2 _ wk⟩
        unfold jB
        by_cases e : un b 3 X.1 (pB b wy X k) = 0
        · rw [if_pos e]
          rw [e, wp_0] at c2
          obtain ⟨s5, d1, d2, d3⟩ := q9_saysWord c2 (by rw [tp1, tp1]; omega) nw.1
          refine ⟨s5, fun n => ?_, d2, f3.trans d3⟩
          unfold g_X9_prints_J168 g_X9_prints_J206
          rw [a1, Option.bind_some, b1, Option.bind_some, jo2, Option.bind_some]
          dsimp only
          rw [c1, Option.bind_some, jo3, Option.bind_some]
          dsimp only
          rw [if_pos (cmp_eq.mpr e), sa_ld_of (by omega) (by omega), Option.bind_some, Int.toNat_natCast, (wd f3).1, sa_ld_of (by omega) (by omega), Option.bind_some, Int.toNat_natCast, (wd f3).2, d1, Option.bind_some, w32s (by omega)]
        · rw [if_neg e]
          obtain ⟨s4, d1, d2, d3⟩ := q9_says c2 (by omega) 32
          have f4 : F30 σ s4 := f3.trans d3
          obtain ⟨s5, e1, e2, e3⟩ := q9_saysWord d2 (by rw [tp1]; omega) nw.1
          refine ⟨s5, fun n => ?_, e2, f4.trans e3⟩
          unfold g_X9_prints_J168 g_X9_prints_J206
          rw [a1, Option.bind_some, b1, Option.bind_some, jo2, Option.bind_some]
          dsimp only
          rw [c1, Option.bind_some, jo3, Option.bind_some]
          dsimp only
          rw [if_neg (fun q => e (cmp_eq.mp q)), d1, Option.bind_some, sa_ld_of (by omega) (by omega), Option.bind_some, Int.toNat_natCast, (wd f4).1, sa_ld_of (by omega) (by omega), Option.bind_some, Int.toNat_natCast, (wd f4).2, e1, Option.bind_some, w32s (by omega)]
      obtain ⟨s6, m1, m2, m3⟩ := main (if k = 0 then 58 else 46)
      have jl := jB_le t (if k = 0 then 58 else 46) (un b 3 X.1 (pB b wy X k)) ((wl b).2 (wB b wy X k))
      obtain ⟨τ', r1, r2, r3⟩ := ih (k + 1) _ s6 (by omega) m2 (by omega) m3
      refine ⟨τ', fun n hn' => ?_, r2, r3⟩
      obtain ⟨m, rfl⟩ : ∃ m, n = m + 1 := ⟨n - 1, by omega⟩
      rw [g_X9_prints_L123, r6, sa_ld_of (by omega) (by omega), Option.bind_some, Int.toNat_natCast, e9, if_neg (by omega), show ab_w32 (((12 * O + 6 : Nat) : Int) + ((k + 1 : Nat) : Int)) = ((12 * O + 6 + 1 + k : Nat) : Int) by rw [w32i (by omega) (by omega)]; omega, sa_ld_of (by omega) (by omega), Option.bind_some, Int.toNat_natCast, pk]
      by_cases z : k = 0
      · rw [if_pos (by omega)]
        rw [if_pos z] at m1
        rw [m1]; exact r1 m (by omega)
      · rw [if_neg (by omega)]
        rw [if_neg z] at m1
        rw [m1]; exact r1 m (by omega)
  -- above
  have rowA : ∀ (K : Int → Int → st_S → Option st_S) (c k : Nat) (t : TP) (τ : st_S), k + c = nA b wy X → Pr9 τ t → t.1 + 17 * c ≤ 400 → F30 σ τ → ∃ τ', (∀ n, c < n → g_X9_prints_L32 K n (l : Int) (O : Int) ((k + 1 : Nat) : Int) τ = K (l : Int) (O : Int) τ') ∧ Pr9 τ' (rAp b wy X c k t) ∧ F30 σ τ' := by
    intro K c
    induction c with
    | zero =>
      intro k t τ hk hP ht hF
      have e9 := (rdE hF).2.2.2.1.1
      rw [z1] at e9
      refine ⟨τ, fun n hn' => ?_, hP, hF⟩
      obtain ⟨m, rfl⟩ : ∃ m, n = m + 1 := ⟨n - 1, by omega⟩
      rw [g_X9_prints_L32, r12, sa_ld_of (by omega) (by omega), Option.bind_some, Int.toNat_natCast, e9, if_pos (by omega)]
    | succ c ih =>
      intro k t τ hk hP ht hF
      have e9 := (rdE hF).2.2.2.1.1
      rw [z1] at e9
      have pk : τ 607 (12 * O + 1 + k) = ((6 * X.1 + pA b wy X k : Nat) : Int) := (rdE hF).2.2.2.1.2 k (by rw [z1]; omega)
      have pll := (pA_lt ok wy y3 (show k < nA b wy X by omega)).1
      have wk := wa k (by omega)
      have nm := (un_nm ok y3.1 pll).2.2
      have nw := (wl_nm ok wk).1
      obtain ⟨s1, a1, a2, a3⟩ := q9_says hP (by omega) 44
      obtain ⟨s2, b1, b2, b3⟩ := q9_says a2 (by rw [tp1]; omega) 32
      obtain ⟨s3, c1, c2, c3⟩ := q9_saysWord b2 (by rw [tp1, tp1]; omega) nw.1
      have wl3 := wp_le (tpush (tpush t 44) 32) ((wl b).2 (wA b wy X k))
      simp only [tp1] at wl3
      have f2 : F30 σ s2 := hF.trans (a3.trans b3)
      have f3 : F30 σ s3 := f2.trans c3
      have jo3 := p9_joinOf ok (hB.f30 f3) y3.1 pll (f := 4) (Or.inr rfl)
      rw [show ((4 : Nat) : Int) = 4 from rfl] at jo3
      have wd1 : s2 601 (6 * X.1 + pA b wy X k) = (wA b wy X k : Int) := by rw [f2.1 601 (by decide) (by decide)]; exact h.2.2.2.1.2 X.1 y3.1 _ pll
      have wd2 : s2 600 (wA b wy X k) = (wl b).2 (wA b wy X k) := by rw [f2.1 600 (by decide) (by decide)]; exact h.2.2.2.1.1.2 _ wk
      have main : ∃ τ', (∀ n, (if ab_cmp (un b 4 X.1 (pA b wy X k)) (0 : Int) = (0 : Int) then g_X9_prints_J104 (g_X9_prints_L32 K n) K (l : Int) (O : Int) ((k + 1 : Nat) : Int) ((6 * X.1 + pA b wy X k : Nat) : Int) s3 else (g_X9_says (32 : Int) s3).bind fun q9 => g_X9_prints_J104 (g_X9_prints_L32 K n) K (l : Int) (O : Int) ((k + 1 : Nat) : Int) ((6 * X.1 + pA b wy X k : Nat) : Int) q9) = g_X9_prints_L32 K n (l : Int) (O : Int) ((k + 1 + 1 : Nat) : Int) τ') ∧ Pr9 τ' (jA t ((wl b).2 (wA b wy X k)) (un b 4 X.1 (pA b wy X k))) ∧ F30 σ τ' := by
        unfold jA g_X9_prints_J104
        by_cases e : un b 4 X.1 (pA b wy X k) = 0
        · rw [if_pos e]
          obtain ⟨s5, d1, d2, d3⟩ := q9_saysWord c2 (by omega) nm
          rw [e, wp_0] at d2
          refine ⟨s5, fun n => ?_, d2, f3.trans d3⟩
          rw [if_pos (cmp_eq.mpr e), jo3, Option.bind_some]
          dsimp only
          rw [d1, Option.bind_some, w32s (by omega)]
        · rw [if_neg e]
          obtain ⟨s4, d1, d2, d3⟩ := q9_says c2 (by omega) 32
          have f4 : F30 σ s4 := f3.trans d3
          have jo4 := p9_joinOf ok (hB.f30 f4) y3.1 pll (f := 4) (Or.inr rfl)
          rw [show ((4 : Nat) : Int) = 4 from rfl] at jo4
          obtain ⟨s5, e1, e2, e3⟩ := q9_saysWord d2 (by rw [tp1]; omega) nm
          refine ⟨s5, fun n => ?_, e2, f4.trans e3⟩
          rw [if_neg (fun q => e (cmp_eq.mp q)), d1, Option.bind_some, jo4, Option.bind_some]
          dsimp only
          rw [e1, Option.bind_some, w32s (by omega)]
      obtain ⟨s6, m1, m2, m3⟩ := main
      have jl := jA_le t ((wl b).2 (wA b wy X k)) (un b 4 X.1 (pA b wy X k))
      obtain ⟨τ', r1, r2, r3⟩ := ih (k + 1) _ s6 (by omega) m2 (by omega) m3
      refine ⟨τ', fun n hn' => ?_, r2, r3⟩
      obtain ⟨m, rfl⟩ : ∃ m, n = m + 1 := ⟨n - 1, by omega⟩
      rw [g_X9_prints_L32, r12, sa_ld_of (by omega) (by omega), Option.bind_some, Int.toNat_natCast, e9, if_neg (by omega), show ab_w32 (((12 * O : Nat) : Int) + ((k + 1 : Nat) : Int)) = ((12 * O + 1 + k : Nat) : Int) by rw [w32i (by omega) (by omega)]; omega, sa_ld_of (by omega) (by omega), Option.bind_some, Int.toNat_natCast, pk, a1, Option.bind_some, b1, Option.bind_some, sa_ld_of (by omega) (by omega), Option.bind_some, Int.toNat_natCast, wd1, sa_ld_of (by omega) (by omega), Option.bind_some, Int.toNat_natCast, wd2, c1, Option.bind_some, jo3, Option.bind_some]
      dsimp only
      rw [m1]; exact r1 m (by omega)
  have P0 : Pr9 (up2 σ 596 30 0) (0, fun _ => 0) := ⟨up2_at _ _ _ _, fun i hi => absurd hi (Nat.not_lt_zero _)⟩
  have F0 : F30 σ (up2 σ 596 30 0) := ⟨fun c h1 _ => up2_o _ _ h1, fun f hf => up2_ne _ _ (by omega)⟩
  have h0 := h.fr ok F0
  obtain ⟨u1, u2, u3, u4, u5, u6⟩ := h0.2.2.2.2 (lF b wy l) (by omega)
  rw [hX] at u3 u4
  rw [hO] at u4 u2
  obtain ⟨s1, a1, a2, a3⟩ := q9_saysWord P0 (by show 0 + 7 ≤ 400; omega) (wl_nm ok lead).1.1
  have w1 := wp_le (0, fun _ => 0) ((wl b).2 (lw b X))
  have w1' : (((0, fun _ => 0) : TP)).1 = 0 := rfl
  have f1 := F0.trans a3
  obtain ⟨s2, b1, b2, b3⟩ := rowA (fun w121_1 w121_2 σx121 => g_X9_prints_L123 (fun w228_1 σx228 => (g_X9_addressAbove w228_1 (-1 : Int) σx228).bind fun q6 => g_X9_prints_L239 ab_FU w228_1 (32 : Int) q6.1 q6.2) ab_FU w121_1 w121_2 (1 : Int) σx121) (nA b wy X) 0 _ s1 (by omega) a2 (by omega) f1
  have w2 := rAp_le (b := b) (wy := wy) (x := X) (nA b wy X) 0 (wp (0, fun _ => 0) ((wl b).2 (lw b X)))
  obtain ⟨s3, c1, c2, c3⟩ := rowB (fun w228_1 σx228 => (g_X9_addressAbove w228_1 (-1 : Int) σx228).bind fun q6 => g_X9_prints_L239 ab_FU w228_1 (32 : Int) q6.1 q6.2) (nB b wy X) 0 _ s2 (by omega) b2 (by omega) b3
  have w3 := rBp_le (b := b) (wy := wy) (x := X) (nB b wy X) 0 (rAp b wy X (nA b wy X) 0 (wp (0, fun _ => 0) ((wl b).2 (lw b X))))
  obtain ⟨s4, d1, d2, d3⟩ := adr (lF b wy (l + 1) - lF b wy l) (lF b wy l) (-1) _ s3 (by omega) (Nat.le_refl _) (fun j j1 j2 => by have := (inn j (by omega)).mp j2; omega) c2 (by omega) c3
  have w4 := dPp_le (b := b) (wy := wy) (lF b wy (l + 1) - lF b wy l) (lF b wy l) (-1) (rBp b wy X (nB b wy X) 0 (rAp b wy X (nA b wy X) 0 (wp (0, fun _ => 0) ((wl b).2 (lw b X)))))
  refine ⟨s4, ?_, d2, ?_, d3⟩
  · have wd0 : up2 σ 596 30 0 600 (lw b X) = (wl b).2 (lw b X) := h0.2.2.2.1.1.2 _ lead
    unfold g_X9_prints
    rw [p9_firstOf hn h hl, Option.bind_some]
    dsimp only
    rw [sa_ld_of (by omega) (by omega), Option.bind_some, Int.toNat_natCast, y1, Option.bind_some, p9_leadWord ok u3 u2 h0.2.2.2.1 u4, Option.bind_some]
    dsimp only
    rw [sa_ld_of (by omega) (by omega), Option.bind_some, Int.toNat_natCast, wd0, a1, Option.bind_some]
    refine (b1 ab_FU (by show _ < 100000; omega)).trans ((c1 ab_FU (by show _ < 100000; omega)).trans ?_)
    rw [p9_addressAbove ok hn (h.fr ok c3) (hB.f30 c3), Option.bind_some]
    exact d1 ab_FU (by show _ < 100000; omega)
  · show (dPp b wy (lF b wy (l + 1) - lF b wy l) (lF b wy l) (-1) (rBp b wy X (nB b wy X) 0 (rAp b wy X (nA b wy X) 0 (wp (0, fun _ => 0) ((wl b).2 (lw b X)))))).1 ≤ 140
    omega
