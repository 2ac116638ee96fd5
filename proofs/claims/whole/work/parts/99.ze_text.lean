/-! text -/
def bE : BV := (0, fun _ => 0, fun _ => 0, fun _ _ _ => 0, fun _ => 0, 0, fun _ => 0, fun _ => 0)
theorem bE_ok : OkB bE := ⟨by decide, fun s hs => absurd hs (Nat.not_lt_zero _), fun s t hs => absurd hs (Nat.not_lt_zero _), fun s hs => absurd hs (Nat.not_lt_zero _), fun s hs => absurd hs (Nat.not_lt_zero _), fun r hr => ⟨Int.le_refl _, show (0 : Int) ≤ 2 by decide⟩, by decide, fun k hk => absurd hk (Nat.not_lt_zero _), fun j k hj => absurd hj (Nat.not_lt_zero _), fun x => ⟨0, rfl⟩⟩
/-- the tape is read: no tape, another fault -/
def rdS (S : SV) (f : Int × Int) : SV := ((0, (sT S).2), sO S, f, sB S, sH S)
theorem OkS.rd {S : SV} (ok : OkS S) (f : Int × Int) : OkS (rdS S f) := ⟨Nat.zero_le _, fun i hi => absurd hi (Nat.not_lt_zero _), ok.2.2⟩
theorem rep8_rd {D : st_S → BV → Prop} (hD : DrIn D) {σ σ' : st_S} {S : SV} (h : Rep8 D σ S) (e : ∀ a, a ≠ 2 → a ≠ 8 → (a < 10 ∨ 12 < a) → (a < 24 ∨ 34 < a) → σ' a = σ a) (h2 : σ' 2 1 = 0) {f : Int × Int} (h9 : σ' 8 9 = f.1) (h10 : σ' 8 10 = f.2) : Rep8 D σ' (rdS S f) := by
  obtain ⟨q1, q2, q3, q4, ⟨q5, q6, q7⟩, q8, q9⟩ := h
  have e' : ∀ a, (a = 4 ∨ a = 5 ∨ a = 9 ∨ 13 ≤ a ∧ a ≤ 23 ∨ 34 < a) → σ' a = σ a := fun a ha => e a (by omega) (by omega) (by omega) (by omega)
  refine ⟨⟨h2, fun i hi => absurd hi (Nat.not_lt_zero _)⟩, by rw [e' 4 (by omega), e' 5 (by omega)]; exact q2, ⟨h9, h10⟩, q4.fr (fun k hk => e' _ (by omega)), ⟨by rw [e' 35 (by omega)]; exact q5, by rw [e' 35 (by omega)]; exact q6, fun j hj => ?_⟩, by rw [e' 9 (by omega)]; exact q8, hD σ σ' _ (fun a h1 _ => e' a (by omega)) q9⟩
  rw [e' 35 (by omega)]
  exact (q7 j hj).fr (fun k hk => e' _ (by omega))
theorem rep9_rd {σ σ' : st_S} {S : SV} (h : Rep9 σ S) (e : ∀ a, a ≠ 596 → a ≠ 598 → σ' a = σ a) (e2 : ∀ f, 12 < f → σ' 596 f = σ 596 f) (h4 : σ' 596 4 = 0) {f : Int × Int} (h10 : σ' 596 10 = f.1) (h11 : σ' 596 11 = f.2) : Rep9 σ' (rdS S f) := by
  obtain ⟨q1, q2, q3, q4, q5, q6⟩ := h
  exact ⟨⟨h4, fun i hi => absurd hi (Nat.not_lt_zero _)⟩, by rw [e2 28 (by decide), e 609 (by decide) (by decide)]; exact q2, ⟨h10, h11⟩, q4.fr (e 597 (by decide) (by decide)), by rw [e2 34 (by decide)]; exact q5, fun j hj => (q6 j hj).fr (e 614 (by decide) (by decide))⟩
theorem RB9.cp {σ σ' : st_S} {c c' : Nat} {b : BV} (h : RB9 σ c 0 b) (ok : OkB b) (e : ∀ z, z < 416 → σ' c' z = σ c z) : RB9 σ' c' 0 b := by
  obtain ⟨q0, q1, q2, q3, q4, q5⟩ := h
  have o1 := ok.1
  have o7 := ok.2.2.2.2.2.2.1
  refine ⟨by rw [e _ (by omega)]; exact q0, fun s hs => ?_, fun s hs i hi f hf => ?_, fun r hr => ?_, by rw [e _ (by omega)]; exact q4, fun k hk => ?_⟩
  · rw [e _ (by omega), e _ (by omega)]; exact q1 s hs
  · have := ok.2.1 s hs
    rw [e _ (by omega)]; exact q2 s hs i hi f hf
  · rw [e _ (by omega)]; exact q3 r hr
  · rw [e _ (by omega), e _ (by omega)]; exact q5 k hk
theorem p0_clear_L : ∀ (c i : Nat) (σ : st_S), i + c = 6 → ∃ σ', (∀ n, c < n → g_X0_clear_L12 n 24 (i : Int) σ = some σ') ∧ (∀ x, σ' 32 x = if i ≤ x ∧ x < 6 then 0 else σ 32 x) ∧ ∀ a, a ≠ 32 → σ' a = σ a := by
  intro c
  induction c with
  | zero =>
    intro i σ hi
    refine ⟨σ, fun n hn => ?_, fun x => by rw [if_neg (by omega)], fun _ _ => rfl⟩
    obtain ⟨m, rfl⟩ : ∃ m, n = m + 1 := ⟨n - 1, by omega⟩
    rw [g_X0_clear_L12, if_pos (by omega)]
  | succ c ih =>
    intro i σ hi
    obtain ⟨σ', a1, a2, a3⟩ := ih (i + 1) (up2 σ 32 i 0) (by omega)
    refine ⟨σ', fun n hn => ?_, fun x => ?_, fun a ha => by rw [a3 a ha, up2_o _ _ ha]⟩
    · obtain ⟨m, rfl⟩ : ∃ m, n = m + 1 := ⟨n - 1, by omega⟩
      rw [g_X0_clear_L12, if_neg (by omega), sa_st_of (by omega) (by omega), Option.bind_some, Int.toNat_natCast, w32s (by omega), a1 m (by omega)]
    · rw [a2]
      by_cases z : x = i
      · subst z; rw [if_neg (by omega), up2_at, if_pos (by omega)]
      · rw [up2_ne _ _ (fun q => z q.2)]
        by_cases y : i ≤ x ∧ x < 6
        · rw [if_pos (by omega), if_pos y]
        · rw [if_neg (by omega), if_neg y]
theorem p0_clear {σ : st_S} : ∃ σ', g_X0_clear 24 σ = some σ' ∧ RB8 σ' 24 bE ∧ ∀ a, a ≠ 24 → a ≠ 32 → σ' a = σ a := by
  obtain ⟨σ', a1, a2, a3⟩ := p0_clear_L 6 0 (up2 (up2 σ 24 0 0) 24 9 0) (by omega)
  refine ⟨σ', ?_, ⟨?_, fun s hs => absurd hs (Nat.not_lt_zero _), fun s hs => absurd hs (Nat.not_lt_zero _), fun r hr => ?_, ?_, fun k hk => absurd hk (Nat.not_lt_zero _)⟩, fun a h1 h2 => by rw [a3 a h2, up2_o _ _ h1, up2_o _ _ h1]⟩
  · unfold g_X0_clear
    rw [Option.bind_some, Option.bind_some]
    exact a1 ab_FU (by show _ < 100000; omega)
  · rw [a3 24 (by decide), up2_ne _ _ (by decide), up2_at]; rfl
  · rw [a2, if_pos (by omega)]; rfl
  · rw [a3 24 (by decide), up2_at]; rfl
theorem p9_tL11 : ∀ (c i : Nat) (σ : st_S), i + c = 416 → ∃ σ', (∀ k n, c < n → g_X9_text_L11 k n (i : Int) σ = k σ') ∧ (∀ x, i ≤ x → x < 416 → σ' 598 x = 0) ∧ (∀ x, x < i → σ' 598 x = σ 598 x) ∧ ∀ a, a ≠ 598 → σ' a = σ a := by
  intro c
  induction c with
  | zero =>
    intro i σ hi
    refine ⟨σ, fun k n hn => ?_, fun x h1 h2 => by omega, fun x _ => rfl, fun _ _ => rfl⟩
    obtain ⟨m, rfl⟩ : ∃ m, n = m + 1 := ⟨n - 1, by omega⟩
    rw [g_X9_text_L11, if_pos (by omega)]
  | succ c ih =>
    intro i σ hi
    obtain ⟨σ', a1, a2, a3, a4⟩ := ih (i + 1) (up2 σ 598 i 0) (by omega)
    refine ⟨σ', fun k n hn => ?_, fun x h1 h2 => ?_, fun x hx => ?_, fun a ha => by rw [a4 a ha, up2_o _ _ ha]⟩
    · obtain ⟨m, rfl⟩ : ∃ m, n = m + 1 := ⟨n - 1, by omega⟩
      rw [g_X9_text_L11, if_neg (by omega), sa_st_of (by omega) (by omega), Option.bind_some, Int.toNat_natCast, w32s (by omega), a1 k m (by omega)]
    · by_cases z : x = i
      · subst z; rw [a3 x (by omega), up2_at]
      · exact a2 x (by omega) h2
    · rw [a3 x (by omega), up2_ne _ _ (by omega)]
theorem p9_tL69 (v : Int) : ∀ (c i : Nat) (σ : st_S), i + c = 416 → ∃ σ', (∀ k n, c < n → g_X9_text_L69 k n v (i : Int) σ = k v σ') ∧ (∀ x, i ≤ x → x < 416 → σ' 597 x = σ 598 x) ∧ (∀ x, x < i → σ' 597 x = σ 597 x) ∧ ∀ a, a ≠ 597 → σ' a = σ a := by
  intro c
  induction c with
  | zero =>
    intro i σ hi
    refine ⟨σ, fun k n hn => ?_, fun x h1 h2 => by omega, fun x _ => rfl, fun _ _ => rfl⟩
    obtain ⟨m, rfl⟩ : ∃ m, n = m + 1 := ⟨n - 1, by omega⟩
    rw [g_X9_text_L69, if_pos (by omega)]
  | succ c ih =>
    intro i σ hi
    obtain ⟨σ', a1, a2, a3, a4⟩ := ih (i + 1) (up2 σ 597 i (σ 598 i)) (by omega)
    refine ⟨σ', fun k n hn => ?_, fun x h1 h2 => ?_, fun x hx => ?_, fun a ha => by rw [a4 a ha, up2_o _ _ ha]⟩
    · obtain ⟨m, rfl⟩ : ∃ m, n = m + 1 := ⟨n - 1, by omega⟩
      rw [g_X9_text_L69, if_neg (by omega), sa_ld_of (by omega) (by omega), Option.bind_some, sa_st_of (by omega) (by omega), Option.bind_some, Int.toNat_natCast, w32s (by omega), a1 k m (by omega)]
    · by_cases z : x = i
      · subst z; rw [a3 x (by omega), up2_at]
      · rw [a2 x (by omega) h2, up2_o _ _ (by decide)]
    · rw [a3 x (by omega), up2_ne _ _ (by omega)]
theorem p9_begins {τ : st_S} {S : SV} (h9 : Rep9 τ S) (ok : OkS S) : ∃ σ', g_X9_beginsTape τ = some σ' ∧ A9 σ' (sT S).2 (sT S).1 0 ∧ σ' 596 10 = 0 ∧ σ' 596 4 = 0 ∧ (∀ a, a ≠ 596 → σ' a = τ a) ∧ ∀ f, 11 < f → σ' 596 f = τ 596 f := by
  have ox : okX (sT S).2 (sT S).1 := ⟨ok.1, ok.2.1⟩
  have h1 := h9.1
  generalize (sT S).2 = T at *
  generalize (sT S).1 = L at *
  have go : g_X9_beginsTape τ = g_X9_advance (up2 (up2 (up2 (up2 (up2 τ 596 5 (L : Int)) 596 4 0) 596 6 0) 596 10 0) 596 11 (-1)) := by
    unfold g_X9_beginsTape
    rw [h1.1, Option.bind_some, Option.bind_some, Option.bind_some, Option.bind_some, Option.bind_some]
    cases g_X9_advance (up2 (up2 (up2 (up2 (up2 τ 596 5 (L : Int)) 596 4 0) 596 6 0) 596 10 0) 596 11 (-1)) <;> rfl
  have w5 : up2 (up2 (up2 (up2 (up2 τ 596 5 (L : Int)) 596 4 0) 596 6 0) 596 10 0) 596 11 (-1) 596 5 = (L : Int) := by
    rw [up2_ne _ _ (by decide), up2_ne _ _ (by decide), up2_ne _ _ (by decide), up2_ne _ _ (by decide), up2_at]
  have w4 : up2 (up2 (up2 (up2 (up2 τ 596 5 (L : Int)) 596 4 0) 596 6 0) 596 10 0) 596 11 (-1) 596 4 = 0 := by
    rw [up2_ne _ _ (by decide), up2_ne _ _ (by decide), up2_ne _ _ (by decide), up2_at]
  have w6 : up2 (up2 (up2 (up2 (up2 τ 596 5 (L : Int)) 596 4 0) 596 6 0) 596 10 0) 596 11 (-1) 596 6 = ((0 : Nat) : Int) := by
    rw [up2_ne _ _ (by decide), up2_ne _ _ (by decide), up2_at]; rfl
  have w10 : up2 (up2 (up2 (up2 (up2 τ 596 5 (L : Int)) 596 4 0) 596 6 0) 596 10 0) 596 11 (-1) 596 10 = 0 := by
    rw [up2_ne _ _ (by decide), up2_at]
  have w11 : up2 (up2 (up2 (up2 (up2 τ 596 5 (L : Int)) 596 4 0) 596 6 0) 596 10 0) 596 11 (-1) 596 11 = -1 := up2_at _ _ _ _
  have wo : ∀ a, a ≠ 596 → up2 (up2 (up2 (up2 (up2 τ 596 5 (L : Int)) 596 4 0) 596 6 0) 596 10 0) 596 11 (-1) a = τ a := fun a ha => by rw [up2_o _ _ ha, up2_o _ _ ha, up2_o _ _ ha, up2_o _ _ ha, up2_o _ _ ha]
  have wf : ∀ f, 11 < f → up2 (up2 (up2 (up2 (up2 τ 596 5 (L : Int)) 596 4 0) 596 6 0) 596 10 0) 596 11 (-1) 596 f = τ 596 f := fun f hf => by rw [up2_ne _ _ (by omega), up2_ne _ _ (by omega), up2_ne _ _ (by omega), up2_ne _ _ (by omega), up2_ne _ _ (by omega)]
  rw [go]
  generalize up2 (up2 (up2 (up2 (up2 τ 596 5 (L : Int)) 596 4 0) 596 6 0) 596 10 0) 596 11 (-1) = s5 at *
  have tx : Tx9 s5 T L := ⟨⟨w5, w11⟩, fun i hi => by rw [wo 599 (by decide)]; exact h1.2 i hi⟩
  obtain ⟨σ', a1, a2, a3⟩ := p9_advance ox tx (Nat.zero_le _) w6
  exact ⟨σ', a1, ⟨tx.fr a3, a2⟩, by rw [a3.2 10 (by omega)]; exact w10, by rw [a3.2 4 (by omega)]; exact w4, fun a ha => by rw [a3.1 a ha]; exact wo a ha, fun f hf => by rw [a3.2 f (by omega)]; exact wf f hf⟩
/-- how many parts a text has -/
theorem N_one {T : Nat → Int} {L N M : Nat} (h1 : ∀ j, j < N → sJ T L j < L) (h2 : sJ T L N = L) (h3 : ∀ j, j < M → sJ T L j < L) (h4 : sJ T L M = L) : M = N := by
  rcases Nat.lt_trichotomy M N with h | h | h
  · have := h1 M h; omega
  · exact h
  · have := h3 N h; omega
/-- the class begins -/
theorem p4_begins {S : SV} (ok : OkS S) {σ : st_S} (r8 : Rep8 DR σ S) : ∃ N, N ≤ 1200 ∧ sJ (sT S).2 (sT S).1 N = (sT S).1 ∧ (∀ j, j < N → sJ (sT S).2 (sT S).1 j < (sT S).1) ∧
    ∀ τ, (τ 2 1 = ((sT S).1 : Int) ∧ ∀ i, i < (sT S).1 → τ 3 i = (sT S).2 i) → (∀ k, k < 15 → τ 9 k = in_keys.getD k 0) → ∃ σ', g_X4_begin 2 τ = some σ' ∧ Cu8 σ' (sT S).2 (sT S).1 N 0 ∧ σ' 8 6 = 0 ∧ σ' 8 9 = 0 ∧ σ' 8 10 = -1 ∧ ∀ c, c ≠ 8 → c ≠ 10 → c ≠ 11 → c ≠ 12 → σ' c = τ c := by
  have ox : okX (sT S).2 (sT S).1 := ⟨ok.1, ok.2.1⟩
  have o1 := ok.1
  obtain ⟨s0, N, _, a2, _, _, a5, a6, _⟩ := p4_begin ox r8.1 r8.2.2.2.2.2.1
  refine ⟨N, by omega, a6, a5, fun τ h hk => ?_⟩
  obtain ⟨s1, M, b1, b2, b3, b4, b5, b6, b7, b8, b9, b10, b11⟩ := p4_begin ox h hk
  have e := N_one a5 a6 b5 b6
  subst e
  exact ⟨s1, b1, ⟨b3, b7, Nat.zero_le _, by omega, b4⟩, b8, b9, b10, b11⟩
