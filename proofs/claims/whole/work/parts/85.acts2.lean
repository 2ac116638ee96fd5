/-! moves -/
def bMove (b : BV) (s : Nat) (v : Int) : BV := (bn b, (fun j => if j = s then v else badr b j), bsz b, btm b, bwy b, bm b, bsf b, bst b)
theorem bMove_ok {b : BV} (ok : OkB b) {s : Nat} {v : Int} (hv : 0 ≤ v ∧ v ≤ 999) (hn : ∀ j, j < bn b → badr b j ≠ v) : OkB (bMove b s v) := by
  obtain ⟨o1, o2, o3, o4, o5, o6, o7, o8, o9, o10⟩ := ok
  refine ⟨o1, fun j hj => ?_, fun j k hj hk e => ?_, o4, o5, o6, o7, o8, o9, OkB.term (b := b) ⟨o1, o2, o3, o4, o5, o6, o7, o8, o9, o10⟩ rfl (fun _ _ => rfl) (fun _ _ => rfl)⟩
  · have q := o2 j hj
    refine ⟨?_, ?_, q.2.2⟩
    · show 0 ≤ if j = s then v else badr b j
      split; exact hv.1; exact q.1
    · show (if j = s then v else badr b j) ≤ 999
      split; exact hv.2; exact q.2.1
  · have e : (if j = s then v else badr b j) = if k = s then v else badr b k := e
    by_cases ej : j = s
    · by_cases ek : k = s
      · omega
      · rw [if_pos ej, if_neg ek] at e; exact absurd e.symm (hn k hk)
    · by_cases ek : k = s
      · rw [if_neg ej, if_pos ek] at e; exact absurd e (hn j hj)
      · rw [if_neg ej, if_neg ek] at e; exact o3 j k hj hk e
theorem w3232 {s : Nat} (hs : s < 12) : ab_w32 ((32 : Int) + (ab_w32 ((32 : Int) * (s : Int)))) = ((0 + 32 + 32 * s : Nat) : Int) := by unfold ab_w32; omega
theorem p9_moves_L {σ : st_S} {b : BV} (h : RB9 σ 597 0 b) (ok : OkB b) (k67 : Int → Int → Int → st_S → Option (Int × st_S)) (v1 x v3 : Int) : ∀ (c n i : Nat), i + c = bn b → c < n → g_X9_moves_L39 k67 n v1 x v3 (i : Int) σ = if fnd (fun s => decide (badr b s = x)) c i = -1 then k67 v1 x v3 σ else some (-6, σ) := by
  have o1 := ok.1
  intro c
  induction c with
  | zero =>
    intro n i hi hn
    obtain ⟨m, rfl⟩ : ∃ m, n = m + 1 := ⟨n - 1, by omega⟩
    rw [g_X9_moves_L39, p9_strings h ok, Option.bind_some]
    dsimp only
    rw [if_pos (by omega), fnd, if_pos rfl]
  | succ c ih =>
    intro n i hi hn
    obtain ⟨m, rfl⟩ : ∃ m, n = m + 1 := ⟨n - 1, by omega⟩
    rw [g_X9_moves_L39, p9_strings h ok, Option.bind_some]
    dsimp only
    rw [if_neg (by omega), p9_addressOf h ok (by omega), Option.bind_some, fnd]
    dsimp only
    by_cases e : badr b i = x
    · rw [if_pos e, if_pos (decide_eq_true e), if_neg (by omega)]
    · rw [if_neg e, if_neg (show ¬ decide (badr b i = x) = true by simpa using e), w32s (by omega)]
      exact ih m (i + 1) (by omega) (by omega)
theorem S_moves : Stp2 (InvD DR) g_X8_moves g_X9_moves := by
  intro x y σ _ _ ⟨S, r8, r9, ok⟩
  have okB := ok.2.2.2.2.1
  have o1 := okB.1
  by_cases hx : 0 ≤ x ∧ x < (bn (sB S) : Int)
  · obtain ⟨s, rfl⟩ := Int.eq_ofNat_of_zero_le hx.1
    have hs : s < bn (sB S) := by omega
    have o2 := okB.2.1 s hs
    by_cases hy : 0 ≤ y ∧ y ≤ 999
    · have run8 : ∀ τ : st_S, Rep8 DR τ S → g_X8_moves (s : Int) y τ = if badr (sB S) s = y then some (badr (sB S) s, τ) else if fnd (fun j => decide (badr (sB S) j = y)) (bn (sB S)) 0 = -1 then ((g_X3_keep 13 τ).bind fun q5 => (sa_st q5 14 12 (s : Int) y).bind fun σ1 => (g_X8_renew σ1).bind fun q6 => some (badr (sB S) s, q6)) else some (-6, τ) := by
        intro τ h8
        have e : τ 14 s = badr (sB S) s := (h8.2.2.2.1.2.1 s hs).1
        unfold g_X8_moves
        rw [p8_isString h8.2.2.2.1, if_pos hx, Option.bind_some]
        dsimp only
        rw [if_neg one0, p8_isAddress, if_pos hy, Option.bind_some]
        dsimp only
        rw [if_neg one0, sa_ld_of (by omega) (by omega), Option.bind_some, Int.toNat_natCast, e]
        by_cases he : badr (sB S) s = y
        · rw [if_pos he, if_pos he]
        · rw [if_neg he, if_neg he, p0_stringAt h8.2.2.2.1 okB, Option.bind_some]
      have run9 : ∀ τ : st_S, Rep9 τ S → g_X9_moves (s : Int) y τ = if badr (sB S) s = y then some (badr (sB S) s, τ) else if fnd (fun j => decide (badr (sB S) j = y)) (bn (sB S)) 0 = -1 then ((g_X9_keeps τ).bind fun q4 => (sa_st q4 597 416 (ab_w32 ((32 : Int) + (ab_w32 ((32 : Int) * (s : Int))))) y).bind fun σ1 => some (badr (sB S) s, σ1)) else some (-6, τ) := by
        intro τ h9
        unfold g_X9_moves
        rw [p9_isString h9.2.2.2.1 okB, if_pos hx, Option.bind_some]
        dsimp only
        rw [if_neg one0, p9_in1 hy.1 hy.2, Option.bind_some]
        dsimp only
        rw [if_neg one0, p9_addressOf h9.2.2.2.1 okB hs, Option.bind_some]
        dsimp only
        by_cases he : badr (sB S) s = y
        · rw [if_pos he, if_pos he]
        · rw [if_neg he, if_neg he]
          exact p9_moves_L h9.2.2.2.1 okB _ _ _ _ (bn (sB S)) ab_FU 0 (by omega) (by show _ < 100000; omega)
      by_cases he : badr (sB S) s = y
      · refine stp_of dr_in (S' := S) (r := badr (sB S) s) ?_ ?_ ok r8 r9
        · intro τ h8; exact ⟨τ, by rw [run8 τ h8, if_pos he], h8, fun _ _ => rfl⟩
        · intro τ h9; exact ⟨τ, by rw [run9 τ h9, if_pos he], h9, fun _ _ => rfl⟩
      · by_cases hf : fnd (fun j => decide (badr (sB S) j = y)) (bn (sB S)) 0 = -1
        · have hn : ∀ j, j < bn (sB S) → badr (sB S) j ≠ y := fun j hj => by
            have := fnd_no _ _ hf j (by omega) (by omega)
            rw [decide_eq_false_iff_not] at this; exact this
          have hb := bMove_ok (s := s) (v := y) okB hy hn
          refine stp_of dr_in (S' := actS S (bMove (sB S) s y)) (r := badr (sB S) s) ?_ ?_ (ok.act hb) r8 r9
          · intro τ h8
            obtain ⟨σ1, σ2, σ3, a1, a2, a3, a4, a5⟩ := act8 h8 ok hb (mod := fun q => sa_st q 14 12 (s : Int) y) (fun q hq _ => by
              obtain ⟨q0, q1, q2, q3, q4, q5⟩ := hq
              refine ⟨up2 q 14 s y, by show sa_st q 14 12 (s : Int) y = _; rw [sa_st_of (by omega) (by omega), Int.toNat_natCast], ⟨by rw [up2_o _ _ (by decide)]; exact q0, fun s' hs' => ⟨?_, by rw [up2_o _ _ (by decide)]; exact (q1 s' hs').2⟩, fun s' hs' i' hi' f hf => by rw [up2_o _ _ (by omega)]; exact q2 s' hs' i' hi' f hf, fun k hk => by rw [up2_o _ _ (by decide)]; exact q3 k hk, by rw [up2_o _ _ (by decide)]; exact q4, fun k hk => by rw [up2_o _ _ (by decide), up2_o _ _ (by decide)]; exact q5 k hk⟩, fun a ha => up2_o _ _ (by omega)⟩
              show up2 q 14 s y 14 s' = if s' = s then y else badr (sB S) s'
              by_cases ek : s' = s
              · subst ek; rw [up2_at, if_pos rfl]
              · rw [up2_ne _ _ (by omega), if_neg ek]; exact (q1 s' hs').1)
            refine ⟨σ3, ?_, a4, a5⟩
            rw [run8 τ h8, if_neg he, if_pos hf, a1, Option.bind_some, a2, Option.bind_some, a3]; rfl
          · intro τ h9
            obtain ⟨σ1, a1, ⟨q0, q1, q2, q3, q4, q5⟩, a3, a4, fin⟩ := act9 h9 ok
            have hb9 : RB9 (up2 σ1 597 (0 + 32 + 32 * s) y) 597 0 (bMove (sB S) s y) := by
             refine ⟨?_, fun s' hs' => ⟨?_, ?_⟩, fun s' hs' i' hi' f hf => ?_, fun k hk => ?_, ?_, fun k hk => ?_⟩
             · rw [up2_ne _ _ (by omega)]; exact q0
             · show _ = if s' = s then y else badr (sB S) s'
               by_cases ek : s' = s
               · subst ek; rw [up2_at, if_pos rfl]
               · rw [up2_ne _ _ (by omega), if_neg ek]; exact (q1 s' hs').1
             · rw [up2_ne _ _ (by omega)]; exact (q1 s' hs').2
             · have o2' : bsz (sB S) s' ≤ 6 := (okB.2.1 s' hs').2.2.2
               have hi' : i' < bsz (sB S) s' := hi'
               rw [up2_ne _ _ (fun q => by rcases Nat.lt_or_ge s' s with z | z <;> omega)]; exact q2 s' hs' i' hi' f hf
             · rw [up2_ne _ _ (by omega)]; exact q3 k hk
             · rw [up2_ne _ _ (by omega)]; exact q4
             · have : bm (sB S) ≤ 12 := okB.2.2.2.2.2.2.1
               have hk : k < bm (sB S) := hk
               rw [up2_ne _ _ (by omega), up2_ne _ _ (by omega)]; exact q5 k hk
            obtain ⟨z1, z2⟩ := fin _ _ (fun a ha => up2_o _ _ ha) hb9
            refine ⟨up2 σ1 597 (0 + 32 + 32 * s) y, ?_, z1, z2⟩
            rw [run9 τ h9, if_neg he, if_pos hf, a1, Option.bind_some, w3232 (by omega), sa_st_of (by omega) (by omega), Option.bind_some, Int.toNat_natCast]
        · refine stp_of dr_in (S' := S) (r := -6) ?_ ?_ ok r8 r9
          · intro τ h8; exact ⟨τ, by rw [run8 τ h8, if_neg he, if_neg hf], h8, fun _ _ => rfl⟩
          · intro τ h9; exact ⟨τ, by rw [run9 τ h9, if_neg he, if_neg hf], h9, fun _ _ => rfl⟩
    · refine stp_of dr_in (S' := S) (r := -2) ?_ ?_ ok r8 r9
      · intro τ h8
        refine ⟨τ, ?_, h8, fun _ _ => rfl⟩
        unfold g_X8_moves
        rw [p8_isString h8.2.2.2.1, if_pos hx, Option.bind_some]
        dsimp only
        rw [if_neg one0, p8_isAddress, if_neg hy, Option.bind_some]; rfl
      · intro τ h9
        refine ⟨τ, ?_, h9, fun _ _ => rfl⟩
        unfold g_X9_moves
        rw [p9_isString h9.2.2.2.1 okB, if_pos hx, Option.bind_some]
        dsimp only
        rw [if_neg one0, p9_in0 hy, Option.bind_some]; rfl
  · refine stp_of dr_in (S' := S) (r := -2) ?_ ?_ ok r8 r9
    · intro τ h8
      refine ⟨τ, ?_, h8, fun _ _ => rfl⟩
      unfold g_X8_moves
      rw [p8_isString h8.2.2.2.1, if_neg hx, Option.bind_some]; rfl
    · intro τ h9
      refine ⟨τ, ?_, h9, fun _ _ => rfl⟩
      unfold g_X9_moves
      rw [p9_isString h9.2.2.2.1 okB, if_neg hx, Option.bind_some]; rfl
/-! undo -/
theorem p9_undo_L {n0 : Nat} (h10 : n0 < 10) : ∀ (c v : Nat) (σ : st_S), v + c = 416 → σ 596 34 = (n0 : Int) → ∃ σ', (∀ (n : Nat), c < n → g_X9_undo_L21 n (v : Int) σ = some ((n0 : Int), σ')) ∧ (∀ x, σ' 597 x = if v ≤ x ∧ x < 416 then σ 614 (416 * n0 + x) else σ 597 x) ∧ ∀ a, a ≠ 597 → σ' a = σ a := by
  intro c
  induction c with
  | zero =>
    intro v σ hv h34
    refine ⟨σ, fun n hn => ?_, fun x => by rw [if_neg (by omega)], fun _ _ => rfl⟩
    obtain ⟨m, rfl⟩ : ∃ m, n = m + 1 := ⟨n - 1, by omega⟩
    rw [g_X9_undo_L21, if_pos (by omega), h34]
  | succ c ih =>
    intro v σ hv h34
    obtain ⟨σ', q1, q2, q3⟩ := ih (v + 1) (up2 σ 597 v (σ 614 (416 * n0 + v))) (by omega) (by rw [up2_o _ _ (by decide)]; exact h34)
    refine ⟨σ', fun n hn => ?_, fun x => ?_, fun a ha => by rw [q3 a ha, up2_o _ _ ha]⟩
    · obtain ⟨m, rfl⟩ : ∃ m, n = m + 1 := ⟨n - 1, by omega⟩
      rw [g_X9_undo_L21, if_neg (by omega), h34, show ab_w32 (ab_w32 ((416 : Int) * (n0 : Int)) + (v : Int)) = ((416 * n0 + v : Nat) : Int) by rw [w32i (x := (416 : Int) * (n0 : Int)) (by omega) (by omega), w32i (by omega) (by omega)]; omega, sa_ld_of (by omega) (by omega), Option.bind_some, Int.toNat_natCast, sa_st_of (by omega) (by omega), Option.bind_some, Int.toNat_natCast, w32s (by omega)]
      exact q1 m (by omega)
    · rw [q2 x]
      by_cases e1 : x = v
      · rw [if_neg (by omega), if_pos (by omega), e1, up2_at]
      · by_cases e2 : v + 1 ≤ x ∧ x < 416
        · rw [if_pos e2, if_pos (by omega), up2_o _ _ (by decide)]
        · rw [if_neg e2, if_neg (by omega), up2_ne _ _ (by omega)]
theorem S_undo : Stp0 (InvD DR) g_X8_undo g_X9_undo := by
  intro σ ⟨S, r8, r9, ok⟩
  have okB := ok.2.2.2.2.1
  have n10 := ok.2.2.2.2.2.1
  by_cases h0 : (sH S).1 = 0
  · refine stp_of dr_in (S' := S) (r := -1) ?_ ?_ ok r8 r9
    · intro τ h8
      refine ⟨τ, ?_, h8, fun _ _ => rfl⟩
      unfold g_X8_undo
      rw [h8.2.2.2.2.1.1, if_pos (by omega)]
    · intro τ h9
      refine ⟨τ, ?_, h9, fun _ _ => rfl⟩
      unfold g_X9_undo
      rw [h9.2.2.2.2.1, if_pos (by omega)]
  · obtain ⟨n, hn⟩ : ∃ n, (sH S).1 = n + 1 := ⟨(sH S).1 - 1, by omega⟩
    have hb := ok.2.2.2.2.2.2 n (by omega)
    have ok' : OkS (withB (withH S (n, (sH S).2)) ((sH S).2 n)) := ⟨ok.1, ok.2.1, ok.2.2.1, ok.2.2.2.1, hb, by show n ≤ 10; omega, fun j hj => ok.2.2.2.2.2.2 j (by have : j < n := hj; omega)⟩
    refine stp_of dr_in (S' := withB (withH S (n, (sH S).2)) ((sH S).2 n)) (r := (n : Int)) ?_ ?_ ok' r8 r9
    · intro τ h8
      obtain ⟨h1, h2, h3, h4, ⟨h5, h6, h7⟩, h8', h9⟩ := h8
      obtain ⟨fi, ef⟩ := Int.eq_ofNat_of_zero_le h6.1
      have fl : fi < 10 := by have := h6.2; rw [ef] at this; omega
      have h7n := h7 n (by omega)
      rw [ef, Int.toNat_natCast] at h7n
      have hm : (fi + n) % 10 < 10 := Nat.mod_lt _ (by decide)
      generalize hσ1 : up2 τ 35 2 (n : Int) = σ1
      have f1 : ∀ a, a ≠ 35 → σ1 a = τ a := fun a ha => by rw [← hσ1, up2_o _ _ ha]
      have p1 : σ1 35 1 = (fi : Int) := by rw [← hσ1, up2_ne _ _ (by omega)]; exact ef
      have p2 : σ1 35 2 = (n : Int) := by rw [← hσ1, up2_at]
      obtain ⟨σ2, c1, c2, c3⟩ := p0_copyFrom (σ := σ1) (a0 := 13) (a1 := 37 + 11 * ((fi + n) % 10)) (by omega) hb (h7n.fr (fun k hk => f1 _ (by omega)))
      have fr : ∀ a, a ≠ 35 → (a < 13 ∨ 23 < a) → σ2 a = τ a := fun a x y => by rw [c3 a (by omega), f1 a x]
      have r2 : Rep8 DS σ2 (withB (withH S (n, (sH S).2)) ((sH S).2 n)) := by
        refine ⟨by rw [fr 2 (by decide) (by decide), fr 3 (by decide) (by decide)]; exact h1, by rw [fr 4 (by decide) (by decide), fr 5 (by decide) (by decide)]; exact h2, by rw [fr 8 (by decide) (by decide)]; exact h3, c2, ⟨by rw [c3 35 (by decide)]; exact p2, by rw [c3 35 (by decide), p1]; omega, fun j hj => ?_⟩, by rw [fr 9 (by decide) (by decide)]; exact h8', ds_in τ σ2 _ (fun a p q => fr a (by omega) (by omega)) h9.ds⟩
        have hj : j < n := hj
        have q := h7 j (by omega)
        rw [ef, Int.toNat_natCast] at q
        rw [c3 35 (by decide), p1, Int.toNat_natCast]
        have hm' : (fi + j) % 10 < 10 := Nat.mod_lt _ (by decide)
        exact q.fr (fun k hk => fr _ (by omega) (by omega))
      obtain ⟨σ3, d1, d2, d3⟩ := p8_renew r2 hb
      refine ⟨σ3, ?_, d2, fun a ha => by rw [d3 a (by omega), fr a (by omega) (by omega)]⟩
      have tb : g_X3_takeBack 13 τ = some σ2 := by
        unfold g_X3_takeBack
        rw [h5, if_neg (by omega), hn, w32p (by omega), Option.bind_some, hσ1, p1, p2, show ab_w32 ((fi : Int) + (n : Int)) = ((fi + n : Nat) : Int) by rw [w32i (by omega) (by omega)]; omega, rm10 (by omega), Option.bind_some, if_pos (by omega), Option.bind_some, Int.toNat_natCast, c1]; rfl
      unfold g_X8_undo
      rw [h5, if_neg (by omega), tb, Option.bind_some, d1, Option.bind_some, d2.2.2.2.2.1.1]; rfl
    · intro τ h9
      obtain ⟨h1, h2, h3, h4, h5, h6⟩ := h9
      obtain ⟨σ1, q1, q2, q3⟩ := p9_undo_L (n0 := n) (by omega) 416 0 (up2 τ 596 34 (n : Int)) (by omega) (up2_at _ _ _ _)
      rw [show ((0 : Nat) : Int) = 0 from rfl] at q1
      have fr : ∀ a, a ≠ 596 → a ≠ 597 → σ1 a = τ a := fun a x y => by rw [q3 a y, up2_o _ _ x]
      have gr : ∀ f, f ≠ 34 → σ1 596 f = τ 596 f := fun f hf => by rw [q3 596 (by decide), up2_ne _ _ (by omega)]
      refine ⟨σ1, ?_, ⟨by rw [gr 4 (by decide), fr 599 (by decide) (by decide)]; exact h1, by rw [gr 28 (by decide), fr 609 (by decide) (by decide)]; exact h2, by rw [gr 10 (by decide), gr 11 (by decide)]; exact h3, ?_, ?_, fun j hj => ?_⟩, fun a ha => fr a (by omega) (by omega)⟩
      · unfold g_X9_undo
        rw [h5, if_neg (by omega), hn, w32p (by omega), Option.bind_some]
        exact q1 ab_FU (by show _ < 100000; omega)
      · refine (h6 n (by omega)).mv hb (fun x hx => ?_)
        rw [q2, if_pos (by omega), up2_o _ _ (by decide), Nat.zero_add]
      · rw [q3 596 (by decide), up2_at]; rfl
      · have hj : j < n := hj
        exact (h6 j (by omega)).fr (fr 614 (by decide) (by decide))
