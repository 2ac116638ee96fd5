/-! acts: law, lead, moves, undo, drops -/
theorem see_c {b b' : BV} (hm : bm b' = bm b) (hf : ∀ k, k < bm b → bsf b' k = bsf b k) (ht : ∀ k, k < bm b → bst b' k = bst b k) : (∀ x, sk b' x = sk b x) ∧ ∀ n x, nxi b' n x = nxi b n x := by
  have h1 : ∀ x, sk b' x = sk b x := by
    intro x
    by_cases e : sk b x = -1
    · rw [e]
      exact sk_none (fun k hk => by rw [hm] at hk; rw [hf k hk]; exact sk_no e k hk)
    · obtain ⟨j, e1, _, h2, h3, h4⟩ := fnd_yes _ _ e
      have e1' : sk b x = (j : Int) := e1
      rw [e1']
      exact fnd_hit (by omega) (by omega) (by rw [hf j (by omega)]; exact h3) (fun l _ q => by rw [hf l (by omega)]; exact h4 l (by omega) q)
  have h2 : ∀ x, nx b' x = nx b x := by
    intro x
    unfold nx
    rw [h1]
    by_cases e : sk b x = -1
    · rw [if_pos e, if_pos e]
    · obtain ⟨k, e1, hk, _⟩ := sk_yes e
      rw [if_neg e, if_neg e, e1, Int.toNat_natCast, ht k hk]
  refine ⟨h1, ?_⟩
  intro n
  induction n with
  | zero => intro x; rfl
  | succ n ih => intro x; rw [nxi, nxi, h2, ih]
theorem OkB.term {b b' : BV} (ok : OkB b) (hm : bm b' = bm b) (hf : ∀ k, k < bm b → bsf b' k = bsf b k) (ht : ∀ k, k < bm b → bst b' k = bst b k) : ∀ x, ∃ j, sk b' (nxi b' j x) = -1 := by
  intro x
  obtain ⟨j, h⟩ := ok.2.2.2.2.2.2.2.2.2 x
  obtain ⟨c1, c2⟩ := see_c hm hf ht
  exact ⟨j, by rw [c1, c2]; exact h⟩
/-- a class's act -/
theorem act8 {σ : st_S} {S : SV} (h : Rep8 DR σ S) (ok : OkS S) {b : BV} (hb : OkB b) {mod : st_S → Option st_S} (hm : ∀ τ, RB8 τ 13 (sB S) → (∀ a, 146 < a → τ a = σ a) → ∃ τ', mod τ = some τ' ∧ RB8 τ' 13 b ∧ ∀ a, (a < 13 ∨ 23 < a) → τ' a = τ a) :
    ∃ σ1 σ2 σ3, g_X3_keep 13 σ = some σ1 ∧ mod σ1 = some σ2 ∧ g_X8_renew σ2 = some σ3 ∧ Rep8 DR σ3 (actS S b) ∧ ∀ a, 596 ≤ a → σ3 a = σ a := by
  obtain ⟨σ1, a1, a2, a3⟩ := p3_keep dr_in h ok
  obtain ⟨σ2, b1, b2, b3⟩ := hm σ1 a2.2.2.2.1 (fun a ha => a3 a (Or.inr ha))
  have r2 : Rep8 DS σ2 (actS S b) := a2.ds.book b3 b2
  obtain ⟨σ3, c1, c2, c3⟩ := p8_renew r2 hb
  exact ⟨σ1, σ2, σ3, a1, b1, c1, c2, fun a ha => by rw [c3 a (by omega), b3 a (by omega), a3 a (by omega)]⟩
theorem act9 {σ : st_S} {S : SV} (h : Rep9 σ S) (ok : OkS S) : ∃ σ1, g_X9_keeps σ = some σ1 ∧ RB9 σ1 597 0 (sB S) ∧ (∀ a, a ≠ 596 → a ≠ 614 → σ1 a = σ a) ∧ (∀ f, f ≠ 34 → σ1 596 f = σ 596 f) ∧ ∀ (σ2 : st_S) (b : BV), (∀ a, a ≠ 597 → σ2 a = σ1 a) → RB9 σ2 597 0 b → Rep9 σ2 (actS S b) ∧ ∀ a, a < 596 → σ2 a = σ a := by
  obtain ⟨σ1, a1, a2, a3, a4⟩ := p9_keeps h ok
  exact ⟨σ1, a1, a2.2.2.2.1, a3, a4, fun σ2 b e hb => ⟨a2.book e hb, fun a ha => by rw [e a (by omega), a3 a (by omega) (by omega)]⟩⟩
theorem p8_isWay {σ : st_S} (r : Int) : g_X8_isWay r σ = some (if 0 ≤ r ∧ r ≤ 2 then 1 else 0, σ) := by
  unfold g_X8_isWay g_X8_isWay_J13
  by_cases h0 : r < 0
  · rw [if_pos h0, if_neg (by omega)]
  · rw [if_neg h0]
    by_cases h1 : 3 ≤ r
    · rw [if_pos h1, if_neg (by omega)]
    · rw [if_neg h1, if_pos (by omega)]
/-! law -/
def bLaw (b : BV) (r : Nat) (w : Int) : BV := (bn b, badr b, bsz b, btm b, (fun x => if x = r then w else bwy b x), bm b, bsf b, bst b)
theorem bLaw_ok {b : BV} (ok : OkB b) {r : Nat} {w : Int} (hw : 0 ≤ w ∧ w ≤ 2) : OkB (bLaw b r w) := by
  obtain ⟨o1, o2, o3, o4, o5, o6, o7, o8, o9, o10⟩ := ok
  refine ⟨o1, o2, o3, o4, o5, fun x hx => ?_, o7, o8, o9, OkB.term (b := b) ⟨o1, o2, o3, o4, o5, o6, o7, o8, o9, o10⟩ rfl (fun _ _ => rfl) (fun _ _ => rfl)⟩
  show 0 ≤ (if x = r then w else bwy b x) ∧ (if x = r then w else bwy b x) ≤ 2
  split
  · exact hw
  · exact o6 x hx
theorem S_law : Stp2 (InvD DR) g_X8_law g_X9_law := by
  intro x y σ _ _ ⟨S, r8, r9, ok⟩
  have okB := ok.2.2.2.2.1
  by_cases hx : 0 ≤ x ∧ x ≤ 5
  · by_cases hy : 0 ≤ y ∧ y ≤ 2
    · obtain ⟨r, rfl⟩ := Int.eq_ofNat_of_zero_le hx.1
      have hr : r < 6 := by omega
      have ow := okB.2.2.2.2.2.1 r hr
      by_cases he : bwy (sB S) r = y
      · refine stp_of dr_in (S' := S) (r := y) ?_ ?_ ok r8 r9
        · intro τ h8
          have e := h8.2.2.2.1.2.2.2.1 r hr
          have e : τ 21 r = bwy (sB S) r := e
          refine ⟨τ, ?_, h8, fun _ _ => rfl⟩
          unfold g_X8_law
          rw [p8_isRole, Option.bind_some, if_pos hx]
          dsimp only
          rw [if_neg one0, p8_isWay, Option.bind_some, if_pos hy]
          dsimp only
          rw [if_neg one0, sa_ld_of (by omega) (by omega), Option.bind_some, Int.toNat_natCast, e, if_pos he, he]
        · intro τ h9
          have e := h9.2.2.2.1.2.2.2.1 r hr
          refine ⟨τ, ?_, h9, fun _ _ => rfl⟩
          unfold g_X9_law
          rw [p9_in1 hx.1 hx.2, Option.bind_some]
          dsimp only
          rw [if_neg one0, p9_in1 hy.1 hy.2, Option.bind_some]
          dsimp only
          rw [if_neg one0, show ab_w32 (2 + (r : Int)) = ((0 + 2 + r : Nat) : Int) by rw [w32i (by omega) (by omega)]; omega, sa_ld_of (by omega) (by omega), Option.bind_some, Int.toNat_natCast, e, w32i (x := bwy (sB S) r) (by omega) (by omega), if_pos he, he]
      · have hb := bLaw_ok (r := r) okB hy
        refine stp_of dr_in (S' := actS S (bLaw (sB S) r y)) (r := bwy (sB S) r) ?_ ?_ (ok.act hb) r8 r9
        · intro τ h8
          have e : τ 21 r = bwy (sB S) r := h8.2.2.2.1.2.2.2.1 r hr
          obtain ⟨σ1, σ2, σ3, a1, a2, a3, a4, a5⟩ := act8 h8 ok hb (mod := fun q => sa_st q 21 6 (r : Int) y) (fun q hq _ => by
            obtain ⟨q0, q1, q2, q3, q4, q5⟩ := hq
            refine ⟨up2 q 21 r y, by show sa_st q 21 6 (r : Int) y = _; rw [sa_st_of (by omega) (by omega), Int.toNat_natCast], ⟨by rw [up2_o _ _ (by decide)]; exact q0, fun s hs => by rw [up2_o _ _ (by decide), up2_o _ _ (by decide)]; exact q1 s hs, fun s hs i hi f hf => by rw [up2_o _ _ (by omega)]; exact q2 s hs i hi f hf, fun k hk => ?_, by rw [up2_o _ _ (by decide)]; exact q4, fun k hk => by rw [up2_o _ _ (by decide), up2_o _ _ (by decide)]; exact q5 k hk⟩, fun a ha => up2_o _ _ (by omega)⟩
            show up2 q 21 r y 21 k = if k = r then y else bwy (sB S) k
            by_cases ek : k = r
            · subst ek; rw [up2_at, if_pos rfl]
            · rw [up2_ne _ _ (by omega), if_neg ek]; exact q3 k hk)
          refine ⟨σ3, ?_, a4, a5⟩
          unfold g_X8_law
          rw [p8_isRole, Option.bind_some, if_pos hx]
          dsimp only
          rw [if_neg one0, p8_isWay, Option.bind_some, if_pos hy]
          dsimp only
          rw [if_neg one0, sa_ld_of (by omega) (by omega), Option.bind_some, Int.toNat_natCast, e, if_neg he, a1, Option.bind_some, a2, Option.bind_some, a3]; rfl
        · intro τ h9
          have e := h9.2.2.2.1.2.2.2.1 r hr
          obtain ⟨σ1, a1, ⟨q0, q1, q2, q3, q4, q5⟩, a3, a4, fin⟩ := act9 h9 ok
          have hb9 : RB9 (up2 σ1 597 (0 + 2 + r) y) 597 0 (bLaw (sB S) r y) := by
            refine ⟨?_, fun s hs => ?_, fun s hs i hi f hf => ?_, fun k hk => ?_, ?_, fun k hk => ?_⟩
            · rw [up2_ne _ _ (by omega)]; exact q0
            · rw [up2_ne _ _ (by omega), up2_ne _ _ (by omega)]; exact q1 s hs
            · rw [up2_ne _ _ (by omega)]; exact q2 s hs i hi f hf
            · show _ = if k = r then y else bwy (sB S) k
              by_cases ek : k = r
              · subst ek; rw [up2_at, if_pos rfl]
              · rw [up2_ne _ _ (by omega), if_neg ek]; exact q3 k hk
            · rw [up2_ne _ _ (by omega)]; exact q4
            · rw [up2_ne _ _ (by omega), up2_ne _ _ (by omega)]; exact q5 k hk
          obtain ⟨z1, z2⟩ := fin _ _ (fun a ha => up2_o _ _ ha) hb9
          refine ⟨up2 σ1 597 (0 + 2 + r) y, ?_, z1, z2⟩
          · unfold g_X9_law
            rw [p9_in1 hx.1 hx.2, Option.bind_some]
            dsimp only
            rw [if_neg one0, p9_in1 hy.1 hy.2, Option.bind_some]
            dsimp only
            rw [if_neg one0, show ab_w32 (2 + (r : Int)) = ((0 + 2 + r : Nat) : Int) by rw [w32i (by omega) (by omega)]; omega, sa_ld_of (by omega) (by omega), Option.bind_some, Int.toNat_natCast, e, w32i (x := bwy (sB S) r) (by omega) (by omega), if_neg he, a1, Option.bind_some, sa_st_of (by omega) (by omega), Option.bind_some, Int.toNat_natCast]
    · refine stp_of dr_in (S' := S) (r := -2) ?_ ?_ ok r8 r9
      · intro τ h8
        refine ⟨τ, ?_, h8, fun _ _ => rfl⟩
        unfold g_X8_law
        rw [p8_isRole, Option.bind_some, if_pos hx]
        dsimp only
        rw [if_neg one0, p8_isWay, Option.bind_some, if_neg hy]; rfl
      · intro τ h9
        refine ⟨τ, ?_, h9, fun _ _ => rfl⟩
        unfold g_X9_law
        rw [p9_in1 hx.1 hx.2, Option.bind_some]
        dsimp only
        rw [if_neg one0, p9_in0 hy, Option.bind_some]; rfl
  · refine stp_of dr_in (S' := S) (r := -2) ?_ ?_ ok r8 r9
    · intro τ h8
      refine ⟨τ, ?_, h8, fun _ _ => rfl⟩
      unfold g_X8_law
      rw [p8_isRole, Option.bind_some, if_neg hx]; rfl
    · intro τ h9
      refine ⟨τ, ?_, h9, fun _ _ => rfl⟩
      unfold g_X9_law
      rw [p9_in0 hx, Option.bind_some]; rfl
/-! lead -/
theorem ix9 {s s' i i' f g : Nat} (hi : i < 6) (hi' : i' < 6) (hf : f < 5) (hg : g < 5) (h : 32 * s' + 5 * i' + f = 32 * s + 5 * i + g) : s' = s ∧ i' = i ∧ f = g := by
  have h1 : s' = s := by omega
  have h2 : i' = i := by omega
  exact ⟨h1, h2, by omega⟩
def bLead (b : BV) (s i : Nat) (v : Int) : BV := (bn b, badr b, bsz b, (fun f s' i' => if f = 1 ∧ s' = s ∧ i' = i then v else btm b f s' i'), bwy b, bm b, bsf b, bst b)
theorem bLead_t {b : BV} {s i : Nat} {v : Int} {f s' i' : Nat} (h : f ≠ 1) : btm (bLead b s i v) f s' i' = btm b f s' i' := if_neg (fun q => h q.1)
theorem bLead_ok {b : BV} (ok : OkB b) {s i : Nat} {v : Int} (hv : v = 0 ∨ v = 1) : OkB (bLead b s i v) := by
  obtain ⟨o1, o2, o3, o4, o5, o6, o7, o8, o9, o10⟩ := ok
  refine ⟨o1, o2, o3, fun s' hs' i' hi' => ?_, fun s' hs' i' hi' => ?_, o6, o7, o8, o9, OkB.term (b := b) ⟨o1, o2, o3, o4, o5, o6, o7, o8, o9, o10⟩ rfl (fun _ _ => rfl) (fun _ _ => rfl)⟩
  · have q := o4 s' hs' i' hi'
    have t0 : ∀ f, f ≠ 1 → btm (bLead b s i v) f s' i' = btm b f s' i' := fun f hf => bLead_t hf
    refine ⟨by rw [t0 0 (by decide)]; exact q.1, ?_, by rw [t0 2 (by decide)]; exact q.2.2.1, by rw [t0 3 (by decide)]; exact q.2.2.2.1, by rw [t0 4 (by decide)]; exact q.2.2.2.2⟩
    show (if 1 = 1 ∧ s' = s ∧ i' = i then v else btm b 1 s' i') = 0 ∨ (if 1 = 1 ∧ s' = s ∧ i' = i then v else btm b 1 s' i') = 1
    split
    · exact hv
    · exact q.2.1
  · rw [bLead_t (by decide), bLead_t (by decide)]; exact o5 s' hs' i' hi'
theorem S_lead : Stp3 (InvD DR) g_X8_lead g_X9_lead := by
  intro x y z σ _ _ _ ⟨S, r8, r9, ok⟩
  have okB := ok.2.2.2.2.1
  have o1 := okB.1
  by_cases hx : (0 ≤ x ∧ x < (bn (sB S) : Int)) ∧ 0 ≤ y ∧ y < (bsz (sB S) x.toNat : Int)
  · obtain ⟨s, rfl⟩ := Int.eq_ofNat_of_zero_le hx.1.1
    obtain ⟨i, rfl⟩ := Int.eq_ofNat_of_zero_le hx.2.1
    have hs : s < bn (sB S) := by omega
    have hi : i < bsz (sB S) s := by have := hx.2.2; rw [Int.toNat_natCast] at this; omega
    have o2 := okB.2.1 s hs
    have o4 := (okB.2.2.2.1 s hs i hi).2.1
    by_cases hz : 0 ≤ z ∧ z ≤ 1
    · by_cases he : btm (sB S) 1 s i = z
      · refine stp_of dr_in (S' := S) (r := z) ?_ ?_ ok r8 r9
        · intro τ h8
          have e : τ 17 (6 * s + i) = btm (sB S) 1 s i := h8.2.2.2.1.2.2.1 s hs i hi 1 (by decide)
          refine ⟨τ, ?_, h8, fun _ _ => rfl⟩
          unfold g_X8_lead
          rw [p8_isTerm h8.2.2.2.1 okB, if_pos hx, Option.bind_some]
          dsimp only
          rw [if_neg one0, if_neg (by omega), if_pos hz.2, w6 (by omega) (by omega), sa_ld_of (by omega) (by omega), Option.bind_some, Int.toNat_natCast, e, if_pos he, he]
        · intro τ h9
          refine ⟨τ, ?_, h9, fun _ _ => rfl⟩
          unfold g_X9_lead g_X9_lead_J36
          rw [p9_isTerm h9.2.2.2.1 okB, if_pos hx, Option.bind_some]
          dsimp only
          rw [if_neg one0, p9_in1 hz.1 hz.2, Option.bind_some]
          dsimp only
          rw [if_neg one0, p9_doesLead h9.2.2.2.1 okB hs hi, Option.bind_some]
          dsimp only
          rcases o4 with q | q
          · rw [q, if_pos rfl, if_pos (by omega)]; rw [← he, q]
          · rw [q, if_neg one0, if_pos (by omega)]; rw [← he, q]
      · have hb := bLead_ok (s := s) (i := i) (v := z) okB (by omega)
        refine stp_of dr_in (S' := actS S (bLead (sB S) s i z)) (r := btm (sB S) 1 s i) ?_ ?_ (ok.act hb) r8 r9
        · intro τ h8
          have e : τ 17 (6 * s + i) = btm (sB S) 1 s i := h8.2.2.2.1.2.2.1 s hs i hi 1 (by decide)
          obtain ⟨σ1, σ2, σ3, a1, a2, a3, a4, a5⟩ := act8 h8 ok hb (mod := fun q => sa_st q 17 72 ((6 * s + i : Nat) : Int) z) (fun q hq _ => by
            obtain ⟨q0, q1, q2, q3, q4, q5⟩ := hq
            refine ⟨up2 q 17 (6 * s + i) z, by show sa_st q 17 72 ((6 * s + i : Nat) : Int) z = _; rw [sa_st_of (by omega) (by omega), Int.toNat_natCast], ⟨by rw [up2_o _ _ (by decide)]; exact q0, fun s hs => by rw [up2_o _ _ (by decide), up2_o _ _ (by decide)]; exact q1 s hs, fun s' hs' i' hi' f hf => ?_, fun k hk => by rw [up2_o _ _ (by decide)]; exact q3 k hk, by rw [up2_o _ _ (by decide)]; exact q4, fun k hk => by rw [up2_o _ _ (by decide), up2_o _ _ (by decide)]; exact q5 k hk⟩, fun a ha => up2_o _ _ (by omega)⟩
            have o2' : bsz (sB S) s' ≤ 6 := (okB.2.1 s' hs').2.2.2
            have hi' : i' < bsz (sB S) s' := hi'
            show _ = if f = 1 ∧ s' = s ∧ i' = i then z else btm (sB S) f s' i'
            by_cases ef : f = 1
            · subst ef
              by_cases ei : s' = s ∧ i' = i
              · rw [if_pos ⟨rfl, ei⟩, ei.1, ei.2]; exact up2_at _ _ _ _
              · rw [if_neg (fun q => ei q.2), up2_ne _ _ (by omega)]; exact q2 s' hs' i' hi' 1 (by decide)
            · rw [if_neg (fun q => ef q.1), up2_o _ _ (by omega)]; exact q2 s' hs' i' hi' f hf)
          refine ⟨σ3, ?_, a4, a5⟩
          unfold g_X8_lead
          rw [p8_isTerm h8.2.2.2.1 okB, if_pos hx, Option.bind_some]
          dsimp only
          rw [if_neg one0, if_neg (by omega), if_pos hz.2, w6 (by omega) (by omega), sa_ld_of (by omega) (by omega), Option.bind_some, Int.toNat_natCast, e, if_neg he, a1, Option.bind_some, a2, Option.bind_some, a3]; rfl
        · intro τ h9
          obtain ⟨σ1, a1, ⟨q0, q1, q2, q3, q4, q5⟩, a3, a4, fin⟩ := act9 h9 ok
          have hb9 : RB9 (up2 σ1 597 (34 + 32 * s + 5 * i + 1) z) 597 0 (bLead (sB S) s i z) := by
            refine ⟨?_, fun s' hs' => ?_, fun s' hs' i' hi' f hf => ?_, fun k hk => ?_, ?_, fun k hk => ?_⟩
            · rw [up2_ne _ _ (by omega)]; exact q0
            · rw [up2_ne _ _ (by omega), up2_ne _ _ (by omega)]; exact q1 s' hs'
            · have o2' : bsz (sB S) s' ≤ 6 := (okB.2.1 s' hs').2.2.2
              have hi' : i' < bsz (sB S) s' := hi'
              show _ = if f = 1 ∧ s' = s ∧ i' = i then z else btm (sB S) f s' i'
              by_cases ei : f = 1 ∧ s' = s ∧ i' = i
              · rw [if_pos ei, ei.1, ei.2.1, ei.2.2, Nat.zero_add]; exact up2_at _ _ _ _
              · rw [if_neg ei, up2_ne _ _ (fun q => by have := ix9 (s := s) (s' := s') (i := i) (i' := i') (f := f) (g := 1) (by omega) (by omega) hf (by decide) (by omega); omega)]; exact q2 s' hs' i' hi' f hf
            · rw [up2_ne _ _ (by omega)]; exact q3 k hk
            · rw [up2_ne _ _ (by omega)]; exact q4
            · have : bm (sB S) ≤ 12 := okB.2.2.2.2.2.2.1
              have hk : k < bm (sB S) := hk
              rw [up2_ne _ _ (by omega), up2_ne _ _ (by omega)]; exact q5 k hk
          obtain ⟨z1, z2⟩ := fin _ _ (fun a ha => up2_o _ _ ha) hb9
          refine ⟨up2 σ1 597 (34 + 32 * s + 5 * i + 1) z, ?_, z1, z2⟩
          · unfold g_X9_lead g_X9_lead_J36
            rw [p9_isTerm h9.2.2.2.1 okB, if_pos hx, Option.bind_some]
            dsimp only
            rw [if_neg one0, p9_in1 hz.1 hz.2, Option.bind_some]
            dsimp only
            rw [if_neg one0, p9_doesLead h9.2.2.2.1 okB hs hi, Option.bind_some]
            dsimp only
            rcases o4 with q | q
            · rw [q, if_pos rfl, if_neg (by omega), a1, Option.bind_some, p9_termAt (by omega) (by omega), Option.bind_some]
              dsimp only
              rw [w32s (by omega), sa_st_of (by omega) (by omega), Option.bind_some, Int.toNat_natCast]
            · rw [q, if_neg one0, if_neg (by omega), a1, Option.bind_some, p9_termAt (by omega) (by omega), Option.bind_some]
              dsimp only
              rw [w32s (by omega), sa_st_of (by omega) (by omega), Option.bind_some, Int.toNat_natCast]
    · refine stp_of dr_in (S' := S) (r := -2) ?_ ?_ ok r8 r9
      · intro τ h8
        refine ⟨τ, ?_, h8, fun _ _ => rfl⟩
        unfold g_X8_lead
        rw [p8_isTerm h8.2.2.2.1 okB, if_pos hx, Option.bind_some]
        dsimp only
        rw [if_neg one0]
        by_cases h0 : z < 0
        · rw [if_pos h0]
        · rw [if_neg h0, if_neg (by omega)]
      · intro τ h9
        refine ⟨τ, ?_, h9, fun _ _ => rfl⟩
        unfold g_X9_lead
        rw [p9_isTerm h9.2.2.2.1 okB, if_pos hx, Option.bind_some]
        dsimp only
        rw [if_neg one0, p9_in0 hz, Option.bind_some]; rfl
  · refine stp_of dr_in (S' := S) (r := -2) ?_ ?_ ok r8 r9
    · intro τ h8
      refine ⟨τ, ?_, h8, fun _ _ => rfl⟩
      unfold g_X8_lead
      rw [p8_isTerm h8.2.2.2.1 okB, if_neg hx, Option.bind_some]; rfl
    · intro τ h9
      refine ⟨τ, ?_, h9, fun _ _ => rfl⟩
      unfold g_X9_lead
      rw [p9_isTerm h9.2.2.2.1 okB, if_neg hx, Option.bind_some]; rfl
