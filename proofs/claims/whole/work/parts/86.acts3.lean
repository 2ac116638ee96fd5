/-! drops, forget, see, swaps -/
def shf (s j : Nat) : Nat := if j < s then j else j + 1
theorem shf_lt {s j n : Nat} (h : j < n - 1) : shf s j < n := by unfold shf; split <;> omega
theorem shf_inj {s j k : Nat} (h : shf s j = shf s k) : j = k := by
  unfold shf at h
  by_cases a : j < s <;> by_cases b : k < s
  · rw [if_pos a, if_pos b] at h; exact h
  · rw [if_pos a, if_neg b] at h; omega
  · rw [if_neg a, if_pos b] at h; omega
  · rw [if_neg a, if_neg b] at h; omega
def bDrop (b : BV) (s : Nat) : BV := (bn b - 1, (fun j => badr b (shf s j)), (fun j => bsz b (shf s j)), (fun f j i => btm b f (shf s j) i), bwy b, bm b, bsf b, bst b)
theorem bDrop_ok {b : BV} (ok : OkB b) {s : Nat} : OkB (bDrop b s) := by
  obtain ⟨o1, o2, o3, o4, o5, o6, o7, o8, o9, o10⟩ := ok
  exact ⟨by show bn b - 1 ≤ 12; omega, fun j hj => o2 _ (shf_lt hj), fun j k hj hk e => shf_inj (o3 _ _ (shf_lt hj) (shf_lt hk) e), fun j hj i hi => o4 _ (shf_lt hj) i hi, fun j hj i hi => o5 _ (shf_lt hj) i hi, o6, o7, o8, o9, OkB.term (b := b) ⟨o1, o2, o3, o4, o5, o6, o7, o8, o9, o10⟩ rfl (fun _ _ => rfl) (fun _ _ => rfl)⟩
theorem p0_dropString {q : st_S} {b : BV} (ok : OkB b) {s : Nat} (hs : s < bn b) (hq : RB8 q 13 b) : ∃ q', g_X0_dropString 13 (s : Int) q = some q' ∧ RB8 q' 13 (bDrop b s) ∧ ∀ a, (a < 13 ∨ 23 < a) → q' a = q a := by
  have o1 := ok.1
  obtain ⟨q0, q1, q2, q3, q4, q5⟩ := hq
  obtain ⟨τ, c1, c2, c3, c4⟩ := p0_copyStrings (σ := q) (a0 := 13) (a1 := 13) (Or.inl rfl) (f := s + 1) (t := s) (n := bn b - s - 1) (by omega) (by omega)
  have f4 : ∀ a, a ≠ 13 → up2 τ 13 0 ((bn b - 1 : Nat) : Int) a = τ a := fun a ha => up2_o _ _ ha
  refine ⟨up2 τ 13 0 ((bn b - 1 : Nat) : Int), ?_, ⟨up2_at _ _ _ _, fun j hj => ?_, fun j hj i hi f hf => ?_, fun r hr => ?_, ?_, fun k hk => ?_⟩, fun a ha => by rw [f4 a (by omega), c4 a (by omega)]⟩
  · unfold g_X0_dropString
    rw [q0, w32s (by omega), show ab_w32 (ab_w32 ((bn b : Int) - (s : Int)) - 1) = ((bn b - s - 1 : Nat) : Int) by rw [w32i (x := (bn b : Int) - (s : Int)) (by omega) (by omega), w32i (by omega) (by omega)]; omega, c1, Option.bind_some, c4 13 (by decide), q0, show ab_w32 ((bn b : Int) - 1) = ((bn b - 1 : Nat) : Int) by rw [w32i (by omega) (by omega)]; omega]; rfl
  · have hj : j < bn b - 1 := hj
    have e1 := c2 1 (by decide) (by decide) j
    have e2 := c2 2 (by decide) (by decide) j
    rw [f4 _ (by decide), f4 _ (by decide)]
    show τ 14 j = badr b (shf s j) ∧ τ 15 j = ((bsz b (shf s j) : Nat) : Int)
    have e1 : τ 14 j = if s ≤ j ∧ j < s + (bn b - s - 1) then q 14 (s + 1 + (j - s)) else q 14 j := e1
    have e2 : τ 15 j = if s ≤ j ∧ j < s + (bn b - s - 1) then q 15 (s + 1 + (j - s)) else q 15 j := e2
    unfold shf
    by_cases z : j < s
    · rw [if_neg (by omega)] at e1 e2
      rw [e1, e2, if_pos z]; exact q1 j (by omega)
    · rw [if_pos (by omega)] at e1 e2
      rw [e1, e2, if_neg z, show s + 1 + (j - s) = j + 1 by omega]; exact q1 (j + 1) (by omega)
  · have hj : j < bn b - 1 := hj
    have hi : i < bsz b (shf s j) := hi
    have o2 := ok.2.1 _ (shf_lt (s := s) hj)
    have e1 := c3 (3 + f) (by omega) (by omega) (6 * j + i)
    rw [f4 _ (by omega)]
    show τ (13 + 3 + f) (6 * j + i) = btm b f (shf s j) i
    rw [Nat.add_assoc, e1]
    have g := q2 (shf s j) (shf_lt hj) i hi f hf
    rw [Nat.add_assoc] at g
    rw [← g]
    unfold shf
    by_cases z : j < s
    · rw [if_neg (by omega), if_pos z]
    · rw [if_pos (by omega), if_neg z]; congr 1; omega
  · rw [f4 _ (by decide), c4 _ (by decide)]; exact q3 r hr
  · rw [up2_ne _ _ (by omega), c4 13 (by decide)]; exact q4
  · rw [f4 _ (by decide), f4 _ (by decide), c4 _ (by decide), c4 _ (by decide)]; exact q5 k hk
theorem p9_drops_L : ∀ (c v : Nat) (σ : st_S), v + c = 384 → ∃ σ', (∀ (k : st_S → Option (Int × st_S)) (n : Nat), c < n → g_X9_drops_L23 k n (v : Int) σ = k σ') ∧ (∀ x, σ' 597 x = if v ≤ x ∧ x < 384 then σ 597 (x + 32) else σ 597 x) ∧ ∀ a, a ≠ 597 → σ' a = σ a := by
  intro c
  induction c with
  | zero =>
    intro v σ hv
    refine ⟨σ, fun k n hn => ?_, fun x => by rw [if_neg (by omega)], fun _ _ => rfl⟩
    obtain ⟨m, rfl⟩ : ∃ m, n = m + 1 := ⟨n - 1, by omega⟩
    rw [g_X9_drops_L23, if_pos (by omega)]
  | succ c ih =>
    intro v σ hv
    obtain ⟨σ', q1, q2, q3⟩ := ih (v + 1) (up2 σ 597 v (σ 597 (v + 32))) (by omega)
    refine ⟨σ', fun k n hn => ?_, fun x => ?_, fun a ha => by rw [q3 a ha, up2_o _ _ ha]⟩
    · obtain ⟨m, rfl⟩ : ∃ m, n = m + 1 := ⟨n - 1, by omega⟩
      rw [g_X9_drops_L23, if_neg (by omega), show ab_w32 ((v : Int) + 32) = ((v + 32 : Nat) : Int) by rw [w32i (by omega) (by omega)]; omega, sa_ld_of (by omega) (by omega), Option.bind_some, Int.toNat_natCast, sa_st_of (by omega) (by omega), Option.bind_some, Int.toNat_natCast, w32s (by omega)]
      exact q1 k m (by omega)
    · rw [q2 x]
      by_cases e1 : x = v
      · rw [if_neg (by omega), if_pos (by omega), e1, up2_at]
      · by_cases e2 : v + 1 ≤ x ∧ x < 384
        · rw [if_pos e2, if_pos (by omega), up2_ne _ _ (by omega)]
        · rw [if_neg e2, if_neg (by omega), up2_ne _ _ (by omega)]
theorem S_drops : Stp1 (InvD DR) g_X8_drops g_X9_drops := by
  intro x σ _ ⟨S, r8, r9, ok⟩
  have okB := ok.2.2.2.2.1
  have o1 := okB.1
  have o7 := okB.2.2.2.2.2.2.1
  by_cases hx : 0 ≤ x ∧ x < (bn (sB S) : Int)
  · obtain ⟨s, rfl⟩ := Int.eq_ofNat_of_zero_le hx.1
    have hs : s < bn (sB S) := by omega
    have hb := bDrop_ok (s := s) okB
    refine stp_of dr_in (S' := actS S (bDrop (sB S) s)) (r := ((bn (sB S) - 1 : Nat) : Int)) ?_ ?_ (ok.act hb) r8 r9
    · intro τ h8
      obtain ⟨σ1, σ2, σ3, a1, a2, a3, a4, a5⟩ := act8 h8 ok hb (mod := fun q => g_X0_dropString 13 (s : Int) q) (fun q hq _ => p0_dropString okB hs hq)
      refine ⟨σ3, ?_, a4, a5⟩
      unfold g_X8_drops
      rw [p8_isString h8.2.2.2.1, if_pos hx, Option.bind_some]
      dsimp only
      rw [if_neg one0, a1, Option.bind_some, a2, Option.bind_some, a3, Option.bind_some, a4.2.2.2.1.1]; rfl
    · intro τ h9
      obtain ⟨σ1, a1, ⟨q0, q1, q2, q3, q4, q5⟩, a3, a4, fin⟩ := act9 h9 ok
      obtain ⟨σ2, d1, d2, d3⟩ := p9_drops_L (384 - (32 + 32 * s)) (32 + 32 * s) σ1 (by omega)
      have e0 : σ2 597 0 = (bn (sB S) : Int) := by rw [d2, if_neg (by omega)]; exact q0
      have hb9 : RB9 (up2 σ2 597 0 ((bn (sB S) - 1 : Nat) : Int)) 597 0 (bDrop (sB S) s) := by
        refine ⟨up2_at _ _ _ _, fun j hj => ?_, fun j hj i hi f hf => ?_, fun r hr => ?_, ?_, fun k hk => ?_⟩
        · have hj : j < bn (sB S) - 1 := hj
          show _ = badr (sB S) (shf s j) ∧ _ = ((bsz (sB S) (shf s j) : Nat) : Int)
          rw [up2_ne _ _ (by omega), up2_ne _ _ (by omega), d2, d2]
          have g := q1 (shf s j) (shf_lt hj)
          unfold shf at g ⊢
          by_cases z : j < s
          · rw [if_pos z] at g ⊢; rw [if_neg (by omega), if_neg (by omega)]; exact g
          · rw [if_neg z] at g ⊢; rw [if_pos (by omega), if_pos (by omega), show 0 + 32 + 32 * j + 32 = 0 + 32 + 32 * (j + 1) by omega, show 0 + 33 + 32 * j + 32 = 0 + 33 + 32 * (j + 1) by omega]; exact g
        · have hj : j < bn (sB S) - 1 := hj
          have hi : i < bsz (sB S) (shf s j) := hi
          have o2 := okB.2.1 _ (shf_lt (s := s) hj)
          show _ = btm (sB S) f (shf s j) i
          rw [up2_ne _ _ (by omega), d2]
          have g := q2 (shf s j) (shf_lt hj) i hi f hf
          rw [← g]
          unfold shf
          by_cases z : j < s
          · rw [if_pos z, if_neg (by omega)]
          · rw [if_neg z, if_pos (by omega)]; congr 1; omega
        · rw [up2_ne _ _ (by omega), d2, if_neg (by omega)]; exact q3 r hr
        · rw [up2_ne _ _ (by omega), d2, if_neg (by omega)]; exact q4
        · have hk : k < bm (sB S) := hk
          rw [up2_ne _ _ (by omega), up2_ne _ _ (by omega), d2, d2, if_neg (by omega), if_neg (by omega)]; exact q5 k hk
      obtain ⟨z1, z2⟩ := fin _ _ (fun a ha => by rw [up2_o _ _ ha, d3 a ha]) hb9
      refine ⟨up2 σ2 597 0 ((bn (sB S) - 1 : Nat) : Int), ?_, z1, z2⟩
      unfold g_X9_drops
      rw [p9_isString h9.2.2.2.1 okB, if_pos hx, Option.bind_some]
      dsimp only
      rw [if_neg one0, a1, Option.bind_some, show ab_w32 ((32 : Int) + (ab_w32 ((32 : Int) * (s : Int)))) = ((32 + 32 * s : Nat) : Int) by rw [w3232 (by omega), Nat.zero_add], d1 _ ab_FU (by show _ < 100000; omega), sa_ld_of (by omega) (by omega), Option.bind_some, show (0 : Int).toNat = 0 from rfl, e0, w64i (by omega) (by omega), sa_st_of (by omega) (by omega), Option.bind_some, show (0 : Int).toNat = 0 from rfl, show (bn (sB S) : Int) - 1 = ((bn (sB S) - 1 : Nat) : Int) by omega, p9_strings hb9 hb, Option.bind_some]; rfl
  · refine stp_of dr_in (S' := S) (r := -2) ?_ ?_ ok r8 r9
    · intro τ h8
      refine ⟨τ, ?_, h8, fun _ _ => rfl⟩
      unfold g_X8_drops
      rw [p8_isString h8.2.2.2.1, if_neg hx, Option.bind_some]; rfl
    · intro τ h9
      refine ⟨τ, ?_, h9, fun _ _ => rfl⟩
      unfold g_X9_drops
      rw [p9_isString h9.2.2.2.1 okB, if_neg hx, Option.bind_some]; rfl
/-! forget -/
def bForget (b : BV) (k : Nat) : BV := (bn b, badr b, bsz b, btm b, bwy b, bm b - 1, (fun j => bsf b (shf k j)), (fun j => bst b (shf k j)))
theorem bForget_sk {b : BV} (ok : OkB b) {k : Nat} {x : Int} (h : sk (bForget b k) x ≠ -1) : nx (bForget b k) x = nx b x := by
  obtain ⟨j, e, hj, ej⟩ := sk_yes h
  have hj : j < bm b - 1 := hj
  have ej : bsf b (shf k j) = x := ej
  have e2 := sk_of ok (shf_lt (s := k) hj) ej
  unfold nx
  rw [if_neg h, e, e2, if_neg (by omega), Int.toNat_natCast, Int.toNat_natCast]; rfl
theorem bForget_t {b : BV} (ok : OkB b) {k : Nat} : ∀ (T : Nat) (x : Int), sk b (nxi b T x) = -1 → ∃ j, sk (bForget b k) (nxi (bForget b k) j x) = -1 := by
  intro T
  induction T with
  | zero =>
    intro x h
    refine ⟨0, sk_none (fun j hj => ?_)⟩
    have hj : j < bm b - 1 := hj
    exact sk_no h _ (shf_lt hj)
  | succ T ih =>
    intro x h
    by_cases e : sk (bForget b k) x = -1
    · exact ⟨0, e⟩
    · rw [nxi] at h
      obtain ⟨j, hj⟩ := ih (nx b x) h
      exact ⟨j + 1, by rw [nxi, bForget_sk ok e]; exact hj⟩
theorem bForget_ok {b : BV} (ok : OkB b) {k : Nat} : OkB (bForget b k) := by
  have ok' := ok
  obtain ⟨o1, o2, o3, o4, o5, o6, o7, o8, o9, o10⟩ := ok
  exact ⟨o1, o2, o3, o4, o5, o6, by show bm b - 1 ≤ 12; omega, fun j hj => o8 _ (shf_lt hj), fun i j hi hj e => shf_inj (o9 _ _ (shf_lt hi) (shf_lt hj) e), fun x => by obtain ⟨T, hT⟩ := o10 x; exact bForget_t ok' T x hT⟩
theorem p0_dropSee_L {m0 : Nat} (hm0 : m0 ≤ 12) : ∀ (c v : Nat) (σ : st_S), v + c = m0 → 1 ≤ v → σ 13 9 = (m0 : Int) → ∃ σ', (∀ (k : Nat → st_S → Option st_S) (n : Nat), c < n → g_X0_dropSee_L4 k n 13 (v : Int) σ = k 13 σ') ∧ (∀ x, σ' 22 x = if v - 1 ≤ x ∧ x < m0 - 1 then σ 22 (x + 1) else σ 22 x) ∧ (∀ x, σ' 23 x = if v - 1 ≤ x ∧ x < m0 - 1 then σ 23 (x + 1) else σ 23 x) ∧ ∀ a, a ≠ 22 → a ≠ 23 → σ' a = σ a := by
  intro c
  induction c with
  | zero =>
    intro v σ hv h1 h9
    refine ⟨σ, fun k n hn => ?_, fun x => by rw [if_neg (by omega)], fun x => by rw [if_neg (by omega)], fun _ _ _ => rfl⟩
    obtain ⟨m, rfl⟩ : ∃ m, n = m + 1 := ⟨n - 1, by omega⟩
    rw [g_X0_dropSee_L4, h9, if_pos (by omega)]
  | succ c ih =>
    intro v σ hv h1 h9
    have g1 : up2 σ 22 (v - 1) (σ 22 v) 23 = σ 23 := up2_o _ _ (by decide)
    obtain ⟨σ', q1, q2, q3, q4⟩ := ih (v + 1) (up2 (up2 σ 22 (v - 1) (σ 22 v)) 23 (v - 1) (σ 23 v)) (by omega) (by omega) (by rw [up2_o _ _ (by decide), up2_o _ _ (by decide)]; exact h9)
    refine ⟨σ', fun k n hn => ?_, fun x => ?_, fun x => ?_, fun a x y => by rw [q4 a x y, up2_o _ _ y, up2_o _ _ x]⟩
    · obtain ⟨m, rfl⟩ : ∃ m, n = m + 1 := ⟨n - 1, by omega⟩
      rw [g_X0_dropSee_L4, h9, if_neg (by omega)]
      simp only [Nat.reduceAdd]
      rw [sa_ld_of (by omega) (by omega), Option.bind_some, Int.toNat_natCast, show ab_w32 ((v : Int) - 1) = ((v - 1 : Nat) : Int) by rw [w32i (by omega) (by omega)]; omega, sa_st_of (by omega) (by omega), Option.bind_some, Int.toNat_natCast, sa_ld_of (by omega) (by omega), Option.bind_some, Int.toNat_natCast, g1, sa_st_of (by omega) (by omega), Option.bind_some, Int.toNat_natCast, w32s (by omega)]
      exact q1 k m (by omega)
    · rw [q2 x]
      have z : ∀ x, up2 (up2 σ 22 (v - 1) (σ 22 v)) 23 (v - 1) (σ 23 v) 22 x = up2 σ 22 (v - 1) (σ 22 v) 22 x := fun x => by rw [up2_o _ _ (by decide)]
      rw [z, z]
      by_cases e1 : x = v - 1
      · rw [if_neg (by omega), if_pos (by omega), e1, up2_at, show v - 1 + 1 = v by omega]
      · by_cases e2 : v + 1 - 1 ≤ x ∧ x < m0 - 1
        · rw [if_pos e2, if_pos (by omega), up2_ne _ _ (by omega)]
        · rw [if_neg e2, if_neg (by omega), up2_ne _ _ (by omega)]
    · rw [q3 x]
      by_cases e1 : x = v - 1
      · rw [if_neg (by omega), if_pos (by omega), e1, up2_at, show v - 1 + 1 = v by omega]
      · by_cases e2 : v + 1 - 1 ≤ x ∧ x < m0 - 1
        · rw [if_pos e2, if_pos (by omega), up2_ne _ _ (by omega), g1]
        · rw [if_neg e2, if_neg (by omega), up2_ne _ _ (by omega), g1]
theorem p9_forget_L : ∀ (c v : Nat) (σ : st_S), v + c = 30 → ∃ σ', (∀ (k : st_S → Option (Int × st_S)) (n : Nat), c < n → g_X9_forget_L28 k n (v : Int) σ = k σ') ∧ (∀ x, σ' 597 x = if v ≤ x ∧ x < 30 then σ 597 (x + 2) else σ 597 x) ∧ ∀ a, a ≠ 597 → σ' a = σ a := by
  intro c
  induction c with
  | zero =>
    intro v σ hv
    refine ⟨σ, fun k n hn => ?_, fun x => by rw [if_neg (by omega)], fun _ _ => rfl⟩
    obtain ⟨m, rfl⟩ : ∃ m, n = m + 1 := ⟨n - 1, by omega⟩
    rw [g_X9_forget_L28, if_pos (by omega)]
  | succ c ih =>
    intro v σ hv
    obtain ⟨σ', q1, q2, q3⟩ := ih (v + 1) (up2 σ 597 v (σ 597 (v + 2))) (by omega)
    refine ⟨σ', fun k n hn => ?_, fun x => ?_, fun a ha => by rw [q3 a ha, up2_o _ _ ha]⟩
    · obtain ⟨m, rfl⟩ : ∃ m, n = m + 1 := ⟨n - 1, by omega⟩
      rw [g_X9_forget_L28, if_neg (by omega), show ab_w32 ((v : Int) + 2) = ((v + 2 : Nat) : Int) by rw [w32i (by omega) (by omega)]; omega, sa_ld_of (by omega) (by omega), Option.bind_some, Int.toNat_natCast, sa_st_of (by omega) (by omega), Option.bind_some, Int.toNat_natCast, w32s (by omega)]
      exact q1 k m (by omega)
    · rw [q2 x]
      by_cases e1 : x = v
      · rw [if_neg (by omega), if_pos (by omega), e1, up2_at]
      · by_cases e2 : v + 1 ≤ x ∧ x < 30
        · rw [if_pos e2, if_pos (by omega), up2_ne _ _ (by omega)]
        · rw [if_neg e2, if_neg (by omega), up2_ne _ _ (by omega)]
theorem S_forget : Stp1 (InvD DR) g_X8_forget g_X9_forget := by
  intro x σ _ ⟨S, r8, r9, ok⟩
  have okB := ok.2.2.2.2.1
  have o1 := okB.1
  have o7 := okB.2.2.2.2.2.2.1
  by_cases h0 : 0 ≤ x
  · obtain ⟨k, rfl⟩ := Int.eq_ofNat_of_zero_le h0
    by_cases hx : k < bm (sB S)
    · have hb := bForget_ok (k := k) okB
      refine stp_of dr_in (S' := actS S (bForget (sB S) k)) (r := ((bm (sB S) - 1 : Nat) : Int)) ?_ ?_ (ok.act hb) r8 r9
      · intro τ h8
        obtain ⟨σ1, σ2, σ3, a1, a2, a3, a4, a5⟩ := act8 h8 ok hb (mod := fun q => g_X0_dropSee 13 (k : Int) q) (fun q hq _ => by
          obtain ⟨q0, q1, q2, q3, q4, q5⟩ := hq
          obtain ⟨τ1, d1, d2, d3, d4⟩ := p0_dropSee_L (m0 := bm (sB S)) o7 (bm (sB S) - (k + 1)) (k + 1) q (by omega) (by omega) q4
          have f1 : ∀ a, a ≠ 13 → up2 τ1 13 9 ((bm (sB S) - 1 : Nat) : Int) a = τ1 a := fun a ha => up2_o _ _ ha
          refine ⟨up2 τ1 13 9 ((bm (sB S) - 1 : Nat) : Int), ?_, ⟨by rw [up2_ne _ _ (by omega), d4 13 (by decide) (by decide)]; exact q0, fun s hs => by rw [f1 _ (by decide), f1 _ (by decide), d4 _ (by decide) (by decide), d4 _ (by decide) (by decide)]; exact q1 s hs, fun s hs i hi f hf => by rw [f1 _ (by omega), d4 _ (by omega) (by omega)]; exact q2 s hs i hi f hf, fun r hr => by rw [f1 _ (by decide), d4 _ (by decide) (by decide)]; exact q3 r hr, up2_at _ _ _ _, fun j hj => ?_⟩, fun a ha => by rw [f1 a (by omega), d4 a (by omega) (by omega)]⟩
          · show g_X0_dropSee 13 (k : Int) q = _
            unfold g_X0_dropSee
            rw [w32s (by omega), d1 _ ab_FU (by show _ < 100000; omega), d4 13 (by decide) (by decide), q4, show ab_w32 ((bm (sB S) : Int) - 1) = ((bm (sB S) - 1 : Nat) : Int) by rw [w32i (by omega) (by omega)]; omega]; rfl
          · have hj : j < bm (sB S) - 1 := hj
            rw [f1 _ (by decide), f1 _ (by decide)]
            show τ1 22 j = bsf (sB S) (shf k j) ∧ τ1 23 j = bst (sB S) (shf k j)
            have g := q5 (shf k j) (shf_lt hj)
            rw [d2, d3]
            unfold shf at g ⊢
            by_cases z : j < k
            · rw [if_pos z] at g ⊢; rw [if_neg (by omega), if_neg (by omega)]; exact g
            · rw [if_neg z] at g ⊢; rw [if_pos (by omega), if_pos (by omega)]; exact g)
        refine ⟨σ3, ?_, a4, a5⟩
        unfold g_X8_forget
        rw [if_pos h0, h8.2.2.2.1.2.2.2.2.1, if_pos (by omega), a1, Option.bind_some, a2, Option.bind_some, a3, Option.bind_some, a4.2.2.2.1.2.2.2.2.1]; rfl
      · intro τ h9
        obtain ⟨σ1, a1, ⟨q0, q1, q2, q3, q4, q5⟩, a3, a4, fin⟩ := act9 h9 ok
        obtain ⟨σ2, d1, d2, d3⟩ := p9_forget_L (30 - (8 + 2 * k)) (8 + 2 * k) σ1 (by omega)
        have e0 : σ2 597 1 = (bm (sB S) : Int) := by rw [d2, if_neg (by omega)]; exact q4
        have hb9 : RB9 (up2 σ2 597 1 ((bm (sB S) - 1 : Nat) : Int)) 597 0 (bForget (sB S) k) := by
          refine ⟨by rw [up2_ne _ _ (by omega), d2, if_neg (by omega)]; exact q0, fun s hs => ?_, fun s hs i hi f hf => ?_, fun r hr => ?_, up2_at _ _ _ _, fun j hj => ?_⟩
          · rw [up2_ne _ _ (by omega), up2_ne _ _ (by omega), d2, d2, if_neg (by omega), if_neg (by omega)]; exact q1 s hs
          · rw [up2_ne _ _ (by omega), d2, if_neg (by omega)]; exact q2 s hs i hi f hf
          · rw [up2_ne _ _ (by omega), d2, if_neg (by omega)]; exact q3 r hr
          · have hj : j < bm (sB S) - 1 := hj
            show _ = bsf (sB S) (shf k j) ∧ _ = bst (sB S) (shf k j)
            rw [up2_ne _ _ (by omega), up2_ne _ _ (by omega), d2, d2]
            have g := q5 (shf k j) (shf_lt hj)
            unfold shf at g ⊢
            by_cases z : j < k
            · rw [if_pos z] at g ⊢; rw [if_neg (by omega), if_neg (by omega)]; exact g
            · rw [if_neg z] at g ⊢; rw [if_pos (by omega), if_pos (by omega), show 0 + 8 + 2 * j + 2 = 0 + 8 + 2 * (j + 1) by omega, show 0 + 9 + 2 * j + 2 = 0 + 9 + 2 * (j + 1) by omega]; exact g
        obtain ⟨z1, z2⟩ := fin _ _ (fun a ha => by rw [up2_o _ _ ha, d3 a ha]) hb9
        refine ⟨up2 σ2 597 1 ((bm (sB S) - 1 : Nat) : Int), ?_, z1, z2⟩
        unfold g_X9_forget
        rw [if_pos h0, p9_sees h9.2.2.2.1 okB, Option.bind_some]
        dsimp only
        rw [if_pos (by omega), a1, Option.bind_some, show ab_w32 ((8 : Int) + (ab_w32 ((2 : Int) * (k : Int)))) = ((8 + 2 * k : Nat) : Int) by rw [w32i (x := (2 : Int) * (k : Int)) (by omega) (by omega), w32i (by omega) (by omega)]; omega, d1 _ ab_FU (by show _ < 100000; omega), sa_ld_of (by omega) (by omega), Option.bind_some, show (1 : Int).toNat = 1 from rfl, e0, w64i (by omega) (by omega), sa_st_of (by omega) (by omega), Option.bind_some, show (1 : Int).toNat = 1 from rfl, show (bm (sB S) : Int) - 1 = ((bm (sB S) - 1 : Nat) : Int) by omega, p9_sees hb9 hb, Option.bind_some]; rfl
    · refine stp_of dr_in (S' := S) (r := -1) ?_ ?_ ok r8 r9
      · intro τ h8
        refine ⟨τ, ?_, h8, fun _ _ => rfl⟩
        unfold g_X8_forget
        rw [if_pos h0, h8.2.2.2.1.2.2.2.2.1, if_neg (by omega)]
      · intro τ h9
        refine ⟨τ, ?_, h9, fun _ _ => rfl⟩
        unfold g_X9_forget
        rw [if_pos h0, p9_sees h9.2.2.2.1 okB, Option.bind_some]
        dsimp only
        rw [if_neg (by omega)]
  · refine stp_of dr_in (S' := S) (r := -2) ?_ ?_ ok r8 r9
    · intro τ h8
      refine ⟨τ, ?_, h8, fun _ _ => rfl⟩
      unfold g_X8_forget
      rw [if_neg h0]
    · intro τ h9
      refine ⟨τ, ?_, h9, fun _ _ => rfl⟩
      unfold g_X9_forget
      rw [if_neg h0]
