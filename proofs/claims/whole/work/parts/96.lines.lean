/-! lines and heads: sets of their strings -/
def flt (q : Nat → Bool) (f : Nat → Nat) : Nat → Nat → Nat → Nat
  | 0, _, a => a
  | c + 1, k, a => flt q f c (k + 1) (if q k = true then a ||| 2 ^ f k else a)
theorem flt_add (q : Nat → Bool) (f : Nat → Nat) : ∀ (c d k a : Nat), flt q f (c + d) k a = flt q f d (k + c) (flt q f c k a) := by
  intro c
  induction c with
  | zero => intro d k a; rw [Nat.zero_add]; rfl
  | succ c ih => intro d k a; rw [Nat.succ_add, flt, flt, ih, show k + 1 + c = k + (c + 1) by omega]
theorem flt_no {q : Nat → Bool} {f : Nat → Nat} : ∀ (c k a : Nat), (∀ j, k ≤ j → j < k + c → q j = false) → flt q f c k a = a := by
  intro c
  induction c with
  | zero => intro k a _; rfl
  | succ c ih =>
    intro k a h
    rw [flt, if_neg (by rw [h k (by omega) (by omega)]; decide)]
    exact ih (k + 1) a (fun j h1 h2 => h j (by omega) (by omega))
theorem flt_congr {q q' : Nat → Bool} {f : Nat → Nat} : ∀ (c k a : Nat), (∀ j, k ≤ j → j < k + c → q j = q' j) → flt q f c k a = flt q' f c k a := by
  intro c
  induction c with
  | zero => intro k a _; rfl
  | succ c ih =>
    intro k a h
    rw [flt, flt, h k (by omega) (by omega)]
    exact ih (k + 1) _ (fun j h1 h2 => h j (by omega) (by omega))
theorem flt_lt {q : Nat → Bool} {f : Nat → Nat} : ∀ (c k a : Nat), (∀ j, k ≤ j → j < k + c → f j < 12) → a < 4096 → flt q f c k a < 4096 := by
  intro c
  induction c with
  | zero => intro k a _ h; exact h
  | succ c ih =>
    intro k a hf h
    rw [flt]
    refine ih (k + 1) _ (fun j h1 h2 => hf j (by omega) (by omega)) ?_
    split
    · exact or12 h (p2lt (hf k (by omega) (by omega)))
    · exact h
theorem flt_bit {q : Nat → Bool} {f : Nat → Nat} {u : Nat} : ∀ (c k a : Nat), (flt q f c k a).testBit u = true ↔ a.testBit u = true ∨ ∃ j, k ≤ j ∧ j < k + c ∧ q j = true ∧ f j = u := by
  intro c
  induction c with
  | zero =>
    intro k a
    rw [flt]
    constructor
    · exact Or.inl
    · rintro (h | ⟨j, h1, h2, _⟩)
      · exact h
      · omega
  | succ c ih =>
    intro k a
    rw [flt, ih]
    by_cases e : q k = true
    · rw [if_pos e, Nat.testBit_or, Bool.or_eq_true, Nat.testBit_two_pow, decide_eq_true_iff]
      constructor
      · rintro ((h | h) | ⟨j, h1, h2, h3, h4⟩)
        · exact Or.inl h
        · exact Or.inr ⟨k, by omega, by omega, e, h⟩
        · exact Or.inr ⟨j, by omega, by omega, h3, h4⟩
      · rintro (h | ⟨j, h1, h2, h3, h4⟩)
        · exact Or.inl (Or.inl h)
        · by_cases z : j = k
          · subst z; exact Or.inl (Or.inr h4)
          · exact Or.inr ⟨j, by omega, by omega, h3, h4⟩
    · rw [if_neg e]
      constructor
      · rintro (h | ⟨j, h1, h2, h3, h4⟩)
        · exact Or.inl h
        · exact Or.inr ⟨j, by omega, by omega, h3, h4⟩
      · rintro (h | ⟨j, h1, h2, h3, h4⟩)
        · exact Or.inl h
        · by_cases z : j = k
          · subst z; exact absurd h3 e
          · exact Or.inr ⟨j, by omega, by omega, h3, h4⟩
/-- the strings of what has number l -/
def sts (b : BV) (wy : Nat → Int) (g : Nat → Nat) (l : Nat) : Nat := flt (fun k => decide (g k = l)) (fun k => (sE b wy k).1) (nE b wy) 0 0
theorem sts_range {b : BV} {wy : Nat → Int} {g : Nat → Nat} (hg : Stair g) {l : Nat} : sts b wy g l = flt (fun _ => true) (fun k => (sE b wy k).1) (fsk g (l + 1) (nE b wy) 0 - fsk g l (nE b wy) 0) (fsk g l (nE b wy) 0) 0 := by
  have s1 := fsk_spec g l (nE b wy) 0
  have s2 := fsk_spec g (l + 1) (nE b wy) 0
  have mo := fsk_mo (g := g) (n := nE b wy) (show l ≤ l + 1 by omega)
  unfold sts
  generalize hp : fsk g l (nE b wy) 0 = p at *
  generalize hq : fsk g (l + 1) (nE b wy) 0 = q at *
  have inn : ∀ k, k < nE b wy → (g k = l ↔ p ≤ k ∧ k < q) := fun k hk => by have := fsk_in hg (l := l) hk; rw [hp, hq] at this; exact this
  have e1 : nE b wy = p + ((q - p) + (nE b wy - q)) := by omega
  conv => lhs; rw [e1]
  rw [flt_add, flt_add, Nat.zero_add, flt_no p 0 0 (fun j _ h2 => decide_eq_false (fun z => by have := (inn j (by omega)).mp z; omega)), flt_no (nE b wy - q) (p + (q - p)) _ (fun j h1 h2 => decide_eq_false (fun z => by have := (inn j (by omega)).mp z; omega))]
  exact flt_congr _ _ _ (fun j h1 h2 => decide_eq_true ((inn j (by omega)).mpr ⟨h1, by omega⟩))
theorem sts_bit {b : BV} {wy : Nat → Int} {g : Nat → Nat} {l u : Nat} : (sts b wy g l).testBit u = true ↔ ∃ j, j < nE b wy ∧ g j = l ∧ (sE b wy j).1 = u := by
  unfold sts
  rw [flt_bit, Nat.zero_testBit]
  constructor
  · rintro (h | ⟨j, _, h2, h3, h4⟩)
    · cases h
    · exact ⟨j, by omega, of_decide_eq_true h3, h4⟩
  · rintro ⟨j, h2, h3, h4⟩
    exact Or.inr ⟨j, by omega, by omega, decide_eq_true h3, h4⟩
/-- the class's view of a turning, one letter each -/
def V8 (σ : st_S) (a : Nat) (b : BV) (wy : Nat → Int) (r : Nat → Nat) : Prop := σ a 1 = (nE b wy : Int) ∧ σ a 3 = (nL b wy : Int) ∧ σ a 5 = (nH b wy : Int) ∧ (∀ l, l ≤ nL b wy → σ (a + 2) l = (lF b wy l : Int)) ∧ (∀ l, l ≤ nH b wy → σ (a + 3) l = (hF b wy l : Int)) ∧
    ∀ k, k < nE b wy → σ (a + 1) k = (r k : Int) ∧ sa_en (r k : Int) = some (r k) ∧ isE b (sE b wy k) ∧ E8 σ (r k) b wy (sE b wy k) ∧ σ (r k) 9 = (lnO b wy k : Int) ∧ σ (r k) 10 = (hdO b wy k : Int)
section SA
variable {σ : st_S} {a : Nat} {b : BV} {wy : Nat → Int} {r : Nat → Nat}
theorem p6_stringsAmong (ok : OkB b) (hn : nE b wy ≤ 72) (h : V8 σ a b wy r) {p q : Nat} (hq : q ≤ nE b wy) : g_X6_stringsAmong a (p : Int) (q : Int) σ = some ((flt (fun _ => true) (fun k => (sE b wy k).1) (q - p) p 0 : Int), σ) := by
  have o1 := ok.1
  have key : ∀ (c n k m : Nat), (k + c = q ∨ c = 0 ∧ q ≤ k) → m < 4096 → c < n → g_X6_stringsAmong_L5 n a (q : Int) (m : Int) (k : Int) σ = some ((flt (fun _ => true) (fun k => (sE b wy k).1) c k m : Int), σ) := by
    intro c
    induction c with
    | zero =>
      intro n k m hk hm hn
      obtain ⟨n', rfl⟩ : ∃ n', n = n' + 1 := ⟨n - 1, by omega⟩
      rw [g_X6_stringsAmong_L5, if_pos (by omega), flt]
    | succ c ih =>
      intro n k m hk hm hn
      obtain ⟨n', rfl⟩ : ∃ n', n = n' + 1 := ⟨n - 1, by omega⟩
      obtain ⟨k1, k2, k3, k4, _⟩ := h.2.2.2.2.2 k (by omega)
      have hs := k3.1
      have p2 := p2lt (show (sE b wy k).1 < 12 by omega)
      rw [g_X6_stringsAmong_L5, if_neg (by omega), sa_ld_of (by omega) (by omega), Option.bind_some, Int.toNat_natCast, k1, k2, Option.bind_some, k4.1, shl1 (by omega), or_nat (by omega) (by omega), w32s (by omega), flt, if_pos rfl]
      exact ih n' (k + 1) _ (by omega) (or12 hm p2) (by omega)
  exact key (q - p) ab_FU p 0 (by omega) (by decide) (by show _ < 100000; omega)
theorem p6_stringsOfLine (ok : OkB b) (hn : nE b wy ≤ 72) (h : V8 σ a b wy r) {l : Nat} (hl : l < nL b wy) : g_X6_stringsOfLine a (l : Int) σ = some ((sts b wy (lnO b wy) l : Int), σ) := by
  have le := nL_le b wy
  have s2 := fsk_spec (lnO b wy) (l + 1) (nE b wy) 0
  unfold g_X6_stringsOfLine
  rw [sa_ld_of (by omega) (by omega), Option.bind_some, w32s (by omega), sa_ld_of (by omega) (by omega), Option.bind_some, Int.toNat_natCast, Int.toNat_natCast, h.2.2.2.1 l (by omega), h.2.2.2.1 (l + 1) (by omega), p6_stringsAmong ok hn h (by unfold lF; omega), sts_range (g := lnO b wy) (lnK_st b wy _)]; rfl
theorem p6_stringsOfHead (ok : OkB b) (hn : nE b wy ≤ 72) (h : V8 σ a b wy r) {l : Nat} (hl : l < nH b wy) : g_X6_stringsOfHead a (l : Int) σ = some ((sts b wy (hdO b wy) l : Int), σ) := by
  have le := nH_le b wy
  have s2 := fsk_spec (hdO b wy) (l + 1) (nE b wy) 0
  unfold g_X6_stringsOfHead
  rw [sa_ld_of (by omega) (by omega), Option.bind_some, w32s (by omega), sa_ld_of (by omega) (by omega), Option.bind_some, Int.toNat_natCast, Int.toNat_natCast, h.2.2.2.2.1 l (by omega), h.2.2.2.2.1 (l + 1) (by omega), p6_stringsAmong ok hn h (by unfold hF; omega), sts_range (g := hdO b wy) (hdK_st b _)]; rfl
theorem sts_lt (ok : OkB b) (h : V8 σ a b wy r) (g : Nat → Nat) (l : Nat) : sts b wy g l < 4096 := by
  have o1 := ok.1
  refine flt_lt _ _ _ (fun j _ h2 => ?_) (by decide)
  have := (h.2.2.2.2.2 j (by omega)).2.2.1.1
  omega
theorem p8_isLine (h : V8 σ 156 b wy r) (x : Int) : g_X8_isLine x σ = some (if 0 ≤ x ∧ x < (nL b wy : Int) then 1 else 0, σ) := by
  unfold g_X8_isLine g_X8_isLine_J19
  rw [h.2.1]
  by_cases h0 : x < 0
  · rw [if_pos h0, if_neg (by omega)]
  · rw [if_neg h0]
    by_cases h1 : (nL b wy : Int) ≤ x
    · rw [if_pos h1, if_neg (by omega)]
    · rw [if_neg h1, if_pos (by omega)]
theorem p8_isHead (h : V8 σ 156 b wy r) (x : Int) : g_X8_isHead x σ = some (if 0 ≤ x ∧ x < (nH b wy : Int) then 1 else 0, σ) := by
  unfold g_X8_isHead g_X8_isHead_J19
  rw [h.2.2.1]
  by_cases h0 : x < 0
  · rw [if_pos h0, if_neg (by omega)]
  · rw [if_neg h0]
    by_cases h1 : (nH b wy : Int) ≤ x
    · rw [if_pos h1, if_neg (by omega)]
    · rw [if_neg h1, if_pos (by omega)]
end SA
/-- the reference's view -/
def V9 (σ : st_S) (b : BV) (wy : Nat → Int) (o : Nat → Nat) : Prop := σ 596 16 = (nE b wy : Int) ∧ σ 596 17 = (nL b wy : Int) ∧ σ 596 18 = (nH b wy : Int) ∧ Wd9 σ b ∧ ∀ k, k < nE b wy → σ 608 k = (o k : Int) ∧ o k < 72 ∧ isE b (sE b wy k) ∧ E9 σ (o k) b wy (sE b wy k) ∧ σ 605 k = (lnO b wy k : Int) ∧ σ 606 k = (hdO b wy k : Int)
theorem TU9.v {σ : st_S} {b : BV} {wy : Nat → Int} (h : TU9 σ b wy) : ∃ o, V9 σ b wy o := by
  obtain ⟨t1, t2, ⟨o, t3⟩, t4, t5, t6, t7⟩ := h
  refine ⟨o, by rw [t2.1, nE_len b wy], t4, t5, t1, fun k hk => ?_⟩
  obtain ⟨k1, k2, k3, k4⟩ := t3 k hk
  exact ⟨k1, by omega, k3, k4, (t6 k hk).1, (t6 k hk).2⟩
section SU
variable {σ : st_S} {b : BV} {wy : Nat → Int} {o : Nat → Nat}
theorem p9_stringsUnder (ok : OkB b) (hn : nE b wy ≤ 72) (h : V9 σ b wy o) (l : Nat) : g_X9_stringsUnder (l : Int) σ = some ((sts b wy (hdO b wy) l : Int), σ) := by
  have o1 := ok.1
  have key : ∀ (c n k m : Nat), k + c = nE b wy → m < 4096 → c < n → g_X9_stringsUnder_L4 n (l : Int) (m : Int) (k : Int) σ = some ((flt (fun k => decide (hdO b wy k = l)) (fun k => (sE b wy k).1) c k m : Int), σ) := by
    intro c
    induction c with
    | zero =>
      intro n k m hk hm hn
      obtain ⟨n', rfl⟩ : ∃ n', n = n' + 1 := ⟨n - 1, by omega⟩
      rw [g_X9_stringsUnder_L4, h.1, if_pos (by omega), flt]
    | succ c ih =>
      intro n k m hk hm hn
      obtain ⟨n', rfl⟩ : ∃ n', n = n' + 1 := ⟨n - 1, by omega⟩
      obtain ⟨k1, k2, k3, k4, k5, k6⟩ := h.2.2.2.2 k (by omega)
      have hs := k3.1
      have p2 := p2lt (show (sE b wy k).1 < 12 by omega)
      rw [g_X9_stringsUnder_L4, h.1, if_neg (by omega), sa_ld_of (by omega) (by omega), Option.bind_some, Int.toNat_natCast, k6, flt]
      unfold g_X9_stringsUnder_J40
      rw [w32s (by omega)]
      by_cases e : hdO b wy k = l
      · rw [if_pos (by omega), if_pos (decide_eq_true e), sa_ld_of (by omega) (by omega), Option.bind_some, Int.toNat_natCast, k1, sa_ld_of (by omega) (by omega), Option.bind_some, Int.toNat_natCast, k4.1, shl1 (by omega), or_nat (by omega) (by omega)]
        exact ih n' (k + 1) _ (by omega) (or12 hm p2) (by omega)
      · rw [if_neg (by omega), if_neg (show ¬ decide (hdO b wy k = l) = true from fun q => e (of_decide_eq_true q)), or0 hm]
        exact ih n' (k + 1) m (by omega) hm (by omega)
  exact key (nE b wy) ab_FU 0 0 (by omega) (by decide) (by show _ < 100000; omega)
end SU
/-- what both views are, of a state -/
theorem v8of {τ : st_S} {S : SV} (h8 : Rep8 DR τ S) : nE (sB S) (bwy (sB S)) ≤ 72 ∧ ∃ r, V8 τ 156 (sB S) (bwy (sB S)) r := by
  obtain ⟨d1, d2, d3, d4, d5⟩ := h8.2.2.2.2.2.2
  exact ⟨d5, d3.v (by decide) d5⟩
theorem v9of {S : SV} {τ : st_S} (ok : OkS S) (h9 : Rep9 τ S) : ∃ τ1, g_X9_lays τ = some τ1 ∧ (nE (sB S) (bwy (sB S)) ≤ 72 ∧ ∃ o, V9 τ1 (sB S) (bwy (sB S)) o) ∧ R9 τ1 (sB S) (bwy (sB S)) (el (sB S)) ∧ RB9 τ1 597 0 (sB S) ∧ L9 τ τ1 := by
  obtain ⟨τ1, e1, e2, e3, e4⟩ := l9l ok h9
  exact ⟨τ1, e1, ⟨e2.2.2.2.2.2.2, e2.v⟩, e2.2.1, e3, e4⟩
theorem S_crossed : Stp2 (InvD DR) g_X8_crossed g_X9_crossed := by
  intro x y σ _ _ ⟨S, r8, r9, ok⟩
  have okB := ok.2.2.2.2.1
  have lH := nH_le (sB S) (bwy (sB S))
  by_cases hx : 0 ≤ x ∧ x < (nH (sB S) (bwy (sB S)) : Int)
  · by_cases hy : 0 ≤ y ∧ y < (nH (sB S) (bwy (sB S)) : Int)
    · obtain ⟨p, rfl⟩ := Int.eq_ofNat_of_zero_le hx.1
      obtain ⟨q, rfl⟩ := Int.eq_ofNat_of_zero_le hy.1
      refine qry (r := ((sts (sB S) (bwy (sB S)) (hdO (sB S) (bwy (sB S))) p &&& sts (sB S) (bwy (sB S)) (hdO (sB S) (bwy (sB S))) q : Nat) : Int)) ok (fun τ h8 => ?_) (fun τ h9 => ?_) r8 r9
      · obtain ⟨hn, r, v⟩ := v8of h8
        have l1 := sts_lt okB v (hdO (sB S) (bwy (sB S))) p
        have l2 := sts_lt okB v (hdO (sB S) (bwy (sB S))) q
        unfold g_X8_crossed
        rw [p8_isHead v, if_pos hx, Option.bind_some]
        dsimp only
        rw [if_neg one0, p8_isHead v, if_pos hy, Option.bind_some]
        dsimp only
        rw [if_neg one0, p6_stringsOfHead okB hn v (by omega), Option.bind_some]
        dsimp only
        rw [p6_stringsOfHead okB hn v (by omega), Option.bind_some]
        dsimp only
        rw [and_nat (by omega) (by omega)]
      · obtain ⟨τ1, e1, ⟨hn, o, v⟩, _, e3, e4⟩ := v9of ok h9
        refine ⟨τ1, ?_, e4⟩
        have sl : ∀ l, sts (sB S) (bwy (sB S)) (hdO (sB S) (bwy (sB S))) l < 4096 := fun l => flt_lt _ _ _ (fun j _ h2 => by have := (v.2.2.2.2 j (by omega)).2.2.1.1; have := okB.1; omega) (by decide)
        have l1 := sl p
        have l2 := sl q
        unfold g_X9_crossed
        rw [e1, Option.bind_some, v.2.2.1, w32i (by omega) (by omega), p9_in1 hx.1 (by omega), Option.bind_some]
        dsimp only
        rw [if_neg one0, v.2.2.1, w32i (by omega) (by omega), p9_in1 hy.1 (by omega), Option.bind_some]
        dsimp only
        rw [if_neg one0, p9_stringsUnder okB hn v, Option.bind_some]
        dsimp only
        rw [p9_stringsUnder okB hn v, Option.bind_some]
        dsimp only
        rw [and_nat (by omega) (by omega)]
    · refine qry (r := -2) ok (fun τ h8 => ?_) (fun τ h9 => ?_) r8 r9
      · obtain ⟨hn, r, v⟩ := v8of h8
        unfold g_X8_crossed
        rw [p8_isHead v, if_pos hx, Option.bind_some]
        dsimp only
        rw [if_neg one0, p8_isHead v, if_neg hy]; rfl
      · obtain ⟨τ1, e1, ⟨hn, o, v⟩, _, e3, e4⟩ := v9of ok h9
        refine ⟨τ1, ?_, e4⟩
        unfold g_X9_crossed g_X9_crossed_J50
        rw [e1, Option.bind_some, v.2.2.1, w32i (by omega) (by omega), p9_in1 hx.1 (by omega), Option.bind_some]
        dsimp only
        rw [if_neg one0, v.2.2.1, w32i (by omega) (by omega), p9_in0 (by omega)]; rfl
  · refine qry (r := -2) ok (fun τ h8 => ?_) (fun τ h9 => ?_) r8 r9
    · obtain ⟨hn, r, v⟩ := v8of h8
      unfold g_X8_crossed
      rw [p8_isHead v, if_neg hx]; rfl
    · obtain ⟨τ1, e1, ⟨hn, o, v⟩, _, e3, e4⟩ := v9of ok h9
      refine ⟨τ1, ?_, e4⟩
      unfold g_X9_crossed g_X9_crossed_J50
      rw [e1, Option.bind_some, v.2.2.1, w32i (by omega) (by omega), p9_in0 (by omega)]; rfl
