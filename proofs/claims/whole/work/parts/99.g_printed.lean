/-! print, printAll, longest -/
def okT (t : TP) : Prop := ∀ i, i < t.1 → -128 ≤ t.2 i ∧ t.2 i < 128
def tz : TP := (0, fun _ => 0)
theorem okT_z : okT tz := fun i hi => absurd hi (Nat.not_lt_zero _)
theorem okT.p {t : TP} (h : okT t) (x : Int) : okT (tpush t x) := tpush_ok h x
theorem okT.wpp {x : Int} : ∀ (c i : Nat) {t : TP}, okT t → okT (wP x c i t) := by
  intro c
  induction c with
  | zero => intro i t h; exact h
  | succ c ih =>
    intro i t h
    show okT (wP x c (i + 1) _)
    refine ih (i + 1) ?_
    split
    · exact h
    · exact h.p _
theorem okT.w {t : TP} (h : okT t) (x : Int) : okT (wp t x) := okT.wpp 7 0 h
theorem okT.a {t : TP} (h : okT t) (x : Int) : okT (aP t x) := by
  unfold aP
  refine okT.p ?_ _
  split
  · refine okT.p ?_ _
    split
    · exact h.p _
    · exact h
  · exact h
theorem okT.ja {t : TP} (h : okT t) (x y : Int) : okT (jA t x y) := by
  unfold jA
  split
  · exact ((h.p _).p _).w _
  · exact ((((h.p _).p _).w _).p _).w _
theorem okT.jb {t : TP} (h : okT t) (s x y : Int) : okT (jB t s x y) := by
  unfold jB
  refine okT.w (okT.p ?_ _) _
  split
  · exact h.p _
  · exact ((h.p _).p _).w _
theorem okT.rA {b : BV} {wy : Nat → Int} {x : Nat × Nat} : ∀ (c k : Nat) {t : TP}, okT t → okT (rAp b wy x c k t) := by
  intro c
  induction c with
  | zero => intro k t h; exact h
  | succ c ih => intro k t h; exact ih (k + 1) (h.ja _ _)
theorem okT.rB {b : BV} {wy : Nat → Int} {x : Nat × Nat} : ∀ (c k : Nat) {t : TP}, okT t → okT (rBp b wy x c k t) := by
  intro c
  induction c with
  | zero => intro k t h; exact h
  | succ c ih => intro k t h; exact ih (k + 1) (h.jb _ _ _)
theorem okT.dP {b : BV} {wy : Nat → Int} : ∀ (c k : Nat) (v : Int) {t : TP}, okT t → okT (dPp b wy c k v t) := by
  intro c
  induction c with
  | zero => intro k v t h; exact h
  | succ c ih =>
    intro k v t h
    rw [dPp]
    split
    · exact ih (k + 1) v h
    · exact ih (k + 1) _ ((h.p _).a _)
theorem okT.pln {b : BV} {wy : Nat → Int} (l : Nat) {t : TP} (h : okT t) : okT (pl b wy l t) := okT.dP _ _ _ (okT.rB _ _ (okT.rA _ _ (h.w _)))
def tcat (t p : TP) : TP := (t.1 + p.1, fun i => if i < t.1 then t.2 i else p.2 (i - t.1))
theorem tcat_z (p : TP) : tcat tz p = p := Prod.ext (Nat.zero_add _) (funext fun i => by show (if i < 0 then (0 : Int) else p.2 (i - 0)) = p.2 i; rw [if_neg (Nat.not_lt_zero _)]; rfl)
theorem tcat_0 (t : TP) (f : Nat → Int) (i : Nat) (hi : i < t.1) : (tcat t (0, f)).2 i = t.2 i := if_pos hi
theorem w8ok {x : Int} (h : -128 ≤ x ∧ x < 128) : ab_w8 x = x := by unfold ab_w8; omega
theorem tcat_s (t : TP) (f : Nat → Int) (i : Nat) (h : -128 ≤ f i ∧ f i < 128) : tpush (tcat t (i, f)) (f i) = tcat t (i + 1, f) := by
  refine Prod.ext rfl (funext fun j => ?_)
  show (if j = t.1 + i then ab_w8 (f i) else if j < t.1 then t.2 j else f (j - t.1)) = if j < t.1 then t.2 j else f (j - t.1)
  by_cases e : j = t.1 + i
  · rw [if_pos e, if_neg (by omega), w8ok h, show j - t.1 = i by omega]
  · rw [if_neg e]
theorem tcat_p (t p : TP) (x : Int) : tpush (tcat t p) x = tcat t (tpush p x) := by
  refine Prod.ext rfl (funext fun j => ?_)
  show (if j = t.1 + p.1 then ab_w8 x else if j < t.1 then t.2 j else p.2 (j - t.1)) = if j < t.1 then t.2 j else if j - t.1 = p.1 then ab_w8 x else p.2 (j - t.1)
  by_cases e : j = t.1 + p.1
  · rw [if_pos e, if_neg (by omega), if_pos (by omega)]
  · rw [if_neg e]
    by_cases e2 : j < t.1
    · rw [if_pos e2, if_pos e2]
    · rw [if_neg e2, if_neg e2, if_neg (by omega)]
theorem tcat_ok {t p : TP} (h : okT t) (h2 : okT p) : okT (tcat t p) := by
  intro i hi
  have hi : i < t.1 + p.1 := hi
  show -128 ≤ (if i < t.1 then t.2 i else p.2 (i - t.1)) ∧ (if i < t.1 then t.2 i else p.2 (i - t.1)) < 128
  split
  · exact h i (by assumption)
  · exact h2 _ (by omega)
/-! the class -/
theorem rd8of {τ : st_S} {S : SV} (h8 : Rep8 DR τ S) : nE (sB S) (bwy (sB S)) ≤ 72 ∧ ∃ r, (∀ k, k < nE (sB S) (bwy (sB S)) → 160 ≤ r k) ∧ Rd8 τ (sB S) (bwy (sB S)) r := by
  obtain ⟨d1, d2, ⟨r, t, h3, h5, hl, hh, hj⟩, d4, d5⟩ := h8.2.2.2.2.2.2
  refine ⟨d5, r, fun k hk => (t.2.1.1 k (by omega)).2.1, ⟨t.1, h3, h5, hl, hh, fun k hk => ?_⟩, d1, d2⟩
  have s := t.2.1.1 k (by omega)
  have e := t.2.2 k hk
  exact ⟨s.1, sa_en_of (s.2.en (by decide)), e.1, e.2, (hj k hk).1, (hj k hk).2⟩
theorem Rep8.setO {Dr : st_S → BV → Prop} (hD : DrIn Dr) {σ σ' : st_S} {S : SV} (h : Rep8 Dr σ S) (e : ∀ a, (a < 4 ∨ 7 < a) → σ' a = σ a) {t : TP} (ht : By8 σ' 4 t) : Rep8 Dr σ' (withO S t) := by
  obtain ⟨h1, h2, h3, h4, ⟨h5, h6, h7⟩, h8, h9⟩ := h
  refine ⟨by rw [e 2 (by omega), e 3 (by omega)]; exact h1, ht, by rw [e 8 (by omega)]; exact h3, h4.fr (fun k hk => e _ (by omega)), ⟨by rw [e 35 (by omega)]; exact h5, by rw [e 35 (by omega)]; exact h6, fun j hj => ?_⟩, by rw [e 9 (by omega)]; exact h8, hD σ _ _ (fun a h1 _ => e a (by omega)) h9⟩
  rw [e 35 (by omega)]; exact (h7 j hj).fr (fun k hk => e _ (by omega))
theorem by_4 : by_n 4 = 2000 := by decide
theorem by_6 : by_n 6 = 160 := by decide
theorem q1_putAll {σ : st_S} {t p : TP} (h : By8 σ 4 t) (h2 : By8 σ 6 p) (op : okT p) (hp : p.1 ≤ 160) (hn : t.1 + p.1 ≤ 2000) : ∃ σ', g_X1_putAll 4 6 σ = some σ' ∧ By8 σ' 4 (tcat t p) ∧ ∀ c, c ≠ 4 → c ≠ 5 → σ' c = σ c := by
  have key : ∀ (c i : Nat) (σ : st_S), i + c = p.1 → By8 σ 4 (tcat t (i, p.2)) → By8 σ 6 p → ∃ σ', (∀ n, c < n → g_X1_putAll_L2 n 4 6 (i : Int) σ = some σ') ∧ By8 σ' 4 (tcat t p) ∧ ∀ c, c ≠ 4 → c ≠ 5 → σ' c = σ c := by
    intro c
    induction c with
    | zero =>
      intro i σ hi h h2
      refine ⟨σ, fun n hn => ?_, ?_, fun _ _ _ => rfl⟩
      · obtain ⟨m, rfl⟩ : ∃ m, n = m + 1 := ⟨n - 1, by omega⟩
        rw [g_X1_putAll_L2, h2.1, if_pos (by omega)]
      · rw [show i = p.1 by omega] at h; exact h
    | succ c ih =>
      intro i σ hi h h2
      have w := op i (by omega)
      obtain ⟨s1, a1, a2, a3⟩ := q1_put h (by rw [by_4]; show t.1 + i < 2000; omega) (p.2 i)
      rw [tcat_s _ _ _ w] at a2
      obtain ⟨σ', b1, b2, b3⟩ := ih (i + 1) s1 (by omega) a2 ⟨by rw [a3 6 (by decide) (by decide)]; exact h2.1, fun j hj => by rw [a3 _ (by decide) (by decide)]; exact h2.2 j hj⟩
      refine ⟨σ', fun n hn => ?_, b2, fun c x y => by rw [b3 c x y, a3 c x y]⟩
      obtain ⟨m, rfl⟩ : ∃ m, n = m + 1 := ⟨n - 1, by omega⟩
      rw [g_X1_putAll_L2, h2.1, if_neg (by omega), by_6, sa_ld_of (by omega) (by omega), Option.bind_some, Int.toNat_natCast, h2.2 i (by omega), a1, Option.bind_some, w32s (by omega)]
      exact b1 m (by omega)
  obtain ⟨σ', q1, q2, q3⟩ := key p.1 0 σ (by omega) ⟨h.1, fun i hi => by rw [h.2 i hi]; exact (tcat_0 t p.2 i hi).symm⟩ h2
  exact ⟨σ', q1 ab_FU (by show _ < 100000; omega), q2, q3⟩
theorem pl_le {b : BV} {wy : Nat → Int} (ok : OkB b) {l : Nat} (hl : l < nL b wy) (hE : ∀ k, k < nE b wy → isE b (sE b wy k)) (t : TP) : (pl b wy l t).1 ≤ t.1 + 140 := by
  have lL := nL_le b wy
  obtain ⟨q1, q2⟩ := lF_lt hl
  have a12 : adC b wy (lF b wy (l + 1) - lF b wy l) (lF b wy l) (-1) ≤ 12 := by rw [← pc_line ok hE hl]; exact pc_le _
  have l5 := en_le ok wy (hE _ (show lF b wy l < nE b wy by omega))
  have z1 : (en b wy (sE b wy (lF b wy l))).1.1 = nA b wy (sE b wy (lF b wy l)) := rfl
  have z2 : (en b wy (sE b wy (lF b wy l))).2.1.1 = nB b wy (sE b wy (lF b wy l)) := rfl
  unfold pl
  generalize sE b wy (lF b wy l) = X at *
  have w1 := wp_le t (nmw b (lw b X))
  have w2 := rAp_le (b := b) (wy := wy) (x := X) (nA b wy X) 0 (wp t (nmw b (lw b X)))
  have w3 := rBp_le (b := b) (wy := wy) (x := X) (nB b wy X) 0 (rAp b wy X (nA b wy X) 0 (wp t (nmw b (lw b X))))
  have w4 := dPp_le (b := b) (wy := wy) (lF b wy (l + 1) - lF b wy l) (lF b wy l) (-1) (rBp b wy X (nB b wy X) 0 (rAp b wy X (nA b wy X) 0 (wp t (nmw b (lw b X)))))
  omega
theorem p8_printedSize {σ : st_S} {b : BV} {wy : Nat → Int} {r : Nat → Nat} (ok : OkB b) (hn : nE b wy ≤ 72) (hr : ∀ k, k < nE b wy → 160 ≤ r k) (h : Rd8 σ b wy r) {l : Nat} (hl : l < nL b wy) :
    ∃ σ', g_X8_printedSize (l : Int) σ = some (((pl b wy l tz).1 : Int), σ') ∧ By8 σ' 6 (pl b wy l tz) ∧ ∀ c, c ≠ 6 → c ≠ 7 → σ' c = σ c := by
  have e0 : ∀ c, c ≠ 6 → up2 σ 6 1 0 c = σ c := fun c hc => up2_o _ _ hc
  obtain ⟨s1, a1, a2, a3⟩ := p6_printLine ok hn hr (h.fr hr (fun c hc => e0 c (by omega))) (a := 6) (Or.inr rfl) hl (t := tz) ⟨up2_at _ _ _ _, fun i hi => absurd hi (Nat.not_lt_zero _)⟩ (by decide)
  refine ⟨s1, ?_, a2, fun c x y => by rw [a3 c x y, e0 c x]⟩
  unfold g_X8_printedSize
  rw [Option.bind_some, a1, Option.bind_some, a2.1]
/-! the reference -/
def Ot9 (σ : st_S) (t : TP) : Prop := σ 596 28 = (t.1 : Int) ∧ ∀ i, i < t.1 → σ 609 i = t.2 i
theorem p9_comesOut {σ : st_S} {t p : TP} (h : Ot9 σ t) (h2 : Pr9 σ p) (op : okT p) (hp : p.1 ≤ 400) (hn : t.1 + p.1 ≤ 2000) : ∃ σ', g_X9_comesOut σ = some σ' ∧ Ot9 σ' (tcat t p) ∧ (∀ c, c ≠ 596 → c ≠ 609 → σ' c = σ c) ∧ ∀ f, f ≠ 28 → σ' 596 f = σ 596 f := by
  have key : ∀ (K : st_S → Option st_S) (c i : Nat) (σ : st_S), i + c = p.1 → σ 596 28 = (t.1 : Int) → (∀ j, j < t.1 + i → σ 609 j = (tcat t p).2 j) → Pr9 σ p → ∃ σ', (∀ n, c < n → g_X9_comesOut_L2 K n (i : Int) σ = K σ') ∧ (∀ j, j < t.1 + p.1 → σ' 609 j = (tcat t p).2 j) ∧ ∀ c, c ≠ 609 → σ' c = σ c := by
    intro K c
    induction c with
    | zero =>
      intro i σ hi h1 h h2
      refine ⟨σ, fun n hn => ?_, fun j hj => h j (by omega), fun _ _ => rfl⟩
      obtain ⟨m, rfl⟩ : ∃ m, n = m + 1 := ⟨n - 1, by omega⟩
      rw [g_X9_comesOut_L2, h2.1, if_pos (by omega)]
    | succ c ih =>
      intro i σ hi h1 h h2
      have w := op i (by omega)
      have o : ∀ c, c ≠ 609 → up2 σ 609 (t.1 + i) (p.2 i) c = σ c := fun c hc => up2_o _ _ hc
      obtain ⟨σ', b1, b2, b3⟩ := ih (i + 1) (up2 σ 609 (t.1 + i) (p.2 i)) (by omega) (by rw [o 596 (by decide)]; exact h1) (fun j hj => by
        by_cases e : j = t.1 + i
        · rw [e, up2_at]
          show _ = if t.1 + i < t.1 then t.2 (t.1 + i) else p.2 (t.1 + i - t.1)
          rw [if_neg (by omega), Nat.add_sub_cancel_left]
        · rw [up2_ne _ _ (fun q => e q.2)]; exact h j (by omega)) ⟨by rw [o 596 (by decide)]; exact h2.1, fun j hj => by rw [o 610 (by decide)]; exact h2.2 j hj⟩
      refine ⟨σ', fun n hn => ?_, b2, fun c x => by rw [b3 c x, o c x]⟩
      obtain ⟨m, rfl⟩ : ∃ m, n = m + 1 := ⟨n - 1, by omega⟩
      rw [g_X9_comesOut_L2, h2.1, if_neg (by omega), sa_ld_of (by omega) (by omega), Option.bind_some, Int.toNat_natCast, h2.2 i (by omega), h1, w8ok w, w32i (by omega) (by omega), show (t.1 : Int) + (i : Int) = ((t.1 + i : Nat) : Int) by omega, sa_st_of (by omega) (by omega), Option.bind_some, Int.toNat_natCast, w32s (by omega)]
      exact b1 m (by omega)
  obtain ⟨s1, q1, q2, q3⟩ := key (fun σx33 => (some (up2 σx33 596 28 (ab_w32 ((σx33 596 28) + (σx33 596 30))))).bind fun σ1 => some σ1) p.1 0 σ (by omega) h.1 (fun j hj => by rw [h.2 j (by omega)]; exact (if_pos (show j < t.1 by omega)).symm) h2
  refine ⟨up2 s1 596 28 ((t.1 + p.1 : Nat) : Int), ?_, ⟨up2_at _ _ _ _, fun j hj => by rw [up2_o _ _ (by decide)]; exact q2 j hj⟩, fun c x y => by rw [up2_o _ _ x, q3 c y], fun f hf => by rw [up2_ne _ _ (fun q => hf q.2), q3 596 (by decide)]⟩
  unfold g_X9_comesOut
  refine (q1 ab_FU (by show _ < 100000; omega)).trans ?_
  rw [Option.bind_some, q3 596 (by decide), h.1, h2.1, w32i (by omega) (by omega)]; rfl
/-- all but out and what is printed is kept -/
def FP (σ σ' : st_S) : Prop := (∀ c, c ≠ 596 → c ≠ 609 → c ≠ 610 → σ' c = σ c) ∧ ∀ f, f ≠ 28 → f ≠ 30 → σ' 596 f = σ 596 f
theorem FP.trans {σ σ1 σ2 : st_S} (h : FP σ σ1) (h2 : FP σ1 σ2) : FP σ σ2 := ⟨fun a x y z => by rw [h2.1 a x y z, h.1 a x y z], fun f x y => by rw [h2.2 f x y, h.2 f x y]⟩
theorem FP.rfl' {σ : st_S} : FP σ σ := ⟨fun _ _ _ _ => rfl, fun _ _ _ => rfl⟩
theorem F30.fp {σ σ' : st_S} (h : F30 σ σ') : FP σ σ' := ⟨fun c x _ z => h.1 c x z, fun f _ y => h.2 f y⟩
theorem F30.l9 {σ σ' : st_S} (h : F30 σ σ') : L9 σ σ' := ⟨fun a ha => h.1 a (by omega) (by omega), fun f hf => h.2 f (by omega)⟩
theorem V9.fp {σ σ' : st_S} {b : BV} {wy : Nat → Int} {o : Nat → Nat} (ok : OkB b) (h : V9 σ b wy o) (f : FP σ σ') : V9 σ' b wy o := by
  obtain ⟨h1, h2, h3, h4, h5⟩ := h
  have g : ∀ c, (600 ≤ c ∧ c ≤ 608) → σ' c = σ c := fun c hc => f.1 c (by omega) (by omega) (by omega)
  refine ⟨by rw [f.2 16 (by decide) (by decide)]; exact h1, by rw [f.2 17 (by decide) (by decide)]; exact h2, by rw [f.2 18 (by decide) (by decide)]; exact h3, h4.fr (f.2 14 (by decide) (by decide)) (g 600 (by decide)) (g 601 (by decide)), fun k hk => ?_⟩
  obtain ⟨k1, k2, k3, k4, k5, k6⟩ := h5 k hk
  exact ⟨by rw [g 608 (by decide)]; exact k1, k2, k3, k4.fr ok k3 (by rw [g 602 (by decide)]) (by rw [g 603 (by decide)]) (by rw [g 604 (by decide)]) (fun j _ _ => by rw [g 607 (by decide)]), by rw [g 605 (by decide)]; exact k5, by rw [g 606 (by decide)]; exact k6⟩
theorem Rep9.setO {σ σ1 σ' : st_S} {S : SV} (h : Rep9 σ S) (e : L9 σ σ1) (e2 : FP σ1 σ') {t : TP} (ht : Ot9 σ' t) : Rep9 σ' (withO S t) := by
  obtain ⟨h1, h2, h3, h4, h5, h6⟩ := h
  have g : ∀ c, (c = 597 ∨ c = 599 ∨ c = 614) → σ' c = σ c := fun c hc => by rw [e2.1 c (by omega) (by omega) (by omega), e.1 c (by omega)]
  have k : ∀ f, (f = 4 ∨ f = 10 ∨ f = 11 ∨ f = 34) → σ' 596 f = σ 596 f := fun f hf => by rw [e2.2 f (by omega) (by omega), e.2 f (by omega)]
  exact ⟨by rw [k 4 (by omega), g 599 (by omega)]; exact h1, ht, by rw [k 10 (by omega), k 11 (by omega)]; exact h3, h4.fr (g _ (by omega)), by rw [k 34 (by omega)]; exact h5, fun j hj => (h6 j hj).fr (g _ (by omega))⟩
theorem fp596 {τ τ1 τ2 : st_S} (e : L9 τ τ1) (e2 : FP τ1 τ2) : ∀ a, a < 596 → τ2 a = τ a := fun a ha => by rw [e2.1 a (by omega) (by omega) (by omega), e.1 a (by omega)]
theorem okS_O {S : SV} (ok : OkS S) {t : TP} (h1 : t.1 ≤ 2000) (h2 : okT t) : OkS (withO S t) := ⟨ok.1, ok.2.1, h1, h2, ok.2.2.2.2⟩
theorem S_print : Stp1 (InvD DR) g_X8_print g_X9_print := by
  intro x σ _ ⟨S, r8, r9, ok⟩
  have okB := ok.2.2.2.2.1
  have lL := nL_le (sB S) (bwy (sB S))
  by_cases hx : 0 ≤ x ∧ x < (nL (sB S) (bwy (sB S)) : Int)
  · obtain ⟨l, rfl⟩ := Int.eq_ofNat_of_zero_le hx.1
    have hl : l < nL (sB S) (bwy (sB S)) := by omega
    obtain ⟨_, _, _, _, ⟨hn0, o0, v0⟩, _⟩ : ∃ τ1 : st_S, g_X9_lays σ = some τ1 ∧ True ∧ True ∧ (nE (sB S) (bwy (sB S)) ≤ 72 ∧ ∃ o, V9 τ1 (sB S) (bwy (sB S)) o) ∧ True := by
      obtain ⟨τ1, e1, e2, _⟩ := v9of ok r9
      exact ⟨τ1, e1, trivial, trivial, e2, trivial⟩
    have hE : ∀ k, k < nE (sB S) (bwy (sB S)) → isE (sB S) (sE (sB S) (bwy (sB S)) k) := fun k hk => (v0.2.2.2.2 k hk).2.2.1
    have ple : (pl (sB S) (bwy (sB S)) l tz).1 ≤ 0 + 140 := pl_le okB hl hE tz
    refine stp_of dr_in (S' := withO S (pl (sB S) (bwy (sB S)) l tz)) (r := ((pl (sB S) (bwy (sB S)) l tz).1 : Int)) ?_ ?_ (okS_O ok (by omega) (okT.pln _ okT_z)) r8 r9
    · intro τ h8
      obtain ⟨hn, r, hr, rd⟩ := rd8of h8
      have e0 : ∀ c, c ≠ 4 → up2 τ 4 1 0 c = τ c := fun c hc => up2_o _ _ hc
      obtain ⟨s1, a1, a2, a3⟩ := p6_printLine okB hn hr (rd.fr hr (fun c hc => e0 c (by omega))) (a := 4) (Or.inl rfl) hl (t := tz) ⟨up2_at _ _ _ _, fun i hi => absurd hi (Nat.not_lt_zero _)⟩ (by decide)
      have fr : ∀ c, (c < 4 ∨ 7 < c) → s1 c = τ c := fun c hc => by rw [a3 c (by omega) (by omega), e0 c (by omega)]
      refine ⟨s1, ?_, h8.setO dr_in fr a2, fun c hc => fr c (by omega)⟩
      unfold g_X8_print
      rw [p8_isLine rd.1, if_pos hx, Option.bind_some]
      dsimp only
      rw [if_neg one0, Option.bind_some, a1, Option.bind_some, a2.1]
    · intro τ h9
      obtain ⟨τ1, e1, ⟨hn, o, v⟩, e3, e4⟩ := p9_isLineNow ok h9 (l : Int)
      obtain ⟨τ2, b1, b2, b3, b4⟩ := p9_prints okB hn v e3 hl
      have o3 : ∀ c, c ≠ 596 → up2 τ2 596 28 0 c = τ2 c := fun c hc => up2_o _ _ hc
      obtain ⟨τ4, c1, c2, c3, c4⟩ := p9_comesOut (σ := up2 τ2 596 28 0) (t := tz) (p := pl (sB S) (bwy (sB S)) l tz) ⟨up2_at _ _ _ _, fun i hi => absurd hi (Nat.not_lt_zero _)⟩ ⟨by rw [up2_ne _ _ (by decide)]; exact b2.1, fun i hi => by rw [o3 610 (by decide)]; exact b2.2 i hi⟩ (okT.pln _ okT_z) (by omega) (by show 0 + _ ≤ 2000; omega)
      rw [tcat_z] at c2
      have fp : FP τ1 τ4 := b4.fp.trans (FP.trans (σ1 := up2 τ2 596 28 0) ⟨fun c x _ _ => o3 c x, fun f x _ => up2_ne _ _ (fun q => x q.2)⟩ ⟨fun c x y _ => c3 c x y, fun f x _ => c4 f x⟩)
      refine ⟨τ4, ?_, h9.setO e4 fp c2, fp596 e4 fp⟩
      unfold g_X9_print
      rw [e1, if_pos hx, Option.bind_some]
      dsimp only
      rw [if_neg one0, b1, Option.bind_some, Option.bind_some, c1, Option.bind_some, c2.1]
  · refine qry (r := -2) ok (fun τ h8 => ?_) (fun τ h9 => ?_) r8 r9
    · obtain ⟨hn, r, v⟩ := v8of h8
      unfold g_X8_print
      rw [p8_isLine v, if_neg hx]; rfl
    · obtain ⟨τ1, e1, ⟨hn, o, v⟩, e3, e4⟩ := p9_isLineNow ok h9 x
      refine ⟨τ1, ?_, e4⟩
      unfold g_X9_print
      rw [e1, if_neg hx]; rfl
/-! longest -/
def lgG (b : BV) (wy : Nat → Int) : Nat → Nat → Int → Int → Int
  | 0, _, v, _ => v
  | c + 1, l, v, w => if ((pl b wy l tz).1 : Int) ≤ w then lgG b wy c (l + 1) v w else lgG b wy c (l + 1) (l : Int) ((pl b wy l tz).1 : Int)
theorem S_longest : Stp0 (InvD DR) g_X8_longest g_X9_longest := by
  intro σ ⟨S, r8, r9, ok⟩
  have okB := ok.2.2.2.2.1
  have lL := nL_le (sB S) (bwy (sB S))
  refine stp_of dr_in (S' := S) (r := lgG (sB S) (bwy (sB S)) (nL (sB S) (bwy (sB S))) 0 (-1) 0) ?_ ?_ ok r8 r9
  · intro τ h8
    obtain ⟨hn, r, hr, rd⟩ := rd8of h8
    have key : ∀ (c l : Nat) (v w : Int) (τ : st_S), l + c = nL (sB S) (bwy (sB S)) → Rd8 τ (sB S) (bwy (sB S)) r → ∃ τ', (∀ n, c < n → g_X8_longest_L6 n v w (l : Int) τ = some (lgG (sB S) (bwy (sB S)) c l v w, τ')) ∧ ∀ c, c ≠ 6 → c ≠ 7 → τ' c = τ c := by
      intro c
      induction c with
      | zero =>
        intro l v w τ hl rd
        refine ⟨τ, fun n hn' => ?_, fun _ _ _ => rfl⟩
        obtain ⟨m, rfl⟩ : ∃ m, n = m + 1 := ⟨n - 1, by omega⟩
        rw [g_X8_longest_L6, rd.1.2.1, if_pos (by omega)]; rfl
      | succ c ih =>
        intro l v w τ hl rd
        obtain ⟨s1, a1, a2, a3⟩ := p8_printedSize okB hn hr rd (show l < nL (sB S) (bwy (sB S)) by omega)
        have rd1 := rd.fr hr (fun c hc => a3 c (by omega) (by omega))
        rw [lgG]
        by_cases e : ((pl (sB S) (bwy (sB S)) l tz).1 : Int) ≤ w
        · rw [if_pos e]
          obtain ⟨τ', b1, b2⟩ := ih (l + 1) v w s1 (by omega) rd1
          refine ⟨τ', fun n hn' => ?_, fun c x y => by rw [b2 c x y, a3 c x y]⟩
          obtain ⟨m, rfl⟩ : ∃ m, n = m + 1 := ⟨n - 1, by omega⟩
          rw [g_X8_longest_L6, rd.1.2.1, if_neg (by omega), a1, Option.bind_some]
          unfold g_X8_longest_J35
          dsimp only
          rw [if_pos e, w32s (by omega)]; exact b1 m (by omega)
        · rw [if_neg e]
          obtain ⟨τ', b1, b2⟩ := ih (l + 1) (l : Int) ((pl (sB S) (bwy (sB S)) l tz).1 : Int) s1 (by omega) rd1
          refine ⟨τ', fun n hn' => ?_, fun c x y => by rw [b2 c x y, a3 c x y]⟩
          obtain ⟨m, rfl⟩ : ∃ m, n = m + 1 := ⟨n - 1, by omega⟩
          rw [g_X8_longest_L6, rd.1.2.1, if_neg (by omega), a1, Option.bind_some]
          unfold g_X8_longest_J35
          dsimp only
          rw [if_neg e, w32s (by omega)]; exact b1 m (by omega)
    obtain ⟨τ', b1, b2⟩ := key (nL (sB S) (bwy (sB S))) 0 (-1) 0 τ (by omega) rd
    refine ⟨τ', b1 ab_FU (by show _ < 100000; omega), Rep8.setO dr_in h8 (t := sO S) (fun a ha => b2 a (by omega) (by omega)) ⟨by rw [b2 4 (by decide) (by decide)]; exact h8.2.1.1, fun i hi => by rw [b2 (4 + 1) (by decide) (by decide)]; exact h8.2.1.2 i hi⟩, fun a ha => b2 a (by omega) (by omega)⟩
  · intro τ h9
    obtain ⟨τ1, e1, ⟨hn, o, v⟩, _, e3, e4⟩ := v9of ok h9
    have key : ∀ (c l : Nat) (x w : Int) (τ : st_S), l + c = nL (sB S) (bwy (sB S)) → F30 τ1 τ → ∃ τ', (∀ n, c < n → g_X9_longest_L10 n x w (l : Int) τ = some (lgG (sB S) (bwy (sB S)) c l x w, τ')) ∧ F30 τ1 τ' := by
      intro c
      induction c with
      | zero =>
        intro l x w τ hl f
        refine ⟨τ, fun n hn' => ?_, f⟩
        obtain ⟨m, rfl⟩ : ∃ m, n = m + 1 := ⟨n - 1, by omega⟩
        rw [g_X9_longest_L10, (v.fr okB f).2.1, if_pos (by omega)]; rfl
      | succ c ih =>
        intro l x w τ hl f
        obtain ⟨s1, a1, a2, a3, a4⟩ := p9_prints okB hn (v.fr okB f) (e3.f30 f) (show l < nL (sB S) (bwy (sB S)) by omega)
        have p30 : s1 596 30 = ((pl (sB S) (bwy (sB S)) l tz).1 : Int) := a2.1
        rw [lgG]
        by_cases e : ((pl (sB S) (bwy (sB S)) l tz).1 : Int) ≤ w
        · rw [if_pos e]
          obtain ⟨τ', b1, b2⟩ := ih (l + 1) x w s1 (by omega) (f.trans a4)
          refine ⟨τ', fun n hn' => ?_, b2⟩
          obtain ⟨m, rfl⟩ : ∃ m, n = m + 1 := ⟨n - 1, by omega⟩
          rw [g_X9_longest_L10, (v.fr okB f).2.1, if_neg (by omega), a1, Option.bind_some, p30, if_neg (by omega)]
          unfold g_X9_longest_J41
          rw [w32s (by omega)]; exact b1 m (by omega)
        · rw [if_neg e]
          obtain ⟨τ', b1, b2⟩ := ih (l + 1) (l : Int) ((pl (sB S) (bwy (sB S)) l tz).1 : Int) s1 (by omega) (f.trans a4)
          refine ⟨τ', fun n hn' => ?_, b2⟩
          obtain ⟨m, rfl⟩ : ∃ m, n = m + 1 := ⟨n - 1, by omega⟩
          rw [g_X9_longest_L10, (v.fr okB f).2.1, if_neg (by omega), a1, Option.bind_some, p30, if_pos (by omega)]
          unfold g_X9_longest_J41
          rw [w32s (by omega)]; exact b1 m (by omega)
    obtain ⟨τ', b1, b2⟩ := key (nL (sB S) (bwy (sB S))) 0 (-1) 0 τ1 (by omega) F30.rfl'
    have l9 : L9 τ τ' := e4.trans b2.l9
    refine ⟨τ', ?_, Rep9.setO h9 l9 FP.rfl' (t := sO S) ⟨by rw [l9.2 28 (by omega)]; exact h9.2.1.1, fun i hi => by rw [l9.1 609 (by omega)]; exact h9.2.1.2 i hi⟩, fp596 l9 FP.rfl'⟩
    unfold g_X9_longest
    rw [e1, Option.bind_some]
    exact b1 ab_FU (by show _ < 100000; omega)
/-! all lines -/
def paG (b : BV) (wy : Nat → Int) : Nat → Nat → TP → Int × TP
  | 0, l, t => ((l : Int), t)
  | c + 1, l, t => if t.1 + (pl b wy l tz).1 + 1 ≤ 2000 then paG b wy c (l + 1) (tcat t (tpush (pl b wy l tz) 10)) else ((l : Int), t)
theorem paG_ok {b : BV} {wy : Nat → Int} : ∀ (c l : Nat) {t : TP}, okT t → t.1 ≤ 2000 → okT (paG b wy c l t).2 ∧ (paG b wy c l t).2.1 ≤ 2000 := by
  intro c
  induction c with
  | zero => intro l t h h2; exact ⟨h, h2⟩
  | succ c ih =>
    intro l t h h2
    rw [paG]
    split
    · exact ih (l + 1) (tcat_ok h ((okT.pln _ okT_z).p _)) (by show t.1 + ((pl b wy l tz).1 + 1) ≤ 2000; omega)
    · exact ⟨h, h2⟩
theorem S_printAll : Stp0 (InvD DR) g_X8_printAll g_X9_printAll := by
  intro σ ⟨S, r8, r9, ok⟩
  have okB := ok.2.2.2.2.1
  have lL := nL_le (sB S) (bwy (sB S))
  obtain ⟨_, _, hE⟩ : ∃ τ1 : st_S, g_X9_lays σ = some τ1 ∧ ∀ k, k < nE (sB S) (bwy (sB S)) → isE (sB S) (sE (sB S) (bwy (sB S)) k) := by
    obtain ⟨τ1, e1, ⟨_, o, v⟩, _⟩ := v9of ok r9
    exact ⟨τ1, e1, fun k hk => (v.2.2.2.2 k hk).2.2.1⟩
  have ple : ∀ l, l < nL (sB S) (bwy (sB S)) → (pl (sB S) (bwy (sB S)) l tz).1 ≤ 0 + 140 := fun l hl => pl_le okB hl hE tz
  have gok := paG_ok (b := sB S) (wy := bwy (sB S)) (nL (sB S) (bwy (sB S))) 0 okT_z (by decide)
  refine stp_of dr_in (S' := withO S (paG (sB S) (bwy (sB S)) (nL (sB S) (bwy (sB S))) 0 tz).2) (r := (paG (sB S) (bwy (sB S)) (nL (sB S) (bwy (sB S))) 0 tz).1) ?_ ?_ (okS_O ok gok.2 gok.1) r8 r9
  · intro τ h8
    obtain ⟨hn, r, hr, rd⟩ := rd8of h8
    have key : ∀ (c l : Nat) (t : TP) (τ : st_S), l + c = nL (sB S) (bwy (sB S)) → t.1 ≤ 2000 → By8 τ 4 t → Rd8 τ (sB S) (bwy (sB S)) r → ∃ τ', (∀ n, c < n → g_X8_printAll_L10 n (l : Int) τ = some ((paG (sB S) (bwy (sB S)) c l t).1, τ')) ∧ By8 τ' 4 (paG (sB S) (bwy (sB S)) c l t).2 ∧ ∀ c, (c < 4 ∨ 7 < c) → τ' c = τ c := by
      intro c
      induction c with
      | zero =>
        intro l t τ hl ht hB rd
        refine ⟨τ, fun n hn' => ?_, hB, fun _ _ => rfl⟩
        obtain ⟨m, rfl⟩ : ∃ m, n = m + 1 := ⟨n - 1, by omega⟩
        rw [g_X8_printAll_L10, rd.1.2.1, if_pos (by omega), show nL (sB S) (bwy (sB S)) = l by omega]; rfl
      | succ c ih =>
        intro l t τ hl ht hB rd
        have pl1 := ple l (by omega)
        obtain ⟨s1, a1, a2, a3⟩ := p8_printedSize okB hn hr rd (show l < nL (sB S) (bwy (sB S)) by omega)
        have B1 : By8 s1 4 t := ⟨by rw [a3 4 (by decide) (by decide)]; exact hB.1, fun i hi => by rw [a3 (4 + 1) (by decide) (by decide)]; exact hB.2 i hi⟩
        rw [paG]
        by_cases e : t.1 + (pl (sB S) (bwy (sB S)) l tz).1 + 1 ≤ 2000
        · rw [if_pos e]
          obtain ⟨s2, b1, b2, b3⟩ := q1_putAll B1 a2 (okT.pln _ okT_z) (by omega) (by omega)
          obtain ⟨s3, c1, c2, c3⟩ := q1_put b2 (by rw [by_4]; show t.1 + _ < 2000; omega) 10
          rw [tcat_p] at c2
          have fr : ∀ c, (c < 4 ∨ 7 < c) → s3 c = τ c := fun c hc => by rw [c3 c (by omega) (by omega), b3 c (by omega) (by omega), a3 c (by omega) (by omega)]
          obtain ⟨τ', d1, d2, d3⟩ := ih (l + 1) _ s3 (by omega) (by show t.1 + ((pl (sB S) (bwy (sB S)) l tz).1 + 1) ≤ 2000; omega) c2 (rd.fr hr (fun c hc => fr c (by omega)))
          refine ⟨τ', fun n hn' => ?_, d2, fun c hc => by rw [d3 c hc, fr c hc]⟩
          obtain ⟨m, rfl⟩ : ∃ m, n = m + 1 := ⟨n - 1, by omega⟩
          rw [g_X8_printAll_L10, rd.1.2.1, if_neg (by omega), a1, Option.bind_some]
          dsimp only
          rw [hB.1, w32i (x := (t.1 : Int) + _) (by omega) (by omega), w32i (by omega) (by omega), if_pos (by omega), b1, Option.bind_some, c1, Option.bind_some, w32s (by omega)]
          exact d1 m (by omega)
        · rw [if_neg e]
          refine ⟨s1, fun n hn' => ?_, B1, fun c hc => a3 c (by omega) (by omega)⟩
          obtain ⟨m, rfl⟩ : ∃ m, n = m + 1 := ⟨n - 1, by omega⟩
          rw [g_X8_printAll_L10, rd.1.2.1, if_neg (by omega), a1, Option.bind_some]
          dsimp only
          rw [hB.1, w32i (x := (t.1 : Int) + _) (by omega) (by omega), w32i (by omega) (by omega), if_neg (by omega)]
    have e0 : ∀ c, c ≠ 4 → up2 τ 4 1 0 c = τ c := fun c hc => up2_o _ _ hc
    obtain ⟨τ', b1, b2, b3⟩ := key (nL (sB S) (bwy (sB S))) 0 tz (up2 τ 4 1 0) (by omega) (by decide) ⟨up2_at _ _ _ _, fun i hi => absurd hi (Nat.not_lt_zero _)⟩ (rd.fr hr (fun c hc => e0 c (by omega)))
    have fr : ∀ c, (c < 4 ∨ 7 < c) → τ' c = τ c := fun c hc => by rw [b3 c hc, e0 c (by omega)]
    refine ⟨τ', ?_, h8.setO dr_in fr b2, fun c hc => fr c (by omega)⟩
    unfold g_X8_printAll
    rw [Option.bind_some]
    exact b1 ab_FU (by show _ < 100000; omega)
  · intro τ h9
    obtain ⟨τ1, e1, ⟨hn, o, v⟩, _, e3, e4⟩ := v9of ok h9
    have key : ∀ (c l : Nat) (t : TP) (τ : st_S), l + c = nL (sB S) (bwy (sB S)) → t.1 ≤ 2000 → Ot9 τ t → FP τ1 τ → ∃ τ', (∀ n, c < n → g_X9_printAll_L11 n (l : Int) τ = some ((paG (sB S) (bwy (sB S)) c l t).1, τ')) ∧ Ot9 τ' (paG (sB S) (bwy (sB S)) c l t).2 ∧ FP τ1 τ' := by
      intro c
      induction c with
      | zero =>
        intro l t τ hl ht hO f
        refine ⟨τ, fun n hn' => ?_, hO, f⟩
        obtain ⟨m, rfl⟩ : ∃ m, n = m + 1 := ⟨n - 1, by omega⟩
        rw [g_X9_printAll_L11, (v.fp okB f).2.1, if_pos (by omega), show nL (sB S) (bwy (sB S)) = l by omega]; rfl
      | succ c ih =>
        intro l t τ hl ht hO f
        have pl1 := ple l (by omega)
        obtain ⟨s1, a1, a2, a3, a4⟩ := p9_prints okB hn (v.fp okB f) (e3.fr (f.1 597 (by decide) (by decide) (by decide))) (show l < nL (sB S) (bwy (sB S)) by omega)
        have a2 : Pr9 s1 (pl (sB S) (bwy (sB S)) l tz) := a2
        obtain ⟨s2, b1, b2, b3⟩ := q9_says a2 (by omega) 10
        have F2 : F30 τ s2 := a4.trans b3
        have O2 : Ot9 s2 t := ⟨by rw [F2.2 28 (by decide)]; exact hO.1, fun i hi => by rw [F2.1 609 (by decide) (by decide)]; exact hO.2 i hi⟩
        have b30 : s2 596 30 = (((pl (sB S) (bwy (sB S)) l tz).1 + 1 : Nat) : Int) := b2.1
        rw [paG]
        by_cases e : t.1 + (pl (sB S) (bwy (sB S)) l tz).1 + 1 ≤ 2000
        · rw [if_pos e]
          obtain ⟨s3, c1, c2, c3, c4⟩ := p9_comesOut O2 b2 ((okT.pln _ okT_z).p _) (by rw [tp1]; omega) (by rw [tp1]; omega)
          have f3 : FP τ1 s3 := f.trans (F2.fp.trans ⟨fun c x y _ => c3 c x y, fun f x _ => c4 f x⟩)
          obtain ⟨τ', d1, d2, d3⟩ := ih (l + 1) _ s3 (by omega) (by show t.1 + ((pl (sB S) (bwy (sB S)) l tz).1 + 1) ≤ 2000; omega) c2 f3
          refine ⟨τ', fun n hn' => ?_, d2, d3⟩
          obtain ⟨m, rfl⟩ : ∃ m, n = m + 1 := ⟨n - 1, by omega⟩
          rw [g_X9_printAll_L11, (v.fp okB f).2.1, if_neg (by omega), a1, Option.bind_some, b1, Option.bind_some, O2.1, b30, w32i (by omega) (by omega), if_pos (by omega), c1, Option.bind_some, w32s (by omega)]
          exact d1 m (by omega)
        · rw [if_neg e]
          refine ⟨s2, fun n hn' => ?_, O2, f.trans F2.fp⟩
          obtain ⟨m, rfl⟩ : ∃ m, n = m + 1 := ⟨n - 1, by omega⟩
          rw [g_X9_printAll_L11, (v.fp okB f).2.1, if_neg (by omega), a1, Option.bind_some, b1, Option.bind_some, O2.1, b30, w32i (by omega) (by omega), if_neg (by omega)]
    obtain ⟨τ', b1, b2, b3⟩ := key (nL (sB S) (bwy (sB S))) 0 tz (up2 τ1 596 28 0) (by omega) (by decide) ⟨up2_at _ _ _ _, fun i hi => absurd hi (Nat.not_lt_zero _)⟩ ⟨fun c x _ _ => up2_o _ _ x, fun f x _ => up2_ne _ _ (fun q => x q.2)⟩
    refine ⟨τ', ?_, h9.setO e4 b3 b2, fp596 e4 b3⟩
    unfold g_X9_printAll
    rw [e1, Option.bind_some, Option.bind_some]
    exact b1 ab_FU (by show _ < 100000; omega)
