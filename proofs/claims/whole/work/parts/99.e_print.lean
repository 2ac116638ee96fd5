/-! printing -/
abbrev TP : Type := Nat × (Nat → Int)
def wP (x : Int) : Nat → Nat → TP → TP
  | 0, _, t => t
  | c + 1, i, t => wP x c (i + 1) (if ltr x i = 0 then t else tpush t (96 + ltr x i))
def wp (t : TP) (x : Int) : TP := wP x 7 0 t
theorem wP_le (x : Int) : ∀ (c i : Nat) (t : TP), t.1 ≤ (wP x c i t).1 ∧ (wP x c i t).1 ≤ t.1 + c := by
  intro c
  induction c with
  | zero => intro i t; exact ⟨Nat.le_refl _, Nat.le_refl _⟩
  | succ c ih =>
    intro i t
    rw [wP]
    by_cases e : ltr x i = 0
    · rw [if_pos e]; have := ih (i + 1) t; omega
    · rw [if_neg e]
      have := ih (i + 1) (tpush t (96 + ltr x i))
      have e1 : (tpush t (96 + ltr x i)).1 = t.1 + 1 := rfl
      omega
theorem wp_le (t : TP) (x : Int) : t.1 ≤ (wp t x).1 ∧ (wp t x).1 ≤ t.1 + 7 := wP_le x 7 0 t
theorem wp_0 (t : TP) : wp t 0 = t := by
  have : ∀ i, ltr 0 i = 0 := fun i => by unfold ltr; rw [Int.zero_ediv]; rfl
  unfold wp
  simp only [wP, this, if_pos]
def aP (t : TP) (v : Int) : TP := tpush (if 10 ≤ v then tpush (if 100 ≤ v then tpush t (48 + v / 100) else t) (48 + v / 10 % 10) else t) (48 + v % 10)
theorem aP_le {t : TP} {v : Int} : t.1 ≤ (aP t v).1 ∧ (aP t v).1 ≤ t.1 + 3 := by
  unfold aP
  by_cases h1 : 10 ≤ v
  · by_cases h2 : 100 ≤ v
    · rw [if_pos h1, if_pos h2]; show t.1 ≤ t.1 + 1 + 1 + 1 ∧ t.1 + 1 + 1 + 1 ≤ t.1 + 3; omega
    · rw [if_pos h1, if_neg h2]; show t.1 ≤ t.1 + 1 + 1 ∧ t.1 + 1 + 1 ≤ t.1 + 3; omega
  · rw [if_neg h1]; show t.1 ≤ t.1 + 1 ∧ t.1 + 1 ≤ t.1 + 3; omega
/-- above: a comma, the word, its back; below: a sign, its via, the word -/
def jA (t : TP) (name back : Int) : TP := if back = 0 then wp (tpush (tpush t 44) 32) name else wp (tpush (wp (tpush (tpush t 44) 32) name) 32) back
def jB (t : TP) (sign via name : Int) : TP := wp (tpush (if via = 0 then tpush t sign else wp (tpush (tpush t sign) 32) via) 32) name
theorem tp1 (t : TP) (x : Int) : (tpush t x).1 = t.1 + 1 := rfl
theorem jA_le (t : TP) (name back : Int) : t.1 ≤ (jA t name back).1 ∧ (jA t name back).1 ≤ t.1 + 17 := by
  unfold jA
  have a := wp_le (tpush (tpush t 44) 32) name
  have c := wp_le (tpush (wp (tpush (tpush t 44) 32) name) 32) back
  simp only [tp1] at a c
  split <;> omega
theorem jB_le (t : TP) (sign via name : Int) : t.1 ≤ (jB t sign via name).1 ∧ (jB t sign via name).1 ≤ t.1 + 17 := by
  unfold jB
  by_cases e : via = 0
  · rw [if_pos e]
    have a := wp_le (tpush (tpush t sign) 32) name
    simp only [tp1] at a
    omega
  · rw [if_neg e]
    have a := wp_le (tpush (wp (tpush (tpush t sign) 32) via) 32) name
    have c := wp_le (tpush (tpush t sign) 32) via
    simp only [tp1] at a c
    omega
def nmw (b : BV) (w : Nat) : Int := (wl b).2 w
def rAp (b : BV) (wy : Nat → Int) (x : Nat × Nat) : Nat → Nat → TP → TP
  | 0, _, t => t
  | c + 1, k, t => rAp b wy x c (k + 1) (jA t (nmw b (wA b wy x k)) (un b 4 x.1 (pA b wy x k)))
def rBp (b : BV) (wy : Nat → Int) (x : Nat × Nat) : Nat → Nat → TP → TP
  | 0, _, t => t
  | c + 1, k, t => rBp b wy x c (k + 1) (jB t (if k = 0 then 58 else 46) (un b 3 x.1 (pB b wy x k)) (nmw b (wB b wy x k)))
def dPp (b : BV) (wy : Nat → Int) : Nat → Nat → Int → TP → TP
  | 0, _, _, t => t
  | c + 1, k, v, t => if agr b wy k ≤ v then dPp b wy c (k + 1) v t else dPp b wy c (k + 1) (agr b wy k) (aP (tpush t (if v = -1 then 32 else 44)) (agr b wy k))
theorem rAp_le {b : BV} {wy : Nat → Int} {x : Nat × Nat} : ∀ (c k : Nat) (t : TP), t.1 ≤ (rAp b wy x c k t).1 ∧ (rAp b wy x c k t).1 ≤ t.1 + 17 * c := by
  intro c
  induction c with
  | zero => intro k t; exact ⟨Nat.le_refl _, Nat.le_refl _⟩
  | succ c ih => intro k t; rw [rAp]; have := ih (k + 1) (jA t (nmw b (wA b wy x k)) (un b 4 x.1 (pA b wy x k))); have := jA_le t (nmw b (wA b wy x k)) (un b 4 x.1 (pA b wy x k)); omega
theorem rBp_le {b : BV} {wy : Nat → Int} {x : Nat × Nat} : ∀ (c k : Nat) (t : TP), t.1 ≤ (rBp b wy x c k t).1 ∧ (rBp b wy x c k t).1 ≤ t.1 + 17 * c := by
  intro c
  induction c with
  | zero => intro k t; exact ⟨Nat.le_refl _, Nat.le_refl _⟩
  | succ c ih => intro k t; rw [rBp]; have := ih (k + 1) (jB t (if k = 0 then 58 else 46) (un b 3 x.1 (pB b wy x k)) (nmw b (wB b wy x k))); have := jB_le t (if k = 0 then 58 else 46) (un b 3 x.1 (pB b wy x k)) (nmw b (wB b wy x k)); omega
theorem dPp_le {b : BV} {wy : Nat → Int} : ∀ (c k : Nat) (v : Int) (t : TP), t.1 ≤ (dPp b wy c k v t).1 ∧ (dPp b wy c k v t).1 ≤ t.1 + 4 * adC b wy c k v := by
  intro c
  induction c with
  | zero => intro k v t; exact ⟨Nat.le_refl _, Nat.le_refl _⟩
  | succ c ih =>
    intro k v t
    rw [dPp, adC]
    by_cases e : agr b wy k ≤ v
    · rw [if_pos e, if_pos e]; exact ih (k + 1) v t
    · rw [if_neg e, if_neg e]
      have i := ih (k + 1) (agr b wy k) (aP (tpush t (if v = -1 then 32 else 44)) (agr b wy k))
      have a := aP_le (t := tpush t (if v = -1 then 32 else 44)) (v := agr b wy k)
      simp only [tp1] at a
      omega
/-- what a line is as it is printed behind t -/
def pl (b : BV) (wy : Nat → Int) (l : Nat) (t : TP) : TP :=
  dPp b wy (lF b wy (l + 1) - lF b wy l) (lF b wy l) (-1) (rBp b wy (sE b wy (lF b wy l)) (nB b wy (sE b wy (lF b wy l))) 0 (rAp b wy (sE b wy (lF b wy l)) (nA b wy (sE b wy (lF b wy l))) 0 (wp t (nmw b (lw b (sE b wy (lF b wy l)))))))
/-! the class -/
section P1
variable {a : Nat}
theorem q1_put {σ : st_S} {t : TP} (h : By8 σ a t) (hn : t.1 < by_n a) (x : Int) : ∃ σ', g_X1_put a x σ = some σ' ∧ By8 σ' a (tpush t x) ∧ ∀ c, c ≠ a → c ≠ a + 1 → σ' c = σ c := p1_put h hn (by unfold by_n; split <;> (try split) <;> decide) x
theorem q1_putName {σ : st_S} {t : TP} (h : By8 σ a t) (hn : t.1 + 7 ≤ by_n a) {x : Int} (hx : isNm x) : ∃ σ', g_X1_putName a x σ = some σ' ∧ By8 σ' a (wp t x) ∧ ∀ c, c ≠ a → c ≠ a + 1 → σ' c = σ c := by
  have key : ∀ (c i : Nat) (t : TP) (σ : st_S), i + c = 7 → t.1 + c ≤ by_n a → By8 σ a t → ∃ σ', (∀ n, c < n → g_X1_putName_L2 n a x (i : Int) σ = some σ') ∧ By8 σ' a (wP x c i t) ∧ ∀ c, c ≠ a → c ≠ a + 1 → σ' c = σ c := by
    intro c
    induction c with
    | zero =>
      intro i t σ hi hn h
      refine ⟨σ, fun n hn => ?_, h, fun _ _ _ => rfl⟩
      obtain ⟨m, rfl⟩ : ∃ m, n = m + 1 := ⟨n - 1, by omega⟩
      rw [g_X1_putName_L2, if_pos (by omega)]
    | succ c ih =>
      intro i t σ hi hn h
      have li := ltr_in x i
      rw [wP]
      by_cases e : ltr x i = 0
      · rw [if_pos e]
        obtain ⟨σ', q1, q2, q3⟩ := ih (i + 1) t σ (by omega) (by omega) h
        refine ⟨σ', fun n hn => ?_, q2, q3⟩
        obtain ⟨m, rfl⟩ : ∃ m, n = m + 1 := ⟨n - 1, by omega⟩
        rw [g_X1_putName_L2, if_neg (by omega), p8_letterOf hx (by omega), Option.bind_some]
        unfold g_X1_putName_J29
        dsimp only
        rw [if_pos e, w32s (by omega)]; exact q1 m (by omega)
      · rw [if_neg e]
        obtain ⟨σ1, r1, r2, r3⟩ := q1_put h (by omega) (96 + ltr x i)
        obtain ⟨σ', q1, q2, q3⟩ := ih (i + 1) _ σ1 (by omega) (by rw [tp1]; omega) r2
        refine ⟨σ', fun n hn => ?_, q2, fun c h1 h2 => by rw [q3 c h1 h2, r3 c h1 h2]⟩
        obtain ⟨m, rfl⟩ : ∃ m, n = m + 1 := ⟨n - 1, by omega⟩
        rw [g_X1_putName_L2, if_neg (by omega), p8_letterOf hx (by omega), Option.bind_some]
        unfold g_X1_putName_J29
        dsimp only
        rw [if_neg e, w32i (x := 96 + ltr x i) (by omega) (by omega), r1, Option.bind_some, w32s (by omega)]; exact q1 m (by omega)
  obtain ⟨σ', q1, q2, q3⟩ := key 7 0 t σ (by omega) hn h
  exact ⟨σ', q1 ab_FU (by show _ < 100000; omega), q2, q3⟩
theorem dv_nat {v k : Nat} (hv : v < 1000) (hk : k = 1 ∨ k = 10 ∨ k = 100) : ab_dv (v : Int) (k : Int) = some ((v : Int) / (k : Int)) := by
  have key : ∀ v : Nat, v < 1000 → ab_dv (v : Int) 1 = some ((v : Int) / 1) ∧ ab_dv (v : Int) 10 = some ((v : Int) / 10) ∧ ab_dv (v : Int) 100 = some ((v : Int) / 100) := by decide +kernel
  obtain ⟨h1, h2, h3⟩ := key v hv
  rcases hk with rfl | rfl | rfl
  · exact h1
  · exact h2
  · exact h3
theorem rm_nat {v : Nat} (hv : v < 1000) : ab_rm_ (v : Int) 10 = some ((v : Int) % 10) := by
  have key : ∀ v : Nat, v < 1000 → ab_rm_ (v : Int) 10 = some ((v : Int) % 10) := by decide +kernel
  exact key v hv
theorem q1_putAddress {σ : st_S} {t : TP} (h : By8 σ a t) (hn : t.1 + 3 ≤ by_n a) {x : Int} (hx : 0 ≤ x ∧ x ≤ 999) : ∃ σ', g_X1_putAddress a x σ = some σ' ∧ By8 σ' a (aP t x) ∧ ∀ c, c ≠ a → c ≠ a + 1 → σ' c = σ c := by
  obtain ⟨v, rfl⟩ := Int.eq_ofNat_of_zero_le hx.1
  have d10 := dv_nat (v := v) (k := 10) (by omega) (by omega)
  have d100 := dv_nat (v := v) (k := 100) (by omega) (by omega)
  have r10 := rm_nat (v := v) (by omega)
  obtain ⟨q, hq⟩ : ∃ q : Nat, (v : Int) / 10 = (q : Int) := ⟨v / 10, by omega⟩
  have rq := rm_nat (v := q) (by omega)
  unfold g_X1_putAddress g_X1_putAddress_J17 g_X1_putAddress_J37 aP
  rw [show ((10 : Nat) : Int) = 10 from rfl] at d10
  rw [show ((100 : Nat) : Int) = 100 from rfl] at d100
  by_cases h1 : (10 : Int) ≤ (v : Int)
  · by_cases h2 : (100 : Int) ≤ (v : Int)
    · obtain ⟨s1, a1, a2, a3⟩ := q1_put h (by omega) (48 + (v : Int) / 100)
      obtain ⟨s2, b1, b2, b3⟩ := q1_put a2 (by rw [tp1]; omega) (48 + (v : Int) / 10 % 10)
      obtain ⟨s3, c1, c2, c3⟩ := q1_put b2 (by rw [tp1, tp1]; omega) (48 + (v : Int) % 10)
      refine ⟨s3, ?_, by rw [if_pos h1, if_pos h2]; exact c2, fun c x y => by rw [c3 c x y, b3 c x y, a3 c x y]⟩
      rw [if_neg (by omega), d100, Option.bind_some, w32i (x := 48 + (v : Int) / 100) (by omega) (by omega), a1, Option.bind_some, if_neg (by omega), d10, Option.bind_some, hq, rq, Option.bind_some, ← hq, w32i (x := 48 + (v : Int) / 10 % 10) (by omega) (by omega), b1, Option.bind_some, r10, Option.bind_some, w32i (x := 48 + (v : Int) % 10) (by omega) (by omega), c1]; rfl
    · obtain ⟨s2, b1, b2, b3⟩ := q1_put h (by omega) (48 + (v : Int) / 10 % 10)
      obtain ⟨s3, c1, c2, c3⟩ := q1_put b2 (by rw [tp1]; omega) (48 + (v : Int) % 10)
      refine ⟨s3, ?_, by rw [if_pos h1, if_neg h2]; exact c2, fun c x y => by rw [c3 c x y, b3 c x y]⟩
      rw [if_pos (by omega), if_neg (by omega), d10, Option.bind_some, hq, rq, Option.bind_some, ← hq, w32i (x := 48 + (v : Int) / 10 % 10) (by omega) (by omega), b1, Option.bind_some, r10, Option.bind_some, w32i (x := 48 + (v : Int) % 10) (by omega) (by omega), c1]; rfl
  · obtain ⟨s3, c1, c2, c3⟩ := q1_put h (by omega) (48 + (v : Int) % 10)
    refine ⟨s3, ?_, by rw [if_neg h1]; exact c2, c3⟩
    rw [if_pos (by omega), if_pos (by omega), r10, Option.bind_some, w32i (x := 48 + (v : Int) % 10) (by omega) (by omega), c1]; rfl
theorem q6_joinA {σ : st_S} {t : TP} (h : By8 σ a t) (hn : t.1 + 17 ≤ by_n a) {name back : Int} (h1 : isNm name ∧ name ≠ 0) (h2 : isNm back) : ∃ σ', g_X6_putJoined a 44 name back σ = some σ' ∧ By8 σ' a (jA t name back) ∧ ∀ c, c ≠ a → c ≠ a + 1 → σ' c = σ c := by
  obtain ⟨s1, a1, a2, a3⟩ := q1_put h (by omega) 44
  obtain ⟨s2, b1, b2, b3⟩ := q1_put a2 (by rw [tp1]; omega) 32
  obtain ⟨s3, c1, c2, c3⟩ := q1_putName b2 (by rw [tp1, tp1]; omega) h1.1
  have wl3 := wp_le (tpush (tpush t 44) 32) name
  simp only [tp1] at wl3
  unfold g_X6_putJoined g_X6_putJoined_J22 jA
  by_cases e : back = 0
  · refine ⟨s3, ?_, by rw [if_pos e]; exact c2, fun c x y => by rw [c3 c x y, b3 c x y, a3 c x y]⟩
    rw [a1, Option.bind_some, if_neg (fun q => h1.2 (cmp_eq.mp q)), b1, Option.bind_some, c1, Option.bind_some, if_pos (cmp_eq.mpr e)]
  · obtain ⟨s4, d1, d2, d3⟩ := q1_put c2 (by omega) 32
    obtain ⟨s5, e1, e2, e3⟩ := q1_putName d2 (by rw [tp1]; omega) h2
    refine ⟨s5, ?_, by rw [if_neg e]; exact e2, fun c x y => by rw [e3 c x y, d3 c x y, c3 c x y, b3 c x y, a3 c x y]⟩
    rw [a1, Option.bind_some, if_neg (fun q => h1.2 (cmp_eq.mp q)), b1, Option.bind_some, c1, Option.bind_some, if_neg (fun q => e (cmp_eq.mp q)), d1, Option.bind_some, e1]; rfl
theorem q6_joinB {σ : st_S} {t : TP} (h : By8 σ a t) (hn : t.1 + 17 ≤ by_n a) (sign : Int) {name via : Int} (h1 : isNm name ∧ name ≠ 0) (h2 : isNm via) : ∃ σ', g_X6_putJoined a sign via name σ = some σ' ∧ By8 σ' a (jB t sign via name) ∧ ∀ c, c ≠ a → c ≠ a + 1 → σ' c = σ c := by
  obtain ⟨s1, a1, a2, a3⟩ := q1_put h (by omega) sign
  unfold g_X6_putJoined g_X6_putJoined_J22 jB
  by_cases e : via = 0
  · obtain ⟨s4, d1, d2, d3⟩ := q1_put a2 (by rw [tp1]; omega) 32
    obtain ⟨s5, e1, e2, e3⟩ := q1_putName d2 (by rw [tp1, tp1]; omega) h1.1
    refine ⟨s5, ?_, by rw [if_pos e]; exact e2, fun c x y => by rw [e3 c x y, d3 c x y, a3 c x y]⟩
    rw [a1, Option.bind_some, if_pos (cmp_eq.mpr e), if_neg (fun q => h1.2 (cmp_eq.mp q)), d1, Option.bind_some, e1]; rfl
  · obtain ⟨s2, b1, b2, b3⟩ := q1_put a2 (by rw [tp1]; omega) 32
    obtain ⟨s3, c1, c2, c3⟩ := q1_putName b2 (by rw [tp1, tp1]; omega) h2
    have wl3 := wp_le (tpush (tpush t sign) 32) via
    simp only [tp1] at wl3
    obtain ⟨s4, d1, d2, d3⟩ := q1_put c2 (by omega) 32
    obtain ⟨s5, e1, e2, e3⟩ := q1_putName d2 (by rw [tp1]; omega) h1.1
    refine ⟨s5, ?_, by rw [if_neg e]; exact e2, fun c x y => by rw [e3 c x y, d3 c x y, c3 c x y, b3 c x y, a3 c x y]⟩
    rw [a1, Option.bind_some, if_neg (fun q => e (cmp_eq.mp q)), b1, Option.bind_some, c1, Option.bind_some, if_neg (fun q => h1.2 (cmp_eq.mp q)), d1, Option.bind_some, e1]; rfl
end P1
/-- what printing reads of the class's cells -/
def Rd8 (σ : st_S) (b : BV) (wy : Nat → Int) (r : Nat → Nat) : Prop := V8 σ 156 b wy r ∧ Wd8 σ b ∧ T8 σ b
theorem Rd8.fr {σ σ' : st_S} {b : BV} {wy : Nat → Int} {r : Nat → Nat} (hr : ∀ k, k < nE b wy → 160 ≤ r k) (h : Rd8 σ b wy r) (e : ∀ a, 147 ≤ a → σ' a = σ a) : Rd8 σ' b wy r := by
  obtain ⟨⟨v1, v2, v3, v4, v5, v6⟩, w, t⟩ := h
  refine ⟨⟨by rw [e 156 (by decide)]; exact v1, by rw [e 156 (by decide)]; exact v2, by rw [e 156 (by decide)]; exact v3, by rw [e _ (by decide)]; exact v4, by rw [e _ (by decide)]; exact v5, fun k hk => ?_⟩, w.fr (fun a p q => e a (by omega)), t.fr (fun a p q => e a (by omega))⟩
  obtain ⟨k1, k2, k3, k4, k5, k6⟩ := v6 k hk
  have := hr k hk
  exact ⟨by rw [e _ (by decide)]; exact k1, k2, k3, k4.fr (fun f _ _ => by rw [e _ (by omega)]) (e _ (by omega)) (e _ (by omega)), by rw [e _ (by omega)]; exact k5, by rw [e _ (by omega)]; exact k6⟩
theorem p6_printLine {σ : st_S} {b : BV} {wy : Nat → Int} {r : Nat → Nat} {a : Nat} (ok : OkB b) (hn : nE b wy ≤ 72) (hr : ∀ k, k < nE b wy → 160 ≤ r k) (h : Rd8 σ b wy r) (ha : a = 4 ∨ a = 6) {l : Nat} (hl : l < nL b wy) {t : TP} (hB : By8 σ a t) (ht : t.1 + 140 ≤ by_n a) :
    ∃ σ', g_X6_printLine 156 (l : Int) a σ = some σ' ∧ By8 σ' a (pl b wy l t) ∧ ∀ c, c ≠ a → c ≠ a + 1 → σ' c = σ c := by
  have o1 := ok.1
  have wle := wl_le ok
  have lL := nL_le b wy
  obtain ⟨q1, q2⟩ := lF_lt hl
  have inn : ∀ k, k < nE b wy → (lnO b wy k = l ↔ lF b wy l ≤ k ∧ k < lF b wy (l + 1)) := fun k hk => fsk_in (lnK_st b wy (sE b wy)) hk
  have hE : ∀ k, k < nE b wy → isE b (sE b wy k) := fun k hk => (h.1.2.2.2.2.2 k hk).2.2.1
  have a12 : adC b wy (lF b wy (l + 1) - lF b wy l) (lF b wy l) (-1) ≤ 12 := by rw [← pc_line ok hE hl]; exact pc_le _
  have x3 := hE _ (show lF b wy l < nE b wy by omega)
  have l5 := en_le ok wy x3
  unfold pl
  generalize hX : sE b wy (lF b wy l) = X at *
  have o2 := ok.2.1 X.1 x3.1
  have xs := x3.1
  have lead : lw b X < (wl b).1 := (tw_spec ok x3.1 x3.2).2.1
  -- a frame
  have fr : ∀ {σ' : st_S}, (∀ c, c ≠ a → c ≠ a + 1 → σ' c = σ c) → Rd8 σ' b wy r := fun e => h.fr hr (fun c hc => e c (by omega) (by omega))
  -- names
  have wa : ∀ k, k < nA b wy X → wA b wy X k < (wl b).1 := fun k hk => (tw_spec ok x3.1 (pA_lt ok wy x3 hk).1).2.1
  have wb : ∀ k, k < nB b wy X → wB b wy X k < (wl b).1 := fun k hk => (tw_spec ok x3.1 (pB_lt ok wy x3 hk).1).2.1
  -- addresses
  have adr : ∀ (c k : Nat) (v : Int) (t : TP) (σ : st_S), k + c = lF b wy (l + 1) → lF b wy l ≤ k → (∀ j, k ≤ j → j < lF b wy (l + 1) → v ≤ agr b wy j) → By8 σ a t → t.1 + 4 * adC b wy c k v ≤ by_n a → Rd8 σ b wy r → ∃ σ', (∀ n, c < n → g_X6_printAddresses_L10 n 156 (l : Int) a v (k : Int) σ = some σ') ∧ By8 σ' a (dPp b wy c k v t) ∧ ∀ c, c ≠ a → c ≠ a + 1 → σ' c = σ c := by
    intro c
    induction c with
    | zero =>
      intro k v t σ hk hp hv hB ht hR
      refine ⟨σ, fun n hn => ?_, hB, fun _ _ _ => rfl⟩
      obtain ⟨m, rfl⟩ : ∃ m, n = m + 1 := ⟨n - 1, by omega⟩
      have f2 : σ 158 (l + 1) = (lF b wy (l + 1) : Int) := hR.1.2.2.2.1 (l + 1) (by omega)
      rw [g_X6_printAddresses_L10, w32s (by omega)]
      simp only [Nat.reduceAdd]
      rw [sa_ld_of (by omega) (by omega), Option.bind_some, Int.toNat_natCast, f2, if_pos (by omega)]
    | succ c ih =>
      intro k v t σ hk hp hv hB ht hR
      have f2 : σ 158 (l + 1) = (lF b wy (l + 1) : Int) := hR.1.2.2.2.1 (l + 1) (by omega)
      obtain ⟨k1, k2, k3, k4, k5, k6⟩ := hR.1.2.2.2.2.2 k (by omega)
      have k1 : σ 157 k = (r k : Int) := k1
      have ea : σ (r k) 1 = agr b wy k := k4.2.1
      have vk := hv k (by omega) (by omega)
      have ai := agr_in ok hE (show k < nE b wy by omega)
      have ln : lnO b wy k = l := (inn k (by omega)).mpr ⟨hp, by omega⟩
      have start : ∀ n, g_X6_printAddresses_L10 (n + 1) 156 (l : Int) a v (k : Int) σ = if agr b wy k = v then g_X6_printAddresses_L10 n 156 (l : Int) a v ((k + 1 : Nat) : Int) σ else g_X6_printAddresses_J57 (g_X6_printAddresses_L10 n) 156 (l : Int) a (k : Int) (agr b wy k) (if v = -1 then 32 else 44) a σ := by
        intro n
        rw [g_X6_printAddresses_L10, w32s (by omega)]
        simp only [Nat.reduceAdd]
        rw [sa_ld_of (by omega) (by omega), Option.bind_some, Int.toNat_natCast, f2, if_neg (by omega), sa_ld_of (by omega) (by omega), Option.bind_some, Int.toNat_natCast, k1, k2, Option.bind_some, ea]
        unfold g_X6_printAddresses_J69
        rw [w32s (by omega)]
        by_cases z : agr b wy k = v
        · rw [if_pos z, if_pos z]
        · rw [if_neg z, if_neg z]
          by_cases z2 : v = -1
          · rw [if_pos z2, if_pos z2]
          · rw [if_neg z2, if_neg z2]
      rw [dPp]
      rw [adC] at ht
      by_cases e : agr b wy k = v
      · rw [if_pos (by omega)] at ht ⊢
        obtain ⟨σ', s1, s2, s3⟩ := ih (k + 1) v t σ (by omega) (by omega) (fun j j1 j2 => hv j (by omega) j2) hB ht hR
        refine ⟨σ', fun n hn => ?_, s2, s3⟩
        obtain ⟨m, rfl⟩ : ∃ m, n = m + 1 := ⟨n - 1, by omega⟩
        rw [start, if_pos e]; exact s1 m (by omega)
      · rw [if_neg (by omega)] at ht ⊢
        obtain ⟨s1, a1, a2, a3⟩ := q1_put hB (by omega) (if v = -1 then 32 else 44)
        obtain ⟨s2, b1, b2, b3⟩ := q1_putAddress a2 (by rw [tp1]; omega) ai
        have al := aP_le (t := tpush t (if v = -1 then 32 else 44)) (v := agr b wy k)
        simp only [tp1] at al
        have f12 : ∀ c, c ≠ a → c ≠ a + 1 → s2 c = σ c := fun c x y => by rw [b3 c x y, a3 c x y]
        obtain ⟨σ', r1, r2, r3⟩ := ih (k + 1) (agr b wy k) _ s2 (by omega) (by omega) (fun j j1 j2 => agr_le hE (by omega) (by omega) (by rw [ln, (inn j (by omega)).mpr ⟨by omega, j2⟩])) b2 (by omega) (hR.fr hr (fun c hc => f12 c (by omega) (by omega)))
        refine ⟨σ', fun n hn => ?_, r2, fun c x y => by rw [r3 c x y, f12 c x y]⟩
        obtain ⟨m, rfl⟩ : ∃ m, n = m + 1 := ⟨n - 1, by omega⟩
        rw [start, if_neg e]
        unfold g_X6_printAddresses_J57 g_X6_printAddresses_J69
        rw [a1, Option.bind_some, b1, Option.bind_some, w32s (by omega)]; exact r1 m (by omega)
  -- below
  have rowB : ∀ (K : Nat → Int → Nat → st_S → Option st_S) (c k : Nat) (t : TP) (σ : st_S), k + c = nB b wy X → By8 σ a t → t.1 + 17 * c ≤ by_n a → Rd8 σ b wy r → ∃ σ', (∀ n, c < n → g_X6_printLine_L31 K n 156 (l : Int) a (r (lF b wy l)) ((nA b wy X + k : Nat) : Int) σ = K 156 (l : Int) a σ') ∧ By8 σ' a (rBp b wy X c k t) ∧ ∀ c, c ≠ a → c ≠ a + 1 → σ' c = σ c := by
    intro K c
    induction c with
    | zero =>
      intro k t σ hk hB ht hR
      obtain ⟨k1, k2, k3, k4, k5, k6⟩ := hR.1.2.2.2.2.2 (lF b wy l) (by omega)
      rw [hX] at k4
      refine ⟨σ, fun n hn => ?_, hB, fun _ _ _ => rfl⟩
      obtain ⟨m, rfl⟩ : ∃ m, n = m + 1 := ⟨n - 1, by omega⟩
      rw [g_X6_printLine_L31, k4.h7, if_pos (by omega)]
    | succ c ih =>
      intro k t σ hk hB ht hR
      obtain ⟨k1, k2, k3, k4, k5, k6⟩ := hR.1.2.2.2.2.2 (lF b wy l) (by omega)
      rw [hX] at k4
      obtain ⟨m1, m2⟩ := k4.rb (show k < nB b wy X by omega)
      have pl := (pB_lt ok wy x3 (show k < nB b wy X by omega)).1
      have wk := wb k (by omega)
      have tk := (hR.2.2.2 X.1 x3.1).2 _ pl
      have nm := (un_nm ok x3.1 pl).2.1
      obtain ⟨s1, a1, a2, a3⟩ := q6_joinB hB (by omega) (if k = 0 then 58 else 46) (wl_nm ok wk).1 nm
      have jl := jB_le t (if k = 0 then 58 else 46) (un b 3 X.1 (pB b wy X k)) ((wl b).2 (wB b wy X k))
      obtain ⟨σ', r1, r2, r3⟩ := ih (k + 1) _ s1 (by omega) a2 (by omega) (hR.fr hr (fun c hc => a3 c (by omega) (by omega)))
      refine ⟨σ', fun n hn => ?_, r2, fun c x y => by rw [r3 c x y, a3 c x y]⟩
      obtain ⟨m, rfl⟩ : ∃ m, n = m + 1 := ⟨n - 1, by omega⟩
      have j123 : ∀ sg : Int, sg = (if k = 0 then 58 else 46) → g_X6_printLine_J123 (g_X6_printLine_L31 K m) K 156 (l : Int) a (r (lF b wy l)) ((nA b wy X + k : Nat) : Int) ((6 * X.1 + pB b wy X k : Nat) : Int) ((wl b).2 (wB b wy X k)) sg a σ = K 156 (l : Int) a σ' := by
        intro sg hsg
        unfold g_X6_printLine_J123 g_X6_printLine_J135
        rw [sa_ld_of (by omega) (by omega), Option.bind_some, Int.toNat_natCast, tk.2.2.1, hsg, a1, Option.bind_some, w32s (by omega), Nat.add_assoc]
        exact r1 m (by omega)
      rw [g_X6_printLine_L31, k4.h7, if_neg (by omega), sa_ld_of (by omega) (by omega), Option.bind_some, sa_ld_of (by omega) (by omega), Option.bind_some, Int.toNat_natCast, m1, m2, sa_ld_of (by omega) (by omega), Option.bind_some, Int.toNat_natCast, (hR.2.1.m ok wk).1, k4.2.2.2.2.1, if_pos (by omega), k4.1, w6 (by omega) (by omega)]
      by_cases z : k = 0
      · rw [if_pos (by omega)]; exact j123 58 (by rw [if_pos z])
      · rw [if_neg (by omega)]; exact j123 46 (by rw [if_neg z])
  -- above
  have rowA : ∀ (K : Nat → Int → Nat → st_S → Option st_S) (c k : Nat) (t : TP) (σ : st_S), k + c = nA b wy X → By8 σ a t → t.1 + 17 * c ≤ by_n a → Rd8 σ b wy r → ∃ σ', (∀ n, g_X6_printLine_L31 K (n + c) 156 (l : Int) a (r (lF b wy l)) (k : Int) σ = g_X6_printLine_L31 K n 156 (l : Int) a (r (lF b wy l)) ((nA b wy X : Nat) : Int) σ') ∧ By8 σ' a (rAp b wy X c k t) ∧ ∀ c, c ≠ a → c ≠ a + 1 → σ' c = σ c := by
    intro K c
    induction c with
    | zero =>
      intro k t σ hk hB ht hR
      have : k = nA b wy X := by omega
      subst this
      exact ⟨σ, fun n => rfl, hB, fun _ _ _ => rfl⟩
    | succ c ih =>
      intro k t σ hk hB ht hR
      obtain ⟨k1, k2, k3, k4, k5, k6⟩ := hR.1.2.2.2.2.2 (lF b wy l) (by omega)
      rw [hX] at k4
      obtain ⟨m1, m2⟩ := k4.ra (show k < nA b wy X by omega)
      have pl := (pA_lt ok wy x3 (show k < nA b wy X by omega)).1
      have wk := wa k (by omega)
      have tk := (hR.2.2.2 X.1 x3.1).2 _ pl
      have nm := (un_nm ok x3.1 pl).2.2
      obtain ⟨s1, a1, a2, a3⟩ := q6_joinA hB (by omega) (wl_nm ok wk).1 nm
      have jl := jA_le t ((wl b).2 (wA b wy X k)) (un b 4 X.1 (pA b wy X k))
      obtain ⟨σ', r1, r2, r3⟩ := ih (k + 1) _ s1 (by omega) a2 (by omega) (hR.fr hr (fun c hc => a3 c (by omega) (by omega)))
      refine ⟨σ', fun n => ?_, r2, fun c x y => by rw [r3 c x y, a3 c x y]⟩
      rw [show n + (c + 1) = (n + c) + 1 by omega, g_X6_printLine_L31, k4.h7, if_neg (by omega), sa_ld_of (by omega) (by omega), Option.bind_some, sa_ld_of (by omega) (by omega), Option.bind_some, Int.toNat_natCast, m1, m2, sa_ld_of (by omega) (by omega), Option.bind_some, Int.toNat_natCast, (hR.2.1.m ok wk).1, k4.2.2.2.2.1, if_neg (by omega), k4.1, w6 (by omega) (by omega), sa_ld_of (by omega) (by omega), Option.bind_some, Int.toNat_natCast, tk.2.2.2, a1, Option.bind_some]
      unfold g_X6_printLine_J135
      rw [w32s (by omega)]
      exact r1 n
  obtain ⟨k1, k2, k3, k4, k5, k6⟩ := h.1.2.2.2.2.2 (lF b wy l) (by omega)
  rw [hX] at k4
  have k1 : σ 157 (lF b wy l) = (r (lF b wy l) : Int) := k1
  have f1 : σ 158 l = (lF b wy l : Int) := h.1.2.2.2.1 l (by omega)
  obtain ⟨s1, a1, a2, a3⟩ := q1_putName hB (by omega) (wl_nm ok lead).1.1
  have w1 := wp_le t ((wl b).2 (lw b X))
  obtain ⟨s2, b1, b2, b3⟩ := rowA (fun w141_0 w141_1 w141_4 σx141 => (g_X6_printAddresses w141_0 w141_1 w141_4 σx141).bind fun q5 => some q5) (nA b wy X) 0 _ s1 (by omega) a2 (by omega) (fr a3)
  have w2 := rAp_le (b := b) (wy := wy) (x := X) (nA b wy X) 0 (wp t ((wl b).2 (lw b X)))
  have f2 : ∀ c, c ≠ a → c ≠ a + 1 → s2 c = σ c := fun c x y => by rw [b3 c x y, a3 c x y]
  obtain ⟨s3, c1, c2, c3⟩ := rowB (fun w141_0 w141_1 w141_4 σx141 => (g_X6_printAddresses w141_0 w141_1 w141_4 σx141).bind fun q5 => some q5) (nB b wy X) 0 _ s2 (by omega) b2 (by omega) (fr f2)
  have w3 := rBp_le (b := b) (wy := wy) (x := X) (nB b wy X) 0 (rAp b wy X (nA b wy X) 0 (wp t ((wl b).2 (lw b X))))
  have f3 : ∀ c, c ≠ a → c ≠ a + 1 → s3 c = σ c := fun c x y => by rw [c3 c x y, f2 c x y]
  obtain ⟨s4, d1, d2, d3⟩ := adr (lF b wy (l + 1) - lF b wy l) (lF b wy l) (-1) _ s3 (by omega) (Nat.le_refl _) (fun j j1 j2 => by have := agr_in ok hE (show j < nE b wy by omega); omega) c2 (by omega) (fr f3)
  refine ⟨s4, ?_, d2, fun c x y => by rw [d3 c x y, f3 c x y]⟩
  have e158 : s3 158 l = (lF b wy l : Int) := by rw [f3 158 (by omega) (by omega)]; exact f1
  have z0 := b1 (99999 - nA b wy X + 1)
  rw [show 99999 - nA b wy X + 1 + nA b wy X = ab_FU by show _ = 100000; omega] at z0
  unfold g_X6_printLine
  simp only [Nat.reduceAdd]
  rw [sa_ld_of (by omega) (by omega), Option.bind_some, Int.toNat_natCast, f1, sa_ld_of (by omega) (by omega), Option.bind_some, Int.toNat_natCast, k1, k2, Option.bind_some, k4.2.2.2.1, sa_ld_of (by omega) (by omega), Option.bind_some, Int.toNat_natCast, (h.2.1.m ok lead).1, a1, Option.bind_some]
  refine z0.trans ((c1 _ (by omega)).trans ?_)
  unfold g_X6_printAddresses
  simp only [Nat.reduceAdd]
  rw [sa_ld_of (by omega) (by omega), Option.bind_some, Int.toNat_natCast, e158, d1 ab_FU (by show _ < 100000; omega)]; rfl
