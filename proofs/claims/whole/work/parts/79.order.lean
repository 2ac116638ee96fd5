/-! entries of the class: compared, put in order -/
def E8 (σ : st_S) (e : Nat) (b : BV) (wy : Nat → Int) (x : Nat × Nat) : Prop := σ e 0 = (x.1 : Int) ∧ σ e 1 = badr b x.1 ∧ σ e 2 = (x.2 : Int) ∧ σ e 3 = (lw b x : Int) ∧ σ e 6 = (nA b wy x : Int) ∧ Q8 σ e (tw b x.1) (en b wy x)
section E8S
variable {σ : st_S} {e : Nat} {b : BV} {wy : Nat → Int} {x : Nat × Nat}
theorem E8.h7 (h : E8 σ e b wy x) : σ e 7 = ((nA b wy x + nB b wy x : Nat) : Int) := h.2.2.2.2.2.1
theorem E8.h8 (h : E8 σ e b wy x) : σ e 8 = (gG b wy x : Int) := h.2.2.2.2.2.2.1
theorem E8.ra (h : E8 σ e b wy x) {k : Nat} (hk : k < nA b wy x) : σ (e + 1) k = (pA b wy x k : Int) ∧ σ (e + 2) k = (wA b wy x k : Int) := by
  have q := h.2.2.2.2.2.2.2 k (Nat.lt_of_lt_of_le hk (Nat.le_add_right _ _))
  have ef : cbf (en b wy x) k = pA b wy x k := if_pos hk
  rw [ef] at q; exact q
theorem E8.rb (h : E8 σ e b wy x) {k : Nat} (hk : k < nB b wy x) : σ (e + 1) (nA b wy x + k) = (pB b wy x k : Int) ∧ σ (e + 2) (nA b wy x + k) = (wB b wy x k : Int) := by
  have q := h.2.2.2.2.2.2.2 (nA b wy x + k) (Nat.add_lt_add_left hk _)
  have ef : cbf (en b wy x) (nA b wy x + k) = pB b wy x k := by
    refine (if_neg (by show ¬ nA b wy x + k < nA b wy x; omega)).trans ?_
    show pB b wy x (nA b wy x + k - nA b wy x) = _
    rw [Nat.add_sub_cancel_left]
  rw [ef] at q; exact q
theorem E8.fr {σ' : st_S} (h : E8 σ e b wy x) (h0 : ∀ f, f ≠ 9 → f ≠ 10 → σ' e f = σ e f) (h1 : σ' (e + 1) = σ (e + 1)) (h2 : σ' (e + 2) = σ (e + 2)) : E8 σ' e b wy x := by
  obtain ⟨a0, a1, a2, a3, a6, a7, a8, a9⟩ := h
  refine ⟨by rw [h0 _ (by decide) (by decide)]; exact a0, by rw [h0 _ (by decide) (by decide)]; exact a1, by rw [h0 _ (by decide) (by decide)]; exact a2, by rw [h0 _ (by decide) (by decide)]; exact a3, by rw [h0 _ (by decide) (by decide)]; exact a6, by rw [h0 _ (by decide) (by decide)]; exact a7, by rw [h0 _ (by decide) (by decide)]; exact a8, ?_⟩
  rw [h1, h2]; exact a9
end E8S
theorem tw_lt {b : BV} (ok : OkB b) {s i : Nat} (hs : s < bn b) (hi : i < bsz b s) : tw b s i < 72 := Nat.lt_of_lt_of_le (tw_spec ok hs hi).2.1 (wl_le ok)
theorem p2_cr {σ : st_S} {e e' a : Nat} {fa fb : Nat → Nat} {na nb : Nat} (h1 : ∀ k, k < na → σ (e + 2) (a + k) = (fa k : Int)) (h2 : ∀ k, k < nb → σ (e' + 2) (a + k) = (fb k : Int)) (b1 : ∀ k, k < na → fa k < 72) (b2 : ∀ k, k < nb → fb k < 72) (hn : a + na ≤ 6) (hn' : a + nb ≤ 6) :
    ∀ (c k n : Nat), c < n → na < k + c → k ≤ 7 → g_X2_compareRows_L3 (fun w33_0 w33_1 w33_5 σx33 =>
    (sa_ld σx33 (w33_0 + 2) 6 w33_5).bind fun t1 =>
    (sa_ld σx33 (w33_1 + 2) 6 w33_5).bind fun t2 =>
    some (ab_w32 (t1 - t2), σx33)) n e e' ((a + na : Nat) : Int) ((a + nb : Nat) : Int) ((a + k : Nat) : Int) σ = some (crl fa fb na nb c k, σ) := by
  have w0 : ab_w32 (((a + na : Nat) : Int) - ((a + nb : Nat) : Int)) = (na : Int) - nb := by unfold ab_w32; omega
  intro c
  induction c with
  | zero =>
    intro k n hn1 hk h7
    obtain ⟨m, rfl⟩ : ∃ m, n = m + 1 := ⟨n - 1, by omega⟩
    rw [g_X2_compareRows_L3, if_pos (by omega), w0, crl]
  | succ c ih =>
    intro k n hn1 hk h7
    obtain ⟨m, rfl⟩ : ∃ m, n = m + 1 := ⟨n - 1, by omega⟩
    rw [g_X2_compareRows_L3, crl]
    by_cases hc : na ≤ k ∨ nb ≤ k
    · rw [if_pos hc]
      by_cases hc1 : na ≤ k
      · rw [if_pos (by omega), w0]
      · rw [if_neg (by omega), if_pos (by omega), w0]
    · have e1 := h1 k (by omega)
      have e2 := h2 k (by omega)
      have e3 := b1 k (by omega)
      have e4 := b2 k (by omega)
      rw [if_neg hc, if_neg (by omega), if_neg (by omega), sa_ld_of (by omega) (by omega), Option.bind_some, sa_ld_of (by omega) (by omega), Option.bind_some, Int.toNat_natCast, e1, e2]
      by_cases he : fa k = fb k
      · rw [if_pos (by omega), if_pos he, w32s (by omega)]
        exact ih (k + 1) m (by omega) (by omega) (by omega)
      · rw [if_neg (by omega), if_neg he, Option.bind_some, Option.bind_some, w32i (by omega) (by omega)]
section EC8
variable {σ : st_S} {e e' : Nat} {b : BV} {wy : Nat → Int} {x y : Nat × Nat}
theorem p2_compareWords (ok : OkB b) (hx : isE b x) (hy : isE b y) (h : E8 σ e b wy x) (h' : E8 σ e' b wy y) : g_X2_compareWords e e' σ = some (cW b wy x y, σ) := by
  have lx := en_le ok wy hx
  have ly := en_le ok wy hy
  have bx := tw_lt ok hx.1 hx.2
  have by' := tw_lt ok hy.1 hy.2
  have bA : ∀ {z : Nat × Nat}, isE b z → ∀ k, k < nA b wy z → wA b wy z k < 72 := fun hz k hk => tw_lt ok hz.1 (pA_lt ok wy hz hk).1
  have bB : ∀ {z : Nat × Nat}, isE b z → ∀ k, k < nB b wy z → wB b wy z k < 72 := fun hz k hk => tw_lt ok hz.1 (pB_lt ok wy hz hk).1
  have rA : g_X2_compareRows e e' 0 (nA b wy x : Int) (nA b wy y : Int) σ = some (crw (wA b wy x) (wA b wy y) (nA b wy x) (nA b wy y), σ) := by
    have q := p2_cr (σ := σ) (e := e) (e' := e') (a := 0) (fa := wA b wy x) (fb := wA b wy y) (na := nA b wy x) (nb := nA b wy y) (fun k hk => by rw [Nat.zero_add]; exact (h.ra hk).2) (fun k hk => by rw [Nat.zero_add]; exact (h'.ra hk).2) (bA hx) (bA hy) (by omega) (by omega) 7 0 ab_FU (by show _ < 100000; omega) (by omega) (by omega)
    simp only [Nat.zero_add] at q
    exact q
  unfold g_X2_compareWords cW
  rw [h.2.2.2.1, h'.2.2.2.1, h.2.2.2.2.1, h'.2.2.2.2.1]
  by_cases el : lw b x = lw b y
  · rw [if_pos (by omega), if_pos el, rA, Option.bind_some]
    dsimp only
    by_cases ea : crw (wA b wy x) (wA b wy y) (nA b wy x) (nA b wy y) = 0
    · have en := ((crw0 (by omega)).mp ea).1
      have q := p2_cr (σ := σ) (e := e) (e' := e') (a := nA b wy x) (fa := wB b wy x) (fb := wB b wy y) (na := nB b wy x) (nb := nB b wy y) (fun k hk => (h.rb hk).2) (fun k hk => by rw [en]; exact (h'.rb hk).2) (bB hx) (bB hy) (by omega) (by omega) 7 0 ab_FU (by show _ < 100000; omega) (by omega) (by omega)
      rw [Nat.add_zero] at q
      rw [if_pos ea, if_pos ea, h.2.2.2.2.1, h.h7, h'.h7, ← en]
      unfold g_X2_compareRows
      rw [q]; rfl
    · rw [if_neg ea, if_neg ea]
  · unfold lw at el ⊢
    rw [if_neg (by omega), if_neg el, w32i (by omega) (by omega)]
theorem cW_i {b : BV} (ok : OkB b) (wy : Nat → Int) {x y : Nat × Nat} (hx : isE b x) (hy : isE b y) : True := trivial
theorem p2_compare (ok : OkB b) (hx : isE b x) (hy : isE b y) (h : E8 σ e b wy x) (h' : E8 σ e' b wy y) : g_X2_compare e e' σ = some (cE b wy x y, σ) := by
  have ax := ok.2.1 x.1 hx.1
  have ay := ok.2.1 y.1 hy.1
  have ix := hx.2
  have iy := hy.2
  unfold g_X2_compare cE
  rw [p2_compareWords ok hx hy h h', Option.bind_some]
  dsimp only
  unfold g_X2_compare_J20
  rw [h.2.1, h'.2.1, h.2.2.1, h'.2.2.1, w32i (x := badr b x.1 - badr b y.1) (by omega) (by omega), w32i (x := (x.2 : Int) - y.2) (by omega) (by omega)]
  by_cases ec : cW b wy x y = 0
  · rw [if_pos ec, if_pos ec]
    by_cases eb : badr b x.1 - badr b y.1 = 0
    · rw [if_pos eb, if_pos eb]
    · rw [if_neg eb, if_neg eb]
  · rw [if_neg ec, if_neg ec, if_neg ec]
end EC8
/-! in order -/
abbrev OR : Type := Nat × (Nat → Nat × Nat)
def cpos (b : BV) (wy : Nat → Int) (f : Nat → Nat × Nat) (x : Nat × Nat) : Nat → Nat
  | 0 => 0
  | k + 1 => if 0 < cE b wy (f k) x then cpos b wy f x k else k + 1
theorem cpos_le (b : BV) (wy : Nat → Int) (f : Nat → Nat × Nat) (x : Nat × Nat) : ∀ k, cpos b wy f x k ≤ k := by
  intro k
  induction k with
  | zero => exact Nat.le_refl _
  | succ k ih => rw [cpos]; split <;> omega
def sIns (b : BV) (wy : Nat → Int) (t : OR) (x : Nat × Nat) : OR := (t.1 + 1, insG t.2 (cpos b wy t.2 x t.1) x)
def elI (b : BV) (s : Nat) : Nat → Nat → List (Nat × Nat)
  | 0, _ => []
  | c + 1, i => if btm b 1 s i = 1 then (s, i) :: elI b s c (i + 1) else elI b s c (i + 1)
def elS (b : BV) : Nat → Nat → List (Nat × Nat)
  | 0, _ => []
  | c + 1, s => elI b s (bsz b s) 0 ++ elS b c (s + 1)
def el (b : BV) : List (Nat × Nat) := elS b (bn b) 0
def so (b : BV) (wy : Nat → Int) : OR := (el b).foldl (sIns b wy) (0, fun _ => (0, 0))
/-- a place of an entry of the turning a -/
def OkR (a e : Nat) : Prop := a + 4 ≤ e ∧ e ≤ a + 217 ∧ (e - (a + 4)) % 3 = 0
theorem OkR.en {a e : Nat} (ha : isTu a = true) (h : OkR a e) : isEn e = true := by
  obtain ⟨h1, h2, h3⟩ := h
  unfold isEn
  apply decide_eq_true
  rcases tu_of ha with rfl | rfl
  · left; omega
  · right; omega
theorem sa_en_of {e : Nat} (h : isEn e = true) : sa_en (e : Int) = some e := by
  unfold sa_en
  rw [if_pos ⟨by omega, by rw [Int.toNat_natCast]; exact h⟩, Int.toNat_natCast]
def SL (σ : st_S) (a : Nat) (r : Nat → Nat) : Prop := (∀ k, k < 72 → σ (a + 1) k = (r k : Int) ∧ OkR a (r k)) ∧ ∀ j k, j < 72 → k < 72 → r j = r k → j = k
theorem SL.far {σ : st_S} {a : Nat} {r : Nat → Nat} (h : SL σ a r) {j k : Nat} (hj : j < 72) (hk : k < 72) (hn : j ≠ k) : r j ≠ r k ∧ r j ≠ r k + 1 ∧ r j ≠ r k + 2 ∧ r j + 1 ≠ r k ∧ r j + 2 ≠ r k ∧ r j + 1 ≠ r k + 2 ∧ r j + 2 ≠ r k + 1 := by
  have a1 := (h.1 j hj).2
  have a2 := (h.1 k hk).2
  unfold OkR at a1 a2
  have : r j ≠ r k := fun q => hn (h.2 j k hj hk q)
  omega
def TS (σ : st_S) (a : Nat) (b : BV) (wy : Nat → Int) (r : Nat → Nat) (t : OR) : Prop := σ a 1 = (t.1 : Int) ∧ SL σ a r ∧ ∀ k, k < t.1 → isE b (t.2 k) ∧ E8 σ (r k) b wy (t.2 k)
theorem p6_shift {a : Nat} (ha : isTu a = true) {b : BV} (ok : OkB b) {wy : Nat → Int} {r : Nat → Nat} {t : OR} {e : Nat} {x : Nat × Nat} (hx : isE b x) (he : OkR a e) (ht : t.1 < 72) (hr : ∀ k, k < 72 → OkR a (r k)) (hne : ∀ k, k < t.1 → isE b (t.2 k)) :
    ∀ (p : Nat), p ≤ t.1 → ∀ σ : st_S, (∀ j, j < p → σ (a + 1) j = (r j : Int)) → E8 σ e b wy x → (∀ k, k < t.1 → E8 σ (r k) b wy (t.2 k)) →
    ∃ σ', (∀ (k : Nat → Nat → Int → st_S → Option st_S) (n : Nat), p < n → g_X6_addEntry_L74 k n a e (p : Int) σ = k a e (cpos b wy t.2 x p : Nat) σ') ∧ (∀ j, j < cpos b wy t.2 x p → σ' (a + 1) j = (r j : Int)) ∧ (∀ j, cpos b wy t.2 x p < j → j ≤ p → σ' (a + 1) j = (r (j - 1) : Int)) ∧ (∀ j, p < j → σ' (a + 1) j = σ (a + 1) j) ∧ ∀ c, c ≠ a + 1 → σ' c = σ c := by
  intro p
  induction p with
  | zero =>
    intro _ σ _ _ _
    refine ⟨σ, fun k n hn => ?_, fun j hj => absurd hj (Nat.not_lt_zero _), fun j h1 h2 => by omega, fun _ _ => rfl, fun _ _ => rfl⟩
    obtain ⟨m, rfl⟩ : ∃ m, n = m + 1 := ⟨n - 1, by omega⟩
    rw [g_X6_addEntry_L74, if_pos (by omega)]; rfl
  | succ p ih =>
    intro hp σ hσ hE hT
    have r1 := hσ p (by omega)
    have r2 := sa_en_of ((hr p (by omega)).en ha)
    have r3 := p2_compare ok (hne p (by omega)) hx (hT p (by omega)) hE
    unfold OkR at he hr
    by_cases ec : 0 < cE b wy (t.2 p) x
    · have ei : cpos b wy t.2 x (p + 1) = cpos b wy t.2 x p := by rw [cpos, if_pos ec]
      have hl := cpos_le b wy t.2 x p
      have fr : ∀ c, c ≠ a + 1 → up2 σ (a + 1) (p + 1) (r p : Int) c = σ c := fun c hc => up2_o _ _ hc
      obtain ⟨σ', k1, k2, k3, k4, k5⟩ := ih (by omega) (up2 σ (a + 1) (p + 1) (r p : Int)) (fun j hj => by rw [up2_ne _ _ (by omega)]; exact hσ j (by omega)) (hE.fr (fun f _ _ => by rw [fr _ (by omega)]) (fr _ (by omega)) (fr _ (by omega))) (fun k hk => by have := hr k (by omega); exact (hT k hk).fr (fun f _ _ => by rw [fr _ (by omega)]) (fr _ (by omega)) (fr _ (by omega)))
      refine ⟨σ', fun k n hn => ?_, fun j hj => k2 j (by omega), fun j h1 h2 => ?_, fun j hj => ?_, fun c hc => ?_⟩
      · obtain ⟨m, rfl⟩ : ∃ m, n = m + 1 := ⟨n - 1, by omega⟩
        rw [g_X6_addEntry_L74, ei]
        repeat (first | rw [Option.bind_some] | dsimp only | rw [r1] | rw [r2] | rw [r3] | rw [k1 k m (by omega)] | rw [Int.toNat_natCast] | rw [w32s (by omega)] | rw [w32p (by omega)] | rw [w32q (by omega)] | rw [w32i (by omega) (by omega)] | rw [sa_ld_of (by omega) (by omega)] | rw [sa_st_of (by omega) (by omega)] | rw [if_pos (by omega)] | rw [if_neg (by omega)] | rw [if_neg one0] | rw [if_pos rfl])
      · by_cases ej : j = p + 1
        · subst ej; rw [k4 _ (by omega), up2_at, Nat.add_sub_cancel]
        · exact k3 j (by omega) (by omega)
      · rw [k4 j (by omega), up2_ne _ _ (by omega)]
      · rw [k5 c hc, fr c hc]
    · have ei : cpos b wy t.2 x (p + 1) = p + 1 := by rw [cpos, if_neg ec]
      refine ⟨σ, fun k n hn => ?_, fun j hj => hσ j (by omega), fun j h1 h2 => by omega, fun _ _ => rfl, fun _ _ => rfl⟩
      obtain ⟨m, rfl⟩ : ∃ m, n = m + 1 := ⟨n - 1, by omega⟩
      rw [g_X6_addEntry_L74, ei]
      repeat (first | rw [Option.bind_some] | dsimp only | rw [r1] | rw [r2] | rw [r3] | rw [Int.toNat_natCast] | rw [w32s (by omega)] | rw [w32p (by omega)] | rw [w32q (by omega)] | rw [w32i (by omega) (by omega)] | rw [sa_ld_of (by omega) (by omega)] | rw [sa_st_of (by omega) (by omega)] | rw [if_pos (by omega)] | rw [if_neg (by omega)] | rw [if_neg one0] | rw [if_pos rfl])
/-- the book's cells that a turning reads -/
def BK (σ : st_S) (a1 : Nat) (b : BV) (wy : Nat → Int) : Prop := σ a1 0 = (bn b : Int) ∧ (∀ s, s < bn b → σ (a1 + 1) s = badr b s ∧ σ (a1 + 2) s = (bsz b s : Int) ∧ ∀ i, i < bsz b s → σ (a1 + 3) (6 * s + i) = btm b 0 s i ∧ σ (a1 + 4) (6 * s + i) = btm b 1 s i) ∧ ∀ r, r < 6 → σ (a1 + 8) r = wy r
theorem BK.fr {σ σ' : st_S} {a1 : Nat} {b : BV} {wy : Nat → Int} (h : BK σ a1 b wy) (e : ∀ k, k < 9 → σ' (a1 + k) = σ (a1 + k)) : BK σ' a1 b wy := by
  have e0 : σ' a1 = σ a1 := e 0 (by decide)
  unfold BK
  rw [e0, e 1 (by decide), e 2 (by decide), e 3 (by decide), e 4 (by decide), e 8 (by decide)]; exact h
theorem RB8.bk {σ : st_S} {a1 : Nat} {b : BV} (h : RB8 σ a1 b) : BK σ a1 b (bwy b) :=
  ⟨h.1, fun s hs => ⟨(h.2.1 s hs).1, (h.2.1 s hs).2, fun i hi => ⟨h.2.2.1 s hs i hi 0 (by decide), h.2.2.1 s hs i hi 1 (by decide)⟩⟩, h.2.2.2.1⟩
def rIns (r : Nat → Nat) (n p : Nat) : Nat → Nat := fun j => if j < p then r j else if j = p then r n else if j ≤ n then r (j - 1) else r j
theorem p6_addEntry {a a1 : Nat} (ha : isTu a = true) (h1a : a1 + 8 < 147) {b : BV} (ok : OkB b) {wy : Nat → Int} {r : Nat → Nat} {t : OR} {x : Nat × Nat} (hx : isE b x) {σ : st_S} (hS : TS σ a b wy r t) (hB : BK σ a1 b wy) (hT : T8 σ b) (ht : t.1 < 72) :
    ∃ σ' r', g_X6_addEntry a a1 (x.1 : Int) (x.2 : Int) σ = some σ' ∧ TS σ' a b wy r' (sIns b wy t x) ∧ ∀ c, (c < a ∨ a + 219 < c) → σ' c = σ c := by
  have o1 := ok.1
  have o2 := ok.2.1 x.1 hx.1
  have o3 := (ok.2.2.2.1 x.1 hx.1 x.2 hx.2).1
  have hx1 := hx.1
  have hx2 := hx.2
  obtain ⟨t1, tS, tE⟩ := hS
  have har : a = 156 ∨ a = 376 := tu_of ha
  have hr := (tS.1 t.1 ht).2
  have hra : ∀ k, k < 72 → OkR a (r k) := fun k hk => (tS.1 k hk).2
  have en1 := sa_en_of (hr.en ha)
  generalize hee : r t.1 = e at hr en1
  have hr' := hr
  unfold OkR at hr'
  have b1 := (hB.2.1 x.1 hx.1).1
  have b3 := ((hB.2.1 x.1 hx.1).2.2 x.2 hx.2).1
  have b8 := hB.2.2 (btm b 0 x.1 x.2).toNat (by omega)
  generalize hσ3 : up2 (up2 (up2 σ e 0 (x.1 : Int)) e 1 (badr b x.1)) e 2 (x.2 : Int) = σ3
  have f3 : ∀ c, c ≠ e → σ3 c = σ c := fun c hc => by rw [← hσ3, up2_o _ _ hc, up2_o _ _ hc, up2_o _ _ hc]
  have g0 : σ3 e 0 = (x.1 : Int) := by rw [← hσ3, up2_ne _ _ (by omega), up2_ne _ _ (by omega), up2_at]
  have g1 : σ3 e 1 = badr b x.1 := by rw [← hσ3, up2_ne _ _ (by omega), up2_at]
  have g2 : σ3 e 2 = (x.2 : Int) := by rw [← hσ3, up2_at]
  obtain ⟨σ5, k1, k2, k3, k4, k5, k6⟩ := p2_turn (s := x.1) (p := x.2) ok hx.1 hx.2 (show 160 ≤ e by omega) (hT.fr (fun c _ _ => f3 c (by omega))) g0 g2 (wy (btm b 0 x.1 x.2).toNat)
  have f5 : ∀ c, c ≠ e → c ≠ e + 1 → c ≠ e + 2 → σ5 c = σ c := fun c x1 x2 x3 => by rw [k5 c x1 x2 x3, f3 c x1]
  have hE : E8 σ5 e b wy x := ⟨by rw [k6 0 (by decide) (by decide) (by decide) (by decide)]; exact g0, by rw [k6 1 (by decide) (by decide) (by decide) (by decide)]; exact g1, by rw [k6 2 (by decide) (by decide) (by decide) (by decide)]; exact g2, k4, k3, k2⟩
  have hfar : ∀ k, k < t.1 → r k ≠ e ∧ r k ≠ e + 1 ∧ r k ≠ e + 2 ∧ r k + 1 ≠ e ∧ r k + 2 ≠ e ∧ r k + 1 ≠ e + 2 ∧ r k + 2 ≠ e + 1 := fun k hk => by rw [← hee]; exact tS.far (by omega) ht (by omega)
  have hT5 : ∀ k, k < t.1 → E8 σ5 (r k) b wy (t.2 k) := fun k hk => by
    have := hfar k hk
    exact (tE k hk).2.fr (fun f _ _ => by rw [f5 _ (by omega) (by omega) (by omega)]) (f5 _ (by omega) (by omega) (by omega)) (f5 _ (by omega) (by omega) (by omega))
  obtain ⟨σ6, s1, s2, s3, s4, s5⟩ := p6_shift ha ok hx hr ht hra (fun k hk => (tE k hk).1) t.1 (Nat.le_refl _) σ5 (fun j hj => by rw [f5 _ (by omega) (by omega) (by omega)]; exact (tS.1 j (by omega)).1) hE hT5
  have hp := cpos_le b wy t.2 x t.1
  have hdef : sIns b wy t x = (t.1 + 1, insG t.2 (cpos b wy t.2 x t.1) x) := rfl
  generalize hpp : cpos b wy t.2 x t.1 = p at s1 s2 s3 hp hdef
  have a5 : σ5 a 1 = (t.1 : Int) := by rw [f5 _ (by omega) (by omega) (by omega)]; exact t1
  have a6 : σ6 a 1 = (t.1 : Int) := by rw [s5 _ (by omega)]; exact a5
  generalize hσ7 : up2 (up2 σ6 (a + 1) p (e : Int)) a 1 ((t.1 + 1 : Nat) : Int) = σ7
  have f7 : ∀ c, c ≠ a → c ≠ a + 1 → c ≠ e → c ≠ e + 1 → c ≠ e + 2 → σ7 c = σ c := fun c c1 c2 c3 c4 c5 => by rw [← hσ7, up2_o _ _ c1, up2_o _ _ c2, s5 c c2, f5 c c3 c4 c5]
  have f76 : ∀ c, c ≠ a → c ≠ a + 1 → σ7 c = σ5 c := fun c c1 c2 => by rw [← hσ7, up2_o _ _ c1, up2_o _ _ c2, s5 c c2]
  have sl7 : ∀ j, σ7 (a + 1) j = if j = p then (e : Int) else σ6 (a + 1) j := fun j => by
    rw [← hσ7, up2_o _ _ (by omega)]
    by_cases ej : j = p
    · subst ej; rw [up2_at, if_pos rfl]
    · rw [up2_ne _ _ (by omega), if_neg ej]
  refine ⟨σ7, rIns r t.1 p, ?_, ⟨?_, ⟨fun k hk => ?_, fun j k hj hk hjk => ?_⟩, fun k hk => ?_⟩, fun c hc => f7 c (by omega) (by omega) (by omega) (by omega) (by omega)⟩
  · unfold g_X6_addEntry
    have q1 : σ (a + 1) t.1 = (e : Int) := by rw [← hee]; exact (tS.1 t.1 ht).1
    have q2 : up2 σ e 0 (x.1 : Int) (a1 + 1) = σ (a1 + 1) := up2_o _ _ (by omega)
    have q3 : σ3 (a1 + 3) = σ (a1 + 3) := f3 _ (by omega)
    have q8 : σ3 (a1 + 8) = σ (a1 + 8) := f3 _ (by omega)
    rw [t1, if_pos (by omega), sa_ld_of (by omega) (by omega), Option.bind_some, Int.toNat_natCast, q1, en1, Option.bind_some, Option.bind_some, sa_ld_of (by omega) (by omega), Option.bind_some, Int.toNat_natCast, q2, b1, Option.bind_some, Option.bind_some, hσ3, w6 (by omega) (by omega), sa_ld_of (by omega) (by omega), Option.bind_some, Int.toNat_natCast, q3, b3, sa_ld_of (by omega) (by omega), Option.bind_some, q8, b8, k1, Option.bind_some, a5, s1 _ ab_FU (by show _ < 100000; omega)]
    unfold g_X6_addEntry_J118
    have q9 : up2 σ6 (a + 1) p (e : Int) a 1 = (t.1 : Int) := by rw [up2_o _ _ (by omega)]; exact a6
    rw [sa_st_of (by omega) (by omega), Option.bind_some, Int.toNat_natCast, q9, w32s (by omega), Option.bind_some, hσ7]
  · rw [← hσ7, up2_at]; rfl
  · have ok' : OkR a (rIns r t.1 p k) := by
      unfold rIns; split
      · exact hra k hk
      · split
        · rw [hee]; exact hr
        · split
          · exact hra _ (by omega)
          · exact hra k hk
    refine ⟨?_, ok'⟩
    rw [sl7]
    unfold rIns
    by_cases e1 : k < p
    · rw [if_neg (by omega), if_pos e1]; exact s2 k e1
    · by_cases e2 : k = p
      · rw [if_pos e2, if_neg e1, if_pos e2, hee]
      · rw [if_neg e2, if_neg e1, if_neg e2]
        by_cases e3 : k ≤ t.1
        · rw [if_pos e3]; exact s3 k (by omega) e3
        · rw [if_neg e3, s4 k (by omega), f5 _ (by omega) (by omega) (by omega)]; exact (tS.1 k hk).1
  · have ex : ∀ j, j < 72 → ∃ j', j' < 72 ∧ rIns r t.1 p j = r j' ∧ (j < p ∧ j' = j ∨ j = p ∧ j' = t.1 ∨ p < j ∧ j ≤ t.1 ∧ j' = j - 1 ∨ t.1 < j ∧ j' = j) := by
      intro j hj
      unfold rIns
      by_cases e1 : j < p
      · rw [if_pos e1]; exact ⟨j, hj, rfl, by omega⟩
      · rw [if_neg e1]
        by_cases e2 : j = p
        · rw [if_pos e2]; exact ⟨t.1, ht, rfl, by omega⟩
        · rw [if_neg e2]
          by_cases e3 : j ≤ t.1
          · rw [if_pos e3]; exact ⟨j - 1, by omega, rfl, by omega⟩
          · rw [if_neg e3]; exact ⟨j, hj, rfl, by omega⟩
    obtain ⟨j', j1, j2, j3⟩ := ex j hj
    obtain ⟨k', k1', k2', k3'⟩ := ex k hk
    rw [j2, k2'] at hjk
    have := tS.2 j' k' j1 k1' hjk
    omega
  · have hk' : k < t.1 + 1 := hk
    show isE b ((sIns b wy t x).2 k) ∧ E8 σ7 (rIns r t.1 p k) b wy ((sIns b wy t x).2 k)
    rw [hdef]
    show isE b (insG t.2 p x k) ∧ E8 σ7 (rIns r t.1 p k) b wy (insG t.2 p x k)
    have old : ∀ j, j < t.1 → E8 σ7 (r j) b wy (t.2 j) := fun j hj => by
      have := hfar j hj
      have := hra j (by omega)
      unfold OkR at this
      exact (hT5 j hj).fr (fun f _ _ => by rw [f76 _ (by omega) (by omega)]) (f76 _ (by omega) (by omega)) (f76 _ (by omega) (by omega))
    unfold rIns
    by_cases e1 : k < p
    · rw [insG_lt e1, if_pos e1]; exact ⟨(tE k (by omega)).1, old k (by omega)⟩
    · by_cases e2 : k = p
      · rw [e2, insG_at, if_neg (by omega), if_pos rfl, hee]
        exact ⟨hx, hE.fr (fun f _ _ => by rw [f76 _ (by omega) (by omega)]) (f76 _ (by omega) (by omega)) (f76 _ (by omega) (by omega))⟩
      · rw [insG_gt (by omega), if_neg e1, if_neg e2, if_pos (by omega)]; exact ⟨(tE (k - 1) (by omega)).1, old (k - 1) (by omega)⟩
