/-! the reference compares and orders entries -/
theorem E9.fr {σ σ' : st_S} {e : Nat} {b : BV} {wy : Nat → Int} {x : Nat × Nat} (h : E9 σ e b wy x) (ok : OkB b) (hx : isE b x) (h2 : σ' 602 e = σ 602 e) (h3 : σ' 603 e = σ 603 e) (h4 : σ' 604 e = σ 604 e) (h7 : ∀ j, 12 * e ≤ j → j < 12 * e + 12 → σ' 607 j = σ 607 j) : E9 σ' e b wy x := by
  obtain ⟨a1, a2, a3, ⟨a4, a5⟩, a6, a7⟩ := h
  have l5 := en_le ok wy hx
  have e1 : nA b wy x = (en b wy x).1.1 := rfl
  have e2 : nB b wy x = (en b wy x).2.1.1 := rfl
  refine ⟨by rw [h2]; exact a1, by rw [h3]; exact a2, by rw [h4]; exact a3, ⟨by rw [h7 _ (by omega) (by omega)]; exact a4, fun k hk => ?_⟩, by rw [h7 _ (by omega) (by omega)]; exact a6, fun k hk => ?_⟩
  · rw [h7 _ (by omega) (by omega)]; exact a5 k hk
  · rw [h7 _ (by omega) (by omega)]; exact a7 k hk
section C9
variable {b : BV} {wy : Nat → Int} {x y : Nat × Nat} {e e' : Nat} {σ : st_S}
theorem p9_leadWord (ok : OkB b) (hx : isE b x) (he : e < 72) (hW : Wd9 σ b) (h : E9 σ e b wy x) : g_X9_leadWord (e : Int) σ = some ((lw b x : Int), σ) := by
  have o1 := ok.1
  have o2 := ok.2.1 x.1 hx.1
  have h1 := hx.1
  have h2 := hx.2
  have w := hW.2 x.1 hx.1 x.2 hx.2
  unfold g_X9_leadWord
  rw [sa_ld_of (by omega) (by omega), Option.bind_some, sa_ld_of (by omega) (by omega), Option.bind_some, Int.toNat_natCast, h.1, h.2.1, p9_place (by omega) (by omega), Option.bind_some]
  dsimp only
  rw [sa_ld_of (by omega) (by omega), Option.bind_some, Int.toNat_natCast, w]; rfl
theorem p9_cr (ok : OkB b) {s s' r r' : Nat} (hs : s < bn b) (hs' : s' < bn b) {q q' : RW} (hW : Wd9 σ b) (hr : r + 5 < 864) (hr' : r' + 5 < 864) (h : Rw9 σ r s q) (h' : Rw9 σ r' s' q') (hq : q.1 ≤ 5) (hq' : q'.1 ≤ 5) (hi : ∀ k, k < q.1 → q.2 k < bsz b s) (hi' : ∀ k, k < q'.1 → q'.2 k < bsz b s') :
    ∀ (c k n : Nat), c < n → q.1 < k + c → k ≤ 7 → g_X9_comparesRows_L25 (fun w96_4 w96_5 σx96 => g_X9_comparesRows_J96 w96_4 w96_5 σx96) n (r : Int) (r' : Int) ((k + 1 : Nat) : Int) σ = some (crl (fun k => tw b s (q.2 k)) (fun k => tw b s' (q'.2 k)) q.1 q'.1 c k, σ) := by
  have o1 := ok.1
  have o2 := ok.2.1 s hs
  have o2' := ok.2.1 s' hs'
  have j96 : g_X9_comparesRows_J96 (r : Int) (r' : Int) σ = some ((q.1 : Int) - q'.1, σ) := by
    unfold g_X9_comparesRows_J96
    rw [sa_ld_of (by omega) (by omega), Option.bind_some, sa_ld_of (by omega) (by omega), Option.bind_some, Int.toNat_natCast, Int.toNat_natCast, h.1, h'.1, w32i (by omega) (by omega)]
  intro c
  induction c with
  | zero =>
    intro k n hn hk h7
    obtain ⟨m, rfl⟩ : ∃ m, n = m + 1 := ⟨n - 1, by omega⟩
    rw [g_X9_comparesRows_L25, sa_ld_of (by omega) (by omega), Option.bind_some, Int.toNat_natCast, h.1, if_pos (by omega), j96, crl]
  | succ c ih =>
    intro k n hn hk h7
    obtain ⟨m, rfl⟩ : ∃ m, n = m + 1 := ⟨n - 1, by omega⟩
    rw [g_X9_comparesRows_L25, sa_ld_of (by omega) (by omega), Option.bind_some, Int.toNat_natCast, h.1, crl]
    by_cases c1 : q.1 ≤ k
    · rw [if_pos (by omega), if_pos (Or.inl c1), j96]
    · rw [if_neg (by omega), sa_ld_of (by omega) (by omega), Option.bind_some, Int.toNat_natCast, h'.1]
      by_cases c2 : q'.1 ≤ k
      · rw [if_pos (by omega), if_pos (Or.inr c2), j96]
      · have e1 := h.2 k (by omega)
        have e2 := h'.2 k (by omega)
        have i1 := hi k (by omega)
        have i2 := hi' k (by omega)
        have w1 := hW.2 s hs _ i1
        have w2 := hW.2 s' hs' _ i2
        have b1 := tw_lt ok hs i1
        have b2 := tw_lt ok hs' i2
        rw [if_neg (by omega), if_neg (by omega), show ab_w32 ((r : Int) + ((k + 1 : Nat) : Int)) = ((r + 1 + k : Nat) : Int) by rw [w32i (by omega) (by omega)]; omega, show ab_w32 ((r' : Int) + ((k + 1 : Nat) : Int)) = ((r' + 1 + k : Nat) : Int) by rw [w32i (by omega) (by omega)]; omega]
        rw [sa_ld_of (by omega) (by omega), Option.bind_some, Int.toNat_natCast, e1, sa_ld_of (by omega) (by omega), Option.bind_some, Int.toNat_natCast, w1, sa_ld_of (by omega) (by omega), Option.bind_some, Int.toNat_natCast, e2, sa_ld_of (by omega) (by omega), Option.bind_some, Int.toNat_natCast, w2, w32i (x := (tw b s (q.2 k) : Int) - tw b s' (q'.2 k)) (by omega) (by omega)]
        by_cases he : tw b s (q.2 k) = tw b s' (q'.2 k)
        · rw [if_pos (by omega), if_pos he, w32s (by omega)]
          exact ih (k + 1) m (by omega) (by omega) (by omega)
        · rw [if_neg (by omega), if_neg he]
theorem p9_comparesWords (ok : OkB b) (hx : isE b x) (hy : isE b y) (he : e < 72) (he' : e' < 72) (hW : Wd9 σ b) (h : E9 σ e b wy x) (h' : E9 σ e' b wy y) : g_X9_comparesWords (e : Int) (e' : Int) σ = some (cW b wy x y, σ) := by
  have lx := en_le ok wy hx
  have ly := en_le ok wy hy
  have bx : lw b x < 72 := tw_lt ok hx.1 hx.2
  have by' : lw b y < 72 := tw_lt ok hy.1 hy.2
  have a1 : nA b wy x = (en b wy x).1.1 := rfl
  have a2 : nA b wy y = (en b wy y).1.1 := rfl
  have a3 : nB b wy x = (en b wy x).2.1.1 := rfl
  have a4 : nB b wy y = (en b wy y).2.1.1 := rfl
  have rA : g_X9_comparesRows (e : Int) (e' : Int) 0 σ = some (crw (wA b wy x) (wA b wy y) (nA b wy x) (nA b wy y), σ) := by
    have q := p9_cr ok hx.1 hy.1 hW (show 12 * e + 5 < 864 by omega) (show 12 * e' + 5 < 864 by omega) h.2.2.2.1 h'.2.2.2.1 (by omega) (by omega) (fun k hk => (pA_lt ok wy hx hk).1) (fun k hk => (pA_lt ok wy hy hk).1) 7 0 ab_FU (by show _ < 100000; omega) (by omega) (by omega)
    unfold g_X9_comparesRows
    rw [show ab_w32 (ab_w32 ((12 : Int) * (e : Int)) + ab_w32 ((6 : Int) * 0)) = ((12 * e : Nat) : Int) by rw [w32i (x := (12 : Int) * (e : Int)) (by omega) (by omega), w32i (x := (6 : Int) * 0) (by omega) (by omega), w32i (by omega) (by omega)]; omega, show ab_w32 (ab_w32 ((12 : Int) * (e' : Int)) + ab_w32 ((6 : Int) * 0)) = ((12 * e' : Nat) : Int) by rw [w32i (x := (12 : Int) * (e' : Int)) (by omega) (by omega), w32i (x := (6 : Int) * 0) (by omega) (by omega), w32i (by omega) (by omega)]; omega]
    exact q
  have rB : g_X9_comparesRows (e : Int) (e' : Int) 1 σ = some (crw (wB b wy x) (wB b wy y) (nB b wy x) (nB b wy y), σ) := by
    have q := p9_cr ok hx.1 hy.1 hW (show 12 * e + 6 + 5 < 864 by omega) (show 12 * e' + 6 + 5 < 864 by omega) h.2.2.2.2 h'.2.2.2.2 (by omega) (by omega) (fun k hk => (pB_lt ok wy hx hk).1) (fun k hk => (pB_lt ok wy hy hk).1) 7 0 ab_FU (by show _ < 100000; omega) (by omega) (by omega)
    unfold g_X9_comparesRows
    rw [show ab_w32 (ab_w32 ((12 : Int) * (e : Int)) + ab_w32 ((6 : Int) * 1)) = ((12 * e + 6 : Nat) : Int) by rw [w32i (x := (12 : Int) * (e : Int)) (by omega) (by omega), w32i (x := (6 : Int) * 1) (by omega) (by omega), w32i (by omega) (by omega)]; omega, show ab_w32 (ab_w32 ((12 : Int) * (e' : Int)) + ab_w32 ((6 : Int) * 1)) = ((12 * e' + 6 : Nat) : Int) by rw [w32i (x := (12 : Int) * (e' : Int)) (by omega) (by omega), w32i (x := (6 : Int) * 1) (by omega) (by omega), w32i (by omega) (by omega)]; omega]
    exact q
  unfold g_X9_comparesWords g_X9_comparesWords_J24 cW
  rw [p9_leadWord ok hx he hW h, Option.bind_some]
  dsimp only
  rw [p9_leadWord ok hy he' hW h', Option.bind_some]
  dsimp only
  rw [w32i (x := (lw b x : Int) - lw b y) (by omega) (by omega)]
  by_cases el : lw b x = lw b y
  · rw [if_pos (by omega), if_pos el, rA, Option.bind_some]
    dsimp only
    by_cases ea : crw (wA b wy x) (wA b wy y) (nA b wy x) (nA b wy y) = 0
    · rw [if_pos ea, if_pos ea, rB]; rfl
    · rw [if_neg ea, if_neg ea]
  · rw [if_neg (by omega), if_neg el, if_neg (by omega)]
theorem p9_compares (ok : OkB b) (hx : isE b x) (hy : isE b y) (he : e < 72) (he' : e' < 72) (hB : RB9 σ 597 0 b) (hW : Wd9 σ b) (h : E9 σ e b wy x) (h' : E9 σ e' b wy y) : g_X9_compares (e : Int) (e' : Int) σ = some (cE b wy x y, σ) := by
  have o1 := ok.1
  have ax := ok.2.1 x.1 hx.1
  have ay := ok.2.1 y.1 hy.1
  have ix := hx.2
  have iy := hy.2
  unfold g_X9_compares g_X9_compares_J33 cE
  rw [p9_comparesWords ok hx hy he he' hW h h', Option.bind_some]
  dsimp only
  by_cases ec : cW b wy x y = 0
  · rw [if_pos ec, if_pos ec, sa_ld_of (by omega) (by omega), Option.bind_some, Int.toNat_natCast, h.1, p9_addressOf hB ok hx.1, Option.bind_some]
    dsimp only
    rw [sa_ld_of (by omega) (by omega), Option.bind_some, Int.toNat_natCast, h'.1, p9_addressOf hB ok hy.1, Option.bind_some]
    dsimp only
    rw [w32i (x := badr b x.1 - badr b y.1) (by omega) (by omega)]
    by_cases eb : badr b x.1 - badr b y.1 = 0
    · rw [if_pos eb, if_pos eb, sa_ld_of (by omega) (by omega), Option.bind_some, sa_ld_of (by omega) (by omega), Option.bind_some, Int.toNat_natCast, Int.toNat_natCast, h.2.1, h'.2.1, w32i (by omega) (by omega)]
    · rw [if_neg eb, if_neg eb]
  · rw [if_neg ec, if_neg ec, if_neg ec]
end C9
/-! all entries -/
def R9 (σ : st_S) (b : BV) (wy : Nat → Int) (pre : List (Nat × Nat)) : Prop := σ 596 16 = (pre.length : Int) ∧ ∀ e, e < pre.length → isE b (pre.getD e (0, 0)) ∧ E9 σ e b wy (pre.getD e (0, 0))
/-- the ways, one of which may be another one -/
def wyU (b : BV) (role way : Int) : Nat → Int := fun r => if (r : Int) = role then way else bwy b r
theorem wyU_no (b : BV) (way : Int) : wyU b (-1) way = bwy b := by
  funext r; unfold wyU; rw [if_neg (by omega)]
/-- what laying writes -/
def G9 (σ σ' : st_S) : Prop := (∀ a, (a < 596 ∨ 597 ≤ a ∧ a ≤ 599 ∨ 609 ≤ a) → σ' a = σ a) ∧ ∀ f, (f ≤ 13 ∨ 26 ≤ f) → σ' 596 f = σ 596 f
theorem G9.trans {σ σ1 σ2 : st_S} (h : G9 σ σ1) (h2 : G9 σ1 σ2) : G9 σ σ2 := ⟨fun a x => by rw [h2.1 a x, h.1 a x], fun x y => by rw [h2.2 x y, h.2 x y]⟩
theorem G9.rfl' {σ : st_S} : G9 σ σ := ⟨fun _ _ => rfl, fun _ _ => rfl⟩
theorem getD_app_l {α : Type} {l m : List α} {d : α} {e : Nat} (h : e < l.length) : (l ++ m).getD e d = l.getD e d := by
  rw [List.getD_eq_getElem?_getD, List.getD_eq_getElem?_getD, List.getElem?_append_left h]
theorem getD_app_at {α : Type} {l : List α} {x d : α} : (l ++ [x]).getD l.length d = x := by
  rw [List.getD_eq_getElem?_getD, List.getElem?_append_right (Nat.le_refl _), Nat.sub_self]; rfl
section LB
variable {b : BV} {role way : Int}
theorem p9_add (ok : OkB b) {pre : List (Nat × Nat)} {x : Nat × Nat} (hx : isE b x) (hl : pre.length < 72) {σ : st_S} (hB : RB9 σ 597 0 b) (hW : Wd9 σ b) (hR : R9 σ b (wyU b role way) pre) :
    ∃ σ', g_X9_laysEntry (x.1 : Int) (x.2 : Int) (wyU b role way (btm b 0 x.1 x.2).toNat) σ = some σ' ∧ R9 σ' b (wyU b role way) (pre ++ [x]) ∧ Wd9 σ' b ∧ G9 σ σ' := by
  obtain ⟨σ', q1, q2, q3, q4, q5, q6, q7⟩ := p9_laysEntry ok (wy := wyU b role way) hx hl hB hW hR.1
  refine ⟨σ', q1, ⟨by rw [q3, List.length_append]; rfl, fun e he => ?_⟩, hW.fr (q5 14 (by decide) (by decide)) (q4 600 (by omega) (by omega) (by omega)) (q4 601 (by omega) (by omega) (by omega)), fun a ha => q4 a (by omega) (by omega) (by omega), fun f hf => q5 f (by omega) (by omega)⟩
  rw [List.length_append] at he
  have he : e < pre.length + 1 := he
  by_cases z : e = pre.length
  · subst z; rw [getD_app_at]; exact ⟨hx, q2⟩
  · rw [getD_app_l (by omega)]
    obtain ⟨k1, k2⟩ := hR.2 e (by omega)
    have := q6 e z
    exact ⟨k1, k2.fr ok k1 this.1 this.2.1 this.2.2 (fun j h1 h2 => q7 j (by omega))⟩
theorem p9_L22 (ok : OkB b) {s : Nat} (hs : s < bn b) : ∀ (c i : Nat) (pre : List (Nat × Nat)) (σ : st_S), i + c = bsz b s → pre.length ≤ 6 * s + i → RB9 σ 597 0 b → Wd9 σ b → R9 σ b (wyU b role way) pre →
    ∃ σ', (∀ (k : Int → Int → Int → st_S → Option st_S) (n : Nat), c < n → g_X9_laysBy_L22 k n role way (s : Int) (i : Int) σ = k role way (s : Int) σ') ∧ R9 σ' b (wyU b role way) (pre ++ elI b s c i) ∧ (pre ++ elI b s c i).length ≤ 6 * s + bsz b s ∧ Wd9 σ' b ∧ G9 σ σ' := by
  have o1 := ok.1
  have o2 := ok.2.1 s hs
  intro c
  induction c with
  | zero =>
    intro i pre σ hi hl hB hW hR
    refine ⟨σ, fun k n hn => ?_, by rw [elI, List.append_nil]; exact hR, by rw [elI, List.append_nil]; omega, hW, G9.rfl'⟩
    obtain ⟨m, rfl⟩ : ∃ m, n = m + 1 := ⟨n - 1, by omega⟩
    rw [g_X9_laysBy_L22, p9_terms hB ok hs, Option.bind_some]
    dsimp only
    rw [if_pos (by omega)]
  | succ c ih =>
    intro i pre σ hi hl hB hW hR
    have o3 := ok.2.2.2.1 s hs i (by omega)
    rw [elI]
    by_cases e1 : btm b 1 s i = 1
    · rw [if_pos e1]
      obtain ⟨σ1, q1, q2, q3, q4⟩ := p9_add (role := role) (way := way) ok (x := (s, i)) ⟨hs, by show i < bsz b s; omega⟩ (show pre.length < 72 by omega) hB hW hR
      have hB1 := hB.fr (q4.1 597 (by omega))
      obtain ⟨σ', k1, k2, k3, k4, k5⟩ := ih (i + 1) (pre ++ [(s, i)]) σ1 (by omega) (by rw [List.length_append]; show pre.length + 1 ≤ _; omega) hB1 q3 q2
      rw [List.append_assoc] at k2 k3
      refine ⟨σ', fun k n hn => ?_, k2, k3, k4, q4.trans k5⟩
      obtain ⟨m, rfl⟩ : ∃ m, n = m + 1 := ⟨n - 1, by omega⟩
      have run : ∀ (K : Int → Int → Int → st_S → Option st_S), g_X9_laysBy_L22 K (m + 1) role way (s : Int) (i : Int) σ = g_X9_laysBy_J76 (g_X9_laysBy_L22 K m) K role way (s : Int) (i : Int) (wyU b role way (btm b 0 s i).toNat) (i : Int) (s : Int) σ := by
        intro K
        rw [g_X9_laysBy_L22, p9_terms hB ok hs, Option.bind_some]
        dsimp only
        rw [if_neg (by omega), p9_doesLead hB ok hs (by omega), Option.bind_some]
        dsimp only
        rw [if_neg (by omega), p9_roleOf hB ok hs (by omega), Option.bind_some]
        dsimp only
        unfold wyU
        rw [show (((btm b 0 s i).toNat : Nat) : Int) = btm b 0 s i by omega]
        by_cases er : btm b 0 s i = role
        · rw [if_pos er, if_pos er]
        · have w := hB.2.2.2.1 (btm b 0 s i).toNat (by omega)
          have w2 := ok.2.2.2.2.2.1 (btm b 0 s i).toNat (by omega)
          rw [if_neg er, if_neg er, p9_roleOf hB ok hs (by omega), Option.bind_some]
          dsimp only
          rw [show ab_w32 (2 + btm b 0 s i) = ((0 + 2 + (btm b 0 s i).toNat : Nat) : Int) by unfold ab_w32; omega, sa_ld_of (by omega) (by omega), Option.bind_some, Int.toNat_natCast, w, w32i (by omega) (by omega)]
      rw [run]
      unfold g_X9_laysBy_J76 g_X9_laysBy_J79
      rw [show g_X9_laysEntry (s : Int) (i : Int) (wyU b role way (btm b 0 s i).toNat) σ = _ from q1, Option.bind_some, w32s (by omega)]
      exact k1 k m (by omega)
    · rw [if_neg e1]
      obtain ⟨σ', k1, k2, k3, k4, k5⟩ := ih (i + 1) pre σ (by omega) (by omega) hB hW hR
      refine ⟨σ', fun k n hn => ?_, k2, k3, k4, k5⟩
      obtain ⟨m, rfl⟩ : ∃ m, n = m + 1 := ⟨n - 1, by omega⟩
      rw [g_X9_laysBy_L22, p9_terms hB ok hs, Option.bind_some]
      dsimp only
      rw [if_neg (by omega), p9_doesLead hB ok hs (by omega), Option.bind_some]
      dsimp only
      rw [if_pos (by have := o3.2.1; omega)]
      unfold g_X9_laysBy_J79
      rw [w32s (by omega)]
      exact k1 k m (by omega)
theorem p9_L11 (ok : OkB b) : ∀ (c s : Nat) (pre : List (Nat × Nat)) (σ : st_S), s + c = bn b → pre.length ≤ 6 * s → RB9 σ 597 0 b → Wd9 σ b → R9 σ b (wyU b role way) pre →
    ∃ σ', (∀ (k : st_S → Option st_S) (n : Nat), c < n → g_X9_laysBy_L11 k n role way (s : Int) σ = k σ') ∧ R9 σ' b (wyU b role way) (pre ++ elS b c s) ∧ (pre ++ elS b c s).length ≤ 72 ∧ Wd9 σ' b ∧ G9 σ σ' := by
  have o1 := ok.1
  intro c
  induction c with
  | zero =>
    intro s pre σ hi hl hB hW hR
    refine ⟨σ, fun k n hn => ?_, by rw [elS, List.append_nil]; exact hR, by rw [elS, List.append_nil]; omega, hW, G9.rfl'⟩
    obtain ⟨m, rfl⟩ : ∃ m, n = m + 1 := ⟨n - 1, by omega⟩
    rw [g_X9_laysBy_L11, p9_strings hB ok, Option.bind_some]
    dsimp only
    rw [if_pos (by omega)]
  | succ c ih =>
    intro s pre σ hi hl hB hW hR
    have o2 := ok.2.1 s (by omega)
    obtain ⟨σ1, q1, q2, q3, q4, q5⟩ := p9_L22 (role := role) (way := way) ok (show s < bn b by omega) (bsz b s) 0 pre σ (by omega) (by omega) hB hW hR
    rw [show ((0 : Nat) : Int) = 0 from rfl] at q1
    obtain ⟨σ', k1, k2, k3, k4, k5⟩ := ih (s + 1) _ σ1 (by omega) (by omega) (hB.fr (q5.1 597 (by omega))) q4 q2
    rw [List.append_assoc] at k2 k3
    refine ⟨σ', fun k n hn => ?_, k2, k3, k4, q5.trans k5⟩
    obtain ⟨m, rfl⟩ : ∃ m, n = m + 1 := ⟨n - 1, by omega⟩
    rw [g_X9_laysBy_L11, p9_strings hB ok, Option.bind_some]
    dsimp only
    rw [if_neg (by omega), q1 _ ab_FU (by show _ < 100000; omega), w32s (by omega)]
    exact k1 k m (by omega)
end LB
/-! the reference's order -/
theorem fold_n (b : BV) (wy : Nat → Int) : ∀ (l : List (Nat × Nat)) (t : OR), (l.foldl (sIns b wy) t).1 = t.1 + l.length := by
  intro l
  induction l with
  | nil => intro t; rfl
  | cons x l ih => intro t; rw [List.foldl_cons, ih]; show t.1 + 1 + l.length = t.1 + (l.length + 1); omega
theorem nE_len (b : BV) (wy : Nat → Int) : nE b wy = (el b).length := by
  unfold nE so; rw [fold_n]; exact Nat.zero_add _
def stK (b : BV) (wy : Nat → Int) (l : List (Nat × Nat)) (e : Nat) : OR := (l.take e).foldl (sIns b wy) (0, fun _ => (0, 0))
theorem stK_n {b : BV} {wy : Nat → Int} {l : List (Nat × Nat)} {e : Nat} (h : e ≤ l.length) : (stK b wy l e).1 = e := by
  unfold stK; rw [fold_n, List.length_take]; show 0 + min e l.length = e; omega
theorem stK_s {b : BV} {wy : Nat → Int} {l : List (Nat × Nat)} {e : Nat} (h : e < l.length) : stK b wy l (e + 1) = sIns b wy (stK b wy l e) (l.getD e (0, 0)) := by
  unfold stK
  rw [List.take_add_one, List.foldl_append, List.getD_eq_getElem?_getD, List.getElem?_eq_getElem h]
  rfl
def O9 (σ : st_S) (b : BV) (wy : Nat → Int) (l : List (Nat × Nat)) (e : Nat) (o : Nat → Nat) : Prop := ∀ k, k < e → σ 608 k = (o k : Int) ∧ o k < e ∧ l.getD (o k) (0, 0) = (stK b wy l e).2 k
section OB
variable {b : BV} {wy : Nat → Int} {l : List (Nat × Nat)}
theorem p9_L104 (ok : OkB b) {e : Nat} (hl : l.length ≤ 72) (he : e < l.length) {f : Nat → Nat × Nat} {o : Nat → Nat} (ho : ∀ k, k < e → o k < e ∧ l.getD (o k) (0, 0) = f k) : ∀ (p : Nat), p ≤ e → ∀ σ : st_S, RB9 σ 597 0 b → Wd9 σ b → R9 σ b wy l → (∀ j, j < p → σ 608 j = (o j : Int)) →
    ∃ σ', (∀ (k : Int → Int → st_S → Option st_S) (n : Nat), p < n → g_X9_laysBy_L104 k n (e : Int) (p : Int) σ = k (e : Int) (cpos b wy f (l.getD e (0, 0)) p : Nat) σ') ∧ (∀ j, j < cpos b wy f (l.getD e (0, 0)) p → σ' 608 j = (o j : Int)) ∧ (∀ j, cpos b wy f (l.getD e (0, 0)) p < j → j ≤ p → σ' 608 j = (o (j - 1) : Int)) ∧ (∀ j, p < j → σ' 608 j = σ 608 j) ∧ ∀ c, c ≠ 608 → σ' c = σ c := by
  intro p
  induction p with
  | zero =>
    intro _ σ _ _ _ _
    refine ⟨σ, fun k n hn => ?_, fun j hj => absurd hj (Nat.not_lt_zero _), fun j h1 h2 => by omega, fun _ _ => rfl, fun _ _ => rfl⟩
    obtain ⟨m, rfl⟩ : ∃ m, n = m + 1 := ⟨n - 1, by omega⟩
    rw [g_X9_laysBy_L104, if_pos (by omega)]; rfl
  | succ p ih =>
    intro hp σ hB hW hR hσ
    have r1 := hσ p (by omega)
    obtain ⟨o1, o2⟩ := ho p (by omega)
    obtain ⟨m1, m2⟩ := hR.2 (o p) (by omega)
    obtain ⟨m3, m4⟩ := hR.2 e he
    have r3 := p9_compares ok m1 m3 (by omega) (by omega) hB hW m2 m4
    rw [o2] at r3
    by_cases ec : 0 < cE b wy (f p) (l.getD e (0, 0))
    · have ei : cpos b wy f (l.getD e (0, 0)) (p + 1) = cpos b wy f (l.getD e (0, 0)) p := by rw [cpos, if_pos ec]
      have hle := cpos_le b wy f (l.getD e (0, 0)) p
      have fr : ∀ c, c ≠ 608 → up2 σ 608 (p + 1) (o p : Int) c = σ c := fun c hc => up2_o _ _ hc
      obtain ⟨σ', k1, k2, k3, k4, k5⟩ := ih (by omega) (up2 σ 608 (p + 1) (o p : Int)) (hB.fr (fr _ (by decide))) (hW.fr (by rw [fr _ (by decide)]) (fr _ (by decide)) (fr _ (by decide))) ⟨by rw [fr _ (by decide)]; exact hR.1, fun j hj => ⟨(hR.2 j hj).1, (hR.2 j hj).2.fr ok (hR.2 j hj).1 (by rw [fr _ (by decide)]) (by rw [fr _ (by decide)]) (by rw [fr _ (by decide)]) (fun i _ _ => by rw [fr _ (by decide)])⟩⟩ (fun j hj => by rw [up2_ne _ _ (by omega)]; exact hσ j (by omega))
      refine ⟨σ', fun k n hn => ?_, fun j hj => k2 j (by omega), fun j h1 h2 => ?_, fun j hj => ?_, fun c hc => ?_⟩
      · obtain ⟨m, rfl⟩ : ∃ m, n = m + 1 := ⟨n - 1, by omega⟩
        rw [g_X9_laysBy_L104, ei, if_neg (by omega), w32p (by omega), sa_ld_of (by omega) (by omega), Option.bind_some, Int.toNat_natCast, r1, r3, Option.bind_some]
        dsimp only
        rw [if_neg (by omega), sa_ld_of (by omega) (by omega), Option.bind_some, Int.toNat_natCast, r1, sa_st_of (by omega) (by omega), Option.bind_some, Int.toNat_natCast, w32q (by omega)]
        exact k1 k m (by omega)
      · by_cases ej : j = p + 1
        · subst ej; rw [k4 _ (by omega), up2_at, Nat.add_sub_cancel]
        · exact k3 j (by omega) (by omega)
      · rw [k4 j (by omega), up2_ne _ _ (by omega)]
      · rw [k5 c hc, fr c hc]
    · have ei : cpos b wy f (l.getD e (0, 0)) (p + 1) = p + 1 := by rw [cpos, if_neg ec]
      refine ⟨σ, fun k n hn => ?_, fun j hj => hσ j (by omega), fun j h1 h2 => by omega, fun _ _ => rfl, fun _ _ => rfl⟩
      obtain ⟨m, rfl⟩ : ∃ m, n = m + 1 := ⟨n - 1, by omega⟩
      rw [g_X9_laysBy_L104, ei, if_neg (by omega), w32p (by omega), sa_ld_of (by omega) (by omega), Option.bind_some, Int.toNat_natCast, r1, r3, Option.bind_some]
      dsimp only
      rw [if_pos (by omega)]
theorem R9.fr {σ σ' : st_S} (ok : OkB b) (hR : R9 σ b wy l) (h0 : σ' 596 16 = σ 596 16) (h2 : σ' 602 = σ 602) (h3 : σ' 603 = σ 603) (h4 : σ' 604 = σ 604) (h7 : σ' 607 = σ 607) : R9 σ' b wy l :=
  ⟨by rw [h0]; exact hR.1, fun j hj => ⟨(hR.2 j hj).1, (hR.2 j hj).2.fr ok (hR.2 j hj).1 (by rw [h2]) (by rw [h3]) (by rw [h4]) (fun i _ _ => by rw [h7])⟩⟩
theorem p9_L93b (ok : OkB b) (hl : l.length ≤ 72) : ∀ (c e : Nat) (o : Nat → Nat) (σ : st_S), e + c = l.length → RB9 σ 597 0 b → Wd9 σ b → R9 σ b wy l → O9 σ b wy l e o →
    ∃ σ' o', (∀ (k : st_S → Option st_S) (n : Nat), c < n → g_X9_laysBy_L93 k n (e : Int) σ = k σ') ∧ O9 σ' b wy l l.length o' ∧ ∀ a, a ≠ 608 → σ' a = σ a := by
  intro c
  induction c with
  | zero =>
    intro e o σ hi hB hW hR hO
    have : e = l.length := by omega
    subst this
    refine ⟨σ, o, fun k n hn => ?_, hO, fun _ _ => rfl⟩
    obtain ⟨m, rfl⟩ : ∃ m, n = m + 1 := ⟨n - 1, by omega⟩
    rw [g_X9_laysBy_L93, hR.1, if_pos (by omega)]
  | succ c ih =>
    intro e o σ hi hB hW hR hO
    obtain ⟨σ1, q1, q2, q3, q4, q5⟩ := p9_L104 ok (e := e) hl (by omega) (f := (stK b wy l e).2) (o := o) (fun k hk => (hO k hk).2) e (Nat.le_refl _) σ hB hW hR (fun j hj => (hO j hj).1)
    have hp := cpos_le b wy (stK b wy l e).2 (l.getD e (0, 0)) e
    have hst : stK b wy l (e + 1) = (e + 1, insG (stK b wy l e).2 (cpos b wy (stK b wy l e).2 (l.getD e (0, 0)) e) (l.getD e (0, 0))) := by
      rw [stK_s (by omega)]; unfold sIns; rw [stK_n (by omega)]
    generalize hpp : cpos b wy (stK b wy l e).2 (l.getD e (0, 0)) e = p at q1 q2 q3 hp hst
    generalize hσ2 : up2 σ1 608 p (e : Int) = σ2
    have f2 : ∀ a, a ≠ 608 → σ2 a = σ a := fun a ha => by rw [← hσ2, up2_o _ _ ha, q5 a ha]
    have hO2 : O9 σ2 b wy l (e + 1) (insG o p e) := by
      intro k hk
      rw [hst, ← hσ2]
      show up2 σ1 608 p (e : Int) 608 k = ((insG o p e k : Nat) : Int) ∧ insG o p e k < e + 1 ∧ l.getD (insG o p e k) (0, 0) = insG (stK b wy l e).2 p (l.getD e (0, 0)) k
      by_cases a : k < p
      · have := hO k (by omega)
        rw [insG_lt a, insG_lt a, up2_ne _ _ (by omega), q2 k a]; exact ⟨rfl, by omega, this.2.2⟩
      · by_cases a' : k = p
        · subst a'; rw [insG_at, insG_at, up2_at]; exact ⟨rfl, by omega, rfl⟩
        · have := hO (k - 1) (by omega)
          rw [insG_gt (by omega), insG_gt (by omega), up2_ne _ _ (by omega), q3 k (by omega) (by omega)]; exact ⟨rfl, by omega, this.2.2⟩
    obtain ⟨σ', o', k1, k2, k3⟩ := ih (e + 1) _ σ2 (by omega) (hB.fr (f2 _ (by decide))) (hW.fr (by rw [f2 _ (by decide)]) (f2 _ (by decide)) (f2 _ (by decide))) (hR.fr ok (by rw [f2 _ (by decide)]) (f2 _ (by decide)) (f2 _ (by decide)) (f2 _ (by decide)) (f2 _ (by decide))) hO2
    refine ⟨σ', o', fun k n hn => ?_, k2, fun a ha => by rw [k3 a ha, f2 a ha]⟩
    obtain ⟨m, rfl⟩ : ∃ m, n = m + 1 := ⟨n - 1, by omega⟩
    rw [g_X9_laysBy_L93, hR.1, if_neg (by omega), q1 _ ab_FU (by show _ < 100000; omega)]
    unfold g_X9_laysBy_J148
    rw [sa_st_of (by omega) (by omega), Option.bind_some, Int.toNat_natCast, hσ2, w32s (by omega)]
    exact k1 k m (by omega)
/-- lines and heads of the reference -/
theorem p9_L174 (ok : OkB b) {o : Nat → Nat} {f : Nat → Nat × Nat} (hl : l.length ≤ 72) : ∀ (c k : Nat) (σ : st_S), k + c = l.length → Wd9 σ b → R9 σ b wy l → (∀ j, j < l.length → σ 608 j = (o j : Int) ∧ o j < l.length ∧ l.getD (o j) (0, 0) = f j) → σ 596 17 = (nK (lnK b wy f) k : Int) → σ 596 18 = (nK (hdK b f) k : Int) →
    ∃ σ', (∀ (n : Nat), c < n → g_X9_laysBy_L174 n (k : Int) σ = some σ') ∧ (∀ j, k ≤ j → j < l.length → σ' 605 j = (lnK b wy f j : Int) ∧ σ' 606 j = (hdK b f j : Int)) ∧ (∀ j, j < k → σ' 605 j = σ 605 j ∧ σ' 606 j = σ 606 j) ∧ σ' 596 17 = (nK (lnK b wy f) l.length : Int) ∧ σ' 596 18 = (nK (hdK b f) l.length : Int) ∧ (∀ a, a ≠ 596 → a ≠ 605 → a ≠ 606 → σ' a = σ a) ∧ ∀ x, x ≠ 17 → x ≠ 18 → σ' 596 x = σ 596 x := by
  have stl := lnK_st b wy f
  have sth := hdK_st b f
  intro c
  induction c with
  | zero =>
    intro k σ hk hW hR hO h17 h18
    have : k = l.length := by omega
    subst this
    refine ⟨σ, fun n hn => ?_, fun j h1 h2 => by omega, fun _ _ => ⟨rfl, rfl⟩, h17, h18, fun _ _ _ _ => rfl, fun _ _ _ => rfl⟩
    obtain ⟨m, rfl⟩ : ∃ m, n = m + 1 := ⟨n - 1, by omega⟩
    rw [g_X9_laysBy_L174, hR.1, if_pos (by omega)]
  | succ c ih =>
    intro k σ hk hW hR hO h17 h18
    have le1 := nK_le stl k
    have le2 := nK_le sth k
    have le3 := stl.le k
    have le4 := sth.le k
    generalize hσ4 : up2 (up2 (up2 (up2 σ 596 17 (nK (lnK b wy f) (k + 1) : Int)) 596 18 (nK (hdK b f) (k + 1) : Int)) 605 k (lnK b wy f k : Int)) 606 k (hdK b f k : Int) = σ4
    have f4 : ∀ a, a ≠ 596 → a ≠ 605 → a ≠ 606 → σ4 a = σ a := fun a h1 h2 h3 => by rw [← hσ4, up2_o _ _ h3, up2_o _ _ h2, up2_o _ _ h1, up2_o _ _ h1]
    have g4 : ∀ x, x ≠ 17 → x ≠ 18 → σ4 596 x = σ 596 x := fun x h1 h2 => by rw [← hσ4, up2_o _ _ (by decide), up2_o _ _ (by decide), up2_ne _ _ (by omega), up2_ne _ _ (by omega)]
    have fin : ∀ (m : Nat) (x y : Int), x = (if k = 0 then 1 else if cW b wy (f (k - 1)) (f k) = 0 then 0 else 1) → y = (if k = 0 then 1 else if lw b (f (k - 1)) = lw b (f k) then 0 else 1) → g_X9_laysBy_J248 (g_X9_laysBy_L174 m) (k : Int) x y σ = g_X9_laysBy_L174 m ((k + 1 : Nat) : Int) σ4 := by
      intro m x y hx hy
      have e17 : ab_w32 (σ 596 17 + x) = (nK (lnK b wy f) (k + 1) : Int) := by
        rw [h17, hx]
        cases k with
        | zero =>
          rw [if_pos rfl]
          show ab_w32 (((0 : Nat) : Int) + 1) = ((lnK b wy f 0 + 1 : Nat) : Int)
          rw [w32s (by omega)]; rfl
        | succ k' =>
          rw [if_neg (by omega), Nat.add_sub_cancel]
          show ab_w32 (((lnK b wy f k' + 1 : Nat) : Int) + _) = ((lnK b wy f (k' + 1) + 1 : Nat) : Int)
          have q1 := (hR.2 (o k') (hO k' (by omega)).2.1).1
          have q2 := (hR.2 (o (k' + 1)) (hO (k' + 1) (by omega)).2.1).1
          rw [(hO k' (by omega)).2.2] at q1
          rw [(hO (k' + 1) (by omega)).2.2] at q2
          have sy := cW_sym ok wy q1 q2
          have := stl.le k'
          rw [lnK]
          by_cases z : cW b wy (f k') (f (k' + 1)) = 0
          · rw [if_pos z, if_pos (sy.mp z), w32i (by omega) (by omega)]; omega
          · rw [if_neg z, if_neg (fun q => z (sy.mpr q)), w32i (by omega) (by omega)]; omega
      have e18 : ab_w32 (σ 596 18 + y) = (nK (hdK b f) (k + 1) : Int) := by
        rw [h18, hy]
        cases k with
        | zero =>
          rw [if_pos rfl]
          show ab_w32 (((0 : Nat) : Int) + 1) = ((hdK b f 0 + 1 : Nat) : Int)
          rw [w32s (by omega)]; rfl
        | succ k' =>
          rw [if_neg (by omega), Nat.add_sub_cancel]
          show ab_w32 (((hdK b f k' + 1 : Nat) : Int) + _) = ((hdK b f (k' + 1) + 1 : Nat) : Int)
          have := sth.le k'
          rw [hdK]
          by_cases z : lw b (f k') = lw b (f (k' + 1))
          · rw [if_pos z, if_pos z.symm, w32i (by omega) (by omega)]; omega
          · rw [if_neg z, if_neg (fun q => z q.symm), w32i (by omega) (by omega)]; omega
      have d1 : ab_w32 ((nK (lnK b wy f) (k + 1) : Int) - 1) = (lnK b wy f k : Int) := w32p (by omega)
      have d2 : ab_w32 ((nK (hdK b f) (k + 1) : Int) - 1) = (hdK b f k : Int) := w32p (by omega)
      have z284 : ∀ (y' : Int), y' = y → g_X9_laysBy_J284 (g_X9_laysBy_L174 m) (k : Int) y' (up2 σ 596 17 (nK (lnK b wy f) (k + 1) : Int) 596 18) (up2 σ 596 17 (nK (lnK b wy f) (k + 1) : Int)) = g_X9_laysBy_L174 m ((k + 1 : Nat) : Int) σ4 := by
        intro y' hy'
        rw [hy']
        unfold g_X9_laysBy_J284
        rw [up2_ne (a' := 596) (f' := 18) _ _ (by omega), e18, Option.bind_some]
        have a1 : up2 (up2 σ 596 17 (nK (lnK b wy f) (k + 1) : Int)) 596 18 (nK (hdK b f) (k + 1) : Int) 596 17 = (nK (lnK b wy f) (k + 1) : Int) := by rw [up2_ne _ _ (by omega), up2_at]
        rw [a1, d1, sa_st_of (by omega) (by omega), Option.bind_some, Int.toNat_natCast]
        have a2 : up2 (up2 (up2 σ 596 17 (nK (lnK b wy f) (k + 1) : Int)) 596 18 (nK (hdK b f) (k + 1) : Int)) 605 k (lnK b wy f k : Int) 596 18 = (nK (hdK b f) (k + 1) : Int) := by rw [up2_o _ _ (by decide), up2_at]
        rw [a2, d2, sa_st_of (by omega) (by omega), Option.bind_some, Int.toNat_natCast, hσ4, w32s (by omega)]
      have z265 : ∀ (x' : Int), x' = x → g_X9_laysBy_J265 (g_X9_laysBy_L174 m) (k : Int) y x' (σ 596 17) σ = g_X9_laysBy_L174 m ((k + 1 : Nat) : Int) σ4 := by
        intro x' hx'
        rw [hx']
        unfold g_X9_laysBy_J265
        rw [e17, Option.bind_some]
        by_cases y0 : y = 0
        · rw [if_pos y0]; exact z284 0 y0.symm
        · rw [if_neg y0]
          refine z284 1 ?_
          rw [hy] at y0 ⊢
          split at y0
          · next h => rw [if_pos h]
          · next h =>
            rw [if_neg h]
            split at y0
            · exact absurd rfl y0
            · next h2 => rw [if_neg h2]
      unfold g_X9_laysBy_J248
      by_cases x0 : x = 0
      · rw [if_pos x0]; exact z265 0 x0.symm
      · rw [if_neg x0]
        refine z265 1 ?_
        rw [hx] at x0 ⊢
        split at x0
        · next h => rw [if_pos h]
        · next h =>
          rw [if_neg h]
          split at x0
          · exact absurd rfl x0
          · next h2 => rw [if_neg h2]
    have run : ∀ m, g_X9_laysBy_L174 (m + 1) (k : Int) σ = g_X9_laysBy_L174 m ((k + 1 : Nat) : Int) σ4 := by
      intro m
      rw [g_X9_laysBy_L174, hR.1, if_neg (by omega)]
      unfold g_X9_laysBy_J207 g_X9_laysBy_J212 g_X9_laysBy_J243
      by_cases k0 : k = 0
      · rw [if_pos (by omega), if_pos (by omega)]
        exact fin m 1 1 (by rw [if_pos k0]) (by rw [if_pos k0])
      · obtain ⟨k', rfl⟩ : ∃ k', k = k' + 1 := ⟨k - 1, by omega⟩
        obtain ⟨u1, u2, u3⟩ := hO k' (by omega)
        obtain ⟨v1, v2, v3⟩ := hO (k' + 1) (by omega)
        obtain ⟨q1, q2⟩ := hR.2 (o k') u2
        obtain ⟨q3, q4⟩ := hR.2 (o (k' + 1)) v2
        rw [u3] at q1 q2
        rw [v3] at q3 q4
        have c1 := p9_comparesWords ok q1 q3 (by omega) (by omega) hW q2 q4
        have c2 := p9_leadWord ok q1 (by omega) hW q2
        have c3 := p9_leadWord ok q3 (by omega) hW q4
        have hx : ∀ (x : Int), x = (if cW b wy (f k') (f (k' + 1)) = 0 then 0 else 1) → (sa_ld σ 608 72 (ab_w32 (((k' + 1 : Nat) : Int) - 1))).bind (fun t1 => (g_X9_leadWord t1 σ).bind fun q2 => (sa_ld q2.2 608 72 ((k' + 1 : Nat) : Int)).bind fun t3 => (g_X9_leadWord t3 q2.2).bind fun q4 => if q2.1 = q4.1 then g_X9_laysBy_J248 (g_X9_laysBy_L174 m) ((k' + 1 : Nat) : Int) x 0 q4.2 else g_X9_laysBy_J248 (g_X9_laysBy_L174 m) ((k' + 1 : Nat) : Int) x 1 q4.2) = g_X9_laysBy_L174 m ((k' + 1 + 1 : Nat) : Int) σ4 := by
          intro x hx
          rw [w32p (by omega), sa_ld_of (by omega) (by omega), Option.bind_some, Int.toNat_natCast, u1, c2, Option.bind_some]
          dsimp only
          rw [sa_ld_of (by omega) (by omega), Option.bind_some, Int.toNat_natCast, v1, c3, Option.bind_some]
          dsimp only
          by_cases z : lw b (f k') = lw b (f (k' + 1))
          · rw [if_pos (by omega)]; exact fin m x 0 (by rw [if_neg (by omega), Nat.add_sub_cancel]; exact hx) (by rw [if_neg (by omega), Nat.add_sub_cancel, if_pos z])
          · rw [if_neg (by omega)]; exact fin m x 1 (by rw [if_neg (by omega), Nat.add_sub_cancel]; exact hx) (by rw [if_neg (by omega), Nat.add_sub_cancel, if_neg z])
        rw [if_neg (by omega)]
        rw [show (sa_ld σ 608 72 (ab_w32 (((k' + 1 : Nat) : Int) - 1))) = some (o k' : Int) by rw [w32p (by omega), sa_ld_of (by omega) (by omega), Int.toNat_natCast, u1], Option.bind_some, show sa_ld σ 608 72 ((k' + 1 : Nat) : Int) = some (o (k' + 1) : Int) by rw [sa_ld_of (by omega) (by omega), Int.toNat_natCast, v1], Option.bind_some, c1, Option.bind_some]
        dsimp only
        by_cases z : cW b wy (f k') (f (k' + 1)) = 0
        · rw [if_pos z, if_neg (by omega)]
          have := hx 0 (by rw [if_pos z])
          exact this
        · rw [if_neg z, if_neg (by omega)]
          have := hx 1 (by rw [if_neg z])
          exact this
    obtain ⟨σ', q1, q2, q3, q4, q5, q6, q7⟩ := ih (k + 1) σ4 (by omega) (hW.fr (g4 14 (by decide) (by decide)) (f4 _ (by decide) (by decide) (by decide)) (f4 _ (by decide) (by decide) (by decide))) (hR.fr ok (g4 16 (by decide) (by decide)) (f4 _ (by decide) (by decide) (by decide)) (f4 _ (by decide) (by decide) (by decide)) (f4 _ (by decide) (by decide) (by decide)) (f4 _ (by decide) (by decide) (by decide))) (by rw [f4 608 (by decide) (by decide) (by decide)]; exact hO) (by rw [← hσ4, up2_o _ _ (by decide), up2_o _ _ (by decide), up2_ne _ _ (by omega), up2_at]) (by rw [← hσ4, up2_o _ _ (by decide), up2_o _ _ (by decide), up2_at])
    refine ⟨σ', fun n hn => ?_, fun j h1 h2 => ?_, fun j hj => ?_, q4, q5, fun a h1 h2 h3 => by rw [q6 a h1 h2 h3, f4 a h1 h2 h3], fun x h1 h2 => by rw [q7 x h1 h2, g4 x h1 h2]⟩
    · obtain ⟨m, rfl⟩ : ∃ m, n = m + 1 := ⟨n - 1, by omega⟩
      rw [run]; exact q1 m (by omega)
    · by_cases e : j = k
      · subst e
        rw [(q3 j (by omega)).1, (q3 j (by omega)).2, ← hσ4]
        exact ⟨by rw [up2_o _ _ (by decide), up2_at], up2_at _ _ _ _⟩
      · exact q2 j (by omega) h2
    · rw [(q3 j (by omega)).1, (q3 j (by omega)).2, ← hσ4]
      exact ⟨by rw [up2_o _ _ (by decide), up2_ne _ _ (by omega), up2_o _ _ (by decide), up2_o _ _ (by decide)], by rw [up2_ne _ _ (by omega), up2_o _ _ (by decide), up2_o _ _ (by decide), up2_o _ _ (by decide)]⟩
end OB
/-- the reference has laid all -/
def TU9 (σ : st_S) (b : BV) (wy : Nat → Int) : Prop := Wd9 σ b ∧ R9 σ b wy (el b) ∧ (∃ o : Nat → Nat, ∀ k, k < nE b wy → σ 608 k = (o k : Int) ∧ o k < nE b wy ∧ isE b (sE b wy k) ∧ E9 σ (o k) b wy (sE b wy k)) ∧ σ 596 17 = (nL b wy : Int) ∧ σ 596 18 = (nH b wy : Int) ∧ (∀ k, k < nE b wy → σ 605 k = (lnO b wy k : Int) ∧ σ 606 k = (hdO b wy k : Int)) ∧ nE b wy ≤ 72
theorem p9_laysBy {b : BV} {role way : Int} (ok : OkB b) {σ : st_S} (hB : RB9 σ 597 0 b) : ∃ σ', g_X9_laysBy role way σ = some σ' ∧ TU9 σ' b (wyU b role way) ∧ G9 σ σ' := by
  have o1 := ok.1
  obtain ⟨σ0, a1, a2, a3, a4⟩ := p9_laysWords ok hB
  have f1 : ∀ a, a ≠ 596 → up2 σ0 596 16 0 a = σ0 a := fun a h => up2_o _ _ h
  have g1 : ∀ x, x ≠ 16 → up2 σ0 596 16 0 596 x = σ0 596 x := fun x h => up2_ne _ _ (by omega)
  have hB0 : RB9 σ0 597 0 b := hB.fr (a3 597 (by decide) (by decide) (by decide))
  have G1 : G9 σ (up2 σ0 596 16 0) := ⟨fun a ha => by rw [f1 a (by omega), a3 a (by omega) (by omega) (by omega)], fun f hf => by rw [g1 f (by omega), a4 f (by omega)]⟩
  obtain ⟨σ1, q1, q2, q3, q4, q5⟩ := p9_L11 (role := role) (way := way) ok (bn b) 0 [] (up2 σ0 596 16 0) (by omega) (by show 0 ≤ _; omega) (hB0.fr (f1 _ (by decide))) (a2.fr (g1 14 (by decide)) (f1 _ (by decide)) (f1 _ (by decide))) ⟨up2_at _ _ _ _, fun e he => absurd he (Nat.not_lt_zero _)⟩
  rw [show ((0 : Nat) : Int) = 0 from rfl] at q1
  rw [List.nil_append] at q2 q3
  have q2 : R9 σ1 b (wyU b role way) (el b) := q2
  have q3 : (el b).length ≤ 72 := q3
  have hB1 : RB9 σ1 597 0 b := (hB0.fr (f1 _ (by decide))).fr (q5.1 597 (by omega))
  obtain ⟨σ2, o, r1, r2, r3⟩ := p9_L93b ok q3 (el b).length 0 (fun _ => 0) σ1 (by omega) hB1 q4 q2 (fun k hk => absurd hk (Nat.not_lt_zero _))
  rw [show ((0 : Nat) : Int) = 0 from rfl] at r1
  have hst : stK b (wyU b role way) (el b) (el b).length = so b (wyU b role way) := by unfold stK so; rw [List.take_length]
  have hne := nE_len b (wyU b role way)
  generalize hσ4 : up2 (up2 σ2 596 17 0) 596 18 0 = σ4
  have f4 : ∀ a, a ≠ 596 → σ4 a = σ2 a := fun a h => by rw [← hσ4, up2_o _ _ h, up2_o _ _ h]
  have g4 : ∀ x, x ≠ 17 → x ≠ 18 → σ4 596 x = σ2 596 x := fun x h1 h2 => by rw [← hσ4, up2_ne _ _ (by omega), up2_ne _ _ (by omega)]
  have W4 : Wd9 σ4 b := (q4.fr (by rw [r3 _ (by decide)]) (r3 _ (by decide)) (r3 _ (by decide))).fr (g4 14 (by decide) (by decide)) (f4 _ (by decide)) (f4 _ (by decide))
  have R4 : R9 σ4 b (wyU b role way) (el b) := (q2.fr ok (by rw [r3 _ (by decide)]) (r3 _ (by decide)) (r3 _ (by decide)) (r3 _ (by decide)) (r3 _ (by decide))).fr ok (g4 16 (by decide) (by decide)) (f4 _ (by decide)) (f4 _ (by decide)) (f4 _ (by decide)) (f4 _ (by decide))
  have O4 : ∀ j, j < (el b).length → σ4 608 j = (o j : Int) ∧ o j < (el b).length ∧ (el b).getD (o j) (0, 0) = sE b (wyU b role way) j := by
    intro j hj
    rw [f4 608 (by decide)]
    have := r2 j hj
    rw [hst] at this; exact this
  obtain ⟨σ5, s1, s2, s3, s4, s5, s6, s7⟩ := p9_L174 ok q3 (el b).length 0 σ4 (by omega) W4 R4 O4 (by rw [← hσ4, up2_ne _ _ (by omega), up2_at]; rfl) (by rw [← hσ4, up2_at]; rfl)
  rw [show ((0 : Nat) : Int) = 0 from rfl] at s1
  have R5 := R4.fr (σ' := σ5) ok (s7 16 (by decide) (by decide)) (s6 _ (by decide) (by decide) (by decide)) (s6 _ (by decide) (by decide) (by decide)) (s6 _ (by decide) (by decide) (by decide)) (s6 _ (by decide) (by decide) (by decide))
  refine ⟨σ5, ?_, ⟨W4.fr (s7 14 (by decide) (by decide)) (s6 _ (by decide) (by decide) (by decide)) (s6 _ (by decide) (by decide) (by decide)), R5, ⟨o, fun k hk => ?_⟩, ?_, ?_, fun k hk => s2 k (by omega) (by omega), by omega⟩, ?_⟩
  · unfold g_X9_laysBy
    rw [a1, Option.bind_some, Option.bind_some, q1 _ ab_FU (by show _ < 100000; omega), r1 _ ab_FU (by show _ < 100000; omega), Option.bind_some, Option.bind_some, hσ4]
    exact s1 ab_FU (by show _ < 100000; omega)
  · obtain ⟨z1, z2, z3⟩ := O4 k (by omega)
    obtain ⟨y1, y2⟩ := R5.2 (o k) z2
    rw [z3] at y1 y2
    exact ⟨by rw [s6 608 (by decide) (by decide) (by decide)]; exact z1, by omega, y1, y2⟩
  · rw [s4]; unfold nL; rw [hne]; rfl
  · rw [s5]; unfold nH; rw [hne]; rfl
  · refine G1.trans (q5.trans ⟨fun a ha => ?_, fun f hf => ?_⟩)
    · rw [s6 a (by omega) (by omega) (by omega), f4 a (by omega), r3 a (by omega)]
    · rw [s7 f (by omega) (by omega), g4 f (by omega) (by omega), r3 596 (by decide)]
theorem p9_lays {b : BV} (ok : OkB b) {σ : st_S} (hB : RB9 σ 597 0 b) : ∃ σ', g_X9_lays σ = some σ' ∧ TU9 σ' b (bwy b) ∧ G9 σ σ' := by
  obtain ⟨σ', q1, q2, q3⟩ := p9_laysBy (role := -1) (way := 0) ok hB
  rw [wyU_no] at q2
  refine ⟨σ', ?_, q2, q3⟩
  unfold g_X9_lays
  rw [q1]; rfl
