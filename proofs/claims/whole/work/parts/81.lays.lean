/-! the reference lays entries -/
def Rw9 (σ : st_S) (r s : Nat) (q : RW) : Prop := σ 607 r = (q.1 : Int) ∧ ∀ k, k < q.1 → σ 607 (r + 1 + k) = ((6 * s + q.2 k : Nat) : Int)
def Q9 (σ : st_S) (e s : Nat) (q : EV) : Prop := Rw9 σ (12 * e) s q.1 ∧ Rw9 σ (12 * e + 6) s q.2.1 ∧ σ 596 25 = (pc q.2.2 : Int)
def F9 (σ σ' : st_S) (e : Nat) : Prop := (∀ c, c ≠ 596 → c ≠ 607 → σ' c = σ c) ∧ (∀ f, f ≠ 25 → σ' 596 f = σ 596 f) ∧ ∀ x, (x < 12 * e ∨ 12 * e + 12 ≤ x) → σ' 607 x = σ 607 x
theorem F9.rfl' {σ : st_S} {e : Nat} : F9 σ σ e := ⟨fun _ _ _ => rfl, fun _ _ => rfl, fun _ _ => rfl⟩
theorem F9.trans {σ σ1 σ2 : st_S} {e : Nat} (h : F9 σ σ1 e) (h2 : F9 σ1 σ2 e) : F9 σ σ2 e := ⟨fun a x y => by rw [h2.1 a x y, h.1 a x y], fun x y => by rw [h2.2.1 x y, h.2.1 x y], fun x y => by rw [h2.2.2 x y, h.2.2 x y]⟩
theorem Wd9.fr {σ σ' : st_S} {b : BV} (h : Wd9 σ b) (e1 : σ' 596 14 = σ 596 14) (e2 : σ' 600 = σ 600) (e3 : σ' 601 = σ 601) : Wd9 σ' b := ⟨h.1.fr e1 e2, by rw [e3]; exact h.2⟩
section P9
variable {b : BV} {s p e : Nat}
theorem p9_puts (ok : OkB b) (hs : s < bn b) (hp : p < bsz b s) (he : e < 72) {σ : st_S} {q : RW} {bl i : Nat} (hbl : bl < 2) (hi : i < bsz b s) (hW : Wd9 σ b) (h3 : σ 603 e = (p : Int)) (hQ : Rw9 σ (12 * e + 6 * bl) s q) (hq : q.1 ≤ 4) (hqi : ∀ k, k < q.1 → q.2 k < bsz b s) {g : Nat} (hg : σ 596 25 = (g : Int)) (hg2 : g < 100) :
    ∃ σ', g_X9_puts (e : Int) (bl : Int) (s : Int) (i : Int) σ = some σ' ∧ (tw b s i = tw b s (ahd p q) → σ' = up2 σ 596 25 ((g + 1 : Nat) : Int)) ∧ (¬ tw b s i = tw b s (ahd p q) → σ' = up2 (up2 σ 607 (12 * e + 6 * bl) ((q.1 + 1 : Nat) : Int)) 607 (12 * e + 6 * bl + q.1 + 1) ((6 * s + i : Nat) : Int)) := by
  have o1 := ok.1
  have o2 := ok.2.1 s hs
  have ha : ahd p q < bsz b s := by
    unfold ahd
    split
    · exact hp
    · exact hqi _ (by omega)
  have w1 := hW.2 s hs (ahd p q) ha
  have w2 := hW.2 s hs i hi
  have r1 : ab_w32 (ab_w32 ((12 : Int) * (e : Int)) + ab_w32 ((6 : Int) * (bl : Int))) = ((12 * e + 6 * bl : Nat) : Int) := by
    rw [w32i (x := (12 : Int) * (e : Int)) (by omega) (by omega), w32i (x := (6 : Int) * (bl : Int)) (by omega) (by omega), w32i (by omega) (by omega)]; omega
  have run : g_X9_puts (e : Int) (bl : Int) (s : Int) (i : Int) σ = g_X9_puts_J48 (s : Int) (i : Int) ((12 * e + 6 * bl : Nat) : Int) (q.1 : Int) ((6 * s + ahd p q : Nat) : Int) σ := by
    unfold g_X9_puts
    rw [r1, sa_ld_of (by omega) (by omega), Option.bind_some, Int.toNat_natCast, hQ.1]
    unfold ahd
    by_cases z : q.1 = 0
    · rw [if_pos (by omega), if_pos z, sa_ld_of (by omega) (by omega), Option.bind_some, Int.toNat_natCast, h3, p9_place (by omega) (by omega), Option.bind_some]
    · have e2 := hQ.2 (q.1 - 1) (by omega)
      rw [if_neg (by omega), if_neg z, show ab_w32 (((12 * e + 6 * bl : Nat) : Int) + (q.1 : Int)) = ((12 * e + 6 * bl + 1 + (q.1 - 1) : Nat) : Int) by rw [w32i (by omega) (by omega)]; omega, sa_ld_of (by omega) (by omega), Option.bind_some, Int.toNat_natCast, e2]
  rw [run]
  unfold g_X9_puts_J48 g_X9_puts_J87
  rw [if_neg (by omega), sa_ld_of (by omega) (by omega), Option.bind_some, Int.toNat_natCast, w1, p9_place (by omega) (by omega), Option.bind_some]
  dsimp only
  rw [sa_ld_of (by omega) (by omega), Option.bind_some, Int.toNat_natCast, w2]
  by_cases ew : tw b s i = tw b s (ahd p q)
  · refine ⟨_, ?_, fun _ => rfl, fun z => absurd ew z⟩
    rw [if_pos (by omega), hg, w32s (by omega)]; rfl
  · refine ⟨_, ?_, fun z => absurd z ew, fun _ => rfl⟩
    rw [if_neg (by omega), sa_ld_of (by omega) (by omega), Option.bind_some, Int.toNat_natCast, hQ.1, w32s (by omega), sa_st_of (by omega) (by omega), Option.bind_some, p9_place (by omega) (by omega), Option.bind_some]
    dsimp only
    rw [show ab_w32 (((12 * e + 6 * bl : Nat) : Int) + (q.1 : Int)) = ((12 * e + 6 * bl + q.1 : Nat) : Int) by rw [w32i (by omega) (by omega)]; omega, w32s (by omega), sa_st_of (by omega) (by omega), Option.bind_some, Int.toNat_natCast, Int.toNat_natCast]
theorem EOK.pcg {off : Nat → Prop} {n : Nat} {q : EV} (h : EOK off n q) {i : Nat} (hi : i < 6) (hn : ¬ off i) : pc (q.2.2 ||| 2 ^ i) = pc q.2.2 + 1 := by
  refine pc_or h.1 hi ?_
  cases e : q.2.2.testBit i
  · rfl
  · exact absurd ((h.2.2.2.2 i).mp e).1 hn
theorem p9_putsA (ok : OkB b) (hs : s < bn b) (hp : p < bsz b s) (he : e < 72) {σ : st_S} {q : EV} {off : Nat → Prop} {m i : Nat} (hi : i < bsz b s) (hW : Wd9 σ b) (h3 : σ 603 e = (p : Int)) (hQ : Q9 σ e s q) (hE : EOK off m q) (hm : m ≤ 4) (hoff : ∀ u, off u → u < bsz b s) (hn : ¬ off i) :
    ∃ σ', g_X9_puts (e : Int) 0 (s : Int) (i : Int) σ = some σ' ∧ Q9 σ' e s (oA (tw b s) p q i) ∧ F9 σ σ' e := by
  have o2 := ok.2.1 s hs
  have hc := hE.2.1
  obtain ⟨h1, h2, h3'⟩ := hQ
  obtain ⟨σ', e1, k1, k2⟩ := p9_puts (bl := 0) ok hs hp he (by omega) hi hW h3 (by rw [Nat.mul_zero, Nat.add_zero]; exact h1) (by omega) (fun k hk => hoff _ (hE.2.2.1 _ ⟨k, hk, rfl⟩)) h3' (by have := pc_le q.2.2; omega)
  refine ⟨σ', e1, ?_⟩
  unfold oA
  by_cases ew : tw b s i = tw b s (ahd p q.1)
  · rw [if_pos ew, k1 ew]
    refine ⟨⟨?_, ?_, ?_⟩, fun c x y => up2_o _ _ x, fun f x => up2_ne _ _ (fun z => x z.2), fun x _ => by rw [up2_o _ _ (by decide)]⟩
    · unfold Rw9; rw [up2_o _ _ (by decide)]; exact h1
    · unfold Rw9; rw [up2_o _ _ (by decide)]; exact h2
    · rw [up2_at]; show _ = ((pc (q.2.2 ||| 2 ^ i) : Nat) : Int); rw [hE.pcg (by omega) hn]
  · rw [if_neg ew, k2 ew, Nat.mul_zero, Nat.add_zero]
    refine ⟨⟨⟨?_, fun k hk => ?_⟩, ⟨?_, fun k hk => ?_⟩, ?_⟩, fun c x y => by rw [up2_o _ _ y, up2_o _ _ y], fun f x => by rw [up2_o _ _ (by decide), up2_o _ _ (by decide)], fun x hx => by rw [up2_ne _ _ (by omega), up2_ne _ _ (by omega)]⟩
    · rw [up2_ne _ _ (by omega), up2_at]; rfl
    · have hk' : k < q.1.1 + 1 := hk
      show _ = ((6 * s + (if k = q.1.1 then i else q.1.2 k) : Nat) : Int)
      by_cases ek : k = q.1.1
      · subst ek; rw [if_pos rfl, show 12 * e + 1 + q.1.1 = 12 * e + q.1.1 + 1 by omega, up2_at]
      · rw [if_neg ek, up2_ne _ _ (by omega), up2_ne _ _ (by omega)]; exact h1.2 k (by omega)
    · rw [up2_ne _ _ (by omega), up2_ne _ _ (by omega)]; exact h2.1
    · rw [up2_ne _ _ (by omega), up2_ne _ _ (by omega)]; exact h2.2 k hk
    · rw [up2_o _ _ (by decide), up2_o _ _ (by decide)]; exact h3'
theorem p9_putsB (ok : OkB b) (hs : s < bn b) (hp : p < bsz b s) (he : e < 72) {σ : st_S} {q : EV} {off : Nat → Prop} {m i : Nat} (hi : i < bsz b s) (hW : Wd9 σ b) (h3 : σ 603 e = (p : Int)) (hQ : Q9 σ e s q) (hE : EOK off m q) (hm : m ≤ 4) (hoff : ∀ u, off u → u < bsz b s) (hn : ¬ off i) :
    ∃ σ', g_X9_puts (e : Int) 1 (s : Int) (i : Int) σ = some σ' ∧ Q9 σ' e s (oB (tw b s) p q i) ∧ F9 σ σ' e := by
  have o2 := ok.2.1 s hs
  have hc := hE.2.1
  obtain ⟨h1, h2, h3'⟩ := hQ
  obtain ⟨σ', e1, k1, k2⟩ := p9_puts (bl := 1) ok hs hp he (by omega) hi hW h3 (by rw [Nat.mul_one]; exact h2) (by omega) (fun k hk => hoff _ (hE.2.2.2.1 _ ⟨k, hk, rfl⟩)) h3' (by have := pc_le q.2.2; omega)
  refine ⟨σ', e1, ?_⟩
  unfold oB
  by_cases ew : tw b s i = tw b s (ahd p q.2.1)
  · rw [if_pos ew, k1 ew]
    refine ⟨⟨?_, ?_, ?_⟩, fun c x y => up2_o _ _ x, fun f x => up2_ne _ _ (fun z => x z.2), fun x _ => by rw [up2_o _ _ (by decide)]⟩
    · unfold Rw9; rw [up2_o _ _ (by decide)]; exact h1
    · unfold Rw9; rw [up2_o _ _ (by decide)]; exact h2
    · rw [up2_at]; show _ = ((pc (q.2.2 ||| 2 ^ i) : Nat) : Int); rw [hE.pcg (by omega) hn]
  · rw [if_neg ew, k2 ew, Nat.mul_one]
    refine ⟨⟨⟨?_, fun k hk => ?_⟩, ⟨?_, fun k hk => ?_⟩, ?_⟩, fun c x y => by rw [up2_o _ _ y, up2_o _ _ y], fun f x => by rw [up2_o _ _ (by decide), up2_o _ _ (by decide)], fun x hx => by rw [up2_ne _ _ (by omega), up2_ne _ _ (by omega)]⟩
    · rw [up2_ne _ _ (by omega), up2_ne _ _ (by omega)]; exact h1.1
    · have hk' : k < q.1.1 := hk
      rw [up2_ne _ _ (by omega), up2_ne _ _ (by omega)]; exact h1.2 k hk
    · rw [up2_ne _ _ (by omega), up2_at]; rfl
    · have hk' : k < q.2.1.1 + 1 := hk
      show _ = ((6 * s + (if k = q.2.1.1 then i else q.2.1.2 k) : Nat) : Int)
      by_cases ek : k = q.2.1.1
      · subst ek; rw [if_pos rfl, show 12 * e + 6 + 1 + q.2.1.1 = 12 * e + 6 + q.2.1.1 + 1 by omega, up2_at]
      · rw [if_neg ek, up2_ne _ _ (by omega), up2_ne _ _ (by omega)]; exact h2.2 k (by omega)
    · rw [up2_o _ _ (by decide), up2_o _ _ (by decide)]; exact h3'
theorem p9_L62 (ok : OkB b) (hs : s < bn b) (hp : p < bsz b s) (he : e < 72) (way : Int) : ∀ (c : Nat) (q : EV) (σ : st_S) (v5 : Int), v5 = (c : Int) - 1 → c ≤ p → Wd9 σ b → σ 603 e = (p : Int) → Q9 σ e s q → EOK (fun u => c ≤ u ∧ u < p) (p - c) q →
    ∃ σ', (∀ (k : Int → Int → Int → Int → st_S → Option st_S) (n : Nat), c < n → g_X9_laysEntry_L62 k n (s : Int) (p : Int) way (e : Int) v5 σ = k (s : Int) (p : Int) way (e : Int) σ') ∧ Q9 σ' e s (dA (tw b s) p c q) ∧ F9 σ σ' e := by
  have o2 := ok.2.1 s hs
  intro c
  induction c with
  | zero =>
    intro q σ v5 hv _ _ _ hQ _
    refine ⟨σ, fun k n hn => ?_, hQ, F9.rfl'⟩
    obtain ⟨m, rfl⟩ : ∃ m, n = m + 1 := ⟨n - 1, by omega⟩
    rw [g_X9_laysEntry_L62, if_pos (by omega)]
  | succ c ih =>
    intro q σ v5 hv hc hW h3 hQ hE
    obtain ⟨σ1, q1, q2, q3⟩ := p9_putsA ok hs hp he (i := c) (by omega) hW h3 hQ hE (by omega) (fun u hu => by omega) (by omega)
    obtain ⟨σ', r1, r2, r3⟩ := ih (oA (tw b s) p q c) σ1 ((c : Int) - 1) rfl (by omega) (hW.fr (q3.2.1 14 (by decide)) (q3.1 600 (by decide) (by decide)) (q3.1 601 (by decide) (by decide))) (by rw [q3.1 603 (by decide) (by decide)]; exact h3) q2 ((hE.toA (tw b s) p (i := c) (by omega) (by omega)).c (fun u => by omega) (by omega))
    refine ⟨σ', fun k n hn => ?_, r2, q3.trans r3⟩
    obtain ⟨m, rfl⟩ : ∃ m, n = m + 1 := ⟨n - 1, by omega⟩
    have ev : v5 = (c : Int) := by omega
    subst ev
    rw [g_X9_laysEntry_L62, if_neg (by omega), q1, Option.bind_some, show ab_w32 ((c : Int) + -1) = (c : Int) - 1 by unfold ab_w32; omega]
    exact r1 k m (by omega)
theorem p9_L93 (ok : OkB b) (hs : s < bn b) (hp : p < bsz b s) (he : e < 72) (way : Int) : ∀ (c i : Nat) (off : Nat → Prop) (q : EV) (σ : st_S), i + c = bsz b s → p < i → (∀ u, off u → u < i) → RB9 σ 597 0 b → Wd9 σ b → σ 603 e = (p : Int) → Q9 σ e s q → EOK off (i - 1) q →
    ∃ σ', (∀ (k : Int → Int → Int → Int → st_S → Option st_S) (n : Nat), c < n → g_X9_laysEntry_L93 k n (s : Int) (p : Int) way (e : Int) (i : Int) σ = k (s : Int) (p : Int) way (e : Int) σ') ∧ Q9 σ' e s (uA (tw b s) p c i q) ∧ F9 σ σ' e := by
  have o2 := ok.2.1 s hs
  intro c
  induction c with
  | zero =>
    intro i off q σ hi _ _ hB _ _ hQ _
    refine ⟨σ, fun k n hn => ?_, hQ, F9.rfl'⟩
    obtain ⟨m, rfl⟩ : ∃ m, n = m + 1 := ⟨n - 1, by omega⟩
    rw [g_X9_laysEntry_L93, p9_terms hB ok hs, Option.bind_some]
    dsimp only
    rw [if_pos (by omega)]
  | succ c ih =>
    intro i off q σ hi hpi hoff hB hW h3 hQ hE
    obtain ⟨σ1, q1, q2, q3⟩ := p9_putsA ok hs hp he (i := i) (by omega) hW h3 hQ hE (by omega) (fun u hu => by have := hoff u hu; omega) (fun z => by have := hoff i z; omega)
    obtain ⟨σ', r1, r2, r3⟩ := ih (i + 1) (fun u => off u ∨ u = i) (oA (tw b s) p q i) σ1 (by omega) (by omega) (fun u hu => hu.elim (fun z => by have := hoff u z; omega) (fun z => by omega)) (hB.fr (q3.1 597 (by decide) (by decide))) (hW.fr (q3.2.1 14 (by decide)) (q3.1 600 (by decide) (by decide)) (q3.1 601 (by decide) (by decide))) (by rw [q3.1 603 (by decide) (by decide)]; exact h3) q2 ((hE.toA (tw b s) p (i := i) (by omega) (fun z => by have := hoff i z; omega)).c (fun u => Iff.rfl) (by omega))
    refine ⟨σ', fun k n hn => ?_, r2, q3.trans r3⟩
    obtain ⟨m, rfl⟩ : ∃ m, n = m + 1 := ⟨n - 1, by omega⟩
    rw [g_X9_laysEntry_L93, p9_terms hB ok hs, Option.bind_some]
    dsimp only
    rw [if_neg (by omega), q1, Option.bind_some, w32s (by omega)]
    exact r1 k m (by omega)
theorem p9_L159 (ok : OkB b) (hs : s < bn b) (hp : p < bsz b s) (he : e < 72) : ∀ (c i : Nat) (off : Nat → Prop) (q : EV) (σ : st_S), i + c = bsz b s → p < i → (∀ u, off u → u < i) → RB9 σ 597 0 b → Wd9 σ b → σ 603 e = (p : Int) → Q9 σ e s q → EOK off (i - 1) q →
    ∃ σ', (∀ (k : Int → st_S → Option st_S) (n : Nat), c < n → g_X9_laysEntry_L159 k n (s : Int) (e : Int) (i : Int) σ = k (e : Int) σ') ∧ Q9 σ' e s (uB (tw b s) p c i q) ∧ F9 σ σ' e := by
  have o2 := ok.2.1 s hs
  intro c
  induction c with
  | zero =>
    intro i off q σ hi _ _ hB _ _ hQ _
    refine ⟨σ, fun k n hn => ?_, hQ, F9.rfl'⟩
    obtain ⟨m, rfl⟩ : ∃ m, n = m + 1 := ⟨n - 1, by omega⟩
    rw [g_X9_laysEntry_L159, p9_terms hB ok hs, Option.bind_some]
    dsimp only
    rw [if_pos (by omega)]
  | succ c ih =>
    intro i off q σ hi hpi hoff hB hW h3 hQ hE
    obtain ⟨σ1, q1, q2, q3⟩ := p9_putsB ok hs hp he (i := i) (by omega) hW h3 hQ hE (by omega) (fun u hu => by have := hoff u hu; omega) (fun z => by have := hoff i z; omega)
    obtain ⟨σ', r1, r2, r3⟩ := ih (i + 1) (fun u => off u ∨ u = i) (oB (tw b s) p q i) σ1 (by omega) (by omega) (fun u hu => hu.elim (fun z => by have := hoff u z; omega) (fun z => by omega)) (hB.fr (q3.1 597 (by decide) (by decide))) (hW.fr (q3.2.1 14 (by decide)) (q3.1 600 (by decide) (by decide)) (q3.1 601 (by decide) (by decide))) (by rw [q3.1 603 (by decide) (by decide)]; exact h3) q2 ((hE.toB (tw b s) p (i := i) (by omega) (fun z => by have := hoff i z; omega)).c (fun u => Iff.rfl) (by omega))
    refine ⟨σ', fun k n hn => ?_, r2, q3.trans r3⟩
    obtain ⟨m, rfl⟩ : ∃ m, n = m + 1 := ⟨n - 1, by omega⟩
    rw [g_X9_laysEntry_L159, p9_terms hB ok hs, Option.bind_some]
    dsimp only
    rw [if_neg (by omega), q1, Option.bind_some, w32s (by omega)]
    exact r1 k m (by omega)
theorem p9_L127 (ok : OkB b) (hs : s < bn b) (hp : p < bsz b s) (he : e < 72) (way : Int) : ∀ (c i : Nat) (off : Nat → Prop) (q : EV) (σ : st_S), i + c = p → (∀ u, off u → u < i) → Wd9 σ b → σ 603 e = (p : Int) → Q9 σ e s q → EOK off i q →
    ∃ σ', (∀ (k : Int → Int → Int → Int → st_S → Option st_S) (n : Nat), c < n → g_X9_laysEntry_L127 k n (s : Int) (p : Int) way (e : Int) (i : Int) σ = k (s : Int) (p : Int) way (e : Int) σ') ∧ Q9 σ' e s (uB (tw b s) p c i q) ∧ F9 σ σ' e := by
  have o2 := ok.2.1 s hs
  intro c
  induction c with
  | zero =>
    intro i off q σ hi _ _ _ hQ _
    refine ⟨σ, fun k n hn => ?_, hQ, F9.rfl'⟩
    obtain ⟨m, rfl⟩ : ∃ m, n = m + 1 := ⟨n - 1, by omega⟩
    rw [g_X9_laysEntry_L127, if_pos (by omega)]
  | succ c ih =>
    intro i off q σ hi hoff hW h3 hQ hE
    obtain ⟨σ1, q1, q2, q3⟩ := p9_putsB ok hs hp he (i := i) (by omega) hW h3 hQ hE (by omega) (fun u hu => by have := hoff u hu; omega) (fun z => by have := hoff i z; omega)
    obtain ⟨σ', r1, r2, r3⟩ := ih (i + 1) (fun u => off u ∨ u = i) (oB (tw b s) p q i) σ1 (by omega) (fun u hu => hu.elim (fun z => by have := hoff u z; omega) (fun z => by omega)) (hW.fr (q3.2.1 14 (by decide)) (q3.1 600 (by decide) (by decide)) (q3.1 601 (by decide) (by decide))) (by rw [q3.1 603 (by decide) (by decide)]; exact h3) q2 (hE.toB (tw b s) p (i := i) (by omega) (fun z => by have := hoff i z; omega))
    refine ⟨σ', fun k n hn => ?_, r2, q3.trans r3⟩
    obtain ⟨m, rfl⟩ : ∃ m, n = m + 1 := ⟨n - 1, by omega⟩
    rw [g_X9_laysEntry_L127, if_neg (by omega), q1, Option.bind_some, w32s (by omega)]
    exact r1 k m (by omega)
/-- entry e of the reference -/
def E9 (σ : st_S) (e : Nat) (b : BV) (wy : Nat → Int) (x : Nat × Nat) : Prop := σ 602 e = (x.1 : Int) ∧ σ 603 e = (x.2 : Int) ∧ σ 604 e = (pc (gG b wy x) : Int) ∧ Rw9 σ (12 * e) x.1 (en b wy x).1 ∧ Rw9 σ (12 * e + 6) x.1 (en b wy x).2.1
theorem p9_laysEntry (ok : OkB b) {wy : Nat → Int} {x : Nat × Nat} (hx : isE b x) (he : e < 72) {σ : st_S} (hB : RB9 σ 597 0 b) (hW : Wd9 σ b) (h16 : σ 596 16 = (e : Int)) :
    ∃ σ', g_X9_laysEntry (x.1 : Int) (x.2 : Int) (wy (btm b 0 x.1 x.2).toNat) σ = some σ' ∧ E9 σ' e b wy x ∧ σ' 596 16 = ((e + 1 : Nat) : Int) ∧ (∀ c, (c < 602 ∨ 604 < c) → c ≠ 596 → c ≠ 607 → σ' c = σ c) ∧ (∀ f, f ≠ 25 → f ≠ 16 → σ' 596 f = σ 596 f) ∧ (∀ j, j ≠ e → σ' 602 j = σ 602 j ∧ σ' 603 j = σ 603 j ∧ σ' 604 j = σ 604 j) ∧ ∀ j, (j < 12 * e ∨ 12 * e + 12 ≤ j) → σ' 607 j = σ 607 j := by
  have o1 := ok.1
  have o2 := ok.2.1 x.1 hx.1
  have hs := hx.1
  have hp := hx.2
  generalize hσ5 : up2 (up2 (up2 (up2 (up2 σ 602 e (x.1 : Int)) 603 e (x.2 : Int)) 607 (12 * e) 0) 607 (12 * e + 6) 0) 596 25 0 = σ5
  have f5 : ∀ c, c ≠ 596 → c ≠ 602 → c ≠ 603 → c ≠ 607 → σ5 c = σ c := fun c h1 h2 h3 h4 => by rw [← hσ5, up2_o _ _ h1, up2_o _ _ h4, up2_o _ _ h4, up2_o _ _ h3, up2_o _ _ h2]
  have g5 : ∀ f, f ≠ 25 → σ5 596 f = σ 596 f := fun f hf => by rw [← hσ5, up2_ne _ _ (by omega), up2_o _ _ (by decide), up2_o _ _ (by decide), up2_o _ _ (by decide), up2_o _ _ (by decide)]
  have m2 : ∀ j, σ5 602 j = if j = e then (x.1 : Int) else σ 602 j := fun j => by
    rw [← hσ5, up2_o _ _ (by decide), up2_o _ _ (by decide), up2_o _ _ (by decide), up2_o _ _ (by decide)]
    by_cases z : j = e
    · subst z; rw [up2_at, if_pos rfl]
    · rw [up2_ne _ _ (by omega), if_neg z]
  have m3 : ∀ j, σ5 603 j = if j = e then (x.2 : Int) else σ 603 j := fun j => by
    rw [← hσ5, up2_o _ _ (by decide), up2_o _ _ (by decide), up2_o _ _ (by decide)]
    by_cases z : j = e
    · subst z; rw [up2_at, if_pos rfl]
    · rw [up2_ne _ _ (by omega), if_neg z, up2_o _ _ (by decide)]
  have m7 : ∀ j, j ≠ 12 * e → j ≠ 12 * e + 6 → σ5 607 j = σ 607 j := fun j h1 h2 => by rw [← hσ5, up2_o _ _ (by decide), up2_ne _ _ (by omega), up2_ne _ _ (by omega), up2_o _ _ (by decide), up2_o _ _ (by decide)]
  have Q5 : Q9 σ5 e x.1 e0 := by
    refine ⟨⟨?_, fun k hk => absurd hk (Nat.not_lt_zero _)⟩, ⟨?_, fun k hk => absurd hk (Nat.not_lt_zero _)⟩, ?_⟩
    · rw [← hσ5, up2_o _ _ (by decide), up2_ne _ _ (by omega), up2_at]; rfl
    · rw [← hσ5, up2_o _ _ (by decide), up2_at]; rfl
    · rw [← hσ5, up2_at]; rfl
  have B5 : RB9 σ5 597 0 b := hB.fr (f5 _ (by decide) (by decide) (by decide) (by decide))
  have W5 : Wd9 σ5 b := hW.fr (g5 14 (by decide)) (f5 _ (by decide) (by decide) (by decide) (by decide)) (f5 _ (by decide) (by decide) (by decide) (by decide))
  have t5 : σ5 603 e = (x.2 : Int) := by rw [m3, if_pos rfl]
  generalize hwy : wy (btm b 0 x.1 x.2).toNat = way
  have run : g_X9_laysEntry (x.1 : Int) (x.2 : Int) way σ = if way = 1 then g_X9_laysEntry_J83 (x.1 : Int) (x.2 : Int) way (e : Int) σ5 else g_X9_laysEntry_L62 (fun w83_1 w83_2 w83_3 w83_4 σx83 => g_X9_laysEntry_J83 w83_1 w83_2 w83_3 w83_4 σx83) ab_FU (x.1 : Int) (x.2 : Int) way (e : Int) ((x.2 : Int) - 1) σ5 := by
    unfold g_X9_laysEntry
    rw [h16, sa_st_of (by omega) (by omega), Option.bind_some, sa_st_of (by omega) (by omega), Option.bind_some, show ab_w32 ((12 : Int) * (e : Int)) = ((12 * e : Nat) : Int) by unfold ab_w32; omega, sa_st_of (by omega) (by omega), Option.bind_some, show ab_w32 (((12 * e : Nat) : Int) + 6) = ((12 * e + 6 : Nat) : Int) by unfold ab_w32; omega, sa_st_of (by omega) (by omega), Option.bind_some, Option.bind_some, Int.toNat_natCast, Int.toNat_natCast, Int.toNat_natCast, hσ5, show ab_w32 ((x.2 : Int) - 1) = (x.2 : Int) - 1 by unfold ab_w32; omega]
  -- the end
  have fin : ∀ σ6 : st_S, F9 σ5 σ6 e → Q9 σ6 e x.1 (ev (tw b x.1) way x.2 (bsz b x.1)) → ∃ σ', g_X9_laysEntry_J185 (e : Int) σ6 = some σ' ∧ E9 σ' e b wy x ∧ σ' 596 16 = ((e + 1 : Nat) : Int) ∧ (∀ c, (c < 602 ∨ 604 < c) → c ≠ 596 → c ≠ 607 → σ' c = σ c) ∧ (∀ f, f ≠ 25 → f ≠ 16 → σ' 596 f = σ 596 f) ∧ (∀ j, j ≠ e → σ' 602 j = σ 602 j ∧ σ' 603 j = σ 603 j ∧ σ' 604 j = σ 604 j) ∧ ∀ j, (j < 12 * e ∨ 12 * e + 12 ≤ j) → σ' 607 j = σ 607 j := by
    intro σ6 hF hQ
    have een : ev (tw b x.1) way x.2 (bsz b x.1) = en b wy x := by unfold en; rw [hwy]
    rw [een] at hQ
    obtain ⟨q1, q2, q3⟩ := hQ
    have c16 : σ6 596 16 = (e : Int) := by rw [hF.2.1 16 (by decide), g5 16 (by decide)]; exact h16
    refine ⟨up2 (up2 σ6 604 e (pc (gG b wy x) : Int)) 596 16 ((e + 1 : Nat) : Int), ?_, ⟨?_, ?_, ?_, ?_, ?_⟩, up2_at _ _ _ _, fun c h1 h2 h3 => ?_, fun f h1 h2 => ?_, fun j hj => ⟨?_, ?_, ?_⟩, fun j hj => ?_⟩
    · unfold g_X9_laysEntry_J185
      rw [sa_st_of (by omega) (by omega), Option.bind_some, q3, Int.toNat_natCast, up2_o (a' := 596) _ _ (by decide), c16, w32s (by omega)]; rfl
    · rw [up2_o _ _ (by decide), up2_o _ _ (by decide), hF.1 602 (by decide) (by decide), m2, if_pos rfl]
    · rw [up2_o _ _ (by decide), up2_o _ _ (by decide), hF.1 603 (by decide) (by decide), m3, if_pos rfl]
    · rw [up2_o _ _ (by decide), up2_at]
    · unfold Rw9; rw [up2_o _ _ (by decide), up2_o _ _ (by decide)]; exact q1
    · unfold Rw9; rw [up2_o _ _ (by decide), up2_o _ _ (by decide)]; exact q2
    · rw [up2_o _ _ h2, up2_o _ _ (by omega), hF.1 c h2 h3, f5 c h2 (by omega) (by omega) h3]
    · rw [up2_ne _ _ (by omega), up2_o _ _ (by decide), hF.2.1 f h1, g5 f h1]
    · rw [up2_o _ _ (by decide), up2_o _ _ (by decide), hF.1 602 (by decide) (by decide), m2, if_neg hj]
    · rw [up2_o _ _ (by decide), up2_o _ _ (by decide), hF.1 603 (by decide) (by decide), m3, if_neg hj]
    · rw [up2_o _ _ (by decide), up2_ne _ _ (by omega), hF.1 604 (by decide) (by decide), f5 604 (by decide) (by decide) (by decide) (by decide)]
    · rw [up2_o _ _ (by decide), up2_o _ _ (by decide), hF.2.2 j hj, m7 j (by omega) (by omega)]
  rw [run]
  by_cases w1 : way = 1
  · subst w1
    obtain ⟨σ6, r1, r2, r3⟩ := p9_L127 ok hs hp he 1 x.2 0 (fun _ => False) e0 σ5 (by omega) (fun u hu => hu.elim) W5 t5 Q5 EOK.zero
    rw [show ((0 : Nat) : Int) = 0 from rfl] at r1
    have E6 := (EOK.tuB (tw b x.1) x.2 x.2 0 _ _ _ (by omega) (fun u _ _ => id) EOK.zero).c (off' := fun u => u < x.2) (n' := x.2 + 1 - 1) (fun u => by simp only [false_or]; omega) (by omega)
    obtain ⟨σ7, s1, s2, s3⟩ := p9_L159 ok hs hp he (bsz b x.1 - 1 - x.2) (x.2 + 1) _ (uB (tw b x.1) x.2 x.2 0 e0) σ6 (by omega) (by omega) (fun u hu => by have hu : u < x.2 := hu; omega) (B5.fr (r3.1 597 (by decide) (by decide))) (W5.fr (r3.2.1 14 (by decide)) (r3.1 600 (by decide) (by decide)) (r3.1 601 (by decide) (by decide))) (by rw [r3.1 603 (by decide) (by decide)]; exact t5) r2 E6
    obtain ⟨σ', z1, z2⟩ := fin σ7 (r3.trans s3) (by unfold ev; rw [if_pos rfl]; exact s2)
    refine ⟨σ', ?_, z2⟩
    unfold g_X9_laysEntry_J83 g_X9_laysEntry_J119
    rw [if_pos rfl, if_neg (by decide), if_pos rfl, r1 _ ab_FU (by show _ < 100000; omega)]
    unfold g_X9_laysEntry_J149
    rw [if_neg (by decide), w32s (by omega), s1 _ ab_FU (by show _ < 100000; omega)]
    exact z1
  · rw [if_neg w1]
    obtain ⟨σ6, r1, r2, r3⟩ := p9_L62 ok hs hp he way x.2 e0 σ5 ((x.2 : Int) - 1) rfl (by omega) W5 t5 Q5 (EOK.zero.c (fun u => ⟨fun z => z.elim, fun z => by have z : x.2 ≤ u ∧ u < x.2 := z; omega⟩) (by omega))
    have E6 := (EOK.tdA (tw b x.1) x.2 x.2 _ _ _ (by omega) (fun u _ => id) EOK.zero).c (off' := fun u => u < x.2) (n' := x.2 + 1 - 1) (fun u => by simp only [false_or]) (by omega)
    have B6 := B5.fr (r3.1 597 (by decide) (by decide))
    have W6 := W5.fr (r3.2.1 14 (by decide)) (r3.1 600 (by decide) (by decide)) (r3.1 601 (by decide) (by decide))
    have t6 : σ6 603 e = (x.2 : Int) := by rw [r3.1 603 (by decide) (by decide)]; exact t5
    rw [r1 _ ab_FU (by show _ < 100000; omega)]
    unfold g_X9_laysEntry_J83 g_X9_laysEntry_J119 g_X9_laysEntry_J149
    by_cases w2 : way = 2
    · subst w2
      obtain ⟨σ7, s1, s2, s3⟩ := p9_L93 ok hs hp he 2 (bsz b x.1 - 1 - x.2) (x.2 + 1) _ (dA (tw b x.1) x.2 x.2 e0) σ6 (by omega) (by omega) (fun u hu => by have hu : u < x.2 := hu; omega) B6 W6 t6 r2 E6
      obtain ⟨σ', z1, z2⟩ := fin σ7 (r3.trans s3) (by unfold ev; rw [if_neg (by decide), if_pos rfl]; exact s2)
      refine ⟨σ', ?_, z2⟩
      rw [if_pos rfl, w32s (by omega), s1 _ ab_FU (by show _ < 100000; omega), if_neg (by decide), if_pos rfl]
      exact z1
    · obtain ⟨σ7, s1, s2, s3⟩ := p9_L159 ok hs hp he (bsz b x.1 - 1 - x.2) (x.2 + 1) _ (dA (tw b x.1) x.2 x.2 e0) σ6 (by omega) (by omega) (fun u hu => by have hu : u < x.2 := hu; omega) B6 W6 t6 r2 E6
      obtain ⟨σ', z1, z2⟩ := fin σ7 (r3.trans s3) (by unfold ev; rw [if_neg w1, if_neg w2]; exact s2)
      refine ⟨σ', ?_, z2⟩
      rw [if_neg w2, if_neg w1, if_neg w2, w32s (by omega), s1 _ ab_FU (by show _ < 100000; omega)]
      exact z1
end P9
