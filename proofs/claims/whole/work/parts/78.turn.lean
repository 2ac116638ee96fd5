/-! the class turns one entry -/
def C8 (σ : st_S) (e : Nat) (w : Nat → Nat) (n : Nat) (f : Nat → Nat) (g : Nat) : Prop := σ e 7 = (n : Int) ∧ σ e 8 = (g : Int) ∧ ∀ k, k < n → σ (e + 1) k = (f k : Int) ∧ σ (e + 2) k = (w (f k) : Int)
theorem C8.c {σ : st_S} {e : Nat} {w : Nat → Nat} {n n' : Nat} {f f' : Nat → Nat} {g : Nat} (h : C8 σ e w n f g) (en : n = n') (ef : ∀ k, k < n → f k = f' k) : C8 σ e w n' f' g := by
  subst en
  refine ⟨h.1, h.2.1, fun k hk => ?_⟩
  rw [← ef k hk]; exact h.2.2 k hk
/-- only the rows of an entry are written -/
def F8 (σ σ' : st_S) (e : Nat) : Prop := (∀ a, a ≠ e → a ≠ e + 1 → a ≠ e + 2 → σ' a = σ a) ∧ ∀ x, x ≠ 7 → x ≠ 8 → σ' e x = σ e x
theorem F8.rfl' {σ : st_S} {e : Nat} : F8 σ σ e := ⟨fun _ _ _ _ => rfl, fun _ _ _ => rfl⟩
theorem F8.trans {σ σ1 σ2 : st_S} {e : Nat} (h : F8 σ σ1 e) (h2 : F8 σ1 σ2 e) : F8 σ σ2 e := ⟨fun a x y z => by rw [h2.1 a x y z, h.1 a x y z], fun x y z => by rw [h2.2 x y z, h.2 x y z]⟩
theorem F8.t8 {σ σ' : st_S} {e : Nat} {b : BV} (h : F8 σ σ' e) (he : 160 ≤ e) (t : T8 σ b) : T8 σ' b := t.fr (fun a _ h2 => h.1 a (by omega) (by omega) (by omega))
theorem p2_offer {σ : st_S} {e : Nat} {w : Nat → Nat} {n : Nat} {f : Nat → Nat} {g : Nat} (h : C8 σ e w n f g) (hn : n ≤ 5) (hg : g < 64) {i p r0 : Nat} (hi : i < 6) (hl : σ e 3 = (w p : Int)) (hr : r0 ≤ n) :
    ∃ σ', g_X2_offer e (i : Int) (w i : Int) (r0 : Int) σ = some σ' ∧ (w i = w (if n = r0 then p else f (n - 1)) → C8 σ' e w n f (g ||| 2 ^ i)) ∧ (¬ w i = w (if n = r0 then p else f (n - 1)) → C8 σ' e w (n + 1) (fun k => if k = n then i else f k) g) ∧ F8 σ σ' e := by
  obtain ⟨h1, h2, h3⟩ := h
  have p2 := p26 hi
  have g1 : g_X2_offer e (i : Int) (w i : Int) (r0 : Int) σ = g_X2_offer_J26 e (i : Int) (w i : Int) ((w (if n = r0 then p else f (n - 1)) : Nat) : Int) σ := by
    unfold g_X2_offer
    rw [h1]
    by_cases e0 : n = r0
    · rw [if_pos (by omega), if_pos e0, hl]
    · have e3 := (h3 (n - 1) (by omega)).2
      rw [if_neg (by omega), if_neg e0, show ab_w32 ((n : Int) - 1) = ((n - 1 : Nat) : Int) by unfold ab_w32; omega, sa_ld_of (by omega) (by omega), Option.bind_some, Int.toNat_natCast, e3]
  rw [g1]
  unfold g_X2_offer_J26
  by_cases ew : w i = w (if n = r0 then p else f (n - 1))
  · refine ⟨up2 σ e 8 ((g ||| 2 ^ i : Nat) : Int), ?_, fun _ => ⟨?_, up2_at _ _ _ _, fun k hk => ?_⟩, fun q => absurd ew q, fun a x y z => up2_o _ _ x, fun x y z => up2_ne _ _ (fun q => z q.2)⟩
    · rw [if_pos (by omega), h2, shl1 (by omega), or_nat (by omega) (by omega)]; rfl
    · rw [up2_ne _ _ (by omega)]; exact h1
    · rw [up2_o _ _ (by omega), up2_o _ _ (by omega)]; exact h3 k hk
  · refine ⟨up2 (up2 (up2 σ (e + 1) n (i : Int)) (e + 2) n (w i : Int)) e 7 ((n + 1 : Nat) : Int), ?_, fun q => absurd q ew, fun _ => ⟨up2_at _ _ _ _, ?_, fun k hk => ?_⟩, fun a x y z => by rw [up2_o _ _ x, up2_o _ _ z, up2_o _ _ y], fun x y z => by rw [up2_ne _ _ (fun q => y q.2), up2_o _ _ (by omega), up2_o _ _ (by omega)]⟩
    · have s1 : ∀ x, up2 σ (e + 1) n (i : Int) e x = σ e x := fun x => by rw [up2_o _ _ (by omega)]
      have s2 : ∀ x, up2 (up2 σ (e + 1) n (i : Int)) (e + 2) n (w i : Int) e x = σ e x := fun x => by rw [up2_o _ _ (by omega), up2_o _ _ (by omega)]
      rw [if_neg (by omega)]
      repeat (first | rw [Option.bind_some] | dsimp only | rw [h1] | rw [s1] | rw [s2] | rw [Int.toNat_natCast] | rw [w32s (by omega)] | rw [w32p (by omega)] | rw [w32q (by omega)] | rw [w32i (by omega) (by omega)] | rw [sa_ld_of (by omega) (by omega)] | rw [sa_st_of (by omega) (by omega)] | rw [if_pos (by omega)] | rw [if_neg (by omega)] | rw [if_neg one0] | rw [if_pos rfl])
    · rw [up2_ne _ _ (by omega), up2_o _ _ (by omega), up2_o _ _ (by omega)]; exact h2
    · show _ = ((if k = n then i else f k : Nat) : Int) ∧ _ = (w (if k = n then i else f k) : Int)
      have c1 : up2 (up2 (up2 σ (e + 1) n (i : Int)) (e + 2) n (w i : Int)) e 7 ((n + 1 : Nat) : Int) (e + 1) k = up2 σ (e + 1) n (i : Int) (e + 1) k := by rw [up2_o (a' := e + 1) (a := e) _ _ (by omega), up2_o (a' := e + 1) (a := e + 2) _ _ (by omega)]
      have c2 : up2 (up2 (up2 σ (e + 1) n (i : Int)) (e + 2) n (w i : Int)) e 7 ((n + 1 : Nat) : Int) (e + 2) k = up2 (up2 σ (e + 1) n (i : Int)) (e + 2) n (w i : Int) (e + 2) k := by rw [up2_o (a' := e + 2) (a := e) _ _ (by omega)]
      rw [c1, c2]
      by_cases ek : k = n
      · subst ek; rw [if_pos rfl, up2_at, up2_at]; exact ⟨rfl, rfl⟩
      · rw [if_neg ek, up2_ne _ _ (by omega), up2_ne _ _ (by omega), up2_o (a' := e + 2) (a := e + 1) _ _ (by omega)]; exact h3 k (by omega)
def cbn (q : EV) : Nat := q.1.1 + q.2.1.1
def cbf (q : EV) : Nat → Nat := fun k => if k < q.1.1 then q.1.2 k else q.2.1.2 (k - q.1.1)
def Q8 (σ : st_S) (e : Nat) (w : Nat → Nat) (q : EV) : Prop := C8 σ e w (cbn q) (cbf q) q.2.2
theorem p2_offerA {σ : st_S} {e : Nat} {w : Nat → Nat} {q : EV} {off : Nat → Prop} {m : Nat} (h : Q8 σ e w q) (ok : EOK off m q) (hm : m ≤ 5) (hB : q.2.1.1 = 0) {i p : Nat} (hi : i < 6) (hl : σ e 3 = (w p : Int)) :
    ∃ σ', g_X2_offer e (i : Int) (w i : Int) 0 σ = some σ' ∧ Q8 σ' e w (oA w p q i) ∧ (oA w p q i).2.1.1 = 0 ∧ F8 σ σ' e := by
  have hc := ok.2.1
  have en : cbn q = q.1.1 := by unfold cbn; omega
  obtain ⟨σ', e1, k1, k2, k3⟩ := p2_offer h (by omega) ok.1 (r0 := 0) hi hl (by omega)
  have ea : (if cbn q = 0 then p else cbf q (cbn q - 1)) = ahd p q.1 := by
    unfold ahd; rw [en]
    by_cases z : q.1.1 = 0
    · rw [if_pos z, if_pos z]
    · rw [if_neg z, if_neg z]; unfold cbf; rw [if_pos (by omega)]
  rw [ea] at k1 k2
  refine ⟨σ', e1, ?_, ?_, k3⟩
  · unfold oA
    split
    · next c => exact k1 c
    · next c =>
      refine (k2 c).c (by show cbn q + 1 = (q.1.1 + 1) + q.2.1.1; unfold cbn; omega) (fun k hk => ?_)
      show (if k = cbn q then i else cbf q k) = if k < q.1.1 + 1 then (if k = q.1.1 then i else q.1.2 k) else _
      rw [en] at hk ⊢
      rw [if_pos hk]
      by_cases z : k = q.1.1
      · rw [if_pos z, if_pos z]
      · rw [if_neg z, if_neg z]; unfold cbf; rw [if_pos (by omega)]
  · unfold oA; split <;> exact hB
theorem p2_offerB {σ : st_S} {e : Nat} {w : Nat → Nat} {q : EV} {off : Nat → Prop} {m : Nat} (h : Q8 σ e w q) (ok : EOK off m q) (hm : m ≤ 5) {i p : Nat} (hi : i < 6) (hl : σ e 3 = (w p : Int)) :
    ∃ σ', g_X2_offer e (i : Int) (w i : Int) (q.1.1 : Int) σ = some σ' ∧ Q8 σ' e w (oB w p q i) ∧ (oB w p q i).1 = q.1 ∧ F8 σ σ' e := by
  have hc := ok.2.1
  have en : cbn q = q.1.1 + q.2.1.1 := rfl
  obtain ⟨σ', e1, k1, k2, k3⟩ := p2_offer h (by omega) ok.1 (r0 := q.1.1) hi hl (by omega)
  have ea : (if cbn q = q.1.1 then p else cbf q (cbn q - 1)) = ahd p q.2.1 := by
    unfold ahd; rw [en]
    by_cases z : q.2.1.1 = 0
    · rw [if_pos (by omega), if_pos z]
    · rw [if_neg (by omega), if_neg z]; unfold cbf; rw [if_neg (by omega), show q.1.1 + q.2.1.1 - 1 - q.1.1 = q.2.1.1 - 1 by omega]
  rw [ea] at k1 k2
  refine ⟨σ', e1, ?_, ?_, k3⟩
  · unfold oB
    split
    · next c => exact k1 c
    · next c =>
      refine (k2 c).c (by show cbn q + 1 = q.1.1 + (q.2.1.1 + 1); unfold cbn; omega) (fun k hk => ?_)
      show (if k = cbn q then i else cbf q k) = if k < q.1.1 then q.1.2 k else (if k - q.1.1 = q.2.1.1 then i else q.2.1.2 (k - q.1.1))
      rw [en] at hk ⊢
      by_cases z : k = q.1.1 + q.2.1.1
      · rw [if_pos z, if_neg (by omega), if_pos (by omega)]
      · rw [if_neg z]; unfold cbf
        by_cases z2 : k < q.1.1
        · rw [if_pos z2, if_pos z2]
        · rw [if_neg z2, if_neg z2, if_neg (by omega)]
  · unfold oB; split <;> rfl
section TN
variable {b : BV} {s p e : Nat} {way : Int}
theorem p2_L51 (ok : OkB b) (hs : s < bn b) (hp : p < bsz b s) (he : 160 ≤ e) : ∀ (c : Nat) (q : EV) (σ : st_S) (v4 : Int), v4 = (c : Int) - 1 → c ≤ p → T8 σ b → Q8 σ e (tw b s) q → q.2.1.1 = 0 → σ e 3 = (tw b s p : Int) → EOK (fun u => c ≤ u ∧ u < p) (p - c) q →
    ∃ σ', (∀ (k : Nat → Int → Int → st_S → Option st_S) (n : Nat), c < n → g_X2_turn_L51 k n e way ((6 * s : Nat) : Int) v4 σ = k e way ((6 * s : Nat) : Int) σ') ∧ Q8 σ' e (tw b s) (dA (tw b s) p c q) ∧ (dA (tw b s) p c q).2.1.1 = 0 ∧ F8 σ σ' e := by
  have o1 := ok.1
  have o2 := ok.2.1 s hs
  intro c
  induction c with
  | zero =>
    intro q σ v4 hv _ _ hQ hB _ _
    refine ⟨σ, fun k n hn => ?_, hQ, hB, F8.rfl'⟩
    obtain ⟨m, rfl⟩ : ∃ m, n = m + 1 := ⟨n - 1, by omega⟩
    rw [g_X2_turn_L51, if_pos (by omega)]
  | succ c ih =>
    intro q σ v4 hv hc hT hQ hB hl hE
    obtain ⟨σ1, q1, q2, q3, q4⟩ := p2_offerA hQ hE (by omega) hB (i := c) (by omega) hl
    have e5 := ((hT.2 s hs).2 c (by omega)).2.1
    obtain ⟨σ', r1, r2, r3, r4⟩ := ih (oA (tw b s) p q c) σ1 ((c : Int) - 1) rfl (by omega) (q4.t8 he hT) q2 q3 (by rw [q4.2 3 (by decide) (by decide)]; exact hl) ((hE.toA (tw b s) p (i := c) (by omega) (by omega)).c (fun u => by omega) (by omega))
    refine ⟨σ', fun k n hn => ?_, r2, r3, q4.trans r4⟩
    obtain ⟨m, rfl⟩ : ∃ m, n = m + 1 := ⟨n - 1, by omega⟩
    have ev4 : v4 = (c : Int) := by omega
    subst ev4
    rw [g_X2_turn_L51, if_neg (by omega), show ab_w32 (((6 * s : Nat) : Int) + (c : Int)) = ((6 * s + c : Nat) : Int) by unfold ab_w32; omega, sa_ld_of (by omega) (by omega), Option.bind_some, Int.toNat_natCast, e5, q1, Option.bind_some, show ab_w32 ((c : Int) + -1) = (c : Int) - 1 by unfold ab_w32; omega]
    exact r1 k m (by omega)
theorem p2_L112A (ok : OkB b) (hs : s < bn b) (he : 160 ≤ e) : ∀ (c i m : Nat) (off : Nat → Prop) (q : EV) (σ : st_S), i + c = bsz b s → p < i → m ≤ i → (∀ u, i ≤ u → ¬ off u) → T8 σ b → Q8 σ e (tw b s) q → q.2.1.1 = 0 → σ e 0 = (s : Int) → σ e 2 = (p : Int) → σ e 3 = (tw b s p : Int) → σ e 6 = 0 → EOK off m q →
    ∃ σ', (∀ (k : Nat → Int → st_S → Option st_S) (n : Nat), c < n → g_X2_turn_L112 k n e way ((6 * s : Nat) : Int) (i : Int) σ = k e way σ') ∧ Q8 σ' e (tw b s) (uA (tw b s) p c i q) ∧ (uA (tw b s) p c i q).2.1.1 = 0 ∧ F8 σ σ' e := by
  have o1 := ok.1
  have o2 := ok.2.1 s hs
  intro c
  induction c with
  | zero =>
    intro i m off q σ hi _ _ _ hT hQ hB h0 _ _ _ _
    refine ⟨σ, fun k n hn => ?_, hQ, hB, F8.rfl'⟩
    obtain ⟨m, rfl⟩ : ∃ m, n = m + 1 := ⟨n - 1, by omega⟩
    have e1 := (hT.2 s hs).1
    rw [g_X2_turn_L112, h0, sa_ld_of (by omega) (by omega), Option.bind_some, Int.toNat_natCast, e1, if_pos (by omega)]
  | succ c ih =>
    intro i m off q σ hi hpi hm hoff hT hQ hB h0 h2 hl h6 hE
    have e1 := (hT.2 s hs).1
    obtain ⟨σ1, q1, q2, q3, q4⟩ := p2_offerA hQ hE (by omega) hB (i := i) (by omega) hl
    have e5 := ((hT.2 s hs).2 i (by omega)).2.1
    obtain ⟨σ', r1, r2, r3, r4⟩ := ih (i + 1) (m + 1) (fun u => off u ∨ u = i) (oA (tw b s) p q i) σ1 (by omega) (by omega) (by omega) (fun u hu z => z.elim (fun z => hoff u (by omega) z) (fun z => by omega)) (q4.t8 he hT) q2 q3 (by rw [q4.2 0 (by decide) (by decide)]; exact h0) (by rw [q4.2 2 (by decide) (by decide)]; exact h2) (by rw [q4.2 3 (by decide) (by decide)]; exact hl) (by rw [q4.2 6 (by decide) (by decide)]; exact h6) (hE.toA (tw b s) p (i := i) (by omega) (hoff i (by omega)))
    refine ⟨σ', fun k n hn => ?_, r2, r3, q4.trans r4⟩
    obtain ⟨m', rfl⟩ : ∃ m', n = m' + 1 := ⟨n - 1, by omega⟩
    rw [g_X2_turn_L112, h0, sa_ld_of (by omega) (by omega), Option.bind_some, Int.toNat_natCast, e1, if_neg (by omega), h2, if_neg (by omega), show ab_w32 (((6 * s : Nat) : Int) + (i : Int)) = ((6 * s + i : Nat) : Int) by unfold ab_w32; omega, sa_ld_of (by omega) (by omega), Option.bind_some, Int.toNat_natCast, e5, h6, q1, Option.bind_some]
    unfold g_X2_turn_J154
    rw [w32s (by omega)]
    exact r1 k m' (by omega)
def uBs (w : Nat → Nat) (p : Nat) : Nat → Nat → EV → EV
  | 0, _, q => q
  | c + 1, i, q => uBs w p c (i + 1) (if i = p then q else oB w p q i)
theorem uBs_gt (w : Nat → Nat) (p : Nat) : ∀ (c i : Nat) (q : EV), p < i → uBs w p c i q = uB w p c i q := by
  intro c
  induction c with
  | zero => intro i q _; rfl
  | succ c ih => intro i q h; rw [uBs, uB, if_neg (by omega)]; exact ih _ _ (by omega)
theorem uBs_le (w : Nat → Nat) (p : Nat) : ∀ (d c i : Nat) (q : EV), i + d = p → d < c → uBs w p c i q = uB w p (c - 1 - d) (p + 1) (uB w p d i q) := by
  intro d
  induction d with
  | zero =>
    intro c i q h1 h2
    obtain ⟨c', rfl⟩ : ∃ c', c = c' + 1 := ⟨c - 1, by omega⟩
    have : i = p := by omega
    subst this
    rw [uBs, if_pos rfl, uBs_gt w i _ _ _ (by omega), uB]
    congr 1
  | succ d ih =>
    intro c i q h1 h2
    obtain ⟨c', rfl⟩ : ∃ c', c = c' + 1 := ⟨c - 1, by omega⟩
    rw [uBs, if_neg (by omega), uB, ih c' (i + 1) _ (by omega) (by omega)]
    congr 1; omega
theorem p2_L112B (ok : OkB b) (hs : s < bn b) (he : 160 ≤ e) : ∀ (c i m : Nat) (off : Nat → Prop) (q : EV) (σ : st_S), i + c = bsz b s → m ≤ i → (∀ u, i ≤ u → u ≠ p → ¬ off u) → T8 σ b → Q8 σ e (tw b s) q → σ e 0 = (s : Int) → σ e 2 = (p : Int) → σ e 3 = (tw b s p : Int) → σ e 6 = (q.1.1 : Int) → EOK off m q →
    ∃ σ', (∀ (k : Nat → Int → st_S → Option st_S) (n : Nat), c < n → g_X2_turn_L112 k n e way ((6 * s : Nat) : Int) (i : Int) σ = k e way σ') ∧ Q8 σ' e (tw b s) (uBs (tw b s) p c i q) ∧ (uBs (tw b s) p c i q).1 = q.1 ∧ F8 σ σ' e := by
  have o1 := ok.1
  have o2 := ok.2.1 s hs
  intro c
  induction c with
  | zero =>
    intro i m off q σ hi _ _ hT hQ h0 _ _ _ _
    refine ⟨σ, fun k n hn => ?_, hQ, rfl, F8.rfl'⟩
    obtain ⟨m, rfl⟩ : ∃ m, n = m + 1 := ⟨n - 1, by omega⟩
    have e1 := (hT.2 s hs).1
    rw [g_X2_turn_L112, h0, sa_ld_of (by omega) (by omega), Option.bind_some, Int.toNat_natCast, e1, if_pos (by omega)]
  | succ c ih =>
    intro i m off q σ hi hm hoff hT hQ h0 h2 hl h6 hE
    have e1 := (hT.2 s hs).1
    by_cases ei : i = p
    · obtain ⟨σ', r1, r2, r3, r4⟩ := ih (i + 1) m off q σ (by omega) (by omega) (fun u hu hp => hoff u (by omega) hp) hT hQ h0 h2 hl h6 hE
      rw [uBs, if_pos ei]
      refine ⟨σ', fun k n hn => ?_, r2, r3, r4⟩
      obtain ⟨m', rfl⟩ : ∃ m', n = m' + 1 := ⟨n - 1, by omega⟩
      rw [g_X2_turn_L112, h0, sa_ld_of (by omega) (by omega), Option.bind_some, Int.toNat_natCast, e1, if_neg (by omega), h2, if_pos (by omega)]
      unfold g_X2_turn_J154
      rw [w32s (by omega)]
      exact r1 k m' (by omega)
    · obtain ⟨σ1, q1, q2, q3, q4⟩ := p2_offerB hQ hE (by omega) (i := i) (by omega) hl
      have e5 := ((hT.2 s hs).2 i (by omega)).2.1
      obtain ⟨σ', r1, r2, r3, r4⟩ := ih (i + 1) (m + 1) (fun u => off u ∨ u = i) (oB (tw b s) p q i) σ1 (by omega) (by omega) (fun u hu hp z => z.elim (fun z => hoff u (by omega) hp z) (fun z => by omega)) (q4.t8 he hT) q2 (by rw [q4.2 0 (by decide) (by decide)]; exact h0) (by rw [q4.2 2 (by decide) (by decide)]; exact h2) (by rw [q4.2 3 (by decide) (by decide)]; exact hl) (by rw [q4.2 6 (by decide) (by decide), q3]; exact h6) (hE.toB (tw b s) p (i := i) (by omega) (hoff i (by omega) ei))
      rw [uBs, if_neg ei]
      refine ⟨σ', fun k n hn => ?_, r2, by rw [r3, q3], q4.trans r4⟩
      obtain ⟨m', rfl⟩ : ∃ m', n = m' + 1 := ⟨n - 1, by omega⟩
      rw [g_X2_turn_L112, h0, sa_ld_of (by omega) (by omega), Option.bind_some, Int.toNat_natCast, e1, if_neg (by omega), h2, if_neg (by omega), show ab_w32 (((6 * s : Nat) : Int) + (i : Int)) = ((6 * s + i : Nat) : Int) by unfold ab_w32; omega, sa_ld_of (by omega) (by omega), Option.bind_some, Int.toNat_natCast, e5, h6, q1, Option.bind_some]
      unfold g_X2_turn_J154
      rw [w32s (by omega)]
      exact r1 k m' (by omega)
theorem Q8.e0 {σ : st_S} {w : Nat → Nat} (h7 : σ e 7 = 0) (h8 : σ e 8 = 0) : Q8 σ e w e0 := ⟨h7, h8, fun k hk => absurd hk (Nat.not_lt_zero _)⟩
theorem Q8.f6 {σ : st_S} {w : Nat → Nat} {q : EV} {x : Int} (h : Q8 σ e w q) : Q8 (up2 σ e 6 x) e w q := by
  obtain ⟨h1, h2, h3⟩ := h
  refine ⟨by rw [up2_ne _ _ (by omega)]; exact h1, by rw [up2_ne _ _ (by omega)]; exact h2, fun k hk => ?_⟩
  rw [up2_o _ _ (by omega), up2_o _ _ (by omega)]; exact h3 k hk
theorem p2_turn (ok : OkB b) (hs : s < bn b) (hp : p < bsz b s) (he : 160 ≤ e) {σ : st_S} (hT : T8 σ b) (h0 : σ e 0 = (s : Int)) (h2 : σ e 2 = (p : Int)) (way : Int) :
    ∃ σ', g_X2_turn e way σ = some σ' ∧ Q8 σ' e (tw b s) (ev (tw b s) way p (bsz b s)) ∧ σ' e 6 = ((ev (tw b s) way p (bsz b s)).1.1 : Int) ∧ σ' e 3 = (tw b s p : Int) ∧ (∀ a, a ≠ e → a ≠ e + 1 → a ≠ e + 2 → σ' a = σ a) ∧ ∀ x, x ≠ 3 → x ≠ 6 → x ≠ 7 → x ≠ 8 → σ' e x = σ e x := by
  have o1 := ok.1
  have o2 := ok.2.1 s hs
  have e5 := ((hT.2 s hs).2 p hp).2.1
  generalize hσ4 : up2 (up2 (up2 (up2 σ e 3 (tw b s p : Int)) e 6 0) e 7 0) e 8 0 = σ4
  have f1 : ∀ a, a ≠ e → σ4 a = σ a := fun a ha => by rw [← hσ4, up2_o _ _ ha, up2_o _ _ ha, up2_o _ _ ha, up2_o _ _ ha]
  have f2 : ∀ x, x ≠ 3 → x ≠ 6 → x ≠ 7 → x ≠ 8 → σ4 e x = σ e x := fun x h1 h2 h3 h4 => by rw [← hσ4, up2_ne _ _ (by omega), up2_ne _ _ (by omega), up2_ne _ _ (by omega), up2_ne _ _ (by omega)]
  have g3 : σ4 e 3 = (tw b s p : Int) := by rw [← hσ4, up2_ne _ _ (by omega), up2_ne _ _ (by omega), up2_ne _ _ (by omega), up2_at]
  have g6 : σ4 e 6 = 0 := by rw [← hσ4, up2_ne _ _ (by omega), up2_ne _ _ (by omega), up2_at]
  have g7 : σ4 e 7 = 0 := by rw [← hσ4, up2_ne _ _ (by omega), up2_at]
  have g8 : σ4 e 8 = 0 := by rw [← hσ4, up2_at]
  have T4 : T8 σ4 b := hT.fr (fun a _ h2 => f1 a (by omega))
  have k0 : σ4 e 0 = (s : Int) := by rw [f2 0 (by decide) (by decide) (by decide) (by decide)]; exact h0
  have k2 : σ4 e 2 = (p : Int) := by rw [f2 2 (by decide) (by decide) (by decide) (by decide)]; exact h2
  have Q4 : Q8 σ4 e (tw b s) e0 := Q8.e0 g7 g8
  have run : g_X2_turn e way σ = if way = 1 then g_X2_turn_J78 e way ((6 * s : Nat) : Int) σ4 else g_X2_turn_L51 (fun w78_0 w78_1 w78_3 σx78 => g_X2_turn_J78 w78_0 w78_1 w78_3 σx78) ab_FU e way ((6 * s : Nat) : Int) ((p : Int) - 1) σ4 := by
    unfold g_X2_turn
    rw [h0, h2, w6 (by omega) (by omega), sa_ld_of (by omega) (by omega), Option.bind_some, Int.toNat_natCast, e5, Option.bind_some, Option.bind_some, Option.bind_some, Option.bind_some, hσ4, w6' (by omega), k2, show ab_w32 ((p : Int) - 1) = (p : Int) - 1 by unfold ab_w32; omega]
  rw [run]
  by_cases w1 : way = 1
  · -- whole
    rw [if_pos w1]
    subst w1
    have Q5 : Q8 (up2 σ4 e 6 0) e (tw b s) e0 := Q4.f6
    have m1 : ∀ x, x ≠ 6 → up2 σ4 e 6 0 e x = σ4 e x := fun x hx => up2_ne _ _ (by omega)
    obtain ⟨σ', r1, r2, r3, r4⟩ := p2_L112B (way := 1) (p := p) ok hs he (bsz b s) 0 0 (fun _ => False) e0 (up2 σ4 e 6 0) (by omega) (by omega) (fun _ _ _ => id) (T4.fr (fun a _ h2 => up2_o _ _ (by omega))) Q5 (by rw [m1 0 (by decide)]; exact k0) (by rw [m1 2 (by decide)]; exact k2) (by rw [m1 3 (by decide)]; exact g3) (up2_at _ _ _ _) EOK.zero
    rw [show ((0 : Nat) : Int) = 0 from rfl] at r1
    have eq : uBs (tw b s) p (bsz b s) 0 e0 = ev (tw b s) 1 p (bsz b s) := by
      rw [uBs_le _ p p (bsz b s) 0 _ (by omega) hp]; unfold ev; rw [if_pos rfl]
    rw [eq] at r2 r3
    refine ⟨σ', ?_, r2, ?_, ?_, fun a x y z => ?_, fun x h3 h6 h7 h8 => ?_⟩
    · unfold g_X2_turn_J78 g_X2_turn_J91 g_X2_turn_J106
      rw [if_neg (by decide), g7, Option.bind_some, if_pos rfl, r1 _ ab_FU (by show _ < 100000; omega)]
      rfl
    · rw [r4.2 6 (by decide) (by decide), up2_at, r3]; rfl
    · rw [r4.2 3 (by decide) (by decide), m1 3 (by decide)]; exact g3
    · rw [r4.1 a x y z, up2_o _ _ x, f1 a x]
    · rw [r4.2 x h7 h8, m1 x h6, f2 x h3 h6 h7 h8]
  · rw [if_neg w1]
    obtain ⟨σ5, r1, r2, r3, r4⟩ := p2_L51 (way := way) ok hs hp he p e0 σ4 ((p : Int) - 1) rfl (by omega) T4 Q4 rfl g3 (EOK.zero.c (fun u => ⟨fun z => z.elim, fun z => by have z : p ≤ u ∧ u < p := z; omega⟩) (by omega))
    rw [r1 _ ab_FU (by show _ < 100000; omega)]
    have E5 := (EOK.tdA (tw b s) p p _ _ _ (by omega) (fun u _ => id) EOK.zero).c (off' := fun u => u < p) (n' := p) (fun u => by simp only [false_or]) (by omega)
    have j0 : σ5 e 0 = (s : Int) := by rw [r4.2 0 (by decide) (by decide)]; exact k0
    have j2 : σ5 e 2 = (p : Int) := by rw [r4.2 2 (by decide) (by decide)]; exact k2
    have j3 : σ5 e 3 = (tw b s p : Int) := by rw [r4.2 3 (by decide) (by decide)]; exact g3
    have j6 : σ5 e 6 = 0 := by rw [r4.2 6 (by decide) (by decide)]; exact g6
    have j7 : σ5 e 7 = ((dA (tw b s) p p e0).1.1 : Int) := by rw [r2.1]; unfold cbn; rw [r3, Nat.add_zero]
    by_cases w2 : way = 2
    · -- near
      subst w2
      obtain ⟨σ', t1, t2, t3, t4⟩ := p2_L112A (way := 2) (p := p) ok hs he (bsz b s - 1 - p) (p + 1) p _ (dA (tw b s) p p e0) σ5 (by omega) (by omega) (by omega) (fun u hu z => by have z : u < p := z; omega) (r4.t8 he T4) r2 r3 j0 j2 j3 j6 E5
      have eq : uA (tw b s) p (bsz b s - 1 - p) (p + 1) (dA (tw b s) p p e0) = ev (tw b s) 2 p (bsz b s) := by unfold ev; rw [if_neg (by decide), if_pos rfl]
      rw [eq] at t2 t3
      have j7' : σ' e 7 = ((ev (tw b s) 2 p (bsz b s)).1.1 : Int) := by rw [t2.1]; unfold cbn; rw [t3, Nat.add_zero]
      refine ⟨up2 σ' e 6 (σ' e 7), ?_, t2.f6, by rw [up2_at, j7'], ?_, fun a x y z => ?_, fun x h3 h6 h7 h8 => ?_⟩
      · unfold g_X2_turn_J78 g_X2_turn_J91 g_X2_turn_J106
        rw [if_pos rfl, if_neg (by decide), j2, w32s (by omega), t1 _ ab_FU (by show _ < 100000; omega), if_pos rfl]
        rfl
      · rw [up2_ne _ _ (by omega), t4.2 3 (by decide) (by decide)]; exact j3
      · rw [up2_o _ _ x, t4.1 a x y z, r4.1 a x y z, f1 a x]
      · rw [up2_ne _ _ (by omega), t4.2 x h7 h8, r4.2 x h7 h8, f2 x h3 h6 h7 h8]
    · -- plain
      have m1 : ∀ x, x ≠ 6 → up2 σ5 e 6 (σ5 e 7) e x = σ5 e x := fun x hx => up2_ne _ _ (by omega)
      obtain ⟨σ', t1, t2, t3, t4⟩ := p2_L112B (way := way) (p := p) ok hs he (bsz b s - 1 - p) (p + 1) p _ (dA (tw b s) p p e0) (up2 σ5 e 6 (σ5 e 7)) (by omega) (by omega) (fun u hu _ z => by have z : u < p := z; omega) ((r4.t8 he T4).fr (fun a _ h2 => up2_o _ _ (by omega))) r2.f6 (by rw [m1 0 (by decide)]; exact j0) (by rw [m1 2 (by decide)]; exact j2) (by rw [m1 3 (by decide)]; exact j3) (by rw [up2_at]; exact j7) E5
      have eq : uBs (tw b s) p (bsz b s - 1 - p) (p + 1) (dA (tw b s) p p e0) = ev (tw b s) way p (bsz b s) := by unfold ev; rw [if_neg w1, if_neg w2, uBs_gt _ _ _ _ _ (by omega)]
      rw [eq] at t2 t3
      refine ⟨σ', ?_, t2, ?_, ?_, fun a x y z => ?_, fun x h3 h6 h7 h8 => ?_⟩
      · unfold g_X2_turn_J78 g_X2_turn_J91 g_X2_turn_J106
        rw [if_neg w2, Option.bind_some, if_neg w1, m1 2 (by decide), j2, w32s (by omega), t1 _ ab_FU (by show _ < 100000; omega), if_neg w2]
      · rw [t4.2 6 (by decide) (by decide), up2_at, j7, t3]
      · rw [t4.2 3 (by decide) (by decide), m1 3 (by decide)]; exact j3
      · rw [t4.1 a x y z, up2_o _ _ x, r4.1 a x y z, f1 a x]
      · rw [t4.2 x h7 h8, m1 x h6, r4.2 x h7 h8, f2 x h3 h6 h7 h8]
end TN
