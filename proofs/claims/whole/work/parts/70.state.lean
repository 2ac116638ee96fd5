/-! what both sides hold, in one state; how each side holds it -/
/-- a book: strings, addresses, sizes, terms (0 role, 1 leads, 2 name, 3 via, 4 back), ways, sees -/
abbrev BV : Type := Nat × (Nat → Int) × (Nat → Nat) × (Nat → Nat → Nat → Int) × (Nat → Int) × Nat × (Nat → Int) × (Nat → Int)
def bn (b : BV) : Nat := b.1
def badr (b : BV) : Nat → Int := b.2.1
def bsz (b : BV) : Nat → Nat := b.2.2.1
def btm (b : BV) : Nat → Nat → Nat → Int := b.2.2.2.1
def bwy (b : BV) : Nat → Int := b.2.2.2.2.1
def bm (b : BV) : Nat := b.2.2.2.2.2.1
def bsf (b : BV) : Nat → Int := b.2.2.2.2.2.2.1
def bst (b : BV) : Nat → Int := b.2.2.2.2.2.2.2
def RB8 (σ : st_S) (a : Nat) (b : BV) : Prop :=
  σ a 0 = (bn b : Int) ∧ (∀ s, s < bn b → σ (a + 1) s = badr b s ∧ σ (a + 2) s = (bsz b s : Int)) ∧ (∀ s, s < bn b → ∀ i, i < bsz b s → ∀ f, f < 5 → σ (a + 3 + f) (6 * s + i) = btm b f s i) ∧
  (∀ r, r < 6 → σ (a + 8) r = bwy b r) ∧ σ a 9 = (bm b : Int) ∧ ∀ k, k < bm b → σ (a + 9) k = bsf b k ∧ σ (a + 10) k = bst b k
def RB9 (σ : st_S) (c o : Nat) (b : BV) : Prop :=
  σ c o = (bn b : Int) ∧ (∀ s, s < bn b → σ c (o + 32 + 32 * s) = badr b s ∧ σ c (o + 33 + 32 * s) = (bsz b s : Int)) ∧ (∀ s, s < bn b → ∀ i, i < bsz b s → ∀ f, f < 5 → σ c (o + 34 + 32 * s + 5 * i + f) = btm b f s i) ∧
  (∀ r, r < 6 → σ c (o + 2 + r) = bwy b r) ∧ σ c (o + 1) = (bm b : Int) ∧ ∀ k, k < bm b → σ c (o + 8 + 2 * k) = bsf b k ∧ σ c (o + 9 + 2 * k) = bst b k
/-- tape, out, fault, book, what is kept -/
abbrev SV : Type := (Nat × (Nat → Int)) × (Nat × (Nat → Int)) × (Int × Int) × BV × (Nat × (Nat → BV))
def sT (S : SV) : Nat × (Nat → Int) := S.1
def sO (S : SV) : Nat × (Nat → Int) := S.2.1
def sF (S : SV) : Int × Int := S.2.2.1
def sB (S : SV) : BV := S.2.2.2.1
def sH (S : SV) : Nat × (Nat → BV) := S.2.2.2.2
def withT (S : SV) (t : Nat × (Nat → Int)) : SV := (t, S.2)
def withO (S : SV) (t : Nat × (Nat → Int)) : SV := (S.1, t, S.2.2)
/-- names: up to seven letters of five bits each, the first highest, nothing behind a missing one; 0 is no name -/
def isNm (x : Int) : Prop := 0 ≤ x ∧ x < 34359738368
/-- the first place from i on, c places long, that has p; -1 if none -/
def fnd (p : Nat → Bool) : Nat → Nat → Int
  | 0, _ => -1
  | c + 1, i => if p i = true then (i : Int) else fnd p c (i + 1)
/-- the see that leads on from a name; where one see leads; where j sees lead -/
def sk (b : BV) (x : Int) : Int := fnd (fun k => decide (bsf b k = x)) (bm b) 0
def nx (b : BV) (x : Int) : Int := if sk b x = -1 then x else bst b (sk b x).toNat
def nxi (b : BV) : Nat → Int → Int
  | 0, x => x
  | n + 1, x => nxi b n (nx b x)
def us (b : BV) (x : Int) : Int := nxi b 12 x
def OkB (b : BV) : Prop :=
  bn b ≤ 12 ∧ (∀ s, s < bn b → 0 ≤ badr b s ∧ badr b s ≤ 999 ∧ 1 ≤ bsz b s ∧ bsz b s ≤ 6) ∧ (∀ s t, s < bn b → t < bn b → badr b s = badr b t → s = t) ∧
  (∀ s, s < bn b → ∀ i, i < bsz b s → (0 ≤ btm b 0 s i ∧ btm b 0 s i ≤ 5) ∧ (btm b 1 s i = 0 ∨ btm b 1 s i = 1) ∧ (isNm (btm b 2 s i) ∧ btm b 2 s i ≠ 0) ∧ isNm (btm b 3 s i) ∧ isNm (btm b 4 s i)) ∧
  (∀ s, s < bn b → ∀ i, i + 1 < bsz b s → btm b 0 s i ≤ btm b 0 s (i + 1)) ∧ (∀ r, r < 6 → 0 ≤ bwy b r ∧ bwy b r ≤ 2) ∧ bm b ≤ 12 ∧
  (∀ k, k < bm b → (isNm (bsf b k) ∧ bsf b k ≠ 0) ∧ (isNm (bst b k) ∧ bst b k ≠ 0)) ∧ (∀ j k, j < bm b → k < bm b → bsf b j = bsf b k → j = k) ∧ ∀ x, ∃ j, sk b (nxi b j x) = -1
def OkS (S : SV) : Prop :=
  (sT S).1 ≤ 1200 ∧ (∀ i, i < (sT S).1 → -128 ≤ (sT S).2 i ∧ (sT S).2 i < 128) ∧ (sO S).1 ≤ 2000 ∧ (∀ i, i < (sO S).1 → -128 ≤ (sO S).2 i ∧ (sO S).2 i < 128) ∧ OkB (sB S) ∧ (sH S).1 ≤ 10 ∧ ∀ j, j < (sH S).1 → OkB ((sH S).2 j)
/-- the class's side; Dr: what is worked out of the book lies in the cells 147 to 595 -/
def Rep8 (Dr : st_S → BV → Prop) (σ : st_S) (S : SV) : Prop :=
  (σ 2 1 = ((sT S).1 : Int) ∧ ∀ i, i < (sT S).1 → σ 3 i = (sT S).2 i) ∧ (σ 4 1 = ((sO S).1 : Int) ∧ ∀ i, i < (sO S).1 → σ 5 i = (sO S).2 i) ∧ (σ 8 9 = (sF S).1 ∧ σ 8 10 = (sF S).2) ∧ RB8 σ 13 (sB S) ∧
  (σ 35 2 = ((sH S).1 : Int) ∧ (0 ≤ σ 35 1 ∧ σ 35 1 < 10) ∧ ∀ j, j < (sH S).1 → RB8 σ (37 + 11 * (((σ 35 1).toNat + j) % 10)) ((sH S).2 j)) ∧ (∀ k, k < 15 → σ 9 k = in_keys.getD k 0) ∧ Dr σ (sB S)
/-- the reference's side -/
def Rep9 (σ : st_S) (S : SV) : Prop :=
  (σ 596 4 = ((sT S).1 : Int) ∧ ∀ i, i < (sT S).1 → σ 599 i = (sT S).2 i) ∧ (σ 596 28 = ((sO S).1 : Int) ∧ ∀ i, i < (sO S).1 → σ 609 i = (sO S).2 i) ∧ (σ 596 10 = (sF S).1 ∧ σ 596 11 = (sF S).2) ∧ RB9 σ 597 0 (sB S) ∧
  σ 596 34 = ((sH S).1 : Int) ∧ ∀ j, j < (sH S).1 → RB9 σ 614 (416 * j) ((sH S).2 j)
def InvD (Dr : st_S → BV → Prop) (σ : st_S) : Prop := ∃ S : SV, Rep8 Dr σ S ∧ Rep9 σ S ∧ OkS S
/-- Dr looks at the cells 147 to 595 alone -/
def DrIn (Dr : st_S → BV → Prop) : Prop := ∀ (σ σ' : st_S) (b : BV), (∀ a, 147 ≤ a → a ≤ 595 → σ' a = σ a) → Dr σ b → Dr σ' b
theorem RB8.fr {σ σ' : st_S} {a : Nat} {b : BV} (h : RB8 σ a b) (e : ∀ k, k < 11 → σ' (a + k) = σ (a + k)) : RB8 σ' a b := by
  obtain ⟨h1, h2, h3, h4, h5, h6⟩ := h
  have e0 : σ' a = σ a := e 0 (by decide)
  refine ⟨by rw [e0]; exact h1, fun s hs => ?_, fun s hs i hi f hf => ?_, fun r hr => ?_, by rw [e0]; exact h5, fun k hk => ?_⟩
  · rw [e 1 (by decide), e 2 (by decide)]; exact h2 s hs
  · rw [Nat.add_assoc, e (3 + f) (by omega), ← Nat.add_assoc]; exact h3 s hs i hi f hf
  · rw [e 8 (by decide)]; exact h4 r hr
  · rw [e 9 (by decide), e 10 (by decide)]; exact h6 k hk
theorem RB9.fr {σ σ' : st_S} {c o : Nat} {b : BV} (h : RB9 σ c o b) (e : σ' c = σ c) : RB9 σ' c o b := by
  unfold RB9 at h ⊢; rw [e]; exact h
/-- the class's side is kept where only the tape, out, the printed row or the fault's place is written: cells apart from these stay -/
theorem Rep8.fr {Dr : st_S → BV → Prop} (hD : DrIn Dr) {σ σ' : st_S} {S : SV} (h : Rep8 Dr σ S) (e : ∀ a, a < 596 → σ' a = σ a) : Rep8 Dr σ' S := by
  obtain ⟨h1, h2, h3, h4, ⟨h5, h6, h7⟩, h8, h9⟩ := h
  refine ⟨by rw [e 2 (by decide), e 3 (by decide)]; exact h1, by rw [e 4 (by decide), e 5 (by decide)]; exact h2, by rw [e 8 (by decide)]; exact h3, h4.fr (fun k hk => e _ (by omega)), ⟨by rw [e 35 (by decide)]; exact h5, by rw [e 35 (by decide)]; exact h6, fun j hj => ?_⟩, by rw [e 9 (by decide)]; exact h8, hD σ σ' _ (fun a _ h2 => e a (by omega)) h9⟩
  rw [e 35 (by decide)]
  exact (h7 j hj).fr (fun k hk => e _ (by omega))
theorem Rep9.fr {σ σ' : st_S} {S : SV} (h : Rep9 σ S) (e : ∀ a, 596 ≤ a → σ' a = σ a) : Rep9 σ' S := by
  obtain ⟨h1, h2, h3, h4, h5, h6⟩ := h
  exact ⟨by rw [e 596 (by decide), e 599 (by decide)]; exact h1, by rw [e 596 (by decide), e 609 (by decide)]; exact h2, by rw [e 596 (by decide)]; exact h3, h4.fr (e 597 (by decide)), by rw [e 596 (by decide)]; exact h5, fun j hj => (h6 j hj).fr (e 614 (by decide))⟩
/-- one method of the class, one of the reference, by what they say of the state -/
def Sp8 (Dr : st_S → BV → Prop) (c : st_S → Option (Int × st_S)) (S : SV) (r : Int) (S' : SV) : Prop := ∀ σ, Rep8 Dr σ S → ∃ σ1, c σ = some (r, σ1) ∧ Rep8 Dr σ1 S' ∧ ∀ a, 596 ≤ a → σ1 a = σ a
def Sp9 (m : st_S → Option (Int × st_S)) (S : SV) (r : Int) (S' : SV) : Prop := ∀ σ, Rep9 σ S → ∃ σ1, m σ = some (r, σ1) ∧ Rep9 σ1 S' ∧ ∀ a, a < 596 → σ1 a = σ a
theorem stp_of {Dr : st_S → BV → Prop} (hD : DrIn Dr) {c m : st_S → Option (Int × st_S)} {S S' : SV} {r : Int} (h8 : Sp8 Dr c S r S') (h9 : Sp9 m S r S') (ok : OkS S') {σ : st_S} (r8 : Rep8 Dr σ S) (r9 : Rep9 σ S) :
    ∃ (r : Int) (σ1 σ2 : st_S), c σ = some (r, σ1) ∧ m σ1 = some (r, σ2) ∧ InvD Dr σ2 := by
  obtain ⟨σ1, e1, k1, f1⟩ := h8 σ r8
  obtain ⟨σ2, e2, k2, f2⟩ := h9 σ1 (r9.fr f1)
  exact ⟨r, σ1, σ2, e1, e2, S', k1.fr hD f2, k2, ok⟩
theorem sa_ld_of {σ : st_S} {a n : Nat} {i : Int} (h0 : 0 ≤ i) (h1 : i < (n : Int)) : sa_ld σ a n i = some (σ a i.toNat) := if_pos ⟨h0, h1⟩
theorem sa_st_of {σ : st_S} {a n : Nat} {i x : Int} (h0 : 0 ≤ i) (h1 : i < (n : Int)) : sa_st σ a n i x = some (up2 σ a i.toNat x) := if_pos ⟨h0, h1⟩
theorem up2_o (σ : st_S) {a f : Nat} (x : Int) {a' : Nat} (h : a' ≠ a) : up2 σ a f x a' = σ a' := by
  funext f'; unfold up2; rw [if_neg (fun q => h q.1)]
theorem cmp_lt {x y : Int} : ab_cmp x y < 0 ↔ x < y := by unfold ab_cmp; split <;> (try split) <;> omega
theorem cmp_gt {x y : Int} : 0 < ab_cmp x y ↔ y < x := by unfold ab_cmp; split <;> (try split) <;> omega
theorem cmp_eq {x y : Int} : ab_cmp x y = 0 ↔ x = y := by unfold ab_cmp; split <;> (try split) <;> omega
theorem p9_in {v lo hi : Int} {σ : st_S} : g_X9_in v lo hi σ = some (if lo ≤ v ∧ v ≤ hi then 1 else 0, σ) := by
  unfold g_X9_in g_X9_in_J17
  by_cases h1 : v < lo
  · rw [if_pos (cmp_lt.mpr h1), if_neg (by omega)]
  · rw [if_neg (fun q => h1 (cmp_lt.mp q))]
    by_cases h2 : hi < v
    · rw [if_pos (cmp_gt.mpr h2), if_neg (by omega)]
    · rw [if_neg (fun q => h2 (cmp_gt.mp q)), if_pos (by omega)]
theorem p9_in1 {v lo hi : Int} {σ : st_S} (h0 : lo ≤ v) (h1 : v ≤ hi) : g_X9_in v lo hi σ = some (1, σ) := by rw [p9_in, if_pos ⟨h0, h1⟩]
theorem p9_in0 {v lo hi : Int} {σ : st_S} (h : ¬ (lo ≤ v ∧ v ≤ hi)) : g_X9_in v lo hi σ = some (0, σ) := by rw [p9_in, if_neg h]
theorem one0 : ¬ (1 : Int) = 0 := by decide
/-! fault, end, octet -/
theorem S_fault {Dr : st_S → BV → Prop} (hD : DrIn Dr) : Stp1 (InvD Dr) g_X8_fault g_X9_fault := by
  intro w σ _ ⟨S, r8, r9, ok⟩
  have g8 := r8.2.2.1
  have g9 := r9.2.2.1
  refine stp_of hD (S' := S) (r := if w = 0 then (sF S).1 else if w = 1 then (sF S).2 else -1) ?_ ?_ ok r8 r9
  · intro τ h8
    refine ⟨τ, ?_, h8, fun _ _ => rfl⟩
    unfold g_X8_fault
    rw [h8.2.2.1.1, h8.2.2.1.2]
    split
    · rfl
    · split <;> rfl
  · intro τ h9
    refine ⟨τ, ?_, h9, fun _ _ => rfl⟩
    unfold g_X9_fault
    rw [h9.2.2.1.1, h9.2.2.1.2]
    split
    · rfl
    · split <;> rfl
theorem S_end {Dr : st_S → BV → Prop} (hD : DrIn Dr) : Stp1 (InvD Dr) g_X8_end g_X9_end := by
  intro w σ _ ⟨S, r8, r9, ok⟩
  by_cases hw : 0 ≤ w ∧ w ≤ ((sT S).1 : Int)
  · refine stp_of hD (S' := withT S (w.toNat, (sT S).2)) (r := w) ?_ ?_ ?_ r8 r9
    · intro τ h8
      refine ⟨up2 τ 2 1 w, ?_, ?_, fun a ha => up2_o _ _ (by omega)⟩
      · unfold g_X8_end
        rw [if_neg (by omega), h8.1.1, if_pos hw.2]; rfl
      · obtain ⟨h1, h2, h3, h4, ⟨h5, h6, h7⟩, h8', h9⟩ := h8
        have e : ∀ a, a ≠ 2 → up2 τ 2 1 w a = τ a := fun a ha => up2_o _ _ ha
        refine ⟨⟨by rw [up2_at]; show w = ((w.toNat : Nat) : Int); omega, fun i hi => ?_⟩, by rw [e 4 (by decide), e 5 (by decide)]; exact h2, by rw [e 8 (by decide)]; exact h3, h4.fr (fun k hk => e _ (by omega)), ⟨by rw [e 35 (by decide)]; exact h5, by rw [e 35 (by decide)]; exact h6, fun j hj => ?_⟩, by rw [e 9 (by decide)]; exact h8', hD τ _ _ (fun a h1 _ => e a (by omega)) h9⟩
        · rw [e 3 (by decide)]; exact h1.2 i (by have : i < w.toNat := hi; omega)
        · rw [e 35 (by decide)]; exact (h7 j hj).fr (fun k hk => e _ (by omega))
    · intro τ h9
      refine ⟨up2 τ 596 4 w, ?_, ?_, fun a ha => up2_o _ _ (by omega)⟩
      · unfold g_X9_end
        rw [p9_in, h9.1.1, if_pos ⟨hw.1, hw.2⟩]; rfl
      · obtain ⟨h1, h2, h3, h4, h5, h6⟩ := h9
        have e : ∀ a, a ≠ 596 → up2 τ 596 4 w a = τ a := fun a ha => up2_o _ _ ha
        have e2 : ∀ f, f ≠ 4 → up2 τ 596 4 w 596 f = τ 596 f := fun f hf => up2_ne _ _ (fun q => hf q.2)
        refine ⟨⟨by rw [up2_at]; show w = ((w.toNat : Nat) : Int); omega, fun i hi => ?_⟩, by rw [e2 28 (by decide), e 609 (by decide)]; exact h2, by rw [e2 10 (by decide), e2 11 (by decide)]; exact h3, h4.fr (e _ (by decide)), by rw [e2 34 (by decide)]; exact h5, fun j hj => (h6 j hj).fr (e _ (by decide))⟩
        rw [e 599 (by decide)]; exact h1.2 i (by have : i < w.toNat := hi; omega)
    · obtain ⟨o1, o2, o3⟩ := ok
      exact ⟨by show w.toNat ≤ 1200; omega, fun i hi => o2 i (by have : i < w.toNat := hi; omega), o3⟩
  · refine stp_of hD (S' := S) (r := -1) ?_ ?_ ok r8 r9
    · intro τ h8
      refine ⟨τ, ?_, h8, fun _ _ => rfl⟩
      unfold g_X8_end
      rw [h8.1.1]
      by_cases h0 : w < 0
      · rw [if_pos h0]
      · rw [if_neg h0, if_neg (by omega)]
    · intro τ h9
      refine ⟨τ, ?_, h9, fun _ _ => rfl⟩
      unfold g_X9_end
      rw [p9_in, h9.1.1, if_neg (by omega)]; rfl
theorem S_octet {Dr : st_S → BV → Prop} (hD : DrIn Dr) : Stp1 (InvD Dr) g_X8_octet g_X9_octet := by
  intro w σ _ ⟨S, r8, r9, ok⟩
  have o3 := ok.2.2.1
  refine stp_of hD (S' := S) (r := if 0 ≤ w ∧ w < ((sO S).1 : Int) then (sO S).2 w.toNat else -1) ?_ ?_ ok r8 r9
  · intro τ h8
    refine ⟨τ, ?_, h8, fun _ _ => rfl⟩
    unfold g_X8_octet g_X8_octet_J27
    rw [h8.2.1.1]
    by_cases h0 : w < 0
    · rw [if_pos h0, if_neg (by omega)]
    · rw [if_neg h0]
      by_cases h1 : ((sO S).1 : Int) ≤ w
      · rw [if_pos h1, if_neg (by omega)]
      · rw [if_neg h1, if_pos (by omega), sa_ld_of (by omega) (by show w < 2000; omega), Option.bind_some, h8.2.1.2 _ (by omega)]
  · intro τ h9
    refine ⟨τ, ?_, h9, fun _ _ => rfl⟩
    unfold g_X9_octet
    rw [h9.2.1.1, w32i (by omega) (by omega)]
    by_cases h1 : 0 ≤ w ∧ w < ((sO S).1 : Int)
    · rw [if_pos h1, p9_in1 h1.1 (by omega), Option.bind_some]
      dsimp only
      rw [if_neg one0, sa_ld_of (by omega) (by show w < 2000; omega), Option.bind_some, h9.2.1.2 _ (by omega)]
    · rw [if_neg h1, p9_in0 (by omega), Option.bind_some]
      rfl
