/-! the parts of a text: words, numbers, signs -/
/-- the first place from p on, c places long, that has not P -/
def rn (P : Int → Bool) (T : Nat → Int) : Nat → Nat → Nat
  | 0, p => p
  | c + 1, p => if P (T p) = true then rn P T c (p + 1) else p
theorem rn_le {P : Int → Bool} {T : Nat → Int} : ∀ (c p : Nat), p ≤ rn P T c p ∧ rn P T c p ≤ p + c := by
  intro c
  induction c with
  | zero => intro p; exact ⟨Nat.le_refl _, Nat.le_refl _⟩
  | succ c ih => intro p; rw [rn]; have := ih (p + 1); split <;> omega
theorem rn_in {P : Int → Bool} {T : Nat → Int} : ∀ (c p k : Nat), p ≤ k → k < rn P T c p → P (T k) = true := by
  intro c
  induction c with
  | zero => intro p k h1 h2; have : rn P T 0 p = p := rfl; omega
  | succ c ih =>
    intro p k h1 h2
    rw [rn] at h2
    by_cases e : P (T p) = true
    · rw [if_pos e] at h2
      by_cases z : k = p
      · rw [z]; exact e
      · exact ih (p + 1) k (by omega) h2
    · rw [if_neg e] at h2; omega
theorem rn_stop {P : Int → Bool} {T : Nat → Int} : ∀ (c p : Nat), rn P T c p < p + c → ¬ P (T (rn P T c p)) = true := by
  intro c
  induction c with
  | zero => intro p h; have : rn P T 0 p = p := rfl; omega
  | succ c ih =>
    intro p h
    rw [rn] at h ⊢
    by_cases e : P (T p) = true
    · rw [if_pos e] at h ⊢; exact ih (p + 1) (by omega)
    · rw [if_neg e] at h ⊢; exact e
def blB (x : Int) : Bool := decide (x = 32 ∨ x = 10)
def leB (x : Int) : Bool := decide (97 ≤ x ∧ x ≤ 122)
def diB (x : Int) : Bool := decide (48 ≤ x ∧ x ≤ 57)
/-- what begins at q: 0 nothing, 1 a word, 2 a number, 3 a sign -/
def kdQ (T : Nat → Int) (L q : Nat) : Nat := if L ≤ q then 0 else if leB (T q) = true then 1 else if diB (T q) = true then 2 else 3
def enQ (T : Nat → Int) (L q : Nat) : Nat := if kdQ T L q = 0 then q else if kdQ T L q = 1 then rn leB T (L - q) q else if kdQ T L q = 2 then rn diB T (L - q) q else q + 1
def stP (T : Nat → Int) (L p : Nat) : Nat := rn blB T (L - p) p
def enP (T : Nat → Int) (L p : Nat) : Nat := enQ T L (stP T L p)
def nvN (T : Nat → Int) (q : Nat) : Nat → Nat
  | 0 => 0
  | c + 1 => 10 * nvN T q c + (T (q + c) - 48).toNat
/-- where the k-th part's place begins -/
def pkT (T : Nat → Int) (L : Nat) : Nat → Nat
  | 0 => 0
  | k + 1 => enP T L (pkT T L k)
theorem stP_in {T : Nat → Int} {L p : Nat} (h : p ≤ L) : p ≤ stP T L p ∧ stP T L p ≤ L := by
  have := rn_le (P := blB) (T := T) (L - p) p
  unfold stP; omega
theorem enQ_in {T : Nat → Int} {L q : Nat} (h : q ≤ L) : q ≤ enQ T L q ∧ enQ T L q ≤ L ∧ (q < L → q < enQ T L q) := by
  unfold enQ
  by_cases e0 : kdQ T L q = 0
  · rw [if_pos e0]
    refine ⟨by omega, h, fun hl => ?_⟩
    unfold kdQ at e0
    rw [if_neg (by omega)] at e0
    split at e0
    · omega
    · split at e0 <;> omega
  · have hl : q < L := by
      by_cases z : q < L
      · exact z
      · unfold kdQ at e0; rw [if_pos (by omega)] at e0; exact absurd rfl e0
    rw [if_neg e0]
    obtain ⟨c, hc⟩ : ∃ c, L - q = c + 1 := ⟨L - q - 1, by omega⟩
    by_cases e1 : kdQ T L q = 1
    · rw [if_pos e1]
      unfold kdQ at e1
      rw [if_neg (by omega)] at e1
      have : leB (T q) = true := by
        by_cases z : leB (T q) = true
        · exact z
        · rw [if_neg z] at e1; split at e1 <;> omega
      have := rn_le (P := leB) (T := T) c (q + 1)
      rw [hc, rn, if_pos (by assumption)]
      omega
    · rw [if_neg e1]
      by_cases e2 : kdQ T L q = 2
      · rw [if_pos e2]
        unfold kdQ at e2
        rw [if_neg (by omega)] at e2
        have : diB (T q) = true := by
          by_cases z : diB (T q) = true
          · exact z
          · rw [if_neg z] at e2; split at e2 <;> omega
        have := rn_le (P := diB) (T := T) c (q + 1)
        rw [hc, rn, if_pos (by assumption)]
        omega
      · rw [if_neg e2]; omega
theorem enP_in {T : Nat → Int} {L p : Nat} (h : p ≤ L) : p ≤ enP T L p ∧ enP T L p ≤ L := by
  have a := stP_in (T := T) h
  have c := enQ_in (T := T) a.2
  unfold enP; omega
theorem pkT_le {T : Nat → Int} {L : Nat} : ∀ k, pkT T L k ≤ L
  | 0 => Nat.zero_le _
  | k + 1 => (enP_in (pkT_le k)).2
/-! the reference goes on by one part -/
def ub (t : Int) : Int := if t < 0 then t + 256 else t
theorem and255 {t : Int} (h : -128 ≤ t ∧ t < 128) : ab_and t 255 = ub t := by
  have key : ∀ n : Nat, n < 256 → ab_and ((n : Int) - 128) 255 = ub ((n : Int) - 128) := by decide +kernel
  have := key (t + 128).toNat (by omega)
  rw [show (((t + 128).toNat : Nat) : Int) - 128 = t by omega] at this
  exact this
def Tx9 (σ : st_S) (T : Nat → Int) (L : Nat) : Prop := (σ 596 5 = (L : Int) ∧ σ 596 11 = -1) ∧ ∀ i, i < L → σ 599 i = T i
def okX (T : Nat → Int) (L : Nat) : Prop := L ≤ 1200 ∧ ∀ i, i < L → -128 ≤ T i ∧ T i < 128
/-- only the fields 6 to 9 of the reference change -/
def F69 (σ σ' : st_S) : Prop := (∀ c, c ≠ 596 → σ' c = σ c) ∧ ∀ f, (f < 6 ∨ 9 < f) → σ' 596 f = σ 596 f
theorem F69.trans {σ σ1 σ2 : st_S} (h : F69 σ σ1) (h2 : F69 σ1 σ2) : F69 σ σ2 := ⟨fun c x => by rw [h2.1 c x, h.1 c x], fun f x => by rw [h2.2 f x, h.2 f x]⟩
theorem F69.rfl' {σ : st_S} : F69 σ σ := ⟨fun _ _ => rfl, fun _ _ => rfl⟩
theorem F69.up {σ : st_S} {f : Nat} (h : 6 ≤ f ∧ f ≤ 9) (x : Int) : F69 σ (up2 σ 596 f x) := ⟨fun c y => up2_o _ _ y, fun g y => up2_ne _ _ (fun q => by have := q.2; omega)⟩
theorem Tx9.fr {σ σ' : st_S} {T : Nat → Int} {L : Nat} (h : Tx9 σ T L) (f : F69 σ σ') : Tx9 σ' T L := ⟨by rw [f.2 5 (by omega), f.2 11 (by omega)]; exact h.1, fun i hi => by rw [f.1 599 (by decide)]; exact h.2 i hi⟩
section AD
variable {T : Nat → Int} {L : Nat}
theorem p9_see0 {σ : st_S} (ox : okX T L) (h : Tx9 σ T L) {p : Nat} : g_X9_see0 (p : Int) σ = some (if p < L then ub (T p) else -1, σ) := by
  have o1 := ox.1
  unfold g_X9_see0
  rw [h.1.1]
  by_cases e : p < L
  · rw [if_neg (by omega), sa_ld_of (by omega) (by omega), Option.bind_some, Int.toNat_natCast, h.2 p e, and255 (ox.2 p e), if_pos e]
  · rw [if_pos (by omega), if_neg e]
theorem p9_adv_L0 (ox : okX T L) : ∀ (c p : Nat) (σ : st_S), p + c = L → Tx9 σ T L → σ 596 6 = (p : Int) → ∃ σ', (∀ (K : st_S → Option st_S) n, c < n → g_X9_advance_L0 K n σ = K σ') ∧ σ' 596 6 = (rn blB T c p : Int) ∧ F69 σ σ' := by
  have o1 := ox.1
  intro c
  induction c with
  | zero =>
    intro p σ hp h h6
    refine ⟨σ, fun K n hn => ?_, h6, F69.rfl'⟩
    obtain ⟨m, rfl⟩ : ∃ m, n = m + 1 := ⟨n - 1, by omega⟩
    rw [g_X9_advance_L0, h6, p9_see0 ox h, if_neg (by omega), Option.bind_some]
    dsimp only
    rw [if_neg (by decide), h6, p9_see0 ox h, if_neg (by omega), Option.bind_some]
    dsimp only
    rw [if_neg (by decide)]
  | succ c ih =>
    intro p σ hp h h6
    have tp := ox.2 p (by omega)
    rw [rn]
    by_cases e : blB (T p) = true
    · rw [if_pos e]
      obtain ⟨σ', q1, q2, q3⟩ := ih (p + 1) (up2 σ 596 6 ((p + 1 : Nat) : Int)) (by omega) (h.fr (F69.up (by omega) _)) (up2_at _ _ _ _)
      refine ⟨σ', fun K n hn => ?_, q2, (F69.up (by omega) _).trans q3⟩
      obtain ⟨m, rfl⟩ : ∃ m, n = m + 1 := ⟨n - 1, by omega⟩
      have e : T p = 32 ∨ T p = 10 := of_decide_eq_true e
      rw [g_X9_advance_L0, h6, p9_see0 ox h, if_pos (by omega), Option.bind_some]
      unfold g_X9_advance_J26 ub
      dsimp only
      rw [h6, w32s (by omega), Option.bind_some]
      by_cases z : T p = 32
      · rw [if_neg (show ¬ T p < 0 by omega), if_pos z]; exact q1 K m (by omega)
      · rw [if_neg (show ¬ T p < 0 by omega), if_neg z, p9_see0 ox h, if_pos (by omega), Option.bind_some]
        unfold ub
        dsimp only
        rw [if_neg (show ¬ T p < 0 by omega), if_pos (show T p = 10 by omega), h6, w32s (by omega), Option.bind_some]; exact q1 K m (by omega)
    · rw [if_neg e]
      refine ⟨σ, fun K n hn => ?_, h6, F69.rfl'⟩
      obtain ⟨m, rfl⟩ : ∃ m, n = m + 1 := ⟨n - 1, by omega⟩
      have e : ¬ (T p = 32 ∨ T p = 10) := fun q => e (decide_eq_true q)
      have u1 : ¬ ub (T p) = 32 := by unfold ub; split <;> omega
      have u2 : ¬ ub (T p) = 10 := by unfold ub; split <;> omega
      rw [g_X9_advance_L0, h6, p9_see0 ox h, if_pos (by omega), Option.bind_some]
      dsimp only
      rw [if_neg u1, h6, p9_see0 ox h, if_pos (by omega), Option.bind_some]
      dsimp only
      rw [if_neg u2]
theorem p9_adv_L83 (ox : okX T L) : ∀ (c p : Nat) (σ : st_S), p + c = L → Tx9 σ T L → σ 596 6 = (p : Int) → ∃ σ', (∀ (K : st_S → Option st_S) n, c < n → g_X9_advance_L83 K n σ = K σ') ∧ σ' 596 6 = (rn leB T c p : Int) ∧ F69 σ σ' ∧ ∀ f, f ≠ 6 → σ' 596 f = σ 596 f := by
  have o1 := ox.1
  intro c
  induction c with
  | zero =>
    intro p σ hp h h6
    refine ⟨σ, fun K n hn => ?_, h6, F69.rfl', fun _ _ => rfl⟩
    obtain ⟨m, rfl⟩ : ∃ m, n = m + 1 := ⟨n - 1, by omega⟩
    rw [g_X9_advance_L83, h6, p9_see0 ox h, if_neg (by omega), Option.bind_some]
    dsimp only
    rw [p9_in0 (by decide), Option.bind_some]
    dsimp only
    rw [if_pos rfl]
  | succ c ih =>
    intro p σ hp h h6
    have tp := ox.2 p (by omega)
    rw [rn]
    by_cases e : leB (T p) = true
    · rw [if_pos e]
      obtain ⟨σ', q1, q2, q3, q4⟩ := ih (p + 1) (up2 σ 596 6 ((p + 1 : Nat) : Int)) (by omega) (h.fr (F69.up (by omega) _)) (up2_at _ _ _ _)
      refine ⟨σ', fun K n hn => ?_, q2, (F69.up (by omega) _).trans q3, fun f hf => by rw [q4 f hf, up2_ne _ _ (fun q => hf q.2)]⟩
      obtain ⟨m, rfl⟩ : ∃ m, n = m + 1 := ⟨n - 1, by omega⟩
      have e : 97 ≤ T p ∧ T p ≤ 122 := of_decide_eq_true e
      have u : ub (T p) = T p := by unfold ub; rw [if_neg (by omega)]
      rw [g_X9_advance_L83, h6, p9_see0 ox h, if_pos (by omega), Option.bind_some]
      dsimp only
      rw [u, p9_in1 e.1 e.2, Option.bind_some]
      dsimp only
      rw [if_neg one0, h6, w32s (by omega), Option.bind_some]; exact q1 K m (by omega)
    · rw [if_neg e]
      refine ⟨σ, fun K n hn => ?_, h6, F69.rfl', fun _ _ => rfl⟩
      obtain ⟨m, rfl⟩ : ∃ m, n = m + 1 := ⟨n - 1, by omega⟩
      have e : ¬ (97 ≤ T p ∧ T p ≤ 122) := fun q => e (decide_eq_true q)
      have u1 : ¬ (97 ≤ ub (T p) ∧ ub (T p) ≤ 122) := by unfold ub; split <;> omega
      rw [g_X9_advance_L83, h6, p9_see0 ox h, if_pos (by omega), Option.bind_some]
      dsimp only
      rw [p9_in0 u1, Option.bind_some]
      dsimp only
      rw [if_pos rfl]
theorem mn_step {V : Nat} {t : Int} (ht : 48 ≤ t ∧ t ≤ 57) : ab_mn 99999 (ab_w32 (ab_w32 (ab_w32 (10 * ((if 99999 < V then 99999 else V : Nat) : Int)) + t) - 48)) = ((if 99999 < 10 * V + (t - 48).toNat then 99999 else 10 * V + (t - 48).toNat : Nat) : Int) := by
  have : (if 99999 < V then 99999 else V) ≤ 99999 := by split <;> omega
  generalize hX : (if 99999 < V then 99999 else V) = X at *
  rw [w32i (x := 10 * (X : Int)) (by omega) (by omega), w32i (x := 10 * (X : Int) + t) (by omega) (by omega), w32i (by omega) (by omega), ← hX]
  unfold ab_mn
  by_cases e : 99999 < V
  · rw [if_pos e, if_pos (show 99999 < 10 * V + (t - 48).toNat by omega), if_neg (by omega)]; rfl
  · rw [if_neg e]
    by_cases e2 : 99999 < 10 * V + (t - 48).toNat
    · rw [if_pos e2, if_neg (by omega)]; rfl
    · rw [if_neg e2]
      split <;> omega
/-- q: where the number begins -/
theorem p9_adv_L144 (ox : okX T L) {q : Nat} : ∀ (c p : Nat) (σ : st_S), p + c = L → q ≤ p → Tx9 σ T L → σ 596 6 = (p : Int) → σ 596 9 = ((if 99999 < nvN T q (p - q) then 99999 else nvN T q (p - q) : Nat) : Int) →
    ∃ σ', (∀ (K : st_S → Option st_S) n, c < n → g_X9_advance_L144 K n σ = K σ') ∧ σ' 596 6 = (rn diB T c p : Int) ∧ σ' 596 9 = ((if 99999 < nvN T q (rn diB T c p - q) then 99999 else nvN T q (rn diB T c p - q) : Nat) : Int) ∧ F69 σ σ' ∧ ∀ f, f ≠ 6 → f ≠ 9 → σ' 596 f = σ 596 f := by
  have o1 := ox.1
  intro c
  induction c with
  | zero =>
    intro p σ hp hq h h6 h9
    refine ⟨σ, fun K n hn => ?_, h6, h9, F69.rfl', fun _ _ _ => rfl⟩
    obtain ⟨m, rfl⟩ : ∃ m, n = m + 1 := ⟨n - 1, by omega⟩
    rw [g_X9_advance_L144, h6, p9_see0 ox h, if_neg (by omega), Option.bind_some]
    dsimp only
    rw [p9_in0 (by decide), Option.bind_some]
    dsimp only
    rw [if_pos rfl]
  | succ c ih =>
    intro p σ hp hq h h6 h9
    have tp := ox.2 p (by omega)
    rw [rn]
    by_cases e : diB (T p) = true
    · rw [if_pos e]
      have e' : 48 ≤ T p ∧ T p ≤ 57 := of_decide_eq_true e
      have u : ub (T p) = T p := by unfold ub; rw [if_neg (by omega)]
      have nv : nvN T q (p + 1 - q) = 10 * nvN T q (p - q) + (T p - 48).toNat := by
        rw [show p + 1 - q = (p - q) + 1 by omega, nvN, show q + (p - q) = p by omega]
      generalize hv : ((if 99999 < 10 * nvN T q (p - q) + (T p - 48).toNat then 99999 else 10 * nvN T q (p - q) + (T p - 48).toNat : Nat) : Int) = v at *
      obtain ⟨σ', q1, q2, q3, q4, q5⟩ := ih (p + 1) (up2 (up2 σ 596 9 v) 596 6 ((p + 1 : Nat) : Int)) (by omega) (by omega) (h.fr ((F69.up (by omega) _).trans (F69.up (by omega) _))) (up2_at _ _ _ _) (by rw [up2_ne _ _ (by decide), up2_at, nv, ← hv])
      refine ⟨σ', fun K n hn => ?_, q2, q3, ((F69.up (by omega) _).trans (F69.up (by omega) _)).trans q4, fun f h1 h2 => by rw [q5 f h1 h2, up2_ne _ _ (fun q => h1 q.2), up2_ne _ _ (fun q => h2 q.2)]⟩
      obtain ⟨m, rfl⟩ : ∃ m, n = m + 1 := ⟨n - 1, by omega⟩
      rw [g_X9_advance_L144, h6, p9_see0 ox h, if_pos (by omega), Option.bind_some]
      dsimp only
      rw [u, p9_in1 e'.1 e'.2, Option.bind_some]
      dsimp only
      rw [if_neg one0, h6, p9_see0 ox h, if_pos (by omega), Option.bind_some]
      dsimp only
      rw [u, h9, mn_step e', hv, Option.bind_some, up2_ne _ _ (by decide), h6, w32s (by omega), Option.bind_some]; exact q1 K m (by omega)
    · rw [if_neg e]
      refine ⟨σ, fun K n hn => ?_, h6, h9, F69.rfl', fun _ _ _ => rfl⟩
      obtain ⟨m, rfl⟩ : ∃ m, n = m + 1 := ⟨n - 1, by omega⟩
      have e : ¬ (48 ≤ T p ∧ T p ≤ 57) := fun q => e (decide_eq_true q)
      have u1 : ¬ (48 ≤ ub (T p) ∧ ub (T p) ≤ 57) := by unfold ub; split <;> omega
      rw [g_X9_advance_L144, h6, p9_see0 ox h, if_pos (by omega), Option.bind_some]
      dsimp only
      rw [p9_in0 u1, Option.bind_some]
      dsimp only
      rw [if_pos rfl]
/-- the reference is at what begins at q -/
def At9 (σ : st_S) (T : Nat → Int) (L q : Nat) : Prop := σ 596 7 = (q : Int) ∧ σ 596 6 = (enQ T L q : Int) ∧ σ 596 8 = (kdQ T L q : Int) ∧
  (kdQ T L q = 2 → σ 596 9 = ((if 99999 < nvN T q (enQ T L q - q) then 99999 else nvN T q (enQ T L q - q) : Nat) : Int)) ∧ (kdQ T L q = 3 → σ 596 9 = ub (T q))
theorem p9_advance {σ : st_S} (ox : okX T L) (h : Tx9 σ T L) {p : Nat} (hp : p ≤ L) (h6 : σ 596 6 = (p : Int)) : ∃ σ', g_X9_advance σ = some σ' ∧ At9 σ' T L (stP T L p) ∧ F69 σ σ' := by
  have o1 := ox.1
  have sq := stP_in (T := T) hp
  obtain ⟨s1, a1, a2, a3⟩ := p9_adv_L0 ox (L - p) p σ (by omega) h h6
  have a2 : s1 596 6 = (stP T L p : Int) := a2
  generalize stP T L p = q at *
  have T2 : Tx9 (up2 s1 596 7 (q : Int)) T L := (h.fr a3).fr (F69.up (by omega) _)
  have e6 : up2 s1 596 7 (q : Int) 596 6 = (q : Int) := by rw [up2_ne _ _ (by decide)]; exact a2
  have F2 : F69 σ (up2 s1 596 7 (q : Int)) := a3.trans (F69.up (by omega) _)
  have e7 : up2 s1 596 7 (q : Int) 596 7 = (q : Int) := up2_at _ _ _ _
  generalize hs2 : up2 s1 596 7 (q : Int) = s2 at *
  by_cases hl : L ≤ q
  · have k0 : kdQ T L q = 0 := by unfold kdQ; rw [if_pos hl]
    have n0 : enQ T L q = q := by unfold enQ; rw [if_pos k0]
    refine ⟨up2 s2 596 8 0, ?_, ⟨by rw [up2_ne _ _ (by decide)]; exact e7, by rw [up2_ne _ _ (by decide), n0]; exact e6, by rw [up2_at, k0]; rfl, fun z => by omega, fun z => by omega⟩, F2.trans (F69.up (by omega) _)⟩
    unfold g_X9_advance
    refine (a1 _ ab_FU (by show _ < 100000; omega)).trans ?_
    rw [a2, hs2, Option.bind_some, e6, p9_see0 ox T2, if_neg (by omega), Option.bind_some]
    dsimp only
    rw [if_pos rfl, Option.bind_some]
  · have tq := ox.2 q (by omega)
    have un : ¬ ub (T q) = -1 := by unfold ub; split <;> omega
    by_cases l1 : leB (T q) = true
    · have k1 : kdQ T L q = 1 := by unfold kdQ; rw [if_neg hl, if_pos l1]
      have n1 : enQ T L q = rn leB T (L - q) q := by unfold enQ; rw [k1]; rfl
      obtain ⟨s3, b1, b2, b3, b4⟩ := p9_adv_L83 ox (L - q) q s2 (by omega) T2 e6
      have l1 : 97 ≤ T q ∧ T q ≤ 122 := of_decide_eq_true l1
      have u : ub (T q) = T q := by unfold ub; rw [if_neg (by omega)]
      refine ⟨up2 s3 596 8 1, ?_, ⟨by rw [up2_ne _ _ (by decide), b4 7 (by decide)]; exact e7, by rw [up2_ne _ _ (by decide), n1]; exact b2, by rw [up2_at, k1]; rfl, fun z => by omega, fun z => by omega⟩, (F2.trans b3).trans (F69.up (by omega) _)⟩
      unfold g_X9_advance
      refine (a1 _ ab_FU (by show _ < 100000; omega)).trans ?_
      rw [a2, hs2, Option.bind_some, e6, p9_see0 ox T2, if_pos (by omega), Option.bind_some]
      dsimp only
      rw [if_neg un, u, p9_in1 l1.1 l1.2, Option.bind_some]
      dsimp only
      rw [if_neg one0]
      refine (b1 _ ab_FU (by show _ < 100000; omega)).trans ?_
      rw [Option.bind_some]
    · have l1' : ¬ (97 ≤ ub (T q) ∧ ub (T q) ≤ 122) := by
        have : ¬ (97 ≤ T q ∧ T q ≤ 122) := fun z => l1 (decide_eq_true z)
        unfold ub; split <;> omega
      by_cases l2 : diB (T q) = true
      · have k2 : kdQ T L q = 2 := by unfold kdQ; rw [if_neg hl, if_neg l1, if_pos l2]
        have n2 : enQ T L q = rn diB T (L - q) q := by unfold enQ; rw [k2]; rfl
        obtain ⟨s3, b1, b2, b3, b4, b5⟩ := p9_adv_L144 ox (q := q) (L - q) q (up2 s2 596 9 0) (by omega) (Nat.le_refl _) (T2.fr (F69.up (by omega) _)) (by rw [up2_ne _ _ (by decide)]; exact e6) (by rw [up2_at, Nat.sub_self]; rfl)
        have l2 : 48 ≤ T q ∧ T q ≤ 57 := of_decide_eq_true l2
        have u : ub (T q) = T q := by unfold ub; rw [if_neg (by omega)]
        refine ⟨up2 s3 596 8 2, ?_, ⟨by rw [up2_ne _ _ (by decide), b5 7 (by decide) (by decide), up2_ne _ _ (by decide)]; exact e7, by rw [up2_ne _ _ (by decide), n2]; exact b2, by rw [up2_at, k2]; rfl, fun z => by rw [up2_ne _ _ (by decide), n2]; exact b3, fun z => by omega⟩, ((F2.trans (F69.up (by omega) _)).trans b4).trans (F69.up (by omega) _)⟩
        unfold g_X9_advance
        refine (a1 _ ab_FU (by show _ < 100000; omega)).trans ?_
        rw [a2, hs2, Option.bind_some, e6, p9_see0 ox T2, if_pos (by omega), Option.bind_some]
        dsimp only
        rw [if_neg un, p9_in0 l1', Option.bind_some]
        dsimp only
        rw [if_pos rfl, u, p9_in1 l2.1 l2.2, Option.bind_some]
        dsimp only
        rw [if_neg one0, Option.bind_some]
        refine (b1 _ ab_FU (by show _ < 100000; omega)).trans ?_
        rw [Option.bind_some]
      · have l2' : ¬ (48 ≤ ub (T q) ∧ ub (T q) ≤ 57) := by
          have : ¬ (48 ≤ T q ∧ T q ≤ 57) := fun z => l2 (decide_eq_true z)
          unfold ub; split <;> omega
        have k3 : kdQ T L q = 3 := by unfold kdQ; rw [if_neg hl, if_neg l1, if_neg l2]
        have n3 : enQ T L q = q + 1 := by unfold enQ; rw [k3]; rfl
        refine ⟨up2 (up2 (up2 s2 596 8 3) 596 9 (ub (T q))) 596 6 ((q + 1 : Nat) : Int), ?_, ⟨by rw [up2_ne _ _ (by decide), up2_ne _ _ (by decide), up2_ne _ _ (by decide)]; exact e7, by rw [up2_at, n3], by rw [up2_ne _ _ (by decide), up2_ne _ _ (by decide), up2_at, k3]; rfl, fun z => by omega, fun z => by rw [up2_ne _ _ (by decide), up2_at]⟩, ((F2.trans (F69.up (by omega) _)).trans (F69.up (by omega) _)).trans (F69.up (by omega) _)⟩
        unfold g_X9_advance
        refine (a1 _ ab_FU (by show _ < 100000; omega)).trans ?_
        rw [a2, hs2, Option.bind_some, e6, p9_see0 ox T2, if_pos (by omega), Option.bind_some]
        dsimp only
        rw [if_neg un, p9_in0 l1', Option.bind_some]
        dsimp only
        rw [if_pos rfl, p9_in0 l2', Option.bind_some]
        dsimp only
        rw [if_pos rfl, Option.bind_some, Option.bind_some, up2_ne _ _ (by decide), up2_ne _ _ (by decide), e6, w32s (by omega), Option.bind_some]
end AD
