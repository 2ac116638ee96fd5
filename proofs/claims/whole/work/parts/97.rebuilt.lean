/-! rebuilt, twins -/
theorem mn_nat {a c : Nat} : ab_mn (a : Int) (c : Int) = ((min a c : Nat) : Int) := by unfold ab_mn; split <;> omega
/-- the least string of what q takes -/
def mnF (q : Nat → Bool) (f : Nat → Nat) : Nat → Nat → Nat → Nat
  | 0, _, a => a
  | c + 1, k, a => mnF q f c (k + 1) (if q k = true then min a (f k) else a)
theorem mnF_spec {q : Nat → Bool} {f : Nat → Nat} : ∀ (c k a : Nat), mnF q f c k a ≤ a ∧ (∀ j, k ≤ j → j < k + c → q j = true → mnF q f c k a ≤ f j) ∧ (mnF q f c k a = a ∨ ∃ j, k ≤ j ∧ j < k + c ∧ q j = true ∧ mnF q f c k a = f j) := by
  intro c
  induction c with
  | zero => intro k a; exact ⟨Nat.le_refl _, fun j h1 h2 => by omega, Or.inl rfl⟩
  | succ c ih =>
    intro k a
    rw [mnF]
    obtain ⟨h1, h2, h3⟩ := ih (k + 1) (if q k = true then min a (f k) else a)
    by_cases e : q k = true
    · rw [if_pos e] at h1 h2 h3 ⊢
      refine ⟨by omega, fun j j1 j2 j3 => ?_, ?_⟩
      · by_cases z : j = k
        · subst z; omega
        · exact h2 j (by omega) (by omega) j3
      · rcases h3 with h3 | ⟨j, j1, j2, j3, j4⟩
        · by_cases z : a ≤ f k
          · exact Or.inl (by omega)
          · exact Or.inr ⟨k, by omega, by omega, e, by omega⟩
        · exact Or.inr ⟨j, by omega, by omega, j3, j4⟩
    · rw [if_neg e] at h1 h2 h3 ⊢
      refine ⟨h1, fun j j1 j2 j3 => ?_, ?_⟩
      · by_cases z : j = k
        · subst z; exact absurd j3 e
        · exact h2 j (by omega) (by omega) j3
      · rcases h3 with h3 | ⟨j, j1, j2, j3, j4⟩
        · exact Or.inl h3
        · exact Or.inr ⟨j, by omega, by omega, j3, j4⟩
theorem S_rebuilt : Stp1 (InvD DR) g_X8_rebuilt g_X9_rebuilt := by
  intro x σ _ ⟨S, r8, r9, ok⟩
  have okB := ok.2.2.2.2.1
  have o1 := okB.1
  by_cases h0 : 0 ≤ x
  · obtain ⟨k, rfl⟩ := Int.eq_ofNat_of_zero_le h0
    by_cases hk : k < nE (sB S) (bwy (sB S))
    · refine qry (r := fnd (fun s => (sts (sB S) (bwy (sB S)) (lnO (sB S) (bwy (sB S))) (lnO (sB S) (bwy (sB S)) k)).testBit s) (bn (sB S)) 0) ok (fun τ h8 => ?_) (fun τ h9 => ?_) r8 r9
      · obtain ⟨hn, r, v⟩ := v8of h8
        obtain ⟨k1, k2, k3, k4, k5, k6⟩ := v.2.2.2.2.2 k hk
        have k1 : τ 157 k = (r k : Int) := k1
        have hl : lnO (sB S) (bwy (sB S)) k < nL (sB S) (bwy (sB S)) := nK_lt (lnK_st _ _ _) hk
        have l1 := sts_lt okB v (lnO (sB S) (bwy (sB S))) (lnO (sB S) (bwy (sB S)) k)
        have q := p6_stringsOfLine okB hn v hl
        unfold g_X8_rebuilt
        rw [if_pos h0, v.1, if_pos (by omega), sa_ld_of (by omega) (by omega), Option.bind_some, Int.toNat_natCast, k1, k2, Option.bind_some, k5, q, Option.bind_some]
        generalize sts (sB S) (bwy (sB S)) (lnO (sB S) (bwy (sB S))) (lnO (sB S) (bwy (sB S)) k) = M at l1 ⊢
        have key : ∀ (c n s : Nat), s + c = bn (sB S) → c < n → g_X8_rebuilt_L42 n (M : Int) (s : Int) τ = some (fnd (fun s => M.testBit s) c s, τ) := by
          intro c
          induction c with
          | zero =>
            intro n s hs hn
            obtain ⟨m, rfl⟩ : ∃ m, n = m + 1 := ⟨n - 1, by omega⟩
            rw [g_X8_rebuilt_L42, h8.2.2.2.1.1, if_pos (by omega), fnd]
          | succ c ih =>
            intro n s hs hn
            obtain ⟨m, rfl⟩ : ∃ m, n = m + 1 := ⟨n - 1, by omega⟩
            rw [g_X8_rebuilt_L42, h8.2.2.2.1.1, if_neg (by omega), p8_hasBit l1 (by omega), Option.bind_some, fnd]
            dsimp only
            by_cases e : M.testBit s = true
            · rw [if_pos e, if_neg one0, if_pos e]
            · rw [if_neg e, if_pos rfl, if_neg e, w32s (by omega)]; exact ih m (s + 1) (by omega) (by omega)
        exact key (bn (sB S)) ab_FU 0 (by omega) (by show _ < 100000; omega)
      · obtain ⟨τ1, e1, ⟨hn, o, v⟩, _, e3, e4⟩ := v9of ok h9
        refine ⟨τ1, ?_, e4⟩
        have kk := (v.2.2.2.2 k hk).2.2.2.2.1
        have key : ∀ (c n j a : Nat), j + c = nE (sB S) (bwy (sB S)) → a ≤ 12 → c < n → g_X9_rebuilt_L26 n (k : Int) (a : Int) (j : Int) τ1 = some ((mnF (fun j => decide (lnO (sB S) (bwy (sB S)) j = lnO (sB S) (bwy (sB S)) k)) (fun j => (sE (sB S) (bwy (sB S)) j).1) c j a : Int), τ1) := by
          intro c
          induction c with
          | zero =>
            intro n j a hj ha hn
            obtain ⟨m, rfl⟩ : ∃ m, n = m + 1 := ⟨n - 1, by omega⟩
            rw [g_X9_rebuilt_L26, v.1, if_pos (by omega), mnF]
          | succ c ih =>
            intro n j a hj ha hn
            obtain ⟨m, rfl⟩ : ∃ m, n = m + 1 := ⟨n - 1, by omega⟩
            obtain ⟨k1, k2, k3, k4, k5, k6⟩ := v.2.2.2.2 j (by omega)
            have hs := k3.1
            rw [g_X9_rebuilt_L26, v.1, if_neg (by omega), sa_ld_of (by omega) (by omega), Option.bind_some, sa_ld_of (by omega) (by omega), Option.bind_some, Int.toNat_natCast, Int.toNat_natCast, k5, kk, mnF]
            unfold g_X9_rebuilt_J65
            rw [w32s (by omega)]
            by_cases e : lnO (sB S) (bwy (sB S)) j = lnO (sB S) (bwy (sB S)) k
            · rw [if_pos (by omega), if_pos (decide_eq_true e), sa_ld_of (by omega) (by omega), Option.bind_some, Int.toNat_natCast, k1, sa_ld_of (by omega) (by omega), Option.bind_some, Int.toNat_natCast, k4.1, mn_nat]
              exact ih m (j + 1) _ (by omega) (by omega) (by omega)
            · rw [if_neg (by omega), if_neg (show ¬ decide (lnO (sB S) (bwy (sB S)) j = lnO (sB S) (bwy (sB S)) k) = true from fun q => e (of_decide_eq_true q))]
              exact ih m (j + 1) a (by omega) ha (by omega)
        have kr := key (nE (sB S) (bwy (sB S))) ab_FU 0 12 (by omega) (by omega) (by show _ < 100000; omega)
        unfold g_X9_rebuilt
        rw [if_pos h0, e1, Option.bind_some, v.1, if_pos (by omega)]
        refine kr.trans ?_
        refine congrArg some (Prod.ext ?_ rfl)
        obtain ⟨m1, m2, m3⟩ := mnF_spec (q := fun j => decide (lnO (sB S) (bwy (sB S)) j = lnO (sB S) (bwy (sB S)) k)) (f := fun j => (sE (sB S) (bwy (sB S)) j).1) (nE (sB S) (bwy (sB S))) 0 12
        have mk := m2 k (by omega) (by omega) (decide_eq_true rfl)
        have ek := (v.2.2.2.2 k hk).2.2.1.1
        rcases m3 with m3 | ⟨j, j1, j2, j3, j4⟩
        · omega
        · symm
          refine fnd_hit (by omega) (by omega) ?_ (fun l _ hl => ?_)
          · rw [j4]; exact sts_bit.mpr ⟨j, by omega, of_decide_eq_true j3, rfl⟩
          · cases hb : (sts (sB S) (bwy (sB S)) (lnO (sB S) (bwy (sB S))) (lnO (sB S) (bwy (sB S)) k)).testBit l
            · rfl
            · obtain ⟨i, i1, i2, i3⟩ := sts_bit.mp hb
              have := m2 i (by omega) (by omega) (decide_eq_true i2)
              omega
    · refine qry (r := -1) ok (fun τ h8 => ?_) (fun τ h9 => ?_) r8 r9
      · obtain ⟨hn, r, v⟩ := v8of h8
        unfold g_X8_rebuilt
        rw [if_pos h0, v.1, if_neg (by omega)]
      · obtain ⟨τ1, e1, ⟨hn, o, v⟩, _, e3, e4⟩ := v9of ok h9
        refine ⟨τ1, ?_, e4⟩
        unfold g_X9_rebuilt
        rw [if_pos h0, e1, Option.bind_some, v.1, if_neg (by omega)]
  · refine qry (r := -2) ok (fun τ h8 => ?_) (fun τ h9 => ⟨τ, ?_, L9.rfl'⟩) r8 r9
    · unfold g_X8_rebuilt; rw [if_neg h0]
    · unfold g_X9_rebuilt; rw [if_neg h0]
/-! twins -/
theorem andn12 {m s : Nat} (hm : m < 4096) (hs : s < 12) : ab_and (m : Int) (ab_xor (ab_shl 1 (s : Int)) (-1)) = ((andn m (2 ^ s) : Nat) : Int) := by
  have := p2lt hs
  rw [shl1 (by omega), andn_nat (by omega) (by omega)]
def tw8 (M : Nat → Nat) (s : Nat) : Nat → Nat → Nat → Nat
  | 0, _, a => a
  | c + 1, l, a => tw8 M s c (l + 1) (if (M l).testBit s = true then a ||| M l else a)
theorem tw8_lt {M : Nat → Nat} {s : Nat} (h : ∀ l, M l < 4096) : ∀ (c l a : Nat), a < 4096 → tw8 M s c l a < 4096 := by
  intro c
  induction c with
  | zero => intro l a h; exact h
  | succ c ih =>
    intro l a ha
    rw [tw8]
    refine ih (l + 1) _ ?_
    split
    · exact or12 ha (h l)
    · exact ha
theorem tw8_bit {M : Nat → Nat} {s u : Nat} : ∀ (c l a : Nat), (tw8 M s c l a).testBit u = true ↔ a.testBit u = true ∨ ∃ j, l ≤ j ∧ j < l + c ∧ (M j).testBit s = true ∧ (M j).testBit u = true := by
  intro c
  induction c with
  | zero =>
    intro l a
    rw [tw8]
    constructor
    · exact Or.inl
    · rintro (h | ⟨j, h1, h2, _⟩)
      · exact h
      · omega
  | succ c ih =>
    intro l a
    rw [tw8, ih]
    by_cases e : (M l).testBit s = true
    · rw [if_pos e, Nat.testBit_or, Bool.or_eq_true]
      constructor
      · rintro ((h | h) | ⟨j, h1, h2, h3, h4⟩)
        · exact Or.inl h
        · exact Or.inr ⟨l, by omega, by omega, e, h⟩
        · exact Or.inr ⟨j, by omega, by omega, h3, h4⟩
      · rintro (h | ⟨j, h1, h2, h3, h4⟩)
        · exact Or.inl (Or.inl h)
        · by_cases z : j = l
          · subst z; exact Or.inl (Or.inr h4)
          · exact Or.inr ⟨j, by omega, by omega, h3, h4⟩
    · rw [if_neg e]
      constructor
      · rintro (h | ⟨j, h1, h2, h3, h4⟩)
        · exact Or.inl h
        · exact Or.inr ⟨j, by omega, by omega, h3, h4⟩
      · rintro (h | ⟨j, h1, h2, h3, h4⟩)
        · exact Or.inl h
        · by_cases z : j = l
          · subst z; exact absurd h3 e
          · exact Or.inr ⟨j, by omega, by omega, h3, h4⟩
/-- the reference's: from any entry of s -/
def tw9 (g : Nat → Nat) (f : Nat → Nat) (n s : Nat) : Nat → Nat → Nat → Nat
  | 0, _, a => a
  | c + 1, k, a => tw9 g f n s c (k + 1) (if f k = s then flt (fun j => decide (g j = g k)) f n 0 a else a)
theorem tw9_lt {g f : Nat → Nat} {n s : Nat} (h : ∀ j, j < n → f j < 12) : ∀ (c k a : Nat), a < 4096 → tw9 g f n s c k a < 4096 := by
  intro c
  induction c with
  | zero => intro k a h; exact h
  | succ c ih =>
    intro k a ha
    rw [tw9]
    refine ih (k + 1) _ ?_
    split
    · exact flt_lt _ _ _ (fun j _ h2 => h j (by omega)) ha
    · exact ha
theorem tw9_bit {g f : Nat → Nat} {n s u : Nat} : ∀ (c k a : Nat), (tw9 g f n s c k a).testBit u = true ↔ a.testBit u = true ∨ ∃ i, k ≤ i ∧ i < k + c ∧ f i = s ∧ ∃ j, j < n ∧ g j = g i ∧ f j = u := by
  intro c
  induction c with
  | zero =>
    intro k a
    rw [tw9]
    constructor
    · exact Or.inl
    · rintro (h | ⟨j, h1, h2, _⟩)
      · exact h
      · omega
  | succ c ih =>
    intro k a
    rw [tw9, ih]
    by_cases e : f k = s
    · rw [if_pos e, flt_bit]
      constructor
      · rintro ((h | ⟨j, _, h2, h3, h4⟩) | ⟨j, h1, h2, h3, h4⟩)
        · exact Or.inl h
        · exact Or.inr ⟨k, by omega, by omega, e, j, by omega, of_decide_eq_true h3, h4⟩
        · exact Or.inr ⟨j, by omega, by omega, h3, h4⟩
      · rintro (h | ⟨i, h1, h2, h3, j, h4, h5, h6⟩)
        · exact Or.inl (Or.inl h)
        · by_cases z : i = k
          · subst z; exact Or.inl (Or.inr ⟨j, by omega, by omega, decide_eq_true h5, h6⟩)
          · exact Or.inr ⟨i, by omega, by omega, h3, j, h4, h5, h6⟩
    · rw [if_neg e]
      constructor
      · rintro (h | ⟨j, h1, h2, h3, h4⟩)
        · exact Or.inl h
        · exact Or.inr ⟨j, by omega, by omega, h3, h4⟩
      · rintro (h | ⟨j, h1, h2, h3, h4⟩)
        · exact Or.inl h
        · by_cases z : j = k
          · subst z; exact absurd h3 e
          · exact Or.inr ⟨j, by omega, by omega, h3, h4⟩
theorem S_twins : Stp1 (InvD DR) g_X8_twins g_X9_twins := by
  intro x σ _ ⟨S, r8, r9, ok⟩
  have okB := ok.2.2.2.2.1
  have o1 := okB.1
  by_cases hx : 0 ≤ x ∧ x < (bn (sB S) : Int)
  · obtain ⟨s, rfl⟩ := Int.eq_ofNat_of_zero_le hx.1
    have hs : s < bn (sB S) := by omega
    generalize hMM : (fun l => sts (sB S) (bwy (sB S)) (lnO (sB S) (bwy (sB S))) l) = M
    refine qry (r := ((andn (tw8 M s (nL (sB S) (bwy (sB S))) 0 0) (2 ^ s) : Nat) : Int)) ok (fun τ h8 => ?_) (fun τ h9 => ?_) r8 r9
    · obtain ⟨hn, r, v⟩ := v8of h8
      have lL := nL_le (sB S) (bwy (sB S))
      have lt : ∀ l, M l < 4096 := fun l => by rw [← hMM]; exact sts_lt okB v _ _
      have key : ∀ (c n l a : Nat), l + c = nL (sB S) (bwy (sB S)) → a < 4096 → c < n → g_X8_twins_L15 (fun w56_1 w56_2 σx56 => some (ab_and w56_2 (ab_xor (ab_shl (1 : Int) w56_1) (-1 : Int)), σx56)) n (s : Int) (a : Int) (l : Int) τ = some (((andn (tw8 M s c l a) (2 ^ s) : Nat) : Int), τ) := by
        intro c
        induction c with
        | zero =>
          intro n l a hl ha hn
          obtain ⟨m, rfl⟩ : ∃ m, n = m + 1 := ⟨n - 1, by omega⟩
          rw [g_X8_twins_L15, v.2.1, if_pos (by omega), tw8, andn12 ha (by omega)]
        | succ c ih =>
          intro n l a hl ha hn'
          obtain ⟨m, rfl⟩ : ∃ m, n = m + 1 := ⟨n - 1, by omega⟩
          have lml := lt l
          have q : g_X6_stringsOfLine 156 (l : Int) τ = some ((M l : Int), τ) := by rw [← hMM]; exact p6_stringsOfLine okB hn v (by omega)
          rw [g_X8_twins_L15, v.2.1, if_neg (by omega), q, Option.bind_some]
          dsimp only
          rw [p8_hasBit lml (by omega), Option.bind_some, tw8]
          unfold g_X8_twins_J50
          dsimp only
          rw [w32s (by omega)]
          by_cases e : (M l).testBit s = true
          · rw [if_pos e, if_neg one0, if_pos e, or_nat (by omega) (by omega)]; exact ih m (l + 1) _ (by omega) (or12 ha lml) (by omega)
          · rw [if_neg e, if_pos rfl, if_neg e]; exact ih m (l + 1) a (by omega) ha (by omega)
      unfold g_X8_twins
      rw [p8_isString h8.2.2.2.1, if_pos hx, Option.bind_some]
      dsimp only
      rw [if_neg one0]
      exact key _ ab_FU 0 0 (by omega) (by decide) (by show _ < 100000; omega)
    · obtain ⟨τ1, e1, ⟨hn, o, v⟩, _, e3, e4⟩ := v9of ok h9
      refine ⟨τ1, ?_, e4⟩
      have fl12 : ∀ j, j < nE (sB S) (bwy (sB S)) → (sE (sB S) (bwy (sB S)) j).1 < 12 := fun j hj => by have := (v.2.2.2.2 j hj).2.2.1.1; omega
      have in1 : ∀ (K : Int → Int → Int → st_S → Option (Int × st_S)) (k : Nat), k < nE (sB S) (bwy (sB S)) → ∀ (c n j a : Nat), j + c = nE (sB S) (bwy (sB S)) → a < 4096 → c < n → g_X9_twins_L48 K n (s : Int) (a : Int) (k : Int) (j : Int) τ1 = K (s : Int) (flt (fun j => decide (lnO (sB S) (bwy (sB S)) j = lnO (sB S) (bwy (sB S)) k)) (fun j => (sE (sB S) (bwy (sB S)) j).1) c j a : Int) (k : Int) τ1 := by
        intro K k hk c
        have kk := (v.2.2.2.2 k hk).2.2.2.2.1
        induction c with
        | zero =>
          intro n j a hj ha hn
          obtain ⟨m, rfl⟩ : ∃ m, n = m + 1 := ⟨n - 1, by omega⟩
          rw [g_X9_twins_L48, v.1, if_pos (by omega), flt]
        | succ c ih =>
          intro n j a hj ha hn'
          obtain ⟨m, rfl⟩ : ∃ m, n = m + 1 := ⟨n - 1, by omega⟩
          obtain ⟨k1, k2, k3, k4, k5, k6⟩ := v.2.2.2.2 j (by omega)
          have f12 := fl12 j (by omega)
          have p2 := p2lt f12
          rw [g_X9_twins_L48, v.1, if_neg (by omega), sa_ld_of (by omega) (by omega), Option.bind_some, sa_ld_of (by omega) (by omega), Option.bind_some, Int.toNat_natCast, Int.toNat_natCast, k5, kk, flt]
          unfold g_X9_twins_J92
          rw [w32s (by omega)]
          by_cases e : lnO (sB S) (bwy (sB S)) j = lnO (sB S) (bwy (sB S)) k
          · rw [if_pos (by omega), if_pos (decide_eq_true e), sa_ld_of (by omega) (by omega), Option.bind_some, Int.toNat_natCast, k1, sa_ld_of (by omega) (by omega), Option.bind_some, Int.toNat_natCast, k4.1, shl1 (by omega), or_nat (by omega) (by omega)]
            exact ih m (j + 1) _ (by omega) (or12 ha p2) (by omega)
          · rw [if_neg (by omega), if_neg (show ¬ decide (lnO (sB S) (bwy (sB S)) j = lnO (sB S) (bwy (sB S)) k) = true from fun q => e (of_decide_eq_true q)), or0 ha]
            exact ih m (j + 1) a (by omega) ha (by omega)
      have key : ∀ (c n k a : Nat), k + c = nE (sB S) (bwy (sB S)) → a < 4096 → c < n → g_X9_twins_L19 (fun w106_1 w106_2 σx106 => some (ab_and w106_2 (ab_xor (ab_shl (1 : Int) w106_1) (-1 : Int)), σx106)) n (s : Int) (a : Int) (k : Int) τ1 = some (((andn (tw9 (lnO (sB S) (bwy (sB S))) (fun j => (sE (sB S) (bwy (sB S)) j).1) (nE (sB S) (bwy (sB S))) s c k a) (2 ^ s) : Nat) : Int), τ1) := by
        intro c
        induction c with
        | zero =>
          intro n k a hk ha hn
          obtain ⟨m, rfl⟩ : ∃ m, n = m + 1 := ⟨n - 1, by omega⟩
          rw [g_X9_twins_L19, v.1, if_pos (by omega), tw9, andn12 ha (by omega)]
        | succ c ih =>
          intro n k a hk ha hn'
          obtain ⟨m, rfl⟩ : ∃ m, n = m + 1 := ⟨n - 1, by omega⟩
          obtain ⟨k1, k2, k3, k4, k5, k6⟩ := v.2.2.2.2 k (by omega)
          rw [g_X9_twins_L19, v.1, if_neg (by omega), sa_ld_of (by omega) (by omega), Option.bind_some, Int.toNat_natCast, k1, sa_ld_of (by omega) (by omega), Option.bind_some, Int.toNat_natCast, k4.1, tw9]
          by_cases e : (sE (sB S) (bwy (sB S)) k).1 = s
          · rw [if_pos (by omega), if_pos e]
            refine (in1 _ k (by omega) (nE (sB S) (bwy (sB S))) ab_FU 0 a (by omega) ha (by show _ < 100000; omega)).trans ?_
            unfold g_X9_twins_J100
            rw [w32s (by omega)]
            exact ih m (k + 1) _ (by omega) (flt_lt _ _ _ (fun j _ h2 => fl12 j (by omega)) ha) (by omega)
          · rw [if_neg (by omega), if_neg e]
            unfold g_X9_twins_J100
            rw [w32s (by omega)]
            exact ih m (k + 1) a (by omega) ha (by omega)
      have kr := key (nE (sB S) (bwy (sB S))) ab_FU 0 0 (by omega) (by decide) (by show _ < 100000; omega)
      unfold g_X9_twins
      rw [p9_isString h9.2.2.2.1 okB, if_pos hx, Option.bind_some]
      dsimp only
      rw [if_neg one0, e1, Option.bind_some]
      refine kr.trans (congrArg some (Prod.ext ?_ rfl))
      show ((_ : Nat) : Int) = ((_ : Nat) : Int)
      refine congrArg (fun z : Nat => ((andn z (2 ^ s) : Nat) : Int)) ?_
      apply Nat.eq_of_testBit_eq
      intro u
      have e : (tw9 (lnO (sB S) (bwy (sB S))) (fun j => (sE (sB S) (bwy (sB S)) j).1) (nE (sB S) (bwy (sB S))) s (nE (sB S) (bwy (sB S))) 0 0).testBit u = true ↔ (tw8 M s (nL (sB S) (bwy (sB S))) 0 0).testBit u = true := by
        rw [tw9_bit, tw8_bit, ← hMM]
        simp only [Nat.zero_testBit]
        constructor
        · rintro (h | ⟨i, _, i2, i3, j, j1, j2, j3⟩)
          · cases h
          · exact Or.inr ⟨lnO (sB S) (bwy (sB S)) i, by omega, by have := nK_lt (lnK_st (sB S) (bwy (sB S)) (sE (sB S) (bwy (sB S)))) (show i < nE (sB S) (bwy (sB S)) by omega); rw [Nat.zero_add]; exact this, sts_bit.mpr ⟨i, by omega, rfl, i3⟩, sts_bit.mpr ⟨j, j1, j2, j3⟩⟩
        · rintro (h | ⟨l, _, l2, l3, l4⟩)
          · cases h
          · obtain ⟨i, i1, i2, i3⟩ := sts_bit.mp l3
            obtain ⟨j, j1, j2, j3⟩ := sts_bit.mp l4
            exact Or.inr ⟨i, by omega, by omega, i3, j, j1, by rw [i2, j2], j3⟩
      cases h1 : (tw9 (lnO (sB S) (bwy (sB S))) (fun j => (sE (sB S) (bwy (sB S)) j).1) (nE (sB S) (bwy (sB S))) s (nE (sB S) (bwy (sB S))) 0 0).testBit u <;> cases h3 : (tw8 M s (nL (sB S) (bwy (sB S))) 0 0).testBit u
      · rfl
      · rw [h1, h3] at e; have := e.mpr rfl; cases this
      · rw [h1, h3] at e; have := e.mp rfl; cases this
      · rfl
  · refine qry (r := -2) ok (fun τ h8 => ?_) (fun τ h9 => ⟨τ, ?_, L9.rfl'⟩) r8 r9
    · unfold g_X8_twins
      rw [p8_isString h8.2.2.2.1, if_neg hx]; rfl
    · unfold g_X9_twins
      rw [p9_isString h9.2.2.2.1 okB, if_neg hx]; rfl
