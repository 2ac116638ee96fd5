/-! sums over entries: string, would -/
def SS (F : Nat × Nat → Nat) (f : Nat → Nat × Nat) : Nat → Nat
  | 0 => 0
  | n + 1 => SS F f n + F (f n)
def sumF (F : Nat × Nat → Nat) (f : Nat → Nat × Nat) : Nat → Nat → Nat → Nat
  | 0, _, a => a
  | c + 1, k, a => sumF F f c (k + 1) (a + F (f k))
theorem sumF_snoc (F : Nat × Nat → Nat) (f : Nat → Nat × Nat) : ∀ (c k a : Nat), sumF F f (c + 1) k a = sumF F f c k a + F (f (k + c)) := by
  intro c
  induction c with
  | zero => intro k a; rfl
  | succ c ih =>
    intro k a
    rw [sumF, ih (k + 1)]
    conv => rhs; rw [sumF]
    rw [show k + 1 + c = k + (c + 1) by omega]
theorem sumF_SS (F : Nat × Nat → Nat) (f : Nat → Nat × Nat) : ∀ n, sumF F f n 0 0 = SS F f n := by
  intro n
  induction n with
  | zero => rfl
  | succ n ih => rw [sumF_snoc, ih, SS, Nat.zero_add]
theorem SS_congr {F : Nat × Nat → Nat} {f g : Nat → Nat × Nat} : ∀ n, (∀ j, j < n → f j = g j) → SS F f n = SS F g n := by
  intro n
  induction n with
  | zero => intro _; rfl
  | succ n ih => intro h; rw [SS, SS, ih (fun j hj => h j (by omega)), h n (by omega)]
theorem SS_ins (F : Nat × Nat → Nat) (f : Nat → Nat × Nat) (x : Nat × Nat) (p : Nat) : ∀ n, p ≤ n → SS F (insG f p x) (n + 1) = SS F f n + F x := by
  intro n
  induction n with
  | zero =>
    intro h
    have : p = 0 := by omega
    subst this
    show SS F (insG f 0 x) 0 + F (insG f 0 x 0) = 0 + F x
    rw [insG_at]; rfl
  | succ n ih =>
    intro h
    rw [SS]
    by_cases e : p = n + 1
    · subst e
      rw [insG_at, SS_congr (g := f) (n + 1) (fun j hj => insG_lt hj)]
    · rw [ih (by omega), insG_gt (by omega), Nat.add_sub_cancel]
      conv => rhs; rw [SS]
      omega
theorem SS_so (b : BV) (wy : Nat → Int) (F : Nat × Nat → Nat) : SS F (sE b wy) (nE b wy) = SS F (fun e => (el b).getD e (0, 0)) (nE b wy) := by
  have key : ∀ e, e ≤ (el b).length → SS F (stK b wy (el b) e).2 e = SS F (fun e => (el b).getD e (0, 0)) e := by
    intro e
    induction e with
    | zero => intro _; rfl
    | succ e ih =>
      intro he
      rw [stK_s (by omega)]
      unfold sIns
      show SS F (insG (stK b wy (el b) e).2 (cpos b wy (stK b wy (el b) e).2 ((el b).getD e (0, 0)) (stK b wy (el b) e).1) ((el b).getD e (0, 0))) (e + 1) = _
      rw [stK_n (by omega), SS_ins F _ _ _ e (cpos_le _ _ _ _ _), ih (by omega)]; rfl
  have hst : stK b wy (el b) (el b).length = so b wy := by unfold stK so; rw [List.take_length]
  have := key (el b).length (Nat.le_refl _)
  rw [hst] at this
  rw [nE_len b wy]; exact this
theorem SS_le {F : Nat × Nat → Nat} {f : Nat → Nat × Nat} (h : ∀ x, F x ≤ 12) : ∀ n, SS F f n ≤ 12 * n := by
  intro n
  induction n with
  | zero => exact Nat.le_refl _
  | succ n ih => rw [SS]; have := h (f n); omega
def dbF (b : BV) (wy : Nat → Int) (x : Nat × Nat) : Nat := pc (gG b wy x)
def dbS (b : BV) (wy : Nat → Int) (s : Nat) (x : Nat × Nat) : Nat := if x.1 = s then pc (gG b wy x) else 0
theorem dbF_le (b : BV) (wy : Nat → Int) (x : Nat × Nat) : dbF b wy x ≤ 12 := pc_le _
theorem dbS_le (b : BV) (wy : Nat → Int) (s : Nat) (x : Nat × Nat) : dbS b wy s x ≤ 12 := by unfold dbS; split; exact pc_le _; omega
theorem p6_doublesOf {σ : st_S} {a : Nat} {b : BV} {wy : Nat → Int} {r : Nat → Nat} (ok : OkB b) (hn : nE b wy ≤ 72) (v : V8 σ a b wy r) (s : Nat) : g_X6_doublesOf a (s : Int) σ = some ((SS (dbS b wy s) (sE b wy) (nE b wy) : Int), σ) := by
  have key : ∀ (c n k m : Nat), k + c = nE b wy → m ≤ 12 * k → c < n → g_X6_doublesOf_L4 n a (s : Int) (m : Int) (k : Int) σ = some ((sumF (dbS b wy s) (sE b wy) c k m : Int), σ) := by
    intro c
    induction c with
    | zero =>
      intro n k m hk hm hn
      obtain ⟨n', rfl⟩ : ∃ n', n = n' + 1 := ⟨n - 1, by omega⟩
      rw [g_X6_doublesOf_L4, v.1, if_pos (by omega), sumF]
    | succ c ih =>
      intro n k m hk hm hn'
      obtain ⟨n', rfl⟩ : ∃ n', n = n' + 1 := ⟨n - 1, by omega⟩
      obtain ⟨k1, k2, k3, k4, k5, k6⟩ := v.2.2.2.2.2 k (by omega)
      have g6 := gG_lt ok wy k3
      have pl := pc_le (gG b wy (sE b wy k))
      rw [g_X6_doublesOf_L4, v.1, if_neg (by omega), sa_ld_of (by omega) (by omega), Option.bind_some, Int.toNat_natCast, k1, k2, Option.bind_some, k4.1, sumF]
      unfold g_X6_doublesOf_J40
      rw [w32s (by omega)]
      unfold dbS at ih ⊢
      by_cases e : (sE b wy k).1 = s
      · rw [if_pos (by omega), if_pos e, Option.bind_some, k2, Option.bind_some, k4.h8, jBitCount (by omega), Option.bind_some]
        dsimp only
        rw [show ab_w32 ((m : Int) + (pc (gG b wy (sE b wy k)) : Int)) = ((m + pc (gG b wy (sE b wy k)) : Nat) : Int) by rw [w32i (by omega) (by omega)]; omega]
        exact ih n' (k + 1) _ (by omega) (by omega) (by omega)
      · rw [if_neg (by omega), if_neg e, Nat.add_zero]
        exact ih n' (k + 1) m (by omega) (by omega) (by omega)
  have := key (nE b wy) ab_FU 0 0 (by omega) (by omega) (by show _ < 100000; omega)
  rw [sumF_SS] at this
  exact this
theorem p6_doublesOfAll {σ : st_S} {a : Nat} {b : BV} {wy : Nat → Int} {r : Nat → Nat} (ok : OkB b) (hn : nE b wy ≤ 72) (v : V8 σ a b wy r) : g_X6_doublesOfAll a σ = some ((SS (dbF b wy) (sE b wy) (nE b wy) : Int), σ) := by
  have key : ∀ (c n k m : Nat), k + c = nE b wy → m ≤ 12 * k → c < n → g_X6_doublesOfAll_L4 n a (m : Int) (k : Int) σ = some ((sumF (dbF b wy) (sE b wy) c k m : Int), σ) := by
    intro c
    induction c with
    | zero =>
      intro n k m hk hm hn
      obtain ⟨n', rfl⟩ : ∃ n', n = n' + 1 := ⟨n - 1, by omega⟩
      rw [g_X6_doublesOfAll_L4, v.1, if_pos (by omega), sumF]
    | succ c ih =>
      intro n k m hk hm hn'
      obtain ⟨n', rfl⟩ : ∃ n', n = n' + 1 := ⟨n - 1, by omega⟩
      obtain ⟨k1, k2, k3, k4, k5, k6⟩ := v.2.2.2.2.2 k (by omega)
      have g6 := gG_lt ok wy k3
      have pl := pc_le (gG b wy (sE b wy k))
      rw [g_X6_doublesOfAll_L4, v.1, if_neg (by omega), sa_ld_of (by omega) (by omega), Option.bind_some, Int.toNat_natCast, k1, k2, Option.bind_some, k4.h8, jBitCount (by omega), Option.bind_some, sumF]
      dsimp only
      rw [w32s (by omega), show ab_w32 ((m : Int) + (pc (gG b wy (sE b wy k)) : Int)) = ((m + pc (gG b wy (sE b wy k)) : Nat) : Int) by rw [w32i (by omega) (by omega)]; omega]
      exact ih n' (k + 1) _ (by omega) (by omega) (by omega)
  have := key (nE b wy) ab_FU 0 0 (by omega) (by omega) (by show _ < 100000; omega)
  rw [sumF_SS] at this
  exact this
theorem p9_doublesOf {σ : st_S} {b : BV} {wy : Nat → Int} (hn : nE b wy ≤ 72) (h : R9 σ b wy (el b)) (s : Nat) : g_X9_doublesOf (s : Int) σ = some ((SS (dbS b wy s) (sE b wy) (nE b wy) : Int), σ) := by
  have ne := nE_len b wy
  have key : ∀ (c n k m : Nat), k + c = nE b wy → m ≤ 12 * k → c < n → g_X9_doublesOf_L4 n (s : Int) (m : Int) (k : Int) σ = some ((sumF (dbS b wy s) (fun e => (el b).getD e (0, 0)) c k m : Int), σ) := by
    intro c
    induction c with
    | zero =>
      intro n k m hk hm hn
      obtain ⟨n', rfl⟩ : ∃ n', n = n' + 1 := ⟨n - 1, by omega⟩
      rw [g_X9_doublesOf_L4, h.1, if_pos (by omega), sumF]
    | succ c ih =>
      intro n k m hk hm hn'
      obtain ⟨n', rfl⟩ : ∃ n', n = n' + 1 := ⟨n - 1, by omega⟩
      obtain ⟨k3, k4⟩ := h.2 k (by omega)
      have pl := pc_le (gG b wy ((el b).getD k (0, 0)))
      rw [g_X9_doublesOf_L4, h.1, if_neg (by omega), sa_ld_of (by omega) (by omega), Option.bind_some, Int.toNat_natCast, k4.1, sumF]
      unfold g_X9_doublesOf_J33
      rw [w32s (by omega)]
      unfold dbS at ih ⊢
      by_cases e : ((el b).getD k (0, 0)).1 = s
      · rw [if_pos (by omega), if_pos e, sa_ld_of (by omega) (by omega), Option.bind_some, Int.toNat_natCast, k4.2.2.1, show ab_w32 ((m : Int) + (pc (gG b wy ((el b).getD k (0, 0))) : Int)) = ((m + pc (gG b wy ((el b).getD k (0, 0))) : Nat) : Int) by rw [w32i (by omega) (by omega)]; omega]
        exact ih n' (k + 1) _ (by omega) (by omega) (by omega)
      · rw [if_neg (by omega), if_neg e, Nat.add_zero, Int.add_zero, w32i (x := (m : Int)) (by omega) (by omega)]
        exact ih n' (k + 1) m (by omega) (by omega) (by omega)
  have := key (nE b wy) ab_FU 0 0 (by omega) (by omega) (by show _ < 100000; omega)
  rw [sumF_SS, ← SS_so] at this
  exact this
/-! words that stand twice -/
theorem cnt_mo (p : Nat → Bool) : ∀ (d i : Nat), cnt p i ≤ cnt p (i + d) := by
  intro d
  induction d with
  | zero => intro i; exact Nat.le_refl _
  | succ d ih => intro i; have := ih i; rw [← Nat.add_assoc, cnt_s]; omega
theorem cnt_m {p : Nat → Bool} {i j : Nat} (h : i ≤ j) : cnt p i ≤ cnt p j := by
  have := cnt_mo p (j - i) i; rwa [show i + (j - i) = j by omega] at this
def eqW (b : BV) (s w : Nat) : Nat → Bool := fun j => decide (tw b s j = w)
def rpP (b : BV) (s : Nat) : Nat → Bool := fun i => decide (cnt (eqW b s (tw b s i)) i = 1)
def twP (b : BV) (s : Nat) : Nat → Bool := fun w => decide (1 < cnt (eqW b s w) (bsz b s))
theorem rp_tw {b : BV} (ok : OkB b) {s : Nat} (hs : s < bn b) : cnt (rpP b s) (bsz b s) = cnt (twP b s) (wl b).1 := by
  refine Nat.le_antisymm ?_ ?_
  · refine cnt_inj _ _ _ (fun i => tw b s i) (fun i hi h => ?_) (fun i j hi hj h1 h2 e => ?_)
    · refine ⟨(tw_spec ok hs hi).2.1, decide_eq_true ?_⟩
      have h := of_decide_eq_true h
      have s1 := cnt_s (eqW b s (tw b s i)) i
      rw [if_pos (show eqW b s (tw b s i) i = true from decide_eq_true rfl)] at s1
      have := cnt_m (p := eqW b s (tw b s i)) (show i + 1 ≤ bsz b s by omega)
      omega
    · have h1 := of_decide_eq_true h1
      have h2 := of_decide_eq_true h2
      have e : tw b s i = tw b s j := e
      by_cases z : i = j
      · exact z
      · exfalso
        rcases Nat.lt_or_gt_of_ne z with z | z
        · have s1 := cnt_s (eqW b s (tw b s j)) i
          rw [if_pos (show eqW b s (tw b s j) i = true from decide_eq_true e), ← e] at s1
          have := cnt_m (p := eqW b s (tw b s i)) (show i + 1 ≤ j by omega)
          rw [← e] at h2
          omega
        · have s1 := cnt_s (eqW b s (tw b s i)) j
          rw [if_pos (show eqW b s (tw b s i) j = true from decide_eq_true e.symm), e] at s1
          have := cnt_m (p := eqW b s (tw b s j)) (show j + 1 ≤ i by omega)
          rw [e] at h1
          omega
  · have ex : ∀ w, twP b s w = true → ∃ i, i < bsz b s ∧ tw b s i = w ∧ cnt (eqW b s w) i = 1 := by
      intro w h
      have h := of_decide_eq_true h
      by_cases z : ∃ i, i < bsz b s ∧ tw b s i = w ∧ cnt (eqW b s w) i = 1
      · exact z
      · exfalso
        have : ∀ k, k ≤ bsz b s → cnt (eqW b s w) k ≤ 1 := by
          intro k
          induction k with
          | zero => intro _; exact Nat.zero_le _
          | succ k ih =>
            intro hk
            have i1 := ih (by omega)
            rw [cnt_s]
            by_cases e : eqW b s w k = true
            · rw [if_pos e]
              have : cnt (eqW b s w) k ≠ 1 := fun q => z ⟨k, by omega, of_decide_eq_true e, q⟩
              omega
            · rw [if_neg e]; omega
        have := this (bsz b s) (Nat.le_refl _)
        omega
    let f : Nat → Nat := fun w => (fnd (fun i => decide (tw b s i = w ∧ cnt (eqW b s w) i = 1)) (bsz b s) 0).toNat
    have pr : ∀ w, twP b s w = true → f w < bsz b s ∧ tw b s (f w) = w ∧ cnt (eqW b s w) (f w) = 1 := by
      intro w h
      obtain ⟨i, i1, i2, i3⟩ := ex w h
      have ne : fnd (fun i => decide (tw b s i = w ∧ cnt (eqW b s w) i = 1)) (bsz b s) 0 ≠ -1 := fun q => by
        have := fnd_no _ _ q i (by omega) (by omega)
        exact (of_decide_eq_false this) ⟨i2, i3⟩
      obtain ⟨j, e, _, j2, j3, _⟩ := fnd_yes _ _ ne
      have ef : f w = j := by show (fnd _ _ _).toNat = j; rw [e]; rfl
      rw [ef]
      exact ⟨by omega, of_decide_eq_true j3⟩
    refine cnt_inj _ _ _ f (fun w hw h => ?_) (fun w w' hw hw' h1 h2 e => ?_)
    · obtain ⟨p1, p2, p3⟩ := pr w h
      refine ⟨p1, decide_eq_true ?_⟩
      rw [p2]; exact p3
    · obtain ⟨_, p2, _⟩ := pr w h1
      obtain ⟨_, q2, _⟩ := pr w' h2
      rw [← p2, ← q2, e]
theorem p5_repeatedIn {σ : st_S} {b : BV} (ok : OkB b) (hT : T8 σ b) {s : Nat} (hs : s < bn b) : g_X5_repeatedIn (s : Int) σ = some ((cnt (rpP b s) (bsz b s) : Int), σ) := by
  have o1 := ok.1
  have o2 := ok.2.1 s hs
  have in1 : ∀ (K : Int → Int → Int → Int → st_S → Option (Int × st_S)) (v2 : Int) (i : Nat), i < bsz b s → ∀ (c n j a : Nat), j + c = i → a ≤ j → c < n → g_X5_repeatedIn_L20 K n (s : Int) v2 (i : Int) (a : Int) (j : Int) σ = K (s : Int) v2 (i : Int) (cN (eqW b s (tw b s i)) c j a : Int) σ := by
    intro K v2 i hi c
    have ti := ((hT.2 s hs).2 i hi).2.1
    induction c with
    | zero =>
      intro n j a hj ha hn
      obtain ⟨m, rfl⟩ : ∃ m, n = m + 1 := ⟨n - 1, by omega⟩
      rw [g_X5_repeatedIn_L20, if_pos (by omega), cN]
    | succ c ih =>
      intro n j a hj ha hn
      obtain ⟨m, rfl⟩ : ∃ m, n = m + 1 := ⟨n - 1, by omega⟩
      have tj := ((hT.2 s hs).2 j (by omega)).2.1
      rw [g_X5_repeatedIn_L20, if_neg (by omega), w6 (by omega) (by omega), w6 (by omega) (by omega), sa_ld_of (by omega) (by omega), Option.bind_some, sa_ld_of (by omega) (by omega), Option.bind_some, Int.toNat_natCast, Int.toNat_natCast, ti, tj, cN]
      unfold g_X5_repeatedIn_J55
      rw [w32s (by omega), w32s (by omega)]
      by_cases e : tw b s j = tw b s i
      · rw [if_pos (by omega), if_pos (show eqW b s (tw b s i) j = true from decide_eq_true e)]; exact ih m (j + 1) (a + 1) (by omega) (by omega) (by omega)
      · rw [if_neg (by omega), if_neg (show ¬ eqW b s (tw b s i) j = true from fun q => e (of_decide_eq_true q))]; exact ih m (j + 1) a (by omega) (by omega) (by omega)
  have key : ∀ (c n i a : Nat), i + c = bsz b s → a ≤ i → c < n → g_X5_repeatedIn_L4 n (s : Int) (a : Int) (i : Int) σ = some ((cN (rpP b s) c i a : Int), σ) := by
    intro c
    induction c with
    | zero =>
      intro n i a hi ha hn
      obtain ⟨m, rfl⟩ : ∃ m, n = m + 1 := ⟨n - 1, by omega⟩
      rw [g_X5_repeatedIn_L4, sa_ld_of (by omega) (by omega), Option.bind_some, Int.toNat_natCast, (hT.2 s hs).1, if_pos (by omega), cN]
    | succ c ih =>
      intro n i a hi ha hn
      obtain ⟨m, rfl⟩ : ∃ m, n = m + 1 := ⟨n - 1, by omega⟩
      rw [g_X5_repeatedIn_L4, sa_ld_of (by omega) (by omega), Option.bind_some, Int.toNat_natCast, (hT.2 s hs).1, if_neg (by omega)]
      refine (in1 _ (a : Int) i (by omega) i ab_FU 0 0 (by omega) (by omega) (by show _ < 100000; omega)).trans ?_
      rw [cN]
      unfold g_X5_repeatedIn_J70
      rw [w32s (by omega), w32s (by omega)]
      by_cases e : cnt (eqW b s (tw b s i)) i = 1
      · rw [if_pos (show (cN (eqW b s (tw b s i)) i 0 0 : Int) = 1 by unfold cnt at e; omega), if_pos (show rpP b s i = true from decide_eq_true e)]; exact ih m (i + 1) (a + 1) (by omega) (by omega) (by omega)
      · rw [if_neg (show ¬ (cN (eqW b s (tw b s i)) i 0 0 : Int) = 1 by unfold cnt at e; omega), if_neg (show ¬ rpP b s i = true from fun q => e (of_decide_eq_true q))]; exact ih m (i + 1) a (by omega) (by omega) (by omega)
  have k := key (bsz b s - 1) ab_FU 1 0 (by omega) (by omega) (by show _ < 100000; omega)
  unfold g_X5_repeatedIn
  refine k.trans ?_
  have e1 : cnt (rpP b s) (bsz b s) = cN (rpP b s) (bsz b s - 1) 1 0 := by
    unfold cnt
    obtain ⟨z, ez⟩ : ∃ z, bsz b s = z + 1 := ⟨bsz b s - 1, by omega⟩
    rw [ez, cN, if_neg (show ¬ rpP b s 0 = true from fun q => by have z : (0 : Nat) = 1 := of_decide_eq_true q; omega), Nat.add_sub_cancel]
  rw [e1]
theorem p9_twiceIn {σ : st_S} {b : BV} (ok : OkB b) (hB : RB9 σ 597 0 b) (hW : Wd9 σ b) {s : Nat} (hs : s < bn b) : g_X9_twiceIn (s : Int) σ = some ((cnt (rpP b s) (bsz b s) : Int), σ) := by
  have o1 := ok.1
  have o2 := ok.2.1 s hs
  have wle := wl_le ok
  have in1 : ∀ (K : Int → Int → Int → Int → st_S → Option (Int × st_S)) (v2 : Int) (w : Nat) (c n j a : Nat), j + c = bsz b s → a ≤ j → c < n → g_X9_twiceIn_L18 K n (s : Int) v2 (w : Int) (a : Int) (j : Int) σ = K (s : Int) v2 (w : Int) (cN (eqW b s w) c j a : Int) σ := by
    intro K v2 w c
    induction c with
    | zero =>
      intro n j a hj ha hn
      obtain ⟨m, rfl⟩ : ∃ m, n = m + 1 := ⟨n - 1, by omega⟩
      rw [g_X9_twiceIn_L18, p9_terms hB ok hs, Option.bind_some]
      dsimp only
      rw [if_pos (by omega), cN]
    | succ c ih =>
      intro n j a hj ha hn
      obtain ⟨m, rfl⟩ : ∃ m, n = m + 1 := ⟨n - 1, by omega⟩
      rw [g_X9_twiceIn_L18, p9_terms hB ok hs, Option.bind_some]
      dsimp only
      rw [if_neg (by omega), p9_place (by omega) (by omega), Option.bind_some]
      dsimp only
      rw [sa_ld_of (by omega) (by omega), Option.bind_some, Int.toNat_natCast, hW.2 s hs j (by omega), cN]
      unfold g_X9_twiceIn_J50
      rw [w32s (by omega), w32s (by omega), Int.add_zero, w32i (x := (a : Int)) (by omega) (by omega)]
      by_cases e : tw b s j = w
      · rw [if_pos (by omega), if_pos (show eqW b s w j = true from decide_eq_true e)]; exact ih m (j + 1) (a + 1) (by omega) (by omega) (by omega)
      · rw [if_neg (by omega), if_neg (show ¬ eqW b s w j = true from fun q => e (of_decide_eq_true q))]; exact ih m (j + 1) a (by omega) (by omega) (by omega)
  have key : ∀ (c n w a : Nat), w + c = (wl b).1 → a ≤ w → c < n → g_X9_twiceIn_L4 n (s : Int) (a : Int) (w : Int) σ = some ((cN (twP b s) c w a : Int), σ) := by
    intro c
    induction c with
    | zero =>
      intro n w a hw ha hn
      obtain ⟨m, rfl⟩ : ∃ m, n = m + 1 := ⟨n - 1, by omega⟩
      rw [g_X9_twiceIn_L4, hW.1.1, if_pos (by omega), cN]
    | succ c ih =>
      intro n w a hw ha hn
      obtain ⟨m, rfl⟩ : ∃ m, n = m + 1 := ⟨n - 1, by omega⟩
      rw [g_X9_twiceIn_L4, hW.1.1, if_neg (by omega)]
      refine (in1 _ (a : Int) w (bsz b s) ab_FU 0 0 (by omega) (by omega) (by show _ < 100000; omega)).trans ?_
      rw [cN]
      unfold g_X9_twiceIn_J71
      rw [w32s (by omega), w32s (by omega), Int.add_zero, w32i (x := (a : Int)) (by omega) (by omega)]
      by_cases e : 1 < cnt (eqW b s w) (bsz b s)
      · rw [if_neg (show ¬ (cN (eqW b s w) (bsz b s) 0 0 : Int) ≤ 1 by unfold cnt at e; omega), if_pos (show twP b s w = true from decide_eq_true e)]; exact ih m (w + 1) (a + 1) (by omega) (by omega) (by omega)
      · rw [if_pos (show (cN (eqW b s w) (bsz b s) 0 0 : Int) ≤ 1 by unfold cnt at e; omega), if_neg (show ¬ twP b s w = true from fun q => e (of_decide_eq_true q))]; exact ih m (w + 1) a (by omega) (by omega) (by omega)
  rw [rp_tw ok hs]
  exact key (wl b).1 ab_FU 0 0 (by omega) (by omega) (by show _ < 100000; omega)
theorem S_string : Stp2 (InvD DR) g_X8_string g_X9_string := by
  intro x y σ _ _ ⟨S, r8, r9, ok⟩
  have okB := ok.2.2.2.2.1
  have o1 := okB.1
  by_cases hx : 0 ≤ x ∧ x < (bn (sB S) : Int)
  · obtain ⟨s, rfl⟩ := Int.eq_ofNat_of_zero_le hx.1
    have hs : s < bn (sB S) := by omega
    have o2 := okB.2.1 s hs
    by_cases hy : 0 ≤ y ∧ y ≤ 4
    · refine qry (r := if y = 0 then badr (sB S) s else if y = 1 then (bsz (sB S) s : Int) else if y = 2 then (cN (fun i => decide (btm (sB S) 1 s i = 1)) (bsz (sB S) s) 0 0 : Int) else if y = 3 then (SS (dbS (sB S) (bwy (sB S)) s) (sE (sB S) (bwy (sB S))) (nE (sB S) (bwy (sB S))) : Int) else (cnt (rpP (sB S) s) (bsz (sB S) s) : Int)) ok (fun τ h8 => ?_) (fun τ h9 => ?_) r8 r9
      · obtain ⟨hn, r, v⟩ := v8of h8
        have hB := h8.2.2.2.1
        have a1 : τ 14 s = badr (sB S) s := (hB.2.1 s hs).1
        have a2 : τ 15 s = (bsz (sB S) s : Int) := (hB.2.1 s hs).2
        have key : ∀ (c n i a : Nat), i + c = bsz (sB S) s → a ≤ i → c < n → g_X0_leadingOf_L4 n 13 (s : Int) (a : Int) (i : Int) τ = some ((cN (fun i => decide (btm (sB S) 1 s i = 1)) c i a : Int), τ) := by
          intro c
          induction c with
          | zero =>
            intro n i a hi ha hn
            obtain ⟨m, rfl⟩ : ∃ m, n = m + 1 := ⟨n - 1, by omega⟩
            rw [g_X0_leadingOf_L4]
            simp only [Nat.reduceAdd]
            rw [sa_ld_of (by omega) (by omega), Option.bind_some, Int.toNat_natCast, a2, if_pos (by omega), cN]
          | succ c ih =>
            intro n i a hi ha hn'
            obtain ⟨m, rfl⟩ : ∃ m, n = m + 1 := ⟨n - 1, by omega⟩
            have a4 : τ 17 (6 * s + i) = btm (sB S) 1 s i := hB.2.2.1 s hs i (by omega) 1 (by decide)
            have o4 := (okB.2.2.2.1 s hs i (by omega)).2.1
            rw [g_X0_leadingOf_L4]
            simp only [Nat.reduceAdd]
            rw [sa_ld_of (by omega) (by omega), Option.bind_some, Int.toNat_natCast, a2, if_neg (by omega), w6 (by omega) (by omega), sa_ld_of (by omega) (by omega), Option.bind_some, Int.toNat_natCast, a4, w32s (by omega), cN]
            rcases o4 with q | q
            · rw [if_neg (show ¬ decide (btm (sB S) 1 s i = 1) = true from fun z => by have := of_decide_eq_true z; omega), q, Int.add_zero, w32i (x := (a : Int)) (by omega) (by omega)]; exact ih m (i + 1) a (by omega) (by omega) (by omega)
            · rw [if_pos (decide_eq_true q), q, w32s (by omega)]; exact ih m (i + 1) (a + 1) (by omega) (by omega) (by omega)
        have t2 : g_X0_leadingOf 13 (s : Int) τ = some ((cN (fun i => decide (btm (sB S) 1 s i = 1)) (bsz (sB S) s) 0 0 : Int), τ) := key (bsz (sB S) s) ab_FU 0 0 (by omega) (by omega) (by show _ < 100000; omega)
        unfold g_X8_string
        rw [p8_isString hB, if_pos hx, Option.bind_some]
        dsimp only
        rw [if_neg one0, t2, p6_doublesOf okB hn v, p5_repeatedIn okB h8.2.2.2.2.2.2.2.1 hs]
        split
        · rw [sa_ld_of (by omega) (by omega), Option.bind_some, Int.toNat_natCast, a1]
        · split
          · rw [sa_ld_of (by omega) (by omega), Option.bind_some, Int.toNat_natCast, a2]
          · split
            · rfl
            · split
              · rfl
              · rw [if_pos (by omega)]; rfl
      · obtain ⟨τ1, e1, ⟨hn, o, v⟩, er, e3, e4⟩ := v9of ok h9
        refine ⟨τ1, ?_, e4⟩
        have key : ∀ (K : Int → Int → Int → st_S → Option (Int × st_S)) (c n i a : Nat), i + c = bsz (sB S) s → a ≤ i → c < n → g_X9_string_L32 K n (s : Int) y (a : Int) (i : Int) τ1 = K (s : Int) y (cN (fun i => decide (btm (sB S) 1 s i = 1)) c i a : Int) τ1 := by
          intro K c
          induction c with
          | zero =>
            intro n i a hi ha hn
            obtain ⟨m, rfl⟩ : ∃ m, n = m + 1 := ⟨n - 1, by omega⟩
            rw [g_X9_string_L32, p9_terms e3 okB hs, Option.bind_some]
            dsimp only
            rw [if_pos (by omega), cN]
          | succ c ih =>
            intro n i a hi ha hn'
            obtain ⟨m, rfl⟩ : ∃ m, n = m + 1 := ⟨n - 1, by omega⟩
            have o4 := (okB.2.2.2.1 s hs i (by omega)).2.1
            rw [g_X9_string_L32, p9_terms e3 okB hs, Option.bind_some]
            dsimp only
            rw [if_neg (by omega), p9_doesLead e3 okB hs (by omega), Option.bind_some, cN]
            unfold g_X9_string_J58
            dsimp only
            rw [w32s (by omega), w32s (by omega), Int.add_zero, w32i (x := (a : Int)) (by omega) (by omega)]
            rcases o4 with q | q
            · rw [if_neg (show ¬ decide (btm (sB S) 1 s i = 1) = true from fun z => by have := of_decide_eq_true z; omega), q, if_pos rfl]; exact ih m (i + 1) a (by omega) (by omega) (by omega)
            · rw [if_pos (decide_eq_true q), q, if_neg one0]; exact ih m (i + 1) (a + 1) (by omega) (by omega) (by omega)
        unfold g_X9_string
        rw [p9_isString h9.2.2.2.1 okB, if_pos hx, Option.bind_some]
        dsimp only
        rw [if_neg one0, p9_in1 hy.1 hy.2, Option.bind_some]
        dsimp only
        rw [if_neg one0, e1, Option.bind_some]
        refine (key _ (bsz (sB S) s) ab_FU 0 0 (by omega) (by omega) (by show _ < 100000; omega)).trans ?_
        rw [p9_addressOf e3 okB hs, p9_terms e3 okB hs, p9_doublesOf hn er, p9_twiceIn okB e3 v.2.2.2.1 hs]
        split
        · rfl
        · split
          · rfl
          · split
            · rfl
            · split <;> rfl
    · refine qry (r := -2) ok (fun τ h8 => ?_) (fun τ h9 => ⟨τ, ?_, L9.rfl'⟩) r8 r9
      · unfold g_X8_string
        rw [p8_isString h8.2.2.2.1, if_pos hx, Option.bind_some]
        dsimp only
        rw [if_neg one0, if_neg (by omega), if_neg (by omega), if_neg (by omega), if_neg (by omega), if_neg (by omega)]
      · unfold g_X9_string
        rw [p9_isString h9.2.2.2.1 okB, if_pos hx, Option.bind_some]
        dsimp only
        rw [if_neg one0, p9_in0 hy]; rfl
  · refine qry (r := -2) ok (fun τ h8 => ?_) (fun τ h9 => ⟨τ, ?_, L9.rfl'⟩) r8 r9
    · unfold g_X8_string
      rw [p8_isString h8.2.2.2.1, if_neg hx]; rfl
    · unfold g_X9_string
      rw [p9_isString h9.2.2.2.1 okB, if_neg hx]; rfl
/-! would -/
theorem S_would : Stp3 (InvD DR) g_X8_would g_X9_would := by
  intro x y z σ _ _ _ ⟨S, r8, r9, ok⟩
  have okB := ok.2.2.2.2.1
  have o1 := okB.1
  by_cases hx : 0 ≤ x ∧ x ≤ 5
  · by_cases hy : 0 ≤ y ∧ y ≤ 2
    · by_cases hz : 0 ≤ z ∧ z ≤ 2
      · refine stp_of dr_in (S' := S) (r := if z = 0 then (nE (sB S) (wyU (sB S) x y) : Int) else if z = 1 then (nL (sB S) (wyU (sB S) x y) : Int) else (SS (dbF (sB S) (wyU (sB S) x y)) (sE (sB S) (wyU (sB S) x y)) (nE (sB S) (wyU (sB S) x y)) : Int)) ?_ ?_ ok r8 r9
        · intro τ h8
          obtain ⟨h1, h2, h3, h4, ⟨h5, h6, h7⟩, h8', ⟨d1, d2, d3, ⟨r0, d4⟩, d5⟩⟩ := h8
          obtain ⟨τ1, c1, c2, c3⟩ := p0_copyFrom (a0 := 24) (a1 := 13) (by omega) okB h4
          have f2 : ∀ a, a ≠ 32 → up2 τ1 32 x.toNat y a = τ1 a := fun a ha => up2_o _ _ ha
          have bk : BK (up2 τ1 32 x.toNat y) 24 (sB S) (wyU (sB S) x y) := by
            have b0 := c2.bk
            refine ⟨by rw [f2 _ (by decide)]; exact b0.1, fun s hs => by rw [f2 _ (by decide), f2 _ (by decide), f2 _ (by decide), f2 _ (by decide)]; exact b0.2.1 s hs, fun r hr => ?_⟩
            show up2 τ1 32 x.toNat y 32 r = if (r : Int) = x then y else bwy (sB S) r
            by_cases e : (r : Int) = x
            · have : r = x.toNat := by omega
              rw [if_pos e, this, up2_at]
            · rw [if_neg e, up2_ne _ _ (by omega)]; exact b0.2.2 r hr
          have t2 : T8 (up2 τ1 32 x.toNat y) (sB S) := d2.fr (fun a p q => by rw [f2 a (by omega), c3 a (by omega)])
          have s2 : SL (up2 τ1 32 x.toNat y) 376 r0 := d4.fr (by rw [f2 _ (by decide), c3 _ (by decide)])
          obtain ⟨τ3, k1, k2, k3, k4⟩ := p6_turnAll (a := 376) (a1 := 24) (by decide) (by decide) okB s2 bk t2
          obtain ⟨r, v⟩ : ∃ r, V8 τ3 376 (sB S) (wyU (sB S) x y) r := k2.v (by decide) k3
          have fr : ∀ a, (a < 24 ∨ 34 < a) → (a < 376 ∨ 595 < a) → τ3 a = τ a := fun a p q => by rw [k4 a (by omega), f2 a (by omega), c3 a (by omega)]
          refine ⟨τ3, ?_, ⟨by rw [fr 2 (by decide) (by decide), fr 3 (by decide) (by decide)]; exact h1, by rw [fr 4 (by decide) (by decide), fr 5 (by decide) (by decide)]; exact h2, by rw [fr 8 (by decide) (by decide)]; exact h3, h4.fr (fun k hk => fr _ (by omega) (by omega)), ⟨by rw [fr 35 (by decide) (by decide)]; exact h5, by rw [fr 35 (by decide) (by decide)]; exact h6, fun j hj => ?_⟩, by rw [fr 9 (by decide) (by decide)]; exact h8', ⟨d1.fr (fun a p q => fr a (by omega) (by omega)), d2.fr (fun a p q => fr a (by omega) (by omega)), d3.fr d5 (fun c p q => fr c (by omega) (by omega)), k2.sl, d5⟩⟩, fun a ha => fr a (by omega) (by omega)⟩
          · unfold g_X8_would
            rw [p8_isRole, if_pos hx, Option.bind_some]
            dsimp only
            rw [if_neg one0, p8_isWay, if_pos hy, Option.bind_some]
            dsimp only
            rw [if_neg one0, if_neg (by omega), if_pos hz.2, c1, Option.bind_some, sa_st_of (by omega) (by omega), Option.bind_some, k1, Option.bind_some, v.1, v.2.1, p6_doublesOfAll okB k3 v]
            split
            · rfl
            · split <;> rfl
          · rw [fr 35 (by decide) (by decide)]
            have hm := Nat.mod_lt ((τ 35 1).toNat + j) (show 0 < 10 by decide)
            exact (h7 j hj).fr (fun k hk => fr _ (by omega) (by omega))
        · intro τ h9
          obtain ⟨τ1, a1, a2, a3⟩ := p9_laysBy (role := x) (way := y) okB h9.2.2.2.1
          have hn := a2.2.2.2.2.2.2
          have er := a2.2.1
          have ne := nE_len (sB S) (wyU (sB S) x y)
          refine ⟨τ1, ?_, h9.g9 a3, fun a ha => a3.1 a (by omega)⟩
          have key : ∀ (K : Int → Int → st_S → Option (Int × st_S)) (c n k m : Nat), k + c = nE (sB S) (wyU (sB S) x y) → m ≤ 12 * k → c < n → g_X9_would_L51 K n z (m : Int) (k : Int) τ1 = K z (sumF (dbF (sB S) (wyU (sB S) x y)) (fun e => (el (sB S)).getD e (0, 0)) c k m : Int) τ1 := by
            intro K c
            induction c with
            | zero =>
              intro n k m hk hm hn
              obtain ⟨n', rfl⟩ : ∃ n', n = n' + 1 := ⟨n - 1, by omega⟩
              rw [g_X9_would_L51, er.1, if_pos (by omega), sumF]
            | succ c ih =>
              intro n k m hk hm hn'
              obtain ⟨n', rfl⟩ : ∃ n', n = n' + 1 := ⟨n - 1, by omega⟩
              obtain ⟨k3, k4⟩ := er.2 k (by omega)
              have pl := pc_le (gG (sB S) (wyU (sB S) x y) ((el (sB S)).getD k (0, 0)))
              rw [g_X9_would_L51, er.1, if_neg (by omega), sa_ld_of (by omega) (by omega), Option.bind_some, Int.toNat_natCast, k4.2.2.1, w32s (by omega), show ab_w32 ((m : Int) + (pc (gG (sB S) (wyU (sB S) x y) ((el (sB S)).getD k (0, 0))) : Int)) = ((m + pc (gG (sB S) (wyU (sB S) x y) ((el (sB S)).getD k (0, 0))) : Nat) : Int) by rw [w32i (by omega) (by omega)]; omega, sumF]
              exact ih n' (k + 1) _ (by omega) (by omega) (by omega)
          unfold g_X9_would
          rw [p9_in1 hx.1 hx.2, Option.bind_some]
          dsimp only
          rw [if_neg one0, p9_in1 hy.1 hy.2, Option.bind_some]
          dsimp only
          rw [if_neg one0, p9_in1 hz.1 hz.2, Option.bind_some]
          dsimp only
          rw [if_neg one0, a1, Option.bind_some]
          refine (key _ (nE (sB S) (wyU (sB S) x y)) ab_FU 0 0 (by omega) (by omega) (by show _ < 100000; omega)).trans ?_
          rw [sumF_SS, ← SS_so, er.1, ← ne, a2.2.2.2.1]
          split
          · rfl
          · split <;> rfl
      · refine qry (r := -2) ok (fun τ h8 => ?_) (fun τ h9 => ⟨τ, ?_, L9.rfl'⟩) r8 r9
        · unfold g_X8_would
          rw [p8_isRole, if_pos hx, Option.bind_some]
          dsimp only
          rw [if_neg one0, p8_isWay, if_pos hy, Option.bind_some]
          dsimp only
          rw [if_neg one0]
          by_cases h0 : z < 0
          · rw [if_pos h0]
          · rw [if_neg h0, if_neg (by omega)]
        · unfold g_X9_would
          rw [p9_in1 hx.1 hx.2, Option.bind_some]
          dsimp only
          rw [if_neg one0, p9_in1 hy.1 hy.2, Option.bind_some]
          dsimp only
          rw [if_neg one0, p9_in0 hz]; rfl
    · refine qry (r := -2) ok (fun τ h8 => ?_) (fun τ h9 => ⟨τ, ?_, L9.rfl'⟩) r8 r9
      · unfold g_X8_would
        rw [p8_isRole, if_pos hx, Option.bind_some]
        dsimp only
        rw [if_neg one0, p8_isWay, if_neg hy]; rfl
      · unfold g_X9_would
        rw [p9_in1 hx.1 hx.2, Option.bind_some]
        dsimp only
        rw [if_neg one0, p9_in0 hy]; rfl
  · refine qry (r := -2) ok (fun τ h8 => ?_) (fun τ h9 => ⟨τ, ?_, L9.rfl'⟩) r8 r9
    · unfold g_X8_would
      rw [p8_isRole, if_neg hx]; rfl
    · unfold g_X9_would
      rw [p9_in0 hx]; rfl
