/-! alike, common, nearest, senses -/
theorem cN_congr {p q : Nat → Bool} : ∀ (c i a : Nat), (∀ j, i ≤ j → j < i + c → p j = q j) → cN p c i a = cN q c i a := by
  intro c
  induction c with
  | zero => intro i a _; rfl
  | succ c ih =>
    intro i a h
    rw [cN, cN, h i (by omega) (by omega)]
    exact ih (i + 1) _ (fun j h1 h2 => h j (by omega) (by omega))
theorem cN_acc (p : Nat → Bool) : ∀ (c i a : Nat), cN p c i a = a + cN p c i 0 := by
  intro c
  induction c with
  | zero => intro i a; rfl
  | succ c ih =>
    intro i a
    rw [cN, cN, ih (i + 1) (if p i = true then a + 1 else a), ih (i + 1) (if p i = true then 0 + 1 else 0)]
    split <;> omega
theorem cN_snoc (p : Nat → Bool) : ∀ (c i a : Nat), cN p (c + 1) i a = cN p c i a + (if p (i + c) = true then 1 else 0) := by
  intro c
  induction c with
  | zero =>
    intro i a
    show (if p i = true then a + 1 else a) = a + (if p i = true then 1 else 0)
    split <;> rfl
  | succ c ih =>
    intro i a
    rw [cN, ih (i + 1)]
    conv => rhs; rw [cN]
    rw [show i + 1 + c = i + (c + 1) by omega]
/-- how many below n -/
def cnt (p : Nat → Bool) (n : Nat) : Nat := cN p n 0 0
theorem cnt_s (p : Nat → Bool) (n : Nat) : cnt p (n + 1) = cnt p n + (if p n = true then 1 else 0) := by
  unfold cnt; rw [cN_snoc, Nat.zero_add]
theorem cnt_rm {q : Nat → Bool} {k : Nat} : ∀ (m : Nat), k < m → q k = true → cnt (fun j => q j && !(decide (j = k))) m + 1 = cnt q m := by
  have lo : ∀ m, m ≤ k → cnt (fun j => q j && !(decide (j = k))) m = cnt q m := by
    intro m hm
    exact cN_congr m 0 0 (fun j _ hj => by
      have : decide (j = k) = false := decide_eq_false (by omega)
      simp only [this, Bool.not_false, Bool.and_true])
  intro m
  induction m with
  | zero => intro h; omega
  | succ m ih =>
    intro hk hq
    rw [cnt_s, cnt_s]
    by_cases e : m = k
    · subst e
      rw [lo m (Nat.le_refl _), if_pos hq]
      have : (q m && !(decide (m = m))) = false := by simp
      rw [this]; simp
    · have := ih (by omega) hq
      have d : decide (m = k) = false := decide_eq_false e
      simp only [d, Bool.not_false, Bool.and_true]
      omega
theorem cnt_inj {p : Nat → Bool} : ∀ (n : Nat) (q : Nat → Bool) (m : Nat) (f : Nat → Nat), (∀ i, i < n → p i = true → f i < m ∧ q (f i) = true) → (∀ i j, i < n → j < n → p i = true → p j = true → f i = f j → i = j) → cnt p n ≤ cnt q m := by
  intro n
  induction n with
  | zero => intro q m f _ _; exact Nat.zero_le _
  | succ n ih =>
    intro q m f h1 h2
    rw [cnt_s]
    by_cases e : p n = true
    · rw [if_pos e]
      obtain ⟨k1, k2⟩ := h1 n (by omega) e
      have r := cnt_rm m k1 k2
      have := ih (fun j => q j && !(decide (j = f n))) m f (fun i hi hp => by
        obtain ⟨a, b⟩ := h1 i (by omega) hp
        refine ⟨a, ?_⟩
        have : decide (f i = f n) = false := decide_eq_false (fun z => by have := h2 i n (by omega) (by omega) hp e z; omega)
        simp only [b, this, Bool.not_false, Bool.and_true]) (fun i j hi hj => h2 i j (by omega) (by omega))
      omega
    · rw [if_neg e]
      exact ih q m f (fun i hi => h1 i (by omega)) (fun i j hi hj => h2 i j (by omega) (by omega))
/-- term i of s is the first of its role and word; its role and word are in t -/
def cmP (b : BV) (s t : Nat) : Nat → Bool := fun i => decide (hw b s (tw b s i : Int) (btm b 0 s i) i = 0 ∧ hw b t (tw b s i : Int) (btm b 0 s i) (bsz b t) ≠ 0)
def cm (b : BV) (s t : Nat) : Nat := cnt (cmP b s t) (bsz b s)
def zz (b : BV) (s : Nat) : Nat := cnt (fun i => decide (hw b s (tw b s i : Int) (btm b 0 s i) i = 0)) (bsz b s)
theorem cm_le (b : BV) (s t : Nat) : cm b s t ≤ bsz b s := by have := cN_le (cmP b s t) (bsz b s) 0 0; unfold cm cnt; omega
theorem zz_cm (b : BV) (s : Nat) : zz b s = cm b s s := by
  refine cN_congr _ _ _ (fun i _ hi => ?_)
  have : hw b s (tw b s i : Int) (btm b 0 s i) (bsz b s) ≠ 0 := hw_1.mpr ⟨i, by omega, rfl, Or.inr rfl⟩
  by_cases e : hw b s (tw b s i : Int) (btm b 0 s i) i = 0
  · rw [decide_eq_true e]; exact (decide_eq_true ⟨e, this⟩).symm
  · rw [decide_eq_false e]; exact (decide_eq_false (fun q => e q.1)).symm
theorem cm_half {b : BV} (ok : OkB b) {s t : Nat} (hs : s < bn b) (ht : t < bn b) : cm b s t ≤ cm b t s := by
  have ro : ∀ {s i : Nat}, s < bn b → i < bsz b s → btm b 0 s i ≠ -1 := fun hs hi => by have := (ok.2.2.2.1 _ hs _ hi).1; omega
  let f : Nat → Nat := fun i => (fnd (hwP b t (tw b s i : Int) (btm b 0 s i)) (bsz b t) 0).toNat
  have prop : ∀ i, i < bsz b s → cmP b s t i = true → f i < bsz b t ∧ tw b t (f i) = tw b s i ∧ btm b 0 t (f i) = btm b 0 s i ∧ ∀ l, l < f i → ¬ (tw b t l = tw b s i ∧ btm b 0 t l = btm b 0 s i) := by
    intro i hi h
    have h := of_decide_eq_true h
    have h2 : fnd (hwP b t (tw b s i : Int) (btm b 0 s i)) (bsz b t) 0 ≠ -1 := fun q => h.2 (by unfold hw; rw [if_pos q])
    obtain ⟨j, e, _, j2, j3, j4⟩ := fnd_yes _ _ h2
    have ef : f i = j := by show (fnd _ _ _).toNat = j; rw [e]; rfl
    rw [ef]
    have j3 := of_decide_eq_true j3
    refine ⟨by omega, by omega, j3.2.resolve_left (ro hs hi), fun l hl z => ?_⟩
    have := of_decide_eq_false (j4 l (by omega) hl)
    exact this ⟨by omega, Or.inr z.2⟩
  refine cnt_inj (bsz b s) (cmP b t s) (bsz b t) f (fun i hi h => ?_) (fun i j hi hj h1 h2 e => ?_)
  · obtain ⟨a1, a2, a3, a4⟩ := prop i hi h
    refine ⟨a1, decide_eq_true ⟨?_, hw_1.mpr ⟨i, hi, by omega, Or.inr a3.symm⟩⟩⟩
    by_cases z : hw b t (tw b t (f i) : Int) (btm b 0 t (f i)) (f i) = 0
    · exact z
    · obtain ⟨l, l1, l2, l3⟩ := hw_1.mp z
      exact absurd ⟨by omega, by rw [← a3]; exact l3.resolve_left (ro ht a1)⟩ (a4 l l1)
  · obtain ⟨a1, a2, a3, _⟩ := prop i hi h1
    obtain ⟨b1, b2, b3, _⟩ := prop j hj h2
    rw [e] at a2 a3
    have w : tw b s i = tw b s j := by omega
    have r : btm b 0 s i = btm b 0 s j := by rw [← a3, ← b3]
    have f1 := (of_decide_eq_true h1).1
    have f2 := (of_decide_eq_true h2).1
    by_cases z : i = j
    · exact z
    · rcases Nat.lt_or_gt_of_ne z with z | z
      · exact absurd f2 (hw_1.mpr ⟨i, z, by omega, Or.inr r⟩)
      · exact absurd f1 (hw_1.mpr ⟨j, z, by omega, Or.inr r.symm⟩)
theorem cm_sym {b : BV} (ok : OkB b) {s t : Nat} (hs : s < bn b) (ht : t < bn b) : cm b s t = cm b t s := Nat.le_antisymm (cm_half ok hs ht) (cm_half ok ht hs)
section SE
variable {σ : st_S} {b : BV}
theorem p5_isAgain (ok : OkB b) (hT : T8 σ b) {s i : Nat} (hs : s < bn b) (hi : i < bsz b s) : g_X5_isAgain (s : Int) (i : Int) σ = some (hw b s (tw b s i : Int) (btm b 0 s i) i, σ) := by
  have o1 := ok.1
  have o2 := ok.2.1 s hs
  have o4 := (ok.2.2.2.1 s hs i hi).1
  have t8 := (hT.2 s hs).2 i hi
  unfold g_X5_isAgain
  rw [w6 (by omega) (by omega), sa_ld_of (by omega) (by omega), Option.bind_some, sa_ld_of (by omega) (by omega), Option.bind_some, Int.toNat_natCast, t8.1, t8.2.1, p5_hasTwo ok hT hs (by omega) (by omega), Option.bind_some]
  dsimp only
  have z := hw_01 b s (tw b s i : Int) (btm b 0 s i) i
  unfold ab_if
  rw [if_pos (decide_eq_true z)]
theorem p5_senseSize (ok : OkB b) (hT : T8 σ b) {s : Nat} (hs : s < bn b) : g_X5_senseSize (s : Int) σ = some ((zz b s : Int), σ) := by
  have o1 := ok.1
  have o2 := ok.2.1 s hs
  have key : ∀ (c n i a : Nat), i + c = bsz b s → a ≤ i → c < n → g_X5_senseSize_L4 n (s : Int) (a : Int) (i : Int) σ = some ((cN (fun i => decide (hw b s (tw b s i : Int) (btm b 0 s i) i = 0)) c i a : Int), σ) := by
    intro c
    induction c with
    | zero =>
      intro n i a hi ha hn
      obtain ⟨m, rfl⟩ : ∃ m, n = m + 1 := ⟨n - 1, by omega⟩
      rw [g_X5_senseSize_L4, sa_ld_of (by omega) (by omega), Option.bind_some, Int.toNat_natCast, (hT.2 s hs).1, if_pos (by omega), cN]
    | succ c ih =>
      intro n i a hi ha hn
      obtain ⟨m, rfl⟩ : ∃ m, n = m + 1 := ⟨n - 1, by omega⟩
      rw [g_X5_senseSize_L4, sa_ld_of (by omega) (by omega), Option.bind_some, Int.toNat_natCast, (hT.2 s hs).1, if_neg (by omega), p5_isAgain ok hT hs (by omega), Option.bind_some, cN]
      unfold g_X5_senseSize_J26
      dsimp only
      by_cases e : hw b s (tw b s i : Int) (btm b 0 s i) i = 0
      · rw [if_pos e, if_pos (decide_eq_true e), w32s (by omega), w32s (by omega)]; exact ih m (i + 1) (a + 1) (by omega) (by omega) (by omega)
      · rw [if_neg e, if_neg (show ¬ decide (hw b s (tw b s i : Int) (btm b 0 s i) i = 0) = true from fun q => e (of_decide_eq_true q)), w32s (by omega)]; exact ih m (i + 1) a (by omega) (by omega) (by omega)
  exact key (bsz b s) ab_FU 0 0 (by omega) (by omega) (by show _ < 100000; omega)
theorem p5_inBoth (ok : OkB b) (hT : T8 σ b) {s t : Nat} (hs : s < bn b) (ht : t < bn b) : g_X5_inBoth (s : Int) (t : Int) σ = some ((cm b s t : Int), σ) := by
  have o1 := ok.1
  have o2 := ok.2.1 s hs
  have o3 := ok.2.1 t ht
  have key : ∀ (c n i a : Nat), i + c = bsz b s → a ≤ i → c < n → g_X5_inBoth_L5 n (s : Int) (t : Int) (a : Int) (i : Int) σ = some ((cN (cmP b s t) c i a : Int), σ) := by
    intro c
    induction c with
    | zero =>
      intro n i a hi ha hn
      obtain ⟨m, rfl⟩ : ∃ m, n = m + 1 := ⟨n - 1, by omega⟩
      rw [g_X5_inBoth_L5, sa_ld_of (by omega) (by omega), Option.bind_some, Int.toNat_natCast, (hT.2 s hs).1, if_pos (by omega), cN]
    | succ c ih =>
      intro n i a hi ha hn
      obtain ⟨m, rfl⟩ : ∃ m, n = m + 1 := ⟨n - 1, by omega⟩
      have o4 := (ok.2.2.2.1 s hs i (by omega)).1
      have t8 := (hT.2 s hs).2 i (by omega)
      rw [g_X5_inBoth_L5, sa_ld_of (by omega) (by omega), Option.bind_some, Int.toNat_natCast, (hT.2 s hs).1, if_neg (by omega), sa_ld_of (by omega) (by omega), Option.bind_some, Int.toNat_natCast, (hT.2 t ht).1, w6 (by omega) (by omega), sa_ld_of (by omega) (by omega), Option.bind_some, sa_ld_of (by omega) (by omega), Option.bind_some, Int.toNat_natCast, t8.1, t8.2.1, p5_hasTwo ok hT ht (Nat.le_refl _) (by omega), Option.bind_some, cN]
      unfold g_X5_inBoth_J71
      dsimp only
      by_cases e1 : hw b t (tw b s i : Int) (btm b 0 s i) (bsz b t) = 0
      · rw [if_pos e1, if_neg (show ¬ cmP b s t i = true from fun q => (of_decide_eq_true q).2 e1), w32s (by omega)]; exact ih m (i + 1) a (by omega) (by omega) (by omega)
      · rw [if_neg e1, p5_isAgain ok hT hs (by omega), Option.bind_some]
        dsimp only
        by_cases e : hw b s (tw b s i : Int) (btm b 0 s i) i = 0
        · rw [if_pos e, if_pos (show cmP b s t i = true from decide_eq_true ⟨e, e1⟩), w32s (by omega), w32s (by omega)]; exact ih m (i + 1) (a + 1) (by omega) (by omega) (by omega)
        · rw [if_neg e, if_neg (show ¬ cmP b s t i = true from fun q => e (of_decide_eq_true q).1), w32s (by omega)]; exact ih m (i + 1) a (by omega) (by omega) (by omega)
  exact key (bsz b s) ab_FU 0 0 (by omega) (by omega) (by show _ < 100000; omega)
def oneS (b : BV) (s t : Nat) : Int := if cm b s t = zz b s ∧ cm b s t = zz b t then 1 else 0
theorem p5_areOfOneSense (ok : OkB b) (hT : T8 σ b) {s t : Nat} (hs : s < bn b) (ht : t < bn b) : g_X5_areOfOneSense (s : Int) (t : Int) σ = some (oneS b s t, σ) := by
  unfold g_X5_areOfOneSense g_X5_areOfOneSense_J29 oneS
  rw [p5_inBoth ok hT hs ht, Option.bind_some]
  dsimp only
  rw [p5_senseSize ok hT hs, Option.bind_some]
  dsimp only
  by_cases e1 : cm b s t = zz b s
  · rw [if_pos (by omega), p5_senseSize ok hT ht, Option.bind_some]
    dsimp only
    by_cases e2 : cm b s t = zz b t
    · rw [if_pos (by omega), if_pos ⟨e1, e2⟩]
    · rw [if_neg (by omega), if_neg (fun q => e2 q.2)]
  · rw [if_neg (by omega), if_neg (fun q => e1 q.1)]
theorem p9_isFirst (ok : OkB b) (hB : RB9 σ 597 0 b) (hW : Wd9 σ b) {s i : Nat} (hs : s < bn b) (hi : i < bsz b s) : g_X9_isFirst (s : Int) (i : Int) σ = some (if hw b s (tw b s i : Int) (btm b 0 s i) i = 0 then 1 else 0, σ) := by
  have o1 := ok.1
  have o2 := ok.2.1 s hs
  have ro : btm b 0 s i ≠ -1 := by have := (ok.2.2.2.1 _ hs _ hi).1; omega
  have key : ∀ (c n j : Nat), j + c = i → c < n → g_X9_isFirst_L2 n (s : Int) (i : Int) (j : Int) σ = some (if fnd (hwP b s (tw b s i : Int) (btm b 0 s i)) c j = -1 then 1 else 0, σ) := by
    intro c
    induction c with
    | zero =>
      intro n j hj hn
      obtain ⟨m, rfl⟩ : ∃ m, n = m + 1 := ⟨n - 1, by omega⟩
      rw [g_X9_isFirst_L2, if_pos (by omega), fnd, if_pos rfl]
    | succ c ih =>
      intro n j hj hn
      obtain ⟨m, rfl⟩ : ∃ m, n = m + 1 := ⟨n - 1, by omega⟩
      rw [g_X9_isFirst_L2, if_neg (by omega), p9_place (by omega) (by omega), Option.bind_some]
      dsimp only
      rw [sa_ld_of (by omega) (by omega), Option.bind_some, Int.toNat_natCast, hW.2 s hs j (by omega), p9_place (by omega) (by omega), Option.bind_some]
      dsimp only
      rw [sa_ld_of (by omega) (by omega), Option.bind_some, Int.toNat_natCast, hW.2 s hs i hi, fnd]
      unfold g_X9_isFirst_J47
      have nx := ih m (j + 1) (by omega) (by omega)
      rw [w32s (by omega)]
      by_cases e1 : (tw b s j : Int) = (tw b s i : Int)
      · rw [if_pos e1, p9_roleOf hB ok hs (by omega), Option.bind_some]
        dsimp only
        rw [p9_roleOf hB ok hs hi, Option.bind_some]
        dsimp only
        by_cases e2 : btm b 0 s j = btm b 0 s i
        · rw [if_pos e2, if_pos (show hwP b s (tw b s i : Int) (btm b 0 s i) j = true from decide_eq_true ⟨e1, Or.inr e2⟩), if_neg (by omega)]
        · rw [if_neg e2, if_neg (show ¬ hwP b s (tw b s i : Int) (btm b 0 s i) j = true from fun q => (of_decide_eq_true q).2.elim ro e2)]; exact nx
      · rw [if_neg e1, if_neg (show ¬ hwP b s (tw b s i : Int) (btm b 0 s i) j = true from fun q => e1 (of_decide_eq_true q).1)]; exact nx
  have k := key i ab_FU 0 (by omega) (by show _ < 100000; omega)
  unfold g_X9_isFirst
  refine k.trans ?_
  unfold hw
  by_cases e : fnd (hwP b s (tw b s i : Int) (btm b 0 s i)) i 0 = -1
  · rw [if_pos e, if_pos (if_pos e)]
  · rw [if_neg e, if_neg (fun q => by rw [if_neg e] at q; omega)]
theorem p9_hasSense (ok : OkB b) (hB : RB9 σ 597 0 b) (hW : Wd9 σ b) {s t i : Nat} (hs : s < bn b) (ht : t < bn b) (hi : i < bsz b s) : g_X9_hasSense (t : Int) (s : Int) (i : Int) σ = some (hw b t (tw b s i : Int) (btm b 0 s i) (bsz b t), σ) := by
  have o1 := ok.1
  have o2 := ok.2.1 s hs
  unfold g_X9_hasSense
  rw [p9_place (by omega) (by omega), Option.bind_some]
  dsimp only
  rw [sa_ld_of (by omega) (by omega), Option.bind_some, Int.toNat_natCast, hW.2 s hs i hi, p9_roleOf hB ok hs hi, Option.bind_some]
  dsimp only
  rw [p9_hasWord ok hB hW ht, Option.bind_some]
  dsimp only
  have z := hw_01 b t (tw b s i : Int) (btm b 0 s i) (bsz b t)
  unfold ab_if
  rw [if_pos (decide_eq_true z)]
theorem p9_commonOf (ok : OkB b) (hB : RB9 σ 597 0 b) (hW : Wd9 σ b) {s t : Nat} (hs : s < bn b) (ht : t < bn b) : g_X9_commonOf (s : Int) (t : Int) σ = some ((cm b s t : Int), σ) := by
  have o1 := ok.1
  have o2 := ok.2.1 s hs
  have key : ∀ (c n i a : Nat), i + c = bsz b s → a ≤ i → c < n → g_X9_commonOf_L5 n (s : Int) (t : Int) (a : Int) (i : Int) σ = some ((cN (cmP b s t) c i a : Int), σ) := by
    intro c
    induction c with
    | zero =>
      intro n i a hi ha hn
      obtain ⟨m, rfl⟩ : ∃ m, n = m + 1 := ⟨n - 1, by omega⟩
      rw [g_X9_commonOf_L5, p9_terms hB ok hs, Option.bind_some]
      dsimp only
      rw [if_pos (by omega), cN]
    | succ c ih =>
      intro n i a hi ha hn
      obtain ⟨m, rfl⟩ : ∃ m, n = m + 1 := ⟨n - 1, by omega⟩
      rw [g_X9_commonOf_L5, p9_terms hB ok hs, Option.bind_some]
      dsimp only
      rw [if_neg (by omega), p9_isFirst ok hB hW hs (by omega), Option.bind_some, cN]
      unfold g_X9_commonOf_J41 g_X9_commonOf_J42
      dsimp only
      rw [w32s (by omega), w32s (by omega), Int.add_zero, w32i (x := (a : Int)) (by omega) (by omega)]
      by_cases e : hw b s (tw b s i : Int) (btm b 0 s i) i = 0
      · rw [if_pos e, if_neg one0, p9_hasSense ok hB hW hs ht (by omega), Option.bind_some]
        dsimp only
        by_cases e1 : hw b t (tw b s i : Int) (btm b 0 s i) (bsz b t) = 0
        · rw [if_pos e1, if_neg (show ¬ cmP b s t i = true from fun q => (of_decide_eq_true q).2 e1)]; exact ih m (i + 1) a (by omega) (by omega) (by omega)
        · rw [if_neg e1, if_pos (show cmP b s t i = true from decide_eq_true ⟨e, e1⟩)]; exact ih m (i + 1) (a + 1) (by omega) (by omega) (by omega)
      · rw [if_neg e, if_pos rfl, if_neg (show ¬ cmP b s t i = true from fun q => e (of_decide_eq_true q).1)]; exact ih m (i + 1) a (by omega) (by omega) (by omega)
  exact key (bsz b s) ab_FU 0 0 (by omega) (by omega) (by show _ < 100000; omega)
theorem p9_areOneSense (ok : OkB b) (hB : RB9 σ 597 0 b) (hW : Wd9 σ b) {s t : Nat} (hs : s < bn b) (ht : t < bn b) : g_X9_areOneSense (s : Int) (t : Int) σ = some (oneS b s t, σ) := by
  unfold g_X9_areOneSense g_X9_areOneSense_J34 oneS
  rw [p9_commonOf ok hB hW hs ht, Option.bind_some, zz_cm, zz_cm]
  dsimp only
  rw [p9_commonOf ok hB hW hs hs, Option.bind_some]
  dsimp only
  by_cases e1 : cm b s t = cm b s s
  · rw [if_pos (by omega), p9_commonOf ok hB hW ht hs, Option.bind_some]
    dsimp only
    rw [p9_commonOf ok hB hW ht ht, Option.bind_some, cm_sym ok ht hs]
    dsimp only
    by_cases e2 : cm b s t = cm b t t
    · rw [if_pos (by omega), if_pos ⟨e1, e2⟩]
    · rw [if_neg (by omega), if_neg (fun q => e2 q.2)]
  · rw [if_neg (by omega), if_neg (fun q => e1 q.1)]
/-! the same terms -/
def smP (b : BV) (s t : Nat) : Nat → Bool := fun i => decide (¬ (btm b 0 s i = btm b 0 t i ∧ tw b s i = tw b t i))
def sm (b : BV) (s t : Nat) : Int := if bsz b s = bsz b t then (if fnd (smP b s t) (bsz b s) 0 = -1 then 1 else 0) else 0
theorem p5_areSame (ok : OkB b) (hT : T8 σ b) {s t : Nat} (hs : s < bn b) (ht : t < bn b) : g_X5_areSame (s : Int) (t : Int) σ = some (sm b s t, σ) := by
  have o1 := ok.1
  have o2 := ok.2.1 s hs
  have o3 := ok.2.1 t ht
  unfold g_X5_areSame sm
  rw [sa_ld_of (by omega) (by omega), Option.bind_some, sa_ld_of (by omega) (by omega), Option.bind_some, Int.toNat_natCast, Int.toNat_natCast, (hT.2 s hs).1, (hT.2 t ht).1]
  by_cases ez : bsz b s = bsz b t
  · rw [if_pos (by omega), if_pos ez]
    have key : ∀ (c n i : Nat), i + c = bsz b s → c < n → g_X5_areSame_L19 n (s : Int) (t : Int) (i : Int) σ = some (if fnd (smP b s t) c i = -1 then 1 else 0, σ) := by
      intro c
      induction c with
      | zero =>
        intro n i hi hn
        obtain ⟨m, rfl⟩ : ∃ m, n = m + 1 := ⟨n - 1, by omega⟩
        rw [g_X5_areSame_L19, sa_ld_of (by omega) (by omega), Option.bind_some, Int.toNat_natCast, (hT.2 s hs).1, if_pos (by omega), fnd, if_pos rfl]
      | succ c ih =>
        intro n i hi hn
        obtain ⟨m, rfl⟩ : ∃ m, n = m + 1 := ⟨n - 1, by omega⟩
        have t1 := (hT.2 s hs).2 i (by omega)
        have t2 := (hT.2 t ht).2 i (by omega)
        rw [g_X5_areSame_L19, sa_ld_of (by omega) (by omega), Option.bind_some, Int.toNat_natCast, (hT.2 s hs).1, if_neg (by omega), w6 (by omega) (by omega), w6 (by omega) (by omega), sa_ld_of (by omega) (by omega), Option.bind_some, sa_ld_of (by omega) (by omega), Option.bind_some, Int.toNat_natCast, Int.toNat_natCast, t1.1, t2.1, fnd]
        by_cases e1 : btm b 0 s i = btm b 0 t i
        · rw [if_pos e1, sa_ld_of (by omega) (by omega), Option.bind_some, sa_ld_of (by omega) (by omega), Option.bind_some, Int.toNat_natCast, Int.toNat_natCast, t1.2.1, t2.2.1]
          by_cases e2 : tw b s i = tw b t i
          · rw [if_pos (by omega), if_neg (show ¬ smP b s t i = true from fun q => (of_decide_eq_true q) ⟨e1, e2⟩), w32s (by omega)]; exact ih m (i + 1) (by omega) (by omega)
          · rw [if_neg (by omega), if_pos (show smP b s t i = true from decide_eq_true (fun q => e2 q.2)), if_neg (by omega)]
        · rw [if_neg e1, if_pos (show smP b s t i = true from decide_eq_true (fun q => e1 q.1)), if_neg (by omega)]
    exact key (bsz b s) ab_FU 0 (by omega) (by show _ < 100000; omega)
  · rw [if_neg (by omega), if_neg ez]
theorem p9_areSame (ok : OkB b) (hB : RB9 σ 597 0 b) (hW : Wd9 σ b) {s t : Nat} (hs : s < bn b) (ht : t < bn b) : g_X9_areSame (s : Int) (t : Int) σ = some (sm b s t, σ) := by
  have o1 := ok.1
  have o2 := ok.2.1 s hs
  have o3 := ok.2.1 t ht
  have zero : ∀ (n i : Nat), i ≤ bsz b s → g_X9_areSame_L22 (n + 1) (s : Int) (t : Int) 0 (i : Int) σ = some (0, σ) := by
    intro n i hi
    rw [g_X9_areSame_L22, p9_terms hB ok hs, Option.bind_some]
    dsimp only
    split
    · rfl
    · rw [if_pos rfl]; rfl
  unfold g_X9_areSame g_X9_areSame_J18 sm
  rw [p9_terms hB ok hs, Option.bind_some]
  dsimp only
  rw [p9_terms hB ok ht, Option.bind_some]
  dsimp only
  by_cases ez : bsz b s = bsz b t
  · rw [if_pos (by omega), if_pos ez]
    have key : ∀ (c n i : Nat), i + c = bsz b s → c + 1 < n → g_X9_areSame_L22 n (s : Int) (t : Int) 1 (i : Int) σ = some (if fnd (smP b s t) c i = -1 then 1 else 0, σ) := by
      intro c
      induction c with
      | zero =>
        intro n i hi hn
        obtain ⟨m, rfl⟩ : ∃ m, n = m + 1 := ⟨n - 1, by omega⟩
        rw [g_X9_areSame_L22, p9_terms hB ok hs, Option.bind_some]
        dsimp only
        rw [if_pos (by omega), fnd, if_pos rfl]; rfl
      | succ c ih =>
        intro n i hi hn
        obtain ⟨m, rfl⟩ : ∃ m, n = m + 1 := ⟨n - 1, by omega⟩
        obtain ⟨m', rfl⟩ : ∃ m', m = m' + 1 := ⟨m - 1, by omega⟩
        rw [g_X9_areSame_L22, p9_terms hB ok hs, Option.bind_some]
        dsimp only
        rw [if_neg (by omega), if_neg one0, p9_roleOf hB ok hs (by omega), Option.bind_some]
        dsimp only
        rw [p9_roleOf hB ok ht (by omega), Option.bind_some, fnd]
        unfold g_X9_areSame_J82 g_X9_areSame_J83
        dsimp only
        rw [w32s (by omega)]
        by_cases e1 : btm b 0 s i = btm b 0 t i
        · rw [if_pos e1, p9_place (by omega) (by omega), Option.bind_some]
          dsimp only
          rw [sa_ld_of (by omega) (by omega), Option.bind_some, Int.toNat_natCast, hW.2 s hs i (by omega), p9_place (by omega) (by omega), Option.bind_some]
          dsimp only
          rw [sa_ld_of (by omega) (by omega), Option.bind_some, Int.toNat_natCast, hW.2 t ht i (by omega)]
          by_cases e2 : tw b s i = tw b t i
          · rw [if_pos (by omega), if_neg (show ¬ smP b s t i = true from fun q => (of_decide_eq_true q) ⟨e1, e2⟩)]; exact ih (m' + 1) (i + 1) (by omega) (by omega)
          · rw [if_neg (by omega), if_pos (show smP b s t i = true from decide_eq_true (fun q => e2 q.2)), if_neg (by omega)]; exact zero m' (i + 1) (by omega)
        · rw [if_neg e1, if_pos (show smP b s t i = true from decide_eq_true (fun q => e1 q.1)), if_neg (by omega)]; exact zero m' (i + 1) (by omega)
    exact key (bsz b s) ab_FU 0 (by omega) (by show _ < 100000; omega)
  · rw [if_neg (by omega), if_neg ez]
    exact zero 99999 0 (by omega)
end SE
/-- two strings asked for: when one of them isn't there -/
theorem two8 {τ : st_S} {S : SV} {x y : Int} {k : Int × st_S → Option (Int × st_S)} (h8 : Rep8 DR τ S) : ((g_X8_isString x τ).bind fun q1 => if q1.1 = (0 : Int) then some ((-2 : Int), q1.2) else (g_X8_isString y q1.2).bind fun q2 => if q2.1 = (0 : Int) then some ((-2 : Int), q2.2) else k q2) = if (0 ≤ x ∧ x < (bn (sB S) : Int)) ∧ 0 ≤ y ∧ y < (bn (sB S) : Int) then k (1, τ) else some (-2, τ) := by
  rw [p8_isString h8.2.2.2.1, Option.bind_some]
  dsimp only
  by_cases hx : 0 ≤ x ∧ x < (bn (sB S) : Int)
  · rw [if_pos hx, if_neg one0, p8_isString h8.2.2.2.1, Option.bind_some]
    dsimp only
    by_cases hy : 0 ≤ y ∧ y < (bn (sB S) : Int)
    · rw [if_pos hy, if_neg one0, if_pos ⟨hx, hy⟩]
    · rw [if_neg hy, if_pos rfl, if_neg (fun q => hy q.2)]
  · rw [if_neg hx, if_pos rfl, if_neg (fun q => hx q.1)]
theorem two9 {τ : st_S} {S : SV} (ok : OkS S) {x y : Int} {k : Int × st_S → Option (Int × st_S)} (h9 : Rep9 τ S) : ((g_X9_isString x τ).bind fun q1 => if q1.1 = (0 : Int) then some ((-2 : Int), q1.2) else (g_X9_isString y q1.2).bind fun q2 => if q2.1 = (0 : Int) then some ((-2 : Int), q2.2) else k q2) = if (0 ≤ x ∧ x < (bn (sB S) : Int)) ∧ 0 ≤ y ∧ y < (bn (sB S) : Int) then k (1, τ) else some (-2, τ) := by
  have okB := ok.2.2.2.2.1
  rw [p9_isString h9.2.2.2.1 okB, Option.bind_some]
  dsimp only
  by_cases hx : 0 ≤ x ∧ x < (bn (sB S) : Int)
  · rw [if_pos hx, if_neg one0, p9_isString h9.2.2.2.1 okB, Option.bind_some]
    dsimp only
    by_cases hy : 0 ≤ y ∧ y < (bn (sB S) : Int)
    · rw [if_pos hy, if_neg one0, if_pos ⟨hx, hy⟩]
    · rw [if_neg hy, if_pos rfl, if_neg (fun q => hy q.2)]
  · rw [if_neg hx, if_pos rfl, if_neg (fun q => hx q.1)]
theorem S_alike : Stp2 (InvD DR) g_X8_alike g_X9_alike := by
  intro x y σ _ _ ⟨S, r8, r9, ok⟩
  have okB := ok.2.2.2.2.1
  by_cases h : (0 ≤ x ∧ x < (bn (sB S) : Int)) ∧ 0 ≤ y ∧ y < (bn (sB S) : Int)
  · obtain ⟨s, rfl⟩ := Int.eq_ofNat_of_zero_le h.1.1
    obtain ⟨t, rfl⟩ := Int.eq_ofNat_of_zero_le h.2.1
    have hs : s < bn (sB S) := by omega
    have ht : t < bn (sB S) := by omega
    refine qry (r := if sm (sB S) s t = 0 then (if oneS (sB S) s t = 0 then 0 else 1) else 2) ok (fun τ h8 => ?_) (fun τ h9 => ?_) r8 r9
    · have hT := h8.2.2.2.2.2.2.2.1
      unfold g_X8_alike; rw [two8 h8, if_pos h]; dsimp only; rw [p5_areSame okB hT hs ht, Option.bind_some]
      dsimp only
      by_cases e1 : sm (sB S) s t = 0
      · rw [if_pos e1, if_pos e1, p5_areOfOneSense okB hT hs ht, Option.bind_some]
        dsimp only
        by_cases e2 : oneS (sB S) s t = 0
        · rw [if_pos e2, if_pos e2]
        · rw [if_neg e2, if_neg e2]
      · rw [if_neg e1, if_neg e1]
    · obtain ⟨τ1, e1, e2, e3, e4⟩ := l9w ok h9
      refine ⟨τ1, ?_, e4⟩
      unfold g_X9_alike; rw [two9 ok h9, if_pos h]; dsimp only; rw [e1, Option.bind_some, p9_areSame okB e3 e2 hs ht, Option.bind_some]
      dsimp only
      by_cases z1 : sm (sB S) s t = 0
      · rw [if_pos z1, if_pos z1, p9_areOneSense okB e3 e2 hs ht, Option.bind_some]
        dsimp only
        by_cases z2 : oneS (sB S) s t = 0
        · rw [if_pos z2, if_pos z2]
        · rw [if_neg z2, if_neg z2]
      · rw [if_neg z1, if_neg z1]
  · refine qry (r := -2) ok (fun τ h8 => ?_) (fun τ h9 => ⟨τ, ?_, L9.rfl'⟩) r8 r9
    · unfold g_X8_alike; rw [two8 h8, if_neg h]
    · unfold g_X9_alike; rw [two9 ok h9, if_neg h]
theorem S_common : Stp3 (InvD DR) g_X8_common g_X9_common := by
  intro x y z σ _ _ _ ⟨S, r8, r9, ok⟩
  have okB := ok.2.2.2.2.1
  by_cases h : (0 ≤ x ∧ x < (bn (sB S) : Int)) ∧ 0 ≤ y ∧ y < (bn (sB S) : Int)
  · obtain ⟨s, rfl⟩ := Int.eq_ofNat_of_zero_le h.1.1
    obtain ⟨t, rfl⟩ := Int.eq_ofNat_of_zero_le h.2.1
    have hs : s < bn (sB S) := by omega
    have ht : t < bn (sB S) := by omega
    have o2 := okB.2.1 s hs
    have o3 := okB.2.1 t ht
    have l1 := cm_le (sB S) s t
    have l2 := cm_le (sB S) s s
    have l3 := cm_le (sB S) t t
    by_cases hz : 0 ≤ z ∧ z ≤ 1
    · refine qry (r := if z = 0 then (cm (sB S) s t : Int) else (cm (sB S) s s : Int) + (cm (sB S) t t : Int) - (cm (sB S) s t : Int)) ok (fun τ h8 => ?_) (fun τ h9 => ?_) r8 r9
      · have hT := h8.2.2.2.2.2.2.2.1
        unfold g_X8_common; rw [two8 h8, if_pos h]; dsimp only; rw [if_neg (by omega), if_pos hz.2, p5_inBoth okB hT hs ht, Option.bind_some]
        dsimp only
        by_cases e : z = 0
        · rw [if_pos e, if_pos e]
        · rw [if_neg e, if_neg e, p5_senseSize okB hT hs, Option.bind_some]
          dsimp only
          rw [p5_senseSize okB hT ht, Option.bind_some, zz_cm, zz_cm]
          dsimp only
          rw [w32i (x := (cm (sB S) s s : Int) + (cm (sB S) t t : Int)) (by omega) (by omega), w32i (by omega) (by omega)]
      · obtain ⟨τ1, e1, e2, e3, e4⟩ := l9w ok h9
        refine ⟨τ1, ?_, e4⟩
        unfold g_X9_common; rw [two9 ok h9, if_pos h]; dsimp only; rw [p9_in1 hz.1 hz.2, Option.bind_some]
        dsimp only
        rw [if_neg one0, e1, Option.bind_some, p9_commonOf okB e3 e2 hs ht, Option.bind_some]
        dsimp only
        by_cases e : z = 0
        · rw [if_pos e, if_pos e]
        · rw [if_neg e, if_neg e, p9_commonOf okB e3 e2 hs hs, Option.bind_some]
          dsimp only
          rw [p9_commonOf okB e3 e2 ht ht, Option.bind_some]
          dsimp only
          rw [w32i (x := (cm (sB S) s s : Int) + (cm (sB S) t t : Int)) (by omega) (by omega), w32i (by omega) (by omega)]
    · refine qry (r := -2) ok (fun τ h8 => ?_) (fun τ h9 => ⟨τ, ?_, L9.rfl'⟩) r8 r9
      · unfold g_X8_common; rw [two8 h8, if_pos h]; dsimp only
        by_cases h0 : z < 0
        · rw [if_pos h0]
        · rw [if_neg h0, if_neg (by omega)]
      · unfold g_X9_common; rw [two9 ok h9, if_pos h]; dsimp only; rw [p9_in0 hz]; rfl
  · refine qry (r := -2) ok (fun τ h8 => ?_) (fun τ h9 => ⟨τ, ?_, L9.rfl'⟩) r8 r9
    · unfold g_X8_common; rw [two8 h8, if_neg h]
    · unfold g_X9_common; rw [two9 ok h9, if_neg h]
