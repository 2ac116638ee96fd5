/-! rows of an entry: what both sides lay out -/
abbrev RW : Type := Nat × (Nat → Nat)
def rpush (r : RW) (x : Nat) : RW := (r.1 + 1, fun k => if k = r.1 then x else r.2 k)
/-- above, below, what went (bits) -/
abbrev EV : Type := RW × RW × Nat
/-- the term right ahead of the next one of a row -/
def ahd (p : Nat) (r : RW) : Nat := if r.1 = 0 then p else r.2 (r.1 - 1)
def oA (w : Nat → Nat) (p : Nat) (q : EV) (i : Nat) : EV := if w i = w (ahd p q.1) then (q.1, q.2.1, q.2.2 ||| 2 ^ i) else (rpush q.1 i, q.2.1, q.2.2)
def oB (w : Nat → Nat) (p : Nat) (q : EV) (i : Nat) : EV := if w i = w (ahd p q.2.1) then (q.1, q.2.1, q.2.2 ||| 2 ^ i) else (q.1, rpush q.2.1 i, q.2.2)
def dA (w : Nat → Nat) (p : Nat) : Nat → EV → EV
  | 0, q => q
  | c + 1, q => dA w p c (oA w p q c)
def uA (w : Nat → Nat) (p : Nat) : Nat → Nat → EV → EV
  | 0, _, q => q
  | c + 1, i, q => uA w p c (i + 1) (oA w p q i)
def uB (w : Nat → Nat) (p : Nat) : Nat → Nat → EV → EV
  | 0, _, q => q
  | c + 1, i, q => uB w p c (i + 1) (oB w p q i)
def e0 : EV := ((0, fun _ => 0), (0, fun _ => 0), 0)
def ev (w : Nat → Nat) (way : Int) (p n : Nat) : EV :=
  if way = 1 then uB w p (n - 1 - p) (p + 1) (uB w p p 0 e0) else if way = 2 then uA w p (n - 1 - p) (p + 1) (dA w p p e0) else uB w p (n - 1 - p) (p + 1) (dA w p p e0)
def inR (r : RW) (u : Nat) : Prop := ∃ k, k < r.1 ∧ r.2 k = u
def EOK (off : Nat → Prop) (n : Nat) (q : EV) : Prop :=
  q.2.2 < 64 ∧ pc q.2.2 + q.1.1 + q.2.1.1 = n ∧ (∀ u, inR q.1 u → off u) ∧ (∀ u, inR q.2.1 u → off u) ∧ ∀ u, q.2.2.testBit u = true ↔ off u ∧ ¬ inR q.1 u ∧ ¬ inR q.2.1 u
theorem inR_push {r : RW} {x u : Nat} : inR (rpush r x) u ↔ inR r u ∨ u = x := by
  constructor
  · rintro ⟨k, h1, h2⟩
    have h1' : k < r.1 + 1 := h1
    have h2' : (if k = r.1 then x else r.2 k) = u := h2
    by_cases e : k = r.1
    · rw [if_pos e] at h2'; exact Or.inr h2'.symm
    · rw [if_neg e] at h2'; exact Or.inl ⟨k, by omega, h2'⟩
  · rintro (⟨k, h1, h2⟩ | rfl)
    · exact ⟨k, by show k < r.1 + 1; omega, by show (if k = r.1 then x else r.2 k) = u; rw [if_neg (by omega)]; exact h2⟩
    · exact ⟨r.1, by show r.1 < r.1 + 1; omega, by show (if r.1 = r.1 then u else r.2 r.1) = u; rw [if_pos rfl]⟩
theorem pc_or {g i : Nat} (hg : g < 64) (hi : i < 6) (h : g.testBit i = false) : pc (g ||| 2 ^ i) = pc g + 1 := by
  have key : ∀ g, g < 64 → ∀ i, i < 6 → g.testBit i = false → pc (g ||| 2 ^ i) = pc g + 1 := by decide +kernel
  exact key g hg i hi h
theorem or6 {m n : Nat} (hm : m < 64) (hn : n < 64) : m ||| n < 64 := Nat.or_lt_two_pow (n := 6) hm hn
theorem p26 {i : Nat} (h : i < 6) : 2 ^ i < 64 := Nat.pow_lt_pow_right (by decide) h
theorem EOK.g {off : Nat → Prop} {n : Nat} {q : EV} (h : EOK off n q) {i : Nat} (hi : i < 6) (hn : ¬ off i) : EOK (fun u => off u ∨ u = i) (n + 1) (q.1, q.2.1, q.2.2 ||| 2 ^ i) := by
  obtain ⟨h1, h2, h3, h4, h5⟩ := h
  have b0 : q.2.2.testBit i = false := by
    cases e : q.2.2.testBit i
    · rfl
    · exact absurd ((h5 i).mp e).1 hn
  refine ⟨or6 h1 (p26 hi), ?_, fun u hu => Or.inl (h3 u hu), fun u hu => Or.inl (h4 u hu), fun u => ?_⟩
  · show pc (q.2.2 ||| 2 ^ i) + q.1.1 + q.2.1.1 = n + 1
    rw [pc_or h1 hi b0]; omega
  · show (q.2.2 ||| 2 ^ i).testBit u = true ↔ _
    rw [Nat.testBit_or, Bool.or_eq_true, h5 u, Nat.testBit_two_pow, decide_eq_true_iff]
    constructor
    · rintro (⟨a, b, c⟩ | rfl)
      · exact ⟨Or.inl a, b, c⟩
      · exact ⟨Or.inr rfl, fun q => hn (h3 _ q), fun q => hn (h4 _ q)⟩
    · rintro ⟨a | a, b, c⟩
      · exact Or.inl ⟨a, b, c⟩
      · exact Or.inr a.symm
theorem EOK.a {off : Nat → Prop} {n : Nat} {q : EV} (h : EOK off n q) {i : Nat} (hn : ¬ off i) : EOK (fun u => off u ∨ u = i) (n + 1) (rpush q.1 i, q.2.1, q.2.2) := by
  obtain ⟨h1, h2, h3, h4, h5⟩ := h
  refine ⟨h1, by show pc q.2.2 + (q.1.1 + 1) + q.2.1.1 = n + 1; omega, fun u hu => ?_, fun u hu => Or.inl (h4 u hu), fun u => ?_⟩
  · rcases inR_push.mp hu with a | a
    · exact Or.inl (h3 u a)
    · exact Or.inr a
  · show q.2.2.testBit u = true ↔ (off u ∨ u = i) ∧ ¬ inR (rpush q.1 i) u ∧ ¬ inR q.2.1 u
    rw [h5 u]
    constructor
    · rintro ⟨a, b, c⟩
      exact ⟨Or.inl a, fun z => (inR_push.mp z).elim b (fun e => hn (e ▸ a)), c⟩
    · rintro ⟨a | a, b, c⟩
      · exact ⟨a, fun z => b (inR_push.mpr (Or.inl z)), c⟩
      · exact absurd (inR_push.mpr (Or.inr a)) b
theorem EOK.b {off : Nat → Prop} {n : Nat} {q : EV} (h : EOK off n q) {i : Nat} (hn : ¬ off i) : EOK (fun u => off u ∨ u = i) (n + 1) (q.1, rpush q.2.1 i, q.2.2) := by
  obtain ⟨h1, h2, h3, h4, h5⟩ := h
  refine ⟨h1, by show pc q.2.2 + q.1.1 + (q.2.1.1 + 1) = n + 1; omega, fun u hu => Or.inl (h3 u hu), fun u hu => ?_, fun u => ?_⟩
  · rcases inR_push.mp hu with a | a
    · exact Or.inl (h4 u a)
    · exact Or.inr a
  · show q.2.2.testBit u = true ↔ (off u ∨ u = i) ∧ ¬ inR q.1 u ∧ ¬ inR (rpush q.2.1 i) u
    rw [h5 u]
    constructor
    · rintro ⟨a, b, c⟩
      exact ⟨Or.inl a, b, fun z => (inR_push.mp z).elim c (fun e => hn (e ▸ a))⟩
    · rintro ⟨a | a, b, c⟩
      · exact ⟨a, b, fun z => c (inR_push.mpr (Or.inl z))⟩
      · exact absurd (inR_push.mpr (Or.inr a)) c
theorem EOK.c {off off' : Nat → Prop} {n n' : Nat} {q : EV} (h : EOK off n q) (e : ∀ u, off u ↔ off' u) (en : n = n') : EOK off' n' q := by
  have : off = off' := funext fun u => propext (e u)
  subst this; subst en; exact h
theorem EOK.toA {off : Nat → Prop} {n : Nat} {q : EV} (w : Nat → Nat) (p : Nat) (h : EOK off n q) {i : Nat} (hi : i < 6) (hn : ¬ off i) : EOK (fun u => off u ∨ u = i) (n + 1) (oA w p q i) := by
  unfold oA
  split
  · exact h.g hi hn
  · exact h.a hn
theorem EOK.toB {off : Nat → Prop} {n : Nat} {q : EV} (w : Nat → Nat) (p : Nat) (h : EOK off n q) {i : Nat} (hi : i < 6) (hn : ¬ off i) : EOK (fun u => off u ∨ u = i) (n + 1) (oB w p q i) := by
  unfold oB
  split
  · exact h.g hi hn
  · exact h.b hn
theorem EOK.tdA (w : Nat → Nat) (p : Nat) : ∀ (c : Nat) (off : Nat → Prop) (n : Nat) (q : EV), c ≤ 6 → (∀ u, u < c → ¬ off u) → EOK off n q → EOK (fun u => off u ∨ u < c) (n + c) (dA w p c q) := by
  intro c
  induction c with
  | zero => intro off n q _ _ h; exact h.c (fun u => ⟨Or.inl, fun z => z.elim id (fun q => by omega)⟩) rfl
  | succ c ih =>
    intro off n q hc hn h
    exact (ih (fun u => off u ∨ u = c) _ _ (by omega) (fun u hu z => z.elim (fun z => hn u (by omega) z) (fun z => by omega)) (h.toA w p (i := c) (by omega) (hn c (by omega)))).c (fun u => by rw [or_assoc]; exact or_congr_right (by omega)) (by omega)
theorem EOK.tuA (w : Nat → Nat) (p : Nat) : ∀ (c i : Nat) (off : Nat → Prop) (n : Nat) (q : EV), i + c ≤ 6 → (∀ u, i ≤ u → u < i + c → ¬ off u) → EOK off n q → EOK (fun u => off u ∨ i ≤ u ∧ u < i + c) (n + c) (uA w p c i q) := by
  intro c
  induction c with
  | zero => intro i off n q _ _ h; exact h.c (fun u => ⟨Or.inl, fun z => z.elim id (fun q => by omega)⟩) rfl
  | succ c ih =>
    intro i off n q hc hn h
    exact (ih (i + 1) (fun u => off u ∨ u = i) _ _ (by omega) (fun u h1 h2 z => z.elim (fun z => hn u (by omega) (by omega) z) (fun z => by omega)) (h.toA w p (i := i) (by omega) (hn i (by omega) (by omega)))).c (fun u => by rw [or_assoc]; exact or_congr_right (by omega)) (by omega)
theorem EOK.tuB (w : Nat → Nat) (p : Nat) : ∀ (c i : Nat) (off : Nat → Prop) (n : Nat) (q : EV), i + c ≤ 6 → (∀ u, i ≤ u → u < i + c → ¬ off u) → EOK off n q → EOK (fun u => off u ∨ i ≤ u ∧ u < i + c) (n + c) (uB w p c i q) := by
  intro c
  induction c with
  | zero => intro i off n q _ _ h; exact h.c (fun u => ⟨Or.inl, fun z => z.elim id (fun q => by omega)⟩) rfl
  | succ c ih =>
    intro i off n q hc hn h
    exact (ih (i + 1) (fun u => off u ∨ u = i) _ _ (by omega) (fun u h1 h2 z => z.elim (fun z => hn u (by omega) (by omega) z) (fun z => by omega)) (h.toB w p (i := i) (by omega) (hn i (by omega) (by omega)))).c (fun u => by rw [or_assoc]; exact or_congr_right (by omega)) (by omega)
theorem EOK.zero : EOK (fun _ => False) 0 e0 := by
  refine ⟨by decide, rfl, fun u ⟨k, h, _⟩ => absurd h (Nat.not_lt_zero _), fun u ⟨k, h, _⟩ => absurd h (Nat.not_lt_zero _), fun u => ?_⟩
  show (0 : Nat).testBit u = true ↔ _
  rw [Nat.zero_testBit]
  constructor
  · intro h; cases h
  · rintro ⟨h, _⟩; exact h.elim
theorem ev_ok (w : Nat → Nat) (way : Int) {p n : Nat} (hp : p < n) (hn : n ≤ 6) : EOK (fun u => u < n ∧ u ≠ p) (n - 1) (ev w way p n) := by
  unfold ev
  split
  · refine (EOK.tuB w p (n - 1 - p) (p + 1) _ _ _ (by omega) ?_ (EOK.tuB w p p 0 _ _ _ (by omega) (fun u _ _ => id) EOK.zero)).c (fun u => by simp only [false_or]; omega) (by omega)
    intro u h1 h2 z; simp only [false_or] at z; omega
  · split
    · refine (EOK.tuA w p (n - 1 - p) (p + 1) _ _ _ (by omega) ?_ (EOK.tdA w p p _ _ _ (by omega) (fun u _ => id) EOK.zero)).c (fun u => by simp only [false_or]; omega) (by omega)
      intro u h1 h2 z; simp only [false_or] at z; omega
    · refine (EOK.tuB w p (n - 1 - p) (p + 1) _ _ _ (by omega) ?_ (EOK.tdA w p p _ _ _ (by omega) (fun u _ => id) EOK.zero)).c (fun u => by simp only [false_or]; omega) (by omega)
      intro u h1 h2 z; simp only [false_or] at z; omega
/-! a row against another -/
def crl (fa fb : Nat → Nat) (na nb : Nat) : Nat → Nat → Int
  | 0, _ => (na : Int) - nb
  | c + 1, k => if na ≤ k ∨ nb ≤ k then (na : Int) - nb else if fa k = fb k then crl fa fb na nb c (k + 1) else (fa k : Int) - fb k
def crw (fa fb : Nat → Nat) (na nb : Nat) : Int := crl fa fb na nb 7 0
theorem crl0 {fa fb : Nat → Nat} {na nb : Nat} : ∀ (c k : Nat), na < k + c → crl fa fb na nb c k = 0 → na = nb ∧ ∀ j, k ≤ j → j < na → fa j = fb j := by
  intro c
  induction c with
  | zero => intro k hk h; have h : (na : Int) - nb = 0 := h; exact ⟨by omega, fun j h1 h2 => by omega⟩
  | succ c ih =>
    intro k hk h
    rw [crl] at h
    split at h
    · next hc => exact ⟨by omega, fun j h1 h2 => by omega⟩
    · split at h
      · next he =>
        obtain ⟨h1, h2⟩ := ih (k + 1) (by omega) h
        refine ⟨h1, fun j h3 h4 => ?_⟩
        by_cases e : j = k
        · rw [e]; exact he
        · exact h2 j (by omega) h4
      · next hc he => omega
theorem crl_z {fa fb : Nat → Nat} {na nb : Nat} (hn : na = nb) : ∀ (c k : Nat), (∀ j, k ≤ j → j < na → fa j = fb j) → crl fa fb na nb c k = 0 := by
  intro c
  induction c with
  | zero => intro k _; show (na : Int) - nb = 0; omega
  | succ c ih =>
    intro k h
    rw [crl]
    split
    · omega
    · rw [if_pos (h k (by omega) (by omega))]; exact ih (k + 1) (fun j h1 h2 => h j (by omega) h2)
theorem crw0 {fa fb : Nat → Nat} {na nb : Nat} (h6 : na ≤ 6) : crw fa fb na nb = 0 ↔ na = nb ∧ ∀ j, j < na → fa j = fb j := by
  constructor
  · intro h; obtain ⟨h1, h2⟩ := crl0 7 0 (by omega) h; exact ⟨h1, fun j hj => h2 j (by omega) hj⟩
  · intro ⟨h1, h2⟩; exact crl_z h1 7 0 (fun j _ h3 => h2 j h3)
/-- an entry of a book turned by ways: of string x.1 the term x.2 -/
def en (b : BV) (wy : Nat → Int) (x : Nat × Nat) : EV := ev (tw b x.1) (wy (btm b 0 x.1 x.2).toNat) x.2 (bsz b x.1)
def nA (b : BV) (wy : Nat → Int) (x : Nat × Nat) : Nat := (en b wy x).1.1
def nB (b : BV) (wy : Nat → Int) (x : Nat × Nat) : Nat := (en b wy x).2.1.1
def pA (b : BV) (wy : Nat → Int) (x : Nat × Nat) : Nat → Nat := (en b wy x).1.2
def pB (b : BV) (wy : Nat → Int) (x : Nat × Nat) : Nat → Nat := (en b wy x).2.1.2
def gG (b : BV) (wy : Nat → Int) (x : Nat × Nat) : Nat := (en b wy x).2.2
def wA (b : BV) (wy : Nat → Int) (x : Nat × Nat) : Nat → Nat := fun k => tw b x.1 (pA b wy x k)
def wB (b : BV) (wy : Nat → Int) (x : Nat × Nat) : Nat → Nat := fun k => tw b x.1 (pB b wy x k)
def lw (b : BV) (x : Nat × Nat) : Nat := tw b x.1 x.2
/-- by words alone -/
def cW (b : BV) (wy : Nat → Int) (x y : Nat × Nat) : Int :=
  if lw b x = lw b y then (if crw (wA b wy x) (wA b wy y) (nA b wy x) (nA b wy y) = 0 then crw (wB b wy x) (wB b wy y) (nB b wy x) (nB b wy y) else crw (wA b wy x) (wA b wy y) (nA b wy x) (nA b wy y)) else (lw b x : Int) - lw b y
def cE (b : BV) (wy : Nat → Int) (x y : Nat × Nat) : Int :=
  if cW b wy x y = 0 then (if badr b x.1 - badr b y.1 = 0 then (x.2 : Int) - y.2 else badr b x.1 - badr b y.1) else cW b wy x y
def isE (b : BV) (x : Nat × Nat) : Prop := x.1 < bn b ∧ x.2 < bsz b x.1
theorem en_ok {b : BV} (ok : OkB b) (wy : Nat → Int) {x : Nat × Nat} (h : isE b x) : EOK (fun u => u < bsz b x.1 ∧ u ≠ x.2) (bsz b x.1 - 1) (en b wy x) := ev_ok _ _ h.2 (ok.2.1 x.1 h.1).2.2.2
theorem en_le {b : BV} (ok : OkB b) (wy : Nat → Int) {x : Nat × Nat} (h : isE b x) : nA b wy x + nB b wy x ≤ 5 := by
  have h2 := (en_ok ok wy h).2.1
  have := (ok.2.1 x.1 h.1).2.2.2
  unfold nA nB; omega
theorem pA_lt {b : BV} (ok : OkB b) (wy : Nat → Int) {x : Nat × Nat} (h : isE b x) {k : Nat} (hk : k < nA b wy x) : pA b wy x k < bsz b x.1 ∧ pA b wy x k ≠ x.2 := (en_ok ok wy h).2.2.1 _ ⟨k, hk, rfl⟩
theorem pB_lt {b : BV} (ok : OkB b) (wy : Nat → Int) {x : Nat × Nat} (h : isE b x) {k : Nat} (hk : k < nB b wy x) : pB b wy x k < bsz b x.1 ∧ pB b wy x k ≠ x.2 := (en_ok ok wy h).2.2.2.1 _ ⟨k, hk, rfl⟩
theorem cW0 {b : BV} (ok : OkB b) (wy : Nat → Int) {x y : Nat × Nat} (h : isE b x) : cW b wy x y = 0 ↔ lw b x = lw b y ∧ (nA b wy x = nA b wy y ∧ ∀ j, j < nA b wy x → wA b wy x j = wA b wy y j) ∧ nB b wy x = nB b wy y ∧ ∀ j, j < nB b wy x → wB b wy x j = wB b wy y j := by
  have h5 := en_le ok wy h
  unfold cW
  by_cases e : lw b x = lw b y
  · rw [if_pos e]
    by_cases e2 : crw (wA b wy x) (wA b wy y) (nA b wy x) (nA b wy y) = 0
    · rw [if_pos e2, crw0 (by omega)]
      have := (crw0 (by omega)).mp e2
      constructor
      · intro q; exact ⟨e, this, q⟩
      · intro q; exact q.2.2
    · rw [if_neg e2]
      constructor
      · intro q; exact absurd q e2
      · intro q; exact (crw0 (by omega)).mpr q.2.1
  · rw [if_neg e]
    constructor
    · intro q; omega
    · intro q; exact absurd q.1 e
theorem cW_sym {b : BV} (ok : OkB b) (wy : Nat → Int) {x y : Nat × Nat} (hx : isE b x) (hy : isE b y) : cW b wy x y = 0 ↔ cW b wy y x = 0 := by
  rw [cW0 ok wy hx, cW0 ok wy hy]
  constructor
  · rintro ⟨a, ⟨b1, c⟩, d, e⟩; exact ⟨a.symm, ⟨b1.symm, fun j hj => (c j (by omega)).symm⟩, d.symm, fun j hj => (e j (by omega)).symm⟩
  · rintro ⟨a, ⟨b1, c⟩, d, e⟩; exact ⟨a.symm, ⟨b1.symm, fun j hj => (c j (by omega)).symm⟩, d.symm, fun j hj => (e j (by omega)).symm⟩
