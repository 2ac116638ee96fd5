/-! the heap's fixed layout behind the two constructors, and heaps as stores (place, index) -/
def ly_bk (k : Nat) : Nat × Nat := match k with
  | 0 => (1, 12)
  | 1 => (11, 12)
  | 2 => (11, 12)
  | 3 => (11, 72)
  | 4 => (11, 72)
  | 5 => (12, 72)
  | 6 => (12, 72)
  | 7 => (12, 72)
  | 8 => (11, 6)
  | _ => (12, 12)
def ly_en (k : Nat) : Nat × Nat := match k with
  | 0 => (3, 11)
  | _ => (11, 6)
/-- kind and length of each cell -/
def ly (a : Nat) : Nat × Nat :=
  if a = 0 then (0, 0) else if a ≤ 12 then ([(0, 0), (9, 11), (2, 2), (13, 1200), (2, 2), (13, 2000), (2, 2), (13, 160), (5, 11), (12, 15), (11, 1201), (11, 1201), (12, 1201)] : List (Nat × Nat)).getD a (0, 0) else if a ≤ 23 then ly_bk (a - 13) else if a ≤ 34 then ly_bk (a - 24)
  else if a ≤ 36 then ([(4, 3), (14, 10)] : List (Nat × Nat)).getD (a - 35) (0, 0) else if a ≤ 146 then ly_bk ((a - 37) % 11)
  else if a ≤ 159 then ([(8, 3), (12, 72), (11, 72), (6, 6), (11, 12), (11, 72), (11, 72), (12, 72), (12, 72), (7, 6), (15, 72), (11, 73), (11, 73)] : List (Nat × Nat)).getD (a - 147) (0, 0) else if a ≤ 375 then ly_en ((a - 160) % 3)
  else if a ≤ 379 then ([(7, 6), (15, 72), (11, 73), (11, 73)] : List (Nat × Nat)).getD (a - 376) (0, 0) else if a ≤ 595 then ly_en ((a - 380) % 3)
  else if a ≤ 614 then ([(10, 36), (12, 416), (12, 416), (13, 1200), (12, 72), (11, 72), (11, 72), (11, 72), (11, 72), (11, 72), (11, 72), (11, 864), (11, 72), (13, 2000), (13, 400), (12, 12), (12, 12), (11, 72), (12, 4160)] : List (Nat × Nat)).getD (a - 596) (0, 0) else (0, 0)
def ly_rb (a f : Nat) : Nat := if f = 0 ∨ f = 9 then 0 else if f ≤ 8 then a + f else if f ≤ 11 then a + f - 1 else 0
def ly_re (a f : Nat) : Nat := if f = 4 then a + 1 else if f = 5 then a + 2 else 0
/-- references that stay as the constructors lay them; 0 elsewhere -/
def ly_r (a f : Nat) : Nat :=
  if a = 1 then ([2, 4, 6, 8, 13, 24, 35, 147, 150, 156, 376] : List Nat).getD f 0
  else if a = 2 ∨ a = 4 ∨ a = 6 then (if f = 0 then a + 1 else 0)
  else if a = 8 then (if f < 4 then 9 + f else 0)
  else if a = 13 ∨ a = 24 then ly_rb a f
  else if a = 35 then (if f = 0 then 36 else 0)
  else if a = 36 then (if f < 10 then 37 + 11 * f else 0)
  else if 37 ≤ a ∧ a ≤ 146 then (if (a - 37) % 11 = 0 then ly_rb a f else 0)
  else if a = 147 then (if f = 1 ∨ f = 2 then 147 + f else 0)
  else if a = 150 then (if 1 ≤ f ∧ f ≤ 5 then 150 + f else 0)
  else if a = 156 ∨ a = 376 then (if f = 0 then a + 1 else if f = 2 then a + 2 else if f = 4 then a + 3 else 0)
  else if 160 ≤ a ∧ a ≤ 375 then (if (a - 160) % 3 = 0 then ly_re a f else 0)
  else if 380 ≤ a ∧ a ≤ 595 then (if (a - 380) % 3 = 0 then ly_re a f else 0)
  else if a = 596 then ([0, 597, 598, 599, 0, 0, 0, 0, 0, 0, 0, 0, 0, 600, 0, 601, 0, 0, 0, 602, 603, 604, 605, 606, 607, 0, 608, 609, 0, 610, 0, 611, 612, 613, 0, 614] : List Nat).getD f 0
  else 0
abbrev st_S : Type := Nat → Nat → Int
def mk_ (σ : st_S) : ab_H := (614, 26508, fun a => ((ly a).1, (ly a).2, fun f => if ly_r a f = 0 then σ a f else (ly_r a f : Int)))
def up2 (σ : st_S) (a f : Nat) (x : Int) : st_S := fun a' f' => if a' = a ∧ f' = f then x else σ a' f'
def cp2 (σ : st_S) (a sp b dp n : Nat) : st_S := fun a' f' => if a' = b ∧ dp ≤ f' ∧ f' < dp + n then σ a (sp + (f' - dp)) else σ a' f'
theorem mk_on {α : Type} {σ : st_S} {k : Nat} {b : Int} {y : Option α} (hk : (ly b.toNat).1 = k) : ab_on (mk_ σ) k b y = y := if_pos hk
theorem mk_get {σ : st_S} {k f : Nat} {r : Int} (hk : (ly r.toNat).1 = k) (hr : ly_r r.toNat f = 0) : ab_get (mk_ σ) k f r = some (σ r.toNat f) := by
  unfold ab_get
  rw [if_pos (show ((mk_ σ).2.2 r.toNat).1 = k from hk)]
  show some (if ly_r r.toNat f = 0 then σ r.toNat f else _) = _
  rw [if_pos hr]
theorem mk_getR {σ : st_S} {k f : Nat} {r : Int} (v : Nat) (hk : (ly r.toNat).1 = k) (hr : ly_r r.toNat f = v) (hv : v ≠ 0) : ab_get (mk_ σ) k f r = some (v : Int) := by
  unfold ab_get
  rw [if_pos (show ((mk_ σ).2.2 r.toNat).1 = k from hk)]
  show some (if ly_r r.toNat f = 0 then σ r.toNat f else _) = _
  rw [if_neg (by rw [hr]; exact hv), hr]
theorem mk_set {σ : st_S} {a f : Nat} {x : Int} (hr : ly_r a f = 0) : ab_set (mk_ σ) a ((ly a).1, (ly a).2, ab_up ((mk_ σ).2.2 a).2.2 f x) = mk_ (up2 σ a f x) := by
  unfold ab_set mk_
  refine Prod.ext rfl (Prod.ext rfl (funext fun j => ?_))
  simp only
  by_cases hj : j = a
  · subst hj
    rw [if_pos rfl]
    refine Prod.ext rfl (Prod.ext rfl (funext fun i => ?_))
    simp only [ab_up, up2, true_and]
    by_cases hi : i = f
    · subst hi; rw [if_pos rfl, if_pos hr, if_pos rfl]
    · rw [if_neg hi, if_neg hi]
  · rw [if_neg hj]
    refine Prod.ext rfl (Prod.ext rfl (funext fun i => ?_))
    simp only [up2, hj, false_and, if_false]
theorem mk_put {σ : st_S} {k f : Nat} {r x : Int} (hk : (ly r.toNat).1 = k) (hr : ly_r r.toNat f = 0) : ab_put (mk_ σ) k f r x = some (mk_ (up2 σ r.toNat f x)) := by
  unfold ab_put
  rw [if_pos (show ((mk_ σ).2.2 r.toNat).1 = k from hk), ← mk_set hr, ← hk]; rfl
theorem mk_ald {σ : st_S} {k : Nat} {r i : Int} (hk : (ly r.toNat).1 = k) (hr : ly_r r.toNat i.toNat = 0) (h0 : 0 ≤ i) (h1 : i < ((ly r.toNat).2 : Int)) : ab_ald (mk_ σ) k r i = some (σ r.toNat i.toNat) := by
  unfold ab_ald
  rw [if_pos ⟨hk, h0, h1⟩]
  show some (if ly_r r.toNat i.toNat = 0 then σ r.toNat i.toNat else _) = _
  rw [if_pos hr]
theorem mk_aldR {σ : st_S} {k : Nat} {r i : Int} (v : Nat) (hk : (ly r.toNat).1 = k) (hr : ly_r r.toNat i.toNat = v) (hv : v ≠ 0) (h0 : 0 ≤ i) (h1 : i < ((ly r.toNat).2 : Int)) : ab_ald (mk_ σ) k r i = some (v : Int) := by
  unfold ab_ald
  rw [if_pos ⟨hk, h0, h1⟩]
  show some (if ly_r r.toNat i.toNat = 0 then σ r.toNat i.toNat else _) = _
  rw [if_neg (by rw [hr]; exact hv), hr]
theorem mk_ast {σ : st_S} {k : Nat} {r i x : Int} (hk : (ly r.toNat).1 = k) (hr : ly_r r.toNat i.toNat = 0) (h0 : 0 ≤ i) (h1 : i < ((ly r.toNat).2 : Int)) : ab_ast (mk_ σ) k r i x = some (mk_ (up2 σ r.toNat i.toNat x)) := by
  unfold ab_ast
  rw [if_pos ⟨hk, h0, h1⟩, ← mk_set hr, ← hk]; rfl
theorem mk_len {σ : st_S} {k : Nat} {r : Int} (hk : (ly r.toNat).1 = k) : ab_len (mk_ σ) k r = some ((ly r.toNat).2 : Int) := if_pos hk
theorem mk_cpy {σ : st_S} {k : Nat} {a sp b dp n : Int} (ha : (ly a.toNat).1 = k) (hb : (ly b.toNat).1 = k) (ra : ∀ f, ly_r a.toNat f = 0) (rb : ∀ f, ly_r b.toNat f = 0) (h0 : 0 ≤ sp) (h1 : 0 ≤ dp) (h2 : 0 ≤ n) (h3 : sp + n ≤ ((ly a.toNat).2 : Int)) (h4 : dp + n ≤ ((ly b.toNat).2 : Int)) :
    ab_cpy (mk_ σ) k a sp b dp n = some (mk_ (cp2 σ a.toNat sp.toNat b.toNat dp.toNat n.toNat)) := by
  unfold ab_cpy
  rw [if_pos ⟨ha, hb, h0, h1, h2, h3, h4⟩]
  congr 1
  unfold ab_set mk_
  refine Prod.ext rfl (Prod.ext rfl (funext fun j => ?_))
  simp only
  by_cases hj : j = b.toNat
  · subst hj
    rw [if_pos rfl]
    refine Prod.ext hb.symm (Prod.ext rfl (funext fun i => ?_))
    simp only [va_cpy, cp2, true_and, rb, ra, if_true]
  · rw [if_neg hj]
    refine Prod.ext rfl (Prod.ext rfl (funext fun i => ?_))
    simp only [cp2, hj, false_and, if_false]
theorem w32i {x : Int} (h0 : -2147483648 ≤ x) (h1 : x < 2147483648) : ab_w32 x = x := ab_w32_id ⟨h0, h1⟩
theorem w64i {x : Int} (h0 : -9223372036854775808 ≤ x) (h1 : x < 9223372036854775808) : ab_w64 x = x := ab_w64_id ⟨h0, h1⟩
theorem up2_at (σ : st_S) (a f : Nat) (x : Int) : up2 σ a f x a f = x := by simp [up2]
theorem up2_ne (σ : st_S) {a f a' f' : Nat} (x : Int) (h : ¬ (a' = a ∧ f' = f)) : up2 σ a f x a' f' = σ a' f' := by simp [up2, h]
