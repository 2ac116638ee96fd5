/-! text constants -/
def ab_sOwn : List (String × Nat × String) := [("TurnedHeadings$Reader", 29, "law see string place thing part act agent form plain whole near not via back "), ("TurnedHeadingsModel", 168, "law"), ("TurnedHeadingsModel", 153, "place"), ("TurnedHeadingsModel", 155, "thing"), ("TurnedHeadingsModel", 157, "part"), ("TurnedHeadingsModel", 159, "act"), ("TurnedHeadingsModel", 161, "agent"), ("TurnedHeadingsModel", 163, "form"), ("TurnedHeadingsModel", 174, "plain"), ("TurnedHeadingsModel", 176, "whole"), ("TurnedHeadingsModel", 178, "near"), ("TurnedHeadingsModel", 170, "see"), ("TurnedHeadingsModel", 172, "string"), ("TurnedHeadingsModel", 180, "not"), ("TurnedHeadingsModel", 182, "via"), ("TurnedHeadingsModel", 184, "back")]
def ab_sLen : List Nat := [77, 3, 5, 5, 4, 3, 5, 4, 5, 5, 4, 3, 6, 3, 3, 4]
def ab_sByt : List (List Int32) := [[108, 97, 119, 32, 115, 101, 101, 32, 115, 116, 114, 105, 110, 103, 32, 112, 108, 97, 99, 101, 32, 116, 104, 105, 110, 103, 32, 112, 97, 114, 116, 32, 97, 99, 116, 32, 97, 103, 101, 110, 116, 32, 102, 111, 114, 109, 32, 112, 108, 97, 105, 110, 32, 119, 104, 111, 108, 101, 32, 110, 101, 97, 114, 32, 110, 111, 116, 32, 118, 105, 97, 32, 98, 97, 99, 107, 32], [108, 97, 119], [112, 108, 97, 99, 101], [116, 104, 105, 110, 103], [112, 97, 114, 116], [97, 99, 116], [97, 103, 101, 110, 116], [102, 111, 114, 109], [112, 108, 97, 105, 110], [119, 104, 111, 108, 101], [110, 101, 97, 114], [115, 101, 101], [115, 116, 114, 105, 110, 103], [110, 111, 116], [118, 105, 97], [98, 97, 99, 107]]
/-! the heap: cell a (from 1 on) lies at the address b0 + a -/
def ab_A (b0 : Nat) : Nat → Prop := fun q => b0 < q
def ab_tc : FieldType → Nat
  | .int => 0
  | .long => 1
  | _ => 2
def ab_fty (ci k : Nat) : FieldType := match ci with
  | 0 => tyX0 k
  | 1 => tyX1 k
  | 2 => tyX2 k
  | 3 => tyX3 k
  | 4 => tyX4 k
  | 5 => tyX5 k
  | 6 => tyX6 k
  | 7 => tyX7 k
  | 8 => tyX8 k
  | _ => tyX9 k
def ab_N (ci : Nat) : Nat := match ci with
  | 0 => 12
  | 1 => 2
  | 2 => 11
  | 3 => 3
  | 4 => 11
  | 5 => 6
  | 6 => 6
  | 7 => 3
  | 8 => 11
  | _ => 36
def ab_okx (t : Nat) (x : Int) : Prop := match t with
  | 0 => ab_i32 x
  | 1 => ab_i64 x
  | 2 => 0 ≤ x
  | _ => -128 ≤ x ∧ x < 128
def ab_ct (k i : Nat) : Nat := if k = 11 then 0 else if k = 12 then 1 else if k = 13 then 3 else if 14 ≤ k then 2 else ab_tc (ab_fty (k - 1) i)
def ab_okc (c : ab_C) : Prop := (∀ i, ab_okx (ab_ct c.1 i) (c.2.2 i)) ∧ (1 ≤ c.1 → c.1 ≤ 10 → c.2.1 = ab_N (c.1 - 1)) ∧ c.2.1 < 2147483648
def ab_okh (h : ab_H) : Prop := (∀ a, ab_okc (h.2.2 a)) ∧ (h.2.2 0).1 = 0 ∧ ∀ a, h.1 < a → (h.2.2 a).1 = 0
def ab_okv : ab_V → Prop
  | .inl x => ab_i32 x
  | .inr (.inl x) => ab_i64 x
  | .inr (.inr _) => True
def ab_rf (b0 : Nat) (r : Int) : Option Nat := if 0 < r then some (b0 + r.toNat) else none
def ab_cvR (b0 : Nat) (sA : Nat → Nat) (r : Int) : Value := if r = 0 then .null else if r < 0 then .ref (sA (-r).toNat) else .ref (b0 + r.toNat)
def ab_cv (b0 : Nat) (sA : Nat → Nat) : ab_V → Value
  | .inl x => .int (Int32.ofInt x)
  | .inr (.inl x) => .long (Int64.ofInt x)
  | .inr (.inr r) => ab_cvR b0 sA r
def ab_cvT (b0 : Nat) (t : Nat) (x : Int) : Value := match t with
  | 0 => .int (Int32.ofInt x)
  | 1 => .long (Int64.ofInt x)
  | _ => va_rf (ab_rf b0 x)
def ab_tv (t : Nat) (x : Int) : ab_V := match t with
  | 0 => .inl x
  | 1 => .inr (.inl x)
  | _ => .inr (.inr x)
theorem ab_rf_cv {b0 : Nat} {sA : Nat → Nat} {r : Int} (h : 0 ≤ r) : va_rf (ab_rf b0 r) = ab_cvR b0 sA r := by
  unfold ab_rf ab_cvR va_rf
  by_cases h0 : r = 0
  · subst h0; simp
  · rw [if_pos (by omega), if_neg h0, if_neg (by omega)]
theorem ab_cvT_tv {b0 : Nat} {sA : Nat → Nat} {t : Nat} {x : Int} (ht : t ≤ 2) (h : ab_okx t x) : ab_cvT b0 t x = ab_cv b0 sA (ab_tv t x) := by
  match t, ht with
  | 0, _ => rfl
  | 1, _ => rfl
  | 2, _ => exact ab_rf_cv h
theorem ab_tc_le (ty : FieldType) : ab_tc ty ≤ 2 := by unfold ab_tc; split <;> omega
theorem ab_okv_tv {t : Nat} {x : Int} (ht : t ≤ 2) (h : ab_okx t x) : ab_okv (ab_tv t x) := by
  match t, ht with
  | 0, _ => exact h
  | 1, _ => exact h
  | 2, _ => exact trivial
def ab_ent (b0 : Nat) (cy : Nat → ClassId) (c : ab_C) : va_E :=
  if c.1 = 11 then .inl (cy 0, c.2.1, .inl (fun i => Int32.ofInt (c.2.2 i)))
  else if c.1 = 12 then .inl (cy 1, c.2.1, .inr (.inl (fun i => Int64.ofInt (c.2.2 i))))
  else if c.1 = 13 then .inl (cy 2, c.2.1, .inl (fun i => Int32.ofInt (c.2.2 i)))
  else if c.1 = 14 then .inl (cy 3, c.2.1, .inr (.inr (.inr (.inr (fun i => ab_rf b0 (c.2.2 i))))))
  else if c.1 = 15 then .inl (cy 4, c.2.1, .inr (.inr (.inr (.inr (fun i => ab_rf b0 (c.2.2 i))))))
  else .inr (c.1 - 1, (List.range c.2.1).map (fun i => ab_cvT b0 (ab_tc (ab_fty (c.1 - 1) i)) (c.2.2 i)))
def ab_W (b0 : Nat) (cy : Nat → ClassId) (h : ab_H) : va_W := (List.range h.1).map (fun k => (b0 + (k + 1), ab_ent b0 cy (h.2.2 (k + 1))))
def ab_tys (cy : Nat → ClassId) : List (ClassId × FieldType) := [(cy 0, .int), (cy 1, .long), (cy 2, .byte), (cy 3, .object RX0), (cy 4, .object RX2)]
def ab_set (h : ab_H) (a : Nat) (c : ab_C) : ab_H := (h.1, h.2.1, fun j => if j = a then c else h.2.2 j)
def ab_push (h : ab_H) (n : Nat) (c : ab_C) : ab_H := (h.1 + 1, h.2.1 + n, fun j => if j = h.1 + 1 then c else h.2.2 j)
theorem ab_W_get {b0 : Nat} {cy : Nat → ClassId} {h : ab_H} {a : Nat} (h1 : 1 ≤ a) (h2 : a ≤ h.1) : (ab_W b0 cy h)[a - 1]? = some (b0 + a, ab_ent b0 cy (h.2.2 a)) := by
  unfold ab_W
  rw [List.getElem?_map, List.getElem?_range (by omega)]
  simp only [Option.map_some]
  rw [show a - 1 + 1 = a by omega]
theorem ab_W_at {b0 : Nat} {cy : Nat → ClassId} {h : ab_H} {k : Nat} {q : Nat × va_E} (hq : (ab_W b0 cy h)[k]? = some q) : k < h.1 ∧ q = (b0 + (k + 1), ab_ent b0 cy (h.2.2 (k + 1))) := by
  unfold ab_W at hq
  rw [List.getElem?_map] at hq
  by_cases hk : k < h.1
  · rw [List.getElem?_range hk] at hq
    simp only [Option.map_some, Option.some.injEq] at hq
    exact ⟨hk, hq.symm⟩
  · rw [List.getElem?_eq_none (by simp; omega)] at hq
    cases hq
theorem ab_W_set {b0 : Nat} {cy : Nat → ClassId} {h : ab_H} {a : Nat} {c : ab_C} (h1 : 1 ≤ a) (h2 : a ≤ h.1) : (ab_W b0 cy h).set (a - 1) (b0 + a, ab_ent b0 cy c) = ab_W b0 cy (ab_set h a c) := by
  apply List.ext_getElem?
  intro k
  rw [List.getElem?_set]
  have hlen : (ab_W b0 cy h).length = h.1 := by simp [ab_W]
  by_cases hk : a - 1 = k
  · subst hk
    rw [if_pos rfl, hlen, if_pos (by omega), ab_W_get (h := ab_set h a c) h1 h2]
    simp [ab_set]
  · rw [if_neg hk]
    by_cases hk2 : k < h.1
    · have e1 := ab_W_get (b0 := b0) (cy := cy) (h := h) (a := k + 1) (by omega) (by omega)
      have e2 := ab_W_get (b0 := b0) (cy := cy) (h := ab_set h a c) (a := k + 1) (by omega) (by show k + 1 ≤ h.1; omega)
      simp only [Nat.add_sub_cancel] at e1 e2
      rw [e1, e2]
      simp only [ab_set]
      rw [if_neg (by omega)]
    · rw [List.getElem?_eq_none (by omega), List.getElem?_eq_none (by simp [ab_W, ab_set]; omega)]
theorem ab_W_push {b0 : Nat} {cy : Nat → ClassId} {h : ab_H} {n : Nat} {c : ab_C} : ab_W b0 cy (ab_push h n c) = ab_W b0 cy h ++ [(b0 + (h.1 + 1), ab_ent b0 cy c)] := by
  unfold ab_W ab_push
  simp only [List.range_succ, List.map_append, List.map_cons, List.map_nil, if_true]
  congr 1
  apply List.map_congr_left
  intro k hk
  have := List.mem_range.mp hk
  rw [if_neg (by omega)]
theorem ab_WD {b0 : Nat} {cy : Nat → ClassId} {h : ab_H} : va_D (ab_A b0) (ab_W b0 cy h) := by
  refine ⟨fun i j p q hp hq e => ?_, fun k q hq => ?_⟩
  · obtain ⟨-, rfl⟩ := ab_W_at hp
    obtain ⟨-, rfl⟩ := ab_W_at hq
    simp only at e
    omega
  · obtain ⟨-, rfl⟩ := ab_W_at hq
    show b0 < b0 + (k + 1)
    omega
theorem ab_there {h : ab_H} (hh : ab_okh h) {r : Int} {k : Nat} (hk : 0 < k) (e : (h.2.2 r.toNat).1 = k) : 1 ≤ r.toNat ∧ r.toNat ≤ h.1 ∧ 0 < r := by
  have h1 : r.toNat ≠ 0 := fun q => by rw [q, hh.2.1] at e; omega
  have h2 : r.toNat ≤ h.1 := by
    rcases Nat.lt_or_ge h.1 r.toNat with q | q
    · rw [hh.2.2 _ q] at e; omega
    · exact q
  exact ⟨by omega, h2, by omega⟩
theorem ab_cvR_pos {b0 : Nat} {sA : Nat → Nat} {r : Int} (h : 0 < r) : ab_cvR b0 sA r = .ref (b0 + r.toNat) := by
  unfold ab_cvR; rw [if_neg (by omega), if_neg (by omega)]
theorem ab_cvR_neg {b0 : Nat} {sA : Nat → Nat} {r : Int} (h : r < 0) : ab_cvR b0 sA r = .ref (sA (-r).toNat) := by
  unfold ab_cvR; rw [if_neg (by omega), if_pos h]
theorem ab_set_ok {h : ab_H} (hh : ab_okh h) {a : Nat} {c : ab_C} (hc : ab_okc c) (h1 : 1 ≤ a) (h2 : a ≤ h.1) : ab_okh (ab_set h a c) := by
  refine ⟨fun j => ?_, ?_, fun j hj => ?_⟩
  · simp only [ab_set]; split
    · exact hc
    · exact hh.1 j
  · simp only [ab_set]; rw [if_neg (by omega)]; exact hh.2.1
  · simp only [ab_set] at hj ⊢; rw [if_neg (by omega)]; exact hh.2.2 j hj
theorem ab_push_ok {h : ab_H} (hh : ab_okh h) {n : Nat} {c : ab_C} (hc : ab_okc c) : ab_okh (ab_push h n c) := by
  refine ⟨fun j => ?_, ?_, fun j hj => ?_⟩
  · simp only [ab_push]; split
    · exact hc
    · exact hh.1 j
  · simp only [ab_push]; rw [if_neg (by omega)]; exact hh.2.1
  · simp only [ab_push] at hj ⊢; rw [if_neg (by omega)]; exact hh.2.2 j (by omega)
/-! the locals -/
def ab_lv (b0 : Nat) (sA : Nat → Nat) : Nat → List (Option ab_V) → List (Nat × Value)
  | _, [] => []
  | k, none :: r => ab_lv b0 sA (k + 1) r
  | k, some v :: r => (k, ab_cv b0 sA v) :: ab_lv b0 sA (k + 1) r
theorem ab_lv_mem {b0 : Nat} {sA : Nat → Nat} : ∀ (lv : List (Option ab_V)) (k : Nat) (q : Nat × Value), q ∈ ab_lv b0 sA k lv ↔ ∃ (i : Nat) (v : ab_V), lv[i]? = some (some v) ∧ q = (k + i, ab_cv b0 sA v)
  | [], k, q => by simp [ab_lv]
  | none :: r, k, q => by
    rw [ab_lv, ab_lv_mem r (k + 1) q]
    constructor
    · rintro ⟨i, v, h1, h2⟩
      exact ⟨i + 1, v, by simpa using h1, by rw [h2]; congr 1; omega⟩
    · rintro ⟨i, v, h1, h2⟩
      match i with
      | 0 => simp at h1
      | i + 1 => exact ⟨i, v, by simpa using h1, by rw [h2]; congr 1; omega⟩
  | some w :: r, k, q => by
    rw [ab_lv, List.mem_cons, ab_lv_mem r (k + 1) q]
    constructor
    · rintro (h | ⟨i, v, h1, h2⟩)
      · exact ⟨0, w, by simp, by rw [h]; rfl⟩
      · exact ⟨i + 1, v, by simpa using h1, by rw [h2]; congr 1; omega⟩
    · rintro ⟨i, v, h1, h2⟩
      match i with
      | 0 => left; simp at h1; rw [h2, h1]; rfl
      | i + 1 => right; exact ⟨i, v, by simpa using h1, by rw [h2]; congr 1; omega⟩
theorem ab_lv_read {b0 : Nat} {sA : Nat → Nat} {ls : Array Slot} {nL : Nat} {lv : List (Option ab_V)} (h : lv_has ls nL (ab_lv b0 sA 0 lv)) {i : Nat} {v : ab_V} (hi : lv[i]? = some (some v)) : ls[i]? = some (.val (ab_cv b0 sA v)) :=
  h.2.2 (i, ab_cv b0 sA v) ((ab_lv_mem lv 0 _).mpr ⟨i, v, hi, by simp⟩)
theorem ab_lv_less {b0 : Nat} {sA : Nat → Nat} {ls : Array Slot} {nL : Nat} {lv lv' : List (Option ab_V)} (h : lv_has ls nL (ab_lv b0 sA 0 lv)) (hs : ∀ (i : Nat) (v : ab_V), lv'[i]? = some (some v) → lv[i]? = some (some v)) : lv_has ls nL (ab_lv b0 sA 0 lv') := by
  refine ⟨h.1, h.2.1, fun q hq => ?_⟩
  obtain ⟨i, v, h1, rfl⟩ := (ab_lv_mem lv' 0 q).mp hq
  exact h.2.2 _ ((ab_lv_mem lv 0 _).mpr ⟨i, v, hs i v h1, rfl⟩)
