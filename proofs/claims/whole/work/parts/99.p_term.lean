/-! a term is read -/
abbrev RS (α : Type) : Type := Sum (Int × Int) α
section PT
variable {T : Nat → Int} {L N : Nat}
def jn (T : Nat → Int) (L N : Nat) (key : Int) (j : Nat) : RS (Int × Nat) :=
  if k8 T L (sJ T L j) = 1 ∧ v8 T L (sJ T L j) = key then (if k8 T L (sJ T L (nxJ N j)) = 2 then .inr (v8 T L (sJ T L (nxJ N j)), nxJ N (nxJ N j)) else .inl (1, (sJ T L (nxJ N j) : Int))) else .inr (0, j)
/-- behind the role: name, via, back -/
def tm2 (T : Nat → Int) (L N : Nat) (j : Nat) : RS (Nat × Int × Int × Int) :=
  if k8 T L (sJ T L j) = 2 then
    match jn T L N 13 (nxJ N j) with
    | .inl e => .inl e
    | .inr (via, j3) =>
      match jn T L N 14 j3 with
      | .inl e => .inl e
      | .inr (back, j4) => .inr (j4, v8 T L (sJ T L j), via, back)
  else .inl (1, (sJ T L j : Int))
abbrev isNot (T : Nat → Int) (L j : Nat) : Prop := k8 T L (sJ T L j) = 1 ∧ v8 T L (sJ T L j) = 12
/-- role, leads, name, via, back -/
def tmS (T : Nat → Int) (L N : Nat) (j i : Nat) (pr : Int) : RS (Nat × Int × Int × Int × Int × Int) :=
  if ¬ isNot T L j ∧ chc T L (sJ T L j) 3 6 = -1 then .inl (1, (sJ T L j : Int))
  else if ¬ i < 6 then .inl (4, (sJ T L j : Int))
  else if chc T L (sJ T L (if isNot T L j then nxJ N j else j)) 3 6 = -1 then .inl (1, (sJ T L (if isNot T L j then nxJ N j else j) : Int))
  else if chc T L (sJ T L (if isNot T L j then nxJ N j else j)) 3 6 < pr then .inl (5, (sJ T L (if isNot T L j then nxJ N j else j) : Int))
  else match tm2 T L N (nxJ N (if isNot T L j then nxJ N j else j)) with
    | .inl e => .inl e
    | .inr (j', nm, via, back) => .inr (j', chc T L (sJ T L (if isNot T L j then nxJ N j else j)) 3 6, (if isNot T L j then 0 else 1), nm, via, back)
/-- only the fields 5, 7, 9, 10 of the reader change -/
def Fd8 (σ σ' : st_S) : Prop := (∀ c, c ≠ 8 → σ' c = σ c) ∧ ∀ f, f ≠ 5 → f ≠ 7 → f ≠ 9 → f ≠ 10 → σ' 8 f = σ 8 f
theorem Fd8.rfl' {σ : st_S} : Fd8 σ σ := ⟨fun _ _ => rfl, fun _ _ _ _ _ => rfl⟩
theorem Fd8.trans {σ σ1 σ2 : st_S} (h : Fd8 σ σ1) (h2 : Fd8 σ1 σ2) : Fd8 σ σ2 := ⟨fun c x => by rw [h2.1 c x, h.1 c x], fun f a b c d => by rw [h2.2 f a b c d, h.2 f a b c d]⟩
theorem Fd8.s5 {σ σ' : st_S} (h : ∀ c, c ≠ 8 → σ' c = σ c) (h2 : ∀ f, f ≠ 5 → σ' 8 f = σ 8 f) : Fd8 σ σ' := ⟨h, fun f a _ _ _ => h2 f a⟩
theorem Fd8.fl {σ : st_S} (c p : Int) : Fd8 σ (e8 σ c p) := by
  unfold e8
  exact ⟨fun a x => by rw [up2_o _ _ x, up2_o _ _ x], fun f _ _ a b => by rw [up2_ne _ _ (fun q => b q.2), up2_ne _ _ (fun q => a q.2)]⟩
def Jn8 (T : Nat → Int) (L N : Nat) (σ σ' : st_S) (r : Int) : RS (Int × Nat) → Prop
  | .inl (c, p) => r = 0 ∧ σ' 8 9 = c ∧ σ' 8 10 = p
  | .inr (x, j') => r = 1 ∧ Cu8 σ' T L N j' ∧ σ' 8 7 = x ∧ σ' 8 9 = σ 8 9 ∧ σ' 8 10 = σ 8 10
theorem e89 {σ : st_S} (c p : Int) : e8 σ c p 8 9 = c ∧ e8 σ c p 8 10 = p := by
  unfold e8; exact ⟨by rw [up2_ne _ _ (by decide), up2_at], up2_at _ _ _ _⟩
theorem p4_readJoin {σ : st_S} {j : Nat} (h : Cu8 σ T L N j) (key : Int) : ∃ r σ', g_X4_readJoin key σ = some (r, σ') ∧ Fd8 σ σ' ∧ Jn8 T L N σ σ' r (jn T L N key j) := by
  have h1 : Cu8 (up2 σ 8 7 0) T L N j := h.fr (fun c a b => up2_o _ _ (by omega)) (up2_ne _ _ (by decide)) (up2_ne _ _ (by decide))
  have f1 : Fd8 σ (up2 σ 8 7 0) := ⟨fun c x => up2_o _ _ x, fun f _ a _ _ => up2_ne _ _ (fun q => a q.2)⟩
  unfold g_X4_readJoin jn
  by_cases e : k8 T L (sJ T L j) = 1 ∧ v8 T L (sJ T L j) = key
  · obtain ⟨s1, a1, a2, a3, a4⟩ := p4_step h1
    rw [if_pos e]
    by_cases e2 : k8 T L (sJ T L (nxJ N j)) = 2
    · have s7 : Cu8 (up2 s1 8 7 (v8 T L (sJ T L (nxJ N j)))) T L N (nxJ N j) := a2.fr (fun c a b => up2_o _ _ (by omega)) (up2_ne _ _ (by decide)) (up2_ne _ _ (by decide))
      obtain ⟨s2, b1, b2, b3, b4⟩ := p4_step s7
      rw [if_pos e2]
      refine ⟨1, s2, ?_, (f1.trans (Fd8.s5 a3 a4)).trans (Fd8.trans (σ1 := up2 s1 8 7 (v8 T L (sJ T L (nxJ N j)))) ⟨fun c x => up2_o _ _ x, fun f _ a _ _ => up2_ne _ _ (fun q => a q.2)⟩ (Fd8.s5 b3 b4)), ⟨rfl, b2, by rw [b4 7 (by decide), up2_at], by rw [b4 9 (by decide), up2_ne _ _ (by decide), a4 9 (by decide), up2_ne _ _ (by decide)], by rw [b4 10 (by decide), up2_ne _ _ (by decide), a4 10 (by decide), up2_ne _ _ (by decide)]⟩⟩
      rw [Option.bind_some, p4_isKey h1, if_pos e, Option.bind_some]
      dsimp only
      rw [if_neg one0, a1, Option.bind_some, p4_kind a2, Option.bind_some, if_pos e2, p4_val a2 (by rw [e2]; decide) (by rw [e2]; decide), Option.bind_some, Option.bind_some, b1]; rfl
    · rw [if_neg e2]
      refine ⟨0, e8 s1 1 (sJ T L (nxJ N j) : Int), ?_, (f1.trans (Fd8.s5 a3 a4)).trans (Fd8.fl _ _), ⟨rfl, (e89 _ _).1, (e89 _ _).2⟩⟩
      rw [Option.bind_some, p4_isKey h1, if_pos e, Option.bind_some]
      dsimp only
      rw [if_neg one0, a1, Option.bind_some, p4_kind a2, Option.bind_some, if_neg e2, p4_fail a2]; rfl
  · rw [if_neg e]
    refine ⟨1, up2 σ 8 7 0, ?_, f1, ⟨rfl, h1, up2_at _ _ _ _, up2_ne _ _ (by decide), up2_ne _ _ (by decide)⟩⟩
    rw [Option.bind_some, p4_isKey h1, if_neg e, Option.bind_some]
    dsimp only
    rw [if_pos rfl]
/-- the reference: a join -/
def Jn9 (T : Nat → Int) (L : Nat) (σ' : st_S) (x : Int) : RS (Int × Nat) → Prop
  | .inl (c, p) => σ' 596 10 = c ∧ σ' 596 11 = p ∧ c ≠ 0
  | .inr (y, j') => x = y ∧ A9 σ' T L j' ∧ σ' 596 10 = 0
/-- only the fields 6 to 11 of the reference change -/
def F9r (σ σ' : st_S) : Prop := (∀ c, c ≠ 596 → σ' c = σ c) ∧ ∀ f, (f < 6 ∨ 11 < f) → σ' 596 f = σ 596 f
theorem F69.r {σ σ' : st_S} (h : F69 σ σ') : F9r σ σ' := ⟨h.1, fun f hf => h.2 f (by omega)⟩
theorem F9r.rfl' {σ : st_S} : F9r σ σ := ⟨fun _ _ => rfl, fun _ _ => rfl⟩
theorem F9r.trans {σ σ1 σ2 : st_S} (h : F9r σ σ1) (h2 : F9r σ1 σ2) : F9r σ σ2 := ⟨fun c x => by rw [h2.1 c x, h.1 c x], fun f x => by rw [h2.2 f x, h.2 f x]⟩
theorem F9r.fl {σ : st_S} (c p : Int) : F9r σ (er σ c p) := by
  unfold er
  exact ⟨fun a x => by rw [up2_o _ _ x, up2_o _ _ x], fun f hf => by rw [up2_ne _ _ (fun q => by have := q.2; omega), up2_ne _ _ (fun q => by have := q.2; omega)]⟩
/-- eats the key, then a word -/
theorem p9_join (ox : okX T L) (hN : sJ T L N = L) {σ : st_S} {j : Nat} (hj : j ≤ N) (h : A9 σ T L j) (hg : σ 596 10 = 0) {k : Nat} (hk : k < 15) :
    ∃ x σ', (∀ K : Int → st_S → Option st_S, ((g_X9_eats (kA k) σ).bind fun q4 => if q4.1 = (0 : Int) then K 0 q4.2 else (g_X9_wordRead q4.2).bind fun q5 => K q5.1 q5.2) = K x σ') ∧ F9r σ σ' ∧ Jn9 T L σ' x (jn T L N (k : Int) j) := by
  unfold jn
  rcases p9_eats ox hN hj h hg hk with ⟨e1, e2, s1, a1, a2, a3⟩ | ⟨e1, a1⟩
  · have hg1 : s1 596 10 = 0 := by rw [a3.2 10 (by omega)]; exact hg
    rw [if_pos ⟨e1, e2⟩]
    rcases p9_wordRead ox hN (nx_le hj) a2 hg1 with ⟨b1, s2, b2, b3, b4⟩ | ⟨b1, b2⟩
    · rw [if_pos b1]
      refine ⟨_, s2, fun K => ?_, (a3.trans b4).r, ⟨rfl, b3, by rw [b4.2 10 (by omega)]; exact hg1⟩⟩
      rw [a1, Option.bind_some]
      dsimp only
      rw [if_neg one0, b2, Option.bind_some]
    · rw [if_neg b1]
      refine ⟨0, er s1 1 (sJ T L (nxJ N j) : Int), fun K => ?_, a3.r.trans (F9r.fl _ _), ⟨er10 _ _, er11 _ _, by decide⟩⟩
      rw [a1, Option.bind_some]
      dsimp only
      rw [if_neg one0, b2, Option.bind_some]
  · rw [if_neg e1]
    refine ⟨0, σ, fun K => ?_, F9r.rfl', ⟨rfl, h, hg⟩⟩
    rw [a1, Option.bind_some]
    dsimp only
    rw [if_pos rfl]
/-- where all has gone wrong before, nothing happens -/
theorem p9_join0 {σ : st_S} (hg : σ 596 10 ≠ 0) {k : Nat} (hk : k < 15) (K : Int → st_S → Option st_S) : ((g_X9_eats (kA k) σ).bind fun q4 => if q4.1 = (0 : Int) then K 0 q4.2 else (g_X9_wordRead q4.2).bind fun q5 => K q5.1 q5.2) = K 0 σ := by
  rw [p9_eats0 hg hk, Option.bind_some]
  dsimp only
  rw [if_pos rfl]
end PT
