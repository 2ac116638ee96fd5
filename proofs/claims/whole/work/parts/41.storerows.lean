/-! rows between functions over heaps and functions over stores -/
def IsA (kd n a : Nat) : Prop := (ly a).1 = kd ∧ (ly a).2 = n ∧ ∀ f, ly_r a f = 0
/-- an object of kind kd at a: its field f is a number (0) or the fixed reference v -/
def IsO (kd a : Nat) : Prop := (ly a).1 = kd
def sa_ld (σ : st_S) (a n : Nat) (i : Int) : Option Int := if 0 ≤ i ∧ i < (n : Int) then some (σ a i.toNat) else none
def sa_st (σ : st_S) (a n : Nat) (i x : Int) : Option st_S := if 0 ≤ i ∧ i < (n : Int) then some (up2 σ a i.toNat x) else none
def sa_cp (σ : st_S) (a na : Nat) (sp : Int) (b nb : Nat) (dp n : Int) : Option st_S := if 0 ≤ sp ∧ 0 ≤ dp ∧ 0 ≤ n ∧ sp + n ≤ (na : Int) ∧ dp + n ≤ (nb : Int) then some (cp2 σ a sp.toNat b dp.toNat n.toNat) else none
def isEn (x : Nat) : Bool := decide (160 ≤ x ∧ x ≤ 375 ∧ (x - 160) % 3 = 0 ∨ 380 ≤ x ∧ x ≤ 595 ∧ (x - 380) % 3 = 0)
def isBk (x : Nat) : Bool := decide (x = 13 ∨ x = 24 ∨ 37 ≤ x ∧ x ≤ 146 ∧ (x - 37) % 11 = 0)
def isBy (x : Nat) : Bool := decide (x = 2 ∨ x = 4 ∨ x = 6)
def isTu (x : Nat) : Bool := decide (x = 156 ∨ x = 376)
def sa_en (x : Int) : Option Nat := if 0 ≤ x ∧ isEn x.toNat = true then some x.toNat else none
section MB
variable {α : Type} {σ : st_S} {F : Int → Option α} {G : ab_H → Option α} {q : α}
theorem mb_get {k a f : Nat} (hk : (ly a).1 = k) (hr : ly_r a f = 0) (kk : F (σ a f) = some q) : (ab_get (mk_ σ) k f ((a : Nat) : Int)).bind F = some q := by
  rw [mk_get (r := ((a : Nat) : Int)) hk hr]; exact kk
theorem mb_getR {k a f : Nat} (v : Nat) (hk : (ly a).1 = k) (hr : ly_r a f = v) (hv : v ≠ 0) (kk : F ((v : Nat) : Int) = some q) : (ab_get (mk_ σ) k f ((a : Nat) : Int)).bind F = some q := by
  rw [mk_getR (r := ((a : Nat) : Int)) v hk hr hv]; exact kk
theorem mb_put {k a f : Nat} {x : Int} {σ2 : st_S} (hk : (ly a).1 = k) (hr : ly_r a f = 0) (hs : some (up2 σ a f x) = some σ2) (kk : G (mk_ σ2) = some q) : (ab_put (mk_ σ) k f ((a : Nat) : Int) x).bind G = some q := by
  rw [mk_put (r := ((a : Nat) : Int)) hk hr]; cases hs; exact kk
theorem mb_ald {k n a : Nat} {i t : Int} (ha : IsA k n a) (hs : sa_ld σ a n i = some t) (kk : F t = some q) : (ab_ald (mk_ σ) k ((a : Nat) : Int) i).bind F = some q := by
  unfold sa_ld at hs; split at hs
  · next hc =>
    cases hs
    rw [mk_ald (r := ((a : Nat) : Int)) ha.1 (ha.2.2 _) hc.1 (by show i < ((ly a).2 : Int); rw [ha.2.1]; exact hc.2)]; exact kk
  · cases hs
theorem mb_ast {k n a : Nat} {i x : Int} {σ2 : st_S} (ha : IsA k n a) (hs : sa_st σ a n i x = some σ2) (kk : G (mk_ σ2) = some q) : (ab_ast (mk_ σ) k ((a : Nat) : Int) i x).bind G = some q := by
  unfold sa_st at hs; split at hs
  · next hc =>
    cases hs
    rw [mk_ast (r := ((a : Nat) : Int)) ha.1 (ha.2.2 _) hc.1 (by show i < ((ly a).2 : Int); rw [ha.2.1]; exact hc.2)]; exact kk
  · cases hs
theorem mb_cpy {k na nb a b : Nat} {sp dp n : Int} {σ2 : st_S} (ha : IsA k na a) (hb : IsA k nb b) (hs : sa_cp σ a na sp b nb dp n = some σ2) (kk : G (mk_ σ2) = some q) : (ab_cpy (mk_ σ) k ((a : Nat) : Int) sp ((b : Nat) : Int) dp n).bind G = some q := by
  unfold sa_cp at hs; split at hs
  · next hc =>
    cases hs
    rw [mk_cpy (a := ((a : Nat) : Int)) (b := ((b : Nat) : Int)) ha.1 hb.1 ha.2.2 hb.2.2 hc.1 hc.2.1 hc.2.2.1 (by show _ ≤ ((ly a).2 : Int); rw [ha.2.1]; exact hc.2.2.2.1) (by show _ ≤ ((ly b).2 : Int); rw [hb.2.1]; exact hc.2.2.2.2)]; exact kk
  · cases hs
theorem mb_len {k n a : Nat} (ha : IsA k n a) (kk : F ((n : Nat) : Int) = some q) : (ab_len (mk_ σ) k ((a : Nat) : Int)).bind F = some q := by
  rw [mk_len (r := ((a : Nat) : Int)) ha.1]
  show F ((ly a).2 : Int) = some q
  rw [ha.2.1]; exact kk
theorem mb_on {β : Type} {K : β → Option α} {k a : Nat} {y : Option β} {t : β} (hk : (ly a).1 = k) (hy : y = some t) (kk : K t = some q) : (ab_on (mk_ σ) k ((a : Nat) : Int) y).bind K = some q := by
  rw [mk_on (b := ((a : Nat) : Int)) hk, hy]; exact kk
theorem mb_eq {β : Type} {K : β → Option α} {y : Option β} {t : β} (hy : y = some t) (kk : K t = some q) : y.bind K = some q := by rw [hy]; exact kk
theorem mb_ifp {c : Prop} {inst : Decidable c} {x y : Option α} (hc : c) (k : x = some q) : (@ite (Option α) c inst x y) = some q := by rw [if_pos hc]; exact k
theorem mb_ifn {c : Prop} {inst : Decidable c} {x y : Option α} (hc : ¬ c) (k : y = some q) : (@ite (Option α) c inst x y) = some q := by rw [if_neg hc]; exact k
theorem mb_if {c : Bool} {x : Option α} (hc : c = true) (k : x = some q) : ab_if c x = some q := by unfold ab_if; rw [if_pos hc]; exact k
/-- an entry out of a row of entries -/
theorem mb_aldE {n a t : Nat} {i : Int} {y : Int} (ha : IsA 15 n a) (hs : sa_ld σ a n i = some y) (he : sa_en y = some t) (kk : F ((t : Nat) : Int) = some q) : (ab_ald (mk_ σ) 15 ((a : Nat) : Int) i).bind F = some q := by
  refine mb_ald ha hs ?_
  unfold sa_en at he; split at he
  · next hc =>
    cases he
    rw [show ((y.toNat : Nat) : Int) = y by omega] at kk
    exact kk
  · cases he
theorem mb_astE {n a : Nat} {i : Int} {e : Nat} {σ2 : st_S} (ha : IsA 15 n a) (he : (ly e).1 = 3) (hs : sa_st σ a n i ((e : Nat) : Int) = some σ2) (kk : G (mk_ σ2) = some q) : (ab_astR (mk_ σ) 15 3 ((a : Nat) : Int) i ((e : Nat) : Int)).bind G = some q := by
  unfold ab_astR
  rw [if_pos (show ((mk_ σ).2.2 (((e : Nat) : Int).toNat)).1 = 3 from he)]
  exact mb_ast ha hs kk
/-- a kept book -/
theorem mb_aldB {i : Int} {t : Nat} (hs : (if 0 ≤ i ∧ i < (10 : Int) then some (37 + 11 * i.toNat) else none) = some t) (kk : F ((t : Nat) : Int) = some q) : (ab_ald (mk_ σ) 14 ((36 : Nat) : Int) i).bind F = some q := by
  split at hs
  · next hc =>
    cases hs
    rw [mk_aldR (k := 14) (r := ((36 : Nat) : Int)) (37 + 11 * i.toNat) rfl ?_ (by omega) hc.1 hc.2]
    · exact kk
    · have : ∀ f, f < 10 → ly_r 36 f = 37 + 11 * f := by decide +kernel
      exact this _ (by omega)
  · cases hs
end MB
theorem kb_of {i : Int} {e : Nat} (h : (if 0 ≤ i ∧ i < (10 : Int) then some (37 + 11 * i.toNat) else none) = some e) : isBk e = true := by
  split at h
  · next hc =>
    cases h
    have : ∀ f, f < 10 → isBk (37 + 11 * f) = true := by decide +kernel
    exact this _ (by omega)
  · cases h
theorem en_of {x : Int} {e : Nat} (h : sa_en x = some e) : isEn e = true := by
  unfold sa_en at h; split at h
  · next hc => cases h; exact hc.2
  · cases h
theorem bk_of {a : Nat} (h : isBk a = true) : a = 13 ∨ a = 24 ∨ ∃ j, j < 10 ∧ a = 37 + 11 * j := by
  have := of_decide_eq_true h
  rcases this with h | h | h
  · exact Or.inl h
  · exact Or.inr (Or.inl h)
  · exact Or.inr (Or.inr ⟨(a - 37) / 11, by omega, by omega⟩)
theorem bk_ly {a : Nat} (h : isBk a = true) : (ly a).1 = 1 ∧ (∀ f, ly_r a f = ly_rb a f) ∧ IsA 11 12 (a + 1) ∧ IsA 11 12 (a + 2) ∧ IsA 11 72 (a + 3) ∧ IsA 11 72 (a + 4) ∧ IsA 12 72 (a + 5) ∧ IsA 12 72 (a + 6) ∧ IsA 12 72 (a + 7) ∧ IsA 11 6 (a + 8) ∧ IsA 12 12 (a + 9) ∧ IsA 12 12 (a + 10) := by
  rcases bk_of h with rfl | rfl | ⟨j, hj, rfl⟩
  · refine ⟨rfl, fun f => rfl, ?_, ?_, ?_, ?_, ?_, ?_, ?_, ?_, ?_, ?_⟩ <;> exact ⟨rfl, rfl, fun f => rfl⟩
  · refine ⟨rfl, fun f => rfl, ?_, ?_, ?_, ?_, ?_, ?_, ?_, ?_, ?_, ?_⟩ <;> exact ⟨rfl, rfl, fun f => rfl⟩
  · have key : ∀ j, j < 10 → (ly (37 + 11 * j)).1 = 1 ∧ (∀ k, k < 11 → ly (37 + 11 * j + k) = ly_bk k) := by decide +kernel
    have k2 : ∀ k f, 0 < k → k < 11 → ly_r (37 + 11 * j + k) f = 0 := by
      intro k f h0 h1
      simp only [ly_r]
      rw [if_neg (by omega), if_neg (by omega), if_neg (by omega), if_neg (by omega), if_neg (by omega), if_neg (by omega), if_pos (by omega), if_neg (by omega)]
    have k3 : ∀ f, ly_r (37 + 11 * j) f = ly_rb (37 + 11 * j) f := by
      intro f
      simp only [ly_r]
      rw [if_neg (by omega), if_neg (by omega), if_neg (by omega), if_neg (by omega), if_neg (by omega), if_neg (by omega), if_pos (by omega), if_pos (by omega)]
    obtain ⟨g1, g2⟩ := key j hj
    refine ⟨g1, k3, ?_, ?_, ?_, ?_, ?_, ?_, ?_, ?_, ?_, ?_⟩ <;> exact ⟨by rw [g2 _ (by decide)]; rfl, by rw [g2 _ (by decide)]; rfl, fun f => k2 _ f (by decide) (by decide)⟩
theorem en_ly {a : Nat} (h : isEn a = true) : (ly a).1 = 3 ∧ (∀ f, ly_r a f = ly_re a f) ∧ IsA 11 6 (a + 1) ∧ IsA 11 6 (a + 2) := by
  have h := of_decide_eq_true h
  have e3 : ∀ b c : Nat, b ≤ c → (c - b) % 3 = 0 → ly_en ((c - b) % 3) = (3, 11) ∧ ly_en ((c + 1 - b) % 3) = (11, 6) ∧ ly_en ((c + 2 - b) % 3) = (11, 6) := by
    intro b c hb hc
    have h1 : (c + 1 - b) % 3 = 1 := by omega
    have h2 : (c + 2 - b) % 3 = 2 := by omega
    rw [hc, h1, h2]; exact ⟨rfl, rfl, rfl⟩
  rcases h with h | h
  · obtain ⟨f1, f2, f3⟩ := e3 160 a h.1 h.2.2
    have l : ∀ c, 160 ≤ c → c ≤ 375 → ly c = ly_en ((c - 160) % 3) := by
      intro c h1 h2; unfold ly
      rw [if_neg (by omega), if_neg (by omega), if_neg (by omega), if_neg (by omega), if_neg (by omega), if_neg (by omega), if_neg (by omega), if_pos (by omega)]
    have r : ∀ c f, 160 ≤ c → c ≤ 375 → ly_r c f = if (c - 160) % 3 = 0 then ly_re c f else 0 := by
      intro c f h1 h2; unfold ly_r
      rw [if_neg (by omega), if_neg (by omega), if_neg (by omega), if_neg (by omega), if_neg (by omega), if_neg (by omega), if_neg (by omega), if_neg (by omega), if_neg (by omega), if_neg (by omega), if_pos (by omega)]
    refine ⟨by rw [l a h.1 h.2.1, f1], fun f => by rw [r a f h.1 h.2.1, if_pos h.2.2], ⟨by rw [l _ (by omega) (by omega), f2], by rw [l _ (by omega) (by omega), f2], fun f => by rw [r _ f (by omega) (by omega), if_neg (by omega)]⟩, ⟨by rw [l _ (by omega) (by omega), f3], by rw [l _ (by omega) (by omega), f3], fun f => by rw [r _ f (by omega) (by omega), if_neg (by omega)]⟩⟩
  · obtain ⟨f1, f2, f3⟩ := e3 380 a h.1 h.2.2
    have l : ∀ c, 380 ≤ c → c ≤ 595 → ly c = ly_en ((c - 380) % 3) := by
      intro c h1 h2; unfold ly
      rw [if_neg (by omega), if_neg (by omega), if_neg (by omega), if_neg (by omega), if_neg (by omega), if_neg (by omega), if_neg (by omega), if_neg (by omega), if_neg (by omega), if_pos (by omega)]
    have r : ∀ c f, 380 ≤ c → c ≤ 595 → ly_r c f = if (c - 380) % 3 = 0 then ly_re c f else 0 := by
      intro c f h1 h2; unfold ly_r
      rw [if_neg (by omega), if_neg (by omega), if_neg (by omega), if_neg (by omega), if_neg (by omega), if_neg (by omega), if_neg (by omega), if_neg (by omega), if_neg (by omega), if_neg (by omega), if_neg (by omega), if_pos (by omega)]
    refine ⟨by rw [l a h.1 h.2.1, f1], fun f => by rw [r a f h.1 h.2.1, if_pos h.2.2], ⟨by rw [l _ (by omega) (by omega), f2], by rw [l _ (by omega) (by omega), f2], fun f => by rw [r _ f (by omega) (by omega), if_neg (by omega)]⟩, ⟨by rw [l _ (by omega) (by omega), f3], by rw [l _ (by omega) (by omega), f3], fun f => by rw [r _ f (by omega) (by omega), if_neg (by omega)]⟩⟩
theorem tu_of {a : Nat} (h : isTu a = true) : a = 156 ∨ a = 376 := of_decide_eq_true h
theorem tu_ly {a : Nat} (h : isTu a = true) : (ly a).1 = 7 ∧ (∀ f, ly_r a f = if f = 0 then a + 1 else if f = 2 then a + 2 else if f = 4 then a + 3 else 0) ∧ (ly (a + 1)).1 = 15 ∧ IsA 15 72 (a + 1) ∧ IsA 11 73 (a + 2) ∧ IsA 11 73 (a + 3) := by
  rcases tu_of h with rfl | rfl <;> exact ⟨rfl, fun f => rfl, rfl, ⟨rfl, rfl, fun f => rfl⟩, ⟨rfl, rfl, fun f => rfl⟩, ⟨rfl, rfl, fun f => rfl⟩⟩
def by_n (a : Nat) : Nat := if a = 2 then 1200 else if a = 4 then 2000 else 160
theorem by_ly {a : Nat} (h : isBy a = true) : (ly a).1 = 2 ∧ (∀ f, ly_r a f = if f = 0 then a + 1 else 0) ∧ IsA 13 (by_n a) (a + 1) := by
  have h : a = 2 ∨ a = 4 ∨ a = 6 := of_decide_eq_true h
  rcases h with rfl | rfl | rfl <;> exact ⟨rfl, fun f => rfl, rfl, rfl, fun f => rfl⟩
