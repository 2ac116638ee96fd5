/-! branches, stores of locals -/
section ABB
variable {M : ab_M} {cc : ByteArray} {pc : Nat} {lv : List (Option ab_V)} {st : List ab_V} {h h' : ab_H} {r : Option ab_V}
theorem ab_if_eq {x : Int} {off : Int} {tgt : Nat} (hd : decode cc pc = .ok (.ifCond .eq off, 3)) (ht : (pc : Int) + off = (tgt : Int)) (kt : x = 0 → ab_E M cc tgt lv st h r h') (kf : ¬ x = 0 → ab_E M cc (pc + 3) lv st h r h') : ab_E M cc pc lv (ab_I x :: st) h r h' := by
  by_cases hc : x = 0
  · exact ab_stk (kt hc) (fun h5 _ _ => ab_okt h5) fun _ _ _ _ _ _ _ _ _ _ _ _ _ _ _ _ _ _ _ _ _ S0 D0 _ kW => by
      have hx : ab_i32 x := ab_okh1 D0.2.2.2.2.1
      exact lv_if_eq S0.1 S0.2.1 hd ht (fun _ => kW) (fun q => absurd ((ab_eq0 hx).mpr hc) q)
  · exact ab_stk (kf hc) (fun h5 _ _ => ab_okt h5) fun _ _ _ _ _ _ _ _ _ _ _ _ _ _ _ _ _ _ _ _ _ S0 D0 _ kW => by
      have hx : ab_i32 x := ab_okh1 D0.2.2.2.2.1
      exact lv_if_eq S0.1 S0.2.1 hd ht (fun q => absurd ((ab_eq0 hx).mp q) hc) (fun _ => kW)
theorem ab_if_ne {x : Int} {off : Int} {tgt : Nat} (hd : decode cc pc = .ok (.ifCond .ne off, 3)) (ht : (pc : Int) + off = (tgt : Int)) (kt : ¬ x = 0 → ab_E M cc tgt lv st h r h') (kf : x = 0 → ab_E M cc (pc + 3) lv st h r h') : ab_E M cc pc lv (ab_I x :: st) h r h' := by
  by_cases hc : x = 0
  · exact ab_stk (kf hc) (fun h5 _ _ => ab_okt h5) fun _ _ _ _ _ _ _ _ _ _ _ _ _ _ _ _ _ _ _ _ _ S0 D0 _ kW => by
      have hx : ab_i32 x := ab_okh1 D0.2.2.2.2.1
      exact lv_if_ne S0.1 S0.2.1 hd ht (fun q => absurd ((ab_eq0 hx).mpr hc) q) (fun _ => kW)
  · exact ab_stk (kt hc) (fun h5 _ _ => ab_okt h5) fun _ _ _ _ _ _ _ _ _ _ _ _ _ _ _ _ _ _ _ _ _ S0 D0 _ kW => by
      have hx : ab_i32 x := ab_okh1 D0.2.2.2.2.1
      exact lv_if_ne S0.1 S0.2.1 hd ht (fun _ => kW) (fun q => absurd ((ab_eq0 hx).mp q) hc)
theorem ab_if_lt {x : Int} {off : Int} {tgt : Nat} (hd : decode cc pc = .ok (.ifCond .lt off, 3)) (ht : (pc : Int) + off = (tgt : Int)) (kt : x < 0 → ab_E M cc tgt lv st h r h') (kf : ¬ x < 0 → ab_E M cc (pc + 3) lv st h r h') : ab_E M cc pc lv (ab_I x :: st) h r h' := by
  by_cases hc : x < 0
  · exact ab_stk (kt hc) (fun h5 _ _ => ab_okt h5) fun _ _ _ _ _ _ _ _ _ _ _ _ _ _ _ _ _ _ _ _ _ S0 D0 _ kW => by
      have hx : ab_i32 x := ab_okh1 D0.2.2.2.2.1
      exact lv_if_lt S0.1 S0.2.1 hd ht (fun _ => kW) (fun q => absurd ((ab_lt0 hx).mpr hc) q)
  · exact ab_stk (kf hc) (fun h5 _ _ => ab_okt h5) fun _ _ _ _ _ _ _ _ _ _ _ _ _ _ _ _ _ _ _ _ _ S0 D0 _ kW => by
      have hx : ab_i32 x := ab_okh1 D0.2.2.2.2.1
      exact lv_if_lt S0.1 S0.2.1 hd ht (fun q => absurd ((ab_lt0 hx).mp q) hc) (fun _ => kW)
theorem ab_if_ge {x : Int} {off : Int} {tgt : Nat} (hd : decode cc pc = .ok (.ifCond .ge off, 3)) (ht : (pc : Int) + off = (tgt : Int)) (kt : 0 ≤ x → ab_E M cc tgt lv st h r h') (kf : ¬ 0 ≤ x → ab_E M cc (pc + 3) lv st h r h') : ab_E M cc pc lv (ab_I x :: st) h r h' := by
  by_cases hc : 0 ≤ x
  · exact ab_stk (kt hc) (fun h5 _ _ => ab_okt h5) fun _ _ _ _ _ _ _ _ _ _ _ _ _ _ _ _ _ _ _ _ _ S0 D0 _ kW => by
      have hx : ab_i32 x := ab_okh1 D0.2.2.2.2.1
      exact lv_if_ge S0.1 S0.2.1 hd ht (fun _ => kW) (fun q => absurd ((ab_0le hx).mpr hc) q)
  · exact ab_stk (kf hc) (fun h5 _ _ => ab_okt h5) fun _ _ _ _ _ _ _ _ _ _ _ _ _ _ _ _ _ _ _ _ _ S0 D0 _ kW => by
      have hx : ab_i32 x := ab_okh1 D0.2.2.2.2.1
      exact lv_if_ge S0.1 S0.2.1 hd ht (fun q => absurd ((ab_0le hx).mp q) hc) (fun _ => kW)
theorem ab_if_gt {x : Int} {off : Int} {tgt : Nat} (hd : decode cc pc = .ok (.ifCond .gt off, 3)) (ht : (pc : Int) + off = (tgt : Int)) (kt : 0 < x → ab_E M cc tgt lv st h r h') (kf : ¬ 0 < x → ab_E M cc (pc + 3) lv st h r h') : ab_E M cc pc lv (ab_I x :: st) h r h' := by
  by_cases hc : 0 < x
  · exact ab_stk (kt hc) (fun h5 _ _ => ab_okt h5) fun _ _ _ _ _ _ _ _ _ _ _ _ _ _ _ _ _ _ _ _ _ S0 D0 _ kW => by
      have hx : ab_i32 x := ab_okh1 D0.2.2.2.2.1
      exact lv_if_gt S0.1 S0.2.1 hd ht (fun _ => kW) (fun q => absurd ((ab_0lt hx).mpr hc) q)
  · exact ab_stk (kf hc) (fun h5 _ _ => ab_okt h5) fun _ _ _ _ _ _ _ _ _ _ _ _ _ _ _ _ _ _ _ _ _ S0 D0 _ kW => by
      have hx : ab_i32 x := ab_okh1 D0.2.2.2.2.1
      exact lv_if_gt S0.1 S0.2.1 hd ht (fun q => absurd ((ab_0lt hx).mp q) hc) (fun _ => kW)
theorem ab_if_le {x : Int} {off : Int} {tgt : Nat} (hd : decode cc pc = .ok (.ifCond .le off, 3)) (ht : (pc : Int) + off = (tgt : Int)) (kt : x ≤ 0 → ab_E M cc tgt lv st h r h') (kf : ¬ x ≤ 0 → ab_E M cc (pc + 3) lv st h r h') : ab_E M cc pc lv (ab_I x :: st) h r h' := by
  by_cases hc : x ≤ 0
  · exact ab_stk (kt hc) (fun h5 _ _ => ab_okt h5) fun _ _ _ _ _ _ _ _ _ _ _ _ _ _ _ _ _ _ _ _ _ S0 D0 _ kW => by
      have hx : ab_i32 x := ab_okh1 D0.2.2.2.2.1
      exact lv_if_le S0.1 S0.2.1 hd ht (fun _ => kW) (fun q => absurd ((ab_le0 hx).mpr hc) q)
  · exact ab_stk (kf hc) (fun h5 _ _ => ab_okt h5) fun _ _ _ _ _ _ _ _ _ _ _ _ _ _ _ _ _ _ _ _ _ S0 D0 _ kW => by
      have hx : ab_i32 x := ab_okh1 D0.2.2.2.2.1
      exact lv_if_le S0.1 S0.2.1 hd ht (fun q => absurd ((ab_le0 hx).mp q) hc) (fun _ => kW)
theorem ab_icmp_eq {x y : Int} {off : Int} {tgt : Nat} (hd : decode cc pc = .ok (.if_icmp .eq off, 3)) (ht : (pc : Int) + off = (tgt : Int)) (kt : x = y → ab_E M cc tgt lv st h r h') (kf : ¬ x = y → ab_E M cc (pc + 3) lv st h r h') : ab_E M cc pc lv (ab_I y :: ab_I x :: st) h r h' := by
  by_cases hc : x = y
  · exact ab_stk (kt hc) (fun h5 _ _ => ab_okt (ab_okt h5)) fun _ _ _ _ _ _ _ _ _ _ _ _ _ _ _ _ _ _ _ _ _ S0 D0 _ kW => by
      have hy : ab_i32 y := ab_okh1 D0.2.2.2.2.1
      have hx : ab_i32 x := ab_okh1 (ab_okt D0.2.2.2.2.1)
      exact lv_icmp_eq S0.1 S0.2.1 hd ht (fun _ => kW) (fun q => absurd ((ab_eq hx hy).mpr hc) q)
  · exact ab_stk (kf hc) (fun h5 _ _ => ab_okt (ab_okt h5)) fun _ _ _ _ _ _ _ _ _ _ _ _ _ _ _ _ _ _ _ _ _ S0 D0 _ kW => by
      have hy : ab_i32 y := ab_okh1 D0.2.2.2.2.1
      have hx : ab_i32 x := ab_okh1 (ab_okt D0.2.2.2.2.1)
      exact lv_icmp_eq S0.1 S0.2.1 hd ht (fun q => absurd ((ab_eq hx hy).mp q) hc) (fun _ => kW)
theorem ab_icmp_ne {x y : Int} {off : Int} {tgt : Nat} (hd : decode cc pc = .ok (.if_icmp .ne off, 3)) (ht : (pc : Int) + off = (tgt : Int)) (kt : ¬ x = y → ab_E M cc tgt lv st h r h') (kf : x = y → ab_E M cc (pc + 3) lv st h r h') : ab_E M cc pc lv (ab_I y :: ab_I x :: st) h r h' := by
  by_cases hc : x = y
  · exact ab_stk (kf hc) (fun h5 _ _ => ab_okt (ab_okt h5)) fun _ _ _ _ _ _ _ _ _ _ _ _ _ _ _ _ _ _ _ _ _ S0 D0 _ kW => by
      have hy : ab_i32 y := ab_okh1 D0.2.2.2.2.1
      have hx : ab_i32 x := ab_okh1 (ab_okt D0.2.2.2.2.1)
      exact lv_icmp_ne S0.1 S0.2.1 hd ht (fun q => absurd ((ab_eq hx hy).mpr hc) q) (fun _ => kW)
  · exact ab_stk (kt hc) (fun h5 _ _ => ab_okt (ab_okt h5)) fun _ _ _ _ _ _ _ _ _ _ _ _ _ _ _ _ _ _ _ _ _ S0 D0 _ kW => by
      have hy : ab_i32 y := ab_okh1 D0.2.2.2.2.1
      have hx : ab_i32 x := ab_okh1 (ab_okt D0.2.2.2.2.1)
      exact lv_icmp_ne S0.1 S0.2.1 hd ht (fun _ => kW) (fun q => absurd ((ab_eq hx hy).mp q) hc)
theorem ab_icmp_lt {x y : Int} {off : Int} {tgt : Nat} (hd : decode cc pc = .ok (.if_icmp .lt off, 3)) (ht : (pc : Int) + off = (tgt : Int)) (kt : x < y → ab_E M cc tgt lv st h r h') (kf : ¬ x < y → ab_E M cc (pc + 3) lv st h r h') : ab_E M cc pc lv (ab_I y :: ab_I x :: st) h r h' := by
  by_cases hc : x < y
  · exact ab_stk (kt hc) (fun h5 _ _ => ab_okt (ab_okt h5)) fun _ _ _ _ _ _ _ _ _ _ _ _ _ _ _ _ _ _ _ _ _ S0 D0 _ kW => by
      have hy : ab_i32 y := ab_okh1 D0.2.2.2.2.1
      have hx : ab_i32 x := ab_okh1 (ab_okt D0.2.2.2.2.1)
      exact lv_icmp_lt S0.1 S0.2.1 hd ht (fun _ => kW) (fun q => absurd ((ab_lt hx hy).mpr hc) q)
  · exact ab_stk (kf hc) (fun h5 _ _ => ab_okt (ab_okt h5)) fun _ _ _ _ _ _ _ _ _ _ _ _ _ _ _ _ _ _ _ _ _ S0 D0 _ kW => by
      have hy : ab_i32 y := ab_okh1 D0.2.2.2.2.1
      have hx : ab_i32 x := ab_okh1 (ab_okt D0.2.2.2.2.1)
      exact lv_icmp_lt S0.1 S0.2.1 hd ht (fun q => absurd ((ab_lt hx hy).mp q) hc) (fun _ => kW)
theorem ab_icmp_ge {x y : Int} {off : Int} {tgt : Nat} (hd : decode cc pc = .ok (.if_icmp .ge off, 3)) (ht : (pc : Int) + off = (tgt : Int)) (kt : y ≤ x → ab_E M cc tgt lv st h r h') (kf : ¬ y ≤ x → ab_E M cc (pc + 3) lv st h r h') : ab_E M cc pc lv (ab_I y :: ab_I x :: st) h r h' := by
  by_cases hc : y ≤ x
  · exact ab_stk (kt hc) (fun h5 _ _ => ab_okt (ab_okt h5)) fun _ _ _ _ _ _ _ _ _ _ _ _ _ _ _ _ _ _ _ _ _ S0 D0 _ kW => by
      have hy : ab_i32 y := ab_okh1 D0.2.2.2.2.1
      have hx : ab_i32 x := ab_okh1 (ab_okt D0.2.2.2.2.1)
      exact lv_icmp_ge S0.1 S0.2.1 hd ht (fun _ => kW) (fun q => absurd ((ab_le hy hx).mpr hc) q)
  · exact ab_stk (kf hc) (fun h5 _ _ => ab_okt (ab_okt h5)) fun _ _ _ _ _ _ _ _ _ _ _ _ _ _ _ _ _ _ _ _ _ S0 D0 _ kW => by
      have hy : ab_i32 y := ab_okh1 D0.2.2.2.2.1
      have hx : ab_i32 x := ab_okh1 (ab_okt D0.2.2.2.2.1)
      exact lv_icmp_ge S0.1 S0.2.1 hd ht (fun q => absurd ((ab_le hy hx).mp q) hc) (fun _ => kW)
theorem ab_icmp_gt {x y : Int} {off : Int} {tgt : Nat} (hd : decode cc pc = .ok (.if_icmp .gt off, 3)) (ht : (pc : Int) + off = (tgt : Int)) (kt : y < x → ab_E M cc tgt lv st h r h') (kf : ¬ y < x → ab_E M cc (pc + 3) lv st h r h') : ab_E M cc pc lv (ab_I y :: ab_I x :: st) h r h' := by
  by_cases hc : y < x
  · exact ab_stk (kt hc) (fun h5 _ _ => ab_okt (ab_okt h5)) fun _ _ _ _ _ _ _ _ _ _ _ _ _ _ _ _ _ _ _ _ _ S0 D0 _ kW => by
      have hy : ab_i32 y := ab_okh1 D0.2.2.2.2.1
      have hx : ab_i32 x := ab_okh1 (ab_okt D0.2.2.2.2.1)
      exact lv_icmp_gt S0.1 S0.2.1 hd ht (fun _ => kW) (fun q => absurd ((ab_lt hy hx).mpr hc) q)
  · exact ab_stk (kf hc) (fun h5 _ _ => ab_okt (ab_okt h5)) fun _ _ _ _ _ _ _ _ _ _ _ _ _ _ _ _ _ _ _ _ _ S0 D0 _ kW => by
      have hy : ab_i32 y := ab_okh1 D0.2.2.2.2.1
      have hx : ab_i32 x := ab_okh1 (ab_okt D0.2.2.2.2.1)
      exact lv_icmp_gt S0.1 S0.2.1 hd ht (fun q => absurd ((ab_lt hy hx).mp q) hc) (fun _ => kW)
theorem ab_icmp_le {x y : Int} {off : Int} {tgt : Nat} (hd : decode cc pc = .ok (.if_icmp .le off, 3)) (ht : (pc : Int) + off = (tgt : Int)) (kt : x ≤ y → ab_E M cc tgt lv st h r h') (kf : ¬ x ≤ y → ab_E M cc (pc + 3) lv st h r h') : ab_E M cc pc lv (ab_I y :: ab_I x :: st) h r h' := by
  by_cases hc : x ≤ y
  · exact ab_stk (kt hc) (fun h5 _ _ => ab_okt (ab_okt h5)) fun _ _ _ _ _ _ _ _ _ _ _ _ _ _ _ _ _ _ _ _ _ S0 D0 _ kW => by
      have hy : ab_i32 y := ab_okh1 D0.2.2.2.2.1
      have hx : ab_i32 x := ab_okh1 (ab_okt D0.2.2.2.2.1)
      exact lv_icmp_le S0.1 S0.2.1 hd ht (fun _ => kW) (fun q => absurd ((ab_le hx hy).mpr hc) q)
  · exact ab_stk (kf hc) (fun h5 _ _ => ab_okt (ab_okt h5)) fun _ _ _ _ _ _ _ _ _ _ _ _ _ _ _ _ _ _ _ _ _ S0 D0 _ kW => by
      have hy : ab_i32 y := ab_okh1 D0.2.2.2.2.1
      have hx : ab_i32 x := ab_okh1 (ab_okt D0.2.2.2.2.1)
      exact lv_icmp_le S0.1 S0.2.1 hd ht (fun q => absurd ((ab_le hx hy).mp q) hc) (fun _ => kW)
/-- a step that changes the locals: the new list of them -/
theorem ab_lvs {pc2 : Nat} {lv2 : List (Option ab_V)} {st2 : List ab_V} (k : ab_E M cc pc2 lv2 st2 h r h') (hok : (∀ v ∈ st, ab_okv v) → (∀ v, some v ∈ lv → ab_okv v) → (∀ v ∈ st2, ab_okv v) ∧ (∀ v, some v ∈ lv2 → ab_okv v))
    (hs : ∀ (p : Program) (l : Launch) (e : Env) (R : Room) (s : State) (m : MethodId) (args : Array Value) (below : List Frame) (meth : Method) (c : Code) (H : Heap) (locs : List Loc) (Q : State → Prop) (ls : Array Slot) (b0 n0 s0 : Nat) (D : va_G) (cy : Nat → ClassId) (sA adV : Nat → Nat),
      ab_St M cc p R s m meth c b0 n0 D cy sA adV → ab_Dy M s b0 n0 s0 D cy sA lv st h H locs ls →
      (∀ ls2 : Array Slot, lv_has ls2 M.2.1 (ab_lv b0 sA 0 lv2) → W p l e R s m args below meth c H locs (h.1 - n0) (h.2.1 - s0) Q (F0 m pc2 ls2 (st2.map (ab_cv b0 sA)))) → W p l e R s m args below meth c H locs (h.1 - n0) (h.2.1 - s0) Q (F0 m pc ls (st.map (ab_cv b0 sA)))) : ab_E M cc pc lv st h r h' := by
  refine ⟨k.1, ?_⟩
  intro p l e R s m args below meth c H locs Q ls b0 n0 s0 D cy sA adV S0 D0 R0 T0
  have D1 := D0
  obtain ⟨d1, d2, d3, d4, d5, d6, d7, d8, d9⟩ := D0
  refine hs p l e R s m args below meth c H locs Q ls b0 n0 s0 D cy sA adV S0 D1 (fun ls2 hl2 => ?_)
  exact k.2 p l e R s m args below meth c H locs Q ls2 b0 n0 s0 D cy sA adV S0 ⟨d1, d2, d3, hl2, (hok d5 d6).1, (hok d5 d6).2, d7, d8, d9⟩ R0 T0
def ab_prev (lv : List (Option ab_V)) (i : Nat) : Bool := match i with
  | 0 => true
  | i + 1 => match lv[i]? with
    | some (some (.inr (.inl _))) => false
    | _ => true
theorem ab_cat2 {b0 : Nat} {sA : Nat → Nat} {v : ab_V} (h : (ab_cv b0 sA v).category = 2) : ∃ x, v = .inr (.inl x) := by
  rcases v with x | x | x
  · cases h
  · exact ⟨x, rfl⟩
  · rw [show ab_cv b0 sA (.inr (.inr x)) = ab_cvR b0 sA x from rfl, ab_cvR_cat] at h; cases h
theorem ab_prev_no {b0 : Nat} {sA : Nat → Nat} {lv : List (Option ab_V)} {i j : Nat} {v : ab_V} (hp : ab_prev lv i = true) (hj : lv[j]? = some (some v)) (e : j + 1 = i) : ¬ (ab_cv b0 sA v).category = 2 := by
  intro q
  obtain ⟨x, rfl⟩ := ab_cat2 q
  subst e
  simp [ab_prev, hj] at hp
theorem ab_lv_set1 {b0 : Nat} {sA : Nat → Nat} {ls : Array Slot} {nL : Nat} {lv : List (Option ab_V)} {i : Nat} {w : ab_V} (hp : ab_prev lv i = true) (h : lv_has ls nL ((i, ab_cv b0 sA w) :: (ab_lv b0 sA 0 lv).filter (fun q => !(q.1 == i) && !(q.1 + 1 == i && q.2.category == 2)))) : lv_has ls nL (ab_lv b0 sA 0 (lv.set i (some w))) := by
  refine ⟨h.1, h.2.1, fun q hq => h.2.2 q ?_⟩
  obtain ⟨j, v, h1, rfl⟩ := (ab_lv_mem _ 0 q).mp hq
  rw [List.getElem?_set] at h1
  by_cases hj : i = j
  · subst hj
    rw [if_pos rfl] at h1
    split at h1
    · cases h1; simp
    · cases h1
  · rw [if_neg hj] at h1
    refine List.mem_cons_of_mem _ (List.mem_filter.mpr ⟨(ab_lv_mem _ 0 _).mpr ⟨j, v, h1, rfl⟩, ?_⟩)
    have := fun e => ab_prev_no (b0 := b0) (sA := sA) hp h1 e
    simp only [Bool.and_eq_true, Bool.not_eq_true', beq_eq_false_iff_ne, ne_eq, Bool.and_eq_false_iff]
    refine ⟨by omega, ?_⟩
    by_cases e : j + 1 = i
    · exact Or.inr (this e)
    · exact Or.inl (by omega)
theorem ab_lv_set2 {b0 : Nat} {sA : Nat → Nat} {ls : Array Slot} {nL : Nat} {lv : List (Option ab_V)} {i : Nat} {w : ab_V} (hp : ab_prev lv i = true) (h : lv_has ls nL ((i, ab_cv b0 sA w) :: (ab_lv b0 sA 0 lv).filter (fun q => !(q.1 == i) && (!(q.1 == i + 1) && !(q.1 + 1 == i && q.2.category == 2))))) : lv_has ls nL (ab_lv b0 sA 0 ((lv.set i (some w)).set (i + 1) none)) := by
  refine ⟨h.1, h.2.1, fun q hq => h.2.2 q ?_⟩
  obtain ⟨j, v, h1, rfl⟩ := (ab_lv_mem _ 0 q).mp hq
  rw [List.getElem?_set] at h1
  by_cases hj2 : i + 1 = j
  · subst hj2
    rw [if_pos rfl] at h1
    split at h1 <;> cases h1
  rw [if_neg hj2, List.getElem?_set] at h1
  by_cases hj : i = j
  · subst hj
    rw [if_pos rfl] at h1
    split at h1
    · cases h1; simp
    · cases h1
  · rw [if_neg hj] at h1
    refine List.mem_cons_of_mem _ (List.mem_filter.mpr ⟨(ab_lv_mem _ 0 _).mpr ⟨j, v, h1, rfl⟩, ?_⟩)
    have := fun e => ab_prev_no (b0 := b0) (sA := sA) hp h1 e
    simp only [Bool.and_eq_true, Bool.not_eq_true', beq_eq_false_iff_ne, ne_eq, Bool.and_eq_false_iff]
    refine ⟨by omega, by omega, ?_⟩
    by_cases e : j + 1 = i
    · exact Or.inr (this e)
    · exact Or.inl (by omega)
theorem ab_set_okv {i : Nat} {w : ab_V} (h6 : ∀ v, some v ∈ lv → ab_okv v) (hw : ab_okv w) : ∀ v, some v ∈ lv.set i (some w) → ab_okv v := fun v hv => by
  rcases List.mem_or_eq_of_mem_set hv with q | q
  · exact h6 v q
  · cases q; exact hw
theorem ab_set_okn {i : Nat} (h6 : ∀ v, some v ∈ lv → ab_okv v) : ∀ v, some v ∈ lv.set i none → ab_okv v := fun v hv => by
  rcases List.mem_or_eq_of_mem_set hv with q | q
  · exact h6 v q
  · cases q
theorem ab_istore_n {q : Fin 4} {i : Nat} {x : Int} {lv2 : List (Option ab_V)} (hd : decode cc pc = .ok (.istore_n q, 1)) (hq : (q : Nat) = i) (hn : i < M.2.1) (hp : ab_prev lv i = true) (hl : lv.set i (some (ab_I x)) = lv2) (k : ab_E M cc (pc + 1) lv2 st h r h') : ab_E M cc pc lv (ab_I x :: st) h r h' := by
  subst hl
  refine ab_lvs k (fun h5 h6 => ⟨ab_okt h5, ab_set_okv h6 (ab_okh1 h5)⟩) fun _ _ _ _ _ _ _ _ _ _ _ _ _ _ b0 _ _ _ _ sA _ S0 D0 kW => ?_
  exact lv_istore_n S0.1 S0.2.1 hd hq D0.2.2.2.1 hn rfl (fun ls2 hl2 => kW ls2 (ab_lv_set1 hp hl2))
theorem ab_istore {i : Nat} {x : Int} {lv2 : List (Option ab_V)} (hd : decode cc pc = .ok (.istore i, 2)) (hn : i < M.2.1) (hp : ab_prev lv i = true) (hl : lv.set i (some (ab_I x)) = lv2) (k : ab_E M cc (pc + 2) lv2 st h r h') : ab_E M cc pc lv (ab_I x :: st) h r h' := by
  subst hl
  refine ab_lvs k (fun h5 h6 => ⟨ab_okt h5, ab_set_okv h6 (ab_okh1 h5)⟩) fun _ _ _ _ _ _ _ _ _ _ _ _ _ _ b0 _ _ _ _ sA _ S0 D0 kW => ?_
  exact lv_istore S0.1 S0.2.1 hd D0.2.2.2.1 hn rfl (fun ls2 hl2 => kW ls2 (ab_lv_set1 hp hl2))
theorem ab_lstore_n {q : Fin 4} {i : Nat} {x : Int} {lv2 : List (Option ab_V)} (hd : decode cc pc = .ok (.lstore_n q, 1)) (hq : (q : Nat) = i) (hn : i + 1 < M.2.1) (hp : ab_prev lv i = true) (hl : (lv.set i (some (ab_J x))).set (i + 1) none = lv2) (k : ab_E M cc (pc + 1) lv2 st h r h') : ab_E M cc pc lv (ab_J x :: st) h r h' := by
  subst hl
  refine ab_lvs k (fun h5 h6 => ⟨ab_okt h5, ab_set_okn (ab_set_okv h6 (ab_okh1 h5))⟩) fun _ _ _ _ _ _ _ _ _ _ _ _ _ _ b0 _ _ _ _ sA _ S0 D0 kW => ?_
  exact lv_lstore_n S0.1 S0.2.1 hd hq D0.2.2.2.1 hn rfl (fun ls2 hl2 => kW ls2 (ab_lv_set2 hp hl2))
theorem ab_lstore {i : Nat} {x : Int} {lv2 : List (Option ab_V)} (hd : decode cc pc = .ok (.lstore i, 2)) (hn : i + 1 < M.2.1) (hp : ab_prev lv i = true) (hl : (lv.set i (some (ab_J x))).set (i + 1) none = lv2) (k : ab_E M cc (pc + 2) lv2 st h r h') : ab_E M cc pc lv (ab_J x :: st) h r h' := by
  subst hl
  refine ab_lvs k (fun h5 h6 => ⟨ab_okt h5, ab_set_okn (ab_set_okv h6 (ab_okh1 h5))⟩) fun _ _ _ _ _ _ _ _ _ _ _ _ _ _ b0 _ _ _ _ sA _ S0 D0 kW => ?_
  exact lv_lstore S0.1 S0.2.1 hd D0.2.2.2.1 hn rfl (fun ls2 hl2 => kW ls2 (ab_lv_set2 hp hl2))
theorem ab_astore_n {q : Fin 4} {i : Nat} {x : Int} {lv2 : List (Option ab_V)} (hd : decode cc pc = .ok (.astore_n q, 1)) (hq : (q : Nat) = i) (hn : i < M.2.1) (hp : ab_prev lv i = true) (hl : lv.set i (some (ab_R x)) = lv2) (k : ab_E M cc (pc + 1) lv2 st h r h') : ab_E M cc pc lv (ab_R x :: st) h r h' := by
  subst hl
  refine ab_lvs k (fun h5 h6 => ⟨ab_okt h5, ab_set_okv h6 (ab_okh1 h5)⟩) fun _ _ _ _ _ _ _ _ _ _ _ _ _ _ b0 _ _ _ _ sA _ S0 D0 kW => ?_
  simp only [List.map_cons]
  have e0 : ab_cv b0 sA (ab_R x) = ab_cvR b0 sA x := rfl
  rcases ab_cvR_or b0 sA x with e | ⟨a, e⟩
  · rw [e0, e]
    exact lv_astore_nN S0.1 S0.2.1 hd hq D0.2.2.2.1 hn rfl (fun ls2 hl2 => kW ls2 (ab_lv_set1 hp (by rw [e0, e]; exact hl2)))
  · rw [e0, e]
    exact lv_astore_n S0.1 S0.2.1 hd hq D0.2.2.2.1 hn rfl (fun ls2 hl2 => kW ls2 (ab_lv_set1 hp (by rw [e0, e]; exact hl2)))
theorem ab_astore {i : Nat} {x : Int} {lv2 : List (Option ab_V)} (hd : decode cc pc = .ok (.astore i, 2)) (hn : i < M.2.1) (hp : ab_prev lv i = true) (hl : lv.set i (some (ab_R x)) = lv2) (k : ab_E M cc (pc + 2) lv2 st h r h') : ab_E M cc pc lv (ab_R x :: st) h r h' := by
  subst hl
  refine ab_lvs k (fun h5 h6 => ⟨ab_okt h5, ab_set_okv h6 (ab_okh1 h5)⟩) fun _ _ _ _ _ _ _ _ _ _ _ _ _ _ b0 _ _ _ _ sA _ S0 D0 kW => ?_
  simp only [List.map_cons]
  have e0 : ab_cv b0 sA (ab_R x) = ab_cvR b0 sA x := rfl
  rcases ab_cvR_or b0 sA x with e | ⟨a, e⟩
  · rw [e0, e]
    exact lv_astoreN S0.1 S0.2.1 hd D0.2.2.2.1 hn rfl (fun ls2 hl2 => kW ls2 (ab_lv_set1 hp (by rw [e0, e]; exact hl2)))
  · rw [e0, e]
    exact lv_astore S0.1 S0.2.1 hd D0.2.2.2.1 hn rfl (fun ls2 hl2 => kW ls2 (ab_lv_set1 hp (by rw [e0, e]; exact hl2)))
theorem ab_iinc {i : Nat} {n x : Int} {lv2 : List (Option ab_V)} (hd : decode cc pc = .ok (.iinc i n, 3)) (hi : lv[i]? = some (some (ab_I x))) (hn : i < M.2.1) (hp : ab_prev lv i = true) (hl : lv.set i (some (ab_I (ab_w32 (x + n)))) = lv2) (k : ab_E M cc (pc + 3) lv2 st h r h') : ab_E M cc pc lv st h r h' := by
  subst hl
  refine ab_lvs k (fun h5 h6 => ⟨h5, ab_set_okv h6 (ab_w32_in _)⟩) fun _ _ _ _ _ _ _ _ _ _ _ _ _ _ b0 _ _ _ _ sA _ S0 D0 kW => ?_
  have hm : (i, ab_cv b0 sA (ab_I x)) ∈ ab_lv b0 sA 0 lv := (ab_lv_mem lv 0 _).mpr ⟨i, _, hi, by simp⟩
  obtain ⟨kk, hk⟩ := List.getElem?_of_mem hm
  exact lv_iinc S0.1 S0.2.1 hd D0.2.2.2.1 hk (ab_add x n) hn rfl (fun ls2 hl2 => kW ls2 (ab_lv_set1 hp hl2))
end ABB
