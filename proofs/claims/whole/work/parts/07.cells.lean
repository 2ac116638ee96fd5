/-! reads and writes of cells -/
def ab_up (f : Nat → Int) (k : Nat) (x : Int) : Nat → Int := fun j => if j = k then x else f j
def ab_get (h : ab_H) (kd k : Nat) (r : Int) : Option Int := if (h.2.2 r.toNat).1 = kd then some ((h.2.2 r.toNat).2.2 k) else none
def ab_put (h : ab_H) (kd k : Nat) (r x : Int) : Option ab_H := if (h.2.2 r.toNat).1 = kd then some (ab_set h r.toNat (kd, (h.2.2 r.toNat).2.1, ab_up (h.2.2 r.toNat).2.2 k x)) else none
def ab_ald (h : ab_H) (kd : Nat) (r i : Int) : Option Int := if (h.2.2 r.toNat).1 = kd ∧ 0 ≤ i ∧ i < ((h.2.2 r.toNat).2.1 : Int) then some ((h.2.2 r.toNat).2.2 i.toNat) else none
def ab_ast (h : ab_H) (kd : Nat) (r i x : Int) : Option ab_H := if (h.2.2 r.toNat).1 = kd ∧ 0 ≤ i ∧ i < ((h.2.2 r.toNat).2.1 : Int) then some (ab_set h r.toNat (kd, (h.2.2 r.toNat).2.1, ab_up (h.2.2 r.toNat).2.2 i.toNat x)) else none
def ab_len (h : ab_H) (kd : Nat) (r : Int) : Option Int := if (h.2.2 r.toNat).1 = kd then some ((h.2.2 r.toNat).2.1 : Int) else none
def ab_cpy (h : ab_H) (kd : Nat) (a sp b dp n : Int) : Option ab_H :=
  if (h.2.2 a.toNat).1 = kd ∧ (h.2.2 b.toNat).1 = kd ∧ 0 ≤ sp ∧ 0 ≤ dp ∧ 0 ≤ n ∧ sp + n ≤ ((h.2.2 a.toNat).2.1 : Int) ∧ dp + n ≤ ((h.2.2 b.toNat).2.1 : Int) then
    some (ab_set h b.toNat (kd, (h.2.2 b.toNat).2.1, va_cpy (h.2.2 a.toNat).2.2 (h.2.2 b.toNat).2.2 sp.toNat dp.toNat n.toNat)) else none
def ab_tyok : FieldType → Bool
  | .int => true
  | .long => true
  | .array _ => true
  | .object _ => true
  | _ => false
/-- what a program decides of a class -/
def ab_CF (ci : Nat) (C : String) (T : u_T) (N : Nat) : Prop := vwCl[ci]? = some (C, T, N) ∧ ab_N ci = N ∧ (∀ w ∈ u_ws C T N, w ∈ lw_tbl ∧ ab_fit w = true) ∧ (∀ k, k < N → parseFieldDescriptor (T k).2.2.1 = some (ab_fty ci k)) ∧
  (∀ a, a < N → ∀ b, b < N → a ≠ b → (T a).2.1 ≠ (T b).2.1) ∧ (∀ k, k < N → ab_tyok (ab_fty ci k) = true) ∧ ci < 10
/-- .. and of a field's entry in a class's pool -/
def ab_FL (own : String) (idx ci k t : Nat) (fin : Bool) : Prop := ∃ (C : String) (T : u_T) (N : Nat), ab_CF ci C T N ∧ k < N ∧ Cond.fieldLink own idx (T k).1 (T k).2.1 (T k).2.2.1 ∈ lw_tbl ∧ ab_tc (ab_fty ci k) = t ∧ (T k).2.2.2 = fin
theorem ab_nf {ty : FieldType} {b0 : Nat} {sA : Nat → Nat} {x : Int} (h : ab_tyok ty = true) : narrow ty (ab_cv b0 sA (ab_tv (ab_tc ty) x)) = ab_cv b0 sA (ab_tv (ab_tc ty) x) ∧ fits ty (ab_cv b0 sA (ab_tv (ab_tc ty) x)) = true := by
  cases ty <;> first
    | (cases h; done)
    | exact ⟨rfl, rfl⟩
    | (simp only [ab_tc, ab_tv, ab_cv]; rcases ab_cvR_or b0 sA x with e | ⟨a, e⟩ <;> rw [e] <;> exact ⟨rfl, rfl⟩)
theorem ab_ent_obj {b0 : Nat} {cy : Nat → ClassId} {c : ab_C} (h : c.1 ≤ 10) : ab_ent b0 cy c = .inr (c.1 - 1, (List.range c.2.1).map (fun i => ab_cvT b0 (ab_tc (ab_fty (c.1 - 1) i)) (c.2.2 i))) := by
  unfold ab_ent
  rw [if_neg (by omega), if_neg (by omega), if_neg (by omega), if_neg (by omega), if_neg (by omega)]
theorem ab_objV {b0 ci n : Nat} {f : Nat → Int} {j : Nat} (hj : j < n) : vp_V ((List.range n).map (fun i => ab_cvT b0 (ab_tc (ab_fty ci i)) (f i))) j = ab_cvT b0 (ab_tc (ab_fty ci j)) (f j) := by
  simp [vp_V, List.getD, List.getElem?_map, List.getElem?_range hj]
section ABC
variable {M : ab_M} {cc : ByteArray} {pc : Nat} {lv : List (Option ab_V)} {st : List ab_V} {h h' : ab_H} {r : Option ab_V}
theorem ab_CF.ws {ci : Nat} {C : String} {T : u_T} {N : Nat} (F : ab_CF ci C T N) {s : State} (hW : ab_Ws s) (args : Array Value) : ∀ w ∈ u_ws C T N, w.before args s = true := fun w hw => hW w (F.2.2.1 w hw).1 (F.2.2.1 w hw).2 args
theorem ab_objAt {D : va_G} {b0 : Nat} {cy : Nat → ClassId} {H : Heap} (hP : va_P D vwCl (ab_W b0 cy h) H) (hh : ab_okh h) {a ci : Nat} {C : String} {T : u_T} {N : Nat} (F : ab_CF ci C T N) (hk : (h.2.2 a).1 = ci + 1) (h1 : 1 ≤ a) (h2 : a ≤ h.1) :
    t_OB (b0 + a) (D.1 ci) N (D.2 ci) H (fun j => ab_cvT b0 (ab_tc (ab_fty ci j)) ((h.2.2 a).2.2 j)) := by
  obtain ⟨f1, f2, -, -, -, -, f7⟩ := F
  have e := hP (a - 1) _ (ab_W_get h1 h2)
  rw [ab_ent_obj (by omega)] at e
  obtain ⟨rr, g1, g2⟩ := e
  rw [show (h.2.2 a).1 - 1 = ci by omega] at g1 g2
  cases g1.symm.trans f1
  have hn : (h.2.2 a).2.1 = N := by rw [(hh.1 a).2.1 (by omega) (by omega), show (h.2.2 a).1 - 1 = ci by omega, f2]
  refine g2.to (fun j hj => ?_)
  have hj : j < N := hj
  show vp_V _ j = _
  rw [ab_objV (by omega)]
theorem ab_getf {idx ci k t : Nat} {fin : Bool} {a x : Int} (hd : decode cc pc = .ok (.getfield idx, 3)) (hf : ab_FL M.1 idx ci k t fin) (hg : ab_get h (ci + 1) k a = some x) (kk : ab_E M cc (pc + 3) lv (ab_tv t x :: st) h r h') : ab_E M cc pc lv (ab_R a :: st) h r h' := by
  obtain ⟨C, T, N, F, hk, hl, ht, -⟩ := hf
  unfold ab_get at hg
  split at hg
  case isFalse => cases hg
  case isTrue hkd =>
    cases hg
    have hx : ab_okh h → ab_okx t ((h.2.2 a.toNat).2.2 k) := fun hh => by
      have e := (hh.1 a.toNat).1 k
      rw [hkd] at e
      have c10 := F.2.2.2.2.2.2
      unfold ab_ct at e
      rw [if_neg (by omega), if_neg (by omega), if_neg (by omega), if_neg (by omega), Nat.add_sub_cancel, ht] at e
      exact e
    refine ab_stk kk (fun h5 _ hh => ab_ok1 (v := ab_I 0) (ab_okt h5) (ab_okv_tv (by rw [← ht]; exact ab_tc_le _) (hx hh))) fun p l e R s m args below meth c H locs Q ls b0 n0 s0 D cy sA adV S0 D0 _ kW => ?_
    obtain ⟨q1, q2, q3, q4, q5, q6, q7, q8, q9, q10⟩ := S0
    obtain ⟨d1, d2, d3, d4, d5, d6, d7, d8, d9⟩ := D0
    obtain ⟨i1, i2, i3⟩ := ab_there d7 (by omega) hkd
    obtain ⟨cell, g1, g2, g3, g4⟩ := ab_objAt d1 d7 F hkd i1 i2
    obtain ⟨hS, hfc, kC, hkC, hkind⟩ := q8.2.1.1 ci _ F.1
    obtain ⟨cf, kf, fi, f, hi, hsl⟩ := hS k hk
    simp only [List.map_cons, ab_cv] at kW ⊢
    rw [ab_cvR_pos i3]
    refine W.getf (v := ab_cvT b0 (ab_tc (ab_fty ci k)) ((h.2.2 a.toNat).2.2 k)) q1 q2 q5 (q8.1 _ hl rfl _) hi (u_facts hfc hkC (u_lays (F.ws q8.1 args) (fun _ q => q) hk) hi).1 g1 (by rw [g3]; exact fun q => by cases q) (by rw [hsl]; exact g4 k hk) rfl rfl hd ?_
    rw [ht, ab_cvT_tv (by rw [← ht]; exact ab_tc_le _) (hx d7)]
    exact kW
/-- a write of one cell -/
theorem ab_wr {pc2 : Nat} {st2 : List ab_V} {a kd : Nat} {c' : ab_C} (hk0 : 0 < kd) (hkd : (h.2.2 a).1 = kd) (k : ab_E M cc pc2 lv st2 (ab_set h a c') r h') (hok : (∀ v ∈ st, ab_okv v) → ab_okh h → (∀ v ∈ st2, ab_okv v) ∧ ab_okc c')
    (hs : ∀ (p : Program) (l : Launch) (e : Env) (R : Room) (s : State) (m : MethodId) (args : Array Value) (below : List Frame) (meth : Method) (c : Code) (H : Heap) (locs : List Loc) (Q : State → Prop) (ls : Array Slot) (b0 n0 s0 : Nat) (D : va_G) (cy : Nat → ClassId) (sA adV : Nat → Nat),
      ab_St M cc p R s m meth c b0 n0 D cy sA adV → ab_Dy M s b0 n0 s0 D cy sA lv st h H locs ls → 1 ≤ a ∧ a ≤ h.1 →
      (∀ (H1 : Heap) (locs1 : List Loc), va_at D vwCl (b0 + a, ab_ent b0 cy c') H1 → H1.size = H.size → (∀ q : Nat, q ≠ b0 + a → H1[q]? = H[q]?) → (∀ q ∈ locs1, q.base = b0 + a) → W p l e R s m args below meth c H1 (locs ++ locs1) (h.1 - n0) (h.2.1 - s0) Q (F0 m pc2 ls (st2.map (ab_cv b0 sA)))) →
      W p l e R s m args below meth c H locs (h.1 - n0) (h.2.1 - s0) Q (F0 m pc ls (st.map (ab_cv b0 sA)))) : ab_E M cc pc lv st h r h' := by
  refine ⟨k.1, ?_⟩
  intro p l e R s m args below meth c H locs Q ls b0 n0 s0 D cy sA adV S0 D0 R0 T0
  have D1 := D0
  obtain ⟨d1, d2, d3, d4, d5, d6, d7, d8, d9⟩ := D0
  have i1 : 1 ≤ a ∧ a ≤ h.1 := by
    have := ab_there d7 (r := (a : Int)) hk0 (by simpa using hkd)
    simp at this; omega
  refine hs p l e R s m args below meth c H locs Q ls b0 n0 s0 D cy sA adV S0 D1 i1 (fun H1 locs1 g1 g2 g3 g4 => ?_)
  have hP : va_P D vwCl (ab_W b0 cy (ab_set h a c')) H1 := by
    rw [← ab_W_set i1.1 i1.2]
    exact d1.set (ab_WD (b0 := b0)) (ab_W_get i1.1 i1.2) g1 g3
  have hA : ab_A b0 (b0 + a) := by show b0 < b0 + a; omega
  have hS1 : va_S (ab_A b0) s.heap H1 (locs ++ locs1) := by
    refine ⟨by rw [g2]; exact d3.1, fun q q1 q2 => ?_, fun q hq => ?_⟩
    · rw [g3 q (fun e => q2 (by rw [e]; exact hA))]
      exact d3.2.1 q q1 q2
    · rcases List.mem_append.mp hq with hq | hq
      · exact d3.2.2 q hq
      · rw [g4 q hq]; exact hA
  exact k.2 p l e R s m args below meth c H1 (locs ++ locs1) Q ls b0 n0 s0 D cy sA adV S0 ⟨hP, by rw [g2]; exact d2, hS1, d4, (hok d5 d7).1, d6, ab_set_ok d7 (hok d5 d7).2 i1.1 i1.2, d8, d9⟩ R0 T0
theorem ab_okc_up {c : ab_C} (hc : ab_okc c) {k : Nat} {x : Int} (hx : ab_okx (ab_ct c.1 k) x) : ab_okc (c.1, c.2.1, ab_up c.2.2 k x) := by
  refine ⟨fun i => ?_, hc.2⟩
  show ab_okx (ab_ct c.1 i) (ab_up c.2.2 k x i)
  unfold ab_up
  split
  · next e => rw [e]; exact hx
  · exact hc.1 i
theorem ab_putf {idx ci k t : Nat} {fin : Bool} {a x : Int} {h2 : ab_H} (hd : decode cc pc = .ok (.putfield idx, 3)) (hf : ab_FL M.1 idx ci k t fin) (hfin : fin = true → M.2.2.2.1 = true ∧ vwCl[ci]?.map (fun q => (q.2.1 k).1) = some M.1) (hx0 : t = 2 → 0 ≤ x) (hg : ab_put h (ci + 1) k a x = some h2) (kk : ab_E M cc (pc + 3) lv st h2 r h') : ab_E M cc pc lv (ab_tv t x :: ab_R a :: st) h r h' := by
  obtain ⟨C, T, N, F, hk, hl, ht, hfl⟩ := hf
  unfold ab_put at hg
  split at hg
  case isFalse => cases hg
  case isTrue hkd =>
    cases hg
    have c10 := F.2.2.2.2.2.2
    have hct : ab_ct (ci + 1) k = t := by
      unfold ab_ct
      rw [if_neg (by omega), if_neg (by omega), if_neg (by omega), if_neg (by omega), Nat.add_sub_cancel, ht]
    have t2 : t ≤ 2 := by rw [← ht]; exact ab_tc_le _
    have hxx : ab_okv (ab_tv t x) → ab_okx t x := fun q => by
      match t, t2 with
      | 0, _ => exact q
      | 1, _ => exact q
      | 2, _ => exact hx0 rfl
    have hoc : ab_okh h → ab_okx t x → ab_okc (ci + 1, (h.2.2 a.toNat).2.1, ab_up (h.2.2 a.toNat).2.2 k x) := fun hh hx => by
      have e := ab_okc_up (hh.1 a.toNat) (k := k) (x := x) (by rw [hkd, hct]; exact hx)
      rw [hkd] at e
      exact e
    refine ab_wr (kd := ci + 1) (by omega) hkd kk (fun h5 hh => ⟨ab_okt (ab_okt h5), hoc hh (hxx (ab_okh1 h5))⟩) fun p l e R s m args below meth c H locs Q ls b0 n0 s0 D cy sA adV S0 D0 i12 kW => ?_
    obtain ⟨q1, q2, q3, q4, q5, q6, q7, q8, q9, q10⟩ := S0
    obtain ⟨d1, d2, d3, d4, d5, d6, d7, d8, d9⟩ := D0
    obtain ⟨i1, i2, i3⟩ := ab_there d7 (by omega) hkd
    obtain ⟨cell, g1, g2, g3, g4⟩ := ab_objAt d1 d7 F hkd i1 i2
    obtain ⟨hS, hfc, kC, hkC, hkind⟩ := q8.2.1.1 ci _ F.1
    obtain ⟨cf, kf, fi, f, hi, hsl⟩ := hS k hk
    have hts := F.ws q8.1 args
    have hst := (u_facts hfc hkC (u_lays hts (fun _ q => q) hk) hi).1
    have hlay := hts _ (u_in_lay hk)
    have hap := va_apart (own := M.1) (args := args) hts (fun _ q => q) (ab_fty ci) F.2.2.2.1 F.2.2.2.2.1 q8.2.1 F.1
    have hnf := ab_nf (b0 := b0) (sA := sA) (x := x) (F.2.2.2.2.2.1 k hk)
    rw [ht] at hnf
    have fin2 : ∀ H1 : Heap, H1[b0 + a.toNat]? = some (cell.setSlot (D.2 ci k) (ab_cv b0 sA (ab_tv t x))) → va_at D vwCl (b0 + a.toNat, ab_ent b0 cy (ci + 1, (h.2.2 a.toNat).2.1, ab_up (h.2.2 a.toNat).2.2 k x)) H1 := by
      intro H1 e1
      have hn : (h.2.2 a.toNat).2.1 = N := by rw [(d7.1 a.toNat).2.1 (by omega) (by omega), show (h.2.2 a.toNat).1 - 1 = ci by omega, F.2.1]
      rw [ab_ent_obj (by show ci + 1 ≤ 10; omega)]
      refine ⟨_, F.1, t_OB.to ⟨_, e1, g2, g3, t_set g4 hap hk _⟩ (fun j hj => ?_)⟩
      have hj : j < N := hj
      show _ = vp_V ((List.range (h.2.2 a.toNat).2.1).map fun i => ab_cvT b0 (ab_tc (ab_fty ci i)) (ab_up (h.2.2 a.toNat).2.2 k x i)) j
      rw [ab_objV (by omega)]
      unfold updV ab_up
      by_cases hj2 : j = k
      · subst hj2
        rw [if_pos rfl, if_pos rfl, ht, ab_cvT_tv (sA := sA) t2 (hxx (ab_okh1 d5))]
      · rw [if_neg hj2, if_neg hj2]
    simp only [List.map_cons]
    rw [show ab_cv b0 sA (ab_R a) = ab_cvR b0 sA a from rfl, ab_cvR_pos i3]
    by_cases hfn : fin = true
    · subst hfn
      unfold u_lay at hlay
      rw [if_pos hfl] at hlay
      have hcf : m.cls = cf := by
        obtain ⟨_, _, c', _, _, _, -, -, hf', -, -, -, hown2, -⟩ := Cond.laysFinal_spec hlay
        have e1 : c' = cf := by have := hi.symm.trans hf'; simp at this; exact this.1.symm
        have hdecl : (T k).1 = M.1 := by
          have := (hfin rfl).2
          rw [F.1] at this
          exact Option.some.inj this
        rw [hdecl] at hown2
        rw [← e1]; exact Option.some.inj (q5.symm.trans hown2)
      have h6 := u_fits hfc hkC hkind (Or.inr hlay) hi (F.2.2.2.1 k hk) hnf.1 hnf.2
      refine W.putFinK q1 q2 q5 (q8.1 _ hl rfl _) hi hst hcf (q6 (hfin rfl).1) (by rw [g2]; exact h6) g1 g3 (by rw [hsl]; exact k2_hasslot (g4 k hk)) rfl rfl hd fun H1 e1 e2 e3 => ?_
      rw [hsl] at e1
      exact kW H1 _ (fin2 H1 e1) e2 e3 (fun q hq => by rw [List.mem_singleton.mp hq])
    · unfold u_lay at hlay
      rw [if_neg (by rw [hfl]; exact hfn)] at hlay
      have h6 := u_store hfc hkC hkind hlay hi (F.2.2.2.1 k hk) hnf.1 hnf.2
      refine W.putK q1 q2 (f := f) ⟨q5, q8.1 _ hl rfl _, ⟨_, _, _, hi⟩, hst⟩ (by rw [g2]; exact h6) g1 g3 (by rw [hsl]; exact k2_hasslot (g4 k hk)) rfl rfl hd fun H1 e1 e2 e3 => ?_
      rw [hsl] at e1
      exact kW H1 _ (fin2 H1 e1) e2 e3 (fun q hq => by rw [List.mem_singleton.mp hq])
end ABC
