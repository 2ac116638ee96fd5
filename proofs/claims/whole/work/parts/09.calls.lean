/-! new cells, the ends of a method, calls -/
def ab_NW (own : String) (idx ci : Nat) : Prop := ∃ (C : String) (T : u_T) (N : Nat), ab_CF ci C T N ∧ Cond.classLink own idx C ∈ lw_tbl ∧ Cond.instantiable C N ∈ lw_tbl ∧ Cond.initialized C ∈ lw_tbl
def ab_zero : Nat → Int := fun _ => 0
theorem ab_okx0 (t : Nat) : ab_okx t 0 := by
  unfold ab_okx
  split
  · exact ab_i0
  · exact ⟨by decide, by decide⟩
  · exact Int.le_refl 0
  · exact ⟨by decide, by decide⟩
theorem ab_def0 {ty : FieldType} {b0 : Nat} (h : ab_tyok ty = true) : defaultValue ty = ab_cvT b0 (ab_tc ty) 0 := by
  cases ty <;> first
    | (cases h; done)
    | rfl
    | (simp [ab_tc, ab_cvT, defaultValue]; done)
section ABN
variable {M : ab_M} {cc : ByteArray} {pc : Nat} {lv : List (Option ab_V)} {st : List ab_V} {h h' : ab_H} {r : Option ab_V}
/-- a step that makes a cell -/
theorem ab_mk {pc2 : Nat} {st2 : List ab_V} {n : Nat} {c' : ab_C} (k : ab_E M cc pc2 lv st2 (ab_push h n c') r h') (hoc : ab_okc c') (hok : (∀ v ∈ st, ab_okv v) → ∀ v ∈ st2, ab_okv v)
    (hs : ∀ (p : Program) (l : Launch) (e : Env) (R : Room) (s : State) (m : MethodId) (args : Array Value) (below : List Frame) (meth : Method) (c : Code) (H : Heap) (locs : List Loc) (Q : State → Prop) (ls : Array Slot) (b0 n0 s0 : Nat) (D : va_G) (cy : Nat → ClassId) (sA adV : Nat → Nat),
      ab_St M cc p R s m meth c b0 n0 D cy sA adV → ab_Dy M s b0 n0 s0 D cy sA lv st h H locs ls → h.1 - n0 + 1 ≤ R.cells ∧ h.2.1 - s0 + n ≤ R.slots →
      (∀ (H1 : Heap), va_at D vwCl (b0 + (h.1 + 1), ab_ent b0 cy c') H1 → H1.size = b0 + h.1 + 1 + 1 → (∀ q : Nat, q < b0 + h.1 + 1 → H1[q]? = H[q]?) → W p l e R s m args below meth c H1 locs (h.1 - n0 + 1) (h.2.1 - s0 + n) Q (F0 m pc2 ls (st2.map (ab_cv b0 sA)))) →
      W p l e R s m args below meth c H locs (h.1 - n0) (h.2.1 - s0) Q (F0 m pc ls (st.map (ab_cv b0 sA)))) : ab_E M cc pc lv st h r h' := by
  have k1 : h.1 + 1 ≤ h'.1 := k.1.1
  have k2 : h.2.1 + n ≤ h'.2.1 := k.1.2
  refine ⟨⟨by omega, by omega⟩, ?_⟩
  intro p l e R s m args below meth c H locs Q ls b0 n0 s0 D cy sA adV S0 D0 R0 T0
  have D1 := D0
  obtain ⟨d1, d2, d3, d4, d5, d6, d7, d8, d9⟩ := D0
  refine hs p l e R s m args below meth c H locs Q ls b0 n0 s0 D cy sA adV S0 D1 (by omega) (fun H1 g1 g2 g3 => ?_)
  have hP : va_P D vwCl (ab_W b0 cy (ab_push h n c')) H1 := by
    rw [ab_W_push]
    refine (d1.kept fun kk q hq => g3 _ ?_).app (fun kk q hq => ?_)
    · have := (d1 kk q hq).lt
      rw [d2] at this; exact this
    · have hz : kk < 1 := (List.getElem?_eq_some_iff.mp hq).1
      rw [show kk = 0 by omega] at hq
      cases hq
      exact g1
  have hS1 : va_S (ab_A b0) s.heap H1 locs := by
    refine ⟨by have := d3.1; omega, fun q q1 q2 => ?_, d3.2.2⟩
    have := d3.1
    rw [g3 q (by omega)]
    exact d3.2.1 q q1 q2
  have e1 : (ab_push h n c').1 - n0 = h.1 - n0 + 1 := by show h.1 + 1 - n0 = _; omega
  have e2 : (ab_push h n c').2.1 - s0 = h.2.1 - s0 + n := by show h.2.1 + n - s0 = _; omega
  have := k.2 p l e R s m args below meth c H1 locs Q ls b0 n0 s0 D cy sA adV S0 ⟨hP, by rw [g2]; show _ = b0 + (h.1 + 1) + 1; omega, hS1, d4, hok d5, d6, ab_push_ok d7 hoc, by show n0 ≤ h.1 + 1; omega, by show s0 ≤ h.2.1 + n; omega⟩ R0 T0
  rw [e1, e2] at this
  exact this
theorem ab_new_ {idx ci : Nat} (hd : decode cc pc = .ok (.new idx, 3)) (hf : ab_NW M.1 idx ci) (kk : ab_E M cc (pc + 3) lv (ab_R ((h.1 : Int) + 1) :: st) (ab_push h (ab_N ci) (ci + 1, ab_N ci, ab_zero)) r h') : ab_E M cc pc lv st h r h' := by
  obtain ⟨C, T, N, F, w1, w2, w3⟩ := hf
  have c10 := F.2.2.2.2.2.2
  have hN := F.2.1
  refine ab_mk kk ⟨fun i => ab_okx0 _, fun _ _ => rfl, by rw [hN]; show N < _; rw [← hN]; unfold ab_N; split <;> decide⟩ (fun h5 => ab_ok1 (v := ab_I 0) h5 trivial) fun p l e R s m args below meth c H locs Q ls b0 n0 s0 D cy sA adV S0 D0 R0 kW => ?_
  obtain ⟨q1, q2, q3, q4, q5, q6, q7, q8, q9, q10⟩ := S0
  obtain ⟨d1, d2, d3, d4, d5, d6, d7, d8, d9⟩ := D0
  have hKn := q8.2.1.1 ci _ F.1
  rw [hN] at R0 kW
  refine W.newcK q1 q2 q5 (q8.1 _ w1 rfl _) (q8.1 _ w2 rfl _) (q8.1 _ w3 rfl _) rfl hd R0.1 R0.2 hKn.2.1 d2 fun H1 kC hkC e1 z1 o1 => ?_
  have := kW H1 (by
    rw [ab_ent_obj (by show ci + 1 ≤ 10; omega)]
    refine ⟨_, F.1, (u_born (ab_fty ci) (F.ws q8.1 args) (fun _ q => q) hKn hkC (by rw [show b0 + (h.1 + 1) = b0 + h.1 + 1 by omega]; exact e1) F.2.2.2.1).to (fun j hj => ?_)⟩
    have hj : j < N := hj
    show _ = vp_V ((List.range N).map fun i => ab_cvT b0 (ab_tc (ab_fty ci i)) (ab_zero i)) j
    rw [ab_objV hj]
    exact ab_def0 (F.2.2.2.2.2.1 j hj)) z1 o1
  simp only [List.map_cons] at this
  rw [show ab_cv b0 sA (ab_R ((h.1 : Int) + 1)) = ab_cvR b0 sA ((h.1 : Int) + 1) from rfl, ab_cvR_pos (by omega), show b0 + ((h.1 : Int) + 1).toNat = b0 + h.1 + 1 by omega] at this
  exact this
theorem ab_newa_ {aty : ArrayType} {kd : Nat} {n : Int} (hd : decode cc pc = .ok (.newarray aty, 2)) (hk : aty = .int ∧ kd = 11 ∨ aty = .long ∧ kd = 12 ∨ aty = .byte ∧ kd = 13) (hw : Cond.arrayClass (newarray.typeOf aty) ∈ lw_tbl) (hn : 0 ≤ n ∧ n ≤ 1000000) (kk : ab_E M cc (pc + 2) lv (ab_R ((h.1 : Int) + 1) :: st) (ab_push h n.toNat (kd, n.toNat, ab_zero)) r h') : ab_E M cc pc lv (ab_I n :: st) h r h' := by
  refine ab_mk kk ⟨fun i => ab_okx0 _, fun q1 q2 => by simp only at q1 q2; omega, by show n.toNat < _; omega⟩ (fun h5 => ab_ok1 (v := ab_I 0) (ab_okt h5) trivial) fun p l e R s m args below meth c H locs Q ls b0 n0 s0 D cy sA adV S0 D0 R0 kW => ?_
  obtain ⟨q1, q2, q3, q4, q5, q6, q7, q8, q9, q10⟩ := S0
  obtain ⟨d1, d2, d3, d4, d5, d6, d7, d8, d9⟩ := D0
  have hni : ab_i32 n := ab_okh1 d5
  simp only [List.map_cons] at kW ⊢
  rw [show ab_cv b0 sA (ab_R ((h.1 : Int) + 1)) = ab_cvR b0 sA ((h.1 : Int) + 1) from rfl, ab_cvR_pos (by omega), show b0 + ((h.1 : Int) + 1).toNat = b0 + h.1 + 1 by omega] at kW
  rcases hk with ⟨rfl, rfl⟩ | ⟨rfl, rfl⟩ | ⟨rfl, rfl⟩
  · refine va_newaK q1 q2 (q8.1 _ hw rfl _) rfl hd rfl (fun q => by have := (ab_lt0 hni).mp q; omega) (ab_clamp hni) (by show n.toNat * 4 ≤ _; omega) R0.1 R0.2 d2 fun H1 cA e1 z1 o1 _ hNm => kW H1 ?_ z1 o1
    have hcy : cA = cy 0 := Option.some.inj (hNm.symm.trans (q8.2.1.2 0 _ rfl).2)
    rw [ab_e11 rfl]
    show H1[b0 + (h.1 + 1)]? = some (vp_cell (cy 0) _)
    rw [show b0 + (h.1 + 1) = b0 + h.1 + 1 by omega, e1, hcy]; rfl
  · refine va_newaK q1 q2 (q8.1 _ hw rfl _) rfl hd rfl (fun q => by have := (ab_lt0 hni).mp q; omega) (ab_clamp hni) (by show n.toNat * 8 ≤ _; omega) R0.1 R0.2 d2 fun H1 cA e1 z1 o1 _ hNm => kW H1 ?_ z1 o1
    have hcy : cA = cy 1 := Option.some.inj (hNm.symm.trans (q8.2.1.2 1 _ rfl).2)
    rw [ab_e12 rfl]
    show H1[b0 + (h.1 + 1)]? = some (vp_cell (cy 1) _)
    rw [show b0 + (h.1 + 1) = b0 + h.1 + 1 by omega, e1, hcy]; rfl
  · refine va_newaK q1 q2 (q8.1 _ hw rfl _) rfl hd rfl (fun q => by have := (ab_lt0 hni).mp q; omega) (ab_clamp hni) (by show n.toNat * 1 ≤ _; omega) R0.1 R0.2 d2 fun H1 cA e1 z1 o1 _ hNm => kW H1 ?_ z1 o1
    have hcy : cA = cy 2 := Option.some.inj (hNm.symm.trans (q8.2.1.2 2 _ rfl).2)
    rw [ab_e13 rfl]
    show H1[b0 + (h.1 + 1)]? = some (vp_cell (cy 2) _)
    rw [show b0 + (h.1 + 1) = b0 + h.1 + 1 by omega, e1, hcy]; rfl
theorem ab_newq_ {idx kd : Nat} {C : String} {n : Int} (hd : decode cc pc = .ok (.anewarray idx, 3)) (hk : C = RX0 ∧ kd = 14 ∨ C = RX2 ∧ kd = 15) (hw : Cond.classLink M.1 idx C ∈ lw_tbl ∧ Cond.arrayOver (.object C) ∈ lw_tbl) (hn : 0 ≤ n ∧ n ≤ 1000000) (kk : ab_E M cc (pc + 3) lv (ab_R ((h.1 : Int) + 1) :: st) (ab_push h n.toNat (kd, n.toNat, ab_zero)) r h') : ab_E M cc pc lv (ab_I n :: st) h r h' := by
  refine ab_mk kk ⟨fun i => ab_okx0 _, fun q1 q2 => by simp only at q1 q2; omega, by show n.toNat < _; omega⟩ (fun h5 => ab_ok1 (v := ab_I 0) (ab_okt h5) trivial) fun p l e R s m args below meth c H locs Q ls b0 n0 s0 D cy sA adV S0 D0 R0 kW => ?_
  obtain ⟨q1, q2, q3, q4, q5, q6, q7, q8, q9, q10⟩ := S0
  obtain ⟨d1, d2, d3, d4, d5, d6, d7, d8, d9⟩ := D0
  have hni : ab_i32 n := ab_okh1 d5
  have hcl := ab_clamp hni
  simp only [List.map_cons] at kW ⊢
  rw [show ab_cv b0 sA (ab_R ((h.1 : Int) + 1)) = ab_cvR b0 sA ((h.1 : Int) + 1) from rfl, ab_cvR_pos (by omega), show b0 + ((h.1 : Int) + 1).toNat = b0 + h.1 + 1 by omega] at kW
  refine W.anew q1 q2 q5 (q8.1 _ hw.1 rfl _) (q8.1 _ hw.2 rfl _) rfl hd rfl (fun q => by have := (ab_lt0 hni).mp q; omega) (by rw [hcl]; omega) R0.1 (by rw [hcl]; exact R0.2) fun cA kA comp f1 f2 f3 f4 => ?_
  rw [hcl, d2]
  refine kW _ ?_ (by rw [Array.size_push, d2]) (fun q hq => by rw [Array.getElem?_push, if_neg (by omega)])
  have e1 : (H.push ({ cls := cA, slots := Array.replicate n.toNat .null, vm := .none } : Cell))[b0 + (h.1 + 1)]? = some (arrV cA n.toNat (fun _ => .null)) := by
    rw [show b0 + (h.1 + 1) = H.size by omega, Array.getElem?_push_size, ← arrV_new]
  rcases hk with ⟨rfl, rfl⟩ | ⟨rfl, rfl⟩
  · obtain ⟨_, _, _, _, _, g4⟩ := (q8.2.1.2 3 _ rfl).2
    have hcy : cA = cy 3 := Option.some.inj (f1.symm.trans g4)
    rw [ab_e14 rfl]
    show (H.push _)[b0 + (h.1 + 1)]? = some (vp_cell (cy 3) _)
    rw [e1, hcy]; rfl
  · obtain ⟨_, _, _, _, _, g4⟩ := (q8.2.1.2 4 _ rfl).2
    have hcy : cA = cy 4 := Option.some.inj (f1.symm.trans g4)
    rw [ab_e15 rfl]
    show (H.push _)[b0 + (h.1 + 1)]? = some (vp_cell (cy 4) _)
    rw [e1, hcy]; rfl
def ab_wd : List ab_V → Nat
  | [] => 0
  | .inl _ :: r => 1 + ab_wd r
  | .inr (.inl _) :: r => 2 + ab_wd r
  | .inr (.inr _) :: r => 1 + ab_wd r
theorem ab_catsum (b0 : Nat) (sA : Nat → Nat) : ∀ l : List ab_V, ((l.map (ab_cv b0 sA)).map fun v => v.category).sum ≤ ab_wd l
  | [] => Nat.le_refl _
  | .inl x :: r => by
    have := ab_catsum b0 sA r
    have e : (ab_cv b0 sA (.inl x)).category = 1 := rfl
    simp only [List.map_cons, List.sum_cons, ab_wd, e]; omega
  | .inr (.inl x) :: r => by
    have := ab_catsum b0 sA r
    have e : (ab_cv b0 sA (.inr (.inl x))).category = 2 := rfl
    simp only [List.map_cons, List.sum_cons, ab_wd, e]; omega
  | .inr (.inr x) :: r => by
    have := ab_catsum b0 sA r
    have e : (ab_cv b0 sA (.inr (.inr x))).category = 1 := ab_cvR_cat _ _ _
    simp only [List.map_cons, List.sum_cons, ab_wd, e]; omega
theorem ab_obj0 {idx : Nat} {a : Int} (hd : decode cc pc = .ok (.invokespecial idx, 3)) (hw : Cond.methodLink M.1 idx Lib.objectInit ∈ lw_tbl ∧ Cond.instanceMethod Lib.objectInit ∈ lw_tbl ∧ Cond.code Lib.objectInit ⟨#[0xb1]⟩ 1 none ∈ lw_tbl) (ha : 0 < a) (hfr : 1 ≤ M.2.2.2.2.1) (hlo : 20 ≤ M.2.2.2.2.2.1) (hst : ab_wd st ≤ 8) (kk : ab_E M cc (pc + 3) lv st h r h') : ab_E M cc pc lv (ab_R a :: st) h r h' := by
  refine ab_stk kk (fun h5 _ _ => ab_okt h5) fun p l e R s m args below meth c H locs Q ls b0 n0 s0 D cy sA adV S0 D0 _ kW => ?_
  obtain ⟨q1, q2, q3, q4, q5, q6, q7, q8, q9, q10⟩ := S0
  have hcat := ab_catsum b0 sA st
  simp only [List.map_cons]
  rw [show ab_cv b0 sA (ab_R a) = ab_cvR b0 sA a from rfl, ab_cvR_pos ha]
  exact W.objInit q1 q2 q5 (q8.1 _ hw.1 rfl _) (q8.1 _ hw.2.1 rfl _) (q8.1 _ hw.2.2 rfl _) rfl (by rw [q4]; exact D0.2.2.2.1.1) rfl hd (by omega) (by show 2 * 0 + _ + 12 ≤ _; omega) kW
theorem ab_retv (hd : decode cc pc = .ok (.return_, 1)) (hr : M.2.2.1 = none) : ab_E M cc pc lv [] h none h :=
  ⟨⟨Nat.le_refl _, Nat.le_refl _⟩, fun _ _ _ _ _ _ _ _ _ _ H locs _ ls _ _ _ _ _ _ _ _ D0 _ T0 => T0 H locs ls pc D0.1 D0.2.1 D0.2.2.1 (fun _ q => by cases q) D0.2.2.2.2.2.2.1 ⟨hr, hd⟩⟩
theorem ab_reti {x : Int} (hd : decode cc pc = .ok (.ireturn, 1)) (hr : M.2.2.1 = some .int ∨ M.2.2.1 = some .boolean ∧ (x = 0 ∨ x = 1) ∨ M.2.2.1 = some .byte ∧ x = 0 ∨ M.2.2.1 = some .char ∧ 0 ≤ x ∧ x < 65536) : ab_E M cc pc lv [ab_I x] h (some (ab_I x)) h :=
  ⟨⟨Nat.le_refl _, Nat.le_refl _⟩, fun _ _ _ _ _ _ _ _ _ _ H locs _ ls _ _ _ _ _ _ _ _ D0 _ T0 => T0 H locs ls pc D0.1 D0.2.1 D0.2.2.1 (fun _ q => by cases q; exact ab_okh1 D0.2.2.2.2.1) D0.2.2.2.2.2.2.1 ⟨hd, hr⟩⟩
theorem ab_retl {x : Int} (hd : decode cc pc = .ok (.lreturn, 1)) (hr : M.2.2.1 = some .long) : ab_E M cc pc lv [ab_J x] h (some (ab_J x)) h :=
  ⟨⟨Nat.le_refl _, Nat.le_refl _⟩, fun _ _ _ _ _ _ _ _ _ _ H locs _ ls _ _ _ _ _ _ _ _ D0 _ T0 => T0 H locs ls pc D0.1 D0.2.1 D0.2.2.1 (fun _ q => by cases q; exact ab_okh1 D0.2.2.2.2.1) D0.2.2.2.2.2.2.1 ⟨hr, hd⟩⟩
end ABN
/-! contracts -/
def ab_Pre (b0 : Nat) (D : va_G) (cy : Nat → ClassId) (sA adV : Nat → Nat) (as : List ab_V) (h : ab_H) : Array Value → State → Prop :=
  va_Pc (as.map (ab_cv b0 sA)) (fun U => ab_Env b0 D cy sA adV U U.heap ∧ va_P D vwCl (ab_W b0 cy h) U.heap ∧ U.heap.size = b0 + h.1 + 1 ∧ (∀ v ∈ as, ab_okv v) ∧ ab_okh h)
def ab_Post (b0 : Nat) (D : va_G) (cy : Nat → ClassId) (sA : Nat → Nat) (r : Option ab_V) (h1 : ab_H) : Array Value → State → Outcome → State → Prop := fun _ st oc t =>
  oc = .returned (r.map (ab_cv b0 sA)) ∧ va_P D vwCl (ab_W b0 cy h1) t.heap ∧ t.heap.size = b0 + h1.1 + 1 ∧ (∀ v, r = some v → ab_okv v) ∧ ab_okh h1 ∧ va_F (ab_A b0) st t
def ab_rm (fr lo mc ms : Nat) : Room := { frames := fr, cells := mc, slots := ms, locals := lo }
def ab_CT (y : MethodName) (cc : ByteArray) (nL : Nat) (ret : Option FieldType) (fr lo : Nat) (as : List ab_V) (h : ab_H) (r : Option ab_V) (h1 : ab_H) : Prop :=
  (h.1 ≤ h1.1 ∧ h.2.1 ≤ h1.2.1) ∧ ∀ (l : Launch) (b0 : Nat) (D : va_G) (cy : Nat → ClassId) (sA adV : Nat → Nat), Met l y [.code y cc nL ret] (ab_rm fr lo (h1.1 - h.1) (h1.2.1 - h.2.1)) (ab_Pre b0 D cy sA adV as h) (ab_Post b0 D cy sA r h1) (h1.1 - h.1) (h1.2.1 - h.2.1) (ab_A b0)
def ab_l0 : List ab_V → List (Option ab_V)
  | [] => []
  | .inl x :: r => some (.inl x) :: ab_l0 r
  | .inr (.inl x) :: r => some (.inr (.inl x)) :: none :: ab_l0 r
  | .inr (.inr x) :: r => some (.inr (.inr x)) :: ab_l0 r
theorem ab_l0_args {b0 : Nat} {sA : Nat → Nat} (j : Nat) : ∀ (as : List ab_V) (k : Nat), ab_lv b0 sA k (ab_l0 as ++ List.replicate j none) = lv_args k (as.map (ab_cv b0 sA))
  | [], k => by
    simp only [ab_l0, List.nil_append, List.map_nil, lv_args]
    induction j generalizing k with
    | zero => rfl
    | succ j ih => exact ih (k + 1)
  | .inl x :: r, k => by
    simp only [ab_l0, List.cons_append, ab_lv, List.map_cons, lv_args]
    rw [ab_l0_args j r (k + 1)]; rfl
  | .inr (.inl x) :: r, k => by
    simp only [ab_l0, List.cons_append, ab_lv, List.map_cons, lv_args]
    rw [ab_l0_args j r (k + 1 + 1)]; rfl
  | .inr (.inr x) :: r, k => by
    simp only [ab_l0, List.cons_append, ab_lv, List.map_cons, lv_args]
    rw [ab_l0_args j r (k + 1)]
    have : (ab_cv b0 sA (.inr (.inr x))).category = 1 := ab_cvR_cat _ _ _
    rw [if_neg (by omega)]
theorem ab_l0_len {b0 : Nat} {sA : Nat → Nat} : ∀ as : List ab_V, (lg_sl (as.map (ab_cv b0 sA))).length = (ab_l0 as).length
  | [] => rfl
  | .inl x :: r => by
    have := ab_l0_len (b0 := b0) (sA := sA) r
    simp only [lg_sl, List.map_cons, List.flatMap_cons, ab_l0, List.length_append, List.length_cons] at this ⊢
    rw [this, show (ab_cv b0 sA (.inl x)).category = 1 from rfl]; simp; omega
  | .inr (.inl x) :: r => by
    have := ab_l0_len (b0 := b0) (sA := sA) r
    simp only [lg_sl, List.map_cons, List.flatMap_cons, ab_l0, List.length_append, List.length_cons] at this ⊢
    rw [this, show (ab_cv b0 sA (.inr (.inl x))).category = 2 from rfl]; simp; omega
  | .inr (.inr x) :: r => by
    have := ab_l0_len (b0 := b0) (sA := sA) r
    simp only [lg_sl, List.map_cons, List.flatMap_cons, ab_l0, List.length_append, List.length_cons] at this ⊢
    rw [this, show (ab_cv b0 sA (.inr (.inr x))).category = 1 from ab_cvR_cat _ _ _]; simp; omega
theorem ab_l0_mem {v : ab_V} : ∀ as : List ab_V, some v ∈ ab_l0 as → v ∈ as
  | [], h => by cases h
  | .inl x :: r, h => by
    simp only [ab_l0, List.mem_cons] at h
    rcases h with h | h
    · cases h; exact List.mem_cons_self
    · exact List.mem_cons_of_mem _ (ab_l0_mem r h)
  | .inr (.inl x) :: r, h => by
    simp only [ab_l0, List.mem_cons] at h
    rcases h with h | h | h
    · cases h; exact List.mem_cons_self
    · cases h
    · exact List.mem_cons_of_mem _ (ab_l0_mem r h)
  | .inr (.inr x) :: r, h => by
    simp only [ab_l0, List.mem_cons] at h
    rcases h with h | h
    · cases h; exact List.mem_cons_self
    · exact List.mem_cons_of_mem _ (ab_l0_mem r h)
theorem ab_l0_ok {as : List ab_V} (h : ∀ v ∈ as, ab_okv v) (j : Nat) : ∀ v, some v ∈ ab_l0 as ++ List.replicate j none → ab_okv v := by
  intro v hv
  rcases List.mem_append.mp hv with hv | hv
  · exact h v (ab_l0_mem as hv)
  · have := List.eq_of_mem_replicate hv
    cases this
theorem ab_u16 {x : Int} (h0 : 0 ≤ x) (h1 : x < 65536) : ((Int32.ofInt x).toUInt32 % 65536).toInt32 = Int32.ofInt x := by
  obtain ⟨n, rfl⟩ := Int.eq_ofNat_of_zero_le h0
  have hn : n < 65536 := by omega
  apply Int32.toBitVec_inj.mp
  have e : (Int32.ofInt (n : Int)).toBitVec = BitVec.ofNat 32 n := by simp
  rw [UInt32.toBitVec_toInt32, UInt32.toBitVec_mod, Int32.toBitVec_toUInt32, e]
  apply BitVec.eq_of_toNat_eq
  simp
  omega
theorem ab_nchar {x : Int} (h0 : 0 ≤ x) (h1 : x < 65536) : narrow .char (.int (Int32.ofInt x)) = .int (Int32.ofInt x) := by
  have := ab_u16 h0 h1
  simp only [narrow]
  first | (rw [this]; done) | (simpa using this)
theorem ab_CT.of {y : MethodName} {cc : ByteArray} {nL : Nat} {ret : Option FieldType} {fr lo j : Nat} {ini : Bool} {as : List ab_V} {h h1 : ab_H} {r : Option ab_V} {lv : List (Option ab_V)} (hy : plainName y.cls = true) (hi : ini = true → y.name = "<init>") (hl : ab_l0 as ++ List.replicate j none = lv) (hj : lv.length = nL)
    (k : ab_E (y.cls, nL, ret, ini, fr, lo, none) cc 0 lv [] h r h1) : ab_CT y cc nL ret fr lo as h r h1 := by
  refine ⟨k.1, fun l b0 D cy sA adV => ?_⟩
  refine Met.ofW (cc := cc) (maxL := nL) (ret := ret) hy rfl ?_
  intro p e s m args below meth c s₁ B hml hv
  obtain ⟨rfl, hE, hP, hz, hok, hh⟩ := hv
  have hown : s.vm.findClass y.cls = some m.cls := findClass_of_methodNamed B.named
  have hlocks := B.notSynchronized
  have hlen : (lg_sl (as.map (ab_cv b0 sA))).length ≤ nL := by
    rw [ab_l0_len, ← hj, ← hl, List.length_append]; omega
  have he := lv_entry (as.map (ab_cv b0 sA)) (n := nL) hlen
  rw [lg_entry_eq]
  generalize (lg_sl (as.map (ab_cv b0 sA)) ++ List.replicate (nL - (lg_sl (as.map (ab_cv b0 sA))).length) Slot.unset).toArray = ls at he ⊢
  rw [← ab_l0_args j as 0, hl] at he
  have := k.2 p l e (headSpec [Cond.code y cc nL ret] (ab_rm fr lo (h1.1 - h.1) (h1.2.1 - h.2.1))).room s m (as.map (ab_cv b0 sA)).toArray below meth c s.heap [] (MQ below (ab_Post b0 D cy sA r h1) (as.map (ab_cv b0 sA)).toArray s (h1.1 - h.1) (h1.2.1 - h.2.1) (ab_A b0)) ls b0 h.1 h.2.1 D cy sA adV
    ⟨B.exec, B.bytes, B.returns, hml, hown, fun q => by rw [(name_of_methodNamed B.named B.method).1]; exact hi q, ⟨Nat.le_refl _, Nat.le_refl _⟩, hE, hz, fun q hq => by cases hq⟩
    ⟨hP, hz, va_S.rf, he, (fun v hv => by cases hv), (fun v hv => by rw [← hl] at hv; exact ab_l0_ok hok j v hv), hh, Nat.le_refl _, Nat.le_refl _⟩ ⟨Nat.le_refl _, Nat.le_refl _⟩ ?_
  · rw [Nat.sub_self, Nat.sub_self] at this
    exact this
  · intro H locs ls1 pc gP gz gS gok gh grd
    have post : ∀ t : State, t.heap = H → s.WarmedH t.vm → ab_Post b0 D cy sA r h1 (as.map (ab_cv b0 sA)).toArray s (.returned (r.map (ab_cv b0 sA))) t := fun t ht _ => ⟨rfl, by rw [ht]; exact gP, by rw [ht]; exact gz, gok, gh, gS.F ht⟩
    match r, grd with
    | none, grd => exact W.vret B.exec B.bytes (by rw [B.returns]; exact grd.1) post gS.2.2 grd.2
    | some (.inl x), grd =>
      rcases grd.2 with hr | ⟨hr, hx⟩ | ⟨hr, hx⟩ | ⟨hr, hx⟩
      · exact W.iret B.exec B.bytes (by rw [B.returns]; exact hr) post gS.2.2 grd.1
      · refine W.zret (ty := .boolean) B.exec B.bytes (by rw [B.returns]; exact hr) ?_ post gS.2.2 grd.1
        rcases hx with rfl | rfl <;> decide +kernel
      · refine W.zret (ty := .byte) B.exec B.bytes (by rw [B.returns]; exact hr) ?_ post gS.2.2 grd.1
        rw [hx]; decide +kernel
      · refine W.zret (ty := .char) B.exec B.bytes (by rw [B.returns]; exact hr) ?_ post gS.2.2 grd.1
        exact ab_nchar hx.1 hx.2
    | some (.inr (.inl x)), grd => exact W.lret B.exec B.bytes (by rw [B.returns]; exact grd.1) post gS.2.2 grd.2
    | some (.inr (.inr x)), grd => exact grd.elim
/-! what a program decides of a call -/
def ab_ML (own : String) (idx : Nat) (y : MethodName) : Prop := Cond.methodLink own idx y ∈ lw_tbl ∨ ∃ host, Cond.methodLinkNest own idx y host ∈ lw_tbl
def ab_MY (y : MethodName) (cc : ByteArray) (nL n : Nat) (ret : Option FieldType) : Prop := Cond.code y cc nL ret ∈ lw_tbl ∧ Cond.initialized y.cls ∈ lw_tbl ∧ (y.cls ≠ "java/lang/invoke/MethodHandle" ∧ y.cls ≠ "java/lang/invoke/VarHandle") ∧ (parseMethodDescriptor y.desc).map (fun d => d.parameters.length) = some n
def ab_MV (y : MethodName) (ci : Nat) : Prop := Cond.instanceMethod y ∈ lw_tbl ∧ Cond.selects y.cls y y ∈ lw_tbl ∧ ∃ (T : u_T) (N : Nat), vwCl[ci]? = some (y.cls, T, N) ∧ ci < 10
def ab_MI (y : MethodName) : Prop := Cond.instanceMethod y ∈ lw_tbl ∧ y.name = "<init>"
section ABK
variable {M : ab_M} {cc : ByteArray} {pc : Nat} {lv : List (Option ab_V)} {st : List ab_V} {h h' : ab_H} {r : Option ab_V}
theorem ab_blind (b0 : Nat) (D : va_G) (cy : Nat → ClassId) (sA adV : Nat → Nat) (as : List ab_V) (h : ab_H) : FrameBlind (ab_Pre b0 D cy sA adV as h) := by
  intro a U g mk hq
  obtain ⟨e, hE, hP, hz, hok, hh⟩ := hq
  exact ⟨e, hE.to (U := U.calling g mk a) (H := U.heap) (locs := []) (State.WarmedH.refl U) va_S.rf, hP, hz, hok, hh⟩
/-- behind a call -/
theorem ab_after {as : List ab_V} {h1 : ab_H} {rv : Option ab_V} {stk : List ab_V} (hm : h.1 ≤ h1.1 ∧ h.2.1 ≤ h1.2.1) (hsub : ∀ v ∈ st, v ∈ stk) (kk : ab_E M cc (pc + 3) lv (rv.toList ++ st) h1 r h')
    (hr : ∀ (p : Program) (l : Launch) (e : Env) (R : Room) (s : State) (m : MethodId) (args : Array Value) (below : List Frame) (meth : Method) (c : Code) (H : Heap) (locs : List Loc) (ls : Array Slot) (b0 n0 s0 : Nat) (D : va_G) (cy : Nat → ClassId) (sA adV : Nat → Nat),
      ab_St M cc p R s m meth c b0 n0 D cy sA adV → ab_Dy M s b0 n0 s0 D cy sA lv stk h H locs ls → (h.1 - n0 + (h1.1 - h.1) ≤ R.cells ∧ h.2.1 - s0 + (h1.2.1 - h.2.1) ≤ R.slots) →
      va_Run p l e R s m args below meth c H locs (h.1 - n0) (h.2.1 - s0) (h1.1 - h.1) (h1.2.1 - h.2.1) (F0 m pc ls (stk.map (ab_cv b0 sA))) (st.map (ab_cv b0 sA)) (ab_Post b0 D cy sA rv h1 (as.map (ab_cv b0 sA)).toArray) (ab_A b0)) : ab_E M cc pc lv stk h r h' := by
  refine ⟨⟨by have := kk.1; omega, by have := kk.1; omega⟩, ?_⟩
  intro p l e R s m args below meth c H locs Q ls b0 n0 s0 D cy sA adV S0 D0 R0 T0
  have k1 := kk.1
  have D1 := D0
  obtain ⟨d1, d2, d3, d4, d5, d6, d7, d8, d9⟩ := D0
  have run := hr p l e R s m args below meth c H locs ls b0 n0 s0 D cy sA adV S0 D1 (by omega)
  intro T hT X
  obtain ⟨v, st₀, t, T', L, e0, X', hL, e1, e2, ⟨hv, gP, gz, gok, gh, gF⟩, go⟩ := run T hT X
  cases hv
  have hS1 : va_S (ab_A b0) s.heap t.heap (locs ++ L) := by
    obtain ⟨f1, f2⟩ := gF
    rw [e0] at f1 f2
    refine ⟨Nat.le_trans d3.1 f1, fun q q1 q2 => ?_, fun q hq => ?_⟩
    · rw [f2 q (Nat.lt_of_lt_of_le q1 d3.1) q2]
      exact d3.2.1 q q1 q2
    · rcases List.mem_append.mp hq with hq | hq
      · exact d3.2.2 q hq
      · exact hL q hq
  have ok2 : ∀ v ∈ rv.toList ++ st, ab_okv v := fun v hv => by
    rcases List.mem_append.mp hv with hv | hv
    · exact gok v (by simpa using hv)
    · exact d5 v (hsub v hv)
  have := kk.2 p l e R s m args below meth c t.heap (locs ++ L) Q ls b0 n0 s0 D cy sA adV S0 ⟨gP, gz, hS1, d4, ok2, d6, gh, by omega, by omega⟩ R0 T0
  rw [show h1.1 - n0 = h.1 - n0 + (h1.1 - h.1) by omega, show h1.2.1 - s0 = h.2.1 - s0 + (h1.2.1 - h.2.1) by omega] at this
  obtain ⟨t2, a1, b1⟩ := this T' e1 X'
  refine ⟨t2, go t2 ?_, b1⟩
  rw [List.map_append] at a1
  have ee : List.map (ab_cv b0 sA) rv.toList = (rv.map (ab_cv b0 sA)).toList := by cases rv <;> rfl
  rw [ee] at a1
  exact a1
theorem ab_good1 {y : MethodName} {cc' : ByteArray} {nL' : Nat} {ret' : Option FieldType} {s : State} (hW : ab_Ws s) (hc : Cond.code y cc' nL' ret' ∈ lw_tbl) : ∀ w ∈ [Cond.code y cc' nL' ret'], ∀ (a' : Array Value) (U : State), s.WarmedH U.vm → w.before a' U = true := by
  intro w hw a' U hU
  rw [List.mem_singleton.mp hw]
  exact ab_word (a := #[]) hU rfl (hW _ hc rfl _)
theorem ab_callS {idx nL' n fr' lo' : Nat} {y : MethodName} {cc' : ByteArray} {ret' : Option FieldType} {as stk : List ab_V} {rv : Option ab_V} {h1 : ab_H} (hd : decode cc pc = .ok (.invokestatic idx, 3)) (hl : ab_ML M.1 idx y) (hy : ab_MY y cc' nL' n ret') (hs : Cond.static y ∈ lw_tbl) (hC : ab_CT y cc' nL' ret' fr' lo' as h rv h1)
    (hfr : fr' + 1 ≤ M.2.2.2.2.1 ∧ 8 + (nL' + 11) + lo' ≤ M.2.2.2.2.2.1) (hn : as.length = n) (hst : ab_wd st ≤ 8) (hk : stk = as.reverse ++ st) (kk : ab_E M cc (pc + 3) lv (rv.toList ++ st) h1 r h') : ab_E M cc pc lv stk h r h' := by
  subst hk
  refine ab_after (as := as) hC.1 (fun v hv => List.mem_append_right _ hv) kk fun p l e R s m args below meth c H locs ls b0 n0 s0 D cy sA adV S0 D0 R0 => ?_
  obtain ⟨q1, q2, q3, q4, q5, q6, q7, q8, q9, q10⟩ := S0
  obtain ⟨d1, d2, d3, d4, d5, d6, d7, d8, d9⟩ := D0
  have hcat := ab_catsum b0 sA st
  have hlen : ∀ sig, parseMethodDescriptor y.desc = some sig → n = sig.parameters.length := fun sig hq => by
    have h2 := hy.2.2.2
    rw [hq] at h2
    exact (Option.some.inj h2).symm
  have pre : PreS s H (ab_Pre b0 D cy sA adV as h) (as.map (ab_cv b0 sA)) := ⟨ab_blind _ _ _ _ _ _ _, fun U hU hW => ⟨rfl, by rw [hU]; exact q8.to hW d3, by rw [hU]; exact d1, by rw [hU]; exact d2, fun v hv => d5 v (List.mem_append_left _ (List.mem_reverse.mpr hv)), d7⟩⟩
  rcases hl with hl | ⟨host, hl⟩
  · exact va_runS (Ts := []) ⟨q1, q2, q4, q5, fun _ hq => by cases hq⟩ (hC.2 l b0 D cy sA adV) (n := n) ⟨⟨rfl, rfl, by show fr' + 1 ≤ _; omega, by show 8 + (nL' + 11) + lo' ≤ _; omega, ab_good1 q8.1 hy.1, List.mem_singleton.mpr rfl, q8.1 _ hy.1 rfl _, q8.1 _ hy.2.1 rfl _, hy.2.2.1, hlen, q8.1 _ hl rfl _⟩, q8.1 _ hs rfl _⟩ pre rfl (by rw [List.length_map]; exact hn) d4.1
      (by show List.map _ (as.reverse ++ st) = _; rw [List.map_append, List.map_reverse]) (lv_room (by omega)) hd R0
  · exact va_runSN (Ts := []) ⟨q1, q2, q4, q5, fun _ hq => by cases hq⟩ (hC.2 l b0 D cy sA adV) (n := n) ⟨⟨⟨rfl, rfl, by show fr' + 1 ≤ _; omega, by show 8 + (nL' + 11) + lo' ≤ _; omega, ab_good1 q8.1 hy.1, List.mem_singleton.mpr rfl⟩, q8.1 _ hy.1 rfl _, q8.1 _ hy.2.1 rfl _, hy.2.2.1, hlen, q8.1 _ hl rfl _⟩, q8.1 _ hs rfl _, trivial⟩ pre rfl (by rw [List.length_map]; exact hn) d4.1
      (by show List.map _ (as.reverse ++ st) = _; rw [List.map_append, List.map_reverse]) (lv_room (by omega)) hd R0
theorem ab_callV {idx nL' n fr' lo' ci : Nat} {y : MethodName} {cc' : ByteArray} {ret' : Option FieldType} {as stk : List ab_V} {b : Int} {rv : Option ab_V} {h1 : ab_H} (hd : decode cc pc = .ok (.invokevirtual idx, 3)) (hl : ab_ML M.1 idx y) (hy : ab_MY y cc' nL' n ret') (hs : ab_MV y ci) (hb : (h.2.2 b.toNat).1 = ci + 1) (hC : ab_CT y cc' nL' ret' fr' lo' (ab_R b :: as) h rv h1)
    (hfr : fr' + 1 ≤ M.2.2.2.2.1 ∧ 8 + (nL' + 11) + lo' ≤ M.2.2.2.2.2.1) (hn : as.length = n) (hst : ab_wd st ≤ 8) (hk : stk = as.reverse ++ ab_R b :: st) (kk : ab_E M cc (pc + 3) lv (rv.toList ++ st) h1 r h') : ab_E M cc pc lv stk h r h' := by
  subst hk
  refine ab_after (as := ab_R b :: as) hC.1 (fun v hv => List.mem_append_right _ (List.mem_cons_of_mem _ hv)) kk fun p l e R s m args below meth c H locs ls b0 n0 s0 D cy sA adV S0 D0 R0 => ?_
  obtain ⟨q1, q2, q3, q4, q5, q6, q7, q8, q9, q10⟩ := S0
  obtain ⟨d1, d2, d3, d4, d5, d6, d7, d8, d9⟩ := D0
  obtain ⟨s1, s2, T, N, s3, s4⟩ := hs
  obtain ⟨i1, i2, i3⟩ := ab_there d7 (by omega) hb
  have hcat := ab_catsum b0 sA st
  have hlen : ∀ sig, parseMethodDescriptor y.desc = some sig → n = sig.parameters.length := fun sig hq => by
    have h2 := hy.2.2.2
    rw [hq] at h2
    exact (Option.some.inj h2).symm
  have hcv : ab_cv b0 sA (ab_R b) = .ref (b0 + b.toNat) := ab_cvR_pos i3
  have hrecv := va_recv q8.2.1 d1 s3 (q0 := b.toNat - 1) (a := b0 + b.toNat) (by rw [ab_W_get i1 i2, ab_ent_obj (by omega), show (h.2.2 b.toNat).1 - 1 = ci by omega])
  have hm : (Value.ref (b0 + b.toNat) :: as.map (ab_cv b0 sA)) = (ab_R b :: as).map (ab_cv b0 sA) := by rw [List.map_cons, hcv]
  have pre : PreV s H y.cls (b0 + b.toNat) (ab_Pre b0 D cy sA adV (ab_R b :: as) h) (as.map (ab_cv b0 sA)) := ⟨ab_blind _ _ _ _ _ _ _, hrecv, fun U hU hW => ⟨by rw [hm], by rw [hU]; exact q8.to hW d3, by rw [hU]; exact d1, by rw [hU]; exact d2, fun v hv => by
    rcases List.mem_cons.mp hv with rfl | hv
    · exact trivial
    · exact d5 v (List.mem_append_left _ (List.mem_reverse.mpr hv)), d7⟩⟩
  rw [← hm]
  rcases hl with hl | ⟨host, hl⟩
  · exact va_runV (Ts := []) (C := y.cls) ⟨q1, q2, q4, q5, fun _ hq => by cases hq⟩ (hC.2 l b0 D cy sA adV) (n := n) ⟨⟨rfl, rfl, by show fr' + 1 ≤ _; omega, by show 8 + (nL' + 11) + lo' ≤ _; omega, ab_good1 q8.1 hy.1, List.mem_singleton.mpr rfl, q8.1 _ hy.1 rfl _, q8.1 _ hy.2.1 rfl _, hy.2.2.1, hlen, q8.1 _ hl rfl _⟩, q8.1 _ s1 rfl _, q8.1 _ s2 rfl _⟩ pre rfl (by rw [List.length_map]; exact hn) d4.1
      (by show List.map _ (as.reverse ++ ab_R b :: st) = _; rw [List.map_append, List.map_reverse, List.map_cons, hcv]) (lv_room (by omega)) hd R0
  · exact va_runVN (Ts := []) (C := y.cls) ⟨q1, q2, q4, q5, fun _ hq => by cases hq⟩ (hC.2 l b0 D cy sA adV) (n := n) ⟨⟨⟨rfl, rfl, by show fr' + 1 ≤ _; omega, by show 8 + (nL' + 11) + lo' ≤ _; omega, ab_good1 q8.1 hy.1, List.mem_singleton.mpr rfl⟩, q8.1 _ hy.1 rfl _, q8.1 _ hy.2.1 rfl _, hy.2.2.1, hlen, q8.1 _ hl rfl _⟩, q8.1 _ s1 rfl _, q8.1 _ s2 rfl _⟩ pre rfl (by rw [List.length_map]; exact hn) d4.1
      (by show List.map _ (as.reverse ++ ab_R b :: st) = _; rw [List.map_append, List.map_reverse, List.map_cons, hcv]) (lv_room (by omega)) hd R0
theorem ab_callI {idx nL' n fr' lo' : Nat} {y : MethodName} {cc' : ByteArray} {as stk : List ab_V} {b : Int} {h1 : ab_H} (hd : decode cc pc = .ok (.invokespecial idx, 3)) (hl : ab_ML M.1 idx y) (hy : ab_MY y cc' nL' n none) (hs : ab_MI y) (hb : 0 < b) (hC : ab_CT y cc' nL' none fr' lo' (ab_R b :: as) h none h1)
    (hfr : fr' + 1 ≤ M.2.2.2.2.1 ∧ 8 + (nL' + 11) + lo' ≤ M.2.2.2.2.2.1) (hn : as.length = n) (hst : ab_wd st ≤ 8) (hk : stk = as.reverse ++ ab_R b :: st) (kk : ab_E M cc (pc + 3) lv st h1 r h') : ab_E M cc pc lv stk h r h' := by
  subst hk
  refine ab_after (as := ab_R b :: as) (rv := none) hC.1 (fun v hv => List.mem_append_right _ (List.mem_cons_of_mem _ hv)) kk fun p l e R s m args below meth c H locs ls b0 n0 s0 D cy sA adV S0 D0 R0 => ?_
  obtain ⟨q1, q2, q3, q4, q5, q6, q7, q8, q9, q10⟩ := S0
  obtain ⟨d1, d2, d3, d4, d5, d6, d7, d8, d9⟩ := D0
  have hcat := ab_catsum b0 sA st
  have hlen : ∀ sig, parseMethodDescriptor y.desc = some sig → n = sig.parameters.length := fun sig hq => by
    have h2 := hy.2.2.2
    rw [hq] at h2
    exact (Option.some.inj h2).symm
  have hcv : ab_cv b0 sA (ab_R b) = .ref (b0 + b.toNat) := ab_cvR_pos hb
  have hm : (Value.ref (b0 + b.toNat) :: as.map (ab_cv b0 sA)) = (ab_R b :: as).map (ab_cv b0 sA) := by rw [List.map_cons, hcv]
  have pre : PreS s H (ab_Pre b0 D cy sA adV (ab_R b :: as) h) (.ref (b0 + b.toNat) :: as.map (ab_cv b0 sA)) := ⟨ab_blind _ _ _ _ _ _ _, fun U hU hW => ⟨by rw [hm], by rw [hU]; exact q8.to hW d3, by rw [hU]; exact d1, by rw [hU]; exact d2, fun v hv => by
    rcases List.mem_cons.mp hv with rfl | hv
    · exact trivial
    · exact d5 v (List.mem_append_left _ (List.mem_reverse.mpr hv)), d7⟩⟩
  rw [← hm]
  rcases hl with hl | ⟨host, hl⟩
  · exact va_runI (Ts := []) ⟨q1, q2, q4, q5, fun _ hq => by cases hq⟩ (hC.2 l b0 D cy sA adV) (n := n) ⟨⟨rfl, rfl, by show fr' + 1 ≤ _; omega, by show 8 + (nL' + 11) + lo' ≤ _; omega, ab_good1 q8.1 hy.1, List.mem_singleton.mpr rfl, q8.1 _ hy.1 rfl _, q8.1 _ hy.2.1 rfl _, hy.2.2.1, hlen, q8.1 _ hl rfl _⟩, hs.2, q8.1 _ hs.1 rfl _⟩ pre rfl (by rw [List.length_map]; exact hn) d4.1
      (by show List.map _ (as.reverse ++ ab_R b :: st) = _; rw [List.map_append, List.map_reverse, List.map_cons, hcv]) (lv_room (by omega)) hd R0
  · exact va_runIN (Ts := []) ⟨q1, q2, q4, q5, fun _ hq => by cases hq⟩ (hC.2 l b0 D cy sA adV) (n := n) ⟨⟨⟨rfl, rfl, by show fr' + 1 ≤ _; omega, by show 8 + (nL' + 11) + lo' ≤ _; omega, ab_good1 q8.1 hy.1, List.mem_singleton.mpr rfl⟩, q8.1 _ hy.1 rfl _, q8.1 _ hy.2.1 rfl _, hy.2.2.1, hlen, q8.1 _ hl rfl _⟩, hs.2, q8.1 _ hs.1 rfl _⟩ pre rfl (by rw [List.length_map]; exact hn) d4.1
      (by show List.map _ (as.reverse ++ ab_R b :: st) = _; rw [List.map_append, List.map_reverse, List.map_cons, hcv]) (lv_room (by omega)) hd R0
end ABK
