/-! what stays true of the machine's tables and of what lies outside our cells -/
def ab_nest : Cond → Bool
  | .methodLinkNest .. => true
  | .arrayOver (.object _) => true
  | _ => false
def ab_fit (w : Cond) : Bool := goodWord w || ab_nest w
def ab_Ws (U : State) : Prop := ∀ w ∈ lw_tbl, ab_fit w = true → ∀ a : Array Value, w.before a U = true
theorem ab_word {s U : State} (hW : s.WarmedH U.vm) {w : Cond} (hg : ab_fit w = true) {a a' : Array Value} (h : w.before a s = true) : w.before a' U = true := by
  rcases Bool.or_eq_true_iff.mp hg with h1 | h1
  · exact word_at hW (good_of_word h1) h
  · unfold ab_nest at h1
    split at h1
    · exact va_Nw.use rfl (va_Nw.warmM hW (va_Nw.of rfl h))
    · exact va_AO.use (va_AO.moved hW.alike (va_AO.of h))
    · cases h1
theorem ab_Ws.warm {s U : State} (hW : s.WarmedH U.vm) (h : ab_Ws s) : ab_Ws U := fun w hw hg a => ab_word (a := #[]) hW hg (h w hw hg _)
def ab_Str (sA adV : Nat → Nat) (b0 : Nat) (U : State) (H : Heap) : Prop :=
  va_Z "java/lang/String" "COMPACT_STRINGS" "Z" (.int 1) (ab_A b0) U H ∧ (va_Z "jdk/internal/util/Preconditions" "SIOOBE_FORMATTER" "Ljava/util/function/BiFunction;" .null (ab_A b0) U H ∨ va_Z "jdk/internal/util/Preconditions" "SIOOBE_FORMATTER" "Ljava/util/function/BiFunction;" (.ref (sA 3000)) (ab_A b0) U H) ∧
  vk_S 16 ab_sLen ab_sByt (fun i => sA (i + 1)) (fun i => sA (i + 2001)) (ab_A b0) U H ∧ ∀ (i : Nat) (q : String × Nat × String), ab_sOwn[i]? = some q → vk_R q.1 q.2.1 q.2.2 (sA (i + 1)) U
def ab_Env (b0 : Nat) (D : va_G) (cy : Nat → ClassId) (sA adV : Nat → Nat) (U : State) (H : Heap) : Prop := ab_Ws U ∧ va_K D vwCl (ab_tys cy) U ∧ ab_Str sA adV b0 U H
theorem ab_Env.to {b0 : Nat} {D : va_G} {cy : Nat → ClassId} {sA adV : Nat → Nat} {s U : State} {H : Heap} {locs : List Loc} (h : ab_Env b0 D cy sA adV s s.heap) (hW : s.WarmedH U.vm) (hS : va_S (ab_A b0) s.heap H locs) : ab_Env b0 D cy sA adV U H := by
  obtain ⟨h1, h2, h3, h4, h5, h6⟩ := h
  have hk : ∀ a : Nat, a < s.heap.size → ¬ ab_A b0 a → H[a]? = s.heap[a]? := hS.2.1
  exact ⟨h1.warm hW, va_K.moved hW.alike h2, (va_Z.moved hW.alike h3).kept hk, h4.imp (fun q => (va_Z.moved hW.alike q).kept hk) (fun q => (va_Z.moved hW.alike q).kept hk), (vk_S.moved hW.alike h5).kept hk, fun i q hq => (h6 i q hq).warm hW⟩
/-! the judgement: own class, locals, what it returns, whether a constructor, frames and words of locals that it may take, the law's script -/
abbrev ab_M : Type := String × Nat × Option FieldType × Bool × Nat × Nat × Option (Nat × (Nat → Int))
def ab_Scr (M : ab_M) (sA : Nat → Nat) (b0 : Nat) (s : State) : Prop := ∀ q : Nat × (Nat → Int), M.2.2.2.2.2.2 = some q → va_X (sA 1000) q.1 (fun i => Int32.ofInt (q.2 i)) s s.heap ∧ sA 1000 < s.heap.size ∧ ¬ ab_A b0 (sA 1000) ∧ (∀ i, ab_i32 (q.2 i)) ∧ q.1 < 2147483648
def ab_St (M : ab_M) (cc : ByteArray) (p : Program) (R : Room) (s : State) (m : MethodId) (meth : Method) (c : Code) (b0 n0 : Nat) (D : va_G) (cy : Nat → ClassId) (sA adV : Nat → Nat) : Prop :=
  p.tables.exec = Jvm.exec ∧ c.code = cc ∧ meth.sig.returnType = M.2.2.1 ∧ c.maxLocals = M.2.1 ∧ s.vm.findClass M.1 = some m.cls ∧ (M.2.2.2.1 = true → meth.name = "<init>") ∧ (M.2.2.2.2.1 ≤ R.frames ∧ M.2.2.2.2.2.1 ≤ R.locals) ∧
  ab_Env b0 D cy sA adV s s.heap ∧ s.heap.size = b0 + n0 + 1 ∧ ab_Scr M sA b0 s
def ab_Dy (M : ab_M) (s : State) (b0 n0 s0 : Nat) (D : va_G) (cy : Nat → ClassId) (sA : Nat → Nat) (lv : List (Option ab_V)) (st : List ab_V) (h : ab_H) (H : Heap) (locs : List Loc) (ls : Array Slot) : Prop :=
  va_P D vwCl (ab_W b0 cy h) H ∧ H.size = b0 + h.1 + 1 ∧ va_S (ab_A b0) s.heap H locs ∧ lv_has ls M.2.1 (ab_lv b0 sA 0 lv) ∧ (∀ v ∈ st, ab_okv v) ∧ (∀ v, some v ∈ lv → ab_okv v) ∧ ab_okh h ∧ n0 ≤ h.1 ∧ s0 ≤ h.2.1
def ab_rd (cc : ByteArray) (pc : Nat) (ret : Option FieldType) : Option ab_V → Prop
  | none => ret = none ∧ decode cc pc = .ok (.return_, 1)
  | some (.inl x) => decode cc pc = .ok (.ireturn, 1) ∧ (ret = some .int ∨ ret = some .boolean ∧ (x = 0 ∨ x = 1) ∨ ret = some .byte ∧ x = 0 ∨ ret = some .char ∧ 0 ≤ x ∧ x < 65536)
  | some (.inr (.inl _)) => ret = some .long ∧ decode cc pc = .ok (.lreturn, 1)
  | some (.inr (.inr _)) => False
def ab_Rt (M : ab_M) (cc : ByteArray) (p : Program) (l : Launch) (e : Env) (R : Room) (s : State) (m : MethodId) (args : Array Value) (below : List Frame) (meth : Method) (c : Code) (Q : State → Prop) (b0 n0 s0 : Nat) (D : va_G) (cy : Nat → ClassId) (sA : Nat → Nat) (r : Option ab_V) (h' : ab_H) : Prop :=
  ∀ (H : Heap) (locs : List Loc) (ls : Array Slot) (pc : Nat), va_P D vwCl (ab_W b0 cy h') H → H.size = b0 + h'.1 + 1 → va_S (ab_A b0) s.heap H locs → (∀ v, r = some v → ab_okv v) → ab_okh h' → ab_rd cc pc M.2.2.1 r →
    W p l e R s m args below meth c H locs (h'.1 - n0) (h'.2.1 - s0) Q (F0 m pc ls (r.toList.map (ab_cv b0 sA)))
def ab_E (M : ab_M) (cc : ByteArray) (pc : Nat) (lv : List (Option ab_V)) (st : List ab_V) (h : ab_H) (r : Option ab_V) (h' : ab_H) : Prop :=
  (h.1 ≤ h'.1 ∧ h.2.1 ≤ h'.2.1) ∧ ∀ (p : Program) (l : Launch) (e : Env) (R : Room) (s : State) (m : MethodId) (args : Array Value) (below : List Frame) (meth : Method) (c : Code) (H : Heap) (locs : List Loc) (Q : State → Prop) (ls : Array Slot) (b0 n0 s0 : Nat) (D : va_G) (cy : Nat → ClassId) (sA adV : Nat → Nat),
    ab_St M cc p R s m meth c b0 n0 D cy sA adV → ab_Dy M s b0 n0 s0 D cy sA lv st h H locs ls → h'.1 - n0 ≤ R.cells ∧ h'.2.1 - s0 ≤ R.slots → ab_Rt M cc p l e R s m args below meth c Q b0 n0 s0 D cy sA r h' →
    W p l e R s m args below meth c H locs (h.1 - n0) (h.2.1 - s0) Q (F0 m pc ls (st.map (ab_cv b0 sA)))
/-! rows of the judgement -/
section ABR
variable {M : ab_M} {cc : ByteArray} {pc : Nat} {lv : List (Option ab_V)} {st : List ab_V} {h h' : ab_H} {r : Option ab_V}
/-- a step that changes the stack alone -/
theorem ab_stk {pc2 : Nat} {st2 : List ab_V} (k : ab_E M cc pc2 lv st2 h r h') (hok : (∀ v ∈ st, ab_okv v) → (∀ v, some v ∈ lv → ab_okv v) → ab_okh h → ∀ v ∈ st2, ab_okv v)
    (hs : ∀ (p : Program) (l : Launch) (e : Env) (R : Room) (s : State) (m : MethodId) (args : Array Value) (below : List Frame) (meth : Method) (c : Code) (H : Heap) (locs : List Loc) (Q : State → Prop) (ls : Array Slot) (b0 n0 s0 : Nat) (D : va_G) (cy : Nat → ClassId) (sA adV : Nat → Nat),
      ab_St M cc p R s m meth c b0 n0 D cy sA adV → ab_Dy M s b0 n0 s0 D cy sA lv st h H locs ls → h.1 - n0 ≤ R.cells ∧ h.2.1 - s0 ≤ R.slots →
      W p l e R s m args below meth c H locs (h.1 - n0) (h.2.1 - s0) Q (F0 m pc2 ls (st2.map (ab_cv b0 sA))) → W p l e R s m args below meth c H locs (h.1 - n0) (h.2.1 - s0) Q (F0 m pc ls (st.map (ab_cv b0 sA)))) : ab_E M cc pc lv st h r h' := by
  refine ⟨k.1, ?_⟩
  intro p l e R s m args below meth c H locs Q ls b0 n0 s0 D cy sA adV S0 D0 R0 T0
  have D1 := D0
  obtain ⟨d1, d2, d3, d4, d5, d6, d7, d8, d9⟩ := D0
  have k1 := k.1
  refine hs p l e R s m args below meth c H locs Q ls b0 n0 s0 D cy sA adV S0 D1 (by omega) ?_
  exact k.2 p l e R s m args below meth c H locs Q ls b0 n0 s0 D cy sA adV S0 ⟨d1, d2, d3, d4, hok d5 d6 d7, d6, d7, d8, d9⟩ R0 T0
theorem ab_ok1 {v w : ab_V} {st : List ab_V} (h : ∀ v ∈ st, ab_okv v) (hv : ab_okv w) : ∀ v ∈ w :: st, ab_okv v := fun v h1 => by
  rcases List.mem_cons.mp h1 with rfl | h1
  · exact hv
  · exact h v h1
theorem ab_okt {w : ab_V} {st : List ab_V} (h : ∀ v ∈ w :: st, ab_okv v) : ∀ v ∈ st, ab_okv v := fun v h1 => h v (List.mem_cons_of_mem _ h1)
theorem ab_okh1 {w : ab_V} {st : List ab_V} (h : ∀ v ∈ w :: st, ab_okv v) : ab_okv w := h w List.mem_cons_self
theorem ab_less {lv2 : List (Option ab_V)} (hs : ∀ (i : Nat) (v : ab_V), lv2[i]? = some (some v) → lv[i]? = some (some v)) (k : ab_E M cc pc lv2 st h r h') : ab_E M cc pc lv st h r h' := by
  refine ⟨k.1, ?_⟩
  intro p l e R s m args below meth c H locs Q ls b0 n0 s0 D cy sA adV S0 D0 R0 T0
  obtain ⟨d1, d2, d3, d4, d5, d6, d7, d8, d9⟩ := D0
  refine k.2 p l e R s m args below meth c H locs Q ls b0 n0 s0 D cy sA adV S0 ⟨d1, d2, d3, ab_lv_less d4 hs, d5, fun v hv => ?_, d7, d8, d9⟩ R0 T0
  obtain ⟨i, hi⟩ := List.getElem?_of_mem hv
  exact d6 v (List.mem_of_getElem? (hs i v hi))
theorem ab_lvok (h6 : ∀ v, some v ∈ lv → ab_okv v) {i : Nat} {v : ab_V} (hi : lv[i]? = some (some v)) : ab_okv v := h6 v (List.mem_of_getElem? hi)
theorem ab_iconst {n : Int} (hd : decode cc pc = .ok (.iconst n, 1)) (hr : ab_i32 n) (k : ab_E M cc (pc + 1) lv (ab_I n :: st) h r h') : ab_E M cc pc lv st h r h' :=
  ab_stk k (fun h5 _ _ => ab_ok1 (v := ab_I n) h5 hr) fun _ _ _ _ _ _ _ _ _ _ _ _ _ _ _ _ _ _ _ _ _ S0 _ _ kW => lv_iconst S0.1 S0.2.1 hd rfl kW
theorem ab_bipush {n x : Int} (hd : decode cc pc = .ok (.bipush n, 2)) (hv : (Int8.ofInt n).toInt32 = Int32.ofInt x) (hr : ab_i32 x) (k : ab_E M cc (pc + 2) lv (ab_I x :: st) h r h') : ab_E M cc pc lv st h r h' :=
  ab_stk k (fun h5 _ _ => ab_ok1 (v := ab_I n) h5 hr) fun _ _ _ _ _ _ _ _ _ _ _ _ _ _ _ _ _ _ _ _ _ S0 _ _ kW => lv_bipush S0.1 S0.2.1 hd hv kW
theorem ab_sipush {n x : Int} (hd : decode cc pc = .ok (.sipush n, 3)) (hv : (Int16.ofInt n).toInt32 = Int32.ofInt x) (hr : ab_i32 x) (k : ab_E M cc (pc + 3) lv (ab_I x :: st) h r h') : ab_E M cc pc lv st h r h' :=
  ab_stk k (fun h5 _ _ => ab_ok1 (v := ab_I n) h5 hr) fun _ _ _ _ _ _ _ _ _ _ _ _ _ _ _ _ _ _ _ _ _ S0 _ _ kW => lv_sipush S0.1 S0.2.1 hd hv kW
theorem ab_lconst {n : Fin 2} {x : Int} (hd : decode cc pc = .ok (.lconst n, 1)) (hv : Int64.ofNat (n : Nat) = Int64.ofInt x) (hr : ab_i64 x) (k : ab_E M cc (pc + 1) lv (ab_J x :: st) h r h') : ab_E M cc pc lv st h r h' :=
  ab_stk k (fun h5 _ _ => ab_ok1 (v := ab_J x) h5 hr) fun _ _ _ _ _ _ _ _ _ _ _ _ _ _ _ _ _ _ _ _ _ S0 _ _ kW => lv_lconst S0.1 S0.2.1 hd hv kW
theorem ab_ldc {i : Nat} {x : Int} (hd : decode cc pc = .ok (.ldc i, 2)) (hw : Cond.constant M.1 i (Int32.ofInt x) ∈ lw_tbl) (hr : ab_i32 x) (k : ab_E M cc (pc + 2) lv (ab_I x :: st) h r h') : ab_E M cc pc lv st h r h' :=
  ab_stk k (fun h5 _ _ => ab_ok1 (v := ab_I x) h5 hr) fun _ _ _ _ _ _ _ _ _ _ _ _ _ _ _ _ _ _ _ _ _ S0 _ _ kW => lv_ldc S0.1 S0.2.1 S0.2.2.2.2.1 (S0.2.2.2.2.2.2.2.1.1 _ hw rfl _) hd kW
theorem ab_ldcw {i : Nat} {x : Int} (hd : decode cc pc = .ok (.ldc_w i, 3)) (hw : Cond.constant M.1 i (Int32.ofInt x) ∈ lw_tbl) (hr : ab_i32 x) (k : ab_E M cc (pc + 3) lv (ab_I x :: st) h r h') : ab_E M cc pc lv st h r h' :=
  ab_stk k (fun h5 _ _ => ab_ok1 (v := ab_I x) h5 hr) fun _ _ _ _ _ _ _ _ _ _ _ _ _ _ _ _ _ _ _ _ _ S0 _ _ kW => lv_ldcw S0.1 S0.2.1 S0.2.2.2.2.1 (S0.2.2.2.2.2.2.2.1.1 _ hw rfl _) hd kW
theorem ab_ldc2 {i : Nat} {x : Int} (hd : decode cc pc = .ok (.ldc2_w i, 3)) (hw : Cond.constantLong M.1 i (Int64.ofInt x) ∈ lw_tbl) (hr : ab_i64 x) (k : ab_E M cc (pc + 3) lv (ab_J x :: st) h r h') : ab_E M cc pc lv st h r h' :=
  ab_stk k (fun h5 _ _ => ab_ok1 (v := ab_J x) h5 hr) fun _ _ _ _ _ _ _ _ _ _ _ _ _ _ _ _ _ _ _ _ _ S0 _ _ kW => lv_ldc2 S0.1 S0.2.1 S0.2.2.2.2.1 (S0.2.2.2.2.2.2.2.1.1 _ hw rfl _) hd kW
theorem ab_iload_n {q : Fin 4} {i : Nat} {x : Int} (hd : decode cc pc = .ok (.iload_n q, 1)) (hq : (q : Nat) = i) (hi : lv[i]? = some (some (ab_I x))) (k : ab_E M cc (pc + 1) lv (ab_I x :: st) h r h') : ab_E M cc pc lv st h r h' :=
  ab_stk k (fun h5 h6 _ => ab_ok1 (v := ab_I x) h5 (ab_lvok h6 hi)) fun _ _ _ _ _ _ _ _ _ _ _ _ _ _ _ _ _ _ _ _ _ S0 D0 _ kW => lv_iload_n S0.1 S0.2.1 hd hq (ab_lv_read D0.2.2.2.1 hi) kW
theorem ab_iload {i : Nat} {x : Int} (hd : decode cc pc = .ok (.iload i, 2)) (hi : lv[i]? = some (some (ab_I x))) (k : ab_E M cc (pc + 2) lv (ab_I x :: st) h r h') : ab_E M cc pc lv st h r h' :=
  ab_stk k (fun h5 h6 _ => ab_ok1 (v := ab_I x) h5 (ab_lvok h6 hi)) fun _ _ _ _ _ _ _ _ _ _ _ _ _ _ _ _ _ _ _ _ _ S0 D0 _ kW => lv_iload S0.1 S0.2.1 hd (ab_lv_read D0.2.2.2.1 hi) kW
theorem ab_lload_n {q : Fin 4} {i : Nat} {x : Int} (hd : decode cc pc = .ok (.lload_n q, 1)) (hq : (q : Nat) = i) (hi : lv[i]? = some (some (ab_J x))) (k : ab_E M cc (pc + 1) lv (ab_J x :: st) h r h') : ab_E M cc pc lv st h r h' :=
  ab_stk k (fun h5 h6 _ => ab_ok1 (v := ab_J x) h5 (ab_lvok h6 hi)) fun _ _ _ _ _ _ _ _ _ _ _ _ _ _ _ _ _ _ _ _ _ S0 D0 _ kW => lv_lload_n S0.1 S0.2.1 hd hq (ab_lv_read D0.2.2.2.1 hi) kW
theorem ab_lload {i : Nat} {x : Int} (hd : decode cc pc = .ok (.lload i, 2)) (hi : lv[i]? = some (some (ab_J x))) (k : ab_E M cc (pc + 2) lv (ab_J x :: st) h r h') : ab_E M cc pc lv st h r h' :=
  ab_stk k (fun h5 h6 _ => ab_ok1 (v := ab_J x) h5 (ab_lvok h6 hi)) fun _ _ _ _ _ _ _ _ _ _ _ _ _ _ _ _ _ _ _ _ _ S0 D0 _ kW => lv_lload S0.1 S0.2.1 hd (ab_lv_read D0.2.2.2.1 hi) kW
theorem ab_cvR_or (b0 : Nat) (sA : Nat → Nat) (x : Int) : ab_cvR b0 sA x = .null ∨ ∃ a, ab_cvR b0 sA x = .ref a := by
  unfold ab_cvR; split
  · exact Or.inl rfl
  · split <;> exact Or.inr ⟨_, rfl⟩
theorem ab_cvR_cat (b0 : Nat) (sA : Nat → Nat) (x : Int) : (ab_cvR b0 sA x).category = 1 := by
  rcases ab_cvR_or b0 sA x with e | ⟨a, e⟩ <;> rw [e] <;> rfl
theorem ab_aload_n {q : Fin 4} {i : Nat} {x : Int} (hd : decode cc pc = .ok (.aload_n q, 1)) (hq : (q : Nat) = i) (hi : lv[i]? = some (some (ab_R x))) (k : ab_E M cc (pc + 1) lv (ab_R x :: st) h r h') : ab_E M cc pc lv st h r h' :=
  ab_stk k (fun h5 h6 _ => ab_ok1 (v := ab_R x) h5 (ab_lvok h6 hi)) fun _ _ _ _ _ _ _ _ _ _ _ _ _ _ b0 _ _ _ _ sA _ S0 D0 _ kW => by
    have e0 := ab_lv_read D0.2.2.2.1 hi
    simp only [List.map_cons, ab_cv] at e0 kW ⊢
    rcases ab_cvR_or b0 sA x with e | ⟨a, e⟩ <;> rw [e] at e0 kW
    · exact lv_aload_nN S0.1 S0.2.1 hd hq e0 kW
    · exact lv_aload_n S0.1 S0.2.1 hd hq e0 kW
theorem ab_aload {i : Nat} {x : Int} (hd : decode cc pc = .ok (.aload i, 2)) (hi : lv[i]? = some (some (ab_R x))) (k : ab_E M cc (pc + 2) lv (ab_R x :: st) h r h') : ab_E M cc pc lv st h r h' :=
  ab_stk k (fun h5 h6 _ => ab_ok1 (v := ab_R x) h5 (ab_lvok h6 hi)) fun _ _ _ _ _ _ _ _ _ _ _ _ _ _ b0 _ _ _ _ sA _ S0 D0 _ kW => by
    have e0 := ab_lv_read D0.2.2.2.1 hi
    simp only [List.map_cons, ab_cv] at e0 kW ⊢
    rcases ab_cvR_or b0 sA x with e | ⟨a, e⟩ <;> rw [e] at e0 kW
    · exact lv_aloadN S0.1 S0.2.1 hd e0 kW
    · exact lv_aload S0.1 S0.2.1 hd e0 kW
theorem ab_iadd {x y : Int} (hd : decode cc pc = .ok (.iadd, 1)) (k : ab_E M cc (pc + 1) lv (ab_I (ab_w32 (x + y)) :: st) h r h') : ab_E M cc pc lv (ab_I y :: ab_I x :: st) h r h' :=
  ab_stk k (fun h5 _ _ => ab_ok1 (v := ab_I 0) (ab_okt (ab_okt h5)) (ab_w32_in _)) fun _ _ _ _ _ _ _ _ _ _ _ _ _ _ _ _ _ _ _ _ _ S0 _ _ kW => lv_iadd S0.1 S0.2.1 hd (by rw [ab_add]; exact kW)
theorem ab_isub {x y : Int} (hd : decode cc pc = .ok (.isub, 1)) (k : ab_E M cc (pc + 1) lv (ab_I (ab_w32 (x - y)) :: st) h r h') : ab_E M cc pc lv (ab_I y :: ab_I x :: st) h r h' :=
  ab_stk k (fun h5 _ _ => ab_ok1 (v := ab_I 0) (ab_okt (ab_okt h5)) (ab_w32_in _)) fun _ _ _ _ _ _ _ _ _ _ _ _ _ _ _ _ _ _ _ _ _ S0 _ _ kW => lv_isub S0.1 S0.2.1 hd (by rw [ab_sub]; exact kW)
theorem ab_imul {x y : Int} (hd : decode cc pc = .ok (.imul, 1)) (k : ab_E M cc (pc + 1) lv (ab_I (ab_w32 (x * y)) :: st) h r h') : ab_E M cc pc lv (ab_I y :: ab_I x :: st) h r h' :=
  ab_stk k (fun h5 _ _ => ab_ok1 (v := ab_I 0) (ab_okt (ab_okt h5)) (ab_w32_in _)) fun _ _ _ _ _ _ _ _ _ _ _ _ _ _ _ _ _ _ _ _ _ S0 _ _ kW => lv_imul S0.1 S0.2.1 hd (by rw [ab_mul]; exact kW)
theorem ab_ladd {x y : Int} (hd : decode cc pc = .ok (.ladd, 1)) (k : ab_E M cc (pc + 1) lv (ab_J (ab_w64 (x + y)) :: st) h r h') : ab_E M cc pc lv (ab_J y :: ab_J x :: st) h r h' :=
  ab_stk k (fun h5 _ _ => ab_ok1 (v := ab_I 0) (ab_okt (ab_okt h5)) (ab_w64_in _)) fun _ _ _ _ _ _ _ _ _ _ _ _ _ _ _ _ _ _ _ _ _ S0 _ _ kW => lv_ladd S0.1 S0.2.1 hd (by rw [ab_addL]; exact kW)
theorem ab_lsub {x y : Int} (hd : decode cc pc = .ok (.lsub, 1)) (k : ab_E M cc (pc + 1) lv (ab_J (ab_w64 (x - y)) :: st) h r h') : ab_E M cc pc lv (ab_J y :: ab_J x :: st) h r h' :=
  ab_stk k (fun h5 _ _ => ab_ok1 (v := ab_I 0) (ab_okt (ab_okt h5)) (ab_w64_in _)) fun _ _ _ _ _ _ _ _ _ _ _ _ _ _ _ _ _ _ _ _ _ S0 _ _ kW => lv_lsub S0.1 S0.2.1 hd (by rw [ab_subL]; exact kW)
theorem ab_lmul {x y : Int} (hd : decode cc pc = .ok (.lmul, 1)) (k : ab_E M cc (pc + 1) lv (ab_J (ab_w64 (x * y)) :: st) h r h') : ab_E M cc pc lv (ab_J y :: ab_J x :: st) h r h' :=
  ab_stk k (fun h5 _ _ => ab_ok1 (v := ab_I 0) (ab_okt (ab_okt h5)) (ab_w64_in _)) fun _ _ _ _ _ _ _ _ _ _ _ _ _ _ _ _ _ _ _ _ _ S0 _ _ kW => lv_lmul S0.1 S0.2.1 hd (by rw [ab_mulL]; exact kW)
theorem ab_iand {x y : Int} (hd : decode cc pc = .ok (.iand, 1)) (k : ab_E M cc (pc + 1) lv (ab_I (ab_and x y) :: st) h r h') : ab_E M cc pc lv (ab_I y :: ab_I x :: st) h r h' :=
  ab_stk k (fun h5 _ _ => ab_ok1 (v := ab_I 0) (ab_okt (ab_okt h5)) (ab_in32 _)) fun _ _ _ _ _ _ _ _ _ _ _ _ _ _ _ _ _ _ _ _ _ S0 _ _ kW => lv_iand S0.1 S0.2.1 hd (by simp only [List.map_cons, ab_cv, ab_and, ab_back32] at kW; exact kW)
theorem ab_ior {x y : Int} (hd : decode cc pc = .ok (.ior, 1)) (k : ab_E M cc (pc + 1) lv (ab_I (ab_or x y) :: st) h r h') : ab_E M cc pc lv (ab_I y :: ab_I x :: st) h r h' :=
  ab_stk k (fun h5 _ _ => ab_ok1 (v := ab_I 0) (ab_okt (ab_okt h5)) (ab_in32 _)) fun _ _ _ _ _ _ _ _ _ _ _ _ _ _ _ _ _ _ _ _ _ S0 _ _ kW => lv_ior S0.1 S0.2.1 hd (by simp only [List.map_cons, ab_cv, ab_or, ab_back32] at kW; exact kW)
theorem ab_ixor {x y : Int} (hd : decode cc pc = .ok (.ixor, 1)) (k : ab_E M cc (pc + 1) lv (ab_I (ab_xor x y) :: st) h r h') : ab_E M cc pc lv (ab_I y :: ab_I x :: st) h r h' :=
  ab_stk k (fun h5 _ _ => ab_ok1 (v := ab_I 0) (ab_okt (ab_okt h5)) (ab_in32 _)) fun _ _ _ _ _ _ _ _ _ _ _ _ _ _ _ _ _ _ _ _ _ S0 _ _ kW => lv_ixor S0.1 S0.2.1 hd (by simp only [List.map_cons, ab_cv, ab_xor, ab_back32] at kW; exact kW)
theorem ab_ishl {x y : Int} (hd : decode cc pc = .ok (.ishl, 1)) (k : ab_E M cc (pc + 1) lv (ab_I (ab_shl x y) :: st) h r h') : ab_E M cc pc lv (ab_I y :: ab_I x :: st) h r h' :=
  ab_stk k (fun h5 _ _ => ab_ok1 (v := ab_I 0) (ab_okt (ab_okt h5)) (ab_in32 _)) fun _ _ _ _ _ _ _ _ _ _ _ _ _ _ _ _ _ _ _ _ _ S0 _ _ kW => lv_ishl S0.1 S0.2.1 hd (by simp only [List.map_cons, ab_cv, ab_shl, ab_back32] at kW; exact kW)
theorem ab_ishr {x y : Int} (hd : decode cc pc = .ok (.ishr, 1)) (k : ab_E M cc (pc + 1) lv (ab_I (ab_shr x y) :: st) h r h') : ab_E M cc pc lv (ab_I y :: ab_I x :: st) h r h' :=
  ab_stk k (fun h5 _ _ => ab_ok1 (v := ab_I 0) (ab_okt (ab_okt h5)) (ab_in32 _)) fun _ _ _ _ _ _ _ _ _ _ _ _ _ _ _ _ _ _ _ _ _ S0 _ _ kW => lv_ishr S0.1 S0.2.1 hd (by simp only [List.map_cons, ab_cv, ab_shr, ab_back32] at kW; exact kW)
theorem ab_iushr {x y : Int} (hd : decode cc pc = .ok (.iushr, 1)) (k : ab_E M cc (pc + 1) lv (ab_I (ab_ushr x y) :: st) h r h') : ab_E M cc pc lv (ab_I y :: ab_I x :: st) h r h' :=
  ab_stk k (fun h5 _ _ => ab_ok1 (v := ab_I 0) (ab_okt (ab_okt h5)) (ab_in32 _)) fun _ _ _ _ _ _ _ _ _ _ _ _ _ _ _ _ _ _ _ _ _ S0 _ _ kW => lv_iushr S0.1 S0.2.1 hd rfl (by simp only [List.map_cons, ab_cv, ab_ushr, ab_back32] at kW; exact kW)
theorem ab_land_ {x y : Int} (hd : decode cc pc = .ok (.land, 1)) (k : ab_E M cc (pc + 1) lv (ab_J (ab_land x y) :: st) h r h') : ab_E M cc pc lv (ab_J y :: ab_J x :: st) h r h' :=
  ab_stk k (fun h5 _ _ => ab_ok1 (v := ab_I 0) (ab_okt (ab_okt h5)) (ab_in64 _)) fun _ _ _ _ _ _ _ _ _ _ _ _ _ _ _ _ _ _ _ _ _ S0 _ _ kW => lv_land S0.1 S0.2.1 hd (by simp only [List.map_cons, ab_cv, ab_land, ab_back64] at kW; exact kW)
theorem ab_lor_ {x y : Int} (hd : decode cc pc = .ok (.lor, 1)) (k : ab_E M cc (pc + 1) lv (ab_J (ab_lor x y) :: st) h r h') : ab_E M cc pc lv (ab_J y :: ab_J x :: st) h r h' :=
  ab_stk k (fun h5 _ _ => ab_ok1 (v := ab_I 0) (ab_okt (ab_okt h5)) (ab_in64 _)) fun _ _ _ _ _ _ _ _ _ _ _ _ _ _ _ _ _ _ _ _ _ S0 _ _ kW => lv_lor S0.1 S0.2.1 hd (by simp only [List.map_cons, ab_cv, ab_lor, ab_back64] at kW; exact kW)
theorem ab_lshl_ {x y : Int} (hd : decode cc pc = .ok (.lshl, 1)) (k : ab_E M cc (pc + 1) lv (ab_J (ab_lshl x y) :: st) h r h') : ab_E M cc pc lv (ab_I y :: ab_J x :: st) h r h' :=
  ab_stk k (fun h5 _ _ => ab_ok1 (v := ab_I 0) (ab_okt (ab_okt h5)) (ab_in64 _)) fun _ _ _ _ _ _ _ _ _ _ _ _ _ _ _ _ _ _ _ _ _ S0 _ _ kW => lv_lshl S0.1 S0.2.1 hd rfl (by simp only [List.map_cons, ab_cv, ab_lshl, ab_back64] at kW; exact kW)
theorem ab_lshr_ {x y : Int} (hd : decode cc pc = .ok (.lshr, 1)) (k : ab_E M cc (pc + 1) lv (ab_J (ab_lshr x y) :: st) h r h') : ab_E M cc pc lv (ab_I y :: ab_J x :: st) h r h' :=
  ab_stk k (fun h5 _ _ => ab_ok1 (v := ab_I 0) (ab_okt (ab_okt h5)) (ab_in64 _)) fun _ _ _ _ _ _ _ _ _ _ _ _ _ _ _ _ _ _ _ _ _ S0 _ _ kW => lv_lshr S0.1 S0.2.1 hd rfl (by simp only [List.map_cons, ab_cv, ab_lshr, ab_back64] at kW; exact kW)
theorem ab_idiv {x y : Int} (hd : decode cc pc = .ok (.idiv, 1)) (h0 : 0 ≤ x) (h1 : 0 < y) (k : ab_E M cc (pc + 1) lv (ab_I (x / y) :: st) h r h') : ab_E M cc pc lv (ab_I y :: ab_I x :: st) h r h' :=
  ab_stk k (fun h5 _ _ => ab_ok1 (v := ab_I 0) (ab_okt (ab_okt h5)) ((ab_div_in (ab_okh1 (ab_okt h5)) h0).resolve_right (by omega))) fun _ _ _ _ _ _ _ _ _ _ _ _ _ _ _ _ _ _ _ _ _ S0 D0 _ kW => by
    have hy : ab_i32 y := ab_okh1 D0.2.2.2.2.1
    have hx : ab_i32 x := ab_okh1 (ab_okt D0.2.2.2.2.1)
    exact lv_idiv S0.1 S0.2.1 hd (fun q => by have := (ab_eq0 hy).mp q; omega) (by rw [ab_div hx hy h0 h1]; exact kW)
theorem ab_irem {x y : Int} (hd : decode cc pc = .ok (.irem, 1)) (h0 : 0 ≤ x) (h1 : 0 < y) (k : ab_E M cc (pc + 1) lv (ab_I (x % y) :: st) h r h') : ab_E M cc pc lv (ab_I y :: ab_I x :: st) h r h' :=
  ab_stk k (fun h5 _ _ => ab_ok1 (v := ab_I 0) (ab_okt (ab_okt h5)) (ab_rem_in (ab_okh1 h5) h1)) fun _ _ _ _ _ _ _ _ _ _ _ _ _ _ _ _ _ _ _ _ _ S0 D0 _ kW => by
    have hy : ab_i32 y := ab_okh1 D0.2.2.2.2.1
    have hx : ab_i32 x := ab_okh1 (ab_okt D0.2.2.2.2.1)
    exact lv_irem S0.1 S0.2.1 hd (fun q => by have := (ab_eq0 hy).mp q; omega) (by rw [ab_rem hx hy h0 h1]; exact kW)
theorem ab_i2l_ {x : Int} (hd : decode cc pc = .ok (.i2l, 1)) (k : ab_E M cc (pc + 1) lv (ab_J x :: st) h r h') : ab_E M cc pc lv (ab_I x :: st) h r h' :=
  ab_stk k (fun h5 _ _ => ab_ok1 (v := ab_I 0) (ab_okt h5) (by have : ab_i32 x := ab_okh1 h5; unfold ab_i32 at this; show ab_i64 x; unfold ab_i64; omega)) fun _ _ _ _ _ _ _ _ _ _ _ _ _ _ _ _ _ _ _ _ _ S0 D0 _ kW => lv_i2l S0.1 S0.2.1 hd (ab_i2l (ab_okh1 D0.2.2.2.2.1)) kW
theorem ab_l2i_ {x : Int} (hd : decode cc pc = .ok (.l2i, 1)) (k : ab_E M cc (pc + 1) lv (ab_I (ab_w32 x) :: st) h r h') : ab_E M cc pc lv (ab_J x :: st) h r h' :=
  ab_stk k (fun h5 _ _ => ab_ok1 (v := ab_I 0) (ab_okt h5) (ab_w32_in _)) fun _ _ _ _ _ _ _ _ _ _ _ _ _ _ _ _ _ _ _ _ _ S0 _ _ kW => lv_l2i S0.1 S0.2.1 hd (ab_l2i x) kW
theorem ab_i2b_ {x : Int} (hd : decode cc pc = .ok (.i2b, 1)) (k : ab_E M cc (pc + 1) lv (ab_I (ab_w8 x) :: st) h r h') : ab_E M cc pc lv (ab_I x :: st) h r h' :=
  ab_stk k (fun h5 _ _ => ab_ok1 (v := ab_I 0) (ab_okt h5) (by show ab_i32 _; unfold ab_i32 ab_w8; omega)) fun _ _ _ _ _ _ _ _ _ _ _ _ _ _ _ _ _ _ _ _ _ S0 _ _ kW => lv_i2b S0.1 S0.2.1 hd (ab_i2b x) kW
theorem ab_lcmp_ {x y : Int} (hd : decode cc pc = .ok (.lcmp, 1)) (k : ab_E M cc (pc + 1) lv (ab_I (ab_cmp x y) :: st) h r h') : ab_E M cc pc lv (ab_J y :: ab_J x :: st) h r h' :=
  ab_stk k (fun h5 _ _ => ab_ok1 (v := ab_I 0) (ab_okt (ab_okt h5)) (ab_cmp_in _ _)) fun _ _ _ _ _ _ _ _ _ _ _ _ _ _ _ _ _ _ _ _ _ S0 D0 _ kW => W.lcmp S0.1 S0.2.1 hd (by rw [ab_lcmp (ab_okh1 (ab_okt D0.2.2.2.2.1)) (ab_okh1 D0.2.2.2.2.1)]; exact kW)
theorem ab_cat1I (b0 : Nat) (sA : Nat → Nat) (x : Int) : (ab_cv b0 sA (ab_I x)).category = 1 := rfl
theorem ab_cat1R (b0 : Nat) (sA : Nat → Nat) (x : Int) : (ab_cv b0 sA (ab_R x)).category = 1 := ab_cvR_cat _ _ _
def ab_is1 : ab_V → Bool
  | .inr (.inl _) => false
  | _ => true
theorem ab_cat1 {v : ab_V} (hv : ab_is1 v = true) (b0 : Nat) (sA : Nat → Nat) : (ab_cv b0 sA v).category = 1 := by
  rcases v with x | x | x
  · rfl
  · cases hv
  · exact ab_cvR_cat _ _ _
theorem ab_dup {v : ab_V} (hd : decode cc pc = .ok (.dup, 1)) (hv : ab_is1 v = true) (k : ab_E M cc (pc + 1) lv (v :: v :: st) h r h') : ab_E M cc pc lv (v :: st) h r h' :=
  ab_stk k (fun h5 _ _ => ab_ok1 (v := ab_I 0) h5 (ab_okh1 h5)) fun _ _ _ _ _ _ _ _ _ _ _ _ _ _ _ _ _ _ _ _ _ S0 _ _ kW => lv_dup S0.1 S0.2.1 hd (ab_cat1 hv _ _) kW
theorem ab_pop {v : ab_V} (hd : decode cc pc = .ok (.pop, 1)) (hv : ab_is1 v = true) (k : ab_E M cc (pc + 1) lv st h r h') : ab_E M cc pc lv (v :: st) h r h' :=
  ab_stk k (fun h5 _ _ => ab_okt h5) fun _ _ _ _ _ _ _ _ _ _ _ _ _ _ _ _ _ _ _ _ _ S0 _ _ kW => lv_pop S0.1 S0.2.1 hd (ab_cat1 hv _ _) kW
theorem ab_dup_x1 {v w : ab_V} (hd : decode cc pc = .ok (.dup_x1, 1)) (hv : ab_is1 v = true) (hw : ab_is1 w = true) (k : ab_E M cc (pc + 1) lv (v :: w :: v :: st) h r h') : ab_E M cc pc lv (v :: w :: st) h r h' :=
  ab_stk k (fun h5 _ _ => ab_ok1 (v := ab_I 0) (ab_ok1 (v := ab_I 0) (ab_ok1 (v := ab_I 0) (ab_okt (ab_okt h5)) (ab_okh1 h5)) (ab_okh1 (ab_okt h5))) (ab_okh1 h5)) fun _ _ _ _ _ _ _ _ _ _ _ _ _ _ _ _ _ _ _ _ _ S0 _ _ kW => lv_dup_x1 S0.1 S0.2.1 hd (ab_cat1 hv _ _) (ab_cat1 hw _ _) kW
theorem ab_dup2 {v w : ab_V} (hd : decode cc pc = .ok (.dup2, 1)) (hv : ab_is1 v = true) (hw : ab_is1 w = true) (k : ab_E M cc (pc + 1) lv (v :: w :: v :: w :: st) h r h') : ab_E M cc pc lv (v :: w :: st) h r h' :=
  ab_stk k (fun h5 _ _ => ab_ok1 (v := ab_I 0) (ab_ok1 (v := ab_I 0) h5 (ab_okh1 (ab_okt h5))) (ab_okh1 h5)) fun _ _ _ _ _ _ _ _ _ _ _ _ _ _ _ _ _ _ _ _ _ S0 _ _ kW => lv_dup2_11 S0.1 S0.2.1 hd (ab_cat1 hv _ _) (ab_cat1 hw _ _) kW
theorem ab_goto {off : Int} {tgt : Nat} (hd : decode cc pc = .ok (.goto off, 3)) (ht : (pc : Int) + off = (tgt : Int)) (k : ab_E M cc tgt lv st h r h') : ab_E M cc pc lv st h r h' :=
  ab_stk k (fun h5 _ _ => h5) fun _ _ _ _ _ _ _ _ _ _ _ _ _ _ _ _ _ _ _ _ _ S0 _ _ kW => lv_goto S0.1 S0.2.1 hd ht kW
end ABR
