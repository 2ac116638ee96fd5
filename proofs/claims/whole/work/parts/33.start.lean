def R_law : String := "TurnedHeadingsLaw"
def lw_P (b : Addr) (xs : List Int32) (args : Array Value) (s : State) : Prop := args = #[.ref b] ∧ s.IntsAt b xs ∧ xs.length ≤ 3072 ∧ (Jvm.Cond.and given_1 narrow_1).before args s = true
def lw_Q (_ : Array Value) (s : State) (o : Outcome) (t : State) : Prop := o = .returned (some (.int 1)) ∧ Framed s o t [] 600000 7302249
def lw_Z (below : List Frame) (a : Array Value) (s : State) : State → Prop := fun t => ∃ o, t.status = .running ∧ Ended t below o ∧ lw_Q a s o t
/-- the law's own end, with 1 on the stack, nothing written that was there before, its room as the claim has it -/
theorem lw_ret {p : Program} {l : Launch} {e : Env} {s : State} {m : MethodId} {below : List Frame} {meth : Method} {c : Code} {b : Nat} (hx : p.tables.exec = Jvm.exec) (hb : c.code = code) (hr : meth.sig.returnType = ret) (hlocks : meth.locks = false) {pc : Nat} {H : Heap} {ls : Array Slot} (hdg : decode code pc = .ok (.ireturn, 1)) : W p l e room_1 s m #[Value.ref b] below meth c H [] 600000 7302249 (lw_Z below #[Value.ref b] s) (F0 m pc ls [.int 1]) := by
  intro T hT X
  obtain ⟨fs, hret, hrun, hended, hW, hframe⟩ := X.leave (v := some (.int 1)) (hlocks := hlocks) (fun h => by rw [hr] at h; cases h)
  have hmeth' : T.vm.method? m = some meth := X.method'
  refine ⟨T.setFrames fs, ?_, .returned (some (.int 1)), hrun, hended, rfl, ⟨_, rfl⟩, hW, hframe⟩
  jvm_step X.here [X.here.top, hx, hb, hdg, hmeth', hr, ret, narrow_b1]
  (try refine ⟨rfl, ?_⟩); (try refine ⟨rfl, ?_⟩)
  first | (intro acts; rw [hret _ acts rfl rfl rfl]) | rw [hret _ _ rfl rfl rfl]
  exact Steps.refl _
/-- what holds at the law's entry: the machine, the code, the tables' words (any of lw_tbl by 'hts w (by decide +kernel)'), the script of L ints xs at the cell b, what the Statement gives of the start (any of its parts by flat_of_before) -/
def lw_At (p : Program) (s : State) (m : MethodId) (meth : Method) (c : Code) (b L : Nat) (xs : Nat → Int32) : Prop :=
  p.tables.exec = Jvm.exec ∧ c.code = code ∧ meth.sig.returnType = ret ∧ c.maxLocals = 4 ∧ s.vm.findClass R_law = some m.cls ∧ (∀ w ∈ lw_tbl, w.before #[Value.ref b] s = true) ∧ va_X b L xs s s.heap ∧ b < s.heap.size ∧ meth.locks = false ∧ (Jvm.Cond.and given_1 narrow_1).before #[Value.ref b] s = true
/-! the start: what the Statement gives at the law's entry -/
def ab_tm (i : Nat) : Term := .string (ab_sOwn.getD i ("", 0, "")).1 (ab_sOwn.getD i ("", 0, "")).2.1
def ab_fl : List Cond := flatC (Jvm.Cond.and given_1 narrow_1)
def ab_ps (l : List Nat) (i : Nat) : Nat := l.getD i 0

set_option maxRecDepth 100000 in
theorem wq_ex : ∀ i, i < 16 → ab_fl[ab_ps [29, 110, 118, 129, 141, 153, 165, 180, 195, 212, 230, 248, 266, 288, 308, 329] i]? = some (Cond.exactly (ab_tm i) "java/lang/String") := by decide +kernel
theorem ws_ex : ∀ i, i < 16 → Cond.exactly (ab_tm i) "java/lang/String" ∈ ab_fl := fun i hi => List.mem_of_getElem? (wq_ex i hi)
set_option maxRecDepth 100000 in
theorem wq_co : ∀ i, i < 16 → ab_fl[ab_ps [30, 111, 119, 130, 142, 154, 166, 181, 196, 213, 231, 249, 267, 289, 309, 330] i]? = some (Cond.eq (.field (ab_tm i) "java/lang/String" "coder" "B") (.int 0)) := by decide +kernel
theorem ws_co : ∀ i, i < 16 → Cond.eq (.field (ab_tm i) "java/lang/String" "coder" "B") (.int 0) ∈ ab_fl := fun i hi => List.mem_of_getElem? (wq_co i hi)
set_option maxRecDepth 100000 in
theorem wq_ar : ∀ i, i < 16 → ab_fl[ab_ps [31, 112, 120, 131, 143, 155, 167, 182, 197, 214, 232, 250, 268, 290, 310, 331] i]? = some (Cond.arrayOf (.field (ab_tm i) "java/lang/String" "value" "[B") .byte) := by decide +kernel
theorem ws_ar : ∀ i, i < 16 → Cond.arrayOf (.field (ab_tm i) "java/lang/String" "value" "[B") .byte ∈ ab_fl := fun i hi => List.mem_of_getElem? (wq_ar i hi)
set_option maxRecDepth 100000 in
theorem wq_le : ∀ i, i < 16 → ab_fl[ab_ps [32, 113, 121, 132, 144, 156, 168, 183, 198, 215, 233, 251, 269, 291, 311, 332] i]? = some (Cond.eq (.length (.field (ab_tm i) "java/lang/String" "value" "[B")) (.int (Int32.ofNat (ab_sLen.getD i 0)))) := by decide +kernel
theorem ws_le : ∀ i, i < 16 → Cond.eq (.length (.field (ab_tm i) "java/lang/String" "value" "[B")) (.int (Int32.ofNat (ab_sLen.getD i 0))) ∈ ab_fl := fun i hi => List.mem_of_getElem? (wq_le i hi)
set_option maxRecDepth 100000 in
theorem wq_el : ∀ i, i < 16 → ∀ j, j < ab_sLen.getD i 0 → ab_fl[ab_ps [33, 114, 122, 133, 145, 157, 169, 184, 199, 216, 234, 252, 270, 292, 312, 333] i + j]? = some (Cond.eq (.elem (.field (ab_tm i) "java/lang/String" "value" "[B") (.int (Int32.ofNat j))) (.int ((ab_sByt.getD i []).getD j 0))) := by decide +kernel
theorem ws_el : ∀ i, i < 16 → ∀ j, j < ab_sLen.getD i 0 → Cond.eq (.elem (.field (ab_tm i) "java/lang/String" "value" "[B") (.int (Int32.ofNat j))) (.int ((ab_sByt.getD i []).getD j 0)) ∈ ab_fl := fun i hi j hj => List.mem_of_getElem? (wq_el i hi j hj)
set_option maxRecDepth 100000 in
theorem wq_ne : ∀ i, i < 16 → ∀ j, j < 16 → i < j → ab_fl[ab_ps (([[0, 117, 127, 138, 149, 160, 174, 188, 204, 221, 238, 255, 276, 295, 315, 337], [0, 0, 128, 139, 150, 161, 175, 189, 205, 222, 239, 256, 277, 296, 316, 338], [0, 0, 0, 140, 151, 162, 176, 190, 206, 223, 240, 257, 278, 297, 317, 339], [0, 0, 0, 0, 152, 163, 177, 191, 207, 224, 241, 258, 279, 298, 318, 340], [0, 0, 0, 0, 0, 164, 178, 192, 208, 225, 242, 259, 280, 299, 319, 341], [0, 0, 0, 0, 0, 0, 179, 193, 209, 226, 243, 260, 281, 300, 320, 342], [0, 0, 0, 0, 0, 0, 0, 194, 210, 227, 244, 261, 282, 301, 321, 343], [0, 0, 0, 0, 0, 0, 0, 0, 211, 228, 245, 262, 283, 302, 322, 344], [0, 0, 0, 0, 0, 0, 0, 0, 0, 229, 246, 263, 284, 303, 323, 345], [0, 0, 0, 0, 0, 0, 0, 0, 0, 0, 247, 264, 285, 304, 324, 346], [0, 0, 0, 0, 0, 0, 0, 0, 0, 0, 0, 265, 286, 305, 325, 347], [0, 0, 0, 0, 0, 0, 0, 0, 0, 0, 0, 0, 287, 306, 326, 348], [0, 0, 0, 0, 0, 0, 0, 0, 0, 0, 0, 0, 0, 307, 327, 349], [0, 0, 0, 0, 0, 0, 0, 0, 0, 0, 0, 0, 0, 0, 328, 350], [0, 0, 0, 0, 0, 0, 0, 0, 0, 0, 0, 0, 0, 0, 0, 351], [0, 0, 0, 0, 0, 0, 0, 0, 0, 0, 0, 0, 0, 0, 0, 0]] : List (List Nat)).getD i []) j]? = some (Cond.not (Cond.eq (ab_tm i) (ab_tm j))) := by decide +kernel
theorem ws_ne : ∀ i, i < 16 → ∀ j, j < 16 → i ≠ j → Cond.not (Cond.eq (ab_tm i) (ab_tm j)) ∈ ab_fl ∨ Cond.not (Cond.eq (ab_tm j) (ab_tm i)) ∈ ab_fl := fun i hi j hj hn => by
  rcases Nat.lt_or_ge i j with q | q
  · exact Or.inl (List.mem_of_getElem? (wq_ne i hi j hj q))
  · exact Or.inr (List.mem_of_getElem? (wq_ne j hj i hi (by omega)))
set_option maxRecDepth 100000 in
theorem ws_cs : Cond.eq (.static "java/lang/String" "COMPACT_STRINGS" "Z") (.int 1) ∈ ab_fl := List.mem_of_getElem? (i := 4) (by decide +kernel)
set_option maxRecDepth 100000 in
theorem ws_sf : Cond.isRef (.static "jdk/internal/util/Preconditions" "SIOOBE_FORMATTER" "Ljava/util/function/BiFunction;") ∈ ab_fl := List.mem_of_getElem? (i := 5) (by decide +kernel)
theorem ws_sr : ∀ q ∈ ab_sOwn, Cond.stringRef q.1 q.2.1 q.2.2 ∈ lw_tbl := by
  show ∀ q ∈ ([("TurnedHeadings$Reader", 29, "law see string place thing part act agent form plain whole near not via back "), ("TurnedHeadingsModel", 168, "law"), ("TurnedHeadingsModel", 153, "place"), ("TurnedHeadingsModel", 155, "thing"), ("TurnedHeadingsModel", 157, "part"), ("TurnedHeadingsModel", 159, "act"), ("TurnedHeadingsModel", 161, "agent"), ("TurnedHeadingsModel", 163, "form"), ("TurnedHeadingsModel", 174, "plain"), ("TurnedHeadingsModel", 176, "whole"), ("TurnedHeadingsModel", 178, "near"), ("TurnedHeadingsModel", 170, "see"), ("TurnedHeadingsModel", 172, "string"), ("TurnedHeadingsModel", 180, "not"), ("TurnedHeadingsModel", 182, "via"), ("TurnedHeadingsModel", 184, "back")] : List (String × Nat × String)), _
  exact List.forall_mem_cons.mpr ⟨tb_1 _ (List.mem_of_getElem? (i := 53) rfl), List.forall_mem_cons.mpr ⟨tb_6 _ (List.mem_of_getElem? (i := 1) rfl), List.forall_mem_cons.mpr ⟨tb_6 _ (List.mem_of_getElem? (i := 16) rfl), List.forall_mem_cons.mpr ⟨tb_6 _ (List.mem_of_getElem? (i := 17) rfl), List.forall_mem_cons.mpr ⟨tb_6 _ (List.mem_of_getElem? (i := 18) rfl), List.forall_mem_cons.mpr ⟨tb_6 _ (List.mem_of_getElem? (i := 19) rfl), List.forall_mem_cons.mpr ⟨tb_6 _ (List.mem_of_getElem? (i := 20) rfl), List.forall_mem_cons.mpr ⟨tb_6 _ (List.mem_of_getElem? (i := 21) rfl), List.forall_mem_cons.mpr ⟨tb_6 _ (List.mem_of_getElem? (i := 26) rfl), List.forall_mem_cons.mpr ⟨tb_6 _ (List.mem_of_getElem? (i := 27) rfl), List.forall_mem_cons.mpr ⟨tb_6 _ (List.mem_of_getElem? (i := 28) rfl), List.forall_mem_cons.mpr ⟨tb_6 _ (List.mem_of_getElem? (i := 29) rfl), List.forall_mem_cons.mpr ⟨tb_6 _ (List.mem_of_getElem? (i := 43) rfl), List.forall_mem_cons.mpr ⟨tb_6 _ (List.mem_of_getElem? (i := 44) rfl), List.forall_mem_cons.mpr ⟨tb_6 _ (List.mem_of_getElem? (i := 45) rfl), List.forall_mem_cons.mpr ⟨tb_6 _ (List.mem_of_getElem? (i := 46) rfl), fun _ h => absurd h List.not_mem_nil⟩⟩⟩⟩⟩⟩⟩⟩⟩⟩⟩⟩⟩⟩⟩⟩
theorem ws_in0 : Cond.instantiable RX0 12 ∈ lw_tbl := tb_1 _ (List.mem_of_getElem? (i := 152) rfl)
theorem ws_in1 : Cond.instantiable RX1 2 ∈ lw_tbl := tb_1 _ (List.mem_of_getElem? (i := 27) rfl)
theorem ws_in2 : Cond.instantiable RX2 11 ∈ lw_tbl := tb_2 _ (List.mem_of_getElem? (i := 66) rfl)
theorem ws_in3 : Cond.instantiable RX3 3 ∈ lw_tbl := tb_1 _ (List.mem_of_getElem? (i := 227) rfl)
theorem ws_in4 : Cond.instantiable RX4 11 ∈ lw_tbl := tb_1 _ (List.mem_of_getElem? (i := 48) rfl)
theorem ws_in5 : Cond.instantiable RX5 6 ∈ lw_tbl := tb_2 _ (List.mem_of_getElem? (i := 27) rfl)
theorem ws_in6 : Cond.instantiable RX6 6 ∈ lw_tbl := tb_2 _ (List.mem_of_getElem? (i := 59) rfl)
theorem ws_in7 : Cond.instantiable RX7 3 ∈ lw_tbl := tb_2 _ (List.mem_of_getElem? (i := 7) rfl)
theorem ws_in8 : Cond.instantiable RX8 11 ∈ lw_tbl := tb_1 _ (List.mem_of_getElem? (i := 19) rfl)
theorem ws_in9 : Cond.instantiable RX9 36 ∈ lw_tbl := tb_5 _ (List.mem_of_getElem? (i := 81) rfl)
theorem ws_aoBook : Cond.arrayOver (.object RX0) ∈ lw_tbl := tb_1 _ (List.mem_of_getElem? (i := 233) rfl)
theorem ws_aoEntry : Cond.arrayOver (.object RX2) ∈ lw_tbl := tb_2 _ (List.mem_of_getElem? (i := 65) rfl)
theorem ws_ls1 : Cond.laysStatic "java/lang/String" "COMPACT_STRINGS" "Z" ∈ lw_tbl := tb_1 _ (List.mem_of_getElem? (i := 63) rfl)
theorem ws_ls2 : Cond.laysStatic "jdk/internal/util/Preconditions" "SIOOBE_FORMATTER" "Ljava/util/function/BiFunction;" ∈ lw_tbl := tb_1 _ (List.mem_of_getElem? (i := 79) rfl)
theorem ws_i1 : Cond.initialized "java/lang/String" ∈ lw_tbl := tb_1 _ (List.mem_of_getElem? (i := 5) rfl)
theorem ws_i2 : Cond.initialized "jdk/internal/util/Preconditions" ∈ lw_tbl := tb_1 _ (List.mem_of_getElem? (i := 7) rfl)
theorem ab_kS {N : Nat} {len : List Nat} {byt : List (List Int32)} {adK adV adK' adV' : Nat → Nat} {A : Nat → Prop} {U : State} {H : Heap} (h : vk_S N len byt adK adV A U H) (h1 : ∀ i, i < N → adK i = adK' i) (h2 : ∀ i, i < N → adV i = adV' i) : vk_S N len byt adK' adV' A U H := by
  refine ⟨fun i hi => ?_, fun i j hi hj e => ?_⟩
  · rw [← h1 i hi, ← h2 i hi]; exact h.1 i hi
  · rw [← h1 i hi, ← h1 j hj] at e; exact h.2 i j hi hj e
theorem ab_arr {s : State} {args : Array Value} {ty : FieldType} (h : (Cond.arrayClass ty).before args s = true) (hp : ∀ C, ty ≠ .object C) : ∃ c : ClassId, ArrOfT s c ty ∧ va_RA s c ty := by
  obtain ⟨c, k, comp, h1, h2, h3⟩ := Cond.arrayClass_spec h
  refine ⟨c, fun n z => ⟨fun k h => (by cases h), k, h2, comp, h3⟩, ?_⟩
  cases ty with
  | object C => exact absurd rfl (hp C)
  | _ => exact h1
theorem ab_arrO {s : State} {C : String} (h : va_AO C s) : ∃ c : ClassId, ArrOfT s c (.object C) ∧ va_RA s c (.object C) := by
  obtain ⟨comp, c, k, h1, h2, h3, h4, h5⟩ := Cond.arrayOver_spec h
  exact ⟨c, fun n z => ⟨fun k h => (by cases h), k, h3, comp, h4⟩, k, comp, h3, h4, h1, h5⟩
theorem ws_env {p : Program} {s : State} {m : MethodId} {meth : Method} {c : Code} {b L : Nat} {xs : Nat → Int32} (C0 : lw_At p s m meth c b L xs) :
    ∃ (b0 : Nat) (D : va_G) (cy : Nat → ClassId) (sA : Nat → Nat), s.heap.size = b0 + 1 ∧ ab_Env b0 D cy sA sA s s.heap ∧ sA 1000 = b := by
  obtain ⟨hx, hb, hr, hml, hown, hts, hX, hbl, hlocks, hgv⟩ := C0
  have hfl : ∀ w ∈ ab_fl, w.before #[Value.ref b] s = true := flat_of_before _ hgv
  obtain ⟨b0, hb0⟩ : ∃ b0, s.heap.size = b0 + 1 := ⟨s.heap.size - 1, by omega⟩
  have hA : ∀ a : Nat, a < s.heap.size → ¬ ab_A b0 a := fun a ha q => by have q : b0 < a := q; omega
  have hW : ab_Ws s := fun w hw hg a => ab_word (State.WarmedH.refl s) hg (hts w hw)
  obtain ⟨c0, i0, hk0⟩ := u_known (C := RX0) (T := TX0) (N := 12) (n := 12) hts (fun w hw => (cw_0 w hw).1) (hts _ ws_in0)
  obtain ⟨c1, i1, hk1⟩ := u_known (C := RX1) (T := TX1) (N := 2) (n := 2) hts (fun w hw => (cw_1 w hw).1) (hts _ ws_in1)
  obtain ⟨c2, i2, hk2⟩ := u_known (C := RX2) (T := TX2) (N := 11) (n := 11) hts (fun w hw => (cw_2 w hw).1) (hts _ ws_in2)
  obtain ⟨c3, i3, hk3⟩ := u_known (C := RX3) (T := TX3) (N := 3) (n := 3) hts (fun w hw => (cw_3 w hw).1) (hts _ ws_in3)
  obtain ⟨c4, i4, hk4⟩ := u_known (C := RX4) (T := TX4) (N := 11) (n := 11) hts (fun w hw => (cw_4 w hw).1) (hts _ ws_in4)
  obtain ⟨c5, i5, hk5⟩ := u_known (C := RX5) (T := TX5) (N := 6) (n := 6) hts (fun w hw => (cw_5 w hw).1) (hts _ ws_in5)
  obtain ⟨c6, i6, hk6⟩ := u_known (C := RX6) (T := TX6) (N := 6) (n := 6) hts (fun w hw => (cw_6 w hw).1) (hts _ ws_in6)
  obtain ⟨c7, i7, hk7⟩ := u_known (C := RX7) (T := TX7) (N := 3) (n := 3) hts (fun w hw => (cw_7 w hw).1) (hts _ ws_in7)
  obtain ⟨c8, i8, hk8⟩ := u_known (C := RX8) (T := TX8) (N := 11) (n := 11) hts (fun w hw => (cw_8 w hw).1) (hts _ ws_in8)
  obtain ⟨c9, i9, hk9⟩ := u_known (C := RX9) (T := TX9) (N := 36) (n := 36) hts (fun w hw => (cw_9 w hw).1) (hts _ ws_in9)
  obtain ⟨D, hD⟩ : ∃ D : va_G, ∀ (k : Nat) (q : vw_C), vwCl[k]? = some q → u_Kn s q.1 q.2.1 q.2.2 (D.1 k) (D.2 k) := by
    refine ⟨(fun k => if k = 0 then c0 else (if k = 1 then c1 else (if k = 2 then c2 else (if k = 3 then c3 else (if k = 4 then c4 else (if k = 5 then c5 else (if k = 6 then c6 else (if k = 7 then c7 else (if k = 8 then c8 else (c9))))))))), fun k => if k = 0 then i0 else (if k = 1 then i1 else (if k = 2 then i2 else (if k = 3 then i3 else (if k = 4 then i4 else (if k = 5 then i5 else (if k = 6 then i6 else (if k = 7 then i7 else (if k = 8 then i8 else (i9)))))))))), ?_⟩
    intro k q hq
    match k, hq with
    | 0, hq => cases hq; exact hk0
    | 1, hq => cases hq; exact hk1
    | 2, hq => cases hq; exact hk2
    | 3, hq => cases hq; exact hk3
    | 4, hq => cases hq; exact hk4
    | 5, hq => cases hq; exact hk5
    | 6, hq => cases hq; exact hk6
    | 7, hq => cases hq; exact hk7
    | 8, hq => cases hq; exact hk8
    | 9, hq => cases hq; exact hk9
    | k + 10, hq => simp [vwCl] at hq
  obtain ⟨y0, z0⟩ := ab_arr (hts _ ab_ac_int) (fun C q => by cases q)
  obtain ⟨y1, z1⟩ := ab_arr (hts _ ab_ac_long) (fun C q => by cases q)
  obtain ⟨y2, z2⟩ := ab_arr (hts _ ab_ac_byte) (fun C q => by cases q)
  obtain ⟨y3, z3⟩ := ab_arrO (va_AO.of (hts _ ws_aoBook))
  obtain ⟨y4, z4⟩ := ab_arrO (va_AO.of (hts _ ws_aoEntry))
  obtain ⟨adK, adV, hS, hev⟩ := vk_Sof (N := 16) (tm := ab_tm) (len := ab_sLen) (byt := ab_sByt) (A := ab_A b0) (fun i hi => by have := (ab_sok i hi).1; omega) (fun i hi => hfl _ (ws_ex i hi)) (fun i hi => hfl _ (ws_co i hi)) (fun i hi => hfl _ (ws_ar i hi)) (fun i hi => hfl _ (ws_le i hi)) (fun i hi j hj => hfl _ (ws_el i hi j hj)) (fun i j hi hj hn => (ws_ne i hi j hj hn).imp (hfl _) (hfl _)) hA
  have hZ := va_Zof (hts _ ws_ls1) (hts _ ws_i1) (va_eqi (hfl _ ws_cs)) hA
  obtain ⟨t0, hq⟩ : ∃ t0 : Nat, va_Z "jdk/internal/util/Preconditions" "SIOOBE_FORMATTER" "Ljava/util/function/BiFunction;" .null (ab_A b0) s s.heap ∨ va_Z "jdk/internal/util/Preconditions" "SIOOBE_FORMATTER" "Ljava/util/function/BiFunction;" (.ref t0) (ab_A b0) s s.heap := by
    rcases va_Zqof (hts _ ws_ls2) (hts _ ws_i2) (hfl _ ws_sf) hA with q | ⟨t, q⟩
    · exact ⟨0, Or.inl q⟩
    · exact ⟨t, Or.inr q⟩
  refine ⟨b0, D, fun k => if k = 0 then y0 else if k = 1 then y1 else if k = 2 then y2 else if k = 3 then y3 else y4, fun n => if n = 1000 then b else if n = 3000 then t0 else if n < 2001 then adK (n - 1) else adV (n - 2001), hb0, ⟨hW, ⟨hD, ?_⟩, hZ, hq, ?_, ?_⟩, rfl⟩
  · intro k q hk
    match k, hk with
    | 0, hk => cases hk; exact z0
    | 1, hk => cases hk; exact z1
    | 2, hk => cases hk; exact z2
    | 3, hk => cases hk; exact z3
    | 4, hk => cases hk; exact z4
    | k + 5, hk => simp [ab_tys] at hk
  · refine ab_kS hS (fun i hi => ?_) (fun i hi => ?_)
    · show _ = if i + 1 = 1000 then b else if i + 1 = 3000 then t0 else if i + 1 < 2001 then adK (i + 1 - 1) else adV (i + 1 - 2001)
      rw [if_neg (by omega), if_neg (by omega), if_pos (by omega), Nat.add_sub_cancel]
    · show _ = if i + 2001 = 1000 then b else if i + 2001 = 3000 then t0 else if i + 2001 < 2001 then adK (i + 2001 - 1) else adV (i + 2001 - 2001)
      rw [if_neg (by omega), if_neg (by omega), if_neg (by omega), Nat.add_sub_cancel]
  · intro i q hi
    have hi16 : i < 16 := by
      have := (List.getElem?_eq_some_iff.mp hi).1
      exact this
    have e := hev i hi16
    have et : ab_tm i = .string q.1 q.2.1 := by unfold ab_tm; simp [List.getD, hi]
    rw [et] at e
    have h2 := vk_R.of (A := #[Value.ref b]) (hts _ (ws_sr q (List.mem_of_getElem? hi))) e
    show vk_R q.1 q.2.1 q.2.2 (if i + 1 = 1000 then b else if i + 1 = 3000 then t0 else if i + 1 < 2001 then adK (i + 1 - 1) else adV (i + 1 - 2001)) s
    rw [if_neg (by omega), if_neg (by omega), if_pos (by omega), Nat.add_sub_cancel]
    exact ⟨h2.1, h2.2⟩
def ab_h0 : ab_H := (0, 0, fun _ => (0, 0, ab_zero))
theorem ab_h0_ok : ab_okh ab_h0 := ⟨fun a => ⟨fun i => ab_okx0 _, (fun q => absurd q (by show ¬ 1 ≤ 0; decide)), (by show 0 < 2147483648; decide)⟩, rfl, fun _ _ => rfl⟩
