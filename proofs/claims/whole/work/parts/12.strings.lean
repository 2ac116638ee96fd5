/-! text constants: length() and charAt(int), by the JDK's own code -/
def ab_slen (a : Int) : Option Int := if a < 0 ∧ -16 ≤ a then some ((ab_sLen.getD ((-a).toNat - 1) 0 : Nat) : Int) else none
def ab_schr (a i : Int) : Option Int := if a < 0 ∧ -16 ≤ a ∧ 0 ≤ i ∧ i < ((ab_sLen.getD ((-a).toNat - 1) 0 : Nat) : Int) then some ((ab_sByt.getD ((-a).toNat - 1) []).getD i.toNat 0).toInt else none
theorem ab_sok : ∀ j, j < 16 → ab_sLen.getD j 0 < 1000 ∧ ∀ i, i < ab_sLen.getD j 0 → 0 ≤ ((ab_sByt.getD j []).getD i 0).toInt ∧ ((ab_sByt.getD j []).getD i 0).toInt < 128 := by decide +kernel
section ABS
variable {M : ab_M} {cc : ByteArray} {pc : Nat} {lv : List (Option ab_V)} {st : List ab_V} {h h' : ab_H} {r : Option ab_V}
theorem ab_sneg (b0 : Nat) (sA : Nat → Nat) (j k : Nat) : ab_cv b0 sA (ab_R (-((j : Int) + ((k + 1 : Nat) : Int)))) = .ref (sA (j + (k + 1))) := by
  show ab_cvR b0 sA _ = _
  rw [ab_cvR_neg (by omega)]
  congr 2
theorem ab_lds {i j : Nat} {tx : String} (hd : decode cc pc = .ok (.ldc i, 2)) (hj : ab_sOwn[j]? = some (M.1, i, tx)) (k : ab_E M cc (pc + 2) lv (ab_R (-((j : Int) + ((0 + 1 : Nat) : Int))) :: st) h r h') : ab_E M cc pc lv st h r h' :=
  ab_stk k (fun h5 _ _ => ab_ok1 (v := ab_I 0) h5 trivial) fun _ _ _ _ _ _ _ _ _ _ _ _ _ _ b0 _ _ _ _ sA _ S0 _ _ kW => by
    rw [List.map_cons, ab_sneg] at kW
    exact va_ldcS S0.1 S0.2.1 S0.2.2.2.2.1 (S0.2.2.2.2.2.2.2.1.2.2.2.2.2 j _ hj) hd kW
theorem ab_sgv {idx j : Nat} (hd : decode cc pc = .ok (.getfield idx, 3)) (hl : Cond.fieldLink M.1 idx "java/lang/String" "value" "[B" ∈ lw_tbl) (hj : j < 16) (k : ab_E M cc (pc + 3) lv (ab_R (-((j : Int) + ((2000 + 1 : Nat) : Int))) :: st) h r h') : ab_E M cc pc lv (ab_R (-((j : Int) + ((0 + 1 : Nat) : Int))) :: st) h r h' :=
  ab_stk k (fun h5 _ _ => ab_ok1 (v := ab_I 0) (ab_okt h5) trivial) fun _ _ _ _ _ _ _ _ _ _ _ _ _ _ b0 _ _ _ _ sA _ S0 D0 _ kW => by
    rw [List.map_cons, ab_sneg] at kW ⊢
    exact vk_getf S0.1 S0.2.1 ((S0.2.2.2.2.2.2.2.1.2.2.2.2.1).1 j hj).2.2.1 D0.2.2.1 S0.2.2.2.2.1 (S0.2.2.2.2.2.2.2.1.1 _ hl rfl _) (fun _ q => q) hd kW
theorem ab_sgc {idx j : Nat} (hd : decode cc pc = .ok (.getfield idx, 3)) (hl : Cond.fieldLink M.1 idx "java/lang/String" "coder" "B" ∈ lw_tbl) (hj : j < 16) (k : ab_E M cc (pc + 3) lv (ab_I 0 :: st) h r h') : ab_E M cc pc lv (ab_R (-((j : Int) + ((0 + 1 : Nat) : Int))) :: st) h r h' :=
  ab_stk k (fun h5 _ _ => ab_ok1 (v := ab_I 0) (ab_okt h5) ab_i0) fun _ _ _ _ _ _ _ _ _ _ _ _ _ _ b0 _ _ _ _ sA _ S0 D0 _ kW => by
    rw [List.map_cons, ab_sneg]
    exact vk_getf S0.1 S0.2.1 ((S0.2.2.2.2.2.2.2.1.2.2.2.2.1).1 j hj).2.1 D0.2.2.1 S0.2.2.2.2.1 (S0.2.2.2.2.2.2.2.1.1 _ hl rfl _) (fun _ q => q) hd kW
theorem ab_salen {j : Nat} (hd : decode cc pc = .ok (.arraylength, 1)) (hj : j < 16) (k : ab_E M cc (pc + 1) lv (ab_I ((ab_sLen.getD j 0 : Nat) : Int) :: st) h r h') : ab_E M cc pc lv (ab_R (-((j : Int) + ((2000 + 1 : Nat) : Int))) :: st) h r h' :=
  ab_stk k (fun h5 _ _ => ab_ok1 (v := ab_I 0) (ab_okt h5) (by have := (ab_sok j hj).1; show ab_i32 _; unfold ab_i32; omega)) fun _ _ _ _ _ _ _ _ _ _ _ _ _ _ b0 _ _ _ _ sA _ S0 D0 _ kW => by
    rw [List.map_cons, ab_sneg]
    exact va_tlen S0.1 S0.2.1 ((S0.2.2.2.2.2.2.2.1.2.2.2.2.1).1 j hj).2.2.2 D0.2.2.1 (ab_ofNat _) hd kW
theorem ab_sbald {j : Nat} {i : Int} (hd : decode cc pc = .ok (.baload, 1)) (hj : j < 16) (h0 : 0 ≤ i) (h1 : i < ((ab_sLen.getD j 0 : Nat) : Int)) (k : ab_E M cc (pc + 1) lv (ab_I ((ab_sByt.getD j []).getD i.toNat 0).toInt :: st) h r h') : ab_E M cc pc lv (ab_I i :: ab_R (-((j : Int) + ((2000 + 1 : Nat) : Int))) :: st) h r h' :=
  ab_stk k (fun h5 _ _ => ab_ok1 (v := ab_I 0) (ab_okt (ab_okt h5)) (ab_in32 _)) fun _ _ _ _ _ _ _ _ _ _ _ _ _ _ b0 _ _ _ _ sA _ S0 D0 _ kW => by
    have hi : ab_i32 i := ab_okh1 D0.2.2.2.2.1
    rw [List.map_cons, List.map_cons, ab_sneg]
    refine va_tb S0.1 S0.2.1 ((S0.2.2.2.2.2.2.2.1.2.2.2.2.1).1 j hj).2.2.2 D0.2.2.1 (ab_inn hi h0 h1) rfl hd ?_
    rw [ab_clamp hi]
    simp only [List.map_cons, ab_cv, ab_back32] at kW
    exact kW
theorem ab_gcs {idx : Nat} (hd : decode cc pc = .ok (.getstatic idx, 3)) (hl : Cond.fieldLink M.1 idx "java/lang/String" "COMPACT_STRINGS" "Z" ∈ lw_tbl) (k : ab_E M cc (pc + 3) lv (ab_I 1 :: st) h r h') : ab_E M cc pc lv st h r h' :=
  ab_stk k (fun h5 _ _ => ab_ok1 (v := ab_I 0) h5 ⟨by decide, by decide⟩) fun _ _ _ _ _ _ _ _ _ _ _ _ _ _ b0 _ _ _ _ sA _ S0 D0 _ kW =>
    va_gets S0.1 S0.2.1 S0.2.2.2.2.2.2.2.1.2.2.1 D0.2.2.1 S0.2.2.2.2.1 (S0.2.2.2.2.2.2.2.1.1 _ hl rfl _) (fun _ q => q) hd kW
theorem ab_gsf {idx : Nat} (hd : decode cc pc = .ok (.getstatic idx, 3)) (hl : Cond.fieldLink M.1 idx "jdk/internal/util/Preconditions" "SIOOBE_FORMATTER" "Ljava/util/function/BiFunction;" ∈ lw_tbl) (k : ∀ a : Int, ab_E M cc (pc + 3) lv (ab_R a :: st) h r h') : ab_E M cc pc lv st h r h' := by
  refine ⟨(k 0).1, ?_⟩
  intro p l e R s m args below meth c H locs Q ls b0 n0 s0 D cy sA adV S0 D0 R0 T0
  have S1 := S0
  have D1 := D0
  obtain ⟨d1, d2, d3, d4, d5, d6, d7, d8, d9⟩ := D0
  have go := fun a : Int => (k a).2 p l e R s m args below meth c H locs Q ls b0 n0 s0 D cy sA adV S0 ⟨d1, d2, d3, d4, ab_ok1 (v := ab_I 0) d5 trivial, d6, d7, d8, d9⟩ R0 T0
  rcases S0.2.2.2.2.2.2.2.1.2.2.2.1 with q | q
  · refine va_gets S1.1 S1.2.1 q D1.2.2.1 S1.2.2.2.2.1 (S1.2.2.2.2.2.2.2.1.1 _ hl rfl _) (fun _ q => q) hd ?_
    exact go 0
  · refine va_gets S1.1 S1.2.1 q D1.2.2.1 S1.2.2.2.2.1 (S1.2.2.2.2.2.2.2.1.1 _ hl rfl _) (fun _ q => q) hd ?_
    exact go (-3000)
theorem ab_i2c_ {x : Int} (hd : decode cc pc = .ok (.i2c, 1)) (h0 : 0 ≤ x) (h1 : x < 65536) (k : ab_E M cc (pc + 1) lv (ab_I x :: st) h r h') : ab_E M cc pc lv (ab_I x :: st) h r h' :=
  ab_stk k (fun h5 _ _ => h5) fun _ _ _ _ _ _ _ _ _ _ _ _ _ _ _ _ _ _ _ _ _ S0 _ _ kW => lv_i2c S0.1 S0.2.1 hd (ab_u16 h0 h1) kW
theorem ab_callVs {idx nL' n fr' lo' j : Nat} {y : MethodName} {cc' : ByteArray} {ret' : Option FieldType} {as stk : List ab_V} {rv : Option ab_V} {h1 : ab_H} (hd : decode cc pc = .ok (.invokevirtual idx, 3)) (hl : Cond.methodLink M.1 idx y ∈ lw_tbl) (hy : ab_MY y cc' nL' n ret') (hs : Cond.instanceMethod y ∈ lw_tbl ∧ Cond.selects y.cls y y ∈ lw_tbl ∧ y.cls = "java/lang/String") (hj : j < 16) (hC : ab_CT y cc' nL' ret' fr' lo' (ab_R (-((j : Int) + ((0 + 1 : Nat) : Int))) :: as) h rv h1)
    (hfr : fr' + 1 ≤ M.2.2.2.2.1 ∧ 8 + (nL' + 11) + lo' ≤ M.2.2.2.2.2.1) (hn : as.length = n) (hst : ab_wd st ≤ 8) (hk : stk = as.reverse ++ ab_R (-((j : Int) + ((0 + 1 : Nat) : Int))) :: st) (kk : ab_E M cc (pc + 3) lv (rv.toList ++ st) h1 r h') : ab_E M cc pc lv stk h r h' := by
  subst hk
  refine ab_after (as := ab_R (-((j : Int) + ((0 + 1 : Nat) : Int))) :: as) hC.1 (fun v hv => List.mem_append_right _ (List.mem_cons_of_mem _ hv)) kk fun p l e R s m args below meth c H locs ls b0 n0 s0 D cy sA adV S0 D0 R0 => ?_
  obtain ⟨q1, q2, q3, q4, q5, q6, q7, q8, q9, q10⟩ := S0
  obtain ⟨d1, d2, d3, d4, d5, d6, d7, d8, d9⟩ := D0
  obtain ⟨s1, s2, s3⟩ := hs
  have hcat := ab_catsum b0 sA st
  have hlen : ∀ sig, parseMethodDescriptor y.desc = some sig → n = sig.parameters.length := fun sig hq => by
    have h2 := hy.2.2.2
    rw [hq] at h2
    exact (Option.some.inj h2).symm
  have hcv : ab_cv b0 sA (ab_R (-((j : Int) + ((0 + 1 : Nat) : Int)))) = .ref (sA (j + 1)) := ab_sneg b0 sA j 0
  have hrecv : ∃ cell : Cell, H[sA (j + 1)]? = some cell ∧ cell.vm.isStatics = false ∧ s.vm.findClass y.cls = some cell.cls := by
    rw [s3]; exact vk_recv (adK := fun i => sA (i + 1)) q8.2.2.2.2.1 hj d3
  have hm : (Value.ref (sA (j + 1)) :: as.map (ab_cv b0 sA)) = (ab_R (-((j : Int) + ((0 + 1 : Nat) : Int))) :: as).map (ab_cv b0 sA) := by rw [List.map_cons, hcv]
  have pre : PreV s H y.cls (sA (j + 1)) (ab_Pre b0 D cy sA adV (ab_R (-((j : Int) + ((0 + 1 : Nat) : Int))) :: as) h) (as.map (ab_cv b0 sA)) := ⟨ab_blind _ _ _ _ _ _ _, hrecv, fun U hU hW => ⟨by rw [hm], by rw [hU]; exact q8.to hW d3, by rw [hU]; exact d1, by rw [hU]; exact d2, fun v hv => by
    rcases List.mem_cons.mp hv with rfl | hv
    · exact trivial
    · exact d5 v (List.mem_append_left _ (List.mem_reverse.mpr hv)), d7⟩⟩
  rw [← hm]
  exact va_runV (Ts := []) (C := y.cls) ⟨q1, q2, q4, q5, fun _ hq => by cases hq⟩ (hC.2 l b0 D cy sA adV) (n := n) ⟨⟨rfl, rfl, by show fr' + 1 ≤ _; omega, by show 8 + (nL' + 11) + lo' ≤ _; omega, ab_good1 q8.1 hy.1, List.mem_singleton.mpr rfl, q8.1 _ hy.1 rfl _, q8.1 _ hy.2.1 rfl _, hy.2.2.1, hlen, q8.1 _ hl rfl _⟩, q8.1 _ s1 rfl _, q8.1 _ s2 rfl _⟩ pre rfl (by rw [List.length_map]; exact hn) d4.1
    (by show List.map _ (as.reverse ++ ab_R _ :: st) = _; rw [List.map_append, List.map_reverse, List.map_cons, hcv]) (lv_room (by omega)) hd R0
end ABS
theorem dJ0_length_8abf5_0 : decode cJ0_length_8abf5 0 = .ok (.aload_n 0, 1) := by decide +kernel
theorem dJ0_length_8abf5_1 : decode cJ0_length_8abf5 1 = .ok (.getfield 9, 3) := by decide +kernel
theorem dJ0_length_8abf5_4 : decode cJ0_length_8abf5 4 = .ok (.arraylength, 1) := by decide +kernel
theorem dJ0_length_8abf5_5 : decode cJ0_length_8abf5 5 = .ok (.aload_n 0, 1) := by decide +kernel
theorem dJ0_length_8abf5_6 : decode cJ0_length_8abf5 6 = .ok (.invokevirtual 335, 3) := by decide +kernel
theorem dJ0_length_8abf5_9 : decode cJ0_length_8abf5 9 = .ok (.ishr, 1) := by decide +kernel
theorem dJ0_length_8abf5_10 : decode cJ0_length_8abf5 10 = .ok (.ireturn, 1) := by decide +kernel
theorem my_J0_length_8abf5 : ab_MY yJ0_length_8abf5 cJ0_length_8abf5 1 0 (some .int) := ⟨tb_1 _ (List.mem_of_getElem? (i := 57) rfl), tb_1 _ (List.mem_of_getElem? (i := 5) rfl), ⟨by decide +kernel, by decide +kernel⟩, by decide +kernel⟩
theorem dJ0_charAt_5068e_0 : decode cJ0_charAt_5068e 0 = .ok (.aload_n 0, 1) := by decide +kernel
theorem dJ0_charAt_5068e_1 : decode cJ0_charAt_5068e 1 = .ok (.invokevirtual 492, 3) := by decide +kernel
theorem dJ0_charAt_5068e_4 : decode cJ0_charAt_5068e 4 = .ok (.ifCond .eq 12, 3) := by decide +kernel
theorem dJ0_charAt_5068e_7 : decode cJ0_charAt_5068e 7 = .ok (.aload_n 0, 1) := by decide +kernel
theorem dJ0_charAt_5068e_8 : decode cJ0_charAt_5068e 8 = .ok (.getfield 9, 3) := by decide +kernel
theorem dJ0_charAt_5068e_11 : decode cJ0_charAt_5068e 11 = .ok (.iload_n 1, 1) := by decide +kernel
theorem dJ0_charAt_5068e_12 : decode cJ0_charAt_5068e 12 = .ok (.invokestatic 495, 3) := by decide +kernel
theorem dJ0_charAt_5068e_15 : decode cJ0_charAt_5068e 15 = .ok (.ireturn, 1) := by decide +kernel
theorem dJ0_charAt_5068e_16 : decode cJ0_charAt_5068e 16 = .ok (.aload_n 0, 1) := by decide +kernel
theorem dJ0_charAt_5068e_17 : decode cJ0_charAt_5068e 17 = .ok (.getfield 9, 3) := by decide +kernel
theorem dJ0_charAt_5068e_20 : decode cJ0_charAt_5068e 20 = .ok (.iload_n 1, 1) := by decide +kernel
theorem dJ0_charAt_5068e_21 : decode cJ0_charAt_5068e 21 = .ok (.invokestatic 498, 3) := by decide +kernel
theorem dJ0_charAt_5068e_24 : decode cJ0_charAt_5068e 24 = .ok (.ireturn, 1) := by decide +kernel
theorem my_J0_charAt_5068e : ab_MY yJ0_charAt_5068e cJ0_charAt_5068e 2 1 (some .char) := ⟨tb_1 _ (List.mem_of_getElem? (i := 67) rfl), tb_1 _ (List.mem_of_getElem? (i := 5) rfl), ⟨by decide +kernel, by decide +kernel⟩, by decide +kernel⟩
theorem dJ0_coder_7d493_0 : decode cJ0_coder_7d493 0 = .ok (.getstatic 38, 3) := by decide +kernel
theorem dJ0_coder_7d493_3 : decode cJ0_coder_7d493 3 = .ok (.ifCond .eq 10, 3) := by decide +kernel
theorem dJ0_coder_7d493_6 : decode cJ0_coder_7d493 6 = .ok (.aload_n 0, 1) := by decide +kernel
theorem dJ0_coder_7d493_7 : decode cJ0_coder_7d493 7 = .ok (.getfield 15, 3) := by decide +kernel
theorem dJ0_coder_7d493_10 : decode cJ0_coder_7d493 10 = .ok (.goto 4, 3) := by decide +kernel
theorem dJ0_coder_7d493_13 : decode cJ0_coder_7d493 13 = .ok (.iconst 1, 1) := by decide +kernel
theorem dJ0_coder_7d493_14 : decode cJ0_coder_7d493 14 = .ok (.ireturn, 1) := by decide +kernel
theorem my_J0_coder_7d493 : ab_MY yJ0_coder_7d493 cJ0_coder_7d493 1 0 (some .byte) := ⟨tb_1 _ (List.mem_of_getElem? (i := 61) rfl), tb_1 _ (List.mem_of_getElem? (i := 5) rfl), ⟨by decide +kernel, by decide +kernel⟩, by decide +kernel⟩
theorem dJ0_isLatin1_aae02_0 : decode cJ0_isLatin1_aae02 0 = .ok (.getstatic 38, 3) := by decide +kernel
theorem dJ0_isLatin1_aae02_3 : decode cJ0_isLatin1_aae02 3 = .ok (.ifCond .eq 14, 3) := by decide +kernel
theorem dJ0_isLatin1_aae02_6 : decode cJ0_isLatin1_aae02 6 = .ok (.aload_n 0, 1) := by decide +kernel
theorem dJ0_isLatin1_aae02_7 : decode cJ0_isLatin1_aae02 7 = .ok (.getfield 15, 3) := by decide +kernel
theorem dJ0_isLatin1_aae02_10 : decode cJ0_isLatin1_aae02 10 = .ok (.ifCond .ne 7, 3) := by decide +kernel
theorem dJ0_isLatin1_aae02_13 : decode cJ0_isLatin1_aae02 13 = .ok (.iconst 1, 1) := by decide +kernel
theorem dJ0_isLatin1_aae02_14 : decode cJ0_isLatin1_aae02 14 = .ok (.goto 4, 3) := by decide +kernel
theorem dJ0_isLatin1_aae02_17 : decode cJ0_isLatin1_aae02 17 = .ok (.iconst 0, 1) := by decide +kernel
theorem dJ0_isLatin1_aae02_18 : decode cJ0_isLatin1_aae02 18 = .ok (.ireturn, 1) := by decide +kernel
theorem my_J0_isLatin1_aae02 : ab_MY yJ0_isLatin1_aae02 cJ0_isLatin1_aae02 1 0 (some .boolean) := ⟨tb_1 _ (List.mem_of_getElem? (i := 71) rfl), tb_1 _ (List.mem_of_getElem? (i := 5) rfl), ⟨by decide +kernel, by decide +kernel⟩, by decide +kernel⟩
theorem dJ0_checkIndex_df160_0 : decode cJ0_checkIndex_df160 0 = .ok (.iload_n 0, 1) := by decide +kernel
theorem dJ0_checkIndex_df160_1 : decode cJ0_checkIndex_df160 1 = .ok (.iload_n 1, 1) := by decide +kernel
theorem dJ0_checkIndex_df160_2 : decode cJ0_checkIndex_df160 2 = .ok (.getstatic 1053, 3) := by decide +kernel
theorem dJ0_checkIndex_df160_5 : decode cJ0_checkIndex_df160 5 = .ok (.invokestatic 1059, 3) := by decide +kernel
theorem dJ0_checkIndex_df160_8 : decode cJ0_checkIndex_df160 8 = .ok (.pop, 1) := by decide +kernel
theorem dJ0_checkIndex_df160_9 : decode cJ0_checkIndex_df160 9 = .ok (.return_, 1) := by decide +kernel
theorem my_J0_checkIndex_df160 : ab_MY yJ0_checkIndex_df160 cJ0_checkIndex_df160 2 2 none := ⟨tb_1 _ (List.mem_of_getElem? (i := 77) rfl), tb_1 _ (List.mem_of_getElem? (i := 5) rfl), ⟨by decide +kernel, by decide +kernel⟩, by decide +kernel⟩
theorem dJ1_charAt_3b067_0 : decode cJ1_charAt_3b067 0 = .ok (.iload_n 1, 1) := by decide +kernel
theorem dJ1_charAt_3b067_1 : decode cJ1_charAt_3b067 1 = .ok (.aload_n 0, 1) := by decide +kernel
theorem dJ1_charAt_3b067_2 : decode cJ1_charAt_3b067 2 = .ok (.arraylength, 1) := by decide +kernel
theorem dJ1_charAt_3b067_3 : decode cJ1_charAt_3b067 3 = .ok (.invokestatic 9, 3) := by decide +kernel
theorem dJ1_charAt_3b067_6 : decode cJ1_charAt_3b067 6 = .ok (.aload_n 0, 1) := by decide +kernel
theorem dJ1_charAt_3b067_7 : decode cJ1_charAt_3b067 7 = .ok (.iload_n 1, 1) := by decide +kernel
theorem dJ1_charAt_3b067_8 : decode cJ1_charAt_3b067 8 = .ok (.baload, 1) := by decide +kernel
theorem dJ1_charAt_3b067_9 : decode cJ1_charAt_3b067 9 = .ok (.sipush 255, 3) := by decide +kernel
theorem dJ1_charAt_3b067_12 : decode cJ1_charAt_3b067 12 = .ok (.iand, 1) := by decide +kernel
theorem dJ1_charAt_3b067_13 : decode cJ1_charAt_3b067 13 = .ok (.i2c, 1) := by decide +kernel
theorem dJ1_charAt_3b067_14 : decode cJ1_charAt_3b067 14 = .ok (.ireturn, 1) := by decide +kernel
theorem my_J1_charAt_3b067 : ab_MY yJ1_charAt_3b067 cJ1_charAt_3b067 2 2 (some .char) := ⟨tb_1 _ (List.mem_of_getElem? (i := 74) rfl), tb_1 _ (List.mem_of_getElem? (i := 6) rfl), ⟨by decide +kernel, by decide +kernel⟩, by decide +kernel⟩
theorem dJ3_checkIndex_8e157_0 : decode cJ3_checkIndex_8e157 0 = .ok (.iload_n 0, 1) := by decide +kernel
theorem dJ3_checkIndex_8e157_1 : decode cJ3_checkIndex_8e157 1 = .ok (.ifCond .lt 8, 3) := by decide +kernel
theorem dJ3_checkIndex_8e157_4 : decode cJ3_checkIndex_8e157 4 = .ok (.iload_n 0, 1) := by decide +kernel
theorem dJ3_checkIndex_8e157_5 : decode cJ3_checkIndex_8e157 5 = .ok (.iload_n 1, 1) := by decide +kernel
theorem dJ3_checkIndex_8e157_6 : decode cJ3_checkIndex_8e157 6 = .ok (.if_icmp .lt 10, 3) := by decide +kernel
theorem dJ3_checkIndex_8e157_9 : decode cJ3_checkIndex_8e157 9 = .ok (.aload_n 2, 1) := by decide +kernel
theorem dJ3_checkIndex_8e157_10 : decode cJ3_checkIndex_8e157 10 = .ok (.iload_n 0, 1) := by decide +kernel
theorem dJ3_checkIndex_8e157_11 : decode cJ3_checkIndex_8e157 11 = .ok (.iload_n 1, 1) := by decide +kernel
theorem dJ3_checkIndex_8e157_12 : decode cJ3_checkIndex_8e157 12 = .ok (.invokestatic 95, 3) := by decide +kernel
theorem dJ3_checkIndex_8e157_15 : decode cJ3_checkIndex_8e157 15 = .ok (.athrow, 1) := by decide +kernel
theorem dJ3_checkIndex_8e157_16 : decode cJ3_checkIndex_8e157 16 = .ok (.iload_n 0, 1) := by decide +kernel
theorem dJ3_checkIndex_8e157_17 : decode cJ3_checkIndex_8e157 17 = .ok (.ireturn, 1) := by decide +kernel
theorem my_J3_checkIndex_8e157 : ab_MY yJ3_checkIndex_8e157 cJ3_checkIndex_8e157 3 3 (some .int) := ⟨tb_1 _ (List.mem_of_getElem? (i := 82) rfl), tb_1 _ (List.mem_of_getElem? (i := 7) rfl), ⟨by decide +kernel, by decide +kernel⟩, by decide +kernel⟩
theorem ct_J0_coder_7d493 {j : Nat} (hj : j < 16) {h : ab_H} : ab_CT yJ0_coder_7d493 cJ0_coder_7d493 1 (some .byte) 0 0 [ab_R (-((j : Int) + ((0 + 1 : Nat) : Int)))] h (some (ab_I 0)) h := by
  refine ab_CT.mk_ 0 (own := RJ0) (ini := false) (lv := [some (ab_R (-((j : Int) + ((0 + 1 : Nat) : Int))))]) rfl (by decide +kernel) (fun q => by cases q) rfl rfl ?_
  refine ab_gcs (pc := 0) dJ0_coder_7d493_0 (tb_1 _ (List.mem_of_getElem? (i := 62) rfl)) ?_
  refine ab_if_eq (pc := 3) (tgt := 13) dJ0_coder_7d493_3 rfl (fun hc => absurd hc (by decide)) (fun _ => ?_)
  refine ab_aload_n (pc := 6) (i := 0) dJ0_coder_7d493_6 rfl rfl ?_
  refine ab_sgc (pc := 7) dJ0_coder_7d493_7 (tb_8 _ (List.mem_of_getElem? (i := 23) rfl)) hj ?_
  refine ab_goto (pc := 10) (tgt := 14) dJ0_coder_7d493_10 rfl ?_
  exact ab_reti dJ0_coder_7d493_14 (Or.inr (Or.inr (Or.inl ⟨rfl, rfl⟩)))
theorem ct_J0_length_8abf5 {j : Nat} (hj : j < 16) {h : ab_H} : ab_CT yJ0_length_8abf5 cJ0_length_8abf5 1 (some .int) 1 20 [ab_R (-((j : Int) + ((0 + 1 : Nat) : Int)))] h (some (ab_I ((ab_sLen.getD j 0 : Nat) : Int))) h := by
  refine ab_CT.mk_ 0 (own := RJ0) (ini := false) (lv := [some (ab_R (-((j : Int) + ((0 + 1 : Nat) : Int))))]) rfl (by decide +kernel) (fun q => by cases q) rfl rfl ?_
  refine ab_aload_n (pc := 0) (i := 0) dJ0_length_8abf5_0 rfl rfl ?_
  refine ab_sgv (pc := 1) dJ0_length_8abf5_1 (tb_8 _ (List.mem_of_getElem? (i := 22) rfl)) hj ?_
  refine ab_salen (pc := 4) dJ0_length_8abf5_4 hj ?_
  refine ab_aload_n (pc := 5) (i := 0) dJ0_length_8abf5_5 rfl rfl ?_
  refine ab_callVs (pc := 6) (as := []) (st := [ab_I ((ab_sLen.getD j 0 : Nat) : Int)]) dJ0_length_8abf5_6 (tb_1 _ (List.mem_of_getElem? (i := 58) rfl)) my_J0_coder_7d493 ⟨tb_1 _ (List.mem_of_getElem? (i := 59) rfl), tb_1 _ (List.mem_of_getElem? (i := 60) rfl), rfl⟩ hj (ct_J0_coder_7d493 hj) ⟨Nat.le_of_ble_eq_true rfl, Nat.le_of_ble_eq_true rfl⟩ rfl (Nat.le_of_ble_eq_true rfl) rfl ?_
  refine ab_ishr (pc := 9) (x := ((ab_sLen.getD j 0 : Nat) : Int)) (y := 0) dJ0_length_8abf5_9 ?_
  have e : ab_shr ((ab_sLen.getD j 0 : Nat) : Int) 0 = ((ab_sLen.getD j 0 : Nat) : Int) := by
    have := (ab_sok j hj).1
    have e2 : Int32.ofInt 0 &&& 31 = 0 := by decide
    unfold ab_shr
    rw [e2]
    have e3 : ∀ z : Int32, z >>> (0 : Int32) = z := by intro z; apply Int32.toBitVec_inj.mp; simp
    rw [e3, ab_toInt32, ab_w32_id]
    unfold ab_i32; omega
  rw [e]
  exact ab_reti dJ0_length_8abf5_10 (Or.inl rfl)
theorem ct_J0_isLatin1_aae02 {j : Nat} (hj : j < 16) {h : ab_H} : ab_CT yJ0_isLatin1_aae02 cJ0_isLatin1_aae02 1 (some .boolean) 0 0 [ab_R (-((j : Int) + ((0 + 1 : Nat) : Int)))] h (some (ab_I 1)) h := by
  refine ab_CT.mk_ 0 (own := RJ0) (ini := false) (lv := [some (ab_R (-((j : Int) + ((0 + 1 : Nat) : Int))))]) rfl (by decide +kernel) (fun q => by cases q) rfl rfl ?_
  refine ab_gcs (pc := 0) dJ0_isLatin1_aae02_0 (tb_1 _ (List.mem_of_getElem? (i := 62) rfl)) ?_
  refine ab_if_eq (pc := 3) (tgt := 17) dJ0_isLatin1_aae02_3 rfl (fun hc => absurd hc (by decide)) (fun _ => ?_)
  refine ab_aload_n (pc := 6) (i := 0) dJ0_isLatin1_aae02_6 rfl rfl ?_
  refine ab_sgc (pc := 7) dJ0_isLatin1_aae02_7 (tb_8 _ (List.mem_of_getElem? (i := 23) rfl)) hj ?_
  refine ab_if_ne (pc := 10) (tgt := 17) dJ0_isLatin1_aae02_10 rfl (fun hc => absurd rfl hc) (fun _ => ?_)
  refine ab_iconst (pc := 13) dJ0_isLatin1_aae02_13 ⟨by decide, by decide⟩ ?_
  refine ab_goto (pc := 14) (tgt := 18) dJ0_isLatin1_aae02_14 rfl ?_
  exact ab_reti dJ0_isLatin1_aae02_18 (Or.inr (Or.inl ⟨rfl, Or.inr rfl⟩))
theorem ct_J3_checkIndex_8e157 {i n a : Int} (h0 : 0 ≤ i) (h1 : i < n) {h : ab_H} : ab_CT yJ3_checkIndex_8e157 cJ3_checkIndex_8e157 3 (some .int) 0 0 [ab_I i, ab_I n, ab_R a] h (some (ab_I i)) h := by
  refine ab_CT.mk_ 0 (own := RJ3) (ini := false) (lv := [some (ab_I i), some (ab_I n), some (ab_R a)]) rfl (by decide +kernel) (fun q => by cases q) rfl rfl ?_
  refine ab_iload_n (pc := 0) (i := 0) dJ3_checkIndex_8e157_0 rfl rfl ?_
  refine ab_if_lt (pc := 1) (tgt := 9) dJ3_checkIndex_8e157_1 rfl (fun hc => absurd hc (by omega)) (fun _ => ?_)
  refine ab_iload_n (pc := 4) (i := 0) dJ3_checkIndex_8e157_4 rfl rfl ?_
  refine ab_iload_n (pc := 5) (i := 1) dJ3_checkIndex_8e157_5 rfl rfl ?_
  refine ab_icmp_lt (pc := 6) (tgt := 16) dJ3_checkIndex_8e157_6 rfl (fun _ => ?_) (fun hc => absurd h1 hc)
  refine ab_iload_n (pc := 16) (i := 0) dJ3_checkIndex_8e157_16 rfl rfl ?_
  exact ab_reti dJ3_checkIndex_8e157_17 (Or.inl rfl)
theorem ct_J0_checkIndex_df160 {i n : Int} (h0 : 0 ≤ i) (h1 : i < n) {h : ab_H} : ab_CT yJ0_checkIndex_df160 cJ0_checkIndex_df160 2 none 1 22 [ab_I i, ab_I n] h none h := by
  refine ab_CT.mk_ 0 (own := RJ0) (ini := false) (lv := [some (ab_I i), some (ab_I n)]) rfl (by decide +kernel) (fun q => by cases q) rfl rfl ?_
  refine ab_iload_n (pc := 0) (i := 0) dJ0_checkIndex_df160_0 rfl rfl ?_
  refine ab_iload_n (pc := 1) (i := 1) dJ0_checkIndex_df160_1 rfl rfl ?_
  refine ab_gsf (pc := 2) dJ0_checkIndex_df160_2 (tb_1 _ (List.mem_of_getElem? (i := 78) rfl)) (fun a => ?_)
  refine ab_callSI (pc := 5) (as := [ab_I i, ab_I n, ab_R a]) (st := []) dJ0_checkIndex_df160_5 (Or.inl (tb_1 _ (List.mem_of_getElem? (i := 80) rfl))) my_J3_checkIndex_8e157 (tb_1 _ (List.mem_of_getElem? (i := 81) rfl)) (ct_J3_checkIndex_8e157 h0 h1) ⟨Nat.le_of_ble_eq_true rfl, Nat.le_of_ble_eq_true rfl⟩ rfl (Nat.le_of_ble_eq_true rfl) rfl ?_
  refine ab_pop (pc := 8) dJ0_checkIndex_df160_8 rfl ?_
  exact ab_retv dJ0_checkIndex_df160_9 rfl
theorem ct_J1_charAt_3b067 {j : Nat} (hj : j < 16) {i : Int} (h0 : 0 ≤ i) (h1 : i < ((ab_sLen.getD j 0 : Nat) : Int)) {h : ab_H} : ab_CT yJ1_charAt_3b067 cJ1_charAt_3b067 2 (some .char) 2 50 [ab_R (-((j : Int) + ((2000 + 1 : Nat) : Int))), ab_I i] h (some (ab_I ((ab_sByt.getD j []).getD i.toNat 0).toInt)) h := by
  refine ab_CT.mk_ 0 (own := RJ1) (ini := false) (lv := [some (ab_R (-((j : Int) + ((2000 + 1 : Nat) : Int)))), some (ab_I i)]) rfl (by decide +kernel) (fun q => by cases q) rfl rfl ?_
  refine ab_iload_n (pc := 0) (i := 1) dJ1_charAt_3b067_0 rfl rfl ?_
  refine ab_aload_n (pc := 1) (i := 0) dJ1_charAt_3b067_1 rfl rfl ?_
  refine ab_salen (pc := 2) dJ1_charAt_3b067_2 hj ?_
  refine ab_callSV (pc := 3) (as := [ab_I i, ab_I ((ab_sLen.getD j 0 : Nat) : Int)]) (st := []) dJ1_charAt_3b067_3 (Or.inl (tb_1 _ (List.mem_of_getElem? (i := 75) rfl))) my_J0_checkIndex_df160 (tb_1 _ (List.mem_of_getElem? (i := 76) rfl)) (ct_J0_checkIndex_df160 h0 h1) ⟨Nat.le_of_ble_eq_true rfl, Nat.le_of_ble_eq_true rfl⟩ rfl (Nat.le_of_ble_eq_true rfl) rfl ?_
  refine ab_aload_n (pc := 6) (i := 0) dJ1_charAt_3b067_6 rfl rfl ?_
  refine ab_iload_n (pc := 7) (i := 1) dJ1_charAt_3b067_7 rfl rfl ?_
  refine ab_sbald (pc := 8) dJ1_charAt_3b067_8 hj h0 h1 ?_
  refine ab_sipush (pc := 9) (x := 255) dJ1_charAt_3b067_9 (by decide +kernel) ⟨by decide, by decide⟩ ?_
  refine ab_iand (pc := 12) dJ1_charAt_3b067_12 ?_
  have hb := (ab_sok j hj).2 i.toNat (by omega)
  have e : ab_and ((ab_sByt.getD j []).getD i.toNat 0).toInt 255 = ((ab_sByt.getD j []).getD i.toNat 0).toInt := by
    generalize ((ab_sByt.getD j []).getD i.toNat 0) = z at hb ⊢
    unfold ab_and
    rw [ab_back32]
    congr 1
    have e3 : Int32.ofInt 255 = 255 := by decide
    rw [e3]
    apply Int32.toBitVec_inj.mp
    have hz : z.toBitVec.toNat < 128 := by
      have h2 : z.toInt = z.toBitVec.toInt := rfl
      rw [h2, BitVec.toInt_eq_toNat_cond] at hb
      have := z.toBitVec.isLt
      split at hb <;> omega
    apply BitVec.eq_of_toNat_eq
    show (z.toBitVec &&& (255 : Int32).toBitVec).toNat = _
    rw [BitVec.toNat_and, show ((255 : Int32).toBitVec).toNat = 2 ^ 8 - 1 from rfl, Nat.and_two_pow_sub_one_eq_mod]
    omega
  rw [e]
  refine ab_i2c_ (pc := 13) dJ1_charAt_3b067_13 hb.1 (by omega) ?_
  exact ab_reti dJ1_charAt_3b067_14 (Or.inr (Or.inr (Or.inr ⟨rfl, hb.1, by omega⟩)))
theorem ct_J0_charAt_5068e {j : Nat} (hj : j < 16) {i : Int} (h0 : 0 ≤ i) (h1 : i < ((ab_sLen.getD j 0 : Nat) : Int)) {h : ab_H} : ab_CT yJ0_charAt_5068e cJ0_charAt_5068e 2 (some .char) 3 80 [ab_R (-((j : Int) + ((0 + 1 : Nat) : Int))), ab_I i] h (some (ab_I ((ab_sByt.getD j []).getD i.toNat 0).toInt)) h := by
  refine ab_CT.mk_ 0 (own := RJ0) (ini := false) (lv := [some (ab_R (-((j : Int) + ((0 + 1 : Nat) : Int)))), some (ab_I i)]) rfl (by decide +kernel) (fun q => by cases q) rfl rfl ?_
  refine ab_aload_n (pc := 0) (i := 0) dJ0_charAt_5068e_0 rfl rfl ?_
  refine ab_callVs (pc := 1) (as := []) (st := []) dJ0_charAt_5068e_1 (tb_1 _ (List.mem_of_getElem? (i := 68) rfl)) my_J0_isLatin1_aae02 ⟨tb_1 _ (List.mem_of_getElem? (i := 69) rfl), tb_1 _ (List.mem_of_getElem? (i := 70) rfl), rfl⟩ hj (ct_J0_isLatin1_aae02 hj) ⟨Nat.le_of_ble_eq_true rfl, Nat.le_of_ble_eq_true rfl⟩ rfl (Nat.le_of_ble_eq_true rfl) rfl ?_
  refine ab_if_eq (pc := 4) (x := 1) (tgt := 16) dJ0_charAt_5068e_4 rfl (fun hc => absurd hc (by decide)) (fun _ => ?_)
  refine ab_aload_n (pc := 7) (i := 0) dJ0_charAt_5068e_7 rfl rfl ?_
  refine ab_sgv (pc := 8) dJ0_charAt_5068e_8 (tb_8 _ (List.mem_of_getElem? (i := 22) rfl)) hj ?_
  refine ab_iload_n (pc := 11) (i := 1) dJ0_charAt_5068e_11 rfl rfl ?_
  refine ab_callSI (pc := 12) (as := [ab_R (-((j : Int) + ((2000 + 1 : Nat) : Int))), ab_I i]) (st := []) dJ0_charAt_5068e_12 (Or.inl (tb_1 _ (List.mem_of_getElem? (i := 72) rfl))) my_J1_charAt_3b067 (tb_1 _ (List.mem_of_getElem? (i := 73) rfl)) (ct_J1_charAt_3b067 hj h0 h1) ⟨Nat.le_of_ble_eq_true rfl, Nat.le_of_ble_eq_true rfl⟩ rfl (Nat.le_of_ble_eq_true rfl) rfl ?_
  have hb := (ab_sok j hj).2 i.toNat (by omega)
  exact ab_reti dJ0_charAt_5068e_15 (Or.inr (Or.inr (Or.inr ⟨rfl, hb.1, by omega⟩)))
section ABS2
variable {M : ab_M} {cc : ByteArray} {pc : Nat} {lv : List (Option ab_V)} {st : List ab_V} {h h' : ab_H} {r : Option ab_V}
theorem ab_slen_ {idx : Nat} {a x : Int} (hd : decode cc pc = .ok (.invokevirtual idx, 3)) (hl : Cond.methodLink M.1 idx yJ0_length_8abf5 ∈ lw_tbl) (hg : ab_slen a = some x) (hfr : 2 ≤ M.2.2.2.2.1) (hlo : 60 ≤ M.2.2.2.2.2.1) (hst : ab_wd st ≤ 8) (k : ab_E M cc (pc + 3) lv (ab_I x :: st) h r h') : ab_E M cc pc lv (ab_R a :: st) h r h' := by
  unfold ab_slen at hg; split at hg
  · next hc =>
    cases hg
    obtain ⟨j, hj⟩ : ∃ j : Nat, a = (-((j : Int) + ((0 + 1 : Nat) : Int))) := ⟨(-a).toNat - 1, by omega⟩
    subst hj
    have ej : (-(-((j : Int) + ((0 + 1 : Nat) : Int)))).toNat - 1 = j := by omega
    rw [ej] at k
    exact ab_callVs (as := []) hd hl my_J0_length_8abf5 ⟨tb_1 _ (List.mem_of_getElem? (i := 55) rfl), tb_1 _ (List.mem_of_getElem? (i := 56) rfl), rfl⟩ (by omega) (ct_J0_length_8abf5 (by omega)) ⟨by omega, by omega⟩ rfl hst rfl k
  · cases hg
theorem ab_schr_ {idx : Nat} {a i x : Int} (hd : decode cc pc = .ok (.invokevirtual idx, 3)) (hl : Cond.methodLink M.1 idx yJ0_charAt_5068e ∈ lw_tbl) (hg : ab_schr a i = some x) (hfr : 5 ≤ M.2.2.2.2.1) (hlo : 150 ≤ M.2.2.2.2.2.1) (hst : ab_wd st ≤ 8) (k : ab_E M cc (pc + 3) lv (ab_I x :: st) h r h') : ab_E M cc pc lv (ab_I i :: ab_R a :: st) h r h' := by
  unfold ab_schr at hg; split at hg
  · next hc =>
    cases hg
    obtain ⟨j, hj⟩ : ∃ j : Nat, a = (-((j : Int) + ((0 + 1 : Nat) : Int))) := ⟨(-a).toNat - 1, by omega⟩
    subst hj
    have ej : (-(-((j : Int) + ((0 + 1 : Nat) : Int)))).toNat - 1 = j := by omega
    rw [ej] at k hc
    exact ab_callVs (as := [ab_I i]) hd hl my_J0_charAt_5068e ⟨tb_1 _ (List.mem_of_getElem? (i := 65) rfl), tb_1 _ (List.mem_of_getElem? (i := 66) rfl), rfl⟩ (by omega) (ct_J0_charAt_5068e (by omega) hc.2.2.1 hc.2.2.2) ⟨by omega, by omega⟩ rfl hst rfl k
  · cases hg
end ABS2
theorem sl_RX4_31 : Cond.methodLink RX4 31 yJ0_length_8abf5 ∈ lw_tbl := tb_1 _ (List.mem_of_getElem? (i := 54) rfl)
theorem sl_RX4_37 : Cond.methodLink RX4 37 yJ0_charAt_5068e ∈ lw_tbl := tb_1 _ (List.mem_of_getElem? (i := 64) rfl)
theorem sl_RX9_128 : Cond.methodLink RX9 128 yJ0_length_8abf5 ∈ lw_tbl := tb_6 _ (List.mem_of_getElem? (i := 6) rfl)
theorem sl_RX9_134 : Cond.methodLink RX9 134 yJ0_charAt_5068e ∈ lw_tbl := tb_6 _ (List.mem_of_getElem? (i := 7) rfl)
