theorem dX5_init_0 : decode cX5_init 0 = .ok (.aload_n 0, 1) := by decide +kernel
theorem dX5_init_1 : decode cX5_init 1 = .ok (.invokespecial 3, 3) := by decide +kernel
theorem dX5_init_4 : decode cX5_init 4 = .ok (.aload_n 0, 1) := by decide +kernel
theorem dX5_init_5 : decode cX5_init 5 = .ok (.bipush 12, 2) := by decide +kernel
theorem dX5_init_7 : decode cX5_init 7 = .ok (.newarray .int, 2) := by decide +kernel
theorem dX5_init_9 : decode cX5_init 9 = .ok (.putfield 9, 3) := by decide +kernel
theorem dX5_init_12 : decode cX5_init 12 = .ok (.aload_n 0, 1) := by decide +kernel
theorem dX5_init_13 : decode cX5_init 13 = .ok (.bipush 72, 2) := by decide +kernel
theorem dX5_init_15 : decode cX5_init 15 = .ok (.newarray .int, 2) := by decide +kernel
theorem dX5_init_17 : decode cX5_init 17 = .ok (.putfield 15, 3) := by decide +kernel
theorem dX5_init_20 : decode cX5_init 20 = .ok (.aload_n 0, 1) := by decide +kernel
theorem dX5_init_21 : decode cX5_init 21 = .ok (.bipush 72, 2) := by decide +kernel
theorem dX5_init_23 : decode cX5_init 23 = .ok (.newarray .int, 2) := by decide +kernel
theorem dX5_init_25 : decode cX5_init 25 = .ok (.putfield 18, 3) := by decide +kernel
theorem dX5_init_28 : decode cX5_init 28 = .ok (.aload_n 0, 1) := by decide +kernel
theorem dX5_init_29 : decode cX5_init 29 = .ok (.bipush 72, 2) := by decide +kernel
theorem dX5_init_31 : decode cX5_init 31 = .ok (.newarray .long, 2) := by decide +kernel
theorem dX5_init_33 : decode cX5_init 33 = .ok (.putfield 21, 3) := by decide +kernel
theorem dX5_init_36 : decode cX5_init 36 = .ok (.aload_n 0, 1) := by decide +kernel
theorem dX5_init_37 : decode cX5_init 37 = .ok (.bipush 72, 2) := by decide +kernel
theorem dX5_init_39 : decode cX5_init 39 = .ok (.newarray .long, 2) := by decide +kernel
theorem dX5_init_41 : decode cX5_init 41 = .ok (.putfield 25, 3) := by decide +kernel
theorem dX5_init_44 : decode cX5_init 44 = .ok (.return_, 1) := by decide +kernel
abbrev mm_X5_init : ab_M := (RX5, 1, none, true, 1, 20, none)
noncomputable def f_X5_init (a0 : Int) (h : ab_H) : Option ab_H :=
  ab_if (decide (0 < a0)) <|
  (ab_mkA h 11 (12 : Int)).bind fun h1 =>
  (ab_putR h1 6 1 a0 (ab_nx h)).bind fun h2 =>
  (ab_mkA h2 11 (72 : Int)).bind fun h3 =>
  (ab_putR h3 6 2 a0 (ab_nx h2)).bind fun h4 =>
  (ab_mkA h4 11 (72 : Int)).bind fun h5 =>
  (ab_putR h5 6 3 a0 (ab_nx h4)).bind fun h6 =>
  (ab_mkA h6 12 (72 : Int)).bind fun h7 =>
  (ab_putR h7 6 4 a0 (ab_nx h6)).bind fun h8 =>
  (ab_mkA h8 12 (72 : Int)).bind fun h9 =>
  (ab_putR h9 6 5 a0 (ab_nx h8)).bind fun h10 =>
  some h10
set_option maxRecDepth 20000 in
theorem ct_X5_init {a0 : Int} {h : ab_H} {q : ab_H} (hk : f_X5_init a0 h = some q) : ab_CT yX5_init cX5_init 1 none 1 20 [ab_R a0] h none q := by
  refine ab_CT.mk_ 0 (own := RX5) (ini := true) (lv := [some (ab_R a0)]) rfl (by decide +kernel) (fun _ => rfl) rfl rfl ?_
  unfold f_X5_init at hk
  show ab_E mm_X5_init cX5_init 0 _ [] h _ _
  refine ab_aload_n (pc := 0) (i := 0) dX5_init_0 rfl rfl ?_
  obtain ⟨hg, hk⟩ := ab_if_some hk
  refine ab_obj0_ (pc := 1) dX5_init_1 ob_RX5_3 hg (Nat.le_of_ble_eq_true rfl) (Nat.le_of_ble_eq_true rfl) (Nat.le_of_ble_eq_true rfl) ?_
  refine ab_aload_n (pc := 4) (i := 0) dX5_init_4 rfl rfl ?_
  refine ab_bipush (pc := 5) dX5_init_5 ab_p8_12 ab_k_12 ?_
  obtain ⟨h1, hh1, hk⟩ := ab_bnd hk
  refine ab_newA (pc := 7) dX5_init_7 (by decide) ab_ac_int hh1 ?_
  obtain ⟨h2, hh2, hk⟩ := ab_bnd hk
  refine ab_putR_ (pc := 9) dX5_init_9 fl_RX5_9 (fun _ => ⟨rfl, rfl⟩) hh2 ?_
  refine ab_aload_n (pc := 12) (i := 0) dX5_init_12 rfl rfl ?_
  refine ab_bipush (pc := 13) dX5_init_13 ab_p8_72 ab_k_72 ?_
  obtain ⟨h3, hh3, hk⟩ := ab_bnd hk
  refine ab_newA (pc := 15) dX5_init_15 (by decide) ab_ac_int hh3 ?_
  obtain ⟨h4, hh4, hk⟩ := ab_bnd hk
  refine ab_putR_ (pc := 17) dX5_init_17 fl_RX5_15 (fun _ => ⟨rfl, rfl⟩) hh4 ?_
  refine ab_aload_n (pc := 20) (i := 0) dX5_init_20 rfl rfl ?_
  refine ab_bipush (pc := 21) dX5_init_21 ab_p8_72 ab_k_72 ?_
  obtain ⟨h5, hh5, hk⟩ := ab_bnd hk
  refine ab_newA (pc := 23) dX5_init_23 (by decide) ab_ac_int hh5 ?_
  obtain ⟨h6, hh6, hk⟩ := ab_bnd hk
  refine ab_putR_ (pc := 25) dX5_init_25 fl_RX5_18 (fun _ => ⟨rfl, rfl⟩) hh6 ?_
  refine ab_aload_n (pc := 28) (i := 0) dX5_init_28 rfl rfl ?_
  refine ab_bipush (pc := 29) dX5_init_29 ab_p8_72 ab_k_72 ?_
  obtain ⟨h7, hh7, hk⟩ := ab_bnd hk
  refine ab_newA (pc := 31) dX5_init_31 (by decide) ab_ac_long hh7 ?_
  obtain ⟨h8, hh8, hk⟩ := ab_bnd hk
  refine ab_putR_ (pc := 33) dX5_init_33 fl_RX5_21 (fun _ => ⟨rfl, rfl⟩) hh8 ?_
  refine ab_aload_n (pc := 36) (i := 0) dX5_init_36 rfl rfl ?_
  refine ab_bipush (pc := 37) dX5_init_37 ab_p8_72 ab_k_72 ?_
  obtain ⟨h9, hh9, hk⟩ := ab_bnd hk
  refine ab_newA (pc := 39) dX5_init_39 (by decide) ab_ac_long hh9 ?_
  obtain ⟨h10, hh10, hk⟩ := ab_bnd hk
  refine ab_putR_ (pc := 41) dX5_init_41 fl_RX5_25 (fun _ => ⟨rfl, rfl⟩) hh10 ?_
  obtain rfl := Option.some.inj hk
  exact ab_retv (pc := 44) dX5_init_44 rfl
theorem dX5_takeFrom_0 : decode cX5_takeFrom 0 = .ok (.aload_n 0, 1) := by decide +kernel
theorem dX5_takeFrom_1 : decode cX5_takeFrom 1 = .ok (.aload_n 1, 1) := by decide +kernel
theorem dX5_takeFrom_2 : decode cX5_takeFrom 2 = .ok (.getfield 28, 3) := by decide +kernel
theorem dX5_takeFrom_5 : decode cX5_takeFrom 5 = .ok (.putfield 34, 3) := by decide +kernel
theorem dX5_takeFrom_8 : decode cX5_takeFrom 8 = .ok (.iconst 0, 1) := by decide +kernel
theorem dX5_takeFrom_9 : decode cX5_takeFrom 9 = .ok (.istore_n 3, 1) := by decide +kernel
theorem dX5_takeFrom_10 : decode cX5_takeFrom 10 = .ok (.iload_n 3, 1) := by decide +kernel
theorem dX5_takeFrom_11 : decode cX5_takeFrom 11 = .ok (.aload_n 0, 1) := by decide +kernel
theorem dX5_takeFrom_12 : decode cX5_takeFrom 12 = .ok (.getfield 34, 3) := by decide +kernel
theorem dX5_takeFrom_15 : decode cX5_takeFrom 15 = .ok (.if_icmp .ge 125, 3) := by decide +kernel
theorem dX5_takeFrom_18 : decode cX5_takeFrom 18 = .ok (.aload_n 0, 1) := by decide +kernel
theorem dX5_takeFrom_19 : decode cX5_takeFrom 19 = .ok (.getfield 9, 3) := by decide +kernel
theorem dX5_takeFrom_22 : decode cX5_takeFrom 22 = .ok (.iload_n 3, 1) := by decide +kernel
theorem dX5_takeFrom_23 : decode cX5_takeFrom 23 = .ok (.aload_n 1, 1) := by decide +kernel
theorem dX5_takeFrom_24 : decode cX5_takeFrom 24 = .ok (.getfield 37, 3) := by decide +kernel
theorem dX5_takeFrom_27 : decode cX5_takeFrom 27 = .ok (.iload_n 3, 1) := by decide +kernel
theorem dX5_takeFrom_28 : decode cX5_takeFrom 28 = .ok (.iaload, 1) := by decide +kernel
theorem dX5_takeFrom_29 : decode cX5_takeFrom 29 = .ok (.iastore, 1) := by decide +kernel
theorem dX5_takeFrom_30 : decode cX5_takeFrom 30 = .ok (.iload_n 3, 1) := by decide +kernel
theorem dX5_takeFrom_31 : decode cX5_takeFrom 31 = .ok (.bipush 6, 2) := by decide +kernel
theorem dX5_takeFrom_33 : decode cX5_takeFrom 33 = .ok (.imul, 1) := by decide +kernel
theorem dX5_takeFrom_34 : decode cX5_takeFrom 34 = .ok (.istore 4, 2) := by decide +kernel
theorem dX5_takeFrom_36 : decode cX5_takeFrom 36 = .ok (.iload 4, 2) := by decide +kernel
theorem dX5_takeFrom_38 : decode cX5_takeFrom 38 = .ok (.iload_n 3, 1) := by decide +kernel
theorem dX5_takeFrom_39 : decode cX5_takeFrom 39 = .ok (.bipush 6, 2) := by decide +kernel
theorem dX5_takeFrom_41 : decode cX5_takeFrom 41 = .ok (.imul, 1) := by decide +kernel
theorem dX5_takeFrom_42 : decode cX5_takeFrom 42 = .ok (.aload_n 0, 1) := by decide +kernel
theorem dX5_takeFrom_43 : decode cX5_takeFrom 43 = .ok (.getfield 9, 3) := by decide +kernel
theorem dX5_takeFrom_46 : decode cX5_takeFrom 46 = .ok (.iload_n 3, 1) := by decide +kernel
theorem dX5_takeFrom_47 : decode cX5_takeFrom 47 = .ok (.iaload, 1) := by decide +kernel
theorem dX5_takeFrom_48 : decode cX5_takeFrom 48 = .ok (.iadd, 1) := by decide +kernel
theorem dX5_takeFrom_49 : decode cX5_takeFrom 49 = .ok (.if_icmp .ge 85, 3) := by decide +kernel
theorem dX5_takeFrom_52 : decode cX5_takeFrom 52 = .ok (.aload_n 0, 1) := by decide +kernel
theorem dX5_takeFrom_53 : decode cX5_takeFrom 53 = .ok (.getfield 15, 3) := by decide +kernel
theorem dX5_takeFrom_56 : decode cX5_takeFrom 56 = .ok (.iload 4, 2) := by decide +kernel
theorem dX5_takeFrom_58 : decode cX5_takeFrom 58 = .ok (.aload_n 1, 1) := by decide +kernel
theorem dX5_takeFrom_59 : decode cX5_takeFrom 59 = .ok (.getfield 38, 3) := by decide +kernel
theorem dX5_takeFrom_62 : decode cX5_takeFrom 62 = .ok (.iload 4, 2) := by decide +kernel
theorem dX5_takeFrom_64 : decode cX5_takeFrom 64 = .ok (.iaload, 1) := by decide +kernel
theorem dX5_takeFrom_65 : decode cX5_takeFrom 65 = .ok (.iastore, 1) := by decide +kernel
theorem dX5_takeFrom_66 : decode cX5_takeFrom 66 = .ok (.aload_n 0, 1) := by decide +kernel
theorem dX5_takeFrom_67 : decode cX5_takeFrom 67 = .ok (.getfield 18, 3) := by decide +kernel
theorem dX5_takeFrom_70 : decode cX5_takeFrom 70 = .ok (.iload 4, 2) := by decide +kernel
theorem dX5_takeFrom_72 : decode cX5_takeFrom 72 = .ok (.aload_n 2, 1) := by decide +kernel
theorem dX5_takeFrom_73 : decode cX5_takeFrom 73 = .ok (.aload_n 1, 1) := by decide +kernel
theorem dX5_takeFrom_74 : decode cX5_takeFrom 74 = .ok (.aload_n 1, 1) := by decide +kernel
theorem dX5_takeFrom_75 : decode cX5_takeFrom 75 = .ok (.getfield 39, 3) := by decide +kernel
theorem dX5_takeFrom_78 : decode cX5_takeFrom 78 = .ok (.iload 4, 2) := by decide +kernel
theorem dX5_takeFrom_80 : decode cX5_takeFrom 80 = .ok (.laload, 1) := by decide +kernel
theorem dX5_takeFrom_81 : decode cX5_takeFrom 81 = .ok (.invokevirtual 42, 3) := by decide +kernel
theorem dX5_takeFrom_84 : decode cX5_takeFrom 84 = .ok (.invokevirtual 46, 3) := by decide +kernel
theorem dX5_takeFrom_87 : decode cX5_takeFrom 87 = .ok (.iconst 0, 1) := by decide +kernel
theorem dX5_takeFrom_88 : decode cX5_takeFrom 88 = .ok (.invokestatic 52, 3) := by decide +kernel
theorem dX5_takeFrom_91 : decode cX5_takeFrom 91 = .ok (.iastore, 1) := by decide +kernel
theorem dX5_takeFrom_92 : decode cX5_takeFrom 92 = .ok (.aload_n 0, 1) := by decide +kernel
theorem dX5_takeFrom_93 : decode cX5_takeFrom 93 = .ok (.getfield 21, 3) := by decide +kernel
theorem dX5_takeFrom_96 : decode cX5_takeFrom 96 = .ok (.iload 4, 2) := by decide +kernel
theorem dX5_takeFrom_98 : decode cX5_takeFrom 98 = .ok (.aload_n 1, 1) := by decide +kernel
theorem dX5_takeFrom_99 : decode cX5_takeFrom 99 = .ok (.aload_n 1, 1) := by decide +kernel
theorem dX5_takeFrom_100 : decode cX5_takeFrom 100 = .ok (.getfield 58, 3) := by decide +kernel
theorem dX5_takeFrom_103 : decode cX5_takeFrom 103 = .ok (.iload 4, 2) := by decide +kernel
theorem dX5_takeFrom_105 : decode cX5_takeFrom 105 = .ok (.laload, 1) := by decide +kernel
theorem dX5_takeFrom_106 : decode cX5_takeFrom 106 = .ok (.invokevirtual 42, 3) := by decide +kernel
theorem dX5_takeFrom_109 : decode cX5_takeFrom 109 = .ok (.lastore, 1) := by decide +kernel
theorem dX5_takeFrom_110 : decode cX5_takeFrom 110 = .ok (.aload_n 0, 1) := by decide +kernel
theorem dX5_takeFrom_111 : decode cX5_takeFrom 111 = .ok (.getfield 25, 3) := by decide +kernel
theorem dX5_takeFrom_114 : decode cX5_takeFrom 114 = .ok (.iload 4, 2) := by decide +kernel
theorem dX5_takeFrom_116 : decode cX5_takeFrom 116 = .ok (.aload_n 1, 1) := by decide +kernel
theorem dX5_takeFrom_117 : decode cX5_takeFrom 117 = .ok (.aload_n 1, 1) := by decide +kernel
theorem dX5_takeFrom_118 : decode cX5_takeFrom 118 = .ok (.getfield 59, 3) := by decide +kernel
theorem dX5_takeFrom_121 : decode cX5_takeFrom 121 = .ok (.iload 4, 2) := by decide +kernel
theorem dX5_takeFrom_123 : decode cX5_takeFrom 123 = .ok (.laload, 1) := by decide +kernel
theorem dX5_takeFrom_124 : decode cX5_takeFrom 124 = .ok (.invokevirtual 42, 3) := by decide +kernel
theorem dX5_takeFrom_127 : decode cX5_takeFrom 127 = .ok (.lastore, 1) := by decide +kernel
theorem dX5_takeFrom_128 : decode cX5_takeFrom 128 = .ok (.iinc 4 1, 3) := by decide +kernel
theorem dX5_takeFrom_131 : decode cX5_takeFrom 131 = .ok (.goto (-95), 3) := by decide +kernel
theorem dX5_takeFrom_134 : decode cX5_takeFrom 134 = .ok (.iinc 3 1, 3) := by decide +kernel
theorem dX5_takeFrom_137 : decode cX5_takeFrom 137 = .ok (.goto (-127), 3) := by decide +kernel
theorem dX5_takeFrom_140 : decode cX5_takeFrom 140 = .ok (.return_, 1) := by decide +kernel
abbrev mm_X5_takeFrom : ab_M := (RX5, 5, none, false, 2, 49, none)
noncomputable def f_X5_takeFrom_L36 (k134 : Int → Int → Int → Int → ab_H → Option ab_H) : Nat → Int → Int → Int → Int → Int → ab_H → Option ab_H
  | 0, _, _, _, _, _, _ => none
  | n + 1, v0, v1, v2, v3, v4, h =>
    (ab_get h 6 1 v0).bind fun t1 =>
    (ab_ald h 11 t1 v3).bind fun t2 =>
    if ab_w32 ((ab_w32 (v3 * (6 : Int))) + t2) ≤ v4 then
      k134 v0 v1 v2 v3 h
    else
    (ab_get h 6 2 v0).bind fun t3 =>
    (ab_get h 1 3 v1).bind fun t4 =>
    (ab_ald h 11 t4 v4).bind fun t5 =>
    (ab_ast h 11 t3 v4 t5).bind fun h1 =>
    (ab_get h1 6 3 v0).bind fun t6 =>
    (ab_get h1 1 5 v1).bind fun t7 =>
    (ab_ald h1 12 t7 v4).bind fun t8 =>
    (ab_on h1 1 v1 (f_X0_used v1 t8 h1)).bind fun q9 =>
    (ab_on q9.2 8 v2 (f_X7_numberOf v2 q9.1 q9.2)).bind fun q10 =>
    (ab_ast q10.2 11 t6 v4 (ab_mx q10.1 (0 : Int))).bind fun h2 =>
    (ab_get h2 6 4 v0).bind fun t11 =>
    (ab_get h2 1 6 v1).bind fun t12 =>
    (ab_ald h2 12 t12 v4).bind fun t13 =>
    (ab_on h2 1 v1 (f_X0_used v1 t13 h2)).bind fun q14 =>
    (ab_ast q14.2 12 t11 v4 q14.1).bind fun h3 =>
    (ab_get h3 6 5 v0).bind fun t15 =>
    (ab_get h3 1 7 v1).bind fun t16 =>
    (ab_ald h3 12 t16 v4).bind fun t17 =>
    (ab_on h3 1 v1 (f_X0_used v1 t17 h3)).bind fun q18 =>
    (ab_ast q18.2 12 t15 v4 q18.1).bind fun h4 =>
    f_X5_takeFrom_L36 k134 n v0 v1 v2 v3 (ab_w32 (v4 + (1 : Int))) h4
set_option maxRecDepth 20000 in
theorem e_X5_takeFrom_L36 {k134 : Int → Int → Int → Int → ab_H → Option ab_H} (hk134 : ∀ (v0 : Int) (v1 : Int) (v2 : Int) (v3 : Int) (h : ab_H) (q : ab_H), k134 v0 v1 v2 v3 h = some q → ab_E mm_X5_takeFrom cX5_takeFrom 134 [some (ab_R v0), some (ab_R v1), some (ab_R v2), some (ab_I v3), none] [] h none q) : ∀ (n : Nat) (v0 : Int) (v1 : Int) (v2 : Int) (v3 : Int) (v4 : Int) (h : ab_H) (q : ab_H), f_X5_takeFrom_L36 k134 n v0 v1 v2 v3 v4 h = some q → ab_E mm_X5_takeFrom cX5_takeFrom 36 [some (ab_R v0), some (ab_R v1), some (ab_R v2), some (ab_I v3), some (ab_I v4)] [] h none q := by
  intro n
  induction n with
  | zero => intro v0 v1 v2 v3 v4 h q hk; cases hk
  | succ n ih =>
    intro v0 v1 v2 v3 v4 h q hk
    unfold f_X5_takeFrom_L36 at hk
    refine ab_iload (pc := 36) (i := 4) dX5_takeFrom_36 rfl ?_
    refine ab_iload_n (pc := 38) (i := 3) dX5_takeFrom_38 rfl rfl ?_
    refine ab_bipush (pc := 39) dX5_takeFrom_39 ab_p8_6 ab_k_6 ?_
    refine ab_imul (pc := 41) dX5_takeFrom_41 ?_
    refine ab_aload_n (pc := 42) (i := 0) dX5_takeFrom_42 rfl rfl ?_
    obtain ⟨t1, ht1, hk⟩ := ab_bnd hk
    refine ab_getR (pc := 43) dX5_takeFrom_43 fl_RX5_9 ht1 ?_
    refine ab_iload_n (pc := 46) (i := 3) dX5_takeFrom_46 rfl rfl ?_
    obtain ⟨t2, ht2, hk⟩ := ab_bnd hk
    refine ab_iald (pc := 47) dX5_takeFrom_47 ht2 ?_
    refine ab_iadd (pc := 48) dX5_takeFrom_48 ?_
    refine ab_icmp_ge (pc := 49) (tgt := 134) dX5_takeFrom_49 rfl (fun hc => ?_) (fun hc => ?_)
    · have hk := ab_ifp hk hc
      refine ab_sub_ (lv2 := [some (ab_R v0), some (ab_R v1), some (ab_R v2), some (ab_I v3), none]) (ab_ss (ab_ss (ab_ss (ab_ss (ab_sn ab_s0))))) ?_
      exact hk134 _ _ _ _ _ _ hk
    · have hk := ab_ifn hk hc
      refine ab_aload_n (pc := 52) (i := 0) dX5_takeFrom_52 rfl rfl ?_
      obtain ⟨t3, ht3, hk⟩ := ab_bnd hk
      refine ab_getR (pc := 53) dX5_takeFrom_53 fl_RX5_15 ht3 ?_
      refine ab_iload (pc := 56) (i := 4) dX5_takeFrom_56 rfl ?_
      refine ab_aload_n (pc := 58) (i := 1) dX5_takeFrom_58 rfl rfl ?_
      obtain ⟨t4, ht4, hk⟩ := ab_bnd hk
      refine ab_getR (pc := 59) dX5_takeFrom_59 fl_RX5_38 ht4 ?_
      refine ab_iload (pc := 62) (i := 4) dX5_takeFrom_62 rfl ?_
      obtain ⟨t5, ht5, hk⟩ := ab_bnd hk
      refine ab_iald (pc := 64) dX5_takeFrom_64 ht5 ?_
      obtain ⟨h1, hh1, hk⟩ := ab_bnd hk
      refine ab_iast (pc := 65) dX5_takeFrom_65 hh1 ?_
      refine ab_aload_n (pc := 66) (i := 0) dX5_takeFrom_66 rfl rfl ?_
      obtain ⟨t6, ht6, hk⟩ := ab_bnd hk
      refine ab_getR (pc := 67) dX5_takeFrom_67 fl_RX5_18 ht6 ?_
      refine ab_iload (pc := 70) (i := 4) dX5_takeFrom_70 rfl ?_
      refine ab_aload_n (pc := 72) (i := 2) dX5_takeFrom_72 rfl rfl ?_
      refine ab_aload_n (pc := 73) (i := 1) dX5_takeFrom_73 rfl rfl ?_
      refine ab_aload_n (pc := 74) (i := 1) dX5_takeFrom_74 rfl rfl ?_
      obtain ⟨t7, ht7, hk⟩ := ab_bnd hk
      refine ab_getR (pc := 75) dX5_takeFrom_75 fl_RX5_39 ht7 ?_
      refine ab_iload (pc := 78) (i := 4) dX5_takeFrom_78 rfl ?_
      obtain ⟨t8, ht8, hk⟩ := ab_bnd hk
      refine ab_lald (pc := 80) dX5_takeFrom_80 ht8 ?_
      obtain ⟨q9, hq9, hk⟩ := ab_bnd hk
      obtain ⟨hb, hq9⟩ := ab_on_some hq9
      refine ab_callVJ (st := [ab_R v2, ab_I v4, ab_R t6]) (as := [ab_J t8]) (b := v1) (pc := 81) dX5_takeFrom_81 ml_RX5_42 my_X0_used mv_X0_used hb (ct_X0_used hq9) ⟨Nat.le_of_ble_eq_true rfl, Nat.le_of_ble_eq_true rfl⟩ rfl (Nat.le_of_ble_eq_true rfl) rfl ?_
      obtain ⟨q10, hq10, hk⟩ := ab_bnd hk
      obtain ⟨hb, hq10⟩ := ab_on_some hq10
      refine ab_callVI (st := [ab_I v4, ab_R t6]) (as := [ab_J q9.1]) (b := v2) (pc := 84) dX5_takeFrom_84 ml_RX5_46 my_X7_numberOf mv_X7_numberOf hb (ct_X7_numberOf hq10) ⟨Nat.le_of_ble_eq_true rfl, Nat.le_of_ble_eq_true rfl⟩ rfl (Nat.le_of_ble_eq_true rfl) rfl ?_
      refine ab_iconst (pc := 87) dX5_takeFrom_87 ab_k_0 ?_
      refine ab_mmax_ (st := [ab_I v4, ab_R t6]) (pc := 88) dX5_takeFrom_88 mt_RX5_52 (Nat.le_of_ble_eq_true rfl) (Nat.le_of_ble_eq_true rfl) (Nat.le_of_ble_eq_true rfl) ?_
      obtain ⟨h2, hh2, hk⟩ := ab_bnd hk
      refine ab_iast (pc := 91) dX5_takeFrom_91 hh2 ?_
      refine ab_aload_n (pc := 92) (i := 0) dX5_takeFrom_92 rfl rfl ?_
      obtain ⟨t11, ht11, hk⟩ := ab_bnd hk
      refine ab_getR (pc := 93) dX5_takeFrom_93 fl_RX5_21 ht11 ?_
      refine ab_iload (pc := 96) (i := 4) dX5_takeFrom_96 rfl ?_
      refine ab_aload_n (pc := 98) (i := 1) dX5_takeFrom_98 rfl rfl ?_
      refine ab_aload_n (pc := 99) (i := 1) dX5_takeFrom_99 rfl rfl ?_
      obtain ⟨t12, ht12, hk⟩ := ab_bnd hk
      refine ab_getR (pc := 100) dX5_takeFrom_100 fl_RX5_58 ht12 ?_
      refine ab_iload (pc := 103) (i := 4) dX5_takeFrom_103 rfl ?_
      obtain ⟨t13, ht13, hk⟩ := ab_bnd hk
      refine ab_lald (pc := 105) dX5_takeFrom_105 ht13 ?_
      obtain ⟨q14, hq14, hk⟩ := ab_bnd hk
      obtain ⟨hb, hq14⟩ := ab_on_some hq14
      refine ab_callVJ (st := [ab_I v4, ab_R t11]) (as := [ab_J t13]) (b := v1) (pc := 106) dX5_takeFrom_106 ml_RX5_42 my_X0_used mv_X0_used hb (ct_X0_used hq14) ⟨Nat.le_of_ble_eq_true rfl, Nat.le_of_ble_eq_true rfl⟩ rfl (Nat.le_of_ble_eq_true rfl) rfl ?_
      obtain ⟨h3, hh3, hk⟩ := ab_bnd hk
      refine ab_last (pc := 109) dX5_takeFrom_109 hh3 ?_
      refine ab_aload_n (pc := 110) (i := 0) dX5_takeFrom_110 rfl rfl ?_
      obtain ⟨t15, ht15, hk⟩ := ab_bnd hk
      refine ab_getR (pc := 111) dX5_takeFrom_111 fl_RX5_25 ht15 ?_
      refine ab_iload (pc := 114) (i := 4) dX5_takeFrom_114 rfl ?_
      refine ab_aload_n (pc := 116) (i := 1) dX5_takeFrom_116 rfl rfl ?_
      refine ab_aload_n (pc := 117) (i := 1) dX5_takeFrom_117 rfl rfl ?_
      obtain ⟨t16, ht16, hk⟩ := ab_bnd hk
      refine ab_getR (pc := 118) dX5_takeFrom_118 fl_RX5_59 ht16 ?_
      refine ab_iload (pc := 121) (i := 4) dX5_takeFrom_121 rfl ?_
      obtain ⟨t17, ht17, hk⟩ := ab_bnd hk
      refine ab_lald (pc := 123) dX5_takeFrom_123 ht17 ?_
      obtain ⟨q18, hq18, hk⟩ := ab_bnd hk
      obtain ⟨hb, hq18⟩ := ab_on_some hq18
      refine ab_callVJ (st := [ab_I v4, ab_R t15]) (as := [ab_J t17]) (b := v1) (pc := 124) dX5_takeFrom_124 ml_RX5_42 my_X0_used mv_X0_used hb (ct_X0_used hq18) ⟨Nat.le_of_ble_eq_true rfl, Nat.le_of_ble_eq_true rfl⟩ rfl (Nat.le_of_ble_eq_true rfl) rfl ?_
      obtain ⟨h4, hh4, hk⟩ := ab_bnd hk
      refine ab_last (pc := 127) dX5_takeFrom_127 hh4 ?_
      refine ab_iinc (pc := 128) (i := 4) (lv2 := [some (ab_R v0), some (ab_R v1), some (ab_R v2), some (ab_I v3), some (ab_I (ab_w32 (v4 + (1 : Int))))]) dX5_takeFrom_128 rfl (Nat.le_of_ble_eq_true rfl) rfl rfl ?_
      refine ab_goto (pc := 131) (tgt := 36) dX5_takeFrom_131 rfl ?_
      refine ab_sub_ (lv2 := [some (ab_R v0), some (ab_R v1), some (ab_R v2), some (ab_I v3), some (ab_I (ab_w32 (v4 + (1 : Int))))]) (ab_ss (ab_ss (ab_ss (ab_ss (ab_ss ab_s0))))) ?_
      exact ih _ _ _ _ _ _ _ hk
noncomputable def f_X5_takeFrom_L10 : Nat → Int → Int → Int → Int → ab_H → Option ab_H
  | 0, _, _, _, _, _ => none
  | n + 1, v0, v1, v2, v3, h =>
    (ab_get h 6 0 v0).bind fun t1 =>
    if t1 ≤ v3 then
      some h
    else
    (ab_get h 6 1 v0).bind fun t2 =>
    (ab_get h 1 2 v1).bind fun t3 =>
    (ab_ald h 11 t3 v3).bind fun t4 =>
    (ab_ast h 11 t2 v3 t4).bind fun h1 =>
    f_X5_takeFrom_L36 (fun w134_0 w134_1 w134_2 w134_3 hx134 =>
      f_X5_takeFrom_L10 n w134_0 w134_1 w134_2 (ab_w32 (w134_3 + (1 : Int))) hx134) ab_FU v0 v1 v2 v3 (ab_w32 (v3 * (6 : Int))) h1
set_option maxRecDepth 20000 in
theorem e_X5_takeFrom_L10 : ∀ (n : Nat) (v0 : Int) (v1 : Int) (v2 : Int) (v3 : Int) (h : ab_H) (q : ab_H), f_X5_takeFrom_L10 n v0 v1 v2 v3 h = some q → ab_E mm_X5_takeFrom cX5_takeFrom 10 [some (ab_R v0), some (ab_R v1), some (ab_R v2), some (ab_I v3), none] [] h none q := by
  intro n
  induction n with
  | zero => intro v0 v1 v2 v3 h q hk; cases hk
  | succ n ih =>
    intro v0 v1 v2 v3 h q hk
    unfold f_X5_takeFrom_L10 at hk
    refine ab_iload_n (pc := 10) (i := 3) dX5_takeFrom_10 rfl rfl ?_
    refine ab_aload_n (pc := 11) (i := 0) dX5_takeFrom_11 rfl rfl ?_
    obtain ⟨t1, ht1, hk⟩ := ab_bnd hk
    refine ab_getI (pc := 12) dX5_takeFrom_12 fl_RX5_34 ht1 ?_
    refine ab_icmp_ge (pc := 15) (tgt := 140) dX5_takeFrom_15 rfl (fun hc => ?_) (fun hc => ?_)
    · have hk := ab_ifp hk hc
      obtain rfl := Option.some.inj hk
      exact ab_retv (pc := 140) dX5_takeFrom_140 rfl
    · have hk := ab_ifn hk hc
      refine ab_aload_n (pc := 18) (i := 0) dX5_takeFrom_18 rfl rfl ?_
      obtain ⟨t2, ht2, hk⟩ := ab_bnd hk
      refine ab_getR (pc := 19) dX5_takeFrom_19 fl_RX5_9 ht2 ?_
      refine ab_iload_n (pc := 22) (i := 3) dX5_takeFrom_22 rfl rfl ?_
      refine ab_aload_n (pc := 23) (i := 1) dX5_takeFrom_23 rfl rfl ?_
      obtain ⟨t3, ht3, hk⟩ := ab_bnd hk
      refine ab_getR (pc := 24) dX5_takeFrom_24 fl_RX5_37 ht3 ?_
      refine ab_iload_n (pc := 27) (i := 3) dX5_takeFrom_27 rfl rfl ?_
      obtain ⟨t4, ht4, hk⟩ := ab_bnd hk
      refine ab_iald (pc := 28) dX5_takeFrom_28 ht4 ?_
      obtain ⟨h1, hh1, hk⟩ := ab_bnd hk
      refine ab_iast (pc := 29) dX5_takeFrom_29 hh1 ?_
      refine ab_iload_n (pc := 30) (i := 3) dX5_takeFrom_30 rfl rfl ?_
      refine ab_bipush (pc := 31) dX5_takeFrom_31 ab_p8_6 ab_k_6 ?_
      refine ab_imul (pc := 33) dX5_takeFrom_33 ?_
      refine ab_istore (pc := 34) (i := 4) (lv2 := [some (ab_R v0), some (ab_R v1), some (ab_R v2), some (ab_I v3), some (ab_I (ab_w32 (v3 * (6 : Int))))]) dX5_takeFrom_34 (Nat.le_of_ble_eq_true rfl) rfl rfl ?_
      refine ab_sub_ (lv2 := [some (ab_R v0), some (ab_R v1), some (ab_R v2), some (ab_I v3), some (ab_I (ab_w32 (v3 * (6 : Int))))]) (ab_ss (ab_ss (ab_ss (ab_ss (ab_ss ab_s0))))) ?_
      refine e_X5_takeFrom_L36 (fun w134_0 w134_1 w134_2 w134_3 hx134 q hk => ?_) _ _ _ _ _ _ _ _ hk
      · skip
        refine ab_iinc (pc := 134) (i := 3) (lv2 := [some (ab_R w134_0), some (ab_R w134_1), some (ab_R w134_2), some (ab_I (ab_w32 (w134_3 + (1 : Int)))), none]) dX5_takeFrom_134 rfl (Nat.le_of_ble_eq_true rfl) rfl rfl ?_
        refine ab_goto (pc := 137) (tgt := 10) dX5_takeFrom_137 rfl ?_
        refine ab_sub_ (lv2 := [some (ab_R w134_0), some (ab_R w134_1), some (ab_R w134_2), some (ab_I (ab_w32 (w134_3 + (1 : Int)))), none]) (ab_ss (ab_ss (ab_ss (ab_ss (ab_sn ab_s0))))) ?_
        exact ih _ _ _ _ _ _ hk
noncomputable def f_X5_takeFrom (a0 : Int) (a1 : Int) (a2 : Int) (h : ab_H) : Option ab_H :=
  (ab_get h 1 0 a1).bind fun t1 =>
  (ab_put h 6 0 a0 t1).bind fun h1 =>
  f_X5_takeFrom_L10 ab_FU a0 a1 a2 (0 : Int) h1
set_option maxRecDepth 20000 in
theorem ct_X5_takeFrom {a0 a1 a2 : Int} {h : ab_H} {q : ab_H} (hk : f_X5_takeFrom a0 a1 a2 h = some q) : ab_CT yX5_takeFrom cX5_takeFrom 5 none 2 49 [ab_R a0, ab_R a1, ab_R a2] h none q := by
  refine ab_CT.mk_ 2 (own := RX5) (ini := false) (lv := [some (ab_R a0), some (ab_R a1), some (ab_R a2), none, none]) rfl (by decide +kernel) (fun q => by cases q) rfl rfl ?_
  unfold f_X5_takeFrom at hk
  show ab_E mm_X5_takeFrom cX5_takeFrom 0 _ [] h _ _
  refine ab_aload_n (pc := 0) (i := 0) dX5_takeFrom_0 rfl rfl ?_
  refine ab_aload_n (pc := 1) (i := 1) dX5_takeFrom_1 rfl rfl ?_
  obtain ⟨t1, ht1, hk⟩ := ab_bnd hk
  refine ab_getI (pc := 2) dX5_takeFrom_2 fl_RX5_28 ht1 ?_
  obtain ⟨h1, hh1, hk⟩ := ab_bnd hk
  refine ab_putI_ (pc := 5) dX5_takeFrom_5 fl_RX5_34 (fun q => by cases q) hh1 ?_
  refine ab_iconst (pc := 8) dX5_takeFrom_8 ab_k_0 ?_
  refine ab_istore_n (pc := 9) (i := 3) (lv2 := [some (ab_R a0), some (ab_R a1), some (ab_R a2), some (ab_I (0 : Int)), none]) dX5_takeFrom_9 rfl (Nat.le_of_ble_eq_true rfl) rfl rfl ?_
  refine ab_sub_ (lv2 := [some (ab_R a0), some (ab_R a1), some (ab_R a2), some (ab_I (0 : Int)), none]) (ab_ss (ab_ss (ab_ss (ab_ss (ab_sn ab_s0))))) ?_
  refine e_X5_takeFrom_L10 _ _ _ _ _ _ _ hk
theorem dX5_repeatedIn_0 : decode cX5_repeatedIn 0 = .ok (.iconst 0, 1) := by decide +kernel
theorem dX5_repeatedIn_1 : decode cX5_repeatedIn 1 = .ok (.istore_n 2, 1) := by decide +kernel
theorem dX5_repeatedIn_2 : decode cX5_repeatedIn 2 = .ok (.iconst 1, 1) := by decide +kernel
theorem dX5_repeatedIn_3 : decode cX5_repeatedIn 3 = .ok (.istore_n 3, 1) := by decide +kernel
theorem dX5_repeatedIn_4 : decode cX5_repeatedIn 4 = .ok (.iload_n 3, 1) := by decide +kernel
theorem dX5_repeatedIn_5 : decode cX5_repeatedIn 5 = .ok (.aload_n 0, 1) := by decide +kernel
theorem dX5_repeatedIn_6 : decode cX5_repeatedIn 6 = .ok (.getfield 9, 3) := by decide +kernel
theorem dX5_repeatedIn_9 : decode cX5_repeatedIn 9 = .ok (.iload_n 1, 1) := by decide +kernel
theorem dX5_repeatedIn_10 : decode cX5_repeatedIn 10 = .ok (.iaload, 1) := by decide +kernel
theorem dX5_repeatedIn_11 : decode cX5_repeatedIn 11 = .ok (.if_icmp .ge 65, 3) := by decide +kernel
theorem dX5_repeatedIn_14 : decode cX5_repeatedIn 14 = .ok (.iconst 0, 1) := by decide +kernel
theorem dX5_repeatedIn_15 : decode cX5_repeatedIn 15 = .ok (.istore 4, 2) := by decide +kernel
theorem dX5_repeatedIn_17 : decode cX5_repeatedIn 17 = .ok (.iconst 0, 1) := by decide +kernel
theorem dX5_repeatedIn_18 : decode cX5_repeatedIn 18 = .ok (.istore 5, 2) := by decide +kernel
theorem dX5_repeatedIn_20 : decode cX5_repeatedIn 20 = .ok (.iload 5, 2) := by decide +kernel
theorem dX5_repeatedIn_22 : decode cX5_repeatedIn 22 = .ok (.iload_n 3, 1) := by decide +kernel
theorem dX5_repeatedIn_23 : decode cX5_repeatedIn 23 = .ok (.if_icmp .ge 38, 3) := by decide +kernel
theorem dX5_repeatedIn_26 : decode cX5_repeatedIn 26 = .ok (.aload_n 0, 1) := by decide +kernel
theorem dX5_repeatedIn_27 : decode cX5_repeatedIn 27 = .ok (.getfield 18, 3) := by decide +kernel
theorem dX5_repeatedIn_30 : decode cX5_repeatedIn 30 = .ok (.iload_n 1, 1) := by decide +kernel
theorem dX5_repeatedIn_31 : decode cX5_repeatedIn 31 = .ok (.bipush 6, 2) := by decide +kernel
theorem dX5_repeatedIn_33 : decode cX5_repeatedIn 33 = .ok (.imul, 1) := by decide +kernel
theorem dX5_repeatedIn_34 : decode cX5_repeatedIn 34 = .ok (.iload 5, 2) := by decide +kernel
theorem dX5_repeatedIn_36 : decode cX5_repeatedIn 36 = .ok (.iadd, 1) := by decide +kernel
theorem dX5_repeatedIn_37 : decode cX5_repeatedIn 37 = .ok (.iaload, 1) := by decide +kernel
theorem dX5_repeatedIn_38 : decode cX5_repeatedIn 38 = .ok (.aload_n 0, 1) := by decide +kernel
theorem dX5_repeatedIn_39 : decode cX5_repeatedIn 39 = .ok (.getfield 18, 3) := by decide +kernel
theorem dX5_repeatedIn_42 : decode cX5_repeatedIn 42 = .ok (.iload_n 1, 1) := by decide +kernel
theorem dX5_repeatedIn_43 : decode cX5_repeatedIn 43 = .ok (.bipush 6, 2) := by decide +kernel
theorem dX5_repeatedIn_45 : decode cX5_repeatedIn 45 = .ok (.imul, 1) := by decide +kernel
theorem dX5_repeatedIn_46 : decode cX5_repeatedIn 46 = .ok (.iload_n 3, 1) := by decide +kernel
theorem dX5_repeatedIn_47 : decode cX5_repeatedIn 47 = .ok (.iadd, 1) := by decide +kernel
theorem dX5_repeatedIn_48 : decode cX5_repeatedIn 48 = .ok (.iaload, 1) := by decide +kernel
theorem dX5_repeatedIn_49 : decode cX5_repeatedIn 49 = .ok (.if_icmp .ne 6, 3) := by decide +kernel
theorem dX5_repeatedIn_52 : decode cX5_repeatedIn 52 = .ok (.iinc 4 1, 3) := by decide +kernel
theorem dX5_repeatedIn_55 : decode cX5_repeatedIn 55 = .ok (.iinc 5 1, 3) := by decide +kernel
theorem dX5_repeatedIn_58 : decode cX5_repeatedIn 58 = .ok (.goto (-38), 3) := by decide +kernel
theorem dX5_repeatedIn_61 : decode cX5_repeatedIn 61 = .ok (.iload 4, 2) := by decide +kernel
theorem dX5_repeatedIn_63 : decode cX5_repeatedIn 63 = .ok (.iconst 1, 1) := by decide +kernel
theorem dX5_repeatedIn_64 : decode cX5_repeatedIn 64 = .ok (.if_icmp .ne 6, 3) := by decide +kernel
theorem dX5_repeatedIn_67 : decode cX5_repeatedIn 67 = .ok (.iinc 2 1, 3) := by decide +kernel
theorem dX5_repeatedIn_70 : decode cX5_repeatedIn 70 = .ok (.iinc 3 1, 3) := by decide +kernel
theorem dX5_repeatedIn_73 : decode cX5_repeatedIn 73 = .ok (.goto (-69), 3) := by decide +kernel
theorem dX5_repeatedIn_76 : decode cX5_repeatedIn 76 = .ok (.iload_n 2, 1) := by decide +kernel
theorem dX5_repeatedIn_77 : decode cX5_repeatedIn 77 = .ok (.ireturn, 1) := by decide +kernel
abbrev mm_X5_repeatedIn : ab_M := (RX5, 6, (some .int), false, 0, 0, none)
noncomputable def f_X5_repeatedIn_J70 (rec : Int → Int → Int → Int → ab_H → Option (Int × ab_H)) (v0 : Int) (v1 : Int) (v2 : Int) (v3 : Int) (h : ab_H) : Option (Int × ab_H) :=
  rec v0 v1 v2 (ab_w32 (v3 + (1 : Int))) h
set_option maxRecDepth 20000 in
theorem e_X5_repeatedIn_J70 {rec : Int → Int → Int → Int → ab_H → Option (Int × ab_H)} (hrec : ∀ (v0 : Int) (v1 : Int) (v2 : Int) (v3 : Int) (h : ab_H) (q : Int × ab_H), rec v0 v1 v2 v3 h = some q → ab_E mm_X5_repeatedIn cX5_repeatedIn 4 [some (ab_R v0), some (ab_I v1), some (ab_I v2), some (ab_I v3), none, none] [] h (some (ab_I q.1)) q.2) : ∀ (v0 : Int) (v1 : Int) (v2 : Int) (v3 : Int) (h : ab_H) (q : Int × ab_H), f_X5_repeatedIn_J70 rec v0 v1 v2 v3 h = some q → ab_E mm_X5_repeatedIn cX5_repeatedIn 70 [some (ab_R v0), some (ab_I v1), some (ab_I v2), some (ab_I v3), none, none] [] h (some (ab_I q.1)) q.2 := by
  intro v0 v1 v2 v3 h q hk
  unfold f_X5_repeatedIn_J70 at hk
  refine ab_iinc (pc := 70) (i := 3) (lv2 := [some (ab_R v0), some (ab_I v1), some (ab_I v2), some (ab_I (ab_w32 (v3 + (1 : Int)))), none, none]) dX5_repeatedIn_70 rfl (Nat.le_of_ble_eq_true rfl) rfl rfl ?_
  refine ab_goto (pc := 73) (tgt := 4) dX5_repeatedIn_73 rfl ?_
  refine ab_sub_ (lv2 := [some (ab_R v0), some (ab_I v1), some (ab_I v2), some (ab_I (ab_w32 (v3 + (1 : Int)))), none, none]) (ab_ss (ab_ss (ab_ss (ab_ss (ab_sn (ab_sn ab_s0)))))) ?_
  exact hrec _ _ _ _ _ _ hk
noncomputable def f_X5_repeatedIn_J55 (rec : Int → Int → Int → Int → Int → Int → ab_H → Option (Int × ab_H)) (k61 : Int → Int → Int → Int → Int → ab_H → Option (Int × ab_H)) (v0 : Int) (v1 : Int) (v2 : Int) (v3 : Int) (v4 : Int) (v5 : Int) (h : ab_H) : Option (Int × ab_H) :=
  rec v0 v1 v2 v3 v4 (ab_w32 (v5 + (1 : Int))) h
set_option maxRecDepth 20000 in
theorem e_X5_repeatedIn_J55 {rec : Int → Int → Int → Int → Int → Int → ab_H → Option (Int × ab_H)} {k61 : Int → Int → Int → Int → Int → ab_H → Option (Int × ab_H)} (hrec : ∀ (v0 : Int) (v1 : Int) (v2 : Int) (v3 : Int) (v4 : Int) (v5 : Int) (h : ab_H) (q : Int × ab_H), rec v0 v1 v2 v3 v4 v5 h = some q → ab_E mm_X5_repeatedIn cX5_repeatedIn 20 [some (ab_R v0), some (ab_I v1), some (ab_I v2), some (ab_I v3), some (ab_I v4), some (ab_I v5)] [] h (some (ab_I q.1)) q.2) (hk61 : ∀ (v0 : Int) (v1 : Int) (v2 : Int) (v3 : Int) (v4 : Int) (h : ab_H) (q : Int × ab_H), k61 v0 v1 v2 v3 v4 h = some q → ab_E mm_X5_repeatedIn cX5_repeatedIn 61 [some (ab_R v0), some (ab_I v1), some (ab_I v2), some (ab_I v3), some (ab_I v4), none] [] h (some (ab_I q.1)) q.2) : ∀ (v0 : Int) (v1 : Int) (v2 : Int) (v3 : Int) (v4 : Int) (v5 : Int) (h : ab_H) (q : Int × ab_H), f_X5_repeatedIn_J55 rec k61 v0 v1 v2 v3 v4 v5 h = some q → ab_E mm_X5_repeatedIn cX5_repeatedIn 55 [some (ab_R v0), some (ab_I v1), some (ab_I v2), some (ab_I v3), some (ab_I v4), some (ab_I v5)] [] h (some (ab_I q.1)) q.2 := by
  intro v0 v1 v2 v3 v4 v5 h q hk
  unfold f_X5_repeatedIn_J55 at hk
  refine ab_iinc (pc := 55) (i := 5) (lv2 := [some (ab_R v0), some (ab_I v1), some (ab_I v2), some (ab_I v3), some (ab_I v4), some (ab_I (ab_w32 (v5 + (1 : Int))))]) dX5_repeatedIn_55 rfl (Nat.le_of_ble_eq_true rfl) rfl rfl ?_
  refine ab_goto (pc := 58) (tgt := 20) dX5_repeatedIn_58 rfl ?_
  refine ab_sub_ (lv2 := [some (ab_R v0), some (ab_I v1), some (ab_I v2), some (ab_I v3), some (ab_I v4), some (ab_I (ab_w32 (v5 + (1 : Int))))]) (ab_ss (ab_ss (ab_ss (ab_ss (ab_ss (ab_ss ab_s0)))))) ?_
  exact hrec _ _ _ _ _ _ _ _ hk
noncomputable def f_X5_repeatedIn_L20 (k61 : Int → Int → Int → Int → Int → ab_H → Option (Int × ab_H)) : Nat → Int → Int → Int → Int → Int → Int → ab_H → Option (Int × ab_H)
  | 0, _, _, _, _, _, _, _ => none
  | n + 1, v0, v1, v2, v3, v4, v5, h =>
    if v3 ≤ v5 then
      k61 v0 v1 v2 v3 v4 h
    else
    (ab_get h 6 3 v0).bind fun t1 =>
    (ab_ald h 11 t1 (ab_w32 ((ab_w32 (v1 * (6 : Int))) + v5))).bind fun t2 =>
    (ab_get h 6 3 v0).bind fun t3 =>
    (ab_ald h 11 t3 (ab_w32 ((ab_w32 (v1 * (6 : Int))) + v3))).bind fun t4 =>
    if t2 = t4 then
      f_X5_repeatedIn_J55 (f_X5_repeatedIn_L20 k61 n) k61 v0 v1 v2 v3 (ab_w32 (v4 + (1 : Int))) v5 h
    else
    f_X5_repeatedIn_J55 (f_X5_repeatedIn_L20 k61 n) k61 v0 v1 v2 v3 v4 v5 h
set_option maxRecDepth 20000 in
theorem e_X5_repeatedIn_L20 {k61 : Int → Int → Int → Int → Int → ab_H → Option (Int × ab_H)} (hk61 : ∀ (v0 : Int) (v1 : Int) (v2 : Int) (v3 : Int) (v4 : Int) (h : ab_H) (q : Int × ab_H), k61 v0 v1 v2 v3 v4 h = some q → ab_E mm_X5_repeatedIn cX5_repeatedIn 61 [some (ab_R v0), some (ab_I v1), some (ab_I v2), some (ab_I v3), some (ab_I v4), none] [] h (some (ab_I q.1)) q.2) : ∀ (n : Nat) (v0 : Int) (v1 : Int) (v2 : Int) (v3 : Int) (v4 : Int) (v5 : Int) (h : ab_H) (q : Int × ab_H), f_X5_repeatedIn_L20 k61 n v0 v1 v2 v3 v4 v5 h = some q → ab_E mm_X5_repeatedIn cX5_repeatedIn 20 [some (ab_R v0), some (ab_I v1), some (ab_I v2), some (ab_I v3), some (ab_I v4), some (ab_I v5)] [] h (some (ab_I q.1)) q.2 := by
  intro n
  induction n with
  | zero => intro v0 v1 v2 v3 v4 v5 h q hk; cases hk
  | succ n ih =>
    intro v0 v1 v2 v3 v4 v5 h q hk
    unfold f_X5_repeatedIn_L20 at hk
    refine ab_iload (pc := 20) (i := 5) dX5_repeatedIn_20 rfl ?_
    refine ab_iload_n (pc := 22) (i := 3) dX5_repeatedIn_22 rfl rfl ?_
    refine ab_icmp_ge (pc := 23) (tgt := 61) dX5_repeatedIn_23 rfl (fun hc => ?_) (fun hc => ?_)
    · have hk := ab_ifp hk hc
      refine ab_sub_ (lv2 := [some (ab_R v0), some (ab_I v1), some (ab_I v2), some (ab_I v3), some (ab_I v4), none]) (ab_ss (ab_ss (ab_ss (ab_ss (ab_ss (ab_sn ab_s0)))))) ?_
      exact hk61 _ _ _ _ _ _ _ hk
    · have hk := ab_ifn hk hc
      refine ab_aload_n (pc := 26) (i := 0) dX5_repeatedIn_26 rfl rfl ?_
      obtain ⟨t1, ht1, hk⟩ := ab_bnd hk
      refine ab_getR (pc := 27) dX5_repeatedIn_27 fl_RX5_18 ht1 ?_
      refine ab_iload_n (pc := 30) (i := 1) dX5_repeatedIn_30 rfl rfl ?_
      refine ab_bipush (pc := 31) dX5_repeatedIn_31 ab_p8_6 ab_k_6 ?_
      refine ab_imul (pc := 33) dX5_repeatedIn_33 ?_
      refine ab_iload (pc := 34) (i := 5) dX5_repeatedIn_34 rfl ?_
      refine ab_iadd (pc := 36) dX5_repeatedIn_36 ?_
      obtain ⟨t2, ht2, hk⟩ := ab_bnd hk
      refine ab_iald (pc := 37) dX5_repeatedIn_37 ht2 ?_
      refine ab_aload_n (pc := 38) (i := 0) dX5_repeatedIn_38 rfl rfl ?_
      obtain ⟨t3, ht3, hk⟩ := ab_bnd hk
      refine ab_getR (pc := 39) dX5_repeatedIn_39 fl_RX5_18 ht3 ?_
      refine ab_iload_n (pc := 42) (i := 1) dX5_repeatedIn_42 rfl rfl ?_
      refine ab_bipush (pc := 43) dX5_repeatedIn_43 ab_p8_6 ab_k_6 ?_
      refine ab_imul (pc := 45) dX5_repeatedIn_45 ?_
      refine ab_iload_n (pc := 46) (i := 3) dX5_repeatedIn_46 rfl rfl ?_
      refine ab_iadd (pc := 47) dX5_repeatedIn_47 ?_
      obtain ⟨t4, ht4, hk⟩ := ab_bnd hk
      refine ab_iald (pc := 48) dX5_repeatedIn_48 ht4 ?_
      refine ab_icmp_ne (pc := 49) (tgt := 55) dX5_repeatedIn_49 rfl (fun hc => ?_) (fun hc => ?_)
      · have hk := ab_ifn hk hc
        refine ab_sub_ (lv2 := [some (ab_R v0), some (ab_I v1), some (ab_I v2), some (ab_I v3), some (ab_I v4), some (ab_I v5)]) (ab_ss (ab_ss (ab_ss (ab_ss (ab_ss (ab_ss ab_s0)))))) ?_
        exact e_X5_repeatedIn_J55 ih hk61 _ _ _ _ _ _ _ _ hk
      · have hk := ab_ifp hk hc
        refine ab_iinc (pc := 52) (i := 4) (lv2 := [some (ab_R v0), some (ab_I v1), some (ab_I v2), some (ab_I v3), some (ab_I (ab_w32 (v4 + (1 : Int)))), some (ab_I v5)]) dX5_repeatedIn_52 rfl (Nat.le_of_ble_eq_true rfl) rfl rfl ?_
        refine ab_sub_ (lv2 := [some (ab_R v0), some (ab_I v1), some (ab_I v2), some (ab_I v3), some (ab_I (ab_w32 (v4 + (1 : Int)))), some (ab_I v5)]) (ab_ss (ab_ss (ab_ss (ab_ss (ab_ss (ab_ss ab_s0)))))) ?_
        exact e_X5_repeatedIn_J55 ih hk61 _ _ _ _ _ _ _ _ hk
noncomputable def f_X5_repeatedIn_L4 : Nat → Int → Int → Int → Int → ab_H → Option (Int × ab_H)
  | 0, _, _, _, _, _ => none
  | n + 1, v0, v1, v2, v3, h =>
    (ab_get h 6 1 v0).bind fun t1 =>
    (ab_ald h 11 t1 v1).bind fun t2 =>
    if t2 ≤ v3 then
      some (v2, h)
    else
    f_X5_repeatedIn_L20 (fun w61_0 w61_1 w61_2 w61_3 w61_4 hx61 =>
      if w61_4 = (1 : Int) then
        f_X5_repeatedIn_J70 (f_X5_repeatedIn_L4 n) w61_0 w61_1 (ab_w32 (w61_2 + (1 : Int))) w61_3 hx61
      else
      f_X5_repeatedIn_J70 (f_X5_repeatedIn_L4 n) w61_0 w61_1 w61_2 w61_3 hx61) ab_FU v0 v1 v2 v3 (0 : Int) (0 : Int) h
set_option maxRecDepth 20000 in
theorem e_X5_repeatedIn_L4 : ∀ (n : Nat) (v0 : Int) (v1 : Int) (v2 : Int) (v3 : Int) (h : ab_H) (q : Int × ab_H), f_X5_repeatedIn_L4 n v0 v1 v2 v3 h = some q → ab_E mm_X5_repeatedIn cX5_repeatedIn 4 [some (ab_R v0), some (ab_I v1), some (ab_I v2), some (ab_I v3), none, none] [] h (some (ab_I q.1)) q.2 := by
  intro n
  induction n with
  | zero => intro v0 v1 v2 v3 h q hk; cases hk
  | succ n ih =>
    intro v0 v1 v2 v3 h q hk
    unfold f_X5_repeatedIn_L4 at hk
    refine ab_iload_n (pc := 4) (i := 3) dX5_repeatedIn_4 rfl rfl ?_
    refine ab_aload_n (pc := 5) (i := 0) dX5_repeatedIn_5 rfl rfl ?_
    obtain ⟨t1, ht1, hk⟩ := ab_bnd hk
    refine ab_getR (pc := 6) dX5_repeatedIn_6 fl_RX5_9 ht1 ?_
    refine ab_iload_n (pc := 9) (i := 1) dX5_repeatedIn_9 rfl rfl ?_
    obtain ⟨t2, ht2, hk⟩ := ab_bnd hk
    refine ab_iald (pc := 10) dX5_repeatedIn_10 ht2 ?_
    refine ab_icmp_ge (pc := 11) (tgt := 76) dX5_repeatedIn_11 rfl (fun hc => ?_) (fun hc => ?_)
    · have hk := ab_ifp hk hc
      refine ab_iload_n (pc := 76) (i := 2) dX5_repeatedIn_76 rfl rfl ?_
      obtain rfl := Option.some.inj hk
      exact ab_reti (pc := 77) dX5_repeatedIn_77 (Or.inl rfl)
    · have hk := ab_ifn hk hc
      refine ab_iconst (pc := 14) dX5_repeatedIn_14 ab_k_0 ?_
      refine ab_istore (pc := 15) (i := 4) (lv2 := [some (ab_R v0), some (ab_I v1), some (ab_I v2), some (ab_I v3), some (ab_I (0 : Int)), none]) dX5_repeatedIn_15 (Nat.le_of_ble_eq_true rfl) rfl rfl ?_
      refine ab_iconst (pc := 17) dX5_repeatedIn_17 ab_k_0 ?_
      refine ab_istore (pc := 18) (i := 5) (lv2 := [some (ab_R v0), some (ab_I v1), some (ab_I v2), some (ab_I v3), some (ab_I (0 : Int)), some (ab_I (0 : Int))]) dX5_repeatedIn_18 (Nat.le_of_ble_eq_true rfl) rfl rfl ?_
      refine ab_sub_ (lv2 := [some (ab_R v0), some (ab_I v1), some (ab_I v2), some (ab_I v3), some (ab_I (0 : Int)), some (ab_I (0 : Int))]) (ab_ss (ab_ss (ab_ss (ab_ss (ab_ss (ab_ss ab_s0)))))) ?_
      refine e_X5_repeatedIn_L20 (fun w61_0 w61_1 w61_2 w61_3 w61_4 hx61 q hk => ?_) _ _ _ _ _ _ _ _ _ hk
      · skip
        refine ab_iload (pc := 61) (i := 4) dX5_repeatedIn_61 rfl ?_
        refine ab_iconst (pc := 63) dX5_repeatedIn_63 ab_k_1 ?_
        refine ab_icmp_ne (pc := 64) (tgt := 70) dX5_repeatedIn_64 rfl (fun hc => ?_) (fun hc => ?_)
        · have hk := ab_ifn hk hc
          refine ab_sub_ (lv2 := [some (ab_R w61_0), some (ab_I w61_1), some (ab_I w61_2), some (ab_I w61_3), none, none]) (ab_ss (ab_ss (ab_ss (ab_ss (ab_sn (ab_sn ab_s0)))))) ?_
          exact e_X5_repeatedIn_J70 ih _ _ _ _ _ _ hk
        · have hk := ab_ifp hk hc
          refine ab_iinc (pc := 67) (i := 2) (lv2 := [some (ab_R w61_0), some (ab_I w61_1), some (ab_I (ab_w32 (w61_2 + (1 : Int)))), some (ab_I w61_3), some (ab_I w61_4), none]) dX5_repeatedIn_67 rfl (Nat.le_of_ble_eq_true rfl) rfl rfl ?_
          refine ab_sub_ (lv2 := [some (ab_R w61_0), some (ab_I w61_1), some (ab_I (ab_w32 (w61_2 + (1 : Int)))), some (ab_I w61_3), none, none]) (ab_ss (ab_ss (ab_ss (ab_ss (ab_sn (ab_sn ab_s0)))))) ?_
          exact e_X5_repeatedIn_J70 ih _ _ _ _ _ _ hk
noncomputable def f_X5_repeatedIn (a0 : Int) (a1 : Int) (h : ab_H) : Option (Int × ab_H) :=
  f_X5_repeatedIn_L4 ab_FU a0 a1 (0 : Int) (1 : Int) h
set_option maxRecDepth 20000 in
theorem ct_X5_repeatedIn {a0 a1 : Int} {h : ab_H} {q : Int × ab_H} (hk : f_X5_repeatedIn a0 a1 h = some q) : ab_CT yX5_repeatedIn cX5_repeatedIn 6 (some .int) 0 0 [ab_R a0, ab_I a1] h (some (ab_I q.1)) q.2 := by
  refine ab_CT.mk_ 4 (own := RX5) (ini := false) (lv := [some (ab_R a0), some (ab_I a1), none, none, none, none]) rfl (by decide +kernel) (fun q => by cases q) rfl rfl ?_
  unfold f_X5_repeatedIn at hk
  show ab_E mm_X5_repeatedIn cX5_repeatedIn 0 _ [] h _ _
  refine ab_iconst (pc := 0) dX5_repeatedIn_0 ab_k_0 ?_
  refine ab_istore_n (pc := 1) (i := 2) (lv2 := [some (ab_R a0), some (ab_I a1), some (ab_I (0 : Int)), none, none, none]) dX5_repeatedIn_1 rfl (Nat.le_of_ble_eq_true rfl) rfl rfl ?_
  refine ab_iconst (pc := 2) dX5_repeatedIn_2 ab_k_1 ?_
  refine ab_istore_n (pc := 3) (i := 3) (lv2 := [some (ab_R a0), some (ab_I a1), some (ab_I (0 : Int)), some (ab_I (1 : Int)), none, none]) dX5_repeatedIn_3 rfl (Nat.le_of_ble_eq_true rfl) rfl rfl ?_
  refine ab_sub_ (lv2 := [some (ab_R a0), some (ab_I a1), some (ab_I (0 : Int)), some (ab_I (1 : Int)), none, none]) (ab_ss (ab_ss (ab_ss (ab_ss (ab_sn (ab_sn ab_s0)))))) ?_
  refine e_X5_repeatedIn_L4 _ _ _ _ _ _ _ hk
theorem dX5_hasTwo_0 : decode cX5_hasTwo 0 = .ok (.iload_n 1, 1) := by decide +kernel
theorem dX5_hasTwo_1 : decode cX5_hasTwo 1 = .ok (.bipush 6, 2) := by decide +kernel
theorem dX5_hasTwo_3 : decode cX5_hasTwo 3 = .ok (.imul, 1) := by decide +kernel
theorem dX5_hasTwo_4 : decode cX5_hasTwo 4 = .ok (.istore 5, 2) := by decide +kernel
theorem dX5_hasTwo_6 : decode cX5_hasTwo 6 = .ok (.iload 5, 2) := by decide +kernel
theorem dX5_hasTwo_8 : decode cX5_hasTwo 8 = .ok (.iload_n 1, 1) := by decide +kernel
theorem dX5_hasTwo_9 : decode cX5_hasTwo 9 = .ok (.bipush 6, 2) := by decide +kernel
theorem dX5_hasTwo_11 : decode cX5_hasTwo 11 = .ok (.imul, 1) := by decide +kernel
theorem dX5_hasTwo_12 : decode cX5_hasTwo 12 = .ok (.iload_n 2, 1) := by decide +kernel
theorem dX5_hasTwo_13 : decode cX5_hasTwo 13 = .ok (.iadd, 1) := by decide +kernel
theorem dX5_hasTwo_14 : decode cX5_hasTwo 14 = .ok (.if_icmp .ge 34, 3) := by decide +kernel
theorem dX5_hasTwo_17 : decode cX5_hasTwo 17 = .ok (.aload_n 0, 1) := by decide +kernel
theorem dX5_hasTwo_18 : decode cX5_hasTwo 18 = .ok (.getfield 15, 3) := by decide +kernel
theorem dX5_hasTwo_21 : decode cX5_hasTwo 21 = .ok (.iload 5, 2) := by decide +kernel
theorem dX5_hasTwo_23 : decode cX5_hasTwo 23 = .ok (.iaload, 1) := by decide +kernel
theorem dX5_hasTwo_24 : decode cX5_hasTwo 24 = .ok (.iload_n 3, 1) := by decide +kernel
theorem dX5_hasTwo_25 : decode cX5_hasTwo 25 = .ok (.if_icmp .ne 17, 3) := by decide +kernel
theorem dX5_hasTwo_28 : decode cX5_hasTwo 28 = .ok (.aload_n 0, 1) := by decide +kernel
theorem dX5_hasTwo_29 : decode cX5_hasTwo 29 = .ok (.getfield 18, 3) := by decide +kernel
theorem dX5_hasTwo_32 : decode cX5_hasTwo 32 = .ok (.iload 5, 2) := by decide +kernel
theorem dX5_hasTwo_34 : decode cX5_hasTwo 34 = .ok (.iaload, 1) := by decide +kernel
theorem dX5_hasTwo_35 : decode cX5_hasTwo 35 = .ok (.iload 4, 2) := by decide +kernel
theorem dX5_hasTwo_37 : decode cX5_hasTwo 37 = .ok (.if_icmp .ne 5, 3) := by decide +kernel
theorem dX5_hasTwo_40 : decode cX5_hasTwo 40 = .ok (.iconst 1, 1) := by decide +kernel
theorem dX5_hasTwo_41 : decode cX5_hasTwo 41 = .ok (.ireturn, 1) := by decide +kernel
theorem dX5_hasTwo_42 : decode cX5_hasTwo 42 = .ok (.iinc 5 1, 3) := by decide +kernel
theorem dX5_hasTwo_45 : decode cX5_hasTwo 45 = .ok (.goto (-39), 3) := by decide +kernel
theorem dX5_hasTwo_48 : decode cX5_hasTwo 48 = .ok (.iconst 0, 1) := by decide +kernel
theorem dX5_hasTwo_49 : decode cX5_hasTwo 49 = .ok (.ireturn, 1) := by decide +kernel
abbrev mm_X5_hasTwo : ab_M := (RX5, 6, (some .boolean), false, 0, 0, none)
noncomputable def f_X5_hasTwo_J42 (rec : Int → Int → Int → Int → Int → Int → ab_H → Option (Int × ab_H)) (v0 : Int) (v1 : Int) (v2 : Int) (v3 : Int) (v4 : Int) (v5 : Int) (h : ab_H) : Option (Int × ab_H) :=
  rec v0 v1 v2 v3 v4 (ab_w32 (v5 + (1 : Int))) h
set_option maxRecDepth 20000 in
theorem e_X5_hasTwo_J42 {rec : Int → Int → Int → Int → Int → Int → ab_H → Option (Int × ab_H)} (hrec : ∀ (v0 : Int) (v1 : Int) (v2 : Int) (v3 : Int) (v4 : Int) (v5 : Int) (h : ab_H) (q : Int × ab_H), rec v0 v1 v2 v3 v4 v5 h = some q → ab_E mm_X5_hasTwo cX5_hasTwo 6 [some (ab_R v0), some (ab_I v1), some (ab_I v2), some (ab_I v3), some (ab_I v4), some (ab_I v5)] [] h (some (ab_I q.1)) q.2) : ∀ (v0 : Int) (v1 : Int) (v2 : Int) (v3 : Int) (v4 : Int) (v5 : Int) (h : ab_H) (q : Int × ab_H), f_X5_hasTwo_J42 rec v0 v1 v2 v3 v4 v5 h = some q → ab_E mm_X5_hasTwo cX5_hasTwo 42 [some (ab_R v0), some (ab_I v1), some (ab_I v2), some (ab_I v3), some (ab_I v4), some (ab_I v5)] [] h (some (ab_I q.1)) q.2 := by
  intro v0 v1 v2 v3 v4 v5 h q hk
  unfold f_X5_hasTwo_J42 at hk
  refine ab_iinc (pc := 42) (i := 5) (lv2 := [some (ab_R v0), some (ab_I v1), some (ab_I v2), some (ab_I v3), some (ab_I v4), some (ab_I (ab_w32 (v5 + (1 : Int))))]) dX5_hasTwo_42 rfl (Nat.le_of_ble_eq_true rfl) rfl rfl ?_
  refine ab_goto (pc := 45) (tgt := 6) dX5_hasTwo_45 rfl ?_
  refine ab_sub_ (lv2 := [some (ab_R v0), some (ab_I v1), some (ab_I v2), some (ab_I v3), some (ab_I v4), some (ab_I (ab_w32 (v5 + (1 : Int))))]) (ab_ss (ab_ss (ab_ss (ab_ss (ab_ss (ab_ss ab_s0)))))) ?_
  exact hrec _ _ _ _ _ _ _ _ hk
noncomputable def f_X5_hasTwo_L6 : Nat → Int → Int → Int → Int → Int → Int → ab_H → Option (Int × ab_H)
  | 0, _, _, _, _, _, _, _ => none
  | n + 1, v0, v1, v2, v3, v4, v5, h =>
    if ab_w32 ((ab_w32 (v1 * (6 : Int))) + v2) ≤ v5 then
      some ((0 : Int), h)
    else
    (ab_get h 6 2 v0).bind fun t1 =>
    (ab_ald h 11 t1 v5).bind fun t2 =>
    if t2 = v3 then
      (ab_get h 6 3 v0).bind fun t3 =>
      (ab_ald h 11 t3 v5).bind fun t4 =>
      if t4 = v4 then
        some ((1 : Int), h)
      else
      f_X5_hasTwo_J42 (f_X5_hasTwo_L6 n) v0 v1 v2 v3 v4 v5 h
    else
    f_X5_hasTwo_J42 (f_X5_hasTwo_L6 n) v0 v1 v2 v3 v4 v5 h
set_option maxRecDepth 20000 in
theorem e_X5_hasTwo_L6 : ∀ (n : Nat) (v0 : Int) (v1 : Int) (v2 : Int) (v3 : Int) (v4 : Int) (v5 : Int) (h : ab_H) (q : Int × ab_H), f_X5_hasTwo_L6 n v0 v1 v2 v3 v4 v5 h = some q → ab_E mm_X5_hasTwo cX5_hasTwo 6 [some (ab_R v0), some (ab_I v1), some (ab_I v2), some (ab_I v3), some (ab_I v4), some (ab_I v5)] [] h (some (ab_I q.1)) q.2 := by
  intro n
  induction n with
  | zero => intro v0 v1 v2 v3 v4 v5 h q hk; cases hk
  | succ n ih =>
    intro v0 v1 v2 v3 v4 v5 h q hk
    unfold f_X5_hasTwo_L6 at hk
    refine ab_iload (pc := 6) (i := 5) dX5_hasTwo_6 rfl ?_
    refine ab_iload_n (pc := 8) (i := 1) dX5_hasTwo_8 rfl rfl ?_
    refine ab_bipush (pc := 9) dX5_hasTwo_9 ab_p8_6 ab_k_6 ?_
    refine ab_imul (pc := 11) dX5_hasTwo_11 ?_
    refine ab_iload_n (pc := 12) (i := 2) dX5_hasTwo_12 rfl rfl ?_
    refine ab_iadd (pc := 13) dX5_hasTwo_13 ?_
    refine ab_icmp_ge (pc := 14) (tgt := 48) dX5_hasTwo_14 rfl (fun hc => ?_) (fun hc => ?_)
    · have hk := ab_ifp hk hc
      refine ab_iconst (pc := 48) dX5_hasTwo_48 ab_k_0 ?_
      obtain rfl := Option.some.inj hk
      exact ab_retz (pc := 49) dX5_hasTwo_49 rfl rfl
    · have hk := ab_ifn hk hc
      refine ab_aload_n (pc := 17) (i := 0) dX5_hasTwo_17 rfl rfl ?_
      obtain ⟨t1, ht1, hk⟩ := ab_bnd hk
      refine ab_getR (pc := 18) dX5_hasTwo_18 fl_RX5_15 ht1 ?_
      refine ab_iload (pc := 21) (i := 5) dX5_hasTwo_21 rfl ?_
      obtain ⟨t2, ht2, hk⟩ := ab_bnd hk
      refine ab_iald (pc := 23) dX5_hasTwo_23 ht2 ?_
      refine ab_iload_n (pc := 24) (i := 3) dX5_hasTwo_24 rfl rfl ?_
      refine ab_icmp_ne (pc := 25) (tgt := 42) dX5_hasTwo_25 rfl (fun hc => ?_) (fun hc => ?_)
      · have hk := ab_ifn hk hc
        refine ab_sub_ (lv2 := [some (ab_R v0), some (ab_I v1), some (ab_I v2), some (ab_I v3), some (ab_I v4), some (ab_I v5)]) (ab_ss (ab_ss (ab_ss (ab_ss (ab_ss (ab_ss ab_s0)))))) ?_
        exact e_X5_hasTwo_J42 ih _ _ _ _ _ _ _ _ hk
      · have hk := ab_ifp hk hc
        refine ab_aload_n (pc := 28) (i := 0) dX5_hasTwo_28 rfl rfl ?_
        obtain ⟨t3, ht3, hk⟩ := ab_bnd hk
        refine ab_getR (pc := 29) dX5_hasTwo_29 fl_RX5_18 ht3 ?_
        refine ab_iload (pc := 32) (i := 5) dX5_hasTwo_32 rfl ?_
        obtain ⟨t4, ht4, hk⟩ := ab_bnd hk
        refine ab_iald (pc := 34) dX5_hasTwo_34 ht4 ?_
        refine ab_iload (pc := 35) (i := 4) dX5_hasTwo_35 rfl ?_
        refine ab_icmp_ne (pc := 37) (tgt := 42) dX5_hasTwo_37 rfl (fun hc => ?_) (fun hc => ?_)
        · have hk := ab_ifn hk hc
          refine ab_sub_ (lv2 := [some (ab_R v0), some (ab_I v1), some (ab_I v2), some (ab_I v3), some (ab_I v4), some (ab_I v5)]) (ab_ss (ab_ss (ab_ss (ab_ss (ab_ss (ab_ss ab_s0)))))) ?_
          exact e_X5_hasTwo_J42 ih _ _ _ _ _ _ _ _ hk
        · have hk := ab_ifp hk hc
          refine ab_iconst (pc := 40) dX5_hasTwo_40 ab_k_1 ?_
          obtain rfl := Option.some.inj hk
          exact ab_retz (pc := 41) dX5_hasTwo_41 rfl rfl
noncomputable def f_X5_hasTwo (a0 : Int) (a1 : Int) (a2 : Int) (a3 : Int) (a4 : Int) (h : ab_H) : Option (Int × ab_H) :=
  f_X5_hasTwo_L6 ab_FU a0 a1 a2 a3 a4 (ab_w32 (a1 * (6 : Int))) h
set_option maxRecDepth 20000 in
theorem ct_X5_hasTwo {a0 a1 a2 a3 a4 : Int} {h : ab_H} {q : Int × ab_H} (hk : f_X5_hasTwo a0 a1 a2 a3 a4 h = some q) : ab_CT yX5_hasTwo cX5_hasTwo 6 (some .boolean) 0 0 [ab_R a0, ab_I a1, ab_I a2, ab_I a3, ab_I a4] h (some (ab_I q.1)) q.2 := by
  refine ab_CT.mk_ 1 (own := RX5) (ini := false) (lv := [some (ab_R a0), some (ab_I a1), some (ab_I a2), some (ab_I a3), some (ab_I a4), none]) rfl (by decide +kernel) (fun q => by cases q) rfl rfl ?_
  unfold f_X5_hasTwo at hk
  show ab_E mm_X5_hasTwo cX5_hasTwo 0 _ [] h _ _
  refine ab_iload_n (pc := 0) (i := 1) dX5_hasTwo_0 rfl rfl ?_
  refine ab_bipush (pc := 1) dX5_hasTwo_1 ab_p8_6 ab_k_6 ?_
  refine ab_imul (pc := 3) dX5_hasTwo_3 ?_
  refine ab_istore (pc := 4) (i := 5) (lv2 := [some (ab_R a0), some (ab_I a1), some (ab_I a2), some (ab_I a3), some (ab_I a4), some (ab_I (ab_w32 (a1 * (6 : Int))))]) dX5_hasTwo_4 (Nat.le_of_ble_eq_true rfl) rfl rfl ?_
  refine ab_sub_ (lv2 := [some (ab_R a0), some (ab_I a1), some (ab_I a2), some (ab_I a3), some (ab_I a4), some (ab_I (ab_w32 (a1 * (6 : Int))))]) (ab_ss (ab_ss (ab_ss (ab_ss (ab_ss (ab_ss ab_s0)))))) ?_
  refine e_X5_hasTwo_L6 _ _ _ _ _ _ _ _ _ hk
theorem dX5_stringsWith_0 : decode cX5_stringsWith 0 = .ok (.iconst 0, 1) := by decide +kernel
theorem dX5_stringsWith_1 : decode cX5_stringsWith 1 = .ok (.istore_n 3, 1) := by decide +kernel
theorem dX5_stringsWith_2 : decode cX5_stringsWith 2 = .ok (.iconst 0, 1) := by decide +kernel
theorem dX5_stringsWith_3 : decode cX5_stringsWith 3 = .ok (.istore 4, 2) := by decide +kernel
theorem dX5_stringsWith_5 : decode cX5_stringsWith 5 = .ok (.iload 4, 2) := by decide +kernel
theorem dX5_stringsWith_7 : decode cX5_stringsWith 7 = .ok (.aload_n 0, 1) := by decide +kernel
theorem dX5_stringsWith_8 : decode cX5_stringsWith 8 = .ok (.getfield 34, 3) := by decide +kernel
theorem dX5_stringsWith_11 : decode cX5_stringsWith 11 = .ok (.if_icmp .ge 34, 3) := by decide +kernel
theorem dX5_stringsWith_14 : decode cX5_stringsWith 14 = .ok (.aload_n 0, 1) := by decide +kernel
theorem dX5_stringsWith_15 : decode cX5_stringsWith 15 = .ok (.iload 4, 2) := by decide +kernel
theorem dX5_stringsWith_17 : decode cX5_stringsWith 17 = .ok (.aload_n 0, 1) := by decide +kernel
theorem dX5_stringsWith_18 : decode cX5_stringsWith 18 = .ok (.getfield 9, 3) := by decide +kernel
theorem dX5_stringsWith_21 : decode cX5_stringsWith 21 = .ok (.iload 4, 2) := by decide +kernel
theorem dX5_stringsWith_23 : decode cX5_stringsWith 23 = .ok (.iaload, 1) := by decide +kernel
theorem dX5_stringsWith_24 : decode cX5_stringsWith 24 = .ok (.iload_n 1, 1) := by decide +kernel
theorem dX5_stringsWith_25 : decode cX5_stringsWith 25 = .ok (.iload_n 2, 1) := by decide +kernel
theorem dX5_stringsWith_26 : decode cX5_stringsWith 26 = .ok (.invokevirtual 60, 3) := by decide +kernel
theorem dX5_stringsWith_29 : decode cX5_stringsWith 29 = .ok (.ifCond .eq 10, 3) := by decide +kernel
theorem dX5_stringsWith_32 : decode cX5_stringsWith 32 = .ok (.iload_n 3, 1) := by decide +kernel
theorem dX5_stringsWith_33 : decode cX5_stringsWith 33 = .ok (.iconst 1, 1) := by decide +kernel
theorem dX5_stringsWith_34 : decode cX5_stringsWith 34 = .ok (.iload 4, 2) := by decide +kernel
theorem dX5_stringsWith_36 : decode cX5_stringsWith 36 = .ok (.ishl, 1) := by decide +kernel
theorem dX5_stringsWith_37 : decode cX5_stringsWith 37 = .ok (.ior, 1) := by decide +kernel
theorem dX5_stringsWith_38 : decode cX5_stringsWith 38 = .ok (.istore_n 3, 1) := by decide +kernel
theorem dX5_stringsWith_39 : decode cX5_stringsWith 39 = .ok (.iinc 4 1, 3) := by decide +kernel
theorem dX5_stringsWith_42 : decode cX5_stringsWith 42 = .ok (.goto (-37), 3) := by decide +kernel
theorem dX5_stringsWith_45 : decode cX5_stringsWith 45 = .ok (.iload_n 3, 1) := by decide +kernel
theorem dX5_stringsWith_46 : decode cX5_stringsWith 46 = .ok (.ireturn, 1) := by decide +kernel
abbrev mm_X5_stringsWith : ab_M := (RX5, 5, (some .int), false, 1, 25, none)
noncomputable def f_X5_stringsWith_J39 (rec : Int → Int → Int → Int → Int → ab_H → Option (Int × ab_H)) (v0 : Int) (v1 : Int) (v2 : Int) (v3 : Int) (v4 : Int) (h : ab_H) : Option (Int × ab_H) :=
  rec v0 v1 v2 v3 (ab_w32 (v4 + (1 : Int))) h
set_option maxRecDepth 20000 in
theorem e_X5_stringsWith_J39 {rec : Int → Int → Int → Int → Int → ab_H → Option (Int × ab_H)} (hrec : ∀ (v0 : Int) (v1 : Int) (v2 : Int) (v3 : Int) (v4 : Int) (h : ab_H) (q : Int × ab_H), rec v0 v1 v2 v3 v4 h = some q → ab_E mm_X5_stringsWith cX5_stringsWith 5 [some (ab_R v0), some (ab_I v1), some (ab_I v2), some (ab_I v3), some (ab_I v4)] [] h (some (ab_I q.1)) q.2) : ∀ (v0 : Int) (v1 : Int) (v2 : Int) (v3 : Int) (v4 : Int) (h : ab_H) (q : Int × ab_H), f_X5_stringsWith_J39 rec v0 v1 v2 v3 v4 h = some q → ab_E mm_X5_stringsWith cX5_stringsWith 39 [some (ab_R v0), some (ab_I v1), some (ab_I v2), some (ab_I v3), some (ab_I v4)] [] h (some (ab_I q.1)) q.2 := by
  intro v0 v1 v2 v3 v4 h q hk
  unfold f_X5_stringsWith_J39 at hk
  refine ab_iinc (pc := 39) (i := 4) (lv2 := [some (ab_R v0), some (ab_I v1), some (ab_I v2), some (ab_I v3), some (ab_I (ab_w32 (v4 + (1 : Int))))]) dX5_stringsWith_39 rfl (Nat.le_of_ble_eq_true rfl) rfl rfl ?_
  refine ab_goto (pc := 42) (tgt := 5) dX5_stringsWith_42 rfl ?_
  refine ab_sub_ (lv2 := [some (ab_R v0), some (ab_I v1), some (ab_I v2), some (ab_I v3), some (ab_I (ab_w32 (v4 + (1 : Int))))]) (ab_ss (ab_ss (ab_ss (ab_ss (ab_ss ab_s0))))) ?_
  exact hrec _ _ _ _ _ _ _ hk
noncomputable def f_X5_stringsWith_L5 : Nat → Int → Int → Int → Int → Int → ab_H → Option (Int × ab_H)
  | 0, _, _, _, _, _, _ => none
  | n + 1, v0, v1, v2, v3, v4, h =>
    (ab_get h 6 0 v0).bind fun t1 =>
    if t1 ≤ v4 then
      some (v3, h)
    else
    (ab_get h 6 1 v0).bind fun t2 =>
    (ab_ald h 11 t2 v4).bind fun t3 =>
    (ab_on h 6 v0 (f_X5_hasTwo v0 v4 t3 v1 v2 h)).bind fun q4 =>
    if q4.1 = (0 : Int) then
      f_X5_stringsWith_J39 (f_X5_stringsWith_L5 n) v0 v1 v2 v3 v4 q4.2
    else
    f_X5_stringsWith_J39 (f_X5_stringsWith_L5 n) v0 v1 v2 (ab_or v3 (ab_shl (1 : Int) v4)) v4 q4.2
set_option maxRecDepth 20000 in
theorem e_X5_stringsWith_L5 : ∀ (n : Nat) (v0 : Int) (v1 : Int) (v2 : Int) (v3 : Int) (v4 : Int) (h : ab_H) (q : Int × ab_H), f_X5_stringsWith_L5 n v0 v1 v2 v3 v4 h = some q → ab_E mm_X5_stringsWith cX5_stringsWith 5 [some (ab_R v0), some (ab_I v1), some (ab_I v2), some (ab_I v3), some (ab_I v4)] [] h (some (ab_I q.1)) q.2 := by
  intro n
  induction n with
  | zero => intro v0 v1 v2 v3 v4 h q hk; cases hk
  | succ n ih =>
    intro v0 v1 v2 v3 v4 h q hk
    unfold f_X5_stringsWith_L5 at hk
    refine ab_iload (pc := 5) (i := 4) dX5_stringsWith_5 rfl ?_
    refine ab_aload_n (pc := 7) (i := 0) dX5_stringsWith_7 rfl rfl ?_
    obtain ⟨t1, ht1, hk⟩ := ab_bnd hk
    refine ab_getI (pc := 8) dX5_stringsWith_8 fl_RX5_34 ht1 ?_
    refine ab_icmp_ge (pc := 11) (tgt := 45) dX5_stringsWith_11 rfl (fun hc => ?_) (fun hc => ?_)
    · have hk := ab_ifp hk hc
      refine ab_iload_n (pc := 45) (i := 3) dX5_stringsWith_45 rfl rfl ?_
      obtain rfl := Option.some.inj hk
      exact ab_reti (pc := 46) dX5_stringsWith_46 (Or.inl rfl)
    · have hk := ab_ifn hk hc
      refine ab_aload_n (pc := 14) (i := 0) dX5_stringsWith_14 rfl rfl ?_
      refine ab_iload (pc := 15) (i := 4) dX5_stringsWith_15 rfl ?_
      refine ab_aload_n (pc := 17) (i := 0) dX5_stringsWith_17 rfl rfl ?_
      obtain ⟨t2, ht2, hk⟩ := ab_bnd hk
      refine ab_getR (pc := 18) dX5_stringsWith_18 fl_RX5_9 ht2 ?_
      refine ab_iload (pc := 21) (i := 4) dX5_stringsWith_21 rfl ?_
      obtain ⟨t3, ht3, hk⟩ := ab_bnd hk
      refine ab_iald (pc := 23) dX5_stringsWith_23 ht3 ?_
      refine ab_iload_n (pc := 24) (i := 1) dX5_stringsWith_24 rfl rfl ?_
      refine ab_iload_n (pc := 25) (i := 2) dX5_stringsWith_25 rfl rfl ?_
      obtain ⟨q4, hq4, hk⟩ := ab_bnd hk
      obtain ⟨hb, hq4⟩ := ab_on_some hq4
      refine ab_callVI (st := []) (as := [ab_I v4, ab_I t3, ab_I v1, ab_I v2]) (b := v0) (pc := 26) dX5_stringsWith_26 ml_RX5_60 my_X5_hasTwo mv_X5_hasTwo hb (ct_X5_hasTwo hq4) ⟨Nat.le_of_ble_eq_true rfl, Nat.le_of_ble_eq_true rfl⟩ rfl (Nat.le_of_ble_eq_true rfl) rfl ?_
      refine ab_if_eq (pc := 29) (tgt := 39) dX5_stringsWith_29 rfl (fun hc => ?_) (fun hc => ?_)
      · have hk := ab_ifp hk hc
        refine ab_sub_ (lv2 := [some (ab_R v0), some (ab_I v1), some (ab_I v2), some (ab_I v3), some (ab_I v4)]) (ab_ss (ab_ss (ab_ss (ab_ss (ab_ss ab_s0))))) ?_
        exact e_X5_stringsWith_J39 ih _ _ _ _ _ _ _ hk
      · have hk := ab_ifn hk hc
        refine ab_iload_n (pc := 32) (i := 3) dX5_stringsWith_32 rfl rfl ?_
        refine ab_iconst (pc := 33) dX5_stringsWith_33 ab_k_1 ?_
        refine ab_iload (pc := 34) (i := 4) dX5_stringsWith_34 rfl ?_
        refine ab_ishl (pc := 36) dX5_stringsWith_36 ?_
        refine ab_ior (pc := 37) dX5_stringsWith_37 ?_
        refine ab_istore_n (pc := 38) (i := 3) (lv2 := [some (ab_R v0), some (ab_I v1), some (ab_I v2), some (ab_I (ab_or v3 (ab_shl (1 : Int) v4))), some (ab_I v4)]) dX5_stringsWith_38 rfl (Nat.le_of_ble_eq_true rfl) rfl rfl ?_
        refine ab_sub_ (lv2 := [some (ab_R v0), some (ab_I v1), some (ab_I v2), some (ab_I (ab_or v3 (ab_shl (1 : Int) v4))), some (ab_I v4)]) (ab_ss (ab_ss (ab_ss (ab_ss (ab_ss ab_s0))))) ?_
        exact e_X5_stringsWith_J39 ih _ _ _ _ _ _ _ hk
noncomputable def f_X5_stringsWith (a0 : Int) (a1 : Int) (a2 : Int) (h : ab_H) : Option (Int × ab_H) :=
  f_X5_stringsWith_L5 ab_FU a0 a1 a2 (0 : Int) (0 : Int) h
set_option maxRecDepth 20000 in
theorem ct_X5_stringsWith {a0 a1 a2 : Int} {h : ab_H} {q : Int × ab_H} (hk : f_X5_stringsWith a0 a1 a2 h = some q) : ab_CT yX5_stringsWith cX5_stringsWith 5 (some .int) 1 25 [ab_R a0, ab_I a1, ab_I a2] h (some (ab_I q.1)) q.2 := by
  refine ab_CT.mk_ 2 (own := RX5) (ini := false) (lv := [some (ab_R a0), some (ab_I a1), some (ab_I a2), none, none]) rfl (by decide +kernel) (fun q => by cases q) rfl rfl ?_
  unfold f_X5_stringsWith at hk
  show ab_E mm_X5_stringsWith cX5_stringsWith 0 _ [] h _ _
  refine ab_iconst (pc := 0) dX5_stringsWith_0 ab_k_0 ?_
  refine ab_istore_n (pc := 1) (i := 3) (lv2 := [some (ab_R a0), some (ab_I a1), some (ab_I a2), some (ab_I (0 : Int)), none]) dX5_stringsWith_1 rfl (Nat.le_of_ble_eq_true rfl) rfl rfl ?_
  refine ab_iconst (pc := 2) dX5_stringsWith_2 ab_k_0 ?_
  refine ab_istore (pc := 3) (i := 4) (lv2 := [some (ab_R a0), some (ab_I a1), some (ab_I a2), some (ab_I (0 : Int)), some (ab_I (0 : Int))]) dX5_stringsWith_3 (Nat.le_of_ble_eq_true rfl) rfl rfl ?_
  refine ab_sub_ (lv2 := [some (ab_R a0), some (ab_I a1), some (ab_I a2), some (ab_I (0 : Int)), some (ab_I (0 : Int))]) (ab_ss (ab_ss (ab_ss (ab_ss (ab_ss ab_s0))))) ?_
  refine e_X5_stringsWith_L5 _ _ _ _ _ _ _ _ hk
theorem dX5_isAgain_0 : decode cX5_isAgain 0 = .ok (.aload_n 0, 1) := by decide +kernel
theorem dX5_isAgain_1 : decode cX5_isAgain 1 = .ok (.iload_n 1, 1) := by decide +kernel
theorem dX5_isAgain_2 : decode cX5_isAgain 2 = .ok (.iload_n 2, 1) := by decide +kernel
theorem dX5_isAgain_3 : decode cX5_isAgain 3 = .ok (.aload_n 0, 1) := by decide +kernel
theorem dX5_isAgain_4 : decode cX5_isAgain 4 = .ok (.getfield 15, 3) := by decide +kernel
theorem dX5_isAgain_7 : decode cX5_isAgain 7 = .ok (.iload_n 1, 1) := by decide +kernel
theorem dX5_isAgain_8 : decode cX5_isAgain 8 = .ok (.bipush 6, 2) := by decide +kernel
theorem dX5_isAgain_10 : decode cX5_isAgain 10 = .ok (.imul, 1) := by decide +kernel
theorem dX5_isAgain_11 : decode cX5_isAgain 11 = .ok (.iload_n 2, 1) := by decide +kernel
theorem dX5_isAgain_12 : decode cX5_isAgain 12 = .ok (.iadd, 1) := by decide +kernel
theorem dX5_isAgain_13 : decode cX5_isAgain 13 = .ok (.iaload, 1) := by decide +kernel
theorem dX5_isAgain_14 : decode cX5_isAgain 14 = .ok (.aload_n 0, 1) := by decide +kernel
theorem dX5_isAgain_15 : decode cX5_isAgain 15 = .ok (.getfield 18, 3) := by decide +kernel
theorem dX5_isAgain_18 : decode cX5_isAgain 18 = .ok (.iload_n 1, 1) := by decide +kernel
theorem dX5_isAgain_19 : decode cX5_isAgain 19 = .ok (.bipush 6, 2) := by decide +kernel
theorem dX5_isAgain_21 : decode cX5_isAgain 21 = .ok (.imul, 1) := by decide +kernel
theorem dX5_isAgain_22 : decode cX5_isAgain 22 = .ok (.iload_n 2, 1) := by decide +kernel
theorem dX5_isAgain_23 : decode cX5_isAgain 23 = .ok (.iadd, 1) := by decide +kernel
theorem dX5_isAgain_24 : decode cX5_isAgain 24 = .ok (.iaload, 1) := by decide +kernel
theorem dX5_isAgain_25 : decode cX5_isAgain 25 = .ok (.invokevirtual 60, 3) := by decide +kernel
theorem dX5_isAgain_28 : decode cX5_isAgain 28 = .ok (.ireturn, 1) := by decide +kernel
abbrev mm_X5_isAgain : ab_M := (RX5, 3, (some .boolean), false, 1, 25, none)
noncomputable def f_X5_isAgain (a0 : Int) (a1 : Int) (a2 : Int) (h : ab_H) : Option (Int × ab_H) :=
  (ab_get h 6 2 a0).bind fun t1 =>
  (ab_ald h 11 t1 (ab_w32 ((ab_w32 (a1 * (6 : Int))) + a2))).bind fun t2 =>
  (ab_get h 6 3 a0).bind fun t3 =>
  (ab_ald h 11 t3 (ab_w32 ((ab_w32 (a1 * (6 : Int))) + a2))).bind fun t4 =>
  (ab_on h 6 a0 (f_X5_hasTwo a0 a1 a2 t2 t4 h)).bind fun q5 =>
  ab_if (decide (q5.1 = 0 ∨ q5.1 = 1)) <|
  some (q5.1, q5.2)
set_option maxRecDepth 20000 in
theorem ct_X5_isAgain {a0 a1 a2 : Int} {h : ab_H} {q : Int × ab_H} (hk : f_X5_isAgain a0 a1 a2 h = some q) : ab_CT yX5_isAgain cX5_isAgain 3 (some .boolean) 1 25 [ab_R a0, ab_I a1, ab_I a2] h (some (ab_I q.1)) q.2 := by
  refine ab_CT.mk_ 0 (own := RX5) (ini := false) (lv := [some (ab_R a0), some (ab_I a1), some (ab_I a2)]) rfl (by decide +kernel) (fun q => by cases q) rfl rfl ?_
  unfold f_X5_isAgain at hk
  show ab_E mm_X5_isAgain cX5_isAgain 0 _ [] h _ _
  refine ab_aload_n (pc := 0) (i := 0) dX5_isAgain_0 rfl rfl ?_
  refine ab_iload_n (pc := 1) (i := 1) dX5_isAgain_1 rfl rfl ?_
  refine ab_iload_n (pc := 2) (i := 2) dX5_isAgain_2 rfl rfl ?_
  refine ab_aload_n (pc := 3) (i := 0) dX5_isAgain_3 rfl rfl ?_
  obtain ⟨t1, ht1, hk⟩ := ab_bnd hk
  refine ab_getR (pc := 4) dX5_isAgain_4 fl_RX5_15 ht1 ?_
  refine ab_iload_n (pc := 7) (i := 1) dX5_isAgain_7 rfl rfl ?_
  refine ab_bipush (pc := 8) dX5_isAgain_8 ab_p8_6 ab_k_6 ?_
  refine ab_imul (pc := 10) dX5_isAgain_10 ?_
  refine ab_iload_n (pc := 11) (i := 2) dX5_isAgain_11 rfl rfl ?_
  refine ab_iadd (pc := 12) dX5_isAgain_12 ?_
  obtain ⟨t2, ht2, hk⟩ := ab_bnd hk
  refine ab_iald (pc := 13) dX5_isAgain_13 ht2 ?_
  refine ab_aload_n (pc := 14) (i := 0) dX5_isAgain_14 rfl rfl ?_
  obtain ⟨t3, ht3, hk⟩ := ab_bnd hk
  refine ab_getR (pc := 15) dX5_isAgain_15 fl_RX5_18 ht3 ?_
  refine ab_iload_n (pc := 18) (i := 1) dX5_isAgain_18 rfl rfl ?_
  refine ab_bipush (pc := 19) dX5_isAgain_19 ab_p8_6 ab_k_6 ?_
  refine ab_imul (pc := 21) dX5_isAgain_21 ?_
  refine ab_iload_n (pc := 22) (i := 2) dX5_isAgain_22 rfl rfl ?_
  refine ab_iadd (pc := 23) dX5_isAgain_23 ?_
  obtain ⟨t4, ht4, hk⟩ := ab_bnd hk
  refine ab_iald (pc := 24) dX5_isAgain_24 ht4 ?_
  obtain ⟨q5, hq5, hk⟩ := ab_bnd hk
  obtain ⟨hb, hq5⟩ := ab_on_some hq5
  refine ab_callVI (st := []) (as := [ab_I a1, ab_I a2, ab_I t2, ab_I t4]) (b := a0) (pc := 25) dX5_isAgain_25 ml_RX5_60 my_X5_hasTwo mv_X5_hasTwo hb (ct_X5_hasTwo hq5) ⟨Nat.le_of_ble_eq_true rfl, Nat.le_of_ble_eq_true rfl⟩ rfl (Nat.le_of_ble_eq_true rfl) rfl ?_
  obtain ⟨hg, hk⟩ := ab_if_some hk
  obtain rfl := Option.some.inj hk
  exact ab_retz (pc := 28) dX5_isAgain_28 rfl hg
theorem dX5_senseSize_0 : decode cX5_senseSize 0 = .ok (.iconst 0, 1) := by decide +kernel
theorem dX5_senseSize_1 : decode cX5_senseSize 1 = .ok (.istore_n 2, 1) := by decide +kernel
theorem dX5_senseSize_2 : decode cX5_senseSize 2 = .ok (.iconst 0, 1) := by decide +kernel
theorem dX5_senseSize_3 : decode cX5_senseSize 3 = .ok (.istore_n 3, 1) := by decide +kernel
theorem dX5_senseSize_4 : decode cX5_senseSize 4 = .ok (.iload_n 3, 1) := by decide +kernel
theorem dX5_senseSize_5 : decode cX5_senseSize 5 = .ok (.aload_n 0, 1) := by decide +kernel
theorem dX5_senseSize_6 : decode cX5_senseSize 6 = .ok (.getfield 9, 3) := by decide +kernel
theorem dX5_senseSize_9 : decode cX5_senseSize 9 = .ok (.iload_n 1, 1) := by decide +kernel
theorem dX5_senseSize_10 : decode cX5_senseSize 10 = .ok (.iaload, 1) := by decide +kernel
theorem dX5_senseSize_11 : decode cX5_senseSize 11 = .ok (.if_icmp .ge 21, 3) := by decide +kernel
theorem dX5_senseSize_14 : decode cX5_senseSize 14 = .ok (.aload_n 0, 1) := by decide +kernel
theorem dX5_senseSize_15 : decode cX5_senseSize 15 = .ok (.iload_n 1, 1) := by decide +kernel
theorem dX5_senseSize_16 : decode cX5_senseSize 16 = .ok (.iload_n 3, 1) := by decide +kernel
theorem dX5_senseSize_17 : decode cX5_senseSize 17 = .ok (.invokevirtual 64, 3) := by decide +kernel
theorem dX5_senseSize_20 : decode cX5_senseSize 20 = .ok (.ifCond .ne 6, 3) := by decide +kernel
theorem dX5_senseSize_23 : decode cX5_senseSize 23 = .ok (.iinc 2 1, 3) := by decide +kernel
theorem dX5_senseSize_26 : decode cX5_senseSize 26 = .ok (.iinc 3 1, 3) := by decide +kernel
theorem dX5_senseSize_29 : decode cX5_senseSize 29 = .ok (.goto (-25), 3) := by decide +kernel
theorem dX5_senseSize_32 : decode cX5_senseSize 32 = .ok (.iload_n 2, 1) := by decide +kernel
theorem dX5_senseSize_33 : decode cX5_senseSize 33 = .ok (.ireturn, 1) := by decide +kernel
abbrev mm_X5_senseSize : ab_M := (RX5, 4, (some .int), false, 2, 47, none)
noncomputable def f_X5_senseSize_J26 (rec : Int → Int → Int → Int → ab_H → Option (Int × ab_H)) (v0 : Int) (v1 : Int) (v2 : Int) (v3 : Int) (h : ab_H) : Option (Int × ab_H) :=
  rec v0 v1 v2 (ab_w32 (v3 + (1 : Int))) h
set_option maxRecDepth 20000 in
theorem e_X5_senseSize_J26 {rec : Int → Int → Int → Int → ab_H → Option (Int × ab_H)} (hrec : ∀ (v0 : Int) (v1 : Int) (v2 : Int) (v3 : Int) (h : ab_H) (q : Int × ab_H), rec v0 v1 v2 v3 h = some q → ab_E mm_X5_senseSize cX5_senseSize 4 [some (ab_R v0), some (ab_I v1), some (ab_I v2), some (ab_I v3)] [] h (some (ab_I q.1)) q.2) : ∀ (v0 : Int) (v1 : Int) (v2 : Int) (v3 : Int) (h : ab_H) (q : Int × ab_H), f_X5_senseSize_J26 rec v0 v1 v2 v3 h = some q → ab_E mm_X5_senseSize cX5_senseSize 26 [some (ab_R v0), some (ab_I v1), some (ab_I v2), some (ab_I v3)] [] h (some (ab_I q.1)) q.2 := by
  intro v0 v1 v2 v3 h q hk
  unfold f_X5_senseSize_J26 at hk
  refine ab_iinc (pc := 26) (i := 3) (lv2 := [some (ab_R v0), some (ab_I v1), some (ab_I v2), some (ab_I (ab_w32 (v3 + (1 : Int))))]) dX5_senseSize_26 rfl (Nat.le_of_ble_eq_true rfl) rfl rfl ?_
  refine ab_goto (pc := 29) (tgt := 4) dX5_senseSize_29 rfl ?_
  refine ab_sub_ (lv2 := [some (ab_R v0), some (ab_I v1), some (ab_I v2), some (ab_I (ab_w32 (v3 + (1 : Int))))]) (ab_ss (ab_ss (ab_ss (ab_ss ab_s0)))) ?_
  exact hrec _ _ _ _ _ _ hk
noncomputable def f_X5_senseSize_L4 : Nat → Int → Int → Int → Int → ab_H → Option (Int × ab_H)
  | 0, _, _, _, _, _ => none
  | n + 1, v0, v1, v2, v3, h =>
    (ab_get h 6 1 v0).bind fun t1 =>
    (ab_ald h 11 t1 v1).bind fun t2 =>
    if t2 ≤ v3 then
      some (v2, h)
    else
    (ab_on h 6 v0 (f_X5_isAgain v0 v1 v3 h)).bind fun q3 =>
    if q3.1 = (0 : Int) then
      f_X5_senseSize_J26 (f_X5_senseSize_L4 n) v0 v1 (ab_w32 (v2 + (1 : Int))) v3 q3.2
    else
    f_X5_senseSize_J26 (f_X5_senseSize_L4 n) v0 v1 v2 v3 q3.2
set_option maxRecDepth 20000 in
theorem e_X5_senseSize_L4 : ∀ (n : Nat) (v0 : Int) (v1 : Int) (v2 : Int) (v3 : Int) (h : ab_H) (q : Int × ab_H), f_X5_senseSize_L4 n v0 v1 v2 v3 h = some q → ab_E mm_X5_senseSize cX5_senseSize 4 [some (ab_R v0), some (ab_I v1), some (ab_I v2), some (ab_I v3)] [] h (some (ab_I q.1)) q.2 := by
  intro n
  induction n with
  | zero => intro v0 v1 v2 v3 h q hk; cases hk
  | succ n ih =>
    intro v0 v1 v2 v3 h q hk
    unfold f_X5_senseSize_L4 at hk
    refine ab_iload_n (pc := 4) (i := 3) dX5_senseSize_4 rfl rfl ?_
    refine ab_aload_n (pc := 5) (i := 0) dX5_senseSize_5 rfl rfl ?_
    obtain ⟨t1, ht1, hk⟩ := ab_bnd hk
    refine ab_getR (pc := 6) dX5_senseSize_6 fl_RX5_9 ht1 ?_
    refine ab_iload_n (pc := 9) (i := 1) dX5_senseSize_9 rfl rfl ?_
    obtain ⟨t2, ht2, hk⟩ := ab_bnd hk
    refine ab_iald (pc := 10) dX5_senseSize_10 ht2 ?_
    refine ab_icmp_ge (pc := 11) (tgt := 32) dX5_senseSize_11 rfl (fun hc => ?_) (fun hc => ?_)
    · have hk := ab_ifp hk hc
      refine ab_iload_n (pc := 32) (i := 2) dX5_senseSize_32 rfl rfl ?_
      obtain rfl := Option.some.inj hk
      exact ab_reti (pc := 33) dX5_senseSize_33 (Or.inl rfl)
    · have hk := ab_ifn hk hc
      refine ab_aload_n (pc := 14) (i := 0) dX5_senseSize_14 rfl rfl ?_
      refine ab_iload_n (pc := 15) (i := 1) dX5_senseSize_15 rfl rfl ?_
      refine ab_iload_n (pc := 16) (i := 3) dX5_senseSize_16 rfl rfl ?_
      obtain ⟨q3, hq3, hk⟩ := ab_bnd hk
      obtain ⟨hb, hq3⟩ := ab_on_some hq3
      refine ab_callVI (st := []) (as := [ab_I v1, ab_I v3]) (b := v0) (pc := 17) dX5_senseSize_17 ml_RX5_64 my_X5_isAgain mv_X5_isAgain hb (ct_X5_isAgain hq3) ⟨Nat.le_of_ble_eq_true rfl, Nat.le_of_ble_eq_true rfl⟩ rfl (Nat.le_of_ble_eq_true rfl) rfl ?_
      refine ab_if_ne (pc := 20) (tgt := 26) dX5_senseSize_20 rfl (fun hc => ?_) (fun hc => ?_)
      · have hk := ab_ifn hk hc
        refine ab_sub_ (lv2 := [some (ab_R v0), some (ab_I v1), some (ab_I v2), some (ab_I v3)]) (ab_ss (ab_ss (ab_ss (ab_ss ab_s0)))) ?_
        exact e_X5_senseSize_J26 ih _ _ _ _ _ _ hk
      · have hk := ab_ifp hk hc
        refine ab_iinc (pc := 23) (i := 2) (lv2 := [some (ab_R v0), some (ab_I v1), some (ab_I (ab_w32 (v2 + (1 : Int)))), some (ab_I v3)]) dX5_senseSize_23 rfl (Nat.le_of_ble_eq_true rfl) rfl rfl ?_
        refine ab_sub_ (lv2 := [some (ab_R v0), some (ab_I v1), some (ab_I (ab_w32 (v2 + (1 : Int)))), some (ab_I v3)]) (ab_ss (ab_ss (ab_ss (ab_ss ab_s0)))) ?_
        exact e_X5_senseSize_J26 ih _ _ _ _ _ _ hk
noncomputable def f_X5_senseSize (a0 : Int) (a1 : Int) (h : ab_H) : Option (Int × ab_H) :=
  f_X5_senseSize_L4 ab_FU a0 a1 (0 : Int) (0 : Int) h
set_option maxRecDepth 20000 in
theorem ct_X5_senseSize {a0 a1 : Int} {h : ab_H} {q : Int × ab_H} (hk : f_X5_senseSize a0 a1 h = some q) : ab_CT yX5_senseSize cX5_senseSize 4 (some .int) 2 47 [ab_R a0, ab_I a1] h (some (ab_I q.1)) q.2 := by
  refine ab_CT.mk_ 2 (own := RX5) (ini := false) (lv := [some (ab_R a0), some (ab_I a1), none, none]) rfl (by decide +kernel) (fun q => by cases q) rfl rfl ?_
  unfold f_X5_senseSize at hk
  show ab_E mm_X5_senseSize cX5_senseSize 0 _ [] h _ _
  refine ab_iconst (pc := 0) dX5_senseSize_0 ab_k_0 ?_
  refine ab_istore_n (pc := 1) (i := 2) (lv2 := [some (ab_R a0), some (ab_I a1), some (ab_I (0 : Int)), none]) dX5_senseSize_1 rfl (Nat.le_of_ble_eq_true rfl) rfl rfl ?_
  refine ab_iconst (pc := 2) dX5_senseSize_2 ab_k_0 ?_
  refine ab_istore_n (pc := 3) (i := 3) (lv2 := [some (ab_R a0), some (ab_I a1), some (ab_I (0 : Int)), some (ab_I (0 : Int))]) dX5_senseSize_3 rfl (Nat.le_of_ble_eq_true rfl) rfl rfl ?_
  refine ab_sub_ (lv2 := [some (ab_R a0), some (ab_I a1), some (ab_I (0 : Int)), some (ab_I (0 : Int))]) (ab_ss (ab_ss (ab_ss (ab_ss ab_s0)))) ?_
  refine e_X5_senseSize_L4 _ _ _ _ _ _ _ hk
theorem dX5_inBoth_0 : decode cX5_inBoth 0 = .ok (.iconst 0, 1) := by decide +kernel
theorem dX5_inBoth_1 : decode cX5_inBoth 1 = .ok (.istore_n 3, 1) := by decide +kernel
theorem dX5_inBoth_2 : decode cX5_inBoth 2 = .ok (.iconst 0, 1) := by decide +kernel
theorem dX5_inBoth_3 : decode cX5_inBoth 3 = .ok (.istore 4, 2) := by decide +kernel
theorem dX5_inBoth_5 : decode cX5_inBoth 5 = .ok (.iload 4, 2) := by decide +kernel
theorem dX5_inBoth_7 : decode cX5_inBoth 7 = .ok (.aload_n 0, 1) := by decide +kernel
theorem dX5_inBoth_8 : decode cX5_inBoth 8 = .ok (.getfield 9, 3) := by decide +kernel
theorem dX5_inBoth_11 : decode cX5_inBoth 11 = .ok (.iload_n 1, 1) := by decide +kernel
theorem dX5_inBoth_12 : decode cX5_inBoth 12 = .ok (.iaload, 1) := by decide +kernel
theorem dX5_inBoth_13 : decode cX5_inBoth 13 = .ok (.if_icmp .ge 64, 3) := by decide +kernel
theorem dX5_inBoth_16 : decode cX5_inBoth 16 = .ok (.aload_n 0, 1) := by decide +kernel
theorem dX5_inBoth_17 : decode cX5_inBoth 17 = .ok (.iload_n 2, 1) := by decide +kernel
theorem dX5_inBoth_18 : decode cX5_inBoth 18 = .ok (.aload_n 0, 1) := by decide +kernel
theorem dX5_inBoth_19 : decode cX5_inBoth 19 = .ok (.getfield 9, 3) := by decide +kernel
theorem dX5_inBoth_22 : decode cX5_inBoth 22 = .ok (.iload_n 2, 1) := by decide +kernel
theorem dX5_inBoth_23 : decode cX5_inBoth 23 = .ok (.iaload, 1) := by decide +kernel
theorem dX5_inBoth_24 : decode cX5_inBoth 24 = .ok (.aload_n 0, 1) := by decide +kernel
theorem dX5_inBoth_25 : decode cX5_inBoth 25 = .ok (.getfield 15, 3) := by decide +kernel
theorem dX5_inBoth_28 : decode cX5_inBoth 28 = .ok (.iload_n 1, 1) := by decide +kernel
theorem dX5_inBoth_29 : decode cX5_inBoth 29 = .ok (.bipush 6, 2) := by decide +kernel
theorem dX5_inBoth_31 : decode cX5_inBoth 31 = .ok (.imul, 1) := by decide +kernel
theorem dX5_inBoth_32 : decode cX5_inBoth 32 = .ok (.iload 4, 2) := by decide +kernel
theorem dX5_inBoth_34 : decode cX5_inBoth 34 = .ok (.iadd, 1) := by decide +kernel
theorem dX5_inBoth_35 : decode cX5_inBoth 35 = .ok (.iaload, 1) := by decide +kernel
theorem dX5_inBoth_36 : decode cX5_inBoth 36 = .ok (.aload_n 0, 1) := by decide +kernel
theorem dX5_inBoth_37 : decode cX5_inBoth 37 = .ok (.getfield 18, 3) := by decide +kernel
theorem dX5_inBoth_40 : decode cX5_inBoth 40 = .ok (.iload_n 1, 1) := by decide +kernel
theorem dX5_inBoth_41 : decode cX5_inBoth 41 = .ok (.bipush 6, 2) := by decide +kernel
theorem dX5_inBoth_43 : decode cX5_inBoth 43 = .ok (.imul, 1) := by decide +kernel
theorem dX5_inBoth_44 : decode cX5_inBoth 44 = .ok (.iload 4, 2) := by decide +kernel
theorem dX5_inBoth_46 : decode cX5_inBoth 46 = .ok (.iadd, 1) := by decide +kernel
theorem dX5_inBoth_47 : decode cX5_inBoth 47 = .ok (.iaload, 1) := by decide +kernel
theorem dX5_inBoth_48 : decode cX5_inBoth 48 = .ok (.invokevirtual 60, 3) := by decide +kernel
theorem dX5_inBoth_51 : decode cX5_inBoth 51 = .ok (.istore 5, 2) := by decide +kernel
theorem dX5_inBoth_53 : decode cX5_inBoth 53 = .ok (.iload 5, 2) := by decide +kernel
theorem dX5_inBoth_55 : decode cX5_inBoth 55 = .ok (.ifCond .eq 16, 3) := by decide +kernel
theorem dX5_inBoth_58 : decode cX5_inBoth 58 = .ok (.aload_n 0, 1) := by decide +kernel
theorem dX5_inBoth_59 : decode cX5_inBoth 59 = .ok (.iload_n 1, 1) := by decide +kernel
theorem dX5_inBoth_60 : decode cX5_inBoth 60 = .ok (.iload 4, 2) := by decide +kernel
theorem dX5_inBoth_62 : decode cX5_inBoth 62 = .ok (.invokevirtual 64, 3) := by decide +kernel
theorem dX5_inBoth_65 : decode cX5_inBoth 65 = .ok (.ifCond .ne 6, 3) := by decide +kernel
theorem dX5_inBoth_68 : decode cX5_inBoth 68 = .ok (.iinc 3 1, 3) := by decide +kernel
theorem dX5_inBoth_71 : decode cX5_inBoth 71 = .ok (.iinc 4 1, 3) := by decide +kernel
theorem dX5_inBoth_74 : decode cX5_inBoth 74 = .ok (.goto (-69), 3) := by decide +kernel
theorem dX5_inBoth_77 : decode cX5_inBoth 77 = .ok (.iload_n 3, 1) := by decide +kernel
theorem dX5_inBoth_78 : decode cX5_inBoth 78 = .ok (.ireturn, 1) := by decide +kernel
abbrev mm_X5_inBoth : ab_M := (RX5, 6, (some .int), false, 2, 47, none)
noncomputable def f_X5_inBoth_J71 (rec : Int → Int → Int → Int → Int → ab_H → Option (Int × ab_H)) (v0 : Int) (v1 : Int) (v2 : Int) (v3 : Int) (v4 : Int) (h : ab_H) : Option (Int × ab_H) :=
  rec v0 v1 v2 v3 (ab_w32 (v4 + (1 : Int))) h
set_option maxRecDepth 20000 in
theorem e_X5_inBoth_J71 {rec : Int → Int → Int → Int → Int → ab_H → Option (Int × ab_H)} (hrec : ∀ (v0 : Int) (v1 : Int) (v2 : Int) (v3 : Int) (v4 : Int) (h : ab_H) (q : Int × ab_H), rec v0 v1 v2 v3 v4 h = some q → ab_E mm_X5_inBoth cX5_inBoth 5 [some (ab_R v0), some (ab_I v1), some (ab_I v2), some (ab_I v3), some (ab_I v4), none] [] h (some (ab_I q.1)) q.2) : ∀ (v0 : Int) (v1 : Int) (v2 : Int) (v3 : Int) (v4 : Int) (h : ab_H) (q : Int × ab_H), f_X5_inBoth_J71 rec v0 v1 v2 v3 v4 h = some q → ab_E mm_X5_inBoth cX5_inBoth 71 [some (ab_R v0), some (ab_I v1), some (ab_I v2), some (ab_I v3), some (ab_I v4), none] [] h (some (ab_I q.1)) q.2 := by
  intro v0 v1 v2 v3 v4 h q hk
  unfold f_X5_inBoth_J71 at hk
  refine ab_iinc (pc := 71) (i := 4) (lv2 := [some (ab_R v0), some (ab_I v1), some (ab_I v2), some (ab_I v3), some (ab_I (ab_w32 (v4 + (1 : Int)))), none]) dX5_inBoth_71 rfl (Nat.le_of_ble_eq_true rfl) rfl rfl ?_
  refine ab_goto (pc := 74) (tgt := 5) dX5_inBoth_74 rfl ?_
  refine ab_sub_ (lv2 := [some (ab_R v0), some (ab_I v1), some (ab_I v2), some (ab_I v3), some (ab_I (ab_w32 (v4 + (1 : Int)))), none]) (ab_ss (ab_ss (ab_ss (ab_ss (ab_ss (ab_sn ab_s0)))))) ?_
  exact hrec _ _ _ _ _ _ _ hk
noncomputable def f_X5_inBoth_L5 : Nat → Int → Int → Int → Int → Int → ab_H → Option (Int × ab_H)
  | 0, _, _, _, _, _, _ => none
  | n + 1, v0, v1, v2, v3, v4, h =>
    (ab_get h 6 1 v0).bind fun t1 =>
    (ab_ald h 11 t1 v1).bind fun t2 =>
    if t2 ≤ v4 then
      some (v3, h)
    else
    (ab_get h 6 1 v0).bind fun t3 =>
    (ab_ald h 11 t3 v2).bind fun t4 =>
    (ab_get h 6 2 v0).bind fun t5 =>
    (ab_ald h 11 t5 (ab_w32 ((ab_w32 (v1 * (6 : Int))) + v4))).bind fun t6 =>
    (ab_get h 6 3 v0).bind fun t7 =>
    (ab_ald h 11 t7 (ab_w32 ((ab_w32 (v1 * (6 : Int))) + v4))).bind fun t8 =>
    (ab_on h 6 v0 (f_X5_hasTwo v0 v2 t4 t6 t8 h)).bind fun q9 =>
    if q9.1 = (0 : Int) then
      f_X5_inBoth_J71 (f_X5_inBoth_L5 n) v0 v1 v2 v3 v4 q9.2
    else
    (ab_on q9.2 6 v0 (f_X5_isAgain v0 v1 v4 q9.2)).bind fun q10 =>
    if q10.1 = (0 : Int) then
      f_X5_inBoth_J71 (f_X5_inBoth_L5 n) v0 v1 v2 (ab_w32 (v3 + (1 : Int))) v4 q10.2
    else
    f_X5_inBoth_J71 (f_X5_inBoth_L5 n) v0 v1 v2 v3 v4 q10.2
set_option maxRecDepth 20000 in
theorem e_X5_inBoth_L5 : ∀ (n : Nat) (v0 : Int) (v1 : Int) (v2 : Int) (v3 : Int) (v4 : Int) (h : ab_H) (q : Int × ab_H), f_X5_inBoth_L5 n v0 v1 v2 v3 v4 h = some q → ab_E mm_X5_inBoth cX5_inBoth 5 [some (ab_R v0), some (ab_I v1), some (ab_I v2), some (ab_I v3), some (ab_I v4), none] [] h (some (ab_I q.1)) q.2 := by
  intro n
  induction n with
  | zero => intro v0 v1 v2 v3 v4 h q hk; cases hk
  | succ n ih =>
    intro v0 v1 v2 v3 v4 h q hk
    unfold f_X5_inBoth_L5 at hk
    refine ab_iload (pc := 5) (i := 4) dX5_inBoth_5 rfl ?_
    refine ab_aload_n (pc := 7) (i := 0) dX5_inBoth_7 rfl rfl ?_
    obtain ⟨t1, ht1, hk⟩ := ab_bnd hk
    refine ab_getR (pc := 8) dX5_inBoth_8 fl_RX5_9 ht1 ?_
    refine ab_iload_n (pc := 11) (i := 1) dX5_inBoth_11 rfl rfl ?_
    obtain ⟨t2, ht2, hk⟩ := ab_bnd hk
    refine ab_iald (pc := 12) dX5_inBoth_12 ht2 ?_
    refine ab_icmp_ge (pc := 13) (tgt := 77) dX5_inBoth_13 rfl (fun hc => ?_) (fun hc => ?_)
    · have hk := ab_ifp hk hc
      refine ab_iload_n (pc := 77) (i := 3) dX5_inBoth_77 rfl rfl ?_
      obtain rfl := Option.some.inj hk
      exact ab_reti (pc := 78) dX5_inBoth_78 (Or.inl rfl)
    · have hk := ab_ifn hk hc
      refine ab_aload_n (pc := 16) (i := 0) dX5_inBoth_16 rfl rfl ?_
      refine ab_iload_n (pc := 17) (i := 2) dX5_inBoth_17 rfl rfl ?_
      refine ab_aload_n (pc := 18) (i := 0) dX5_inBoth_18 rfl rfl ?_
      obtain ⟨t3, ht3, hk⟩ := ab_bnd hk
      refine ab_getR (pc := 19) dX5_inBoth_19 fl_RX5_9 ht3 ?_
      refine ab_iload_n (pc := 22) (i := 2) dX5_inBoth_22 rfl rfl ?_
      obtain ⟨t4, ht4, hk⟩ := ab_bnd hk
      refine ab_iald (pc := 23) dX5_inBoth_23 ht4 ?_
      refine ab_aload_n (pc := 24) (i := 0) dX5_inBoth_24 rfl rfl ?_
      obtain ⟨t5, ht5, hk⟩ := ab_bnd hk
      refine ab_getR (pc := 25) dX5_inBoth_25 fl_RX5_15 ht5 ?_
      refine ab_iload_n (pc := 28) (i := 1) dX5_inBoth_28 rfl rfl ?_
      refine ab_bipush (pc := 29) dX5_inBoth_29 ab_p8_6 ab_k_6 ?_
      refine ab_imul (pc := 31) dX5_inBoth_31 ?_
      refine ab_iload (pc := 32) (i := 4) dX5_inBoth_32 rfl ?_
      refine ab_iadd (pc := 34) dX5_inBoth_34 ?_
      obtain ⟨t6, ht6, hk⟩ := ab_bnd hk
      refine ab_iald (pc := 35) dX5_inBoth_35 ht6 ?_
      refine ab_aload_n (pc := 36) (i := 0) dX5_inBoth_36 rfl rfl ?_
      obtain ⟨t7, ht7, hk⟩ := ab_bnd hk
      refine ab_getR (pc := 37) dX5_inBoth_37 fl_RX5_18 ht7 ?_
      refine ab_iload_n (pc := 40) (i := 1) dX5_inBoth_40 rfl rfl ?_
      refine ab_bipush (pc := 41) dX5_inBoth_41 ab_p8_6 ab_k_6 ?_
      refine ab_imul (pc := 43) dX5_inBoth_43 ?_
      refine ab_iload (pc := 44) (i := 4) dX5_inBoth_44 rfl ?_
      refine ab_iadd (pc := 46) dX5_inBoth_46 ?_
      obtain ⟨t8, ht8, hk⟩ := ab_bnd hk
      refine ab_iald (pc := 47) dX5_inBoth_47 ht8 ?_
      obtain ⟨q9, hq9, hk⟩ := ab_bnd hk
      obtain ⟨hb, hq9⟩ := ab_on_some hq9
      refine ab_callVI (st := []) (as := [ab_I v2, ab_I t4, ab_I t6, ab_I t8]) (b := v0) (pc := 48) dX5_inBoth_48 ml_RX5_60 my_X5_hasTwo mv_X5_hasTwo hb (ct_X5_hasTwo hq9) ⟨Nat.le_of_ble_eq_true rfl, Nat.le_of_ble_eq_true rfl⟩ rfl (Nat.le_of_ble_eq_true rfl) rfl ?_
      refine ab_istore (pc := 51) (i := 5) (lv2 := [some (ab_R v0), some (ab_I v1), some (ab_I v2), some (ab_I v3), some (ab_I v4), some (ab_I q9.1)]) dX5_inBoth_51 (Nat.le_of_ble_eq_true rfl) rfl rfl ?_
      refine ab_iload (pc := 53) (i := 5) dX5_inBoth_53 rfl ?_
      refine ab_if_eq (pc := 55) (tgt := 71) dX5_inBoth_55 rfl (fun hc => ?_) (fun hc => ?_)
      · have hk := ab_ifp hk hc
        refine ab_sub_ (lv2 := [some (ab_R v0), some (ab_I v1), some (ab_I v2), some (ab_I v3), some (ab_I v4), none]) (ab_ss (ab_ss (ab_ss (ab_ss (ab_ss (ab_sn ab_s0)))))) ?_
        exact e_X5_inBoth_J71 ih _ _ _ _ _ _ _ hk
      · have hk := ab_ifn hk hc
        refine ab_aload_n (pc := 58) (i := 0) dX5_inBoth_58 rfl rfl ?_
        refine ab_iload_n (pc := 59) (i := 1) dX5_inBoth_59 rfl rfl ?_
        refine ab_iload (pc := 60) (i := 4) dX5_inBoth_60 rfl ?_
        obtain ⟨q10, hq10, hk⟩ := ab_bnd hk
        obtain ⟨hb, hq10⟩ := ab_on_some hq10
        refine ab_callVI (st := []) (as := [ab_I v1, ab_I v4]) (b := v0) (pc := 62) dX5_inBoth_62 ml_RX5_64 my_X5_isAgain mv_X5_isAgain hb (ct_X5_isAgain hq10) ⟨Nat.le_of_ble_eq_true rfl, Nat.le_of_ble_eq_true rfl⟩ rfl (Nat.le_of_ble_eq_true rfl) rfl ?_
        refine ab_if_ne (pc := 65) (tgt := 71) dX5_inBoth_65 rfl (fun hc => ?_) (fun hc => ?_)
        · have hk := ab_ifn hk hc
          refine ab_sub_ (lv2 := [some (ab_R v0), some (ab_I v1), some (ab_I v2), some (ab_I v3), some (ab_I v4), none]) (ab_ss (ab_ss (ab_ss (ab_ss (ab_ss (ab_sn ab_s0)))))) ?_
          exact e_X5_inBoth_J71 ih _ _ _ _ _ _ _ hk
        · have hk := ab_ifp hk hc
          refine ab_iinc (pc := 68) (i := 3) (lv2 := [some (ab_R v0), some (ab_I v1), some (ab_I v2), some (ab_I (ab_w32 (v3 + (1 : Int)))), some (ab_I v4), some (ab_I q9.1)]) dX5_inBoth_68 rfl (Nat.le_of_ble_eq_true rfl) rfl rfl ?_
          refine ab_sub_ (lv2 := [some (ab_R v0), some (ab_I v1), some (ab_I v2), some (ab_I (ab_w32 (v3 + (1 : Int)))), some (ab_I v4), none]) (ab_ss (ab_ss (ab_ss (ab_ss (ab_ss (ab_sn ab_s0)))))) ?_
          exact e_X5_inBoth_J71 ih _ _ _ _ _ _ _ hk
noncomputable def f_X5_inBoth (a0 : Int) (a1 : Int) (a2 : Int) (h : ab_H) : Option (Int × ab_H) :=
  f_X5_inBoth_L5 ab_FU a0 a1 a2 (0 : Int) (0 : Int) h
set_option maxRecDepth 20000 in
theorem ct_X5_inBoth {a0 a1 a2 : Int} {h : ab_H} {q : Int × ab_H} (hk : f_X5_inBoth a0 a1 a2 h = some q) : ab_CT yX5_inBoth cX5_inBoth 6 (some .int) 2 47 [ab_R a0, ab_I a1, ab_I a2] h (some (ab_I q.1)) q.2 := by
  refine ab_CT.mk_ 3 (own := RX5) (ini := false) (lv := [some (ab_R a0), some (ab_I a1), some (ab_I a2), none, none, none]) rfl (by decide +kernel) (fun q => by cases q) rfl rfl ?_
  unfold f_X5_inBoth at hk
  show ab_E mm_X5_inBoth cX5_inBoth 0 _ [] h _ _
  refine ab_iconst (pc := 0) dX5_inBoth_0 ab_k_0 ?_
  refine ab_istore_n (pc := 1) (i := 3) (lv2 := [some (ab_R a0), some (ab_I a1), some (ab_I a2), some (ab_I (0 : Int)), none, none]) dX5_inBoth_1 rfl (Nat.le_of_ble_eq_true rfl) rfl rfl ?_
  refine ab_iconst (pc := 2) dX5_inBoth_2 ab_k_0 ?_
  refine ab_istore (pc := 3) (i := 4) (lv2 := [some (ab_R a0), some (ab_I a1), some (ab_I a2), some (ab_I (0 : Int)), some (ab_I (0 : Int)), none]) dX5_inBoth_3 (Nat.le_of_ble_eq_true rfl) rfl rfl ?_
  refine ab_sub_ (lv2 := [some (ab_R a0), some (ab_I a1), some (ab_I a2), some (ab_I (0 : Int)), some (ab_I (0 : Int)), none]) (ab_ss (ab_ss (ab_ss (ab_ss (ab_ss (ab_sn ab_s0)))))) ?_
  refine e_X5_inBoth_L5 _ _ _ _ _ _ _ _ hk
theorem dX5_areOfOneSense_0 : decode cX5_areOfOneSense 0 = .ok (.aload_n 0, 1) := by decide +kernel
theorem dX5_areOfOneSense_1 : decode cX5_areOfOneSense 1 = .ok (.iload_n 1, 1) := by decide +kernel
theorem dX5_areOfOneSense_2 : decode cX5_areOfOneSense 2 = .ok (.iload_n 2, 1) := by decide +kernel
theorem dX5_areOfOneSense_3 : decode cX5_areOfOneSense 3 = .ok (.invokevirtual 68, 3) := by decide +kernel
theorem dX5_areOfOneSense_6 : decode cX5_areOfOneSense 6 = .ok (.istore_n 3, 1) := by decide +kernel
theorem dX5_areOfOneSense_7 : decode cX5_areOfOneSense 7 = .ok (.iload_n 3, 1) := by decide +kernel
theorem dX5_areOfOneSense_8 : decode cX5_areOfOneSense 8 = .ok (.aload_n 0, 1) := by decide +kernel
theorem dX5_areOfOneSense_9 : decode cX5_areOfOneSense 9 = .ok (.iload_n 1, 1) := by decide +kernel
theorem dX5_areOfOneSense_10 : decode cX5_areOfOneSense 10 = .ok (.invokevirtual 71, 3) := by decide +kernel
theorem dX5_areOfOneSense_13 : decode cX5_areOfOneSense 13 = .ok (.if_icmp .ne 16, 3) := by decide +kernel
theorem dX5_areOfOneSense_16 : decode cX5_areOfOneSense 16 = .ok (.iload_n 3, 1) := by decide +kernel
theorem dX5_areOfOneSense_17 : decode cX5_areOfOneSense 17 = .ok (.aload_n 0, 1) := by decide +kernel
theorem dX5_areOfOneSense_18 : decode cX5_areOfOneSense 18 = .ok (.iload_n 2, 1) := by decide +kernel
theorem dX5_areOfOneSense_19 : decode cX5_areOfOneSense 19 = .ok (.invokevirtual 71, 3) := by decide +kernel
theorem dX5_areOfOneSense_22 : decode cX5_areOfOneSense 22 = .ok (.if_icmp .ne 7, 3) := by decide +kernel
theorem dX5_areOfOneSense_25 : decode cX5_areOfOneSense 25 = .ok (.iconst 1, 1) := by decide +kernel
theorem dX5_areOfOneSense_26 : decode cX5_areOfOneSense 26 = .ok (.goto 4, 3) := by decide +kernel
theorem dX5_areOfOneSense_29 : decode cX5_areOfOneSense 29 = .ok (.iconst 0, 1) := by decide +kernel
theorem dX5_areOfOneSense_30 : decode cX5_areOfOneSense 30 = .ok (.ireturn, 1) := by decide +kernel
abbrev mm_X5_areOfOneSense : ab_M := (RX5, 4, (some .boolean), false, 3, 72, none)
noncomputable def f_X5_areOfOneSense_J29 (h : ab_H) : Option (Int × ab_H) :=
  some ((0 : Int), h)
set_option maxRecDepth 20000 in
theorem e_X5_areOfOneSense_J29 : ∀ (h : ab_H) (q : Int × ab_H), f_X5_areOfOneSense_J29  h = some q → ab_E mm_X5_areOfOneSense cX5_areOfOneSense 29 [none, none, none, none] [] h (some (ab_I q.1)) q.2 := by
  intro  h q hk
  unfold f_X5_areOfOneSense_J29 at hk
  refine ab_iconst (pc := 29) dX5_areOfOneSense_29 ab_k_0 ?_
  obtain rfl := Option.some.inj hk
  exact ab_retz (pc := 30) dX5_areOfOneSense_30 rfl rfl
noncomputable def f_X5_areOfOneSense (a0 : Int) (a1 : Int) (a2 : Int) (h : ab_H) : Option (Int × ab_H) :=
  (ab_on h 6 a0 (f_X5_inBoth a0 a1 a2 h)).bind fun q1 =>
  (ab_on q1.2 6 a0 (f_X5_senseSize a0 a1 q1.2)).bind fun q2 =>
  if q1.1 = q2.1 then
    (ab_on q2.2 6 a0 (f_X5_senseSize a0 a2 q2.2)).bind fun q3 =>
    if q1.1 = q3.1 then
      some ((1 : Int), q3.2)
    else
    f_X5_areOfOneSense_J29 q3.2
  else
  f_X5_areOfOneSense_J29 q2.2
set_option maxRecDepth 20000 in
theorem ct_X5_areOfOneSense {a0 a1 a2 : Int} {h : ab_H} {q : Int × ab_H} (hk : f_X5_areOfOneSense a0 a1 a2 h = some q) : ab_CT yX5_areOfOneSense cX5_areOfOneSense 4 (some .boolean) 3 72 [ab_R a0, ab_I a1, ab_I a2] h (some (ab_I q.1)) q.2 := by
  refine ab_CT.mk_ 1 (own := RX5) (ini := false) (lv := [some (ab_R a0), some (ab_I a1), some (ab_I a2), none]) rfl (by decide +kernel) (fun q => by cases q) rfl rfl ?_
  unfold f_X5_areOfOneSense at hk
  show ab_E mm_X5_areOfOneSense cX5_areOfOneSense 0 _ [] h _ _
  refine ab_aload_n (pc := 0) (i := 0) dX5_areOfOneSense_0 rfl rfl ?_
  refine ab_iload_n (pc := 1) (i := 1) dX5_areOfOneSense_1 rfl rfl ?_
  refine ab_iload_n (pc := 2) (i := 2) dX5_areOfOneSense_2 rfl rfl ?_
  obtain ⟨q1, hq1, hk⟩ := ab_bnd hk
  obtain ⟨hb, hq1⟩ := ab_on_some hq1
  refine ab_callVI (st := []) (as := [ab_I a1, ab_I a2]) (b := a0) (pc := 3) dX5_areOfOneSense_3 ml_RX5_68 my_X5_inBoth mv_X5_inBoth hb (ct_X5_inBoth hq1) ⟨Nat.le_of_ble_eq_true rfl, Nat.le_of_ble_eq_true rfl⟩ rfl (Nat.le_of_ble_eq_true rfl) rfl ?_
  refine ab_istore_n (pc := 6) (i := 3) (lv2 := [some (ab_R a0), some (ab_I a1), some (ab_I a2), some (ab_I q1.1)]) dX5_areOfOneSense_6 rfl (Nat.le_of_ble_eq_true rfl) rfl rfl ?_
  refine ab_iload_n (pc := 7) (i := 3) dX5_areOfOneSense_7 rfl rfl ?_
  refine ab_aload_n (pc := 8) (i := 0) dX5_areOfOneSense_8 rfl rfl ?_
  refine ab_iload_n (pc := 9) (i := 1) dX5_areOfOneSense_9 rfl rfl ?_
  obtain ⟨q2, hq2, hk⟩ := ab_bnd hk
  obtain ⟨hb, hq2⟩ := ab_on_some hq2
  refine ab_callVI (st := [ab_I q1.1]) (as := [ab_I a1]) (b := a0) (pc := 10) dX5_areOfOneSense_10 ml_RX5_71 my_X5_senseSize mv_X5_senseSize hb (ct_X5_senseSize hq2) ⟨Nat.le_of_ble_eq_true rfl, Nat.le_of_ble_eq_true rfl⟩ rfl (Nat.le_of_ble_eq_true rfl) rfl ?_
  refine ab_icmp_ne (pc := 13) (tgt := 29) dX5_areOfOneSense_13 rfl (fun hc => ?_) (fun hc => ?_)
  · have hk := ab_ifn hk hc
    refine ab_sub_ (lv2 := [none, none, none, none]) (ab_sn (ab_sn (ab_sn (ab_sn ab_s0)))) ?_
    exact e_X5_areOfOneSense_J29  _ _ hk
  · have hk := ab_ifp hk hc
    refine ab_iload_n (pc := 16) (i := 3) dX5_areOfOneSense_16 rfl rfl ?_
    refine ab_aload_n (pc := 17) (i := 0) dX5_areOfOneSense_17 rfl rfl ?_
    refine ab_iload_n (pc := 18) (i := 2) dX5_areOfOneSense_18 rfl rfl ?_
    obtain ⟨q3, hq3, hk⟩ := ab_bnd hk
    obtain ⟨hb, hq3⟩ := ab_on_some hq3
    refine ab_callVI (st := [ab_I q1.1]) (as := [ab_I a2]) (b := a0) (pc := 19) dX5_areOfOneSense_19 ml_RX5_71 my_X5_senseSize mv_X5_senseSize hb (ct_X5_senseSize hq3) ⟨Nat.le_of_ble_eq_true rfl, Nat.le_of_ble_eq_true rfl⟩ rfl (Nat.le_of_ble_eq_true rfl) rfl ?_
    refine ab_icmp_ne (pc := 22) (tgt := 29) dX5_areOfOneSense_22 rfl (fun hc => ?_) (fun hc => ?_)
    · have hk := ab_ifn hk hc
      refine ab_sub_ (lv2 := [none, none, none, none]) (ab_sn (ab_sn (ab_sn (ab_sn ab_s0)))) ?_
      exact e_X5_areOfOneSense_J29  _ _ hk
    · have hk := ab_ifp hk hc
      refine ab_iconst (pc := 25) dX5_areOfOneSense_25 ab_k_1 ?_
      refine ab_goto (pc := 26) (tgt := 30) dX5_areOfOneSense_26 rfl ?_
      obtain rfl := Option.some.inj hk
      exact ab_retz (pc := 30) dX5_areOfOneSense_30 rfl rfl
theorem dX5_isFirstOfSense_0 : decode cX5_isFirstOfSense 0 = .ok (.iconst 0, 1) := by decide +kernel
theorem dX5_isFirstOfSense_1 : decode cX5_isFirstOfSense 1 = .ok (.istore_n 2, 1) := by decide +kernel
theorem dX5_isFirstOfSense_2 : decode cX5_isFirstOfSense 2 = .ok (.iload_n 2, 1) := by decide +kernel
theorem dX5_isFirstOfSense_3 : decode cX5_isFirstOfSense 3 = .ok (.iload_n 1, 1) := by decide +kernel
theorem dX5_isFirstOfSense_4 : decode cX5_isFirstOfSense 4 = .ok (.if_icmp .ge 20, 3) := by decide +kernel
theorem dX5_isFirstOfSense_7 : decode cX5_isFirstOfSense 7 = .ok (.aload_n 0, 1) := by decide +kernel
theorem dX5_isFirstOfSense_8 : decode cX5_isFirstOfSense 8 = .ok (.iload_n 1, 1) := by decide +kernel
theorem dX5_isFirstOfSense_9 : decode cX5_isFirstOfSense 9 = .ok (.iload_n 2, 1) := by decide +kernel
theorem dX5_isFirstOfSense_10 : decode cX5_isFirstOfSense 10 = .ok (.invokevirtual 75, 3) := by decide +kernel
theorem dX5_isFirstOfSense_13 : decode cX5_isFirstOfSense 13 = .ok (.ifCond .eq 5, 3) := by decide +kernel
theorem dX5_isFirstOfSense_16 : decode cX5_isFirstOfSense 16 = .ok (.iconst 0, 1) := by decide +kernel
theorem dX5_isFirstOfSense_17 : decode cX5_isFirstOfSense 17 = .ok (.ireturn, 1) := by decide +kernel
theorem dX5_isFirstOfSense_18 : decode cX5_isFirstOfSense 18 = .ok (.iinc 2 1, 3) := by decide +kernel
theorem dX5_isFirstOfSense_21 : decode cX5_isFirstOfSense 21 = .ok (.goto (-19), 3) := by decide +kernel
theorem dX5_isFirstOfSense_24 : decode cX5_isFirstOfSense 24 = .ok (.iconst 1, 1) := by decide +kernel
theorem dX5_isFirstOfSense_25 : decode cX5_isFirstOfSense 25 = .ok (.ireturn, 1) := by decide +kernel
abbrev mm_X5_isFirstOfSense : ab_M := (RX5, 3, (some .boolean), false, 4, 95, none)
noncomputable def f_X5_isFirstOfSense_L2 : Nat → Int → Int → Int → ab_H → Option (Int × ab_H)
  | 0, _, _, _, _ => none
  | n + 1, v0, v1, v2, h =>
    if v1 ≤ v2 then
      some ((1 : Int), h)
    else
    (ab_on h 6 v0 (f_X5_areOfOneSense v0 v1 v2 h)).bind fun q1 =>
    if q1.1 = (0 : Int) then
      f_X5_isFirstOfSense_L2 n v0 v1 (ab_w32 (v2 + (1 : Int))) q1.2
    else
    some ((0 : Int), q1.2)
set_option maxRecDepth 20000 in
theorem e_X5_isFirstOfSense_L2 : ∀ (n : Nat) (v0 : Int) (v1 : Int) (v2 : Int) (h : ab_H) (q : Int × ab_H), f_X5_isFirstOfSense_L2 n v0 v1 v2 h = some q → ab_E mm_X5_isFirstOfSense cX5_isFirstOfSense 2 [some (ab_R v0), some (ab_I v1), some (ab_I v2)] [] h (some (ab_I q.1)) q.2 := by
  intro n
  induction n with
  | zero => intro v0 v1 v2 h q hk; cases hk
  | succ n ih =>
    intro v0 v1 v2 h q hk
    unfold f_X5_isFirstOfSense_L2 at hk
    refine ab_iload_n (pc := 2) (i := 2) dX5_isFirstOfSense_2 rfl rfl ?_
    refine ab_iload_n (pc := 3) (i := 1) dX5_isFirstOfSense_3 rfl rfl ?_
    refine ab_icmp_ge (pc := 4) (tgt := 24) dX5_isFirstOfSense_4 rfl (fun hc => ?_) (fun hc => ?_)
    · have hk := ab_ifp hk hc
      refine ab_iconst (pc := 24) dX5_isFirstOfSense_24 ab_k_1 ?_
      obtain rfl := Option.some.inj hk
      exact ab_retz (pc := 25) dX5_isFirstOfSense_25 rfl rfl
    · have hk := ab_ifn hk hc
      refine ab_aload_n (pc := 7) (i := 0) dX5_isFirstOfSense_7 rfl rfl ?_
      refine ab_iload_n (pc := 8) (i := 1) dX5_isFirstOfSense_8 rfl rfl ?_
      refine ab_iload_n (pc := 9) (i := 2) dX5_isFirstOfSense_9 rfl rfl ?_
      obtain ⟨q1, hq1, hk⟩ := ab_bnd hk
      obtain ⟨hb, hq1⟩ := ab_on_some hq1
      refine ab_callVI (st := []) (as := [ab_I v1, ab_I v2]) (b := v0) (pc := 10) dX5_isFirstOfSense_10 ml_RX5_75 my_X5_areOfOneSense mv_X5_areOfOneSense hb (ct_X5_areOfOneSense hq1) ⟨Nat.le_of_ble_eq_true rfl, Nat.le_of_ble_eq_true rfl⟩ rfl (Nat.le_of_ble_eq_true rfl) rfl ?_
      refine ab_if_eq (pc := 13) (tgt := 18) dX5_isFirstOfSense_13 rfl (fun hc => ?_) (fun hc => ?_)
      · have hk := ab_ifp hk hc
        refine ab_iinc (pc := 18) (i := 2) (lv2 := [some (ab_R v0), some (ab_I v1), some (ab_I (ab_w32 (v2 + (1 : Int))))]) dX5_isFirstOfSense_18 rfl (Nat.le_of_ble_eq_true rfl) rfl rfl ?_
        refine ab_goto (pc := 21) (tgt := 2) dX5_isFirstOfSense_21 rfl ?_
        refine ab_sub_ (lv2 := [some (ab_R v0), some (ab_I v1), some (ab_I (ab_w32 (v2 + (1 : Int))))]) (ab_ss (ab_ss (ab_ss ab_s0))) ?_
        exact ih _ _ _ _ _ hk
      · have hk := ab_ifn hk hc
        refine ab_iconst (pc := 16) dX5_isFirstOfSense_16 ab_k_0 ?_
        obtain rfl := Option.some.inj hk
        exact ab_retz (pc := 17) dX5_isFirstOfSense_17 rfl rfl
noncomputable def f_X5_isFirstOfSense (a0 : Int) (a1 : Int) (h : ab_H) : Option (Int × ab_H) :=
  f_X5_isFirstOfSense_L2 ab_FU a0 a1 (0 : Int) h
set_option maxRecDepth 20000 in
theorem ct_X5_isFirstOfSense {a0 a1 : Int} {h : ab_H} {q : Int × ab_H} (hk : f_X5_isFirstOfSense a0 a1 h = some q) : ab_CT yX5_isFirstOfSense cX5_isFirstOfSense 3 (some .boolean) 4 95 [ab_R a0, ab_I a1] h (some (ab_I q.1)) q.2 := by
  refine ab_CT.mk_ 1 (own := RX5) (ini := false) (lv := [some (ab_R a0), some (ab_I a1), none]) rfl (by decide +kernel) (fun q => by cases q) rfl rfl ?_
  unfold f_X5_isFirstOfSense at hk
  show ab_E mm_X5_isFirstOfSense cX5_isFirstOfSense 0 _ [] h _ _
  refine ab_iconst (pc := 0) dX5_isFirstOfSense_0 ab_k_0 ?_
  refine ab_istore_n (pc := 1) (i := 2) (lv2 := [some (ab_R a0), some (ab_I a1), some (ab_I (0 : Int))]) dX5_isFirstOfSense_1 rfl (Nat.le_of_ble_eq_true rfl) rfl rfl ?_
  refine ab_sub_ (lv2 := [some (ab_R a0), some (ab_I a1), some (ab_I (0 : Int))]) (ab_ss (ab_ss (ab_ss ab_s0))) ?_
  refine e_X5_isFirstOfSense_L2 _ _ _ _ _ _ hk
theorem dX5_areSame_0 : decode cX5_areSame 0 = .ok (.aload_n 0, 1) := by decide +kernel
theorem dX5_areSame_1 : decode cX5_areSame 1 = .ok (.getfield 9, 3) := by decide +kernel
theorem dX5_areSame_4 : decode cX5_areSame 4 = .ok (.iload_n 1, 1) := by decide +kernel
theorem dX5_areSame_5 : decode cX5_areSame 5 = .ok (.iaload, 1) := by decide +kernel
theorem dX5_areSame_6 : decode cX5_areSame 6 = .ok (.aload_n 0, 1) := by decide +kernel
theorem dX5_areSame_7 : decode cX5_areSame 7 = .ok (.getfield 9, 3) := by decide +kernel
theorem dX5_areSame_10 : decode cX5_areSame 10 = .ok (.iload_n 2, 1) := by decide +kernel
theorem dX5_areSame_11 : decode cX5_areSame 11 = .ok (.iaload, 1) := by decide +kernel
theorem dX5_areSame_12 : decode cX5_areSame 12 = .ok (.if_icmp .eq 5, 3) := by decide +kernel
theorem dX5_areSame_15 : decode cX5_areSame 15 = .ok (.iconst 0, 1) := by decide +kernel
theorem dX5_areSame_16 : decode cX5_areSame 16 = .ok (.ireturn, 1) := by decide +kernel
theorem dX5_areSame_17 : decode cX5_areSame 17 = .ok (.iconst 0, 1) := by decide +kernel
theorem dX5_areSame_18 : decode cX5_areSame 18 = .ok (.istore_n 3, 1) := by decide +kernel
theorem dX5_areSame_19 : decode cX5_areSame 19 = .ok (.iload_n 3, 1) := by decide +kernel
theorem dX5_areSame_20 : decode cX5_areSame 20 = .ok (.aload_n 0, 1) := by decide +kernel
theorem dX5_areSame_21 : decode cX5_areSame 21 = .ok (.getfield 9, 3) := by decide +kernel
theorem dX5_areSame_24 : decode cX5_areSame 24 = .ok (.iload_n 1, 1) := by decide +kernel
theorem dX5_areSame_25 : decode cX5_areSame 25 = .ok (.iaload, 1) := by decide +kernel
theorem dX5_areSame_26 : decode cX5_areSame 26 = .ok (.if_icmp .ge 61, 3) := by decide +kernel
theorem dX5_areSame_29 : decode cX5_areSame 29 = .ok (.iload_n 1, 1) := by decide +kernel
theorem dX5_areSame_30 : decode cX5_areSame 30 = .ok (.bipush 6, 2) := by decide +kernel
theorem dX5_areSame_32 : decode cX5_areSame 32 = .ok (.imul, 1) := by decide +kernel
theorem dX5_areSame_33 : decode cX5_areSame 33 = .ok (.iload_n 3, 1) := by decide +kernel
theorem dX5_areSame_34 : decode cX5_areSame 34 = .ok (.iadd, 1) := by decide +kernel
theorem dX5_areSame_35 : decode cX5_areSame 35 = .ok (.istore 4, 2) := by decide +kernel
theorem dX5_areSame_37 : decode cX5_areSame 37 = .ok (.iload_n 2, 1) := by decide +kernel
theorem dX5_areSame_38 : decode cX5_areSame 38 = .ok (.bipush 6, 2) := by decide +kernel
theorem dX5_areSame_40 : decode cX5_areSame 40 = .ok (.imul, 1) := by decide +kernel
theorem dX5_areSame_41 : decode cX5_areSame 41 = .ok (.iload_n 3, 1) := by decide +kernel
theorem dX5_areSame_42 : decode cX5_areSame 42 = .ok (.iadd, 1) := by decide +kernel
theorem dX5_areSame_43 : decode cX5_areSame 43 = .ok (.istore 5, 2) := by decide +kernel
theorem dX5_areSame_45 : decode cX5_areSame 45 = .ok (.aload_n 0, 1) := by decide +kernel
theorem dX5_areSame_46 : decode cX5_areSame 46 = .ok (.getfield 15, 3) := by decide +kernel
theorem dX5_areSame_49 : decode cX5_areSame 49 = .ok (.iload 4, 2) := by decide +kernel
theorem dX5_areSame_51 : decode cX5_areSame 51 = .ok (.iaload, 1) := by decide +kernel
theorem dX5_areSame_52 : decode cX5_areSame 52 = .ok (.aload_n 0, 1) := by decide +kernel
theorem dX5_areSame_53 : decode cX5_areSame 53 = .ok (.getfield 15, 3) := by decide +kernel
theorem dX5_areSame_56 : decode cX5_areSame 56 = .ok (.iload 5, 2) := by decide +kernel
theorem dX5_areSame_58 : decode cX5_areSame 58 = .ok (.iaload, 1) := by decide +kernel
theorem dX5_areSame_59 : decode cX5_areSame 59 = .ok (.if_icmp .ne 20, 3) := by decide +kernel
theorem dX5_areSame_62 : decode cX5_areSame 62 = .ok (.aload_n 0, 1) := by decide +kernel
theorem dX5_areSame_63 : decode cX5_areSame 63 = .ok (.getfield 18, 3) := by decide +kernel
theorem dX5_areSame_66 : decode cX5_areSame 66 = .ok (.iload 4, 2) := by decide +kernel
theorem dX5_areSame_68 : decode cX5_areSame 68 = .ok (.iaload, 1) := by decide +kernel
theorem dX5_areSame_69 : decode cX5_areSame 69 = .ok (.aload_n 0, 1) := by decide +kernel
theorem dX5_areSame_70 : decode cX5_areSame 70 = .ok (.getfield 18, 3) := by decide +kernel
theorem dX5_areSame_73 : decode cX5_areSame 73 = .ok (.iload 5, 2) := by decide +kernel
theorem dX5_areSame_75 : decode cX5_areSame 75 = .ok (.iaload, 1) := by decide +kernel
theorem dX5_areSame_76 : decode cX5_areSame 76 = .ok (.if_icmp .eq 5, 3) := by decide +kernel
theorem dX5_areSame_79 : decode cX5_areSame 79 = .ok (.iconst 0, 1) := by decide +kernel
theorem dX5_areSame_80 : decode cX5_areSame 80 = .ok (.ireturn, 1) := by decide +kernel
theorem dX5_areSame_81 : decode cX5_areSame 81 = .ok (.iinc 3 1, 3) := by decide +kernel
theorem dX5_areSame_84 : decode cX5_areSame 84 = .ok (.goto (-65), 3) := by decide +kernel
theorem dX5_areSame_87 : decode cX5_areSame 87 = .ok (.iconst 1, 1) := by decide +kernel
theorem dX5_areSame_88 : decode cX5_areSame 88 = .ok (.ireturn, 1) := by decide +kernel
abbrev mm_X5_areSame : ab_M := (RX5, 6, (some .boolean), false, 0, 0, none)
noncomputable def f_X5_areSame_L19 : Nat → Int → Int → Int → Int → ab_H → Option (Int × ab_H)
  | 0, _, _, _, _, _ => none
  | n + 1, v0, v1, v2, v3, h =>
    (ab_get h 6 1 v0).bind fun t1 =>
    (ab_ald h 11 t1 v1).bind fun t2 =>
    if t2 ≤ v3 then
      some ((1 : Int), h)
    else
    (ab_get h 6 2 v0).bind fun t3 =>
    (ab_ald h 11 t3 (ab_w32 ((ab_w32 (v1 * (6 : Int))) + v3))).bind fun t4 =>
    (ab_get h 6 2 v0).bind fun t5 =>
    (ab_ald h 11 t5 (ab_w32 ((ab_w32 (v2 * (6 : Int))) + v3))).bind fun t6 =>
    if t4 = t6 then
      (ab_get h 6 3 v0).bind fun t7 =>
      (ab_ald h 11 t7 (ab_w32 ((ab_w32 (v1 * (6 : Int))) + v3))).bind fun t8 =>
      (ab_get h 6 3 v0).bind fun t9 =>
      (ab_ald h 11 t9 (ab_w32 ((ab_w32 (v2 * (6 : Int))) + v3))).bind fun t10 =>
      if t8 = t10 then
        f_X5_areSame_L19 n v0 v1 v2 (ab_w32 (v3 + (1 : Int))) h
      else
      some ((0 : Int), h)
    else
    some ((0 : Int), h)
set_option maxRecDepth 20000 in
theorem e_X5_areSame_L19 : ∀ (n : Nat) (v0 : Int) (v1 : Int) (v2 : Int) (v3 : Int) (h : ab_H) (q : Int × ab_H), f_X5_areSame_L19 n v0 v1 v2 v3 h = some q → ab_E mm_X5_areSame cX5_areSame 19 [some (ab_R v0), some (ab_I v1), some (ab_I v2), some (ab_I v3), none, none] [] h (some (ab_I q.1)) q.2 := by
  intro n
  induction n with
  | zero => intro v0 v1 v2 v3 h q hk; cases hk
  | succ n ih =>
    intro v0 v1 v2 v3 h q hk
    unfold f_X5_areSame_L19 at hk
    refine ab_iload_n (pc := 19) (i := 3) dX5_areSame_19 rfl rfl ?_
    refine ab_aload_n (pc := 20) (i := 0) dX5_areSame_20 rfl rfl ?_
    obtain ⟨t1, ht1, hk⟩ := ab_bnd hk
    refine ab_getR (pc := 21) dX5_areSame_21 fl_RX5_9 ht1 ?_
    refine ab_iload_n (pc := 24) (i := 1) dX5_areSame_24 rfl rfl ?_
    obtain ⟨t2, ht2, hk⟩ := ab_bnd hk
    refine ab_iald (pc := 25) dX5_areSame_25 ht2 ?_
    refine ab_icmp_ge (pc := 26) (tgt := 87) dX5_areSame_26 rfl (fun hc => ?_) (fun hc => ?_)
    · have hk := ab_ifp hk hc
      refine ab_iconst (pc := 87) dX5_areSame_87 ab_k_1 ?_
      obtain rfl := Option.some.inj hk
      exact ab_retz (pc := 88) dX5_areSame_88 rfl rfl
    · have hk := ab_ifn hk hc
      refine ab_iload_n (pc := 29) (i := 1) dX5_areSame_29 rfl rfl ?_
      refine ab_bipush (pc := 30) dX5_areSame_30 ab_p8_6 ab_k_6 ?_
      refine ab_imul (pc := 32) dX5_areSame_32 ?_
      refine ab_iload_n (pc := 33) (i := 3) dX5_areSame_33 rfl rfl ?_
      refine ab_iadd (pc := 34) dX5_areSame_34 ?_
      refine ab_istore (pc := 35) (i := 4) (lv2 := [some (ab_R v0), some (ab_I v1), some (ab_I v2), some (ab_I v3), some (ab_I (ab_w32 ((ab_w32 (v1 * (6 : Int))) + v3))), none]) dX5_areSame_35 (Nat.le_of_ble_eq_true rfl) rfl rfl ?_
      refine ab_iload_n (pc := 37) (i := 2) dX5_areSame_37 rfl rfl ?_
      refine ab_bipush (pc := 38) dX5_areSame_38 ab_p8_6 ab_k_6 ?_
      refine ab_imul (pc := 40) dX5_areSame_40 ?_
      refine ab_iload_n (pc := 41) (i := 3) dX5_areSame_41 rfl rfl ?_
      refine ab_iadd (pc := 42) dX5_areSame_42 ?_
      refine ab_istore (pc := 43) (i := 5) (lv2 := [some (ab_R v0), some (ab_I v1), some (ab_I v2), some (ab_I v3), some (ab_I (ab_w32 ((ab_w32 (v1 * (6 : Int))) + v3))), some (ab_I (ab_w32 ((ab_w32 (v2 * (6 : Int))) + v3)))]) dX5_areSame_43 (Nat.le_of_ble_eq_true rfl) rfl rfl ?_
      refine ab_aload_n (pc := 45) (i := 0) dX5_areSame_45 rfl rfl ?_
      obtain ⟨t3, ht3, hk⟩ := ab_bnd hk
      refine ab_getR (pc := 46) dX5_areSame_46 fl_RX5_15 ht3 ?_
      refine ab_iload (pc := 49) (i := 4) dX5_areSame_49 rfl ?_
      obtain ⟨t4, ht4, hk⟩ := ab_bnd hk
      refine ab_iald (pc := 51) dX5_areSame_51 ht4 ?_
      refine ab_aload_n (pc := 52) (i := 0) dX5_areSame_52 rfl rfl ?_
      obtain ⟨t5, ht5, hk⟩ := ab_bnd hk
      refine ab_getR (pc := 53) dX5_areSame_53 fl_RX5_15 ht5 ?_
      refine ab_iload (pc := 56) (i := 5) dX5_areSame_56 rfl ?_
      obtain ⟨t6, ht6, hk⟩ := ab_bnd hk
      refine ab_iald (pc := 58) dX5_areSame_58 ht6 ?_
      refine ab_icmp_ne (pc := 59) (tgt := 79) dX5_areSame_59 rfl (fun hc => ?_) (fun hc => ?_)
      · have hk := ab_ifn hk hc
        refine ab_iconst (pc := 79) dX5_areSame_79 ab_k_0 ?_
        obtain rfl := Option.some.inj hk
        exact ab_retz (pc := 80) dX5_areSame_80 rfl rfl
      · have hk := ab_ifp hk hc
        refine ab_aload_n (pc := 62) (i := 0) dX5_areSame_62 rfl rfl ?_
        obtain ⟨t7, ht7, hk⟩ := ab_bnd hk
        refine ab_getR (pc := 63) dX5_areSame_63 fl_RX5_18 ht7 ?_
        refine ab_iload (pc := 66) (i := 4) dX5_areSame_66 rfl ?_
        obtain ⟨t8, ht8, hk⟩ := ab_bnd hk
        refine ab_iald (pc := 68) dX5_areSame_68 ht8 ?_
        refine ab_aload_n (pc := 69) (i := 0) dX5_areSame_69 rfl rfl ?_
        obtain ⟨t9, ht9, hk⟩ := ab_bnd hk
        refine ab_getR (pc := 70) dX5_areSame_70 fl_RX5_18 ht9 ?_
        refine ab_iload (pc := 73) (i := 5) dX5_areSame_73 rfl ?_
        obtain ⟨t10, ht10, hk⟩ := ab_bnd hk
        refine ab_iald (pc := 75) dX5_areSame_75 ht10 ?_
        refine ab_icmp_eq (pc := 76) (tgt := 81) dX5_areSame_76 rfl (fun hc => ?_) (fun hc => ?_)
        · have hk := ab_ifp hk hc
          refine ab_iinc (pc := 81) (i := 3) (lv2 := [some (ab_R v0), some (ab_I v1), some (ab_I v2), some (ab_I (ab_w32 (v3 + (1 : Int)))), some (ab_I (ab_w32 ((ab_w32 (v1 * (6 : Int))) + v3))), some (ab_I (ab_w32 ((ab_w32 (v2 * (6 : Int))) + v3)))]) dX5_areSame_81 rfl (Nat.le_of_ble_eq_true rfl) rfl rfl ?_
          refine ab_goto (pc := 84) (tgt := 19) dX5_areSame_84 rfl ?_
          refine ab_sub_ (lv2 := [some (ab_R v0), some (ab_I v1), some (ab_I v2), some (ab_I (ab_w32 (v3 + (1 : Int)))), none, none]) (ab_ss (ab_ss (ab_ss (ab_ss (ab_sn (ab_sn ab_s0)))))) ?_
          exact ih _ _ _ _ _ _ hk
        · have hk := ab_ifn hk hc
          refine ab_iconst (pc := 79) dX5_areSame_79 ab_k_0 ?_
          obtain rfl := Option.some.inj hk
          exact ab_retz (pc := 80) dX5_areSame_80 rfl rfl
noncomputable def f_X5_areSame (a0 : Int) (a1 : Int) (a2 : Int) (h : ab_H) : Option (Int × ab_H) :=
  (ab_get h 6 1 a0).bind fun t1 =>
  (ab_ald h 11 t1 a1).bind fun t2 =>
  (ab_get h 6 1 a0).bind fun t3 =>
  (ab_ald h 11 t3 a2).bind fun t4 =>
  if t2 = t4 then
    f_X5_areSame_L19 ab_FU a0 a1 a2 (0 : Int) h
  else
  some ((0 : Int), h)
set_option maxRecDepth 20000 in
theorem ct_X5_areSame {a0 a1 a2 : Int} {h : ab_H} {q : Int × ab_H} (hk : f_X5_areSame a0 a1 a2 h = some q) : ab_CT yX5_areSame cX5_areSame 6 (some .boolean) 0 0 [ab_R a0, ab_I a1, ab_I a2] h (some (ab_I q.1)) q.2 := by
  refine ab_CT.mk_ 3 (own := RX5) (ini := false) (lv := [some (ab_R a0), some (ab_I a1), some (ab_I a2), none, none, none]) rfl (by decide +kernel) (fun q => by cases q) rfl rfl ?_
  unfold f_X5_areSame at hk
  show ab_E mm_X5_areSame cX5_areSame 0 _ [] h _ _
  refine ab_aload_n (pc := 0) (i := 0) dX5_areSame_0 rfl rfl ?_
  obtain ⟨t1, ht1, hk⟩ := ab_bnd hk
  refine ab_getR (pc := 1) dX5_areSame_1 fl_RX5_9 ht1 ?_
  refine ab_iload_n (pc := 4) (i := 1) dX5_areSame_4 rfl rfl ?_
  obtain ⟨t2, ht2, hk⟩ := ab_bnd hk
  refine ab_iald (pc := 5) dX5_areSame_5 ht2 ?_
  refine ab_aload_n (pc := 6) (i := 0) dX5_areSame_6 rfl rfl ?_
  obtain ⟨t3, ht3, hk⟩ := ab_bnd hk
  refine ab_getR (pc := 7) dX5_areSame_7 fl_RX5_9 ht3 ?_
  refine ab_iload_n (pc := 10) (i := 2) dX5_areSame_10 rfl rfl ?_
  obtain ⟨t4, ht4, hk⟩ := ab_bnd hk
  refine ab_iald (pc := 11) dX5_areSame_11 ht4 ?_
  refine ab_icmp_eq (pc := 12) (tgt := 17) dX5_areSame_12 rfl (fun hc => ?_) (fun hc => ?_)
  · have hk := ab_ifp hk hc
    refine ab_iconst (pc := 17) dX5_areSame_17 ab_k_0 ?_
    refine ab_istore_n (pc := 18) (i := 3) (lv2 := [some (ab_R a0), some (ab_I a1), some (ab_I a2), some (ab_I (0 : Int)), none, none]) dX5_areSame_18 rfl (Nat.le_of_ble_eq_true rfl) rfl rfl ?_
    refine ab_sub_ (lv2 := [some (ab_R a0), some (ab_I a1), some (ab_I a2), some (ab_I (0 : Int)), none, none]) (ab_ss (ab_ss (ab_ss (ab_ss (ab_sn (ab_sn ab_s0)))))) ?_
    refine e_X5_areSame_L19 _ _ _ _ _ _ _ hk
  · have hk := ab_ifn hk hc
    refine ab_iconst (pc := 15) dX5_areSame_15 ab_k_0 ?_
    obtain rfl := Option.some.inj hk
    exact ab_retz (pc := 16) dX5_areSame_16 rfl rfl
theorem dX5_follow_0 : decode cX5_follow 0 = .ok (.iconst 0, 1) := by decide +kernel
theorem dX5_follow_1 : decode cX5_follow 1 = .ok (.istore_n 3, 1) := by decide +kernel
theorem dX5_follow_2 : decode cX5_follow 2 = .ok (.iload_n 3, 1) := by decide +kernel
theorem dX5_follow_3 : decode cX5_follow 3 = .ok (.aload_n 0, 1) := by decide +kernel
theorem dX5_follow_4 : decode cX5_follow 4 = .ok (.getfield 34, 3) := by decide +kernel
theorem dX5_follow_7 : decode cX5_follow 7 = .ok (.if_icmp .ge 65, 3) := by decide +kernel
theorem dX5_follow_10 : decode cX5_follow 10 = .ok (.iload_n 3, 1) := by decide +kernel
theorem dX5_follow_11 : decode cX5_follow 11 = .ok (.bipush 6, 2) := by decide +kernel
theorem dX5_follow_13 : decode cX5_follow 13 = .ok (.imul, 1) := by decide +kernel
theorem dX5_follow_14 : decode cX5_follow 14 = .ok (.iconst 1, 1) := by decide +kernel
theorem dX5_follow_15 : decode cX5_follow 15 = .ok (.iadd, 1) := by decide +kernel
theorem dX5_follow_16 : decode cX5_follow 16 = .ok (.istore 4, 2) := by decide +kernel
theorem dX5_follow_18 : decode cX5_follow 18 = .ok (.iload 4, 2) := by decide +kernel
theorem dX5_follow_20 : decode cX5_follow 20 = .ok (.iload_n 3, 1) := by decide +kernel
theorem dX5_follow_21 : decode cX5_follow 21 = .ok (.bipush 6, 2) := by decide +kernel
theorem dX5_follow_23 : decode cX5_follow 23 = .ok (.imul, 1) := by decide +kernel
theorem dX5_follow_24 : decode cX5_follow 24 = .ok (.aload_n 0, 1) := by decide +kernel
theorem dX5_follow_25 : decode cX5_follow 25 = .ok (.getfield 9, 3) := by decide +kernel
theorem dX5_follow_28 : decode cX5_follow 28 = .ok (.iload_n 3, 1) := by decide +kernel
theorem dX5_follow_29 : decode cX5_follow 29 = .ok (.iaload, 1) := by decide +kernel
theorem dX5_follow_30 : decode cX5_follow 30 = .ok (.iadd, 1) := by decide +kernel
theorem dX5_follow_31 : decode cX5_follow 31 = .ok (.if_icmp .ge 35, 3) := by decide +kernel
theorem dX5_follow_34 : decode cX5_follow 34 = .ok (.aload_n 0, 1) := by decide +kernel
theorem dX5_follow_35 : decode cX5_follow 35 = .ok (.getfield 18, 3) := by decide +kernel
theorem dX5_follow_38 : decode cX5_follow 38 = .ok (.iload 4, 2) := by decide +kernel
theorem dX5_follow_40 : decode cX5_follow 40 = .ok (.iconst 1, 1) := by decide +kernel
theorem dX5_follow_41 : decode cX5_follow 41 = .ok (.isub, 1) := by decide +kernel
theorem dX5_follow_42 : decode cX5_follow 42 = .ok (.iaload, 1) := by decide +kernel
theorem dX5_follow_43 : decode cX5_follow 43 = .ok (.iload_n 1, 1) := by decide +kernel
theorem dX5_follow_44 : decode cX5_follow 44 = .ok (.if_icmp .ne 16, 3) := by decide +kernel
theorem dX5_follow_47 : decode cX5_follow 47 = .ok (.aload_n 0, 1) := by decide +kernel
theorem dX5_follow_48 : decode cX5_follow 48 = .ok (.getfield 18, 3) := by decide +kernel
theorem dX5_follow_51 : decode cX5_follow 51 = .ok (.iload 4, 2) := by decide +kernel
theorem dX5_follow_53 : decode cX5_follow 53 = .ok (.iaload, 1) := by decide +kernel
theorem dX5_follow_54 : decode cX5_follow 54 = .ok (.iload_n 2, 1) := by decide +kernel
theorem dX5_follow_55 : decode cX5_follow 55 = .ok (.if_icmp .ne 5, 3) := by decide +kernel
theorem dX5_follow_58 : decode cX5_follow 58 = .ok (.iconst 1, 1) := by decide +kernel
theorem dX5_follow_59 : decode cX5_follow 59 = .ok (.ireturn, 1) := by decide +kernel
theorem dX5_follow_60 : decode cX5_follow 60 = .ok (.iinc 4 1, 3) := by decide +kernel
theorem dX5_follow_63 : decode cX5_follow 63 = .ok (.goto (-45), 3) := by decide +kernel
theorem dX5_follow_66 : decode cX5_follow 66 = .ok (.iinc 3 1, 3) := by decide +kernel
theorem dX5_follow_69 : decode cX5_follow 69 = .ok (.goto (-67), 3) := by decide +kernel
theorem dX5_follow_72 : decode cX5_follow 72 = .ok (.iconst 0, 1) := by decide +kernel
theorem dX5_follow_73 : decode cX5_follow 73 = .ok (.ireturn, 1) := by decide +kernel
abbrev mm_X5_follow : ab_M := (RX5, 5, (some .boolean), false, 0, 0, none)
noncomputable def f_X5_follow_J60 (rec : Int → Int → Int → Int → Int → ab_H → Option (Int × ab_H)) (k66 : Int → Int → Int → Int → ab_H → Option (Int × ab_H)) (v0 : Int) (v1 : Int) (v2 : Int) (v3 : Int) (v4 : Int) (h : ab_H) : Option (Int × ab_H) :=
  rec v0 v1 v2 v3 (ab_w32 (v4 + (1 : Int))) h
set_option maxRecDepth 20000 in
theorem e_X5_follow_J60 {rec : Int → Int → Int → Int → Int → ab_H → Option (Int × ab_H)} {k66 : Int → Int → Int → Int → ab_H → Option (Int × ab_H)} (hrec : ∀ (v0 : Int) (v1 : Int) (v2 : Int) (v3 : Int) (v4 : Int) (h : ab_H) (q : Int × ab_H), rec v0 v1 v2 v3 v4 h = some q → ab_E mm_X5_follow cX5_follow 18 [some (ab_R v0), some (ab_I v1), some (ab_I v2), some (ab_I v3), some (ab_I v4)] [] h (some (ab_I q.1)) q.2) (hk66 : ∀ (v0 : Int) (v1 : Int) (v2 : Int) (v3 : Int) (h : ab_H) (q : Int × ab_H), k66 v0 v1 v2 v3 h = some q → ab_E mm_X5_follow cX5_follow 66 [some (ab_R v0), some (ab_I v1), some (ab_I v2), some (ab_I v3), none] [] h (some (ab_I q.1)) q.2) : ∀ (v0 : Int) (v1 : Int) (v2 : Int) (v3 : Int) (v4 : Int) (h : ab_H) (q : Int × ab_H), f_X5_follow_J60 rec k66 v0 v1 v2 v3 v4 h = some q → ab_E mm_X5_follow cX5_follow 60 [some (ab_R v0), some (ab_I v1), some (ab_I v2), some (ab_I v3), some (ab_I v4)] [] h (some (ab_I q.1)) q.2 := by
  intro v0 v1 v2 v3 v4 h q hk
  unfold f_X5_follow_J60 at hk
  refine ab_iinc (pc := 60) (i := 4) (lv2 := [some (ab_R v0), some (ab_I v1), some (ab_I v2), some (ab_I v3), some (ab_I (ab_w32 (v4 + (1 : Int))))]) dX5_follow_60 rfl (Nat.le_of_ble_eq_true rfl) rfl rfl ?_
  refine ab_goto (pc := 63) (tgt := 18) dX5_follow_63 rfl ?_
  refine ab_sub_ (lv2 := [some (ab_R v0), some (ab_I v1), some (ab_I v2), some (ab_I v3), some (ab_I (ab_w32 (v4 + (1 : Int))))]) (ab_ss (ab_ss (ab_ss (ab_ss (ab_ss ab_s0))))) ?_
  exact hrec _ _ _ _ _ _ _ hk
noncomputable def f_X5_follow_L18 (k66 : Int → Int → Int → Int → ab_H → Option (Int × ab_H)) : Nat → Int → Int → Int → Int → Int → ab_H → Option (Int × ab_H)
  | 0, _, _, _, _, _, _ => none
  | n + 1, v0, v1, v2, v3, v4, h =>
    (ab_get h 6 1 v0).bind fun t1 =>
    (ab_ald h 11 t1 v3).bind fun t2 =>
    if ab_w32 ((ab_w32 (v3 * (6 : Int))) + t2) ≤ v4 then
      k66 v0 v1 v2 v3 h
    else
    (ab_get h 6 3 v0).bind fun t3 =>
    (ab_ald h 11 t3 (ab_w32 (v4 - (1 : Int)))).bind fun t4 =>
    if t4 = v1 then
      (ab_get h 6 3 v0).bind fun t5 =>
      (ab_ald h 11 t5 v4).bind fun t6 =>
      if t6 = v2 then
        some ((1 : Int), h)
      else
      f_X5_follow_J60 (f_X5_follow_L18 k66 n) k66 v0 v1 v2 v3 v4 h
    else
    f_X5_follow_J60 (f_X5_follow_L18 k66 n) k66 v0 v1 v2 v3 v4 h
set_option maxRecDepth 20000 in
theorem e_X5_follow_L18 {k66 : Int → Int → Int → Int → ab_H → Option (Int × ab_H)} (hk66 : ∀ (v0 : Int) (v1 : Int) (v2 : Int) (v3 : Int) (h : ab_H) (q : Int × ab_H), k66 v0 v1 v2 v3 h = some q → ab_E mm_X5_follow cX5_follow 66 [some (ab_R v0), some (ab_I v1), some (ab_I v2), some (ab_I v3), none] [] h (some (ab_I q.1)) q.2) : ∀ (n : Nat) (v0 : Int) (v1 : Int) (v2 : Int) (v3 : Int) (v4 : Int) (h : ab_H) (q : Int × ab_H), f_X5_follow_L18 k66 n v0 v1 v2 v3 v4 h = some q → ab_E mm_X5_follow cX5_follow 18 [some (ab_R v0), some (ab_I v1), some (ab_I v2), some (ab_I v3), some (ab_I v4)] [] h (some (ab_I q.1)) q.2 := by
  intro n
  induction n with
  | zero => intro v0 v1 v2 v3 v4 h q hk; cases hk
  | succ n ih =>
    intro v0 v1 v2 v3 v4 h q hk
    unfold f_X5_follow_L18 at hk
    refine ab_iload (pc := 18) (i := 4) dX5_follow_18 rfl ?_
    refine ab_iload_n (pc := 20) (i := 3) dX5_follow_20 rfl rfl ?_
    refine ab_bipush (pc := 21) dX5_follow_21 ab_p8_6 ab_k_6 ?_
    refine ab_imul (pc := 23) dX5_follow_23 ?_
    refine ab_aload_n (pc := 24) (i := 0) dX5_follow_24 rfl rfl ?_
    obtain ⟨t1, ht1, hk⟩ := ab_bnd hk
    refine ab_getR (pc := 25) dX5_follow_25 fl_RX5_9 ht1 ?_
    refine ab_iload_n (pc := 28) (i := 3) dX5_follow_28 rfl rfl ?_
    obtain ⟨t2, ht2, hk⟩ := ab_bnd hk
    refine ab_iald (pc := 29) dX5_follow_29 ht2 ?_
    refine ab_iadd (pc := 30) dX5_follow_30 ?_
    refine ab_icmp_ge (pc := 31) (tgt := 66) dX5_follow_31 rfl (fun hc => ?_) (fun hc => ?_)
    · have hk := ab_ifp hk hc
      refine ab_sub_ (lv2 := [some (ab_R v0), some (ab_I v1), some (ab_I v2), some (ab_I v3), none]) (ab_ss (ab_ss (ab_ss (ab_ss (ab_sn ab_s0))))) ?_
      exact hk66 _ _ _ _ _ _ hk
    · have hk := ab_ifn hk hc
      refine ab_aload_n (pc := 34) (i := 0) dX5_follow_34 rfl rfl ?_
      obtain ⟨t3, ht3, hk⟩ := ab_bnd hk
      refine ab_getR (pc := 35) dX5_follow_35 fl_RX5_18 ht3 ?_
      refine ab_iload (pc := 38) (i := 4) dX5_follow_38 rfl ?_
      refine ab_iconst (pc := 40) dX5_follow_40 ab_k_1 ?_
      refine ab_isub (pc := 41) dX5_follow_41 ?_
      obtain ⟨t4, ht4, hk⟩ := ab_bnd hk
      refine ab_iald (pc := 42) dX5_follow_42 ht4 ?_
      refine ab_iload_n (pc := 43) (i := 1) dX5_follow_43 rfl rfl ?_
      refine ab_icmp_ne (pc := 44) (tgt := 60) dX5_follow_44 rfl (fun hc => ?_) (fun hc => ?_)
      · have hk := ab_ifn hk hc
        refine ab_sub_ (lv2 := [some (ab_R v0), some (ab_I v1), some (ab_I v2), some (ab_I v3), some (ab_I v4)]) (ab_ss (ab_ss (ab_ss (ab_ss (ab_ss ab_s0))))) ?_
        exact e_X5_follow_J60 ih hk66 _ _ _ _ _ _ _ hk
      · have hk := ab_ifp hk hc
        refine ab_aload_n (pc := 47) (i := 0) dX5_follow_47 rfl rfl ?_
        obtain ⟨t5, ht5, hk⟩ := ab_bnd hk
        refine ab_getR (pc := 48) dX5_follow_48 fl_RX5_18 ht5 ?_
        refine ab_iload (pc := 51) (i := 4) dX5_follow_51 rfl ?_
        obtain ⟨t6, ht6, hk⟩ := ab_bnd hk
        refine ab_iald (pc := 53) dX5_follow_53 ht6 ?_
        refine ab_iload_n (pc := 54) (i := 2) dX5_follow_54 rfl rfl ?_
        refine ab_icmp_ne (pc := 55) (tgt := 60) dX5_follow_55 rfl (fun hc => ?_) (fun hc => ?_)
        · have hk := ab_ifn hk hc
          refine ab_sub_ (lv2 := [some (ab_R v0), some (ab_I v1), some (ab_I v2), some (ab_I v3), some (ab_I v4)]) (ab_ss (ab_ss (ab_ss (ab_ss (ab_ss ab_s0))))) ?_
          exact e_X5_follow_J60 ih hk66 _ _ _ _ _ _ _ hk
        · have hk := ab_ifp hk hc
          refine ab_iconst (pc := 58) dX5_follow_58 ab_k_1 ?_
          obtain rfl := Option.some.inj hk
          exact ab_retz (pc := 59) dX5_follow_59 rfl rfl
noncomputable def f_X5_follow_L2 : Nat → Int → Int → Int → Int → ab_H → Option (Int × ab_H)
  | 0, _, _, _, _, _ => none
  | n + 1, v0, v1, v2, v3, h =>
    (ab_get h 6 0 v0).bind fun t1 =>
    if t1 ≤ v3 then
      some ((0 : Int), h)
    else
    f_X5_follow_L18 (fun w66_0 w66_1 w66_2 w66_3 hx66 =>
      f_X5_follow_L2 n w66_0 w66_1 w66_2 (ab_w32 (w66_3 + (1 : Int))) hx66) ab_FU v0 v1 v2 v3 (ab_w32 ((ab_w32 (v3 * (6 : Int))) + (1 : Int))) h
set_option maxRecDepth 20000 in
theorem e_X5_follow_L2 : ∀ (n : Nat) (v0 : Int) (v1 : Int) (v2 : Int) (v3 : Int) (h : ab_H) (q : Int × ab_H), f_X5_follow_L2 n v0 v1 v2 v3 h = some q → ab_E mm_X5_follow cX5_follow 2 [some (ab_R v0), some (ab_I v1), some (ab_I v2), some (ab_I v3), none] [] h (some (ab_I q.1)) q.2 := by
  intro n
  induction n with
  | zero => intro v0 v1 v2 v3 h q hk; cases hk
  | succ n ih =>
    intro v0 v1 v2 v3 h q hk
    unfold f_X5_follow_L2 at hk
    refine ab_iload_n (pc := 2) (i := 3) dX5_follow_2 rfl rfl ?_
    refine ab_aload_n (pc := 3) (i := 0) dX5_follow_3 rfl rfl ?_
    obtain ⟨t1, ht1, hk⟩ := ab_bnd hk
    refine ab_getI (pc := 4) dX5_follow_4 fl_RX5_34 ht1 ?_
    refine ab_icmp_ge (pc := 7) (tgt := 72) dX5_follow_7 rfl (fun hc => ?_) (fun hc => ?_)
    · have hk := ab_ifp hk hc
      refine ab_iconst (pc := 72) dX5_follow_72 ab_k_0 ?_
      obtain rfl := Option.some.inj hk
      exact ab_retz (pc := 73) dX5_follow_73 rfl rfl
    · have hk := ab_ifn hk hc
      refine ab_iload_n (pc := 10) (i := 3) dX5_follow_10 rfl rfl ?_
      refine ab_bipush (pc := 11) dX5_follow_11 ab_p8_6 ab_k_6 ?_
      refine ab_imul (pc := 13) dX5_follow_13 ?_
      refine ab_iconst (pc := 14) dX5_follow_14 ab_k_1 ?_
      refine ab_iadd (pc := 15) dX5_follow_15 ?_
      refine ab_istore (pc := 16) (i := 4) (lv2 := [some (ab_R v0), some (ab_I v1), some (ab_I v2), some (ab_I v3), some (ab_I (ab_w32 ((ab_w32 (v3 * (6 : Int))) + (1 : Int))))]) dX5_follow_16 (Nat.le_of_ble_eq_true rfl) rfl rfl ?_
      refine ab_sub_ (lv2 := [some (ab_R v0), some (ab_I v1), some (ab_I v2), some (ab_I v3), some (ab_I (ab_w32 ((ab_w32 (v3 * (6 : Int))) + (1 : Int))))]) (ab_ss (ab_ss (ab_ss (ab_ss (ab_ss ab_s0))))) ?_
      refine e_X5_follow_L18 (fun w66_0 w66_1 w66_2 w66_3 hx66 q hk => ?_) _ _ _ _ _ _ _ _ hk
      · skip
        refine ab_iinc (pc := 66) (i := 3) (lv2 := [some (ab_R w66_0), some (ab_I w66_1), some (ab_I w66_2), some (ab_I (ab_w32 (w66_3 + (1 : Int)))), none]) dX5_follow_66 rfl (Nat.le_of_ble_eq_true rfl) rfl rfl ?_
        refine ab_goto (pc := 69) (tgt := 2) dX5_follow_69 rfl ?_
        refine ab_sub_ (lv2 := [some (ab_R w66_0), some (ab_I w66_1), some (ab_I w66_2), some (ab_I (ab_w32 (w66_3 + (1 : Int)))), none]) (ab_ss (ab_ss (ab_ss (ab_ss (ab_sn ab_s0))))) ?_
        exact ih _ _ _ _ _ _ hk
noncomputable def f_X5_follow (a0 : Int) (a1 : Int) (a2 : Int) (h : ab_H) : Option (Int × ab_H) :=
  f_X5_follow_L2 ab_FU a0 a1 a2 (0 : Int) h
set_option maxRecDepth 20000 in
theorem ct_X5_follow {a0 a1 a2 : Int} {h : ab_H} {q : Int × ab_H} (hk : f_X5_follow a0 a1 a2 h = some q) : ab_CT yX5_follow cX5_follow 5 (some .boolean) 0 0 [ab_R a0, ab_I a1, ab_I a2] h (some (ab_I q.1)) q.2 := by
  refine ab_CT.mk_ 2 (own := RX5) (ini := false) (lv := [some (ab_R a0), some (ab_I a1), some (ab_I a2), none, none]) rfl (by decide +kernel) (fun q => by cases q) rfl rfl ?_
  unfold f_X5_follow at hk
  show ab_E mm_X5_follow cX5_follow 0 _ [] h _ _
  refine ab_iconst (pc := 0) dX5_follow_0 ab_k_0 ?_
  refine ab_istore_n (pc := 1) (i := 3) (lv2 := [some (ab_R a0), some (ab_I a1), some (ab_I a2), some (ab_I (0 : Int)), none]) dX5_follow_1 rfl (Nat.le_of_ble_eq_true rfl) rfl rfl ?_
  refine ab_sub_ (lv2 := [some (ab_R a0), some (ab_I a1), some (ab_I a2), some (ab_I (0 : Int)), none]) (ab_ss (ab_ss (ab_ss (ab_ss (ab_sn ab_s0))))) ?_
  refine e_X5_follow_L2 _ _ _ _ _ _ _ hk
