theorem dX6_init_0 : decode cX6_init 0 = .ok (.aload_n 0, 1) := by decide +kernel
theorem dX6_init_1 : decode cX6_init 1 = .ok (.invokespecial 3, 3) := by decide +kernel
theorem dX6_init_4 : decode cX6_init 4 = .ok (.aload_n 0, 1) := by decide +kernel
theorem dX6_init_5 : decode cX6_init 5 = .ok (.bipush 72, 2) := by decide +kernel
theorem dX6_init_7 : decode cX6_init 7 = .ok (.anewarray 9, 3) := by decide +kernel
theorem dX6_init_10 : decode cX6_init 10 = .ok (.putfield 11, 3) := by decide +kernel
theorem dX6_init_13 : decode cX6_init 13 = .ok (.aload_n 0, 1) := by decide +kernel
theorem dX6_init_14 : decode cX6_init 14 = .ok (.bipush 73, 2) := by decide +kernel
theorem dX6_init_16 : decode cX6_init 16 = .ok (.newarray .int, 2) := by decide +kernel
theorem dX6_init_18 : decode cX6_init 18 = .ok (.putfield 17, 3) := by decide +kernel
theorem dX6_init_21 : decode cX6_init 21 = .ok (.aload_n 0, 1) := by decide +kernel
theorem dX6_init_22 : decode cX6_init 22 = .ok (.bipush 73, 2) := by decide +kernel
theorem dX6_init_24 : decode cX6_init 24 = .ok (.newarray .int, 2) := by decide +kernel
theorem dX6_init_26 : decode cX6_init 26 = .ok (.putfield 21, 3) := by decide +kernel
theorem dX6_init_29 : decode cX6_init 29 = .ok (.iconst 0, 1) := by decide +kernel
theorem dX6_init_30 : decode cX6_init 30 = .ok (.istore_n 1, 1) := by decide +kernel
theorem dX6_init_31 : decode cX6_init 31 = .ok (.iload_n 1, 1) := by decide +kernel
theorem dX6_init_32 : decode cX6_init 32 = .ok (.bipush 72, 2) := by decide +kernel
theorem dX6_init_34 : decode cX6_init 34 = .ok (.if_icmp .ge 22, 3) := by decide +kernel
theorem dX6_init_37 : decode cX6_init 37 = .ok (.aload_n 0, 1) := by decide +kernel
theorem dX6_init_38 : decode cX6_init 38 = .ok (.getfield 11, 3) := by decide +kernel
theorem dX6_init_41 : decode cX6_init 41 = .ok (.iload_n 1, 1) := by decide +kernel
theorem dX6_init_42 : decode cX6_init 42 = .ok (.new 9, 3) := by decide +kernel
theorem dX6_init_45 : decode cX6_init 45 = .ok (.dup, 1) := by decide +kernel
theorem dX6_init_46 : decode cX6_init 46 = .ok (.invokespecial 24, 3) := by decide +kernel
theorem dX6_init_49 : decode cX6_init 49 = .ok (.aastore, 1) := by decide +kernel
theorem dX6_init_50 : decode cX6_init 50 = .ok (.iinc 1 1, 3) := by decide +kernel
theorem dX6_init_53 : decode cX6_init 53 = .ok (.goto (-22), 3) := by decide +kernel
theorem dX6_init_56 : decode cX6_init 56 = .ok (.return_, 1) := by decide +kernel
abbrev mm_X6_init : ab_M := (RX6, 2, none, true, 2, 40, none)
noncomputable def f_X6_init_L31 : Nat → Int → Int → ab_H → Option ab_H
  | 0, _, _, _ => none
  | n + 1, v0, v1, h =>
    if (72 : Int) ≤ v1 then
      some h
    else
    (ab_get h 7 0 v0).bind fun t1 =>
    (ab_mkO h 2).bind fun h1 =>
    (ab_if (decide (0 < ab_nx h)) (f_X2_init (ab_nx h) h1)).bind fun q2 =>
    (ab_astR q2 15 3 t1 v1 (ab_nx h)).bind fun h2 =>
    f_X6_init_L31 n v0 (ab_w32 (v1 + (1 : Int))) h2
set_option maxRecDepth 20000 in
theorem e_X6_init_L31 : ∀ (n : Nat) (v0 : Int) (v1 : Int) (h : ab_H) (q : ab_H), f_X6_init_L31 n v0 v1 h = some q → ab_E mm_X6_init cX6_init 31 [some (ab_R v0), some (ab_I v1)] [] h none q := by
  intro n
  induction n with
  | zero => intro v0 v1 h q hk; cases hk
  | succ n ih =>
    intro v0 v1 h q hk
    unfold f_X6_init_L31 at hk
    refine ab_iload_n (pc := 31) (i := 1) dX6_init_31 rfl rfl ?_
    refine ab_bipush (pc := 32) dX6_init_32 ab_p8_72 ab_k_72 ?_
    refine ab_icmp_ge (pc := 34) (tgt := 56) dX6_init_34 rfl (fun hc => ?_) (fun hc => ?_)
    · have hk := ab_ifp hk hc
      obtain rfl := Option.some.inj hk
      exact ab_retv (pc := 56) dX6_init_56 rfl
    · have hk := ab_ifn hk hc
      refine ab_aload_n (pc := 37) (i := 0) dX6_init_37 rfl rfl ?_
      obtain ⟨t1, ht1, hk⟩ := ab_bnd hk
      refine ab_getR (pc := 38) dX6_init_38 fl_RX6_11 ht1 ?_
      refine ab_iload_n (pc := 41) (i := 1) dX6_init_41 rfl rfl ?_
      obtain ⟨h1, hh1, hk⟩ := ab_bnd hk
      refine ab_newO (pc := 42) dX6_init_42 nw_RX6_9 hh1 ?_
      refine ab_dup (pc := 45) dX6_init_45 rfl ?_
      obtain ⟨q2, hq2, hk⟩ := ab_bnd hk
      obtain ⟨hb, hq2⟩ := ab_if_some hq2
      refine ab_callI_ (st := [ab_R (ab_nx h), ab_I v1, ab_R t1]) (as := []) (b := ab_nx h) (pc := 46) dX6_init_46 ml_RX6_24 my_X2_init mi_X2_init hb (ct_X2_init hq2) ⟨Nat.le_of_ble_eq_true rfl, Nat.le_of_ble_eq_true rfl⟩ rfl (Nat.le_of_ble_eq_true rfl) rfl ?_
      obtain ⟨h2, hh2, hk⟩ := ab_bnd hk
      refine ab_aastR (pc := 49) dX6_init_49 (by decide) hh2 ?_
      refine ab_iinc (pc := 50) (i := 1) (lv2 := [some (ab_R v0), some (ab_I (ab_w32 (v1 + (1 : Int))))]) dX6_init_50 rfl (Nat.le_of_ble_eq_true rfl) rfl rfl ?_
      refine ab_goto (pc := 53) (tgt := 31) dX6_init_53 rfl ?_
      refine ab_sub_ (lv2 := [some (ab_R v0), some (ab_I (ab_w32 (v1 + (1 : Int))))]) (ab_ss (ab_ss ab_s0)) ?_
      exact ih _ _ _ _ hk
noncomputable def f_X6_init (a0 : Int) (h : ab_H) : Option ab_H :=
  ab_if (decide (0 < a0)) <|
  (ab_mkA h 15 (72 : Int)).bind fun h1 =>
  (ab_putR h1 7 0 a0 (ab_nx h)).bind fun h2 =>
  (ab_mkA h2 11 (73 : Int)).bind fun h3 =>
  (ab_putR h3 7 2 a0 (ab_nx h2)).bind fun h4 =>
  (ab_mkA h4 11 (73 : Int)).bind fun h5 =>
  (ab_putR h5 7 4 a0 (ab_nx h4)).bind fun h6 =>
  f_X6_init_L31 ab_FU a0 (0 : Int) h6
set_option maxRecDepth 20000 in
theorem ct_X6_init {a0 : Int} {h : ab_H} {q : ab_H} (hk : f_X6_init a0 h = some q) : ab_CT yX6_init cX6_init 2 none 2 40 [ab_R a0] h none q := by
  refine ab_CT.mk_ 1 (own := RX6) (ini := true) (lv := [some (ab_R a0), none]) rfl (by decide +kernel) (fun _ => rfl) rfl rfl ?_
  unfold f_X6_init at hk
  show ab_E mm_X6_init cX6_init 0 _ [] h _ _
  refine ab_aload_n (pc := 0) (i := 0) dX6_init_0 rfl rfl ?_
  obtain ⟨hg, hk⟩ := ab_if_some hk
  refine ab_obj0_ (pc := 1) dX6_init_1 ob_RX6_3 hg (Nat.le_of_ble_eq_true rfl) (Nat.le_of_ble_eq_true rfl) (Nat.le_of_ble_eq_true rfl) ?_
  refine ab_aload_n (pc := 4) (i := 0) dX6_init_4 rfl rfl ?_
  refine ab_bipush (pc := 5) dX6_init_5 ab_p8_72 ab_k_72 ?_
  obtain ⟨h1, hh1, hk⟩ := ab_bnd hk
  refine ab_newQ (C := RX2) (pc := 7) dX6_init_7 (by decide) nq_RX6_9 hh1 ?_
  obtain ⟨h2, hh2, hk⟩ := ab_bnd hk
  refine ab_putR_ (pc := 10) dX6_init_10 fl_RX6_11 (fun _ => ⟨rfl, rfl⟩) hh2 ?_
  refine ab_aload_n (pc := 13) (i := 0) dX6_init_13 rfl rfl ?_
  refine ab_bipush (pc := 14) dX6_init_14 ab_p8_73 ab_k_73 ?_
  obtain ⟨h3, hh3, hk⟩ := ab_bnd hk
  refine ab_newA (pc := 16) dX6_init_16 (by decide) ab_ac_int hh3 ?_
  obtain ⟨h4, hh4, hk⟩ := ab_bnd hk
  refine ab_putR_ (pc := 18) dX6_init_18 fl_RX6_17 (fun _ => ⟨rfl, rfl⟩) hh4 ?_
  refine ab_aload_n (pc := 21) (i := 0) dX6_init_21 rfl rfl ?_
  refine ab_bipush (pc := 22) dX6_init_22 ab_p8_73 ab_k_73 ?_
  obtain ⟨h5, hh5, hk⟩ := ab_bnd hk
  refine ab_newA (pc := 24) dX6_init_24 (by decide) ab_ac_int hh5 ?_
  obtain ⟨h6, hh6, hk⟩ := ab_bnd hk
  refine ab_putR_ (pc := 26) dX6_init_26 fl_RX6_21 (fun _ => ⟨rfl, rfl⟩) hh6 ?_
  refine ab_iconst (pc := 29) dX6_init_29 ab_k_0 ?_
  refine ab_istore_n (pc := 30) (i := 1) (lv2 := [some (ab_R a0), some (ab_I (0 : Int))]) dX6_init_30 rfl (Nat.le_of_ble_eq_true rfl) rfl rfl ?_
  refine ab_sub_ (lv2 := [some (ab_R a0), some (ab_I (0 : Int))]) (ab_ss (ab_ss ab_s0)) ?_
  refine e_X6_init_L31 _ _ _ _ _ hk
theorem dX6_addEntry_0 : decode cX6_addEntry 0 = .ok (.aload_n 0, 1) := by decide +kernel
theorem dX6_addEntry_1 : decode cX6_addEntry 1 = .ok (.getfield 25, 3) := by decide +kernel
theorem dX6_addEntry_4 : decode cX6_addEntry 4 = .ok (.bipush 72, 2) := by decide +kernel
theorem dX6_addEntry_6 : decode cX6_addEntry 6 = .ok (.if_icmp .lt 4, 3) := by decide +kernel
theorem dX6_addEntry_9 : decode cX6_addEntry 9 = .ok (.return_, 1) := by decide +kernel
theorem dX6_addEntry_10 : decode cX6_addEntry 10 = .ok (.aload_n 0, 1) := by decide +kernel
theorem dX6_addEntry_11 : decode cX6_addEntry 11 = .ok (.getfield 11, 3) := by decide +kernel
theorem dX6_addEntry_14 : decode cX6_addEntry 14 = .ok (.aload_n 0, 1) := by decide +kernel
theorem dX6_addEntry_15 : decode cX6_addEntry 15 = .ok (.getfield 25, 3) := by decide +kernel
theorem dX6_addEntry_18 : decode cX6_addEntry 18 = .ok (.aaload, 1) := by decide +kernel
theorem dX6_addEntry_19 : decode cX6_addEntry 19 = .ok (.astore 5, 2) := by decide +kernel
theorem dX6_addEntry_21 : decode cX6_addEntry 21 = .ok (.aload 5, 2) := by decide +kernel
theorem dX6_addEntry_23 : decode cX6_addEntry 23 = .ok (.iload_n 3, 1) := by decide +kernel
theorem dX6_addEntry_24 : decode cX6_addEntry 24 = .ok (.putfield 45, 3) := by decide +kernel
theorem dX6_addEntry_27 : decode cX6_addEntry 27 = .ok (.aload 5, 2) := by decide +kernel
theorem dX6_addEntry_29 : decode cX6_addEntry 29 = .ok (.aload_n 1, 1) := by decide +kernel
theorem dX6_addEntry_30 : decode cX6_addEntry 30 = .ok (.getfield 48, 3) := by decide +kernel
theorem dX6_addEntry_33 : decode cX6_addEntry 33 = .ok (.iload_n 3, 1) := by decide +kernel
theorem dX6_addEntry_34 : decode cX6_addEntry 34 = .ok (.iaload, 1) := by decide +kernel
theorem dX6_addEntry_35 : decode cX6_addEntry 35 = .ok (.putfield 51, 3) := by decide +kernel
theorem dX6_addEntry_38 : decode cX6_addEntry 38 = .ok (.aload 5, 2) := by decide +kernel
theorem dX6_addEntry_40 : decode cX6_addEntry 40 = .ok (.iload 4, 2) := by decide +kernel
theorem dX6_addEntry_42 : decode cX6_addEntry 42 = .ok (.putfield 54, 3) := by decide +kernel
theorem dX6_addEntry_45 : decode cX6_addEntry 45 = .ok (.aload 5, 2) := by decide +kernel
theorem dX6_addEntry_47 : decode cX6_addEntry 47 = .ok (.aload_n 1, 1) := by decide +kernel
theorem dX6_addEntry_48 : decode cX6_addEntry 48 = .ok (.getfield 57, 3) := by decide +kernel
theorem dX6_addEntry_51 : decode cX6_addEntry 51 = .ok (.aload_n 1, 1) := by decide +kernel
theorem dX6_addEntry_52 : decode cX6_addEntry 52 = .ok (.getfield 60, 3) := by decide +kernel
theorem dX6_addEntry_55 : decode cX6_addEntry 55 = .ok (.iload_n 3, 1) := by decide +kernel
theorem dX6_addEntry_56 : decode cX6_addEntry 56 = .ok (.bipush 6, 2) := by decide +kernel
theorem dX6_addEntry_58 : decode cX6_addEntry 58 = .ok (.imul, 1) := by decide +kernel
theorem dX6_addEntry_59 : decode cX6_addEntry 59 = .ok (.iload 4, 2) := by decide +kernel
theorem dX6_addEntry_61 : decode cX6_addEntry 61 = .ok (.iadd, 1) := by decide +kernel
theorem dX6_addEntry_62 : decode cX6_addEntry 62 = .ok (.iaload, 1) := by decide +kernel
theorem dX6_addEntry_63 : decode cX6_addEntry 63 = .ok (.iaload, 1) := by decide +kernel
theorem dX6_addEntry_64 : decode cX6_addEntry 64 = .ok (.aload_n 2, 1) := by decide +kernel
theorem dX6_addEntry_65 : decode cX6_addEntry 65 = .ok (.invokevirtual 63, 3) := by decide +kernel
theorem dX6_addEntry_68 : decode cX6_addEntry 68 = .ok (.aload_n 0, 1) := by decide +kernel
theorem dX6_addEntry_69 : decode cX6_addEntry 69 = .ok (.getfield 25, 3) := by decide +kernel
theorem dX6_addEntry_72 : decode cX6_addEntry 72 = .ok (.istore 6, 2) := by decide +kernel
theorem dX6_addEntry_74 : decode cX6_addEntry 74 = .ok (.iload 6, 2) := by decide +kernel
theorem dX6_addEntry_76 : decode cX6_addEntry 76 = .ok (.ifCond .le 42, 3) := by decide +kernel
theorem dX6_addEntry_79 : decode cX6_addEntry 79 = .ok (.aload_n 0, 1) := by decide +kernel
theorem dX6_addEntry_80 : decode cX6_addEntry 80 = .ok (.getfield 11, 3) := by decide +kernel
theorem dX6_addEntry_83 : decode cX6_addEntry 83 = .ok (.iload 6, 2) := by decide +kernel
theorem dX6_addEntry_85 : decode cX6_addEntry 85 = .ok (.iconst 1, 1) := by decide +kernel
theorem dX6_addEntry_86 : decode cX6_addEntry 86 = .ok (.isub, 1) := by decide +kernel
theorem dX6_addEntry_87 : decode cX6_addEntry 87 = .ok (.aaload, 1) := by decide +kernel
theorem dX6_addEntry_88 : decode cX6_addEntry 88 = .ok (.aload 5, 2) := by decide +kernel
theorem dX6_addEntry_90 : decode cX6_addEntry 90 = .ok (.invokevirtual 67, 3) := by decide +kernel
theorem dX6_addEntry_93 : decode cX6_addEntry 93 = .ok (.ifCond .le 25, 3) := by decide +kernel
theorem dX6_addEntry_96 : decode cX6_addEntry 96 = .ok (.aload_n 0, 1) := by decide +kernel
theorem dX6_addEntry_97 : decode cX6_addEntry 97 = .ok (.getfield 11, 3) := by decide +kernel
theorem dX6_addEntry_100 : decode cX6_addEntry 100 = .ok (.iload 6, 2) := by decide +kernel
theorem dX6_addEntry_102 : decode cX6_addEntry 102 = .ok (.aload_n 0, 1) := by decide +kernel
theorem dX6_addEntry_103 : decode cX6_addEntry 103 = .ok (.getfield 11, 3) := by decide +kernel
theorem dX6_addEntry_106 : decode cX6_addEntry 106 = .ok (.iload 6, 2) := by decide +kernel
theorem dX6_addEntry_108 : decode cX6_addEntry 108 = .ok (.iconst 1, 1) := by decide +kernel
theorem dX6_addEntry_109 : decode cX6_addEntry 109 = .ok (.isub, 1) := by decide +kernel
theorem dX6_addEntry_110 : decode cX6_addEntry 110 = .ok (.aaload, 1) := by decide +kernel
theorem dX6_addEntry_111 : decode cX6_addEntry 111 = .ok (.aastore, 1) := by decide +kernel
theorem dX6_addEntry_112 : decode cX6_addEntry 112 = .ok (.iinc 6 (-1), 3) := by decide +kernel
theorem dX6_addEntry_115 : decode cX6_addEntry 115 = .ok (.goto (-41), 3) := by decide +kernel
theorem dX6_addEntry_118 : decode cX6_addEntry 118 = .ok (.aload_n 0, 1) := by decide +kernel
theorem dX6_addEntry_119 : decode cX6_addEntry 119 = .ok (.getfield 11, 3) := by decide +kernel
theorem dX6_addEntry_122 : decode cX6_addEntry 122 = .ok (.iload 6, 2) := by decide +kernel
theorem dX6_addEntry_124 : decode cX6_addEntry 124 = .ok (.aload 5, 2) := by decide +kernel
theorem dX6_addEntry_126 : decode cX6_addEntry 126 = .ok (.aastore, 1) := by decide +kernel
theorem dX6_addEntry_127 : decode cX6_addEntry 127 = .ok (.aload_n 0, 1) := by decide +kernel
theorem dX6_addEntry_128 : decode cX6_addEntry 128 = .ok (.dup, 1) := by decide +kernel
theorem dX6_addEntry_129 : decode cX6_addEntry 129 = .ok (.getfield 25, 3) := by decide +kernel
theorem dX6_addEntry_132 : decode cX6_addEntry 132 = .ok (.iconst 1, 1) := by decide +kernel
theorem dX6_addEntry_133 : decode cX6_addEntry 133 = .ok (.iadd, 1) := by decide +kernel
theorem dX6_addEntry_134 : decode cX6_addEntry 134 = .ok (.putfield 25, 3) := by decide +kernel
theorem dX6_addEntry_137 : decode cX6_addEntry 137 = .ok (.return_, 1) := by decide +kernel
abbrev mm_X6_addEntry : ab_M := (RX6, 7, none, false, 3, 69, none)
noncomputable def f_X6_addEntry_J118 (v0 : Int) (v5 : Int) (v6 : Int) (h : ab_H) : Option ab_H :=
  (ab_get h 7 0 v0).bind fun t1 =>
  (ab_astR h 15 3 t1 v6 v5).bind fun h1 =>
  (ab_get h1 7 1 v0).bind fun t2 =>
  (ab_put h1 7 1 v0 (ab_w32 (t2 + (1 : Int)))).bind fun h2 =>
  some h2
set_option maxRecDepth 20000 in
theorem e_X6_addEntry_J118 : ∀ (v0 : Int) (v5 : Int) (v6 : Int) (h : ab_H) (q : ab_H), f_X6_addEntry_J118 v0 v5 v6 h = some q → ab_E mm_X6_addEntry cX6_addEntry 118 [some (ab_R v0), none, none, none, none, some (ab_R v5), some (ab_I v6)] [] h none q := by
  intro v0 v5 v6 h q hk
  unfold f_X6_addEntry_J118 at hk
  refine ab_aload_n (pc := 118) (i := 0) dX6_addEntry_118 rfl rfl ?_
  obtain ⟨t1, ht1, hk⟩ := ab_bnd hk
  refine ab_getR (pc := 119) dX6_addEntry_119 fl_RX6_11 ht1 ?_
  refine ab_iload (pc := 122) (i := 6) dX6_addEntry_122 rfl ?_
  refine ab_aload (pc := 124) (i := 5) dX6_addEntry_124 rfl ?_
  obtain ⟨h1, hh1, hk⟩ := ab_bnd hk
  refine ab_aastR (pc := 126) dX6_addEntry_126 (by decide) hh1 ?_
  refine ab_aload_n (pc := 127) (i := 0) dX6_addEntry_127 rfl rfl ?_
  refine ab_dup (pc := 128) dX6_addEntry_128 rfl ?_
  obtain ⟨t2, ht2, hk⟩ := ab_bnd hk
  refine ab_getI (pc := 129) dX6_addEntry_129 fl_RX6_25 ht2 ?_
  refine ab_iconst (pc := 132) dX6_addEntry_132 ab_k_1 ?_
  refine ab_iadd (pc := 133) dX6_addEntry_133 ?_
  obtain ⟨h2, hh2, hk⟩ := ab_bnd hk
  refine ab_putI_ (pc := 134) dX6_addEntry_134 fl_RX6_25 (fun q => by cases q) hh2 ?_
  obtain rfl := Option.some.inj hk
  exact ab_retv (pc := 137) dX6_addEntry_137 rfl
noncomputable def f_X6_addEntry_L74 (k118 : Int → Int → Int → ab_H → Option ab_H) : Nat → Int → Int → Int → ab_H → Option ab_H
  | 0, _, _, _, _ => none
  | n + 1, v0, v5, v6, h =>
    if v6 ≤ (0 : Int) then
      k118 v0 v5 v6 h
    else
    (ab_get h 7 0 v0).bind fun t1 =>
    (ab_ald h 15 t1 (ab_w32 (v6 - (1 : Int)))).bind fun t2 =>
    (ab_on h 3 t2 (f_X2_compare t2 v5 h)).bind fun q3 =>
    if q3.1 ≤ (0 : Int) then
      k118 v0 v5 v6 q3.2
    else
    (ab_get q3.2 7 0 v0).bind fun t4 =>
    (ab_get q3.2 7 0 v0).bind fun t5 =>
    (ab_ald q3.2 15 t5 (ab_w32 (v6 - (1 : Int)))).bind fun t6 =>
    (ab_astR q3.2 15 3 t4 v6 t6).bind fun h1 =>
    f_X6_addEntry_L74 k118 n v0 v5 (ab_w32 (v6 + (-1 : Int))) h1
set_option maxRecDepth 20000 in
theorem e_X6_addEntry_L74 {k118 : Int → Int → Int → ab_H → Option ab_H} (hk118 : ∀ (v0 : Int) (v5 : Int) (v6 : Int) (h : ab_H) (q : ab_H), k118 v0 v5 v6 h = some q → ab_E mm_X6_addEntry cX6_addEntry 118 [some (ab_R v0), none, none, none, none, some (ab_R v5), some (ab_I v6)] [] h none q) : ∀ (n : Nat) (v0 : Int) (v5 : Int) (v6 : Int) (h : ab_H) (q : ab_H), f_X6_addEntry_L74 k118 n v0 v5 v6 h = some q → ab_E mm_X6_addEntry cX6_addEntry 74 [some (ab_R v0), none, none, none, none, some (ab_R v5), some (ab_I v6)] [] h none q := by
  intro n
  induction n with
  | zero => intro v0 v5 v6 h q hk; cases hk
  | succ n ih =>
    intro v0 v5 v6 h q hk
    unfold f_X6_addEntry_L74 at hk
    refine ab_iload (pc := 74) (i := 6) dX6_addEntry_74 rfl ?_
    refine ab_if_le (pc := 76) (tgt := 118) dX6_addEntry_76 rfl (fun hc => ?_) (fun hc => ?_)
    · have hk := ab_ifp hk hc
      refine ab_sub_ (lv2 := [some (ab_R v0), none, none, none, none, some (ab_R v5), some (ab_I v6)]) (ab_ss (ab_sn (ab_sn (ab_sn (ab_sn (ab_ss (ab_ss ab_s0))))))) ?_
      exact hk118 _ _ _ _ _ hk
    · have hk := ab_ifn hk hc
      refine ab_aload_n (pc := 79) (i := 0) dX6_addEntry_79 rfl rfl ?_
      obtain ⟨t1, ht1, hk⟩ := ab_bnd hk
      refine ab_getR (pc := 80) dX6_addEntry_80 fl_RX6_11 ht1 ?_
      refine ab_iload (pc := 83) (i := 6) dX6_addEntry_83 rfl ?_
      refine ab_iconst (pc := 85) dX6_addEntry_85 ab_k_1 ?_
      refine ab_isub (pc := 86) dX6_addEntry_86 ?_
      obtain ⟨t2, ht2, hk⟩ := ab_bnd hk
      refine ab_aald (pc := 87) dX6_addEntry_87 (by decide) ht2 ?_
      refine ab_aload (pc := 88) (i := 5) dX6_addEntry_88 rfl ?_
      obtain ⟨q3, hq3, hk⟩ := ab_bnd hk
      obtain ⟨hb, hq3⟩ := ab_on_some hq3
      refine ab_callVI (st := []) (as := [ab_R v5]) (b := t2) (pc := 90) dX6_addEntry_90 ml_RX6_67 my_X2_compare mv_X2_compare hb (ct_X2_compare hq3) ⟨Nat.le_of_ble_eq_true rfl, Nat.le_of_ble_eq_true rfl⟩ rfl (Nat.le_of_ble_eq_true rfl) rfl ?_
      refine ab_if_le (pc := 93) (tgt := 118) dX6_addEntry_93 rfl (fun hc => ?_) (fun hc => ?_)
      · have hk := ab_ifp hk hc
        refine ab_sub_ (lv2 := [some (ab_R v0), none, none, none, none, some (ab_R v5), some (ab_I v6)]) (ab_ss (ab_sn (ab_sn (ab_sn (ab_sn (ab_ss (ab_ss ab_s0))))))) ?_
        exact hk118 _ _ _ _ _ hk
      · have hk := ab_ifn hk hc
        refine ab_aload_n (pc := 96) (i := 0) dX6_addEntry_96 rfl rfl ?_
        obtain ⟨t4, ht4, hk⟩ := ab_bnd hk
        refine ab_getR (pc := 97) dX6_addEntry_97 fl_RX6_11 ht4 ?_
        refine ab_iload (pc := 100) (i := 6) dX6_addEntry_100 rfl ?_
        refine ab_aload_n (pc := 102) (i := 0) dX6_addEntry_102 rfl rfl ?_
        obtain ⟨t5, ht5, hk⟩ := ab_bnd hk
        refine ab_getR (pc := 103) dX6_addEntry_103 fl_RX6_11 ht5 ?_
        refine ab_iload (pc := 106) (i := 6) dX6_addEntry_106 rfl ?_
        refine ab_iconst (pc := 108) dX6_addEntry_108 ab_k_1 ?_
        refine ab_isub (pc := 109) dX6_addEntry_109 ?_
        obtain ⟨t6, ht6, hk⟩ := ab_bnd hk
        refine ab_aald (pc := 110) dX6_addEntry_110 (by decide) ht6 ?_
        obtain ⟨h1, hh1, hk⟩ := ab_bnd hk
        refine ab_aastR (pc := 111) dX6_addEntry_111 (by decide) hh1 ?_
        refine ab_iinc (pc := 112) (i := 6) (lv2 := [some (ab_R v0), none, none, none, none, some (ab_R v5), some (ab_I (ab_w32 (v6 + (-1 : Int))))]) dX6_addEntry_112 rfl (Nat.le_of_ble_eq_true rfl) rfl rfl ?_
        refine ab_goto (pc := 115) (tgt := 74) dX6_addEntry_115 rfl ?_
        refine ab_sub_ (lv2 := [some (ab_R v0), none, none, none, none, some (ab_R v5), some (ab_I (ab_w32 (v6 + (-1 : Int))))]) (ab_ss (ab_sn (ab_sn (ab_sn (ab_sn (ab_ss (ab_ss ab_s0))))))) ?_
        exact ih _ _ _ _ _ hk
noncomputable def f_X6_addEntry (a0 : Int) (a1 : Int) (a2 : Int) (a3 : Int) (a4 : Int) (h : ab_H) : Option ab_H :=
  (ab_get h 7 1 a0).bind fun t1 =>
  if t1 < (72 : Int) then
    (ab_get h 7 0 a0).bind fun t2 =>
    (ab_get h 7 1 a0).bind fun t3 =>
    (ab_ald h 15 t2 t3).bind fun t4 =>
    (ab_put h 3 0 t4 a3).bind fun h1 =>
    (ab_get h1 1 1 a1).bind fun t5 =>
    (ab_ald h1 11 t5 a3).bind fun t6 =>
    (ab_put h1 3 1 t4 t6).bind fun h2 =>
    (ab_put h2 3 2 t4 a4).bind fun h3 =>
    (ab_get h3 1 8 a1).bind fun t7 =>
    (ab_get h3 1 3 a1).bind fun t8 =>
    (ab_ald h3 11 t8 (ab_w32 ((ab_w32 (a3 * (6 : Int))) + a4))).bind fun t9 =>
    (ab_ald h3 11 t7 t9).bind fun t10 =>
    (ab_on h3 3 t4 (f_X2_turn t4 t10 a2 h3)).bind fun q11 =>
    (ab_get q11 7 1 a0).bind fun t12 =>
    f_X6_addEntry_L74 (fun w118_0 w118_5 w118_6 hx118 =>
      f_X6_addEntry_J118 w118_0 w118_5 w118_6 hx118) ab_FU a0 t4 t12 q11
  else
  some h
set_option maxRecDepth 20000 in
theorem ct_X6_addEntry {a0 a1 a2 a3 a4 : Int} {h : ab_H} {q : ab_H} (hk : f_X6_addEntry a0 a1 a2 a3 a4 h = some q) : ab_CT yX6_addEntry cX6_addEntry 7 none 3 69 [ab_R a0, ab_R a1, ab_R a2, ab_I a3, ab_I a4] h none q := by
  refine ab_CT.mk_ 2 (own := RX6) (ini := false) (lv := [some (ab_R a0), some (ab_R a1), some (ab_R a2), some (ab_I a3), some (ab_I a4), none, none]) rfl (by decide +kernel) (fun q => by cases q) rfl rfl ?_
  unfold f_X6_addEntry at hk
  show ab_E mm_X6_addEntry cX6_addEntry 0 _ [] h _ _
  refine ab_aload_n (pc := 0) (i := 0) dX6_addEntry_0 rfl rfl ?_
  obtain ⟨t1, ht1, hk⟩ := ab_bnd hk
  refine ab_getI (pc := 1) dX6_addEntry_1 fl_RX6_25 ht1 ?_
  refine ab_bipush (pc := 4) dX6_addEntry_4 ab_p8_72 ab_k_72 ?_
  refine ab_icmp_lt (pc := 6) (tgt := 10) dX6_addEntry_6 rfl (fun hc => ?_) (fun hc => ?_)
  · have hk := ab_ifp hk hc
    refine ab_aload_n (pc := 10) (i := 0) dX6_addEntry_10 rfl rfl ?_
    obtain ⟨t2, ht2, hk⟩ := ab_bnd hk
    refine ab_getR (pc := 11) dX6_addEntry_11 fl_RX6_11 ht2 ?_
    refine ab_aload_n (pc := 14) (i := 0) dX6_addEntry_14 rfl rfl ?_
    obtain ⟨t3, ht3, hk⟩ := ab_bnd hk
    refine ab_getI (pc := 15) dX6_addEntry_15 fl_RX6_25 ht3 ?_
    obtain ⟨t4, ht4, hk⟩ := ab_bnd hk
    refine ab_aald (pc := 18) dX6_addEntry_18 (by decide) ht4 ?_
    refine ab_astore (pc := 19) (i := 5) (lv2 := [some (ab_R a0), some (ab_R a1), some (ab_R a2), some (ab_I a3), some (ab_I a4), some (ab_R t4), none]) dX6_addEntry_19 (Nat.le_of_ble_eq_true rfl) rfl rfl ?_
    refine ab_aload (pc := 21) (i := 5) dX6_addEntry_21 rfl ?_
    refine ab_iload_n (pc := 23) (i := 3) dX6_addEntry_23 rfl rfl ?_
    obtain ⟨h1, hh1, hk⟩ := ab_bnd hk
    refine ab_putI_ (pc := 24) dX6_addEntry_24 fl_RX6_45 (fun q => by cases q) hh1 ?_
    refine ab_aload (pc := 27) (i := 5) dX6_addEntry_27 rfl ?_
    refine ab_aload_n (pc := 29) (i := 1) dX6_addEntry_29 rfl rfl ?_
    obtain ⟨t5, ht5, hk⟩ := ab_bnd hk
    refine ab_getR (pc := 30) dX6_addEntry_30 fl_RX6_48 ht5 ?_
    refine ab_iload_n (pc := 33) (i := 3) dX6_addEntry_33 rfl rfl ?_
    obtain ⟨t6, ht6, hk⟩ := ab_bnd hk
    refine ab_iald (pc := 34) dX6_addEntry_34 ht6 ?_
    obtain ⟨h2, hh2, hk⟩ := ab_bnd hk
    refine ab_putI_ (pc := 35) dX6_addEntry_35 fl_RX6_51 (fun q => by cases q) hh2 ?_
    refine ab_aload (pc := 38) (i := 5) dX6_addEntry_38 rfl ?_
    refine ab_iload (pc := 40) (i := 4) dX6_addEntry_40 rfl ?_
    obtain ⟨h3, hh3, hk⟩ := ab_bnd hk
    refine ab_putI_ (pc := 42) dX6_addEntry_42 fl_RX6_54 (fun q => by cases q) hh3 ?_
    refine ab_aload (pc := 45) (i := 5) dX6_addEntry_45 rfl ?_
    refine ab_aload_n (pc := 47) (i := 1) dX6_addEntry_47 rfl rfl ?_
    obtain ⟨t7, ht7, hk⟩ := ab_bnd hk
    refine ab_getR (pc := 48) dX6_addEntry_48 fl_RX6_57 ht7 ?_
    refine ab_aload_n (pc := 51) (i := 1) dX6_addEntry_51 rfl rfl ?_
    obtain ⟨t8, ht8, hk⟩ := ab_bnd hk
    refine ab_getR (pc := 52) dX6_addEntry_52 fl_RX6_60 ht8 ?_
    refine ab_iload_n (pc := 55) (i := 3) dX6_addEntry_55 rfl rfl ?_
    refine ab_bipush (pc := 56) dX6_addEntry_56 ab_p8_6 ab_k_6 ?_
    refine ab_imul (pc := 58) dX6_addEntry_58 ?_
    refine ab_iload (pc := 59) (i := 4) dX6_addEntry_59 rfl ?_
    refine ab_iadd (pc := 61) dX6_addEntry_61 ?_
    obtain ⟨t9, ht9, hk⟩ := ab_bnd hk
    refine ab_iald (pc := 62) dX6_addEntry_62 ht9 ?_
    obtain ⟨t10, ht10, hk⟩ := ab_bnd hk
    refine ab_iald (pc := 63) dX6_addEntry_63 ht10 ?_
    refine ab_aload_n (pc := 64) (i := 2) dX6_addEntry_64 rfl rfl ?_
    obtain ⟨q11, hq11, hk⟩ := ab_bnd hk
    obtain ⟨hb, hq11⟩ := ab_on_some hq11
    refine ab_callVV (st := []) (as := [ab_I t10, ab_R a2]) (b := t4) (pc := 65) dX6_addEntry_65 ml_RX6_63 my_X2_turn mv_X2_turn hb (ct_X2_turn hq11) ⟨Nat.le_of_ble_eq_true rfl, Nat.le_of_ble_eq_true rfl⟩ rfl (Nat.le_of_ble_eq_true rfl) rfl ?_
    refine ab_aload_n (pc := 68) (i := 0) dX6_addEntry_68 rfl rfl ?_
    obtain ⟨t12, ht12, hk⟩ := ab_bnd hk
    refine ab_getI (pc := 69) dX6_addEntry_69 fl_RX6_25 ht12 ?_
    refine ab_istore (pc := 72) (i := 6) (lv2 := [some (ab_R a0), some (ab_R a1), some (ab_R a2), some (ab_I a3), some (ab_I a4), some (ab_R t4), some (ab_I t12)]) dX6_addEntry_72 (Nat.le_of_ble_eq_true rfl) rfl rfl ?_
    refine ab_sub_ (lv2 := [some (ab_R a0), none, none, none, none, some (ab_R t4), some (ab_I t12)]) (ab_ss (ab_sn (ab_sn (ab_sn (ab_sn (ab_ss (ab_ss ab_s0))))))) ?_
    refine e_X6_addEntry_L74 (fun w118_0 w118_5 w118_6 hx118 q hk => ?_) _ _ _ _ _ _ hk
    · skip
      refine ab_sub_ (lv2 := [some (ab_R w118_0), none, none, none, none, some (ab_R w118_5), some (ab_I w118_6)]) (ab_ss (ab_sn (ab_sn (ab_sn (ab_sn (ab_ss (ab_ss ab_s0))))))) ?_
      exact e_X6_addEntry_J118 _ _ _ _ _ hk
  · have hk := ab_ifn hk hc
    obtain rfl := Option.some.inj hk
    exact ab_retv (pc := 9) dX6_addEntry_9 rfl
theorem dX6_numberLinesAndHeads_0 : decode cX6_numberLinesAndHeads 0 = .ok (.aload_n 0, 1) := by decide +kernel
theorem dX6_numberLinesAndHeads_1 : decode cX6_numberLinesAndHeads 1 = .ok (.iconst 0, 1) := by decide +kernel
theorem dX6_numberLinesAndHeads_2 : decode cX6_numberLinesAndHeads 2 = .ok (.putfield 71, 3) := by decide +kernel
theorem dX6_numberLinesAndHeads_5 : decode cX6_numberLinesAndHeads 5 = .ok (.aload_n 0, 1) := by decide +kernel
theorem dX6_numberLinesAndHeads_6 : decode cX6_numberLinesAndHeads 6 = .ok (.iconst 0, 1) := by decide +kernel
theorem dX6_numberLinesAndHeads_7 : decode cX6_numberLinesAndHeads 7 = .ok (.putfield 74, 3) := by decide +kernel
theorem dX6_numberLinesAndHeads_10 : decode cX6_numberLinesAndHeads 10 = .ok (.iconst 0, 1) := by decide +kernel
theorem dX6_numberLinesAndHeads_11 : decode cX6_numberLinesAndHeads 11 = .ok (.istore_n 1, 1) := by decide +kernel
theorem dX6_numberLinesAndHeads_12 : decode cX6_numberLinesAndHeads 12 = .ok (.iload_n 1, 1) := by decide +kernel
theorem dX6_numberLinesAndHeads_13 : decode cX6_numberLinesAndHeads 13 = .ok (.aload_n 0, 1) := by decide +kernel
theorem dX6_numberLinesAndHeads_14 : decode cX6_numberLinesAndHeads 14 = .ok (.getfield 25, 3) := by decide +kernel
theorem dX6_numberLinesAndHeads_17 : decode cX6_numberLinesAndHeads 17 = .ok (.if_icmp .ge 111, 3) := by decide +kernel
theorem dX6_numberLinesAndHeads_20 : decode cX6_numberLinesAndHeads 20 = .ok (.aload_n 0, 1) := by decide +kernel
theorem dX6_numberLinesAndHeads_21 : decode cX6_numberLinesAndHeads 21 = .ok (.getfield 11, 3) := by decide +kernel
theorem dX6_numberLinesAndHeads_24 : decode cX6_numberLinesAndHeads 24 = .ok (.iload_n 1, 1) := by decide +kernel
theorem dX6_numberLinesAndHeads_25 : decode cX6_numberLinesAndHeads 25 = .ok (.aaload, 1) := by decide +kernel
theorem dX6_numberLinesAndHeads_26 : decode cX6_numberLinesAndHeads 26 = .ok (.astore_n 2, 1) := by decide +kernel
theorem dX6_numberLinesAndHeads_27 : decode cX6_numberLinesAndHeads 27 = .ok (.iload_n 1, 1) := by decide +kernel
theorem dX6_numberLinesAndHeads_28 : decode cX6_numberLinesAndHeads 28 = .ok (.ifCond .eq 18, 3) := by decide +kernel
theorem dX6_numberLinesAndHeads_31 : decode cX6_numberLinesAndHeads 31 = .ok (.aload_n 2, 1) := by decide +kernel
theorem dX6_numberLinesAndHeads_32 : decode cX6_numberLinesAndHeads 32 = .ok (.aload_n 0, 1) := by decide +kernel
theorem dX6_numberLinesAndHeads_33 : decode cX6_numberLinesAndHeads 33 = .ok (.getfield 11, 3) := by decide +kernel
theorem dX6_numberLinesAndHeads_36 : decode cX6_numberLinesAndHeads 36 = .ok (.iload_n 1, 1) := by decide +kernel
theorem dX6_numberLinesAndHeads_37 : decode cX6_numberLinesAndHeads 37 = .ok (.iconst 1, 1) := by decide +kernel
theorem dX6_numberLinesAndHeads_38 : decode cX6_numberLinesAndHeads 38 = .ok (.isub, 1) := by decide +kernel
theorem dX6_numberLinesAndHeads_39 : decode cX6_numberLinesAndHeads 39 = .ok (.aaload, 1) := by decide +kernel
theorem dX6_numberLinesAndHeads_40 : decode cX6_numberLinesAndHeads 40 = .ok (.invokevirtual 77, 3) := by decide +kernel
theorem dX6_numberLinesAndHeads_43 : decode cX6_numberLinesAndHeads 43 = .ok (.ifCond .eq 20, 3) := by decide +kernel
theorem dX6_numberLinesAndHeads_46 : decode cX6_numberLinesAndHeads 46 = .ok (.aload_n 0, 1) := by decide +kernel
theorem dX6_numberLinesAndHeads_47 : decode cX6_numberLinesAndHeads 47 = .ok (.getfield 17, 3) := by decide +kernel
theorem dX6_numberLinesAndHeads_50 : decode cX6_numberLinesAndHeads 50 = .ok (.aload_n 0, 1) := by decide +kernel
theorem dX6_numberLinesAndHeads_51 : decode cX6_numberLinesAndHeads 51 = .ok (.dup, 1) := by decide +kernel
theorem dX6_numberLinesAndHeads_52 : decode cX6_numberLinesAndHeads 52 = .ok (.getfield 71, 3) := by decide +kernel
theorem dX6_numberLinesAndHeads_55 : decode cX6_numberLinesAndHeads 55 = .ok (.dup_x1, 1) := by decide +kernel
theorem dX6_numberLinesAndHeads_56 : decode cX6_numberLinesAndHeads 56 = .ok (.iconst 1, 1) := by decide +kernel
theorem dX6_numberLinesAndHeads_57 : decode cX6_numberLinesAndHeads 57 = .ok (.iadd, 1) := by decide +kernel
theorem dX6_numberLinesAndHeads_58 : decode cX6_numberLinesAndHeads 58 = .ok (.putfield 71, 3) := by decide +kernel
theorem dX6_numberLinesAndHeads_61 : decode cX6_numberLinesAndHeads 61 = .ok (.iload_n 1, 1) := by decide +kernel
theorem dX6_numberLinesAndHeads_62 : decode cX6_numberLinesAndHeads 62 = .ok (.iastore, 1) := by decide +kernel
theorem dX6_numberLinesAndHeads_63 : decode cX6_numberLinesAndHeads 63 = .ok (.iload_n 1, 1) := by decide +kernel
theorem dX6_numberLinesAndHeads_64 : decode cX6_numberLinesAndHeads 64 = .ok (.ifCond .eq 21, 3) := by decide +kernel
theorem dX6_numberLinesAndHeads_67 : decode cX6_numberLinesAndHeads 67 = .ok (.aload_n 2, 1) := by decide +kernel
theorem dX6_numberLinesAndHeads_68 : decode cX6_numberLinesAndHeads 68 = .ok (.getfield 80, 3) := by decide +kernel
theorem dX6_numberLinesAndHeads_71 : decode cX6_numberLinesAndHeads 71 = .ok (.aload_n 0, 1) := by decide +kernel
theorem dX6_numberLinesAndHeads_72 : decode cX6_numberLinesAndHeads 72 = .ok (.getfield 11, 3) := by decide +kernel
theorem dX6_numberLinesAndHeads_75 : decode cX6_numberLinesAndHeads 75 = .ok (.iload_n 1, 1) := by decide +kernel
theorem dX6_numberLinesAndHeads_76 : decode cX6_numberLinesAndHeads 76 = .ok (.iconst 1, 1) := by decide +kernel
theorem dX6_numberLinesAndHeads_77 : decode cX6_numberLinesAndHeads 77 = .ok (.isub, 1) := by decide +kernel
theorem dX6_numberLinesAndHeads_78 : decode cX6_numberLinesAndHeads 78 = .ok (.aaload, 1) := by decide +kernel
theorem dX6_numberLinesAndHeads_79 : decode cX6_numberLinesAndHeads 79 = .ok (.getfield 80, 3) := by decide +kernel
theorem dX6_numberLinesAndHeads_82 : decode cX6_numberLinesAndHeads 82 = .ok (.if_icmp .eq 20, 3) := by decide +kernel
theorem dX6_numberLinesAndHeads_85 : decode cX6_numberLinesAndHeads 85 = .ok (.aload_n 0, 1) := by decide +kernel
theorem dX6_numberLinesAndHeads_86 : decode cX6_numberLinesAndHeads 86 = .ok (.getfield 21, 3) := by decide +kernel
theorem dX6_numberLinesAndHeads_89 : decode cX6_numberLinesAndHeads 89 = .ok (.aload_n 0, 1) := by decide +kernel
theorem dX6_numberLinesAndHeads_90 : decode cX6_numberLinesAndHeads 90 = .ok (.dup, 1) := by decide +kernel
theorem dX6_numberLinesAndHeads_91 : decode cX6_numberLinesAndHeads 91 = .ok (.getfield 74, 3) := by decide +kernel
theorem dX6_numberLinesAndHeads_94 : decode cX6_numberLinesAndHeads 94 = .ok (.dup_x1, 1) := by decide +kernel
theorem dX6_numberLinesAndHeads_95 : decode cX6_numberLinesAndHeads 95 = .ok (.iconst 1, 1) := by decide +kernel
theorem dX6_numberLinesAndHeads_96 : decode cX6_numberLinesAndHeads 96 = .ok (.iadd, 1) := by decide +kernel
theorem dX6_numberLinesAndHeads_97 : decode cX6_numberLinesAndHeads 97 = .ok (.putfield 74, 3) := by decide +kernel
theorem dX6_numberLinesAndHeads_100 : decode cX6_numberLinesAndHeads 100 = .ok (.iload_n 1, 1) := by decide +kernel
theorem dX6_numberLinesAndHeads_101 : decode cX6_numberLinesAndHeads 101 = .ok (.iastore, 1) := by decide +kernel
theorem dX6_numberLinesAndHeads_102 : decode cX6_numberLinesAndHeads 102 = .ok (.aload_n 2, 1) := by decide +kernel
theorem dX6_numberLinesAndHeads_103 : decode cX6_numberLinesAndHeads 103 = .ok (.aload_n 0, 1) := by decide +kernel
theorem dX6_numberLinesAndHeads_104 : decode cX6_numberLinesAndHeads 104 = .ok (.getfield 71, 3) := by decide +kernel
theorem dX6_numberLinesAndHeads_107 : decode cX6_numberLinesAndHeads 107 = .ok (.iconst 1, 1) := by decide +kernel
theorem dX6_numberLinesAndHeads_108 : decode cX6_numberLinesAndHeads 108 = .ok (.isub, 1) := by decide +kernel
theorem dX6_numberLinesAndHeads_109 : decode cX6_numberLinesAndHeads 109 = .ok (.putfield 83, 3) := by decide +kernel
theorem dX6_numberLinesAndHeads_112 : decode cX6_numberLinesAndHeads 112 = .ok (.aload_n 2, 1) := by decide +kernel
theorem dX6_numberLinesAndHeads_113 : decode cX6_numberLinesAndHeads 113 = .ok (.aload_n 0, 1) := by decide +kernel
theorem dX6_numberLinesAndHeads_114 : decode cX6_numberLinesAndHeads 114 = .ok (.getfield 74, 3) := by decide +kernel
theorem dX6_numberLinesAndHeads_117 : decode cX6_numberLinesAndHeads 117 = .ok (.iconst 1, 1) := by decide +kernel
theorem dX6_numberLinesAndHeads_118 : decode cX6_numberLinesAndHeads 118 = .ok (.isub, 1) := by decide +kernel
theorem dX6_numberLinesAndHeads_119 : decode cX6_numberLinesAndHeads 119 = .ok (.putfield 86, 3) := by decide +kernel
theorem dX6_numberLinesAndHeads_122 : decode cX6_numberLinesAndHeads 122 = .ok (.iinc 1 1, 3) := by decide +kernel
theorem dX6_numberLinesAndHeads_125 : decode cX6_numberLinesAndHeads 125 = .ok (.goto (-113), 3) := by decide +kernel
theorem dX6_numberLinesAndHeads_128 : decode cX6_numberLinesAndHeads 128 = .ok (.aload_n 0, 1) := by decide +kernel
theorem dX6_numberLinesAndHeads_129 : decode cX6_numberLinesAndHeads 129 = .ok (.getfield 17, 3) := by decide +kernel
theorem dX6_numberLinesAndHeads_132 : decode cX6_numberLinesAndHeads 132 = .ok (.aload_n 0, 1) := by decide +kernel
theorem dX6_numberLinesAndHeads_133 : decode cX6_numberLinesAndHeads 133 = .ok (.getfield 71, 3) := by decide +kernel
theorem dX6_numberLinesAndHeads_136 : decode cX6_numberLinesAndHeads 136 = .ok (.aload_n 0, 1) := by decide +kernel
theorem dX6_numberLinesAndHeads_137 : decode cX6_numberLinesAndHeads 137 = .ok (.getfield 25, 3) := by decide +kernel
theorem dX6_numberLinesAndHeads_140 : decode cX6_numberLinesAndHeads 140 = .ok (.iastore, 1) := by decide +kernel
theorem dX6_numberLinesAndHeads_141 : decode cX6_numberLinesAndHeads 141 = .ok (.aload_n 0, 1) := by decide +kernel
theorem dX6_numberLinesAndHeads_142 : decode cX6_numberLinesAndHeads 142 = .ok (.getfield 21, 3) := by decide +kernel
theorem dX6_numberLinesAndHeads_145 : decode cX6_numberLinesAndHeads 145 = .ok (.aload_n 0, 1) := by decide +kernel
theorem dX6_numberLinesAndHeads_146 : decode cX6_numberLinesAndHeads 146 = .ok (.getfield 74, 3) := by decide +kernel
theorem dX6_numberLinesAndHeads_149 : decode cX6_numberLinesAndHeads 149 = .ok (.aload_n 0, 1) := by decide +kernel
theorem dX6_numberLinesAndHeads_150 : decode cX6_numberLinesAndHeads 150 = .ok (.getfield 25, 3) := by decide +kernel
theorem dX6_numberLinesAndHeads_153 : decode cX6_numberLinesAndHeads 153 = .ok (.iastore, 1) := by decide +kernel
theorem dX6_numberLinesAndHeads_154 : decode cX6_numberLinesAndHeads 154 = .ok (.return_, 1) := by decide +kernel
abbrev mm_X6_numberLinesAndHeads : ab_M := (RX6, 3, none, false, 2, 47, none)
noncomputable def f_X6_numberLinesAndHeads_J102 (rec : Int → Int → ab_H → Option ab_H) (k128 : Int → ab_H → Option ab_H) (v0 : Int) (v1 : Int) (v2 : Int) (h : ab_H) : Option ab_H :=
  (ab_get h 7 3 v0).bind fun t1 =>
  (ab_put h 3 9 v2 (ab_w32 (t1 - (1 : Int)))).bind fun h1 =>
  (ab_get h1 7 5 v0).bind fun t2 =>
  (ab_put h1 3 10 v2 (ab_w32 (t2 - (1 : Int)))).bind fun h2 =>
  rec v0 (ab_w32 (v1 + (1 : Int))) h2
set_option maxRecDepth 20000 in
theorem e_X6_numberLinesAndHeads_J102 {rec : Int → Int → ab_H → Option ab_H} {k128 : Int → ab_H → Option ab_H} (hrec : ∀ (v0 : Int) (v1 : Int) (h : ab_H) (q : ab_H), rec v0 v1 h = some q → ab_E mm_X6_numberLinesAndHeads cX6_numberLinesAndHeads 12 [some (ab_R v0), some (ab_I v1), none] [] h none q) (hk128 : ∀ (v0 : Int) (h : ab_H) (q : ab_H), k128 v0 h = some q → ab_E mm_X6_numberLinesAndHeads cX6_numberLinesAndHeads 128 [some (ab_R v0), none, none] [] h none q) : ∀ (v0 : Int) (v1 : Int) (v2 : Int) (h : ab_H) (q : ab_H), f_X6_numberLinesAndHeads_J102 rec k128 v0 v1 v2 h = some q → ab_E mm_X6_numberLinesAndHeads cX6_numberLinesAndHeads 102 [some (ab_R v0), some (ab_I v1), some (ab_R v2)] [] h none q := by
  intro v0 v1 v2 h q hk
  unfold f_X6_numberLinesAndHeads_J102 at hk
  refine ab_aload_n (pc := 102) (i := 2) dX6_numberLinesAndHeads_102 rfl rfl ?_
  refine ab_aload_n (pc := 103) (i := 0) dX6_numberLinesAndHeads_103 rfl rfl ?_
  obtain ⟨t1, ht1, hk⟩ := ab_bnd hk
  refine ab_getI (pc := 104) dX6_numberLinesAndHeads_104 fl_RX6_71 ht1 ?_
  refine ab_iconst (pc := 107) dX6_numberLinesAndHeads_107 ab_k_1 ?_
  refine ab_isub (pc := 108) dX6_numberLinesAndHeads_108 ?_
  obtain ⟨h1, hh1, hk⟩ := ab_bnd hk
  refine ab_putI_ (pc := 109) dX6_numberLinesAndHeads_109 fl_RX6_83 (fun q => by cases q) hh1 ?_
  refine ab_aload_n (pc := 112) (i := 2) dX6_numberLinesAndHeads_112 rfl rfl ?_
  refine ab_aload_n (pc := 113) (i := 0) dX6_numberLinesAndHeads_113 rfl rfl ?_
  obtain ⟨t2, ht2, hk⟩ := ab_bnd hk
  refine ab_getI (pc := 114) dX6_numberLinesAndHeads_114 fl_RX6_74 ht2 ?_
  refine ab_iconst (pc := 117) dX6_numberLinesAndHeads_117 ab_k_1 ?_
  refine ab_isub (pc := 118) dX6_numberLinesAndHeads_118 ?_
  obtain ⟨h2, hh2, hk⟩ := ab_bnd hk
  refine ab_putI_ (pc := 119) dX6_numberLinesAndHeads_119 fl_RX6_86 (fun q => by cases q) hh2 ?_
  refine ab_iinc (pc := 122) (i := 1) (lv2 := [some (ab_R v0), some (ab_I (ab_w32 (v1 + (1 : Int)))), some (ab_R v2)]) dX6_numberLinesAndHeads_122 rfl (Nat.le_of_ble_eq_true rfl) rfl rfl ?_
  refine ab_goto (pc := 125) (tgt := 12) dX6_numberLinesAndHeads_125 rfl ?_
  refine ab_sub_ (lv2 := [some (ab_R v0), some (ab_I (ab_w32 (v1 + (1 : Int)))), none]) (ab_ss (ab_ss (ab_sn ab_s0))) ?_
  exact hrec _ _ _ _ hk
noncomputable def f_X6_numberLinesAndHeads_J85 (rec : Int → Int → ab_H → Option ab_H) (k128 : Int → ab_H → Option ab_H) (v0 : Int) (v1 : Int) (v2 : Int) (h : ab_H) : Option ab_H :=
  (ab_get h 7 4 v0).bind fun t1 =>
  (ab_get h 7 5 v0).bind fun t2 =>
  (ab_put h 7 5 v0 (ab_w32 (t2 + (1 : Int)))).bind fun h1 =>
  (ab_ast h1 11 t1 t2 v1).bind fun h2 =>
  f_X6_numberLinesAndHeads_J102 rec k128 v0 v1 v2 h2
set_option maxRecDepth 20000 in
theorem e_X6_numberLinesAndHeads_J85 {rec : Int → Int → ab_H → Option ab_H} {k128 : Int → ab_H → Option ab_H} (hrec : ∀ (v0 : Int) (v1 : Int) (h : ab_H) (q : ab_H), rec v0 v1 h = some q → ab_E mm_X6_numberLinesAndHeads cX6_numberLinesAndHeads 12 [some (ab_R v0), some (ab_I v1), none] [] h none q) (hk128 : ∀ (v0 : Int) (h : ab_H) (q : ab_H), k128 v0 h = some q → ab_E mm_X6_numberLinesAndHeads cX6_numberLinesAndHeads 128 [some (ab_R v0), none, none] [] h none q) : ∀ (v0 : Int) (v1 : Int) (v2 : Int) (h : ab_H) (q : ab_H), f_X6_numberLinesAndHeads_J85 rec k128 v0 v1 v2 h = some q → ab_E mm_X6_numberLinesAndHeads cX6_numberLinesAndHeads 85 [some (ab_R v0), some (ab_I v1), some (ab_R v2)] [] h none q := by
  intro v0 v1 v2 h q hk
  unfold f_X6_numberLinesAndHeads_J85 at hk
  refine ab_aload_n (pc := 85) (i := 0) dX6_numberLinesAndHeads_85 rfl rfl ?_
  obtain ⟨t1, ht1, hk⟩ := ab_bnd hk
  refine ab_getR (pc := 86) dX6_numberLinesAndHeads_86 fl_RX6_21 ht1 ?_
  refine ab_aload_n (pc := 89) (i := 0) dX6_numberLinesAndHeads_89 rfl rfl ?_
  refine ab_dup (pc := 90) dX6_numberLinesAndHeads_90 rfl ?_
  obtain ⟨t2, ht2, hk⟩ := ab_bnd hk
  refine ab_getI (pc := 91) dX6_numberLinesAndHeads_91 fl_RX6_74 ht2 ?_
  refine ab_dup_x1 (pc := 94) dX6_numberLinesAndHeads_94 rfl rfl ?_
  refine ab_iconst (pc := 95) dX6_numberLinesAndHeads_95 ab_k_1 ?_
  refine ab_iadd (pc := 96) dX6_numberLinesAndHeads_96 ?_
  obtain ⟨h1, hh1, hk⟩ := ab_bnd hk
  refine ab_putI_ (pc := 97) dX6_numberLinesAndHeads_97 fl_RX6_74 (fun q => by cases q) hh1 ?_
  refine ab_iload_n (pc := 100) (i := 1) dX6_numberLinesAndHeads_100 rfl rfl ?_
  obtain ⟨h2, hh2, hk⟩ := ab_bnd hk
  refine ab_iast (pc := 101) dX6_numberLinesAndHeads_101 hh2 ?_
  refine ab_sub_ (lv2 := [some (ab_R v0), some (ab_I v1), some (ab_R v2)]) (ab_ss (ab_ss (ab_ss ab_s0))) ?_
  exact e_X6_numberLinesAndHeads_J102 hrec hk128 _ _ _ _ _ hk
noncomputable def f_X6_numberLinesAndHeads_J63 (rec : Int → Int → ab_H → Option ab_H) (k128 : Int → ab_H → Option ab_H) (v0 : Int) (v1 : Int) (v2 : Int) (h : ab_H) : Option ab_H :=
  if v1 = (0 : Int) then
    f_X6_numberLinesAndHeads_J85 rec k128 v0 v1 v2 h
  else
  (ab_get h 3 3 v2).bind fun t1 =>
  (ab_get h 7 0 v0).bind fun t2 =>
  (ab_ald h 15 t2 (ab_w32 (v1 - (1 : Int)))).bind fun t3 =>
  (ab_get h 3 3 t3).bind fun t4 =>
  if t1 = t4 then
    f_X6_numberLinesAndHeads_J102 rec k128 v0 v1 v2 h
  else
  f_X6_numberLinesAndHeads_J85 rec k128 v0 v1 v2 h
set_option maxRecDepth 20000 in
theorem e_X6_numberLinesAndHeads_J63 {rec : Int → Int → ab_H → Option ab_H} {k128 : Int → ab_H → Option ab_H} (hrec : ∀ (v0 : Int) (v1 : Int) (h : ab_H) (q : ab_H), rec v0 v1 h = some q → ab_E mm_X6_numberLinesAndHeads cX6_numberLinesAndHeads 12 [some (ab_R v0), some (ab_I v1), none] [] h none q) (hk128 : ∀ (v0 : Int) (h : ab_H) (q : ab_H), k128 v0 h = some q → ab_E mm_X6_numberLinesAndHeads cX6_numberLinesAndHeads 128 [some (ab_R v0), none, none] [] h none q) : ∀ (v0 : Int) (v1 : Int) (v2 : Int) (h : ab_H) (q : ab_H), f_X6_numberLinesAndHeads_J63 rec k128 v0 v1 v2 h = some q → ab_E mm_X6_numberLinesAndHeads cX6_numberLinesAndHeads 63 [some (ab_R v0), some (ab_I v1), some (ab_R v2)] [] h none q := by
  intro v0 v1 v2 h q hk
  unfold f_X6_numberLinesAndHeads_J63 at hk
  refine ab_iload_n (pc := 63) (i := 1) dX6_numberLinesAndHeads_63 rfl rfl ?_
  refine ab_if_eq (pc := 64) (tgt := 85) dX6_numberLinesAndHeads_64 rfl (fun hc => ?_) (fun hc => ?_)
  · have hk := ab_ifp hk hc
    refine ab_sub_ (lv2 := [some (ab_R v0), some (ab_I v1), some (ab_R v2)]) (ab_ss (ab_ss (ab_ss ab_s0))) ?_
    exact e_X6_numberLinesAndHeads_J85 hrec hk128 _ _ _ _ _ hk
  · have hk := ab_ifn hk hc
    refine ab_aload_n (pc := 67) (i := 2) dX6_numberLinesAndHeads_67 rfl rfl ?_
    obtain ⟨t1, ht1, hk⟩ := ab_bnd hk
    refine ab_getI (pc := 68) dX6_numberLinesAndHeads_68 fl_RX6_80 ht1 ?_
    refine ab_aload_n (pc := 71) (i := 0) dX6_numberLinesAndHeads_71 rfl rfl ?_
    obtain ⟨t2, ht2, hk⟩ := ab_bnd hk
    refine ab_getR (pc := 72) dX6_numberLinesAndHeads_72 fl_RX6_11 ht2 ?_
    refine ab_iload_n (pc := 75) (i := 1) dX6_numberLinesAndHeads_75 rfl rfl ?_
    refine ab_iconst (pc := 76) dX6_numberLinesAndHeads_76 ab_k_1 ?_
    refine ab_isub (pc := 77) dX6_numberLinesAndHeads_77 ?_
    obtain ⟨t3, ht3, hk⟩ := ab_bnd hk
    refine ab_aald (pc := 78) dX6_numberLinesAndHeads_78 (by decide) ht3 ?_
    obtain ⟨t4, ht4, hk⟩ := ab_bnd hk
    refine ab_getI (pc := 79) dX6_numberLinesAndHeads_79 fl_RX6_80 ht4 ?_
    refine ab_icmp_eq (pc := 82) (tgt := 102) dX6_numberLinesAndHeads_82 rfl (fun hc => ?_) (fun hc => ?_)
    · have hk := ab_ifp hk hc
      refine ab_sub_ (lv2 := [some (ab_R v0), some (ab_I v1), some (ab_R v2)]) (ab_ss (ab_ss (ab_ss ab_s0))) ?_
      exact e_X6_numberLinesAndHeads_J102 hrec hk128 _ _ _ _ _ hk
    · have hk := ab_ifn hk hc
      refine ab_sub_ (lv2 := [some (ab_R v0), some (ab_I v1), some (ab_R v2)]) (ab_ss (ab_ss (ab_ss ab_s0))) ?_
      exact e_X6_numberLinesAndHeads_J85 hrec hk128 _ _ _ _ _ hk
noncomputable def f_X6_numberLinesAndHeads_J46 (rec : Int → Int → ab_H → Option ab_H) (k128 : Int → ab_H → Option ab_H) (v0 : Int) (v1 : Int) (v2 : Int) (h : ab_H) : Option ab_H :=
  (ab_get h 7 2 v0).bind fun t1 =>
  (ab_get h 7 3 v0).bind fun t2 =>
  (ab_put h 7 3 v0 (ab_w32 (t2 + (1 : Int)))).bind fun h1 =>
  (ab_ast h1 11 t1 t2 v1).bind fun h2 =>
  f_X6_numberLinesAndHeads_J63 rec k128 v0 v1 v2 h2
set_option maxRecDepth 20000 in
theorem e_X6_numberLinesAndHeads_J46 {rec : Int → Int → ab_H → Option ab_H} {k128 : Int → ab_H → Option ab_H} (hrec : ∀ (v0 : Int) (v1 : Int) (h : ab_H) (q : ab_H), rec v0 v1 h = some q → ab_E mm_X6_numberLinesAndHeads cX6_numberLinesAndHeads 12 [some (ab_R v0), some (ab_I v1), none] [] h none q) (hk128 : ∀ (v0 : Int) (h : ab_H) (q : ab_H), k128 v0 h = some q → ab_E mm_X6_numberLinesAndHeads cX6_numberLinesAndHeads 128 [some (ab_R v0), none, none] [] h none q) : ∀ (v0 : Int) (v1 : Int) (v2 : Int) (h : ab_H) (q : ab_H), f_X6_numberLinesAndHeads_J46 rec k128 v0 v1 v2 h = some q → ab_E mm_X6_numberLinesAndHeads cX6_numberLinesAndHeads 46 [some (ab_R v0), some (ab_I v1), some (ab_R v2)] [] h none q := by
  intro v0 v1 v2 h q hk
  unfold f_X6_numberLinesAndHeads_J46 at hk
  refine ab_aload_n (pc := 46) (i := 0) dX6_numberLinesAndHeads_46 rfl rfl ?_
  obtain ⟨t1, ht1, hk⟩ := ab_bnd hk
  refine ab_getR (pc := 47) dX6_numberLinesAndHeads_47 fl_RX6_17 ht1 ?_
  refine ab_aload_n (pc := 50) (i := 0) dX6_numberLinesAndHeads_50 rfl rfl ?_
  refine ab_dup (pc := 51) dX6_numberLinesAndHeads_51 rfl ?_
  obtain ⟨t2, ht2, hk⟩ := ab_bnd hk
  refine ab_getI (pc := 52) dX6_numberLinesAndHeads_52 fl_RX6_71 ht2 ?_
  refine ab_dup_x1 (pc := 55) dX6_numberLinesAndHeads_55 rfl rfl ?_
  refine ab_iconst (pc := 56) dX6_numberLinesAndHeads_56 ab_k_1 ?_
  refine ab_iadd (pc := 57) dX6_numberLinesAndHeads_57 ?_
  obtain ⟨h1, hh1, hk⟩ := ab_bnd hk
  refine ab_putI_ (pc := 58) dX6_numberLinesAndHeads_58 fl_RX6_71 (fun q => by cases q) hh1 ?_
  refine ab_iload_n (pc := 61) (i := 1) dX6_numberLinesAndHeads_61 rfl rfl ?_
  obtain ⟨h2, hh2, hk⟩ := ab_bnd hk
  refine ab_iast (pc := 62) dX6_numberLinesAndHeads_62 hh2 ?_
  refine ab_sub_ (lv2 := [some (ab_R v0), some (ab_I v1), some (ab_R v2)]) (ab_ss (ab_ss (ab_ss ab_s0))) ?_
  exact e_X6_numberLinesAndHeads_J63 hrec hk128 _ _ _ _ _ hk
noncomputable def f_X6_numberLinesAndHeads_L12 (k128 : Int → ab_H → Option ab_H) : Nat → Int → Int → ab_H → Option ab_H
  | 0, _, _, _ => none
  | n + 1, v0, v1, h =>
    (ab_get h 7 1 v0).bind fun t1 =>
    if t1 ≤ v1 then
      k128 v0 h
    else
    (ab_get h 7 0 v0).bind fun t2 =>
    (ab_ald h 15 t2 v1).bind fun t3 =>
    if v1 = (0 : Int) then
      f_X6_numberLinesAndHeads_J46 (f_X6_numberLinesAndHeads_L12 k128 n) k128 v0 v1 t3 h
    else
    (ab_get h 7 0 v0).bind fun t4 =>
    (ab_ald h 15 t4 (ab_w32 (v1 - (1 : Int)))).bind fun t5 =>
    (ab_on h 3 t3 (f_X2_compareWords t3 t5 h)).bind fun q6 =>
    if q6.1 = (0 : Int) then
      f_X6_numberLinesAndHeads_J63 (f_X6_numberLinesAndHeads_L12 k128 n) k128 v0 v1 t3 q6.2
    else
    f_X6_numberLinesAndHeads_J46 (f_X6_numberLinesAndHeads_L12 k128 n) k128 v0 v1 t3 q6.2
set_option maxRecDepth 20000 in
theorem e_X6_numberLinesAndHeads_L12 {k128 : Int → ab_H → Option ab_H} (hk128 : ∀ (v0 : Int) (h : ab_H) (q : ab_H), k128 v0 h = some q → ab_E mm_X6_numberLinesAndHeads cX6_numberLinesAndHeads 128 [some (ab_R v0), none, none] [] h none q) : ∀ (n : Nat) (v0 : Int) (v1 : Int) (h : ab_H) (q : ab_H), f_X6_numberLinesAndHeads_L12 k128 n v0 v1 h = some q → ab_E mm_X6_numberLinesAndHeads cX6_numberLinesAndHeads 12 [some (ab_R v0), some (ab_I v1), none] [] h none q := by
  intro n
  induction n with
  | zero => intro v0 v1 h q hk; cases hk
  | succ n ih =>
    intro v0 v1 h q hk
    unfold f_X6_numberLinesAndHeads_L12 at hk
    refine ab_iload_n (pc := 12) (i := 1) dX6_numberLinesAndHeads_12 rfl rfl ?_
    refine ab_aload_n (pc := 13) (i := 0) dX6_numberLinesAndHeads_13 rfl rfl ?_
    obtain ⟨t1, ht1, hk⟩ := ab_bnd hk
    refine ab_getI (pc := 14) dX6_numberLinesAndHeads_14 fl_RX6_25 ht1 ?_
    refine ab_icmp_ge (pc := 17) (tgt := 128) dX6_numberLinesAndHeads_17 rfl (fun hc => ?_) (fun hc => ?_)
    · have hk := ab_ifp hk hc
      refine ab_sub_ (lv2 := [some (ab_R v0), none, none]) (ab_ss (ab_sn (ab_sn ab_s0))) ?_
      exact hk128 _ _ _ hk
    · have hk := ab_ifn hk hc
      refine ab_aload_n (pc := 20) (i := 0) dX6_numberLinesAndHeads_20 rfl rfl ?_
      obtain ⟨t2, ht2, hk⟩ := ab_bnd hk
      refine ab_getR (pc := 21) dX6_numberLinesAndHeads_21 fl_RX6_11 ht2 ?_
      refine ab_iload_n (pc := 24) (i := 1) dX6_numberLinesAndHeads_24 rfl rfl ?_
      obtain ⟨t3, ht3, hk⟩ := ab_bnd hk
      refine ab_aald (pc := 25) dX6_numberLinesAndHeads_25 (by decide) ht3 ?_
      refine ab_astore_n (pc := 26) (i := 2) (lv2 := [some (ab_R v0), some (ab_I v1), some (ab_R t3)]) dX6_numberLinesAndHeads_26 rfl (Nat.le_of_ble_eq_true rfl) rfl rfl ?_
      refine ab_iload_n (pc := 27) (i := 1) dX6_numberLinesAndHeads_27 rfl rfl ?_
      refine ab_if_eq (pc := 28) (tgt := 46) dX6_numberLinesAndHeads_28 rfl (fun hc => ?_) (fun hc => ?_)
      · have hk := ab_ifp hk hc
        refine ab_sub_ (lv2 := [some (ab_R v0), some (ab_I v1), some (ab_R t3)]) (ab_ss (ab_ss (ab_ss ab_s0))) ?_
        exact e_X6_numberLinesAndHeads_J46 ih hk128 _ _ _ _ _ hk
      · have hk := ab_ifn hk hc
        refine ab_aload_n (pc := 31) (i := 2) dX6_numberLinesAndHeads_31 rfl rfl ?_
        refine ab_aload_n (pc := 32) (i := 0) dX6_numberLinesAndHeads_32 rfl rfl ?_
        obtain ⟨t4, ht4, hk⟩ := ab_bnd hk
        refine ab_getR (pc := 33) dX6_numberLinesAndHeads_33 fl_RX6_11 ht4 ?_
        refine ab_iload_n (pc := 36) (i := 1) dX6_numberLinesAndHeads_36 rfl rfl ?_
        refine ab_iconst (pc := 37) dX6_numberLinesAndHeads_37 ab_k_1 ?_
        refine ab_isub (pc := 38) dX6_numberLinesAndHeads_38 ?_
        obtain ⟨t5, ht5, hk⟩ := ab_bnd hk
        refine ab_aald (pc := 39) dX6_numberLinesAndHeads_39 (by decide) ht5 ?_
        obtain ⟨q6, hq6, hk⟩ := ab_bnd hk
        obtain ⟨hb, hq6⟩ := ab_on_some hq6
        refine ab_callVI (st := []) (as := [ab_R t5]) (b := t3) (pc := 40) dX6_numberLinesAndHeads_40 ml_RX6_77 my_X2_compareWords mv_X2_compareWords hb (ct_X2_compareWords hq6) ⟨Nat.le_of_ble_eq_true rfl, Nat.le_of_ble_eq_true rfl⟩ rfl (Nat.le_of_ble_eq_true rfl) rfl ?_
        refine ab_if_eq (pc := 43) (tgt := 63) dX6_numberLinesAndHeads_43 rfl (fun hc => ?_) (fun hc => ?_)
        · have hk := ab_ifp hk hc
          refine ab_sub_ (lv2 := [some (ab_R v0), some (ab_I v1), some (ab_R t3)]) (ab_ss (ab_ss (ab_ss ab_s0))) ?_
          exact e_X6_numberLinesAndHeads_J63 ih hk128 _ _ _ _ _ hk
        · have hk := ab_ifn hk hc
          refine ab_sub_ (lv2 := [some (ab_R v0), some (ab_I v1), some (ab_R t3)]) (ab_ss (ab_ss (ab_ss ab_s0))) ?_
          exact e_X6_numberLinesAndHeads_J46 ih hk128 _ _ _ _ _ hk
noncomputable def f_X6_numberLinesAndHeads (a0 : Int) (h : ab_H) : Option ab_H :=
  (ab_put h 7 3 a0 (0 : Int)).bind fun h1 =>
  (ab_put h1 7 5 a0 (0 : Int)).bind fun h2 =>
  f_X6_numberLinesAndHeads_L12 (fun w128_0 hx128 =>
    (ab_get hx128 7 2 w128_0).bind fun t1 =>
    (ab_get hx128 7 3 w128_0).bind fun t2 =>
    (ab_get hx128 7 1 w128_0).bind fun t3 =>
    (ab_ast hx128 11 t1 t2 t3).bind fun h3 =>
    (ab_get h3 7 4 w128_0).bind fun t4 =>
    (ab_get h3 7 5 w128_0).bind fun t5 =>
    (ab_get h3 7 1 w128_0).bind fun t6 =>
    (ab_ast h3 11 t4 t5 t6).bind fun h4 =>
    some h4) ab_FU a0 (0 : Int) h2
set_option maxRecDepth 20000 in
theorem ct_X6_numberLinesAndHeads {a0 : Int} {h : ab_H} {q : ab_H} (hk : f_X6_numberLinesAndHeads a0 h = some q) : ab_CT yX6_numberLinesAndHeads cX6_numberLinesAndHeads 3 none 2 47 [ab_R a0] h none q := by
  refine ab_CT.mk_ 2 (own := RX6) (ini := false) (lv := [some (ab_R a0), none, none]) rfl (by decide +kernel) (fun q => by cases q) rfl rfl ?_
  unfold f_X6_numberLinesAndHeads at hk
  show ab_E mm_X6_numberLinesAndHeads cX6_numberLinesAndHeads 0 _ [] h _ _
  refine ab_aload_n (pc := 0) (i := 0) dX6_numberLinesAndHeads_0 rfl rfl ?_
  refine ab_iconst (pc := 1) dX6_numberLinesAndHeads_1 ab_k_0 ?_
  obtain ⟨h1, hh1, hk⟩ := ab_bnd hk
  refine ab_putI_ (pc := 2) dX6_numberLinesAndHeads_2 fl_RX6_71 (fun q => by cases q) hh1 ?_
  refine ab_aload_n (pc := 5) (i := 0) dX6_numberLinesAndHeads_5 rfl rfl ?_
  refine ab_iconst (pc := 6) dX6_numberLinesAndHeads_6 ab_k_0 ?_
  obtain ⟨h2, hh2, hk⟩ := ab_bnd hk
  refine ab_putI_ (pc := 7) dX6_numberLinesAndHeads_7 fl_RX6_74 (fun q => by cases q) hh2 ?_
  refine ab_iconst (pc := 10) dX6_numberLinesAndHeads_10 ab_k_0 ?_
  refine ab_istore_n (pc := 11) (i := 1) (lv2 := [some (ab_R a0), some (ab_I (0 : Int)), none]) dX6_numberLinesAndHeads_11 rfl (Nat.le_of_ble_eq_true rfl) rfl rfl ?_
  refine ab_sub_ (lv2 := [some (ab_R a0), some (ab_I (0 : Int)), none]) (ab_ss (ab_ss (ab_sn ab_s0))) ?_
  refine e_X6_numberLinesAndHeads_L12 (fun w128_0 hx128 q hk => ?_) _ _ _ _ _ hk
  · skip
    refine ab_aload_n (pc := 128) (i := 0) dX6_numberLinesAndHeads_128 rfl rfl ?_
    obtain ⟨t1, ht1, hk⟩ := ab_bnd hk
    refine ab_getR (pc := 129) dX6_numberLinesAndHeads_129 fl_RX6_17 ht1 ?_
    refine ab_aload_n (pc := 132) (i := 0) dX6_numberLinesAndHeads_132 rfl rfl ?_
    obtain ⟨t2, ht2, hk⟩ := ab_bnd hk
    refine ab_getI (pc := 133) dX6_numberLinesAndHeads_133 fl_RX6_71 ht2 ?_
    refine ab_aload_n (pc := 136) (i := 0) dX6_numberLinesAndHeads_136 rfl rfl ?_
    obtain ⟨t3, ht3, hk⟩ := ab_bnd hk
    refine ab_getI (pc := 137) dX6_numberLinesAndHeads_137 fl_RX6_25 ht3 ?_
    obtain ⟨h3, hh3, hk⟩ := ab_bnd hk
    refine ab_iast (pc := 140) dX6_numberLinesAndHeads_140 hh3 ?_
    refine ab_aload_n (pc := 141) (i := 0) dX6_numberLinesAndHeads_141 rfl rfl ?_
    obtain ⟨t4, ht4, hk⟩ := ab_bnd hk
    refine ab_getR (pc := 142) dX6_numberLinesAndHeads_142 fl_RX6_21 ht4 ?_
    refine ab_aload_n (pc := 145) (i := 0) dX6_numberLinesAndHeads_145 rfl rfl ?_
    obtain ⟨t5, ht5, hk⟩ := ab_bnd hk
    refine ab_getI (pc := 146) dX6_numberLinesAndHeads_146 fl_RX6_74 ht5 ?_
    refine ab_aload_n (pc := 149) (i := 0) dX6_numberLinesAndHeads_149 rfl rfl ?_
    obtain ⟨t6, ht6, hk⟩ := ab_bnd hk
    refine ab_getI (pc := 150) dX6_numberLinesAndHeads_150 fl_RX6_25 ht6 ?_
    obtain ⟨h4, hh4, hk⟩ := ab_bnd hk
    refine ab_iast (pc := 153) dX6_numberLinesAndHeads_153 hh4 ?_
    obtain rfl := Option.some.inj hk
    exact ab_retv (pc := 154) dX6_numberLinesAndHeads_154 rfl
theorem dX6_turnAll_0 : decode cX6_turnAll 0 = .ok (.aload_n 0, 1) := by decide +kernel
theorem dX6_turnAll_1 : decode cX6_turnAll 1 = .ok (.iconst 0, 1) := by decide +kernel
theorem dX6_turnAll_2 : decode cX6_turnAll 2 = .ok (.putfield 25, 3) := by decide +kernel
theorem dX6_turnAll_5 : decode cX6_turnAll 5 = .ok (.iconst 0, 1) := by decide +kernel
theorem dX6_turnAll_6 : decode cX6_turnAll 6 = .ok (.istore_n 3, 1) := by decide +kernel
theorem dX6_turnAll_7 : decode cX6_turnAll 7 = .ok (.iload_n 3, 1) := by decide +kernel
theorem dX6_turnAll_8 : decode cX6_turnAll 8 = .ok (.aload_n 1, 1) := by decide +kernel
theorem dX6_turnAll_9 : decode cX6_turnAll 9 = .ok (.getfield 29, 3) := by decide +kernel
theorem dX6_turnAll_12 : decode cX6_turnAll 12 = .ok (.if_icmp .ge 54, 3) := by decide +kernel
theorem dX6_turnAll_15 : decode cX6_turnAll 15 = .ok (.iconst 0, 1) := by decide +kernel
theorem dX6_turnAll_16 : decode cX6_turnAll 16 = .ok (.istore 4, 2) := by decide +kernel
theorem dX6_turnAll_18 : decode cX6_turnAll 18 = .ok (.iload 4, 2) := by decide +kernel
theorem dX6_turnAll_20 : decode cX6_turnAll 20 = .ok (.aload_n 1, 1) := by decide +kernel
theorem dX6_turnAll_21 : decode cX6_turnAll 21 = .ok (.getfield 32, 3) := by decide +kernel
theorem dX6_turnAll_24 : decode cX6_turnAll 24 = .ok (.iload_n 3, 1) := by decide +kernel
theorem dX6_turnAll_25 : decode cX6_turnAll 25 = .ok (.iaload, 1) := by decide +kernel
theorem dX6_turnAll_26 : decode cX6_turnAll 26 = .ok (.if_icmp .ge 34, 3) := by decide +kernel
theorem dX6_turnAll_29 : decode cX6_turnAll 29 = .ok (.aload_n 1, 1) := by decide +kernel
theorem dX6_turnAll_30 : decode cX6_turnAll 30 = .ok (.getfield 35, 3) := by decide +kernel
theorem dX6_turnAll_33 : decode cX6_turnAll 33 = .ok (.iload_n 3, 1) := by decide +kernel
theorem dX6_turnAll_34 : decode cX6_turnAll 34 = .ok (.bipush 6, 2) := by decide +kernel
theorem dX6_turnAll_36 : decode cX6_turnAll 36 = .ok (.imul, 1) := by decide +kernel
theorem dX6_turnAll_37 : decode cX6_turnAll 37 = .ok (.iload 4, 2) := by decide +kernel
theorem dX6_turnAll_39 : decode cX6_turnAll 39 = .ok (.iadd, 1) := by decide +kernel
theorem dX6_turnAll_40 : decode cX6_turnAll 40 = .ok (.iaload, 1) := by decide +kernel
theorem dX6_turnAll_41 : decode cX6_turnAll 41 = .ok (.iconst 1, 1) := by decide +kernel
theorem dX6_turnAll_42 : decode cX6_turnAll 42 = .ok (.if_icmp .ne 12, 3) := by decide +kernel
theorem dX6_turnAll_45 : decode cX6_turnAll 45 = .ok (.aload_n 0, 1) := by decide +kernel
theorem dX6_turnAll_46 : decode cX6_turnAll 46 = .ok (.aload_n 1, 1) := by decide +kernel
theorem dX6_turnAll_47 : decode cX6_turnAll 47 = .ok (.aload_n 2, 1) := by decide +kernel
theorem dX6_turnAll_48 : decode cX6_turnAll 48 = .ok (.iload_n 3, 1) := by decide +kernel
theorem dX6_turnAll_49 : decode cX6_turnAll 49 = .ok (.iload 4, 2) := by decide +kernel
theorem dX6_turnAll_51 : decode cX6_turnAll 51 = .ok (.invokevirtual 38, 3) := by decide +kernel
theorem dX6_turnAll_54 : decode cX6_turnAll 54 = .ok (.iinc 4 1, 3) := by decide +kernel
theorem dX6_turnAll_57 : decode cX6_turnAll 57 = .ok (.goto (-39), 3) := by decide +kernel
theorem dX6_turnAll_60 : decode cX6_turnAll 60 = .ok (.iinc 3 1, 3) := by decide +kernel
theorem dX6_turnAll_63 : decode cX6_turnAll 63 = .ok (.goto (-56), 3) := by decide +kernel
theorem dX6_turnAll_66 : decode cX6_turnAll 66 = .ok (.aload_n 0, 1) := by decide +kernel
theorem dX6_turnAll_67 : decode cX6_turnAll 67 = .ok (.invokevirtual 42, 3) := by decide +kernel
theorem dX6_turnAll_70 : decode cX6_turnAll 70 = .ok (.return_, 1) := by decide +kernel
abbrev mm_X6_turnAll : ab_M := (RX6, 5, none, false, 4, 95, none)
noncomputable def f_X6_turnAll_J54 (rec : Int → Int → Int → Int → Int → ab_H → Option ab_H) (k60 : Int → Int → Int → Int → ab_H → Option ab_H) (v0 : Int) (v1 : Int) (v2 : Int) (v3 : Int) (v4 : Int) (h : ab_H) : Option ab_H :=
  rec v0 v1 v2 v3 (ab_w32 (v4 + (1 : Int))) h
set_option maxRecDepth 20000 in
theorem e_X6_turnAll_J54 {rec : Int → Int → Int → Int → Int → ab_H → Option ab_H} {k60 : Int → Int → Int → Int → ab_H → Option ab_H} (hrec : ∀ (v0 : Int) (v1 : Int) (v2 : Int) (v3 : Int) (v4 : Int) (h : ab_H) (q : ab_H), rec v0 v1 v2 v3 v4 h = some q → ab_E mm_X6_turnAll cX6_turnAll 18 [some (ab_R v0), some (ab_R v1), some (ab_R v2), some (ab_I v3), some (ab_I v4)] [] h none q) (hk60 : ∀ (v0 : Int) (v1 : Int) (v2 : Int) (v3 : Int) (h : ab_H) (q : ab_H), k60 v0 v1 v2 v3 h = some q → ab_E mm_X6_turnAll cX6_turnAll 60 [some (ab_R v0), some (ab_R v1), some (ab_R v2), some (ab_I v3), none] [] h none q) : ∀ (v0 : Int) (v1 : Int) (v2 : Int) (v3 : Int) (v4 : Int) (h : ab_H) (q : ab_H), f_X6_turnAll_J54 rec k60 v0 v1 v2 v3 v4 h = some q → ab_E mm_X6_turnAll cX6_turnAll 54 [some (ab_R v0), some (ab_R v1), some (ab_R v2), some (ab_I v3), some (ab_I v4)] [] h none q := by
  intro v0 v1 v2 v3 v4 h q hk
  unfold f_X6_turnAll_J54 at hk
  refine ab_iinc (pc := 54) (i := 4) (lv2 := [some (ab_R v0), some (ab_R v1), some (ab_R v2), some (ab_I v3), some (ab_I (ab_w32 (v4 + (1 : Int))))]) dX6_turnAll_54 rfl (Nat.le_of_ble_eq_true rfl) rfl rfl ?_
  refine ab_goto (pc := 57) (tgt := 18) dX6_turnAll_57 rfl ?_
  refine ab_sub_ (lv2 := [some (ab_R v0), some (ab_R v1), some (ab_R v2), some (ab_I v3), some (ab_I (ab_w32 (v4 + (1 : Int))))]) (ab_ss (ab_ss (ab_ss (ab_ss (ab_ss ab_s0))))) ?_
  exact hrec _ _ _ _ _ _ _ hk
noncomputable def f_X6_turnAll_L18 (k60 : Int → Int → Int → Int → ab_H → Option ab_H) : Nat → Int → Int → Int → Int → Int → ab_H → Option ab_H
  | 0, _, _, _, _, _, _ => none
  | n + 1, v0, v1, v2, v3, v4, h =>
    (ab_get h 1 2 v1).bind fun t1 =>
    (ab_ald h 11 t1 v3).bind fun t2 =>
    if t2 ≤ v4 then
      k60 v0 v1 v2 v3 h
    else
    (ab_get h 1 4 v1).bind fun t3 =>
    (ab_ald h 11 t3 (ab_w32 ((ab_w32 (v3 * (6 : Int))) + v4))).bind fun t4 =>
    if t4 = (1 : Int) then
      (ab_on h 7 v0 (f_X6_addEntry v0 v1 v2 v3 v4 h)).bind fun q5 =>
      f_X6_turnAll_J54 (f_X6_turnAll_L18 k60 n) k60 v0 v1 v2 v3 v4 q5
    else
    f_X6_turnAll_J54 (f_X6_turnAll_L18 k60 n) k60 v0 v1 v2 v3 v4 h
set_option maxRecDepth 20000 in
theorem e_X6_turnAll_L18 {k60 : Int → Int → Int → Int → ab_H → Option ab_H} (hk60 : ∀ (v0 : Int) (v1 : Int) (v2 : Int) (v3 : Int) (h : ab_H) (q : ab_H), k60 v0 v1 v2 v3 h = some q → ab_E mm_X6_turnAll cX6_turnAll 60 [some (ab_R v0), some (ab_R v1), some (ab_R v2), some (ab_I v3), none] [] h none q) : ∀ (n : Nat) (v0 : Int) (v1 : Int) (v2 : Int) (v3 : Int) (v4 : Int) (h : ab_H) (q : ab_H), f_X6_turnAll_L18 k60 n v0 v1 v2 v3 v4 h = some q → ab_E mm_X6_turnAll cX6_turnAll 18 [some (ab_R v0), some (ab_R v1), some (ab_R v2), some (ab_I v3), some (ab_I v4)] [] h none q := by
  intro n
  induction n with
  | zero => intro v0 v1 v2 v3 v4 h q hk; cases hk
  | succ n ih =>
    intro v0 v1 v2 v3 v4 h q hk
    unfold f_X6_turnAll_L18 at hk
    refine ab_iload (pc := 18) (i := 4) dX6_turnAll_18 rfl ?_
    refine ab_aload_n (pc := 20) (i := 1) dX6_turnAll_20 rfl rfl ?_
    obtain ⟨t1, ht1, hk⟩ := ab_bnd hk
    refine ab_getR (pc := 21) dX6_turnAll_21 fl_RX6_32 ht1 ?_
    refine ab_iload_n (pc := 24) (i := 3) dX6_turnAll_24 rfl rfl ?_
    obtain ⟨t2, ht2, hk⟩ := ab_bnd hk
    refine ab_iald (pc := 25) dX6_turnAll_25 ht2 ?_
    refine ab_icmp_ge (pc := 26) (tgt := 60) dX6_turnAll_26 rfl (fun hc => ?_) (fun hc => ?_)
    · have hk := ab_ifp hk hc
      refine ab_sub_ (lv2 := [some (ab_R v0), some (ab_R v1), some (ab_R v2), some (ab_I v3), none]) (ab_ss (ab_ss (ab_ss (ab_ss (ab_sn ab_s0))))) ?_
      exact hk60 _ _ _ _ _ _ hk
    · have hk := ab_ifn hk hc
      refine ab_aload_n (pc := 29) (i := 1) dX6_turnAll_29 rfl rfl ?_
      obtain ⟨t3, ht3, hk⟩ := ab_bnd hk
      refine ab_getR (pc := 30) dX6_turnAll_30 fl_RX6_35 ht3 ?_
      refine ab_iload_n (pc := 33) (i := 3) dX6_turnAll_33 rfl rfl ?_
      refine ab_bipush (pc := 34) dX6_turnAll_34 ab_p8_6 ab_k_6 ?_
      refine ab_imul (pc := 36) dX6_turnAll_36 ?_
      refine ab_iload (pc := 37) (i := 4) dX6_turnAll_37 rfl ?_
      refine ab_iadd (pc := 39) dX6_turnAll_39 ?_
      obtain ⟨t4, ht4, hk⟩ := ab_bnd hk
      refine ab_iald (pc := 40) dX6_turnAll_40 ht4 ?_
      refine ab_iconst (pc := 41) dX6_turnAll_41 ab_k_1 ?_
      refine ab_icmp_ne (pc := 42) (tgt := 54) dX6_turnAll_42 rfl (fun hc => ?_) (fun hc => ?_)
      · have hk := ab_ifn hk hc
        refine ab_sub_ (lv2 := [some (ab_R v0), some (ab_R v1), some (ab_R v2), some (ab_I v3), some (ab_I v4)]) (ab_ss (ab_ss (ab_ss (ab_ss (ab_ss ab_s0))))) ?_
        exact e_X6_turnAll_J54 ih hk60 _ _ _ _ _ _ _ hk
      · have hk := ab_ifp hk hc
        refine ab_aload_n (pc := 45) (i := 0) dX6_turnAll_45 rfl rfl ?_
        refine ab_aload_n (pc := 46) (i := 1) dX6_turnAll_46 rfl rfl ?_
        refine ab_aload_n (pc := 47) (i := 2) dX6_turnAll_47 rfl rfl ?_
        refine ab_iload_n (pc := 48) (i := 3) dX6_turnAll_48 rfl rfl ?_
        refine ab_iload (pc := 49) (i := 4) dX6_turnAll_49 rfl ?_
        obtain ⟨q5, hq5, hk⟩ := ab_bnd hk
        obtain ⟨hb, hq5⟩ := ab_on_some hq5
        refine ab_callVV (st := []) (as := [ab_R v1, ab_R v2, ab_I v3, ab_I v4]) (b := v0) (pc := 51) dX6_turnAll_51 ml_RX6_38 my_X6_addEntry mv_X6_addEntry hb (ct_X6_addEntry hq5) ⟨Nat.le_of_ble_eq_true rfl, Nat.le_of_ble_eq_true rfl⟩ rfl (Nat.le_of_ble_eq_true rfl) rfl ?_
        refine ab_sub_ (lv2 := [some (ab_R v0), some (ab_R v1), some (ab_R v2), some (ab_I v3), some (ab_I v4)]) (ab_ss (ab_ss (ab_ss (ab_ss (ab_ss ab_s0))))) ?_
        exact e_X6_turnAll_J54 ih hk60 _ _ _ _ _ _ _ hk
noncomputable def f_X6_turnAll_L7 (k66 : Int → ab_H → Option ab_H) : Nat → Int → Int → Int → Int → ab_H → Option ab_H
  | 0, _, _, _, _, _ => none
  | n + 1, v0, v1, v2, v3, h =>
    (ab_get h 1 0 v1).bind fun t1 =>
    if t1 ≤ v3 then
      k66 v0 h
    else
    f_X6_turnAll_L18 (fun w60_0 w60_1 w60_2 w60_3 hx60 =>
      f_X6_turnAll_L7 k66 n w60_0 w60_1 w60_2 (ab_w32 (w60_3 + (1 : Int))) hx60) ab_FU v0 v1 v2 v3 (0 : Int) h
set_option maxRecDepth 20000 in
theorem e_X6_turnAll_L7 {k66 : Int → ab_H → Option ab_H} (hk66 : ∀ (v0 : Int) (h : ab_H) (q : ab_H), k66 v0 h = some q → ab_E mm_X6_turnAll cX6_turnAll 66 [some (ab_R v0), none, none, none, none] [] h none q) : ∀ (n : Nat) (v0 : Int) (v1 : Int) (v2 : Int) (v3 : Int) (h : ab_H) (q : ab_H), f_X6_turnAll_L7 k66 n v0 v1 v2 v3 h = some q → ab_E mm_X6_turnAll cX6_turnAll 7 [some (ab_R v0), some (ab_R v1), some (ab_R v2), some (ab_I v3), none] [] h none q := by
  intro n
  induction n with
  | zero => intro v0 v1 v2 v3 h q hk; cases hk
  | succ n ih =>
    intro v0 v1 v2 v3 h q hk
    unfold f_X6_turnAll_L7 at hk
    refine ab_iload_n (pc := 7) (i := 3) dX6_turnAll_7 rfl rfl ?_
    refine ab_aload_n (pc := 8) (i := 1) dX6_turnAll_8 rfl rfl ?_
    obtain ⟨t1, ht1, hk⟩ := ab_bnd hk
    refine ab_getI (pc := 9) dX6_turnAll_9 fl_RX6_29 ht1 ?_
    refine ab_icmp_ge (pc := 12) (tgt := 66) dX6_turnAll_12 rfl (fun hc => ?_) (fun hc => ?_)
    · have hk := ab_ifp hk hc
      refine ab_sub_ (lv2 := [some (ab_R v0), none, none, none, none]) (ab_ss (ab_sn (ab_sn (ab_sn (ab_sn ab_s0))))) ?_
      exact hk66 _ _ _ hk
    · have hk := ab_ifn hk hc
      refine ab_iconst (pc := 15) dX6_turnAll_15 ab_k_0 ?_
      refine ab_istore (pc := 16) (i := 4) (lv2 := [some (ab_R v0), some (ab_R v1), some (ab_R v2), some (ab_I v3), some (ab_I (0 : Int))]) dX6_turnAll_16 (Nat.le_of_ble_eq_true rfl) rfl rfl ?_
      refine ab_sub_ (lv2 := [some (ab_R v0), some (ab_R v1), some (ab_R v2), some (ab_I v3), some (ab_I (0 : Int))]) (ab_ss (ab_ss (ab_ss (ab_ss (ab_ss ab_s0))))) ?_
      refine e_X6_turnAll_L18 (fun w60_0 w60_1 w60_2 w60_3 hx60 q hk => ?_) _ _ _ _ _ _ _ _ hk
      · skip
        refine ab_iinc (pc := 60) (i := 3) (lv2 := [some (ab_R w60_0), some (ab_R w60_1), some (ab_R w60_2), some (ab_I (ab_w32 (w60_3 + (1 : Int)))), none]) dX6_turnAll_60 rfl (Nat.le_of_ble_eq_true rfl) rfl rfl ?_
        refine ab_goto (pc := 63) (tgt := 7) dX6_turnAll_63 rfl ?_
        refine ab_sub_ (lv2 := [some (ab_R w60_0), some (ab_R w60_1), some (ab_R w60_2), some (ab_I (ab_w32 (w60_3 + (1 : Int)))), none]) (ab_ss (ab_ss (ab_ss (ab_ss (ab_sn ab_s0))))) ?_
        exact ih _ _ _ _ _ _ hk
noncomputable def f_X6_turnAll (a0 : Int) (a1 : Int) (a2 : Int) (h : ab_H) : Option ab_H :=
  (ab_put h 7 1 a0 (0 : Int)).bind fun h1 =>
  f_X6_turnAll_L7 (fun w66_0 hx66 =>
    (ab_on hx66 7 w66_0 (f_X6_numberLinesAndHeads w66_0 hx66)).bind fun q1 =>
    some q1) ab_FU a0 a1 a2 (0 : Int) h1
set_option maxRecDepth 20000 in
theorem ct_X6_turnAll {a0 a1 a2 : Int} {h : ab_H} {q : ab_H} (hk : f_X6_turnAll a0 a1 a2 h = some q) : ab_CT yX6_turnAll cX6_turnAll 5 none 4 95 [ab_R a0, ab_R a1, ab_R a2] h none q := by
  refine ab_CT.mk_ 2 (own := RX6) (ini := false) (lv := [some (ab_R a0), some (ab_R a1), some (ab_R a2), none, none]) rfl (by decide +kernel) (fun q => by cases q) rfl rfl ?_
  unfold f_X6_turnAll at hk
  show ab_E mm_X6_turnAll cX6_turnAll 0 _ [] h _ _
  refine ab_aload_n (pc := 0) (i := 0) dX6_turnAll_0 rfl rfl ?_
  refine ab_iconst (pc := 1) dX6_turnAll_1 ab_k_0 ?_
  obtain ⟨h1, hh1, hk⟩ := ab_bnd hk
  refine ab_putI_ (pc := 2) dX6_turnAll_2 fl_RX6_25 (fun q => by cases q) hh1 ?_
  refine ab_iconst (pc := 5) dX6_turnAll_5 ab_k_0 ?_
  refine ab_istore_n (pc := 6) (i := 3) (lv2 := [some (ab_R a0), some (ab_R a1), some (ab_R a2), some (ab_I (0 : Int)), none]) dX6_turnAll_6 rfl (Nat.le_of_ble_eq_true rfl) rfl rfl ?_
  refine ab_sub_ (lv2 := [some (ab_R a0), some (ab_R a1), some (ab_R a2), some (ab_I (0 : Int)), none]) (ab_ss (ab_ss (ab_ss (ab_ss (ab_sn ab_s0))))) ?_
  refine e_X6_turnAll_L7 (fun w66_0 hx66 q hk => ?_) _ _ _ _ _ _ _ hk
  · skip
    refine ab_aload_n (pc := 66) (i := 0) dX6_turnAll_66 rfl rfl ?_
    obtain ⟨q1, hq1, hk⟩ := ab_bnd hk
    obtain ⟨hb, hq1⟩ := ab_on_some hq1
    refine ab_callVV (st := []) (as := []) (b := w66_0) (pc := 67) dX6_turnAll_67 ml_RX6_42 my_X6_numberLinesAndHeads mv_X6_numberLinesAndHeads hb (ct_X6_numberLinesAndHeads hq1) ⟨Nat.le_of_ble_eq_true rfl, Nat.le_of_ble_eq_true rfl⟩ rfl (Nat.le_of_ble_eq_true rfl) rfl ?_
    obtain rfl := Option.some.inj hk
    exact ab_retv (pc := 70) dX6_turnAll_70 rfl
theorem dX6_stringsAmong_0 : decode cX6_stringsAmong 0 = .ok (.iconst 0, 1) := by decide +kernel
theorem dX6_stringsAmong_1 : decode cX6_stringsAmong 1 = .ok (.istore_n 3, 1) := by decide +kernel
theorem dX6_stringsAmong_2 : decode cX6_stringsAmong 2 = .ok (.iload_n 1, 1) := by decide +kernel
theorem dX6_stringsAmong_3 : decode cX6_stringsAmong 3 = .ok (.istore 4, 2) := by decide +kernel
theorem dX6_stringsAmong_5 : decode cX6_stringsAmong 5 = .ok (.iload 4, 2) := by decide +kernel
theorem dX6_stringsAmong_7 : decode cX6_stringsAmong 7 = .ok (.iload_n 2, 1) := by decide +kernel
theorem dX6_stringsAmong_8 : decode cX6_stringsAmong 8 = .ok (.if_icmp .ge 24, 3) := by decide +kernel
theorem dX6_stringsAmong_11 : decode cX6_stringsAmong 11 = .ok (.iload_n 3, 1) := by decide +kernel
theorem dX6_stringsAmong_12 : decode cX6_stringsAmong 12 = .ok (.iconst 1, 1) := by decide +kernel
theorem dX6_stringsAmong_13 : decode cX6_stringsAmong 13 = .ok (.aload_n 0, 1) := by decide +kernel
theorem dX6_stringsAmong_14 : decode cX6_stringsAmong 14 = .ok (.getfield 11, 3) := by decide +kernel
theorem dX6_stringsAmong_17 : decode cX6_stringsAmong 17 = .ok (.iload 4, 2) := by decide +kernel
theorem dX6_stringsAmong_19 : decode cX6_stringsAmong 19 = .ok (.aaload, 1) := by decide +kernel
theorem dX6_stringsAmong_20 : decode cX6_stringsAmong 20 = .ok (.getfield 45, 3) := by decide +kernel
theorem dX6_stringsAmong_23 : decode cX6_stringsAmong 23 = .ok (.ishl, 1) := by decide +kernel
theorem dX6_stringsAmong_24 : decode cX6_stringsAmong 24 = .ok (.ior, 1) := by decide +kernel
theorem dX6_stringsAmong_25 : decode cX6_stringsAmong 25 = .ok (.istore_n 3, 1) := by decide +kernel
theorem dX6_stringsAmong_26 : decode cX6_stringsAmong 26 = .ok (.iinc 4 1, 3) := by decide +kernel
theorem dX6_stringsAmong_29 : decode cX6_stringsAmong 29 = .ok (.goto (-24), 3) := by decide +kernel
theorem dX6_stringsAmong_32 : decode cX6_stringsAmong 32 = .ok (.iload_n 3, 1) := by decide +kernel
theorem dX6_stringsAmong_33 : decode cX6_stringsAmong 33 = .ok (.ireturn, 1) := by decide +kernel
abbrev mm_X6_stringsAmong : ab_M := (RX6, 5, (some .int), false, 0, 0, none)
noncomputable def f_X6_stringsAmong_L5 : Nat → Int → Int → Int → Int → ab_H → Option (Int × ab_H)
  | 0, _, _, _, _, _ => none
  | n + 1, v0, v2, v3, v4, h =>
    if v2 ≤ v4 then
      some (v3, h)
    else
    (ab_get h 7 0 v0).bind fun t1 =>
    (ab_ald h 15 t1 v4).bind fun t2 =>
    (ab_get h 3 0 t2).bind fun t3 =>
    f_X6_stringsAmong_L5 n v0 v2 (ab_or v3 (ab_shl (1 : Int) t3)) (ab_w32 (v4 + (1 : Int))) h
set_option maxRecDepth 20000 in
theorem e_X6_stringsAmong_L5 : ∀ (n : Nat) (v0 : Int) (v2 : Int) (v3 : Int) (v4 : Int) (h : ab_H) (q : Int × ab_H), f_X6_stringsAmong_L5 n v0 v2 v3 v4 h = some q → ab_E mm_X6_stringsAmong cX6_stringsAmong 5 [some (ab_R v0), none, some (ab_I v2), some (ab_I v3), some (ab_I v4)] [] h (some (ab_I q.1)) q.2 := by
  intro n
  induction n with
  | zero => intro v0 v2 v3 v4 h q hk; cases hk
  | succ n ih =>
    intro v0 v2 v3 v4 h q hk
    unfold f_X6_stringsAmong_L5 at hk
    refine ab_iload (pc := 5) (i := 4) dX6_stringsAmong_5 rfl ?_
    refine ab_iload_n (pc := 7) (i := 2) dX6_stringsAmong_7 rfl rfl ?_
    refine ab_icmp_ge (pc := 8) (tgt := 32) dX6_stringsAmong_8 rfl (fun hc => ?_) (fun hc => ?_)
    · have hk := ab_ifp hk hc
      refine ab_iload_n (pc := 32) (i := 3) dX6_stringsAmong_32 rfl rfl ?_
      obtain rfl := Option.some.inj hk
      exact ab_reti (pc := 33) dX6_stringsAmong_33 (Or.inl rfl)
    · have hk := ab_ifn hk hc
      refine ab_iload_n (pc := 11) (i := 3) dX6_stringsAmong_11 rfl rfl ?_
      refine ab_iconst (pc := 12) dX6_stringsAmong_12 ab_k_1 ?_
      refine ab_aload_n (pc := 13) (i := 0) dX6_stringsAmong_13 rfl rfl ?_
      obtain ⟨t1, ht1, hk⟩ := ab_bnd hk
      refine ab_getR (pc := 14) dX6_stringsAmong_14 fl_RX6_11 ht1 ?_
      refine ab_iload (pc := 17) (i := 4) dX6_stringsAmong_17 rfl ?_
      obtain ⟨t2, ht2, hk⟩ := ab_bnd hk
      refine ab_aald (pc := 19) dX6_stringsAmong_19 (by decide) ht2 ?_
      obtain ⟨t3, ht3, hk⟩ := ab_bnd hk
      refine ab_getI (pc := 20) dX6_stringsAmong_20 fl_RX6_45 ht3 ?_
      refine ab_ishl (pc := 23) dX6_stringsAmong_23 ?_
      refine ab_ior (pc := 24) dX6_stringsAmong_24 ?_
      refine ab_istore_n (pc := 25) (i := 3) (lv2 := [some (ab_R v0), none, some (ab_I v2), some (ab_I (ab_or v3 (ab_shl (1 : Int) t3))), some (ab_I v4)]) dX6_stringsAmong_25 rfl (Nat.le_of_ble_eq_true rfl) rfl rfl ?_
      refine ab_iinc (pc := 26) (i := 4) (lv2 := [some (ab_R v0), none, some (ab_I v2), some (ab_I (ab_or v3 (ab_shl (1 : Int) t3))), some (ab_I (ab_w32 (v4 + (1 : Int))))]) dX6_stringsAmong_26 rfl (Nat.le_of_ble_eq_true rfl) rfl rfl ?_
      refine ab_goto (pc := 29) (tgt := 5) dX6_stringsAmong_29 rfl ?_
      refine ab_sub_ (lv2 := [some (ab_R v0), none, some (ab_I v2), some (ab_I (ab_or v3 (ab_shl (1 : Int) t3))), some (ab_I (ab_w32 (v4 + (1 : Int))))]) (ab_ss (ab_sn (ab_ss (ab_ss (ab_ss ab_s0))))) ?_
      exact ih _ _ _ _ _ _ hk
noncomputable def f_X6_stringsAmong (a0 : Int) (a1 : Int) (a2 : Int) (h : ab_H) : Option (Int × ab_H) :=
  f_X6_stringsAmong_L5 ab_FU a0 a2 (0 : Int) a1 h
set_option maxRecDepth 20000 in
theorem ct_X6_stringsAmong {a0 a1 a2 : Int} {h : ab_H} {q : Int × ab_H} (hk : f_X6_stringsAmong a0 a1 a2 h = some q) : ab_CT yX6_stringsAmong cX6_stringsAmong 5 (some .int) 0 0 [ab_R a0, ab_I a1, ab_I a2] h (some (ab_I q.1)) q.2 := by
  refine ab_CT.mk_ 2 (own := RX6) (ini := false) (lv := [some (ab_R a0), some (ab_I a1), some (ab_I a2), none, none]) rfl (by decide +kernel) (fun q => by cases q) rfl rfl ?_
  unfold f_X6_stringsAmong at hk
  show ab_E mm_X6_stringsAmong cX6_stringsAmong 0 _ [] h _ _
  refine ab_iconst (pc := 0) dX6_stringsAmong_0 ab_k_0 ?_
  refine ab_istore_n (pc := 1) (i := 3) (lv2 := [some (ab_R a0), some (ab_I a1), some (ab_I a2), some (ab_I (0 : Int)), none]) dX6_stringsAmong_1 rfl (Nat.le_of_ble_eq_true rfl) rfl rfl ?_
  refine ab_iload_n (pc := 2) (i := 1) dX6_stringsAmong_2 rfl rfl ?_
  refine ab_istore (pc := 3) (i := 4) (lv2 := [some (ab_R a0), some (ab_I a1), some (ab_I a2), some (ab_I (0 : Int)), some (ab_I a1)]) dX6_stringsAmong_3 (Nat.le_of_ble_eq_true rfl) rfl rfl ?_
  refine ab_sub_ (lv2 := [some (ab_R a0), none, some (ab_I a2), some (ab_I (0 : Int)), some (ab_I a1)]) (ab_ss (ab_sn (ab_ss (ab_ss (ab_ss ab_s0))))) ?_
  refine e_X6_stringsAmong_L5 _ _ _ _ _ _ _ hk
theorem dX6_stringsOfLine_0 : decode cX6_stringsOfLine 0 = .ok (.aload_n 0, 1) := by decide +kernel
theorem dX6_stringsOfLine_1 : decode cX6_stringsOfLine 1 = .ok (.aload_n 0, 1) := by decide +kernel
theorem dX6_stringsOfLine_2 : decode cX6_stringsOfLine 2 = .ok (.getfield 17, 3) := by decide +kernel
theorem dX6_stringsOfLine_5 : decode cX6_stringsOfLine 5 = .ok (.iload_n 1, 1) := by decide +kernel
theorem dX6_stringsOfLine_6 : decode cX6_stringsOfLine 6 = .ok (.iaload, 1) := by decide +kernel
theorem dX6_stringsOfLine_7 : decode cX6_stringsOfLine 7 = .ok (.aload_n 0, 1) := by decide +kernel
theorem dX6_stringsOfLine_8 : decode cX6_stringsOfLine 8 = .ok (.getfield 17, 3) := by decide +kernel
theorem dX6_stringsOfLine_11 : decode cX6_stringsOfLine 11 = .ok (.iload_n 1, 1) := by decide +kernel
theorem dX6_stringsOfLine_12 : decode cX6_stringsOfLine 12 = .ok (.iconst 1, 1) := by decide +kernel
theorem dX6_stringsOfLine_13 : decode cX6_stringsOfLine 13 = .ok (.iadd, 1) := by decide +kernel
theorem dX6_stringsOfLine_14 : decode cX6_stringsOfLine 14 = .ok (.iaload, 1) := by decide +kernel
theorem dX6_stringsOfLine_15 : decode cX6_stringsOfLine 15 = .ok (.invokevirtual 89, 3) := by decide +kernel
theorem dX6_stringsOfLine_18 : decode cX6_stringsOfLine 18 = .ok (.ireturn, 1) := by decide +kernel
abbrev mm_X6_stringsOfLine : ab_M := (RX6, 2, (some .int), false, 1, 24, none)
noncomputable def f_X6_stringsOfLine (a0 : Int) (a1 : Int) (h : ab_H) : Option (Int × ab_H) :=
  (ab_get h 7 2 a0).bind fun t1 =>
  (ab_ald h 11 t1 a1).bind fun t2 =>
  (ab_get h 7 2 a0).bind fun t3 =>
  (ab_ald h 11 t3 (ab_w32 (a1 + (1 : Int)))).bind fun t4 =>
  (ab_on h 7 a0 (f_X6_stringsAmong a0 t2 t4 h)).bind fun q5 =>
  some (q5.1, q5.2)
set_option maxRecDepth 20000 in
theorem ct_X6_stringsOfLine {a0 a1 : Int} {h : ab_H} {q : Int × ab_H} (hk : f_X6_stringsOfLine a0 a1 h = some q) : ab_CT yX6_stringsOfLine cX6_stringsOfLine 2 (some .int) 1 24 [ab_R a0, ab_I a1] h (some (ab_I q.1)) q.2 := by
  refine ab_CT.mk_ 0 (own := RX6) (ini := false) (lv := [some (ab_R a0), some (ab_I a1)]) rfl (by decide +kernel) (fun q => by cases q) rfl rfl ?_
  unfold f_X6_stringsOfLine at hk
  show ab_E mm_X6_stringsOfLine cX6_stringsOfLine 0 _ [] h _ _
  refine ab_aload_n (pc := 0) (i := 0) dX6_stringsOfLine_0 rfl rfl ?_
  refine ab_aload_n (pc := 1) (i := 0) dX6_stringsOfLine_1 rfl rfl ?_
  obtain ⟨t1, ht1, hk⟩ := ab_bnd hk
  refine ab_getR (pc := 2) dX6_stringsOfLine_2 fl_RX6_17 ht1 ?_
  refine ab_iload_n (pc := 5) (i := 1) dX6_stringsOfLine_5 rfl rfl ?_
  obtain ⟨t2, ht2, hk⟩ := ab_bnd hk
  refine ab_iald (pc := 6) dX6_stringsOfLine_6 ht2 ?_
  refine ab_aload_n (pc := 7) (i := 0) dX6_stringsOfLine_7 rfl rfl ?_
  obtain ⟨t3, ht3, hk⟩ := ab_bnd hk
  refine ab_getR (pc := 8) dX6_stringsOfLine_8 fl_RX6_17 ht3 ?_
  refine ab_iload_n (pc := 11) (i := 1) dX6_stringsOfLine_11 rfl rfl ?_
  refine ab_iconst (pc := 12) dX6_stringsOfLine_12 ab_k_1 ?_
  refine ab_iadd (pc := 13) dX6_stringsOfLine_13 ?_
  obtain ⟨t4, ht4, hk⟩ := ab_bnd hk
  refine ab_iald (pc := 14) dX6_stringsOfLine_14 ht4 ?_
  obtain ⟨q5, hq5, hk⟩ := ab_bnd hk
  obtain ⟨hb, hq5⟩ := ab_on_some hq5
  refine ab_callVI (st := []) (as := [ab_I t2, ab_I t4]) (b := a0) (pc := 15) dX6_stringsOfLine_15 ml_RX6_89 my_X6_stringsAmong mv_X6_stringsAmong hb (ct_X6_stringsAmong hq5) ⟨Nat.le_of_ble_eq_true rfl, Nat.le_of_ble_eq_true rfl⟩ rfl (Nat.le_of_ble_eq_true rfl) rfl ?_
  obtain rfl := Option.some.inj hk
  exact ab_reti (pc := 18) dX6_stringsOfLine_18 (Or.inl rfl)
theorem dX6_stringsOfHead_0 : decode cX6_stringsOfHead 0 = .ok (.aload_n 0, 1) := by decide +kernel
theorem dX6_stringsOfHead_1 : decode cX6_stringsOfHead 1 = .ok (.aload_n 0, 1) := by decide +kernel
theorem dX6_stringsOfHead_2 : decode cX6_stringsOfHead 2 = .ok (.getfield 21, 3) := by decide +kernel
theorem dX6_stringsOfHead_5 : decode cX6_stringsOfHead 5 = .ok (.iload_n 1, 1) := by decide +kernel
theorem dX6_stringsOfHead_6 : decode cX6_stringsOfHead 6 = .ok (.iaload, 1) := by decide +kernel
theorem dX6_stringsOfHead_7 : decode cX6_stringsOfHead 7 = .ok (.aload_n 0, 1) := by decide +kernel
theorem dX6_stringsOfHead_8 : decode cX6_stringsOfHead 8 = .ok (.getfield 21, 3) := by decide +kernel
theorem dX6_stringsOfHead_11 : decode cX6_stringsOfHead 11 = .ok (.iload_n 1, 1) := by decide +kernel
theorem dX6_stringsOfHead_12 : decode cX6_stringsOfHead 12 = .ok (.iconst 1, 1) := by decide +kernel
theorem dX6_stringsOfHead_13 : decode cX6_stringsOfHead 13 = .ok (.iadd, 1) := by decide +kernel
theorem dX6_stringsOfHead_14 : decode cX6_stringsOfHead 14 = .ok (.iaload, 1) := by decide +kernel
theorem dX6_stringsOfHead_15 : decode cX6_stringsOfHead 15 = .ok (.invokevirtual 89, 3) := by decide +kernel
theorem dX6_stringsOfHead_18 : decode cX6_stringsOfHead 18 = .ok (.ireturn, 1) := by decide +kernel
abbrev mm_X6_stringsOfHead : ab_M := (RX6, 2, (some .int), false, 1, 24, none)
noncomputable def f_X6_stringsOfHead (a0 : Int) (a1 : Int) (h : ab_H) : Option (Int × ab_H) :=
  (ab_get h 7 4 a0).bind fun t1 =>
  (ab_ald h 11 t1 a1).bind fun t2 =>
  (ab_get h 7 4 a0).bind fun t3 =>
  (ab_ald h 11 t3 (ab_w32 (a1 + (1 : Int)))).bind fun t4 =>
  (ab_on h 7 a0 (f_X6_stringsAmong a0 t2 t4 h)).bind fun q5 =>
  some (q5.1, q5.2)
set_option maxRecDepth 20000 in
theorem ct_X6_stringsOfHead {a0 a1 : Int} {h : ab_H} {q : Int × ab_H} (hk : f_X6_stringsOfHead a0 a1 h = some q) : ab_CT yX6_stringsOfHead cX6_stringsOfHead 2 (some .int) 1 24 [ab_R a0, ab_I a1] h (some (ab_I q.1)) q.2 := by
  refine ab_CT.mk_ 0 (own := RX6) (ini := false) (lv := [some (ab_R a0), some (ab_I a1)]) rfl (by decide +kernel) (fun q => by cases q) rfl rfl ?_
  unfold f_X6_stringsOfHead at hk
  show ab_E mm_X6_stringsOfHead cX6_stringsOfHead 0 _ [] h _ _
  refine ab_aload_n (pc := 0) (i := 0) dX6_stringsOfHead_0 rfl rfl ?_
  refine ab_aload_n (pc := 1) (i := 0) dX6_stringsOfHead_1 rfl rfl ?_
  obtain ⟨t1, ht1, hk⟩ := ab_bnd hk
  refine ab_getR (pc := 2) dX6_stringsOfHead_2 fl_RX6_21 ht1 ?_
  refine ab_iload_n (pc := 5) (i := 1) dX6_stringsOfHead_5 rfl rfl ?_
  obtain ⟨t2, ht2, hk⟩ := ab_bnd hk
  refine ab_iald (pc := 6) dX6_stringsOfHead_6 ht2 ?_
  refine ab_aload_n (pc := 7) (i := 0) dX6_stringsOfHead_7 rfl rfl ?_
  obtain ⟨t3, ht3, hk⟩ := ab_bnd hk
  refine ab_getR (pc := 8) dX6_stringsOfHead_8 fl_RX6_21 ht3 ?_
  refine ab_iload_n (pc := 11) (i := 1) dX6_stringsOfHead_11 rfl rfl ?_
  refine ab_iconst (pc := 12) dX6_stringsOfHead_12 ab_k_1 ?_
  refine ab_iadd (pc := 13) dX6_stringsOfHead_13 ?_
  obtain ⟨t4, ht4, hk⟩ := ab_bnd hk
  refine ab_iald (pc := 14) dX6_stringsOfHead_14 ht4 ?_
  obtain ⟨q5, hq5, hk⟩ := ab_bnd hk
  obtain ⟨hb, hq5⟩ := ab_on_some hq5
  refine ab_callVI (st := []) (as := [ab_I t2, ab_I t4]) (b := a0) (pc := 15) dX6_stringsOfHead_15 ml_RX6_89 my_X6_stringsAmong mv_X6_stringsAmong hb (ct_X6_stringsAmong hq5) ⟨Nat.le_of_ble_eq_true rfl, Nat.le_of_ble_eq_true rfl⟩ rfl (Nat.le_of_ble_eq_true rfl) rfl ?_
  obtain rfl := Option.some.inj hk
  exact ab_reti (pc := 18) dX6_stringsOfHead_18 (Or.inl rfl)
theorem dX6_doublesOf_0 : decode cX6_doublesOf 0 = .ok (.iconst 0, 1) := by decide +kernel
theorem dX6_doublesOf_1 : decode cX6_doublesOf 1 = .ok (.istore_n 2, 1) := by decide +kernel
theorem dX6_doublesOf_2 : decode cX6_doublesOf 2 = .ok (.iconst 0, 1) := by decide +kernel
theorem dX6_doublesOf_3 : decode cX6_doublesOf 3 = .ok (.istore_n 3, 1) := by decide +kernel
theorem dX6_doublesOf_4 : decode cX6_doublesOf 4 = .ok (.iload_n 3, 1) := by decide +kernel
theorem dX6_doublesOf_5 : decode cX6_doublesOf 5 = .ok (.aload_n 0, 1) := by decide +kernel
theorem dX6_doublesOf_6 : decode cX6_doublesOf 6 = .ok (.getfield 25, 3) := by decide +kernel
theorem dX6_doublesOf_9 : decode cX6_doublesOf 9 = .ok (.if_icmp .ge 37, 3) := by decide +kernel
theorem dX6_doublesOf_12 : decode cX6_doublesOf 12 = .ok (.aload_n 0, 1) := by decide +kernel
theorem dX6_doublesOf_13 : decode cX6_doublesOf 13 = .ok (.getfield 11, 3) := by decide +kernel
theorem dX6_doublesOf_16 : decode cX6_doublesOf 16 = .ok (.iload_n 3, 1) := by decide +kernel
theorem dX6_doublesOf_17 : decode cX6_doublesOf 17 = .ok (.aaload, 1) := by decide +kernel
theorem dX6_doublesOf_18 : decode cX6_doublesOf 18 = .ok (.getfield 45, 3) := by decide +kernel
theorem dX6_doublesOf_21 : decode cX6_doublesOf 21 = .ok (.iload_n 1, 1) := by decide +kernel
theorem dX6_doublesOf_22 : decode cX6_doublesOf 22 = .ok (.if_icmp .ne 18, 3) := by decide +kernel
theorem dX6_doublesOf_25 : decode cX6_doublesOf 25 = .ok (.iload_n 2, 1) := by decide +kernel
theorem dX6_doublesOf_26 : decode cX6_doublesOf 26 = .ok (.aload_n 0, 1) := by decide +kernel
theorem dX6_doublesOf_27 : decode cX6_doublesOf 27 = .ok (.getfield 11, 3) := by decide +kernel
theorem dX6_doublesOf_30 : decode cX6_doublesOf 30 = .ok (.iload_n 3, 1) := by decide +kernel
theorem dX6_doublesOf_31 : decode cX6_doublesOf 31 = .ok (.aaload, 1) := by decide +kernel
theorem dX6_doublesOf_32 : decode cX6_doublesOf 32 = .ok (.getfield 93, 3) := by decide +kernel
theorem dX6_doublesOf_35 : decode cX6_doublesOf 35 = .ok (.invokestatic 96, 3) := by decide +kernel
theorem dX6_doublesOf_38 : decode cX6_doublesOf 38 = .ok (.iadd, 1) := by decide +kernel
theorem dX6_doublesOf_39 : decode cX6_doublesOf 39 = .ok (.istore_n 2, 1) := by decide +kernel
theorem dX6_doublesOf_40 : decode cX6_doublesOf 40 = .ok (.iinc 3 1, 3) := by decide +kernel
theorem dX6_doublesOf_43 : decode cX6_doublesOf 43 = .ok (.goto (-39), 3) := by decide +kernel
theorem dX6_doublesOf_46 : decode cX6_doublesOf 46 = .ok (.iload_n 2, 1) := by decide +kernel
theorem dX6_doublesOf_47 : decode cX6_doublesOf 47 = .ok (.ireturn, 1) := by decide +kernel
abbrev mm_X6_doublesOf : ab_M := (RX6, 4, (some .int), false, 1, 20, none)
noncomputable def f_X6_doublesOf_J40 (rec : Int → Int → Int → Int → ab_H → Option (Int × ab_H)) (v0 : Int) (v1 : Int) (v2 : Int) (v3 : Int) (h : ab_H) : Option (Int × ab_H) :=
  rec v0 v1 v2 (ab_w32 (v3 + (1 : Int))) h
set_option maxRecDepth 20000 in
theorem e_X6_doublesOf_J40 {rec : Int → Int → Int → Int → ab_H → Option (Int × ab_H)} (hrec : ∀ (v0 : Int) (v1 : Int) (v2 : Int) (v3 : Int) (h : ab_H) (q : Int × ab_H), rec v0 v1 v2 v3 h = some q → ab_E mm_X6_doublesOf cX6_doublesOf 4 [some (ab_R v0), some (ab_I v1), some (ab_I v2), some (ab_I v3)] [] h (some (ab_I q.1)) q.2) : ∀ (v0 : Int) (v1 : Int) (v2 : Int) (v3 : Int) (h : ab_H) (q : Int × ab_H), f_X6_doublesOf_J40 rec v0 v1 v2 v3 h = some q → ab_E mm_X6_doublesOf cX6_doublesOf 40 [some (ab_R v0), some (ab_I v1), some (ab_I v2), some (ab_I v3)] [] h (some (ab_I q.1)) q.2 := by
  intro v0 v1 v2 v3 h q hk
  unfold f_X6_doublesOf_J40 at hk
  refine ab_iinc (pc := 40) (i := 3) (lv2 := [some (ab_R v0), some (ab_I v1), some (ab_I v2), some (ab_I (ab_w32 (v3 + (1 : Int))))]) dX6_doublesOf_40 rfl (Nat.le_of_ble_eq_true rfl) rfl rfl ?_
  refine ab_goto (pc := 43) (tgt := 4) dX6_doublesOf_43 rfl ?_
  refine ab_sub_ (lv2 := [some (ab_R v0), some (ab_I v1), some (ab_I v2), some (ab_I (ab_w32 (v3 + (1 : Int))))]) (ab_ss (ab_ss (ab_ss (ab_ss ab_s0)))) ?_
  exact hrec _ _ _ _ _ _ hk
noncomputable def f_X6_doublesOf_L4 : Nat → Int → Int → Int → Int → ab_H → Option (Int × ab_H)
  | 0, _, _, _, _, _ => none
  | n + 1, v0, v1, v2, v3, h =>
    (ab_get h 7 1 v0).bind fun t1 =>
    if t1 ≤ v3 then
      some (v2, h)
    else
    (ab_get h 7 0 v0).bind fun t2 =>
    (ab_ald h 15 t2 v3).bind fun t3 =>
    (ab_get h 3 0 t3).bind fun t4 =>
    if t4 = v1 then
      (ab_get h 7 0 v0).bind fun t5 =>
      (ab_ald h 15 t5 v3).bind fun t6 =>
      (ab_get h 3 8 t6).bind fun t7 =>
      (f_J6_bitCount_0f7a4 t7 h).bind fun q8 =>
      f_X6_doublesOf_J40 (f_X6_doublesOf_L4 n) v0 v1 (ab_w32 (v2 + q8.1)) v3 q8.2
    else
    f_X6_doublesOf_J40 (f_X6_doublesOf_L4 n) v0 v1 v2 v3 h
set_option maxRecDepth 20000 in
theorem e_X6_doublesOf_L4 : ∀ (n : Nat) (v0 : Int) (v1 : Int) (v2 : Int) (v3 : Int) (h : ab_H) (q : Int × ab_H), f_X6_doublesOf_L4 n v0 v1 v2 v3 h = some q → ab_E mm_X6_doublesOf cX6_doublesOf 4 [some (ab_R v0), some (ab_I v1), some (ab_I v2), some (ab_I v3)] [] h (some (ab_I q.1)) q.2 := by
  intro n
  induction n with
  | zero => intro v0 v1 v2 v3 h q hk; cases hk
  | succ n ih =>
    intro v0 v1 v2 v3 h q hk
    unfold f_X6_doublesOf_L4 at hk
    refine ab_iload_n (pc := 4) (i := 3) dX6_doublesOf_4 rfl rfl ?_
    refine ab_aload_n (pc := 5) (i := 0) dX6_doublesOf_5 rfl rfl ?_
    obtain ⟨t1, ht1, hk⟩ := ab_bnd hk
    refine ab_getI (pc := 6) dX6_doublesOf_6 fl_RX6_25 ht1 ?_
    refine ab_icmp_ge (pc := 9) (tgt := 46) dX6_doublesOf_9 rfl (fun hc => ?_) (fun hc => ?_)
    · have hk := ab_ifp hk hc
      refine ab_iload_n (pc := 46) (i := 2) dX6_doublesOf_46 rfl rfl ?_
      obtain rfl := Option.some.inj hk
      exact ab_reti (pc := 47) dX6_doublesOf_47 (Or.inl rfl)
    · have hk := ab_ifn hk hc
      refine ab_aload_n (pc := 12) (i := 0) dX6_doublesOf_12 rfl rfl ?_
      obtain ⟨t2, ht2, hk⟩ := ab_bnd hk
      refine ab_getR (pc := 13) dX6_doublesOf_13 fl_RX6_11 ht2 ?_
      refine ab_iload_n (pc := 16) (i := 3) dX6_doublesOf_16 rfl rfl ?_
      obtain ⟨t3, ht3, hk⟩ := ab_bnd hk
      refine ab_aald (pc := 17) dX6_doublesOf_17 (by decide) ht3 ?_
      obtain ⟨t4, ht4, hk⟩ := ab_bnd hk
      refine ab_getI (pc := 18) dX6_doublesOf_18 fl_RX6_45 ht4 ?_
      refine ab_iload_n (pc := 21) (i := 1) dX6_doublesOf_21 rfl rfl ?_
      refine ab_icmp_ne (pc := 22) (tgt := 40) dX6_doublesOf_22 rfl (fun hc => ?_) (fun hc => ?_)
      · have hk := ab_ifn hk hc
        refine ab_sub_ (lv2 := [some (ab_R v0), some (ab_I v1), some (ab_I v2), some (ab_I v3)]) (ab_ss (ab_ss (ab_ss (ab_ss ab_s0)))) ?_
        exact e_X6_doublesOf_J40 ih _ _ _ _ _ _ hk
      · have hk := ab_ifp hk hc
        refine ab_iload_n (pc := 25) (i := 2) dX6_doublesOf_25 rfl rfl ?_
        refine ab_aload_n (pc := 26) (i := 0) dX6_doublesOf_26 rfl rfl ?_
        obtain ⟨t5, ht5, hk⟩ := ab_bnd hk
        refine ab_getR (pc := 27) dX6_doublesOf_27 fl_RX6_11 ht5 ?_
        refine ab_iload_n (pc := 30) (i := 3) dX6_doublesOf_30 rfl rfl ?_
        obtain ⟨t6, ht6, hk⟩ := ab_bnd hk
        refine ab_aald (pc := 31) dX6_doublesOf_31 (by decide) ht6 ?_
        obtain ⟨t7, ht7, hk⟩ := ab_bnd hk
        refine ab_getI (pc := 32) dX6_doublesOf_32 fl_RX6_93 ht7 ?_
        obtain ⟨q8, hq8, hk⟩ := ab_bnd hk
        refine ab_callSI (st := [ab_I v2]) (as := [ab_I t7]) (pc := 35) dX6_doublesOf_35 ml_RX6_96 my_J6_bitCount_0f7a4 ms_J6_bitCount_0f7a4 (ct_J6_bitCount_0f7a4 hq8) ⟨Nat.le_of_ble_eq_true rfl, Nat.le_of_ble_eq_true rfl⟩ rfl (Nat.le_of_ble_eq_true rfl) rfl ?_
        refine ab_iadd (pc := 38) dX6_doublesOf_38 ?_
        refine ab_istore_n (pc := 39) (i := 2) (lv2 := [some (ab_R v0), some (ab_I v1), some (ab_I (ab_w32 (v2 + q8.1))), some (ab_I v3)]) dX6_doublesOf_39 rfl (Nat.le_of_ble_eq_true rfl) rfl rfl ?_
        refine ab_sub_ (lv2 := [some (ab_R v0), some (ab_I v1), some (ab_I (ab_w32 (v2 + q8.1))), some (ab_I v3)]) (ab_ss (ab_ss (ab_ss (ab_ss ab_s0)))) ?_
        exact e_X6_doublesOf_J40 ih _ _ _ _ _ _ hk
noncomputable def f_X6_doublesOf (a0 : Int) (a1 : Int) (h : ab_H) : Option (Int × ab_H) :=
  f_X6_doublesOf_L4 ab_FU a0 a1 (0 : Int) (0 : Int) h
set_option maxRecDepth 20000 in
theorem ct_X6_doublesOf {a0 a1 : Int} {h : ab_H} {q : Int × ab_H} (hk : f_X6_doublesOf a0 a1 h = some q) : ab_CT yX6_doublesOf cX6_doublesOf 4 (some .int) 1 20 [ab_R a0, ab_I a1] h (some (ab_I q.1)) q.2 := by
  refine ab_CT.mk_ 2 (own := RX6) (ini := false) (lv := [some (ab_R a0), some (ab_I a1), none, none]) rfl (by decide +kernel) (fun q => by cases q) rfl rfl ?_
  unfold f_X6_doublesOf at hk
  show ab_E mm_X6_doublesOf cX6_doublesOf 0 _ [] h _ _
  refine ab_iconst (pc := 0) dX6_doublesOf_0 ab_k_0 ?_
  refine ab_istore_n (pc := 1) (i := 2) (lv2 := [some (ab_R a0), some (ab_I a1), some (ab_I (0 : Int)), none]) dX6_doublesOf_1 rfl (Nat.le_of_ble_eq_true rfl) rfl rfl ?_
  refine ab_iconst (pc := 2) dX6_doublesOf_2 ab_k_0 ?_
  refine ab_istore_n (pc := 3) (i := 3) (lv2 := [some (ab_R a0), some (ab_I a1), some (ab_I (0 : Int)), some (ab_I (0 : Int))]) dX6_doublesOf_3 rfl (Nat.le_of_ble_eq_true rfl) rfl rfl ?_
  refine ab_sub_ (lv2 := [some (ab_R a0), some (ab_I a1), some (ab_I (0 : Int)), some (ab_I (0 : Int))]) (ab_ss (ab_ss (ab_ss (ab_ss ab_s0)))) ?_
  refine e_X6_doublesOf_L4 _ _ _ _ _ _ _ hk
theorem dX6_doublesOfAll_0 : decode cX6_doublesOfAll 0 = .ok (.iconst 0, 1) := by decide +kernel
theorem dX6_doublesOfAll_1 : decode cX6_doublesOfAll 1 = .ok (.istore_n 1, 1) := by decide +kernel
theorem dX6_doublesOfAll_2 : decode cX6_doublesOfAll 2 = .ok (.iconst 0, 1) := by decide +kernel
theorem dX6_doublesOfAll_3 : decode cX6_doublesOfAll 3 = .ok (.istore_n 2, 1) := by decide +kernel
theorem dX6_doublesOfAll_4 : decode cX6_doublesOfAll 4 = .ok (.iload_n 2, 1) := by decide +kernel
theorem dX6_doublesOfAll_5 : decode cX6_doublesOfAll 5 = .ok (.aload_n 0, 1) := by decide +kernel
theorem dX6_doublesOfAll_6 : decode cX6_doublesOfAll 6 = .ok (.getfield 25, 3) := by decide +kernel
theorem dX6_doublesOfAll_9 : decode cX6_doublesOfAll 9 = .ok (.if_icmp .ge 24, 3) := by decide +kernel
theorem dX6_doublesOfAll_12 : decode cX6_doublesOfAll 12 = .ok (.iload_n 1, 1) := by decide +kernel
theorem dX6_doublesOfAll_13 : decode cX6_doublesOfAll 13 = .ok (.aload_n 0, 1) := by decide +kernel
theorem dX6_doublesOfAll_14 : decode cX6_doublesOfAll 14 = .ok (.getfield 11, 3) := by decide +kernel
theorem dX6_doublesOfAll_17 : decode cX6_doublesOfAll 17 = .ok (.iload_n 2, 1) := by decide +kernel
theorem dX6_doublesOfAll_18 : decode cX6_doublesOfAll 18 = .ok (.aaload, 1) := by decide +kernel
theorem dX6_doublesOfAll_19 : decode cX6_doublesOfAll 19 = .ok (.getfield 93, 3) := by decide +kernel
theorem dX6_doublesOfAll_22 : decode cX6_doublesOfAll 22 = .ok (.invokestatic 96, 3) := by decide +kernel
theorem dX6_doublesOfAll_25 : decode cX6_doublesOfAll 25 = .ok (.iadd, 1) := by decide +kernel
theorem dX6_doublesOfAll_26 : decode cX6_doublesOfAll 26 = .ok (.istore_n 1, 1) := by decide +kernel
theorem dX6_doublesOfAll_27 : decode cX6_doublesOfAll 27 = .ok (.iinc 2 1, 3) := by decide +kernel
theorem dX6_doublesOfAll_30 : decode cX6_doublesOfAll 30 = .ok (.goto (-26), 3) := by decide +kernel
theorem dX6_doublesOfAll_33 : decode cX6_doublesOfAll 33 = .ok (.iload_n 1, 1) := by decide +kernel
theorem dX6_doublesOfAll_34 : decode cX6_doublesOfAll 34 = .ok (.ireturn, 1) := by decide +kernel
abbrev mm_X6_doublesOfAll : ab_M := (RX6, 3, (some .int), false, 1, 20, none)
noncomputable def f_X6_doublesOfAll_L4 : Nat → Int → Int → Int → ab_H → Option (Int × ab_H)
  | 0, _, _, _, _ => none
  | n + 1, v0, v1, v2, h =>
    (ab_get h 7 1 v0).bind fun t1 =>
    if t1 ≤ v2 then
      some (v1, h)
    else
    (ab_get h 7 0 v0).bind fun t2 =>
    (ab_ald h 15 t2 v2).bind fun t3 =>
    (ab_get h 3 8 t3).bind fun t4 =>
    (f_J6_bitCount_0f7a4 t4 h).bind fun q5 =>
    f_X6_doublesOfAll_L4 n v0 (ab_w32 (v1 + q5.1)) (ab_w32 (v2 + (1 : Int))) q5.2
set_option maxRecDepth 20000 in
theorem e_X6_doublesOfAll_L4 : ∀ (n : Nat) (v0 : Int) (v1 : Int) (v2 : Int) (h : ab_H) (q : Int × ab_H), f_X6_doublesOfAll_L4 n v0 v1 v2 h = some q → ab_E mm_X6_doublesOfAll cX6_doublesOfAll 4 [some (ab_R v0), some (ab_I v1), some (ab_I v2)] [] h (some (ab_I q.1)) q.2 := by
  intro n
  induction n with
  | zero => intro v0 v1 v2 h q hk; cases hk
  | succ n ih =>
    intro v0 v1 v2 h q hk
    unfold f_X6_doublesOfAll_L4 at hk
    refine ab_iload_n (pc := 4) (i := 2) dX6_doublesOfAll_4 rfl rfl ?_
    refine ab_aload_n (pc := 5) (i := 0) dX6_doublesOfAll_5 rfl rfl ?_
    obtain ⟨t1, ht1, hk⟩ := ab_bnd hk
    refine ab_getI (pc := 6) dX6_doublesOfAll_6 fl_RX6_25 ht1 ?_
    refine ab_icmp_ge (pc := 9) (tgt := 33) dX6_doublesOfAll_9 rfl (fun hc => ?_) (fun hc => ?_)
    · have hk := ab_ifp hk hc
      refine ab_iload_n (pc := 33) (i := 1) dX6_doublesOfAll_33 rfl rfl ?_
      obtain rfl := Option.some.inj hk
      exact ab_reti (pc := 34) dX6_doublesOfAll_34 (Or.inl rfl)
    · have hk := ab_ifn hk hc
      refine ab_iload_n (pc := 12) (i := 1) dX6_doublesOfAll_12 rfl rfl ?_
      refine ab_aload_n (pc := 13) (i := 0) dX6_doublesOfAll_13 rfl rfl ?_
      obtain ⟨t2, ht2, hk⟩ := ab_bnd hk
      refine ab_getR (pc := 14) dX6_doublesOfAll_14 fl_RX6_11 ht2 ?_
      refine ab_iload_n (pc := 17) (i := 2) dX6_doublesOfAll_17 rfl rfl ?_
      obtain ⟨t3, ht3, hk⟩ := ab_bnd hk
      refine ab_aald (pc := 18) dX6_doublesOfAll_18 (by decide) ht3 ?_
      obtain ⟨t4, ht4, hk⟩ := ab_bnd hk
      refine ab_getI (pc := 19) dX6_doublesOfAll_19 fl_RX6_93 ht4 ?_
      obtain ⟨q5, hq5, hk⟩ := ab_bnd hk
      refine ab_callSI (st := [ab_I v1]) (as := [ab_I t4]) (pc := 22) dX6_doublesOfAll_22 ml_RX6_96 my_J6_bitCount_0f7a4 ms_J6_bitCount_0f7a4 (ct_J6_bitCount_0f7a4 hq5) ⟨Nat.le_of_ble_eq_true rfl, Nat.le_of_ble_eq_true rfl⟩ rfl (Nat.le_of_ble_eq_true rfl) rfl ?_
      refine ab_iadd (pc := 25) dX6_doublesOfAll_25 ?_
      refine ab_istore_n (pc := 26) (i := 1) (lv2 := [some (ab_R v0), some (ab_I (ab_w32 (v1 + q5.1))), some (ab_I v2)]) dX6_doublesOfAll_26 rfl (Nat.le_of_ble_eq_true rfl) rfl rfl ?_
      refine ab_iinc (pc := 27) (i := 2) (lv2 := [some (ab_R v0), some (ab_I (ab_w32 (v1 + q5.1))), some (ab_I (ab_w32 (v2 + (1 : Int))))]) dX6_doublesOfAll_27 rfl (Nat.le_of_ble_eq_true rfl) rfl rfl ?_
      refine ab_goto (pc := 30) (tgt := 4) dX6_doublesOfAll_30 rfl ?_
      refine ab_sub_ (lv2 := [some (ab_R v0), some (ab_I (ab_w32 (v1 + q5.1))), some (ab_I (ab_w32 (v2 + (1 : Int))))]) (ab_ss (ab_ss (ab_ss ab_s0))) ?_
      exact ih _ _ _ _ _ hk
noncomputable def f_X6_doublesOfAll (a0 : Int) (h : ab_H) : Option (Int × ab_H) :=
  f_X6_doublesOfAll_L4 ab_FU a0 (0 : Int) (0 : Int) h
set_option maxRecDepth 20000 in
theorem ct_X6_doublesOfAll {a0 : Int} {h : ab_H} {q : Int × ab_H} (hk : f_X6_doublesOfAll a0 h = some q) : ab_CT yX6_doublesOfAll cX6_doublesOfAll 3 (some .int) 1 20 [ab_R a0] h (some (ab_I q.1)) q.2 := by
  refine ab_CT.mk_ 2 (own := RX6) (ini := false) (lv := [some (ab_R a0), none, none]) rfl (by decide +kernel) (fun q => by cases q) rfl rfl ?_
  unfold f_X6_doublesOfAll at hk
  show ab_E mm_X6_doublesOfAll cX6_doublesOfAll 0 _ [] h _ _
  refine ab_iconst (pc := 0) dX6_doublesOfAll_0 ab_k_0 ?_
  refine ab_istore_n (pc := 1) (i := 1) (lv2 := [some (ab_R a0), some (ab_I (0 : Int)), none]) dX6_doublesOfAll_1 rfl (Nat.le_of_ble_eq_true rfl) rfl rfl ?_
  refine ab_iconst (pc := 2) dX6_doublesOfAll_2 ab_k_0 ?_
  refine ab_istore_n (pc := 3) (i := 2) (lv2 := [some (ab_R a0), some (ab_I (0 : Int)), some (ab_I (0 : Int))]) dX6_doublesOfAll_3 rfl (Nat.le_of_ble_eq_true rfl) rfl rfl ?_
  refine ab_sub_ (lv2 := [some (ab_R a0), some (ab_I (0 : Int)), some (ab_I (0 : Int))]) (ab_ss (ab_ss (ab_ss ab_s0))) ?_
  refine e_X6_doublesOfAll_L4 _ _ _ _ _ _ hk
theorem dX6_putJoined_0 : decode cX6_putJoined 0 = .ok (.aload_n 0, 1) := by decide +kernel
theorem dX6_putJoined_1 : decode cX6_putJoined 1 = .ok (.iload_n 1, 1) := by decide +kernel
theorem dX6_putJoined_2 : decode cX6_putJoined 2 = .ok (.invokevirtual 140, 3) := by decide +kernel
theorem dX6_putJoined_5 : decode cX6_putJoined 5 = .ok (.lload_n 2, 1) := by decide +kernel
theorem dX6_putJoined_6 : decode cX6_putJoined 6 = .ok (.lconst 0, 1) := by decide +kernel
theorem dX6_putJoined_7 : decode cX6_putJoined 7 = .ok (.lcmp, 1) := by decide +kernel
theorem dX6_putJoined_8 : decode cX6_putJoined 8 = .ok (.ifCond .eq 14, 3) := by decide +kernel
theorem dX6_putJoined_11 : decode cX6_putJoined 11 = .ok (.aload_n 0, 1) := by decide +kernel
theorem dX6_putJoined_12 : decode cX6_putJoined 12 = .ok (.bipush 32, 2) := by decide +kernel
theorem dX6_putJoined_14 : decode cX6_putJoined 14 = .ok (.invokevirtual 140, 3) := by decide +kernel
theorem dX6_putJoined_17 : decode cX6_putJoined 17 = .ok (.aload_n 0, 1) := by decide +kernel
theorem dX6_putJoined_18 : decode cX6_putJoined 18 = .ok (.lload_n 2, 1) := by decide +kernel
theorem dX6_putJoined_19 : decode cX6_putJoined 19 = .ok (.invokevirtual 108, 3) := by decide +kernel
theorem dX6_putJoined_22 : decode cX6_putJoined 22 = .ok (.lload 4, 2) := by decide +kernel
theorem dX6_putJoined_24 : decode cX6_putJoined 24 = .ok (.lconst 0, 1) := by decide +kernel
theorem dX6_putJoined_25 : decode cX6_putJoined 25 = .ok (.lcmp, 1) := by decide +kernel
theorem dX6_putJoined_26 : decode cX6_putJoined 26 = .ok (.ifCond .eq 15, 3) := by decide +kernel
theorem dX6_putJoined_29 : decode cX6_putJoined 29 = .ok (.aload_n 0, 1) := by decide +kernel
theorem dX6_putJoined_30 : decode cX6_putJoined 30 = .ok (.bipush 32, 2) := by decide +kernel
theorem dX6_putJoined_32 : decode cX6_putJoined 32 = .ok (.invokevirtual 140, 3) := by decide +kernel
theorem dX6_putJoined_35 : decode cX6_putJoined 35 = .ok (.aload_n 0, 1) := by decide +kernel
theorem dX6_putJoined_36 : decode cX6_putJoined 36 = .ok (.lload 4, 2) := by decide +kernel
theorem dX6_putJoined_38 : decode cX6_putJoined 38 = .ok (.invokevirtual 108, 3) := by decide +kernel
theorem dX6_putJoined_41 : decode cX6_putJoined 41 = .ok (.return_, 1) := by decide +kernel
abbrev mm_X6_putJoined : ab_M := (RX6, 6, none, false, 2, 46, none)
noncomputable def f_X6_putJoined_J22 (v0 : Int) (v4 : Int) (h : ab_H) : Option ab_H :=
  if ab_cmp v4 (0 : Int) = (0 : Int) then
    some h
  else
  (ab_on h 2 v0 (f_X1_put v0 (32 : Int) h)).bind fun q1 =>
  (ab_on q1 2 v0 (f_X1_putName v0 v4 q1)).bind fun q2 =>
  some q2
set_option maxRecDepth 20000 in
theorem e_X6_putJoined_J22 : ∀ (v0 : Int) (v4 : Int) (h : ab_H) (q : ab_H), f_X6_putJoined_J22 v0 v4 h = some q → ab_E mm_X6_putJoined cX6_putJoined 22 [some (ab_R v0), none, none, none, some (ab_J v4), none] [] h none q := by
  intro v0 v4 h q hk
  unfold f_X6_putJoined_J22 at hk
  refine ab_lload (pc := 22) (i := 4) dX6_putJoined_22 rfl ?_
  refine ab_lconst (x := (0 : Int)) (pc := 24) dX6_putJoined_24 rfl ab_kl_0 ?_
  refine ab_lcmp_ (pc := 25) dX6_putJoined_25 ?_
  refine ab_if_eq (pc := 26) (tgt := 41) dX6_putJoined_26 rfl (fun hc => ?_) (fun hc => ?_)
  · have hk := ab_ifp hk hc
    obtain rfl := Option.some.inj hk
    exact ab_retv (pc := 41) dX6_putJoined_41 rfl
  · have hk := ab_ifn hk hc
    refine ab_aload_n (pc := 29) (i := 0) dX6_putJoined_29 rfl rfl ?_
    refine ab_bipush (pc := 30) dX6_putJoined_30 ab_p8_32 ab_k_32 ?_
    obtain ⟨q1, hq1, hk⟩ := ab_bnd hk
    obtain ⟨hb, hq1⟩ := ab_on_some hq1
    refine ab_callVV (st := []) (as := [ab_I (32 : Int)]) (b := v0) (pc := 32) dX6_putJoined_32 ml_RX6_140 my_X1_put mv_X1_put hb (ct_X1_put hq1) ⟨Nat.le_of_ble_eq_true rfl, Nat.le_of_ble_eq_true rfl⟩ rfl (Nat.le_of_ble_eq_true rfl) rfl ?_
    refine ab_aload_n (pc := 35) (i := 0) dX6_putJoined_35 rfl rfl ?_
    refine ab_lload (pc := 36) (i := 4) dX6_putJoined_36 rfl ?_
    obtain ⟨q2, hq2, hk⟩ := ab_bnd hk
    obtain ⟨hb, hq2⟩ := ab_on_some hq2
    refine ab_callVV (st := []) (as := [ab_J v4]) (b := v0) (pc := 38) dX6_putJoined_38 ml_RX6_108 my_X1_putName mv_X1_putName hb (ct_X1_putName hq2) ⟨Nat.le_of_ble_eq_true rfl, Nat.le_of_ble_eq_true rfl⟩ rfl (Nat.le_of_ble_eq_true rfl) rfl ?_
    obtain rfl := Option.some.inj hk
    exact ab_retv (pc := 41) dX6_putJoined_41 rfl
noncomputable def f_X6_putJoined (a0 : Int) (a1 : Int) (a2 : Int) (a4 : Int) (h : ab_H) : Option ab_H :=
  (ab_on h 2 a0 (f_X1_put a0 a1 h)).bind fun q1 =>
  if ab_cmp a2 (0 : Int) = (0 : Int) then
    f_X6_putJoined_J22 a0 a4 q1
  else
  (ab_on q1 2 a0 (f_X1_put a0 (32 : Int) q1)).bind fun q2 =>
  (ab_on q2 2 a0 (f_X1_putName a0 a2 q2)).bind fun q3 =>
  f_X6_putJoined_J22 a0 a4 q3
set_option maxRecDepth 20000 in
theorem ct_X6_putJoined {a0 a1 a2 a4 : Int} {h : ab_H} {q : ab_H} (hk : f_X6_putJoined a0 a1 a2 a4 h = some q) : ab_CT yX6_putJoined cX6_putJoined 6 none 2 46 [ab_R a0, ab_I a1, ab_J a2, ab_J a4] h none q := by
  refine ab_CT.mk_ 0 (own := RX6) (ini := false) (lv := [some (ab_R a0), some (ab_I a1), some (ab_J a2), none, some (ab_J a4), none]) rfl (by decide +kernel) (fun q => by cases q) rfl rfl ?_
  unfold f_X6_putJoined at hk
  show ab_E mm_X6_putJoined cX6_putJoined 0 _ [] h _ _
  refine ab_aload_n (pc := 0) (i := 0) dX6_putJoined_0 rfl rfl ?_
  refine ab_iload_n (pc := 1) (i := 1) dX6_putJoined_1 rfl rfl ?_
  obtain ⟨q1, hq1, hk⟩ := ab_bnd hk
  obtain ⟨hb, hq1⟩ := ab_on_some hq1
  refine ab_callVV (st := []) (as := [ab_I a1]) (b := a0) (pc := 2) dX6_putJoined_2 ml_RX6_140 my_X1_put mv_X1_put hb (ct_X1_put hq1) ⟨Nat.le_of_ble_eq_true rfl, Nat.le_of_ble_eq_true rfl⟩ rfl (Nat.le_of_ble_eq_true rfl) rfl ?_
  refine ab_lload_n (pc := 5) (i := 2) dX6_putJoined_5 rfl rfl ?_
  refine ab_lconst (x := (0 : Int)) (pc := 6) dX6_putJoined_6 rfl ab_kl_0 ?_
  refine ab_lcmp_ (pc := 7) dX6_putJoined_7 ?_
  refine ab_if_eq (pc := 8) (tgt := 22) dX6_putJoined_8 rfl (fun hc => ?_) (fun hc => ?_)
  · have hk := ab_ifp hk hc
    refine ab_sub_ (lv2 := [some (ab_R a0), none, none, none, some (ab_J a4), none]) (ab_ss (ab_sn (ab_sn (ab_sn (ab_ss (ab_sn ab_s0)))))) ?_
    exact e_X6_putJoined_J22 _ _ _ _ hk
  · have hk := ab_ifn hk hc
    refine ab_aload_n (pc := 11) (i := 0) dX6_putJoined_11 rfl rfl ?_
    refine ab_bipush (pc := 12) dX6_putJoined_12 ab_p8_32 ab_k_32 ?_
    obtain ⟨q2, hq2, hk⟩ := ab_bnd hk
    obtain ⟨hb, hq2⟩ := ab_on_some hq2
    refine ab_callVV (st := []) (as := [ab_I (32 : Int)]) (b := a0) (pc := 14) dX6_putJoined_14 ml_RX6_140 my_X1_put mv_X1_put hb (ct_X1_put hq2) ⟨Nat.le_of_ble_eq_true rfl, Nat.le_of_ble_eq_true rfl⟩ rfl (Nat.le_of_ble_eq_true rfl) rfl ?_
    refine ab_aload_n (pc := 17) (i := 0) dX6_putJoined_17 rfl rfl ?_
    refine ab_lload_n (pc := 18) (i := 2) dX6_putJoined_18 rfl rfl ?_
    obtain ⟨q3, hq3, hk⟩ := ab_bnd hk
    obtain ⟨hb, hq3⟩ := ab_on_some hq3
    refine ab_callVV (st := []) (as := [ab_J a2]) (b := a0) (pc := 19) dX6_putJoined_19 ml_RX6_108 my_X1_putName mv_X1_putName hb (ct_X1_putName hq3) ⟨Nat.le_of_ble_eq_true rfl, Nat.le_of_ble_eq_true rfl⟩ rfl (Nat.le_of_ble_eq_true rfl) rfl ?_
    refine ab_sub_ (lv2 := [some (ab_R a0), none, none, none, some (ab_J a4), none]) (ab_ss (ab_sn (ab_sn (ab_sn (ab_ss (ab_sn ab_s0)))))) ?_
    exact e_X6_putJoined_J22 _ _ _ _ hk
theorem dX6_printAddresses_0 : decode cX6_printAddresses 0 = .ok (.iconst (-1), 1) := by decide +kernel
theorem dX6_printAddresses_1 : decode cX6_printAddresses 1 = .ok (.istore_n 3, 1) := by decide +kernel
theorem dX6_printAddresses_2 : decode cX6_printAddresses 2 = .ok (.aload_n 0, 1) := by decide +kernel
theorem dX6_printAddresses_3 : decode cX6_printAddresses 3 = .ok (.getfield 17, 3) := by decide +kernel
theorem dX6_printAddresses_6 : decode cX6_printAddresses 6 = .ok (.iload_n 1, 1) := by decide +kernel
theorem dX6_printAddresses_7 : decode cX6_printAddresses 7 = .ok (.iaload, 1) := by decide +kernel
theorem dX6_printAddresses_8 : decode cX6_printAddresses 8 = .ok (.istore 4, 2) := by decide +kernel
theorem dX6_printAddresses_10 : decode cX6_printAddresses 10 = .ok (.iload 4, 2) := by decide +kernel
theorem dX6_printAddresses_12 : decode cX6_printAddresses 12 = .ok (.aload_n 0, 1) := by decide +kernel
theorem dX6_printAddresses_13 : decode cX6_printAddresses 13 = .ok (.getfield 17, 3) := by decide +kernel
theorem dX6_printAddresses_16 : decode cX6_printAddresses 16 = .ok (.iload_n 1, 1) := by decide +kernel
theorem dX6_printAddresses_17 : decode cX6_printAddresses 17 = .ok (.iconst 1, 1) := by decide +kernel
theorem dX6_printAddresses_18 : decode cX6_printAddresses 18 = .ok (.iadd, 1) := by decide +kernel
theorem dX6_printAddresses_19 : decode cX6_printAddresses 19 = .ok (.iaload, 1) := by decide +kernel
theorem dX6_printAddresses_20 : decode cX6_printAddresses 20 = .ok (.if_icmp .ge 55, 3) := by decide +kernel
theorem dX6_printAddresses_23 : decode cX6_printAddresses 23 = .ok (.aload_n 0, 1) := by decide +kernel
theorem dX6_printAddresses_24 : decode cX6_printAddresses 24 = .ok (.getfield 11, 3) := by decide +kernel
theorem dX6_printAddresses_27 : decode cX6_printAddresses 27 = .ok (.iload 4, 2) := by decide +kernel
theorem dX6_printAddresses_29 : decode cX6_printAddresses 29 = .ok (.aaload, 1) := by decide +kernel
theorem dX6_printAddresses_30 : decode cX6_printAddresses 30 = .ok (.getfield 51, 3) := by decide +kernel
theorem dX6_printAddresses_33 : decode cX6_printAddresses 33 = .ok (.istore 5, 2) := by decide +kernel
theorem dX6_printAddresses_35 : decode cX6_printAddresses 35 = .ok (.iload 5, 2) := by decide +kernel
theorem dX6_printAddresses_37 : decode cX6_printAddresses 37 = .ok (.iload_n 3, 1) := by decide +kernel
theorem dX6_printAddresses_38 : decode cX6_printAddresses 38 = .ok (.if_icmp .ne 6, 3) := by decide +kernel
theorem dX6_printAddresses_41 : decode cX6_printAddresses 41 = .ok (.goto 28, 3) := by decide +kernel
theorem dX6_printAddresses_44 : decode cX6_printAddresses 44 = .ok (.aload_n 2, 1) := by decide +kernel
theorem dX6_printAddresses_45 : decode cX6_printAddresses 45 = .ok (.iload_n 3, 1) := by decide +kernel
theorem dX6_printAddresses_46 : decode cX6_printAddresses 46 = .ok (.iconst (-1), 1) := by decide +kernel
theorem dX6_printAddresses_47 : decode cX6_printAddresses 47 = .ok (.if_icmp .ne 8, 3) := by decide +kernel
theorem dX6_printAddresses_50 : decode cX6_printAddresses 50 = .ok (.bipush 32, 2) := by decide +kernel
theorem dX6_printAddresses_52 : decode cX6_printAddresses 52 = .ok (.goto 5, 3) := by decide +kernel
theorem dX6_printAddresses_55 : decode cX6_printAddresses 55 = .ok (.bipush 44, 2) := by decide +kernel
theorem dX6_printAddresses_57 : decode cX6_printAddresses 57 = .ok (.invokevirtual 140, 3) := by decide +kernel
theorem dX6_printAddresses_60 : decode cX6_printAddresses 60 = .ok (.aload_n 2, 1) := by decide +kernel
theorem dX6_printAddresses_61 : decode cX6_printAddresses 61 = .ok (.iload 5, 2) := by decide +kernel
theorem dX6_printAddresses_63 : decode cX6_printAddresses 63 = .ok (.invokevirtual 144, 3) := by decide +kernel
theorem dX6_printAddresses_66 : decode cX6_printAddresses 66 = .ok (.iload 5, 2) := by decide +kernel
theorem dX6_printAddresses_68 : decode cX6_printAddresses 68 = .ok (.istore_n 3, 1) := by decide +kernel
theorem dX6_printAddresses_69 : decode cX6_printAddresses 69 = .ok (.iinc 4 1, 3) := by decide +kernel
theorem dX6_printAddresses_72 : decode cX6_printAddresses 72 = .ok (.goto (-62), 3) := by decide +kernel
theorem dX6_printAddresses_75 : decode cX6_printAddresses 75 = .ok (.return_, 1) := by decide +kernel
abbrev mm_X6_printAddresses : ab_M := (RX6, 6, none, false, 2, 42, none)
noncomputable def f_X6_printAddresses_J69 (rec : Int → Int → Int → Int → Int → ab_H → Option ab_H) (v0 : Int) (v1 : Int) (v2 : Int) (v3 : Int) (v4 : Int) (h : ab_H) : Option ab_H :=
  rec v0 v1 v2 v3 (ab_w32 (v4 + (1 : Int))) h
set_option maxRecDepth 20000 in
theorem e_X6_printAddresses_J69 {rec : Int → Int → Int → Int → Int → ab_H → Option ab_H} (hrec : ∀ (v0 : Int) (v1 : Int) (v2 : Int) (v3 : Int) (v4 : Int) (h : ab_H) (q : ab_H), rec v0 v1 v2 v3 v4 h = some q → ab_E mm_X6_printAddresses cX6_printAddresses 10 [some (ab_R v0), some (ab_I v1), some (ab_R v2), some (ab_I v3), some (ab_I v4), none] [] h none q) : ∀ (v0 : Int) (v1 : Int) (v2 : Int) (v3 : Int) (v4 : Int) (h : ab_H) (q : ab_H), f_X6_printAddresses_J69 rec v0 v1 v2 v3 v4 h = some q → ab_E mm_X6_printAddresses cX6_printAddresses 69 [some (ab_R v0), some (ab_I v1), some (ab_R v2), some (ab_I v3), some (ab_I v4), none] [] h none q := by
  intro v0 v1 v2 v3 v4 h q hk
  unfold f_X6_printAddresses_J69 at hk
  refine ab_iinc (pc := 69) (i := 4) (lv2 := [some (ab_R v0), some (ab_I v1), some (ab_R v2), some (ab_I v3), some (ab_I (ab_w32 (v4 + (1 : Int)))), none]) dX6_printAddresses_69 rfl (Nat.le_of_ble_eq_true rfl) rfl rfl ?_
  refine ab_goto (pc := 72) (tgt := 10) dX6_printAddresses_72 rfl ?_
  refine ab_sub_ (lv2 := [some (ab_R v0), some (ab_I v1), some (ab_R v2), some (ab_I v3), some (ab_I (ab_w32 (v4 + (1 : Int)))), none]) (ab_ss (ab_ss (ab_ss (ab_ss (ab_ss (ab_sn ab_s0)))))) ?_
  exact hrec _ _ _ _ _ _ _ hk
noncomputable def f_X6_printAddresses_J57 (rec : Int → Int → Int → Int → Int → ab_H → Option ab_H) (v0 : Int) (v1 : Int) (v2 : Int) (v4 : Int) (v5 : Int) (s1 : Int) (s0 : Int) (h : ab_H) : Option ab_H :=
  (ab_on h 2 s0 (f_X1_put s0 s1 h)).bind fun q1 =>
  (ab_on q1 2 v2 (f_X1_putAddress v2 v5 q1)).bind fun q2 =>
  f_X6_printAddresses_J69 rec v0 v1 v2 v5 v4 q2
set_option maxRecDepth 20000 in
theorem e_X6_printAddresses_J57 {rec : Int → Int → Int → Int → Int → ab_H → Option ab_H} (hrec : ∀ (v0 : Int) (v1 : Int) (v2 : Int) (v3 : Int) (v4 : Int) (h : ab_H) (q : ab_H), rec v0 v1 v2 v3 v4 h = some q → ab_E mm_X6_printAddresses cX6_printAddresses 10 [some (ab_R v0), some (ab_I v1), some (ab_R v2), some (ab_I v3), some (ab_I v4), none] [] h none q) : ∀ (v0 : Int) (v1 : Int) (v2 : Int) (v4 : Int) (v5 : Int) (s1 : Int) (s0 : Int) (h : ab_H) (q : ab_H), f_X6_printAddresses_J57 rec v0 v1 v2 v4 v5 s1 s0 h = some q → ab_E mm_X6_printAddresses cX6_printAddresses 57 [some (ab_R v0), some (ab_I v1), some (ab_R v2), none, some (ab_I v4), some (ab_I v5)] [ab_I s1, ab_R s0] h none q := by
  intro v0 v1 v2 v4 v5 s1 s0 h q hk
  unfold f_X6_printAddresses_J57 at hk
  obtain ⟨q1, hq1, hk⟩ := ab_bnd hk
  obtain ⟨hb, hq1⟩ := ab_on_some hq1
  refine ab_callVV (st := []) (as := [ab_I s1]) (b := s0) (pc := 57) dX6_printAddresses_57 ml_RX6_140 my_X1_put mv_X1_put hb (ct_X1_put hq1) ⟨Nat.le_of_ble_eq_true rfl, Nat.le_of_ble_eq_true rfl⟩ rfl (Nat.le_of_ble_eq_true rfl) rfl ?_
  refine ab_aload_n (pc := 60) (i := 2) dX6_printAddresses_60 rfl rfl ?_
  refine ab_iload (pc := 61) (i := 5) dX6_printAddresses_61 rfl ?_
  obtain ⟨q2, hq2, hk⟩ := ab_bnd hk
  obtain ⟨hb, hq2⟩ := ab_on_some hq2
  refine ab_callVV (st := []) (as := [ab_I v5]) (b := v2) (pc := 63) dX6_printAddresses_63 ml_RX6_144 my_X1_putAddress mv_X1_putAddress hb (ct_X1_putAddress hq2) ⟨Nat.le_of_ble_eq_true rfl, Nat.le_of_ble_eq_true rfl⟩ rfl (Nat.le_of_ble_eq_true rfl) rfl ?_
  refine ab_iload (pc := 66) (i := 5) dX6_printAddresses_66 rfl ?_
  refine ab_istore_n (pc := 68) (i := 3) (lv2 := [some (ab_R v0), some (ab_I v1), some (ab_R v2), some (ab_I v5), some (ab_I v4), some (ab_I v5)]) dX6_printAddresses_68 rfl (Nat.le_of_ble_eq_true rfl) rfl rfl ?_
  refine ab_sub_ (lv2 := [some (ab_R v0), some (ab_I v1), some (ab_R v2), some (ab_I v5), some (ab_I v4), none]) (ab_ss (ab_ss (ab_ss (ab_ss (ab_ss (ab_sn ab_s0)))))) ?_
  exact e_X6_printAddresses_J69 hrec _ _ _ _ _ _ _ hk
noncomputable def f_X6_printAddresses_L10 : Nat → Int → Int → Int → Int → Int → ab_H → Option ab_H
  | 0, _, _, _, _, _, _ => none
  | n + 1, v0, v1, v2, v3, v4, h =>
    (ab_get h 7 2 v0).bind fun t1 =>
    (ab_ald h 11 t1 (ab_w32 (v1 + (1 : Int)))).bind fun t2 =>
    if t2 ≤ v4 then
      some h
    else
    (ab_get h 7 0 v0).bind fun t3 =>
    (ab_ald h 15 t3 v4).bind fun t4 =>
    (ab_get h 3 1 t4).bind fun t5 =>
    if t5 = v3 then
      f_X6_printAddresses_J69 (f_X6_printAddresses_L10 n) v0 v1 v2 v3 v4 h
    else
    if v3 = (-1 : Int) then
      f_X6_printAddresses_J57 (f_X6_printAddresses_L10 n) v0 v1 v2 v4 t5 (32 : Int) v2 h
    else
    f_X6_printAddresses_J57 (f_X6_printAddresses_L10 n) v0 v1 v2 v4 t5 (44 : Int) v2 h
set_option maxRecDepth 20000 in
theorem e_X6_printAddresses_L10 : ∀ (n : Nat) (v0 : Int) (v1 : Int) (v2 : Int) (v3 : Int) (v4 : Int) (h : ab_H) (q : ab_H), f_X6_printAddresses_L10 n v0 v1 v2 v3 v4 h = some q → ab_E mm_X6_printAddresses cX6_printAddresses 10 [some (ab_R v0), some (ab_I v1), some (ab_R v2), some (ab_I v3), some (ab_I v4), none] [] h none q := by
  intro n
  induction n with
  | zero => intro v0 v1 v2 v3 v4 h q hk; cases hk
  | succ n ih =>
    intro v0 v1 v2 v3 v4 h q hk
    unfold f_X6_printAddresses_L10 at hk
    refine ab_iload (pc := 10) (i := 4) dX6_printAddresses_10 rfl ?_
    refine ab_aload_n (pc := 12) (i := 0) dX6_printAddresses_12 rfl rfl ?_
    obtain ⟨t1, ht1, hk⟩ := ab_bnd hk
    refine ab_getR (pc := 13) dX6_printAddresses_13 fl_RX6_17 ht1 ?_
    refine ab_iload_n (pc := 16) (i := 1) dX6_printAddresses_16 rfl rfl ?_
    refine ab_iconst (pc := 17) dX6_printAddresses_17 ab_k_1 ?_
    refine ab_iadd (pc := 18) dX6_printAddresses_18 ?_
    obtain ⟨t2, ht2, hk⟩ := ab_bnd hk
    refine ab_iald (pc := 19) dX6_printAddresses_19 ht2 ?_
    refine ab_icmp_ge (pc := 20) (tgt := 75) dX6_printAddresses_20 rfl (fun hc => ?_) (fun hc => ?_)
    · have hk := ab_ifp hk hc
      obtain rfl := Option.some.inj hk
      exact ab_retv (pc := 75) dX6_printAddresses_75 rfl
    · have hk := ab_ifn hk hc
      refine ab_aload_n (pc := 23) (i := 0) dX6_printAddresses_23 rfl rfl ?_
      obtain ⟨t3, ht3, hk⟩ := ab_bnd hk
      refine ab_getR (pc := 24) dX6_printAddresses_24 fl_RX6_11 ht3 ?_
      refine ab_iload (pc := 27) (i := 4) dX6_printAddresses_27 rfl ?_
      obtain ⟨t4, ht4, hk⟩ := ab_bnd hk
      refine ab_aald (pc := 29) dX6_printAddresses_29 (by decide) ht4 ?_
      obtain ⟨t5, ht5, hk⟩ := ab_bnd hk
      refine ab_getI (pc := 30) dX6_printAddresses_30 fl_RX6_51 ht5 ?_
      refine ab_istore (pc := 33) (i := 5) (lv2 := [some (ab_R v0), some (ab_I v1), some (ab_R v2), some (ab_I v3), some (ab_I v4), some (ab_I t5)]) dX6_printAddresses_33 (Nat.le_of_ble_eq_true rfl) rfl rfl ?_
      refine ab_iload (pc := 35) (i := 5) dX6_printAddresses_35 rfl ?_
      refine ab_iload_n (pc := 37) (i := 3) dX6_printAddresses_37 rfl rfl ?_
      refine ab_icmp_ne (pc := 38) (tgt := 44) dX6_printAddresses_38 rfl (fun hc => ?_) (fun hc => ?_)
      · have hk := ab_ifn hk hc
        refine ab_aload_n (pc := 44) (i := 2) dX6_printAddresses_44 rfl rfl ?_
        refine ab_iload_n (pc := 45) (i := 3) dX6_printAddresses_45 rfl rfl ?_
        refine ab_iconst (pc := 46) dX6_printAddresses_46 ab_k_m1 ?_
        refine ab_icmp_ne (pc := 47) (tgt := 55) dX6_printAddresses_47 rfl (fun hc => ?_) (fun hc => ?_)
        · have hk := ab_ifn hk hc
          refine ab_bipush (pc := 55) dX6_printAddresses_55 ab_p8_44 ab_k_44 ?_
          refine ab_sub_ (lv2 := [some (ab_R v0), some (ab_I v1), some (ab_R v2), none, some (ab_I v4), some (ab_I t5)]) (ab_ss (ab_ss (ab_ss (ab_sn (ab_ss (ab_ss ab_s0)))))) ?_
          exact e_X6_printAddresses_J57 ih _ _ _ _ _ _ _ _ _ hk
        · have hk := ab_ifp hk hc
          refine ab_bipush (pc := 50) dX6_printAddresses_50 ab_p8_32 ab_k_32 ?_
          refine ab_goto (pc := 52) (tgt := 57) dX6_printAddresses_52 rfl ?_
          refine ab_sub_ (lv2 := [some (ab_R v0), some (ab_I v1), some (ab_R v2), none, some (ab_I v4), some (ab_I t5)]) (ab_ss (ab_ss (ab_ss (ab_sn (ab_ss (ab_ss ab_s0)))))) ?_
          exact e_X6_printAddresses_J57 ih _ _ _ _ _ _ _ _ _ hk
      · have hk := ab_ifp hk hc
        refine ab_goto (pc := 41) (tgt := 69) dX6_printAddresses_41 rfl ?_
        refine ab_sub_ (lv2 := [some (ab_R v0), some (ab_I v1), some (ab_R v2), some (ab_I v3), some (ab_I v4), none]) (ab_ss (ab_ss (ab_ss (ab_ss (ab_ss (ab_sn ab_s0)))))) ?_
        exact e_X6_printAddresses_J69 ih _ _ _ _ _ _ _ hk
noncomputable def f_X6_printAddresses (a0 : Int) (a1 : Int) (a2 : Int) (h : ab_H) : Option ab_H :=
  (ab_get h 7 2 a0).bind fun t1 =>
  (ab_ald h 11 t1 a1).bind fun t2 =>
  f_X6_printAddresses_L10 ab_FU a0 a1 a2 (-1 : Int) t2 h
set_option maxRecDepth 20000 in
theorem ct_X6_printAddresses {a0 a1 a2 : Int} {h : ab_H} {q : ab_H} (hk : f_X6_printAddresses a0 a1 a2 h = some q) : ab_CT yX6_printAddresses cX6_printAddresses 6 none 2 42 [ab_R a0, ab_I a1, ab_R a2] h none q := by
  refine ab_CT.mk_ 3 (own := RX6) (ini := false) (lv := [some (ab_R a0), some (ab_I a1), some (ab_R a2), none, none, none]) rfl (by decide +kernel) (fun q => by cases q) rfl rfl ?_
  unfold f_X6_printAddresses at hk
  show ab_E mm_X6_printAddresses cX6_printAddresses 0 _ [] h _ _
  refine ab_iconst (pc := 0) dX6_printAddresses_0 ab_k_m1 ?_
  refine ab_istore_n (pc := 1) (i := 3) (lv2 := [some (ab_R a0), some (ab_I a1), some (ab_R a2), some (ab_I (-1 : Int)), none, none]) dX6_printAddresses_1 rfl (Nat.le_of_ble_eq_true rfl) rfl rfl ?_
  refine ab_aload_n (pc := 2) (i := 0) dX6_printAddresses_2 rfl rfl ?_
  obtain ⟨t1, ht1, hk⟩ := ab_bnd hk
  refine ab_getR (pc := 3) dX6_printAddresses_3 fl_RX6_17 ht1 ?_
  refine ab_iload_n (pc := 6) (i := 1) dX6_printAddresses_6 rfl rfl ?_
  obtain ⟨t2, ht2, hk⟩ := ab_bnd hk
  refine ab_iald (pc := 7) dX6_printAddresses_7 ht2 ?_
  refine ab_istore (pc := 8) (i := 4) (lv2 := [some (ab_R a0), some (ab_I a1), some (ab_R a2), some (ab_I (-1 : Int)), some (ab_I t2), none]) dX6_printAddresses_8 (Nat.le_of_ble_eq_true rfl) rfl rfl ?_
  refine ab_sub_ (lv2 := [some (ab_R a0), some (ab_I a1), some (ab_R a2), some (ab_I (-1 : Int)), some (ab_I t2), none]) (ab_ss (ab_ss (ab_ss (ab_ss (ab_ss (ab_sn ab_s0)))))) ?_
  refine e_X6_printAddresses_L10 _ _ _ _ _ _ _ _ hk
theorem dX6_printLine_0 : decode cX6_printLine 0 = .ok (.aload_n 0, 1) := by decide +kernel
theorem dX6_printLine_1 : decode cX6_printLine 1 = .ok (.getfield 11, 3) := by decide +kernel
theorem dX6_printLine_4 : decode cX6_printLine 4 = .ok (.aload_n 0, 1) := by decide +kernel
theorem dX6_printLine_5 : decode cX6_printLine 5 = .ok (.getfield 17, 3) := by decide +kernel
theorem dX6_printLine_8 : decode cX6_printLine 8 = .ok (.iload_n 1, 1) := by decide +kernel
theorem dX6_printLine_9 : decode cX6_printLine 9 = .ok (.iaload, 1) := by decide +kernel
theorem dX6_printLine_10 : decode cX6_printLine 10 = .ok (.aaload, 1) := by decide +kernel
theorem dX6_printLine_11 : decode cX6_printLine 11 = .ok (.astore 5, 2) := by decide +kernel
theorem dX6_printLine_13 : decode cX6_printLine 13 = .ok (.aload 4, 2) := by decide +kernel
theorem dX6_printLine_15 : decode cX6_printLine 15 = .ok (.aload_n 2, 1) := by decide +kernel
theorem dX6_printLine_16 : decode cX6_printLine 16 = .ok (.getfield 102, 3) := by decide +kernel
theorem dX6_printLine_19 : decode cX6_printLine 19 = .ok (.aload 5, 2) := by decide +kernel
theorem dX6_printLine_21 : decode cX6_printLine 21 = .ok (.getfield 80, 3) := by decide +kernel
theorem dX6_printLine_24 : decode cX6_printLine 24 = .ok (.laload, 1) := by decide +kernel
theorem dX6_printLine_25 : decode cX6_printLine 25 = .ok (.invokevirtual 108, 3) := by decide +kernel
theorem dX6_printLine_28 : decode cX6_printLine 28 = .ok (.iconst 0, 1) := by decide +kernel
theorem dX6_printLine_29 : decode cX6_printLine 29 = .ok (.istore 6, 2) := by decide +kernel
theorem dX6_printLine_31 : decode cX6_printLine 31 = .ok (.iload 6, 2) := by decide +kernel
theorem dX6_printLine_33 : decode cX6_printLine 33 = .ok (.aload 5, 2) := by decide +kernel
theorem dX6_printLine_35 : decode cX6_printLine 35 = .ok (.getfield 114, 3) := by decide +kernel
theorem dX6_printLine_38 : decode cX6_printLine 38 = .ok (.if_icmp .ge 103, 3) := by decide +kernel
theorem dX6_printLine_41 : decode cX6_printLine 41 = .ok (.aload 5, 2) := by decide +kernel
theorem dX6_printLine_43 : decode cX6_printLine 43 = .ok (.getfield 45, 3) := by decide +kernel
theorem dX6_printLine_46 : decode cX6_printLine 46 = .ok (.bipush 6, 2) := by decide +kernel
theorem dX6_printLine_48 : decode cX6_printLine 48 = .ok (.imul, 1) := by decide +kernel
theorem dX6_printLine_49 : decode cX6_printLine 49 = .ok (.aload 5, 2) := by decide +kernel
theorem dX6_printLine_51 : decode cX6_printLine 51 = .ok (.getfield 115, 3) := by decide +kernel
theorem dX6_printLine_54 : decode cX6_printLine 54 = .ok (.iload 6, 2) := by decide +kernel
theorem dX6_printLine_56 : decode cX6_printLine 56 = .ok (.iaload, 1) := by decide +kernel
theorem dX6_printLine_57 : decode cX6_printLine 57 = .ok (.iadd, 1) := by decide +kernel
theorem dX6_printLine_58 : decode cX6_printLine 58 = .ok (.istore 7, 2) := by decide +kernel
theorem dX6_printLine_60 : decode cX6_printLine 60 = .ok (.aload_n 2, 1) := by decide +kernel
theorem dX6_printLine_61 : decode cX6_printLine 61 = .ok (.getfield 102, 3) := by decide +kernel
theorem dX6_printLine_64 : decode cX6_printLine 64 = .ok (.aload 5, 2) := by decide +kernel
theorem dX6_printLine_66 : decode cX6_printLine 66 = .ok (.getfield 118, 3) := by decide +kernel
theorem dX6_printLine_69 : decode cX6_printLine 69 = .ok (.iload 6, 2) := by decide +kernel
theorem dX6_printLine_71 : decode cX6_printLine 71 = .ok (.iaload, 1) := by decide +kernel
theorem dX6_printLine_72 : decode cX6_printLine 72 = .ok (.laload, 1) := by decide +kernel
theorem dX6_printLine_73 : decode cX6_printLine 73 = .ok (.lstore 8, 2) := by decide +kernel
theorem dX6_printLine_75 : decode cX6_printLine 75 = .ok (.iload 6, 2) := by decide +kernel
theorem dX6_printLine_77 : decode cX6_printLine 77 = .ok (.aload 5, 2) := by decide +kernel
theorem dX6_printLine_79 : decode cX6_printLine 79 = .ok (.getfield 121, 3) := by decide +kernel
theorem dX6_printLine_82 : decode cX6_printLine 82 = .ok (.if_icmp .ge 22, 3) := by decide +kernel
theorem dX6_printLine_85 : decode cX6_printLine 85 = .ok (.aload 4, 2) := by decide +kernel
theorem dX6_printLine_87 : decode cX6_printLine 87 = .ok (.bipush 44, 2) := by decide +kernel
theorem dX6_printLine_89 : decode cX6_printLine 89 = .ok (.lload 8, 2) := by decide +kernel
theorem dX6_printLine_91 : decode cX6_printLine 91 = .ok (.aload_n 3, 1) := by decide +kernel
theorem dX6_printLine_92 : decode cX6_printLine 92 = .ok (.getfield 124, 3) := by decide +kernel
theorem dX6_printLine_95 : decode cX6_printLine 95 = .ok (.iload 7, 2) := by decide +kernel
theorem dX6_printLine_97 : decode cX6_printLine 97 = .ok (.laload, 1) := by decide +kernel
theorem dX6_printLine_98 : decode cX6_printLine 98 = .ok (.invokestatic 129, 3) := by decide +kernel
theorem dX6_printLine_101 : decode cX6_printLine 101 = .ok (.goto 34, 3) := by decide +kernel
theorem dX6_printLine_104 : decode cX6_printLine 104 = .ok (.aload 4, 2) := by decide +kernel
theorem dX6_printLine_106 : decode cX6_printLine 106 = .ok (.iload 6, 2) := by decide +kernel
theorem dX6_printLine_108 : decode cX6_printLine 108 = .ok (.aload 5, 2) := by decide +kernel
theorem dX6_printLine_110 : decode cX6_printLine 110 = .ok (.getfield 121, 3) := by decide +kernel
theorem dX6_printLine_113 : decode cX6_printLine 113 = .ok (.if_icmp .ne 8, 3) := by decide +kernel
theorem dX6_printLine_116 : decode cX6_printLine 116 = .ok (.bipush 58, 2) := by decide +kernel
theorem dX6_printLine_118 : decode cX6_printLine 118 = .ok (.goto 5, 3) := by decide +kernel
theorem dX6_printLine_121 : decode cX6_printLine 121 = .ok (.bipush 46, 2) := by decide +kernel
theorem dX6_printLine_123 : decode cX6_printLine 123 = .ok (.aload_n 3, 1) := by decide +kernel
theorem dX6_printLine_124 : decode cX6_printLine 124 = .ok (.getfield 133, 3) := by decide +kernel
theorem dX6_printLine_127 : decode cX6_printLine 127 = .ok (.iload 7, 2) := by decide +kernel
theorem dX6_printLine_129 : decode cX6_printLine 129 = .ok (.laload, 1) := by decide +kernel
theorem dX6_printLine_130 : decode cX6_printLine 130 = .ok (.lload 8, 2) := by decide +kernel
theorem dX6_printLine_132 : decode cX6_printLine 132 = .ok (.invokestatic 129, 3) := by decide +kernel
theorem dX6_printLine_135 : decode cX6_printLine 135 = .ok (.iinc 6 1, 3) := by decide +kernel
theorem dX6_printLine_138 : decode cX6_printLine 138 = .ok (.goto (-107), 3) := by decide +kernel
theorem dX6_printLine_141 : decode cX6_printLine 141 = .ok (.aload_n 0, 1) := by decide +kernel
theorem dX6_printLine_142 : decode cX6_printLine 142 = .ok (.iload_n 1, 1) := by decide +kernel
theorem dX6_printLine_143 : decode cX6_printLine 143 = .ok (.aload 4, 2) := by decide +kernel
theorem dX6_printLine_145 : decode cX6_printLine 145 = .ok (.invokevirtual 136, 3) := by decide +kernel
theorem dX6_printLine_148 : decode cX6_printLine 148 = .ok (.return_, 1) := by decide +kernel
abbrev mm_X6_printLine : ab_M := (RX6, 10, none, false, 3, 71, none)
noncomputable def f_X6_printLine_J135 (rec : Int → Int → Int → Int → Int → Int → Int → ab_H → Option ab_H) (k141 : Int → Int → Int → ab_H → Option ab_H) (v0 : Int) (v1 : Int) (v2 : Int) (v3 : Int) (v4 : Int) (v5 : Int) (v6 : Int) (h : ab_H) : Option ab_H :=
  rec v0 v1 v2 v3 v4 v5 (ab_w32 (v6 + (1 : Int))) h
set_option maxRecDepth 20000 in
theorem e_X6_printLine_J135 {rec : Int → Int → Int → Int → Int → Int → Int → ab_H → Option ab_H} {k141 : Int → Int → Int → ab_H → Option ab_H} (hrec : ∀ (v0 : Int) (v1 : Int) (v2 : Int) (v3 : Int) (v4 : Int) (v5 : Int) (v6 : Int) (h : ab_H) (q : ab_H), rec v0 v1 v2 v3 v4 v5 v6 h = some q → ab_E mm_X6_printLine cX6_printLine 31 [some (ab_R v0), some (ab_I v1), some (ab_R v2), some (ab_R v3), some (ab_R v4), some (ab_R v5), some (ab_I v6), none, none, none] [] h none q) (hk141 : ∀ (v0 : Int) (v1 : Int) (v4 : Int) (h : ab_H) (q : ab_H), k141 v0 v1 v4 h = some q → ab_E mm_X6_printLine cX6_printLine 141 [some (ab_R v0), some (ab_I v1), none, none, some (ab_R v4), none, none, none, none, none] [] h none q) : ∀ (v0 : Int) (v1 : Int) (v2 : Int) (v3 : Int) (v4 : Int) (v5 : Int) (v6 : Int) (h : ab_H) (q : ab_H), f_X6_printLine_J135 rec k141 v0 v1 v2 v3 v4 v5 v6 h = some q → ab_E mm_X6_printLine cX6_printLine 135 [some (ab_R v0), some (ab_I v1), some (ab_R v2), some (ab_R v3), some (ab_R v4), some (ab_R v5), some (ab_I v6), none, none, none] [] h none q := by
  intro v0 v1 v2 v3 v4 v5 v6 h q hk
  unfold f_X6_printLine_J135 at hk
  refine ab_iinc (pc := 135) (i := 6) (lv2 := [some (ab_R v0), some (ab_I v1), some (ab_R v2), some (ab_R v3), some (ab_R v4), some (ab_R v5), some (ab_I (ab_w32 (v6 + (1 : Int)))), none, none, none]) dX6_printLine_135 rfl (Nat.le_of_ble_eq_true rfl) rfl rfl ?_
  refine ab_goto (pc := 138) (tgt := 31) dX6_printLine_138 rfl ?_
  refine ab_sub_ (lv2 := [some (ab_R v0), some (ab_I v1), some (ab_R v2), some (ab_R v3), some (ab_R v4), some (ab_R v5), some (ab_I (ab_w32 (v6 + (1 : Int)))), none, none, none]) (ab_ss (ab_ss (ab_ss (ab_ss (ab_ss (ab_ss (ab_ss (ab_sn (ab_sn (ab_sn ab_s0)))))))))) ?_
  exact hrec _ _ _ _ _ _ _ _ _ hk
noncomputable def f_X6_printLine_J123 (rec : Int → Int → Int → Int → Int → Int → Int → ab_H → Option ab_H) (k141 : Int → Int → Int → ab_H → Option ab_H) (v0 : Int) (v1 : Int) (v2 : Int) (v3 : Int) (v4 : Int) (v5 : Int) (v6 : Int) (v7 : Int) (v8 : Int) (s1 : Int) (s0 : Int) (h : ab_H) : Option ab_H :=
  (ab_get h 6 4 v3).bind fun t1 =>
  (ab_ald h 12 t1 v7).bind fun t2 =>
  (f_X6_putJoined s0 s1 t2 v8 h).bind fun q3 =>
  f_X6_printLine_J135 rec k141 v0 v1 v2 v3 v4 v5 v6 q3
set_option maxRecDepth 20000 in
theorem e_X6_printLine_J123 {rec : Int → Int → Int → Int → Int → Int → Int → ab_H → Option ab_H} {k141 : Int → Int → Int → ab_H → Option ab_H} (hrec : ∀ (v0 : Int) (v1 : Int) (v2 : Int) (v3 : Int) (v4 : Int) (v5 : Int) (v6 : Int) (h : ab_H) (q : ab_H), rec v0 v1 v2 v3 v4 v5 v6 h = some q → ab_E mm_X6_printLine cX6_printLine 31 [some (ab_R v0), some (ab_I v1), some (ab_R v2), some (ab_R v3), some (ab_R v4), some (ab_R v5), some (ab_I v6), none, none, none] [] h none q) (hk141 : ∀ (v0 : Int) (v1 : Int) (v4 : Int) (h : ab_H) (q : ab_H), k141 v0 v1 v4 h = some q → ab_E mm_X6_printLine cX6_printLine 141 [some (ab_R v0), some (ab_I v1), none, none, some (ab_R v4), none, none, none, none, none] [] h none q) : ∀ (v0 : Int) (v1 : Int) (v2 : Int) (v3 : Int) (v4 : Int) (v5 : Int) (v6 : Int) (v7 : Int) (v8 : Int) (s1 : Int) (s0 : Int) (h : ab_H) (q : ab_H), f_X6_printLine_J123 rec k141 v0 v1 v2 v3 v4 v5 v6 v7 v8 s1 s0 h = some q → ab_E mm_X6_printLine cX6_printLine 123 [some (ab_R v0), some (ab_I v1), some (ab_R v2), some (ab_R v3), some (ab_R v4), some (ab_R v5), some (ab_I v6), some (ab_I v7), some (ab_J v8), none] [ab_I s1, ab_R s0] h none q := by
  intro v0 v1 v2 v3 v4 v5 v6 v7 v8 s1 s0 h q hk
  unfold f_X6_printLine_J123 at hk
  refine ab_aload_n (pc := 123) (i := 3) dX6_printLine_123 rfl rfl ?_
  obtain ⟨t1, ht1, hk⟩ := ab_bnd hk
  refine ab_getR (pc := 124) dX6_printLine_124 fl_RX6_133 ht1 ?_
  refine ab_iload (pc := 127) (i := 7) dX6_printLine_127 rfl ?_
  obtain ⟨t2, ht2, hk⟩ := ab_bnd hk
  refine ab_lald (pc := 129) dX6_printLine_129 ht2 ?_
  refine ab_lload (pc := 130) (i := 8) dX6_printLine_130 rfl ?_
  obtain ⟨q3, hq3, hk⟩ := ab_bnd hk
  refine ab_callSV (st := []) (as := [ab_R s0, ab_I s1, ab_J t2, ab_J v8]) (pc := 132) dX6_printLine_132 ml_RX6_129 my_X6_putJoined ms_X6_putJoined (ct_X6_putJoined hq3) ⟨Nat.le_of_ble_eq_true rfl, Nat.le_of_ble_eq_true rfl⟩ rfl (Nat.le_of_ble_eq_true rfl) rfl ?_
  refine ab_sub_ (lv2 := [some (ab_R v0), some (ab_I v1), some (ab_R v2), some (ab_R v3), some (ab_R v4), some (ab_R v5), some (ab_I v6), none, none, none]) (ab_ss (ab_ss (ab_ss (ab_ss (ab_ss (ab_ss (ab_ss (ab_sn (ab_sn (ab_sn ab_s0)))))))))) ?_
  exact e_X6_printLine_J135 hrec hk141 _ _ _ _ _ _ _ _ _ hk
noncomputable def f_X6_printLine_L31 (k141 : Int → Int → Int → ab_H → Option ab_H) : Nat → Int → Int → Int → Int → Int → Int → Int → ab_H → Option ab_H
  | 0, _, _, _, _, _, _, _, _ => none
  | n + 1, v0, v1, v2, v3, v4, v5, v6, h =>
    (ab_get h 3 7 v5).bind fun t1 =>
    if t1 ≤ v6 then
      k141 v0 v1 v4 h
    else
    (ab_get h 3 0 v5).bind fun t2 =>
    (ab_get h 3 4 v5).bind fun t3 =>
    (ab_ald h 11 t3 v6).bind fun t4 =>
    (ab_get h 8 1 v2).bind fun t5 =>
    (ab_get h 3 5 v5).bind fun t6 =>
    (ab_ald h 11 t6 v6).bind fun t7 =>
    (ab_ald h 12 t5 t7).bind fun t8 =>
    (ab_get h 3 6 v5).bind fun t9 =>
    if t9 ≤ v6 then
      (ab_get h 3 6 v5).bind fun t10 =>
      if v6 = t10 then
        f_X6_printLine_J123 (f_X6_printLine_L31 k141 n) k141 v0 v1 v2 v3 v4 v5 v6 (ab_w32 ((ab_w32 (t2 * (6 : Int))) + t4)) t8 (58 : Int) v4 h
      else
      f_X6_printLine_J123 (f_X6_printLine_L31 k141 n) k141 v0 v1 v2 v3 v4 v5 v6 (ab_w32 ((ab_w32 (t2 * (6 : Int))) + t4)) t8 (46 : Int) v4 h
    else
    (ab_get h 6 5 v3).bind fun t11 =>
    (ab_ald h 12 t11 (ab_w32 ((ab_w32 (t2 * (6 : Int))) + t4))).bind fun t12 =>
    (f_X6_putJoined v4 (44 : Int) t8 t12 h).bind fun q13 =>
    f_X6_printLine_J135 (f_X6_printLine_L31 k141 n) k141 v0 v1 v2 v3 v4 v5 v6 q13
set_option maxRecDepth 20000 in
theorem e_X6_printLine_L31 {k141 : Int → Int → Int → ab_H → Option ab_H} (hk141 : ∀ (v0 : Int) (v1 : Int) (v4 : Int) (h : ab_H) (q : ab_H), k141 v0 v1 v4 h = some q → ab_E mm_X6_printLine cX6_printLine 141 [some (ab_R v0), some (ab_I v1), none, none, some (ab_R v4), none, none, none, none, none] [] h none q) : ∀ (n : Nat) (v0 : Int) (v1 : Int) (v2 : Int) (v3 : Int) (v4 : Int) (v5 : Int) (v6 : Int) (h : ab_H) (q : ab_H), f_X6_printLine_L31 k141 n v0 v1 v2 v3 v4 v5 v6 h = some q → ab_E mm_X6_printLine cX6_printLine 31 [some (ab_R v0), some (ab_I v1), some (ab_R v2), some (ab_R v3), some (ab_R v4), some (ab_R v5), some (ab_I v6), none, none, none] [] h none q := by
  intro n
  induction n with
  | zero => intro v0 v1 v2 v3 v4 v5 v6 h q hk; cases hk
  | succ n ih =>
    intro v0 v1 v2 v3 v4 v5 v6 h q hk
    unfold f_X6_printLine_L31 at hk
    refine ab_iload (pc := 31) (i := 6) dX6_printLine_31 rfl ?_
    refine ab_aload (pc := 33) (i := 5) dX6_printLine_33 rfl ?_
    obtain ⟨t1, ht1, hk⟩ := ab_bnd hk
    refine ab_getI (pc := 35) dX6_printLine_35 fl_RX6_114 ht1 ?_
    refine ab_icmp_ge (pc := 38) (tgt := 141) dX6_printLine_38 rfl (fun hc => ?_) (fun hc => ?_)
    · have hk := ab_ifp hk hc
      refine ab_sub_ (lv2 := [some (ab_R v0), some (ab_I v1), none, none, some (ab_R v4), none, none, none, none, none]) (ab_ss (ab_ss (ab_sn (ab_sn (ab_ss (ab_sn (ab_sn (ab_sn (ab_sn (ab_sn ab_s0)))))))))) ?_
      exact hk141 _ _ _ _ _ hk
    · have hk := ab_ifn hk hc
      refine ab_aload (pc := 41) (i := 5) dX6_printLine_41 rfl ?_
      obtain ⟨t2, ht2, hk⟩ := ab_bnd hk
      refine ab_getI (pc := 43) dX6_printLine_43 fl_RX6_45 ht2 ?_
      refine ab_bipush (pc := 46) dX6_printLine_46 ab_p8_6 ab_k_6 ?_
      refine ab_imul (pc := 48) dX6_printLine_48 ?_
      refine ab_aload (pc := 49) (i := 5) dX6_printLine_49 rfl ?_
      obtain ⟨t3, ht3, hk⟩ := ab_bnd hk
      refine ab_getR (pc := 51) dX6_printLine_51 fl_RX6_115 ht3 ?_
      refine ab_iload (pc := 54) (i := 6) dX6_printLine_54 rfl ?_
      obtain ⟨t4, ht4, hk⟩ := ab_bnd hk
      refine ab_iald (pc := 56) dX6_printLine_56 ht4 ?_
      refine ab_iadd (pc := 57) dX6_printLine_57 ?_
      refine ab_istore (pc := 58) (i := 7) (lv2 := [some (ab_R v0), some (ab_I v1), some (ab_R v2), some (ab_R v3), some (ab_R v4), some (ab_R v5), some (ab_I v6), some (ab_I (ab_w32 ((ab_w32 (t2 * (6 : Int))) + t4))), none, none]) dX6_printLine_58 (Nat.le_of_ble_eq_true rfl) rfl rfl ?_
      refine ab_aload_n (pc := 60) (i := 2) dX6_printLine_60 rfl rfl ?_
      obtain ⟨t5, ht5, hk⟩ := ab_bnd hk
      refine ab_getR (pc := 61) dX6_printLine_61 fl_RX6_102 ht5 ?_
      refine ab_aload (pc := 64) (i := 5) dX6_printLine_64 rfl ?_
      obtain ⟨t6, ht6, hk⟩ := ab_bnd hk
      refine ab_getR (pc := 66) dX6_printLine_66 fl_RX6_118 ht6 ?_
      refine ab_iload (pc := 69) (i := 6) dX6_printLine_69 rfl ?_
      obtain ⟨t7, ht7, hk⟩ := ab_bnd hk
      refine ab_iald (pc := 71) dX6_printLine_71 ht7 ?_
      obtain ⟨t8, ht8, hk⟩ := ab_bnd hk
      refine ab_lald (pc := 72) dX6_printLine_72 ht8 ?_
      refine ab_lstore (pc := 73) (i := 8) (lv2 := [some (ab_R v0), some (ab_I v1), some (ab_R v2), some (ab_R v3), some (ab_R v4), some (ab_R v5), some (ab_I v6), some (ab_I (ab_w32 ((ab_w32 (t2 * (6 : Int))) + t4))), some (ab_J t8), none]) dX6_printLine_73 (Nat.le_of_ble_eq_true rfl) rfl rfl ?_
      refine ab_iload (pc := 75) (i := 6) dX6_printLine_75 rfl ?_
      refine ab_aload (pc := 77) (i := 5) dX6_printLine_77 rfl ?_
      obtain ⟨t9, ht9, hk⟩ := ab_bnd hk
      refine ab_getI (pc := 79) dX6_printLine_79 fl_RX6_121 ht9 ?_
      refine ab_icmp_ge (pc := 82) (tgt := 104) dX6_printLine_82 rfl (fun hc => ?_) (fun hc => ?_)
      · have hk := ab_ifp hk hc
        refine ab_aload (pc := 104) (i := 4) dX6_printLine_104 rfl ?_
        refine ab_iload (pc := 106) (i := 6) dX6_printLine_106 rfl ?_
        refine ab_aload (pc := 108) (i := 5) dX6_printLine_108 rfl ?_
        obtain ⟨t10, ht10, hk⟩ := ab_bnd hk
        refine ab_getI (pc := 110) dX6_printLine_110 fl_RX6_121 ht10 ?_
        refine ab_icmp_ne (pc := 113) (tgt := 121) dX6_printLine_113 rfl (fun hc => ?_) (fun hc => ?_)
        · have hk := ab_ifn hk hc
          refine ab_bipush (pc := 121) dX6_printLine_121 ab_p8_46 ab_k_46 ?_
          refine ab_sub_ (lv2 := [some (ab_R v0), some (ab_I v1), some (ab_R v2), some (ab_R v3), some (ab_R v4), some (ab_R v5), some (ab_I v6), some (ab_I (ab_w32 ((ab_w32 (t2 * (6 : Int))) + t4))), some (ab_J t8), none]) (ab_ss (ab_ss (ab_ss (ab_ss (ab_ss (ab_ss (ab_ss (ab_ss (ab_ss (ab_sn ab_s0)))))))))) ?_
          exact e_X6_printLine_J123 ih hk141 _ _ _ _ _ _ _ _ _ _ _ _ _ hk
        · have hk := ab_ifp hk hc
          refine ab_bipush (pc := 116) dX6_printLine_116 ab_p8_58 ab_k_58 ?_
          refine ab_goto (pc := 118) (tgt := 123) dX6_printLine_118 rfl ?_
          refine ab_sub_ (lv2 := [some (ab_R v0), some (ab_I v1), some (ab_R v2), some (ab_R v3), some (ab_R v4), some (ab_R v5), some (ab_I v6), some (ab_I (ab_w32 ((ab_w32 (t2 * (6 : Int))) + t4))), some (ab_J t8), none]) (ab_ss (ab_ss (ab_ss (ab_ss (ab_ss (ab_ss (ab_ss (ab_ss (ab_ss (ab_sn ab_s0)))))))))) ?_
          exact e_X6_printLine_J123 ih hk141 _ _ _ _ _ _ _ _ _ _ _ _ _ hk
      · have hk := ab_ifn hk hc
        refine ab_aload (pc := 85) (i := 4) dX6_printLine_85 rfl ?_
        refine ab_bipush (pc := 87) dX6_printLine_87 ab_p8_44 ab_k_44 ?_
        refine ab_lload (pc := 89) (i := 8) dX6_printLine_89 rfl ?_
        refine ab_aload_n (pc := 91) (i := 3) dX6_printLine_91 rfl rfl ?_
        obtain ⟨t11, ht11, hk⟩ := ab_bnd hk
        refine ab_getR (pc := 92) dX6_printLine_92 fl_RX6_124 ht11 ?_
        refine ab_iload (pc := 95) (i := 7) dX6_printLine_95 rfl ?_
        obtain ⟨t12, ht12, hk⟩ := ab_bnd hk
        refine ab_lald (pc := 97) dX6_printLine_97 ht12 ?_
        obtain ⟨q13, hq13, hk⟩ := ab_bnd hk
        refine ab_callSV (st := []) (as := [ab_R v4, ab_I (44 : Int), ab_J t8, ab_J t12]) (pc := 98) dX6_printLine_98 ml_RX6_129 my_X6_putJoined ms_X6_putJoined (ct_X6_putJoined hq13) ⟨Nat.le_of_ble_eq_true rfl, Nat.le_of_ble_eq_true rfl⟩ rfl (Nat.le_of_ble_eq_true rfl) rfl ?_
        refine ab_goto (pc := 101) (tgt := 135) dX6_printLine_101 rfl ?_
        refine ab_sub_ (lv2 := [some (ab_R v0), some (ab_I v1), some (ab_R v2), some (ab_R v3), some (ab_R v4), some (ab_R v5), some (ab_I v6), none, none, none]) (ab_ss (ab_ss (ab_ss (ab_ss (ab_ss (ab_ss (ab_ss (ab_sn (ab_sn (ab_sn ab_s0)))))))))) ?_
        exact e_X6_printLine_J135 ih hk141 _ _ _ _ _ _ _ _ _ hk
noncomputable def f_X6_printLine (a0 : Int) (a1 : Int) (a2 : Int) (a3 : Int) (a4 : Int) (h : ab_H) : Option ab_H :=
  (ab_get h 7 0 a0).bind fun t1 =>
  (ab_get h 7 2 a0).bind fun t2 =>
  (ab_ald h 11 t2 a1).bind fun t3 =>
  (ab_ald h 15 t1 t3).bind fun t4 =>
  (ab_get h 8 1 a2).bind fun t5 =>
  (ab_get h 3 3 t4).bind fun t6 =>
  (ab_ald h 12 t5 t6).bind fun t7 =>
  (ab_on h 2 a4 (f_X1_putName a4 t7 h)).bind fun q8 =>
  f_X6_printLine_L31 (fun w141_0 w141_1 w141_4 hx141 =>
    (ab_on hx141 7 w141_0 (f_X6_printAddresses w141_0 w141_1 w141_4 hx141)).bind fun q9 =>
    some q9) ab_FU a0 a1 a2 a3 a4 t4 (0 : Int) q8
set_option maxRecDepth 20000 in
theorem ct_X6_printLine {a0 a1 a2 a3 a4 : Int} {h : ab_H} {q : ab_H} (hk : f_X6_printLine a0 a1 a2 a3 a4 h = some q) : ab_CT yX6_printLine cX6_printLine 10 none 3 71 [ab_R a0, ab_I a1, ab_R a2, ab_R a3, ab_R a4] h none q := by
  refine ab_CT.mk_ 5 (own := RX6) (ini := false) (lv := [some (ab_R a0), some (ab_I a1), some (ab_R a2), some (ab_R a3), some (ab_R a4), none, none, none, none, none]) rfl (by decide +kernel) (fun q => by cases q) rfl rfl ?_
  unfold f_X6_printLine at hk
  show ab_E mm_X6_printLine cX6_printLine 0 _ [] h _ _
  refine ab_aload_n (pc := 0) (i := 0) dX6_printLine_0 rfl rfl ?_
  obtain ⟨t1, ht1, hk⟩ := ab_bnd hk
  refine ab_getR (pc := 1) dX6_printLine_1 fl_RX6_11 ht1 ?_
  refine ab_aload_n (pc := 4) (i := 0) dX6_printLine_4 rfl rfl ?_
  obtain ⟨t2, ht2, hk⟩ := ab_bnd hk
  refine ab_getR (pc := 5) dX6_printLine_5 fl_RX6_17 ht2 ?_
  refine ab_iload_n (pc := 8) (i := 1) dX6_printLine_8 rfl rfl ?_
  obtain ⟨t3, ht3, hk⟩ := ab_bnd hk
  refine ab_iald (pc := 9) dX6_printLine_9 ht3 ?_
  obtain ⟨t4, ht4, hk⟩ := ab_bnd hk
  refine ab_aald (pc := 10) dX6_printLine_10 (by decide) ht4 ?_
  refine ab_astore (pc := 11) (i := 5) (lv2 := [some (ab_R a0), some (ab_I a1), some (ab_R a2), some (ab_R a3), some (ab_R a4), some (ab_R t4), none, none, none, none]) dX6_printLine_11 (Nat.le_of_ble_eq_true rfl) rfl rfl ?_
  refine ab_aload (pc := 13) (i := 4) dX6_printLine_13 rfl ?_
  refine ab_aload_n (pc := 15) (i := 2) dX6_printLine_15 rfl rfl ?_
  obtain ⟨t5, ht5, hk⟩ := ab_bnd hk
  refine ab_getR (pc := 16) dX6_printLine_16 fl_RX6_102 ht5 ?_
  refine ab_aload (pc := 19) (i := 5) dX6_printLine_19 rfl ?_
  obtain ⟨t6, ht6, hk⟩ := ab_bnd hk
  refine ab_getI (pc := 21) dX6_printLine_21 fl_RX6_80 ht6 ?_
  obtain ⟨t7, ht7, hk⟩ := ab_bnd hk
  refine ab_lald (pc := 24) dX6_printLine_24 ht7 ?_
  obtain ⟨q8, hq8, hk⟩ := ab_bnd hk
  obtain ⟨hb, hq8⟩ := ab_on_some hq8
  refine ab_callVV (st := []) (as := [ab_J t7]) (b := a4) (pc := 25) dX6_printLine_25 ml_RX6_108 my_X1_putName mv_X1_putName hb (ct_X1_putName hq8) ⟨Nat.le_of_ble_eq_true rfl, Nat.le_of_ble_eq_true rfl⟩ rfl (Nat.le_of_ble_eq_true rfl) rfl ?_
  refine ab_iconst (pc := 28) dX6_printLine_28 ab_k_0 ?_
  refine ab_istore (pc := 29) (i := 6) (lv2 := [some (ab_R a0), some (ab_I a1), some (ab_R a2), some (ab_R a3), some (ab_R a4), some (ab_R t4), some (ab_I (0 : Int)), none, none, none]) dX6_printLine_29 (Nat.le_of_ble_eq_true rfl) rfl rfl ?_
  refine ab_sub_ (lv2 := [some (ab_R a0), some (ab_I a1), some (ab_R a2), some (ab_R a3), some (ab_R a4), some (ab_R t4), some (ab_I (0 : Int)), none, none, none]) (ab_ss (ab_ss (ab_ss (ab_ss (ab_ss (ab_ss (ab_ss (ab_sn (ab_sn (ab_sn ab_s0)))))))))) ?_
  refine e_X6_printLine_L31 (fun w141_0 w141_1 w141_4 hx141 q hk => ?_) _ _ _ _ _ _ _ _ _ _ hk
  · skip
    refine ab_aload_n (pc := 141) (i := 0) dX6_printLine_141 rfl rfl ?_
    refine ab_iload_n (pc := 142) (i := 1) dX6_printLine_142 rfl rfl ?_
    refine ab_aload (pc := 143) (i := 4) dX6_printLine_143 rfl ?_
    obtain ⟨q9, hq9, hk⟩ := ab_bnd hk
    obtain ⟨hb, hq9⟩ := ab_on_some hq9
    refine ab_callVV (st := []) (as := [ab_I w141_1, ab_R w141_4]) (b := w141_0) (pc := 145) dX6_printLine_145 ml_RX6_136 my_X6_printAddresses mv_X6_printAddresses hb (ct_X6_printAddresses hq9) ⟨Nat.le_of_ble_eq_true rfl, Nat.le_of_ble_eq_true rfl⟩ rfl (Nat.le_of_ble_eq_true rfl) rfl ?_
    obtain rfl := Option.some.inj hk
    exact ab_retv (pc := 148) dX6_printLine_148 rfl
