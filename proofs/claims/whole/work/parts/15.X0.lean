theorem dX0_init_0 : decode cX0_init 0 = .ok (.aload_n 0, 1) := by decide +kernel
theorem dX0_init_1 : decode cX0_init 1 = .ok (.invokespecial 3, 3) := by decide +kernel
theorem dX0_init_4 : decode cX0_init 4 = .ok (.aload_n 0, 1) := by decide +kernel
theorem dX0_init_5 : decode cX0_init 5 = .ok (.bipush 12, 2) := by decide +kernel
theorem dX0_init_7 : decode cX0_init 7 = .ok (.newarray .int, 2) := by decide +kernel
theorem dX0_init_9 : decode cX0_init 9 = .ok (.putfield 9, 3) := by decide +kernel
theorem dX0_init_12 : decode cX0_init 12 = .ok (.aload_n 0, 1) := by decide +kernel
theorem dX0_init_13 : decode cX0_init 13 = .ok (.bipush 12, 2) := by decide +kernel
theorem dX0_init_15 : decode cX0_init 15 = .ok (.newarray .int, 2) := by decide +kernel
theorem dX0_init_17 : decode cX0_init 17 = .ok (.putfield 15, 3) := by decide +kernel
theorem dX0_init_20 : decode cX0_init 20 = .ok (.aload_n 0, 1) := by decide +kernel
theorem dX0_init_21 : decode cX0_init 21 = .ok (.bipush 72, 2) := by decide +kernel
theorem dX0_init_23 : decode cX0_init 23 = .ok (.newarray .int, 2) := by decide +kernel
theorem dX0_init_25 : decode cX0_init 25 = .ok (.putfield 18, 3) := by decide +kernel
theorem dX0_init_28 : decode cX0_init 28 = .ok (.aload_n 0, 1) := by decide +kernel
theorem dX0_init_29 : decode cX0_init 29 = .ok (.bipush 72, 2) := by decide +kernel
theorem dX0_init_31 : decode cX0_init 31 = .ok (.newarray .int, 2) := by decide +kernel
theorem dX0_init_33 : decode cX0_init 33 = .ok (.putfield 21, 3) := by decide +kernel
theorem dX0_init_36 : decode cX0_init 36 = .ok (.aload_n 0, 1) := by decide +kernel
theorem dX0_init_37 : decode cX0_init 37 = .ok (.bipush 72, 2) := by decide +kernel
theorem dX0_init_39 : decode cX0_init 39 = .ok (.newarray .long, 2) := by decide +kernel
theorem dX0_init_41 : decode cX0_init 41 = .ok (.putfield 24, 3) := by decide +kernel
theorem dX0_init_44 : decode cX0_init 44 = .ok (.aload_n 0, 1) := by decide +kernel
theorem dX0_init_45 : decode cX0_init 45 = .ok (.bipush 72, 2) := by decide +kernel
theorem dX0_init_47 : decode cX0_init 47 = .ok (.newarray .long, 2) := by decide +kernel
theorem dX0_init_49 : decode cX0_init 49 = .ok (.putfield 28, 3) := by decide +kernel
theorem dX0_init_52 : decode cX0_init 52 = .ok (.aload_n 0, 1) := by decide +kernel
theorem dX0_init_53 : decode cX0_init 53 = .ok (.bipush 72, 2) := by decide +kernel
theorem dX0_init_55 : decode cX0_init 55 = .ok (.newarray .long, 2) := by decide +kernel
theorem dX0_init_57 : decode cX0_init 57 = .ok (.putfield 31, 3) := by decide +kernel
theorem dX0_init_60 : decode cX0_init 60 = .ok (.aload_n 0, 1) := by decide +kernel
theorem dX0_init_61 : decode cX0_init 61 = .ok (.bipush 6, 2) := by decide +kernel
theorem dX0_init_63 : decode cX0_init 63 = .ok (.newarray .int, 2) := by decide +kernel
theorem dX0_init_65 : decode cX0_init 65 = .ok (.putfield 34, 3) := by decide +kernel
theorem dX0_init_68 : decode cX0_init 68 = .ok (.aload_n 0, 1) := by decide +kernel
theorem dX0_init_69 : decode cX0_init 69 = .ok (.bipush 12, 2) := by decide +kernel
theorem dX0_init_71 : decode cX0_init 71 = .ok (.newarray .long, 2) := by decide +kernel
theorem dX0_init_73 : decode cX0_init 73 = .ok (.putfield 37, 3) := by decide +kernel
theorem dX0_init_76 : decode cX0_init 76 = .ok (.aload_n 0, 1) := by decide +kernel
theorem dX0_init_77 : decode cX0_init 77 = .ok (.bipush 12, 2) := by decide +kernel
theorem dX0_init_79 : decode cX0_init 79 = .ok (.newarray .long, 2) := by decide +kernel
theorem dX0_init_81 : decode cX0_init 81 = .ok (.putfield 40, 3) := by decide +kernel
theorem dX0_init_84 : decode cX0_init 84 = .ok (.return_, 1) := by decide +kernel
abbrev mm_X0_init : ab_M := (RX0, 1, none, true, 1, 20, none)
noncomputable def f_X0_init (a0 : Int) (h : ab_H) : Option ab_H :=
  ab_if (decide (0 < a0)) <|
  (ab_mkA h 11 (12 : Int)).bind fun h1 =>
  (ab_putR h1 1 1 a0 (ab_nx h)).bind fun h2 =>
  (ab_mkA h2 11 (12 : Int)).bind fun h3 =>
  (ab_putR h3 1 2 a0 (ab_nx h2)).bind fun h4 =>
  (ab_mkA h4 11 (72 : Int)).bind fun h5 =>
  (ab_putR h5 1 3 a0 (ab_nx h4)).bind fun h6 =>
  (ab_mkA h6 11 (72 : Int)).bind fun h7 =>
  (ab_putR h7 1 4 a0 (ab_nx h6)).bind fun h8 =>
  (ab_mkA h8 12 (72 : Int)).bind fun h9 =>
  (ab_putR h9 1 5 a0 (ab_nx h8)).bind fun h10 =>
  (ab_mkA h10 12 (72 : Int)).bind fun h11 =>
  (ab_putR h11 1 6 a0 (ab_nx h10)).bind fun h12 =>
  (ab_mkA h12 12 (72 : Int)).bind fun h13 =>
  (ab_putR h13 1 7 a0 (ab_nx h12)).bind fun h14 =>
  (ab_mkA h14 11 (6 : Int)).bind fun h15 =>
  (ab_putR h15 1 8 a0 (ab_nx h14)).bind fun h16 =>
  (ab_mkA h16 12 (12 : Int)).bind fun h17 =>
  (ab_putR h17 1 10 a0 (ab_nx h16)).bind fun h18 =>
  (ab_mkA h18 12 (12 : Int)).bind fun h19 =>
  (ab_putR h19 1 11 a0 (ab_nx h18)).bind fun h20 =>
  some h20
set_option maxRecDepth 20000 in
theorem ct_X0_init {a0 : Int} {h : ab_H} {q : ab_H} (hk : f_X0_init a0 h = some q) : ab_CT yX0_init cX0_init 1 none 1 20 [ab_R a0] h none q := by
  refine ab_CT.mk_ 0 (own := RX0) (ini := true) (lv := [some (ab_R a0)]) rfl (by decide +kernel) (fun _ => rfl) rfl rfl ?_
  unfold f_X0_init at hk
  show ab_E mm_X0_init cX0_init 0 _ [] h _ _
  refine ab_aload_n (pc := 0) (i := 0) dX0_init_0 rfl rfl ?_
  obtain ⟨hg, hk⟩ := ab_if_some hk
  refine ab_obj0_ (pc := 1) dX0_init_1 ob_RX0_3 hg (Nat.le_of_ble_eq_true rfl) (Nat.le_of_ble_eq_true rfl) (Nat.le_of_ble_eq_true rfl) ?_
  refine ab_aload_n (pc := 4) (i := 0) dX0_init_4 rfl rfl ?_
  refine ab_bipush (pc := 5) dX0_init_5 ab_p8_12 ab_k_12 ?_
  obtain ⟨h1, hh1, hk⟩ := ab_bnd hk
  refine ab_newA (pc := 7) dX0_init_7 (by decide) ab_ac_int hh1 ?_
  obtain ⟨h2, hh2, hk⟩ := ab_bnd hk
  refine ab_putR_ (pc := 9) dX0_init_9 fl_RX0_9 (fun _ => ⟨rfl, rfl⟩) hh2 ?_
  refine ab_aload_n (pc := 12) (i := 0) dX0_init_12 rfl rfl ?_
  refine ab_bipush (pc := 13) dX0_init_13 ab_p8_12 ab_k_12 ?_
  obtain ⟨h3, hh3, hk⟩ := ab_bnd hk
  refine ab_newA (pc := 15) dX0_init_15 (by decide) ab_ac_int hh3 ?_
  obtain ⟨h4, hh4, hk⟩ := ab_bnd hk
  refine ab_putR_ (pc := 17) dX0_init_17 fl_RX0_15 (fun _ => ⟨rfl, rfl⟩) hh4 ?_
  refine ab_aload_n (pc := 20) (i := 0) dX0_init_20 rfl rfl ?_
  refine ab_bipush (pc := 21) dX0_init_21 ab_p8_72 ab_k_72 ?_
  obtain ⟨h5, hh5, hk⟩ := ab_bnd hk
  refine ab_newA (pc := 23) dX0_init_23 (by decide) ab_ac_int hh5 ?_
  obtain ⟨h6, hh6, hk⟩ := ab_bnd hk
  refine ab_putR_ (pc := 25) dX0_init_25 fl_RX0_18 (fun _ => ⟨rfl, rfl⟩) hh6 ?_
  refine ab_aload_n (pc := 28) (i := 0) dX0_init_28 rfl rfl ?_
  refine ab_bipush (pc := 29) dX0_init_29 ab_p8_72 ab_k_72 ?_
  obtain ⟨h7, hh7, hk⟩ := ab_bnd hk
  refine ab_newA (pc := 31) dX0_init_31 (by decide) ab_ac_int hh7 ?_
  obtain ⟨h8, hh8, hk⟩ := ab_bnd hk
  refine ab_putR_ (pc := 33) dX0_init_33 fl_RX0_21 (fun _ => ⟨rfl, rfl⟩) hh8 ?_
  refine ab_aload_n (pc := 36) (i := 0) dX0_init_36 rfl rfl ?_
  refine ab_bipush (pc := 37) dX0_init_37 ab_p8_72 ab_k_72 ?_
  obtain ⟨h9, hh9, hk⟩ := ab_bnd hk
  refine ab_newA (pc := 39) dX0_init_39 (by decide) ab_ac_long hh9 ?_
  obtain ⟨h10, hh10, hk⟩ := ab_bnd hk
  refine ab_putR_ (pc := 41) dX0_init_41 fl_RX0_24 (fun _ => ⟨rfl, rfl⟩) hh10 ?_
  refine ab_aload_n (pc := 44) (i := 0) dX0_init_44 rfl rfl ?_
  refine ab_bipush (pc := 45) dX0_init_45 ab_p8_72 ab_k_72 ?_
  obtain ⟨h11, hh11, hk⟩ := ab_bnd hk
  refine ab_newA (pc := 47) dX0_init_47 (by decide) ab_ac_long hh11 ?_
  obtain ⟨h12, hh12, hk⟩ := ab_bnd hk
  refine ab_putR_ (pc := 49) dX0_init_49 fl_RX0_28 (fun _ => ⟨rfl, rfl⟩) hh12 ?_
  refine ab_aload_n (pc := 52) (i := 0) dX0_init_52 rfl rfl ?_
  refine ab_bipush (pc := 53) dX0_init_53 ab_p8_72 ab_k_72 ?_
  obtain ⟨h13, hh13, hk⟩ := ab_bnd hk
  refine ab_newA (pc := 55) dX0_init_55 (by decide) ab_ac_long hh13 ?_
  obtain ⟨h14, hh14, hk⟩ := ab_bnd hk
  refine ab_putR_ (pc := 57) dX0_init_57 fl_RX0_31 (fun _ => ⟨rfl, rfl⟩) hh14 ?_
  refine ab_aload_n (pc := 60) (i := 0) dX0_init_60 rfl rfl ?_
  refine ab_bipush (pc := 61) dX0_init_61 ab_p8_6 ab_k_6 ?_
  obtain ⟨h15, hh15, hk⟩ := ab_bnd hk
  refine ab_newA (pc := 63) dX0_init_63 (by decide) ab_ac_int hh15 ?_
  obtain ⟨h16, hh16, hk⟩ := ab_bnd hk
  refine ab_putR_ (pc := 65) dX0_init_65 fl_RX0_34 (fun _ => ⟨rfl, rfl⟩) hh16 ?_
  refine ab_aload_n (pc := 68) (i := 0) dX0_init_68 rfl rfl ?_
  refine ab_bipush (pc := 69) dX0_init_69 ab_p8_12 ab_k_12 ?_
  obtain ⟨h17, hh17, hk⟩ := ab_bnd hk
  refine ab_newA (pc := 71) dX0_init_71 (by decide) ab_ac_long hh17 ?_
  obtain ⟨h18, hh18, hk⟩ := ab_bnd hk
  refine ab_putR_ (pc := 73) dX0_init_73 fl_RX0_37 (fun _ => ⟨rfl, rfl⟩) hh18 ?_
  refine ab_aload_n (pc := 76) (i := 0) dX0_init_76 rfl rfl ?_
  refine ab_bipush (pc := 77) dX0_init_77 ab_p8_12 ab_k_12 ?_
  obtain ⟨h19, hh19, hk⟩ := ab_bnd hk
  refine ab_newA (pc := 79) dX0_init_79 (by decide) ab_ac_long hh19 ?_
  obtain ⟨h20, hh20, hk⟩ := ab_bnd hk
  refine ab_putR_ (pc := 81) dX0_init_81 fl_RX0_40 (fun _ => ⟨rfl, rfl⟩) hh20 ?_
  obtain rfl := Option.some.inj hk
  exact ab_retv (pc := 84) dX0_init_84 rfl
theorem dX0_clear_0 : decode cX0_clear 0 = .ok (.aload_n 0, 1) := by decide +kernel
theorem dX0_clear_1 : decode cX0_clear 1 = .ok (.iconst 0, 1) := by decide +kernel
theorem dX0_clear_2 : decode cX0_clear 2 = .ok (.putfield 43, 3) := by decide +kernel
theorem dX0_clear_5 : decode cX0_clear 5 = .ok (.aload_n 0, 1) := by decide +kernel
theorem dX0_clear_6 : decode cX0_clear 6 = .ok (.iconst 0, 1) := by decide +kernel
theorem dX0_clear_7 : decode cX0_clear 7 = .ok (.putfield 47, 3) := by decide +kernel
theorem dX0_clear_10 : decode cX0_clear 10 = .ok (.iconst 0, 1) := by decide +kernel
theorem dX0_clear_11 : decode cX0_clear 11 = .ok (.istore_n 1, 1) := by decide +kernel
theorem dX0_clear_12 : decode cX0_clear 12 = .ok (.iload_n 1, 1) := by decide +kernel
theorem dX0_clear_13 : decode cX0_clear 13 = .ok (.bipush 6, 2) := by decide +kernel
theorem dX0_clear_15 : decode cX0_clear 15 = .ok (.if_icmp .ge 16, 3) := by decide +kernel
theorem dX0_clear_18 : decode cX0_clear 18 = .ok (.aload_n 0, 1) := by decide +kernel
theorem dX0_clear_19 : decode cX0_clear 19 = .ok (.getfield 34, 3) := by decide +kernel
theorem dX0_clear_22 : decode cX0_clear 22 = .ok (.iload_n 1, 1) := by decide +kernel
theorem dX0_clear_23 : decode cX0_clear 23 = .ok (.iconst 0, 1) := by decide +kernel
theorem dX0_clear_24 : decode cX0_clear 24 = .ok (.iastore, 1) := by decide +kernel
theorem dX0_clear_25 : decode cX0_clear 25 = .ok (.iinc 1 1, 3) := by decide +kernel
theorem dX0_clear_28 : decode cX0_clear 28 = .ok (.goto (-16), 3) := by decide +kernel
theorem dX0_clear_31 : decode cX0_clear 31 = .ok (.return_, 1) := by decide +kernel
abbrev mm_X0_clear : ab_M := (RX0, 2, none, false, 0, 0, none)
noncomputable def f_X0_clear_L12 : Nat → Int → Int → ab_H → Option ab_H
  | 0, _, _, _ => none
  | n + 1, v0, v1, h =>
    if (6 : Int) ≤ v1 then
      some h
    else
    (ab_get h 1 8 v0).bind fun t1 =>
    (ab_ast h 11 t1 v1 (0 : Int)).bind fun h1 =>
    f_X0_clear_L12 n v0 (ab_w32 (v1 + (1 : Int))) h1
set_option maxRecDepth 20000 in
theorem e_X0_clear_L12 : ∀ (n : Nat) (v0 : Int) (v1 : Int) (h : ab_H) (q : ab_H), f_X0_clear_L12 n v0 v1 h = some q → ab_E mm_X0_clear cX0_clear 12 [some (ab_R v0), some (ab_I v1)] [] h none q := by
  intro n
  induction n with
  | zero => intro v0 v1 h q hk; cases hk
  | succ n ih =>
    intro v0 v1 h q hk
    unfold f_X0_clear_L12 at hk
    refine ab_iload_n (pc := 12) (i := 1) dX0_clear_12 rfl rfl ?_
    refine ab_bipush (pc := 13) dX0_clear_13 ab_p8_6 ab_k_6 ?_
    refine ab_icmp_ge (pc := 15) (tgt := 31) dX0_clear_15 rfl (fun hc => ?_) (fun hc => ?_)
    · have hk := ab_ifp hk hc
      obtain rfl := Option.some.inj hk
      exact ab_retv (pc := 31) dX0_clear_31 rfl
    · have hk := ab_ifn hk hc
      refine ab_aload_n (pc := 18) (i := 0) dX0_clear_18 rfl rfl ?_
      obtain ⟨t1, ht1, hk⟩ := ab_bnd hk
      refine ab_getR (pc := 19) dX0_clear_19 fl_RX0_34 ht1 ?_
      refine ab_iload_n (pc := 22) (i := 1) dX0_clear_22 rfl rfl ?_
      refine ab_iconst (pc := 23) dX0_clear_23 ab_k_0 ?_
      obtain ⟨h1, hh1, hk⟩ := ab_bnd hk
      refine ab_iast (pc := 24) dX0_clear_24 hh1 ?_
      refine ab_iinc (pc := 25) (i := 1) (lv2 := [some (ab_R v0), some (ab_I (ab_w32 (v1 + (1 : Int))))]) dX0_clear_25 rfl (Nat.le_of_ble_eq_true rfl) rfl rfl ?_
      refine ab_goto (pc := 28) (tgt := 12) dX0_clear_28 rfl ?_
      refine ab_sub_ (lv2 := [some (ab_R v0), some (ab_I (ab_w32 (v1 + (1 : Int))))]) (ab_ss (ab_ss ab_s0)) ?_
      exact ih _ _ _ _ hk
noncomputable def f_X0_clear (a0 : Int) (h : ab_H) : Option ab_H :=
  (ab_put h 1 0 a0 (0 : Int)).bind fun h1 =>
  (ab_put h1 1 9 a0 (0 : Int)).bind fun h2 =>
  f_X0_clear_L12 ab_FU a0 (0 : Int) h2
set_option maxRecDepth 20000 in
theorem ct_X0_clear {a0 : Int} {h : ab_H} {q : ab_H} (hk : f_X0_clear a0 h = some q) : ab_CT yX0_clear cX0_clear 2 none 0 0 [ab_R a0] h none q := by
  refine ab_CT.mk_ 1 (own := RX0) (ini := false) (lv := [some (ab_R a0), none]) rfl (by decide +kernel) (fun q => by cases q) rfl rfl ?_
  unfold f_X0_clear at hk
  show ab_E mm_X0_clear cX0_clear 0 _ [] h _ _
  refine ab_aload_n (pc := 0) (i := 0) dX0_clear_0 rfl rfl ?_
  refine ab_iconst (pc := 1) dX0_clear_1 ab_k_0 ?_
  obtain ⟨h1, hh1, hk⟩ := ab_bnd hk
  refine ab_putI_ (pc := 2) dX0_clear_2 fl_RX0_43 (fun q => by cases q) hh1 ?_
  refine ab_aload_n (pc := 5) (i := 0) dX0_clear_5 rfl rfl ?_
  refine ab_iconst (pc := 6) dX0_clear_6 ab_k_0 ?_
  obtain ⟨h2, hh2, hk⟩ := ab_bnd hk
  refine ab_putI_ (pc := 7) dX0_clear_7 fl_RX0_47 (fun q => by cases q) hh2 ?_
  refine ab_iconst (pc := 10) dX0_clear_10 ab_k_0 ?_
  refine ab_istore_n (pc := 11) (i := 1) (lv2 := [some (ab_R a0), some (ab_I (0 : Int))]) dX0_clear_11 rfl (Nat.le_of_ble_eq_true rfl) rfl rfl ?_
  refine ab_sub_ (lv2 := [some (ab_R a0), some (ab_I (0 : Int))]) (ab_ss (ab_ss ab_s0)) ?_
  refine e_X0_clear_L12 _ _ _ _ _ hk
theorem dX0_copyStrings_0 : decode cX0_copyStrings 0 = .ok (.aload_n 1, 1) := by decide +kernel
theorem dX0_copyStrings_1 : decode cX0_copyStrings 1 = .ok (.getfield 9, 3) := by decide +kernel
theorem dX0_copyStrings_4 : decode cX0_copyStrings 4 = .ok (.iload_n 2, 1) := by decide +kernel
theorem dX0_copyStrings_5 : decode cX0_copyStrings 5 = .ok (.aload_n 0, 1) := by decide +kernel
theorem dX0_copyStrings_6 : decode cX0_copyStrings 6 = .ok (.getfield 9, 3) := by decide +kernel
theorem dX0_copyStrings_9 : decode cX0_copyStrings 9 = .ok (.iload_n 3, 1) := by decide +kernel
theorem dX0_copyStrings_10 : decode cX0_copyStrings 10 = .ok (.iload 4, 2) := by decide +kernel
theorem dX0_copyStrings_12 : decode cX0_copyStrings 12 = .ok (.invokestatic 54, 3) := by decide +kernel
theorem dX0_copyStrings_15 : decode cX0_copyStrings 15 = .ok (.aload_n 1, 1) := by decide +kernel
theorem dX0_copyStrings_16 : decode cX0_copyStrings 16 = .ok (.getfield 15, 3) := by decide +kernel
theorem dX0_copyStrings_19 : decode cX0_copyStrings 19 = .ok (.iload_n 2, 1) := by decide +kernel
theorem dX0_copyStrings_20 : decode cX0_copyStrings 20 = .ok (.aload_n 0, 1) := by decide +kernel
theorem dX0_copyStrings_21 : decode cX0_copyStrings 21 = .ok (.getfield 15, 3) := by decide +kernel
theorem dX0_copyStrings_24 : decode cX0_copyStrings 24 = .ok (.iload_n 3, 1) := by decide +kernel
theorem dX0_copyStrings_25 : decode cX0_copyStrings 25 = .ok (.iload 4, 2) := by decide +kernel
theorem dX0_copyStrings_27 : decode cX0_copyStrings 27 = .ok (.invokestatic 54, 3) := by decide +kernel
theorem dX0_copyStrings_30 : decode cX0_copyStrings 30 = .ok (.iload_n 2, 1) := by decide +kernel
theorem dX0_copyStrings_31 : decode cX0_copyStrings 31 = .ok (.bipush 6, 2) := by decide +kernel
theorem dX0_copyStrings_33 : decode cX0_copyStrings 33 = .ok (.imul, 1) := by decide +kernel
theorem dX0_copyStrings_34 : decode cX0_copyStrings 34 = .ok (.istore 5, 2) := by decide +kernel
theorem dX0_copyStrings_36 : decode cX0_copyStrings 36 = .ok (.iload_n 3, 1) := by decide +kernel
theorem dX0_copyStrings_37 : decode cX0_copyStrings 37 = .ok (.bipush 6, 2) := by decide +kernel
theorem dX0_copyStrings_39 : decode cX0_copyStrings 39 = .ok (.imul, 1) := by decide +kernel
theorem dX0_copyStrings_40 : decode cX0_copyStrings 40 = .ok (.istore 6, 2) := by decide +kernel
theorem dX0_copyStrings_42 : decode cX0_copyStrings 42 = .ok (.iload 4, 2) := by decide +kernel
theorem dX0_copyStrings_44 : decode cX0_copyStrings 44 = .ok (.bipush 6, 2) := by decide +kernel
theorem dX0_copyStrings_46 : decode cX0_copyStrings 46 = .ok (.imul, 1) := by decide +kernel
theorem dX0_copyStrings_47 : decode cX0_copyStrings 47 = .ok (.istore 7, 2) := by decide +kernel
theorem dX0_copyStrings_49 : decode cX0_copyStrings 49 = .ok (.aload_n 1, 1) := by decide +kernel
theorem dX0_copyStrings_50 : decode cX0_copyStrings 50 = .ok (.getfield 18, 3) := by decide +kernel
theorem dX0_copyStrings_53 : decode cX0_copyStrings 53 = .ok (.iload 5, 2) := by decide +kernel
theorem dX0_copyStrings_55 : decode cX0_copyStrings 55 = .ok (.aload_n 0, 1) := by decide +kernel
theorem dX0_copyStrings_56 : decode cX0_copyStrings 56 = .ok (.getfield 18, 3) := by decide +kernel
theorem dX0_copyStrings_59 : decode cX0_copyStrings 59 = .ok (.iload 6, 2) := by decide +kernel
theorem dX0_copyStrings_61 : decode cX0_copyStrings 61 = .ok (.iload 7, 2) := by decide +kernel
theorem dX0_copyStrings_63 : decode cX0_copyStrings 63 = .ok (.invokestatic 54, 3) := by decide +kernel
theorem dX0_copyStrings_66 : decode cX0_copyStrings 66 = .ok (.aload_n 1, 1) := by decide +kernel
theorem dX0_copyStrings_67 : decode cX0_copyStrings 67 = .ok (.getfield 21, 3) := by decide +kernel
theorem dX0_copyStrings_70 : decode cX0_copyStrings 70 = .ok (.iload 5, 2) := by decide +kernel
theorem dX0_copyStrings_72 : decode cX0_copyStrings 72 = .ok (.aload_n 0, 1) := by decide +kernel
theorem dX0_copyStrings_73 : decode cX0_copyStrings 73 = .ok (.getfield 21, 3) := by decide +kernel
theorem dX0_copyStrings_76 : decode cX0_copyStrings 76 = .ok (.iload 6, 2) := by decide +kernel
theorem dX0_copyStrings_78 : decode cX0_copyStrings 78 = .ok (.iload 7, 2) := by decide +kernel
theorem dX0_copyStrings_80 : decode cX0_copyStrings 80 = .ok (.invokestatic 54, 3) := by decide +kernel
theorem dX0_copyStrings_83 : decode cX0_copyStrings 83 = .ok (.aload_n 1, 1) := by decide +kernel
theorem dX0_copyStrings_84 : decode cX0_copyStrings 84 = .ok (.getfield 24, 3) := by decide +kernel
theorem dX0_copyStrings_87 : decode cX0_copyStrings 87 = .ok (.iload 5, 2) := by decide +kernel
theorem dX0_copyStrings_89 : decode cX0_copyStrings 89 = .ok (.aload_n 0, 1) := by decide +kernel
theorem dX0_copyStrings_90 : decode cX0_copyStrings 90 = .ok (.getfield 24, 3) := by decide +kernel
theorem dX0_copyStrings_93 : decode cX0_copyStrings 93 = .ok (.iload 6, 2) := by decide +kernel
theorem dX0_copyStrings_95 : decode cX0_copyStrings 95 = .ok (.iload 7, 2) := by decide +kernel
theorem dX0_copyStrings_97 : decode cX0_copyStrings 97 = .ok (.invokestatic 54, 3) := by decide +kernel
theorem dX0_copyStrings_100 : decode cX0_copyStrings 100 = .ok (.aload_n 1, 1) := by decide +kernel
theorem dX0_copyStrings_101 : decode cX0_copyStrings 101 = .ok (.getfield 28, 3) := by decide +kernel
theorem dX0_copyStrings_104 : decode cX0_copyStrings 104 = .ok (.iload 5, 2) := by decide +kernel
theorem dX0_copyStrings_106 : decode cX0_copyStrings 106 = .ok (.aload_n 0, 1) := by decide +kernel
theorem dX0_copyStrings_107 : decode cX0_copyStrings 107 = .ok (.getfield 28, 3) := by decide +kernel
theorem dX0_copyStrings_110 : decode cX0_copyStrings 110 = .ok (.iload 6, 2) := by decide +kernel
theorem dX0_copyStrings_112 : decode cX0_copyStrings 112 = .ok (.iload 7, 2) := by decide +kernel
theorem dX0_copyStrings_114 : decode cX0_copyStrings 114 = .ok (.invokestatic 54, 3) := by decide +kernel
theorem dX0_copyStrings_117 : decode cX0_copyStrings 117 = .ok (.aload_n 1, 1) := by decide +kernel
theorem dX0_copyStrings_118 : decode cX0_copyStrings 118 = .ok (.getfield 31, 3) := by decide +kernel
theorem dX0_copyStrings_121 : decode cX0_copyStrings 121 = .ok (.iload 5, 2) := by decide +kernel
theorem dX0_copyStrings_123 : decode cX0_copyStrings 123 = .ok (.aload_n 0, 1) := by decide +kernel
theorem dX0_copyStrings_124 : decode cX0_copyStrings 124 = .ok (.getfield 31, 3) := by decide +kernel
theorem dX0_copyStrings_127 : decode cX0_copyStrings 127 = .ok (.iload 6, 2) := by decide +kernel
theorem dX0_copyStrings_129 : decode cX0_copyStrings 129 = .ok (.iload 7, 2) := by decide +kernel
theorem dX0_copyStrings_131 : decode cX0_copyStrings 131 = .ok (.invokestatic 54, 3) := by decide +kernel
theorem dX0_copyStrings_134 : decode cX0_copyStrings 134 = .ok (.return_, 1) := by decide +kernel
abbrev mm_X0_copyStrings : ab_M := (RX0, 8, none, false, 1, 40, none)
noncomputable def f_X0_copyStrings (a0 : Int) (a1 : Int) (a2 : Int) (a3 : Int) (a4 : Int) (h : ab_H) : Option ab_H :=
  (ab_get h 1 1 a1).bind fun t1 =>
  (ab_get h 1 1 a0).bind fun t2 =>
  (ab_cpy h 11 t1 a2 t2 a3 a4).bind fun h1 =>
  (ab_get h1 1 2 a1).bind fun t3 =>
  (ab_get h1 1 2 a0).bind fun t4 =>
  (ab_cpy h1 11 t3 a2 t4 a3 a4).bind fun h2 =>
  (ab_get h2 1 3 a1).bind fun t5 =>
  (ab_get h2 1 3 a0).bind fun t6 =>
  (ab_cpy h2 11 t5 (ab_w32 (a2 * (6 : Int))) t6 (ab_w32 (a3 * (6 : Int))) (ab_w32 (a4 * (6 : Int)))).bind fun h3 =>
  (ab_get h3 1 4 a1).bind fun t7 =>
  (ab_get h3 1 4 a0).bind fun t8 =>
  (ab_cpy h3 11 t7 (ab_w32 (a2 * (6 : Int))) t8 (ab_w32 (a3 * (6 : Int))) (ab_w32 (a4 * (6 : Int)))).bind fun h4 =>
  (ab_get h4 1 5 a1).bind fun t9 =>
  (ab_get h4 1 5 a0).bind fun t10 =>
  (ab_cpy h4 12 t9 (ab_w32 (a2 * (6 : Int))) t10 (ab_w32 (a3 * (6 : Int))) (ab_w32 (a4 * (6 : Int)))).bind fun h5 =>
  (ab_get h5 1 6 a1).bind fun t11 =>
  (ab_get h5 1 6 a0).bind fun t12 =>
  (ab_cpy h5 12 t11 (ab_w32 (a2 * (6 : Int))) t12 (ab_w32 (a3 * (6 : Int))) (ab_w32 (a4 * (6 : Int)))).bind fun h6 =>
  (ab_get h6 1 7 a1).bind fun t13 =>
  (ab_get h6 1 7 a0).bind fun t14 =>
  (ab_cpy h6 12 t13 (ab_w32 (a2 * (6 : Int))) t14 (ab_w32 (a3 * (6 : Int))) (ab_w32 (a4 * (6 : Int)))).bind fun h7 =>
  some h7
set_option maxRecDepth 20000 in
theorem ct_X0_copyStrings {a0 a1 a2 a3 a4 : Int} {h : ab_H} {q : ab_H} (hk : f_X0_copyStrings a0 a1 a2 a3 a4 h = some q) : ab_CT yX0_copyStrings cX0_copyStrings 8 none 1 40 [ab_R a0, ab_R a1, ab_I a2, ab_I a3, ab_I a4] h none q := by
  refine ab_CT.mk_ 3 (own := RX0) (ini := false) (lv := [some (ab_R a0), some (ab_R a1), some (ab_I a2), some (ab_I a3), some (ab_I a4), none, none, none]) rfl (by decide +kernel) (fun q => by cases q) rfl rfl ?_
  unfold f_X0_copyStrings at hk
  show ab_E mm_X0_copyStrings cX0_copyStrings 0 _ [] h _ _
  refine ab_aload_n (pc := 0) (i := 1) dX0_copyStrings_0 rfl rfl ?_
  obtain ⟨t1, ht1, hk⟩ := ab_bnd hk
  refine ab_getR (pc := 1) dX0_copyStrings_1 fl_RX0_9 ht1 ?_
  refine ab_iload_n (pc := 4) (i := 2) dX0_copyStrings_4 rfl rfl ?_
  refine ab_aload_n (pc := 5) (i := 0) dX0_copyStrings_5 rfl rfl ?_
  obtain ⟨t2, ht2, hk⟩ := ab_bnd hk
  refine ab_getR (pc := 6) dX0_copyStrings_6 fl_RX0_9 ht2 ?_
  refine ab_iload_n (pc := 9) (i := 3) dX0_copyStrings_9 rfl rfl ?_
  refine ab_iload (pc := 10) (i := 4) dX0_copyStrings_10 rfl ?_
  obtain ⟨h1, hh1, hk⟩ := ab_bnd hk
  refine ab_copy (st := []) (pc := 12) dX0_copyStrings_12 acp_RX0_54 (by decide) (Nat.le_of_ble_eq_true rfl) (Nat.le_of_ble_eq_true rfl) (Nat.le_of_ble_eq_true rfl) hh1 ?_
  refine ab_aload_n (pc := 15) (i := 1) dX0_copyStrings_15 rfl rfl ?_
  obtain ⟨t3, ht3, hk⟩ := ab_bnd hk
  refine ab_getR (pc := 16) dX0_copyStrings_16 fl_RX0_15 ht3 ?_
  refine ab_iload_n (pc := 19) (i := 2) dX0_copyStrings_19 rfl rfl ?_
  refine ab_aload_n (pc := 20) (i := 0) dX0_copyStrings_20 rfl rfl ?_
  obtain ⟨t4, ht4, hk⟩ := ab_bnd hk
  refine ab_getR (pc := 21) dX0_copyStrings_21 fl_RX0_15 ht4 ?_
  refine ab_iload_n (pc := 24) (i := 3) dX0_copyStrings_24 rfl rfl ?_
  refine ab_iload (pc := 25) (i := 4) dX0_copyStrings_25 rfl ?_
  obtain ⟨h2, hh2, hk⟩ := ab_bnd hk
  refine ab_copy (st := []) (pc := 27) dX0_copyStrings_27 acp_RX0_54 (by decide) (Nat.le_of_ble_eq_true rfl) (Nat.le_of_ble_eq_true rfl) (Nat.le_of_ble_eq_true rfl) hh2 ?_
  refine ab_iload_n (pc := 30) (i := 2) dX0_copyStrings_30 rfl rfl ?_
  refine ab_bipush (pc := 31) dX0_copyStrings_31 ab_p8_6 ab_k_6 ?_
  refine ab_imul (pc := 33) dX0_copyStrings_33 ?_
  refine ab_istore (pc := 34) (i := 5) (lv2 := [some (ab_R a0), some (ab_R a1), some (ab_I a2), some (ab_I a3), some (ab_I a4), some (ab_I (ab_w32 (a2 * (6 : Int)))), none, none]) dX0_copyStrings_34 (Nat.le_of_ble_eq_true rfl) rfl rfl ?_
  refine ab_iload_n (pc := 36) (i := 3) dX0_copyStrings_36 rfl rfl ?_
  refine ab_bipush (pc := 37) dX0_copyStrings_37 ab_p8_6 ab_k_6 ?_
  refine ab_imul (pc := 39) dX0_copyStrings_39 ?_
  refine ab_istore (pc := 40) (i := 6) (lv2 := [some (ab_R a0), some (ab_R a1), some (ab_I a2), some (ab_I a3), some (ab_I a4), some (ab_I (ab_w32 (a2 * (6 : Int)))), some (ab_I (ab_w32 (a3 * (6 : Int)))), none]) dX0_copyStrings_40 (Nat.le_of_ble_eq_true rfl) rfl rfl ?_
  refine ab_iload (pc := 42) (i := 4) dX0_copyStrings_42 rfl ?_
  refine ab_bipush (pc := 44) dX0_copyStrings_44 ab_p8_6 ab_k_6 ?_
  refine ab_imul (pc := 46) dX0_copyStrings_46 ?_
  refine ab_istore (pc := 47) (i := 7) (lv2 := [some (ab_R a0), some (ab_R a1), some (ab_I a2), some (ab_I a3), some (ab_I a4), some (ab_I (ab_w32 (a2 * (6 : Int)))), some (ab_I (ab_w32 (a3 * (6 : Int)))), some (ab_I (ab_w32 (a4 * (6 : Int))))]) dX0_copyStrings_47 (Nat.le_of_ble_eq_true rfl) rfl rfl ?_
  refine ab_aload_n (pc := 49) (i := 1) dX0_copyStrings_49 rfl rfl ?_
  obtain ⟨t5, ht5, hk⟩ := ab_bnd hk
  refine ab_getR (pc := 50) dX0_copyStrings_50 fl_RX0_18 ht5 ?_
  refine ab_iload (pc := 53) (i := 5) dX0_copyStrings_53 rfl ?_
  refine ab_aload_n (pc := 55) (i := 0) dX0_copyStrings_55 rfl rfl ?_
  obtain ⟨t6, ht6, hk⟩ := ab_bnd hk
  refine ab_getR (pc := 56) dX0_copyStrings_56 fl_RX0_18 ht6 ?_
  refine ab_iload (pc := 59) (i := 6) dX0_copyStrings_59 rfl ?_
  refine ab_iload (pc := 61) (i := 7) dX0_copyStrings_61 rfl ?_
  obtain ⟨h3, hh3, hk⟩ := ab_bnd hk
  refine ab_copy (st := []) (pc := 63) dX0_copyStrings_63 acp_RX0_54 (by decide) (Nat.le_of_ble_eq_true rfl) (Nat.le_of_ble_eq_true rfl) (Nat.le_of_ble_eq_true rfl) hh3 ?_
  refine ab_aload_n (pc := 66) (i := 1) dX0_copyStrings_66 rfl rfl ?_
  obtain ⟨t7, ht7, hk⟩ := ab_bnd hk
  refine ab_getR (pc := 67) dX0_copyStrings_67 fl_RX0_21 ht7 ?_
  refine ab_iload (pc := 70) (i := 5) dX0_copyStrings_70 rfl ?_
  refine ab_aload_n (pc := 72) (i := 0) dX0_copyStrings_72 rfl rfl ?_
  obtain ⟨t8, ht8, hk⟩ := ab_bnd hk
  refine ab_getR (pc := 73) dX0_copyStrings_73 fl_RX0_21 ht8 ?_
  refine ab_iload (pc := 76) (i := 6) dX0_copyStrings_76 rfl ?_
  refine ab_iload (pc := 78) (i := 7) dX0_copyStrings_78 rfl ?_
  obtain ⟨h4, hh4, hk⟩ := ab_bnd hk
  refine ab_copy (st := []) (pc := 80) dX0_copyStrings_80 acp_RX0_54 (by decide) (Nat.le_of_ble_eq_true rfl) (Nat.le_of_ble_eq_true rfl) (Nat.le_of_ble_eq_true rfl) hh4 ?_
  refine ab_aload_n (pc := 83) (i := 1) dX0_copyStrings_83 rfl rfl ?_
  obtain ⟨t9, ht9, hk⟩ := ab_bnd hk
  refine ab_getR (pc := 84) dX0_copyStrings_84 fl_RX0_24 ht9 ?_
  refine ab_iload (pc := 87) (i := 5) dX0_copyStrings_87 rfl ?_
  refine ab_aload_n (pc := 89) (i := 0) dX0_copyStrings_89 rfl rfl ?_
  obtain ⟨t10, ht10, hk⟩ := ab_bnd hk
  refine ab_getR (pc := 90) dX0_copyStrings_90 fl_RX0_24 ht10 ?_
  refine ab_iload (pc := 93) (i := 6) dX0_copyStrings_93 rfl ?_
  refine ab_iload (pc := 95) (i := 7) dX0_copyStrings_95 rfl ?_
  obtain ⟨h5, hh5, hk⟩ := ab_bnd hk
  refine ab_copy (st := []) (pc := 97) dX0_copyStrings_97 acp_RX0_54 (by decide) (Nat.le_of_ble_eq_true rfl) (Nat.le_of_ble_eq_true rfl) (Nat.le_of_ble_eq_true rfl) hh5 ?_
  refine ab_aload_n (pc := 100) (i := 1) dX0_copyStrings_100 rfl rfl ?_
  obtain ⟨t11, ht11, hk⟩ := ab_bnd hk
  refine ab_getR (pc := 101) dX0_copyStrings_101 fl_RX0_28 ht11 ?_
  refine ab_iload (pc := 104) (i := 5) dX0_copyStrings_104 rfl ?_
  refine ab_aload_n (pc := 106) (i := 0) dX0_copyStrings_106 rfl rfl ?_
  obtain ⟨t12, ht12, hk⟩ := ab_bnd hk
  refine ab_getR (pc := 107) dX0_copyStrings_107 fl_RX0_28 ht12 ?_
  refine ab_iload (pc := 110) (i := 6) dX0_copyStrings_110 rfl ?_
  refine ab_iload (pc := 112) (i := 7) dX0_copyStrings_112 rfl ?_
  obtain ⟨h6, hh6, hk⟩ := ab_bnd hk
  refine ab_copy (st := []) (pc := 114) dX0_copyStrings_114 acp_RX0_54 (by decide) (Nat.le_of_ble_eq_true rfl) (Nat.le_of_ble_eq_true rfl) (Nat.le_of_ble_eq_true rfl) hh6 ?_
  refine ab_aload_n (pc := 117) (i := 1) dX0_copyStrings_117 rfl rfl ?_
  obtain ⟨t13, ht13, hk⟩ := ab_bnd hk
  refine ab_getR (pc := 118) dX0_copyStrings_118 fl_RX0_31 ht13 ?_
  refine ab_iload (pc := 121) (i := 5) dX0_copyStrings_121 rfl ?_
  refine ab_aload_n (pc := 123) (i := 0) dX0_copyStrings_123 rfl rfl ?_
  obtain ⟨t14, ht14, hk⟩ := ab_bnd hk
  refine ab_getR (pc := 124) dX0_copyStrings_124 fl_RX0_31 ht14 ?_
  refine ab_iload (pc := 127) (i := 6) dX0_copyStrings_127 rfl ?_
  refine ab_iload (pc := 129) (i := 7) dX0_copyStrings_129 rfl ?_
  obtain ⟨h7, hh7, hk⟩ := ab_bnd hk
  refine ab_copy (st := []) (pc := 131) dX0_copyStrings_131 acp_RX0_54 (by decide) (Nat.le_of_ble_eq_true rfl) (Nat.le_of_ble_eq_true rfl) (Nat.le_of_ble_eq_true rfl) hh7 ?_
  obtain rfl := Option.some.inj hk
  exact ab_retv (pc := 134) dX0_copyStrings_134 rfl
theorem dX0_copyFrom_0 : decode cX0_copyFrom 0 = .ok (.aload_n 0, 1) := by decide +kernel
theorem dX0_copyFrom_1 : decode cX0_copyFrom 1 = .ok (.aload_n 1, 1) := by decide +kernel
theorem dX0_copyFrom_2 : decode cX0_copyFrom 2 = .ok (.getfield 43, 3) := by decide +kernel
theorem dX0_copyFrom_5 : decode cX0_copyFrom 5 = .ok (.putfield 43, 3) := by decide +kernel
theorem dX0_copyFrom_8 : decode cX0_copyFrom 8 = .ok (.aload_n 0, 1) := by decide +kernel
theorem dX0_copyFrom_9 : decode cX0_copyFrom 9 = .ok (.aload_n 1, 1) := by decide +kernel
theorem dX0_copyFrom_10 : decode cX0_copyFrom 10 = .ok (.iconst 0, 1) := by decide +kernel
theorem dX0_copyFrom_11 : decode cX0_copyFrom 11 = .ok (.iconst 0, 1) := by decide +kernel
theorem dX0_copyFrom_12 : decode cX0_copyFrom 12 = .ok (.aload_n 0, 1) := by decide +kernel
theorem dX0_copyFrom_13 : decode cX0_copyFrom 13 = .ok (.getfield 43, 3) := by decide +kernel
theorem dX0_copyFrom_16 : decode cX0_copyFrom 16 = .ok (.invokevirtual 50, 3) := by decide +kernel
theorem dX0_copyFrom_19 : decode cX0_copyFrom 19 = .ok (.aload_n 1, 1) := by decide +kernel
theorem dX0_copyFrom_20 : decode cX0_copyFrom 20 = .ok (.getfield 34, 3) := by decide +kernel
theorem dX0_copyFrom_23 : decode cX0_copyFrom 23 = .ok (.iconst 0, 1) := by decide +kernel
theorem dX0_copyFrom_24 : decode cX0_copyFrom 24 = .ok (.aload_n 0, 1) := by decide +kernel
theorem dX0_copyFrom_25 : decode cX0_copyFrom 25 = .ok (.getfield 34, 3) := by decide +kernel
theorem dX0_copyFrom_28 : decode cX0_copyFrom 28 = .ok (.iconst 0, 1) := by decide +kernel
theorem dX0_copyFrom_29 : decode cX0_copyFrom 29 = .ok (.bipush 6, 2) := by decide +kernel
theorem dX0_copyFrom_31 : decode cX0_copyFrom 31 = .ok (.invokestatic 54, 3) := by decide +kernel
theorem dX0_copyFrom_34 : decode cX0_copyFrom 34 = .ok (.aload_n 0, 1) := by decide +kernel
theorem dX0_copyFrom_35 : decode cX0_copyFrom 35 = .ok (.aload_n 1, 1) := by decide +kernel
theorem dX0_copyFrom_36 : decode cX0_copyFrom 36 = .ok (.getfield 47, 3) := by decide +kernel
theorem dX0_copyFrom_39 : decode cX0_copyFrom 39 = .ok (.putfield 47, 3) := by decide +kernel
theorem dX0_copyFrom_42 : decode cX0_copyFrom 42 = .ok (.aload_n 1, 1) := by decide +kernel
theorem dX0_copyFrom_43 : decode cX0_copyFrom 43 = .ok (.getfield 37, 3) := by decide +kernel
theorem dX0_copyFrom_46 : decode cX0_copyFrom 46 = .ok (.iconst 0, 1) := by decide +kernel
theorem dX0_copyFrom_47 : decode cX0_copyFrom 47 = .ok (.aload_n 0, 1) := by decide +kernel
theorem dX0_copyFrom_48 : decode cX0_copyFrom 48 = .ok (.getfield 37, 3) := by decide +kernel
theorem dX0_copyFrom_51 : decode cX0_copyFrom 51 = .ok (.iconst 0, 1) := by decide +kernel
theorem dX0_copyFrom_52 : decode cX0_copyFrom 52 = .ok (.aload_n 0, 1) := by decide +kernel
theorem dX0_copyFrom_53 : decode cX0_copyFrom 53 = .ok (.getfield 47, 3) := by decide +kernel
theorem dX0_copyFrom_56 : decode cX0_copyFrom 56 = .ok (.invokestatic 54, 3) := by decide +kernel
theorem dX0_copyFrom_59 : decode cX0_copyFrom 59 = .ok (.aload_n 1, 1) := by decide +kernel
theorem dX0_copyFrom_60 : decode cX0_copyFrom 60 = .ok (.getfield 40, 3) := by decide +kernel
theorem dX0_copyFrom_63 : decode cX0_copyFrom 63 = .ok (.iconst 0, 1) := by decide +kernel
theorem dX0_copyFrom_64 : decode cX0_copyFrom 64 = .ok (.aload_n 0, 1) := by decide +kernel
theorem dX0_copyFrom_65 : decode cX0_copyFrom 65 = .ok (.getfield 40, 3) := by decide +kernel
theorem dX0_copyFrom_68 : decode cX0_copyFrom 68 = .ok (.iconst 0, 1) := by decide +kernel
theorem dX0_copyFrom_69 : decode cX0_copyFrom 69 = .ok (.aload_n 0, 1) := by decide +kernel
theorem dX0_copyFrom_70 : decode cX0_copyFrom 70 = .ok (.getfield 47, 3) := by decide +kernel
theorem dX0_copyFrom_73 : decode cX0_copyFrom 73 = .ok (.invokestatic 54, 3) := by decide +kernel
theorem dX0_copyFrom_76 : decode cX0_copyFrom 76 = .ok (.return_, 1) := by decide +kernel
abbrev mm_X0_copyFrom : ab_M := (RX0, 2, none, false, 2, 67, none)
noncomputable def f_X0_copyFrom (a0 : Int) (a1 : Int) (h : ab_H) : Option ab_H :=
  (ab_get h 1 0 a1).bind fun t1 =>
  (ab_put h 1 0 a0 t1).bind fun h1 =>
  (ab_get h1 1 0 a0).bind fun t2 =>
  (ab_on h1 1 a0 (f_X0_copyStrings a0 a1 (0 : Int) (0 : Int) t2 h1)).bind fun q3 =>
  (ab_get q3 1 8 a1).bind fun t4 =>
  (ab_get q3 1 8 a0).bind fun t5 =>
  (ab_cpy q3 11 t4 (0 : Int) t5 (0 : Int) (6 : Int)).bind fun h2 =>
  (ab_get h2 1 9 a1).bind fun t6 =>
  (ab_put h2 1 9 a0 t6).bind fun h3 =>
  (ab_get h3 1 10 a1).bind fun t7 =>
  (ab_get h3 1 10 a0).bind fun t8 =>
  (ab_get h3 1 9 a0).bind fun t9 =>
  (ab_cpy h3 12 t7 (0 : Int) t8 (0 : Int) t9).bind fun h4 =>
  (ab_get h4 1 11 a1).bind fun t10 =>
  (ab_get h4 1 11 a0).bind fun t11 =>
  (ab_get h4 1 9 a0).bind fun t12 =>
  (ab_cpy h4 12 t10 (0 : Int) t11 (0 : Int) t12).bind fun h5 =>
  some h5
set_option maxRecDepth 20000 in
theorem ct_X0_copyFrom {a0 a1 : Int} {h : ab_H} {q : ab_H} (hk : f_X0_copyFrom a0 a1 h = some q) : ab_CT yX0_copyFrom cX0_copyFrom 2 none 2 67 [ab_R a0, ab_R a1] h none q := by
  refine ab_CT.mk_ 0 (own := RX0) (ini := false) (lv := [some (ab_R a0), some (ab_R a1)]) rfl (by decide +kernel) (fun q => by cases q) rfl rfl ?_
  unfold f_X0_copyFrom at hk
  show ab_E mm_X0_copyFrom cX0_copyFrom 0 _ [] h _ _
  refine ab_aload_n (pc := 0) (i := 0) dX0_copyFrom_0 rfl rfl ?_
  refine ab_aload_n (pc := 1) (i := 1) dX0_copyFrom_1 rfl rfl ?_
  obtain ⟨t1, ht1, hk⟩ := ab_bnd hk
  refine ab_getI (pc := 2) dX0_copyFrom_2 fl_RX0_43 ht1 ?_
  obtain ⟨h1, hh1, hk⟩ := ab_bnd hk
  refine ab_putI_ (pc := 5) dX0_copyFrom_5 fl_RX0_43 (fun q => by cases q) hh1 ?_
  refine ab_aload_n (pc := 8) (i := 0) dX0_copyFrom_8 rfl rfl ?_
  refine ab_aload_n (pc := 9) (i := 1) dX0_copyFrom_9 rfl rfl ?_
  refine ab_iconst (pc := 10) dX0_copyFrom_10 ab_k_0 ?_
  refine ab_iconst (pc := 11) dX0_copyFrom_11 ab_k_0 ?_
  refine ab_aload_n (pc := 12) (i := 0) dX0_copyFrom_12 rfl rfl ?_
  obtain ⟨t2, ht2, hk⟩ := ab_bnd hk
  refine ab_getI (pc := 13) dX0_copyFrom_13 fl_RX0_43 ht2 ?_
  obtain ⟨q3, hq3, hk⟩ := ab_bnd hk
  obtain ⟨hb, hq3⟩ := ab_on_some hq3
  refine ab_callVV (st := []) (as := [ab_R a1, ab_I (0 : Int), ab_I (0 : Int), ab_I t2]) (b := a0) (pc := 16) dX0_copyFrom_16 ml_RX0_50 my_X0_copyStrings mv_X0_copyStrings hb (ct_X0_copyStrings hq3) ⟨Nat.le_of_ble_eq_true rfl, Nat.le_of_ble_eq_true rfl⟩ rfl (Nat.le_of_ble_eq_true rfl) rfl ?_
  refine ab_aload_n (pc := 19) (i := 1) dX0_copyFrom_19 rfl rfl ?_
  obtain ⟨t4, ht4, hk⟩ := ab_bnd hk
  refine ab_getR (pc := 20) dX0_copyFrom_20 fl_RX0_34 ht4 ?_
  refine ab_iconst (pc := 23) dX0_copyFrom_23 ab_k_0 ?_
  refine ab_aload_n (pc := 24) (i := 0) dX0_copyFrom_24 rfl rfl ?_
  obtain ⟨t5, ht5, hk⟩ := ab_bnd hk
  refine ab_getR (pc := 25) dX0_copyFrom_25 fl_RX0_34 ht5 ?_
  refine ab_iconst (pc := 28) dX0_copyFrom_28 ab_k_0 ?_
  refine ab_bipush (pc := 29) dX0_copyFrom_29 ab_p8_6 ab_k_6 ?_
  obtain ⟨h2, hh2, hk⟩ := ab_bnd hk
  refine ab_copy (st := []) (pc := 31) dX0_copyFrom_31 acp_RX0_54 (by decide) (Nat.le_of_ble_eq_true rfl) (Nat.le_of_ble_eq_true rfl) (Nat.le_of_ble_eq_true rfl) hh2 ?_
  refine ab_aload_n (pc := 34) (i := 0) dX0_copyFrom_34 rfl rfl ?_
  refine ab_aload_n (pc := 35) (i := 1) dX0_copyFrom_35 rfl rfl ?_
  obtain ⟨t6, ht6, hk⟩ := ab_bnd hk
  refine ab_getI (pc := 36) dX0_copyFrom_36 fl_RX0_47 ht6 ?_
  obtain ⟨h3, hh3, hk⟩ := ab_bnd hk
  refine ab_putI_ (pc := 39) dX0_copyFrom_39 fl_RX0_47 (fun q => by cases q) hh3 ?_
  refine ab_aload_n (pc := 42) (i := 1) dX0_copyFrom_42 rfl rfl ?_
  obtain ⟨t7, ht7, hk⟩ := ab_bnd hk
  refine ab_getR (pc := 43) dX0_copyFrom_43 fl_RX0_37 ht7 ?_
  refine ab_iconst (pc := 46) dX0_copyFrom_46 ab_k_0 ?_
  refine ab_aload_n (pc := 47) (i := 0) dX0_copyFrom_47 rfl rfl ?_
  obtain ⟨t8, ht8, hk⟩ := ab_bnd hk
  refine ab_getR (pc := 48) dX0_copyFrom_48 fl_RX0_37 ht8 ?_
  refine ab_iconst (pc := 51) dX0_copyFrom_51 ab_k_0 ?_
  refine ab_aload_n (pc := 52) (i := 0) dX0_copyFrom_52 rfl rfl ?_
  obtain ⟨t9, ht9, hk⟩ := ab_bnd hk
  refine ab_getI (pc := 53) dX0_copyFrom_53 fl_RX0_47 ht9 ?_
  obtain ⟨h4, hh4, hk⟩ := ab_bnd hk
  refine ab_copy (st := []) (pc := 56) dX0_copyFrom_56 acp_RX0_54 (by decide) (Nat.le_of_ble_eq_true rfl) (Nat.le_of_ble_eq_true rfl) (Nat.le_of_ble_eq_true rfl) hh4 ?_
  refine ab_aload_n (pc := 59) (i := 1) dX0_copyFrom_59 rfl rfl ?_
  obtain ⟨t10, ht10, hk⟩ := ab_bnd hk
  refine ab_getR (pc := 60) dX0_copyFrom_60 fl_RX0_40 ht10 ?_
  refine ab_iconst (pc := 63) dX0_copyFrom_63 ab_k_0 ?_
  refine ab_aload_n (pc := 64) (i := 0) dX0_copyFrom_64 rfl rfl ?_
  obtain ⟨t11, ht11, hk⟩ := ab_bnd hk
  refine ab_getR (pc := 65) dX0_copyFrom_65 fl_RX0_40 ht11 ?_
  refine ab_iconst (pc := 68) dX0_copyFrom_68 ab_k_0 ?_
  refine ab_aload_n (pc := 69) (i := 0) dX0_copyFrom_69 rfl rfl ?_
  obtain ⟨t12, ht12, hk⟩ := ab_bnd hk
  refine ab_getI (pc := 70) dX0_copyFrom_70 fl_RX0_47 ht12 ?_
  obtain ⟨h5, hh5, hk⟩ := ab_bnd hk
  refine ab_copy (st := []) (pc := 73) dX0_copyFrom_73 acp_RX0_54 (by decide) (Nat.le_of_ble_eq_true rfl) (Nat.le_of_ble_eq_true rfl) (Nat.le_of_ble_eq_true rfl) hh5 ?_
  obtain rfl := Option.some.inj hk
  exact ab_retv (pc := 76) dX0_copyFrom_76 rfl
theorem dX0_dropString_0 : decode cX0_dropString 0 = .ok (.aload_n 0, 1) := by decide +kernel
theorem dX0_dropString_1 : decode cX0_dropString 1 = .ok (.aload_n 0, 1) := by decide +kernel
theorem dX0_dropString_2 : decode cX0_dropString 2 = .ok (.iload_n 1, 1) := by decide +kernel
theorem dX0_dropString_3 : decode cX0_dropString 3 = .ok (.iconst 1, 1) := by decide +kernel
theorem dX0_dropString_4 : decode cX0_dropString 4 = .ok (.iadd, 1) := by decide +kernel
theorem dX0_dropString_5 : decode cX0_dropString 5 = .ok (.iload_n 1, 1) := by decide +kernel
theorem dX0_dropString_6 : decode cX0_dropString 6 = .ok (.aload_n 0, 1) := by decide +kernel
theorem dX0_dropString_7 : decode cX0_dropString 7 = .ok (.getfield 43, 3) := by decide +kernel
theorem dX0_dropString_10 : decode cX0_dropString 10 = .ok (.iload_n 1, 1) := by decide +kernel
theorem dX0_dropString_11 : decode cX0_dropString 11 = .ok (.isub, 1) := by decide +kernel
theorem dX0_dropString_12 : decode cX0_dropString 12 = .ok (.iconst 1, 1) := by decide +kernel
theorem dX0_dropString_13 : decode cX0_dropString 13 = .ok (.isub, 1) := by decide +kernel
theorem dX0_dropString_14 : decode cX0_dropString 14 = .ok (.invokevirtual 50, 3) := by decide +kernel
theorem dX0_dropString_17 : decode cX0_dropString 17 = .ok (.aload_n 0, 1) := by decide +kernel
theorem dX0_dropString_18 : decode cX0_dropString 18 = .ok (.dup, 1) := by decide +kernel
theorem dX0_dropString_19 : decode cX0_dropString 19 = .ok (.getfield 43, 3) := by decide +kernel
theorem dX0_dropString_22 : decode cX0_dropString 22 = .ok (.iconst 1, 1) := by decide +kernel
theorem dX0_dropString_23 : decode cX0_dropString 23 = .ok (.isub, 1) := by decide +kernel
theorem dX0_dropString_24 : decode cX0_dropString 24 = .ok (.putfield 43, 3) := by decide +kernel
theorem dX0_dropString_27 : decode cX0_dropString 27 = .ok (.return_, 1) := by decide +kernel
abbrev mm_X0_dropString : ab_M := (RX0, 2, none, false, 2, 67, none)
noncomputable def f_X0_dropString (a0 : Int) (a1 : Int) (h : ab_H) : Option ab_H :=
  (ab_get h 1 0 a0).bind fun t1 =>
  (ab_on h 1 a0 (f_X0_copyStrings a0 a0 (ab_w32 (a1 + (1 : Int))) a1 (ab_w32 ((ab_w32 (t1 - a1)) - (1 : Int))) h)).bind fun q2 =>
  (ab_get q2 1 0 a0).bind fun t3 =>
  (ab_put q2 1 0 a0 (ab_w32 (t3 - (1 : Int)))).bind fun h1 =>
  some h1
set_option maxRecDepth 20000 in
theorem ct_X0_dropString {a0 a1 : Int} {h : ab_H} {q : ab_H} (hk : f_X0_dropString a0 a1 h = some q) : ab_CT yX0_dropString cX0_dropString 2 none 2 67 [ab_R a0, ab_I a1] h none q := by
  refine ab_CT.mk_ 0 (own := RX0) (ini := false) (lv := [some (ab_R a0), some (ab_I a1)]) rfl (by decide +kernel) (fun q => by cases q) rfl rfl ?_
  unfold f_X0_dropString at hk
  show ab_E mm_X0_dropString cX0_dropString 0 _ [] h _ _
  refine ab_aload_n (pc := 0) (i := 0) dX0_dropString_0 rfl rfl ?_
  refine ab_aload_n (pc := 1) (i := 0) dX0_dropString_1 rfl rfl ?_
  refine ab_iload_n (pc := 2) (i := 1) dX0_dropString_2 rfl rfl ?_
  refine ab_iconst (pc := 3) dX0_dropString_3 ab_k_1 ?_
  refine ab_iadd (pc := 4) dX0_dropString_4 ?_
  refine ab_iload_n (pc := 5) (i := 1) dX0_dropString_5 rfl rfl ?_
  refine ab_aload_n (pc := 6) (i := 0) dX0_dropString_6 rfl rfl ?_
  obtain ⟨t1, ht1, hk⟩ := ab_bnd hk
  refine ab_getI (pc := 7) dX0_dropString_7 fl_RX0_43 ht1 ?_
  refine ab_iload_n (pc := 10) (i := 1) dX0_dropString_10 rfl rfl ?_
  refine ab_isub (pc := 11) dX0_dropString_11 ?_
  refine ab_iconst (pc := 12) dX0_dropString_12 ab_k_1 ?_
  refine ab_isub (pc := 13) dX0_dropString_13 ?_
  obtain ⟨q2, hq2, hk⟩ := ab_bnd hk
  obtain ⟨hb, hq2⟩ := ab_on_some hq2
  refine ab_callVV (st := []) (as := [ab_R a0, ab_I (ab_w32 (a1 + (1 : Int))), ab_I a1, ab_I (ab_w32 ((ab_w32 (t1 - a1)) - (1 : Int)))]) (b := a0) (pc := 14) dX0_dropString_14 ml_RX0_50 my_X0_copyStrings mv_X0_copyStrings hb (ct_X0_copyStrings hq2) ⟨Nat.le_of_ble_eq_true rfl, Nat.le_of_ble_eq_true rfl⟩ rfl (Nat.le_of_ble_eq_true rfl) rfl ?_
  refine ab_aload_n (pc := 17) (i := 0) dX0_dropString_17 rfl rfl ?_
  refine ab_dup (pc := 18) dX0_dropString_18 rfl ?_
  obtain ⟨t3, ht3, hk⟩ := ab_bnd hk
  refine ab_getI (pc := 19) dX0_dropString_19 fl_RX0_43 ht3 ?_
  refine ab_iconst (pc := 22) dX0_dropString_22 ab_k_1 ?_
  refine ab_isub (pc := 23) dX0_dropString_23 ?_
  obtain ⟨h1, hh1, hk⟩ := ab_bnd hk
  refine ab_putI_ (pc := 24) dX0_dropString_24 fl_RX0_43 (fun q => by cases q) hh1 ?_
  obtain rfl := Option.some.inj hk
  exact ab_retv (pc := 27) dX0_dropString_27 rfl
theorem dX0_termsOfAll_0 : decode cX0_termsOfAll 0 = .ok (.iconst 0, 1) := by decide +kernel
theorem dX0_termsOfAll_1 : decode cX0_termsOfAll 1 = .ok (.istore_n 1, 1) := by decide +kernel
theorem dX0_termsOfAll_2 : decode cX0_termsOfAll 2 = .ok (.iconst 0, 1) := by decide +kernel
theorem dX0_termsOfAll_3 : decode cX0_termsOfAll 3 = .ok (.istore_n 2, 1) := by decide +kernel
theorem dX0_termsOfAll_4 : decode cX0_termsOfAll 4 = .ok (.iload_n 2, 1) := by decide +kernel
theorem dX0_termsOfAll_5 : decode cX0_termsOfAll 5 = .ok (.aload_n 0, 1) := by decide +kernel
theorem dX0_termsOfAll_6 : decode cX0_termsOfAll 6 = .ok (.getfield 43, 3) := by decide +kernel
theorem dX0_termsOfAll_9 : decode cX0_termsOfAll 9 = .ok (.if_icmp .ge 18, 3) := by decide +kernel
theorem dX0_termsOfAll_12 : decode cX0_termsOfAll 12 = .ok (.iload_n 1, 1) := by decide +kernel
theorem dX0_termsOfAll_13 : decode cX0_termsOfAll 13 = .ok (.aload_n 0, 1) := by decide +kernel
theorem dX0_termsOfAll_14 : decode cX0_termsOfAll 14 = .ok (.getfield 15, 3) := by decide +kernel
theorem dX0_termsOfAll_17 : decode cX0_termsOfAll 17 = .ok (.iload_n 2, 1) := by decide +kernel
theorem dX0_termsOfAll_18 : decode cX0_termsOfAll 18 = .ok (.iaload, 1) := by decide +kernel
theorem dX0_termsOfAll_19 : decode cX0_termsOfAll 19 = .ok (.iadd, 1) := by decide +kernel
theorem dX0_termsOfAll_20 : decode cX0_termsOfAll 20 = .ok (.istore_n 1, 1) := by decide +kernel
theorem dX0_termsOfAll_21 : decode cX0_termsOfAll 21 = .ok (.iinc 2 1, 3) := by decide +kernel
theorem dX0_termsOfAll_24 : decode cX0_termsOfAll 24 = .ok (.goto (-20), 3) := by decide +kernel
theorem dX0_termsOfAll_27 : decode cX0_termsOfAll 27 = .ok (.iload_n 1, 1) := by decide +kernel
theorem dX0_termsOfAll_28 : decode cX0_termsOfAll 28 = .ok (.ireturn, 1) := by decide +kernel
abbrev mm_X0_termsOfAll : ab_M := (RX0, 3, (some .int), false, 0, 0, none)
noncomputable def f_X0_termsOfAll_L4 : Nat → Int → Int → Int → ab_H → Option (Int × ab_H)
  | 0, _, _, _, _ => none
  | n + 1, v0, v1, v2, h =>
    (ab_get h 1 0 v0).bind fun t1 =>
    if t1 ≤ v2 then
      some (v1, h)
    else
    (ab_get h 1 2 v0).bind fun t2 =>
    (ab_ald h 11 t2 v2).bind fun t3 =>
    f_X0_termsOfAll_L4 n v0 (ab_w32 (v1 + t3)) (ab_w32 (v2 + (1 : Int))) h
set_option maxRecDepth 20000 in
theorem e_X0_termsOfAll_L4 : ∀ (n : Nat) (v0 : Int) (v1 : Int) (v2 : Int) (h : ab_H) (q : Int × ab_H), f_X0_termsOfAll_L4 n v0 v1 v2 h = some q → ab_E mm_X0_termsOfAll cX0_termsOfAll 4 [some (ab_R v0), some (ab_I v1), some (ab_I v2)] [] h (some (ab_I q.1)) q.2 := by
  intro n
  induction n with
  | zero => intro v0 v1 v2 h q hk; cases hk
  | succ n ih =>
    intro v0 v1 v2 h q hk
    unfold f_X0_termsOfAll_L4 at hk
    refine ab_iload_n (pc := 4) (i := 2) dX0_termsOfAll_4 rfl rfl ?_
    refine ab_aload_n (pc := 5) (i := 0) dX0_termsOfAll_5 rfl rfl ?_
    obtain ⟨t1, ht1, hk⟩ := ab_bnd hk
    refine ab_getI (pc := 6) dX0_termsOfAll_6 fl_RX0_43 ht1 ?_
    refine ab_icmp_ge (pc := 9) (tgt := 27) dX0_termsOfAll_9 rfl (fun hc => ?_) (fun hc => ?_)
    · have hk := ab_ifp hk hc
      refine ab_iload_n (pc := 27) (i := 1) dX0_termsOfAll_27 rfl rfl ?_
      obtain rfl := Option.some.inj hk
      exact ab_reti (pc := 28) dX0_termsOfAll_28 (Or.inl rfl)
    · have hk := ab_ifn hk hc
      refine ab_iload_n (pc := 12) (i := 1) dX0_termsOfAll_12 rfl rfl ?_
      refine ab_aload_n (pc := 13) (i := 0) dX0_termsOfAll_13 rfl rfl ?_
      obtain ⟨t2, ht2, hk⟩ := ab_bnd hk
      refine ab_getR (pc := 14) dX0_termsOfAll_14 fl_RX0_15 ht2 ?_
      refine ab_iload_n (pc := 17) (i := 2) dX0_termsOfAll_17 rfl rfl ?_
      obtain ⟨t3, ht3, hk⟩ := ab_bnd hk
      refine ab_iald (pc := 18) dX0_termsOfAll_18 ht3 ?_
      refine ab_iadd (pc := 19) dX0_termsOfAll_19 ?_
      refine ab_istore_n (pc := 20) (i := 1) (lv2 := [some (ab_R v0), some (ab_I (ab_w32 (v1 + t3))), some (ab_I v2)]) dX0_termsOfAll_20 rfl (Nat.le_of_ble_eq_true rfl) rfl rfl ?_
      refine ab_iinc (pc := 21) (i := 2) (lv2 := [some (ab_R v0), some (ab_I (ab_w32 (v1 + t3))), some (ab_I (ab_w32 (v2 + (1 : Int))))]) dX0_termsOfAll_21 rfl (Nat.le_of_ble_eq_true rfl) rfl rfl ?_
      refine ab_goto (pc := 24) (tgt := 4) dX0_termsOfAll_24 rfl ?_
      refine ab_sub_ (lv2 := [some (ab_R v0), some (ab_I (ab_w32 (v1 + t3))), some (ab_I (ab_w32 (v2 + (1 : Int))))]) (ab_ss (ab_ss (ab_ss ab_s0))) ?_
      exact ih _ _ _ _ _ hk
noncomputable def f_X0_termsOfAll (a0 : Int) (h : ab_H) : Option (Int × ab_H) :=
  f_X0_termsOfAll_L4 ab_FU a0 (0 : Int) (0 : Int) h
set_option maxRecDepth 20000 in
theorem ct_X0_termsOfAll {a0 : Int} {h : ab_H} {q : Int × ab_H} (hk : f_X0_termsOfAll a0 h = some q) : ab_CT yX0_termsOfAll cX0_termsOfAll 3 (some .int) 0 0 [ab_R a0] h (some (ab_I q.1)) q.2 := by
  refine ab_CT.mk_ 2 (own := RX0) (ini := false) (lv := [some (ab_R a0), none, none]) rfl (by decide +kernel) (fun q => by cases q) rfl rfl ?_
  unfold f_X0_termsOfAll at hk
  show ab_E mm_X0_termsOfAll cX0_termsOfAll 0 _ [] h _ _
  refine ab_iconst (pc := 0) dX0_termsOfAll_0 ab_k_0 ?_
  refine ab_istore_n (pc := 1) (i := 1) (lv2 := [some (ab_R a0), some (ab_I (0 : Int)), none]) dX0_termsOfAll_1 rfl (Nat.le_of_ble_eq_true rfl) rfl rfl ?_
  refine ab_iconst (pc := 2) dX0_termsOfAll_2 ab_k_0 ?_
  refine ab_istore_n (pc := 3) (i := 2) (lv2 := [some (ab_R a0), some (ab_I (0 : Int)), some (ab_I (0 : Int))]) dX0_termsOfAll_3 rfl (Nat.le_of_ble_eq_true rfl) rfl rfl ?_
  refine ab_sub_ (lv2 := [some (ab_R a0), some (ab_I (0 : Int)), some (ab_I (0 : Int))]) (ab_ss (ab_ss (ab_ss ab_s0))) ?_
  refine e_X0_termsOfAll_L4 _ _ _ _ _ _ hk
theorem dX0_leadingOf_0 : decode cX0_leadingOf 0 = .ok (.iconst 0, 1) := by decide +kernel
theorem dX0_leadingOf_1 : decode cX0_leadingOf 1 = .ok (.istore_n 2, 1) := by decide +kernel
theorem dX0_leadingOf_2 : decode cX0_leadingOf 2 = .ok (.iconst 0, 1) := by decide +kernel
theorem dX0_leadingOf_3 : decode cX0_leadingOf 3 = .ok (.istore_n 3, 1) := by decide +kernel
theorem dX0_leadingOf_4 : decode cX0_leadingOf 4 = .ok (.iload_n 3, 1) := by decide +kernel
theorem dX0_leadingOf_5 : decode cX0_leadingOf 5 = .ok (.aload_n 0, 1) := by decide +kernel
theorem dX0_leadingOf_6 : decode cX0_leadingOf 6 = .ok (.getfield 15, 3) := by decide +kernel
theorem dX0_leadingOf_9 : decode cX0_leadingOf 9 = .ok (.iload_n 1, 1) := by decide +kernel
theorem dX0_leadingOf_10 : decode cX0_leadingOf 10 = .ok (.iaload, 1) := by decide +kernel
theorem dX0_leadingOf_11 : decode cX0_leadingOf 11 = .ok (.if_icmp .ge 23, 3) := by decide +kernel
theorem dX0_leadingOf_14 : decode cX0_leadingOf 14 = .ok (.iload_n 2, 1) := by decide +kernel
theorem dX0_leadingOf_15 : decode cX0_leadingOf 15 = .ok (.aload_n 0, 1) := by decide +kernel
theorem dX0_leadingOf_16 : decode cX0_leadingOf 16 = .ok (.getfield 21, 3) := by decide +kernel
theorem dX0_leadingOf_19 : decode cX0_leadingOf 19 = .ok (.iload_n 1, 1) := by decide +kernel
theorem dX0_leadingOf_20 : decode cX0_leadingOf 20 = .ok (.bipush 6, 2) := by decide +kernel
theorem dX0_leadingOf_22 : decode cX0_leadingOf 22 = .ok (.imul, 1) := by decide +kernel
theorem dX0_leadingOf_23 : decode cX0_leadingOf 23 = .ok (.iload_n 3, 1) := by decide +kernel
theorem dX0_leadingOf_24 : decode cX0_leadingOf 24 = .ok (.iadd, 1) := by decide +kernel
theorem dX0_leadingOf_25 : decode cX0_leadingOf 25 = .ok (.iaload, 1) := by decide +kernel
theorem dX0_leadingOf_26 : decode cX0_leadingOf 26 = .ok (.iadd, 1) := by decide +kernel
theorem dX0_leadingOf_27 : decode cX0_leadingOf 27 = .ok (.istore_n 2, 1) := by decide +kernel
theorem dX0_leadingOf_28 : decode cX0_leadingOf 28 = .ok (.iinc 3 1, 3) := by decide +kernel
theorem dX0_leadingOf_31 : decode cX0_leadingOf 31 = .ok (.goto (-27), 3) := by decide +kernel
theorem dX0_leadingOf_34 : decode cX0_leadingOf 34 = .ok (.iload_n 2, 1) := by decide +kernel
theorem dX0_leadingOf_35 : decode cX0_leadingOf 35 = .ok (.ireturn, 1) := by decide +kernel
abbrev mm_X0_leadingOf : ab_M := (RX0, 4, (some .int), false, 0, 0, none)
noncomputable def f_X0_leadingOf_L4 : Nat → Int → Int → Int → Int → ab_H → Option (Int × ab_H)
  | 0, _, _, _, _, _ => none
  | n + 1, v0, v1, v2, v3, h =>
    (ab_get h 1 2 v0).bind fun t1 =>
    (ab_ald h 11 t1 v1).bind fun t2 =>
    if t2 ≤ v3 then
      some (v2, h)
    else
    (ab_get h 1 4 v0).bind fun t3 =>
    (ab_ald h 11 t3 (ab_w32 ((ab_w32 (v1 * (6 : Int))) + v3))).bind fun t4 =>
    f_X0_leadingOf_L4 n v0 v1 (ab_w32 (v2 + t4)) (ab_w32 (v3 + (1 : Int))) h
set_option maxRecDepth 20000 in
theorem e_X0_leadingOf_L4 : ∀ (n : Nat) (v0 : Int) (v1 : Int) (v2 : Int) (v3 : Int) (h : ab_H) (q : Int × ab_H), f_X0_leadingOf_L4 n v0 v1 v2 v3 h = some q → ab_E mm_X0_leadingOf cX0_leadingOf 4 [some (ab_R v0), some (ab_I v1), some (ab_I v2), some (ab_I v3)] [] h (some (ab_I q.1)) q.2 := by
  intro n
  induction n with
  | zero => intro v0 v1 v2 v3 h q hk; cases hk
  | succ n ih =>
    intro v0 v1 v2 v3 h q hk
    unfold f_X0_leadingOf_L4 at hk
    refine ab_iload_n (pc := 4) (i := 3) dX0_leadingOf_4 rfl rfl ?_
    refine ab_aload_n (pc := 5) (i := 0) dX0_leadingOf_5 rfl rfl ?_
    obtain ⟨t1, ht1, hk⟩ := ab_bnd hk
    refine ab_getR (pc := 6) dX0_leadingOf_6 fl_RX0_15 ht1 ?_
    refine ab_iload_n (pc := 9) (i := 1) dX0_leadingOf_9 rfl rfl ?_
    obtain ⟨t2, ht2, hk⟩ := ab_bnd hk
    refine ab_iald (pc := 10) dX0_leadingOf_10 ht2 ?_
    refine ab_icmp_ge (pc := 11) (tgt := 34) dX0_leadingOf_11 rfl (fun hc => ?_) (fun hc => ?_)
    · have hk := ab_ifp hk hc
      refine ab_iload_n (pc := 34) (i := 2) dX0_leadingOf_34 rfl rfl ?_
      obtain rfl := Option.some.inj hk
      exact ab_reti (pc := 35) dX0_leadingOf_35 (Or.inl rfl)
    · have hk := ab_ifn hk hc
      refine ab_iload_n (pc := 14) (i := 2) dX0_leadingOf_14 rfl rfl ?_
      refine ab_aload_n (pc := 15) (i := 0) dX0_leadingOf_15 rfl rfl ?_
      obtain ⟨t3, ht3, hk⟩ := ab_bnd hk
      refine ab_getR (pc := 16) dX0_leadingOf_16 fl_RX0_21 ht3 ?_
      refine ab_iload_n (pc := 19) (i := 1) dX0_leadingOf_19 rfl rfl ?_
      refine ab_bipush (pc := 20) dX0_leadingOf_20 ab_p8_6 ab_k_6 ?_
      refine ab_imul (pc := 22) dX0_leadingOf_22 ?_
      refine ab_iload_n (pc := 23) (i := 3) dX0_leadingOf_23 rfl rfl ?_
      refine ab_iadd (pc := 24) dX0_leadingOf_24 ?_
      obtain ⟨t4, ht4, hk⟩ := ab_bnd hk
      refine ab_iald (pc := 25) dX0_leadingOf_25 ht4 ?_
      refine ab_iadd (pc := 26) dX0_leadingOf_26 ?_
      refine ab_istore_n (pc := 27) (i := 2) (lv2 := [some (ab_R v0), some (ab_I v1), some (ab_I (ab_w32 (v2 + t4))), some (ab_I v3)]) dX0_leadingOf_27 rfl (Nat.le_of_ble_eq_true rfl) rfl rfl ?_
      refine ab_iinc (pc := 28) (i := 3) (lv2 := [some (ab_R v0), some (ab_I v1), some (ab_I (ab_w32 (v2 + t4))), some (ab_I (ab_w32 (v3 + (1 : Int))))]) dX0_leadingOf_28 rfl (Nat.le_of_ble_eq_true rfl) rfl rfl ?_
      refine ab_goto (pc := 31) (tgt := 4) dX0_leadingOf_31 rfl ?_
      refine ab_sub_ (lv2 := [some (ab_R v0), some (ab_I v1), some (ab_I (ab_w32 (v2 + t4))), some (ab_I (ab_w32 (v3 + (1 : Int))))]) (ab_ss (ab_ss (ab_ss (ab_ss ab_s0)))) ?_
      exact ih _ _ _ _ _ _ hk
noncomputable def f_X0_leadingOf (a0 : Int) (a1 : Int) (h : ab_H) : Option (Int × ab_H) :=
  f_X0_leadingOf_L4 ab_FU a0 a1 (0 : Int) (0 : Int) h
set_option maxRecDepth 20000 in
theorem ct_X0_leadingOf {a0 a1 : Int} {h : ab_H} {q : Int × ab_H} (hk : f_X0_leadingOf a0 a1 h = some q) : ab_CT yX0_leadingOf cX0_leadingOf 4 (some .int) 0 0 [ab_R a0, ab_I a1] h (some (ab_I q.1)) q.2 := by
  refine ab_CT.mk_ 2 (own := RX0) (ini := false) (lv := [some (ab_R a0), some (ab_I a1), none, none]) rfl (by decide +kernel) (fun q => by cases q) rfl rfl ?_
  unfold f_X0_leadingOf at hk
  show ab_E mm_X0_leadingOf cX0_leadingOf 0 _ [] h _ _
  refine ab_iconst (pc := 0) dX0_leadingOf_0 ab_k_0 ?_
  refine ab_istore_n (pc := 1) (i := 2) (lv2 := [some (ab_R a0), some (ab_I a1), some (ab_I (0 : Int)), none]) dX0_leadingOf_1 rfl (Nat.le_of_ble_eq_true rfl) rfl rfl ?_
  refine ab_iconst (pc := 2) dX0_leadingOf_2 ab_k_0 ?_
  refine ab_istore_n (pc := 3) (i := 3) (lv2 := [some (ab_R a0), some (ab_I a1), some (ab_I (0 : Int)), some (ab_I (0 : Int))]) dX0_leadingOf_3 rfl (Nat.le_of_ble_eq_true rfl) rfl rfl ?_
  refine ab_sub_ (lv2 := [some (ab_R a0), some (ab_I a1), some (ab_I (0 : Int)), some (ab_I (0 : Int))]) (ab_ss (ab_ss (ab_ss (ab_ss ab_s0)))) ?_
  refine e_X0_leadingOf_L4 _ _ _ _ _ _ _ hk
theorem dX0_stringAt_0 : decode cX0_stringAt 0 = .ok (.iconst 0, 1) := by decide +kernel
theorem dX0_stringAt_1 : decode cX0_stringAt 1 = .ok (.istore_n 2, 1) := by decide +kernel
theorem dX0_stringAt_2 : decode cX0_stringAt 2 = .ok (.iload_n 2, 1) := by decide +kernel
theorem dX0_stringAt_3 : decode cX0_stringAt 3 = .ok (.aload_n 0, 1) := by decide +kernel
theorem dX0_stringAt_4 : decode cX0_stringAt 4 = .ok (.getfield 43, 3) := by decide +kernel
theorem dX0_stringAt_7 : decode cX0_stringAt 7 = .ok (.if_icmp .ge 21, 3) := by decide +kernel
theorem dX0_stringAt_10 : decode cX0_stringAt 10 = .ok (.aload_n 0, 1) := by decide +kernel
theorem dX0_stringAt_11 : decode cX0_stringAt 11 = .ok (.getfield 9, 3) := by decide +kernel
theorem dX0_stringAt_14 : decode cX0_stringAt 14 = .ok (.iload_n 2, 1) := by decide +kernel
theorem dX0_stringAt_15 : decode cX0_stringAt 15 = .ok (.iaload, 1) := by decide +kernel
theorem dX0_stringAt_16 : decode cX0_stringAt 16 = .ok (.iload_n 1, 1) := by decide +kernel
theorem dX0_stringAt_17 : decode cX0_stringAt 17 = .ok (.if_icmp .ne 5, 3) := by decide +kernel
theorem dX0_stringAt_20 : decode cX0_stringAt 20 = .ok (.iload_n 2, 1) := by decide +kernel
theorem dX0_stringAt_21 : decode cX0_stringAt 21 = .ok (.ireturn, 1) := by decide +kernel
theorem dX0_stringAt_22 : decode cX0_stringAt 22 = .ok (.iinc 2 1, 3) := by decide +kernel
theorem dX0_stringAt_25 : decode cX0_stringAt 25 = .ok (.goto (-23), 3) := by decide +kernel
theorem dX0_stringAt_28 : decode cX0_stringAt 28 = .ok (.iconst (-1), 1) := by decide +kernel
theorem dX0_stringAt_29 : decode cX0_stringAt 29 = .ok (.ireturn, 1) := by decide +kernel
abbrev mm_X0_stringAt : ab_M := (RX0, 3, (some .int), false, 0, 0, none)
noncomputable def f_X0_stringAt_L2 : Nat → Int → Int → Int → ab_H → Option (Int × ab_H)
  | 0, _, _, _, _ => none
  | n + 1, v0, v1, v2, h =>
    (ab_get h 1 0 v0).bind fun t1 =>
    if t1 ≤ v2 then
      some ((-1 : Int), h)
    else
    (ab_get h 1 1 v0).bind fun t2 =>
    (ab_ald h 11 t2 v2).bind fun t3 =>
    if t3 = v1 then
      some (v2, h)
    else
    f_X0_stringAt_L2 n v0 v1 (ab_w32 (v2 + (1 : Int))) h
set_option maxRecDepth 20000 in
theorem e_X0_stringAt_L2 : ∀ (n : Nat) (v0 : Int) (v1 : Int) (v2 : Int) (h : ab_H) (q : Int × ab_H), f_X0_stringAt_L2 n v0 v1 v2 h = some q → ab_E mm_X0_stringAt cX0_stringAt 2 [some (ab_R v0), some (ab_I v1), some (ab_I v2)] [] h (some (ab_I q.1)) q.2 := by
  intro n
  induction n with
  | zero => intro v0 v1 v2 h q hk; cases hk
  | succ n ih =>
    intro v0 v1 v2 h q hk
    unfold f_X0_stringAt_L2 at hk
    refine ab_iload_n (pc := 2) (i := 2) dX0_stringAt_2 rfl rfl ?_
    refine ab_aload_n (pc := 3) (i := 0) dX0_stringAt_3 rfl rfl ?_
    obtain ⟨t1, ht1, hk⟩ := ab_bnd hk
    refine ab_getI (pc := 4) dX0_stringAt_4 fl_RX0_43 ht1 ?_
    refine ab_icmp_ge (pc := 7) (tgt := 28) dX0_stringAt_7 rfl (fun hc => ?_) (fun hc => ?_)
    · have hk := ab_ifp hk hc
      refine ab_iconst (pc := 28) dX0_stringAt_28 ab_k_m1 ?_
      obtain rfl := Option.some.inj hk
      exact ab_reti (pc := 29) dX0_stringAt_29 (Or.inl rfl)
    · have hk := ab_ifn hk hc
      refine ab_aload_n (pc := 10) (i := 0) dX0_stringAt_10 rfl rfl ?_
      obtain ⟨t2, ht2, hk⟩ := ab_bnd hk
      refine ab_getR (pc := 11) dX0_stringAt_11 fl_RX0_9 ht2 ?_
      refine ab_iload_n (pc := 14) (i := 2) dX0_stringAt_14 rfl rfl ?_
      obtain ⟨t3, ht3, hk⟩ := ab_bnd hk
      refine ab_iald (pc := 15) dX0_stringAt_15 ht3 ?_
      refine ab_iload_n (pc := 16) (i := 1) dX0_stringAt_16 rfl rfl ?_
      refine ab_icmp_ne (pc := 17) (tgt := 22) dX0_stringAt_17 rfl (fun hc => ?_) (fun hc => ?_)
      · have hk := ab_ifn hk hc
        refine ab_iinc (pc := 22) (i := 2) (lv2 := [some (ab_R v0), some (ab_I v1), some (ab_I (ab_w32 (v2 + (1 : Int))))]) dX0_stringAt_22 rfl (Nat.le_of_ble_eq_true rfl) rfl rfl ?_
        refine ab_goto (pc := 25) (tgt := 2) dX0_stringAt_25 rfl ?_
        refine ab_sub_ (lv2 := [some (ab_R v0), some (ab_I v1), some (ab_I (ab_w32 (v2 + (1 : Int))))]) (ab_ss (ab_ss (ab_ss ab_s0))) ?_
        exact ih _ _ _ _ _ hk
      · have hk := ab_ifp hk hc
        refine ab_iload_n (pc := 20) (i := 2) dX0_stringAt_20 rfl rfl ?_
        obtain rfl := Option.some.inj hk
        exact ab_reti (pc := 21) dX0_stringAt_21 (Or.inl rfl)
noncomputable def f_X0_stringAt (a0 : Int) (a1 : Int) (h : ab_H) : Option (Int × ab_H) :=
  f_X0_stringAt_L2 ab_FU a0 a1 (0 : Int) h
set_option maxRecDepth 20000 in
theorem ct_X0_stringAt {a0 a1 : Int} {h : ab_H} {q : Int × ab_H} (hk : f_X0_stringAt a0 a1 h = some q) : ab_CT yX0_stringAt cX0_stringAt 3 (some .int) 0 0 [ab_R a0, ab_I a1] h (some (ab_I q.1)) q.2 := by
  refine ab_CT.mk_ 1 (own := RX0) (ini := false) (lv := [some (ab_R a0), some (ab_I a1), none]) rfl (by decide +kernel) (fun q => by cases q) rfl rfl ?_
  unfold f_X0_stringAt at hk
  show ab_E mm_X0_stringAt cX0_stringAt 0 _ [] h _ _
  refine ab_iconst (pc := 0) dX0_stringAt_0 ab_k_0 ?_
  refine ab_istore_n (pc := 1) (i := 2) (lv2 := [some (ab_R a0), some (ab_I a1), some (ab_I (0 : Int))]) dX0_stringAt_1 rfl (Nat.le_of_ble_eq_true rfl) rfl rfl ?_
  refine ab_sub_ (lv2 := [some (ab_R a0), some (ab_I a1), some (ab_I (0 : Int))]) (ab_ss (ab_ss (ab_ss ab_s0))) ?_
  refine e_X0_stringAt_L2 _ _ _ _ _ _ hk
theorem dX0_exchangeIn_0 : decode cX0_exchangeIn 0 = .ok (.aload_n 0, 1) := by decide +kernel
theorem dX0_exchangeIn_1 : decode cX0_exchangeIn 1 = .ok (.iload_n 1, 1) := by decide +kernel
theorem dX0_exchangeIn_2 : decode cX0_exchangeIn 2 = .ok (.laload, 1) := by decide +kernel
theorem dX0_exchangeIn_3 : decode cX0_exchangeIn 3 = .ok (.lstore_n 3, 1) := by decide +kernel
theorem dX0_exchangeIn_4 : decode cX0_exchangeIn 4 = .ok (.aload_n 0, 1) := by decide +kernel
theorem dX0_exchangeIn_5 : decode cX0_exchangeIn 5 = .ok (.iload_n 1, 1) := by decide +kernel
theorem dX0_exchangeIn_6 : decode cX0_exchangeIn 6 = .ok (.aload_n 0, 1) := by decide +kernel
theorem dX0_exchangeIn_7 : decode cX0_exchangeIn 7 = .ok (.iload_n 2, 1) := by decide +kernel
theorem dX0_exchangeIn_8 : decode cX0_exchangeIn 8 = .ok (.laload, 1) := by decide +kernel
theorem dX0_exchangeIn_9 : decode cX0_exchangeIn 9 = .ok (.lastore, 1) := by decide +kernel
theorem dX0_exchangeIn_10 : decode cX0_exchangeIn 10 = .ok (.aload_n 0, 1) := by decide +kernel
theorem dX0_exchangeIn_11 : decode cX0_exchangeIn 11 = .ok (.iload_n 2, 1) := by decide +kernel
theorem dX0_exchangeIn_12 : decode cX0_exchangeIn 12 = .ok (.lload_n 3, 1) := by decide +kernel
theorem dX0_exchangeIn_13 : decode cX0_exchangeIn 13 = .ok (.lastore, 1) := by decide +kernel
theorem dX0_exchangeIn_14 : decode cX0_exchangeIn 14 = .ok (.return_, 1) := by decide +kernel
abbrev mm_X0_exchangeIn : ab_M := (RX0, 5, none, false, 0, 0, none)
noncomputable def f_X0_exchangeIn (a0 : Int) (a1 : Int) (a2 : Int) (h : ab_H) : Option ab_H :=
  (ab_ald h 12 a0 a1).bind fun t1 =>
  (ab_ald h 12 a0 a2).bind fun t2 =>
  (ab_ast h 12 a0 a1 t2).bind fun h1 =>
  (ab_ast h1 12 a0 a2 t1).bind fun h2 =>
  some h2
set_option maxRecDepth 20000 in
theorem ct_X0_exchangeIn {a0 a1 a2 : Int} {h : ab_H} {q : ab_H} (hk : f_X0_exchangeIn a0 a1 a2 h = some q) : ab_CT yX0_exchangeIn cX0_exchangeIn 5 none 0 0 [ab_R a0, ab_I a1, ab_I a2] h none q := by
  refine ab_CT.mk_ 2 (own := RX0) (ini := false) (lv := [some (ab_R a0), some (ab_I a1), some (ab_I a2), none, none]) rfl (by decide +kernel) (fun q => by cases q) rfl rfl ?_
  unfold f_X0_exchangeIn at hk
  show ab_E mm_X0_exchangeIn cX0_exchangeIn 0 _ [] h _ _
  refine ab_aload_n (pc := 0) (i := 0) dX0_exchangeIn_0 rfl rfl ?_
  refine ab_iload_n (pc := 1) (i := 1) dX0_exchangeIn_1 rfl rfl ?_
  obtain ⟨t1, ht1, hk⟩ := ab_bnd hk
  refine ab_lald (pc := 2) dX0_exchangeIn_2 ht1 ?_
  refine ab_lstore_n (pc := 3) (i := 3) (lv2 := [some (ab_R a0), some (ab_I a1), some (ab_I a2), some (ab_J t1), none]) dX0_exchangeIn_3 rfl (Nat.le_of_ble_eq_true rfl) rfl rfl ?_
  refine ab_aload_n (pc := 4) (i := 0) dX0_exchangeIn_4 rfl rfl ?_
  refine ab_iload_n (pc := 5) (i := 1) dX0_exchangeIn_5 rfl rfl ?_
  refine ab_aload_n (pc := 6) (i := 0) dX0_exchangeIn_6 rfl rfl ?_
  refine ab_iload_n (pc := 7) (i := 2) dX0_exchangeIn_7 rfl rfl ?_
  obtain ⟨t2, ht2, hk⟩ := ab_bnd hk
  refine ab_lald (pc := 8) dX0_exchangeIn_8 ht2 ?_
  obtain ⟨h1, hh1, hk⟩ := ab_bnd hk
  refine ab_last (pc := 9) dX0_exchangeIn_9 hh1 ?_
  refine ab_aload_n (pc := 10) (i := 0) dX0_exchangeIn_10 rfl rfl ?_
  refine ab_iload_n (pc := 11) (i := 2) dX0_exchangeIn_11 rfl rfl ?_
  refine ab_lload_n (pc := 12) (i := 3) dX0_exchangeIn_12 rfl rfl ?_
  obtain ⟨h2, hh2, hk⟩ := ab_bnd hk
  refine ab_last (pc := 13) dX0_exchangeIn_13 hh2 ?_
  obtain rfl := Option.some.inj hk
  exact ab_retv (pc := 14) dX0_exchangeIn_14 rfl
theorem dX0_exchange_0 : decode cX0_exchange 0 = .ok (.aload_n 0, 1) := by decide +kernel
theorem dX0_exchange_1 : decode cX0_exchange 1 = .ok (.getfield 21, 3) := by decide +kernel
theorem dX0_exchange_4 : decode cX0_exchange 4 = .ok (.iload_n 1, 1) := by decide +kernel
theorem dX0_exchange_5 : decode cX0_exchange 5 = .ok (.iaload, 1) := by decide +kernel
theorem dX0_exchange_6 : decode cX0_exchange 6 = .ok (.istore_n 3, 1) := by decide +kernel
theorem dX0_exchange_7 : decode cX0_exchange 7 = .ok (.aload_n 0, 1) := by decide +kernel
theorem dX0_exchange_8 : decode cX0_exchange 8 = .ok (.getfield 21, 3) := by decide +kernel
theorem dX0_exchange_11 : decode cX0_exchange 11 = .ok (.iload_n 1, 1) := by decide +kernel
theorem dX0_exchange_12 : decode cX0_exchange 12 = .ok (.aload_n 0, 1) := by decide +kernel
theorem dX0_exchange_13 : decode cX0_exchange 13 = .ok (.getfield 21, 3) := by decide +kernel
theorem dX0_exchange_16 : decode cX0_exchange 16 = .ok (.iload_n 2, 1) := by decide +kernel
theorem dX0_exchange_17 : decode cX0_exchange 17 = .ok (.iaload, 1) := by decide +kernel
theorem dX0_exchange_18 : decode cX0_exchange 18 = .ok (.iastore, 1) := by decide +kernel
theorem dX0_exchange_19 : decode cX0_exchange 19 = .ok (.aload_n 0, 1) := by decide +kernel
theorem dX0_exchange_20 : decode cX0_exchange 20 = .ok (.getfield 21, 3) := by decide +kernel
theorem dX0_exchange_23 : decode cX0_exchange 23 = .ok (.iload_n 2, 1) := by decide +kernel
theorem dX0_exchange_24 : decode cX0_exchange 24 = .ok (.iload_n 3, 1) := by decide +kernel
theorem dX0_exchange_25 : decode cX0_exchange 25 = .ok (.iastore, 1) := by decide +kernel
theorem dX0_exchange_26 : decode cX0_exchange 26 = .ok (.aload_n 0, 1) := by decide +kernel
theorem dX0_exchange_27 : decode cX0_exchange 27 = .ok (.getfield 24, 3) := by decide +kernel
theorem dX0_exchange_30 : decode cX0_exchange 30 = .ok (.iload_n 1, 1) := by decide +kernel
theorem dX0_exchange_31 : decode cX0_exchange 31 = .ok (.iload_n 2, 1) := by decide +kernel
theorem dX0_exchange_32 : decode cX0_exchange 32 = .ok (.invokestatic 60, 3) := by decide +kernel
theorem dX0_exchange_35 : decode cX0_exchange 35 = .ok (.aload_n 0, 1) := by decide +kernel
theorem dX0_exchange_36 : decode cX0_exchange 36 = .ok (.getfield 28, 3) := by decide +kernel
theorem dX0_exchange_39 : decode cX0_exchange 39 = .ok (.iload_n 1, 1) := by decide +kernel
theorem dX0_exchange_40 : decode cX0_exchange 40 = .ok (.iload_n 2, 1) := by decide +kernel
theorem dX0_exchange_41 : decode cX0_exchange 41 = .ok (.invokestatic 60, 3) := by decide +kernel
theorem dX0_exchange_44 : decode cX0_exchange 44 = .ok (.aload_n 0, 1) := by decide +kernel
theorem dX0_exchange_45 : decode cX0_exchange 45 = .ok (.getfield 31, 3) := by decide +kernel
theorem dX0_exchange_48 : decode cX0_exchange 48 = .ok (.iload_n 1, 1) := by decide +kernel
theorem dX0_exchange_49 : decode cX0_exchange 49 = .ok (.iload_n 2, 1) := by decide +kernel
theorem dX0_exchange_50 : decode cX0_exchange 50 = .ok (.invokestatic 60, 3) := by decide +kernel
theorem dX0_exchange_53 : decode cX0_exchange 53 = .ok (.return_, 1) := by decide +kernel
abbrev mm_X0_exchange : ab_M := (RX0, 4, none, false, 1, 24, none)
noncomputable def f_X0_exchange (a0 : Int) (a1 : Int) (a2 : Int) (h : ab_H) : Option ab_H :=
  (ab_get h 1 4 a0).bind fun t1 =>
  (ab_ald h 11 t1 a1).bind fun t2 =>
  (ab_get h 1 4 a0).bind fun t3 =>
  (ab_get h 1 4 a0).bind fun t4 =>
  (ab_ald h 11 t4 a2).bind fun t5 =>
  (ab_ast h 11 t3 a1 t5).bind fun h1 =>
  (ab_get h1 1 4 a0).bind fun t6 =>
  (ab_ast h1 11 t6 a2 t2).bind fun h2 =>
  (ab_get h2 1 5 a0).bind fun t7 =>
  (f_X0_exchangeIn t7 a1 a2 h2).bind fun q8 =>
  (ab_get q8 1 6 a0).bind fun t9 =>
  (f_X0_exchangeIn t9 a1 a2 q8).bind fun q10 =>
  (ab_get q10 1 7 a0).bind fun t11 =>
  (f_X0_exchangeIn t11 a1 a2 q10).bind fun q12 =>
  some q12
set_option maxRecDepth 20000 in
theorem ct_X0_exchange {a0 a1 a2 : Int} {h : ab_H} {q : ab_H} (hk : f_X0_exchange a0 a1 a2 h = some q) : ab_CT yX0_exchange cX0_exchange 4 none 1 24 [ab_R a0, ab_I a1, ab_I a2] h none q := by
  refine ab_CT.mk_ 1 (own := RX0) (ini := false) (lv := [some (ab_R a0), some (ab_I a1), some (ab_I a2), none]) rfl (by decide +kernel) (fun q => by cases q) rfl rfl ?_
  unfold f_X0_exchange at hk
  show ab_E mm_X0_exchange cX0_exchange 0 _ [] h _ _
  refine ab_aload_n (pc := 0) (i := 0) dX0_exchange_0 rfl rfl ?_
  obtain ⟨t1, ht1, hk⟩ := ab_bnd hk
  refine ab_getR (pc := 1) dX0_exchange_1 fl_RX0_21 ht1 ?_
  refine ab_iload_n (pc := 4) (i := 1) dX0_exchange_4 rfl rfl ?_
  obtain ⟨t2, ht2, hk⟩ := ab_bnd hk
  refine ab_iald (pc := 5) dX0_exchange_5 ht2 ?_
  refine ab_istore_n (pc := 6) (i := 3) (lv2 := [some (ab_R a0), some (ab_I a1), some (ab_I a2), some (ab_I t2)]) dX0_exchange_6 rfl (Nat.le_of_ble_eq_true rfl) rfl rfl ?_
  refine ab_aload_n (pc := 7) (i := 0) dX0_exchange_7 rfl rfl ?_
  obtain ⟨t3, ht3, hk⟩ := ab_bnd hk
  refine ab_getR (pc := 8) dX0_exchange_8 fl_RX0_21 ht3 ?_
  refine ab_iload_n (pc := 11) (i := 1) dX0_exchange_11 rfl rfl ?_
  refine ab_aload_n (pc := 12) (i := 0) dX0_exchange_12 rfl rfl ?_
  obtain ⟨t4, ht4, hk⟩ := ab_bnd hk
  refine ab_getR (pc := 13) dX0_exchange_13 fl_RX0_21 ht4 ?_
  refine ab_iload_n (pc := 16) (i := 2) dX0_exchange_16 rfl rfl ?_
  obtain ⟨t5, ht5, hk⟩ := ab_bnd hk
  refine ab_iald (pc := 17) dX0_exchange_17 ht5 ?_
  obtain ⟨h1, hh1, hk⟩ := ab_bnd hk
  refine ab_iast (pc := 18) dX0_exchange_18 hh1 ?_
  refine ab_aload_n (pc := 19) (i := 0) dX0_exchange_19 rfl rfl ?_
  obtain ⟨t6, ht6, hk⟩ := ab_bnd hk
  refine ab_getR (pc := 20) dX0_exchange_20 fl_RX0_21 ht6 ?_
  refine ab_iload_n (pc := 23) (i := 2) dX0_exchange_23 rfl rfl ?_
  refine ab_iload_n (pc := 24) (i := 3) dX0_exchange_24 rfl rfl ?_
  obtain ⟨h2, hh2, hk⟩ := ab_bnd hk
  refine ab_iast (pc := 25) dX0_exchange_25 hh2 ?_
  refine ab_aload_n (pc := 26) (i := 0) dX0_exchange_26 rfl rfl ?_
  obtain ⟨t7, ht7, hk⟩ := ab_bnd hk
  refine ab_getR (pc := 27) dX0_exchange_27 fl_RX0_24 ht7 ?_
  refine ab_iload_n (pc := 30) (i := 1) dX0_exchange_30 rfl rfl ?_
  refine ab_iload_n (pc := 31) (i := 2) dX0_exchange_31 rfl rfl ?_
  obtain ⟨q8, hq8, hk⟩ := ab_bnd hk
  refine ab_callSV (st := []) (as := [ab_R t7, ab_I a1, ab_I a2]) (pc := 32) dX0_exchange_32 ml_RX0_60 my_X0_exchangeIn ms_X0_exchangeIn (ct_X0_exchangeIn hq8) ⟨Nat.le_of_ble_eq_true rfl, Nat.le_of_ble_eq_true rfl⟩ rfl (Nat.le_of_ble_eq_true rfl) rfl ?_
  refine ab_aload_n (pc := 35) (i := 0) dX0_exchange_35 rfl rfl ?_
  obtain ⟨t9, ht9, hk⟩ := ab_bnd hk
  refine ab_getR (pc := 36) dX0_exchange_36 fl_RX0_28 ht9 ?_
  refine ab_iload_n (pc := 39) (i := 1) dX0_exchange_39 rfl rfl ?_
  refine ab_iload_n (pc := 40) (i := 2) dX0_exchange_40 rfl rfl ?_
  obtain ⟨q10, hq10, hk⟩ := ab_bnd hk
  refine ab_callSV (st := []) (as := [ab_R t9, ab_I a1, ab_I a2]) (pc := 41) dX0_exchange_41 ml_RX0_60 my_X0_exchangeIn ms_X0_exchangeIn (ct_X0_exchangeIn hq10) ⟨Nat.le_of_ble_eq_true rfl, Nat.le_of_ble_eq_true rfl⟩ rfl (Nat.le_of_ble_eq_true rfl) rfl ?_
  refine ab_aload_n (pc := 44) (i := 0) dX0_exchange_44 rfl rfl ?_
  obtain ⟨t11, ht11, hk⟩ := ab_bnd hk
  refine ab_getR (pc := 45) dX0_exchange_45 fl_RX0_31 ht11 ?_
  refine ab_iload_n (pc := 48) (i := 1) dX0_exchange_48 rfl rfl ?_
  refine ab_iload_n (pc := 49) (i := 2) dX0_exchange_49 rfl rfl ?_
  obtain ⟨q12, hq12, hk⟩ := ab_bnd hk
  refine ab_callSV (st := []) (as := [ab_R t11, ab_I a1, ab_I a2]) (pc := 50) dX0_exchange_50 ml_RX0_60 my_X0_exchangeIn ms_X0_exchangeIn (ct_X0_exchangeIn hq12) ⟨Nat.le_of_ble_eq_true rfl, Nat.le_of_ble_eq_true rfl⟩ rfl (Nat.le_of_ble_eq_true rfl) rfl ?_
  obtain rfl := Option.some.inj hk
  exact ab_retv (pc := 53) dX0_exchange_53 rfl
theorem dX0_seeOf_0 : decode cX0_seeOf 0 = .ok (.iconst 0, 1) := by decide +kernel
theorem dX0_seeOf_1 : decode cX0_seeOf 1 = .ok (.istore_n 3, 1) := by decide +kernel
theorem dX0_seeOf_2 : decode cX0_seeOf 2 = .ok (.iload_n 3, 1) := by decide +kernel
theorem dX0_seeOf_3 : decode cX0_seeOf 3 = .ok (.aload_n 0, 1) := by decide +kernel
theorem dX0_seeOf_4 : decode cX0_seeOf 4 = .ok (.getfield 47, 3) := by decide +kernel
theorem dX0_seeOf_7 : decode cX0_seeOf 7 = .ok (.if_icmp .ge 22, 3) := by decide +kernel
theorem dX0_seeOf_10 : decode cX0_seeOf 10 = .ok (.aload_n 0, 1) := by decide +kernel
theorem dX0_seeOf_11 : decode cX0_seeOf 11 = .ok (.getfield 37, 3) := by decide +kernel
theorem dX0_seeOf_14 : decode cX0_seeOf 14 = .ok (.iload_n 3, 1) := by decide +kernel
theorem dX0_seeOf_15 : decode cX0_seeOf 15 = .ok (.laload, 1) := by decide +kernel
theorem dX0_seeOf_16 : decode cX0_seeOf 16 = .ok (.lload_n 1, 1) := by decide +kernel
theorem dX0_seeOf_17 : decode cX0_seeOf 17 = .ok (.lcmp, 1) := by decide +kernel
theorem dX0_seeOf_18 : decode cX0_seeOf 18 = .ok (.ifCond .ne 5, 3) := by decide +kernel
theorem dX0_seeOf_21 : decode cX0_seeOf 21 = .ok (.iload_n 3, 1) := by decide +kernel
theorem dX0_seeOf_22 : decode cX0_seeOf 22 = .ok (.ireturn, 1) := by decide +kernel
theorem dX0_seeOf_23 : decode cX0_seeOf 23 = .ok (.iinc 3 1, 3) := by decide +kernel
theorem dX0_seeOf_26 : decode cX0_seeOf 26 = .ok (.goto (-24), 3) := by decide +kernel
theorem dX0_seeOf_29 : decode cX0_seeOf 29 = .ok (.iconst (-1), 1) := by decide +kernel
theorem dX0_seeOf_30 : decode cX0_seeOf 30 = .ok (.ireturn, 1) := by decide +kernel
abbrev mm_X0_seeOf : ab_M := (RX0, 4, (some .int), false, 0, 0, none)
noncomputable def f_X0_seeOf_L2 : Nat → Int → Int → Int → ab_H → Option (Int × ab_H)
  | 0, _, _, _, _ => none
  | n + 1, v0, v1, v3, h =>
    (ab_get h 1 9 v0).bind fun t1 =>
    if t1 ≤ v3 then
      some ((-1 : Int), h)
    else
    (ab_get h 1 10 v0).bind fun t2 =>
    (ab_ald h 12 t2 v3).bind fun t3 =>
    if ab_cmp t3 v1 = (0 : Int) then
      some (v3, h)
    else
    f_X0_seeOf_L2 n v0 v1 (ab_w32 (v3 + (1 : Int))) h
set_option maxRecDepth 20000 in
theorem e_X0_seeOf_L2 : ∀ (n : Nat) (v0 : Int) (v1 : Int) (v3 : Int) (h : ab_H) (q : Int × ab_H), f_X0_seeOf_L2 n v0 v1 v3 h = some q → ab_E mm_X0_seeOf cX0_seeOf 2 [some (ab_R v0), some (ab_J v1), none, some (ab_I v3)] [] h (some (ab_I q.1)) q.2 := by
  intro n
  induction n with
  | zero => intro v0 v1 v3 h q hk; cases hk
  | succ n ih =>
    intro v0 v1 v3 h q hk
    unfold f_X0_seeOf_L2 at hk
    refine ab_iload_n (pc := 2) (i := 3) dX0_seeOf_2 rfl rfl ?_
    refine ab_aload_n (pc := 3) (i := 0) dX0_seeOf_3 rfl rfl ?_
    obtain ⟨t1, ht1, hk⟩ := ab_bnd hk
    refine ab_getI (pc := 4) dX0_seeOf_4 fl_RX0_47 ht1 ?_
    refine ab_icmp_ge (pc := 7) (tgt := 29) dX0_seeOf_7 rfl (fun hc => ?_) (fun hc => ?_)
    · have hk := ab_ifp hk hc
      refine ab_iconst (pc := 29) dX0_seeOf_29 ab_k_m1 ?_
      obtain rfl := Option.some.inj hk
      exact ab_reti (pc := 30) dX0_seeOf_30 (Or.inl rfl)
    · have hk := ab_ifn hk hc
      refine ab_aload_n (pc := 10) (i := 0) dX0_seeOf_10 rfl rfl ?_
      obtain ⟨t2, ht2, hk⟩ := ab_bnd hk
      refine ab_getR (pc := 11) dX0_seeOf_11 fl_RX0_37 ht2 ?_
      refine ab_iload_n (pc := 14) (i := 3) dX0_seeOf_14 rfl rfl ?_
      obtain ⟨t3, ht3, hk⟩ := ab_bnd hk
      refine ab_lald (pc := 15) dX0_seeOf_15 ht3 ?_
      refine ab_lload_n (pc := 16) (i := 1) dX0_seeOf_16 rfl rfl ?_
      refine ab_lcmp_ (pc := 17) dX0_seeOf_17 ?_
      refine ab_if_ne (pc := 18) (tgt := 23) dX0_seeOf_18 rfl (fun hc => ?_) (fun hc => ?_)
      · have hk := ab_ifn hk hc
        refine ab_iinc (pc := 23) (i := 3) (lv2 := [some (ab_R v0), some (ab_J v1), none, some (ab_I (ab_w32 (v3 + (1 : Int))))]) dX0_seeOf_23 rfl (Nat.le_of_ble_eq_true rfl) rfl rfl ?_
        refine ab_goto (pc := 26) (tgt := 2) dX0_seeOf_26 rfl ?_
        refine ab_sub_ (lv2 := [some (ab_R v0), some (ab_J v1), none, some (ab_I (ab_w32 (v3 + (1 : Int))))]) (ab_ss (ab_ss (ab_sn (ab_ss ab_s0)))) ?_
        exact ih _ _ _ _ _ hk
      · have hk := ab_ifp hk hc
        refine ab_iload_n (pc := 21) (i := 3) dX0_seeOf_21 rfl rfl ?_
        obtain rfl := Option.some.inj hk
        exact ab_reti (pc := 22) dX0_seeOf_22 (Or.inl rfl)
noncomputable def f_X0_seeOf (a0 : Int) (a1 : Int) (h : ab_H) : Option (Int × ab_H) :=
  f_X0_seeOf_L2 ab_FU a0 a1 (0 : Int) h
set_option maxRecDepth 20000 in
theorem ct_X0_seeOf {a0 a1 : Int} {h : ab_H} {q : Int × ab_H} (hk : f_X0_seeOf a0 a1 h = some q) : ab_CT yX0_seeOf cX0_seeOf 4 (some .int) 0 0 [ab_R a0, ab_J a1] h (some (ab_I q.1)) q.2 := by
  refine ab_CT.mk_ 1 (own := RX0) (ini := false) (lv := [some (ab_R a0), some (ab_J a1), none, none]) rfl (by decide +kernel) (fun q => by cases q) rfl rfl ?_
  unfold f_X0_seeOf at hk
  show ab_E mm_X0_seeOf cX0_seeOf 0 _ [] h _ _
  refine ab_iconst (pc := 0) dX0_seeOf_0 ab_k_0 ?_
  refine ab_istore_n (pc := 1) (i := 3) (lv2 := [some (ab_R a0), some (ab_J a1), none, some (ab_I (0 : Int))]) dX0_seeOf_1 rfl (Nat.le_of_ble_eq_true rfl) rfl rfl ?_
  refine ab_sub_ (lv2 := [some (ab_R a0), some (ab_J a1), none, some (ab_I (0 : Int))]) (ab_ss (ab_ss (ab_sn (ab_ss ab_s0)))) ?_
  refine e_X0_seeOf_L2 _ _ _ _ _ _ hk
theorem dX0_used_0 : decode cX0_used 0 = .ok (.lload_n 1, 1) := by decide +kernel
theorem dX0_used_1 : decode cX0_used 1 = .ok (.lstore_n 3, 1) := by decide +kernel
theorem dX0_used_2 : decode cX0_used 2 = .ok (.iconst 0, 1) := by decide +kernel
theorem dX0_used_3 : decode cX0_used 3 = .ok (.istore 5, 2) := by decide +kernel
theorem dX0_used_5 : decode cX0_used 5 = .ok (.iload 5, 2) := by decide +kernel
theorem dX0_used_7 : decode cX0_used 7 = .ok (.bipush 12, 2) := by decide +kernel
theorem dX0_used_9 : decode cX0_used 9 = .ok (.if_icmp .ge 32, 3) := by decide +kernel
theorem dX0_used_12 : decode cX0_used 12 = .ok (.aload_n 0, 1) := by decide +kernel
theorem dX0_used_13 : decode cX0_used 13 = .ok (.lload_n 3, 1) := by decide +kernel
theorem dX0_used_14 : decode cX0_used 14 = .ok (.invokevirtual 64, 3) := by decide +kernel
theorem dX0_used_17 : decode cX0_used 17 = .ok (.istore 6, 2) := by decide +kernel
theorem dX0_used_19 : decode cX0_used 19 = .ok (.iload 6, 2) := by decide +kernel
theorem dX0_used_21 : decode cX0_used 21 = .ok (.iconst (-1), 1) := by decide +kernel
theorem dX0_used_22 : decode cX0_used 22 = .ok (.if_icmp .ne 5, 3) := by decide +kernel
theorem dX0_used_25 : decode cX0_used 25 = .ok (.lload_n 3, 1) := by decide +kernel
theorem dX0_used_26 : decode cX0_used 26 = .ok (.lreturn, 1) := by decide +kernel
theorem dX0_used_27 : decode cX0_used 27 = .ok (.aload_n 0, 1) := by decide +kernel
theorem dX0_used_28 : decode cX0_used 28 = .ok (.getfield 40, 3) := by decide +kernel
theorem dX0_used_31 : decode cX0_used 31 = .ok (.iload 6, 2) := by decide +kernel
theorem dX0_used_33 : decode cX0_used 33 = .ok (.laload, 1) := by decide +kernel
theorem dX0_used_34 : decode cX0_used 34 = .ok (.lstore_n 3, 1) := by decide +kernel
theorem dX0_used_35 : decode cX0_used 35 = .ok (.iinc 5 1, 3) := by decide +kernel
theorem dX0_used_38 : decode cX0_used 38 = .ok (.goto (-33), 3) := by decide +kernel
theorem dX0_used_41 : decode cX0_used 41 = .ok (.lload_n 3, 1) := by decide +kernel
theorem dX0_used_42 : decode cX0_used 42 = .ok (.lreturn, 1) := by decide +kernel
abbrev mm_X0_used : ab_M := (RX0, 7, (some .long), false, 1, 23, none)
noncomputable def f_X0_used_L5 : Nat → Int → Int → Int → ab_H → Option (Int × ab_H)
  | 0, _, _, _, _ => none
  | n + 1, v0, v3, v5, h =>
    if (12 : Int) ≤ v5 then
      some (v3, h)
    else
    (ab_on h 1 v0 (f_X0_seeOf v0 v3 h)).bind fun q1 =>
    if q1.1 = (-1 : Int) then
      some (v3, q1.2)
    else
    (ab_get q1.2 1 11 v0).bind fun t2 =>
    (ab_ald q1.2 12 t2 q1.1).bind fun t3 =>
    f_X0_used_L5 n v0 t3 (ab_w32 (v5 + (1 : Int))) q1.2
set_option maxRecDepth 20000 in
theorem e_X0_used_L5 : ∀ (n : Nat) (v0 : Int) (v3 : Int) (v5 : Int) (h : ab_H) (q : Int × ab_H), f_X0_used_L5 n v0 v3 v5 h = some q → ab_E mm_X0_used cX0_used 5 [some (ab_R v0), none, none, some (ab_J v3), none, some (ab_I v5), none] [] h (some (ab_J q.1)) q.2 := by
  intro n
  induction n with
  | zero => intro v0 v3 v5 h q hk; cases hk
  | succ n ih =>
    intro v0 v3 v5 h q hk
    unfold f_X0_used_L5 at hk
    refine ab_iload (pc := 5) (i := 5) dX0_used_5 rfl ?_
    refine ab_bipush (pc := 7) dX0_used_7 ab_p8_12 ab_k_12 ?_
    refine ab_icmp_ge (pc := 9) (tgt := 41) dX0_used_9 rfl (fun hc => ?_) (fun hc => ?_)
    · have hk := ab_ifp hk hc
      refine ab_lload_n (pc := 41) (i := 3) dX0_used_41 rfl rfl ?_
      obtain rfl := Option.some.inj hk
      exact ab_retl (pc := 42) dX0_used_42 rfl
    · have hk := ab_ifn hk hc
      refine ab_aload_n (pc := 12) (i := 0) dX0_used_12 rfl rfl ?_
      refine ab_lload_n (pc := 13) (i := 3) dX0_used_13 rfl rfl ?_
      obtain ⟨q1, hq1, hk⟩ := ab_bnd hk
      obtain ⟨hb, hq1⟩ := ab_on_some hq1
      refine ab_callVI (st := []) (as := [ab_J v3]) (b := v0) (pc := 14) dX0_used_14 ml_RX0_64 my_X0_seeOf mv_X0_seeOf hb (ct_X0_seeOf hq1) ⟨Nat.le_of_ble_eq_true rfl, Nat.le_of_ble_eq_true rfl⟩ rfl (Nat.le_of_ble_eq_true rfl) rfl ?_
      refine ab_istore (pc := 17) (i := 6) (lv2 := [some (ab_R v0), none, none, some (ab_J v3), none, some (ab_I v5), some (ab_I q1.1)]) dX0_used_17 (Nat.le_of_ble_eq_true rfl) rfl rfl ?_
      refine ab_iload (pc := 19) (i := 6) dX0_used_19 rfl ?_
      refine ab_iconst (pc := 21) dX0_used_21 ab_k_m1 ?_
      refine ab_icmp_ne (pc := 22) (tgt := 27) dX0_used_22 rfl (fun hc => ?_) (fun hc => ?_)
      · have hk := ab_ifn hk hc
        refine ab_aload_n (pc := 27) (i := 0) dX0_used_27 rfl rfl ?_
        obtain ⟨t2, ht2, hk⟩ := ab_bnd hk
        refine ab_getR (pc := 28) dX0_used_28 fl_RX0_40 ht2 ?_
        refine ab_iload (pc := 31) (i := 6) dX0_used_31 rfl ?_
        obtain ⟨t3, ht3, hk⟩ := ab_bnd hk
        refine ab_lald (pc := 33) dX0_used_33 ht3 ?_
        refine ab_lstore_n (pc := 34) (i := 3) (lv2 := [some (ab_R v0), none, none, some (ab_J t3), none, some (ab_I v5), some (ab_I q1.1)]) dX0_used_34 rfl (Nat.le_of_ble_eq_true rfl) rfl rfl ?_
        refine ab_iinc (pc := 35) (i := 5) (lv2 := [some (ab_R v0), none, none, some (ab_J t3), none, some (ab_I (ab_w32 (v5 + (1 : Int)))), some (ab_I q1.1)]) dX0_used_35 rfl (Nat.le_of_ble_eq_true rfl) rfl rfl ?_
        refine ab_goto (pc := 38) (tgt := 5) dX0_used_38 rfl ?_
        refine ab_sub_ (lv2 := [some (ab_R v0), none, none, some (ab_J t3), none, some (ab_I (ab_w32 (v5 + (1 : Int)))), none]) (ab_ss (ab_sn (ab_sn (ab_ss (ab_sn (ab_ss (ab_sn ab_s0))))))) ?_
        exact ih _ _ _ _ _ hk
      · have hk := ab_ifp hk hc
        refine ab_lload_n (pc := 25) (i := 3) dX0_used_25 rfl rfl ?_
        obtain rfl := Option.some.inj hk
        exact ab_retl (pc := 26) dX0_used_26 rfl
noncomputable def f_X0_used (a0 : Int) (a1 : Int) (h : ab_H) : Option (Int × ab_H) :=
  f_X0_used_L5 ab_FU a0 a1 (0 : Int) h
set_option maxRecDepth 20000 in
theorem ct_X0_used {a0 a1 : Int} {h : ab_H} {q : Int × ab_H} (hk : f_X0_used a0 a1 h = some q) : ab_CT yX0_used cX0_used 7 (some .long) 1 23 [ab_R a0, ab_J a1] h (some (ab_J q.1)) q.2 := by
  refine ab_CT.mk_ 4 (own := RX0) (ini := false) (lv := [some (ab_R a0), some (ab_J a1), none, none, none, none, none]) rfl (by decide +kernel) (fun q => by cases q) rfl rfl ?_
  unfold f_X0_used at hk
  show ab_E mm_X0_used cX0_used 0 _ [] h _ _
  refine ab_lload_n (pc := 0) (i := 1) dX0_used_0 rfl rfl ?_
  refine ab_lstore_n (pc := 1) (i := 3) (lv2 := [some (ab_R a0), some (ab_J a1), none, some (ab_J a1), none, none, none]) dX0_used_1 rfl (Nat.le_of_ble_eq_true rfl) rfl rfl ?_
  refine ab_iconst (pc := 2) dX0_used_2 ab_k_0 ?_
  refine ab_istore (pc := 3) (i := 5) (lv2 := [some (ab_R a0), some (ab_J a1), none, some (ab_J a1), none, some (ab_I (0 : Int)), none]) dX0_used_3 (Nat.le_of_ble_eq_true rfl) rfl rfl ?_
  refine ab_sub_ (lv2 := [some (ab_R a0), none, none, some (ab_J a1), none, some (ab_I (0 : Int)), none]) (ab_ss (ab_sn (ab_sn (ab_ss (ab_sn (ab_ss (ab_sn ab_s0))))))) ?_
  refine e_X0_used_L5 _ _ _ _ _ _ hk
theorem dX0_addSee_0 : decode cX0_addSee 0 = .ok (.aload_n 0, 1) := by decide +kernel
theorem dX0_addSee_1 : decode cX0_addSee 1 = .ok (.getfield 47, 3) := by decide +kernel
theorem dX0_addSee_4 : decode cX0_addSee 4 = .ok (.bipush 12, 2) := by decide +kernel
theorem dX0_addSee_6 : decode cX0_addSee 6 = .ok (.if_icmp .lt 4, 3) := by decide +kernel
theorem dX0_addSee_9 : decode cX0_addSee 9 = .ok (.return_, 1) := by decide +kernel
theorem dX0_addSee_10 : decode cX0_addSee 10 = .ok (.aload_n 0, 1) := by decide +kernel
theorem dX0_addSee_11 : decode cX0_addSee 11 = .ok (.getfield 37, 3) := by decide +kernel
theorem dX0_addSee_14 : decode cX0_addSee 14 = .ok (.aload_n 0, 1) := by decide +kernel
theorem dX0_addSee_15 : decode cX0_addSee 15 = .ok (.getfield 47, 3) := by decide +kernel
theorem dX0_addSee_18 : decode cX0_addSee 18 = .ok (.lload_n 1, 1) := by decide +kernel
theorem dX0_addSee_19 : decode cX0_addSee 19 = .ok (.lastore, 1) := by decide +kernel
theorem dX0_addSee_20 : decode cX0_addSee 20 = .ok (.aload_n 0, 1) := by decide +kernel
theorem dX0_addSee_21 : decode cX0_addSee 21 = .ok (.getfield 40, 3) := by decide +kernel
theorem dX0_addSee_24 : decode cX0_addSee 24 = .ok (.aload_n 0, 1) := by decide +kernel
theorem dX0_addSee_25 : decode cX0_addSee 25 = .ok (.getfield 47, 3) := by decide +kernel
theorem dX0_addSee_28 : decode cX0_addSee 28 = .ok (.lload_n 3, 1) := by decide +kernel
theorem dX0_addSee_29 : decode cX0_addSee 29 = .ok (.lastore, 1) := by decide +kernel
theorem dX0_addSee_30 : decode cX0_addSee 30 = .ok (.aload_n 0, 1) := by decide +kernel
theorem dX0_addSee_31 : decode cX0_addSee 31 = .ok (.dup, 1) := by decide +kernel
theorem dX0_addSee_32 : decode cX0_addSee 32 = .ok (.getfield 47, 3) := by decide +kernel
theorem dX0_addSee_35 : decode cX0_addSee 35 = .ok (.iconst 1, 1) := by decide +kernel
theorem dX0_addSee_36 : decode cX0_addSee 36 = .ok (.iadd, 1) := by decide +kernel
theorem dX0_addSee_37 : decode cX0_addSee 37 = .ok (.putfield 47, 3) := by decide +kernel
theorem dX0_addSee_40 : decode cX0_addSee 40 = .ok (.return_, 1) := by decide +kernel
abbrev mm_X0_addSee : ab_M := (RX0, 5, none, false, 0, 0, none)
noncomputable def f_X0_addSee (a0 : Int) (a1 : Int) (a3 : Int) (h : ab_H) : Option ab_H :=
  (ab_get h 1 9 a0).bind fun t1 =>
  if t1 < (12 : Int) then
    (ab_get h 1 10 a0).bind fun t2 =>
    (ab_get h 1 9 a0).bind fun t3 =>
    (ab_ast h 12 t2 t3 a1).bind fun h1 =>
    (ab_get h1 1 11 a0).bind fun t4 =>
    (ab_get h1 1 9 a0).bind fun t5 =>
    (ab_ast h1 12 t4 t5 a3).bind fun h2 =>
    (ab_get h2 1 9 a0).bind fun t6 =>
    (ab_put h2 1 9 a0 (ab_w32 (t6 + (1 : Int)))).bind fun h3 =>
    some h3
  else
  some h
set_option maxRecDepth 20000 in
theorem ct_X0_addSee {a0 a1 a3 : Int} {h : ab_H} {q : ab_H} (hk : f_X0_addSee a0 a1 a3 h = some q) : ab_CT yX0_addSee cX0_addSee 5 none 0 0 [ab_R a0, ab_J a1, ab_J a3] h none q := by
  refine ab_CT.mk_ 0 (own := RX0) (ini := false) (lv := [some (ab_R a0), some (ab_J a1), none, some (ab_J a3), none]) rfl (by decide +kernel) (fun q => by cases q) rfl rfl ?_
  unfold f_X0_addSee at hk
  show ab_E mm_X0_addSee cX0_addSee 0 _ [] h _ _
  refine ab_aload_n (pc := 0) (i := 0) dX0_addSee_0 rfl rfl ?_
  obtain ⟨t1, ht1, hk⟩ := ab_bnd hk
  refine ab_getI (pc := 1) dX0_addSee_1 fl_RX0_47 ht1 ?_
  refine ab_bipush (pc := 4) dX0_addSee_4 ab_p8_12 ab_k_12 ?_
  refine ab_icmp_lt (pc := 6) (tgt := 10) dX0_addSee_6 rfl (fun hc => ?_) (fun hc => ?_)
  · have hk := ab_ifp hk hc
    refine ab_aload_n (pc := 10) (i := 0) dX0_addSee_10 rfl rfl ?_
    obtain ⟨t2, ht2, hk⟩ := ab_bnd hk
    refine ab_getR (pc := 11) dX0_addSee_11 fl_RX0_37 ht2 ?_
    refine ab_aload_n (pc := 14) (i := 0) dX0_addSee_14 rfl rfl ?_
    obtain ⟨t3, ht3, hk⟩ := ab_bnd hk
    refine ab_getI (pc := 15) dX0_addSee_15 fl_RX0_47 ht3 ?_
    refine ab_lload_n (pc := 18) (i := 1) dX0_addSee_18 rfl rfl ?_
    obtain ⟨h1, hh1, hk⟩ := ab_bnd hk
    refine ab_last (pc := 19) dX0_addSee_19 hh1 ?_
    refine ab_aload_n (pc := 20) (i := 0) dX0_addSee_20 rfl rfl ?_
    obtain ⟨t4, ht4, hk⟩ := ab_bnd hk
    refine ab_getR (pc := 21) dX0_addSee_21 fl_RX0_40 ht4 ?_
    refine ab_aload_n (pc := 24) (i := 0) dX0_addSee_24 rfl rfl ?_
    obtain ⟨t5, ht5, hk⟩ := ab_bnd hk
    refine ab_getI (pc := 25) dX0_addSee_25 fl_RX0_47 ht5 ?_
    refine ab_lload_n (pc := 28) (i := 3) dX0_addSee_28 rfl rfl ?_
    obtain ⟨h2, hh2, hk⟩ := ab_bnd hk
    refine ab_last (pc := 29) dX0_addSee_29 hh2 ?_
    refine ab_aload_n (pc := 30) (i := 0) dX0_addSee_30 rfl rfl ?_
    refine ab_dup (pc := 31) dX0_addSee_31 rfl ?_
    obtain ⟨t6, ht6, hk⟩ := ab_bnd hk
    refine ab_getI (pc := 32) dX0_addSee_32 fl_RX0_47 ht6 ?_
    refine ab_iconst (pc := 35) dX0_addSee_35 ab_k_1 ?_
    refine ab_iadd (pc := 36) dX0_addSee_36 ?_
    obtain ⟨h3, hh3, hk⟩ := ab_bnd hk
    refine ab_putI_ (pc := 37) dX0_addSee_37 fl_RX0_47 (fun q => by cases q) hh3 ?_
    obtain rfl := Option.some.inj hk
    exact ab_retv (pc := 40) dX0_addSee_40 rfl
  · have hk := ab_ifn hk hc
    obtain rfl := Option.some.inj hk
    exact ab_retv (pc := 9) dX0_addSee_9 rfl
theorem dX0_dropSee_0 : decode cX0_dropSee 0 = .ok (.iload_n 1, 1) := by decide +kernel
theorem dX0_dropSee_1 : decode cX0_dropSee 1 = .ok (.iconst 1, 1) := by decide +kernel
theorem dX0_dropSee_2 : decode cX0_dropSee 2 = .ok (.iadd, 1) := by decide +kernel
theorem dX0_dropSee_3 : decode cX0_dropSee 3 = .ok (.istore_n 2, 1) := by decide +kernel
theorem dX0_dropSee_4 : decode cX0_dropSee 4 = .ok (.iload_n 2, 1) := by decide +kernel
theorem dX0_dropSee_5 : decode cX0_dropSee 5 = .ok (.aload_n 0, 1) := by decide +kernel
theorem dX0_dropSee_6 : decode cX0_dropSee 6 = .ok (.getfield 47, 3) := by decide +kernel
theorem dX0_dropSee_9 : decode cX0_dropSee 9 = .ok (.if_icmp .ge 37, 3) := by decide +kernel
theorem dX0_dropSee_12 : decode cX0_dropSee 12 = .ok (.aload_n 0, 1) := by decide +kernel
theorem dX0_dropSee_13 : decode cX0_dropSee 13 = .ok (.getfield 37, 3) := by decide +kernel
theorem dX0_dropSee_16 : decode cX0_dropSee 16 = .ok (.iload_n 2, 1) := by decide +kernel
theorem dX0_dropSee_17 : decode cX0_dropSee 17 = .ok (.iconst 1, 1) := by decide +kernel
theorem dX0_dropSee_18 : decode cX0_dropSee 18 = .ok (.isub, 1) := by decide +kernel
theorem dX0_dropSee_19 : decode cX0_dropSee 19 = .ok (.aload_n 0, 1) := by decide +kernel
theorem dX0_dropSee_20 : decode cX0_dropSee 20 = .ok (.getfield 37, 3) := by decide +kernel
theorem dX0_dropSee_23 : decode cX0_dropSee 23 = .ok (.iload_n 2, 1) := by decide +kernel
theorem dX0_dropSee_24 : decode cX0_dropSee 24 = .ok (.laload, 1) := by decide +kernel
theorem dX0_dropSee_25 : decode cX0_dropSee 25 = .ok (.lastore, 1) := by decide +kernel
theorem dX0_dropSee_26 : decode cX0_dropSee 26 = .ok (.aload_n 0, 1) := by decide +kernel
theorem dX0_dropSee_27 : decode cX0_dropSee 27 = .ok (.getfield 40, 3) := by decide +kernel
theorem dX0_dropSee_30 : decode cX0_dropSee 30 = .ok (.iload_n 2, 1) := by decide +kernel
theorem dX0_dropSee_31 : decode cX0_dropSee 31 = .ok (.iconst 1, 1) := by decide +kernel
theorem dX0_dropSee_32 : decode cX0_dropSee 32 = .ok (.isub, 1) := by decide +kernel
theorem dX0_dropSee_33 : decode cX0_dropSee 33 = .ok (.aload_n 0, 1) := by decide +kernel
theorem dX0_dropSee_34 : decode cX0_dropSee 34 = .ok (.getfield 40, 3) := by decide +kernel
theorem dX0_dropSee_37 : decode cX0_dropSee 37 = .ok (.iload_n 2, 1) := by decide +kernel
theorem dX0_dropSee_38 : decode cX0_dropSee 38 = .ok (.laload, 1) := by decide +kernel
theorem dX0_dropSee_39 : decode cX0_dropSee 39 = .ok (.lastore, 1) := by decide +kernel
theorem dX0_dropSee_40 : decode cX0_dropSee 40 = .ok (.iinc 2 1, 3) := by decide +kernel
theorem dX0_dropSee_43 : decode cX0_dropSee 43 = .ok (.goto (-39), 3) := by decide +kernel
theorem dX0_dropSee_46 : decode cX0_dropSee 46 = .ok (.aload_n 0, 1) := by decide +kernel
theorem dX0_dropSee_47 : decode cX0_dropSee 47 = .ok (.dup, 1) := by decide +kernel
theorem dX0_dropSee_48 : decode cX0_dropSee 48 = .ok (.getfield 47, 3) := by decide +kernel
theorem dX0_dropSee_51 : decode cX0_dropSee 51 = .ok (.iconst 1, 1) := by decide +kernel
theorem dX0_dropSee_52 : decode cX0_dropSee 52 = .ok (.isub, 1) := by decide +kernel
theorem dX0_dropSee_53 : decode cX0_dropSee 53 = .ok (.putfield 47, 3) := by decide +kernel
theorem dX0_dropSee_56 : decode cX0_dropSee 56 = .ok (.return_, 1) := by decide +kernel
abbrev mm_X0_dropSee : ab_M := (RX0, 3, none, false, 0, 0, none)
noncomputable def f_X0_dropSee_L4 (k46 : Int → ab_H → Option ab_H) : Nat → Int → Int → ab_H → Option ab_H
  | 0, _, _, _ => none
  | n + 1, v0, v2, h =>
    (ab_get h 1 9 v0).bind fun t1 =>
    if t1 ≤ v2 then
      k46 v0 h
    else
    (ab_get h 1 10 v0).bind fun t2 =>
    (ab_get h 1 10 v0).bind fun t3 =>
    (ab_ald h 12 t3 v2).bind fun t4 =>
    (ab_ast h 12 t2 (ab_w32 (v2 - (1 : Int))) t4).bind fun h1 =>
    (ab_get h1 1 11 v0).bind fun t5 =>
    (ab_get h1 1 11 v0).bind fun t6 =>
    (ab_ald h1 12 t6 v2).bind fun t7 =>
    (ab_ast h1 12 t5 (ab_w32 (v2 - (1 : Int))) t7).bind fun h2 =>
    f_X0_dropSee_L4 k46 n v0 (ab_w32 (v2 + (1 : Int))) h2
set_option maxRecDepth 20000 in
theorem e_X0_dropSee_L4 {k46 : Int → ab_H → Option ab_H} (hk46 : ∀ (v0 : Int) (h : ab_H) (q : ab_H), k46 v0 h = some q → ab_E mm_X0_dropSee cX0_dropSee 46 [some (ab_R v0), none, none] [] h none q) : ∀ (n : Nat) (v0 : Int) (v2 : Int) (h : ab_H) (q : ab_H), f_X0_dropSee_L4 k46 n v0 v2 h = some q → ab_E mm_X0_dropSee cX0_dropSee 4 [some (ab_R v0), none, some (ab_I v2)] [] h none q := by
  intro n
  induction n with
  | zero => intro v0 v2 h q hk; cases hk
  | succ n ih =>
    intro v0 v2 h q hk
    unfold f_X0_dropSee_L4 at hk
    refine ab_iload_n (pc := 4) (i := 2) dX0_dropSee_4 rfl rfl ?_
    refine ab_aload_n (pc := 5) (i := 0) dX0_dropSee_5 rfl rfl ?_
    obtain ⟨t1, ht1, hk⟩ := ab_bnd hk
    refine ab_getI (pc := 6) dX0_dropSee_6 fl_RX0_47 ht1 ?_
    refine ab_icmp_ge (pc := 9) (tgt := 46) dX0_dropSee_9 rfl (fun hc => ?_) (fun hc => ?_)
    · have hk := ab_ifp hk hc
      refine ab_sub_ (lv2 := [some (ab_R v0), none, none]) (ab_ss (ab_sn (ab_sn ab_s0))) ?_
      exact hk46 _ _ _ hk
    · have hk := ab_ifn hk hc
      refine ab_aload_n (pc := 12) (i := 0) dX0_dropSee_12 rfl rfl ?_
      obtain ⟨t2, ht2, hk⟩ := ab_bnd hk
      refine ab_getR (pc := 13) dX0_dropSee_13 fl_RX0_37 ht2 ?_
      refine ab_iload_n (pc := 16) (i := 2) dX0_dropSee_16 rfl rfl ?_
      refine ab_iconst (pc := 17) dX0_dropSee_17 ab_k_1 ?_
      refine ab_isub (pc := 18) dX0_dropSee_18 ?_
      refine ab_aload_n (pc := 19) (i := 0) dX0_dropSee_19 rfl rfl ?_
      obtain ⟨t3, ht3, hk⟩ := ab_bnd hk
      refine ab_getR (pc := 20) dX0_dropSee_20 fl_RX0_37 ht3 ?_
      refine ab_iload_n (pc := 23) (i := 2) dX0_dropSee_23 rfl rfl ?_
      obtain ⟨t4, ht4, hk⟩ := ab_bnd hk
      refine ab_lald (pc := 24) dX0_dropSee_24 ht4 ?_
      obtain ⟨h1, hh1, hk⟩ := ab_bnd hk
      refine ab_last (pc := 25) dX0_dropSee_25 hh1 ?_
      refine ab_aload_n (pc := 26) (i := 0) dX0_dropSee_26 rfl rfl ?_
      obtain ⟨t5, ht5, hk⟩ := ab_bnd hk
      refine ab_getR (pc := 27) dX0_dropSee_27 fl_RX0_40 ht5 ?_
      refine ab_iload_n (pc := 30) (i := 2) dX0_dropSee_30 rfl rfl ?_
      refine ab_iconst (pc := 31) dX0_dropSee_31 ab_k_1 ?_
      refine ab_isub (pc := 32) dX0_dropSee_32 ?_
      refine ab_aload_n (pc := 33) (i := 0) dX0_dropSee_33 rfl rfl ?_
      obtain ⟨t6, ht6, hk⟩ := ab_bnd hk
      refine ab_getR (pc := 34) dX0_dropSee_34 fl_RX0_40 ht6 ?_
      refine ab_iload_n (pc := 37) (i := 2) dX0_dropSee_37 rfl rfl ?_
      obtain ⟨t7, ht7, hk⟩ := ab_bnd hk
      refine ab_lald (pc := 38) dX0_dropSee_38 ht7 ?_
      obtain ⟨h2, hh2, hk⟩ := ab_bnd hk
      refine ab_last (pc := 39) dX0_dropSee_39 hh2 ?_
      refine ab_iinc (pc := 40) (i := 2) (lv2 := [some (ab_R v0), none, some (ab_I (ab_w32 (v2 + (1 : Int))))]) dX0_dropSee_40 rfl (Nat.le_of_ble_eq_true rfl) rfl rfl ?_
      refine ab_goto (pc := 43) (tgt := 4) dX0_dropSee_43 rfl ?_
      refine ab_sub_ (lv2 := [some (ab_R v0), none, some (ab_I (ab_w32 (v2 + (1 : Int))))]) (ab_ss (ab_sn (ab_ss ab_s0))) ?_
      exact ih _ _ _ _ hk
noncomputable def f_X0_dropSee (a0 : Int) (a1 : Int) (h : ab_H) : Option ab_H :=
  f_X0_dropSee_L4 (fun w46_0 hx46 =>
    (ab_get hx46 1 9 w46_0).bind fun t1 =>
    (ab_put hx46 1 9 w46_0 (ab_w32 (t1 - (1 : Int)))).bind fun h1 =>
    some h1) ab_FU a0 (ab_w32 (a1 + (1 : Int))) h
set_option maxRecDepth 20000 in
theorem ct_X0_dropSee {a0 a1 : Int} {h : ab_H} {q : ab_H} (hk : f_X0_dropSee a0 a1 h = some q) : ab_CT yX0_dropSee cX0_dropSee 3 none 0 0 [ab_R a0, ab_I a1] h none q := by
  refine ab_CT.mk_ 1 (own := RX0) (ini := false) (lv := [some (ab_R a0), some (ab_I a1), none]) rfl (by decide +kernel) (fun q => by cases q) rfl rfl ?_
  unfold f_X0_dropSee at hk
  show ab_E mm_X0_dropSee cX0_dropSee 0 _ [] h _ _
  refine ab_iload_n (pc := 0) (i := 1) dX0_dropSee_0 rfl rfl ?_
  refine ab_iconst (pc := 1) dX0_dropSee_1 ab_k_1 ?_
  refine ab_iadd (pc := 2) dX0_dropSee_2 ?_
  refine ab_istore_n (pc := 3) (i := 2) (lv2 := [some (ab_R a0), some (ab_I a1), some (ab_I (ab_w32 (a1 + (1 : Int))))]) dX0_dropSee_3 rfl (Nat.le_of_ble_eq_true rfl) rfl rfl ?_
  refine ab_sub_ (lv2 := [some (ab_R a0), none, some (ab_I (ab_w32 (a1 + (1 : Int))))]) (ab_ss (ab_sn (ab_ss ab_s0))) ?_
  refine e_X0_dropSee_L4 (fun w46_0 hx46 q hk => ?_) _ _ _ _ _ hk
  · skip
    refine ab_aload_n (pc := 46) (i := 0) dX0_dropSee_46 rfl rfl ?_
    refine ab_dup (pc := 47) dX0_dropSee_47 rfl ?_
    obtain ⟨t1, ht1, hk⟩ := ab_bnd hk
    refine ab_getI (pc := 48) dX0_dropSee_48 fl_RX0_47 ht1 ?_
    refine ab_iconst (pc := 51) dX0_dropSee_51 ab_k_1 ?_
    refine ab_isub (pc := 52) dX0_dropSee_52 ?_
    obtain ⟨h1, hh1, hk⟩ := ab_bnd hk
    refine ab_putI_ (pc := 53) dX0_dropSee_53 fl_RX0_47 (fun q => by cases q) hh1 ?_
    obtain rfl := Option.some.inj hk
    exact ab_retv (pc := 56) dX0_dropSee_56 rfl
