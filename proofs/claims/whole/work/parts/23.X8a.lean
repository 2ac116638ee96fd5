theorem dX8_init_0 : decode cX8_init 0 = .ok (.aload_n 0, 1) := by decide +kernel
theorem dX8_init_1 : decode cX8_init 1 = .ok (.invokespecial 3, 3) := by decide +kernel
theorem dX8_init_4 : decode cX8_init 4 = .ok (.aload_n 0, 1) := by decide +kernel
theorem dX8_init_5 : decode cX8_init 5 = .ok (.new 9, 3) := by decide +kernel
theorem dX8_init_8 : decode cX8_init 8 = .ok (.dup, 1) := by decide +kernel
theorem dX8_init_9 : decode cX8_init 9 = .ok (.sipush 1200, 3) := by decide +kernel
theorem dX8_init_12 : decode cX8_init 12 = .ok (.invokespecial 11, 3) := by decide +kernel
theorem dX8_init_15 : decode cX8_init 15 = .ok (.putfield 14, 3) := by decide +kernel
theorem dX8_init_18 : decode cX8_init 18 = .ok (.aload_n 0, 1) := by decide +kernel
theorem dX8_init_19 : decode cX8_init 19 = .ok (.new 9, 3) := by decide +kernel
theorem dX8_init_22 : decode cX8_init 22 = .ok (.dup, 1) := by decide +kernel
theorem dX8_init_23 : decode cX8_init 23 = .ok (.sipush 2000, 3) := by decide +kernel
theorem dX8_init_26 : decode cX8_init 26 = .ok (.invokespecial 11, 3) := by decide +kernel
theorem dX8_init_29 : decode cX8_init 29 = .ok (.putfield 18, 3) := by decide +kernel
theorem dX8_init_32 : decode cX8_init 32 = .ok (.aload_n 0, 1) := by decide +kernel
theorem dX8_init_33 : decode cX8_init 33 = .ok (.new 9, 3) := by decide +kernel
theorem dX8_init_36 : decode cX8_init 36 = .ok (.dup, 1) := by decide +kernel
theorem dX8_init_37 : decode cX8_init 37 = .ok (.sipush 160, 3) := by decide +kernel
theorem dX8_init_40 : decode cX8_init 40 = .ok (.invokespecial 11, 3) := by decide +kernel
theorem dX8_init_43 : decode cX8_init 43 = .ok (.putfield 21, 3) := by decide +kernel
theorem dX8_init_46 : decode cX8_init 46 = .ok (.aload_n 0, 1) := by decide +kernel
theorem dX8_init_47 : decode cX8_init 47 = .ok (.new 24, 3) := by decide +kernel
theorem dX8_init_50 : decode cX8_init 50 = .ok (.dup, 1) := by decide +kernel
theorem dX8_init_51 : decode cX8_init 51 = .ok (.invokespecial 26, 3) := by decide +kernel
theorem dX8_init_54 : decode cX8_init 54 = .ok (.putfield 27, 3) := by decide +kernel
theorem dX8_init_57 : decode cX8_init 57 = .ok (.aload_n 0, 1) := by decide +kernel
theorem dX8_init_58 : decode cX8_init 58 = .ok (.new 31, 3) := by decide +kernel
theorem dX8_init_61 : decode cX8_init 61 = .ok (.dup, 1) := by decide +kernel
theorem dX8_init_62 : decode cX8_init 62 = .ok (.invokespecial 33, 3) := by decide +kernel
theorem dX8_init_65 : decode cX8_init 65 = .ok (.putfield 34, 3) := by decide +kernel
theorem dX8_init_68 : decode cX8_init 68 = .ok (.aload_n 0, 1) := by decide +kernel
theorem dX8_init_69 : decode cX8_init 69 = .ok (.new 31, 3) := by decide +kernel
theorem dX8_init_72 : decode cX8_init 72 = .ok (.dup, 1) := by decide +kernel
theorem dX8_init_73 : decode cX8_init 73 = .ok (.invokespecial 33, 3) := by decide +kernel
theorem dX8_init_76 : decode cX8_init 76 = .ok (.putfield 38, 3) := by decide +kernel
theorem dX8_init_79 : decode cX8_init 79 = .ok (.aload_n 0, 1) := by decide +kernel
theorem dX8_init_80 : decode cX8_init 80 = .ok (.new 41, 3) := by decide +kernel
theorem dX8_init_83 : decode cX8_init 83 = .ok (.dup, 1) := by decide +kernel
theorem dX8_init_84 : decode cX8_init 84 = .ok (.invokespecial 43, 3) := by decide +kernel
theorem dX8_init_87 : decode cX8_init 87 = .ok (.putfield 44, 3) := by decide +kernel
theorem dX8_init_90 : decode cX8_init 90 = .ok (.aload_n 0, 1) := by decide +kernel
theorem dX8_init_91 : decode cX8_init 91 = .ok (.new 48, 3) := by decide +kernel
theorem dX8_init_94 : decode cX8_init 94 = .ok (.dup, 1) := by decide +kernel
theorem dX8_init_95 : decode cX8_init 95 = .ok (.invokespecial 50, 3) := by decide +kernel
theorem dX8_init_98 : decode cX8_init 98 = .ok (.putfield 51, 3) := by decide +kernel
theorem dX8_init_101 : decode cX8_init 101 = .ok (.aload_n 0, 1) := by decide +kernel
theorem dX8_init_102 : decode cX8_init 102 = .ok (.new 55, 3) := by decide +kernel
theorem dX8_init_105 : decode cX8_init 105 = .ok (.dup, 1) := by decide +kernel
theorem dX8_init_106 : decode cX8_init 106 = .ok (.invokespecial 57, 3) := by decide +kernel
theorem dX8_init_109 : decode cX8_init 109 = .ok (.putfield 58, 3) := by decide +kernel
theorem dX8_init_112 : decode cX8_init 112 = .ok (.aload_n 0, 1) := by decide +kernel
theorem dX8_init_113 : decode cX8_init 113 = .ok (.new 62, 3) := by decide +kernel
theorem dX8_init_116 : decode cX8_init 116 = .ok (.dup, 1) := by decide +kernel
theorem dX8_init_117 : decode cX8_init 117 = .ok (.invokespecial 64, 3) := by decide +kernel
theorem dX8_init_120 : decode cX8_init 120 = .ok (.putfield 65, 3) := by decide +kernel
theorem dX8_init_123 : decode cX8_init 123 = .ok (.aload_n 0, 1) := by decide +kernel
theorem dX8_init_124 : decode cX8_init 124 = .ok (.new 62, 3) := by decide +kernel
theorem dX8_init_127 : decode cX8_init 127 = .ok (.dup, 1) := by decide +kernel
theorem dX8_init_128 : decode cX8_init 128 = .ok (.invokespecial 64, 3) := by decide +kernel
theorem dX8_init_131 : decode cX8_init 131 = .ok (.putfield 69, 3) := by decide +kernel
theorem dX8_init_134 : decode cX8_init 134 = .ok (.return_, 1) := by decide +kernel
abbrev mm_X8_init : ab_M := (RX8, 1, none, true, 6, 174, none)
noncomputable def f_X8_init (a0 : Int) (h : ab_H) : Option ab_H :=
  ab_if (decide (0 < a0)) <|
  (ab_mkO h 1).bind fun h1 =>
  (ab_if (decide (0 < ab_nx h)) (f_X1_init (ab_nx h) (1200 : Int) h1)).bind fun q1 =>
  (ab_putR q1 9 0 a0 (ab_nx h)).bind fun h2 =>
  (ab_mkO h2 1).bind fun h3 =>
  (ab_if (decide (0 < ab_nx h2)) (f_X1_init (ab_nx h2) (2000 : Int) h3)).bind fun q2 =>
  (ab_putR q2 9 1 a0 (ab_nx h2)).bind fun h4 =>
  (ab_mkO h4 1).bind fun h5 =>
  (ab_if (decide (0 < ab_nx h4)) (f_X1_init (ab_nx h4) (160 : Int) h5)).bind fun q3 =>
  (ab_putR q3 9 2 a0 (ab_nx h4)).bind fun h6 =>
  (ab_mkO h6 4).bind fun h7 =>
  (ab_if (decide (0 < ab_nx h6)) (f_X4_init (ab_nx h6) h7)).bind fun q4 =>
  (ab_putR q4 9 3 a0 (ab_nx h6)).bind fun h8 =>
  (ab_mkO h8 0).bind fun h9 =>
  (ab_if (decide (0 < ab_nx h8)) (f_X0_init (ab_nx h8) h9)).bind fun q5 =>
  (ab_putR q5 9 4 a0 (ab_nx h8)).bind fun h10 =>
  (ab_mkO h10 0).bind fun h11 =>
  (ab_if (decide (0 < ab_nx h10)) (f_X0_init (ab_nx h10) h11)).bind fun q6 =>
  (ab_putR q6 9 5 a0 (ab_nx h10)).bind fun h12 =>
  (ab_mkO h12 3).bind fun h13 =>
  (ab_if (decide (0 < ab_nx h12)) (f_X3_init (ab_nx h12) h13)).bind fun q7 =>
  (ab_putR q7 9 6 a0 (ab_nx h12)).bind fun h14 =>
  (ab_mkO h14 7).bind fun h15 =>
  (ab_if (decide (0 < ab_nx h14)) (f_X7_init (ab_nx h14) h15)).bind fun q8 =>
  (ab_putR q8 9 7 a0 (ab_nx h14)).bind fun h16 =>
  (ab_mkO h16 5).bind fun h17 =>
  (ab_if (decide (0 < ab_nx h16)) (f_X5_init (ab_nx h16) h17)).bind fun q9 =>
  (ab_putR q9 9 8 a0 (ab_nx h16)).bind fun h18 =>
  (ab_mkO h18 6).bind fun h19 =>
  (ab_if (decide (0 < ab_nx h18)) (f_X6_init (ab_nx h18) h19)).bind fun q10 =>
  (ab_putR q10 9 9 a0 (ab_nx h18)).bind fun h20 =>
  (ab_mkO h20 6).bind fun h21 =>
  (ab_if (decide (0 < ab_nx h20)) (f_X6_init (ab_nx h20) h21)).bind fun q11 =>
  (ab_putR q11 9 10 a0 (ab_nx h20)).bind fun h22 =>
  some h22
set_option maxRecDepth 20000 in
theorem ct_X8_init {a0 : Int} {h : ab_H} {q : ab_H} (hk : f_X8_init a0 h = some q) : ab_CT yX8_init cX8_init 1 none 6 174 [ab_R a0] h none q := by
  refine ab_CT.mk_ 0 (own := RX8) (ini := true) (lv := [some (ab_R a0)]) rfl (by decide +kernel) (fun _ => rfl) rfl rfl ?_
  unfold f_X8_init at hk
  show ab_E mm_X8_init cX8_init 0 _ [] h _ _
  refine ab_aload_n (pc := 0) (i := 0) dX8_init_0 rfl rfl ?_
  obtain ⟨hg, hk⟩ := ab_if_some hk
  refine ab_obj0_ (pc := 1) dX8_init_1 ob_RX8_3 hg (Nat.le_of_ble_eq_true rfl) (Nat.le_of_ble_eq_true rfl) (Nat.le_of_ble_eq_true rfl) ?_
  refine ab_aload_n (pc := 4) (i := 0) dX8_init_4 rfl rfl ?_
  obtain ⟨h1, hh1, hk⟩ := ab_bnd hk
  refine ab_newO (pc := 5) dX8_init_5 nw_RX8_9 hh1 ?_
  refine ab_dup (pc := 8) dX8_init_8 rfl ?_
  refine ab_sipush (pc := 9) dX8_init_9 ab_p16_1200 ab_k_1200 ?_
  obtain ⟨q1, hq1, hk⟩ := ab_bnd hk
  obtain ⟨hb, hq1⟩ := ab_if_some hq1
  refine ab_callI_ (st := [ab_R (ab_nx h), ab_R a0]) (as := [ab_I (1200 : Int)]) (b := ab_nx h) (pc := 12) dX8_init_12 ml_RX8_11 my_X1_init mi_X1_init hb (ct_X1_init hq1) ⟨Nat.le_of_ble_eq_true rfl, Nat.le_of_ble_eq_true rfl⟩ rfl (Nat.le_of_ble_eq_true rfl) rfl ?_
  obtain ⟨h2, hh2, hk⟩ := ab_bnd hk
  refine ab_putR_ (pc := 15) dX8_init_15 fl_RX8_14 (fun _ => ⟨rfl, rfl⟩) hh2 ?_
  refine ab_aload_n (pc := 18) (i := 0) dX8_init_18 rfl rfl ?_
  obtain ⟨h3, hh3, hk⟩ := ab_bnd hk
  refine ab_newO (pc := 19) dX8_init_19 nw_RX8_9 hh3 ?_
  refine ab_dup (pc := 22) dX8_init_22 rfl ?_
  refine ab_sipush (pc := 23) dX8_init_23 ab_p16_2000 ab_k_2000 ?_
  obtain ⟨q2, hq2, hk⟩ := ab_bnd hk
  obtain ⟨hb, hq2⟩ := ab_if_some hq2
  refine ab_callI_ (st := [ab_R (ab_nx h2), ab_R a0]) (as := [ab_I (2000 : Int)]) (b := ab_nx h2) (pc := 26) dX8_init_26 ml_RX8_11 my_X1_init mi_X1_init hb (ct_X1_init hq2) ⟨Nat.le_of_ble_eq_true rfl, Nat.le_of_ble_eq_true rfl⟩ rfl (Nat.le_of_ble_eq_true rfl) rfl ?_
  obtain ⟨h4, hh4, hk⟩ := ab_bnd hk
  refine ab_putR_ (pc := 29) dX8_init_29 fl_RX8_18 (fun _ => ⟨rfl, rfl⟩) hh4 ?_
  refine ab_aload_n (pc := 32) (i := 0) dX8_init_32 rfl rfl ?_
  obtain ⟨h5, hh5, hk⟩ := ab_bnd hk
  refine ab_newO (pc := 33) dX8_init_33 nw_RX8_9 hh5 ?_
  refine ab_dup (pc := 36) dX8_init_36 rfl ?_
  refine ab_sipush (pc := 37) dX8_init_37 ab_p16_160 ab_k_160 ?_
  obtain ⟨q3, hq3, hk⟩ := ab_bnd hk
  obtain ⟨hb, hq3⟩ := ab_if_some hq3
  refine ab_callI_ (st := [ab_R (ab_nx h4), ab_R a0]) (as := [ab_I (160 : Int)]) (b := ab_nx h4) (pc := 40) dX8_init_40 ml_RX8_11 my_X1_init mi_X1_init hb (ct_X1_init hq3) ⟨Nat.le_of_ble_eq_true rfl, Nat.le_of_ble_eq_true rfl⟩ rfl (Nat.le_of_ble_eq_true rfl) rfl ?_
  obtain ⟨h6, hh6, hk⟩ := ab_bnd hk
  refine ab_putR_ (pc := 43) dX8_init_43 fl_RX8_21 (fun _ => ⟨rfl, rfl⟩) hh6 ?_
  refine ab_aload_n (pc := 46) (i := 0) dX8_init_46 rfl rfl ?_
  obtain ⟨h7, hh7, hk⟩ := ab_bnd hk
  refine ab_newO (pc := 47) dX8_init_47 nw_RX8_24 hh7 ?_
  refine ab_dup (pc := 50) dX8_init_50 rfl ?_
  obtain ⟨q4, hq4, hk⟩ := ab_bnd hk
  obtain ⟨hb, hq4⟩ := ab_if_some hq4
  refine ab_callI_ (st := [ab_R (ab_nx h6), ab_R a0]) (as := []) (b := ab_nx h6) (pc := 51) dX8_init_51 ml_RX8_26 my_X4_init mi_X4_init hb (ct_X4_init hq4) ⟨Nat.le_of_ble_eq_true rfl, Nat.le_of_ble_eq_true rfl⟩ rfl (Nat.le_of_ble_eq_true rfl) rfl ?_
  obtain ⟨h8, hh8, hk⟩ := ab_bnd hk
  refine ab_putR_ (pc := 54) dX8_init_54 fl_RX8_27 (fun _ => ⟨rfl, rfl⟩) hh8 ?_
  refine ab_aload_n (pc := 57) (i := 0) dX8_init_57 rfl rfl ?_
  obtain ⟨h9, hh9, hk⟩ := ab_bnd hk
  refine ab_newO (pc := 58) dX8_init_58 nw_RX8_31 hh9 ?_
  refine ab_dup (pc := 61) dX8_init_61 rfl ?_
  obtain ⟨q5, hq5, hk⟩ := ab_bnd hk
  obtain ⟨hb, hq5⟩ := ab_if_some hq5
  refine ab_callI_ (st := [ab_R (ab_nx h8), ab_R a0]) (as := []) (b := ab_nx h8) (pc := 62) dX8_init_62 ml_RX8_33 my_X0_init mi_X0_init hb (ct_X0_init hq5) ⟨Nat.le_of_ble_eq_true rfl, Nat.le_of_ble_eq_true rfl⟩ rfl (Nat.le_of_ble_eq_true rfl) rfl ?_
  obtain ⟨h10, hh10, hk⟩ := ab_bnd hk
  refine ab_putR_ (pc := 65) dX8_init_65 fl_RX8_34 (fun _ => ⟨rfl, rfl⟩) hh10 ?_
  refine ab_aload_n (pc := 68) (i := 0) dX8_init_68 rfl rfl ?_
  obtain ⟨h11, hh11, hk⟩ := ab_bnd hk
  refine ab_newO (pc := 69) dX8_init_69 nw_RX8_31 hh11 ?_
  refine ab_dup (pc := 72) dX8_init_72 rfl ?_
  obtain ⟨q6, hq6, hk⟩ := ab_bnd hk
  obtain ⟨hb, hq6⟩ := ab_if_some hq6
  refine ab_callI_ (st := [ab_R (ab_nx h10), ab_R a0]) (as := []) (b := ab_nx h10) (pc := 73) dX8_init_73 ml_RX8_33 my_X0_init mi_X0_init hb (ct_X0_init hq6) ⟨Nat.le_of_ble_eq_true rfl, Nat.le_of_ble_eq_true rfl⟩ rfl (Nat.le_of_ble_eq_true rfl) rfl ?_
  obtain ⟨h12, hh12, hk⟩ := ab_bnd hk
  refine ab_putR_ (pc := 76) dX8_init_76 fl_RX8_38 (fun _ => ⟨rfl, rfl⟩) hh12 ?_
  refine ab_aload_n (pc := 79) (i := 0) dX8_init_79 rfl rfl ?_
  obtain ⟨h13, hh13, hk⟩ := ab_bnd hk
  refine ab_newO (pc := 80) dX8_init_80 nw_RX8_41 hh13 ?_
  refine ab_dup (pc := 83) dX8_init_83 rfl ?_
  obtain ⟨q7, hq7, hk⟩ := ab_bnd hk
  obtain ⟨hb, hq7⟩ := ab_if_some hq7
  refine ab_callI_ (st := [ab_R (ab_nx h12), ab_R a0]) (as := []) (b := ab_nx h12) (pc := 84) dX8_init_84 ml_RX8_43 my_X3_init mi_X3_init hb (ct_X3_init hq7) ⟨Nat.le_of_ble_eq_true rfl, Nat.le_of_ble_eq_true rfl⟩ rfl (Nat.le_of_ble_eq_true rfl) rfl ?_
  obtain ⟨h14, hh14, hk⟩ := ab_bnd hk
  refine ab_putR_ (pc := 87) dX8_init_87 fl_RX8_44 (fun _ => ⟨rfl, rfl⟩) hh14 ?_
  refine ab_aload_n (pc := 90) (i := 0) dX8_init_90 rfl rfl ?_
  obtain ⟨h15, hh15, hk⟩ := ab_bnd hk
  refine ab_newO (pc := 91) dX8_init_91 nw_RX8_48 hh15 ?_
  refine ab_dup (pc := 94) dX8_init_94 rfl ?_
  obtain ⟨q8, hq8, hk⟩ := ab_bnd hk
  obtain ⟨hb, hq8⟩ := ab_if_some hq8
  refine ab_callI_ (st := [ab_R (ab_nx h14), ab_R a0]) (as := []) (b := ab_nx h14) (pc := 95) dX8_init_95 ml_RX8_50 my_X7_init mi_X7_init hb (ct_X7_init hq8) ⟨Nat.le_of_ble_eq_true rfl, Nat.le_of_ble_eq_true rfl⟩ rfl (Nat.le_of_ble_eq_true rfl) rfl ?_
  obtain ⟨h16, hh16, hk⟩ := ab_bnd hk
  refine ab_putR_ (pc := 98) dX8_init_98 fl_RX8_51 (fun _ => ⟨rfl, rfl⟩) hh16 ?_
  refine ab_aload_n (pc := 101) (i := 0) dX8_init_101 rfl rfl ?_
  obtain ⟨h17, hh17, hk⟩ := ab_bnd hk
  refine ab_newO (pc := 102) dX8_init_102 nw_RX8_55 hh17 ?_
  refine ab_dup (pc := 105) dX8_init_105 rfl ?_
  obtain ⟨q9, hq9, hk⟩ := ab_bnd hk
  obtain ⟨hb, hq9⟩ := ab_if_some hq9
  refine ab_callI_ (st := [ab_R (ab_nx h16), ab_R a0]) (as := []) (b := ab_nx h16) (pc := 106) dX8_init_106 ml_RX8_57 my_X5_init mi_X5_init hb (ct_X5_init hq9) ⟨Nat.le_of_ble_eq_true rfl, Nat.le_of_ble_eq_true rfl⟩ rfl (Nat.le_of_ble_eq_true rfl) rfl ?_
  obtain ⟨h18, hh18, hk⟩ := ab_bnd hk
  refine ab_putR_ (pc := 109) dX8_init_109 fl_RX8_58 (fun _ => ⟨rfl, rfl⟩) hh18 ?_
  refine ab_aload_n (pc := 112) (i := 0) dX8_init_112 rfl rfl ?_
  obtain ⟨h19, hh19, hk⟩ := ab_bnd hk
  refine ab_newO (pc := 113) dX8_init_113 nw_RX8_62 hh19 ?_
  refine ab_dup (pc := 116) dX8_init_116 rfl ?_
  obtain ⟨q10, hq10, hk⟩ := ab_bnd hk
  obtain ⟨hb, hq10⟩ := ab_if_some hq10
  refine ab_callI_ (st := [ab_R (ab_nx h18), ab_R a0]) (as := []) (b := ab_nx h18) (pc := 117) dX8_init_117 ml_RX8_64 my_X6_init mi_X6_init hb (ct_X6_init hq10) ⟨Nat.le_of_ble_eq_true rfl, Nat.le_of_ble_eq_true rfl⟩ rfl (Nat.le_of_ble_eq_true rfl) rfl ?_
  obtain ⟨h20, hh20, hk⟩ := ab_bnd hk
  refine ab_putR_ (pc := 120) dX8_init_120 fl_RX8_65 (fun _ => ⟨rfl, rfl⟩) hh20 ?_
  refine ab_aload_n (pc := 123) (i := 0) dX8_init_123 rfl rfl ?_
  obtain ⟨h21, hh21, hk⟩ := ab_bnd hk
  refine ab_newO (pc := 124) dX8_init_124 nw_RX8_62 hh21 ?_
  refine ab_dup (pc := 127) dX8_init_127 rfl ?_
  obtain ⟨q11, hq11, hk⟩ := ab_bnd hk
  obtain ⟨hb, hq11⟩ := ab_if_some hq11
  refine ab_callI_ (st := [ab_R (ab_nx h20), ab_R a0]) (as := []) (b := ab_nx h20) (pc := 128) dX8_init_128 ml_RX8_64 my_X6_init mi_X6_init hb (ct_X6_init hq11) ⟨Nat.le_of_ble_eq_true rfl, Nat.le_of_ble_eq_true rfl⟩ rfl (Nat.le_of_ble_eq_true rfl) rfl ?_
  obtain ⟨h22, hh22, hk⟩ := ab_bnd hk
  refine ab_putR_ (pc := 131) dX8_init_131 fl_RX8_69 (fun _ => ⟨rfl, rfl⟩) hh22 ?_
  obtain rfl := Option.some.inj hk
  exact ab_retv (pc := 134) dX8_init_134 rfl
theorem dX8_feed_0 : decode cX8_feed 0 = .ok (.aload_n 0, 1) := by decide +kernel
theorem dX8_feed_1 : decode cX8_feed 1 = .ok (.getfield 14, 3) := by decide +kernel
theorem dX8_feed_4 : decode cX8_feed 4 = .ok (.getfield 72, 3) := by decide +kernel
theorem dX8_feed_7 : decode cX8_feed 7 = .ok (.bipush 20, 2) := by decide +kernel
theorem dX8_feed_9 : decode cX8_feed 9 = .ok (.iadd, 1) := by decide +kernel
theorem dX8_feed_10 : decode cX8_feed 10 = .ok (.sipush 1200, 3) := by decide +kernel
theorem dX8_feed_13 : decode cX8_feed 13 = .ok (.if_icmp .le 5, 3) := by decide +kernel
theorem dX8_feed_16 : decode cX8_feed 16 = .ok (.iconst (-1), 1) := by decide +kernel
theorem dX8_feed_17 : decode cX8_feed 17 = .ok (.ireturn, 1) := by decide +kernel
theorem dX8_feed_18 : decode cX8_feed 18 = .ok (.aload_n 0, 1) := by decide +kernel
theorem dX8_feed_19 : decode cX8_feed 19 = .ok (.getfield 14, 3) := by decide +kernel
theorem dX8_feed_22 : decode cX8_feed 22 = .ok (.iload_n 1, 1) := by decide +kernel
theorem dX8_feed_23 : decode cX8_feed 23 = .ok (.invokevirtual 76, 3) := by decide +kernel
theorem dX8_feed_26 : decode cX8_feed 26 = .ok (.aload_n 0, 1) := by decide +kernel
theorem dX8_feed_27 : decode cX8_feed 27 = .ok (.getfield 14, 3) := by decide +kernel
theorem dX8_feed_30 : decode cX8_feed 30 = .ok (.iload_n 2, 1) := by decide +kernel
theorem dX8_feed_31 : decode cX8_feed 31 = .ok (.invokevirtual 76, 3) := by decide +kernel
theorem dX8_feed_34 : decode cX8_feed 34 = .ok (.aload_n 0, 1) := by decide +kernel
theorem dX8_feed_35 : decode cX8_feed 35 = .ok (.getfield 14, 3) := by decide +kernel
theorem dX8_feed_38 : decode cX8_feed 38 = .ok (.iload_n 3, 1) := by decide +kernel
theorem dX8_feed_39 : decode cX8_feed 39 = .ok (.invokevirtual 76, 3) := by decide +kernel
theorem dX8_feed_42 : decode cX8_feed 42 = .ok (.aload_n 0, 1) := by decide +kernel
theorem dX8_feed_43 : decode cX8_feed 43 = .ok (.getfield 14, 3) := by decide +kernel
theorem dX8_feed_46 : decode cX8_feed 46 = .ok (.iload 4, 2) := by decide +kernel
theorem dX8_feed_48 : decode cX8_feed 48 = .ok (.invokevirtual 76, 3) := by decide +kernel
theorem dX8_feed_51 : decode cX8_feed 51 = .ok (.aload_n 0, 1) := by decide +kernel
theorem dX8_feed_52 : decode cX8_feed 52 = .ok (.getfield 14, 3) := by decide +kernel
theorem dX8_feed_55 : decode cX8_feed 55 = .ok (.iload 5, 2) := by decide +kernel
theorem dX8_feed_57 : decode cX8_feed 57 = .ok (.invokevirtual 76, 3) := by decide +kernel
theorem dX8_feed_60 : decode cX8_feed 60 = .ok (.aload_n 0, 1) := by decide +kernel
theorem dX8_feed_61 : decode cX8_feed 61 = .ok (.getfield 14, 3) := by decide +kernel
theorem dX8_feed_64 : decode cX8_feed 64 = .ok (.getfield 72, 3) := by decide +kernel
theorem dX8_feed_67 : decode cX8_feed 67 = .ok (.ireturn, 1) := by decide +kernel
abbrev mm_X8_feed : ab_M := (RX8, 6, (some .int), false, 2, 43, none)
noncomputable def f_X8_feed (a0 : Int) (a1 : Int) (a2 : Int) (a3 : Int) (a4 : Int) (a5 : Int) (h : ab_H) : Option (Int × ab_H) :=
  (ab_get h 9 0 a0).bind fun t1 =>
  (ab_get h 2 1 t1).bind fun t2 =>
  if ab_w32 (t2 + (20 : Int)) ≤ (1200 : Int) then
    (ab_get h 9 0 a0).bind fun t3 =>
    (ab_on h 2 t3 (f_X1_putFour t3 a1 h)).bind fun q4 =>
    (ab_get q4 9 0 a0).bind fun t5 =>
    (ab_on q4 2 t5 (f_X1_putFour t5 a2 q4)).bind fun q6 =>
    (ab_get q6 9 0 a0).bind fun t7 =>
    (ab_on q6 2 t7 (f_X1_putFour t7 a3 q6)).bind fun q8 =>
    (ab_get q8 9 0 a0).bind fun t9 =>
    (ab_on q8 2 t9 (f_X1_putFour t9 a4 q8)).bind fun q10 =>
    (ab_get q10 9 0 a0).bind fun t11 =>
    (ab_on q10 2 t11 (f_X1_putFour t11 a5 q10)).bind fun q12 =>
    (ab_get q12 9 0 a0).bind fun t13 =>
    (ab_get q12 2 1 t13).bind fun t14 =>
    some (t14, q12)
  else
  some ((-1 : Int), h)
set_option maxRecDepth 20000 in
theorem ct_X8_feed {a0 a1 a2 a3 a4 a5 : Int} {h : ab_H} {q : Int × ab_H} (hk : f_X8_feed a0 a1 a2 a3 a4 a5 h = some q) : ab_CT yX8_feed cX8_feed 6 (some .int) 2 43 [ab_R a0, ab_I a1, ab_I a2, ab_I a3, ab_I a4, ab_I a5] h (some (ab_I q.1)) q.2 := by
  refine ab_CT.mk_ 0 (own := RX8) (ini := false) (lv := [some (ab_R a0), some (ab_I a1), some (ab_I a2), some (ab_I a3), some (ab_I a4), some (ab_I a5)]) rfl (by decide +kernel) (fun q => by cases q) rfl rfl ?_
  unfold f_X8_feed at hk
  show ab_E mm_X8_feed cX8_feed 0 _ [] h _ _
  refine ab_aload_n (pc := 0) (i := 0) dX8_feed_0 rfl rfl ?_
  obtain ⟨t1, ht1, hk⟩ := ab_bnd hk
  refine ab_getR (pc := 1) dX8_feed_1 fl_RX8_14 ht1 ?_
  obtain ⟨t2, ht2, hk⟩ := ab_bnd hk
  refine ab_getI (pc := 4) dX8_feed_4 fl_RX8_72 ht2 ?_
  refine ab_bipush (pc := 7) dX8_feed_7 ab_p8_20 ab_k_20 ?_
  refine ab_iadd (pc := 9) dX8_feed_9 ?_
  refine ab_sipush (pc := 10) dX8_feed_10 ab_p16_1200 ab_k_1200 ?_
  refine ab_icmp_le (pc := 13) (tgt := 18) dX8_feed_13 rfl (fun hc => ?_) (fun hc => ?_)
  · have hk := ab_ifp hk hc
    refine ab_aload_n (pc := 18) (i := 0) dX8_feed_18 rfl rfl ?_
    obtain ⟨t3, ht3, hk⟩ := ab_bnd hk
    refine ab_getR (pc := 19) dX8_feed_19 fl_RX8_14 ht3 ?_
    refine ab_iload_n (pc := 22) (i := 1) dX8_feed_22 rfl rfl ?_
    obtain ⟨q4, hq4, hk⟩ := ab_bnd hk
    obtain ⟨hb, hq4⟩ := ab_on_some hq4
    refine ab_callVV (st := []) (as := [ab_I a1]) (b := t3) (pc := 23) dX8_feed_23 ml_RX8_76 my_X1_putFour mv_X1_putFour hb (ct_X1_putFour hq4) ⟨Nat.le_of_ble_eq_true rfl, Nat.le_of_ble_eq_true rfl⟩ rfl (Nat.le_of_ble_eq_true rfl) rfl ?_
    refine ab_aload_n (pc := 26) (i := 0) dX8_feed_26 rfl rfl ?_
    obtain ⟨t5, ht5, hk⟩ := ab_bnd hk
    refine ab_getR (pc := 27) dX8_feed_27 fl_RX8_14 ht5 ?_
    refine ab_iload_n (pc := 30) (i := 2) dX8_feed_30 rfl rfl ?_
    obtain ⟨q6, hq6, hk⟩ := ab_bnd hk
    obtain ⟨hb, hq6⟩ := ab_on_some hq6
    refine ab_callVV (st := []) (as := [ab_I a2]) (b := t5) (pc := 31) dX8_feed_31 ml_RX8_76 my_X1_putFour mv_X1_putFour hb (ct_X1_putFour hq6) ⟨Nat.le_of_ble_eq_true rfl, Nat.le_of_ble_eq_true rfl⟩ rfl (Nat.le_of_ble_eq_true rfl) rfl ?_
    refine ab_aload_n (pc := 34) (i := 0) dX8_feed_34 rfl rfl ?_
    obtain ⟨t7, ht7, hk⟩ := ab_bnd hk
    refine ab_getR (pc := 35) dX8_feed_35 fl_RX8_14 ht7 ?_
    refine ab_iload_n (pc := 38) (i := 3) dX8_feed_38 rfl rfl ?_
    obtain ⟨q8, hq8, hk⟩ := ab_bnd hk
    obtain ⟨hb, hq8⟩ := ab_on_some hq8
    refine ab_callVV (st := []) (as := [ab_I a3]) (b := t7) (pc := 39) dX8_feed_39 ml_RX8_76 my_X1_putFour mv_X1_putFour hb (ct_X1_putFour hq8) ⟨Nat.le_of_ble_eq_true rfl, Nat.le_of_ble_eq_true rfl⟩ rfl (Nat.le_of_ble_eq_true rfl) rfl ?_
    refine ab_aload_n (pc := 42) (i := 0) dX8_feed_42 rfl rfl ?_
    obtain ⟨t9, ht9, hk⟩ := ab_bnd hk
    refine ab_getR (pc := 43) dX8_feed_43 fl_RX8_14 ht9 ?_
    refine ab_iload (pc := 46) (i := 4) dX8_feed_46 rfl ?_
    obtain ⟨q10, hq10, hk⟩ := ab_bnd hk
    obtain ⟨hb, hq10⟩ := ab_on_some hq10
    refine ab_callVV (st := []) (as := [ab_I a4]) (b := t9) (pc := 48) dX8_feed_48 ml_RX8_76 my_X1_putFour mv_X1_putFour hb (ct_X1_putFour hq10) ⟨Nat.le_of_ble_eq_true rfl, Nat.le_of_ble_eq_true rfl⟩ rfl (Nat.le_of_ble_eq_true rfl) rfl ?_
    refine ab_aload_n (pc := 51) (i := 0) dX8_feed_51 rfl rfl ?_
    obtain ⟨t11, ht11, hk⟩ := ab_bnd hk
    refine ab_getR (pc := 52) dX8_feed_52 fl_RX8_14 ht11 ?_
    refine ab_iload (pc := 55) (i := 5) dX8_feed_55 rfl ?_
    obtain ⟨q12, hq12, hk⟩ := ab_bnd hk
    obtain ⟨hb, hq12⟩ := ab_on_some hq12
    refine ab_callVV (st := []) (as := [ab_I a5]) (b := t11) (pc := 57) dX8_feed_57 ml_RX8_76 my_X1_putFour mv_X1_putFour hb (ct_X1_putFour hq12) ⟨Nat.le_of_ble_eq_true rfl, Nat.le_of_ble_eq_true rfl⟩ rfl (Nat.le_of_ble_eq_true rfl) rfl ?_
    refine ab_aload_n (pc := 60) (i := 0) dX8_feed_60 rfl rfl ?_
    obtain ⟨t13, ht13, hk⟩ := ab_bnd hk
    refine ab_getR (pc := 61) dX8_feed_61 fl_RX8_14 ht13 ?_
    obtain ⟨t14, ht14, hk⟩ := ab_bnd hk
    refine ab_getI (pc := 64) dX8_feed_64 fl_RX8_72 ht14 ?_
    obtain rfl := Option.some.inj hk
    exact ab_reti (pc := 67) dX8_feed_67 (Or.inl rfl)
  · have hk := ab_ifn hk hc
    refine ab_iconst (pc := 16) dX8_feed_16 ab_k_m1 ?_
    obtain rfl := Option.some.inj hk
    exact ab_reti (pc := 17) dX8_feed_17 (Or.inl rfl)
theorem dX8_end_0 : decode cX8_end 0 = .ok (.iload_n 1, 1) := by decide +kernel
theorem dX8_end_1 : decode cX8_end 1 = .ok (.ifCond .lt 14, 3) := by decide +kernel
theorem dX8_end_4 : decode cX8_end 4 = .ok (.iload_n 1, 1) := by decide +kernel
theorem dX8_end_5 : decode cX8_end 5 = .ok (.aload_n 0, 1) := by decide +kernel
theorem dX8_end_6 : decode cX8_end 6 = .ok (.getfield 14, 3) := by decide +kernel
theorem dX8_end_9 : decode cX8_end 9 = .ok (.getfield 72, 3) := by decide +kernel
theorem dX8_end_12 : decode cX8_end 12 = .ok (.if_icmp .le 5, 3) := by decide +kernel
theorem dX8_end_15 : decode cX8_end 15 = .ok (.iconst (-1), 1) := by decide +kernel
theorem dX8_end_16 : decode cX8_end 16 = .ok (.ireturn, 1) := by decide +kernel
theorem dX8_end_17 : decode cX8_end 17 = .ok (.aload_n 0, 1) := by decide +kernel
theorem dX8_end_18 : decode cX8_end 18 = .ok (.getfield 14, 3) := by decide +kernel
theorem dX8_end_21 : decode cX8_end 21 = .ok (.iload_n 1, 1) := by decide +kernel
theorem dX8_end_22 : decode cX8_end 22 = .ok (.putfield 72, 3) := by decide +kernel
theorem dX8_end_25 : decode cX8_end 25 = .ok (.iload_n 1, 1) := by decide +kernel
theorem dX8_end_26 : decode cX8_end 26 = .ok (.ireturn, 1) := by decide +kernel
abbrev mm_X8_end : ab_M := (RX8, 2, (some .int), false, 0, 0, none)
noncomputable def f_X8_end (a0 : Int) (a1 : Int) (h : ab_H) : Option (Int × ab_H) :=
  if a1 < (0 : Int) then
    some ((-1 : Int), h)
  else
  (ab_get h 9 0 a0).bind fun t1 =>
  (ab_get h 2 1 t1).bind fun t2 =>
  if a1 ≤ t2 then
    (ab_get h 9 0 a0).bind fun t3 =>
    (ab_put h 2 1 t3 a1).bind fun h1 =>
    some (a1, h1)
  else
  some ((-1 : Int), h)
set_option maxRecDepth 20000 in
theorem ct_X8_end {a0 a1 : Int} {h : ab_H} {q : Int × ab_H} (hk : f_X8_end a0 a1 h = some q) : ab_CT yX8_end cX8_end 2 (some .int) 0 0 [ab_R a0, ab_I a1] h (some (ab_I q.1)) q.2 := by
  refine ab_CT.mk_ 0 (own := RX8) (ini := false) (lv := [some (ab_R a0), some (ab_I a1)]) rfl (by decide +kernel) (fun q => by cases q) rfl rfl ?_
  unfold f_X8_end at hk
  show ab_E mm_X8_end cX8_end 0 _ [] h _ _
  refine ab_iload_n (pc := 0) (i := 1) dX8_end_0 rfl rfl ?_
  refine ab_if_lt (pc := 1) (tgt := 15) dX8_end_1 rfl (fun hc => ?_) (fun hc => ?_)
  · have hk := ab_ifp hk hc
    refine ab_iconst (pc := 15) dX8_end_15 ab_k_m1 ?_
    obtain rfl := Option.some.inj hk
    exact ab_reti (pc := 16) dX8_end_16 (Or.inl rfl)
  · have hk := ab_ifn hk hc
    refine ab_iload_n (pc := 4) (i := 1) dX8_end_4 rfl rfl ?_
    refine ab_aload_n (pc := 5) (i := 0) dX8_end_5 rfl rfl ?_
    obtain ⟨t1, ht1, hk⟩ := ab_bnd hk
    refine ab_getR (pc := 6) dX8_end_6 fl_RX8_14 ht1 ?_
    obtain ⟨t2, ht2, hk⟩ := ab_bnd hk
    refine ab_getI (pc := 9) dX8_end_9 fl_RX8_72 ht2 ?_
    refine ab_icmp_le (pc := 12) (tgt := 17) dX8_end_12 rfl (fun hc => ?_) (fun hc => ?_)
    · have hk := ab_ifp hk hc
      refine ab_aload_n (pc := 17) (i := 0) dX8_end_17 rfl rfl ?_
      obtain ⟨t3, ht3, hk⟩ := ab_bnd hk
      refine ab_getR (pc := 18) dX8_end_18 fl_RX8_14 ht3 ?_
      refine ab_iload_n (pc := 21) (i := 1) dX8_end_21 rfl rfl ?_
      obtain ⟨h1, hh1, hk⟩ := ab_bnd hk
      refine ab_putI_ (pc := 22) dX8_end_22 fl_RX8_72 (fun q => by cases q) hh1 ?_
      refine ab_iload_n (pc := 25) (i := 1) dX8_end_25 rfl rfl ?_
      obtain rfl := Option.some.inj hk
      exact ab_reti (pc := 26) dX8_end_26 (Or.inl rfl)
    · have hk := ab_ifn hk hc
      refine ab_iconst (pc := 15) dX8_end_15 ab_k_m1 ?_
      obtain rfl := Option.some.inj hk
      exact ab_reti (pc := 16) dX8_end_16 (Or.inl rfl)
theorem dX8_renew_0 : decode cX8_renew 0 = .ok (.aload_n 0, 1) := by decide +kernel
theorem dX8_renew_1 : decode cX8_renew 1 = .ok (.getfield 51, 3) := by decide +kernel
theorem dX8_renew_4 : decode cX8_renew 4 = .ok (.aload_n 0, 1) := by decide +kernel
theorem dX8_renew_5 : decode cX8_renew 5 = .ok (.getfield 34, 3) := by decide +kernel
theorem dX8_renew_8 : decode cX8_renew 8 = .ok (.invokevirtual 353, 3) := by decide +kernel
theorem dX8_renew_11 : decode cX8_renew 11 = .ok (.aload_n 0, 1) := by decide +kernel
theorem dX8_renew_12 : decode cX8_renew 12 = .ok (.getfield 58, 3) := by decide +kernel
theorem dX8_renew_15 : decode cX8_renew 15 = .ok (.aload_n 0, 1) := by decide +kernel
theorem dX8_renew_16 : decode cX8_renew 16 = .ok (.getfield 34, 3) := by decide +kernel
theorem dX8_renew_19 : decode cX8_renew 19 = .ok (.aload_n 0, 1) := by decide +kernel
theorem dX8_renew_20 : decode cX8_renew 20 = .ok (.getfield 51, 3) := by decide +kernel
theorem dX8_renew_23 : decode cX8_renew 23 = .ok (.invokevirtual 356, 3) := by decide +kernel
theorem dX8_renew_26 : decode cX8_renew 26 = .ok (.aload_n 0, 1) := by decide +kernel
theorem dX8_renew_27 : decode cX8_renew 27 = .ok (.getfield 65, 3) := by decide +kernel
theorem dX8_renew_30 : decode cX8_renew 30 = .ok (.aload_n 0, 1) := by decide +kernel
theorem dX8_renew_31 : decode cX8_renew 31 = .ok (.getfield 34, 3) := by decide +kernel
theorem dX8_renew_34 : decode cX8_renew 34 = .ok (.aload_n 0, 1) := by decide +kernel
theorem dX8_renew_35 : decode cX8_renew 35 = .ok (.getfield 58, 3) := by decide +kernel
theorem dX8_renew_38 : decode cX8_renew 38 = .ok (.invokevirtual 258, 3) := by decide +kernel
theorem dX8_renew_41 : decode cX8_renew 41 = .ok (.return_, 1) := by decide +kernel
abbrev mm_X8_renew : ab_M := (RX8, 1, none, false, 5, 119, none)
noncomputable def f_X8_renew (a0 : Int) (h : ab_H) : Option ab_H :=
  (ab_get h 9 7 a0).bind fun t1 =>
  (ab_get h 9 4 a0).bind fun t2 =>
  (ab_on h 8 t1 (f_X7_gatherFrom t1 t2 h)).bind fun q3 =>
  (ab_get q3 9 8 a0).bind fun t4 =>
  (ab_get q3 9 4 a0).bind fun t5 =>
  (ab_get q3 9 7 a0).bind fun t6 =>
  (ab_on q3 6 t4 (f_X5_takeFrom t4 t5 t6 q3)).bind fun q7 =>
  (ab_get q7 9 9 a0).bind fun t8 =>
  (ab_get q7 9 4 a0).bind fun t9 =>
  (ab_get q7 9 8 a0).bind fun t10 =>
  (ab_on q7 7 t8 (f_X6_turnAll t8 t9 t10 q7)).bind fun q11 =>
  some q11
set_option maxRecDepth 20000 in
theorem ct_X8_renew {a0 : Int} {h : ab_H} {q : ab_H} (hk : f_X8_renew a0 h = some q) : ab_CT yX8_renew cX8_renew 1 none 5 119 [ab_R a0] h none q := by
  refine ab_CT.mk_ 0 (own := RX8) (ini := false) (lv := [some (ab_R a0)]) rfl (by decide +kernel) (fun q => by cases q) rfl rfl ?_
  unfold f_X8_renew at hk
  show ab_E mm_X8_renew cX8_renew 0 _ [] h _ _
  refine ab_aload_n (pc := 0) (i := 0) dX8_renew_0 rfl rfl ?_
  obtain ⟨t1, ht1, hk⟩ := ab_bnd hk
  refine ab_getR (pc := 1) dX8_renew_1 fl_RX8_51 ht1 ?_
  refine ab_aload_n (pc := 4) (i := 0) dX8_renew_4 rfl rfl ?_
  obtain ⟨t2, ht2, hk⟩ := ab_bnd hk
  refine ab_getR (pc := 5) dX8_renew_5 fl_RX8_34 ht2 ?_
  obtain ⟨q3, hq3, hk⟩ := ab_bnd hk
  obtain ⟨hb, hq3⟩ := ab_on_some hq3
  refine ab_callVV (st := []) (as := [ab_R t2]) (b := t1) (pc := 8) dX8_renew_8 ml_RX8_353 my_X7_gatherFrom mv_X7_gatherFrom hb (ct_X7_gatherFrom hq3) ⟨Nat.le_of_ble_eq_true rfl, Nat.le_of_ble_eq_true rfl⟩ rfl (Nat.le_of_ble_eq_true rfl) rfl ?_
  refine ab_aload_n (pc := 11) (i := 0) dX8_renew_11 rfl rfl ?_
  obtain ⟨t4, ht4, hk⟩ := ab_bnd hk
  refine ab_getR (pc := 12) dX8_renew_12 fl_RX8_58 ht4 ?_
  refine ab_aload_n (pc := 15) (i := 0) dX8_renew_15 rfl rfl ?_
  obtain ⟨t5, ht5, hk⟩ := ab_bnd hk
  refine ab_getR (pc := 16) dX8_renew_16 fl_RX8_34 ht5 ?_
  refine ab_aload_n (pc := 19) (i := 0) dX8_renew_19 rfl rfl ?_
  obtain ⟨t6, ht6, hk⟩ := ab_bnd hk
  refine ab_getR (pc := 20) dX8_renew_20 fl_RX8_51 ht6 ?_
  obtain ⟨q7, hq7, hk⟩ := ab_bnd hk
  obtain ⟨hb, hq7⟩ := ab_on_some hq7
  refine ab_callVV (st := []) (as := [ab_R t5, ab_R t6]) (b := t4) (pc := 23) dX8_renew_23 ml_RX8_356 my_X5_takeFrom mv_X5_takeFrom hb (ct_X5_takeFrom hq7) ⟨Nat.le_of_ble_eq_true rfl, Nat.le_of_ble_eq_true rfl⟩ rfl (Nat.le_of_ble_eq_true rfl) rfl ?_
  refine ab_aload_n (pc := 26) (i := 0) dX8_renew_26 rfl rfl ?_
  obtain ⟨t8, ht8, hk⟩ := ab_bnd hk
  refine ab_getR (pc := 27) dX8_renew_27 fl_RX8_65 ht8 ?_
  refine ab_aload_n (pc := 30) (i := 0) dX8_renew_30 rfl rfl ?_
  obtain ⟨t9, ht9, hk⟩ := ab_bnd hk
  refine ab_getR (pc := 31) dX8_renew_31 fl_RX8_34 ht9 ?_
  refine ab_aload_n (pc := 34) (i := 0) dX8_renew_34 rfl rfl ?_
  obtain ⟨t10, ht10, hk⟩ := ab_bnd hk
  refine ab_getR (pc := 35) dX8_renew_35 fl_RX8_58 ht10 ?_
  obtain ⟨q11, hq11, hk⟩ := ab_bnd hk
  obtain ⟨hb, hq11⟩ := ab_on_some hq11
  refine ab_callVV (st := []) (as := [ab_R t9, ab_R t10]) (b := t8) (pc := 38) dX8_renew_38 ml_RX8_258 my_X6_turnAll mv_X6_turnAll hb (ct_X6_turnAll hq11) ⟨Nat.le_of_ble_eq_true rfl, Nat.le_of_ble_eq_true rfl⟩ rfl (Nat.le_of_ble_eq_true rfl) rfl ?_
  obtain rfl := Option.some.inj hk
  exact ab_retv (pc := 41) dX8_renew_41 rfl
theorem dX8_text_0 : decode cX8_text 0 = .ok (.aload_n 0, 1) := by decide +kernel
theorem dX8_text_1 : decode cX8_text 1 = .ok (.getfield 27, 3) := by decide +kernel
theorem dX8_text_4 : decode cX8_text 4 = .ok (.aload_n 0, 1) := by decide +kernel
theorem dX8_text_5 : decode cX8_text 5 = .ok (.getfield 14, 3) := by decide +kernel
theorem dX8_text_8 : decode cX8_text 8 = .ok (.aload_n 0, 1) := by decide +kernel
theorem dX8_text_9 : decode cX8_text 9 = .ok (.getfield 38, 3) := by decide +kernel
theorem dX8_text_12 : decode cX8_text 12 = .ok (.invokevirtual 79, 3) := by decide +kernel
theorem dX8_text_15 : decode cX8_text 15 = .ok (.istore_n 1, 1) := by decide +kernel
theorem dX8_text_16 : decode cX8_text 16 = .ok (.aload_n 0, 1) := by decide +kernel
theorem dX8_text_17 : decode cX8_text 17 = .ok (.getfield 14, 3) := by decide +kernel
theorem dX8_text_20 : decode cX8_text 20 = .ok (.iconst 0, 1) := by decide +kernel
theorem dX8_text_21 : decode cX8_text 21 = .ok (.putfield 72, 3) := by decide +kernel
theorem dX8_text_24 : decode cX8_text 24 = .ok (.iload_n 1, 1) := by decide +kernel
theorem dX8_text_25 : decode cX8_text 25 = .ok (.ifCond .ne 6, 3) := by decide +kernel
theorem dX8_text_28 : decode cX8_text 28 = .ok (.bipush (-4), 2) := by decide +kernel
theorem dX8_text_30 : decode cX8_text 30 = .ok (.ireturn, 1) := by decide +kernel
theorem dX8_text_31 : decode cX8_text 31 = .ok (.aload_n 0, 1) := by decide +kernel
theorem dX8_text_32 : decode cX8_text 32 = .ok (.getfield 44, 3) := by decide +kernel
theorem dX8_text_35 : decode cX8_text 35 = .ok (.invokevirtual 83, 3) := by decide +kernel
theorem dX8_text_38 : decode cX8_text 38 = .ok (.aload_n 0, 1) := by decide +kernel
theorem dX8_text_39 : decode cX8_text 39 = .ok (.getfield 34, 3) := by decide +kernel
theorem dX8_text_42 : decode cX8_text 42 = .ok (.aload_n 0, 1) := by decide +kernel
theorem dX8_text_43 : decode cX8_text 43 = .ok (.getfield 38, 3) := by decide +kernel
theorem dX8_text_46 : decode cX8_text 46 = .ok (.invokevirtual 86, 3) := by decide +kernel
theorem dX8_text_49 : decode cX8_text 49 = .ok (.aload_n 0, 1) := by decide +kernel
theorem dX8_text_50 : decode cX8_text 50 = .ok (.invokevirtual 90, 3) := by decide +kernel
theorem dX8_text_53 : decode cX8_text 53 = .ok (.aload_n 0, 1) := by decide +kernel
theorem dX8_text_54 : decode cX8_text 54 = .ok (.getfield 27, 3) := by decide +kernel
theorem dX8_text_57 : decode cX8_text 57 = .ok (.getfield 93, 3) := by decide +kernel
theorem dX8_text_60 : decode cX8_text 60 = .ok (.ireturn, 1) := by decide +kernel
abbrev mm_X8_text : ab_M := (RX8, 2, (some .int), false, 6, 139, none)
noncomputable def f_X8_text (a0 : Int) (h : ab_H) : Option (Int × ab_H) :=
  (ab_get h 9 3 a0).bind fun t1 =>
  (ab_get h 9 0 a0).bind fun t2 =>
  (ab_get h 9 5 a0).bind fun t3 =>
  (ab_on h 5 t1 (f_X4_readText t1 t2 t3 h)).bind fun q4 =>
  (ab_get q4.2 9 0 a0).bind fun t5 =>
  (ab_put q4.2 2 1 t5 (0 : Int)).bind fun h1 =>
  if q4.1 = (0 : Int) then
    some ((-4 : Int), h1)
  else
  (ab_get h1 9 6 a0).bind fun t6 =>
  (ab_on h1 4 t6 (f_X3_forgetAll t6 h1)).bind fun q7 =>
  (ab_get q7 9 4 a0).bind fun t8 =>
  (ab_get q7 9 5 a0).bind fun t9 =>
  (ab_on q7 1 t8 (f_X0_copyFrom t8 t9 q7)).bind fun q10 =>
  (ab_on q10 9 a0 (f_X8_renew a0 q10)).bind fun q11 =>
  (ab_get q11 9 3 a0).bind fun t12 =>
  (ab_get q11 5 8 t12).bind fun t13 =>
  some (t13, q11)
set_option maxRecDepth 20000 in
theorem ct_X8_text {a0 : Int} {h : ab_H} {q : Int × ab_H} (hk : f_X8_text a0 h = some q) : ab_CT yX8_text cX8_text 2 (some .int) 6 139 [ab_R a0] h (some (ab_I q.1)) q.2 := by
  refine ab_CT.mk_ 1 (own := RX8) (ini := false) (lv := [some (ab_R a0), none]) rfl (by decide +kernel) (fun q => by cases q) rfl rfl ?_
  unfold f_X8_text at hk
  show ab_E mm_X8_text cX8_text 0 _ [] h _ _
  refine ab_aload_n (pc := 0) (i := 0) dX8_text_0 rfl rfl ?_
  obtain ⟨t1, ht1, hk⟩ := ab_bnd hk
  refine ab_getR (pc := 1) dX8_text_1 fl_RX8_27 ht1 ?_
  refine ab_aload_n (pc := 4) (i := 0) dX8_text_4 rfl rfl ?_
  obtain ⟨t2, ht2, hk⟩ := ab_bnd hk
  refine ab_getR (pc := 5) dX8_text_5 fl_RX8_14 ht2 ?_
  refine ab_aload_n (pc := 8) (i := 0) dX8_text_8 rfl rfl ?_
  obtain ⟨t3, ht3, hk⟩ := ab_bnd hk
  refine ab_getR (pc := 9) dX8_text_9 fl_RX8_38 ht3 ?_
  obtain ⟨q4, hq4, hk⟩ := ab_bnd hk
  obtain ⟨hb, hq4⟩ := ab_on_some hq4
  refine ab_callVI (st := []) (as := [ab_R t2, ab_R t3]) (b := t1) (pc := 12) dX8_text_12 ml_RX8_79 my_X4_readText mv_X4_readText hb (ct_X4_readText hq4) ⟨Nat.le_of_ble_eq_true rfl, Nat.le_of_ble_eq_true rfl⟩ rfl (Nat.le_of_ble_eq_true rfl) rfl ?_
  refine ab_istore_n (pc := 15) (i := 1) (lv2 := [some (ab_R a0), some (ab_I q4.1)]) dX8_text_15 rfl (Nat.le_of_ble_eq_true rfl) rfl rfl ?_
  refine ab_aload_n (pc := 16) (i := 0) dX8_text_16 rfl rfl ?_
  obtain ⟨t5, ht5, hk⟩ := ab_bnd hk
  refine ab_getR (pc := 17) dX8_text_17 fl_RX8_14 ht5 ?_
  refine ab_iconst (pc := 20) dX8_text_20 ab_k_0 ?_
  obtain ⟨h1, hh1, hk⟩ := ab_bnd hk
  refine ab_putI_ (pc := 21) dX8_text_21 fl_RX8_72 (fun q => by cases q) hh1 ?_
  refine ab_iload_n (pc := 24) (i := 1) dX8_text_24 rfl rfl ?_
  refine ab_if_ne (pc := 25) (tgt := 31) dX8_text_25 rfl (fun hc => ?_) (fun hc => ?_)
  · have hk := ab_ifn hk hc
    refine ab_aload_n (pc := 31) (i := 0) dX8_text_31 rfl rfl ?_
    obtain ⟨t6, ht6, hk⟩ := ab_bnd hk
    refine ab_getR (pc := 32) dX8_text_32 fl_RX8_44 ht6 ?_
    obtain ⟨q7, hq7, hk⟩ := ab_bnd hk
    obtain ⟨hb, hq7⟩ := ab_on_some hq7
    refine ab_callVV (st := []) (as := []) (b := t6) (pc := 35) dX8_text_35 ml_RX8_83 my_X3_forgetAll mv_X3_forgetAll hb (ct_X3_forgetAll hq7) ⟨Nat.le_of_ble_eq_true rfl, Nat.le_of_ble_eq_true rfl⟩ rfl (Nat.le_of_ble_eq_true rfl) rfl ?_
    refine ab_aload_n (pc := 38) (i := 0) dX8_text_38 rfl rfl ?_
    obtain ⟨t8, ht8, hk⟩ := ab_bnd hk
    refine ab_getR (pc := 39) dX8_text_39 fl_RX8_34 ht8 ?_
    refine ab_aload_n (pc := 42) (i := 0) dX8_text_42 rfl rfl ?_
    obtain ⟨t9, ht9, hk⟩ := ab_bnd hk
    refine ab_getR (pc := 43) dX8_text_43 fl_RX8_38 ht9 ?_
    obtain ⟨q10, hq10, hk⟩ := ab_bnd hk
    obtain ⟨hb, hq10⟩ := ab_on_some hq10
    refine ab_callVV (st := []) (as := [ab_R t9]) (b := t8) (pc := 46) dX8_text_46 ml_RX8_86 my_X0_copyFrom mv_X0_copyFrom hb (ct_X0_copyFrom hq10) ⟨Nat.le_of_ble_eq_true rfl, Nat.le_of_ble_eq_true rfl⟩ rfl (Nat.le_of_ble_eq_true rfl) rfl ?_
    refine ab_aload_n (pc := 49) (i := 0) dX8_text_49 rfl rfl ?_
    obtain ⟨q11, hq11, hk⟩ := ab_bnd hk
    obtain ⟨hb, hq11⟩ := ab_on_some hq11
    refine ab_callVV (st := []) (as := []) (b := a0) (pc := 50) dX8_text_50 ml_RX8_90 my_X8_renew mv_X8_renew hb (ct_X8_renew hq11) ⟨Nat.le_of_ble_eq_true rfl, Nat.le_of_ble_eq_true rfl⟩ rfl (Nat.le_of_ble_eq_true rfl) rfl ?_
    refine ab_aload_n (pc := 53) (i := 0) dX8_text_53 rfl rfl ?_
    obtain ⟨t12, ht12, hk⟩ := ab_bnd hk
    refine ab_getR (pc := 54) dX8_text_54 fl_RX8_27 ht12 ?_
    obtain ⟨t13, ht13, hk⟩ := ab_bnd hk
    refine ab_getI (pc := 57) dX8_text_57 fl_RX8_93 ht13 ?_
    obtain rfl := Option.some.inj hk
    exact ab_reti (pc := 60) dX8_text_60 (Or.inl rfl)
  · have hk := ab_ifp hk hc
    refine ab_bipush (pc := 28) dX8_text_28 ab_p8_m4 ab_k_m4 ?_
    obtain rfl := Option.some.inj hk
    exact ab_reti (pc := 30) dX8_text_30 (Or.inl rfl)
theorem dX8_fault_0 : decode cX8_fault 0 = .ok (.iload_n 1, 1) := by decide +kernel
theorem dX8_fault_1 : decode cX8_fault 1 = .ok (.lookupswitch 43 #[(0, 27), (1, 35)], 27) := by decide +kernel
theorem dX8_fault_28 : decode cX8_fault 28 = .ok (.aload_n 0, 1) := by decide +kernel
theorem dX8_fault_29 : decode cX8_fault 29 = .ok (.getfield 27, 3) := by decide +kernel
theorem dX8_fault_32 : decode cX8_fault 32 = .ok (.getfield 96, 3) := by decide +kernel
theorem dX8_fault_35 : decode cX8_fault 35 = .ok (.ireturn, 1) := by decide +kernel
theorem dX8_fault_36 : decode cX8_fault 36 = .ok (.aload_n 0, 1) := by decide +kernel
theorem dX8_fault_37 : decode cX8_fault 37 = .ok (.getfield 27, 3) := by decide +kernel
theorem dX8_fault_40 : decode cX8_fault 40 = .ok (.getfield 99, 3) := by decide +kernel
theorem dX8_fault_43 : decode cX8_fault 43 = .ok (.ireturn, 1) := by decide +kernel
theorem dX8_fault_44 : decode cX8_fault 44 = .ok (.iconst (-1), 1) := by decide +kernel
theorem dX8_fault_45 : decode cX8_fault 45 = .ok (.ireturn, 1) := by decide +kernel
abbrev mm_X8_fault : ab_M := (RX8, 2, (some .int), false, 0, 0, none)
noncomputable def f_X8_fault (a0 : Int) (a1 : Int) (h : ab_H) : Option (Int × ab_H) :=
  if a1 = (0 : Int) then
    (ab_get h 9 3 a0).bind fun t1 =>
    (ab_get h 5 9 t1).bind fun t2 =>
    some (t2, h)
  else
  if a1 = (1 : Int) then
    (ab_get h 9 3 a0).bind fun t3 =>
    (ab_get h 5 10 t3).bind fun t4 =>
    some (t4, h)
  else
  some ((-1 : Int), h)
set_option maxRecDepth 20000 in
theorem ct_X8_fault {a0 a1 : Int} {h : ab_H} {q : Int × ab_H} (hk : f_X8_fault a0 a1 h = some q) : ab_CT yX8_fault cX8_fault 2 (some .int) 0 0 [ab_R a0, ab_I a1] h (some (ab_I q.1)) q.2 := by
  refine ab_CT.mk_ 0 (own := RX8) (ini := false) (lv := [some (ab_R a0), some (ab_I a1)]) rfl (by decide +kernel) (fun q => by cases q) rfl rfl ?_
  unfold f_X8_fault at hk
  show ab_E mm_X8_fault cX8_fault 0 _ [] h _ _
  refine ab_iload_n (pc := 0) (i := 1) dX8_fault_0 rfl rfl ?_
  by_cases hc : a1 = (0 : Int)
  · have hk := ab_ifp hk hc
    refine ab_lswIn (pc := 1) (v := (0 : Int)) (off := 27) (tgt := 28) dX8_fault_1 rfl hc rfl rfl ?_
    refine ab_aload_n (pc := 28) (i := 0) dX8_fault_28 rfl rfl ?_
    obtain ⟨t1, ht1, hk⟩ := ab_bnd hk
    refine ab_getR (pc := 29) dX8_fault_29 fl_RX8_27 ht1 ?_
    obtain ⟨t2, ht2, hk⟩ := ab_bnd hk
    refine ab_getI (pc := 32) dX8_fault_32 fl_RX8_96 ht2 ?_
    obtain rfl := Option.some.inj hk
    exact ab_reti (pc := 35) dX8_fault_35 (Or.inl rfl)
  have hk := ab_ifn hk hc
  have hz0 := hc
  clear hc
  by_cases hc : a1 = (1 : Int)
  · have hk := ab_ifp hk hc
    refine ab_lswIn (pc := 1) (v := (1 : Int)) (off := 35) (tgt := 36) dX8_fault_1 rfl hc rfl rfl ?_
    refine ab_aload_n (pc := 36) (i := 0) dX8_fault_36 rfl rfl ?_
    obtain ⟨t3, ht3, hk⟩ := ab_bnd hk
    refine ab_getR (pc := 37) dX8_fault_37 fl_RX8_27 ht3 ?_
    obtain ⟨t4, ht4, hk⟩ := ab_bnd hk
    refine ab_getI (pc := 40) dX8_fault_40 fl_RX8_99 ht4 ?_
    obtain rfl := Option.some.inj hk
    exact ab_reti (pc := 43) dX8_fault_43 (Or.inl rfl)
  have hk := ab_ifn hk hc
  have hz1 := hc
  clear hc
  refine ab_lswOut (pc := 1) (off := 43) (tgt := 44) dX8_fault_1 rfl (by simp [Op.lookupswitch.offset, Ne.symm hz0, Ne.symm hz1]) rfl ?_
  refine ab_iconst (pc := 44) dX8_fault_44 ab_k_m1 ?_
  obtain rfl := Option.some.inj hk
  exact ab_reti (pc := 45) dX8_fault_45 (Or.inl rfl)
theorem dX8_count_0 : decode cX8_count 0 = .ok (.iload_n 1, 1) := by decide +kernel
theorem dX8_count_1 : decode cX8_count 1 = .ok (.tableswitch 135 0 9 #[55, 63, 71, 79, 87, 95, 103, 111, 119, 127], 55) := by decide +kernel
theorem dX8_count_56 : decode cX8_count 56 = .ok (.aload_n 0, 1) := by decide +kernel
theorem dX8_count_57 : decode cX8_count 57 = .ok (.getfield 34, 3) := by decide +kernel
theorem dX8_count_60 : decode cX8_count 60 = .ok (.getfield 102, 3) := by decide +kernel
theorem dX8_count_63 : decode cX8_count 63 = .ok (.ireturn, 1) := by decide +kernel
theorem dX8_count_64 : decode cX8_count 64 = .ok (.aload_n 0, 1) := by decide +kernel
theorem dX8_count_65 : decode cX8_count 65 = .ok (.getfield 34, 3) := by decide +kernel
theorem dX8_count_68 : decode cX8_count 68 = .ok (.invokevirtual 103, 3) := by decide +kernel
theorem dX8_count_71 : decode cX8_count 71 = .ok (.ireturn, 1) := by decide +kernel
theorem dX8_count_72 : decode cX8_count 72 = .ok (.aload_n 0, 1) := by decide +kernel
theorem dX8_count_73 : decode cX8_count 73 = .ok (.getfield 34, 3) := by decide +kernel
theorem dX8_count_76 : decode cX8_count 76 = .ok (.getfield 107, 3) := by decide +kernel
theorem dX8_count_79 : decode cX8_count 79 = .ok (.ireturn, 1) := by decide +kernel
theorem dX8_count_80 : decode cX8_count 80 = .ok (.aload_n 0, 1) := by decide +kernel
theorem dX8_count_81 : decode cX8_count 81 = .ok (.getfield 51, 3) := by decide +kernel
theorem dX8_count_84 : decode cX8_count 84 = .ok (.getfield 110, 3) := by decide +kernel
theorem dX8_count_87 : decode cX8_count 87 = .ok (.ireturn, 1) := by decide +kernel
theorem dX8_count_88 : decode cX8_count 88 = .ok (.aload_n 0, 1) := by decide +kernel
theorem dX8_count_89 : decode cX8_count 89 = .ok (.getfield 65, 3) := by decide +kernel
theorem dX8_count_92 : decode cX8_count 92 = .ok (.getfield 111, 3) := by decide +kernel
theorem dX8_count_95 : decode cX8_count 95 = .ok (.ireturn, 1) := by decide +kernel
theorem dX8_count_96 : decode cX8_count 96 = .ok (.aload_n 0, 1) := by decide +kernel
theorem dX8_count_97 : decode cX8_count 97 = .ok (.getfield 65, 3) := by decide +kernel
theorem dX8_count_100 : decode cX8_count 100 = .ok (.getfield 112, 3) := by decide +kernel
theorem dX8_count_103 : decode cX8_count 103 = .ok (.ireturn, 1) := by decide +kernel
theorem dX8_count_104 : decode cX8_count 104 = .ok (.aload_n 0, 1) := by decide +kernel
theorem dX8_count_105 : decode cX8_count 105 = .ok (.getfield 65, 3) := by decide +kernel
theorem dX8_count_108 : decode cX8_count 108 = .ok (.getfield 113, 3) := by decide +kernel
theorem dX8_count_111 : decode cX8_count 111 = .ok (.ireturn, 1) := by decide +kernel
theorem dX8_count_112 : decode cX8_count 112 = .ok (.aload_n 0, 1) := by decide +kernel
theorem dX8_count_113 : decode cX8_count 113 = .ok (.getfield 44, 3) := by decide +kernel
theorem dX8_count_116 : decode cX8_count 116 = .ok (.getfield 116, 3) := by decide +kernel
theorem dX8_count_119 : decode cX8_count 119 = .ok (.ireturn, 1) := by decide +kernel
theorem dX8_count_120 : decode cX8_count 120 = .ok (.aload_n 0, 1) := by decide +kernel
theorem dX8_count_121 : decode cX8_count 121 = .ok (.getfield 14, 3) := by decide +kernel
theorem dX8_count_124 : decode cX8_count 124 = .ok (.getfield 72, 3) := by decide +kernel
theorem dX8_count_127 : decode cX8_count 127 = .ok (.ireturn, 1) := by decide +kernel
theorem dX8_count_128 : decode cX8_count 128 = .ok (.aload_n 0, 1) := by decide +kernel
theorem dX8_count_129 : decode cX8_count 129 = .ok (.getfield 18, 3) := by decide +kernel
theorem dX8_count_132 : decode cX8_count 132 = .ok (.getfield 72, 3) := by decide +kernel
theorem dX8_count_135 : decode cX8_count 135 = .ok (.ireturn, 1) := by decide +kernel
theorem dX8_count_136 : decode cX8_count 136 = .ok (.iconst (-1), 1) := by decide +kernel
theorem dX8_count_137 : decode cX8_count 137 = .ok (.ireturn, 1) := by decide +kernel
abbrev mm_X8_count : ab_M := (RX8, 2, (some .int), false, 1, 22, none)
noncomputable def f_X8_count (a0 : Int) (a1 : Int) (h : ab_H) : Option (Int × ab_H) :=
  if a1 = (0 : Int) then
    (ab_get h 9 4 a0).bind fun t1 =>
    (ab_get h 1 0 t1).bind fun t2 =>
    some (t2, h)
  else
  if a1 = (1 : Int) then
    (ab_get h 9 4 a0).bind fun t3 =>
    (ab_on h 1 t3 (f_X0_termsOfAll t3 h)).bind fun q4 =>
    some (q4.1, q4.2)
  else
  if a1 = (2 : Int) then
    (ab_get h 9 4 a0).bind fun t5 =>
    (ab_get h 1 9 t5).bind fun t6 =>
    some (t6, h)
  else
  if a1 = (3 : Int) then
    (ab_get h 9 7 a0).bind fun t7 =>
    (ab_get h 8 0 t7).bind fun t8 =>
    some (t8, h)
  else
  if a1 = (4 : Int) then
    (ab_get h 9 9 a0).bind fun t9 =>
    (ab_get h 7 1 t9).bind fun t10 =>
    some (t10, h)
  else
  if a1 = (5 : Int) then
    (ab_get h 9 9 a0).bind fun t11 =>
    (ab_get h 7 3 t11).bind fun t12 =>
    some (t12, h)
  else
  if a1 = (6 : Int) then
    (ab_get h 9 9 a0).bind fun t13 =>
    (ab_get h 7 5 t13).bind fun t14 =>
    some (t14, h)
  else
  if a1 = (7 : Int) then
    (ab_get h 9 6 a0).bind fun t15 =>
    (ab_get h 4 2 t15).bind fun t16 =>
    some (t16, h)
  else
  if a1 = (8 : Int) then
    (ab_get h 9 0 a0).bind fun t17 =>
    (ab_get h 2 1 t17).bind fun t18 =>
    some (t18, h)
  else
  if a1 = (9 : Int) then
    (ab_get h 9 1 a0).bind fun t19 =>
    (ab_get h 2 1 t19).bind fun t20 =>
    some (t20, h)
  else
  some ((-1 : Int), h)
set_option maxRecDepth 20000 in
theorem ct_X8_count {a0 a1 : Int} {h : ab_H} {q : Int × ab_H} (hk : f_X8_count a0 a1 h = some q) : ab_CT yX8_count cX8_count 2 (some .int) 1 22 [ab_R a0, ab_I a1] h (some (ab_I q.1)) q.2 := by
  refine ab_CT.mk_ 0 (own := RX8) (ini := false) (lv := [some (ab_R a0), some (ab_I a1)]) rfl (by decide +kernel) (fun q => by cases q) rfl rfl ?_
  unfold f_X8_count at hk
  show ab_E mm_X8_count cX8_count 0 _ [] h _ _
  refine ab_iload_n (pc := 0) (i := 1) dX8_count_0 rfl rfl ?_
  by_cases hc : a1 = (0 : Int)
  · have hk := ab_ifp hk hc
    refine ab_tswIn (pc := 1) (v := (0 : Int)) (off := 55) (tgt := 56) dX8_count_1 hc ⟨by decide, by decide⟩ rfl rfl ?_
    refine ab_aload_n (pc := 56) (i := 0) dX8_count_56 rfl rfl ?_
    obtain ⟨t1, ht1, hk⟩ := ab_bnd hk
    refine ab_getR (pc := 57) dX8_count_57 fl_RX8_34 ht1 ?_
    obtain ⟨t2, ht2, hk⟩ := ab_bnd hk
    refine ab_getI (pc := 60) dX8_count_60 fl_RX8_102 ht2 ?_
    obtain rfl := Option.some.inj hk
    exact ab_reti (pc := 63) dX8_count_63 (Or.inl rfl)
  have hk := ab_ifn hk hc
  have hz0 := hc
  clear hc
  by_cases hc : a1 = (1 : Int)
  · have hk := ab_ifp hk hc
    refine ab_tswIn (pc := 1) (v := (1 : Int)) (off := 63) (tgt := 64) dX8_count_1 hc ⟨by decide, by decide⟩ rfl rfl ?_
    refine ab_aload_n (pc := 64) (i := 0) dX8_count_64 rfl rfl ?_
    obtain ⟨t3, ht3, hk⟩ := ab_bnd hk
    refine ab_getR (pc := 65) dX8_count_65 fl_RX8_34 ht3 ?_
    obtain ⟨q4, hq4, hk⟩ := ab_bnd hk
    obtain ⟨hb, hq4⟩ := ab_on_some hq4
    refine ab_callVI (st := []) (as := []) (b := t3) (pc := 68) dX8_count_68 ml_RX8_103 my_X0_termsOfAll mv_X0_termsOfAll hb (ct_X0_termsOfAll hq4) ⟨Nat.le_of_ble_eq_true rfl, Nat.le_of_ble_eq_true rfl⟩ rfl (Nat.le_of_ble_eq_true rfl) rfl ?_
    obtain rfl := Option.some.inj hk
    exact ab_reti (pc := 71) dX8_count_71 (Or.inl rfl)
  have hk := ab_ifn hk hc
  have hz1 := hc
  clear hc
  by_cases hc : a1 = (2 : Int)
  · have hk := ab_ifp hk hc
    refine ab_tswIn (pc := 1) (v := (2 : Int)) (off := 71) (tgt := 72) dX8_count_1 hc ⟨by decide, by decide⟩ rfl rfl ?_
    refine ab_aload_n (pc := 72) (i := 0) dX8_count_72 rfl rfl ?_
    obtain ⟨t5, ht5, hk⟩ := ab_bnd hk
    refine ab_getR (pc := 73) dX8_count_73 fl_RX8_34 ht5 ?_
    obtain ⟨t6, ht6, hk⟩ := ab_bnd hk
    refine ab_getI (pc := 76) dX8_count_76 fl_RX8_107 ht6 ?_
    obtain rfl := Option.some.inj hk
    exact ab_reti (pc := 79) dX8_count_79 (Or.inl rfl)
  have hk := ab_ifn hk hc
  have hz2 := hc
  clear hc
  by_cases hc : a1 = (3 : Int)
  · have hk := ab_ifp hk hc
    refine ab_tswIn (pc := 1) (v := (3 : Int)) (off := 79) (tgt := 80) dX8_count_1 hc ⟨by decide, by decide⟩ rfl rfl ?_
    refine ab_aload_n (pc := 80) (i := 0) dX8_count_80 rfl rfl ?_
    obtain ⟨t7, ht7, hk⟩ := ab_bnd hk
    refine ab_getR (pc := 81) dX8_count_81 fl_RX8_51 ht7 ?_
    obtain ⟨t8, ht8, hk⟩ := ab_bnd hk
    refine ab_getI (pc := 84) dX8_count_84 fl_RX8_110 ht8 ?_
    obtain rfl := Option.some.inj hk
    exact ab_reti (pc := 87) dX8_count_87 (Or.inl rfl)
  have hk := ab_ifn hk hc
  have hz3 := hc
  clear hc
  by_cases hc : a1 = (4 : Int)
  · have hk := ab_ifp hk hc
    refine ab_tswIn (pc := 1) (v := (4 : Int)) (off := 87) (tgt := 88) dX8_count_1 hc ⟨by decide, by decide⟩ rfl rfl ?_
    refine ab_aload_n (pc := 88) (i := 0) dX8_count_88 rfl rfl ?_
    obtain ⟨t9, ht9, hk⟩ := ab_bnd hk
    refine ab_getR (pc := 89) dX8_count_89 fl_RX8_65 ht9 ?_
    obtain ⟨t10, ht10, hk⟩ := ab_bnd hk
    refine ab_getI (pc := 92) dX8_count_92 fl_RX8_111 ht10 ?_
    obtain rfl := Option.some.inj hk
    exact ab_reti (pc := 95) dX8_count_95 (Or.inl rfl)
  have hk := ab_ifn hk hc
  have hz4 := hc
  clear hc
  by_cases hc : a1 = (5 : Int)
  · have hk := ab_ifp hk hc
    refine ab_tswIn (pc := 1) (v := (5 : Int)) (off := 95) (tgt := 96) dX8_count_1 hc ⟨by decide, by decide⟩ rfl rfl ?_
    refine ab_aload_n (pc := 96) (i := 0) dX8_count_96 rfl rfl ?_
    obtain ⟨t11, ht11, hk⟩ := ab_bnd hk
    refine ab_getR (pc := 97) dX8_count_97 fl_RX8_65 ht11 ?_
    obtain ⟨t12, ht12, hk⟩ := ab_bnd hk
    refine ab_getI (pc := 100) dX8_count_100 fl_RX8_112 ht12 ?_
    obtain rfl := Option.some.inj hk
    exact ab_reti (pc := 103) dX8_count_103 (Or.inl rfl)
  have hk := ab_ifn hk hc
  have hz5 := hc
  clear hc
  by_cases hc : a1 = (6 : Int)
  · have hk := ab_ifp hk hc
    refine ab_tswIn (pc := 1) (v := (6 : Int)) (off := 103) (tgt := 104) dX8_count_1 hc ⟨by decide, by decide⟩ rfl rfl ?_
    refine ab_aload_n (pc := 104) (i := 0) dX8_count_104 rfl rfl ?_
    obtain ⟨t13, ht13, hk⟩ := ab_bnd hk
    refine ab_getR (pc := 105) dX8_count_105 fl_RX8_65 ht13 ?_
    obtain ⟨t14, ht14, hk⟩ := ab_bnd hk
    refine ab_getI (pc := 108) dX8_count_108 fl_RX8_113 ht14 ?_
    obtain rfl := Option.some.inj hk
    exact ab_reti (pc := 111) dX8_count_111 (Or.inl rfl)
  have hk := ab_ifn hk hc
  have hz6 := hc
  clear hc
  by_cases hc : a1 = (7 : Int)
  · have hk := ab_ifp hk hc
    refine ab_tswIn (pc := 1) (v := (7 : Int)) (off := 111) (tgt := 112) dX8_count_1 hc ⟨by decide, by decide⟩ rfl rfl ?_
    refine ab_aload_n (pc := 112) (i := 0) dX8_count_112 rfl rfl ?_
    obtain ⟨t15, ht15, hk⟩ := ab_bnd hk
    refine ab_getR (pc := 113) dX8_count_113 fl_RX8_44 ht15 ?_
    obtain ⟨t16, ht16, hk⟩ := ab_bnd hk
    refine ab_getI (pc := 116) dX8_count_116 fl_RX8_116 ht16 ?_
    obtain rfl := Option.some.inj hk
    exact ab_reti (pc := 119) dX8_count_119 (Or.inl rfl)
  have hk := ab_ifn hk hc
  have hz7 := hc
  clear hc
  by_cases hc : a1 = (8 : Int)
  · have hk := ab_ifp hk hc
    refine ab_tswIn (pc := 1) (v := (8 : Int)) (off := 119) (tgt := 120) dX8_count_1 hc ⟨by decide, by decide⟩ rfl rfl ?_
    refine ab_aload_n (pc := 120) (i := 0) dX8_count_120 rfl rfl ?_
    obtain ⟨t17, ht17, hk⟩ := ab_bnd hk
    refine ab_getR (pc := 121) dX8_count_121 fl_RX8_14 ht17 ?_
    obtain ⟨t18, ht18, hk⟩ := ab_bnd hk
    refine ab_getI (pc := 124) dX8_count_124 fl_RX8_72 ht18 ?_
    obtain rfl := Option.some.inj hk
    exact ab_reti (pc := 127) dX8_count_127 (Or.inl rfl)
  have hk := ab_ifn hk hc
  have hz8 := hc
  clear hc
  by_cases hc : a1 = (9 : Int)
  · have hk := ab_ifp hk hc
    refine ab_tswIn (pc := 1) (v := (9 : Int)) (off := 127) (tgt := 128) dX8_count_1 hc ⟨by decide, by decide⟩ rfl rfl ?_
    refine ab_aload_n (pc := 128) (i := 0) dX8_count_128 rfl rfl ?_
    obtain ⟨t19, ht19, hk⟩ := ab_bnd hk
    refine ab_getR (pc := 129) dX8_count_129 fl_RX8_18 ht19 ?_
    obtain ⟨t20, ht20, hk⟩ := ab_bnd hk
    refine ab_getI (pc := 132) dX8_count_132 fl_RX8_72 ht20 ?_
    obtain rfl := Option.some.inj hk
    exact ab_reti (pc := 135) dX8_count_135 (Or.inl rfl)
  have hk := ab_ifn hk hc
  have hz9 := hc
  clear hc
  refine ab_tswOut (pc := 1) (tgt := 136) dX8_count_1 (by omega) rfl ?_
  refine ab_iconst (pc := 136) dX8_count_136 ab_k_m1 ?_
  obtain rfl := Option.some.inj hk
  exact ab_reti (pc := 137) dX8_count_137 (Or.inl rfl)
theorem dX8_isString_0 : decode cX8_isString 0 = .ok (.iload_n 1, 1) := by decide +kernel
theorem dX8_isString_1 : decode cX8_isString 1 = .ok (.ifCond .lt 18, 3) := by decide +kernel
theorem dX8_isString_4 : decode cX8_isString 4 = .ok (.iload_n 1, 1) := by decide +kernel
theorem dX8_isString_5 : decode cX8_isString 5 = .ok (.aload_n 0, 1) := by decide +kernel
theorem dX8_isString_6 : decode cX8_isString 6 = .ok (.getfield 34, 3) := by decide +kernel
theorem dX8_isString_9 : decode cX8_isString 9 = .ok (.getfield 102, 3) := by decide +kernel
theorem dX8_isString_12 : decode cX8_isString 12 = .ok (.if_icmp .ge 7, 3) := by decide +kernel
theorem dX8_isString_15 : decode cX8_isString 15 = .ok (.iconst 1, 1) := by decide +kernel
theorem dX8_isString_16 : decode cX8_isString 16 = .ok (.goto 4, 3) := by decide +kernel
theorem dX8_isString_19 : decode cX8_isString 19 = .ok (.iconst 0, 1) := by decide +kernel
theorem dX8_isString_20 : decode cX8_isString 20 = .ok (.ireturn, 1) := by decide +kernel
abbrev mm_X8_isString : ab_M := (RX8, 2, (some .boolean), false, 0, 0, none)
noncomputable def f_X8_isString_J19 (h : ab_H) : Option (Int × ab_H) :=
  some ((0 : Int), h)
set_option maxRecDepth 20000 in
theorem e_X8_isString_J19 : ∀ (h : ab_H) (q : Int × ab_H), f_X8_isString_J19  h = some q → ab_E mm_X8_isString cX8_isString 19 [none, none] [] h (some (ab_I q.1)) q.2 := by
  intro  h q hk
  unfold f_X8_isString_J19 at hk
  refine ab_iconst (pc := 19) dX8_isString_19 ab_k_0 ?_
  obtain rfl := Option.some.inj hk
  exact ab_retz (pc := 20) dX8_isString_20 rfl rfl
noncomputable def f_X8_isString (a0 : Int) (a1 : Int) (h : ab_H) : Option (Int × ab_H) :=
  if a1 < (0 : Int) then
    f_X8_isString_J19 h
  else
  (ab_get h 9 4 a0).bind fun t1 =>
  (ab_get h 1 0 t1).bind fun t2 =>
  if t2 ≤ a1 then
    f_X8_isString_J19 h
  else
  some ((1 : Int), h)
set_option maxRecDepth 20000 in
theorem ct_X8_isString {a0 a1 : Int} {h : ab_H} {q : Int × ab_H} (hk : f_X8_isString a0 a1 h = some q) : ab_CT yX8_isString cX8_isString 2 (some .boolean) 0 0 [ab_R a0, ab_I a1] h (some (ab_I q.1)) q.2 := by
  refine ab_CT.mk_ 0 (own := RX8) (ini := false) (lv := [some (ab_R a0), some (ab_I a1)]) rfl (by decide +kernel) (fun q => by cases q) rfl rfl ?_
  unfold f_X8_isString at hk
  show ab_E mm_X8_isString cX8_isString 0 _ [] h _ _
  refine ab_iload_n (pc := 0) (i := 1) dX8_isString_0 rfl rfl ?_
  refine ab_if_lt (pc := 1) (tgt := 19) dX8_isString_1 rfl (fun hc => ?_) (fun hc => ?_)
  · have hk := ab_ifp hk hc
    refine ab_sub_ (lv2 := [none, none]) (ab_sn (ab_sn ab_s0)) ?_
    exact e_X8_isString_J19  _ _ hk
  · have hk := ab_ifn hk hc
    refine ab_iload_n (pc := 4) (i := 1) dX8_isString_4 rfl rfl ?_
    refine ab_aload_n (pc := 5) (i := 0) dX8_isString_5 rfl rfl ?_
    obtain ⟨t1, ht1, hk⟩ := ab_bnd hk
    refine ab_getR (pc := 6) dX8_isString_6 fl_RX8_34 ht1 ?_
    obtain ⟨t2, ht2, hk⟩ := ab_bnd hk
    refine ab_getI (pc := 9) dX8_isString_9 fl_RX8_102 ht2 ?_
    refine ab_icmp_ge (pc := 12) (tgt := 19) dX8_isString_12 rfl (fun hc => ?_) (fun hc => ?_)
    · have hk := ab_ifp hk hc
      refine ab_sub_ (lv2 := [none, none]) (ab_sn (ab_sn ab_s0)) ?_
      exact e_X8_isString_J19  _ _ hk
    · have hk := ab_ifn hk hc
      refine ab_iconst (pc := 15) dX8_isString_15 ab_k_1 ?_
      refine ab_goto (pc := 16) (tgt := 20) dX8_isString_16 rfl ?_
      obtain rfl := Option.some.inj hk
      exact ab_retz (pc := 20) dX8_isString_20 rfl rfl
theorem dX8_string_0 : decode cX8_string 0 = .ok (.aload_n 0, 1) := by decide +kernel
theorem dX8_string_1 : decode cX8_string 1 = .ok (.iload_n 1, 1) := by decide +kernel
theorem dX8_string_2 : decode cX8_string 2 = .ok (.invokevirtual 117, 3) := by decide +kernel
theorem dX8_string_5 : decode cX8_string 5 = .ok (.ifCond .ne 6, 3) := by decide +kernel
theorem dX8_string_8 : decode cX8_string 8 = .ok (.bipush (-2), 2) := by decide +kernel
theorem dX8_string_10 : decode cX8_string 10 = .ok (.ireturn, 1) := by decide +kernel
theorem dX8_string_11 : decode cX8_string 11 = .ok (.iload_n 2, 1) := by decide +kernel
theorem dX8_string_12 : decode cX8_string 12 = .ok (.tableswitch 83 0 4 #[36, 46, 56, 65, 74], 36) := by decide +kernel
theorem dX8_string_48 : decode cX8_string 48 = .ok (.aload_n 0, 1) := by decide +kernel
theorem dX8_string_49 : decode cX8_string 49 = .ok (.getfield 34, 3) := by decide +kernel
theorem dX8_string_52 : decode cX8_string 52 = .ok (.getfield 121, 3) := by decide +kernel
theorem dX8_string_55 : decode cX8_string 55 = .ok (.iload_n 1, 1) := by decide +kernel
theorem dX8_string_56 : decode cX8_string 56 = .ok (.iaload, 1) := by decide +kernel
theorem dX8_string_57 : decode cX8_string 57 = .ok (.ireturn, 1) := by decide +kernel
theorem dX8_string_58 : decode cX8_string 58 = .ok (.aload_n 0, 1) := by decide +kernel
theorem dX8_string_59 : decode cX8_string 59 = .ok (.getfield 34, 3) := by decide +kernel
theorem dX8_string_62 : decode cX8_string 62 = .ok (.getfield 125, 3) := by decide +kernel
theorem dX8_string_65 : decode cX8_string 65 = .ok (.iload_n 1, 1) := by decide +kernel
theorem dX8_string_66 : decode cX8_string 66 = .ok (.iaload, 1) := by decide +kernel
theorem dX8_string_67 : decode cX8_string 67 = .ok (.ireturn, 1) := by decide +kernel
theorem dX8_string_68 : decode cX8_string 68 = .ok (.aload_n 0, 1) := by decide +kernel
theorem dX8_string_69 : decode cX8_string 69 = .ok (.getfield 34, 3) := by decide +kernel
theorem dX8_string_72 : decode cX8_string 72 = .ok (.iload_n 1, 1) := by decide +kernel
theorem dX8_string_73 : decode cX8_string 73 = .ok (.invokevirtual 128, 3) := by decide +kernel
theorem dX8_string_76 : decode cX8_string 76 = .ok (.ireturn, 1) := by decide +kernel
theorem dX8_string_77 : decode cX8_string 77 = .ok (.aload_n 0, 1) := by decide +kernel
theorem dX8_string_78 : decode cX8_string 78 = .ok (.getfield 65, 3) := by decide +kernel
theorem dX8_string_81 : decode cX8_string 81 = .ok (.iload_n 1, 1) := by decide +kernel
theorem dX8_string_82 : decode cX8_string 82 = .ok (.invokevirtual 132, 3) := by decide +kernel
theorem dX8_string_85 : decode cX8_string 85 = .ok (.ireturn, 1) := by decide +kernel
theorem dX8_string_86 : decode cX8_string 86 = .ok (.aload_n 0, 1) := by decide +kernel
theorem dX8_string_87 : decode cX8_string 87 = .ok (.getfield 58, 3) := by decide +kernel
theorem dX8_string_90 : decode cX8_string 90 = .ok (.iload_n 1, 1) := by decide +kernel
theorem dX8_string_91 : decode cX8_string 91 = .ok (.invokevirtual 135, 3) := by decide +kernel
theorem dX8_string_94 : decode cX8_string 94 = .ok (.ireturn, 1) := by decide +kernel
theorem dX8_string_95 : decode cX8_string 95 = .ok (.bipush (-2), 2) := by decide +kernel
theorem dX8_string_97 : decode cX8_string 97 = .ok (.ireturn, 1) := by decide +kernel
abbrev mm_X8_string : ab_M := (RX8, 3, (some .int), false, 2, 43, none)
noncomputable def f_X8_string (a0 : Int) (a1 : Int) (a2 : Int) (h : ab_H) : Option (Int × ab_H) :=
  (ab_on h 9 a0 (f_X8_isString a0 a1 h)).bind fun q1 =>
  if q1.1 = (0 : Int) then
    some ((-2 : Int), q1.2)
  else
  if a2 = (0 : Int) then
    (ab_get q1.2 9 4 a0).bind fun t2 =>
    (ab_get q1.2 1 1 t2).bind fun t3 =>
    (ab_ald q1.2 11 t3 a1).bind fun t4 =>
    some (t4, q1.2)
  else
  if a2 = (1 : Int) then
    (ab_get q1.2 9 4 a0).bind fun t5 =>
    (ab_get q1.2 1 2 t5).bind fun t6 =>
    (ab_ald q1.2 11 t6 a1).bind fun t7 =>
    some (t7, q1.2)
  else
  if a2 = (2 : Int) then
    (ab_get q1.2 9 4 a0).bind fun t8 =>
    (ab_on q1.2 1 t8 (f_X0_leadingOf t8 a1 q1.2)).bind fun q9 =>
    some (q9.1, q9.2)
  else
  if a2 = (3 : Int) then
    (ab_get q1.2 9 9 a0).bind fun t10 =>
    (ab_on q1.2 7 t10 (f_X6_doublesOf t10 a1 q1.2)).bind fun q11 =>
    some (q11.1, q11.2)
  else
  if a2 = (4 : Int) then
    (ab_get q1.2 9 8 a0).bind fun t12 =>
    (ab_on q1.2 6 t12 (f_X5_repeatedIn t12 a1 q1.2)).bind fun q13 =>
    some (q13.1, q13.2)
  else
  some ((-2 : Int), q1.2)
set_option maxRecDepth 20000 in
theorem ct_X8_string {a0 a1 a2 : Int} {h : ab_H} {q : Int × ab_H} (hk : f_X8_string a0 a1 a2 h = some q) : ab_CT yX8_string cX8_string 3 (some .int) 2 43 [ab_R a0, ab_I a1, ab_I a2] h (some (ab_I q.1)) q.2 := by
  refine ab_CT.mk_ 0 (own := RX8) (ini := false) (lv := [some (ab_R a0), some (ab_I a1), some (ab_I a2)]) rfl (by decide +kernel) (fun q => by cases q) rfl rfl ?_
  unfold f_X8_string at hk
  show ab_E mm_X8_string cX8_string 0 _ [] h _ _
  refine ab_aload_n (pc := 0) (i := 0) dX8_string_0 rfl rfl ?_
  refine ab_iload_n (pc := 1) (i := 1) dX8_string_1 rfl rfl ?_
  obtain ⟨q1, hq1, hk⟩ := ab_bnd hk
  obtain ⟨hb, hq1⟩ := ab_on_some hq1
  refine ab_callVI (st := []) (as := [ab_I a1]) (b := a0) (pc := 2) dX8_string_2 ml_RX8_117 my_X8_isString mv_X8_isString hb (ct_X8_isString hq1) ⟨Nat.le_of_ble_eq_true rfl, Nat.le_of_ble_eq_true rfl⟩ rfl (Nat.le_of_ble_eq_true rfl) rfl ?_
  refine ab_if_ne (pc := 5) (tgt := 11) dX8_string_5 rfl (fun hc => ?_) (fun hc => ?_)
  · have hk := ab_ifn hk hc
    refine ab_iload_n (pc := 11) (i := 2) dX8_string_11 rfl rfl ?_
    by_cases hc : a2 = (0 : Int)
    · have hk := ab_ifp hk hc
      refine ab_tswIn (pc := 12) (v := (0 : Int)) (off := 36) (tgt := 48) dX8_string_12 hc ⟨by decide, by decide⟩ rfl rfl ?_
      refine ab_aload_n (pc := 48) (i := 0) dX8_string_48 rfl rfl ?_
      obtain ⟨t2, ht2, hk⟩ := ab_bnd hk
      refine ab_getR (pc := 49) dX8_string_49 fl_RX8_34 ht2 ?_
      obtain ⟨t3, ht3, hk⟩ := ab_bnd hk
      refine ab_getR (pc := 52) dX8_string_52 fl_RX8_121 ht3 ?_
      refine ab_iload_n (pc := 55) (i := 1) dX8_string_55 rfl rfl ?_
      obtain ⟨t4, ht4, hk⟩ := ab_bnd hk
      refine ab_iald (pc := 56) dX8_string_56 ht4 ?_
      obtain rfl := Option.some.inj hk
      exact ab_reti (pc := 57) dX8_string_57 (Or.inl rfl)
    have hk := ab_ifn hk hc
    have hz0 := hc
    clear hc
    by_cases hc : a2 = (1 : Int)
    · have hk := ab_ifp hk hc
      refine ab_tswIn (pc := 12) (v := (1 : Int)) (off := 46) (tgt := 58) dX8_string_12 hc ⟨by decide, by decide⟩ rfl rfl ?_
      refine ab_aload_n (pc := 58) (i := 0) dX8_string_58 rfl rfl ?_
      obtain ⟨t5, ht5, hk⟩ := ab_bnd hk
      refine ab_getR (pc := 59) dX8_string_59 fl_RX8_34 ht5 ?_
      obtain ⟨t6, ht6, hk⟩ := ab_bnd hk
      refine ab_getR (pc := 62) dX8_string_62 fl_RX8_125 ht6 ?_
      refine ab_iload_n (pc := 65) (i := 1) dX8_string_65 rfl rfl ?_
      obtain ⟨t7, ht7, hk⟩ := ab_bnd hk
      refine ab_iald (pc := 66) dX8_string_66 ht7 ?_
      obtain rfl := Option.some.inj hk
      exact ab_reti (pc := 67) dX8_string_67 (Or.inl rfl)
    have hk := ab_ifn hk hc
    have hz1 := hc
    clear hc
    by_cases hc : a2 = (2 : Int)
    · have hk := ab_ifp hk hc
      refine ab_tswIn (pc := 12) (v := (2 : Int)) (off := 56) (tgt := 68) dX8_string_12 hc ⟨by decide, by decide⟩ rfl rfl ?_
      refine ab_aload_n (pc := 68) (i := 0) dX8_string_68 rfl rfl ?_
      obtain ⟨t8, ht8, hk⟩ := ab_bnd hk
      refine ab_getR (pc := 69) dX8_string_69 fl_RX8_34 ht8 ?_
      refine ab_iload_n (pc := 72) (i := 1) dX8_string_72 rfl rfl ?_
      obtain ⟨q9, hq9, hk⟩ := ab_bnd hk
      obtain ⟨hb, hq9⟩ := ab_on_some hq9
      refine ab_callVI (st := []) (as := [ab_I a1]) (b := t8) (pc := 73) dX8_string_73 ml_RX8_128 my_X0_leadingOf mv_X0_leadingOf hb (ct_X0_leadingOf hq9) ⟨Nat.le_of_ble_eq_true rfl, Nat.le_of_ble_eq_true rfl⟩ rfl (Nat.le_of_ble_eq_true rfl) rfl ?_
      obtain rfl := Option.some.inj hk
      exact ab_reti (pc := 76) dX8_string_76 (Or.inl rfl)
    have hk := ab_ifn hk hc
    have hz2 := hc
    clear hc
    by_cases hc : a2 = (3 : Int)
    · have hk := ab_ifp hk hc
      refine ab_tswIn (pc := 12) (v := (3 : Int)) (off := 65) (tgt := 77) dX8_string_12 hc ⟨by decide, by decide⟩ rfl rfl ?_
      refine ab_aload_n (pc := 77) (i := 0) dX8_string_77 rfl rfl ?_
      obtain ⟨t10, ht10, hk⟩ := ab_bnd hk
      refine ab_getR (pc := 78) dX8_string_78 fl_RX8_65 ht10 ?_
      refine ab_iload_n (pc := 81) (i := 1) dX8_string_81 rfl rfl ?_
      obtain ⟨q11, hq11, hk⟩ := ab_bnd hk
      obtain ⟨hb, hq11⟩ := ab_on_some hq11
      refine ab_callVI (st := []) (as := [ab_I a1]) (b := t10) (pc := 82) dX8_string_82 ml_RX8_132 my_X6_doublesOf mv_X6_doublesOf hb (ct_X6_doublesOf hq11) ⟨Nat.le_of_ble_eq_true rfl, Nat.le_of_ble_eq_true rfl⟩ rfl (Nat.le_of_ble_eq_true rfl) rfl ?_
      obtain rfl := Option.some.inj hk
      exact ab_reti (pc := 85) dX8_string_85 (Or.inl rfl)
    have hk := ab_ifn hk hc
    have hz3 := hc
    clear hc
    by_cases hc : a2 = (4 : Int)
    · have hk := ab_ifp hk hc
      refine ab_tswIn (pc := 12) (v := (4 : Int)) (off := 74) (tgt := 86) dX8_string_12 hc ⟨by decide, by decide⟩ rfl rfl ?_
      refine ab_aload_n (pc := 86) (i := 0) dX8_string_86 rfl rfl ?_
      obtain ⟨t12, ht12, hk⟩ := ab_bnd hk
      refine ab_getR (pc := 87) dX8_string_87 fl_RX8_58 ht12 ?_
      refine ab_iload_n (pc := 90) (i := 1) dX8_string_90 rfl rfl ?_
      obtain ⟨q13, hq13, hk⟩ := ab_bnd hk
      obtain ⟨hb, hq13⟩ := ab_on_some hq13
      refine ab_callVI (st := []) (as := [ab_I a1]) (b := t12) (pc := 91) dX8_string_91 ml_RX8_135 my_X5_repeatedIn mv_X5_repeatedIn hb (ct_X5_repeatedIn hq13) ⟨Nat.le_of_ble_eq_true rfl, Nat.le_of_ble_eq_true rfl⟩ rfl (Nat.le_of_ble_eq_true rfl) rfl ?_
      obtain rfl := Option.some.inj hk
      exact ab_reti (pc := 94) dX8_string_94 (Or.inl rfl)
    have hk := ab_ifn hk hc
    have hz4 := hc
    clear hc
    refine ab_tswOut (pc := 12) (tgt := 95) dX8_string_12 (by omega) rfl ?_
    refine ab_bipush (pc := 95) dX8_string_95 ab_p8_m2 ab_k_m2 ?_
    obtain rfl := Option.some.inj hk
    exact ab_reti (pc := 97) dX8_string_97 (Or.inl rfl)
  · have hk := ab_ifp hk hc
    refine ab_bipush (pc := 8) dX8_string_8 ab_p8_m2 ab_k_m2 ?_
    obtain rfl := Option.some.inj hk
    exact ab_reti (pc := 10) dX8_string_10 (Or.inl rfl)
theorem dX8_isTerm_0 : decode cX8_isTerm 0 = .ok (.aload_n 0, 1) := by decide +kernel
theorem dX8_isTerm_1 : decode cX8_isTerm 1 = .ok (.iload_n 1, 1) := by decide +kernel
theorem dX8_isTerm_2 : decode cX8_isTerm 2 = .ok (.invokevirtual 117, 3) := by decide +kernel
theorem dX8_isTerm_5 : decode cX8_isTerm 5 = .ok (.ifCond .eq 24, 3) := by decide +kernel
theorem dX8_isTerm_8 : decode cX8_isTerm 8 = .ok (.iload_n 2, 1) := by decide +kernel
theorem dX8_isTerm_9 : decode cX8_isTerm 9 = .ok (.ifCond .lt 20, 3) := by decide +kernel
theorem dX8_isTerm_12 : decode cX8_isTerm 12 = .ok (.iload_n 2, 1) := by decide +kernel
theorem dX8_isTerm_13 : decode cX8_isTerm 13 = .ok (.aload_n 0, 1) := by decide +kernel
theorem dX8_isTerm_14 : decode cX8_isTerm 14 = .ok (.getfield 34, 3) := by decide +kernel
theorem dX8_isTerm_17 : decode cX8_isTerm 17 = .ok (.getfield 125, 3) := by decide +kernel
theorem dX8_isTerm_20 : decode cX8_isTerm 20 = .ok (.iload_n 1, 1) := by decide +kernel
theorem dX8_isTerm_21 : decode cX8_isTerm 21 = .ok (.iaload, 1) := by decide +kernel
theorem dX8_isTerm_22 : decode cX8_isTerm 22 = .ok (.if_icmp .ge 7, 3) := by decide +kernel
theorem dX8_isTerm_25 : decode cX8_isTerm 25 = .ok (.iconst 1, 1) := by decide +kernel
theorem dX8_isTerm_26 : decode cX8_isTerm 26 = .ok (.goto 4, 3) := by decide +kernel
theorem dX8_isTerm_29 : decode cX8_isTerm 29 = .ok (.iconst 0, 1) := by decide +kernel
theorem dX8_isTerm_30 : decode cX8_isTerm 30 = .ok (.ireturn, 1) := by decide +kernel
abbrev mm_X8_isTerm : ab_M := (RX8, 3, (some .boolean), false, 1, 21, none)
noncomputable def f_X8_isTerm_J29 (h : ab_H) : Option (Int × ab_H) :=
  some ((0 : Int), h)
set_option maxRecDepth 20000 in
theorem e_X8_isTerm_J29 : ∀ (h : ab_H) (q : Int × ab_H), f_X8_isTerm_J29  h = some q → ab_E mm_X8_isTerm cX8_isTerm 29 [none, none, none] [] h (some (ab_I q.1)) q.2 := by
  intro  h q hk
  unfold f_X8_isTerm_J29 at hk
  refine ab_iconst (pc := 29) dX8_isTerm_29 ab_k_0 ?_
  obtain rfl := Option.some.inj hk
  exact ab_retz (pc := 30) dX8_isTerm_30 rfl rfl
noncomputable def f_X8_isTerm (a0 : Int) (a1 : Int) (a2 : Int) (h : ab_H) : Option (Int × ab_H) :=
  (ab_on h 9 a0 (f_X8_isString a0 a1 h)).bind fun q1 =>
  if q1.1 = (0 : Int) then
    f_X8_isTerm_J29 q1.2
  else
  if a2 < (0 : Int) then
    f_X8_isTerm_J29 q1.2
  else
  (ab_get q1.2 9 4 a0).bind fun t2 =>
  (ab_get q1.2 1 2 t2).bind fun t3 =>
  (ab_ald q1.2 11 t3 a1).bind fun t4 =>
  if t4 ≤ a2 then
    f_X8_isTerm_J29 q1.2
  else
  some ((1 : Int), q1.2)
set_option maxRecDepth 20000 in
theorem ct_X8_isTerm {a0 a1 a2 : Int} {h : ab_H} {q : Int × ab_H} (hk : f_X8_isTerm a0 a1 a2 h = some q) : ab_CT yX8_isTerm cX8_isTerm 3 (some .boolean) 1 21 [ab_R a0, ab_I a1, ab_I a2] h (some (ab_I q.1)) q.2 := by
  refine ab_CT.mk_ 0 (own := RX8) (ini := false) (lv := [some (ab_R a0), some (ab_I a1), some (ab_I a2)]) rfl (by decide +kernel) (fun q => by cases q) rfl rfl ?_
  unfold f_X8_isTerm at hk
  show ab_E mm_X8_isTerm cX8_isTerm 0 _ [] h _ _
  refine ab_aload_n (pc := 0) (i := 0) dX8_isTerm_0 rfl rfl ?_
  refine ab_iload_n (pc := 1) (i := 1) dX8_isTerm_1 rfl rfl ?_
  obtain ⟨q1, hq1, hk⟩ := ab_bnd hk
  obtain ⟨hb, hq1⟩ := ab_on_some hq1
  refine ab_callVI (st := []) (as := [ab_I a1]) (b := a0) (pc := 2) dX8_isTerm_2 ml_RX8_117 my_X8_isString mv_X8_isString hb (ct_X8_isString hq1) ⟨Nat.le_of_ble_eq_true rfl, Nat.le_of_ble_eq_true rfl⟩ rfl (Nat.le_of_ble_eq_true rfl) rfl ?_
  refine ab_if_eq (pc := 5) (tgt := 29) dX8_isTerm_5 rfl (fun hc => ?_) (fun hc => ?_)
  · have hk := ab_ifp hk hc
    refine ab_sub_ (lv2 := [none, none, none]) (ab_sn (ab_sn (ab_sn ab_s0))) ?_
    exact e_X8_isTerm_J29  _ _ hk
  · have hk := ab_ifn hk hc
    refine ab_iload_n (pc := 8) (i := 2) dX8_isTerm_8 rfl rfl ?_
    refine ab_if_lt (pc := 9) (tgt := 29) dX8_isTerm_9 rfl (fun hc => ?_) (fun hc => ?_)
    · have hk := ab_ifp hk hc
      refine ab_sub_ (lv2 := [none, none, none]) (ab_sn (ab_sn (ab_sn ab_s0))) ?_
      exact e_X8_isTerm_J29  _ _ hk
    · have hk := ab_ifn hk hc
      refine ab_iload_n (pc := 12) (i := 2) dX8_isTerm_12 rfl rfl ?_
      refine ab_aload_n (pc := 13) (i := 0) dX8_isTerm_13 rfl rfl ?_
      obtain ⟨t2, ht2, hk⟩ := ab_bnd hk
      refine ab_getR (pc := 14) dX8_isTerm_14 fl_RX8_34 ht2 ?_
      obtain ⟨t3, ht3, hk⟩ := ab_bnd hk
      refine ab_getR (pc := 17) dX8_isTerm_17 fl_RX8_125 ht3 ?_
      refine ab_iload_n (pc := 20) (i := 1) dX8_isTerm_20 rfl rfl ?_
      obtain ⟨t4, ht4, hk⟩ := ab_bnd hk
      refine ab_iald (pc := 21) dX8_isTerm_21 ht4 ?_
      refine ab_icmp_ge (pc := 22) (tgt := 29) dX8_isTerm_22 rfl (fun hc => ?_) (fun hc => ?_)
      · have hk := ab_ifp hk hc
        refine ab_sub_ (lv2 := [none, none, none]) (ab_sn (ab_sn (ab_sn ab_s0))) ?_
        exact e_X8_isTerm_J29  _ _ hk
      · have hk := ab_ifn hk hc
        refine ab_iconst (pc := 25) dX8_isTerm_25 ab_k_1 ?_
        refine ab_goto (pc := 26) (tgt := 30) dX8_isTerm_26 rfl ?_
        obtain rfl := Option.some.inj hk
        exact ab_retz (pc := 30) dX8_isTerm_30 rfl rfl
theorem dX8_term_0 : decode cX8_term 0 = .ok (.aload_n 0, 1) := by decide +kernel
theorem dX8_term_1 : decode cX8_term 1 = .ok (.iload_n 1, 1) := by decide +kernel
theorem dX8_term_2 : decode cX8_term 2 = .ok (.iload_n 2, 1) := by decide +kernel
theorem dX8_term_3 : decode cX8_term 3 = .ok (.invokevirtual 138, 3) := by decide +kernel
theorem dX8_term_6 : decode cX8_term 6 = .ok (.ifCond .ne 6, 3) := by decide +kernel
theorem dX8_term_9 : decode cX8_term 9 = .ok (.bipush (-2), 2) := by decide +kernel
theorem dX8_term_11 : decode cX8_term 11 = .ok (.ireturn, 1) := by decide +kernel
theorem dX8_term_12 : decode cX8_term 12 = .ok (.iload_n 1, 1) := by decide +kernel
theorem dX8_term_13 : decode cX8_term 13 = .ok (.bipush 6, 2) := by decide +kernel
theorem dX8_term_15 : decode cX8_term 15 = .ok (.imul, 1) := by decide +kernel
theorem dX8_term_16 : decode cX8_term 16 = .ok (.iload_n 2, 1) := by decide +kernel
theorem dX8_term_17 : decode cX8_term 17 = .ok (.iadd, 1) := by decide +kernel
theorem dX8_term_18 : decode cX8_term 18 = .ok (.istore 4, 2) := by decide +kernel
theorem dX8_term_20 : decode cX8_term 20 = .ok (.iload_n 3, 1) := by decide +kernel
theorem dX8_term_21 : decode cX8_term 21 = .ok (.tableswitch 96 0 4 #[35, 46, 57, 68, 82], 35) := by decide +kernel
theorem dX8_term_56 : decode cX8_term 56 = .ok (.aload_n 0, 1) := by decide +kernel
theorem dX8_term_57 : decode cX8_term 57 = .ok (.getfield 34, 3) := by decide +kernel
theorem dX8_term_60 : decode cX8_term 60 = .ok (.getfield 142, 3) := by decide +kernel
theorem dX8_term_63 : decode cX8_term 63 = .ok (.iload 4, 2) := by decide +kernel
theorem dX8_term_65 : decode cX8_term 65 = .ok (.iaload, 1) := by decide +kernel
theorem dX8_term_66 : decode cX8_term 66 = .ok (.ireturn, 1) := by decide +kernel
theorem dX8_term_67 : decode cX8_term 67 = .ok (.aload_n 0, 1) := by decide +kernel
theorem dX8_term_68 : decode cX8_term 68 = .ok (.getfield 34, 3) := by decide +kernel
theorem dX8_term_71 : decode cX8_term 71 = .ok (.getfield 145, 3) := by decide +kernel
theorem dX8_term_74 : decode cX8_term 74 = .ok (.iload 4, 2) := by decide +kernel
theorem dX8_term_76 : decode cX8_term 76 = .ok (.iaload, 1) := by decide +kernel
theorem dX8_term_77 : decode cX8_term 77 = .ok (.ireturn, 1) := by decide +kernel
theorem dX8_term_78 : decode cX8_term 78 = .ok (.aload_n 0, 1) := by decide +kernel
theorem dX8_term_79 : decode cX8_term 79 = .ok (.getfield 58, 3) := by decide +kernel
theorem dX8_term_82 : decode cX8_term 82 = .ok (.getfield 148, 3) := by decide +kernel
theorem dX8_term_85 : decode cX8_term 85 = .ok (.iload 4, 2) := by decide +kernel
theorem dX8_term_87 : decode cX8_term 87 = .ok (.iaload, 1) := by decide +kernel
theorem dX8_term_88 : decode cX8_term 88 = .ok (.ireturn, 1) := by decide +kernel
theorem dX8_term_89 : decode cX8_term 89 = .ok (.aload_n 0, 1) := by decide +kernel
theorem dX8_term_90 : decode cX8_term 90 = .ok (.getfield 58, 3) := by decide +kernel
theorem dX8_term_93 : decode cX8_term 93 = .ok (.getfield 150, 3) := by decide +kernel
theorem dX8_term_96 : decode cX8_term 96 = .ok (.iload 4, 2) := by decide +kernel
theorem dX8_term_98 : decode cX8_term 98 = .ok (.laload, 1) := by decide +kernel
theorem dX8_term_99 : decode cX8_term 99 = .ok (.invokestatic 154, 3) := by decide +kernel
theorem dX8_term_102 : decode cX8_term 102 = .ok (.ireturn, 1) := by decide +kernel
theorem dX8_term_103 : decode cX8_term 103 = .ok (.aload_n 0, 1) := by decide +kernel
theorem dX8_term_104 : decode cX8_term 104 = .ok (.getfield 58, 3) := by decide +kernel
theorem dX8_term_107 : decode cX8_term 107 = .ok (.getfield 158, 3) := by decide +kernel
theorem dX8_term_110 : decode cX8_term 110 = .ok (.iload 4, 2) := by decide +kernel
theorem dX8_term_112 : decode cX8_term 112 = .ok (.laload, 1) := by decide +kernel
theorem dX8_term_113 : decode cX8_term 113 = .ok (.invokestatic 154, 3) := by decide +kernel
theorem dX8_term_116 : decode cX8_term 116 = .ok (.ireturn, 1) := by decide +kernel
theorem dX8_term_117 : decode cX8_term 117 = .ok (.bipush (-2), 2) := by decide +kernel
theorem dX8_term_119 : decode cX8_term 119 = .ok (.ireturn, 1) := by decide +kernel
abbrev mm_X8_term : ab_M := (RX8, 5, (some .int), false, 2, 45, none)
noncomputable def f_X8_term (a0 : Int) (a1 : Int) (a2 : Int) (a3 : Int) (h : ab_H) : Option (Int × ab_H) :=
  (ab_on h 9 a0 (f_X8_isTerm a0 a1 a2 h)).bind fun q1 =>
  if q1.1 = (0 : Int) then
    some ((-2 : Int), q1.2)
  else
  if a3 = (0 : Int) then
    (ab_get q1.2 9 4 a0).bind fun t2 =>
    (ab_get q1.2 1 3 t2).bind fun t3 =>
    (ab_ald q1.2 11 t3 (ab_w32 ((ab_w32 (a1 * (6 : Int))) + a2))).bind fun t4 =>
    some (t4, q1.2)
  else
  if a3 = (1 : Int) then
    (ab_get q1.2 9 4 a0).bind fun t5 =>
    (ab_get q1.2 1 4 t5).bind fun t6 =>
    (ab_ald q1.2 11 t6 (ab_w32 ((ab_w32 (a1 * (6 : Int))) + a2))).bind fun t7 =>
    some (t7, q1.2)
  else
  if a3 = (2 : Int) then
    (ab_get q1.2 9 8 a0).bind fun t8 =>
    (ab_get q1.2 6 3 t8).bind fun t9 =>
    (ab_ald q1.2 11 t9 (ab_w32 ((ab_w32 (a1 * (6 : Int))) + a2))).bind fun t10 =>
    some (t10, q1.2)
  else
  if a3 = (3 : Int) then
    (ab_get q1.2 9 8 a0).bind fun t11 =>
    (ab_get q1.2 6 4 t11).bind fun t12 =>
    (ab_ald q1.2 12 t12 (ab_w32 ((ab_w32 (a1 * (6 : Int))) + a2))).bind fun t13 =>
    (f_X8_lettersOf t13 q1.2).bind fun q14 =>
    some (q14.1, q14.2)
  else
  if a3 = (4 : Int) then
    (ab_get q1.2 9 8 a0).bind fun t15 =>
    (ab_get q1.2 6 5 t15).bind fun t16 =>
    (ab_ald q1.2 12 t16 (ab_w32 ((ab_w32 (a1 * (6 : Int))) + a2))).bind fun t17 =>
    (f_X8_lettersOf t17 q1.2).bind fun q18 =>
    some (q18.1, q18.2)
  else
  some ((-2 : Int), q1.2)
set_option maxRecDepth 20000 in
theorem ct_X8_term {a0 a1 a2 a3 : Int} {h : ab_H} {q : Int × ab_H} (hk : f_X8_term a0 a1 a2 a3 h = some q) : ab_CT yX8_term cX8_term 5 (some .int) 2 45 [ab_R a0, ab_I a1, ab_I a2, ab_I a3] h (some (ab_I q.1)) q.2 := by
  refine ab_CT.mk_ 1 (own := RX8) (ini := false) (lv := [some (ab_R a0), some (ab_I a1), some (ab_I a2), some (ab_I a3), none]) rfl (by decide +kernel) (fun q => by cases q) rfl rfl ?_
  unfold f_X8_term at hk
  show ab_E mm_X8_term cX8_term 0 _ [] h _ _
  refine ab_aload_n (pc := 0) (i := 0) dX8_term_0 rfl rfl ?_
  refine ab_iload_n (pc := 1) (i := 1) dX8_term_1 rfl rfl ?_
  refine ab_iload_n (pc := 2) (i := 2) dX8_term_2 rfl rfl ?_
  obtain ⟨q1, hq1, hk⟩ := ab_bnd hk
  obtain ⟨hb, hq1⟩ := ab_on_some hq1
  refine ab_callVI (st := []) (as := [ab_I a1, ab_I a2]) (b := a0) (pc := 3) dX8_term_3 ml_RX8_138 my_X8_isTerm mv_X8_isTerm hb (ct_X8_isTerm hq1) ⟨Nat.le_of_ble_eq_true rfl, Nat.le_of_ble_eq_true rfl⟩ rfl (Nat.le_of_ble_eq_true rfl) rfl ?_
  refine ab_if_ne (pc := 6) (tgt := 12) dX8_term_6 rfl (fun hc => ?_) (fun hc => ?_)
  · have hk := ab_ifn hk hc
    refine ab_iload_n (pc := 12) (i := 1) dX8_term_12 rfl rfl ?_
    refine ab_bipush (pc := 13) dX8_term_13 ab_p8_6 ab_k_6 ?_
    refine ab_imul (pc := 15) dX8_term_15 ?_
    refine ab_iload_n (pc := 16) (i := 2) dX8_term_16 rfl rfl ?_
    refine ab_iadd (pc := 17) dX8_term_17 ?_
    refine ab_istore (pc := 18) (i := 4) (lv2 := [some (ab_R a0), some (ab_I a1), some (ab_I a2), some (ab_I a3), some (ab_I (ab_w32 ((ab_w32 (a1 * (6 : Int))) + a2)))]) dX8_term_18 (Nat.le_of_ble_eq_true rfl) rfl rfl ?_
    refine ab_iload_n (pc := 20) (i := 3) dX8_term_20 rfl rfl ?_
    by_cases hc : a3 = (0 : Int)
    · have hk := ab_ifp hk hc
      refine ab_tswIn (pc := 21) (v := (0 : Int)) (off := 35) (tgt := 56) dX8_term_21 hc ⟨by decide, by decide⟩ rfl rfl ?_
      refine ab_aload_n (pc := 56) (i := 0) dX8_term_56 rfl rfl ?_
      obtain ⟨t2, ht2, hk⟩ := ab_bnd hk
      refine ab_getR (pc := 57) dX8_term_57 fl_RX8_34 ht2 ?_
      obtain ⟨t3, ht3, hk⟩ := ab_bnd hk
      refine ab_getR (pc := 60) dX8_term_60 fl_RX8_142 ht3 ?_
      refine ab_iload (pc := 63) (i := 4) dX8_term_63 rfl ?_
      obtain ⟨t4, ht4, hk⟩ := ab_bnd hk
      refine ab_iald (pc := 65) dX8_term_65 ht4 ?_
      obtain rfl := Option.some.inj hk
      exact ab_reti (pc := 66) dX8_term_66 (Or.inl rfl)
    have hk := ab_ifn hk hc
    have hz0 := hc
    clear hc
    by_cases hc : a3 = (1 : Int)
    · have hk := ab_ifp hk hc
      refine ab_tswIn (pc := 21) (v := (1 : Int)) (off := 46) (tgt := 67) dX8_term_21 hc ⟨by decide, by decide⟩ rfl rfl ?_
      refine ab_aload_n (pc := 67) (i := 0) dX8_term_67 rfl rfl ?_
      obtain ⟨t5, ht5, hk⟩ := ab_bnd hk
      refine ab_getR (pc := 68) dX8_term_68 fl_RX8_34 ht5 ?_
      obtain ⟨t6, ht6, hk⟩ := ab_bnd hk
      refine ab_getR (pc := 71) dX8_term_71 fl_RX8_145 ht6 ?_
      refine ab_iload (pc := 74) (i := 4) dX8_term_74 rfl ?_
      obtain ⟨t7, ht7, hk⟩ := ab_bnd hk
      refine ab_iald (pc := 76) dX8_term_76 ht7 ?_
      obtain rfl := Option.some.inj hk
      exact ab_reti (pc := 77) dX8_term_77 (Or.inl rfl)
    have hk := ab_ifn hk hc
    have hz1 := hc
    clear hc
    by_cases hc : a3 = (2 : Int)
    · have hk := ab_ifp hk hc
      refine ab_tswIn (pc := 21) (v := (2 : Int)) (off := 57) (tgt := 78) dX8_term_21 hc ⟨by decide, by decide⟩ rfl rfl ?_
      refine ab_aload_n (pc := 78) (i := 0) dX8_term_78 rfl rfl ?_
      obtain ⟨t8, ht8, hk⟩ := ab_bnd hk
      refine ab_getR (pc := 79) dX8_term_79 fl_RX8_58 ht8 ?_
      obtain ⟨t9, ht9, hk⟩ := ab_bnd hk
      refine ab_getR (pc := 82) dX8_term_82 fl_RX8_148 ht9 ?_
      refine ab_iload (pc := 85) (i := 4) dX8_term_85 rfl ?_
      obtain ⟨t10, ht10, hk⟩ := ab_bnd hk
      refine ab_iald (pc := 87) dX8_term_87 ht10 ?_
      obtain rfl := Option.some.inj hk
      exact ab_reti (pc := 88) dX8_term_88 (Or.inl rfl)
    have hk := ab_ifn hk hc
    have hz2 := hc
    clear hc
    by_cases hc : a3 = (3 : Int)
    · have hk := ab_ifp hk hc
      refine ab_tswIn (pc := 21) (v := (3 : Int)) (off := 68) (tgt := 89) dX8_term_21 hc ⟨by decide, by decide⟩ rfl rfl ?_
      refine ab_aload_n (pc := 89) (i := 0) dX8_term_89 rfl rfl ?_
      obtain ⟨t11, ht11, hk⟩ := ab_bnd hk
      refine ab_getR (pc := 90) dX8_term_90 fl_RX8_58 ht11 ?_
      obtain ⟨t12, ht12, hk⟩ := ab_bnd hk
      refine ab_getR (pc := 93) dX8_term_93 fl_RX8_150 ht12 ?_
      refine ab_iload (pc := 96) (i := 4) dX8_term_96 rfl ?_
      obtain ⟨t13, ht13, hk⟩ := ab_bnd hk
      refine ab_lald (pc := 98) dX8_term_98 ht13 ?_
      obtain ⟨q14, hq14, hk⟩ := ab_bnd hk
      refine ab_callSI (st := []) (as := [ab_J t13]) (pc := 99) dX8_term_99 ml_RX8_154 my_X8_lettersOf ms_X8_lettersOf (ct_X8_lettersOf hq14) ⟨Nat.le_of_ble_eq_true rfl, Nat.le_of_ble_eq_true rfl⟩ rfl (Nat.le_of_ble_eq_true rfl) rfl ?_
      obtain rfl := Option.some.inj hk
      exact ab_reti (pc := 102) dX8_term_102 (Or.inl rfl)
    have hk := ab_ifn hk hc
    have hz3 := hc
    clear hc
    by_cases hc : a3 = (4 : Int)
    · have hk := ab_ifp hk hc
      refine ab_tswIn (pc := 21) (v := (4 : Int)) (off := 82) (tgt := 103) dX8_term_21 hc ⟨by decide, by decide⟩ rfl rfl ?_
      refine ab_aload_n (pc := 103) (i := 0) dX8_term_103 rfl rfl ?_
      obtain ⟨t15, ht15, hk⟩ := ab_bnd hk
      refine ab_getR (pc := 104) dX8_term_104 fl_RX8_58 ht15 ?_
      obtain ⟨t16, ht16, hk⟩ := ab_bnd hk
      refine ab_getR (pc := 107) dX8_term_107 fl_RX8_158 ht16 ?_
      refine ab_iload (pc := 110) (i := 4) dX8_term_110 rfl ?_
      obtain ⟨t17, ht17, hk⟩ := ab_bnd hk
      refine ab_lald (pc := 112) dX8_term_112 ht17 ?_
      obtain ⟨q18, hq18, hk⟩ := ab_bnd hk
      refine ab_callSI (st := []) (as := [ab_J t17]) (pc := 113) dX8_term_113 ml_RX8_154 my_X8_lettersOf ms_X8_lettersOf (ct_X8_lettersOf hq18) ⟨Nat.le_of_ble_eq_true rfl, Nat.le_of_ble_eq_true rfl⟩ rfl (Nat.le_of_ble_eq_true rfl) rfl ?_
      obtain rfl := Option.some.inj hk
      exact ab_reti (pc := 116) dX8_term_116 (Or.inl rfl)
    have hk := ab_ifn hk hc
    have hz4 := hc
    clear hc
    refine ab_tswOut (pc := 21) (tgt := 117) dX8_term_21 (by omega) rfl ?_
    refine ab_bipush (pc := 117) dX8_term_117 ab_p8_m2 ab_k_m2 ?_
    obtain rfl := Option.some.inj hk
    exact ab_reti (pc := 119) dX8_term_119 (Or.inl rfl)
  · have hk := ab_ifp hk hc
    refine ab_bipush (pc := 9) dX8_term_9 ab_p8_m2 ab_k_m2 ?_
    obtain rfl := Option.some.inj hk
    exact ab_reti (pc := 11) dX8_term_11 (Or.inl rfl)
theorem dX8_isWord_0 : decode cX8_isWord 0 = .ok (.iload_n 1, 1) := by decide +kernel
theorem dX8_isWord_1 : decode cX8_isWord 1 = .ok (.ifCond .lt 18, 3) := by decide +kernel
theorem dX8_isWord_4 : decode cX8_isWord 4 = .ok (.iload_n 1, 1) := by decide +kernel
theorem dX8_isWord_5 : decode cX8_isWord 5 = .ok (.aload_n 0, 1) := by decide +kernel
theorem dX8_isWord_6 : decode cX8_isWord 6 = .ok (.getfield 51, 3) := by decide +kernel
theorem dX8_isWord_9 : decode cX8_isWord 9 = .ok (.getfield 110, 3) := by decide +kernel
theorem dX8_isWord_12 : decode cX8_isWord 12 = .ok (.if_icmp .ge 7, 3) := by decide +kernel
theorem dX8_isWord_15 : decode cX8_isWord 15 = .ok (.iconst 1, 1) := by decide +kernel
theorem dX8_isWord_16 : decode cX8_isWord 16 = .ok (.goto 4, 3) := by decide +kernel
theorem dX8_isWord_19 : decode cX8_isWord 19 = .ok (.iconst 0, 1) := by decide +kernel
theorem dX8_isWord_20 : decode cX8_isWord 20 = .ok (.ireturn, 1) := by decide +kernel
abbrev mm_X8_isWord : ab_M := (RX8, 2, (some .boolean), false, 0, 0, none)
noncomputable def f_X8_isWord_J19 (h : ab_H) : Option (Int × ab_H) :=
  some ((0 : Int), h)
set_option maxRecDepth 20000 in
theorem e_X8_isWord_J19 : ∀ (h : ab_H) (q : Int × ab_H), f_X8_isWord_J19  h = some q → ab_E mm_X8_isWord cX8_isWord 19 [none, none] [] h (some (ab_I q.1)) q.2 := by
  intro  h q hk
  unfold f_X8_isWord_J19 at hk
  refine ab_iconst (pc := 19) dX8_isWord_19 ab_k_0 ?_
  obtain rfl := Option.some.inj hk
  exact ab_retz (pc := 20) dX8_isWord_20 rfl rfl
noncomputable def f_X8_isWord (a0 : Int) (a1 : Int) (h : ab_H) : Option (Int × ab_H) :=
  if a1 < (0 : Int) then
    f_X8_isWord_J19 h
  else
  (ab_get h 9 7 a0).bind fun t1 =>
  (ab_get h 8 0 t1).bind fun t2 =>
  if t2 ≤ a1 then
    f_X8_isWord_J19 h
  else
  some ((1 : Int), h)
set_option maxRecDepth 20000 in
theorem ct_X8_isWord {a0 a1 : Int} {h : ab_H} {q : Int × ab_H} (hk : f_X8_isWord a0 a1 h = some q) : ab_CT yX8_isWord cX8_isWord 2 (some .boolean) 0 0 [ab_R a0, ab_I a1] h (some (ab_I q.1)) q.2 := by
  refine ab_CT.mk_ 0 (own := RX8) (ini := false) (lv := [some (ab_R a0), some (ab_I a1)]) rfl (by decide +kernel) (fun q => by cases q) rfl rfl ?_
  unfold f_X8_isWord at hk
  show ab_E mm_X8_isWord cX8_isWord 0 _ [] h _ _
  refine ab_iload_n (pc := 0) (i := 1) dX8_isWord_0 rfl rfl ?_
  refine ab_if_lt (pc := 1) (tgt := 19) dX8_isWord_1 rfl (fun hc => ?_) (fun hc => ?_)
  · have hk := ab_ifp hk hc
    refine ab_sub_ (lv2 := [none, none]) (ab_sn (ab_sn ab_s0)) ?_
    exact e_X8_isWord_J19  _ _ hk
  · have hk := ab_ifn hk hc
    refine ab_iload_n (pc := 4) (i := 1) dX8_isWord_4 rfl rfl ?_
    refine ab_aload_n (pc := 5) (i := 0) dX8_isWord_5 rfl rfl ?_
    obtain ⟨t1, ht1, hk⟩ := ab_bnd hk
    refine ab_getR (pc := 6) dX8_isWord_6 fl_RX8_51 ht1 ?_
    obtain ⟨t2, ht2, hk⟩ := ab_bnd hk
    refine ab_getI (pc := 9) dX8_isWord_9 fl_RX8_110 ht2 ?_
    refine ab_icmp_ge (pc := 12) (tgt := 19) dX8_isWord_12 rfl (fun hc => ?_) (fun hc => ?_)
    · have hk := ab_ifp hk hc
      refine ab_sub_ (lv2 := [none, none]) (ab_sn (ab_sn ab_s0)) ?_
      exact e_X8_isWord_J19  _ _ hk
    · have hk := ab_ifn hk hc
      refine ab_iconst (pc := 15) dX8_isWord_15 ab_k_1 ?_
      refine ab_goto (pc := 16) (tgt := 20) dX8_isWord_16 rfl ?_
      obtain rfl := Option.some.inj hk
      exact ab_retz (pc := 20) dX8_isWord_20 rfl rfl
theorem dX8_letter_0 : decode cX8_letter 0 = .ok (.aload_n 0, 1) := by decide +kernel
theorem dX8_letter_1 : decode cX8_letter 1 = .ok (.iload_n 1, 1) := by decide +kernel
theorem dX8_letter_2 : decode cX8_letter 2 = .ok (.invokevirtual 161, 3) := by decide +kernel
theorem dX8_letter_5 : decode cX8_letter 5 = .ok (.ifCond .eq 13, 3) := by decide +kernel
theorem dX8_letter_8 : decode cX8_letter 8 = .ok (.iload_n 2, 1) := by decide +kernel
theorem dX8_letter_9 : decode cX8_letter 9 = .ok (.ifCond .lt 9, 3) := by decide +kernel
theorem dX8_letter_12 : decode cX8_letter 12 = .ok (.iload_n 2, 1) := by decide +kernel
theorem dX8_letter_13 : decode cX8_letter 13 = .ok (.bipush 7, 2) := by decide +kernel
theorem dX8_letter_15 : decode cX8_letter 15 = .ok (.if_icmp .lt 6, 3) := by decide +kernel
theorem dX8_letter_18 : decode cX8_letter 18 = .ok (.bipush (-2), 2) := by decide +kernel
theorem dX8_letter_20 : decode cX8_letter 20 = .ok (.ireturn, 1) := by decide +kernel
theorem dX8_letter_21 : decode cX8_letter 21 = .ok (.aload_n 0, 1) := by decide +kernel
theorem dX8_letter_22 : decode cX8_letter 22 = .ok (.getfield 51, 3) := by decide +kernel
theorem dX8_letter_25 : decode cX8_letter 25 = .ok (.getfield 164, 3) := by decide +kernel
theorem dX8_letter_28 : decode cX8_letter 28 = .ok (.iload_n 1, 1) := by decide +kernel
theorem dX8_letter_29 : decode cX8_letter 29 = .ok (.laload, 1) := by decide +kernel
theorem dX8_letter_30 : decode cX8_letter 30 = .ok (.iload_n 2, 1) := by decide +kernel
theorem dX8_letter_31 : decode cX8_letter 31 = .ok (.invokestatic 167, 3) := by decide +kernel
theorem dX8_letter_34 : decode cX8_letter 34 = .ok (.ireturn, 1) := by decide +kernel
abbrev mm_X8_letter : ab_M := (RX8, 3, (some .int), false, 1, 22, none)
noncomputable def f_X8_letter (a0 : Int) (a1 : Int) (a2 : Int) (h : ab_H) : Option (Int × ab_H) :=
  (ab_on h 9 a0 (f_X8_isWord a0 a1 h)).bind fun q1 =>
  if q1.1 = (0 : Int) then
    some ((-2 : Int), q1.2)
  else
  if a2 < (0 : Int) then
    some ((-2 : Int), q1.2)
  else
  if a2 < (7 : Int) then
    (ab_get q1.2 9 7 a0).bind fun t2 =>
    (ab_get q1.2 8 1 t2).bind fun t3 =>
    (ab_ald q1.2 12 t3 a1).bind fun t4 =>
    (f_X8_letterOf t4 a2 q1.2).bind fun q5 =>
    some (q5.1, q5.2)
  else
  some ((-2 : Int), q1.2)
set_option maxRecDepth 20000 in
theorem ct_X8_letter {a0 a1 a2 : Int} {h : ab_H} {q : Int × ab_H} (hk : f_X8_letter a0 a1 a2 h = some q) : ab_CT yX8_letter cX8_letter 3 (some .int) 1 22 [ab_R a0, ab_I a1, ab_I a2] h (some (ab_I q.1)) q.2 := by
  refine ab_CT.mk_ 0 (own := RX8) (ini := false) (lv := [some (ab_R a0), some (ab_I a1), some (ab_I a2)]) rfl (by decide +kernel) (fun q => by cases q) rfl rfl ?_
  unfold f_X8_letter at hk
  show ab_E mm_X8_letter cX8_letter 0 _ [] h _ _
  refine ab_aload_n (pc := 0) (i := 0) dX8_letter_0 rfl rfl ?_
  refine ab_iload_n (pc := 1) (i := 1) dX8_letter_1 rfl rfl ?_
  obtain ⟨q1, hq1, hk⟩ := ab_bnd hk
  obtain ⟨hb, hq1⟩ := ab_on_some hq1
  refine ab_callVI (st := []) (as := [ab_I a1]) (b := a0) (pc := 2) dX8_letter_2 ml_RX8_161 my_X8_isWord mv_X8_isWord hb (ct_X8_isWord hq1) ⟨Nat.le_of_ble_eq_true rfl, Nat.le_of_ble_eq_true rfl⟩ rfl (Nat.le_of_ble_eq_true rfl) rfl ?_
  refine ab_if_eq (pc := 5) (tgt := 18) dX8_letter_5 rfl (fun hc => ?_) (fun hc => ?_)
  · have hk := ab_ifp hk hc
    refine ab_bipush (pc := 18) dX8_letter_18 ab_p8_m2 ab_k_m2 ?_
    obtain rfl := Option.some.inj hk
    exact ab_reti (pc := 20) dX8_letter_20 (Or.inl rfl)
  · have hk := ab_ifn hk hc
    refine ab_iload_n (pc := 8) (i := 2) dX8_letter_8 rfl rfl ?_
    refine ab_if_lt (pc := 9) (tgt := 18) dX8_letter_9 rfl (fun hc => ?_) (fun hc => ?_)
    · have hk := ab_ifp hk hc
      refine ab_bipush (pc := 18) dX8_letter_18 ab_p8_m2 ab_k_m2 ?_
      obtain rfl := Option.some.inj hk
      exact ab_reti (pc := 20) dX8_letter_20 (Or.inl rfl)
    · have hk := ab_ifn hk hc
      refine ab_iload_n (pc := 12) (i := 2) dX8_letter_12 rfl rfl ?_
      refine ab_bipush (pc := 13) dX8_letter_13 ab_p8_7 ab_k_7 ?_
      refine ab_icmp_lt (pc := 15) (tgt := 21) dX8_letter_15 rfl (fun hc => ?_) (fun hc => ?_)
      · have hk := ab_ifp hk hc
        refine ab_aload_n (pc := 21) (i := 0) dX8_letter_21 rfl rfl ?_
        obtain ⟨t2, ht2, hk⟩ := ab_bnd hk
        refine ab_getR (pc := 22) dX8_letter_22 fl_RX8_51 ht2 ?_
        obtain ⟨t3, ht3, hk⟩ := ab_bnd hk
        refine ab_getR (pc := 25) dX8_letter_25 fl_RX8_164 ht3 ?_
        refine ab_iload_n (pc := 28) (i := 1) dX8_letter_28 rfl rfl ?_
        obtain ⟨t4, ht4, hk⟩ := ab_bnd hk
        refine ab_lald (pc := 29) dX8_letter_29 ht4 ?_
        refine ab_iload_n (pc := 30) (i := 2) dX8_letter_30 rfl rfl ?_
        obtain ⟨q5, hq5, hk⟩ := ab_bnd hk
        refine ab_callSI (st := []) (as := [ab_J t4, ab_I a2]) (pc := 31) dX8_letter_31 ml_RX8_167 my_X8_letterOf ms_X8_letterOf (ct_X8_letterOf hq5) ⟨Nat.le_of_ble_eq_true rfl, Nat.le_of_ble_eq_true rfl⟩ rfl (Nat.le_of_ble_eq_true rfl) rfl ?_
        obtain rfl := Option.some.inj hk
        exact ab_reti (pc := 34) dX8_letter_34 (Or.inl rfl)
      · have hk := ab_ifn hk hc
        refine ab_bipush (pc := 18) dX8_letter_18 ab_p8_m2 ab_k_m2 ?_
        obtain rfl := Option.some.inj hk
        exact ab_reti (pc := 20) dX8_letter_20 (Or.inl rfl)
theorem dX8_way_0 : decode cX8_way 0 = .ok (.iload_n 1, 1) := by decide +kernel
theorem dX8_way_1 : decode cX8_way 1 = .ok (.invokestatic 171, 3) := by decide +kernel
theorem dX8_way_4 : decode cX8_way 4 = .ok (.ifCond .eq 15, 3) := by decide +kernel
theorem dX8_way_7 : decode cX8_way 7 = .ok (.aload_n 0, 1) := by decide +kernel
theorem dX8_way_8 : decode cX8_way 8 = .ok (.getfield 34, 3) := by decide +kernel
theorem dX8_way_11 : decode cX8_way 11 = .ok (.getfield 174, 3) := by decide +kernel
theorem dX8_way_14 : decode cX8_way 14 = .ok (.iload_n 1, 1) := by decide +kernel
theorem dX8_way_15 : decode cX8_way 15 = .ok (.iaload, 1) := by decide +kernel
theorem dX8_way_16 : decode cX8_way 16 = .ok (.goto 5, 3) := by decide +kernel
theorem dX8_way_19 : decode cX8_way 19 = .ok (.bipush (-2), 2) := by decide +kernel
theorem dX8_way_21 : decode cX8_way 21 = .ok (.ireturn, 1) := by decide +kernel
abbrev mm_X8_way : ab_M := (RX8, 2, (some .int), false, 1, 20, none)
noncomputable def f_X8_way (a0 : Int) (a1 : Int) (h : ab_H) : Option (Int × ab_H) :=
  (f_X8_isRole a1 h).bind fun q1 =>
  if q1.1 = (0 : Int) then
    some ((-2 : Int), q1.2)
  else
  (ab_get q1.2 9 4 a0).bind fun t2 =>
  (ab_get q1.2 1 8 t2).bind fun t3 =>
  (ab_ald q1.2 11 t3 a1).bind fun t4 =>
  some (t4, q1.2)
set_option maxRecDepth 20000 in
theorem ct_X8_way {a0 a1 : Int} {h : ab_H} {q : Int × ab_H} (hk : f_X8_way a0 a1 h = some q) : ab_CT yX8_way cX8_way 2 (some .int) 1 20 [ab_R a0, ab_I a1] h (some (ab_I q.1)) q.2 := by
  refine ab_CT.mk_ 0 (own := RX8) (ini := false) (lv := [some (ab_R a0), some (ab_I a1)]) rfl (by decide +kernel) (fun q => by cases q) rfl rfl ?_
  unfold f_X8_way at hk
  show ab_E mm_X8_way cX8_way 0 _ [] h _ _
  refine ab_iload_n (pc := 0) (i := 1) dX8_way_0 rfl rfl ?_
  obtain ⟨q1, hq1, hk⟩ := ab_bnd hk
  refine ab_callSI (st := []) (as := [ab_I a1]) (pc := 1) dX8_way_1 ml_RX8_171 my_X8_isRole ms_X8_isRole (ct_X8_isRole hq1) ⟨Nat.le_of_ble_eq_true rfl, Nat.le_of_ble_eq_true rfl⟩ rfl (Nat.le_of_ble_eq_true rfl) rfl ?_
  refine ab_if_eq (pc := 4) (tgt := 19) dX8_way_4 rfl (fun hc => ?_) (fun hc => ?_)
  · have hk := ab_ifp hk hc
    refine ab_bipush (pc := 19) dX8_way_19 ab_p8_m2 ab_k_m2 ?_
    obtain rfl := Option.some.inj hk
    exact ab_reti (pc := 21) dX8_way_21 (Or.inl rfl)
  · have hk := ab_ifn hk hc
    refine ab_aload_n (pc := 7) (i := 0) dX8_way_7 rfl rfl ?_
    obtain ⟨t2, ht2, hk⟩ := ab_bnd hk
    refine ab_getR (pc := 8) dX8_way_8 fl_RX8_34 ht2 ?_
    obtain ⟨t3, ht3, hk⟩ := ab_bnd hk
    refine ab_getR (pc := 11) dX8_way_11 fl_RX8_174 ht3 ?_
    refine ab_iload_n (pc := 14) (i := 1) dX8_way_14 rfl rfl ?_
    obtain ⟨t4, ht4, hk⟩ := ab_bnd hk
    refine ab_iald (pc := 15) dX8_way_15 ht4 ?_
    refine ab_goto (pc := 16) (tgt := 21) dX8_way_16 rfl ?_
    obtain rfl := Option.some.inj hk
    exact ab_reti (pc := 21) dX8_way_21 (Or.inl rfl)
theorem dX8_find_0 : decode cX8_find 0 = .ok (.aload_n 0, 1) := by decide +kernel
theorem dX8_find_1 : decode cX8_find 1 = .ok (.getfield 14, 3) := by decide +kernel
theorem dX8_find_4 : decode cX8_find 4 = .ok (.invokevirtual 177, 3) := by decide +kernel
theorem dX8_find_7 : decode cX8_find 7 = .ok (.lstore_n 1, 1) := by decide +kernel
theorem dX8_find_8 : decode cX8_find 8 = .ok (.aload_n 0, 1) := by decide +kernel
theorem dX8_find_9 : decode cX8_find 9 = .ok (.getfield 14, 3) := by decide +kernel
theorem dX8_find_12 : decode cX8_find 12 = .ok (.iconst 0, 1) := by decide +kernel
theorem dX8_find_13 : decode cX8_find 13 = .ok (.putfield 72, 3) := by decide +kernel
theorem dX8_find_16 : decode cX8_find 16 = .ok (.lload_n 1, 1) := by decide +kernel
theorem dX8_find_17 : decode cX8_find 17 = .ok (.ldc2_w 181, 3) := by decide +kernel
theorem dX8_find_20 : decode cX8_find 20 = .ok (.lcmp, 1) := by decide +kernel
theorem dX8_find_21 : decode cX8_find 21 = .ok (.ifCond .eq 9, 3) := by decide +kernel
theorem dX8_find_24 : decode cX8_find 24 = .ok (.lload_n 1, 1) := by decide +kernel
theorem dX8_find_25 : decode cX8_find 25 = .ok (.lconst 0, 1) := by decide +kernel
theorem dX8_find_26 : decode cX8_find 26 = .ok (.lcmp, 1) := by decide +kernel
theorem dX8_find_27 : decode cX8_find 27 = .ok (.ifCond .ne 6, 3) := by decide +kernel
theorem dX8_find_30 : decode cX8_find 30 = .ok (.bipush (-2), 2) := by decide +kernel
theorem dX8_find_32 : decode cX8_find 32 = .ok (.ireturn, 1) := by decide +kernel
theorem dX8_find_33 : decode cX8_find 33 = .ok (.aload_n 0, 1) := by decide +kernel
theorem dX8_find_34 : decode cX8_find 34 = .ok (.getfield 51, 3) := by decide +kernel
theorem dX8_find_37 : decode cX8_find 37 = .ok (.aload_n 0, 1) := by decide +kernel
theorem dX8_find_38 : decode cX8_find 38 = .ok (.getfield 34, 3) := by decide +kernel
theorem dX8_find_41 : decode cX8_find 41 = .ok (.lload_n 1, 1) := by decide +kernel
theorem dX8_find_42 : decode cX8_find 42 = .ok (.invokevirtual 183, 3) := by decide +kernel
theorem dX8_find_45 : decode cX8_find 45 = .ok (.invokevirtual 187, 3) := by decide +kernel
theorem dX8_find_48 : decode cX8_find 48 = .ok (.ireturn, 1) := by decide +kernel
abbrev mm_X8_find : ab_M := (RX8, 3, (some .int), false, 2, 49, none)
noncomputable def f_X8_find (a0 : Int) (h : ab_H) : Option (Int × ab_H) :=
  (ab_get h 9 0 a0).bind fun t1 =>
  (ab_on h 2 t1 (f_X1_asName t1 h)).bind fun q2 =>
  (ab_get q2.2 9 0 a0).bind fun t3 =>
  (ab_put q2.2 2 1 t3 (0 : Int)).bind fun h1 =>
  if ab_cmp q2.1 (-1 : Int) = (0 : Int) then
    some ((-2 : Int), h1)
  else
  if ab_cmp q2.1 (0 : Int) = (0 : Int) then
    some ((-2 : Int), h1)
  else
  (ab_get h1 9 7 a0).bind fun t4 =>
  (ab_get h1 9 4 a0).bind fun t5 =>
  (ab_on h1 1 t5 (f_X0_used t5 q2.1 h1)).bind fun q6 =>
  (ab_on q6.2 8 t4 (f_X7_numberOf t4 q6.1 q6.2)).bind fun q7 =>
  some (q7.1, q7.2)
set_option maxRecDepth 20000 in
theorem ct_X8_find {a0 : Int} {h : ab_H} {q : Int × ab_H} (hk : f_X8_find a0 h = some q) : ab_CT yX8_find cX8_find 3 (some .int) 2 49 [ab_R a0] h (some (ab_I q.1)) q.2 := by
  refine ab_CT.mk_ 2 (own := RX8) (ini := false) (lv := [some (ab_R a0), none, none]) rfl (by decide +kernel) (fun q => by cases q) rfl rfl ?_
  unfold f_X8_find at hk
  show ab_E mm_X8_find cX8_find 0 _ [] h _ _
  refine ab_aload_n (pc := 0) (i := 0) dX8_find_0 rfl rfl ?_
  obtain ⟨t1, ht1, hk⟩ := ab_bnd hk
  refine ab_getR (pc := 1) dX8_find_1 fl_RX8_14 ht1 ?_
  obtain ⟨q2, hq2, hk⟩ := ab_bnd hk
  obtain ⟨hb, hq2⟩ := ab_on_some hq2
  refine ab_callVJ (st := []) (as := []) (b := t1) (pc := 4) dX8_find_4 ml_RX8_177 my_X1_asName mv_X1_asName hb (ct_X1_asName hq2) ⟨Nat.le_of_ble_eq_true rfl, Nat.le_of_ble_eq_true rfl⟩ rfl (Nat.le_of_ble_eq_true rfl) rfl ?_
  refine ab_lstore_n (pc := 7) (i := 1) (lv2 := [some (ab_R a0), some (ab_J q2.1), none]) dX8_find_7 rfl (Nat.le_of_ble_eq_true rfl) rfl rfl ?_
  refine ab_aload_n (pc := 8) (i := 0) dX8_find_8 rfl rfl ?_
  obtain ⟨t3, ht3, hk⟩ := ab_bnd hk
  refine ab_getR (pc := 9) dX8_find_9 fl_RX8_14 ht3 ?_
  refine ab_iconst (pc := 12) dX8_find_12 ab_k_0 ?_
  obtain ⟨h1, hh1, hk⟩ := ab_bnd hk
  refine ab_putI_ (pc := 13) dX8_find_13 fl_RX8_72 (fun q => by cases q) hh1 ?_
  refine ab_lload_n (pc := 16) (i := 1) dX8_find_16 rfl rfl ?_
  refine ab_ldc2 (x := (-1 : Int)) (pc := 17) dX8_find_17 ab_ld2_RX8_181 ab_kl_m1 ?_
  refine ab_lcmp_ (pc := 20) dX8_find_20 ?_
  refine ab_if_eq (pc := 21) (tgt := 30) dX8_find_21 rfl (fun hc => ?_) (fun hc => ?_)
  · have hk := ab_ifp hk hc
    refine ab_bipush (pc := 30) dX8_find_30 ab_p8_m2 ab_k_m2 ?_
    obtain rfl := Option.some.inj hk
    exact ab_reti (pc := 32) dX8_find_32 (Or.inl rfl)
  · have hk := ab_ifn hk hc
    refine ab_lload_n (pc := 24) (i := 1) dX8_find_24 rfl rfl ?_
    refine ab_lconst (x := (0 : Int)) (pc := 25) dX8_find_25 rfl ab_kl_0 ?_
    refine ab_lcmp_ (pc := 26) dX8_find_26 ?_
    refine ab_if_ne (pc := 27) (tgt := 33) dX8_find_27 rfl (fun hc => ?_) (fun hc => ?_)
    · have hk := ab_ifn hk hc
      refine ab_aload_n (pc := 33) (i := 0) dX8_find_33 rfl rfl ?_
      obtain ⟨t4, ht4, hk⟩ := ab_bnd hk
      refine ab_getR (pc := 34) dX8_find_34 fl_RX8_51 ht4 ?_
      refine ab_aload_n (pc := 37) (i := 0) dX8_find_37 rfl rfl ?_
      obtain ⟨t5, ht5, hk⟩ := ab_bnd hk
      refine ab_getR (pc := 38) dX8_find_38 fl_RX8_34 ht5 ?_
      refine ab_lload_n (pc := 41) (i := 1) dX8_find_41 rfl rfl ?_
      obtain ⟨q6, hq6, hk⟩ := ab_bnd hk
      obtain ⟨hb, hq6⟩ := ab_on_some hq6
      refine ab_callVJ (st := [ab_R t4]) (as := [ab_J q2.1]) (b := t5) (pc := 42) dX8_find_42 ml_RX8_183 my_X0_used mv_X0_used hb (ct_X0_used hq6) ⟨Nat.le_of_ble_eq_true rfl, Nat.le_of_ble_eq_true rfl⟩ rfl (Nat.le_of_ble_eq_true rfl) rfl ?_
      obtain ⟨q7, hq7, hk⟩ := ab_bnd hk
      obtain ⟨hb, hq7⟩ := ab_on_some hq7
      refine ab_callVI (st := []) (as := [ab_J q6.1]) (b := t4) (pc := 45) dX8_find_45 ml_RX8_187 my_X7_numberOf mv_X7_numberOf hb (ct_X7_numberOf hq7) ⟨Nat.le_of_ble_eq_true rfl, Nat.le_of_ble_eq_true rfl⟩ rfl (Nat.le_of_ble_eq_true rfl) rfl ?_
      obtain rfl := Option.some.inj hk
      exact ab_reti (pc := 48) dX8_find_48 (Or.inl rfl)
    · have hk := ab_ifp hk hc
      refine ab_bipush (pc := 30) dX8_find_30 ab_p8_m2 ab_k_m2 ?_
      obtain rfl := Option.some.inj hk
      exact ab_reti (pc := 32) dX8_find_32 (Or.inl rfl)
theorem dX8_at_0 : decode cX8_at 0 = .ok (.iload_n 1, 1) := by decide +kernel
theorem dX8_at_1 : decode cX8_at 1 = .ok (.invokestatic 190, 3) := by decide +kernel
theorem dX8_at_4 : decode cX8_at 4 = .ok (.ifCond .eq 14, 3) := by decide +kernel
theorem dX8_at_7 : decode cX8_at 7 = .ok (.aload_n 0, 1) := by decide +kernel
theorem dX8_at_8 : decode cX8_at 8 = .ok (.getfield 34, 3) := by decide +kernel
theorem dX8_at_11 : decode cX8_at 11 = .ok (.iload_n 1, 1) := by decide +kernel
theorem dX8_at_12 : decode cX8_at 12 = .ok (.invokevirtual 193, 3) := by decide +kernel
theorem dX8_at_15 : decode cX8_at 15 = .ok (.goto 5, 3) := by decide +kernel
theorem dX8_at_18 : decode cX8_at 18 = .ok (.bipush (-2), 2) := by decide +kernel
theorem dX8_at_20 : decode cX8_at 20 = .ok (.ireturn, 1) := by decide +kernel
abbrev mm_X8_at : ab_M := (RX8, 2, (some .int), false, 1, 22, none)
noncomputable def f_X8_at (a0 : Int) (a1 : Int) (h : ab_H) : Option (Int × ab_H) :=
  (f_X8_isAddress a1 h).bind fun q1 =>
  if q1.1 = (0 : Int) then
    some ((-2 : Int), q1.2)
  else
  (ab_get q1.2 9 4 a0).bind fun t2 =>
  (ab_on q1.2 1 t2 (f_X0_stringAt t2 a1 q1.2)).bind fun q3 =>
  some (q3.1, q3.2)
set_option maxRecDepth 20000 in
theorem ct_X8_at {a0 a1 : Int} {h : ab_H} {q : Int × ab_H} (hk : f_X8_at a0 a1 h = some q) : ab_CT yX8_at cX8_at 2 (some .int) 1 22 [ab_R a0, ab_I a1] h (some (ab_I q.1)) q.2 := by
  refine ab_CT.mk_ 0 (own := RX8) (ini := false) (lv := [some (ab_R a0), some (ab_I a1)]) rfl (by decide +kernel) (fun q => by cases q) rfl rfl ?_
  unfold f_X8_at at hk
  show ab_E mm_X8_at cX8_at 0 _ [] h _ _
  refine ab_iload_n (pc := 0) (i := 1) dX8_at_0 rfl rfl ?_
  obtain ⟨q1, hq1, hk⟩ := ab_bnd hk
  refine ab_callSI (st := []) (as := [ab_I a1]) (pc := 1) dX8_at_1 ml_RX8_190 my_X8_isAddress ms_X8_isAddress (ct_X8_isAddress hq1) ⟨Nat.le_of_ble_eq_true rfl, Nat.le_of_ble_eq_true rfl⟩ rfl (Nat.le_of_ble_eq_true rfl) rfl ?_
  refine ab_if_eq (pc := 4) (tgt := 18) dX8_at_4 rfl (fun hc => ?_) (fun hc => ?_)
  · have hk := ab_ifp hk hc
    refine ab_bipush (pc := 18) dX8_at_18 ab_p8_m2 ab_k_m2 ?_
    obtain rfl := Option.some.inj hk
    exact ab_reti (pc := 20) dX8_at_20 (Or.inl rfl)
  · have hk := ab_ifn hk hc
    refine ab_aload_n (pc := 7) (i := 0) dX8_at_7 rfl rfl ?_
    obtain ⟨t2, ht2, hk⟩ := ab_bnd hk
    refine ab_getR (pc := 8) dX8_at_8 fl_RX8_34 ht2 ?_
    refine ab_iload_n (pc := 11) (i := 1) dX8_at_11 rfl rfl ?_
    obtain ⟨q3, hq3, hk⟩ := ab_bnd hk
    obtain ⟨hb, hq3⟩ := ab_on_some hq3
    refine ab_callVI (st := []) (as := [ab_I a1]) (b := t2) (pc := 12) dX8_at_12 ml_RX8_193 my_X0_stringAt mv_X0_stringAt hb (ct_X0_stringAt hq3) ⟨Nat.le_of_ble_eq_true rfl, Nat.le_of_ble_eq_true rfl⟩ rfl (Nat.le_of_ble_eq_true rfl) rfl ?_
    refine ab_goto (pc := 15) (tgt := 20) dX8_at_15 rfl ?_
    obtain rfl := Option.some.inj hk
    exact ab_reti (pc := 20) dX8_at_20 (Or.inl rfl)
theorem dX8_entry_0 : decode cX8_entry 0 = .ok (.iload_n 1, 1) := by decide +kernel
theorem dX8_entry_1 : decode cX8_entry 1 = .ok (.ifCond .lt 12, 3) := by decide +kernel
theorem dX8_entry_4 : decode cX8_entry 4 = .ok (.iload_n 2, 1) := by decide +kernel
theorem dX8_entry_5 : decode cX8_entry 5 = .ok (.ifCond .lt 8, 3) := by decide +kernel
theorem dX8_entry_8 : decode cX8_entry 8 = .ok (.iload_n 2, 1) := by decide +kernel
theorem dX8_entry_9 : decode cX8_entry 9 = .ok (.iconst 5, 1) := by decide +kernel
theorem dX8_entry_10 : decode cX8_entry 10 = .ok (.if_icmp .le 6, 3) := by decide +kernel
theorem dX8_entry_13 : decode cX8_entry 13 = .ok (.bipush (-2), 2) := by decide +kernel
theorem dX8_entry_15 : decode cX8_entry 15 = .ok (.ireturn, 1) := by decide +kernel
theorem dX8_entry_16 : decode cX8_entry 16 = .ok (.iload_n 1, 1) := by decide +kernel
theorem dX8_entry_17 : decode cX8_entry 17 = .ok (.aload_n 0, 1) := by decide +kernel
theorem dX8_entry_18 : decode cX8_entry 18 = .ok (.getfield 65, 3) := by decide +kernel
theorem dX8_entry_21 : decode cX8_entry 21 = .ok (.getfield 111, 3) := by decide +kernel
theorem dX8_entry_24 : decode cX8_entry 24 = .ok (.if_icmp .lt 5, 3) := by decide +kernel
theorem dX8_entry_27 : decode cX8_entry 27 = .ok (.iconst (-1), 1) := by decide +kernel
theorem dX8_entry_28 : decode cX8_entry 28 = .ok (.ireturn, 1) := by decide +kernel
theorem dX8_entry_29 : decode cX8_entry 29 = .ok (.aload_n 0, 1) := by decide +kernel
theorem dX8_entry_30 : decode cX8_entry 30 = .ok (.getfield 65, 3) := by decide +kernel
theorem dX8_entry_33 : decode cX8_entry 33 = .ok (.getfield 196, 3) := by decide +kernel
theorem dX8_entry_36 : decode cX8_entry 36 = .ok (.iload_n 1, 1) := by decide +kernel
theorem dX8_entry_37 : decode cX8_entry 37 = .ok (.aaload, 1) := by decide +kernel
theorem dX8_entry_38 : decode cX8_entry 38 = .ok (.astore_n 3, 1) := by decide +kernel
theorem dX8_entry_39 : decode cX8_entry 39 = .ok (.iload_n 2, 1) := by decide +kernel
theorem dX8_entry_40 : decode cX8_entry 40 = .ok (.tableswitch 66 0 4 #[36, 41, 46, 51, 56], 36) := by decide +kernel
theorem dX8_entry_76 : decode cX8_entry 76 = .ok (.aload_n 3, 1) := by decide +kernel
theorem dX8_entry_77 : decode cX8_entry 77 = .ok (.getfield 200, 3) := by decide +kernel
theorem dX8_entry_80 : decode cX8_entry 80 = .ok (.ireturn, 1) := by decide +kernel
theorem dX8_entry_81 : decode cX8_entry 81 = .ok (.aload_n 3, 1) := by decide +kernel
theorem dX8_entry_82 : decode cX8_entry 82 = .ok (.getfield 205, 3) := by decide +kernel
theorem dX8_entry_85 : decode cX8_entry 85 = .ok (.ireturn, 1) := by decide +kernel
theorem dX8_entry_86 : decode cX8_entry 86 = .ok (.aload_n 3, 1) := by decide +kernel
theorem dX8_entry_87 : decode cX8_entry 87 = .ok (.getfield 206, 3) := by decide +kernel
theorem dX8_entry_90 : decode cX8_entry 90 = .ok (.ireturn, 1) := by decide +kernel
theorem dX8_entry_91 : decode cX8_entry 91 = .ok (.aload_n 3, 1) := by decide +kernel
theorem dX8_entry_92 : decode cX8_entry 92 = .ok (.getfield 209, 3) := by decide +kernel
theorem dX8_entry_95 : decode cX8_entry 95 = .ok (.ireturn, 1) := by decide +kernel
theorem dX8_entry_96 : decode cX8_entry 96 = .ok (.aload_n 3, 1) := by decide +kernel
theorem dX8_entry_97 : decode cX8_entry 97 = .ok (.getfield 212, 3) := by decide +kernel
theorem dX8_entry_100 : decode cX8_entry 100 = .ok (.aload_n 3, 1) := by decide +kernel
theorem dX8_entry_101 : decode cX8_entry 101 = .ok (.getfield 209, 3) := by decide +kernel
theorem dX8_entry_104 : decode cX8_entry 104 = .ok (.isub, 1) := by decide +kernel
theorem dX8_entry_105 : decode cX8_entry 105 = .ok (.ireturn, 1) := by decide +kernel
theorem dX8_entry_106 : decode cX8_entry 106 = .ok (.aload_n 3, 1) := by decide +kernel
theorem dX8_entry_107 : decode cX8_entry 107 = .ok (.getfield 213, 3) := by decide +kernel
theorem dX8_entry_110 : decode cX8_entry 110 = .ok (.invokestatic 216, 3) := by decide +kernel
theorem dX8_entry_113 : decode cX8_entry 113 = .ok (.ireturn, 1) := by decide +kernel
abbrev mm_X8_entry : ab_M := (RX8, 4, (some .int), false, 1, 20, none)
noncomputable def f_X8_entry (a0 : Int) (a1 : Int) (a2 : Int) (h : ab_H) : Option (Int × ab_H) :=
  if a1 < (0 : Int) then
    some ((-2 : Int), h)
  else
  if a2 < (0 : Int) then
    some ((-2 : Int), h)
  else
  if a2 ≤ (5 : Int) then
    (ab_get h 9 9 a0).bind fun t1 =>
    (ab_get h 7 1 t1).bind fun t2 =>
    if a1 < t2 then
      (ab_get h 9 9 a0).bind fun t3 =>
      (ab_get h 7 0 t3).bind fun t4 =>
      (ab_ald h 15 t4 a1).bind fun t5 =>
      if a2 = (0 : Int) then
        (ab_get h 3 0 t5).bind fun t6 =>
        some (t6, h)
      else
      if a2 = (1 : Int) then
        (ab_get h 3 2 t5).bind fun t7 =>
        some (t7, h)
      else
      if a2 = (2 : Int) then
        (ab_get h 3 9 t5).bind fun t8 =>
        some (t8, h)
      else
      if a2 = (3 : Int) then
        (ab_get h 3 6 t5).bind fun t9 =>
        some (t9, h)
      else
      if a2 = (4 : Int) then
        (ab_get h 3 7 t5).bind fun t10 =>
        (ab_get h 3 6 t5).bind fun t11 =>
        some (ab_w32 (t10 - t11), h)
      else
      (ab_get h 3 8 t5).bind fun t12 =>
      (f_J6_bitCount_0f7a4 t12 h).bind fun q13 =>
      some (q13.1, q13.2)
    else
    some ((-1 : Int), h)
  else
  some ((-2 : Int), h)
set_option maxRecDepth 20000 in
theorem ct_X8_entry {a0 a1 a2 : Int} {h : ab_H} {q : Int × ab_H} (hk : f_X8_entry a0 a1 a2 h = some q) : ab_CT yX8_entry cX8_entry 4 (some .int) 1 20 [ab_R a0, ab_I a1, ab_I a2] h (some (ab_I q.1)) q.2 := by
  refine ab_CT.mk_ 1 (own := RX8) (ini := false) (lv := [some (ab_R a0), some (ab_I a1), some (ab_I a2), none]) rfl (by decide +kernel) (fun q => by cases q) rfl rfl ?_
  unfold f_X8_entry at hk
  show ab_E mm_X8_entry cX8_entry 0 _ [] h _ _
  refine ab_iload_n (pc := 0) (i := 1) dX8_entry_0 rfl rfl ?_
  refine ab_if_lt (pc := 1) (tgt := 13) dX8_entry_1 rfl (fun hc => ?_) (fun hc => ?_)
  · have hk := ab_ifp hk hc
    refine ab_bipush (pc := 13) dX8_entry_13 ab_p8_m2 ab_k_m2 ?_
    obtain rfl := Option.some.inj hk
    exact ab_reti (pc := 15) dX8_entry_15 (Or.inl rfl)
  · have hk := ab_ifn hk hc
    refine ab_iload_n (pc := 4) (i := 2) dX8_entry_4 rfl rfl ?_
    refine ab_if_lt (pc := 5) (tgt := 13) dX8_entry_5 rfl (fun hc => ?_) (fun hc => ?_)
    · have hk := ab_ifp hk hc
      refine ab_bipush (pc := 13) dX8_entry_13 ab_p8_m2 ab_k_m2 ?_
      obtain rfl := Option.some.inj hk
      exact ab_reti (pc := 15) dX8_entry_15 (Or.inl rfl)
    · have hk := ab_ifn hk hc
      refine ab_iload_n (pc := 8) (i := 2) dX8_entry_8 rfl rfl ?_
      refine ab_iconst (pc := 9) dX8_entry_9 ab_k_5 ?_
      refine ab_icmp_le (pc := 10) (tgt := 16) dX8_entry_10 rfl (fun hc => ?_) (fun hc => ?_)
      · have hk := ab_ifp hk hc
        refine ab_iload_n (pc := 16) (i := 1) dX8_entry_16 rfl rfl ?_
        refine ab_aload_n (pc := 17) (i := 0) dX8_entry_17 rfl rfl ?_
        obtain ⟨t1, ht1, hk⟩ := ab_bnd hk
        refine ab_getR (pc := 18) dX8_entry_18 fl_RX8_65 ht1 ?_
        obtain ⟨t2, ht2, hk⟩ := ab_bnd hk
        refine ab_getI (pc := 21) dX8_entry_21 fl_RX8_111 ht2 ?_
        refine ab_icmp_lt (pc := 24) (tgt := 29) dX8_entry_24 rfl (fun hc => ?_) (fun hc => ?_)
        · have hk := ab_ifp hk hc
          refine ab_aload_n (pc := 29) (i := 0) dX8_entry_29 rfl rfl ?_
          obtain ⟨t3, ht3, hk⟩ := ab_bnd hk
          refine ab_getR (pc := 30) dX8_entry_30 fl_RX8_65 ht3 ?_
          obtain ⟨t4, ht4, hk⟩ := ab_bnd hk
          refine ab_getR (pc := 33) dX8_entry_33 fl_RX8_196 ht4 ?_
          refine ab_iload_n (pc := 36) (i := 1) dX8_entry_36 rfl rfl ?_
          obtain ⟨t5, ht5, hk⟩ := ab_bnd hk
          refine ab_aald (pc := 37) dX8_entry_37 (by decide) ht5 ?_
          refine ab_astore_n (pc := 38) (i := 3) (lv2 := [some (ab_R a0), some (ab_I a1), some (ab_I a2), some (ab_R t5)]) dX8_entry_38 rfl (Nat.le_of_ble_eq_true rfl) rfl rfl ?_
          refine ab_iload_n (pc := 39) (i := 2) dX8_entry_39 rfl rfl ?_
          by_cases hc : a2 = (0 : Int)
          · have hk := ab_ifp hk hc
            refine ab_tswIn (pc := 40) (v := (0 : Int)) (off := 36) (tgt := 76) dX8_entry_40 hc ⟨by decide, by decide⟩ rfl rfl ?_
            refine ab_aload_n (pc := 76) (i := 3) dX8_entry_76 rfl rfl ?_
            obtain ⟨t6, ht6, hk⟩ := ab_bnd hk
            refine ab_getI (pc := 77) dX8_entry_77 fl_RX8_200 ht6 ?_
            obtain rfl := Option.some.inj hk
            exact ab_reti (pc := 80) dX8_entry_80 (Or.inl rfl)
          have hk := ab_ifn hk hc
          have hz0 := hc
          clear hc
          by_cases hc : a2 = (1 : Int)
          · have hk := ab_ifp hk hc
            refine ab_tswIn (pc := 40) (v := (1 : Int)) (off := 41) (tgt := 81) dX8_entry_40 hc ⟨by decide, by decide⟩ rfl rfl ?_
            refine ab_aload_n (pc := 81) (i := 3) dX8_entry_81 rfl rfl ?_
            obtain ⟨t7, ht7, hk⟩ := ab_bnd hk
            refine ab_getI (pc := 82) dX8_entry_82 fl_RX8_205 ht7 ?_
            obtain rfl := Option.some.inj hk
            exact ab_reti (pc := 85) dX8_entry_85 (Or.inl rfl)
          have hk := ab_ifn hk hc
          have hz1 := hc
          clear hc
          by_cases hc : a2 = (2 : Int)
          · have hk := ab_ifp hk hc
            refine ab_tswIn (pc := 40) (v := (2 : Int)) (off := 46) (tgt := 86) dX8_entry_40 hc ⟨by decide, by decide⟩ rfl rfl ?_
            refine ab_aload_n (pc := 86) (i := 3) dX8_entry_86 rfl rfl ?_
            obtain ⟨t8, ht8, hk⟩ := ab_bnd hk
            refine ab_getI (pc := 87) dX8_entry_87 fl_RX8_206 ht8 ?_
            obtain rfl := Option.some.inj hk
            exact ab_reti (pc := 90) dX8_entry_90 (Or.inl rfl)
          have hk := ab_ifn hk hc
          have hz2 := hc
          clear hc
          by_cases hc : a2 = (3 : Int)
          · have hk := ab_ifp hk hc
            refine ab_tswIn (pc := 40) (v := (3 : Int)) (off := 51) (tgt := 91) dX8_entry_40 hc ⟨by decide, by decide⟩ rfl rfl ?_
            refine ab_aload_n (pc := 91) (i := 3) dX8_entry_91 rfl rfl ?_
            obtain ⟨t9, ht9, hk⟩ := ab_bnd hk
            refine ab_getI (pc := 92) dX8_entry_92 fl_RX8_209 ht9 ?_
            obtain rfl := Option.some.inj hk
            exact ab_reti (pc := 95) dX8_entry_95 (Or.inl rfl)
          have hk := ab_ifn hk hc
          have hz3 := hc
          clear hc
          by_cases hc : a2 = (4 : Int)
          · have hk := ab_ifp hk hc
            refine ab_tswIn (pc := 40) (v := (4 : Int)) (off := 56) (tgt := 96) dX8_entry_40 hc ⟨by decide, by decide⟩ rfl rfl ?_
            refine ab_aload_n (pc := 96) (i := 3) dX8_entry_96 rfl rfl ?_
            obtain ⟨t10, ht10, hk⟩ := ab_bnd hk
            refine ab_getI (pc := 97) dX8_entry_97 fl_RX8_212 ht10 ?_
            refine ab_aload_n (pc := 100) (i := 3) dX8_entry_100 rfl rfl ?_
            obtain ⟨t11, ht11, hk⟩ := ab_bnd hk
            refine ab_getI (pc := 101) dX8_entry_101 fl_RX8_209 ht11 ?_
            refine ab_isub (pc := 104) dX8_entry_104 ?_
            obtain rfl := Option.some.inj hk
            exact ab_reti (pc := 105) dX8_entry_105 (Or.inl rfl)
          have hk := ab_ifn hk hc
          have hz4 := hc
          clear hc
          refine ab_tswOut (pc := 40) (tgt := 106) dX8_entry_40 (by omega) rfl ?_
          refine ab_aload_n (pc := 106) (i := 3) dX8_entry_106 rfl rfl ?_
          obtain ⟨t12, ht12, hk⟩ := ab_bnd hk
          refine ab_getI (pc := 107) dX8_entry_107 fl_RX8_213 ht12 ?_
          obtain ⟨q13, hq13, hk⟩ := ab_bnd hk
          refine ab_callSI (st := []) (as := [ab_I t12]) (pc := 110) dX8_entry_110 ml_RX8_216 my_J6_bitCount_0f7a4 ms_J6_bitCount_0f7a4 (ct_J6_bitCount_0f7a4 hq13) ⟨Nat.le_of_ble_eq_true rfl, Nat.le_of_ble_eq_true rfl⟩ rfl (Nat.le_of_ble_eq_true rfl) rfl ?_
          obtain rfl := Option.some.inj hk
          exact ab_reti (pc := 113) dX8_entry_113 (Or.inl rfl)
        · have hk := ab_ifn hk hc
          refine ab_iconst (pc := 27) dX8_entry_27 ab_k_m1 ?_
          obtain rfl := Option.some.inj hk
          exact ab_reti (pc := 28) dX8_entry_28 (Or.inl rfl)
      · have hk := ab_ifn hk hc
        refine ab_bipush (pc := 13) dX8_entry_13 ab_p8_m2 ab_k_m2 ?_
        obtain rfl := Option.some.inj hk
        exact ab_reti (pc := 15) dX8_entry_15 (Or.inl rfl)
theorem dX8_row_0 : decode cX8_row 0 = .ok (.iload_n 1, 1) := by decide +kernel
theorem dX8_row_1 : decode cX8_row 1 = .ok (.ifCond .lt 16, 3) := by decide +kernel
theorem dX8_row_4 : decode cX8_row 4 = .ok (.iload_n 2, 1) := by decide +kernel
theorem dX8_row_5 : decode cX8_row 5 = .ok (.ifCond .lt 12, 3) := by decide +kernel
theorem dX8_row_8 : decode cX8_row 8 = .ok (.iload_n 2, 1) := by decide +kernel
theorem dX8_row_9 : decode cX8_row 9 = .ok (.iconst 1, 1) := by decide +kernel
theorem dX8_row_10 : decode cX8_row 10 = .ok (.if_icmp .gt 7, 3) := by decide +kernel
theorem dX8_row_13 : decode cX8_row 13 = .ok (.iload_n 3, 1) := by decide +kernel
theorem dX8_row_14 : decode cX8_row 14 = .ok (.ifCond .ge 6, 3) := by decide +kernel
theorem dX8_row_17 : decode cX8_row 17 = .ok (.bipush (-2), 2) := by decide +kernel
theorem dX8_row_19 : decode cX8_row 19 = .ok (.ireturn, 1) := by decide +kernel
theorem dX8_row_20 : decode cX8_row 20 = .ok (.iload_n 1, 1) := by decide +kernel
theorem dX8_row_21 : decode cX8_row 21 = .ok (.aload_n 0, 1) := by decide +kernel
theorem dX8_row_22 : decode cX8_row 22 = .ok (.getfield 65, 3) := by decide +kernel
theorem dX8_row_25 : decode cX8_row 25 = .ok (.getfield 111, 3) := by decide +kernel
theorem dX8_row_28 : decode cX8_row 28 = .ok (.if_icmp .lt 5, 3) := by decide +kernel
theorem dX8_row_31 : decode cX8_row 31 = .ok (.iconst (-1), 1) := by decide +kernel
theorem dX8_row_32 : decode cX8_row 32 = .ok (.ireturn, 1) := by decide +kernel
theorem dX8_row_33 : decode cX8_row 33 = .ok (.aload_n 0, 1) := by decide +kernel
theorem dX8_row_34 : decode cX8_row 34 = .ok (.getfield 65, 3) := by decide +kernel
theorem dX8_row_37 : decode cX8_row 37 = .ok (.getfield 196, 3) := by decide +kernel
theorem dX8_row_40 : decode cX8_row 40 = .ok (.iload_n 1, 1) := by decide +kernel
theorem dX8_row_41 : decode cX8_row 41 = .ok (.aaload, 1) := by decide +kernel
theorem dX8_row_42 : decode cX8_row 42 = .ok (.astore 4, 2) := by decide +kernel
theorem dX8_row_44 : decode cX8_row 44 = .ok (.iload_n 2, 1) := by decide +kernel
theorem dX8_row_45 : decode cX8_row 45 = .ok (.ifCond .ne 7, 3) := by decide +kernel
theorem dX8_row_48 : decode cX8_row 48 = .ok (.iconst 0, 1) := by decide +kernel
theorem dX8_row_49 : decode cX8_row 49 = .ok (.goto 8, 3) := by decide +kernel
theorem dX8_row_52 : decode cX8_row 52 = .ok (.aload 4, 2) := by decide +kernel
theorem dX8_row_54 : decode cX8_row 54 = .ok (.getfield 209, 3) := by decide +kernel
theorem dX8_row_57 : decode cX8_row 57 = .ok (.istore 5, 2) := by decide +kernel
theorem dX8_row_59 : decode cX8_row 59 = .ok (.iload_n 2, 1) := by decide +kernel
theorem dX8_row_60 : decode cX8_row 60 = .ok (.ifCond .ne 11, 3) := by decide +kernel
theorem dX8_row_63 : decode cX8_row 63 = .ok (.aload 4, 2) := by decide +kernel
theorem dX8_row_65 : decode cX8_row 65 = .ok (.getfield 209, 3) := by decide +kernel
theorem dX8_row_68 : decode cX8_row 68 = .ok (.goto 8, 3) := by decide +kernel
theorem dX8_row_71 : decode cX8_row 71 = .ok (.aload 4, 2) := by decide +kernel
theorem dX8_row_73 : decode cX8_row 73 = .ok (.getfield 212, 3) := by decide +kernel
theorem dX8_row_76 : decode cX8_row 76 = .ok (.istore 6, 2) := by decide +kernel
theorem dX8_row_78 : decode cX8_row 78 = .ok (.iload_n 3, 1) := by decide +kernel
theorem dX8_row_79 : decode cX8_row 79 = .ok (.iload 6, 2) := by decide +kernel
theorem dX8_row_81 : decode cX8_row 81 = .ok (.iload 5, 2) := by decide +kernel
theorem dX8_row_83 : decode cX8_row 83 = .ok (.isub, 1) := by decide +kernel
theorem dX8_row_84 : decode cX8_row 84 = .ok (.if_icmp .ge 16, 3) := by decide +kernel
theorem dX8_row_87 : decode cX8_row 87 = .ok (.aload 4, 2) := by decide +kernel
theorem dX8_row_89 : decode cX8_row 89 = .ok (.getfield 221, 3) := by decide +kernel
theorem dX8_row_92 : decode cX8_row 92 = .ok (.iload 5, 2) := by decide +kernel
theorem dX8_row_94 : decode cX8_row 94 = .ok (.iload_n 3, 1) := by decide +kernel
theorem dX8_row_95 : decode cX8_row 95 = .ok (.iadd, 1) := by decide +kernel
theorem dX8_row_96 : decode cX8_row 96 = .ok (.iaload, 1) := by decide +kernel
theorem dX8_row_97 : decode cX8_row 97 = .ok (.goto 4, 3) := by decide +kernel
theorem dX8_row_100 : decode cX8_row 100 = .ok (.iconst (-1), 1) := by decide +kernel
theorem dX8_row_101 : decode cX8_row 101 = .ok (.ireturn, 1) := by decide +kernel
abbrev mm_X8_row : ab_M := (RX8, 7, (some .int), false, 0, 0, none)
noncomputable def f_X8_row_J76 (v3 : Int) (v4 : Int) (v5 : Int) (s0 : Int) (h : ab_H) : Option (Int × ab_H) :=
  if ab_w32 (s0 - v5) ≤ v3 then
    some ((-1 : Int), h)
  else
  (ab_get h 3 5 v4).bind fun t1 =>
  (ab_ald h 11 t1 (ab_w32 (v5 + v3))).bind fun t2 =>
  some (t2, h)
set_option maxRecDepth 20000 in
theorem e_X8_row_J76 : ∀ (v3 : Int) (v4 : Int) (v5 : Int) (s0 : Int) (h : ab_H) (q : Int × ab_H), f_X8_row_J76 v3 v4 v5 s0 h = some q → ab_E mm_X8_row cX8_row 76 [none, none, none, some (ab_I v3), some (ab_R v4), some (ab_I v5), none] [ab_I s0] h (some (ab_I q.1)) q.2 := by
  intro v3 v4 v5 s0 h q hk
  unfold f_X8_row_J76 at hk
  refine ab_istore (pc := 76) (i := 6) (lv2 := [none, none, none, some (ab_I v3), some (ab_R v4), some (ab_I v5), some (ab_I s0)]) dX8_row_76 (Nat.le_of_ble_eq_true rfl) rfl rfl ?_
  refine ab_iload_n (pc := 78) (i := 3) dX8_row_78 rfl rfl ?_
  refine ab_iload (pc := 79) (i := 6) dX8_row_79 rfl ?_
  refine ab_iload (pc := 81) (i := 5) dX8_row_81 rfl ?_
  refine ab_isub (pc := 83) dX8_row_83 ?_
  refine ab_icmp_ge (pc := 84) (tgt := 100) dX8_row_84 rfl (fun hc => ?_) (fun hc => ?_)
  · have hk := ab_ifp hk hc
    refine ab_iconst (pc := 100) dX8_row_100 ab_k_m1 ?_
    obtain rfl := Option.some.inj hk
    exact ab_reti (pc := 101) dX8_row_101 (Or.inl rfl)
  · have hk := ab_ifn hk hc
    refine ab_aload (pc := 87) (i := 4) dX8_row_87 rfl ?_
    obtain ⟨t1, ht1, hk⟩ := ab_bnd hk
    refine ab_getR (pc := 89) dX8_row_89 fl_RX8_221 ht1 ?_
    refine ab_iload (pc := 92) (i := 5) dX8_row_92 rfl ?_
    refine ab_iload_n (pc := 94) (i := 3) dX8_row_94 rfl rfl ?_
    refine ab_iadd (pc := 95) dX8_row_95 ?_
    obtain ⟨t2, ht2, hk⟩ := ab_bnd hk
    refine ab_iald (pc := 96) dX8_row_96 ht2 ?_
    refine ab_goto (pc := 97) (tgt := 101) dX8_row_97 rfl ?_
    obtain rfl := Option.some.inj hk
    exact ab_reti (pc := 101) dX8_row_101 (Or.inl rfl)
noncomputable def f_X8_row_J57 (v2 : Int) (v3 : Int) (v4 : Int) (s0 : Int) (h : ab_H) : Option (Int × ab_H) :=
  if v2 = (0 : Int) then
    (ab_get h 3 6 v4).bind fun t2 =>
    f_X8_row_J76 v3 v4 s0 t2 h
  else
  (ab_get h 3 7 v4).bind fun t1 =>
  f_X8_row_J76 v3 v4 s0 t1 h
set_option maxRecDepth 20000 in
theorem e_X8_row_J57 : ∀ (v2 : Int) (v3 : Int) (v4 : Int) (s0 : Int) (h : ab_H) (q : Int × ab_H), f_X8_row_J57 v2 v3 v4 s0 h = some q → ab_E mm_X8_row cX8_row 57 [none, none, some (ab_I v2), some (ab_I v3), some (ab_R v4), none, none] [ab_I s0] h (some (ab_I q.1)) q.2 := by
  intro v2 v3 v4 s0 h q hk
  unfold f_X8_row_J57 at hk
  refine ab_istore (pc := 57) (i := 5) (lv2 := [none, none, some (ab_I v2), some (ab_I v3), some (ab_R v4), some (ab_I s0), none]) dX8_row_57 (Nat.le_of_ble_eq_true rfl) rfl rfl ?_
  refine ab_iload_n (pc := 59) (i := 2) dX8_row_59 rfl rfl ?_
  refine ab_if_ne (pc := 60) (tgt := 71) dX8_row_60 rfl (fun hc => ?_) (fun hc => ?_)
  · have hk := ab_ifn hk hc
    refine ab_aload (pc := 71) (i := 4) dX8_row_71 rfl ?_
    obtain ⟨t1, ht1, hk⟩ := ab_bnd hk
    refine ab_getI (pc := 73) dX8_row_73 fl_RX8_212 ht1 ?_
    refine ab_sub_ (lv2 := [none, none, none, some (ab_I v3), some (ab_R v4), some (ab_I s0), none]) (ab_sn (ab_sn (ab_sn (ab_ss (ab_ss (ab_ss (ab_sn ab_s0))))))) ?_
    exact e_X8_row_J76 _ _ _ _ _ _ hk
  · have hk := ab_ifp hk hc
    refine ab_aload (pc := 63) (i := 4) dX8_row_63 rfl ?_
    obtain ⟨t2, ht2, hk⟩ := ab_bnd hk
    refine ab_getI (pc := 65) dX8_row_65 fl_RX8_209 ht2 ?_
    refine ab_goto (pc := 68) (tgt := 76) dX8_row_68 rfl ?_
    refine ab_sub_ (lv2 := [none, none, none, some (ab_I v3), some (ab_R v4), some (ab_I s0), none]) (ab_sn (ab_sn (ab_sn (ab_ss (ab_ss (ab_ss (ab_sn ab_s0))))))) ?_
    exact e_X8_row_J76 _ _ _ _ _ _ hk
noncomputable def f_X8_row (a0 : Int) (a1 : Int) (a2 : Int) (a3 : Int) (h : ab_H) : Option (Int × ab_H) :=
  if a1 < (0 : Int) then
    some ((-2 : Int), h)
  else
  if a2 < (0 : Int) then
    some ((-2 : Int), h)
  else
  if (1 : Int) < a2 then
    some ((-2 : Int), h)
  else
  if (0 : Int) ≤ a3 then
    (ab_get h 9 9 a0).bind fun t1 =>
    (ab_get h 7 1 t1).bind fun t2 =>
    if a1 < t2 then
      (ab_get h 9 9 a0).bind fun t3 =>
      (ab_get h 7 0 t3).bind fun t4 =>
      (ab_ald h 15 t4 a1).bind fun t5 =>
      if a2 = (0 : Int) then
        f_X8_row_J57 a2 a3 t5 (0 : Int) h
      else
      (ab_get h 3 6 t5).bind fun t6 =>
      f_X8_row_J57 a2 a3 t5 t6 h
    else
    some ((-1 : Int), h)
  else
  some ((-2 : Int), h)
set_option maxRecDepth 20000 in
theorem ct_X8_row {a0 a1 a2 a3 : Int} {h : ab_H} {q : Int × ab_H} (hk : f_X8_row a0 a1 a2 a3 h = some q) : ab_CT yX8_row cX8_row 7 (some .int) 0 0 [ab_R a0, ab_I a1, ab_I a2, ab_I a3] h (some (ab_I q.1)) q.2 := by
  refine ab_CT.mk_ 3 (own := RX8) (ini := false) (lv := [some (ab_R a0), some (ab_I a1), some (ab_I a2), some (ab_I a3), none, none, none]) rfl (by decide +kernel) (fun q => by cases q) rfl rfl ?_
  unfold f_X8_row at hk
  show ab_E mm_X8_row cX8_row 0 _ [] h _ _
  refine ab_iload_n (pc := 0) (i := 1) dX8_row_0 rfl rfl ?_
  refine ab_if_lt (pc := 1) (tgt := 17) dX8_row_1 rfl (fun hc => ?_) (fun hc => ?_)
  · have hk := ab_ifp hk hc
    refine ab_bipush (pc := 17) dX8_row_17 ab_p8_m2 ab_k_m2 ?_
    obtain rfl := Option.some.inj hk
    exact ab_reti (pc := 19) dX8_row_19 (Or.inl rfl)
  · have hk := ab_ifn hk hc
    refine ab_iload_n (pc := 4) (i := 2) dX8_row_4 rfl rfl ?_
    refine ab_if_lt (pc := 5) (tgt := 17) dX8_row_5 rfl (fun hc => ?_) (fun hc => ?_)
    · have hk := ab_ifp hk hc
      refine ab_bipush (pc := 17) dX8_row_17 ab_p8_m2 ab_k_m2 ?_
      obtain rfl := Option.some.inj hk
      exact ab_reti (pc := 19) dX8_row_19 (Or.inl rfl)
    · have hk := ab_ifn hk hc
      refine ab_iload_n (pc := 8) (i := 2) dX8_row_8 rfl rfl ?_
      refine ab_iconst (pc := 9) dX8_row_9 ab_k_1 ?_
      refine ab_icmp_gt (pc := 10) (tgt := 17) dX8_row_10 rfl (fun hc => ?_) (fun hc => ?_)
      · have hk := ab_ifp hk hc
        refine ab_bipush (pc := 17) dX8_row_17 ab_p8_m2 ab_k_m2 ?_
        obtain rfl := Option.some.inj hk
        exact ab_reti (pc := 19) dX8_row_19 (Or.inl rfl)
      · have hk := ab_ifn hk hc
        refine ab_iload_n (pc := 13) (i := 3) dX8_row_13 rfl rfl ?_
        refine ab_if_ge (pc := 14) (tgt := 20) dX8_row_14 rfl (fun hc => ?_) (fun hc => ?_)
        · have hk := ab_ifp hk hc
          refine ab_iload_n (pc := 20) (i := 1) dX8_row_20 rfl rfl ?_
          refine ab_aload_n (pc := 21) (i := 0) dX8_row_21 rfl rfl ?_
          obtain ⟨t1, ht1, hk⟩ := ab_bnd hk
          refine ab_getR (pc := 22) dX8_row_22 fl_RX8_65 ht1 ?_
          obtain ⟨t2, ht2, hk⟩ := ab_bnd hk
          refine ab_getI (pc := 25) dX8_row_25 fl_RX8_111 ht2 ?_
          refine ab_icmp_lt (pc := 28) (tgt := 33) dX8_row_28 rfl (fun hc => ?_) (fun hc => ?_)
          · have hk := ab_ifp hk hc
            refine ab_aload_n (pc := 33) (i := 0) dX8_row_33 rfl rfl ?_
            obtain ⟨t3, ht3, hk⟩ := ab_bnd hk
            refine ab_getR (pc := 34) dX8_row_34 fl_RX8_65 ht3 ?_
            obtain ⟨t4, ht4, hk⟩ := ab_bnd hk
            refine ab_getR (pc := 37) dX8_row_37 fl_RX8_196 ht4 ?_
            refine ab_iload_n (pc := 40) (i := 1) dX8_row_40 rfl rfl ?_
            obtain ⟨t5, ht5, hk⟩ := ab_bnd hk
            refine ab_aald (pc := 41) dX8_row_41 (by decide) ht5 ?_
            refine ab_astore (pc := 42) (i := 4) (lv2 := [some (ab_R a0), some (ab_I a1), some (ab_I a2), some (ab_I a3), some (ab_R t5), none, none]) dX8_row_42 (Nat.le_of_ble_eq_true rfl) rfl rfl ?_
            refine ab_iload_n (pc := 44) (i := 2) dX8_row_44 rfl rfl ?_
            refine ab_if_ne (pc := 45) (tgt := 52) dX8_row_45 rfl (fun hc => ?_) (fun hc => ?_)
            · have hk := ab_ifn hk hc
              refine ab_aload (pc := 52) (i := 4) dX8_row_52 rfl ?_
              obtain ⟨t6, ht6, hk⟩ := ab_bnd hk
              refine ab_getI (pc := 54) dX8_row_54 fl_RX8_209 ht6 ?_
              refine ab_sub_ (lv2 := [none, none, some (ab_I a2), some (ab_I a3), some (ab_R t5), none, none]) (ab_sn (ab_sn (ab_ss (ab_ss (ab_ss (ab_sn (ab_sn ab_s0))))))) ?_
              exact e_X8_row_J57 _ _ _ _ _ _ hk
            · have hk := ab_ifp hk hc
              refine ab_iconst (pc := 48) dX8_row_48 ab_k_0 ?_
              refine ab_goto (pc := 49) (tgt := 57) dX8_row_49 rfl ?_
              refine ab_sub_ (lv2 := [none, none, some (ab_I a2), some (ab_I a3), some (ab_R t5), none, none]) (ab_sn (ab_sn (ab_ss (ab_ss (ab_ss (ab_sn (ab_sn ab_s0))))))) ?_
              exact e_X8_row_J57 _ _ _ _ _ _ hk
          · have hk := ab_ifn hk hc
            refine ab_iconst (pc := 31) dX8_row_31 ab_k_m1 ?_
            obtain rfl := Option.some.inj hk
            exact ab_reti (pc := 32) dX8_row_32 (Or.inl rfl)
        · have hk := ab_ifn hk hc
          refine ab_bipush (pc := 17) dX8_row_17 ab_p8_m2 ab_k_m2 ?_
          obtain rfl := Option.some.inj hk
          exact ab_reti (pc := 19) dX8_row_19 (Or.inl rfl)
theorem dX8_isLine_0 : decode cX8_isLine 0 = .ok (.iload_n 1, 1) := by decide +kernel
theorem dX8_isLine_1 : decode cX8_isLine 1 = .ok (.ifCond .lt 18, 3) := by decide +kernel
theorem dX8_isLine_4 : decode cX8_isLine 4 = .ok (.iload_n 1, 1) := by decide +kernel
theorem dX8_isLine_5 : decode cX8_isLine 5 = .ok (.aload_n 0, 1) := by decide +kernel
theorem dX8_isLine_6 : decode cX8_isLine 6 = .ok (.getfield 65, 3) := by decide +kernel
theorem dX8_isLine_9 : decode cX8_isLine 9 = .ok (.getfield 112, 3) := by decide +kernel
theorem dX8_isLine_12 : decode cX8_isLine 12 = .ok (.if_icmp .ge 7, 3) := by decide +kernel
theorem dX8_isLine_15 : decode cX8_isLine 15 = .ok (.iconst 1, 1) := by decide +kernel
theorem dX8_isLine_16 : decode cX8_isLine 16 = .ok (.goto 4, 3) := by decide +kernel
theorem dX8_isLine_19 : decode cX8_isLine 19 = .ok (.iconst 0, 1) := by decide +kernel
theorem dX8_isLine_20 : decode cX8_isLine 20 = .ok (.ireturn, 1) := by decide +kernel
abbrev mm_X8_isLine : ab_M := (RX8, 2, (some .boolean), false, 0, 0, none)
noncomputable def f_X8_isLine_J19 (h : ab_H) : Option (Int × ab_H) :=
  some ((0 : Int), h)
set_option maxRecDepth 20000 in
theorem e_X8_isLine_J19 : ∀ (h : ab_H) (q : Int × ab_H), f_X8_isLine_J19  h = some q → ab_E mm_X8_isLine cX8_isLine 19 [none, none] [] h (some (ab_I q.1)) q.2 := by
  intro  h q hk
  unfold f_X8_isLine_J19 at hk
  refine ab_iconst (pc := 19) dX8_isLine_19 ab_k_0 ?_
  obtain rfl := Option.some.inj hk
  exact ab_retz (pc := 20) dX8_isLine_20 rfl rfl
noncomputable def f_X8_isLine (a0 : Int) (a1 : Int) (h : ab_H) : Option (Int × ab_H) :=
  if a1 < (0 : Int) then
    f_X8_isLine_J19 h
  else
  (ab_get h 9 9 a0).bind fun t1 =>
  (ab_get h 7 3 t1).bind fun t2 =>
  if t2 ≤ a1 then
    f_X8_isLine_J19 h
  else
  some ((1 : Int), h)
set_option maxRecDepth 20000 in
theorem ct_X8_isLine {a0 a1 : Int} {h : ab_H} {q : Int × ab_H} (hk : f_X8_isLine a0 a1 h = some q) : ab_CT yX8_isLine cX8_isLine 2 (some .boolean) 0 0 [ab_R a0, ab_I a1] h (some (ab_I q.1)) q.2 := by
  refine ab_CT.mk_ 0 (own := RX8) (ini := false) (lv := [some (ab_R a0), some (ab_I a1)]) rfl (by decide +kernel) (fun q => by cases q) rfl rfl ?_
  unfold f_X8_isLine at hk
  show ab_E mm_X8_isLine cX8_isLine 0 _ [] h _ _
  refine ab_iload_n (pc := 0) (i := 1) dX8_isLine_0 rfl rfl ?_
  refine ab_if_lt (pc := 1) (tgt := 19) dX8_isLine_1 rfl (fun hc => ?_) (fun hc => ?_)
  · have hk := ab_ifp hk hc
    refine ab_sub_ (lv2 := [none, none]) (ab_sn (ab_sn ab_s0)) ?_
    exact e_X8_isLine_J19  _ _ hk
  · have hk := ab_ifn hk hc
    refine ab_iload_n (pc := 4) (i := 1) dX8_isLine_4 rfl rfl ?_
    refine ab_aload_n (pc := 5) (i := 0) dX8_isLine_5 rfl rfl ?_
    obtain ⟨t1, ht1, hk⟩ := ab_bnd hk
    refine ab_getR (pc := 6) dX8_isLine_6 fl_RX8_65 ht1 ?_
    obtain ⟨t2, ht2, hk⟩ := ab_bnd hk
    refine ab_getI (pc := 9) dX8_isLine_9 fl_RX8_112 ht2 ?_
    refine ab_icmp_ge (pc := 12) (tgt := 19) dX8_isLine_12 rfl (fun hc => ?_) (fun hc => ?_)
    · have hk := ab_ifp hk hc
      refine ab_sub_ (lv2 := [none, none]) (ab_sn (ab_sn ab_s0)) ?_
      exact e_X8_isLine_J19  _ _ hk
    · have hk := ab_ifn hk hc
      refine ab_iconst (pc := 15) dX8_isLine_15 ab_k_1 ?_
      refine ab_goto (pc := 16) (tgt := 20) dX8_isLine_16 rfl ?_
      obtain rfl := Option.some.inj hk
      exact ab_retz (pc := 20) dX8_isLine_20 rfl rfl
theorem dX8_line_0 : decode cX8_line 0 = .ok (.aload_n 0, 1) := by decide +kernel
theorem dX8_line_1 : decode cX8_line 1 = .ok (.iload_n 1, 1) := by decide +kernel
theorem dX8_line_2 : decode cX8_line 2 = .ok (.invokevirtual 222, 3) := by decide +kernel
theorem dX8_line_5 : decode cX8_line 5 = .ok (.ifCond .ne 6, 3) := by decide +kernel
theorem dX8_line_8 : decode cX8_line 8 = .ok (.bipush (-2), 2) := by decide +kernel
theorem dX8_line_10 : decode cX8_line 10 = .ok (.ireturn, 1) := by decide +kernel
theorem dX8_line_11 : decode cX8_line 11 = .ok (.aload_n 0, 1) := by decide +kernel
theorem dX8_line_12 : decode cX8_line 12 = .ok (.getfield 65, 3) := by decide +kernel
theorem dX8_line_15 : decode cX8_line 15 = .ok (.getfield 225, 3) := by decide +kernel
theorem dX8_line_18 : decode cX8_line 18 = .ok (.iload_n 1, 1) := by decide +kernel
theorem dX8_line_19 : decode cX8_line 19 = .ok (.iaload, 1) := by decide +kernel
theorem dX8_line_20 : decode cX8_line 20 = .ok (.istore_n 3, 1) := by decide +kernel
theorem dX8_line_21 : decode cX8_line 21 = .ok (.iload_n 2, 1) := by decide +kernel
theorem dX8_line_22 : decode cX8_line 22 = .ok (.tableswitch 71 0 3 #[30, 32, 46, 58], 30) := by decide +kernel
theorem dX8_line_52 : decode cX8_line 52 = .ok (.iload_n 3, 1) := by decide +kernel
theorem dX8_line_53 : decode cX8_line 53 = .ok (.ireturn, 1) := by decide +kernel
theorem dX8_line_54 : decode cX8_line 54 = .ok (.aload_n 0, 1) := by decide +kernel
theorem dX8_line_55 : decode cX8_line 55 = .ok (.getfield 65, 3) := by decide +kernel
theorem dX8_line_58 : decode cX8_line 58 = .ok (.getfield 225, 3) := by decide +kernel
theorem dX8_line_61 : decode cX8_line 61 = .ok (.iload_n 1, 1) := by decide +kernel
theorem dX8_line_62 : decode cX8_line 62 = .ok (.iconst 1, 1) := by decide +kernel
theorem dX8_line_63 : decode cX8_line 63 = .ok (.iadd, 1) := by decide +kernel
theorem dX8_line_64 : decode cX8_line 64 = .ok (.iaload, 1) := by decide +kernel
theorem dX8_line_65 : decode cX8_line 65 = .ok (.iload_n 3, 1) := by decide +kernel
theorem dX8_line_66 : decode cX8_line 66 = .ok (.isub, 1) := by decide +kernel
theorem dX8_line_67 : decode cX8_line 67 = .ok (.ireturn, 1) := by decide +kernel
theorem dX8_line_68 : decode cX8_line 68 = .ok (.aload_n 0, 1) := by decide +kernel
theorem dX8_line_69 : decode cX8_line 69 = .ok (.getfield 65, 3) := by decide +kernel
theorem dX8_line_72 : decode cX8_line 72 = .ok (.iload_n 1, 1) := by decide +kernel
theorem dX8_line_73 : decode cX8_line 73 = .ok (.invokevirtual 228, 3) := by decide +kernel
theorem dX8_line_76 : decode cX8_line 76 = .ok (.invokestatic 216, 3) := by decide +kernel
theorem dX8_line_79 : decode cX8_line 79 = .ok (.ireturn, 1) := by decide +kernel
theorem dX8_line_80 : decode cX8_line 80 = .ok (.aload_n 0, 1) := by decide +kernel
theorem dX8_line_81 : decode cX8_line 81 = .ok (.getfield 65, 3) := by decide +kernel
theorem dX8_line_84 : decode cX8_line 84 = .ok (.getfield 196, 3) := by decide +kernel
theorem dX8_line_87 : decode cX8_line 87 = .ok (.iload_n 3, 1) := by decide +kernel
theorem dX8_line_88 : decode cX8_line 88 = .ok (.aaload, 1) := by decide +kernel
theorem dX8_line_89 : decode cX8_line 89 = .ok (.getfield 231, 3) := by decide +kernel
theorem dX8_line_92 : decode cX8_line 92 = .ok (.ireturn, 1) := by decide +kernel
theorem dX8_line_93 : decode cX8_line 93 = .ok (.bipush (-2), 2) := by decide +kernel
theorem dX8_line_95 : decode cX8_line 95 = .ok (.ireturn, 1) := by decide +kernel
abbrev mm_X8_line : ab_M := (RX8, 4, (some .int), false, 2, 45, none)
noncomputable def f_X8_line (a0 : Int) (a1 : Int) (a2 : Int) (h : ab_H) : Option (Int × ab_H) :=
  (ab_on h 9 a0 (f_X8_isLine a0 a1 h)).bind fun q1 =>
  if q1.1 = (0 : Int) then
    some ((-2 : Int), q1.2)
  else
  (ab_get q1.2 9 9 a0).bind fun t2 =>
  (ab_get q1.2 7 2 t2).bind fun t3 =>
  (ab_ald q1.2 11 t3 a1).bind fun t4 =>
  if a2 = (0 : Int) then
    some (t4, q1.2)
  else
  if a2 = (1 : Int) then
    (ab_get q1.2 9 9 a0).bind fun t5 =>
    (ab_get q1.2 7 2 t5).bind fun t6 =>
    (ab_ald q1.2 11 t6 (ab_w32 (a1 + (1 : Int)))).bind fun t7 =>
    some (ab_w32 (t7 - t4), q1.2)
  else
  if a2 = (2 : Int) then
    (ab_get q1.2 9 9 a0).bind fun t8 =>
    (ab_on q1.2 7 t8 (f_X6_stringsOfLine t8 a1 q1.2)).bind fun q9 =>
    (f_J6_bitCount_0f7a4 q9.1 q9.2).bind fun q10 =>
    some (q10.1, q10.2)
  else
  if a2 = (3 : Int) then
    (ab_get q1.2 9 9 a0).bind fun t11 =>
    (ab_get q1.2 7 0 t11).bind fun t12 =>
    (ab_ald q1.2 15 t12 t4).bind fun t13 =>
    (ab_get q1.2 3 10 t13).bind fun t14 =>
    some (t14, q1.2)
  else
  some ((-2 : Int), q1.2)
set_option maxRecDepth 20000 in
theorem ct_X8_line {a0 a1 a2 : Int} {h : ab_H} {q : Int × ab_H} (hk : f_X8_line a0 a1 a2 h = some q) : ab_CT yX8_line cX8_line 4 (some .int) 2 45 [ab_R a0, ab_I a1, ab_I a2] h (some (ab_I q.1)) q.2 := by
  refine ab_CT.mk_ 1 (own := RX8) (ini := false) (lv := [some (ab_R a0), some (ab_I a1), some (ab_I a2), none]) rfl (by decide +kernel) (fun q => by cases q) rfl rfl ?_
  unfold f_X8_line at hk
  show ab_E mm_X8_line cX8_line 0 _ [] h _ _
  refine ab_aload_n (pc := 0) (i := 0) dX8_line_0 rfl rfl ?_
  refine ab_iload_n (pc := 1) (i := 1) dX8_line_1 rfl rfl ?_
  obtain ⟨q1, hq1, hk⟩ := ab_bnd hk
  obtain ⟨hb, hq1⟩ := ab_on_some hq1
  refine ab_callVI (st := []) (as := [ab_I a1]) (b := a0) (pc := 2) dX8_line_2 ml_RX8_222 my_X8_isLine mv_X8_isLine hb (ct_X8_isLine hq1) ⟨Nat.le_of_ble_eq_true rfl, Nat.le_of_ble_eq_true rfl⟩ rfl (Nat.le_of_ble_eq_true rfl) rfl ?_
  refine ab_if_ne (pc := 5) (tgt := 11) dX8_line_5 rfl (fun hc => ?_) (fun hc => ?_)
  · have hk := ab_ifn hk hc
    refine ab_aload_n (pc := 11) (i := 0) dX8_line_11 rfl rfl ?_
    obtain ⟨t2, ht2, hk⟩ := ab_bnd hk
    refine ab_getR (pc := 12) dX8_line_12 fl_RX8_65 ht2 ?_
    obtain ⟨t3, ht3, hk⟩ := ab_bnd hk
    refine ab_getR (pc := 15) dX8_line_15 fl_RX8_225 ht3 ?_
    refine ab_iload_n (pc := 18) (i := 1) dX8_line_18 rfl rfl ?_
    obtain ⟨t4, ht4, hk⟩ := ab_bnd hk
    refine ab_iald (pc := 19) dX8_line_19 ht4 ?_
    refine ab_istore_n (pc := 20) (i := 3) (lv2 := [some (ab_R a0), some (ab_I a1), some (ab_I a2), some (ab_I t4)]) dX8_line_20 rfl (Nat.le_of_ble_eq_true rfl) rfl rfl ?_
    refine ab_iload_n (pc := 21) (i := 2) dX8_line_21 rfl rfl ?_
    by_cases hc : a2 = (0 : Int)
    · have hk := ab_ifp hk hc
      refine ab_tswIn (pc := 22) (v := (0 : Int)) (off := 30) (tgt := 52) dX8_line_22 hc ⟨by decide, by decide⟩ rfl rfl ?_
      refine ab_iload_n (pc := 52) (i := 3) dX8_line_52 rfl rfl ?_
      obtain rfl := Option.some.inj hk
      exact ab_reti (pc := 53) dX8_line_53 (Or.inl rfl)
    have hk := ab_ifn hk hc
    have hz0 := hc
    clear hc
    by_cases hc : a2 = (1 : Int)
    · have hk := ab_ifp hk hc
      refine ab_tswIn (pc := 22) (v := (1 : Int)) (off := 32) (tgt := 54) dX8_line_22 hc ⟨by decide, by decide⟩ rfl rfl ?_
      refine ab_aload_n (pc := 54) (i := 0) dX8_line_54 rfl rfl ?_
      obtain ⟨t5, ht5, hk⟩ := ab_bnd hk
      refine ab_getR (pc := 55) dX8_line_55 fl_RX8_65 ht5 ?_
      obtain ⟨t6, ht6, hk⟩ := ab_bnd hk
      refine ab_getR (pc := 58) dX8_line_58 fl_RX8_225 ht6 ?_
      refine ab_iload_n (pc := 61) (i := 1) dX8_line_61 rfl rfl ?_
      refine ab_iconst (pc := 62) dX8_line_62 ab_k_1 ?_
      refine ab_iadd (pc := 63) dX8_line_63 ?_
      obtain ⟨t7, ht7, hk⟩ := ab_bnd hk
      refine ab_iald (pc := 64) dX8_line_64 ht7 ?_
      refine ab_iload_n (pc := 65) (i := 3) dX8_line_65 rfl rfl ?_
      refine ab_isub (pc := 66) dX8_line_66 ?_
      obtain rfl := Option.some.inj hk
      exact ab_reti (pc := 67) dX8_line_67 (Or.inl rfl)
    have hk := ab_ifn hk hc
    have hz1 := hc
    clear hc
    by_cases hc : a2 = (2 : Int)
    · have hk := ab_ifp hk hc
      refine ab_tswIn (pc := 22) (v := (2 : Int)) (off := 46) (tgt := 68) dX8_line_22 hc ⟨by decide, by decide⟩ rfl rfl ?_
      refine ab_aload_n (pc := 68) (i := 0) dX8_line_68 rfl rfl ?_
      obtain ⟨t8, ht8, hk⟩ := ab_bnd hk
      refine ab_getR (pc := 69) dX8_line_69 fl_RX8_65 ht8 ?_
      refine ab_iload_n (pc := 72) (i := 1) dX8_line_72 rfl rfl ?_
      obtain ⟨q9, hq9, hk⟩ := ab_bnd hk
      obtain ⟨hb, hq9⟩ := ab_on_some hq9
      refine ab_callVI (st := []) (as := [ab_I a1]) (b := t8) (pc := 73) dX8_line_73 ml_RX8_228 my_X6_stringsOfLine mv_X6_stringsOfLine hb (ct_X6_stringsOfLine hq9) ⟨Nat.le_of_ble_eq_true rfl, Nat.le_of_ble_eq_true rfl⟩ rfl (Nat.le_of_ble_eq_true rfl) rfl ?_
      obtain ⟨q10, hq10, hk⟩ := ab_bnd hk
      refine ab_callSI (st := []) (as := [ab_I q9.1]) (pc := 76) dX8_line_76 ml_RX8_216 my_J6_bitCount_0f7a4 ms_J6_bitCount_0f7a4 (ct_J6_bitCount_0f7a4 hq10) ⟨Nat.le_of_ble_eq_true rfl, Nat.le_of_ble_eq_true rfl⟩ rfl (Nat.le_of_ble_eq_true rfl) rfl ?_
      obtain rfl := Option.some.inj hk
      exact ab_reti (pc := 79) dX8_line_79 (Or.inl rfl)
    have hk := ab_ifn hk hc
    have hz2 := hc
    clear hc
    by_cases hc : a2 = (3 : Int)
    · have hk := ab_ifp hk hc
      refine ab_tswIn (pc := 22) (v := (3 : Int)) (off := 58) (tgt := 80) dX8_line_22 hc ⟨by decide, by decide⟩ rfl rfl ?_
      refine ab_aload_n (pc := 80) (i := 0) dX8_line_80 rfl rfl ?_
      obtain ⟨t11, ht11, hk⟩ := ab_bnd hk
      refine ab_getR (pc := 81) dX8_line_81 fl_RX8_65 ht11 ?_
      obtain ⟨t12, ht12, hk⟩ := ab_bnd hk
      refine ab_getR (pc := 84) dX8_line_84 fl_RX8_196 ht12 ?_
      refine ab_iload_n (pc := 87) (i := 3) dX8_line_87 rfl rfl ?_
      obtain ⟨t13, ht13, hk⟩ := ab_bnd hk
      refine ab_aald (pc := 88) dX8_line_88 (by decide) ht13 ?_
      obtain ⟨t14, ht14, hk⟩ := ab_bnd hk
      refine ab_getI (pc := 89) dX8_line_89 fl_RX8_231 ht14 ?_
      obtain rfl := Option.some.inj hk
      exact ab_reti (pc := 92) dX8_line_92 (Or.inl rfl)
    have hk := ab_ifn hk hc
    have hz3 := hc
    clear hc
    refine ab_tswOut (pc := 22) (tgt := 93) dX8_line_22 (by omega) rfl ?_
    refine ab_bipush (pc := 93) dX8_line_93 ab_p8_m2 ab_k_m2 ?_
    obtain rfl := Option.some.inj hk
    exact ab_reti (pc := 95) dX8_line_95 (Or.inl rfl)
  · have hk := ab_ifp hk hc
    refine ab_bipush (pc := 8) dX8_line_8 ab_p8_m2 ab_k_m2 ?_
    obtain rfl := Option.some.inj hk
    exact ab_reti (pc := 10) dX8_line_10 (Or.inl rfl)
theorem dX8_address_0 : decode cX8_address 0 = .ok (.aload_n 0, 1) := by decide +kernel
theorem dX8_address_1 : decode cX8_address 1 = .ok (.iload_n 1, 1) := by decide +kernel
theorem dX8_address_2 : decode cX8_address 2 = .ok (.invokevirtual 222, 3) := by decide +kernel
theorem dX8_address_5 : decode cX8_address 5 = .ok (.ifCond .eq 7, 3) := by decide +kernel
theorem dX8_address_8 : decode cX8_address 8 = .ok (.iload_n 2, 1) := by decide +kernel
theorem dX8_address_9 : decode cX8_address 9 = .ok (.ifCond .ge 6, 3) := by decide +kernel
theorem dX8_address_12 : decode cX8_address 12 = .ok (.bipush (-2), 2) := by decide +kernel
theorem dX8_address_14 : decode cX8_address 14 = .ok (.ireturn, 1) := by decide +kernel
theorem dX8_address_15 : decode cX8_address 15 = .ok (.iconst 0, 1) := by decide +kernel
theorem dX8_address_16 : decode cX8_address 16 = .ok (.istore_n 3, 1) := by decide +kernel
theorem dX8_address_17 : decode cX8_address 17 = .ok (.iconst (-1), 1) := by decide +kernel
theorem dX8_address_18 : decode cX8_address 18 = .ok (.istore 4, 2) := by decide +kernel
theorem dX8_address_20 : decode cX8_address 20 = .ok (.aload_n 0, 1) := by decide +kernel
theorem dX8_address_21 : decode cX8_address 21 = .ok (.getfield 65, 3) := by decide +kernel
theorem dX8_address_24 : decode cX8_address 24 = .ok (.getfield 225, 3) := by decide +kernel
theorem dX8_address_27 : decode cX8_address 27 = .ok (.iload_n 1, 1) := by decide +kernel
theorem dX8_address_28 : decode cX8_address 28 = .ok (.iaload, 1) := by decide +kernel
theorem dX8_address_29 : decode cX8_address 29 = .ok (.istore 5, 2) := by decide +kernel
theorem dX8_address_31 : decode cX8_address 31 = .ok (.iload 5, 2) := by decide +kernel
theorem dX8_address_33 : decode cX8_address 33 = .ok (.aload_n 0, 1) := by decide +kernel
theorem dX8_address_34 : decode cX8_address 34 = .ok (.getfield 65, 3) := by decide +kernel
theorem dX8_address_37 : decode cX8_address 37 = .ok (.getfield 225, 3) := by decide +kernel
theorem dX8_address_40 : decode cX8_address 40 = .ok (.iload_n 1, 1) := by decide +kernel
theorem dX8_address_41 : decode cX8_address 41 = .ok (.iconst 1, 1) := by decide +kernel
theorem dX8_address_42 : decode cX8_address 42 = .ok (.iadd, 1) := by decide +kernel
theorem dX8_address_43 : decode cX8_address 43 = .ok (.iaload, 1) := by decide +kernel
theorem dX8_address_44 : decode cX8_address 44 = .ok (.if_icmp .ge 49, 3) := by decide +kernel
theorem dX8_address_47 : decode cX8_address 47 = .ok (.aload_n 0, 1) := by decide +kernel
theorem dX8_address_48 : decode cX8_address 48 = .ok (.getfield 65, 3) := by decide +kernel
theorem dX8_address_51 : decode cX8_address 51 = .ok (.getfield 196, 3) := by decide +kernel
theorem dX8_address_54 : decode cX8_address 54 = .ok (.iload 5, 2) := by decide +kernel
theorem dX8_address_56 : decode cX8_address 56 = .ok (.aaload, 1) := by decide +kernel
theorem dX8_address_57 : decode cX8_address 57 = .ok (.getfield 234, 3) := by decide +kernel
theorem dX8_address_60 : decode cX8_address 60 = .ok (.istore 6, 2) := by decide +kernel
theorem dX8_address_62 : decode cX8_address 62 = .ok (.iload 6, 2) := by decide +kernel
theorem dX8_address_64 : decode cX8_address 64 = .ok (.iload 4, 2) := by decide +kernel
theorem dX8_address_66 : decode cX8_address 66 = .ok (.if_icmp .ne 6, 3) := by decide +kernel
theorem dX8_address_69 : decode cX8_address 69 = .ok (.goto 18, 3) := by decide +kernel
theorem dX8_address_72 : decode cX8_address 72 = .ok (.iload_n 3, 1) := by decide +kernel
theorem dX8_address_73 : decode cX8_address 73 = .ok (.iload_n 2, 1) := by decide +kernel
theorem dX8_address_74 : decode cX8_address 74 = .ok (.if_icmp .ne 6, 3) := by decide +kernel
theorem dX8_address_77 : decode cX8_address 77 = .ok (.iload 6, 2) := by decide +kernel
theorem dX8_address_79 : decode cX8_address 79 = .ok (.ireturn, 1) := by decide +kernel
theorem dX8_address_80 : decode cX8_address 80 = .ok (.iload 6, 2) := by decide +kernel
theorem dX8_address_82 : decode cX8_address 82 = .ok (.istore 4, 2) := by decide +kernel
theorem dX8_address_84 : decode cX8_address 84 = .ok (.iinc 3 1, 3) := by decide +kernel
theorem dX8_address_87 : decode cX8_address 87 = .ok (.iinc 5 1, 3) := by decide +kernel
theorem dX8_address_90 : decode cX8_address 90 = .ok (.goto (-59), 3) := by decide +kernel
theorem dX8_address_93 : decode cX8_address 93 = .ok (.iconst (-1), 1) := by decide +kernel
theorem dX8_address_94 : decode cX8_address 94 = .ok (.ireturn, 1) := by decide +kernel
abbrev mm_X8_address : ab_M := (RX8, 7, (some .int), false, 1, 21, none)
noncomputable def f_X8_address_J87 (rec : Int → Int → Int → Int → Int → Int → ab_H → Option (Int × ab_H)) (v0 : Int) (v1 : Int) (v2 : Int) (v3 : Int) (v4 : Int) (v5 : Int) (h : ab_H) : Option (Int × ab_H) :=
  rec v0 v1 v2 v3 v4 (ab_w32 (v5 + (1 : Int))) h
set_option maxRecDepth 20000 in
theorem e_X8_address_J87 {rec : Int → Int → Int → Int → Int → Int → ab_H → Option (Int × ab_H)} (hrec : ∀ (v0 : Int) (v1 : Int) (v2 : Int) (v3 : Int) (v4 : Int) (v5 : Int) (h : ab_H) (q : Int × ab_H), rec v0 v1 v2 v3 v4 v5 h = some q → ab_E mm_X8_address cX8_address 31 [some (ab_R v0), some (ab_I v1), some (ab_I v2), some (ab_I v3), some (ab_I v4), some (ab_I v5), none] [] h (some (ab_I q.1)) q.2) : ∀ (v0 : Int) (v1 : Int) (v2 : Int) (v3 : Int) (v4 : Int) (v5 : Int) (h : ab_H) (q : Int × ab_H), f_X8_address_J87 rec v0 v1 v2 v3 v4 v5 h = some q → ab_E mm_X8_address cX8_address 87 [some (ab_R v0), some (ab_I v1), some (ab_I v2), some (ab_I v3), some (ab_I v4), some (ab_I v5), none] [] h (some (ab_I q.1)) q.2 := by
  intro v0 v1 v2 v3 v4 v5 h q hk
  unfold f_X8_address_J87 at hk
  refine ab_iinc (pc := 87) (i := 5) (lv2 := [some (ab_R v0), some (ab_I v1), some (ab_I v2), some (ab_I v3), some (ab_I v4), some (ab_I (ab_w32 (v5 + (1 : Int)))), none]) dX8_address_87 rfl (Nat.le_of_ble_eq_true rfl) rfl rfl ?_
  refine ab_goto (pc := 90) (tgt := 31) dX8_address_90 rfl ?_
  refine ab_sub_ (lv2 := [some (ab_R v0), some (ab_I v1), some (ab_I v2), some (ab_I v3), some (ab_I v4), some (ab_I (ab_w32 (v5 + (1 : Int)))), none]) (ab_ss (ab_ss (ab_ss (ab_ss (ab_ss (ab_ss (ab_sn ab_s0))))))) ?_
  exact hrec _ _ _ _ _ _ _ _ hk
noncomputable def f_X8_address_L31 : Nat → Int → Int → Int → Int → Int → Int → ab_H → Option (Int × ab_H)
  | 0, _, _, _, _, _, _, _ => none
  | n + 1, v0, v1, v2, v3, v4, v5, h =>
    (ab_get h 9 9 v0).bind fun t1 =>
    (ab_get h 7 2 t1).bind fun t2 =>
    (ab_ald h 11 t2 (ab_w32 (v1 + (1 : Int)))).bind fun t3 =>
    if t3 ≤ v5 then
      some ((-1 : Int), h)
    else
    (ab_get h 9 9 v0).bind fun t4 =>
    (ab_get h 7 0 t4).bind fun t5 =>
    (ab_ald h 15 t5 v5).bind fun t6 =>
    (ab_get h 3 1 t6).bind fun t7 =>
    if t7 = v4 then
      f_X8_address_J87 (f_X8_address_L31 n) v0 v1 v2 v3 v4 v5 h
    else
    if v3 = v2 then
      some (t7, h)
    else
    f_X8_address_J87 (f_X8_address_L31 n) v0 v1 v2 (ab_w32 (v3 + (1 : Int))) t7 v5 h
set_option maxRecDepth 20000 in
theorem e_X8_address_L31 : ∀ (n : Nat) (v0 : Int) (v1 : Int) (v2 : Int) (v3 : Int) (v4 : Int) (v5 : Int) (h : ab_H) (q : Int × ab_H), f_X8_address_L31 n v0 v1 v2 v3 v4 v5 h = some q → ab_E mm_X8_address cX8_address 31 [some (ab_R v0), some (ab_I v1), some (ab_I v2), some (ab_I v3), some (ab_I v4), some (ab_I v5), none] [] h (some (ab_I q.1)) q.2 := by
  intro n
  induction n with
  | zero => intro v0 v1 v2 v3 v4 v5 h q hk; cases hk
  | succ n ih =>
    intro v0 v1 v2 v3 v4 v5 h q hk
    unfold f_X8_address_L31 at hk
    refine ab_iload (pc := 31) (i := 5) dX8_address_31 rfl ?_
    refine ab_aload_n (pc := 33) (i := 0) dX8_address_33 rfl rfl ?_
    obtain ⟨t1, ht1, hk⟩ := ab_bnd hk
    refine ab_getR (pc := 34) dX8_address_34 fl_RX8_65 ht1 ?_
    obtain ⟨t2, ht2, hk⟩ := ab_bnd hk
    refine ab_getR (pc := 37) dX8_address_37 fl_RX8_225 ht2 ?_
    refine ab_iload_n (pc := 40) (i := 1) dX8_address_40 rfl rfl ?_
    refine ab_iconst (pc := 41) dX8_address_41 ab_k_1 ?_
    refine ab_iadd (pc := 42) dX8_address_42 ?_
    obtain ⟨t3, ht3, hk⟩ := ab_bnd hk
    refine ab_iald (pc := 43) dX8_address_43 ht3 ?_
    refine ab_icmp_ge (pc := 44) (tgt := 93) dX8_address_44 rfl (fun hc => ?_) (fun hc => ?_)
    · have hk := ab_ifp hk hc
      refine ab_iconst (pc := 93) dX8_address_93 ab_k_m1 ?_
      obtain rfl := Option.some.inj hk
      exact ab_reti (pc := 94) dX8_address_94 (Or.inl rfl)
    · have hk := ab_ifn hk hc
      refine ab_aload_n (pc := 47) (i := 0) dX8_address_47 rfl rfl ?_
      obtain ⟨t4, ht4, hk⟩ := ab_bnd hk
      refine ab_getR (pc := 48) dX8_address_48 fl_RX8_65 ht4 ?_
      obtain ⟨t5, ht5, hk⟩ := ab_bnd hk
      refine ab_getR (pc := 51) dX8_address_51 fl_RX8_196 ht5 ?_
      refine ab_iload (pc := 54) (i := 5) dX8_address_54 rfl ?_
      obtain ⟨t6, ht6, hk⟩ := ab_bnd hk
      refine ab_aald (pc := 56) dX8_address_56 (by decide) ht6 ?_
      obtain ⟨t7, ht7, hk⟩ := ab_bnd hk
      refine ab_getI (pc := 57) dX8_address_57 fl_RX8_234 ht7 ?_
      refine ab_istore (pc := 60) (i := 6) (lv2 := [some (ab_R v0), some (ab_I v1), some (ab_I v2), some (ab_I v3), some (ab_I v4), some (ab_I v5), some (ab_I t7)]) dX8_address_60 (Nat.le_of_ble_eq_true rfl) rfl rfl ?_
      refine ab_iload (pc := 62) (i := 6) dX8_address_62 rfl ?_
      refine ab_iload (pc := 64) (i := 4) dX8_address_64 rfl ?_
      refine ab_icmp_ne (pc := 66) (tgt := 72) dX8_address_66 rfl (fun hc => ?_) (fun hc => ?_)
      · have hk := ab_ifn hk hc
        refine ab_iload_n (pc := 72) (i := 3) dX8_address_72 rfl rfl ?_
        refine ab_iload_n (pc := 73) (i := 2) dX8_address_73 rfl rfl ?_
        refine ab_icmp_ne (pc := 74) (tgt := 80) dX8_address_74 rfl (fun hc => ?_) (fun hc => ?_)
        · have hk := ab_ifn hk hc
          refine ab_iload (pc := 80) (i := 6) dX8_address_80 rfl ?_
          refine ab_istore (pc := 82) (i := 4) (lv2 := [some (ab_R v0), some (ab_I v1), some (ab_I v2), some (ab_I v3), some (ab_I t7), some (ab_I v5), some (ab_I t7)]) dX8_address_82 (Nat.le_of_ble_eq_true rfl) rfl rfl ?_
          refine ab_iinc (pc := 84) (i := 3) (lv2 := [some (ab_R v0), some (ab_I v1), some (ab_I v2), some (ab_I (ab_w32 (v3 + (1 : Int)))), some (ab_I t7), some (ab_I v5), some (ab_I t7)]) dX8_address_84 rfl (Nat.le_of_ble_eq_true rfl) rfl rfl ?_
          refine ab_sub_ (lv2 := [some (ab_R v0), some (ab_I v1), some (ab_I v2), some (ab_I (ab_w32 (v3 + (1 : Int)))), some (ab_I t7), some (ab_I v5), none]) (ab_ss (ab_ss (ab_ss (ab_ss (ab_ss (ab_ss (ab_sn ab_s0))))))) ?_
          exact e_X8_address_J87 ih _ _ _ _ _ _ _ _ hk
        · have hk := ab_ifp hk hc
          refine ab_iload (pc := 77) (i := 6) dX8_address_77 rfl ?_
          obtain rfl := Option.some.inj hk
          exact ab_reti (pc := 79) dX8_address_79 (Or.inl rfl)
      · have hk := ab_ifp hk hc
        refine ab_goto (pc := 69) (tgt := 87) dX8_address_69 rfl ?_
        refine ab_sub_ (lv2 := [some (ab_R v0), some (ab_I v1), some (ab_I v2), some (ab_I v3), some (ab_I v4), some (ab_I v5), none]) (ab_ss (ab_ss (ab_ss (ab_ss (ab_ss (ab_ss (ab_sn ab_s0))))))) ?_
        exact e_X8_address_J87 ih _ _ _ _ _ _ _ _ hk
noncomputable def f_X8_address (a0 : Int) (a1 : Int) (a2 : Int) (h : ab_H) : Option (Int × ab_H) :=
  (ab_on h 9 a0 (f_X8_isLine a0 a1 h)).bind fun q1 =>
  if q1.1 = (0 : Int) then
    some ((-2 : Int), q1.2)
  else
  if (0 : Int) ≤ a2 then
    (ab_get q1.2 9 9 a0).bind fun t2 =>
    (ab_get q1.2 7 2 t2).bind fun t3 =>
    (ab_ald q1.2 11 t3 a1).bind fun t4 =>
    f_X8_address_L31 ab_FU a0 a1 a2 (0 : Int) (-1 : Int) t4 q1.2
  else
  some ((-2 : Int), q1.2)
set_option maxRecDepth 20000 in
theorem ct_X8_address {a0 a1 a2 : Int} {h : ab_H} {q : Int × ab_H} (hk : f_X8_address a0 a1 a2 h = some q) : ab_CT yX8_address cX8_address 7 (some .int) 1 21 [ab_R a0, ab_I a1, ab_I a2] h (some (ab_I q.1)) q.2 := by
  refine ab_CT.mk_ 4 (own := RX8) (ini := false) (lv := [some (ab_R a0), some (ab_I a1), some (ab_I a2), none, none, none, none]) rfl (by decide +kernel) (fun q => by cases q) rfl rfl ?_
  unfold f_X8_address at hk
  show ab_E mm_X8_address cX8_address 0 _ [] h _ _
  refine ab_aload_n (pc := 0) (i := 0) dX8_address_0 rfl rfl ?_
  refine ab_iload_n (pc := 1) (i := 1) dX8_address_1 rfl rfl ?_
  obtain ⟨q1, hq1, hk⟩ := ab_bnd hk
  obtain ⟨hb, hq1⟩ := ab_on_some hq1
  refine ab_callVI (st := []) (as := [ab_I a1]) (b := a0) (pc := 2) dX8_address_2 ml_RX8_222 my_X8_isLine mv_X8_isLine hb (ct_X8_isLine hq1) ⟨Nat.le_of_ble_eq_true rfl, Nat.le_of_ble_eq_true rfl⟩ rfl (Nat.le_of_ble_eq_true rfl) rfl ?_
  refine ab_if_eq (pc := 5) (tgt := 12) dX8_address_5 rfl (fun hc => ?_) (fun hc => ?_)
  · have hk := ab_ifp hk hc
    refine ab_bipush (pc := 12) dX8_address_12 ab_p8_m2 ab_k_m2 ?_
    obtain rfl := Option.some.inj hk
    exact ab_reti (pc := 14) dX8_address_14 (Or.inl rfl)
  · have hk := ab_ifn hk hc
    refine ab_iload_n (pc := 8) (i := 2) dX8_address_8 rfl rfl ?_
    refine ab_if_ge (pc := 9) (tgt := 15) dX8_address_9 rfl (fun hc => ?_) (fun hc => ?_)
    · have hk := ab_ifp hk hc
      refine ab_iconst (pc := 15) dX8_address_15 ab_k_0 ?_
      refine ab_istore_n (pc := 16) (i := 3) (lv2 := [some (ab_R a0), some (ab_I a1), some (ab_I a2), some (ab_I (0 : Int)), none, none, none]) dX8_address_16 rfl (Nat.le_of_ble_eq_true rfl) rfl rfl ?_
      refine ab_iconst (pc := 17) dX8_address_17 ab_k_m1 ?_
      refine ab_istore (pc := 18) (i := 4) (lv2 := [some (ab_R a0), some (ab_I a1), some (ab_I a2), some (ab_I (0 : Int)), some (ab_I (-1 : Int)), none, none]) dX8_address_18 (Nat.le_of_ble_eq_true rfl) rfl rfl ?_
      refine ab_aload_n (pc := 20) (i := 0) dX8_address_20 rfl rfl ?_
      obtain ⟨t2, ht2, hk⟩ := ab_bnd hk
      refine ab_getR (pc := 21) dX8_address_21 fl_RX8_65 ht2 ?_
      obtain ⟨t3, ht3, hk⟩ := ab_bnd hk
      refine ab_getR (pc := 24) dX8_address_24 fl_RX8_225 ht3 ?_
      refine ab_iload_n (pc := 27) (i := 1) dX8_address_27 rfl rfl ?_
      obtain ⟨t4, ht4, hk⟩ := ab_bnd hk
      refine ab_iald (pc := 28) dX8_address_28 ht4 ?_
      refine ab_istore (pc := 29) (i := 5) (lv2 := [some (ab_R a0), some (ab_I a1), some (ab_I a2), some (ab_I (0 : Int)), some (ab_I (-1 : Int)), some (ab_I t4), none]) dX8_address_29 (Nat.le_of_ble_eq_true rfl) rfl rfl ?_
      refine ab_sub_ (lv2 := [some (ab_R a0), some (ab_I a1), some (ab_I a2), some (ab_I (0 : Int)), some (ab_I (-1 : Int)), some (ab_I t4), none]) (ab_ss (ab_ss (ab_ss (ab_ss (ab_ss (ab_ss (ab_sn ab_s0))))))) ?_
      refine e_X8_address_L31 _ _ _ _ _ _ _ _ _ hk
    · have hk := ab_ifn hk hc
      refine ab_bipush (pc := 12) dX8_address_12 ab_p8_m2 ab_k_m2 ?_
      obtain rfl := Option.some.inj hk
      exact ab_reti (pc := 14) dX8_address_14 (Or.inl rfl)
theorem dX8_isHead_0 : decode cX8_isHead 0 = .ok (.iload_n 1, 1) := by decide +kernel
theorem dX8_isHead_1 : decode cX8_isHead 1 = .ok (.ifCond .lt 18, 3) := by decide +kernel
theorem dX8_isHead_4 : decode cX8_isHead 4 = .ok (.iload_n 1, 1) := by decide +kernel
theorem dX8_isHead_5 : decode cX8_isHead 5 = .ok (.aload_n 0, 1) := by decide +kernel
theorem dX8_isHead_6 : decode cX8_isHead 6 = .ok (.getfield 65, 3) := by decide +kernel
theorem dX8_isHead_9 : decode cX8_isHead 9 = .ok (.getfield 113, 3) := by decide +kernel
theorem dX8_isHead_12 : decode cX8_isHead 12 = .ok (.if_icmp .ge 7, 3) := by decide +kernel
theorem dX8_isHead_15 : decode cX8_isHead 15 = .ok (.iconst 1, 1) := by decide +kernel
theorem dX8_isHead_16 : decode cX8_isHead 16 = .ok (.goto 4, 3) := by decide +kernel
theorem dX8_isHead_19 : decode cX8_isHead 19 = .ok (.iconst 0, 1) := by decide +kernel
theorem dX8_isHead_20 : decode cX8_isHead 20 = .ok (.ireturn, 1) := by decide +kernel
abbrev mm_X8_isHead : ab_M := (RX8, 2, (some .boolean), false, 0, 0, none)
noncomputable def f_X8_isHead_J19 (h : ab_H) : Option (Int × ab_H) :=
  some ((0 : Int), h)
set_option maxRecDepth 20000 in
theorem e_X8_isHead_J19 : ∀ (h : ab_H) (q : Int × ab_H), f_X8_isHead_J19  h = some q → ab_E mm_X8_isHead cX8_isHead 19 [none, none] [] h (some (ab_I q.1)) q.2 := by
  intro  h q hk
  unfold f_X8_isHead_J19 at hk
  refine ab_iconst (pc := 19) dX8_isHead_19 ab_k_0 ?_
  obtain rfl := Option.some.inj hk
  exact ab_retz (pc := 20) dX8_isHead_20 rfl rfl
noncomputable def f_X8_isHead (a0 : Int) (a1 : Int) (h : ab_H) : Option (Int × ab_H) :=
  if a1 < (0 : Int) then
    f_X8_isHead_J19 h
  else
  (ab_get h 9 9 a0).bind fun t1 =>
  (ab_get h 7 5 t1).bind fun t2 =>
  if t2 ≤ a1 then
    f_X8_isHead_J19 h
  else
  some ((1 : Int), h)
set_option maxRecDepth 20000 in
theorem ct_X8_isHead {a0 a1 : Int} {h : ab_H} {q : Int × ab_H} (hk : f_X8_isHead a0 a1 h = some q) : ab_CT yX8_isHead cX8_isHead 2 (some .boolean) 0 0 [ab_R a0, ab_I a1] h (some (ab_I q.1)) q.2 := by
  refine ab_CT.mk_ 0 (own := RX8) (ini := false) (lv := [some (ab_R a0), some (ab_I a1)]) rfl (by decide +kernel) (fun q => by cases q) rfl rfl ?_
  unfold f_X8_isHead at hk
  show ab_E mm_X8_isHead cX8_isHead 0 _ [] h _ _
  refine ab_iload_n (pc := 0) (i := 1) dX8_isHead_0 rfl rfl ?_
  refine ab_if_lt (pc := 1) (tgt := 19) dX8_isHead_1 rfl (fun hc => ?_) (fun hc => ?_)
  · have hk := ab_ifp hk hc
    refine ab_sub_ (lv2 := [none, none]) (ab_sn (ab_sn ab_s0)) ?_
    exact e_X8_isHead_J19  _ _ hk
  · have hk := ab_ifn hk hc
    refine ab_iload_n (pc := 4) (i := 1) dX8_isHead_4 rfl rfl ?_
    refine ab_aload_n (pc := 5) (i := 0) dX8_isHead_5 rfl rfl ?_
    obtain ⟨t1, ht1, hk⟩ := ab_bnd hk
    refine ab_getR (pc := 6) dX8_isHead_6 fl_RX8_65 ht1 ?_
    obtain ⟨t2, ht2, hk⟩ := ab_bnd hk
    refine ab_getI (pc := 9) dX8_isHead_9 fl_RX8_113 ht2 ?_
    refine ab_icmp_ge (pc := 12) (tgt := 19) dX8_isHead_12 rfl (fun hc => ?_) (fun hc => ?_)
    · have hk := ab_ifp hk hc
      refine ab_sub_ (lv2 := [none, none]) (ab_sn (ab_sn ab_s0)) ?_
      exact e_X8_isHead_J19  _ _ hk
    · have hk := ab_ifn hk hc
      refine ab_iconst (pc := 15) dX8_isHead_15 ab_k_1 ?_
      refine ab_goto (pc := 16) (tgt := 20) dX8_isHead_16 rfl ?_
      obtain rfl := Option.some.inj hk
      exact ab_retz (pc := 20) dX8_isHead_20 rfl rfl
theorem dX8_head_0 : decode cX8_head 0 = .ok (.aload_n 0, 1) := by decide +kernel
theorem dX8_head_1 : decode cX8_head 1 = .ok (.iload_n 1, 1) := by decide +kernel
theorem dX8_head_2 : decode cX8_head 2 = .ok (.invokevirtual 237, 3) := by decide +kernel
theorem dX8_head_5 : decode cX8_head 5 = .ok (.ifCond .ne 6, 3) := by decide +kernel
theorem dX8_head_8 : decode cX8_head 8 = .ok (.bipush (-2), 2) := by decide +kernel
theorem dX8_head_10 : decode cX8_head 10 = .ok (.ireturn, 1) := by decide +kernel
theorem dX8_head_11 : decode cX8_head 11 = .ok (.aload_n 0, 1) := by decide +kernel
theorem dX8_head_12 : decode cX8_head 12 = .ok (.getfield 65, 3) := by decide +kernel
theorem dX8_head_15 : decode cX8_head 15 = .ok (.getfield 240, 3) := by decide +kernel
theorem dX8_head_18 : decode cX8_head 18 = .ok (.iload_n 1, 1) := by decide +kernel
theorem dX8_head_19 : decode cX8_head 19 = .ok (.iaload, 1) := by decide +kernel
theorem dX8_head_20 : decode cX8_head 20 = .ok (.istore_n 3, 1) := by decide +kernel
theorem dX8_head_21 : decode cX8_head 21 = .ok (.aload_n 0, 1) := by decide +kernel
theorem dX8_head_22 : decode cX8_head 22 = .ok (.getfield 65, 3) := by decide +kernel
theorem dX8_head_25 : decode cX8_head 25 = .ok (.getfield 240, 3) := by decide +kernel
theorem dX8_head_28 : decode cX8_head 28 = .ok (.iload_n 1, 1) := by decide +kernel
theorem dX8_head_29 : decode cX8_head 29 = .ok (.iconst 1, 1) := by decide +kernel
theorem dX8_head_30 : decode cX8_head 30 = .ok (.iadd, 1) := by decide +kernel
theorem dX8_head_31 : decode cX8_head 31 = .ok (.iaload, 1) := by decide +kernel
theorem dX8_head_32 : decode cX8_head 32 = .ok (.iconst 1, 1) := by decide +kernel
theorem dX8_head_33 : decode cX8_head 33 = .ok (.isub, 1) := by decide +kernel
theorem dX8_head_34 : decode cX8_head 34 = .ok (.istore 4, 2) := by decide +kernel
theorem dX8_head_36 : decode cX8_head 36 = .ok (.iload_n 2, 1) := by decide +kernel
theorem dX8_head_37 : decode cX8_head 37 = .ok (.tableswitch 92 0 3 #[31, 44, 73, 80], 31) := by decide +kernel
theorem dX8_head_68 : decode cX8_head 68 = .ok (.aload_n 0, 1) := by decide +kernel
theorem dX8_head_69 : decode cX8_head 69 = .ok (.getfield 65, 3) := by decide +kernel
theorem dX8_head_72 : decode cX8_head 72 = .ok (.getfield 196, 3) := by decide +kernel
theorem dX8_head_75 : decode cX8_head 75 = .ok (.iload_n 3, 1) := by decide +kernel
theorem dX8_head_76 : decode cX8_head 76 = .ok (.aaload, 1) := by decide +kernel
theorem dX8_head_77 : decode cX8_head 77 = .ok (.getfield 243, 3) := by decide +kernel
theorem dX8_head_80 : decode cX8_head 80 = .ok (.ireturn, 1) := by decide +kernel
theorem dX8_head_81 : decode cX8_head 81 = .ok (.aload_n 0, 1) := by decide +kernel
theorem dX8_head_82 : decode cX8_head 82 = .ok (.getfield 65, 3) := by decide +kernel
theorem dX8_head_85 : decode cX8_head 85 = .ok (.getfield 196, 3) := by decide +kernel
theorem dX8_head_88 : decode cX8_head 88 = .ok (.iload 4, 2) := by decide +kernel
theorem dX8_head_90 : decode cX8_head 90 = .ok (.aaload, 1) := by decide +kernel
theorem dX8_head_91 : decode cX8_head 91 = .ok (.getfield 206, 3) := by decide +kernel
theorem dX8_head_94 : decode cX8_head 94 = .ok (.aload_n 0, 1) := by decide +kernel
theorem dX8_head_95 : decode cX8_head 95 = .ok (.getfield 65, 3) := by decide +kernel
theorem dX8_head_98 : decode cX8_head 98 = .ok (.getfield 196, 3) := by decide +kernel
theorem dX8_head_101 : decode cX8_head 101 = .ok (.iload_n 3, 1) := by decide +kernel
theorem dX8_head_102 : decode cX8_head 102 = .ok (.aaload, 1) := by decide +kernel
theorem dX8_head_103 : decode cX8_head 103 = .ok (.getfield 206, 3) := by decide +kernel
theorem dX8_head_106 : decode cX8_head 106 = .ok (.isub, 1) := by decide +kernel
theorem dX8_head_107 : decode cX8_head 107 = .ok (.iconst 1, 1) := by decide +kernel
theorem dX8_head_108 : decode cX8_head 108 = .ok (.iadd, 1) := by decide +kernel
theorem dX8_head_109 : decode cX8_head 109 = .ok (.ireturn, 1) := by decide +kernel
theorem dX8_head_110 : decode cX8_head 110 = .ok (.iload 4, 2) := by decide +kernel
theorem dX8_head_112 : decode cX8_head 112 = .ok (.iload_n 3, 1) := by decide +kernel
theorem dX8_head_113 : decode cX8_head 113 = .ok (.isub, 1) := by decide +kernel
theorem dX8_head_114 : decode cX8_head 114 = .ok (.iconst 1, 1) := by decide +kernel
theorem dX8_head_115 : decode cX8_head 115 = .ok (.iadd, 1) := by decide +kernel
theorem dX8_head_116 : decode cX8_head 116 = .ok (.ireturn, 1) := by decide +kernel
theorem dX8_head_117 : decode cX8_head 117 = .ok (.aload_n 0, 1) := by decide +kernel
theorem dX8_head_118 : decode cX8_head 118 = .ok (.getfield 65, 3) := by decide +kernel
theorem dX8_head_121 : decode cX8_head 121 = .ok (.iload_n 1, 1) := by decide +kernel
theorem dX8_head_122 : decode cX8_head 122 = .ok (.invokevirtual 246, 3) := by decide +kernel
theorem dX8_head_125 : decode cX8_head 125 = .ok (.invokestatic 216, 3) := by decide +kernel
theorem dX8_head_128 : decode cX8_head 128 = .ok (.ireturn, 1) := by decide +kernel
theorem dX8_head_129 : decode cX8_head 129 = .ok (.bipush (-2), 2) := by decide +kernel
theorem dX8_head_131 : decode cX8_head 131 = .ok (.ireturn, 1) := by decide +kernel
abbrev mm_X8_head : ab_M := (RX8, 5, (some .int), false, 2, 45, none)
noncomputable def f_X8_head (a0 : Int) (a1 : Int) (a2 : Int) (h : ab_H) : Option (Int × ab_H) :=
  (ab_on h 9 a0 (f_X8_isHead a0 a1 h)).bind fun q1 =>
  if q1.1 = (0 : Int) then
    some ((-2 : Int), q1.2)
  else
  (ab_get q1.2 9 9 a0).bind fun t2 =>
  (ab_get q1.2 7 4 t2).bind fun t3 =>
  (ab_ald q1.2 11 t3 a1).bind fun t4 =>
  (ab_get q1.2 9 9 a0).bind fun t5 =>
  (ab_get q1.2 7 4 t5).bind fun t6 =>
  (ab_ald q1.2 11 t6 (ab_w32 (a1 + (1 : Int)))).bind fun t7 =>
  if a2 = (0 : Int) then
    (ab_get q1.2 9 9 a0).bind fun t8 =>
    (ab_get q1.2 7 0 t8).bind fun t9 =>
    (ab_ald q1.2 15 t9 t4).bind fun t10 =>
    (ab_get q1.2 3 3 t10).bind fun t11 =>
    some (t11, q1.2)
  else
  if a2 = (1 : Int) then
    (ab_get q1.2 9 9 a0).bind fun t12 =>
    (ab_get q1.2 7 0 t12).bind fun t13 =>
    (ab_ald q1.2 15 t13 (ab_w32 (t7 - (1 : Int)))).bind fun t14 =>
    (ab_get q1.2 3 9 t14).bind fun t15 =>
    (ab_get q1.2 9 9 a0).bind fun t16 =>
    (ab_get q1.2 7 0 t16).bind fun t17 =>
    (ab_ald q1.2 15 t17 t4).bind fun t18 =>
    (ab_get q1.2 3 9 t18).bind fun t19 =>
    some (ab_w32 ((ab_w32 (t15 - t19)) + (1 : Int)), q1.2)
  else
  if a2 = (2 : Int) then
    some (ab_w32 ((ab_w32 ((ab_w32 (t7 - (1 : Int))) - t4)) + (1 : Int)), q1.2)
  else
  if a2 = (3 : Int) then
    (ab_get q1.2 9 9 a0).bind fun t20 =>
    (ab_on q1.2 7 t20 (f_X6_stringsOfHead t20 a1 q1.2)).bind fun q21 =>
    (f_J6_bitCount_0f7a4 q21.1 q21.2).bind fun q22 =>
    some (q22.1, q22.2)
  else
  some ((-2 : Int), q1.2)
set_option maxRecDepth 20000 in
theorem ct_X8_head {a0 a1 a2 : Int} {h : ab_H} {q : Int × ab_H} (hk : f_X8_head a0 a1 a2 h = some q) : ab_CT yX8_head cX8_head 5 (some .int) 2 45 [ab_R a0, ab_I a1, ab_I a2] h (some (ab_I q.1)) q.2 := by
  refine ab_CT.mk_ 2 (own := RX8) (ini := false) (lv := [some (ab_R a0), some (ab_I a1), some (ab_I a2), none, none]) rfl (by decide +kernel) (fun q => by cases q) rfl rfl ?_
  unfold f_X8_head at hk
  show ab_E mm_X8_head cX8_head 0 _ [] h _ _
  refine ab_aload_n (pc := 0) (i := 0) dX8_head_0 rfl rfl ?_
  refine ab_iload_n (pc := 1) (i := 1) dX8_head_1 rfl rfl ?_
  obtain ⟨q1, hq1, hk⟩ := ab_bnd hk
  obtain ⟨hb, hq1⟩ := ab_on_some hq1
  refine ab_callVI (st := []) (as := [ab_I a1]) (b := a0) (pc := 2) dX8_head_2 ml_RX8_237 my_X8_isHead mv_X8_isHead hb (ct_X8_isHead hq1) ⟨Nat.le_of_ble_eq_true rfl, Nat.le_of_ble_eq_true rfl⟩ rfl (Nat.le_of_ble_eq_true rfl) rfl ?_
  refine ab_if_ne (pc := 5) (tgt := 11) dX8_head_5 rfl (fun hc => ?_) (fun hc => ?_)
  · have hk := ab_ifn hk hc
    refine ab_aload_n (pc := 11) (i := 0) dX8_head_11 rfl rfl ?_
    obtain ⟨t2, ht2, hk⟩ := ab_bnd hk
    refine ab_getR (pc := 12) dX8_head_12 fl_RX8_65 ht2 ?_
    obtain ⟨t3, ht3, hk⟩ := ab_bnd hk
    refine ab_getR (pc := 15) dX8_head_15 fl_RX8_240 ht3 ?_
    refine ab_iload_n (pc := 18) (i := 1) dX8_head_18 rfl rfl ?_
    obtain ⟨t4, ht4, hk⟩ := ab_bnd hk
    refine ab_iald (pc := 19) dX8_head_19 ht4 ?_
    refine ab_istore_n (pc := 20) (i := 3) (lv2 := [some (ab_R a0), some (ab_I a1), some (ab_I a2), some (ab_I t4), none]) dX8_head_20 rfl (Nat.le_of_ble_eq_true rfl) rfl rfl ?_
    refine ab_aload_n (pc := 21) (i := 0) dX8_head_21 rfl rfl ?_
    obtain ⟨t5, ht5, hk⟩ := ab_bnd hk
    refine ab_getR (pc := 22) dX8_head_22 fl_RX8_65 ht5 ?_
    obtain ⟨t6, ht6, hk⟩ := ab_bnd hk
    refine ab_getR (pc := 25) dX8_head_25 fl_RX8_240 ht6 ?_
    refine ab_iload_n (pc := 28) (i := 1) dX8_head_28 rfl rfl ?_
    refine ab_iconst (pc := 29) dX8_head_29 ab_k_1 ?_
    refine ab_iadd (pc := 30) dX8_head_30 ?_
    obtain ⟨t7, ht7, hk⟩ := ab_bnd hk
    refine ab_iald (pc := 31) dX8_head_31 ht7 ?_
    refine ab_iconst (pc := 32) dX8_head_32 ab_k_1 ?_
    refine ab_isub (pc := 33) dX8_head_33 ?_
    refine ab_istore (pc := 34) (i := 4) (lv2 := [some (ab_R a0), some (ab_I a1), some (ab_I a2), some (ab_I t4), some (ab_I (ab_w32 (t7 - (1 : Int))))]) dX8_head_34 (Nat.le_of_ble_eq_true rfl) rfl rfl ?_
    refine ab_iload_n (pc := 36) (i := 2) dX8_head_36 rfl rfl ?_
    by_cases hc : a2 = (0 : Int)
    · have hk := ab_ifp hk hc
      refine ab_tswIn (pc := 37) (v := (0 : Int)) (off := 31) (tgt := 68) dX8_head_37 hc ⟨by decide, by decide⟩ rfl rfl ?_
      refine ab_aload_n (pc := 68) (i := 0) dX8_head_68 rfl rfl ?_
      obtain ⟨t8, ht8, hk⟩ := ab_bnd hk
      refine ab_getR (pc := 69) dX8_head_69 fl_RX8_65 ht8 ?_
      obtain ⟨t9, ht9, hk⟩ := ab_bnd hk
      refine ab_getR (pc := 72) dX8_head_72 fl_RX8_196 ht9 ?_
      refine ab_iload_n (pc := 75) (i := 3) dX8_head_75 rfl rfl ?_
      obtain ⟨t10, ht10, hk⟩ := ab_bnd hk
      refine ab_aald (pc := 76) dX8_head_76 (by decide) ht10 ?_
      obtain ⟨t11, ht11, hk⟩ := ab_bnd hk
      refine ab_getI (pc := 77) dX8_head_77 fl_RX8_243 ht11 ?_
      obtain rfl := Option.some.inj hk
      exact ab_reti (pc := 80) dX8_head_80 (Or.inl rfl)
    have hk := ab_ifn hk hc
    have hz0 := hc
    clear hc
    by_cases hc : a2 = (1 : Int)
    · have hk := ab_ifp hk hc
      refine ab_tswIn (pc := 37) (v := (1 : Int)) (off := 44) (tgt := 81) dX8_head_37 hc ⟨by decide, by decide⟩ rfl rfl ?_
      refine ab_aload_n (pc := 81) (i := 0) dX8_head_81 rfl rfl ?_
      obtain ⟨t12, ht12, hk⟩ := ab_bnd hk
      refine ab_getR (pc := 82) dX8_head_82 fl_RX8_65 ht12 ?_
      obtain ⟨t13, ht13, hk⟩ := ab_bnd hk
      refine ab_getR (pc := 85) dX8_head_85 fl_RX8_196 ht13 ?_
      refine ab_iload (pc := 88) (i := 4) dX8_head_88 rfl ?_
      obtain ⟨t14, ht14, hk⟩ := ab_bnd hk
      refine ab_aald (pc := 90) dX8_head_90 (by decide) ht14 ?_
      obtain ⟨t15, ht15, hk⟩ := ab_bnd hk
      refine ab_getI (pc := 91) dX8_head_91 fl_RX8_206 ht15 ?_
      refine ab_aload_n (pc := 94) (i := 0) dX8_head_94 rfl rfl ?_
      obtain ⟨t16, ht16, hk⟩ := ab_bnd hk
      refine ab_getR (pc := 95) dX8_head_95 fl_RX8_65 ht16 ?_
      obtain ⟨t17, ht17, hk⟩ := ab_bnd hk
      refine ab_getR (pc := 98) dX8_head_98 fl_RX8_196 ht17 ?_
      refine ab_iload_n (pc := 101) (i := 3) dX8_head_101 rfl rfl ?_
      obtain ⟨t18, ht18, hk⟩ := ab_bnd hk
      refine ab_aald (pc := 102) dX8_head_102 (by decide) ht18 ?_
      obtain ⟨t19, ht19, hk⟩ := ab_bnd hk
      refine ab_getI (pc := 103) dX8_head_103 fl_RX8_206 ht19 ?_
      refine ab_isub (pc := 106) dX8_head_106 ?_
      refine ab_iconst (pc := 107) dX8_head_107 ab_k_1 ?_
      refine ab_iadd (pc := 108) dX8_head_108 ?_
      obtain rfl := Option.some.inj hk
      exact ab_reti (pc := 109) dX8_head_109 (Or.inl rfl)
    have hk := ab_ifn hk hc
    have hz1 := hc
    clear hc
    by_cases hc : a2 = (2 : Int)
    · have hk := ab_ifp hk hc
      refine ab_tswIn (pc := 37) (v := (2 : Int)) (off := 73) (tgt := 110) dX8_head_37 hc ⟨by decide, by decide⟩ rfl rfl ?_
      refine ab_iload (pc := 110) (i := 4) dX8_head_110 rfl ?_
      refine ab_iload_n (pc := 112) (i := 3) dX8_head_112 rfl rfl ?_
      refine ab_isub (pc := 113) dX8_head_113 ?_
      refine ab_iconst (pc := 114) dX8_head_114 ab_k_1 ?_
      refine ab_iadd (pc := 115) dX8_head_115 ?_
      obtain rfl := Option.some.inj hk
      exact ab_reti (pc := 116) dX8_head_116 (Or.inl rfl)
    have hk := ab_ifn hk hc
    have hz2 := hc
    clear hc
    by_cases hc : a2 = (3 : Int)
    · have hk := ab_ifp hk hc
      refine ab_tswIn (pc := 37) (v := (3 : Int)) (off := 80) (tgt := 117) dX8_head_37 hc ⟨by decide, by decide⟩ rfl rfl ?_
      refine ab_aload_n (pc := 117) (i := 0) dX8_head_117 rfl rfl ?_
      obtain ⟨t20, ht20, hk⟩ := ab_bnd hk
      refine ab_getR (pc := 118) dX8_head_118 fl_RX8_65 ht20 ?_
      refine ab_iload_n (pc := 121) (i := 1) dX8_head_121 rfl rfl ?_
      obtain ⟨q21, hq21, hk⟩ := ab_bnd hk
      obtain ⟨hb, hq21⟩ := ab_on_some hq21
      refine ab_callVI (st := []) (as := [ab_I a1]) (b := t20) (pc := 122) dX8_head_122 ml_RX8_246 my_X6_stringsOfHead mv_X6_stringsOfHead hb (ct_X6_stringsOfHead hq21) ⟨Nat.le_of_ble_eq_true rfl, Nat.le_of_ble_eq_true rfl⟩ rfl (Nat.le_of_ble_eq_true rfl) rfl ?_
      obtain ⟨q22, hq22, hk⟩ := ab_bnd hk
      refine ab_callSI (st := []) (as := [ab_I q21.1]) (pc := 125) dX8_head_125 ml_RX8_216 my_J6_bitCount_0f7a4 ms_J6_bitCount_0f7a4 (ct_J6_bitCount_0f7a4 hq22) ⟨Nat.le_of_ble_eq_true rfl, Nat.le_of_ble_eq_true rfl⟩ rfl (Nat.le_of_ble_eq_true rfl) rfl ?_
      obtain rfl := Option.some.inj hk
      exact ab_reti (pc := 128) dX8_head_128 (Or.inl rfl)
    have hk := ab_ifn hk hc
    have hz3 := hc
    clear hc
    refine ab_tswOut (pc := 37) (tgt := 129) dX8_head_37 (by omega) rfl ?_
    refine ab_bipush (pc := 129) dX8_head_129 ab_p8_m2 ab_k_m2 ?_
    obtain rfl := Option.some.inj hk
    exact ab_reti (pc := 131) dX8_head_131 (Or.inl rfl)
  · have hk := ab_ifp hk hc
    refine ab_bipush (pc := 8) dX8_head_8 ab_p8_m2 ab_k_m2 ?_
    obtain rfl := Option.some.inj hk
    exact ab_reti (pc := 10) dX8_head_10 (Or.inl rfl)
theorem dX8_rebuilt_0 : decode cX8_rebuilt 0 = .ok (.iload_n 1, 1) := by decide +kernel
theorem dX8_rebuilt_1 : decode cX8_rebuilt 1 = .ok (.ifCond .ge 6, 3) := by decide +kernel
theorem dX8_rebuilt_4 : decode cX8_rebuilt 4 = .ok (.bipush (-2), 2) := by decide +kernel
theorem dX8_rebuilt_6 : decode cX8_rebuilt 6 = .ok (.ireturn, 1) := by decide +kernel
theorem dX8_rebuilt_7 : decode cX8_rebuilt 7 = .ok (.iload_n 1, 1) := by decide +kernel
theorem dX8_rebuilt_8 : decode cX8_rebuilt 8 = .ok (.aload_n 0, 1) := by decide +kernel
theorem dX8_rebuilt_9 : decode cX8_rebuilt 9 = .ok (.getfield 65, 3) := by decide +kernel
theorem dX8_rebuilt_12 : decode cX8_rebuilt 12 = .ok (.getfield 111, 3) := by decide +kernel
theorem dX8_rebuilt_15 : decode cX8_rebuilt 15 = .ok (.if_icmp .lt 5, 3) := by decide +kernel
theorem dX8_rebuilt_18 : decode cX8_rebuilt 18 = .ok (.iconst (-1), 1) := by decide +kernel
theorem dX8_rebuilt_19 : decode cX8_rebuilt 19 = .ok (.ireturn, 1) := by decide +kernel
theorem dX8_rebuilt_20 : decode cX8_rebuilt 20 = .ok (.aload_n 0, 1) := by decide +kernel
theorem dX8_rebuilt_21 : decode cX8_rebuilt 21 = .ok (.getfield 65, 3) := by decide +kernel
theorem dX8_rebuilt_24 : decode cX8_rebuilt 24 = .ok (.aload_n 0, 1) := by decide +kernel
theorem dX8_rebuilt_25 : decode cX8_rebuilt 25 = .ok (.getfield 65, 3) := by decide +kernel
theorem dX8_rebuilt_28 : decode cX8_rebuilt 28 = .ok (.getfield 196, 3) := by decide +kernel
theorem dX8_rebuilt_31 : decode cX8_rebuilt 31 = .ok (.iload_n 1, 1) := by decide +kernel
theorem dX8_rebuilt_32 : decode cX8_rebuilt 32 = .ok (.aaload, 1) := by decide +kernel
theorem dX8_rebuilt_33 : decode cX8_rebuilt 33 = .ok (.getfield 206, 3) := by decide +kernel
theorem dX8_rebuilt_36 : decode cX8_rebuilt 36 = .ok (.invokevirtual 228, 3) := by decide +kernel
theorem dX8_rebuilt_39 : decode cX8_rebuilt 39 = .ok (.istore_n 2, 1) := by decide +kernel
theorem dX8_rebuilt_40 : decode cX8_rebuilt 40 = .ok (.iconst 0, 1) := by decide +kernel
theorem dX8_rebuilt_41 : decode cX8_rebuilt 41 = .ok (.istore_n 3, 1) := by decide +kernel
theorem dX8_rebuilt_42 : decode cX8_rebuilt 42 = .ok (.iload_n 3, 1) := by decide +kernel
theorem dX8_rebuilt_43 : decode cX8_rebuilt 43 = .ok (.aload_n 0, 1) := by decide +kernel
theorem dX8_rebuilt_44 : decode cX8_rebuilt 44 = .ok (.getfield 34, 3) := by decide +kernel
theorem dX8_rebuilt_47 : decode cX8_rebuilt 47 = .ok (.getfield 102, 3) := by decide +kernel
theorem dX8_rebuilt_50 : decode cX8_rebuilt 50 = .ok (.if_icmp .ge 19, 3) := by decide +kernel
theorem dX8_rebuilt_53 : decode cX8_rebuilt 53 = .ok (.iload_n 2, 1) := by decide +kernel
theorem dX8_rebuilt_54 : decode cX8_rebuilt 54 = .ok (.iload_n 3, 1) := by decide +kernel
theorem dX8_rebuilt_55 : decode cX8_rebuilt 55 = .ok (.invokestatic 249, 3) := by decide +kernel
theorem dX8_rebuilt_58 : decode cX8_rebuilt 58 = .ok (.ifCond .eq 5, 3) := by decide +kernel
theorem dX8_rebuilt_61 : decode cX8_rebuilt 61 = .ok (.iload_n 3, 1) := by decide +kernel
theorem dX8_rebuilt_62 : decode cX8_rebuilt 62 = .ok (.ireturn, 1) := by decide +kernel
theorem dX8_rebuilt_63 : decode cX8_rebuilt 63 = .ok (.iinc 3 1, 3) := by decide +kernel
theorem dX8_rebuilt_66 : decode cX8_rebuilt 66 = .ok (.goto (-24), 3) := by decide +kernel
theorem dX8_rebuilt_69 : decode cX8_rebuilt 69 = .ok (.iconst (-1), 1) := by decide +kernel
theorem dX8_rebuilt_70 : decode cX8_rebuilt 70 = .ok (.ireturn, 1) := by decide +kernel
abbrev mm_X8_rebuilt : ab_M := (RX8, 4, (some .int), false, 2, 45, none)
noncomputable def f_X8_rebuilt_L42 : Nat → Int → Int → Int → ab_H → Option (Int × ab_H)
  | 0, _, _, _, _ => none
  | n + 1, v0, v2, v3, h =>
    (ab_get h 9 4 v0).bind fun t1 =>
    (ab_get h 1 0 t1).bind fun t2 =>
    if t2 ≤ v3 then
      some ((-1 : Int), h)
    else
    (f_X8_hasBit v2 v3 h).bind fun q3 =>
    if q3.1 = (0 : Int) then
      f_X8_rebuilt_L42 n v0 v2 (ab_w32 (v3 + (1 : Int))) q3.2
    else
    some (v3, q3.2)
set_option maxRecDepth 20000 in
theorem e_X8_rebuilt_L42 : ∀ (n : Nat) (v0 : Int) (v2 : Int) (v3 : Int) (h : ab_H) (q : Int × ab_H), f_X8_rebuilt_L42 n v0 v2 v3 h = some q → ab_E mm_X8_rebuilt cX8_rebuilt 42 [some (ab_R v0), none, some (ab_I v2), some (ab_I v3)] [] h (some (ab_I q.1)) q.2 := by
  intro n
  induction n with
  | zero => intro v0 v2 v3 h q hk; cases hk
  | succ n ih =>
    intro v0 v2 v3 h q hk
    unfold f_X8_rebuilt_L42 at hk
    refine ab_iload_n (pc := 42) (i := 3) dX8_rebuilt_42 rfl rfl ?_
    refine ab_aload_n (pc := 43) (i := 0) dX8_rebuilt_43 rfl rfl ?_
    obtain ⟨t1, ht1, hk⟩ := ab_bnd hk
    refine ab_getR (pc := 44) dX8_rebuilt_44 fl_RX8_34 ht1 ?_
    obtain ⟨t2, ht2, hk⟩ := ab_bnd hk
    refine ab_getI (pc := 47) dX8_rebuilt_47 fl_RX8_102 ht2 ?_
    refine ab_icmp_ge (pc := 50) (tgt := 69) dX8_rebuilt_50 rfl (fun hc => ?_) (fun hc => ?_)
    · have hk := ab_ifp hk hc
      refine ab_iconst (pc := 69) dX8_rebuilt_69 ab_k_m1 ?_
      obtain rfl := Option.some.inj hk
      exact ab_reti (pc := 70) dX8_rebuilt_70 (Or.inl rfl)
    · have hk := ab_ifn hk hc
      refine ab_iload_n (pc := 53) (i := 2) dX8_rebuilt_53 rfl rfl ?_
      refine ab_iload_n (pc := 54) (i := 3) dX8_rebuilt_54 rfl rfl ?_
      obtain ⟨q3, hq3, hk⟩ := ab_bnd hk
      refine ab_callSI (st := []) (as := [ab_I v2, ab_I v3]) (pc := 55) dX8_rebuilt_55 ml_RX8_249 my_X8_hasBit ms_X8_hasBit (ct_X8_hasBit hq3) ⟨Nat.le_of_ble_eq_true rfl, Nat.le_of_ble_eq_true rfl⟩ rfl (Nat.le_of_ble_eq_true rfl) rfl ?_
      refine ab_if_eq (pc := 58) (tgt := 63) dX8_rebuilt_58 rfl (fun hc => ?_) (fun hc => ?_)
      · have hk := ab_ifp hk hc
        refine ab_iinc (pc := 63) (i := 3) (lv2 := [some (ab_R v0), none, some (ab_I v2), some (ab_I (ab_w32 (v3 + (1 : Int))))]) dX8_rebuilt_63 rfl (Nat.le_of_ble_eq_true rfl) rfl rfl ?_
        refine ab_goto (pc := 66) (tgt := 42) dX8_rebuilt_66 rfl ?_
        refine ab_sub_ (lv2 := [some (ab_R v0), none, some (ab_I v2), some (ab_I (ab_w32 (v3 + (1 : Int))))]) (ab_ss (ab_sn (ab_ss (ab_ss ab_s0)))) ?_
        exact ih _ _ _ _ _ hk
      · have hk := ab_ifn hk hc
        refine ab_iload_n (pc := 61) (i := 3) dX8_rebuilt_61 rfl rfl ?_
        obtain rfl := Option.some.inj hk
        exact ab_reti (pc := 62) dX8_rebuilt_62 (Or.inl rfl)
noncomputable def f_X8_rebuilt (a0 : Int) (a1 : Int) (h : ab_H) : Option (Int × ab_H) :=
  if (0 : Int) ≤ a1 then
    (ab_get h 9 9 a0).bind fun t1 =>
    (ab_get h 7 1 t1).bind fun t2 =>
    if a1 < t2 then
      (ab_get h 9 9 a0).bind fun t3 =>
      (ab_get h 9 9 a0).bind fun t4 =>
      (ab_get h 7 0 t4).bind fun t5 =>
      (ab_ald h 15 t5 a1).bind fun t6 =>
      (ab_get h 3 9 t6).bind fun t7 =>
      (ab_on h 7 t3 (f_X6_stringsOfLine t3 t7 h)).bind fun q8 =>
      f_X8_rebuilt_L42 ab_FU a0 q8.1 (0 : Int) q8.2
    else
    some ((-1 : Int), h)
  else
  some ((-2 : Int), h)
set_option maxRecDepth 20000 in
theorem ct_X8_rebuilt {a0 a1 : Int} {h : ab_H} {q : Int × ab_H} (hk : f_X8_rebuilt a0 a1 h = some q) : ab_CT yX8_rebuilt cX8_rebuilt 4 (some .int) 2 45 [ab_R a0, ab_I a1] h (some (ab_I q.1)) q.2 := by
  refine ab_CT.mk_ 2 (own := RX8) (ini := false) (lv := [some (ab_R a0), some (ab_I a1), none, none]) rfl (by decide +kernel) (fun q => by cases q) rfl rfl ?_
  unfold f_X8_rebuilt at hk
  show ab_E mm_X8_rebuilt cX8_rebuilt 0 _ [] h _ _
  refine ab_iload_n (pc := 0) (i := 1) dX8_rebuilt_0 rfl rfl ?_
  refine ab_if_ge (pc := 1) (tgt := 7) dX8_rebuilt_1 rfl (fun hc => ?_) (fun hc => ?_)
  · have hk := ab_ifp hk hc
    refine ab_iload_n (pc := 7) (i := 1) dX8_rebuilt_7 rfl rfl ?_
    refine ab_aload_n (pc := 8) (i := 0) dX8_rebuilt_8 rfl rfl ?_
    obtain ⟨t1, ht1, hk⟩ := ab_bnd hk
    refine ab_getR (pc := 9) dX8_rebuilt_9 fl_RX8_65 ht1 ?_
    obtain ⟨t2, ht2, hk⟩ := ab_bnd hk
    refine ab_getI (pc := 12) dX8_rebuilt_12 fl_RX8_111 ht2 ?_
    refine ab_icmp_lt (pc := 15) (tgt := 20) dX8_rebuilt_15 rfl (fun hc => ?_) (fun hc => ?_)
    · have hk := ab_ifp hk hc
      refine ab_aload_n (pc := 20) (i := 0) dX8_rebuilt_20 rfl rfl ?_
      obtain ⟨t3, ht3, hk⟩ := ab_bnd hk
      refine ab_getR (pc := 21) dX8_rebuilt_21 fl_RX8_65 ht3 ?_
      refine ab_aload_n (pc := 24) (i := 0) dX8_rebuilt_24 rfl rfl ?_
      obtain ⟨t4, ht4, hk⟩ := ab_bnd hk
      refine ab_getR (pc := 25) dX8_rebuilt_25 fl_RX8_65 ht4 ?_
      obtain ⟨t5, ht5, hk⟩ := ab_bnd hk
      refine ab_getR (pc := 28) dX8_rebuilt_28 fl_RX8_196 ht5 ?_
      refine ab_iload_n (pc := 31) (i := 1) dX8_rebuilt_31 rfl rfl ?_
      obtain ⟨t6, ht6, hk⟩ := ab_bnd hk
      refine ab_aald (pc := 32) dX8_rebuilt_32 (by decide) ht6 ?_
      obtain ⟨t7, ht7, hk⟩ := ab_bnd hk
      refine ab_getI (pc := 33) dX8_rebuilt_33 fl_RX8_206 ht7 ?_
      obtain ⟨q8, hq8, hk⟩ := ab_bnd hk
      obtain ⟨hb, hq8⟩ := ab_on_some hq8
      refine ab_callVI (st := []) (as := [ab_I t7]) (b := t3) (pc := 36) dX8_rebuilt_36 ml_RX8_228 my_X6_stringsOfLine mv_X6_stringsOfLine hb (ct_X6_stringsOfLine hq8) ⟨Nat.le_of_ble_eq_true rfl, Nat.le_of_ble_eq_true rfl⟩ rfl (Nat.le_of_ble_eq_true rfl) rfl ?_
      refine ab_istore_n (pc := 39) (i := 2) (lv2 := [some (ab_R a0), some (ab_I a1), some (ab_I q8.1), none]) dX8_rebuilt_39 rfl (Nat.le_of_ble_eq_true rfl) rfl rfl ?_
      refine ab_iconst (pc := 40) dX8_rebuilt_40 ab_k_0 ?_
      refine ab_istore_n (pc := 41) (i := 3) (lv2 := [some (ab_R a0), some (ab_I a1), some (ab_I q8.1), some (ab_I (0 : Int))]) dX8_rebuilt_41 rfl (Nat.le_of_ble_eq_true rfl) rfl rfl ?_
      refine ab_sub_ (lv2 := [some (ab_R a0), none, some (ab_I q8.1), some (ab_I (0 : Int))]) (ab_ss (ab_sn (ab_ss (ab_ss ab_s0)))) ?_
      refine e_X8_rebuilt_L42 _ _ _ _ _ _ hk
    · have hk := ab_ifn hk hc
      refine ab_iconst (pc := 18) dX8_rebuilt_18 ab_k_m1 ?_
      obtain rfl := Option.some.inj hk
      exact ab_reti (pc := 19) dX8_rebuilt_19 (Or.inl rfl)
  · have hk := ab_ifn hk hc
    refine ab_bipush (pc := 4) dX8_rebuilt_4 ab_p8_m2 ab_k_m2 ?_
    obtain rfl := Option.some.inj hk
    exact ab_reti (pc := 6) dX8_rebuilt_6 (Or.inl rfl)
theorem dX8_lost_0 : decode cX8_lost 0 = .ok (.iload_n 1, 1) := by decide +kernel
theorem dX8_lost_1 : decode cX8_lost 1 = .ok (.ifCond .ge 6, 3) := by decide +kernel
theorem dX8_lost_4 : decode cX8_lost 4 = .ok (.bipush (-2), 2) := by decide +kernel
theorem dX8_lost_6 : decode cX8_lost 6 = .ok (.ireturn, 1) := by decide +kernel
theorem dX8_lost_7 : decode cX8_lost 7 = .ok (.iload_n 1, 1) := by decide +kernel
theorem dX8_lost_8 : decode cX8_lost 8 = .ok (.aload_n 0, 1) := by decide +kernel
theorem dX8_lost_9 : decode cX8_lost 9 = .ok (.getfield 65, 3) := by decide +kernel
theorem dX8_lost_12 : decode cX8_lost 12 = .ok (.getfield 111, 3) := by decide +kernel
theorem dX8_lost_15 : decode cX8_lost 15 = .ok (.if_icmp .ge 18, 3) := by decide +kernel
theorem dX8_lost_18 : decode cX8_lost 18 = .ok (.aload_n 0, 1) := by decide +kernel
theorem dX8_lost_19 : decode cX8_lost 19 = .ok (.getfield 65, 3) := by decide +kernel
theorem dX8_lost_22 : decode cX8_lost 22 = .ok (.getfield 196, 3) := by decide +kernel
theorem dX8_lost_25 : decode cX8_lost 25 = .ok (.iload_n 1, 1) := by decide +kernel
theorem dX8_lost_26 : decode cX8_lost 26 = .ok (.aaload, 1) := by decide +kernel
theorem dX8_lost_27 : decode cX8_lost 27 = .ok (.getfield 213, 3) := by decide +kernel
theorem dX8_lost_30 : decode cX8_lost 30 = .ok (.goto 4, 3) := by decide +kernel
theorem dX8_lost_33 : decode cX8_lost 33 = .ok (.iconst (-1), 1) := by decide +kernel
theorem dX8_lost_34 : decode cX8_lost 34 = .ok (.ireturn, 1) := by decide +kernel
abbrev mm_X8_lost : ab_M := (RX8, 2, (some .int), false, 0, 0, none)
noncomputable def f_X8_lost (a0 : Int) (a1 : Int) (h : ab_H) : Option (Int × ab_H) :=
  if (0 : Int) ≤ a1 then
    (ab_get h 9 9 a0).bind fun t1 =>
    (ab_get h 7 1 t1).bind fun t2 =>
    if t2 ≤ a1 then
      some ((-1 : Int), h)
    else
    (ab_get h 9 9 a0).bind fun t3 =>
    (ab_get h 7 0 t3).bind fun t4 =>
    (ab_ald h 15 t4 a1).bind fun t5 =>
    (ab_get h 3 8 t5).bind fun t6 =>
    some (t6, h)
  else
  some ((-2 : Int), h)
set_option maxRecDepth 20000 in
theorem ct_X8_lost {a0 a1 : Int} {h : ab_H} {q : Int × ab_H} (hk : f_X8_lost a0 a1 h = some q) : ab_CT yX8_lost cX8_lost 2 (some .int) 0 0 [ab_R a0, ab_I a1] h (some (ab_I q.1)) q.2 := by
  refine ab_CT.mk_ 0 (own := RX8) (ini := false) (lv := [some (ab_R a0), some (ab_I a1)]) rfl (by decide +kernel) (fun q => by cases q) rfl rfl ?_
  unfold f_X8_lost at hk
  show ab_E mm_X8_lost cX8_lost 0 _ [] h _ _
  refine ab_iload_n (pc := 0) (i := 1) dX8_lost_0 rfl rfl ?_
  refine ab_if_ge (pc := 1) (tgt := 7) dX8_lost_1 rfl (fun hc => ?_) (fun hc => ?_)
  · have hk := ab_ifp hk hc
    refine ab_iload_n (pc := 7) (i := 1) dX8_lost_7 rfl rfl ?_
    refine ab_aload_n (pc := 8) (i := 0) dX8_lost_8 rfl rfl ?_
    obtain ⟨t1, ht1, hk⟩ := ab_bnd hk
    refine ab_getR (pc := 9) dX8_lost_9 fl_RX8_65 ht1 ?_
    obtain ⟨t2, ht2, hk⟩ := ab_bnd hk
    refine ab_getI (pc := 12) dX8_lost_12 fl_RX8_111 ht2 ?_
    refine ab_icmp_ge (pc := 15) (tgt := 33) dX8_lost_15 rfl (fun hc => ?_) (fun hc => ?_)
    · have hk := ab_ifp hk hc
      refine ab_iconst (pc := 33) dX8_lost_33 ab_k_m1 ?_
      obtain rfl := Option.some.inj hk
      exact ab_reti (pc := 34) dX8_lost_34 (Or.inl rfl)
    · have hk := ab_ifn hk hc
      refine ab_aload_n (pc := 18) (i := 0) dX8_lost_18 rfl rfl ?_
      obtain ⟨t3, ht3, hk⟩ := ab_bnd hk
      refine ab_getR (pc := 19) dX8_lost_19 fl_RX8_65 ht3 ?_
      obtain ⟨t4, ht4, hk⟩ := ab_bnd hk
      refine ab_getR (pc := 22) dX8_lost_22 fl_RX8_196 ht4 ?_
      refine ab_iload_n (pc := 25) (i := 1) dX8_lost_25 rfl rfl ?_
      obtain ⟨t5, ht5, hk⟩ := ab_bnd hk
      refine ab_aald (pc := 26) dX8_lost_26 (by decide) ht5 ?_
      obtain ⟨t6, ht6, hk⟩ := ab_bnd hk
      refine ab_getI (pc := 27) dX8_lost_27 fl_RX8_213 ht6 ?_
      refine ab_goto (pc := 30) (tgt := 34) dX8_lost_30 rfl ?_
      obtain rfl := Option.some.inj hk
      exact ab_reti (pc := 34) dX8_lost_34 (Or.inl rfl)
  · have hk := ab_ifn hk hc
    refine ab_bipush (pc := 4) dX8_lost_4 ab_p8_m2 ab_k_m2 ?_
    obtain rfl := Option.some.inj hk
    exact ab_reti (pc := 6) dX8_lost_6 (Or.inl rfl)
theorem dX8_shown_0 : decode cX8_shown 0 = .ok (.aload_n 0, 1) := by decide +kernel
theorem dX8_shown_1 : decode cX8_shown 1 = .ok (.iload_n 1, 1) := by decide +kernel
theorem dX8_shown_2 : decode cX8_shown 2 = .ok (.invokevirtual 161, 3) := by decide +kernel
theorem dX8_shown_5 : decode cX8_shown 5 = .ok (.ifCond .eq 12, 3) := by decide +kernel
theorem dX8_shown_8 : decode cX8_shown 8 = .ok (.iload_n 2, 1) := by decide +kernel
theorem dX8_shown_9 : decode cX8_shown 9 = .ok (.ifCond .lt 8, 3) := by decide +kernel
theorem dX8_shown_12 : decode cX8_shown 12 = .ok (.iload_n 2, 1) := by decide +kernel
theorem dX8_shown_13 : decode cX8_shown 13 = .ok (.iconst 2, 1) := by decide +kernel
theorem dX8_shown_14 : decode cX8_shown 14 = .ok (.if_icmp .le 6, 3) := by decide +kernel
theorem dX8_shown_17 : decode cX8_shown 17 = .ok (.bipush (-2), 2) := by decide +kernel
theorem dX8_shown_19 : decode cX8_shown 19 = .ok (.ireturn, 1) := by decide +kernel
theorem dX8_shown_20 : decode cX8_shown 20 = .ok (.iconst 0, 1) := by decide +kernel
theorem dX8_shown_21 : decode cX8_shown 21 = .ok (.istore_n 3, 1) := by decide +kernel
theorem dX8_shown_22 : decode cX8_shown 22 = .ok (.iconst 0, 1) := by decide +kernel
theorem dX8_shown_23 : decode cX8_shown 23 = .ok (.istore 4, 2) := by decide +kernel
theorem dX8_shown_25 : decode cX8_shown 25 = .ok (.iload 4, 2) := by decide +kernel
theorem dX8_shown_27 : decode cX8_shown 27 = .ok (.aload_n 0, 1) := by decide +kernel
theorem dX8_shown_28 : decode cX8_shown 28 = .ok (.getfield 65, 3) := by decide +kernel
theorem dX8_shown_31 : decode cX8_shown 31 = .ok (.getfield 112, 3) := by decide +kernel
theorem dX8_shown_34 : decode cX8_shown 34 = .ok (.if_icmp .ge 38, 3) := by decide +kernel
theorem dX8_shown_37 : decode cX8_shown 37 = .ok (.aload_n 0, 1) := by decide +kernel
theorem dX8_shown_38 : decode cX8_shown 38 = .ok (.getfield 65, 3) := by decide +kernel
theorem dX8_shown_41 : decode cX8_shown 41 = .ok (.getfield 196, 3) := by decide +kernel
theorem dX8_shown_44 : decode cX8_shown 44 = .ok (.aload_n 0, 1) := by decide +kernel
theorem dX8_shown_45 : decode cX8_shown 45 = .ok (.getfield 65, 3) := by decide +kernel
theorem dX8_shown_48 : decode cX8_shown 48 = .ok (.getfield 225, 3) := by decide +kernel
theorem dX8_shown_51 : decode cX8_shown 51 = .ok (.iload 4, 2) := by decide +kernel
theorem dX8_shown_53 : decode cX8_shown 53 = .ok (.iaload, 1) := by decide +kernel
theorem dX8_shown_54 : decode cX8_shown 54 = .ok (.aaload, 1) := by decide +kernel
theorem dX8_shown_55 : decode cX8_shown 55 = .ok (.iload_n 1, 1) := by decide +kernel
theorem dX8_shown_56 : decode cX8_shown 56 = .ok (.iload_n 2, 1) := by decide +kernel
theorem dX8_shown_57 : decode cX8_shown 57 = .ok (.invokevirtual 252, 3) := by decide +kernel
theorem dX8_shown_60 : decode cX8_shown 60 = .ok (.ifCond .eq 6, 3) := by decide +kernel
theorem dX8_shown_63 : decode cX8_shown 63 = .ok (.iinc 3 1, 3) := by decide +kernel
theorem dX8_shown_66 : decode cX8_shown 66 = .ok (.iinc 4 1, 3) := by decide +kernel
theorem dX8_shown_69 : decode cX8_shown 69 = .ok (.goto (-44), 3) := by decide +kernel
theorem dX8_shown_72 : decode cX8_shown 72 = .ok (.iload_n 3, 1) := by decide +kernel
theorem dX8_shown_73 : decode cX8_shown 73 = .ok (.ireturn, 1) := by decide +kernel
abbrev mm_X8_shown : ab_M := (RX8, 5, (some .int), false, 1, 25, none)
noncomputable def f_X8_shown_J66 (rec : Int → Int → Int → Int → Int → ab_H → Option (Int × ab_H)) (v0 : Int) (v1 : Int) (v2 : Int) (v3 : Int) (v4 : Int) (h : ab_H) : Option (Int × ab_H) :=
  rec v0 v1 v2 v3 (ab_w32 (v4 + (1 : Int))) h
set_option maxRecDepth 20000 in
theorem e_X8_shown_J66 {rec : Int → Int → Int → Int → Int → ab_H → Option (Int × ab_H)} (hrec : ∀ (v0 : Int) (v1 : Int) (v2 : Int) (v3 : Int) (v4 : Int) (h : ab_H) (q : Int × ab_H), rec v0 v1 v2 v3 v4 h = some q → ab_E mm_X8_shown cX8_shown 25 [some (ab_R v0), some (ab_I v1), some (ab_I v2), some (ab_I v3), some (ab_I v4)] [] h (some (ab_I q.1)) q.2) : ∀ (v0 : Int) (v1 : Int) (v2 : Int) (v3 : Int) (v4 : Int) (h : ab_H) (q : Int × ab_H), f_X8_shown_J66 rec v0 v1 v2 v3 v4 h = some q → ab_E mm_X8_shown cX8_shown 66 [some (ab_R v0), some (ab_I v1), some (ab_I v2), some (ab_I v3), some (ab_I v4)] [] h (some (ab_I q.1)) q.2 := by
  intro v0 v1 v2 v3 v4 h q hk
  unfold f_X8_shown_J66 at hk
  refine ab_iinc (pc := 66) (i := 4) (lv2 := [some (ab_R v0), some (ab_I v1), some (ab_I v2), some (ab_I v3), some (ab_I (ab_w32 (v4 + (1 : Int))))]) dX8_shown_66 rfl (Nat.le_of_ble_eq_true rfl) rfl rfl ?_
  refine ab_goto (pc := 69) (tgt := 25) dX8_shown_69 rfl ?_
  refine ab_sub_ (lv2 := [some (ab_R v0), some (ab_I v1), some (ab_I v2), some (ab_I v3), some (ab_I (ab_w32 (v4 + (1 : Int))))]) (ab_ss (ab_ss (ab_ss (ab_ss (ab_ss ab_s0))))) ?_
  exact hrec _ _ _ _ _ _ _ hk
noncomputable def f_X8_shown_L25 : Nat → Int → Int → Int → Int → Int → ab_H → Option (Int × ab_H)
  | 0, _, _, _, _, _, _ => none
  | n + 1, v0, v1, v2, v3, v4, h =>
    (ab_get h 9 9 v0).bind fun t1 =>
    (ab_get h 7 3 t1).bind fun t2 =>
    if t2 ≤ v4 then
      some (v3, h)
    else
    (ab_get h 9 9 v0).bind fun t3 =>
    (ab_get h 7 0 t3).bind fun t4 =>
    (ab_get h 9 9 v0).bind fun t5 =>
    (ab_get h 7 2 t5).bind fun t6 =>
    (ab_ald h 11 t6 v4).bind fun t7 =>
    (ab_ald h 15 t4 t7).bind fun t8 =>
    (ab_on h 3 t8 (f_X2_shows t8 v1 v2 h)).bind fun q9 =>
    if q9.1 = (0 : Int) then
      f_X8_shown_J66 (f_X8_shown_L25 n) v0 v1 v2 v3 v4 q9.2
    else
    f_X8_shown_J66 (f_X8_shown_L25 n) v0 v1 v2 (ab_w32 (v3 + (1 : Int))) v4 q9.2
set_option maxRecDepth 20000 in
theorem e_X8_shown_L25 : ∀ (n : Nat) (v0 : Int) (v1 : Int) (v2 : Int) (v3 : Int) (v4 : Int) (h : ab_H) (q : Int × ab_H), f_X8_shown_L25 n v0 v1 v2 v3 v4 h = some q → ab_E mm_X8_shown cX8_shown 25 [some (ab_R v0), some (ab_I v1), some (ab_I v2), some (ab_I v3), some (ab_I v4)] [] h (some (ab_I q.1)) q.2 := by
  intro n
  induction n with
  | zero => intro v0 v1 v2 v3 v4 h q hk; cases hk
  | succ n ih =>
    intro v0 v1 v2 v3 v4 h q hk
    unfold f_X8_shown_L25 at hk
    refine ab_iload (pc := 25) (i := 4) dX8_shown_25 rfl ?_
    refine ab_aload_n (pc := 27) (i := 0) dX8_shown_27 rfl rfl ?_
    obtain ⟨t1, ht1, hk⟩ := ab_bnd hk
    refine ab_getR (pc := 28) dX8_shown_28 fl_RX8_65 ht1 ?_
    obtain ⟨t2, ht2, hk⟩ := ab_bnd hk
    refine ab_getI (pc := 31) dX8_shown_31 fl_RX8_112 ht2 ?_
    refine ab_icmp_ge (pc := 34) (tgt := 72) dX8_shown_34 rfl (fun hc => ?_) (fun hc => ?_)
    · have hk := ab_ifp hk hc
      refine ab_iload_n (pc := 72) (i := 3) dX8_shown_72 rfl rfl ?_
      obtain rfl := Option.some.inj hk
      exact ab_reti (pc := 73) dX8_shown_73 (Or.inl rfl)
    · have hk := ab_ifn hk hc
      refine ab_aload_n (pc := 37) (i := 0) dX8_shown_37 rfl rfl ?_
      obtain ⟨t3, ht3, hk⟩ := ab_bnd hk
      refine ab_getR (pc := 38) dX8_shown_38 fl_RX8_65 ht3 ?_
      obtain ⟨t4, ht4, hk⟩ := ab_bnd hk
      refine ab_getR (pc := 41) dX8_shown_41 fl_RX8_196 ht4 ?_
      refine ab_aload_n (pc := 44) (i := 0) dX8_shown_44 rfl rfl ?_
      obtain ⟨t5, ht5, hk⟩ := ab_bnd hk
      refine ab_getR (pc := 45) dX8_shown_45 fl_RX8_65 ht5 ?_
      obtain ⟨t6, ht6, hk⟩ := ab_bnd hk
      refine ab_getR (pc := 48) dX8_shown_48 fl_RX8_225 ht6 ?_
      refine ab_iload (pc := 51) (i := 4) dX8_shown_51 rfl ?_
      obtain ⟨t7, ht7, hk⟩ := ab_bnd hk
      refine ab_iald (pc := 53) dX8_shown_53 ht7 ?_
      obtain ⟨t8, ht8, hk⟩ := ab_bnd hk
      refine ab_aald (pc := 54) dX8_shown_54 (by decide) ht8 ?_
      refine ab_iload_n (pc := 55) (i := 1) dX8_shown_55 rfl rfl ?_
      refine ab_iload_n (pc := 56) (i := 2) dX8_shown_56 rfl rfl ?_
      obtain ⟨q9, hq9, hk⟩ := ab_bnd hk
      obtain ⟨hb, hq9⟩ := ab_on_some hq9
      refine ab_callVI (st := []) (as := [ab_I v1, ab_I v2]) (b := t8) (pc := 57) dX8_shown_57 ml_RX8_252 my_X2_shows mv_X2_shows hb (ct_X2_shows hq9) ⟨Nat.le_of_ble_eq_true rfl, Nat.le_of_ble_eq_true rfl⟩ rfl (Nat.le_of_ble_eq_true rfl) rfl ?_
      refine ab_if_eq (pc := 60) (tgt := 66) dX8_shown_60 rfl (fun hc => ?_) (fun hc => ?_)
      · have hk := ab_ifp hk hc
        refine ab_sub_ (lv2 := [some (ab_R v0), some (ab_I v1), some (ab_I v2), some (ab_I v3), some (ab_I v4)]) (ab_ss (ab_ss (ab_ss (ab_ss (ab_ss ab_s0))))) ?_
        exact e_X8_shown_J66 ih _ _ _ _ _ _ _ hk
      · have hk := ab_ifn hk hc
        refine ab_iinc (pc := 63) (i := 3) (lv2 := [some (ab_R v0), some (ab_I v1), some (ab_I v2), some (ab_I (ab_w32 (v3 + (1 : Int)))), some (ab_I v4)]) dX8_shown_63 rfl (Nat.le_of_ble_eq_true rfl) rfl rfl ?_
        refine ab_sub_ (lv2 := [some (ab_R v0), some (ab_I v1), some (ab_I v2), some (ab_I (ab_w32 (v3 + (1 : Int)))), some (ab_I v4)]) (ab_ss (ab_ss (ab_ss (ab_ss (ab_ss ab_s0))))) ?_
        exact e_X8_shown_J66 ih _ _ _ _ _ _ _ hk
noncomputable def f_X8_shown (a0 : Int) (a1 : Int) (a2 : Int) (h : ab_H) : Option (Int × ab_H) :=
  (ab_on h 9 a0 (f_X8_isWord a0 a1 h)).bind fun q1 =>
  if q1.1 = (0 : Int) then
    some ((-2 : Int), q1.2)
  else
  if a2 < (0 : Int) then
    some ((-2 : Int), q1.2)
  else
  if a2 ≤ (2 : Int) then
    f_X8_shown_L25 ab_FU a0 a1 a2 (0 : Int) (0 : Int) q1.2
  else
  some ((-2 : Int), q1.2)
set_option maxRecDepth 20000 in
theorem ct_X8_shown {a0 a1 a2 : Int} {h : ab_H} {q : Int × ab_H} (hk : f_X8_shown a0 a1 a2 h = some q) : ab_CT yX8_shown cX8_shown 5 (some .int) 1 25 [ab_R a0, ab_I a1, ab_I a2] h (some (ab_I q.1)) q.2 := by
  refine ab_CT.mk_ 2 (own := RX8) (ini := false) (lv := [some (ab_R a0), some (ab_I a1), some (ab_I a2), none, none]) rfl (by decide +kernel) (fun q => by cases q) rfl rfl ?_
  unfold f_X8_shown at hk
  show ab_E mm_X8_shown cX8_shown 0 _ [] h _ _
  refine ab_aload_n (pc := 0) (i := 0) dX8_shown_0 rfl rfl ?_
  refine ab_iload_n (pc := 1) (i := 1) dX8_shown_1 rfl rfl ?_
  obtain ⟨q1, hq1, hk⟩ := ab_bnd hk
  obtain ⟨hb, hq1⟩ := ab_on_some hq1
  refine ab_callVI (st := []) (as := [ab_I a1]) (b := a0) (pc := 2) dX8_shown_2 ml_RX8_161 my_X8_isWord mv_X8_isWord hb (ct_X8_isWord hq1) ⟨Nat.le_of_ble_eq_true rfl, Nat.le_of_ble_eq_true rfl⟩ rfl (Nat.le_of_ble_eq_true rfl) rfl ?_
  refine ab_if_eq (pc := 5) (tgt := 17) dX8_shown_5 rfl (fun hc => ?_) (fun hc => ?_)
  · have hk := ab_ifp hk hc
    refine ab_bipush (pc := 17) dX8_shown_17 ab_p8_m2 ab_k_m2 ?_
    obtain rfl := Option.some.inj hk
    exact ab_reti (pc := 19) dX8_shown_19 (Or.inl rfl)
  · have hk := ab_ifn hk hc
    refine ab_iload_n (pc := 8) (i := 2) dX8_shown_8 rfl rfl ?_
    refine ab_if_lt (pc := 9) (tgt := 17) dX8_shown_9 rfl (fun hc => ?_) (fun hc => ?_)
    · have hk := ab_ifp hk hc
      refine ab_bipush (pc := 17) dX8_shown_17 ab_p8_m2 ab_k_m2 ?_
      obtain rfl := Option.some.inj hk
      exact ab_reti (pc := 19) dX8_shown_19 (Or.inl rfl)
    · have hk := ab_ifn hk hc
      refine ab_iload_n (pc := 12) (i := 2) dX8_shown_12 rfl rfl ?_
      refine ab_iconst (pc := 13) dX8_shown_13 ab_k_2 ?_
      refine ab_icmp_le (pc := 14) (tgt := 20) dX8_shown_14 rfl (fun hc => ?_) (fun hc => ?_)
      · have hk := ab_ifp hk hc
        refine ab_iconst (pc := 20) dX8_shown_20 ab_k_0 ?_
        refine ab_istore_n (pc := 21) (i := 3) (lv2 := [some (ab_R a0), some (ab_I a1), some (ab_I a2), some (ab_I (0 : Int)), none]) dX8_shown_21 rfl (Nat.le_of_ble_eq_true rfl) rfl rfl ?_
        refine ab_iconst (pc := 22) dX8_shown_22 ab_k_0 ?_
        refine ab_istore (pc := 23) (i := 4) (lv2 := [some (ab_R a0), some (ab_I a1), some (ab_I a2), some (ab_I (0 : Int)), some (ab_I (0 : Int))]) dX8_shown_23 (Nat.le_of_ble_eq_true rfl) rfl rfl ?_
        refine ab_sub_ (lv2 := [some (ab_R a0), some (ab_I a1), some (ab_I a2), some (ab_I (0 : Int)), some (ab_I (0 : Int))]) (ab_ss (ab_ss (ab_ss (ab_ss (ab_ss ab_s0))))) ?_
        refine e_X8_shown_L25 _ _ _ _ _ _ _ _ hk
      · have hk := ab_ifn hk hc
        refine ab_bipush (pc := 17) dX8_shown_17 ab_p8_m2 ab_k_m2 ?_
        obtain rfl := Option.some.inj hk
        exact ab_reti (pc := 19) dX8_shown_19 (Or.inl rfl)
theorem dX8_twins_0 : decode cX8_twins 0 = .ok (.aload_n 0, 1) := by decide +kernel
theorem dX8_twins_1 : decode cX8_twins 1 = .ok (.iload_n 1, 1) := by decide +kernel
theorem dX8_twins_2 : decode cX8_twins 2 = .ok (.invokevirtual 117, 3) := by decide +kernel
theorem dX8_twins_5 : decode cX8_twins 5 = .ok (.ifCond .ne 6, 3) := by decide +kernel
theorem dX8_twins_8 : decode cX8_twins 8 = .ok (.bipush (-2), 2) := by decide +kernel
theorem dX8_twins_10 : decode cX8_twins 10 = .ok (.ireturn, 1) := by decide +kernel
theorem dX8_twins_11 : decode cX8_twins 11 = .ok (.iconst 0, 1) := by decide +kernel
theorem dX8_twins_12 : decode cX8_twins 12 = .ok (.istore_n 2, 1) := by decide +kernel
theorem dX8_twins_13 : decode cX8_twins 13 = .ok (.iconst 0, 1) := by decide +kernel
theorem dX8_twins_14 : decode cX8_twins 14 = .ok (.istore_n 3, 1) := by decide +kernel
theorem dX8_twins_15 : decode cX8_twins 15 = .ok (.iload_n 3, 1) := by decide +kernel
theorem dX8_twins_16 : decode cX8_twins 16 = .ok (.aload_n 0, 1) := by decide +kernel
theorem dX8_twins_17 : decode cX8_twins 17 = .ok (.getfield 65, 3) := by decide +kernel
theorem dX8_twins_20 : decode cX8_twins 20 = .ok (.getfield 112, 3) := by decide +kernel
theorem dX8_twins_23 : decode cX8_twins 23 = .ok (.if_icmp .ge 33, 3) := by decide +kernel
theorem dX8_twins_26 : decode cX8_twins 26 = .ok (.aload_n 0, 1) := by decide +kernel
theorem dX8_twins_27 : decode cX8_twins 27 = .ok (.getfield 65, 3) := by decide +kernel
theorem dX8_twins_30 : decode cX8_twins 30 = .ok (.iload_n 3, 1) := by decide +kernel
theorem dX8_twins_31 : decode cX8_twins 31 = .ok (.invokevirtual 228, 3) := by decide +kernel
theorem dX8_twins_34 : decode cX8_twins 34 = .ok (.istore 4, 2) := by decide +kernel
theorem dX8_twins_36 : decode cX8_twins 36 = .ok (.iload 4, 2) := by decide +kernel
theorem dX8_twins_38 : decode cX8_twins 38 = .ok (.iload_n 1, 1) := by decide +kernel
theorem dX8_twins_39 : decode cX8_twins 39 = .ok (.invokestatic 249, 3) := by decide +kernel
theorem dX8_twins_42 : decode cX8_twins 42 = .ok (.ifCond .eq 8, 3) := by decide +kernel
theorem dX8_twins_45 : decode cX8_twins 45 = .ok (.iload_n 2, 1) := by decide +kernel
theorem dX8_twins_46 : decode cX8_twins 46 = .ok (.iload 4, 2) := by decide +kernel
theorem dX8_twins_48 : decode cX8_twins 48 = .ok (.ior, 1) := by decide +kernel
theorem dX8_twins_49 : decode cX8_twins 49 = .ok (.istore_n 2, 1) := by decide +kernel
theorem dX8_twins_50 : decode cX8_twins 50 = .ok (.iinc 3 1, 3) := by decide +kernel
theorem dX8_twins_53 : decode cX8_twins 53 = .ok (.goto (-38), 3) := by decide +kernel
theorem dX8_twins_56 : decode cX8_twins 56 = .ok (.iload_n 2, 1) := by decide +kernel
theorem dX8_twins_57 : decode cX8_twins 57 = .ok (.iconst 1, 1) := by decide +kernel
theorem dX8_twins_58 : decode cX8_twins 58 = .ok (.iload_n 1, 1) := by decide +kernel
theorem dX8_twins_59 : decode cX8_twins 59 = .ok (.ishl, 1) := by decide +kernel
theorem dX8_twins_60 : decode cX8_twins 60 = .ok (.iconst (-1), 1) := by decide +kernel
theorem dX8_twins_61 : decode cX8_twins 61 = .ok (.ixor, 1) := by decide +kernel
theorem dX8_twins_62 : decode cX8_twins 62 = .ok (.iand, 1) := by decide +kernel
theorem dX8_twins_63 : decode cX8_twins 63 = .ok (.ireturn, 1) := by decide +kernel
abbrev mm_X8_twins : ab_M := (RX8, 5, (some .int), false, 2, 45, none)
noncomputable def f_X8_twins_J50 (rec : Int → Int → Int → Int → ab_H → Option (Int × ab_H)) (k56 : Int → Int → ab_H → Option (Int × ab_H)) (v0 : Int) (v1 : Int) (v2 : Int) (v3 : Int) (h : ab_H) : Option (Int × ab_H) :=
  rec v0 v1 v2 (ab_w32 (v3 + (1 : Int))) h
set_option maxRecDepth 20000 in
theorem e_X8_twins_J50 {rec : Int → Int → Int → Int → ab_H → Option (Int × ab_H)} {k56 : Int → Int → ab_H → Option (Int × ab_H)} (hrec : ∀ (v0 : Int) (v1 : Int) (v2 : Int) (v3 : Int) (h : ab_H) (q : Int × ab_H), rec v0 v1 v2 v3 h = some q → ab_E mm_X8_twins cX8_twins 15 [some (ab_R v0), some (ab_I v1), some (ab_I v2), some (ab_I v3), none] [] h (some (ab_I q.1)) q.2) (hk56 : ∀ (v1 : Int) (v2 : Int) (h : ab_H) (q : Int × ab_H), k56 v1 v2 h = some q → ab_E mm_X8_twins cX8_twins 56 [none, some (ab_I v1), some (ab_I v2), none, none] [] h (some (ab_I q.1)) q.2) : ∀ (v0 : Int) (v1 : Int) (v2 : Int) (v3 : Int) (h : ab_H) (q : Int × ab_H), f_X8_twins_J50 rec k56 v0 v1 v2 v3 h = some q → ab_E mm_X8_twins cX8_twins 50 [some (ab_R v0), some (ab_I v1), some (ab_I v2), some (ab_I v3), none] [] h (some (ab_I q.1)) q.2 := by
  intro v0 v1 v2 v3 h q hk
  unfold f_X8_twins_J50 at hk
  refine ab_iinc (pc := 50) (i := 3) (lv2 := [some (ab_R v0), some (ab_I v1), some (ab_I v2), some (ab_I (ab_w32 (v3 + (1 : Int)))), none]) dX8_twins_50 rfl (Nat.le_of_ble_eq_true rfl) rfl rfl ?_
  refine ab_goto (pc := 53) (tgt := 15) dX8_twins_53 rfl ?_
  refine ab_sub_ (lv2 := [some (ab_R v0), some (ab_I v1), some (ab_I v2), some (ab_I (ab_w32 (v3 + (1 : Int)))), none]) (ab_ss (ab_ss (ab_ss (ab_ss (ab_sn ab_s0))))) ?_
  exact hrec _ _ _ _ _ _ hk
noncomputable def f_X8_twins_L15 (k56 : Int → Int → ab_H → Option (Int × ab_H)) : Nat → Int → Int → Int → Int → ab_H → Option (Int × ab_H)
  | 0, _, _, _, _, _ => none
  | n + 1, v0, v1, v2, v3, h =>
    (ab_get h 9 9 v0).bind fun t1 =>
    (ab_get h 7 3 t1).bind fun t2 =>
    if t2 ≤ v3 then
      k56 v1 v2 h
    else
    (ab_get h 9 9 v0).bind fun t3 =>
    (ab_on h 7 t3 (f_X6_stringsOfLine t3 v3 h)).bind fun q4 =>
    (f_X8_hasBit q4.1 v1 q4.2).bind fun q5 =>
    if q5.1 = (0 : Int) then
      f_X8_twins_J50 (f_X8_twins_L15 k56 n) k56 v0 v1 v2 v3 q5.2
    else
    f_X8_twins_J50 (f_X8_twins_L15 k56 n) k56 v0 v1 (ab_or v2 q4.1) v3 q5.2
set_option maxRecDepth 20000 in
theorem e_X8_twins_L15 {k56 : Int → Int → ab_H → Option (Int × ab_H)} (hk56 : ∀ (v1 : Int) (v2 : Int) (h : ab_H) (q : Int × ab_H), k56 v1 v2 h = some q → ab_E mm_X8_twins cX8_twins 56 [none, some (ab_I v1), some (ab_I v2), none, none] [] h (some (ab_I q.1)) q.2) : ∀ (n : Nat) (v0 : Int) (v1 : Int) (v2 : Int) (v3 : Int) (h : ab_H) (q : Int × ab_H), f_X8_twins_L15 k56 n v0 v1 v2 v3 h = some q → ab_E mm_X8_twins cX8_twins 15 [some (ab_R v0), some (ab_I v1), some (ab_I v2), some (ab_I v3), none] [] h (some (ab_I q.1)) q.2 := by
  intro n
  induction n with
  | zero => intro v0 v1 v2 v3 h q hk; cases hk
  | succ n ih =>
    intro v0 v1 v2 v3 h q hk
    unfold f_X8_twins_L15 at hk
    refine ab_iload_n (pc := 15) (i := 3) dX8_twins_15 rfl rfl ?_
    refine ab_aload_n (pc := 16) (i := 0) dX8_twins_16 rfl rfl ?_
    obtain ⟨t1, ht1, hk⟩ := ab_bnd hk
    refine ab_getR (pc := 17) dX8_twins_17 fl_RX8_65 ht1 ?_
    obtain ⟨t2, ht2, hk⟩ := ab_bnd hk
    refine ab_getI (pc := 20) dX8_twins_20 fl_RX8_112 ht2 ?_
    refine ab_icmp_ge (pc := 23) (tgt := 56) dX8_twins_23 rfl (fun hc => ?_) (fun hc => ?_)
    · have hk := ab_ifp hk hc
      refine ab_sub_ (lv2 := [none, some (ab_I v1), some (ab_I v2), none, none]) (ab_sn (ab_ss (ab_ss (ab_sn (ab_sn ab_s0))))) ?_
      exact hk56 _ _ _ _ hk
    · have hk := ab_ifn hk hc
      refine ab_aload_n (pc := 26) (i := 0) dX8_twins_26 rfl rfl ?_
      obtain ⟨t3, ht3, hk⟩ := ab_bnd hk
      refine ab_getR (pc := 27) dX8_twins_27 fl_RX8_65 ht3 ?_
      refine ab_iload_n (pc := 30) (i := 3) dX8_twins_30 rfl rfl ?_
      obtain ⟨q4, hq4, hk⟩ := ab_bnd hk
      obtain ⟨hb, hq4⟩ := ab_on_some hq4
      refine ab_callVI (st := []) (as := [ab_I v3]) (b := t3) (pc := 31) dX8_twins_31 ml_RX8_228 my_X6_stringsOfLine mv_X6_stringsOfLine hb (ct_X6_stringsOfLine hq4) ⟨Nat.le_of_ble_eq_true rfl, Nat.le_of_ble_eq_true rfl⟩ rfl (Nat.le_of_ble_eq_true rfl) rfl ?_
      refine ab_istore (pc := 34) (i := 4) (lv2 := [some (ab_R v0), some (ab_I v1), some (ab_I v2), some (ab_I v3), some (ab_I q4.1)]) dX8_twins_34 (Nat.le_of_ble_eq_true rfl) rfl rfl ?_
      refine ab_iload (pc := 36) (i := 4) dX8_twins_36 rfl ?_
      refine ab_iload_n (pc := 38) (i := 1) dX8_twins_38 rfl rfl ?_
      obtain ⟨q5, hq5, hk⟩ := ab_bnd hk
      refine ab_callSI (st := []) (as := [ab_I q4.1, ab_I v1]) (pc := 39) dX8_twins_39 ml_RX8_249 my_X8_hasBit ms_X8_hasBit (ct_X8_hasBit hq5) ⟨Nat.le_of_ble_eq_true rfl, Nat.le_of_ble_eq_true rfl⟩ rfl (Nat.le_of_ble_eq_true rfl) rfl ?_
      refine ab_if_eq (pc := 42) (tgt := 50) dX8_twins_42 rfl (fun hc => ?_) (fun hc => ?_)
      · have hk := ab_ifp hk hc
        refine ab_sub_ (lv2 := [some (ab_R v0), some (ab_I v1), some (ab_I v2), some (ab_I v3), none]) (ab_ss (ab_ss (ab_ss (ab_ss (ab_sn ab_s0))))) ?_
        exact e_X8_twins_J50 ih hk56 _ _ _ _ _ _ hk
      · have hk := ab_ifn hk hc
        refine ab_iload_n (pc := 45) (i := 2) dX8_twins_45 rfl rfl ?_
        refine ab_iload (pc := 46) (i := 4) dX8_twins_46 rfl ?_
        refine ab_ior (pc := 48) dX8_twins_48 ?_
        refine ab_istore_n (pc := 49) (i := 2) (lv2 := [some (ab_R v0), some (ab_I v1), some (ab_I (ab_or v2 q4.1)), some (ab_I v3), some (ab_I q4.1)]) dX8_twins_49 rfl (Nat.le_of_ble_eq_true rfl) rfl rfl ?_
        refine ab_sub_ (lv2 := [some (ab_R v0), some (ab_I v1), some (ab_I (ab_or v2 q4.1)), some (ab_I v3), none]) (ab_ss (ab_ss (ab_ss (ab_ss (ab_sn ab_s0))))) ?_
        exact e_X8_twins_J50 ih hk56 _ _ _ _ _ _ hk
noncomputable def f_X8_twins (a0 : Int) (a1 : Int) (h : ab_H) : Option (Int × ab_H) :=
  (ab_on h 9 a0 (f_X8_isString a0 a1 h)).bind fun q1 =>
  if q1.1 = (0 : Int) then
    some ((-2 : Int), q1.2)
  else
  f_X8_twins_L15 (fun w56_1 w56_2 hx56 =>
    some (ab_and w56_2 (ab_xor (ab_shl (1 : Int) w56_1) (-1 : Int)), hx56)) ab_FU a0 a1 (0 : Int) (0 : Int) q1.2
set_option maxRecDepth 20000 in
theorem ct_X8_twins {a0 a1 : Int} {h : ab_H} {q : Int × ab_H} (hk : f_X8_twins a0 a1 h = some q) : ab_CT yX8_twins cX8_twins 5 (some .int) 2 45 [ab_R a0, ab_I a1] h (some (ab_I q.1)) q.2 := by
  refine ab_CT.mk_ 3 (own := RX8) (ini := false) (lv := [some (ab_R a0), some (ab_I a1), none, none, none]) rfl (by decide +kernel) (fun q => by cases q) rfl rfl ?_
  unfold f_X8_twins at hk
  show ab_E mm_X8_twins cX8_twins 0 _ [] h _ _
  refine ab_aload_n (pc := 0) (i := 0) dX8_twins_0 rfl rfl ?_
  refine ab_iload_n (pc := 1) (i := 1) dX8_twins_1 rfl rfl ?_
  obtain ⟨q1, hq1, hk⟩ := ab_bnd hk
  obtain ⟨hb, hq1⟩ := ab_on_some hq1
  refine ab_callVI (st := []) (as := [ab_I a1]) (b := a0) (pc := 2) dX8_twins_2 ml_RX8_117 my_X8_isString mv_X8_isString hb (ct_X8_isString hq1) ⟨Nat.le_of_ble_eq_true rfl, Nat.le_of_ble_eq_true rfl⟩ rfl (Nat.le_of_ble_eq_true rfl) rfl ?_
  refine ab_if_ne (pc := 5) (tgt := 11) dX8_twins_5 rfl (fun hc => ?_) (fun hc => ?_)
  · have hk := ab_ifn hk hc
    refine ab_iconst (pc := 11) dX8_twins_11 ab_k_0 ?_
    refine ab_istore_n (pc := 12) (i := 2) (lv2 := [some (ab_R a0), some (ab_I a1), some (ab_I (0 : Int)), none, none]) dX8_twins_12 rfl (Nat.le_of_ble_eq_true rfl) rfl rfl ?_
    refine ab_iconst (pc := 13) dX8_twins_13 ab_k_0 ?_
    refine ab_istore_n (pc := 14) (i := 3) (lv2 := [some (ab_R a0), some (ab_I a1), some (ab_I (0 : Int)), some (ab_I (0 : Int)), none]) dX8_twins_14 rfl (Nat.le_of_ble_eq_true rfl) rfl rfl ?_
    refine ab_sub_ (lv2 := [some (ab_R a0), some (ab_I a1), some (ab_I (0 : Int)), some (ab_I (0 : Int)), none]) (ab_ss (ab_ss (ab_ss (ab_ss (ab_sn ab_s0))))) ?_
    refine e_X8_twins_L15 (fun w56_1 w56_2 hx56 q hk => ?_) _ _ _ _ _ _ _ hk
    · skip
      refine ab_iload_n (pc := 56) (i := 2) dX8_twins_56 rfl rfl ?_
      refine ab_iconst (pc := 57) dX8_twins_57 ab_k_1 ?_
      refine ab_iload_n (pc := 58) (i := 1) dX8_twins_58 rfl rfl ?_
      refine ab_ishl (pc := 59) dX8_twins_59 ?_
      refine ab_iconst (pc := 60) dX8_twins_60 ab_k_m1 ?_
      refine ab_ixor (pc := 61) dX8_twins_61 ?_
      refine ab_iand (pc := 62) dX8_twins_62 ?_
      obtain rfl := Option.some.inj hk
      exact ab_reti (pc := 63) dX8_twins_63 (Or.inl rfl)
  · have hk := ab_ifp hk hc
    refine ab_bipush (pc := 8) dX8_twins_8 ab_p8_m2 ab_k_m2 ?_
    obtain rfl := Option.some.inj hk
    exact ab_reti (pc := 10) dX8_twins_10 (Or.inl rfl)
theorem dX8_crossed_0 : decode cX8_crossed 0 = .ok (.aload_n 0, 1) := by decide +kernel
theorem dX8_crossed_1 : decode cX8_crossed 1 = .ok (.iload_n 1, 1) := by decide +kernel
theorem dX8_crossed_2 : decode cX8_crossed 2 = .ok (.invokevirtual 237, 3) := by decide +kernel
theorem dX8_crossed_5 : decode cX8_crossed 5 = .ok (.ifCond .eq 11, 3) := by decide +kernel
theorem dX8_crossed_8 : decode cX8_crossed 8 = .ok (.aload_n 0, 1) := by decide +kernel
theorem dX8_crossed_9 : decode cX8_crossed 9 = .ok (.iload_n 2, 1) := by decide +kernel
theorem dX8_crossed_10 : decode cX8_crossed 10 = .ok (.invokevirtual 237, 3) := by decide +kernel
theorem dX8_crossed_13 : decode cX8_crossed 13 = .ok (.ifCond .ne 6, 3) := by decide +kernel
theorem dX8_crossed_16 : decode cX8_crossed 16 = .ok (.bipush (-2), 2) := by decide +kernel
theorem dX8_crossed_18 : decode cX8_crossed 18 = .ok (.ireturn, 1) := by decide +kernel
theorem dX8_crossed_19 : decode cX8_crossed 19 = .ok (.aload_n 0, 1) := by decide +kernel
theorem dX8_crossed_20 : decode cX8_crossed 20 = .ok (.getfield 65, 3) := by decide +kernel
theorem dX8_crossed_23 : decode cX8_crossed 23 = .ok (.iload_n 1, 1) := by decide +kernel
theorem dX8_crossed_24 : decode cX8_crossed 24 = .ok (.invokevirtual 246, 3) := by decide +kernel
theorem dX8_crossed_27 : decode cX8_crossed 27 = .ok (.aload_n 0, 1) := by decide +kernel
theorem dX8_crossed_28 : decode cX8_crossed 28 = .ok (.getfield 65, 3) := by decide +kernel
theorem dX8_crossed_31 : decode cX8_crossed 31 = .ok (.iload_n 2, 1) := by decide +kernel
theorem dX8_crossed_32 : decode cX8_crossed 32 = .ok (.invokevirtual 246, 3) := by decide +kernel
theorem dX8_crossed_35 : decode cX8_crossed 35 = .ok (.iand, 1) := by decide +kernel
theorem dX8_crossed_36 : decode cX8_crossed 36 = .ok (.ireturn, 1) := by decide +kernel
abbrev mm_X8_crossed : ab_M := (RX8, 3, (some .int), false, 2, 45, none)
noncomputable def f_X8_crossed (a0 : Int) (a1 : Int) (a2 : Int) (h : ab_H) : Option (Int × ab_H) :=
  (ab_on h 9 a0 (f_X8_isHead a0 a1 h)).bind fun q1 =>
  if q1.1 = (0 : Int) then
    some ((-2 : Int), q1.2)
  else
  (ab_on q1.2 9 a0 (f_X8_isHead a0 a2 q1.2)).bind fun q2 =>
  if q2.1 = (0 : Int) then
    some ((-2 : Int), q2.2)
  else
  (ab_get q2.2 9 9 a0).bind fun t3 =>
  (ab_on q2.2 7 t3 (f_X6_stringsOfHead t3 a1 q2.2)).bind fun q4 =>
  (ab_get q4.2 9 9 a0).bind fun t5 =>
  (ab_on q4.2 7 t5 (f_X6_stringsOfHead t5 a2 q4.2)).bind fun q6 =>
  some (ab_and q4.1 q6.1, q6.2)
set_option maxRecDepth 20000 in
theorem ct_X8_crossed {a0 a1 a2 : Int} {h : ab_H} {q : Int × ab_H} (hk : f_X8_crossed a0 a1 a2 h = some q) : ab_CT yX8_crossed cX8_crossed 3 (some .int) 2 45 [ab_R a0, ab_I a1, ab_I a2] h (some (ab_I q.1)) q.2 := by
  refine ab_CT.mk_ 0 (own := RX8) (ini := false) (lv := [some (ab_R a0), some (ab_I a1), some (ab_I a2)]) rfl (by decide +kernel) (fun q => by cases q) rfl rfl ?_
  unfold f_X8_crossed at hk
  show ab_E mm_X8_crossed cX8_crossed 0 _ [] h _ _
  refine ab_aload_n (pc := 0) (i := 0) dX8_crossed_0 rfl rfl ?_
  refine ab_iload_n (pc := 1) (i := 1) dX8_crossed_1 rfl rfl ?_
  obtain ⟨q1, hq1, hk⟩ := ab_bnd hk
  obtain ⟨hb, hq1⟩ := ab_on_some hq1
  refine ab_callVI (st := []) (as := [ab_I a1]) (b := a0) (pc := 2) dX8_crossed_2 ml_RX8_237 my_X8_isHead mv_X8_isHead hb (ct_X8_isHead hq1) ⟨Nat.le_of_ble_eq_true rfl, Nat.le_of_ble_eq_true rfl⟩ rfl (Nat.le_of_ble_eq_true rfl) rfl ?_
  refine ab_if_eq (pc := 5) (tgt := 16) dX8_crossed_5 rfl (fun hc => ?_) (fun hc => ?_)
  · have hk := ab_ifp hk hc
    refine ab_bipush (pc := 16) dX8_crossed_16 ab_p8_m2 ab_k_m2 ?_
    obtain rfl := Option.some.inj hk
    exact ab_reti (pc := 18) dX8_crossed_18 (Or.inl rfl)
  · have hk := ab_ifn hk hc
    refine ab_aload_n (pc := 8) (i := 0) dX8_crossed_8 rfl rfl ?_
    refine ab_iload_n (pc := 9) (i := 2) dX8_crossed_9 rfl rfl ?_
    obtain ⟨q2, hq2, hk⟩ := ab_bnd hk
    obtain ⟨hb, hq2⟩ := ab_on_some hq2
    refine ab_callVI (st := []) (as := [ab_I a2]) (b := a0) (pc := 10) dX8_crossed_10 ml_RX8_237 my_X8_isHead mv_X8_isHead hb (ct_X8_isHead hq2) ⟨Nat.le_of_ble_eq_true rfl, Nat.le_of_ble_eq_true rfl⟩ rfl (Nat.le_of_ble_eq_true rfl) rfl ?_
    refine ab_if_ne (pc := 13) (tgt := 19) dX8_crossed_13 rfl (fun hc => ?_) (fun hc => ?_)
    · have hk := ab_ifn hk hc
      refine ab_aload_n (pc := 19) (i := 0) dX8_crossed_19 rfl rfl ?_
      obtain ⟨t3, ht3, hk⟩ := ab_bnd hk
      refine ab_getR (pc := 20) dX8_crossed_20 fl_RX8_65 ht3 ?_
      refine ab_iload_n (pc := 23) (i := 1) dX8_crossed_23 rfl rfl ?_
      obtain ⟨q4, hq4, hk⟩ := ab_bnd hk
      obtain ⟨hb, hq4⟩ := ab_on_some hq4
      refine ab_callVI (st := []) (as := [ab_I a1]) (b := t3) (pc := 24) dX8_crossed_24 ml_RX8_246 my_X6_stringsOfHead mv_X6_stringsOfHead hb (ct_X6_stringsOfHead hq4) ⟨Nat.le_of_ble_eq_true rfl, Nat.le_of_ble_eq_true rfl⟩ rfl (Nat.le_of_ble_eq_true rfl) rfl ?_
      refine ab_aload_n (pc := 27) (i := 0) dX8_crossed_27 rfl rfl ?_
      obtain ⟨t5, ht5, hk⟩ := ab_bnd hk
      refine ab_getR (pc := 28) dX8_crossed_28 fl_RX8_65 ht5 ?_
      refine ab_iload_n (pc := 31) (i := 2) dX8_crossed_31 rfl rfl ?_
      obtain ⟨q6, hq6, hk⟩ := ab_bnd hk
      obtain ⟨hb, hq6⟩ := ab_on_some hq6
      refine ab_callVI (st := [ab_I q4.1]) (as := [ab_I a2]) (b := t5) (pc := 32) dX8_crossed_32 ml_RX8_246 my_X6_stringsOfHead mv_X6_stringsOfHead hb (ct_X6_stringsOfHead hq6) ⟨Nat.le_of_ble_eq_true rfl, Nat.le_of_ble_eq_true rfl⟩ rfl (Nat.le_of_ble_eq_true rfl) rfl ?_
      refine ab_iand (pc := 35) dX8_crossed_35 ?_
      obtain rfl := Option.some.inj hk
      exact ab_reti (pc := 36) dX8_crossed_36 (Or.inl rfl)
    · have hk := ab_ifp hk hc
      refine ab_bipush (pc := 16) dX8_crossed_16 ab_p8_m2 ab_k_m2 ?_
      obtain rfl := Option.some.inj hk
      exact ab_reti (pc := 18) dX8_crossed_18 (Or.inl rfl)
theorem dX8_would_0 : decode cX8_would 0 = .ok (.iload_n 1, 1) := by decide +kernel
theorem dX8_would_1 : decode cX8_would 1 = .ok (.invokestatic 171, 3) := by decide +kernel
theorem dX8_would_4 : decode cX8_would 4 = .ok (.ifCond .eq 19, 3) := by decide +kernel
theorem dX8_would_7 : decode cX8_would 7 = .ok (.iload_n 2, 1) := by decide +kernel
theorem dX8_would_8 : decode cX8_would 8 = .ok (.invokestatic 255, 3) := by decide +kernel
theorem dX8_would_11 : decode cX8_would 11 = .ok (.ifCond .eq 12, 3) := by decide +kernel
theorem dX8_would_14 : decode cX8_would 14 = .ok (.iload_n 3, 1) := by decide +kernel
theorem dX8_would_15 : decode cX8_would 15 = .ok (.ifCond .lt 8, 3) := by decide +kernel
theorem dX8_would_18 : decode cX8_would 18 = .ok (.iload_n 3, 1) := by decide +kernel
theorem dX8_would_19 : decode cX8_would 19 = .ok (.iconst 2, 1) := by decide +kernel
theorem dX8_would_20 : decode cX8_would 20 = .ok (.if_icmp .le 6, 3) := by decide +kernel
theorem dX8_would_23 : decode cX8_would 23 = .ok (.bipush (-2), 2) := by decide +kernel
theorem dX8_would_25 : decode cX8_would 25 = .ok (.ireturn, 1) := by decide +kernel
theorem dX8_would_26 : decode cX8_would 26 = .ok (.aload_n 0, 1) := by decide +kernel
theorem dX8_would_27 : decode cX8_would 27 = .ok (.getfield 38, 3) := by decide +kernel
theorem dX8_would_30 : decode cX8_would 30 = .ok (.aload_n 0, 1) := by decide +kernel
theorem dX8_would_31 : decode cX8_would 31 = .ok (.getfield 34, 3) := by decide +kernel
theorem dX8_would_34 : decode cX8_would 34 = .ok (.invokevirtual 86, 3) := by decide +kernel
theorem dX8_would_37 : decode cX8_would 37 = .ok (.aload_n 0, 1) := by decide +kernel
theorem dX8_would_38 : decode cX8_would 38 = .ok (.getfield 38, 3) := by decide +kernel
theorem dX8_would_41 : decode cX8_would 41 = .ok (.getfield 174, 3) := by decide +kernel
theorem dX8_would_44 : decode cX8_would 44 = .ok (.iload_n 1, 1) := by decide +kernel
theorem dX8_would_45 : decode cX8_would 45 = .ok (.iload_n 2, 1) := by decide +kernel
theorem dX8_would_46 : decode cX8_would 46 = .ok (.iastore, 1) := by decide +kernel
theorem dX8_would_47 : decode cX8_would 47 = .ok (.aload_n 0, 1) := by decide +kernel
theorem dX8_would_48 : decode cX8_would 48 = .ok (.getfield 69, 3) := by decide +kernel
theorem dX8_would_51 : decode cX8_would 51 = .ok (.aload_n 0, 1) := by decide +kernel
theorem dX8_would_52 : decode cX8_would 52 = .ok (.getfield 38, 3) := by decide +kernel
theorem dX8_would_55 : decode cX8_would 55 = .ok (.aload_n 0, 1) := by decide +kernel
theorem dX8_would_56 : decode cX8_would 56 = .ok (.getfield 58, 3) := by decide +kernel
theorem dX8_would_59 : decode cX8_would 59 = .ok (.invokevirtual 258, 3) := by decide +kernel
theorem dX8_would_62 : decode cX8_would 62 = .ok (.iload_n 3, 1) := by decide +kernel
theorem dX8_would_63 : decode cX8_would 63 = .ok (.lookupswitch 41 #[(0, 25), (1, 33)], 25) := by decide +kernel
theorem dX8_would_88 : decode cX8_would 88 = .ok (.aload_n 0, 1) := by decide +kernel
theorem dX8_would_89 : decode cX8_would 89 = .ok (.getfield 69, 3) := by decide +kernel
theorem dX8_would_92 : decode cX8_would 92 = .ok (.getfield 111, 3) := by decide +kernel
theorem dX8_would_95 : decode cX8_would 95 = .ok (.ireturn, 1) := by decide +kernel
theorem dX8_would_96 : decode cX8_would 96 = .ok (.aload_n 0, 1) := by decide +kernel
theorem dX8_would_97 : decode cX8_would 97 = .ok (.getfield 69, 3) := by decide +kernel
theorem dX8_would_100 : decode cX8_would 100 = .ok (.getfield 112, 3) := by decide +kernel
theorem dX8_would_103 : decode cX8_would 103 = .ok (.ireturn, 1) := by decide +kernel
theorem dX8_would_104 : decode cX8_would 104 = .ok (.aload_n 0, 1) := by decide +kernel
theorem dX8_would_105 : decode cX8_would 105 = .ok (.getfield 69, 3) := by decide +kernel
theorem dX8_would_108 : decode cX8_would 108 = .ok (.invokevirtual 262, 3) := by decide +kernel
theorem dX8_would_111 : decode cX8_would 111 = .ok (.ireturn, 1) := by decide +kernel
abbrev mm_X8_would : ab_M := (RX8, 4, (some .int), false, 5, 119, none)
noncomputable def f_X8_would (a0 : Int) (a1 : Int) (a2 : Int) (a3 : Int) (h : ab_H) : Option (Int × ab_H) :=
  (f_X8_isRole a1 h).bind fun q1 =>
  if q1.1 = (0 : Int) then
    some ((-2 : Int), q1.2)
  else
  (f_X8_isWay a2 q1.2).bind fun q2 =>
  if q2.1 = (0 : Int) then
    some ((-2 : Int), q2.2)
  else
  if a3 < (0 : Int) then
    some ((-2 : Int), q2.2)
  else
  if a3 ≤ (2 : Int) then
    (ab_get q2.2 9 5 a0).bind fun t3 =>
    (ab_get q2.2 9 4 a0).bind fun t4 =>
    (ab_on q2.2 1 t3 (f_X0_copyFrom t3 t4 q2.2)).bind fun q5 =>
    (ab_get q5 9 5 a0).bind fun t6 =>
    (ab_get q5 1 8 t6).bind fun t7 =>
    (ab_ast q5 11 t7 a1 a2).bind fun h1 =>
    (ab_get h1 9 10 a0).bind fun t8 =>
    (ab_get h1 9 5 a0).bind fun t9 =>
    (ab_get h1 9 8 a0).bind fun t10 =>
    (ab_on h1 7 t8 (f_X6_turnAll t8 t9 t10 h1)).bind fun q11 =>
    if a3 = (0 : Int) then
      (ab_get q11 9 10 a0).bind fun t12 =>
      (ab_get q11 7 1 t12).bind fun t13 =>
      some (t13, q11)
    else
    if a3 = (1 : Int) then
      (ab_get q11 9 10 a0).bind fun t14 =>
      (ab_get q11 7 3 t14).bind fun t15 =>
      some (t15, q11)
    else
    (ab_get q11 9 10 a0).bind fun t16 =>
    (ab_on q11 7 t16 (f_X6_doublesOfAll t16 q11)).bind fun q17 =>
    some (q17.1, q17.2)
  else
  some ((-2 : Int), q2.2)
set_option maxRecDepth 20000 in
theorem ct_X8_would {a0 a1 a2 a3 : Int} {h : ab_H} {q : Int × ab_H} (hk : f_X8_would a0 a1 a2 a3 h = some q) : ab_CT yX8_would cX8_would 4 (some .int) 5 119 [ab_R a0, ab_I a1, ab_I a2, ab_I a3] h (some (ab_I q.1)) q.2 := by
  refine ab_CT.mk_ 0 (own := RX8) (ini := false) (lv := [some (ab_R a0), some (ab_I a1), some (ab_I a2), some (ab_I a3)]) rfl (by decide +kernel) (fun q => by cases q) rfl rfl ?_
  unfold f_X8_would at hk
  show ab_E mm_X8_would cX8_would 0 _ [] h _ _
  refine ab_iload_n (pc := 0) (i := 1) dX8_would_0 rfl rfl ?_
  obtain ⟨q1, hq1, hk⟩ := ab_bnd hk
  refine ab_callSI (st := []) (as := [ab_I a1]) (pc := 1) dX8_would_1 ml_RX8_171 my_X8_isRole ms_X8_isRole (ct_X8_isRole hq1) ⟨Nat.le_of_ble_eq_true rfl, Nat.le_of_ble_eq_true rfl⟩ rfl (Nat.le_of_ble_eq_true rfl) rfl ?_
  refine ab_if_eq (pc := 4) (tgt := 23) dX8_would_4 rfl (fun hc => ?_) (fun hc => ?_)
  · have hk := ab_ifp hk hc
    refine ab_bipush (pc := 23) dX8_would_23 ab_p8_m2 ab_k_m2 ?_
    obtain rfl := Option.some.inj hk
    exact ab_reti (pc := 25) dX8_would_25 (Or.inl rfl)
  · have hk := ab_ifn hk hc
    refine ab_iload_n (pc := 7) (i := 2) dX8_would_7 rfl rfl ?_
    obtain ⟨q2, hq2, hk⟩ := ab_bnd hk
    refine ab_callSI (st := []) (as := [ab_I a2]) (pc := 8) dX8_would_8 ml_RX8_255 my_X8_isWay ms_X8_isWay (ct_X8_isWay hq2) ⟨Nat.le_of_ble_eq_true rfl, Nat.le_of_ble_eq_true rfl⟩ rfl (Nat.le_of_ble_eq_true rfl) rfl ?_
    refine ab_if_eq (pc := 11) (tgt := 23) dX8_would_11 rfl (fun hc => ?_) (fun hc => ?_)
    · have hk := ab_ifp hk hc
      refine ab_bipush (pc := 23) dX8_would_23 ab_p8_m2 ab_k_m2 ?_
      obtain rfl := Option.some.inj hk
      exact ab_reti (pc := 25) dX8_would_25 (Or.inl rfl)
    · have hk := ab_ifn hk hc
      refine ab_iload_n (pc := 14) (i := 3) dX8_would_14 rfl rfl ?_
      refine ab_if_lt (pc := 15) (tgt := 23) dX8_would_15 rfl (fun hc => ?_) (fun hc => ?_)
      · have hk := ab_ifp hk hc
        refine ab_bipush (pc := 23) dX8_would_23 ab_p8_m2 ab_k_m2 ?_
        obtain rfl := Option.some.inj hk
        exact ab_reti (pc := 25) dX8_would_25 (Or.inl rfl)
      · have hk := ab_ifn hk hc
        refine ab_iload_n (pc := 18) (i := 3) dX8_would_18 rfl rfl ?_
        refine ab_iconst (pc := 19) dX8_would_19 ab_k_2 ?_
        refine ab_icmp_le (pc := 20) (tgt := 26) dX8_would_20 rfl (fun hc => ?_) (fun hc => ?_)
        · have hk := ab_ifp hk hc
          refine ab_aload_n (pc := 26) (i := 0) dX8_would_26 rfl rfl ?_
          obtain ⟨t3, ht3, hk⟩ := ab_bnd hk
          refine ab_getR (pc := 27) dX8_would_27 fl_RX8_38 ht3 ?_
          refine ab_aload_n (pc := 30) (i := 0) dX8_would_30 rfl rfl ?_
          obtain ⟨t4, ht4, hk⟩ := ab_bnd hk
          refine ab_getR (pc := 31) dX8_would_31 fl_RX8_34 ht4 ?_
          obtain ⟨q5, hq5, hk⟩ := ab_bnd hk
          obtain ⟨hb, hq5⟩ := ab_on_some hq5
          refine ab_callVV (st := []) (as := [ab_R t4]) (b := t3) (pc := 34) dX8_would_34 ml_RX8_86 my_X0_copyFrom mv_X0_copyFrom hb (ct_X0_copyFrom hq5) ⟨Nat.le_of_ble_eq_true rfl, Nat.le_of_ble_eq_true rfl⟩ rfl (Nat.le_of_ble_eq_true rfl) rfl ?_
          refine ab_aload_n (pc := 37) (i := 0) dX8_would_37 rfl rfl ?_
          obtain ⟨t6, ht6, hk⟩ := ab_bnd hk
          refine ab_getR (pc := 38) dX8_would_38 fl_RX8_38 ht6 ?_
          obtain ⟨t7, ht7, hk⟩ := ab_bnd hk
          refine ab_getR (pc := 41) dX8_would_41 fl_RX8_174 ht7 ?_
          refine ab_iload_n (pc := 44) (i := 1) dX8_would_44 rfl rfl ?_
          refine ab_iload_n (pc := 45) (i := 2) dX8_would_45 rfl rfl ?_
          obtain ⟨h1, hh1, hk⟩ := ab_bnd hk
          refine ab_iast (pc := 46) dX8_would_46 hh1 ?_
          refine ab_aload_n (pc := 47) (i := 0) dX8_would_47 rfl rfl ?_
          obtain ⟨t8, ht8, hk⟩ := ab_bnd hk
          refine ab_getR (pc := 48) dX8_would_48 fl_RX8_69 ht8 ?_
          refine ab_aload_n (pc := 51) (i := 0) dX8_would_51 rfl rfl ?_
          obtain ⟨t9, ht9, hk⟩ := ab_bnd hk
          refine ab_getR (pc := 52) dX8_would_52 fl_RX8_38 ht9 ?_
          refine ab_aload_n (pc := 55) (i := 0) dX8_would_55 rfl rfl ?_
          obtain ⟨t10, ht10, hk⟩ := ab_bnd hk
          refine ab_getR (pc := 56) dX8_would_56 fl_RX8_58 ht10 ?_
          obtain ⟨q11, hq11, hk⟩ := ab_bnd hk
          obtain ⟨hb, hq11⟩ := ab_on_some hq11
          refine ab_callVV (st := []) (as := [ab_R t9, ab_R t10]) (b := t8) (pc := 59) dX8_would_59 ml_RX8_258 my_X6_turnAll mv_X6_turnAll hb (ct_X6_turnAll hq11) ⟨Nat.le_of_ble_eq_true rfl, Nat.le_of_ble_eq_true rfl⟩ rfl (Nat.le_of_ble_eq_true rfl) rfl ?_
          refine ab_iload_n (pc := 62) (i := 3) dX8_would_62 rfl rfl ?_
          by_cases hc : a3 = (0 : Int)
          · have hk := ab_ifp hk hc
            refine ab_lswIn (pc := 63) (v := (0 : Int)) (off := 25) (tgt := 88) dX8_would_63 rfl hc rfl rfl ?_
            refine ab_aload_n (pc := 88) (i := 0) dX8_would_88 rfl rfl ?_
            obtain ⟨t12, ht12, hk⟩ := ab_bnd hk
            refine ab_getR (pc := 89) dX8_would_89 fl_RX8_69 ht12 ?_
            obtain ⟨t13, ht13, hk⟩ := ab_bnd hk
            refine ab_getI (pc := 92) dX8_would_92 fl_RX8_111 ht13 ?_
            obtain rfl := Option.some.inj hk
            exact ab_reti (pc := 95) dX8_would_95 (Or.inl rfl)
          have hk := ab_ifn hk hc
          have hz0 := hc
          clear hc
          by_cases hc : a3 = (1 : Int)
          · have hk := ab_ifp hk hc
            refine ab_lswIn (pc := 63) (v := (1 : Int)) (off := 33) (tgt := 96) dX8_would_63 rfl hc rfl rfl ?_
            refine ab_aload_n (pc := 96) (i := 0) dX8_would_96 rfl rfl ?_
            obtain ⟨t14, ht14, hk⟩ := ab_bnd hk
            refine ab_getR (pc := 97) dX8_would_97 fl_RX8_69 ht14 ?_
            obtain ⟨t15, ht15, hk⟩ := ab_bnd hk
            refine ab_getI (pc := 100) dX8_would_100 fl_RX8_112 ht15 ?_
            obtain rfl := Option.some.inj hk
            exact ab_reti (pc := 103) dX8_would_103 (Or.inl rfl)
          have hk := ab_ifn hk hc
          have hz1 := hc
          clear hc
          refine ab_lswOut (pc := 63) (off := 41) (tgt := 104) dX8_would_63 rfl (by simp [Op.lookupswitch.offset, Ne.symm hz0, Ne.symm hz1]) rfl ?_
          refine ab_aload_n (pc := 104) (i := 0) dX8_would_104 rfl rfl ?_
          obtain ⟨t16, ht16, hk⟩ := ab_bnd hk
          refine ab_getR (pc := 105) dX8_would_105 fl_RX8_69 ht16 ?_
          obtain ⟨q17, hq17, hk⟩ := ab_bnd hk
          obtain ⟨hb, hq17⟩ := ab_on_some hq17
          refine ab_callVI (st := []) (as := []) (b := t16) (pc := 108) dX8_would_108 ml_RX8_262 my_X6_doublesOfAll mv_X6_doublesOfAll hb (ct_X6_doublesOfAll hq17) ⟨Nat.le_of_ble_eq_true rfl, Nat.le_of_ble_eq_true rfl⟩ rfl (Nat.le_of_ble_eq_true rfl) rfl ?_
          obtain rfl := Option.some.inj hk
          exact ab_reti (pc := 111) dX8_would_111 (Or.inl rfl)
        · have hk := ab_ifn hk hc
          refine ab_bipush (pc := 23) dX8_would_23 ab_p8_m2 ab_k_m2 ?_
          obtain rfl := Option.some.inj hk
          exact ab_reti (pc := 25) dX8_would_25 (Or.inl rfl)
theorem dX8_print_0 : decode cX8_print 0 = .ok (.aload_n 0, 1) := by decide +kernel
theorem dX8_print_1 : decode cX8_print 1 = .ok (.iload_n 1, 1) := by decide +kernel
theorem dX8_print_2 : decode cX8_print 2 = .ok (.invokevirtual 222, 3) := by decide +kernel
theorem dX8_print_5 : decode cX8_print 5 = .ok (.ifCond .ne 6, 3) := by decide +kernel
theorem dX8_print_8 : decode cX8_print 8 = .ok (.bipush (-2), 2) := by decide +kernel
theorem dX8_print_10 : decode cX8_print 10 = .ok (.ireturn, 1) := by decide +kernel
theorem dX8_print_11 : decode cX8_print 11 = .ok (.aload_n 0, 1) := by decide +kernel
theorem dX8_print_12 : decode cX8_print 12 = .ok (.getfield 18, 3) := by decide +kernel
theorem dX8_print_15 : decode cX8_print 15 = .ok (.iconst 0, 1) := by decide +kernel
theorem dX8_print_16 : decode cX8_print 16 = .ok (.putfield 72, 3) := by decide +kernel
theorem dX8_print_19 : decode cX8_print 19 = .ok (.aload_n 0, 1) := by decide +kernel
theorem dX8_print_20 : decode cX8_print 20 = .ok (.getfield 65, 3) := by decide +kernel
theorem dX8_print_23 : decode cX8_print 23 = .ok (.iload_n 1, 1) := by decide +kernel
theorem dX8_print_24 : decode cX8_print 24 = .ok (.aload_n 0, 1) := by decide +kernel
theorem dX8_print_25 : decode cX8_print 25 = .ok (.getfield 51, 3) := by decide +kernel
theorem dX8_print_28 : decode cX8_print 28 = .ok (.aload_n 0, 1) := by decide +kernel
theorem dX8_print_29 : decode cX8_print 29 = .ok (.getfield 58, 3) := by decide +kernel
theorem dX8_print_32 : decode cX8_print 32 = .ok (.aload_n 0, 1) := by decide +kernel
theorem dX8_print_33 : decode cX8_print 33 = .ok (.getfield 18, 3) := by decide +kernel
theorem dX8_print_36 : decode cX8_print 36 = .ok (.invokevirtual 265, 3) := by decide +kernel
theorem dX8_print_39 : decode cX8_print 39 = .ok (.aload_n 0, 1) := by decide +kernel
theorem dX8_print_40 : decode cX8_print 40 = .ok (.getfield 18, 3) := by decide +kernel
theorem dX8_print_43 : decode cX8_print 43 = .ok (.getfield 72, 3) := by decide +kernel
theorem dX8_print_46 : decode cX8_print 46 = .ok (.ireturn, 1) := by decide +kernel
abbrev mm_X8_print : ab_M := (RX8, 2, (some .int), false, 4, 100, none)
noncomputable def f_X8_print (a0 : Int) (a1 : Int) (h : ab_H) : Option (Int × ab_H) :=
  (ab_on h 9 a0 (f_X8_isLine a0 a1 h)).bind fun q1 =>
  if q1.1 = (0 : Int) then
    some ((-2 : Int), q1.2)
  else
  (ab_get q1.2 9 1 a0).bind fun t2 =>
  (ab_put q1.2 2 1 t2 (0 : Int)).bind fun h1 =>
  (ab_get h1 9 9 a0).bind fun t3 =>
  (ab_get h1 9 7 a0).bind fun t4 =>
  (ab_get h1 9 8 a0).bind fun t5 =>
  (ab_get h1 9 1 a0).bind fun t6 =>
  (ab_on h1 7 t3 (f_X6_printLine t3 a1 t4 t5 t6 h1)).bind fun q7 =>
  (ab_get q7 9 1 a0).bind fun t8 =>
  (ab_get q7 2 1 t8).bind fun t9 =>
  some (t9, q7)
set_option maxRecDepth 20000 in
theorem ct_X8_print {a0 a1 : Int} {h : ab_H} {q : Int × ab_H} (hk : f_X8_print a0 a1 h = some q) : ab_CT yX8_print cX8_print 2 (some .int) 4 100 [ab_R a0, ab_I a1] h (some (ab_I q.1)) q.2 := by
  refine ab_CT.mk_ 0 (own := RX8) (ini := false) (lv := [some (ab_R a0), some (ab_I a1)]) rfl (by decide +kernel) (fun q => by cases q) rfl rfl ?_
  unfold f_X8_print at hk
  show ab_E mm_X8_print cX8_print 0 _ [] h _ _
  refine ab_aload_n (pc := 0) (i := 0) dX8_print_0 rfl rfl ?_
  refine ab_iload_n (pc := 1) (i := 1) dX8_print_1 rfl rfl ?_
  obtain ⟨q1, hq1, hk⟩ := ab_bnd hk
  obtain ⟨hb, hq1⟩ := ab_on_some hq1
  refine ab_callVI (st := []) (as := [ab_I a1]) (b := a0) (pc := 2) dX8_print_2 ml_RX8_222 my_X8_isLine mv_X8_isLine hb (ct_X8_isLine hq1) ⟨Nat.le_of_ble_eq_true rfl, Nat.le_of_ble_eq_true rfl⟩ rfl (Nat.le_of_ble_eq_true rfl) rfl ?_
  refine ab_if_ne (pc := 5) (tgt := 11) dX8_print_5 rfl (fun hc => ?_) (fun hc => ?_)
  · have hk := ab_ifn hk hc
    refine ab_aload_n (pc := 11) (i := 0) dX8_print_11 rfl rfl ?_
    obtain ⟨t2, ht2, hk⟩ := ab_bnd hk
    refine ab_getR (pc := 12) dX8_print_12 fl_RX8_18 ht2 ?_
    refine ab_iconst (pc := 15) dX8_print_15 ab_k_0 ?_
    obtain ⟨h1, hh1, hk⟩ := ab_bnd hk
    refine ab_putI_ (pc := 16) dX8_print_16 fl_RX8_72 (fun q => by cases q) hh1 ?_
    refine ab_aload_n (pc := 19) (i := 0) dX8_print_19 rfl rfl ?_
    obtain ⟨t3, ht3, hk⟩ := ab_bnd hk
    refine ab_getR (pc := 20) dX8_print_20 fl_RX8_65 ht3 ?_
    refine ab_iload_n (pc := 23) (i := 1) dX8_print_23 rfl rfl ?_
    refine ab_aload_n (pc := 24) (i := 0) dX8_print_24 rfl rfl ?_
    obtain ⟨t4, ht4, hk⟩ := ab_bnd hk
    refine ab_getR (pc := 25) dX8_print_25 fl_RX8_51 ht4 ?_
    refine ab_aload_n (pc := 28) (i := 0) dX8_print_28 rfl rfl ?_
    obtain ⟨t5, ht5, hk⟩ := ab_bnd hk
    refine ab_getR (pc := 29) dX8_print_29 fl_RX8_58 ht5 ?_
    refine ab_aload_n (pc := 32) (i := 0) dX8_print_32 rfl rfl ?_
    obtain ⟨t6, ht6, hk⟩ := ab_bnd hk
    refine ab_getR (pc := 33) dX8_print_33 fl_RX8_18 ht6 ?_
    obtain ⟨q7, hq7, hk⟩ := ab_bnd hk
    obtain ⟨hb, hq7⟩ := ab_on_some hq7
    refine ab_callVV (st := []) (as := [ab_I a1, ab_R t4, ab_R t5, ab_R t6]) (b := t3) (pc := 36) dX8_print_36 ml_RX8_265 my_X6_printLine mv_X6_printLine hb (ct_X6_printLine hq7) ⟨Nat.le_of_ble_eq_true rfl, Nat.le_of_ble_eq_true rfl⟩ rfl (Nat.le_of_ble_eq_true rfl) rfl ?_
    refine ab_aload_n (pc := 39) (i := 0) dX8_print_39 rfl rfl ?_
    obtain ⟨t8, ht8, hk⟩ := ab_bnd hk
    refine ab_getR (pc := 40) dX8_print_40 fl_RX8_18 ht8 ?_
    obtain ⟨t9, ht9, hk⟩ := ab_bnd hk
    refine ab_getI (pc := 43) dX8_print_43 fl_RX8_72 ht9 ?_
    obtain rfl := Option.some.inj hk
    exact ab_reti (pc := 46) dX8_print_46 (Or.inl rfl)
  · have hk := ab_ifp hk hc
    refine ab_bipush (pc := 8) dX8_print_8 ab_p8_m2 ab_k_m2 ?_
    obtain rfl := Option.some.inj hk
    exact ab_reti (pc := 10) dX8_print_10 (Or.inl rfl)
