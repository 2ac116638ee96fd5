theorem dX9_init_0 : decode cX9_init 0 = .ok (.aload_n 0, 1) := by decide +kernel
theorem dX9_init_1 : decode cX9_init 1 = .ok (.invokespecial 1, 3) := by decide +kernel
theorem dX9_init_4 : decode cX9_init 4 = .ok (.aload_n 0, 1) := by decide +kernel
theorem dX9_init_5 : decode cX9_init 5 = .ok (.sipush 416, 3) := by decide +kernel
theorem dX9_init_8 : decode cX9_init 8 = .ok (.newarray .long, 2) := by decide +kernel
theorem dX9_init_10 : decode cX9_init 10 = .ok (.putfield 9, 3) := by decide +kernel
theorem dX9_init_13 : decode cX9_init 13 = .ok (.aload_n 0, 1) := by decide +kernel
theorem dX9_init_14 : decode cX9_init 14 = .ok (.sipush 416, 3) := by decide +kernel
theorem dX9_init_17 : decode cX9_init 17 = .ok (.newarray .long, 2) := by decide +kernel
theorem dX9_init_19 : decode cX9_init 19 = .ok (.putfield 13, 3) := by decide +kernel
theorem dX9_init_22 : decode cX9_init 22 = .ok (.aload_n 0, 1) := by decide +kernel
theorem dX9_init_23 : decode cX9_init 23 = .ok (.sipush 1200, 3) := by decide +kernel
theorem dX9_init_26 : decode cX9_init 26 = .ok (.newarray .byte, 2) := by decide +kernel
theorem dX9_init_28 : decode cX9_init 28 = .ok (.putfield 16, 3) := by decide +kernel
theorem dX9_init_31 : decode cX9_init 31 = .ok (.aload_n 0, 1) := by decide +kernel
theorem dX9_init_32 : decode cX9_init 32 = .ok (.iconst (-1), 1) := by decide +kernel
theorem dX9_init_33 : decode cX9_init 33 = .ok (.putfield 20, 3) := by decide +kernel
theorem dX9_init_36 : decode cX9_init 36 = .ok (.aload_n 0, 1) := by decide +kernel
theorem dX9_init_37 : decode cX9_init 37 = .ok (.bipush 72, 2) := by decide +kernel
theorem dX9_init_39 : decode cX9_init 39 = .ok (.newarray .long, 2) := by decide +kernel
theorem dX9_init_41 : decode cX9_init 41 = .ok (.putfield 24, 3) := by decide +kernel
theorem dX9_init_44 : decode cX9_init 44 = .ok (.aload_n 0, 1) := by decide +kernel
theorem dX9_init_45 : decode cX9_init 45 = .ok (.bipush 72, 2) := by decide +kernel
theorem dX9_init_47 : decode cX9_init 47 = .ok (.newarray .int, 2) := by decide +kernel
theorem dX9_init_49 : decode cX9_init 49 = .ok (.putfield 27, 3) := by decide +kernel
theorem dX9_init_52 : decode cX9_init 52 = .ok (.aload_n 0, 1) := by decide +kernel
theorem dX9_init_53 : decode cX9_init 53 = .ok (.bipush 72, 2) := by decide +kernel
theorem dX9_init_55 : decode cX9_init 55 = .ok (.newarray .int, 2) := by decide +kernel
theorem dX9_init_57 : decode cX9_init 57 = .ok (.putfield 31, 3) := by decide +kernel
theorem dX9_init_60 : decode cX9_init 60 = .ok (.aload_n 0, 1) := by decide +kernel
theorem dX9_init_61 : decode cX9_init 61 = .ok (.bipush 72, 2) := by decide +kernel
theorem dX9_init_63 : decode cX9_init 63 = .ok (.newarray .int, 2) := by decide +kernel
theorem dX9_init_65 : decode cX9_init 65 = .ok (.putfield 34, 3) := by decide +kernel
theorem dX9_init_68 : decode cX9_init 68 = .ok (.aload_n 0, 1) := by decide +kernel
theorem dX9_init_69 : decode cX9_init 69 = .ok (.bipush 72, 2) := by decide +kernel
theorem dX9_init_71 : decode cX9_init 71 = .ok (.newarray .int, 2) := by decide +kernel
theorem dX9_init_73 : decode cX9_init 73 = .ok (.putfield 37, 3) := by decide +kernel
theorem dX9_init_76 : decode cX9_init 76 = .ok (.aload_n 0, 1) := by decide +kernel
theorem dX9_init_77 : decode cX9_init 77 = .ok (.bipush 72, 2) := by decide +kernel
theorem dX9_init_79 : decode cX9_init 79 = .ok (.newarray .int, 2) := by decide +kernel
theorem dX9_init_81 : decode cX9_init 81 = .ok (.putfield 40, 3) := by decide +kernel
theorem dX9_init_84 : decode cX9_init 84 = .ok (.aload_n 0, 1) := by decide +kernel
theorem dX9_init_85 : decode cX9_init 85 = .ok (.bipush 72, 2) := by decide +kernel
theorem dX9_init_87 : decode cX9_init 87 = .ok (.newarray .int, 2) := by decide +kernel
theorem dX9_init_89 : decode cX9_init 89 = .ok (.putfield 43, 3) := by decide +kernel
theorem dX9_init_92 : decode cX9_init 92 = .ok (.aload_n 0, 1) := by decide +kernel
theorem dX9_init_93 : decode cX9_init 93 = .ok (.sipush 864, 3) := by decide +kernel
theorem dX9_init_96 : decode cX9_init 96 = .ok (.newarray .int, 2) := by decide +kernel
theorem dX9_init_98 : decode cX9_init 98 = .ok (.putfield 46, 3) := by decide +kernel
theorem dX9_init_101 : decode cX9_init 101 = .ok (.aload_n 0, 1) := by decide +kernel
theorem dX9_init_102 : decode cX9_init 102 = .ok (.bipush 72, 2) := by decide +kernel
theorem dX9_init_104 : decode cX9_init 104 = .ok (.newarray .int, 2) := by decide +kernel
theorem dX9_init_106 : decode cX9_init 106 = .ok (.putfield 49, 3) := by decide +kernel
theorem dX9_init_109 : decode cX9_init 109 = .ok (.aload_n 0, 1) := by decide +kernel
theorem dX9_init_110 : decode cX9_init 110 = .ok (.sipush 2000, 3) := by decide +kernel
theorem dX9_init_113 : decode cX9_init 113 = .ok (.newarray .byte, 2) := by decide +kernel
theorem dX9_init_115 : decode cX9_init 115 = .ok (.putfield 52, 3) := by decide +kernel
theorem dX9_init_118 : decode cX9_init 118 = .ok (.aload_n 0, 1) := by decide +kernel
theorem dX9_init_119 : decode cX9_init 119 = .ok (.sipush 400, 3) := by decide +kernel
theorem dX9_init_122 : decode cX9_init 122 = .ok (.newarray .byte, 2) := by decide +kernel
theorem dX9_init_124 : decode cX9_init 124 = .ok (.putfield 55, 3) := by decide +kernel
theorem dX9_init_127 : decode cX9_init 127 = .ok (.aload_n 0, 1) := by decide +kernel
theorem dX9_init_128 : decode cX9_init 128 = .ok (.bipush 12, 2) := by decide +kernel
theorem dX9_init_130 : decode cX9_init 130 = .ok (.newarray .long, 2) := by decide +kernel
theorem dX9_init_132 : decode cX9_init 132 = .ok (.putfield 58, 3) := by decide +kernel
theorem dX9_init_135 : decode cX9_init 135 = .ok (.aload_n 0, 1) := by decide +kernel
theorem dX9_init_136 : decode cX9_init 136 = .ok (.bipush 12, 2) := by decide +kernel
theorem dX9_init_138 : decode cX9_init 138 = .ok (.newarray .long, 2) := by decide +kernel
theorem dX9_init_140 : decode cX9_init 140 = .ok (.putfield 61, 3) := by decide +kernel
theorem dX9_init_143 : decode cX9_init 143 = .ok (.aload_n 0, 1) := by decide +kernel
theorem dX9_init_144 : decode cX9_init 144 = .ok (.bipush 72, 2) := by decide +kernel
theorem dX9_init_146 : decode cX9_init 146 = .ok (.newarray .int, 2) := by decide +kernel
theorem dX9_init_148 : decode cX9_init 148 = .ok (.putfield 64, 3) := by decide +kernel
theorem dX9_init_151 : decode cX9_init 151 = .ok (.aload_n 0, 1) := by decide +kernel
theorem dX9_init_152 : decode cX9_init 152 = .ok (.sipush 4160, 3) := by decide +kernel
theorem dX9_init_155 : decode cX9_init 155 = .ok (.newarray .long, 2) := by decide +kernel
theorem dX9_init_157 : decode cX9_init 157 = .ok (.putfield 67, 3) := by decide +kernel
theorem dX9_init_160 : decode cX9_init 160 = .ok (.return_, 1) := by decide +kernel
abbrev mm_X9_init : ab_M := (RX9, 1, none, true, 1, 20, none)
noncomputable def f_X9_init (a0 : Int) (h : ab_H) : Option ab_H :=
  ab_if (decide (0 < a0)) <|
  (ab_mkA h 12 (416 : Int)).bind fun h1 =>
  (ab_putR h1 10 1 a0 (ab_nx h)).bind fun h2 =>
  (ab_mkA h2 12 (416 : Int)).bind fun h3 =>
  (ab_putR h3 10 2 a0 (ab_nx h2)).bind fun h4 =>
  (ab_mkA h4 13 (1200 : Int)).bind fun h5 =>
  (ab_putR h5 10 3 a0 (ab_nx h4)).bind fun h6 =>
  (ab_put h6 10 11 a0 (-1 : Int)).bind fun h7 =>
  (ab_mkA h7 12 (72 : Int)).bind fun h8 =>
  (ab_putR h8 10 13 a0 (ab_nx h7)).bind fun h9 =>
  (ab_mkA h9 11 (72 : Int)).bind fun h10 =>
  (ab_putR h10 10 15 a0 (ab_nx h9)).bind fun h11 =>
  (ab_mkA h11 11 (72 : Int)).bind fun h12 =>
  (ab_putR h12 10 19 a0 (ab_nx h11)).bind fun h13 =>
  (ab_mkA h13 11 (72 : Int)).bind fun h14 =>
  (ab_putR h14 10 20 a0 (ab_nx h13)).bind fun h15 =>
  (ab_mkA h15 11 (72 : Int)).bind fun h16 =>
  (ab_putR h16 10 21 a0 (ab_nx h15)).bind fun h17 =>
  (ab_mkA h17 11 (72 : Int)).bind fun h18 =>
  (ab_putR h18 10 22 a0 (ab_nx h17)).bind fun h19 =>
  (ab_mkA h19 11 (72 : Int)).bind fun h20 =>
  (ab_putR h20 10 23 a0 (ab_nx h19)).bind fun h21 =>
  (ab_mkA h21 11 (864 : Int)).bind fun h22 =>
  (ab_putR h22 10 24 a0 (ab_nx h21)).bind fun h23 =>
  (ab_mkA h23 11 (72 : Int)).bind fun h24 =>
  (ab_putR h24 10 26 a0 (ab_nx h23)).bind fun h25 =>
  (ab_mkA h25 13 (2000 : Int)).bind fun h26 =>
  (ab_putR h26 10 27 a0 (ab_nx h25)).bind fun h27 =>
  (ab_mkA h27 13 (400 : Int)).bind fun h28 =>
  (ab_putR h28 10 29 a0 (ab_nx h27)).bind fun h29 =>
  (ab_mkA h29 12 (12 : Int)).bind fun h30 =>
  (ab_putR h30 10 31 a0 (ab_nx h29)).bind fun h31 =>
  (ab_mkA h31 12 (12 : Int)).bind fun h32 =>
  (ab_putR h32 10 32 a0 (ab_nx h31)).bind fun h33 =>
  (ab_mkA h33 11 (72 : Int)).bind fun h34 =>
  (ab_putR h34 10 33 a0 (ab_nx h33)).bind fun h35 =>
  (ab_mkA h35 12 (4160 : Int)).bind fun h36 =>
  (ab_putR h36 10 35 a0 (ab_nx h35)).bind fun h37 =>
  some h37
set_option maxRecDepth 20000 in
theorem ct_X9_init {a0 : Int} {h : ab_H} {q : ab_H} (hk : f_X9_init a0 h = some q) : ab_CT yX9_init cX9_init 1 none 1 20 [ab_R a0] h none q := by
  refine ab_CT.mk_ 0 (own := RX9) (ini := true) (lv := [some (ab_R a0)]) rfl (by decide +kernel) (fun _ => rfl) rfl rfl ?_
  unfold f_X9_init at hk
  show ab_E mm_X9_init cX9_init 0 _ [] h _ _
  refine ab_aload_n (pc := 0) (i := 0) dX9_init_0 rfl rfl ?_
  obtain ⟨hg, hk⟩ := ab_if_some hk
  refine ab_obj0_ (pc := 1) dX9_init_1 ob_RX9_1 hg (Nat.le_of_ble_eq_true rfl) (Nat.le_of_ble_eq_true rfl) (Nat.le_of_ble_eq_true rfl) ?_
  refine ab_aload_n (pc := 4) (i := 0) dX9_init_4 rfl rfl ?_
  refine ab_sipush (pc := 5) dX9_init_5 ab_p16_416 ab_k_416 ?_
  obtain ⟨h1, hh1, hk⟩ := ab_bnd hk
  refine ab_newA (pc := 8) dX9_init_8 (by decide) ab_ac_long hh1 ?_
  obtain ⟨h2, hh2, hk⟩ := ab_bnd hk
  refine ab_putR_ (pc := 10) dX9_init_10 fl_RX9_9 (fun _ => ⟨rfl, rfl⟩) hh2 ?_
  refine ab_aload_n (pc := 13) (i := 0) dX9_init_13 rfl rfl ?_
  refine ab_sipush (pc := 14) dX9_init_14 ab_p16_416 ab_k_416 ?_
  obtain ⟨h3, hh3, hk⟩ := ab_bnd hk
  refine ab_newA (pc := 17) dX9_init_17 (by decide) ab_ac_long hh3 ?_
  obtain ⟨h4, hh4, hk⟩ := ab_bnd hk
  refine ab_putR_ (pc := 19) dX9_init_19 fl_RX9_13 (fun _ => ⟨rfl, rfl⟩) hh4 ?_
  refine ab_aload_n (pc := 22) (i := 0) dX9_init_22 rfl rfl ?_
  refine ab_sipush (pc := 23) dX9_init_23 ab_p16_1200 ab_k_1200 ?_
  obtain ⟨h5, hh5, hk⟩ := ab_bnd hk
  refine ab_newA (pc := 26) dX9_init_26 (by decide) ab_ac_byte hh5 ?_
  obtain ⟨h6, hh6, hk⟩ := ab_bnd hk
  refine ab_putR_ (pc := 28) dX9_init_28 fl_RX9_16 (fun _ => ⟨rfl, rfl⟩) hh6 ?_
  refine ab_aload_n (pc := 31) (i := 0) dX9_init_31 rfl rfl ?_
  refine ab_iconst (pc := 32) dX9_init_32 ab_k_m1 ?_
  obtain ⟨h7, hh7, hk⟩ := ab_bnd hk
  refine ab_putI_ (pc := 33) dX9_init_33 fl_RX9_20 (fun q => by cases q) hh7 ?_
  refine ab_aload_n (pc := 36) (i := 0) dX9_init_36 rfl rfl ?_
  refine ab_bipush (pc := 37) dX9_init_37 ab_p8_72 ab_k_72 ?_
  obtain ⟨h8, hh8, hk⟩ := ab_bnd hk
  refine ab_newA (pc := 39) dX9_init_39 (by decide) ab_ac_long hh8 ?_
  obtain ⟨h9, hh9, hk⟩ := ab_bnd hk
  refine ab_putR_ (pc := 41) dX9_init_41 fl_RX9_24 (fun _ => ⟨rfl, rfl⟩) hh9 ?_
  refine ab_aload_n (pc := 44) (i := 0) dX9_init_44 rfl rfl ?_
  refine ab_bipush (pc := 45) dX9_init_45 ab_p8_72 ab_k_72 ?_
  obtain ⟨h10, hh10, hk⟩ := ab_bnd hk
  refine ab_newA (pc := 47) dX9_init_47 (by decide) ab_ac_int hh10 ?_
  obtain ⟨h11, hh11, hk⟩ := ab_bnd hk
  refine ab_putR_ (pc := 49) dX9_init_49 fl_RX9_27 (fun _ => ⟨rfl, rfl⟩) hh11 ?_
  refine ab_aload_n (pc := 52) (i := 0) dX9_init_52 rfl rfl ?_
  refine ab_bipush (pc := 53) dX9_init_53 ab_p8_72 ab_k_72 ?_
  obtain ⟨h12, hh12, hk⟩ := ab_bnd hk
  refine ab_newA (pc := 55) dX9_init_55 (by decide) ab_ac_int hh12 ?_
  obtain ⟨h13, hh13, hk⟩ := ab_bnd hk
  refine ab_putR_ (pc := 57) dX9_init_57 fl_RX9_31 (fun _ => ⟨rfl, rfl⟩) hh13 ?_
  refine ab_aload_n (pc := 60) (i := 0) dX9_init_60 rfl rfl ?_
  refine ab_bipush (pc := 61) dX9_init_61 ab_p8_72 ab_k_72 ?_
  obtain ⟨h14, hh14, hk⟩ := ab_bnd hk
  refine ab_newA (pc := 63) dX9_init_63 (by decide) ab_ac_int hh14 ?_
  obtain ⟨h15, hh15, hk⟩ := ab_bnd hk
  refine ab_putR_ (pc := 65) dX9_init_65 fl_RX9_34 (fun _ => ⟨rfl, rfl⟩) hh15 ?_
  refine ab_aload_n (pc := 68) (i := 0) dX9_init_68 rfl rfl ?_
  refine ab_bipush (pc := 69) dX9_init_69 ab_p8_72 ab_k_72 ?_
  obtain ⟨h16, hh16, hk⟩ := ab_bnd hk
  refine ab_newA (pc := 71) dX9_init_71 (by decide) ab_ac_int hh16 ?_
  obtain ⟨h17, hh17, hk⟩ := ab_bnd hk
  refine ab_putR_ (pc := 73) dX9_init_73 fl_RX9_37 (fun _ => ⟨rfl, rfl⟩) hh17 ?_
  refine ab_aload_n (pc := 76) (i := 0) dX9_init_76 rfl rfl ?_
  refine ab_bipush (pc := 77) dX9_init_77 ab_p8_72 ab_k_72 ?_
  obtain ⟨h18, hh18, hk⟩ := ab_bnd hk
  refine ab_newA (pc := 79) dX9_init_79 (by decide) ab_ac_int hh18 ?_
  obtain ⟨h19, hh19, hk⟩ := ab_bnd hk
  refine ab_putR_ (pc := 81) dX9_init_81 fl_RX9_40 (fun _ => ⟨rfl, rfl⟩) hh19 ?_
  refine ab_aload_n (pc := 84) (i := 0) dX9_init_84 rfl rfl ?_
  refine ab_bipush (pc := 85) dX9_init_85 ab_p8_72 ab_k_72 ?_
  obtain ⟨h20, hh20, hk⟩ := ab_bnd hk
  refine ab_newA (pc := 87) dX9_init_87 (by decide) ab_ac_int hh20 ?_
  obtain ⟨h21, hh21, hk⟩ := ab_bnd hk
  refine ab_putR_ (pc := 89) dX9_init_89 fl_RX9_43 (fun _ => ⟨rfl, rfl⟩) hh21 ?_
  refine ab_aload_n (pc := 92) (i := 0) dX9_init_92 rfl rfl ?_
  refine ab_sipush (pc := 93) dX9_init_93 ab_p16_864 ab_k_864 ?_
  obtain ⟨h22, hh22, hk⟩ := ab_bnd hk
  refine ab_newA (pc := 96) dX9_init_96 (by decide) ab_ac_int hh22 ?_
  obtain ⟨h23, hh23, hk⟩ := ab_bnd hk
  refine ab_putR_ (pc := 98) dX9_init_98 fl_RX9_46 (fun _ => ⟨rfl, rfl⟩) hh23 ?_
  refine ab_aload_n (pc := 101) (i := 0) dX9_init_101 rfl rfl ?_
  refine ab_bipush (pc := 102) dX9_init_102 ab_p8_72 ab_k_72 ?_
  obtain ⟨h24, hh24, hk⟩ := ab_bnd hk
  refine ab_newA (pc := 104) dX9_init_104 (by decide) ab_ac_int hh24 ?_
  obtain ⟨h25, hh25, hk⟩ := ab_bnd hk
  refine ab_putR_ (pc := 106) dX9_init_106 fl_RX9_49 (fun _ => ⟨rfl, rfl⟩) hh25 ?_
  refine ab_aload_n (pc := 109) (i := 0) dX9_init_109 rfl rfl ?_
  refine ab_sipush (pc := 110) dX9_init_110 ab_p16_2000 ab_k_2000 ?_
  obtain ⟨h26, hh26, hk⟩ := ab_bnd hk
  refine ab_newA (pc := 113) dX9_init_113 (by decide) ab_ac_byte hh26 ?_
  obtain ⟨h27, hh27, hk⟩ := ab_bnd hk
  refine ab_putR_ (pc := 115) dX9_init_115 fl_RX9_52 (fun _ => ⟨rfl, rfl⟩) hh27 ?_
  refine ab_aload_n (pc := 118) (i := 0) dX9_init_118 rfl rfl ?_
  refine ab_sipush (pc := 119) dX9_init_119 ab_p16_400 ab_k_400 ?_
  obtain ⟨h28, hh28, hk⟩ := ab_bnd hk
  refine ab_newA (pc := 122) dX9_init_122 (by decide) ab_ac_byte hh28 ?_
  obtain ⟨h29, hh29, hk⟩ := ab_bnd hk
  refine ab_putR_ (pc := 124) dX9_init_124 fl_RX9_55 (fun _ => ⟨rfl, rfl⟩) hh29 ?_
  refine ab_aload_n (pc := 127) (i := 0) dX9_init_127 rfl rfl ?_
  refine ab_bipush (pc := 128) dX9_init_128 ab_p8_12 ab_k_12 ?_
  obtain ⟨h30, hh30, hk⟩ := ab_bnd hk
  refine ab_newA (pc := 130) dX9_init_130 (by decide) ab_ac_long hh30 ?_
  obtain ⟨h31, hh31, hk⟩ := ab_bnd hk
  refine ab_putR_ (pc := 132) dX9_init_132 fl_RX9_58 (fun _ => ⟨rfl, rfl⟩) hh31 ?_
  refine ab_aload_n (pc := 135) (i := 0) dX9_init_135 rfl rfl ?_
  refine ab_bipush (pc := 136) dX9_init_136 ab_p8_12 ab_k_12 ?_
  obtain ⟨h32, hh32, hk⟩ := ab_bnd hk
  refine ab_newA (pc := 138) dX9_init_138 (by decide) ab_ac_long hh32 ?_
  obtain ⟨h33, hh33, hk⟩ := ab_bnd hk
  refine ab_putR_ (pc := 140) dX9_init_140 fl_RX9_61 (fun _ => ⟨rfl, rfl⟩) hh33 ?_
  refine ab_aload_n (pc := 143) (i := 0) dX9_init_143 rfl rfl ?_
  refine ab_bipush (pc := 144) dX9_init_144 ab_p8_72 ab_k_72 ?_
  obtain ⟨h34, hh34, hk⟩ := ab_bnd hk
  refine ab_newA (pc := 146) dX9_init_146 (by decide) ab_ac_int hh34 ?_
  obtain ⟨h35, hh35, hk⟩ := ab_bnd hk
  refine ab_putR_ (pc := 148) dX9_init_148 fl_RX9_64 (fun _ => ⟨rfl, rfl⟩) hh35 ?_
  refine ab_aload_n (pc := 151) (i := 0) dX9_init_151 rfl rfl ?_
  refine ab_sipush (pc := 152) dX9_init_152 ab_p16_4160 ab_k_4160 ?_
  obtain ⟨h36, hh36, hk⟩ := ab_bnd hk
  refine ab_newA (pc := 155) dX9_init_155 (by decide) ab_ac_long hh36 ?_
  obtain ⟨h37, hh37, hk⟩ := ab_bnd hk
  refine ab_putR_ (pc := 157) dX9_init_157 fl_RX9_67 (fun _ => ⟨rfl, rfl⟩) hh37 ?_
  obtain rfl := Option.some.inj hk
  exact ab_retv (pc := 160) dX9_init_160 rfl
theorem dX9_in_0 : decode cX9_in 0 = .ok (.lload_n 0, 1) := by decide +kernel
theorem dX9_in_1 : decode cX9_in 1 = .ok (.lload_n 2, 1) := by decide +kernel
theorem dX9_in_2 : decode cX9_in 2 = .ok (.lcmp, 1) := by decide +kernel
theorem dX9_in_3 : decode cX9_in 3 = .ok (.ifCond .lt 14, 3) := by decide +kernel
theorem dX9_in_6 : decode cX9_in 6 = .ok (.lload_n 0, 1) := by decide +kernel
theorem dX9_in_7 : decode cX9_in 7 = .ok (.lload 4, 2) := by decide +kernel
theorem dX9_in_9 : decode cX9_in 9 = .ok (.lcmp, 1) := by decide +kernel
theorem dX9_in_10 : decode cX9_in 10 = .ok (.ifCond .gt 7, 3) := by decide +kernel
theorem dX9_in_13 : decode cX9_in 13 = .ok (.iconst 1, 1) := by decide +kernel
theorem dX9_in_14 : decode cX9_in 14 = .ok (.goto 4, 3) := by decide +kernel
theorem dX9_in_17 : decode cX9_in 17 = .ok (.iconst 0, 1) := by decide +kernel
theorem dX9_in_18 : decode cX9_in 18 = .ok (.ireturn, 1) := by decide +kernel
abbrev mm_X9_in : ab_M := (RX9, 6, (some .boolean), false, 0, 0, none)
noncomputable def f_X9_in_J17 (h : ab_H) : Option (Int × ab_H) :=
  some ((0 : Int), h)
set_option maxRecDepth 20000 in
theorem e_X9_in_J17 : ∀ (h : ab_H) (q : Int × ab_H), f_X9_in_J17  h = some q → ab_E mm_X9_in cX9_in 17 [none, none, none, none, none, none] [] h (some (ab_I q.1)) q.2 := by
  intro  h q hk
  unfold f_X9_in_J17 at hk
  refine ab_iconst (pc := 17) dX9_in_17 ab_k_0 ?_
  obtain rfl := Option.some.inj hk
  exact ab_retz (pc := 18) dX9_in_18 rfl rfl
noncomputable def f_X9_in (a0 : Int) (a2 : Int) (a4 : Int) (h : ab_H) : Option (Int × ab_H) :=
  if ab_cmp a0 a2 < (0 : Int) then
    f_X9_in_J17 h
  else
  if (0 : Int) < ab_cmp a0 a4 then
    f_X9_in_J17 h
  else
  some ((1 : Int), h)
set_option maxRecDepth 20000 in
theorem ct_X9_in {a0 a2 a4 : Int} {h : ab_H} {q : Int × ab_H} (hk : f_X9_in a0 a2 a4 h = some q) : ab_CT yX9_in cX9_in 6 (some .boolean) 0 0 [ab_J a0, ab_J a2, ab_J a4] h (some (ab_I q.1)) q.2 := by
  refine ab_CT.mk_ 0 (own := RX9) (ini := false) (lv := [some (ab_J a0), none, some (ab_J a2), none, some (ab_J a4), none]) rfl (by decide +kernel) (fun q => by cases q) rfl rfl ?_
  unfold f_X9_in at hk
  show ab_E mm_X9_in cX9_in 0 _ [] h _ _
  refine ab_lload_n (pc := 0) (i := 0) dX9_in_0 rfl rfl ?_
  refine ab_lload_n (pc := 1) (i := 2) dX9_in_1 rfl rfl ?_
  refine ab_lcmp_ (pc := 2) dX9_in_2 ?_
  refine ab_if_lt (pc := 3) (tgt := 17) dX9_in_3 rfl (fun hc => ?_) (fun hc => ?_)
  · have hk := ab_ifp hk hc
    refine ab_sub_ (lv2 := [none, none, none, none, none, none]) (ab_sn (ab_sn (ab_sn (ab_sn (ab_sn (ab_sn ab_s0)))))) ?_
    exact e_X9_in_J17  _ _ hk
  · have hk := ab_ifn hk hc
    refine ab_lload_n (pc := 6) (i := 0) dX9_in_6 rfl rfl ?_
    refine ab_lload (pc := 7) (i := 4) dX9_in_7 rfl ?_
    refine ab_lcmp_ (pc := 9) dX9_in_9 ?_
    refine ab_if_gt (pc := 10) (tgt := 17) dX9_in_10 rfl (fun hc => ?_) (fun hc => ?_)
    · have hk := ab_ifp hk hc
      refine ab_sub_ (lv2 := [none, none, none, none, none, none]) (ab_sn (ab_sn (ab_sn (ab_sn (ab_sn (ab_sn ab_s0)))))) ?_
      exact e_X9_in_J17  _ _ hk
    · have hk := ab_ifn hk hc
      refine ab_iconst (pc := 13) dX9_in_13 ab_k_1 ?_
      refine ab_goto (pc := 14) (tgt := 18) dX9_in_14 rfl ?_
      obtain rfl := Option.some.inj hk
      exact ab_retz (pc := 18) dX9_in_18 rfl rfl
theorem dX9_strings_0 : decode cX9_strings 0 = .ok (.aload_n 0, 1) := by decide +kernel
theorem dX9_strings_1 : decode cX9_strings 1 = .ok (.getfield 9, 3) := by decide +kernel
theorem dX9_strings_4 : decode cX9_strings 4 = .ok (.iconst 0, 1) := by decide +kernel
theorem dX9_strings_5 : decode cX9_strings 5 = .ok (.laload, 1) := by decide +kernel
theorem dX9_strings_6 : decode cX9_strings 6 = .ok (.l2i, 1) := by decide +kernel
theorem dX9_strings_7 : decode cX9_strings 7 = .ok (.ireturn, 1) := by decide +kernel
abbrev mm_X9_strings : ab_M := (RX9, 1, (some .int), false, 0, 0, none)
noncomputable def f_X9_strings (a0 : Int) (h : ab_H) : Option (Int × ab_H) :=
  (ab_get h 10 1 a0).bind fun t1 =>
  (ab_ald h 12 t1 (0 : Int)).bind fun t2 =>
  some (ab_w32 t2, h)
set_option maxRecDepth 20000 in
theorem ct_X9_strings {a0 : Int} {h : ab_H} {q : Int × ab_H} (hk : f_X9_strings a0 h = some q) : ab_CT yX9_strings cX9_strings 1 (some .int) 0 0 [ab_R a0] h (some (ab_I q.1)) q.2 := by
  refine ab_CT.mk_ 0 (own := RX9) (ini := false) (lv := [some (ab_R a0)]) rfl (by decide +kernel) (fun q => by cases q) rfl rfl ?_
  unfold f_X9_strings at hk
  show ab_E mm_X9_strings cX9_strings 0 _ [] h _ _
  refine ab_aload_n (pc := 0) (i := 0) dX9_strings_0 rfl rfl ?_
  obtain ⟨t1, ht1, hk⟩ := ab_bnd hk
  refine ab_getR (pc := 1) dX9_strings_1 fl_RX9_9 ht1 ?_
  refine ab_iconst (pc := 4) dX9_strings_4 ab_k_0 ?_
  obtain ⟨t2, ht2, hk⟩ := ab_bnd hk
  refine ab_lald (pc := 5) dX9_strings_5 ht2 ?_
  refine ab_l2i_ (pc := 6) dX9_strings_6 ?_
  obtain rfl := Option.some.inj hk
  exact ab_reti (pc := 7) dX9_strings_7 (Or.inl rfl)
theorem dX9_sees_0 : decode cX9_sees 0 = .ok (.aload_n 0, 1) := by decide +kernel
theorem dX9_sees_1 : decode cX9_sees 1 = .ok (.getfield 9, 3) := by decide +kernel
theorem dX9_sees_4 : decode cX9_sees 4 = .ok (.iconst 1, 1) := by decide +kernel
theorem dX9_sees_5 : decode cX9_sees 5 = .ok (.laload, 1) := by decide +kernel
theorem dX9_sees_6 : decode cX9_sees 6 = .ok (.l2i, 1) := by decide +kernel
theorem dX9_sees_7 : decode cX9_sees 7 = .ok (.ireturn, 1) := by decide +kernel
abbrev mm_X9_sees : ab_M := (RX9, 1, (some .int), false, 0, 0, none)
noncomputable def f_X9_sees (a0 : Int) (h : ab_H) : Option (Int × ab_H) :=
  (ab_get h 10 1 a0).bind fun t1 =>
  (ab_ald h 12 t1 (1 : Int)).bind fun t2 =>
  some (ab_w32 t2, h)
set_option maxRecDepth 20000 in
theorem ct_X9_sees {a0 : Int} {h : ab_H} {q : Int × ab_H} (hk : f_X9_sees a0 h = some q) : ab_CT yX9_sees cX9_sees 1 (some .int) 0 0 [ab_R a0] h (some (ab_I q.1)) q.2 := by
  refine ab_CT.mk_ 0 (own := RX9) (ini := false) (lv := [some (ab_R a0)]) rfl (by decide +kernel) (fun q => by cases q) rfl rfl ?_
  unfold f_X9_sees at hk
  show ab_E mm_X9_sees cX9_sees 0 _ [] h _ _
  refine ab_aload_n (pc := 0) (i := 0) dX9_sees_0 rfl rfl ?_
  obtain ⟨t1, ht1, hk⟩ := ab_bnd hk
  refine ab_getR (pc := 1) dX9_sees_1 fl_RX9_9 ht1 ?_
  refine ab_iconst (pc := 4) dX9_sees_4 ab_k_1 ?_
  obtain ⟨t2, ht2, hk⟩ := ab_bnd hk
  refine ab_lald (pc := 5) dX9_sees_5 ht2 ?_
  refine ab_l2i_ (pc := 6) dX9_sees_6 ?_
  obtain rfl := Option.some.inj hk
  exact ab_reti (pc := 7) dX9_sees_7 (Or.inl rfl)
theorem dX9_terms_0 : decode cX9_terms 0 = .ok (.aload_n 0, 1) := by decide +kernel
theorem dX9_terms_1 : decode cX9_terms 1 = .ok (.getfield 9, 3) := by decide +kernel
theorem dX9_terms_4 : decode cX9_terms 4 = .ok (.bipush 32, 2) := by decide +kernel
theorem dX9_terms_6 : decode cX9_terms 6 = .ok (.bipush 32, 2) := by decide +kernel
theorem dX9_terms_8 : decode cX9_terms 8 = .ok (.iload_n 1, 1) := by decide +kernel
theorem dX9_terms_9 : decode cX9_terms 9 = .ok (.imul, 1) := by decide +kernel
theorem dX9_terms_10 : decode cX9_terms 10 = .ok (.iadd, 1) := by decide +kernel
theorem dX9_terms_11 : decode cX9_terms 11 = .ok (.iconst 1, 1) := by decide +kernel
theorem dX9_terms_12 : decode cX9_terms 12 = .ok (.iadd, 1) := by decide +kernel
theorem dX9_terms_13 : decode cX9_terms 13 = .ok (.laload, 1) := by decide +kernel
theorem dX9_terms_14 : decode cX9_terms 14 = .ok (.l2i, 1) := by decide +kernel
theorem dX9_terms_15 : decode cX9_terms 15 = .ok (.ireturn, 1) := by decide +kernel
abbrev mm_X9_terms : ab_M := (RX9, 2, (some .int), false, 0, 0, none)
noncomputable def f_X9_terms (a0 : Int) (a1 : Int) (h : ab_H) : Option (Int × ab_H) :=
  (ab_get h 10 1 a0).bind fun t1 =>
  (ab_ald h 12 t1 (ab_w32 ((ab_w32 ((32 : Int) + (ab_w32 ((32 : Int) * a1)))) + (1 : Int)))).bind fun t2 =>
  some (ab_w32 t2, h)
set_option maxRecDepth 20000 in
theorem ct_X9_terms {a0 a1 : Int} {h : ab_H} {q : Int × ab_H} (hk : f_X9_terms a0 a1 h = some q) : ab_CT yX9_terms cX9_terms 2 (some .int) 0 0 [ab_R a0, ab_I a1] h (some (ab_I q.1)) q.2 := by
  refine ab_CT.mk_ 0 (own := RX9) (ini := false) (lv := [some (ab_R a0), some (ab_I a1)]) rfl (by decide +kernel) (fun q => by cases q) rfl rfl ?_
  unfold f_X9_terms at hk
  show ab_E mm_X9_terms cX9_terms 0 _ [] h _ _
  refine ab_aload_n (pc := 0) (i := 0) dX9_terms_0 rfl rfl ?_
  obtain ⟨t1, ht1, hk⟩ := ab_bnd hk
  refine ab_getR (pc := 1) dX9_terms_1 fl_RX9_9 ht1 ?_
  refine ab_bipush (pc := 4) dX9_terms_4 ab_p8_32 ab_k_32 ?_
  refine ab_bipush (pc := 6) dX9_terms_6 ab_p8_32 ab_k_32 ?_
  refine ab_iload_n (pc := 8) (i := 1) dX9_terms_8 rfl rfl ?_
  refine ab_imul (pc := 9) dX9_terms_9 ?_
  refine ab_iadd (pc := 10) dX9_terms_10 ?_
  refine ab_iconst (pc := 11) dX9_terms_11 ab_k_1 ?_
  refine ab_iadd (pc := 12) dX9_terms_12 ?_
  obtain ⟨t2, ht2, hk⟩ := ab_bnd hk
  refine ab_lald (pc := 13) dX9_terms_13 ht2 ?_
  refine ab_l2i_ (pc := 14) dX9_terms_14 ?_
  obtain rfl := Option.some.inj hk
  exact ab_reti (pc := 15) dX9_terms_15 (Or.inl rfl)
theorem dX9_addressOf_0 : decode cX9_addressOf 0 = .ok (.aload_n 0, 1) := by decide +kernel
theorem dX9_addressOf_1 : decode cX9_addressOf 1 = .ok (.getfield 9, 3) := by decide +kernel
theorem dX9_addressOf_4 : decode cX9_addressOf 4 = .ok (.bipush 32, 2) := by decide +kernel
theorem dX9_addressOf_6 : decode cX9_addressOf 6 = .ok (.bipush 32, 2) := by decide +kernel
theorem dX9_addressOf_8 : decode cX9_addressOf 8 = .ok (.iload_n 1, 1) := by decide +kernel
theorem dX9_addressOf_9 : decode cX9_addressOf 9 = .ok (.imul, 1) := by decide +kernel
theorem dX9_addressOf_10 : decode cX9_addressOf 10 = .ok (.iadd, 1) := by decide +kernel
theorem dX9_addressOf_11 : decode cX9_addressOf 11 = .ok (.laload, 1) := by decide +kernel
theorem dX9_addressOf_12 : decode cX9_addressOf 12 = .ok (.l2i, 1) := by decide +kernel
theorem dX9_addressOf_13 : decode cX9_addressOf 13 = .ok (.ireturn, 1) := by decide +kernel
abbrev mm_X9_addressOf : ab_M := (RX9, 2, (some .int), false, 0, 0, none)
noncomputable def f_X9_addressOf (a0 : Int) (a1 : Int) (h : ab_H) : Option (Int × ab_H) :=
  (ab_get h 10 1 a0).bind fun t1 =>
  (ab_ald h 12 t1 (ab_w32 ((32 : Int) + (ab_w32 ((32 : Int) * a1))))).bind fun t2 =>
  some (ab_w32 t2, h)
set_option maxRecDepth 20000 in
theorem ct_X9_addressOf {a0 a1 : Int} {h : ab_H} {q : Int × ab_H} (hk : f_X9_addressOf a0 a1 h = some q) : ab_CT yX9_addressOf cX9_addressOf 2 (some .int) 0 0 [ab_R a0, ab_I a1] h (some (ab_I q.1)) q.2 := by
  refine ab_CT.mk_ 0 (own := RX9) (ini := false) (lv := [some (ab_R a0), some (ab_I a1)]) rfl (by decide +kernel) (fun q => by cases q) rfl rfl ?_
  unfold f_X9_addressOf at hk
  show ab_E mm_X9_addressOf cX9_addressOf 0 _ [] h _ _
  refine ab_aload_n (pc := 0) (i := 0) dX9_addressOf_0 rfl rfl ?_
  obtain ⟨t1, ht1, hk⟩ := ab_bnd hk
  refine ab_getR (pc := 1) dX9_addressOf_1 fl_RX9_9 ht1 ?_
  refine ab_bipush (pc := 4) dX9_addressOf_4 ab_p8_32 ab_k_32 ?_
  refine ab_bipush (pc := 6) dX9_addressOf_6 ab_p8_32 ab_k_32 ?_
  refine ab_iload_n (pc := 8) (i := 1) dX9_addressOf_8 rfl rfl ?_
  refine ab_imul (pc := 9) dX9_addressOf_9 ?_
  refine ab_iadd (pc := 10) dX9_addressOf_10 ?_
  obtain ⟨t2, ht2, hk⟩ := ab_bnd hk
  refine ab_lald (pc := 11) dX9_addressOf_11 ht2 ?_
  refine ab_l2i_ (pc := 12) dX9_addressOf_12 ?_
  obtain rfl := Option.some.inj hk
  exact ab_reti (pc := 13) dX9_addressOf_13 (Or.inl rfl)
theorem dX9_termAt_0 : decode cX9_termAt 0 = .ok (.bipush 32, 2) := by decide +kernel
theorem dX9_termAt_2 : decode cX9_termAt 2 = .ok (.bipush 32, 2) := by decide +kernel
theorem dX9_termAt_4 : decode cX9_termAt 4 = .ok (.iload_n 0, 1) := by decide +kernel
theorem dX9_termAt_5 : decode cX9_termAt 5 = .ok (.imul, 1) := by decide +kernel
theorem dX9_termAt_6 : decode cX9_termAt 6 = .ok (.iadd, 1) := by decide +kernel
theorem dX9_termAt_7 : decode cX9_termAt 7 = .ok (.iconst 2, 1) := by decide +kernel
theorem dX9_termAt_8 : decode cX9_termAt 8 = .ok (.iadd, 1) := by decide +kernel
theorem dX9_termAt_9 : decode cX9_termAt 9 = .ok (.iconst 5, 1) := by decide +kernel
theorem dX9_termAt_10 : decode cX9_termAt 10 = .ok (.iload_n 1, 1) := by decide +kernel
theorem dX9_termAt_11 : decode cX9_termAt 11 = .ok (.imul, 1) := by decide +kernel
theorem dX9_termAt_12 : decode cX9_termAt 12 = .ok (.iadd, 1) := by decide +kernel
theorem dX9_termAt_13 : decode cX9_termAt 13 = .ok (.ireturn, 1) := by decide +kernel
abbrev mm_X9_termAt : ab_M := (RX9, 2, (some .int), false, 0, 0, none)
noncomputable def f_X9_termAt (a0 : Int) (a1 : Int) (h : ab_H) : Option (Int × ab_H) :=
  some (ab_w32 ((ab_w32 ((ab_w32 ((32 : Int) + (ab_w32 ((32 : Int) * a0)))) + (2 : Int))) + (ab_w32 ((5 : Int) * a1))), h)
set_option maxRecDepth 20000 in
theorem ct_X9_termAt {a0 a1 : Int} {h : ab_H} {q : Int × ab_H} (hk : f_X9_termAt a0 a1 h = some q) : ab_CT yX9_termAt cX9_termAt 2 (some .int) 0 0 [ab_I a0, ab_I a1] h (some (ab_I q.1)) q.2 := by
  refine ab_CT.mk_ 0 (own := RX9) (ini := false) (lv := [some (ab_I a0), some (ab_I a1)]) rfl (by decide +kernel) (fun q => by cases q) rfl rfl ?_
  unfold f_X9_termAt at hk
  show ab_E mm_X9_termAt cX9_termAt 0 _ [] h _ _
  refine ab_bipush (pc := 0) dX9_termAt_0 ab_p8_32 ab_k_32 ?_
  refine ab_bipush (pc := 2) dX9_termAt_2 ab_p8_32 ab_k_32 ?_
  refine ab_iload_n (pc := 4) (i := 0) dX9_termAt_4 rfl rfl ?_
  refine ab_imul (pc := 5) dX9_termAt_5 ?_
  refine ab_iadd (pc := 6) dX9_termAt_6 ?_
  refine ab_iconst (pc := 7) dX9_termAt_7 ab_k_2 ?_
  refine ab_iadd (pc := 8) dX9_termAt_8 ?_
  refine ab_iconst (pc := 9) dX9_termAt_9 ab_k_5 ?_
  refine ab_iload_n (pc := 10) (i := 1) dX9_termAt_10 rfl rfl ?_
  refine ab_imul (pc := 11) dX9_termAt_11 ?_
  refine ab_iadd (pc := 12) dX9_termAt_12 ?_
  obtain rfl := Option.some.inj hk
  exact ab_reti (pc := 13) dX9_termAt_13 (Or.inl rfl)
theorem dX9_roleOf_0 : decode cX9_roleOf 0 = .ok (.aload_n 0, 1) := by decide +kernel
theorem dX9_roleOf_1 : decode cX9_roleOf 1 = .ok (.getfield 9, 3) := by decide +kernel
theorem dX9_roleOf_4 : decode cX9_roleOf 4 = .ok (.iload_n 1, 1) := by decide +kernel
theorem dX9_roleOf_5 : decode cX9_roleOf 5 = .ok (.iload_n 2, 1) := by decide +kernel
theorem dX9_roleOf_6 : decode cX9_roleOf 6 = .ok (.invokestatic 73, 3) := by decide +kernel
theorem dX9_roleOf_9 : decode cX9_roleOf 9 = .ok (.iconst 0, 1) := by decide +kernel
theorem dX9_roleOf_10 : decode cX9_roleOf 10 = .ok (.iadd, 1) := by decide +kernel
theorem dX9_roleOf_11 : decode cX9_roleOf 11 = .ok (.laload, 1) := by decide +kernel
theorem dX9_roleOf_12 : decode cX9_roleOf 12 = .ok (.l2i, 1) := by decide +kernel
theorem dX9_roleOf_13 : decode cX9_roleOf 13 = .ok (.ireturn, 1) := by decide +kernel
abbrev mm_X9_roleOf : ab_M := (RX9, 3, (some .int), false, 1, 21, none)
noncomputable def f_X9_roleOf (a0 : Int) (a1 : Int) (a2 : Int) (h : ab_H) : Option (Int × ab_H) :=
  (ab_get h 10 1 a0).bind fun t1 =>
  (f_X9_termAt a1 a2 h).bind fun q2 =>
  (ab_ald q2.2 12 t1 (ab_w32 (q2.1 + (0 : Int)))).bind fun t3 =>
  some (ab_w32 t3, q2.2)
set_option maxRecDepth 20000 in
theorem ct_X9_roleOf {a0 a1 a2 : Int} {h : ab_H} {q : Int × ab_H} (hk : f_X9_roleOf a0 a1 a2 h = some q) : ab_CT yX9_roleOf cX9_roleOf 3 (some .int) 1 21 [ab_R a0, ab_I a1, ab_I a2] h (some (ab_I q.1)) q.2 := by
  refine ab_CT.mk_ 0 (own := RX9) (ini := false) (lv := [some (ab_R a0), some (ab_I a1), some (ab_I a2)]) rfl (by decide +kernel) (fun q => by cases q) rfl rfl ?_
  unfold f_X9_roleOf at hk
  show ab_E mm_X9_roleOf cX9_roleOf 0 _ [] h _ _
  refine ab_aload_n (pc := 0) (i := 0) dX9_roleOf_0 rfl rfl ?_
  obtain ⟨t1, ht1, hk⟩ := ab_bnd hk
  refine ab_getR (pc := 1) dX9_roleOf_1 fl_RX9_9 ht1 ?_
  refine ab_iload_n (pc := 4) (i := 1) dX9_roleOf_4 rfl rfl ?_
  refine ab_iload_n (pc := 5) (i := 2) dX9_roleOf_5 rfl rfl ?_
  obtain ⟨q2, hq2, hk⟩ := ab_bnd hk
  refine ab_callSI (st := [ab_R t1]) (as := [ab_I a1, ab_I a2]) (pc := 6) dX9_roleOf_6 ml_RX9_73 my_X9_termAt ms_X9_termAt (ct_X9_termAt hq2) ⟨Nat.le_of_ble_eq_true rfl, Nat.le_of_ble_eq_true rfl⟩ rfl (Nat.le_of_ble_eq_true rfl) rfl ?_
  refine ab_iconst (pc := 9) dX9_roleOf_9 ab_k_0 ?_
  refine ab_iadd (pc := 10) dX9_roleOf_10 ?_
  obtain ⟨t3, ht3, hk⟩ := ab_bnd hk
  refine ab_lald (pc := 11) dX9_roleOf_11 ht3 ?_
  refine ab_l2i_ (pc := 12) dX9_roleOf_12 ?_
  obtain rfl := Option.some.inj hk
  exact ab_reti (pc := 13) dX9_roleOf_13 (Or.inl rfl)
theorem dX9_doesLead_0 : decode cX9_doesLead 0 = .ok (.aload_n 0, 1) := by decide +kernel
theorem dX9_doesLead_1 : decode cX9_doesLead 1 = .ok (.getfield 9, 3) := by decide +kernel
theorem dX9_doesLead_4 : decode cX9_doesLead 4 = .ok (.iload_n 1, 1) := by decide +kernel
theorem dX9_doesLead_5 : decode cX9_doesLead 5 = .ok (.iload_n 2, 1) := by decide +kernel
theorem dX9_doesLead_6 : decode cX9_doesLead 6 = .ok (.invokestatic 73, 3) := by decide +kernel
theorem dX9_doesLead_9 : decode cX9_doesLead 9 = .ok (.iconst 1, 1) := by decide +kernel
theorem dX9_doesLead_10 : decode cX9_doesLead 10 = .ok (.iadd, 1) := by decide +kernel
theorem dX9_doesLead_11 : decode cX9_doesLead 11 = .ok (.laload, 1) := by decide +kernel
theorem dX9_doesLead_12 : decode cX9_doesLead 12 = .ok (.lconst 1, 1) := by decide +kernel
theorem dX9_doesLead_13 : decode cX9_doesLead 13 = .ok (.lcmp, 1) := by decide +kernel
theorem dX9_doesLead_14 : decode cX9_doesLead 14 = .ok (.ifCond .ne 7, 3) := by decide +kernel
theorem dX9_doesLead_17 : decode cX9_doesLead 17 = .ok (.iconst 1, 1) := by decide +kernel
theorem dX9_doesLead_18 : decode cX9_doesLead 18 = .ok (.goto 4, 3) := by decide +kernel
theorem dX9_doesLead_21 : decode cX9_doesLead 21 = .ok (.iconst 0, 1) := by decide +kernel
theorem dX9_doesLead_22 : decode cX9_doesLead 22 = .ok (.ireturn, 1) := by decide +kernel
abbrev mm_X9_doesLead : ab_M := (RX9, 3, (some .boolean), false, 1, 21, none)
noncomputable def f_X9_doesLead (a0 : Int) (a1 : Int) (a2 : Int) (h : ab_H) : Option (Int × ab_H) :=
  (ab_get h 10 1 a0).bind fun t1 =>
  (f_X9_termAt a1 a2 h).bind fun q2 =>
  (ab_ald q2.2 12 t1 (ab_w32 (q2.1 + (1 : Int)))).bind fun t3 =>
  if ab_cmp t3 (1 : Int) = (0 : Int) then
    some ((1 : Int), q2.2)
  else
  some ((0 : Int), q2.2)
set_option maxRecDepth 20000 in
theorem ct_X9_doesLead {a0 a1 a2 : Int} {h : ab_H} {q : Int × ab_H} (hk : f_X9_doesLead a0 a1 a2 h = some q) : ab_CT yX9_doesLead cX9_doesLead 3 (some .boolean) 1 21 [ab_R a0, ab_I a1, ab_I a2] h (some (ab_I q.1)) q.2 := by
  refine ab_CT.mk_ 0 (own := RX9) (ini := false) (lv := [some (ab_R a0), some (ab_I a1), some (ab_I a2)]) rfl (by decide +kernel) (fun q => by cases q) rfl rfl ?_
  unfold f_X9_doesLead at hk
  show ab_E mm_X9_doesLead cX9_doesLead 0 _ [] h _ _
  refine ab_aload_n (pc := 0) (i := 0) dX9_doesLead_0 rfl rfl ?_
  obtain ⟨t1, ht1, hk⟩ := ab_bnd hk
  refine ab_getR (pc := 1) dX9_doesLead_1 fl_RX9_9 ht1 ?_
  refine ab_iload_n (pc := 4) (i := 1) dX9_doesLead_4 rfl rfl ?_
  refine ab_iload_n (pc := 5) (i := 2) dX9_doesLead_5 rfl rfl ?_
  obtain ⟨q2, hq2, hk⟩ := ab_bnd hk
  refine ab_callSI (st := [ab_R t1]) (as := [ab_I a1, ab_I a2]) (pc := 6) dX9_doesLead_6 ml_RX9_73 my_X9_termAt ms_X9_termAt (ct_X9_termAt hq2) ⟨Nat.le_of_ble_eq_true rfl, Nat.le_of_ble_eq_true rfl⟩ rfl (Nat.le_of_ble_eq_true rfl) rfl ?_
  refine ab_iconst (pc := 9) dX9_doesLead_9 ab_k_1 ?_
  refine ab_iadd (pc := 10) dX9_doesLead_10 ?_
  obtain ⟨t3, ht3, hk⟩ := ab_bnd hk
  refine ab_lald (pc := 11) dX9_doesLead_11 ht3 ?_
  refine ab_lconst (x := (1 : Int)) (pc := 12) dX9_doesLead_12 rfl ab_kl_1 ?_
  refine ab_lcmp_ (pc := 13) dX9_doesLead_13 ?_
  refine ab_if_ne (pc := 14) (tgt := 21) dX9_doesLead_14 rfl (fun hc => ?_) (fun hc => ?_)
  · have hk := ab_ifn hk hc
    refine ab_iconst (pc := 21) dX9_doesLead_21 ab_k_0 ?_
    obtain rfl := Option.some.inj hk
    exact ab_retz (pc := 22) dX9_doesLead_22 rfl rfl
  · have hk := ab_ifp hk hc
    refine ab_iconst (pc := 17) dX9_doesLead_17 ab_k_1 ?_
    refine ab_goto (pc := 18) (tgt := 22) dX9_doesLead_18 rfl ?_
    obtain rfl := Option.some.inj hk
    exact ab_retz (pc := 22) dX9_doesLead_22 rfl rfl
theorem dX9_puts4_0 : decode cX9_puts4 0 = .ok (.bipush 24, 2) := by decide +kernel
theorem dX9_puts4_2 : decode cX9_puts4 2 = .ok (.istore_n 2, 1) := by decide +kernel
theorem dX9_puts4_3 : decode cX9_puts4 3 = .ok (.iload_n 2, 1) := by decide +kernel
theorem dX9_puts4_4 : decode cX9_puts4 4 = .ok (.ifCond .lt 32, 3) := by decide +kernel
theorem dX9_puts4_7 : decode cX9_puts4 7 = .ok (.aload_n 0, 1) := by decide +kernel
theorem dX9_puts4_8 : decode cX9_puts4 8 = .ok (.getfield 16, 3) := by decide +kernel
theorem dX9_puts4_11 : decode cX9_puts4 11 = .ok (.aload_n 0, 1) := by decide +kernel
theorem dX9_puts4_12 : decode cX9_puts4 12 = .ok (.getfield 77, 3) := by decide +kernel
theorem dX9_puts4_15 : decode cX9_puts4 15 = .ok (.iload_n 1, 1) := by decide +kernel
theorem dX9_puts4_16 : decode cX9_puts4 16 = .ok (.iload_n 2, 1) := by decide +kernel
theorem dX9_puts4_17 : decode cX9_puts4 17 = .ok (.ishr, 1) := by decide +kernel
theorem dX9_puts4_18 : decode cX9_puts4 18 = .ok (.i2b, 1) := by decide +kernel
theorem dX9_puts4_19 : decode cX9_puts4 19 = .ok (.bastore, 1) := by decide +kernel
theorem dX9_puts4_20 : decode cX9_puts4 20 = .ok (.aload_n 0, 1) := by decide +kernel
theorem dX9_puts4_21 : decode cX9_puts4 21 = .ok (.dup, 1) := by decide +kernel
theorem dX9_puts4_22 : decode cX9_puts4 22 = .ok (.getfield 77, 3) := by decide +kernel
theorem dX9_puts4_25 : decode cX9_puts4 25 = .ok (.iconst 1, 1) := by decide +kernel
theorem dX9_puts4_26 : decode cX9_puts4 26 = .ok (.iadd, 1) := by decide +kernel
theorem dX9_puts4_27 : decode cX9_puts4 27 = .ok (.putfield 77, 3) := by decide +kernel
theorem dX9_puts4_30 : decode cX9_puts4 30 = .ok (.iinc 2 (-8), 3) := by decide +kernel
theorem dX9_puts4_33 : decode cX9_puts4 33 = .ok (.goto (-30), 3) := by decide +kernel
theorem dX9_puts4_36 : decode cX9_puts4 36 = .ok (.return_, 1) := by decide +kernel
abbrev mm_X9_puts4 : ab_M := (RX9, 3, none, false, 0, 0, none)
noncomputable def f_X9_puts4_L3 : Nat → Int → Int → Int → ab_H → Option ab_H
  | 0, _, _, _, _ => none
  | n + 1, v0, v1, v2, h =>
    if v2 < (0 : Int) then
      some h
    else
    (ab_get h 10 3 v0).bind fun t1 =>
    (ab_get h 10 4 v0).bind fun t2 =>
    (ab_ast h 13 t1 t2 (ab_w8 (ab_w8 (ab_shr v1 v2)))).bind fun h1 =>
    (ab_get h1 10 4 v0).bind fun t3 =>
    (ab_put h1 10 4 v0 (ab_w32 (t3 + (1 : Int)))).bind fun h2 =>
    f_X9_puts4_L3 n v0 v1 (ab_w32 (v2 + (-8 : Int))) h2
set_option maxRecDepth 20000 in
theorem e_X9_puts4_L3 : ∀ (n : Nat) (v0 : Int) (v1 : Int) (v2 : Int) (h : ab_H) (q : ab_H), f_X9_puts4_L3 n v0 v1 v2 h = some q → ab_E mm_X9_puts4 cX9_puts4 3 [some (ab_R v0), some (ab_I v1), some (ab_I v2)] [] h none q := by
  intro n
  induction n with
  | zero => intro v0 v1 v2 h q hk; cases hk
  | succ n ih =>
    intro v0 v1 v2 h q hk
    unfold f_X9_puts4_L3 at hk
    refine ab_iload_n (pc := 3) (i := 2) dX9_puts4_3 rfl rfl ?_
    refine ab_if_lt (pc := 4) (tgt := 36) dX9_puts4_4 rfl (fun hc => ?_) (fun hc => ?_)
    · have hk := ab_ifp hk hc
      obtain rfl := Option.some.inj hk
      exact ab_retv (pc := 36) dX9_puts4_36 rfl
    · have hk := ab_ifn hk hc
      refine ab_aload_n (pc := 7) (i := 0) dX9_puts4_7 rfl rfl ?_
      obtain ⟨t1, ht1, hk⟩ := ab_bnd hk
      refine ab_getR (pc := 8) dX9_puts4_8 fl_RX9_16 ht1 ?_
      refine ab_aload_n (pc := 11) (i := 0) dX9_puts4_11 rfl rfl ?_
      obtain ⟨t2, ht2, hk⟩ := ab_bnd hk
      refine ab_getI (pc := 12) dX9_puts4_12 fl_RX9_77 ht2 ?_
      refine ab_iload_n (pc := 15) (i := 1) dX9_puts4_15 rfl rfl ?_
      refine ab_iload_n (pc := 16) (i := 2) dX9_puts4_16 rfl rfl ?_
      refine ab_ishr (pc := 17) dX9_puts4_17 ?_
      refine ab_i2b_ (pc := 18) dX9_puts4_18 ?_
      obtain ⟨h1, hh1, hk⟩ := ab_bnd hk
      refine ab_bast (pc := 19) dX9_puts4_19 hh1 ?_
      refine ab_aload_n (pc := 20) (i := 0) dX9_puts4_20 rfl rfl ?_
      refine ab_dup (pc := 21) dX9_puts4_21 rfl ?_
      obtain ⟨t3, ht3, hk⟩ := ab_bnd hk
      refine ab_getI (pc := 22) dX9_puts4_22 fl_RX9_77 ht3 ?_
      refine ab_iconst (pc := 25) dX9_puts4_25 ab_k_1 ?_
      refine ab_iadd (pc := 26) dX9_puts4_26 ?_
      obtain ⟨h2, hh2, hk⟩ := ab_bnd hk
      refine ab_putI_ (pc := 27) dX9_puts4_27 fl_RX9_77 (fun q => by cases q) hh2 ?_
      refine ab_iinc (pc := 30) (i := 2) (lv2 := [some (ab_R v0), some (ab_I v1), some (ab_I (ab_w32 (v2 + (-8 : Int))))]) dX9_puts4_30 rfl (Nat.le_of_ble_eq_true rfl) rfl rfl ?_
      refine ab_goto (pc := 33) (tgt := 3) dX9_puts4_33 rfl ?_
      refine ab_sub_ (lv2 := [some (ab_R v0), some (ab_I v1), some (ab_I (ab_w32 (v2 + (-8 : Int))))]) (ab_ss (ab_ss (ab_ss ab_s0))) ?_
      exact ih _ _ _ _ _ hk
noncomputable def f_X9_puts4 (a0 : Int) (a1 : Int) (h : ab_H) : Option ab_H :=
  f_X9_puts4_L3 ab_FU a0 a1 (24 : Int) h
set_option maxRecDepth 20000 in
theorem ct_X9_puts4 {a0 a1 : Int} {h : ab_H} {q : ab_H} (hk : f_X9_puts4 a0 a1 h = some q) : ab_CT yX9_puts4 cX9_puts4 3 none 0 0 [ab_R a0, ab_I a1] h none q := by
  refine ab_CT.mk_ 1 (own := RX9) (ini := false) (lv := [some (ab_R a0), some (ab_I a1), none]) rfl (by decide +kernel) (fun q => by cases q) rfl rfl ?_
  unfold f_X9_puts4 at hk
  show ab_E mm_X9_puts4 cX9_puts4 0 _ [] h _ _
  refine ab_bipush (pc := 0) dX9_puts4_0 ab_p8_24 ab_k_24 ?_
  refine ab_istore_n (pc := 2) (i := 2) (lv2 := [some (ab_R a0), some (ab_I a1), some (ab_I (24 : Int))]) dX9_puts4_2 rfl (Nat.le_of_ble_eq_true rfl) rfl rfl ?_
  refine ab_sub_ (lv2 := [some (ab_R a0), some (ab_I a1), some (ab_I (24 : Int))]) (ab_ss (ab_ss (ab_ss ab_s0))) ?_
  refine e_X9_puts4_L3 _ _ _ _ _ _ hk
theorem dX9_feed_0 : decode cX9_feed 0 = .ok (.aload_n 0, 1) := by decide +kernel
theorem dX9_feed_1 : decode cX9_feed 1 = .ok (.getfield 77, 3) := by decide +kernel
theorem dX9_feed_4 : decode cX9_feed 4 = .ok (.bipush 20, 2) := by decide +kernel
theorem dX9_feed_6 : decode cX9_feed 6 = .ok (.iadd, 1) := by decide +kernel
theorem dX9_feed_7 : decode cX9_feed 7 = .ok (.sipush 1200, 3) := by decide +kernel
theorem dX9_feed_10 : decode cX9_feed 10 = .ok (.if_icmp .le 5, 3) := by decide +kernel
theorem dX9_feed_13 : decode cX9_feed 13 = .ok (.iconst (-1), 1) := by decide +kernel
theorem dX9_feed_14 : decode cX9_feed 14 = .ok (.ireturn, 1) := by decide +kernel
theorem dX9_feed_15 : decode cX9_feed 15 = .ok (.aload_n 0, 1) := by decide +kernel
theorem dX9_feed_16 : decode cX9_feed 16 = .ok (.iload_n 1, 1) := by decide +kernel
theorem dX9_feed_17 : decode cX9_feed 17 = .ok (.invokevirtual 80, 3) := by decide +kernel
theorem dX9_feed_20 : decode cX9_feed 20 = .ok (.aload_n 0, 1) := by decide +kernel
theorem dX9_feed_21 : decode cX9_feed 21 = .ok (.iload_n 2, 1) := by decide +kernel
theorem dX9_feed_22 : decode cX9_feed 22 = .ok (.invokevirtual 80, 3) := by decide +kernel
theorem dX9_feed_25 : decode cX9_feed 25 = .ok (.aload_n 0, 1) := by decide +kernel
theorem dX9_feed_26 : decode cX9_feed 26 = .ok (.iload_n 3, 1) := by decide +kernel
theorem dX9_feed_27 : decode cX9_feed 27 = .ok (.invokevirtual 80, 3) := by decide +kernel
theorem dX9_feed_30 : decode cX9_feed 30 = .ok (.aload_n 0, 1) := by decide +kernel
theorem dX9_feed_31 : decode cX9_feed 31 = .ok (.iload 4, 2) := by decide +kernel
theorem dX9_feed_33 : decode cX9_feed 33 = .ok (.invokevirtual 80, 3) := by decide +kernel
theorem dX9_feed_36 : decode cX9_feed 36 = .ok (.aload_n 0, 1) := by decide +kernel
theorem dX9_feed_37 : decode cX9_feed 37 = .ok (.iload 5, 2) := by decide +kernel
theorem dX9_feed_39 : decode cX9_feed 39 = .ok (.invokevirtual 80, 3) := by decide +kernel
theorem dX9_feed_42 : decode cX9_feed 42 = .ok (.aload_n 0, 1) := by decide +kernel
theorem dX9_feed_43 : decode cX9_feed 43 = .ok (.getfield 77, 3) := by decide +kernel
theorem dX9_feed_46 : decode cX9_feed 46 = .ok (.ireturn, 1) := by decide +kernel
abbrev mm_X9_feed : ab_M := (RX9, 6, (some .int), false, 1, 22, none)
noncomputable def f_X9_feed (a0 : Int) (a1 : Int) (a2 : Int) (a3 : Int) (a4 : Int) (a5 : Int) (h : ab_H) : Option (Int × ab_H) :=
  (ab_get h 10 4 a0).bind fun t1 =>
  if ab_w32 (t1 + (20 : Int)) ≤ (1200 : Int) then
    (ab_on h 10 a0 (f_X9_puts4 a0 a1 h)).bind fun q2 =>
    (ab_on q2 10 a0 (f_X9_puts4 a0 a2 q2)).bind fun q3 =>
    (ab_on q3 10 a0 (f_X9_puts4 a0 a3 q3)).bind fun q4 =>
    (ab_on q4 10 a0 (f_X9_puts4 a0 a4 q4)).bind fun q5 =>
    (ab_on q5 10 a0 (f_X9_puts4 a0 a5 q5)).bind fun q6 =>
    (ab_get q6 10 4 a0).bind fun t7 =>
    some (t7, q6)
  else
  some ((-1 : Int), h)
set_option maxRecDepth 20000 in
theorem ct_X9_feed {a0 a1 a2 a3 a4 a5 : Int} {h : ab_H} {q : Int × ab_H} (hk : f_X9_feed a0 a1 a2 a3 a4 a5 h = some q) : ab_CT yX9_feed cX9_feed 6 (some .int) 1 22 [ab_R a0, ab_I a1, ab_I a2, ab_I a3, ab_I a4, ab_I a5] h (some (ab_I q.1)) q.2 := by
  refine ab_CT.mk_ 0 (own := RX9) (ini := false) (lv := [some (ab_R a0), some (ab_I a1), some (ab_I a2), some (ab_I a3), some (ab_I a4), some (ab_I a5)]) rfl (by decide +kernel) (fun q => by cases q) rfl rfl ?_
  unfold f_X9_feed at hk
  show ab_E mm_X9_feed cX9_feed 0 _ [] h _ _
  refine ab_aload_n (pc := 0) (i := 0) dX9_feed_0 rfl rfl ?_
  obtain ⟨t1, ht1, hk⟩ := ab_bnd hk
  refine ab_getI (pc := 1) dX9_feed_1 fl_RX9_77 ht1 ?_
  refine ab_bipush (pc := 4) dX9_feed_4 ab_p8_20 ab_k_20 ?_
  refine ab_iadd (pc := 6) dX9_feed_6 ?_
  refine ab_sipush (pc := 7) dX9_feed_7 ab_p16_1200 ab_k_1200 ?_
  refine ab_icmp_le (pc := 10) (tgt := 15) dX9_feed_10 rfl (fun hc => ?_) (fun hc => ?_)
  · have hk := ab_ifp hk hc
    refine ab_aload_n (pc := 15) (i := 0) dX9_feed_15 rfl rfl ?_
    refine ab_iload_n (pc := 16) (i := 1) dX9_feed_16 rfl rfl ?_
    obtain ⟨q2, hq2, hk⟩ := ab_bnd hk
    obtain ⟨hb, hq2⟩ := ab_on_some hq2
    refine ab_callVV (st := []) (as := [ab_I a1]) (b := a0) (pc := 17) dX9_feed_17 ml_RX9_80 my_X9_puts4 mv_X9_puts4 hb (ct_X9_puts4 hq2) ⟨Nat.le_of_ble_eq_true rfl, Nat.le_of_ble_eq_true rfl⟩ rfl (Nat.le_of_ble_eq_true rfl) rfl ?_
    refine ab_aload_n (pc := 20) (i := 0) dX9_feed_20 rfl rfl ?_
    refine ab_iload_n (pc := 21) (i := 2) dX9_feed_21 rfl rfl ?_
    obtain ⟨q3, hq3, hk⟩ := ab_bnd hk
    obtain ⟨hb, hq3⟩ := ab_on_some hq3
    refine ab_callVV (st := []) (as := [ab_I a2]) (b := a0) (pc := 22) dX9_feed_22 ml_RX9_80 my_X9_puts4 mv_X9_puts4 hb (ct_X9_puts4 hq3) ⟨Nat.le_of_ble_eq_true rfl, Nat.le_of_ble_eq_true rfl⟩ rfl (Nat.le_of_ble_eq_true rfl) rfl ?_
    refine ab_aload_n (pc := 25) (i := 0) dX9_feed_25 rfl rfl ?_
    refine ab_iload_n (pc := 26) (i := 3) dX9_feed_26 rfl rfl ?_
    obtain ⟨q4, hq4, hk⟩ := ab_bnd hk
    obtain ⟨hb, hq4⟩ := ab_on_some hq4
    refine ab_callVV (st := []) (as := [ab_I a3]) (b := a0) (pc := 27) dX9_feed_27 ml_RX9_80 my_X9_puts4 mv_X9_puts4 hb (ct_X9_puts4 hq4) ⟨Nat.le_of_ble_eq_true rfl, Nat.le_of_ble_eq_true rfl⟩ rfl (Nat.le_of_ble_eq_true rfl) rfl ?_
    refine ab_aload_n (pc := 30) (i := 0) dX9_feed_30 rfl rfl ?_
    refine ab_iload (pc := 31) (i := 4) dX9_feed_31 rfl ?_
    obtain ⟨q5, hq5, hk⟩ := ab_bnd hk
    obtain ⟨hb, hq5⟩ := ab_on_some hq5
    refine ab_callVV (st := []) (as := [ab_I a4]) (b := a0) (pc := 33) dX9_feed_33 ml_RX9_80 my_X9_puts4 mv_X9_puts4 hb (ct_X9_puts4 hq5) ⟨Nat.le_of_ble_eq_true rfl, Nat.le_of_ble_eq_true rfl⟩ rfl (Nat.le_of_ble_eq_true rfl) rfl ?_
    refine ab_aload_n (pc := 36) (i := 0) dX9_feed_36 rfl rfl ?_
    refine ab_iload (pc := 37) (i := 5) dX9_feed_37 rfl ?_
    obtain ⟨q6, hq6, hk⟩ := ab_bnd hk
    obtain ⟨hb, hq6⟩ := ab_on_some hq6
    refine ab_callVV (st := []) (as := [ab_I a5]) (b := a0) (pc := 39) dX9_feed_39 ml_RX9_80 my_X9_puts4 mv_X9_puts4 hb (ct_X9_puts4 hq6) ⟨Nat.le_of_ble_eq_true rfl, Nat.le_of_ble_eq_true rfl⟩ rfl (Nat.le_of_ble_eq_true rfl) rfl ?_
    refine ab_aload_n (pc := 42) (i := 0) dX9_feed_42 rfl rfl ?_
    obtain ⟨t7, ht7, hk⟩ := ab_bnd hk
    refine ab_getI (pc := 43) dX9_feed_43 fl_RX9_77 ht7 ?_
    obtain rfl := Option.some.inj hk
    exact ab_reti (pc := 46) dX9_feed_46 (Or.inl rfl)
  · have hk := ab_ifn hk hc
    refine ab_iconst (pc := 13) dX9_feed_13 ab_k_m1 ?_
    obtain rfl := Option.some.inj hk
    exact ab_reti (pc := 14) dX9_feed_14 (Or.inl rfl)
theorem dX9_end_0 : decode cX9_end 0 = .ok (.iload_n 1, 1) := by decide +kernel
theorem dX9_end_1 : decode cX9_end 1 = .ok (.i2l, 1) := by decide +kernel
theorem dX9_end_2 : decode cX9_end 2 = .ok (.lconst 0, 1) := by decide +kernel
theorem dX9_end_3 : decode cX9_end 3 = .ok (.aload_n 0, 1) := by decide +kernel
theorem dX9_end_4 : decode cX9_end 4 = .ok (.getfield 77, 3) := by decide +kernel
theorem dX9_end_7 : decode cX9_end 7 = .ok (.i2l, 1) := by decide +kernel
theorem dX9_end_8 : decode cX9_end 8 = .ok (.invokestatic 84, 3) := by decide +kernel
theorem dX9_end_11 : decode cX9_end 11 = .ok (.ifCond .ne 5, 3) := by decide +kernel
theorem dX9_end_14 : decode cX9_end 14 = .ok (.iconst (-1), 1) := by decide +kernel
theorem dX9_end_15 : decode cX9_end 15 = .ok (.ireturn, 1) := by decide +kernel
theorem dX9_end_16 : decode cX9_end 16 = .ok (.aload_n 0, 1) := by decide +kernel
theorem dX9_end_17 : decode cX9_end 17 = .ok (.iload_n 1, 1) := by decide +kernel
theorem dX9_end_18 : decode cX9_end 18 = .ok (.putfield 77, 3) := by decide +kernel
theorem dX9_end_21 : decode cX9_end 21 = .ok (.iload_n 1, 1) := by decide +kernel
theorem dX9_end_22 : decode cX9_end 22 = .ok (.ireturn, 1) := by decide +kernel
abbrev mm_X9_end : ab_M := (RX9, 2, (some .int), false, 1, 25, none)
noncomputable def f_X9_end (a0 : Int) (a1 : Int) (h : ab_H) : Option (Int × ab_H) :=
  (ab_get h 10 4 a0).bind fun t1 =>
  (f_X9_in a1 (0 : Int) t1 h).bind fun q2 =>
  if q2.1 = (0 : Int) then
    some ((-1 : Int), q2.2)
  else
  (ab_put q2.2 10 4 a0 a1).bind fun h1 =>
  some (a1, h1)
set_option maxRecDepth 20000 in
theorem ct_X9_end {a0 a1 : Int} {h : ab_H} {q : Int × ab_H} (hk : f_X9_end a0 a1 h = some q) : ab_CT yX9_end cX9_end 2 (some .int) 1 25 [ab_R a0, ab_I a1] h (some (ab_I q.1)) q.2 := by
  refine ab_CT.mk_ 0 (own := RX9) (ini := false) (lv := [some (ab_R a0), some (ab_I a1)]) rfl (by decide +kernel) (fun q => by cases q) rfl rfl ?_
  unfold f_X9_end at hk
  show ab_E mm_X9_end cX9_end 0 _ [] h _ _
  refine ab_iload_n (pc := 0) (i := 1) dX9_end_0 rfl rfl ?_
  refine ab_i2l_ (pc := 1) dX9_end_1 ?_
  refine ab_lconst (x := (0 : Int)) (pc := 2) dX9_end_2 rfl ab_kl_0 ?_
  refine ab_aload_n (pc := 3) (i := 0) dX9_end_3 rfl rfl ?_
  obtain ⟨t1, ht1, hk⟩ := ab_bnd hk
  refine ab_getI (pc := 4) dX9_end_4 fl_RX9_77 ht1 ?_
  refine ab_i2l_ (pc := 7) dX9_end_7 ?_
  obtain ⟨q2, hq2, hk⟩ := ab_bnd hk
  refine ab_callSI (st := []) (as := [ab_J a1, ab_J (0 : Int), ab_J t1]) (pc := 8) dX9_end_8 ml_RX9_84 my_X9_in ms_X9_in (ct_X9_in hq2) ⟨Nat.le_of_ble_eq_true rfl, Nat.le_of_ble_eq_true rfl⟩ rfl (Nat.le_of_ble_eq_true rfl) rfl ?_
  refine ab_if_ne (pc := 11) (tgt := 16) dX9_end_11 rfl (fun hc => ?_) (fun hc => ?_)
  · have hk := ab_ifn hk hc
    refine ab_aload_n (pc := 16) (i := 0) dX9_end_16 rfl rfl ?_
    refine ab_iload_n (pc := 17) (i := 1) dX9_end_17 rfl rfl ?_
    obtain ⟨h1, hh1, hk⟩ := ab_bnd hk
    refine ab_putI_ (pc := 18) dX9_end_18 fl_RX9_77 (fun q => by cases q) hh1 ?_
    refine ab_iload_n (pc := 21) (i := 1) dX9_end_21 rfl rfl ?_
    obtain rfl := Option.some.inj hk
    exact ab_reti (pc := 22) dX9_end_22 (Or.inl rfl)
  · have hk := ab_ifp hk hc
    refine ab_iconst (pc := 14) dX9_end_14 ab_k_m1 ?_
    obtain rfl := Option.some.inj hk
    exact ab_reti (pc := 15) dX9_end_15 (Or.inl rfl)
theorem dX9_good_0 : decode cX9_good 0 = .ok (.aload_n 0, 1) := by decide +kernel
theorem dX9_good_1 : decode cX9_good 1 = .ok (.getfield 88, 3) := by decide +kernel
theorem dX9_good_4 : decode cX9_good 4 = .ok (.ifCond .ne 7, 3) := by decide +kernel
theorem dX9_good_7 : decode cX9_good 7 = .ok (.iconst 1, 1) := by decide +kernel
theorem dX9_good_8 : decode cX9_good 8 = .ok (.goto 4, 3) := by decide +kernel
theorem dX9_good_11 : decode cX9_good 11 = .ok (.iconst 0, 1) := by decide +kernel
theorem dX9_good_12 : decode cX9_good 12 = .ok (.ireturn, 1) := by decide +kernel
abbrev mm_X9_good : ab_M := (RX9, 1, (some .boolean), false, 0, 0, none)
noncomputable def f_X9_good (a0 : Int) (h : ab_H) : Option (Int × ab_H) :=
  (ab_get h 10 10 a0).bind fun t1 =>
  if t1 = (0 : Int) then
    some ((1 : Int), h)
  else
  some ((0 : Int), h)
set_option maxRecDepth 20000 in
theorem ct_X9_good {a0 : Int} {h : ab_H} {q : Int × ab_H} (hk : f_X9_good a0 h = some q) : ab_CT yX9_good cX9_good 1 (some .boolean) 0 0 [ab_R a0] h (some (ab_I q.1)) q.2 := by
  refine ab_CT.mk_ 0 (own := RX9) (ini := false) (lv := [some (ab_R a0)]) rfl (by decide +kernel) (fun q => by cases q) rfl rfl ?_
  unfold f_X9_good at hk
  show ab_E mm_X9_good cX9_good 0 _ [] h _ _
  refine ab_aload_n (pc := 0) (i := 0) dX9_good_0 rfl rfl ?_
  obtain ⟨t1, ht1, hk⟩ := ab_bnd hk
  refine ab_getI (pc := 1) dX9_good_1 fl_RX9_88 ht1 ?_
  refine ab_if_ne (pc := 4) (tgt := 11) dX9_good_4 rfl (fun hc => ?_) (fun hc => ?_)
  · have hk := ab_ifn hk hc
    refine ab_iconst (pc := 11) dX9_good_11 ab_k_0 ?_
    obtain rfl := Option.some.inj hk
    exact ab_retz (pc := 12) dX9_good_12 rfl rfl
  · have hk := ab_ifp hk hc
    refine ab_iconst (pc := 7) dX9_good_7 ab_k_1 ?_
    refine ab_goto (pc := 8) (tgt := 12) dX9_good_8 rfl ?_
    obtain rfl := Option.some.inj hk
    exact ab_retz (pc := 12) dX9_good_12 rfl rfl
theorem dX9_errs_0 : decode cX9_errs 0 = .ok (.aload_n 0, 1) := by decide +kernel
theorem dX9_errs_1 : decode cX9_errs 1 = .ok (.invokevirtual 91, 3) := by decide +kernel
theorem dX9_errs_4 : decode cX9_errs 4 = .ok (.ifCond .ne 4, 3) := by decide +kernel
theorem dX9_errs_7 : decode cX9_errs 7 = .ok (.return_, 1) := by decide +kernel
theorem dX9_errs_8 : decode cX9_errs 8 = .ok (.aload_n 0, 1) := by decide +kernel
theorem dX9_errs_9 : decode cX9_errs 9 = .ok (.iload_n 1, 1) := by decide +kernel
theorem dX9_errs_10 : decode cX9_errs 10 = .ok (.putfield 88, 3) := by decide +kernel
theorem dX9_errs_13 : decode cX9_errs 13 = .ok (.aload_n 0, 1) := by decide +kernel
theorem dX9_errs_14 : decode cX9_errs 14 = .ok (.iload_n 2, 1) := by decide +kernel
theorem dX9_errs_15 : decode cX9_errs 15 = .ok (.putfield 20, 3) := by decide +kernel
theorem dX9_errs_18 : decode cX9_errs 18 = .ok (.return_, 1) := by decide +kernel
abbrev mm_X9_errs : ab_M := (RX9, 3, none, false, 1, 20, none)
noncomputable def f_X9_errs (a0 : Int) (a1 : Int) (a2 : Int) (h : ab_H) : Option ab_H :=
  (ab_on h 10 a0 (f_X9_good a0 h)).bind fun q1 =>
  if q1.1 = (0 : Int) then
    some q1.2
  else
  (ab_put q1.2 10 10 a0 a1).bind fun h1 =>
  (ab_put h1 10 11 a0 a2).bind fun h2 =>
  some h2
set_option maxRecDepth 20000 in
theorem ct_X9_errs {a0 a1 a2 : Int} {h : ab_H} {q : ab_H} (hk : f_X9_errs a0 a1 a2 h = some q) : ab_CT yX9_errs cX9_errs 3 none 1 20 [ab_R a0, ab_I a1, ab_I a2] h none q := by
  refine ab_CT.mk_ 0 (own := RX9) (ini := false) (lv := [some (ab_R a0), some (ab_I a1), some (ab_I a2)]) rfl (by decide +kernel) (fun q => by cases q) rfl rfl ?_
  unfold f_X9_errs at hk
  show ab_E mm_X9_errs cX9_errs 0 _ [] h _ _
  refine ab_aload_n (pc := 0) (i := 0) dX9_errs_0 rfl rfl ?_
  obtain ⟨q1, hq1, hk⟩ := ab_bnd hk
  obtain ⟨hb, hq1⟩ := ab_on_some hq1
  refine ab_callVI (st := []) (as := []) (b := a0) (pc := 1) dX9_errs_1 ml_RX9_91 my_X9_good mv_X9_good hb (ct_X9_good hq1) ⟨Nat.le_of_ble_eq_true rfl, Nat.le_of_ble_eq_true rfl⟩ rfl (Nat.le_of_ble_eq_true rfl) rfl ?_
  refine ab_if_ne (pc := 4) (tgt := 8) dX9_errs_4 rfl (fun hc => ?_) (fun hc => ?_)
  · have hk := ab_ifn hk hc
    refine ab_aload_n (pc := 8) (i := 0) dX9_errs_8 rfl rfl ?_
    refine ab_iload_n (pc := 9) (i := 1) dX9_errs_9 rfl rfl ?_
    obtain ⟨h1, hh1, hk⟩ := ab_bnd hk
    refine ab_putI_ (pc := 10) dX9_errs_10 fl_RX9_88 (fun q => by cases q) hh1 ?_
    refine ab_aload_n (pc := 13) (i := 0) dX9_errs_13 rfl rfl ?_
    refine ab_iload_n (pc := 14) (i := 2) dX9_errs_14 rfl rfl ?_
    obtain ⟨h2, hh2, hk⟩ := ab_bnd hk
    refine ab_putI_ (pc := 15) dX9_errs_15 fl_RX9_20 (fun q => by cases q) hh2 ?_
    obtain rfl := Option.some.inj hk
    exact ab_retv (pc := 18) dX9_errs_18 rfl
  · have hk := ab_ifp hk hc
    obtain rfl := Option.some.inj hk
    exact ab_retv (pc := 7) dX9_errs_7 rfl
theorem dX9_see0_0 : decode cX9_see0 0 = .ok (.iload_n 1, 1) := by decide +kernel
theorem dX9_see0_1 : decode cX9_see0 1 = .ok (.aload_n 0, 1) := by decide +kernel
theorem dX9_see0_2 : decode cX9_see0 2 = .ok (.getfield 95, 3) := by decide +kernel
theorem dX9_see0_5 : decode cX9_see0 5 = .ok (.if_icmp .ge 16, 3) := by decide +kernel
theorem dX9_see0_8 : decode cX9_see0 8 = .ok (.aload_n 0, 1) := by decide +kernel
theorem dX9_see0_9 : decode cX9_see0 9 = .ok (.getfield 16, 3) := by decide +kernel
theorem dX9_see0_12 : decode cX9_see0 12 = .ok (.iload_n 1, 1) := by decide +kernel
theorem dX9_see0_13 : decode cX9_see0 13 = .ok (.baload, 1) := by decide +kernel
theorem dX9_see0_14 : decode cX9_see0 14 = .ok (.sipush 255, 3) := by decide +kernel
theorem dX9_see0_17 : decode cX9_see0 17 = .ok (.iand, 1) := by decide +kernel
theorem dX9_see0_18 : decode cX9_see0 18 = .ok (.goto 4, 3) := by decide +kernel
theorem dX9_see0_21 : decode cX9_see0 21 = .ok (.iconst (-1), 1) := by decide +kernel
theorem dX9_see0_22 : decode cX9_see0 22 = .ok (.ireturn, 1) := by decide +kernel
abbrev mm_X9_see0 : ab_M := (RX9, 2, (some .int), false, 0, 0, none)
noncomputable def f_X9_see0 (a0 : Int) (a1 : Int) (h : ab_H) : Option (Int × ab_H) :=
  (ab_get h 10 5 a0).bind fun t1 =>
  if t1 ≤ a1 then
    some ((-1 : Int), h)
  else
  (ab_get h 10 3 a0).bind fun t2 =>
  (ab_ald h 13 t2 a1).bind fun t3 =>
  some (ab_and t3 (255 : Int), h)
set_option maxRecDepth 20000 in
theorem ct_X9_see0 {a0 a1 : Int} {h : ab_H} {q : Int × ab_H} (hk : f_X9_see0 a0 a1 h = some q) : ab_CT yX9_see0 cX9_see0 2 (some .int) 0 0 [ab_R a0, ab_I a1] h (some (ab_I q.1)) q.2 := by
  refine ab_CT.mk_ 0 (own := RX9) (ini := false) (lv := [some (ab_R a0), some (ab_I a1)]) rfl (by decide +kernel) (fun q => by cases q) rfl rfl ?_
  unfold f_X9_see0 at hk
  show ab_E mm_X9_see0 cX9_see0 0 _ [] h _ _
  refine ab_iload_n (pc := 0) (i := 1) dX9_see0_0 rfl rfl ?_
  refine ab_aload_n (pc := 1) (i := 0) dX9_see0_1 rfl rfl ?_
  obtain ⟨t1, ht1, hk⟩ := ab_bnd hk
  refine ab_getI (pc := 2) dX9_see0_2 fl_RX9_95 ht1 ?_
  refine ab_icmp_ge (pc := 5) (tgt := 21) dX9_see0_5 rfl (fun hc => ?_) (fun hc => ?_)
  · have hk := ab_ifp hk hc
    refine ab_iconst (pc := 21) dX9_see0_21 ab_k_m1 ?_
    obtain rfl := Option.some.inj hk
    exact ab_reti (pc := 22) dX9_see0_22 (Or.inl rfl)
  · have hk := ab_ifn hk hc
    refine ab_aload_n (pc := 8) (i := 0) dX9_see0_8 rfl rfl ?_
    obtain ⟨t2, ht2, hk⟩ := ab_bnd hk
    refine ab_getR (pc := 9) dX9_see0_9 fl_RX9_16 ht2 ?_
    refine ab_iload_n (pc := 12) (i := 1) dX9_see0_12 rfl rfl ?_
    obtain ⟨t3, ht3, hk⟩ := ab_bnd hk
    refine ab_bald (pc := 13) dX9_see0_13 ht3 ?_
    refine ab_sipush (pc := 14) dX9_see0_14 ab_p16_255 ab_k_255 ?_
    refine ab_iand (pc := 17) dX9_see0_17 ?_
    refine ab_goto (pc := 18) (tgt := 22) dX9_see0_18 rfl ?_
    obtain rfl := Option.some.inj hk
    exact ab_reti (pc := 22) dX9_see0_22 (Or.inl rfl)
theorem dX9_advance_0 : decode cX9_advance 0 = .ok (.aload_n 0, 1) := by decide +kernel
theorem dX9_advance_1 : decode cX9_advance 1 = .ok (.aload_n 0, 1) := by decide +kernel
theorem dX9_advance_2 : decode cX9_advance 2 = .ok (.getfield 98, 3) := by decide +kernel
theorem dX9_advance_5 : decode cX9_advance 5 = .ok (.invokevirtual 101, 3) := by decide +kernel
theorem dX9_advance_8 : decode cX9_advance 8 = .ok (.bipush 32, 2) := by decide +kernel
theorem dX9_advance_10 : decode cX9_advance 10 = .ok (.if_icmp .eq 16, 3) := by decide +kernel
theorem dX9_advance_13 : decode cX9_advance 13 = .ok (.aload_n 0, 1) := by decide +kernel
theorem dX9_advance_14 : decode cX9_advance 14 = .ok (.aload_n 0, 1) := by decide +kernel
theorem dX9_advance_15 : decode cX9_advance 15 = .ok (.getfield 98, 3) := by decide +kernel
theorem dX9_advance_18 : decode cX9_advance 18 = .ok (.invokevirtual 101, 3) := by decide +kernel
theorem dX9_advance_21 : decode cX9_advance 21 = .ok (.bipush 10, 2) := by decide +kernel
theorem dX9_advance_23 : decode cX9_advance 23 = .ok (.if_icmp .ne 16, 3) := by decide +kernel
theorem dX9_advance_26 : decode cX9_advance 26 = .ok (.aload_n 0, 1) := by decide +kernel
theorem dX9_advance_27 : decode cX9_advance 27 = .ok (.dup, 1) := by decide +kernel
theorem dX9_advance_28 : decode cX9_advance 28 = .ok (.getfield 98, 3) := by decide +kernel
theorem dX9_advance_31 : decode cX9_advance 31 = .ok (.iconst 1, 1) := by decide +kernel
theorem dX9_advance_32 : decode cX9_advance 32 = .ok (.iadd, 1) := by decide +kernel
theorem dX9_advance_33 : decode cX9_advance 33 = .ok (.putfield 98, 3) := by decide +kernel
theorem dX9_advance_36 : decode cX9_advance 36 = .ok (.goto (-36), 3) := by decide +kernel
theorem dX9_advance_39 : decode cX9_advance 39 = .ok (.aload_n 0, 1) := by decide +kernel
theorem dX9_advance_40 : decode cX9_advance 40 = .ok (.aload_n 0, 1) := by decide +kernel
theorem dX9_advance_41 : decode cX9_advance 41 = .ok (.getfield 98, 3) := by decide +kernel
theorem dX9_advance_44 : decode cX9_advance 44 = .ok (.putfield 105, 3) := by decide +kernel
theorem dX9_advance_47 : decode cX9_advance 47 = .ok (.aload_n 0, 1) := by decide +kernel
theorem dX9_advance_48 : decode cX9_advance 48 = .ok (.aload_n 0, 1) := by decide +kernel
theorem dX9_advance_49 : decode cX9_advance 49 = .ok (.getfield 98, 3) := by decide +kernel
theorem dX9_advance_52 : decode cX9_advance 52 = .ok (.invokevirtual 101, 3) := by decide +kernel
theorem dX9_advance_55 : decode cX9_advance 55 = .ok (.istore_n 1, 1) := by decide +kernel
theorem dX9_advance_56 : decode cX9_advance 56 = .ok (.iload_n 1, 1) := by decide +kernel
theorem dX9_advance_57 : decode cX9_advance 57 = .ok (.iconst (-1), 1) := by decide +kernel
theorem dX9_advance_58 : decode cX9_advance 58 = .ok (.if_icmp .ne 11, 3) := by decide +kernel
theorem dX9_advance_61 : decode cX9_advance 61 = .ok (.aload_n 0, 1) := by decide +kernel
theorem dX9_advance_62 : decode cX9_advance 62 = .ok (.iconst 0, 1) := by decide +kernel
theorem dX9_advance_63 : decode cX9_advance 63 = .ok (.putfield 108, 3) := by decide +kernel
theorem dX9_advance_66 : decode cX9_advance 66 = .ok (.goto 168, 3) := by decide +kernel
theorem dX9_advance_69 : decode cX9_advance 69 = .ok (.iload_n 1, 1) := by decide +kernel
theorem dX9_advance_70 : decode cX9_advance 70 = .ok (.i2l, 1) := by decide +kernel
theorem dX9_advance_71 : decode cX9_advance 71 = .ok (.ldc2_w 111, 3) := by decide +kernel
theorem dX9_advance_74 : decode cX9_advance 74 = .ok (.ldc2_w 113, 3) := by decide +kernel
theorem dX9_advance_77 : decode cX9_advance 77 = .ok (.invokestatic 84, 3) := by decide +kernel
theorem dX9_advance_80 : decode cX9_advance 80 = .ok (.ifCond .eq 45, 3) := by decide +kernel
theorem dX9_advance_83 : decode cX9_advance 83 = .ok (.aload_n 0, 1) := by decide +kernel
theorem dX9_advance_84 : decode cX9_advance 84 = .ok (.aload_n 0, 1) := by decide +kernel
theorem dX9_advance_85 : decode cX9_advance 85 = .ok (.getfield 98, 3) := by decide +kernel
theorem dX9_advance_88 : decode cX9_advance 88 = .ok (.invokevirtual 101, 3) := by decide +kernel
theorem dX9_advance_91 : decode cX9_advance 91 = .ok (.i2l, 1) := by decide +kernel
theorem dX9_advance_92 : decode cX9_advance 92 = .ok (.ldc2_w 111, 3) := by decide +kernel
theorem dX9_advance_95 : decode cX9_advance 95 = .ok (.ldc2_w 113, 3) := by decide +kernel
theorem dX9_advance_98 : decode cX9_advance 98 = .ok (.invokestatic 84, 3) := by decide +kernel
theorem dX9_advance_101 : decode cX9_advance 101 = .ok (.ifCond .eq 16, 3) := by decide +kernel
theorem dX9_advance_104 : decode cX9_advance 104 = .ok (.aload_n 0, 1) := by decide +kernel
theorem dX9_advance_105 : decode cX9_advance 105 = .ok (.dup, 1) := by decide +kernel
theorem dX9_advance_106 : decode cX9_advance 106 = .ok (.getfield 98, 3) := by decide +kernel
theorem dX9_advance_109 : decode cX9_advance 109 = .ok (.iconst 1, 1) := by decide +kernel
theorem dX9_advance_110 : decode cX9_advance 110 = .ok (.iadd, 1) := by decide +kernel
theorem dX9_advance_111 : decode cX9_advance 111 = .ok (.putfield 98, 3) := by decide +kernel
theorem dX9_advance_114 : decode cX9_advance 114 = .ok (.goto (-31), 3) := by decide +kernel
theorem dX9_advance_117 : decode cX9_advance 117 = .ok (.aload_n 0, 1) := by decide +kernel
theorem dX9_advance_118 : decode cX9_advance 118 = .ok (.iconst 1, 1) := by decide +kernel
theorem dX9_advance_119 : decode cX9_advance 119 = .ok (.putfield 108, 3) := by decide +kernel
theorem dX9_advance_122 : decode cX9_advance 122 = .ok (.goto 112, 3) := by decide +kernel
theorem dX9_advance_125 : decode cX9_advance 125 = .ok (.iload_n 1, 1) := by decide +kernel
theorem dX9_advance_126 : decode cX9_advance 126 = .ok (.i2l, 1) := by decide +kernel
theorem dX9_advance_127 : decode cX9_advance 127 = .ok (.ldc2_w 115, 3) := by decide +kernel
theorem dX9_advance_130 : decode cX9_advance 130 = .ok (.ldc2_w 117, 3) := by decide +kernel
theorem dX9_advance_133 : decode cX9_advance 133 = .ok (.invokestatic 84, 3) := by decide +kernel
theorem dX9_advance_136 : decode cX9_advance 136 = .ok (.ifCond .eq 78, 3) := by decide +kernel
theorem dX9_advance_139 : decode cX9_advance 139 = .ok (.aload_n 0, 1) := by decide +kernel
theorem dX9_advance_140 : decode cX9_advance 140 = .ok (.iconst 0, 1) := by decide +kernel
theorem dX9_advance_141 : decode cX9_advance 141 = .ok (.putfield 119, 3) := by decide +kernel
theorem dX9_advance_144 : decode cX9_advance 144 = .ok (.aload_n 0, 1) := by decide +kernel
theorem dX9_advance_145 : decode cX9_advance 145 = .ok (.aload_n 0, 1) := by decide +kernel
theorem dX9_advance_146 : decode cX9_advance 146 = .ok (.getfield 98, 3) := by decide +kernel
theorem dX9_advance_149 : decode cX9_advance 149 = .ok (.invokevirtual 101, 3) := by decide +kernel
theorem dX9_advance_152 : decode cX9_advance 152 = .ok (.i2l, 1) := by decide +kernel
theorem dX9_advance_153 : decode cX9_advance 153 = .ok (.ldc2_w 115, 3) := by decide +kernel
theorem dX9_advance_156 : decode cX9_advance 156 = .ok (.ldc2_w 117, 3) := by decide +kernel
theorem dX9_advance_159 : decode cX9_advance 159 = .ok (.invokestatic 84, 3) := by decide +kernel
theorem dX9_advance_162 : decode cX9_advance 162 = .ok (.ifCond .eq 44, 3) := by decide +kernel
theorem dX9_advance_165 : decode cX9_advance 165 = .ok (.aload_n 0, 1) := by decide +kernel
theorem dX9_advance_166 : decode cX9_advance 166 = .ok (.ldc 122, 2) := by decide +kernel
theorem dX9_advance_168 : decode cX9_advance 168 = .ok (.bipush 10, 2) := by decide +kernel
theorem dX9_advance_170 : decode cX9_advance 170 = .ok (.aload_n 0, 1) := by decide +kernel
theorem dX9_advance_171 : decode cX9_advance 171 = .ok (.getfield 119, 3) := by decide +kernel
theorem dX9_advance_174 : decode cX9_advance 174 = .ok (.imul, 1) := by decide +kernel
theorem dX9_advance_175 : decode cX9_advance 175 = .ok (.aload_n 0, 1) := by decide +kernel
theorem dX9_advance_176 : decode cX9_advance 176 = .ok (.aload_n 0, 1) := by decide +kernel
theorem dX9_advance_177 : decode cX9_advance 177 = .ok (.getfield 98, 3) := by decide +kernel
theorem dX9_advance_180 : decode cX9_advance 180 = .ok (.invokevirtual 101, 3) := by decide +kernel
theorem dX9_advance_183 : decode cX9_advance 183 = .ok (.iadd, 1) := by decide +kernel
theorem dX9_advance_184 : decode cX9_advance 184 = .ok (.bipush 48, 2) := by decide +kernel
theorem dX9_advance_186 : decode cX9_advance 186 = .ok (.isub, 1) := by decide +kernel
theorem dX9_advance_187 : decode cX9_advance 187 = .ok (.invokestatic 123, 3) := by decide +kernel
theorem dX9_advance_190 : decode cX9_advance 190 = .ok (.putfield 119, 3) := by decide +kernel
theorem dX9_advance_193 : decode cX9_advance 193 = .ok (.aload_n 0, 1) := by decide +kernel
theorem dX9_advance_194 : decode cX9_advance 194 = .ok (.dup, 1) := by decide +kernel
theorem dX9_advance_195 : decode cX9_advance 195 = .ok (.getfield 98, 3) := by decide +kernel
theorem dX9_advance_198 : decode cX9_advance 198 = .ok (.iconst 1, 1) := by decide +kernel
theorem dX9_advance_199 : decode cX9_advance 199 = .ok (.iadd, 1) := by decide +kernel
theorem dX9_advance_200 : decode cX9_advance 200 = .ok (.putfield 98, 3) := by decide +kernel
theorem dX9_advance_203 : decode cX9_advance 203 = .ok (.goto (-59), 3) := by decide +kernel
theorem dX9_advance_206 : decode cX9_advance 206 = .ok (.aload_n 0, 1) := by decide +kernel
theorem dX9_advance_207 : decode cX9_advance 207 = .ok (.iconst 2, 1) := by decide +kernel
theorem dX9_advance_208 : decode cX9_advance 208 = .ok (.putfield 108, 3) := by decide +kernel
theorem dX9_advance_211 : decode cX9_advance 211 = .ok (.goto 23, 3) := by decide +kernel
theorem dX9_advance_214 : decode cX9_advance 214 = .ok (.aload_n 0, 1) := by decide +kernel
theorem dX9_advance_215 : decode cX9_advance 215 = .ok (.iconst 3, 1) := by decide +kernel
theorem dX9_advance_216 : decode cX9_advance 216 = .ok (.putfield 108, 3) := by decide +kernel
theorem dX9_advance_219 : decode cX9_advance 219 = .ok (.aload_n 0, 1) := by decide +kernel
theorem dX9_advance_220 : decode cX9_advance 220 = .ok (.iload_n 1, 1) := by decide +kernel
theorem dX9_advance_221 : decode cX9_advance 221 = .ok (.putfield 119, 3) := by decide +kernel
theorem dX9_advance_224 : decode cX9_advance 224 = .ok (.aload_n 0, 1) := by decide +kernel
theorem dX9_advance_225 : decode cX9_advance 225 = .ok (.dup, 1) := by decide +kernel
theorem dX9_advance_226 : decode cX9_advance 226 = .ok (.getfield 98, 3) := by decide +kernel
theorem dX9_advance_229 : decode cX9_advance 229 = .ok (.iconst 1, 1) := by decide +kernel
theorem dX9_advance_230 : decode cX9_advance 230 = .ok (.iadd, 1) := by decide +kernel
theorem dX9_advance_231 : decode cX9_advance 231 = .ok (.putfield 98, 3) := by decide +kernel
theorem dX9_advance_234 : decode cX9_advance 234 = .ok (.return_, 1) := by decide +kernel
abbrev mm_X9_advance : ab_M := (RX9, 2, none, false, 1, 25, none)
noncomputable def f_X9_advance_L144 (k206 : Int → ab_H → Option ab_H) : Nat → Int → ab_H → Option ab_H
  | 0, _, _ => none
  | n + 1, v0, h =>
    (ab_get h 10 6 v0).bind fun t1 =>
    (ab_on h 10 v0 (f_X9_see0 v0 t1 h)).bind fun q2 =>
    (f_X9_in q2.1 (48 : Int) (57 : Int) q2.2).bind fun q3 =>
    if q3.1 = (0 : Int) then
      k206 v0 q3.2
    else
    (ab_get q3.2 10 9 v0).bind fun t4 =>
    (ab_get q3.2 10 6 v0).bind fun t5 =>
    (ab_on q3.2 10 v0 (f_X9_see0 v0 t5 q3.2)).bind fun q6 =>
    (ab_put q6.2 10 9 v0 (ab_mn (99999 : Int) (ab_w32 ((ab_w32 ((ab_w32 ((10 : Int) * t4)) + q6.1)) - (48 : Int))))).bind fun h1 =>
    (ab_get h1 10 6 v0).bind fun t7 =>
    (ab_put h1 10 6 v0 (ab_w32 (t7 + (1 : Int)))).bind fun h2 =>
    f_X9_advance_L144 k206 n v0 h2
set_option maxRecDepth 20000 in
theorem e_X9_advance_L144 {k206 : Int → ab_H → Option ab_H} (hk206 : ∀ (v0 : Int) (h : ab_H) (q : ab_H), k206 v0 h = some q → ab_E mm_X9_advance cX9_advance 206 [some (ab_R v0), none] [] h none q) : ∀ (n : Nat) (v0 : Int) (h : ab_H) (q : ab_H), f_X9_advance_L144 k206 n v0 h = some q → ab_E mm_X9_advance cX9_advance 144 [some (ab_R v0), none] [] h none q := by
  intro n
  induction n with
  | zero => intro v0 h q hk; cases hk
  | succ n ih =>
    intro v0 h q hk
    unfold f_X9_advance_L144 at hk
    refine ab_aload_n (pc := 144) (i := 0) dX9_advance_144 rfl rfl ?_
    refine ab_aload_n (pc := 145) (i := 0) dX9_advance_145 rfl rfl ?_
    obtain ⟨t1, ht1, hk⟩ := ab_bnd hk
    refine ab_getI (pc := 146) dX9_advance_146 fl_RX9_98 ht1 ?_
    obtain ⟨q2, hq2, hk⟩ := ab_bnd hk
    obtain ⟨hb, hq2⟩ := ab_on_some hq2
    refine ab_callVI (st := []) (as := [ab_I t1]) (b := v0) (pc := 149) dX9_advance_149 ml_RX9_101 my_X9_see0 mv_X9_see0 hb (ct_X9_see0 hq2) ⟨Nat.le_of_ble_eq_true rfl, Nat.le_of_ble_eq_true rfl⟩ rfl (Nat.le_of_ble_eq_true rfl) rfl ?_
    refine ab_i2l_ (pc := 152) dX9_advance_152 ?_
    refine ab_ldc2 (x := (48 : Int)) (pc := 153) dX9_advance_153 ab_ld2_RX9_115 ab_kl_48 ?_
    refine ab_ldc2 (x := (57 : Int)) (pc := 156) dX9_advance_156 ab_ld2_RX9_117 ab_kl_57 ?_
    obtain ⟨q3, hq3, hk⟩ := ab_bnd hk
    refine ab_callSI (st := []) (as := [ab_J q2.1, ab_J (48 : Int), ab_J (57 : Int)]) (pc := 159) dX9_advance_159 ml_RX9_84 my_X9_in ms_X9_in (ct_X9_in hq3) ⟨Nat.le_of_ble_eq_true rfl, Nat.le_of_ble_eq_true rfl⟩ rfl (Nat.le_of_ble_eq_true rfl) rfl ?_
    refine ab_if_eq (pc := 162) (tgt := 206) dX9_advance_162 rfl (fun hc => ?_) (fun hc => ?_)
    · have hk := ab_ifp hk hc
      refine ab_sub_ (lv2 := [some (ab_R v0), none]) (ab_ss (ab_sn ab_s0)) ?_
      exact hk206 _ _ _ hk
    · have hk := ab_ifn hk hc
      refine ab_aload_n (pc := 165) (i := 0) dX9_advance_165 rfl rfl ?_
      refine ab_ldc (x := (99999 : Int)) (pc := 166) dX9_advance_166 ab_ld_RX9_122 ab_k_99999 ?_
      refine ab_bipush (pc := 168) dX9_advance_168 ab_p8_10 ab_k_10 ?_
      refine ab_aload_n (pc := 170) (i := 0) dX9_advance_170 rfl rfl ?_
      obtain ⟨t4, ht4, hk⟩ := ab_bnd hk
      refine ab_getI (pc := 171) dX9_advance_171 fl_RX9_119 ht4 ?_
      refine ab_imul (pc := 174) dX9_advance_174 ?_
      refine ab_aload_n (pc := 175) (i := 0) dX9_advance_175 rfl rfl ?_
      refine ab_aload_n (pc := 176) (i := 0) dX9_advance_176 rfl rfl ?_
      obtain ⟨t5, ht5, hk⟩ := ab_bnd hk
      refine ab_getI (pc := 177) dX9_advance_177 fl_RX9_98 ht5 ?_
      obtain ⟨q6, hq6, hk⟩ := ab_bnd hk
      obtain ⟨hb, hq6⟩ := ab_on_some hq6
      refine ab_callVI (st := [ab_I (ab_w32 ((10 : Int) * t4)), ab_I (99999 : Int), ab_R v0]) (as := [ab_I t5]) (b := v0) (pc := 180) dX9_advance_180 ml_RX9_101 my_X9_see0 mv_X9_see0 hb (ct_X9_see0 hq6) ⟨Nat.le_of_ble_eq_true rfl, Nat.le_of_ble_eq_true rfl⟩ rfl (Nat.le_of_ble_eq_true rfl) rfl ?_
      refine ab_iadd (pc := 183) dX9_advance_183 ?_
      refine ab_bipush (pc := 184) dX9_advance_184 ab_p8_48 ab_k_48 ?_
      refine ab_isub (pc := 186) dX9_advance_186 ?_
      refine ab_mmin_ (st := [ab_R v0]) (pc := 187) dX9_advance_187 mt_RX9_123 (Nat.le_of_ble_eq_true rfl) (Nat.le_of_ble_eq_true rfl) (Nat.le_of_ble_eq_true rfl) ?_
      obtain ⟨h1, hh1, hk⟩ := ab_bnd hk
      refine ab_putI_ (pc := 190) dX9_advance_190 fl_RX9_119 (fun q => by cases q) hh1 ?_
      refine ab_aload_n (pc := 193) (i := 0) dX9_advance_193 rfl rfl ?_
      refine ab_dup (pc := 194) dX9_advance_194 rfl ?_
      obtain ⟨t7, ht7, hk⟩ := ab_bnd hk
      refine ab_getI (pc := 195) dX9_advance_195 fl_RX9_98 ht7 ?_
      refine ab_iconst (pc := 198) dX9_advance_198 ab_k_1 ?_
      refine ab_iadd (pc := 199) dX9_advance_199 ?_
      obtain ⟨h2, hh2, hk⟩ := ab_bnd hk
      refine ab_putI_ (pc := 200) dX9_advance_200 fl_RX9_98 (fun q => by cases q) hh2 ?_
      refine ab_goto (pc := 203) (tgt := 144) dX9_advance_203 rfl ?_
      refine ab_sub_ (lv2 := [some (ab_R v0), none]) (ab_ss (ab_sn ab_s0)) ?_
      exact ih _ _ _ hk
noncomputable def f_X9_advance_L83 (k117 : Int → ab_H → Option ab_H) : Nat → Int → ab_H → Option ab_H
  | 0, _, _ => none
  | n + 1, v0, h =>
    (ab_get h 10 6 v0).bind fun t1 =>
    (ab_on h 10 v0 (f_X9_see0 v0 t1 h)).bind fun q2 =>
    (f_X9_in q2.1 (97 : Int) (122 : Int) q2.2).bind fun q3 =>
    if q3.1 = (0 : Int) then
      k117 v0 q3.2
    else
    (ab_get q3.2 10 6 v0).bind fun t4 =>
    (ab_put q3.2 10 6 v0 (ab_w32 (t4 + (1 : Int)))).bind fun h1 =>
    f_X9_advance_L83 k117 n v0 h1
set_option maxRecDepth 20000 in
theorem e_X9_advance_L83 {k117 : Int → ab_H → Option ab_H} (hk117 : ∀ (v0 : Int) (h : ab_H) (q : ab_H), k117 v0 h = some q → ab_E mm_X9_advance cX9_advance 117 [some (ab_R v0), none] [] h none q) : ∀ (n : Nat) (v0 : Int) (h : ab_H) (q : ab_H), f_X9_advance_L83 k117 n v0 h = some q → ab_E mm_X9_advance cX9_advance 83 [some (ab_R v0), none] [] h none q := by
  intro n
  induction n with
  | zero => intro v0 h q hk; cases hk
  | succ n ih =>
    intro v0 h q hk
    unfold f_X9_advance_L83 at hk
    refine ab_aload_n (pc := 83) (i := 0) dX9_advance_83 rfl rfl ?_
    refine ab_aload_n (pc := 84) (i := 0) dX9_advance_84 rfl rfl ?_
    obtain ⟨t1, ht1, hk⟩ := ab_bnd hk
    refine ab_getI (pc := 85) dX9_advance_85 fl_RX9_98 ht1 ?_
    obtain ⟨q2, hq2, hk⟩ := ab_bnd hk
    obtain ⟨hb, hq2⟩ := ab_on_some hq2
    refine ab_callVI (st := []) (as := [ab_I t1]) (b := v0) (pc := 88) dX9_advance_88 ml_RX9_101 my_X9_see0 mv_X9_see0 hb (ct_X9_see0 hq2) ⟨Nat.le_of_ble_eq_true rfl, Nat.le_of_ble_eq_true rfl⟩ rfl (Nat.le_of_ble_eq_true rfl) rfl ?_
    refine ab_i2l_ (pc := 91) dX9_advance_91 ?_
    refine ab_ldc2 (x := (97 : Int)) (pc := 92) dX9_advance_92 ab_ld2_RX9_111 ab_kl_97 ?_
    refine ab_ldc2 (x := (122 : Int)) (pc := 95) dX9_advance_95 ab_ld2_RX9_113 ab_kl_122 ?_
    obtain ⟨q3, hq3, hk⟩ := ab_bnd hk
    refine ab_callSI (st := []) (as := [ab_J q2.1, ab_J (97 : Int), ab_J (122 : Int)]) (pc := 98) dX9_advance_98 ml_RX9_84 my_X9_in ms_X9_in (ct_X9_in hq3) ⟨Nat.le_of_ble_eq_true rfl, Nat.le_of_ble_eq_true rfl⟩ rfl (Nat.le_of_ble_eq_true rfl) rfl ?_
    refine ab_if_eq (pc := 101) (tgt := 117) dX9_advance_101 rfl (fun hc => ?_) (fun hc => ?_)
    · have hk := ab_ifp hk hc
      refine ab_sub_ (lv2 := [some (ab_R v0), none]) (ab_ss (ab_sn ab_s0)) ?_
      exact hk117 _ _ _ hk
    · have hk := ab_ifn hk hc
      refine ab_aload_n (pc := 104) (i := 0) dX9_advance_104 rfl rfl ?_
      refine ab_dup (pc := 105) dX9_advance_105 rfl ?_
      obtain ⟨t4, ht4, hk⟩ := ab_bnd hk
      refine ab_getI (pc := 106) dX9_advance_106 fl_RX9_98 ht4 ?_
      refine ab_iconst (pc := 109) dX9_advance_109 ab_k_1 ?_
      refine ab_iadd (pc := 110) dX9_advance_110 ?_
      obtain ⟨h1, hh1, hk⟩ := ab_bnd hk
      refine ab_putI_ (pc := 111) dX9_advance_111 fl_RX9_98 (fun q => by cases q) hh1 ?_
      refine ab_goto (pc := 114) (tgt := 83) dX9_advance_114 rfl ?_
      refine ab_sub_ (lv2 := [some (ab_R v0), none]) (ab_ss (ab_sn ab_s0)) ?_
      exact ih _ _ _ hk
noncomputable def f_X9_advance_J26 (rec : Int → ab_H → Option ab_H) (k39 : Int → ab_H → Option ab_H) (v0 : Int) (h : ab_H) : Option ab_H :=
  (ab_get h 10 6 v0).bind fun t1 =>
  (ab_put h 10 6 v0 (ab_w32 (t1 + (1 : Int)))).bind fun h1 =>
  rec v0 h1
set_option maxRecDepth 20000 in
theorem e_X9_advance_J26 {rec : Int → ab_H → Option ab_H} {k39 : Int → ab_H → Option ab_H} (hrec : ∀ (v0 : Int) (h : ab_H) (q : ab_H), rec v0 h = some q → ab_E mm_X9_advance cX9_advance 0 [some (ab_R v0), none] [] h none q) (hk39 : ∀ (v0 : Int) (h : ab_H) (q : ab_H), k39 v0 h = some q → ab_E mm_X9_advance cX9_advance 39 [some (ab_R v0), none] [] h none q) : ∀ (v0 : Int) (h : ab_H) (q : ab_H), f_X9_advance_J26 rec k39 v0 h = some q → ab_E mm_X9_advance cX9_advance 26 [some (ab_R v0), none] [] h none q := by
  intro v0 h q hk
  unfold f_X9_advance_J26 at hk
  refine ab_aload_n (pc := 26) (i := 0) dX9_advance_26 rfl rfl ?_
  refine ab_dup (pc := 27) dX9_advance_27 rfl ?_
  obtain ⟨t1, ht1, hk⟩ := ab_bnd hk
  refine ab_getI (pc := 28) dX9_advance_28 fl_RX9_98 ht1 ?_
  refine ab_iconst (pc := 31) dX9_advance_31 ab_k_1 ?_
  refine ab_iadd (pc := 32) dX9_advance_32 ?_
  obtain ⟨h1, hh1, hk⟩ := ab_bnd hk
  refine ab_putI_ (pc := 33) dX9_advance_33 fl_RX9_98 (fun q => by cases q) hh1 ?_
  refine ab_goto (pc := 36) (tgt := 0) dX9_advance_36 rfl ?_
  refine ab_sub_ (lv2 := [some (ab_R v0), none]) (ab_ss (ab_sn ab_s0)) ?_
  exact hrec _ _ _ hk
noncomputable def f_X9_advance_L0 (k39 : Int → ab_H → Option ab_H) : Nat → Int → ab_H → Option ab_H
  | 0, _, _ => none
  | n + 1, v0, h =>
    (ab_get h 10 6 v0).bind fun t1 =>
    (ab_on h 10 v0 (f_X9_see0 v0 t1 h)).bind fun q2 =>
    if q2.1 = (32 : Int) then
      f_X9_advance_J26 (f_X9_advance_L0 k39 n) k39 v0 q2.2
    else
    (ab_get q2.2 10 6 v0).bind fun t3 =>
    (ab_on q2.2 10 v0 (f_X9_see0 v0 t3 q2.2)).bind fun q4 =>
    if q4.1 = (10 : Int) then
      f_X9_advance_J26 (f_X9_advance_L0 k39 n) k39 v0 q4.2
    else
    k39 v0 q4.2
set_option maxRecDepth 20000 in
theorem e_X9_advance_L0 {k39 : Int → ab_H → Option ab_H} (hk39 : ∀ (v0 : Int) (h : ab_H) (q : ab_H), k39 v0 h = some q → ab_E mm_X9_advance cX9_advance 39 [some (ab_R v0), none] [] h none q) : ∀ (n : Nat) (v0 : Int) (h : ab_H) (q : ab_H), f_X9_advance_L0 k39 n v0 h = some q → ab_E mm_X9_advance cX9_advance 0 [some (ab_R v0), none] [] h none q := by
  intro n
  induction n with
  | zero => intro v0 h q hk; cases hk
  | succ n ih =>
    intro v0 h q hk
    unfold f_X9_advance_L0 at hk
    refine ab_aload_n (pc := 0) (i := 0) dX9_advance_0 rfl rfl ?_
    refine ab_aload_n (pc := 1) (i := 0) dX9_advance_1 rfl rfl ?_
    obtain ⟨t1, ht1, hk⟩ := ab_bnd hk
    refine ab_getI (pc := 2) dX9_advance_2 fl_RX9_98 ht1 ?_
    obtain ⟨q2, hq2, hk⟩ := ab_bnd hk
    obtain ⟨hb, hq2⟩ := ab_on_some hq2
    refine ab_callVI (st := []) (as := [ab_I t1]) (b := v0) (pc := 5) dX9_advance_5 ml_RX9_101 my_X9_see0 mv_X9_see0 hb (ct_X9_see0 hq2) ⟨Nat.le_of_ble_eq_true rfl, Nat.le_of_ble_eq_true rfl⟩ rfl (Nat.le_of_ble_eq_true rfl) rfl ?_
    refine ab_bipush (pc := 8) dX9_advance_8 ab_p8_32 ab_k_32 ?_
    refine ab_icmp_eq (pc := 10) (tgt := 26) dX9_advance_10 rfl (fun hc => ?_) (fun hc => ?_)
    · have hk := ab_ifp hk hc
      refine ab_sub_ (lv2 := [some (ab_R v0), none]) (ab_ss (ab_sn ab_s0)) ?_
      exact e_X9_advance_J26 ih hk39 _ _ _ hk
    · have hk := ab_ifn hk hc
      refine ab_aload_n (pc := 13) (i := 0) dX9_advance_13 rfl rfl ?_
      refine ab_aload_n (pc := 14) (i := 0) dX9_advance_14 rfl rfl ?_
      obtain ⟨t3, ht3, hk⟩ := ab_bnd hk
      refine ab_getI (pc := 15) dX9_advance_15 fl_RX9_98 ht3 ?_
      obtain ⟨q4, hq4, hk⟩ := ab_bnd hk
      obtain ⟨hb, hq4⟩ := ab_on_some hq4
      refine ab_callVI (st := []) (as := [ab_I t3]) (b := v0) (pc := 18) dX9_advance_18 ml_RX9_101 my_X9_see0 mv_X9_see0 hb (ct_X9_see0 hq4) ⟨Nat.le_of_ble_eq_true rfl, Nat.le_of_ble_eq_true rfl⟩ rfl (Nat.le_of_ble_eq_true rfl) rfl ?_
      refine ab_bipush (pc := 21) dX9_advance_21 ab_p8_10 ab_k_10 ?_
      refine ab_icmp_ne (pc := 23) (tgt := 39) dX9_advance_23 rfl (fun hc => ?_) (fun hc => ?_)
      · have hk := ab_ifn hk hc
        refine ab_sub_ (lv2 := [some (ab_R v0), none]) (ab_ss (ab_sn ab_s0)) ?_
        exact hk39 _ _ _ hk
      · have hk := ab_ifp hk hc
        refine ab_sub_ (lv2 := [some (ab_R v0), none]) (ab_ss (ab_sn ab_s0)) ?_
        exact e_X9_advance_J26 ih hk39 _ _ _ hk
noncomputable def f_X9_advance (a0 : Int) (h : ab_H) : Option ab_H :=
  f_X9_advance_L0 (fun w39_0 hx39 =>
    (ab_get hx39 10 6 w39_0).bind fun t1 =>
    (ab_put hx39 10 7 w39_0 t1).bind fun h1 =>
    (ab_get h1 10 6 w39_0).bind fun t2 =>
    (ab_on h1 10 w39_0 (f_X9_see0 w39_0 t2 h1)).bind fun q3 =>
    if q3.1 = (-1 : Int) then
      (ab_put q3.2 10 8 w39_0 (0 : Int)).bind fun h8 =>
      some h8
    else
    (f_X9_in q3.1 (97 : Int) (122 : Int) q3.2).bind fun q4 =>
    if q4.1 = (0 : Int) then
      (f_X9_in q3.1 (48 : Int) (57 : Int) q4.2).bind fun q5 =>
      if q5.1 = (0 : Int) then
        (ab_put q5.2 10 8 w39_0 (3 : Int)).bind fun h2 =>
        (ab_put h2 10 9 w39_0 q3.1).bind fun h3 =>
        (ab_get h3 10 6 w39_0).bind fun t6 =>
        (ab_put h3 10 6 w39_0 (ab_w32 (t6 + (1 : Int)))).bind fun h4 =>
        some h4
      else
      (ab_put q5.2 10 9 w39_0 (0 : Int)).bind fun h5 =>
      f_X9_advance_L144 (fun w206_0 hx206 =>
        (ab_put hx206 10 8 w206_0 (2 : Int)).bind fun h6 =>
        some h6) ab_FU w39_0 h5
    else
    f_X9_advance_L83 (fun w117_0 hx117 =>
      (ab_put hx117 10 8 w117_0 (1 : Int)).bind fun h7 =>
      some h7) ab_FU w39_0 q4.2) ab_FU a0 h
set_option maxRecDepth 20000 in
theorem ct_X9_advance {a0 : Int} {h : ab_H} {q : ab_H} (hk : f_X9_advance a0 h = some q) : ab_CT yX9_advance cX9_advance 2 none 1 25 [ab_R a0] h none q := by
  refine ab_CT.mk_ 1 (own := RX9) (ini := false) (lv := [some (ab_R a0), none]) rfl (by decide +kernel) (fun q => by cases q) rfl rfl ?_
  unfold f_X9_advance at hk
  show ab_E mm_X9_advance cX9_advance 0 _ [] h _ _
  refine ab_sub_ (lv2 := [some (ab_R a0), none]) (ab_ss (ab_sn ab_s0)) ?_
  refine e_X9_advance_L0 (fun w39_0 hx39 q hk => ?_) _ _ _ _ hk
  · skip
    refine ab_aload_n (pc := 39) (i := 0) dX9_advance_39 rfl rfl ?_
    refine ab_aload_n (pc := 40) (i := 0) dX9_advance_40 rfl rfl ?_
    obtain ⟨t1, ht1, hk⟩ := ab_bnd hk
    refine ab_getI (pc := 41) dX9_advance_41 fl_RX9_98 ht1 ?_
    obtain ⟨h1, hh1, hk⟩ := ab_bnd hk
    refine ab_putI_ (pc := 44) dX9_advance_44 fl_RX9_105 (fun q => by cases q) hh1 ?_
    refine ab_aload_n (pc := 47) (i := 0) dX9_advance_47 rfl rfl ?_
    refine ab_aload_n (pc := 48) (i := 0) dX9_advance_48 rfl rfl ?_
    obtain ⟨t2, ht2, hk⟩ := ab_bnd hk
    refine ab_getI (pc := 49) dX9_advance_49 fl_RX9_98 ht2 ?_
    obtain ⟨q3, hq3, hk⟩ := ab_bnd hk
    obtain ⟨hb, hq3⟩ := ab_on_some hq3
    refine ab_callVI (st := []) (as := [ab_I t2]) (b := w39_0) (pc := 52) dX9_advance_52 ml_RX9_101 my_X9_see0 mv_X9_see0 hb (ct_X9_see0 hq3) ⟨Nat.le_of_ble_eq_true rfl, Nat.le_of_ble_eq_true rfl⟩ rfl (Nat.le_of_ble_eq_true rfl) rfl ?_
    refine ab_istore_n (pc := 55) (i := 1) (lv2 := [some (ab_R w39_0), some (ab_I q3.1)]) dX9_advance_55 rfl (Nat.le_of_ble_eq_true rfl) rfl rfl ?_
    refine ab_iload_n (pc := 56) (i := 1) dX9_advance_56 rfl rfl ?_
    refine ab_iconst (pc := 57) dX9_advance_57 ab_k_m1 ?_
    refine ab_icmp_ne (pc := 58) (tgt := 69) dX9_advance_58 rfl (fun hc => ?_) (fun hc => ?_)
    · have hk := ab_ifn hk hc
      refine ab_iload_n (pc := 69) (i := 1) dX9_advance_69 rfl rfl ?_
      refine ab_i2l_ (pc := 70) dX9_advance_70 ?_
      refine ab_ldc2 (x := (97 : Int)) (pc := 71) dX9_advance_71 ab_ld2_RX9_111 ab_kl_97 ?_
      refine ab_ldc2 (x := (122 : Int)) (pc := 74) dX9_advance_74 ab_ld2_RX9_113 ab_kl_122 ?_
      obtain ⟨q4, hq4, hk⟩ := ab_bnd hk
      refine ab_callSI (st := []) (as := [ab_J q3.1, ab_J (97 : Int), ab_J (122 : Int)]) (pc := 77) dX9_advance_77 ml_RX9_84 my_X9_in ms_X9_in (ct_X9_in hq4) ⟨Nat.le_of_ble_eq_true rfl, Nat.le_of_ble_eq_true rfl⟩ rfl (Nat.le_of_ble_eq_true rfl) rfl ?_
      refine ab_if_eq (pc := 80) (tgt := 125) dX9_advance_80 rfl (fun hc => ?_) (fun hc => ?_)
      · have hk := ab_ifp hk hc
        refine ab_iload_n (pc := 125) (i := 1) dX9_advance_125 rfl rfl ?_
        refine ab_i2l_ (pc := 126) dX9_advance_126 ?_
        refine ab_ldc2 (x := (48 : Int)) (pc := 127) dX9_advance_127 ab_ld2_RX9_115 ab_kl_48 ?_
        refine ab_ldc2 (x := (57 : Int)) (pc := 130) dX9_advance_130 ab_ld2_RX9_117 ab_kl_57 ?_
        obtain ⟨q5, hq5, hk⟩ := ab_bnd hk
        refine ab_callSI (st := []) (as := [ab_J q3.1, ab_J (48 : Int), ab_J (57 : Int)]) (pc := 133) dX9_advance_133 ml_RX9_84 my_X9_in ms_X9_in (ct_X9_in hq5) ⟨Nat.le_of_ble_eq_true rfl, Nat.le_of_ble_eq_true rfl⟩ rfl (Nat.le_of_ble_eq_true rfl) rfl ?_
        refine ab_if_eq (pc := 136) (tgt := 214) dX9_advance_136 rfl (fun hc => ?_) (fun hc => ?_)
        · have hk := ab_ifp hk hc
          refine ab_aload_n (pc := 214) (i := 0) dX9_advance_214 rfl rfl ?_
          refine ab_iconst (pc := 215) dX9_advance_215 ab_k_3 ?_
          obtain ⟨h2, hh2, hk⟩ := ab_bnd hk
          refine ab_putI_ (pc := 216) dX9_advance_216 fl_RX9_108 (fun q => by cases q) hh2 ?_
          refine ab_aload_n (pc := 219) (i := 0) dX9_advance_219 rfl rfl ?_
          refine ab_iload_n (pc := 220) (i := 1) dX9_advance_220 rfl rfl ?_
          obtain ⟨h3, hh3, hk⟩ := ab_bnd hk
          refine ab_putI_ (pc := 221) dX9_advance_221 fl_RX9_119 (fun q => by cases q) hh3 ?_
          refine ab_aload_n (pc := 224) (i := 0) dX9_advance_224 rfl rfl ?_
          refine ab_dup (pc := 225) dX9_advance_225 rfl ?_
          obtain ⟨t6, ht6, hk⟩ := ab_bnd hk
          refine ab_getI (pc := 226) dX9_advance_226 fl_RX9_98 ht6 ?_
          refine ab_iconst (pc := 229) dX9_advance_229 ab_k_1 ?_
          refine ab_iadd (pc := 230) dX9_advance_230 ?_
          obtain ⟨h4, hh4, hk⟩ := ab_bnd hk
          refine ab_putI_ (pc := 231) dX9_advance_231 fl_RX9_98 (fun q => by cases q) hh4 ?_
          obtain rfl := Option.some.inj hk
          exact ab_retv (pc := 234) dX9_advance_234 rfl
        · have hk := ab_ifn hk hc
          refine ab_aload_n (pc := 139) (i := 0) dX9_advance_139 rfl rfl ?_
          refine ab_iconst (pc := 140) dX9_advance_140 ab_k_0 ?_
          obtain ⟨h5, hh5, hk⟩ := ab_bnd hk
          refine ab_putI_ (pc := 141) dX9_advance_141 fl_RX9_119 (fun q => by cases q) hh5 ?_
          refine ab_sub_ (lv2 := [some (ab_R w39_0), none]) (ab_ss (ab_sn ab_s0)) ?_
          refine e_X9_advance_L144 (fun w206_0 hx206 q hk => ?_) _ _ _ _ hk
          · skip
            refine ab_aload_n (pc := 206) (i := 0) dX9_advance_206 rfl rfl ?_
            refine ab_iconst (pc := 207) dX9_advance_207 ab_k_2 ?_
            obtain ⟨h6, hh6, hk⟩ := ab_bnd hk
            refine ab_putI_ (pc := 208) dX9_advance_208 fl_RX9_108 (fun q => by cases q) hh6 ?_
            refine ab_goto (pc := 211) (tgt := 234) dX9_advance_211 rfl ?_
            obtain rfl := Option.some.inj hk
            exact ab_retv (pc := 234) dX9_advance_234 rfl
      · have hk := ab_ifn hk hc
        refine ab_sub_ (lv2 := [some (ab_R w39_0), none]) (ab_ss (ab_sn ab_s0)) ?_
        refine e_X9_advance_L83 (fun w117_0 hx117 q hk => ?_) _ _ _ _ hk
        · skip
          refine ab_aload_n (pc := 117) (i := 0) dX9_advance_117 rfl rfl ?_
          refine ab_iconst (pc := 118) dX9_advance_118 ab_k_1 ?_
          obtain ⟨h7, hh7, hk⟩ := ab_bnd hk
          refine ab_putI_ (pc := 119) dX9_advance_119 fl_RX9_108 (fun q => by cases q) hh7 ?_
          refine ab_goto (pc := 122) (tgt := 234) dX9_advance_122 rfl ?_
          obtain rfl := Option.some.inj hk
          exact ab_retv (pc := 234) dX9_advance_234 rfl
    · have hk := ab_ifp hk hc
      refine ab_aload_n (pc := 61) (i := 0) dX9_advance_61 rfl rfl ?_
      refine ab_iconst (pc := 62) dX9_advance_62 ab_k_0 ?_
      obtain ⟨h8, hh8, hk⟩ := ab_bnd hk
      refine ab_putI_ (pc := 63) dX9_advance_63 fl_RX9_108 (fun q => by cases q) hh8 ?_
      refine ab_goto (pc := 66) (tgt := 234) dX9_advance_66 rfl ?_
      obtain rfl := Option.some.inj hk
      exact ab_retv (pc := 234) dX9_advance_234 rfl
theorem dX9_isWord_0 : decode cX9_isWord 0 = .ok (.aload_n 0, 1) := by decide +kernel
theorem dX9_isWord_1 : decode cX9_isWord 1 = .ok (.invokevirtual 91, 3) := by decide +kernel
theorem dX9_isWord_4 : decode cX9_isWord 4 = .ok (.ifCond .eq 31, 3) := by decide +kernel
theorem dX9_isWord_7 : decode cX9_isWord 7 = .ok (.aload_n 0, 1) := by decide +kernel
theorem dX9_isWord_8 : decode cX9_isWord 8 = .ok (.getfield 108, 3) := by decide +kernel
theorem dX9_isWord_11 : decode cX9_isWord 11 = .ok (.iconst 1, 1) := by decide +kernel
theorem dX9_isWord_12 : decode cX9_isWord 12 = .ok (.if_icmp .ne 23, 3) := by decide +kernel
theorem dX9_isWord_15 : decode cX9_isWord 15 = .ok (.aload_n 0, 1) := by decide +kernel
theorem dX9_isWord_16 : decode cX9_isWord 16 = .ok (.getfield 98, 3) := by decide +kernel
theorem dX9_isWord_19 : decode cX9_isWord 19 = .ok (.aload_n 0, 1) := by decide +kernel
theorem dX9_isWord_20 : decode cX9_isWord 20 = .ok (.getfield 105, 3) := by decide +kernel
theorem dX9_isWord_23 : decode cX9_isWord 23 = .ok (.isub, 1) := by decide +kernel
theorem dX9_isWord_24 : decode cX9_isWord 24 = .ok (.aload_n 1, 1) := by decide +kernel
theorem dX9_isWord_25 : decode cX9_isWord 25 = .ok (.invokevirtual 128, 3) := by decide +kernel
theorem dX9_isWord_28 : decode cX9_isWord 28 = .ok (.if_icmp .ne 7, 3) := by decide +kernel
theorem dX9_isWord_31 : decode cX9_isWord 31 = .ok (.iconst 1, 1) := by decide +kernel
theorem dX9_isWord_32 : decode cX9_isWord 32 = .ok (.goto 4, 3) := by decide +kernel
theorem dX9_isWord_35 : decode cX9_isWord 35 = .ok (.iconst 0, 1) := by decide +kernel
theorem dX9_isWord_36 : decode cX9_isWord 36 = .ok (.istore_n 2, 1) := by decide +kernel
theorem dX9_isWord_37 : decode cX9_isWord 37 = .ok (.iconst 0, 1) := by decide +kernel
theorem dX9_isWord_38 : decode cX9_isWord 38 = .ok (.istore_n 3, 1) := by decide +kernel
theorem dX9_isWord_39 : decode cX9_isWord 39 = .ok (.iload_n 3, 1) := by decide +kernel
theorem dX9_isWord_40 : decode cX9_isWord 40 = .ok (.aload_n 1, 1) := by decide +kernel
theorem dX9_isWord_41 : decode cX9_isWord 41 = .ok (.invokevirtual 128, 3) := by decide +kernel
theorem dX9_isWord_44 : decode cX9_isWord 44 = .ok (.if_icmp .ge 38, 3) := by decide +kernel
theorem dX9_isWord_47 : decode cX9_isWord 47 = .ok (.iload_n 2, 1) := by decide +kernel
theorem dX9_isWord_48 : decode cX9_isWord 48 = .ok (.ifCond .eq 34, 3) := by decide +kernel
theorem dX9_isWord_51 : decode cX9_isWord 51 = .ok (.aload_n 0, 1) := by decide +kernel
theorem dX9_isWord_52 : decode cX9_isWord 52 = .ok (.getfield 16, 3) := by decide +kernel
theorem dX9_isWord_55 : decode cX9_isWord 55 = .ok (.aload_n 0, 1) := by decide +kernel
theorem dX9_isWord_56 : decode cX9_isWord 56 = .ok (.getfield 105, 3) := by decide +kernel
theorem dX9_isWord_59 : decode cX9_isWord 59 = .ok (.iload_n 3, 1) := by decide +kernel
theorem dX9_isWord_60 : decode cX9_isWord 60 = .ok (.iadd, 1) := by decide +kernel
theorem dX9_isWord_61 : decode cX9_isWord 61 = .ok (.baload, 1) := by decide +kernel
theorem dX9_isWord_62 : decode cX9_isWord 62 = .ok (.aload_n 1, 1) := by decide +kernel
theorem dX9_isWord_63 : decode cX9_isWord 63 = .ok (.iload_n 3, 1) := by decide +kernel
theorem dX9_isWord_64 : decode cX9_isWord 64 = .ok (.invokevirtual 134, 3) := by decide +kernel
theorem dX9_isWord_67 : decode cX9_isWord 67 = .ok (.if_icmp .ne 7, 3) := by decide +kernel
theorem dX9_isWord_70 : decode cX9_isWord 70 = .ok (.iconst 1, 1) := by decide +kernel
theorem dX9_isWord_71 : decode cX9_isWord 71 = .ok (.goto 4, 3) := by decide +kernel
theorem dX9_isWord_74 : decode cX9_isWord 74 = .ok (.iconst 0, 1) := by decide +kernel
theorem dX9_isWord_75 : decode cX9_isWord 75 = .ok (.istore_n 2, 1) := by decide +kernel
theorem dX9_isWord_76 : decode cX9_isWord 76 = .ok (.iinc 3 1, 3) := by decide +kernel
theorem dX9_isWord_79 : decode cX9_isWord 79 = .ok (.goto (-40), 3) := by decide +kernel
theorem dX9_isWord_82 : decode cX9_isWord 82 = .ok (.iload_n 2, 1) := by decide +kernel
theorem dX9_isWord_83 : decode cX9_isWord 83 = .ok (.ireturn, 1) := by decide +kernel
abbrev mm_X9_isWord : ab_M := (RX9, 4, (some .boolean), false, 5, 150, none)
noncomputable def f_X9_isWord_J75 (rec : Int → Int → Int → Int → ab_H → Option (Int × ab_H)) (v0 : Int) (v1 : Int) (v3 : Int) (s0 : Int) (h : ab_H) : Option (Int × ab_H) :=
  rec v0 v1 s0 (ab_w32 (v3 + (1 : Int))) h
set_option maxRecDepth 20000 in
theorem e_X9_isWord_J75 {rec : Int → Int → Int → Int → ab_H → Option (Int × ab_H)} (hrec : ∀ (v0 : Int) (v1 : Int) (v2 : Int) (v3 : Int) (h : ab_H) (q : Int × ab_H), rec v0 v1 v2 v3 h = some q → ab_E mm_X9_isWord cX9_isWord 39 [some (ab_R v0), some (ab_R v1), some (ab_I v2), some (ab_I v3)] [] h (some (ab_I q.1)) q.2) : ∀ (v0 : Int) (v1 : Int) (v3 : Int) (s0 : Int) (h : ab_H) (q : Int × ab_H), f_X9_isWord_J75 rec v0 v1 v3 s0 h = some q → ab_E mm_X9_isWord cX9_isWord 75 [some (ab_R v0), some (ab_R v1), none, some (ab_I v3)] [ab_I s0] h (some (ab_I q.1)) q.2 := by
  intro v0 v1 v3 s0 h q hk
  unfold f_X9_isWord_J75 at hk
  refine ab_istore_n (pc := 75) (i := 2) (lv2 := [some (ab_R v0), some (ab_R v1), some (ab_I s0), some (ab_I v3)]) dX9_isWord_75 rfl (Nat.le_of_ble_eq_true rfl) rfl rfl ?_
  refine ab_iinc (pc := 76) (i := 3) (lv2 := [some (ab_R v0), some (ab_R v1), some (ab_I s0), some (ab_I (ab_w32 (v3 + (1 : Int))))]) dX9_isWord_76 rfl (Nat.le_of_ble_eq_true rfl) rfl rfl ?_
  refine ab_goto (pc := 79) (tgt := 39) dX9_isWord_79 rfl ?_
  refine ab_sub_ (lv2 := [some (ab_R v0), some (ab_R v1), some (ab_I s0), some (ab_I (ab_w32 (v3 + (1 : Int))))]) (ab_ss (ab_ss (ab_ss (ab_ss ab_s0)))) ?_
  exact hrec _ _ _ _ _ _ hk
noncomputable def f_X9_isWord_L39 : Nat → Int → Int → Int → Int → ab_H → Option (Int × ab_H)
  | 0, _, _, _, _, _ => none
  | n + 1, v0, v1, v2, v3, h =>
    (ab_slen v1).bind fun t1 =>
    if t1 ≤ v3 then
      ab_if (decide (v2 = 0 ∨ v2 = 1)) <|
      some (v2, h)
    else
    if v2 = (0 : Int) then
      ab_if (decide (v2 = 0 ∨ v2 = 1)) <|
      some (v2, h)
    else
    (ab_get h 10 3 v0).bind fun t2 =>
    (ab_get h 10 7 v0).bind fun t3 =>
    (ab_ald h 13 t2 (ab_w32 (t3 + v3))).bind fun t4 =>
    (ab_schr v1 v3).bind fun t5 =>
    if t4 = t5 then
      f_X9_isWord_J75 (f_X9_isWord_L39 n) v0 v1 v3 (1 : Int) h
    else
    f_X9_isWord_J75 (f_X9_isWord_L39 n) v0 v1 v3 (0 : Int) h
set_option maxRecDepth 20000 in
theorem e_X9_isWord_L39 : ∀ (n : Nat) (v0 : Int) (v1 : Int) (v2 : Int) (v3 : Int) (h : ab_H) (q : Int × ab_H), f_X9_isWord_L39 n v0 v1 v2 v3 h = some q → ab_E mm_X9_isWord cX9_isWord 39 [some (ab_R v0), some (ab_R v1), some (ab_I v2), some (ab_I v3)] [] h (some (ab_I q.1)) q.2 := by
  intro n
  induction n with
  | zero => intro v0 v1 v2 v3 h q hk; cases hk
  | succ n ih =>
    intro v0 v1 v2 v3 h q hk
    unfold f_X9_isWord_L39 at hk
    refine ab_iload_n (pc := 39) (i := 3) dX9_isWord_39 rfl rfl ?_
    refine ab_aload_n (pc := 40) (i := 1) dX9_isWord_40 rfl rfl ?_
    obtain ⟨t1, ht1, hk⟩ := ab_bnd hk
    refine ab_slen_ (st := [ab_I v3]) (pc := 41) dX9_isWord_41 sl_RX9_128 ht1 (Nat.le_of_ble_eq_true rfl) (Nat.le_of_ble_eq_true rfl) (Nat.le_of_ble_eq_true rfl) ?_
    refine ab_icmp_ge (pc := 44) (tgt := 82) dX9_isWord_44 rfl (fun hc => ?_) (fun hc => ?_)
    · have hk := ab_ifp hk hc
      refine ab_iload_n (pc := 82) (i := 2) dX9_isWord_82 rfl rfl ?_
      obtain ⟨hg, hk⟩ := ab_if_some hk
      obtain rfl := Option.some.inj hk
      exact ab_retz (pc := 83) dX9_isWord_83 rfl hg
    · have hk := ab_ifn hk hc
      refine ab_iload_n (pc := 47) (i := 2) dX9_isWord_47 rfl rfl ?_
      refine ab_if_eq (pc := 48) (tgt := 82) dX9_isWord_48 rfl (fun hc => ?_) (fun hc => ?_)
      · have hk := ab_ifp hk hc
        refine ab_iload_n (pc := 82) (i := 2) dX9_isWord_82 rfl rfl ?_
        obtain ⟨hg, hk⟩ := ab_if_some hk
        obtain rfl := Option.some.inj hk
        exact ab_retz (pc := 83) dX9_isWord_83 rfl hg
      · have hk := ab_ifn hk hc
        refine ab_aload_n (pc := 51) (i := 0) dX9_isWord_51 rfl rfl ?_
        obtain ⟨t2, ht2, hk⟩ := ab_bnd hk
        refine ab_getR (pc := 52) dX9_isWord_52 fl_RX9_16 ht2 ?_
        refine ab_aload_n (pc := 55) (i := 0) dX9_isWord_55 rfl rfl ?_
        obtain ⟨t3, ht3, hk⟩ := ab_bnd hk
        refine ab_getI (pc := 56) dX9_isWord_56 fl_RX9_105 ht3 ?_
        refine ab_iload_n (pc := 59) (i := 3) dX9_isWord_59 rfl rfl ?_
        refine ab_iadd (pc := 60) dX9_isWord_60 ?_
        obtain ⟨t4, ht4, hk⟩ := ab_bnd hk
        refine ab_bald (pc := 61) dX9_isWord_61 ht4 ?_
        refine ab_aload_n (pc := 62) (i := 1) dX9_isWord_62 rfl rfl ?_
        refine ab_iload_n (pc := 63) (i := 3) dX9_isWord_63 rfl rfl ?_
        obtain ⟨t5, ht5, hk⟩ := ab_bnd hk
        refine ab_schr_ (st := [ab_I t4]) (pc := 64) dX9_isWord_64 sl_RX9_134 ht5 (Nat.le_of_ble_eq_true rfl) (Nat.le_of_ble_eq_true rfl) (Nat.le_of_ble_eq_true rfl) ?_
        refine ab_icmp_ne (pc := 67) (tgt := 74) dX9_isWord_67 rfl (fun hc => ?_) (fun hc => ?_)
        · have hk := ab_ifn hk hc
          refine ab_iconst (pc := 74) dX9_isWord_74 ab_k_0 ?_
          refine ab_sub_ (lv2 := [some (ab_R v0), some (ab_R v1), none, some (ab_I v3)]) (ab_ss (ab_ss (ab_sn (ab_ss ab_s0)))) ?_
          exact e_X9_isWord_J75 ih _ _ _ _ _ _ hk
        · have hk := ab_ifp hk hc
          refine ab_iconst (pc := 70) dX9_isWord_70 ab_k_1 ?_
          refine ab_goto (pc := 71) (tgt := 75) dX9_isWord_71 rfl ?_
          refine ab_sub_ (lv2 := [some (ab_R v0), some (ab_R v1), none, some (ab_I v3)]) (ab_ss (ab_ss (ab_sn (ab_ss ab_s0)))) ?_
          exact e_X9_isWord_J75 ih _ _ _ _ _ _ hk
noncomputable def f_X9_isWord_J36 (v0 : Int) (v1 : Int) (s0 : Int) (h : ab_H) : Option (Int × ab_H) :=
  f_X9_isWord_L39 ab_FU v0 v1 s0 (0 : Int) h
set_option maxRecDepth 20000 in
theorem e_X9_isWord_J36 : ∀ (v0 : Int) (v1 : Int) (s0 : Int) (h : ab_H) (q : Int × ab_H), f_X9_isWord_J36 v0 v1 s0 h = some q → ab_E mm_X9_isWord cX9_isWord 36 [some (ab_R v0), some (ab_R v1), none, none] [ab_I s0] h (some (ab_I q.1)) q.2 := by
  intro v0 v1 s0 h q hk
  unfold f_X9_isWord_J36 at hk
  refine ab_istore_n (pc := 36) (i := 2) (lv2 := [some (ab_R v0), some (ab_R v1), some (ab_I s0), none]) dX9_isWord_36 rfl (Nat.le_of_ble_eq_true rfl) rfl rfl ?_
  refine ab_iconst (pc := 37) dX9_isWord_37 ab_k_0 ?_
  refine ab_istore_n (pc := 38) (i := 3) (lv2 := [some (ab_R v0), some (ab_R v1), some (ab_I s0), some (ab_I (0 : Int))]) dX9_isWord_38 rfl (Nat.le_of_ble_eq_true rfl) rfl rfl ?_
  refine ab_sub_ (lv2 := [some (ab_R v0), some (ab_R v1), some (ab_I s0), some (ab_I (0 : Int))]) (ab_ss (ab_ss (ab_ss (ab_ss ab_s0)))) ?_
  refine e_X9_isWord_L39 _ _ _ _ _ _ _ hk
noncomputable def f_X9_isWord_J35 (v0 : Int) (v1 : Int) (h : ab_H) : Option (Int × ab_H) :=
  f_X9_isWord_J36 v0 v1 (0 : Int) h
set_option maxRecDepth 20000 in
theorem e_X9_isWord_J35 : ∀ (v0 : Int) (v1 : Int) (h : ab_H) (q : Int × ab_H), f_X9_isWord_J35 v0 v1 h = some q → ab_E mm_X9_isWord cX9_isWord 35 [some (ab_R v0), some (ab_R v1), none, none] [] h (some (ab_I q.1)) q.2 := by
  intro v0 v1 h q hk
  unfold f_X9_isWord_J35 at hk
  refine ab_iconst (pc := 35) dX9_isWord_35 ab_k_0 ?_
  refine ab_sub_ (lv2 := [some (ab_R v0), some (ab_R v1), none, none]) (ab_ss (ab_ss (ab_sn (ab_sn ab_s0)))) ?_
  exact e_X9_isWord_J36 _ _ _ _ _ hk
noncomputable def f_X9_isWord (a0 : Int) (a1 : Int) (h : ab_H) : Option (Int × ab_H) :=
  (ab_on h 10 a0 (f_X9_good a0 h)).bind fun q1 =>
  if q1.1 = (0 : Int) then
    f_X9_isWord_J35 a0 a1 q1.2
  else
  (ab_get q1.2 10 8 a0).bind fun t2 =>
  if t2 = (1 : Int) then
    (ab_get q1.2 10 6 a0).bind fun t3 =>
    (ab_get q1.2 10 7 a0).bind fun t4 =>
    (ab_slen a1).bind fun t5 =>
    if ab_w32 (t3 - t4) = t5 then
      f_X9_isWord_J36 a0 a1 (1 : Int) q1.2
    else
    f_X9_isWord_J35 a0 a1 q1.2
  else
  f_X9_isWord_J35 a0 a1 q1.2
set_option maxRecDepth 20000 in
theorem ct_X9_isWord {a0 a1 : Int} {h : ab_H} {q : Int × ab_H} (hk : f_X9_isWord a0 a1 h = some q) : ab_CT yX9_isWord cX9_isWord 4 (some .boolean) 5 150 [ab_R a0, ab_R a1] h (some (ab_I q.1)) q.2 := by
  refine ab_CT.mk_ 2 (own := RX9) (ini := false) (lv := [some (ab_R a0), some (ab_R a1), none, none]) rfl (by decide +kernel) (fun q => by cases q) rfl rfl ?_
  unfold f_X9_isWord at hk
  show ab_E mm_X9_isWord cX9_isWord 0 _ [] h _ _
  refine ab_aload_n (pc := 0) (i := 0) dX9_isWord_0 rfl rfl ?_
  obtain ⟨q1, hq1, hk⟩ := ab_bnd hk
  obtain ⟨hb, hq1⟩ := ab_on_some hq1
  refine ab_callVI (st := []) (as := []) (b := a0) (pc := 1) dX9_isWord_1 ml_RX9_91 my_X9_good mv_X9_good hb (ct_X9_good hq1) ⟨Nat.le_of_ble_eq_true rfl, Nat.le_of_ble_eq_true rfl⟩ rfl (Nat.le_of_ble_eq_true rfl) rfl ?_
  refine ab_if_eq (pc := 4) (tgt := 35) dX9_isWord_4 rfl (fun hc => ?_) (fun hc => ?_)
  · have hk := ab_ifp hk hc
    refine ab_sub_ (lv2 := [some (ab_R a0), some (ab_R a1), none, none]) (ab_ss (ab_ss (ab_sn (ab_sn ab_s0)))) ?_
    exact e_X9_isWord_J35 _ _ _ _ hk
  · have hk := ab_ifn hk hc
    refine ab_aload_n (pc := 7) (i := 0) dX9_isWord_7 rfl rfl ?_
    obtain ⟨t2, ht2, hk⟩ := ab_bnd hk
    refine ab_getI (pc := 8) dX9_isWord_8 fl_RX9_108 ht2 ?_
    refine ab_iconst (pc := 11) dX9_isWord_11 ab_k_1 ?_
    refine ab_icmp_ne (pc := 12) (tgt := 35) dX9_isWord_12 rfl (fun hc => ?_) (fun hc => ?_)
    · have hk := ab_ifn hk hc
      refine ab_sub_ (lv2 := [some (ab_R a0), some (ab_R a1), none, none]) (ab_ss (ab_ss (ab_sn (ab_sn ab_s0)))) ?_
      exact e_X9_isWord_J35 _ _ _ _ hk
    · have hk := ab_ifp hk hc
      refine ab_aload_n (pc := 15) (i := 0) dX9_isWord_15 rfl rfl ?_
      obtain ⟨t3, ht3, hk⟩ := ab_bnd hk
      refine ab_getI (pc := 16) dX9_isWord_16 fl_RX9_98 ht3 ?_
      refine ab_aload_n (pc := 19) (i := 0) dX9_isWord_19 rfl rfl ?_
      obtain ⟨t4, ht4, hk⟩ := ab_bnd hk
      refine ab_getI (pc := 20) dX9_isWord_20 fl_RX9_105 ht4 ?_
      refine ab_isub (pc := 23) dX9_isWord_23 ?_
      refine ab_aload_n (pc := 24) (i := 1) dX9_isWord_24 rfl rfl ?_
      obtain ⟨t5, ht5, hk⟩ := ab_bnd hk
      refine ab_slen_ (st := [ab_I (ab_w32 (t3 - t4))]) (pc := 25) dX9_isWord_25 sl_RX9_128 ht5 (Nat.le_of_ble_eq_true rfl) (Nat.le_of_ble_eq_true rfl) (Nat.le_of_ble_eq_true rfl) ?_
      refine ab_icmp_ne (pc := 28) (tgt := 35) dX9_isWord_28 rfl (fun hc => ?_) (fun hc => ?_)
      · have hk := ab_ifn hk hc
        refine ab_sub_ (lv2 := [some (ab_R a0), some (ab_R a1), none, none]) (ab_ss (ab_ss (ab_sn (ab_sn ab_s0)))) ?_
        exact e_X9_isWord_J35 _ _ _ _ hk
      · have hk := ab_ifp hk hc
        refine ab_iconst (pc := 31) dX9_isWord_31 ab_k_1 ?_
        refine ab_goto (pc := 32) (tgt := 36) dX9_isWord_32 rfl ?_
        refine ab_sub_ (lv2 := [some (ab_R a0), some (ab_R a1), none, none]) (ab_ss (ab_ss (ab_sn (ab_sn ab_s0)))) ?_
        exact e_X9_isWord_J36 _ _ _ _ _ hk
theorem dX9_eats_0 : decode cX9_eats 0 = .ok (.aload_n 0, 1) := by decide +kernel
theorem dX9_eats_1 : decode cX9_eats 1 = .ok (.aload_n 1, 1) := by decide +kernel
theorem dX9_eats_2 : decode cX9_eats 2 = .ok (.invokevirtual 138, 3) := by decide +kernel
theorem dX9_eats_5 : decode cX9_eats 5 = .ok (.ifCond .ne 5, 3) := by decide +kernel
theorem dX9_eats_8 : decode cX9_eats 8 = .ok (.iconst 0, 1) := by decide +kernel
theorem dX9_eats_9 : decode cX9_eats 9 = .ok (.ireturn, 1) := by decide +kernel
theorem dX9_eats_10 : decode cX9_eats 10 = .ok (.aload_n 0, 1) := by decide +kernel
theorem dX9_eats_11 : decode cX9_eats 11 = .ok (.invokevirtual 142, 3) := by decide +kernel
theorem dX9_eats_14 : decode cX9_eats 14 = .ok (.iconst 1, 1) := by decide +kernel
theorem dX9_eats_15 : decode cX9_eats 15 = .ok (.ireturn, 1) := by decide +kernel
abbrev mm_X9_eats : ab_M := (RX9, 2, (some .boolean), false, 6, 173, none)
noncomputable def f_X9_eats (a0 : Int) (a1 : Int) (h : ab_H) : Option (Int × ab_H) :=
  (ab_on h 10 a0 (f_X9_isWord a0 a1 h)).bind fun q1 =>
  if q1.1 = (0 : Int) then
    some ((0 : Int), q1.2)
  else
  (ab_on q1.2 10 a0 (f_X9_advance a0 q1.2)).bind fun q2 =>
  some ((1 : Int), q2)
set_option maxRecDepth 20000 in
theorem ct_X9_eats {a0 a1 : Int} {h : ab_H} {q : Int × ab_H} (hk : f_X9_eats a0 a1 h = some q) : ab_CT yX9_eats cX9_eats 2 (some .boolean) 6 173 [ab_R a0, ab_R a1] h (some (ab_I q.1)) q.2 := by
  refine ab_CT.mk_ 0 (own := RX9) (ini := false) (lv := [some (ab_R a0), some (ab_R a1)]) rfl (by decide +kernel) (fun q => by cases q) rfl rfl ?_
  unfold f_X9_eats at hk
  show ab_E mm_X9_eats cX9_eats 0 _ [] h _ _
  refine ab_aload_n (pc := 0) (i := 0) dX9_eats_0 rfl rfl ?_
  refine ab_aload_n (pc := 1) (i := 1) dX9_eats_1 rfl rfl ?_
  obtain ⟨q1, hq1, hk⟩ := ab_bnd hk
  obtain ⟨hb, hq1⟩ := ab_on_some hq1
  refine ab_callVI (st := []) (as := [ab_R a1]) (b := a0) (pc := 2) dX9_eats_2 ml_RX9_138 my_X9_isWord mv_X9_isWord hb (ct_X9_isWord hq1) ⟨Nat.le_of_ble_eq_true rfl, Nat.le_of_ble_eq_true rfl⟩ rfl (Nat.le_of_ble_eq_true rfl) rfl ?_
  refine ab_if_ne (pc := 5) (tgt := 10) dX9_eats_5 rfl (fun hc => ?_) (fun hc => ?_)
  · have hk := ab_ifn hk hc
    refine ab_aload_n (pc := 10) (i := 0) dX9_eats_10 rfl rfl ?_
    obtain ⟨q2, hq2, hk⟩ := ab_bnd hk
    obtain ⟨hb, hq2⟩ := ab_on_some hq2
    refine ab_callVV (st := []) (as := []) (b := a0) (pc := 11) dX9_eats_11 ml_RX9_142 my_X9_advance mv_X9_advance hb (ct_X9_advance hq2) ⟨Nat.le_of_ble_eq_true rfl, Nat.le_of_ble_eq_true rfl⟩ rfl (Nat.le_of_ble_eq_true rfl) rfl ?_
    refine ab_iconst (pc := 14) dX9_eats_14 ab_k_1 ?_
    obtain rfl := Option.some.inj hk
    exact ab_retz (pc := 15) dX9_eats_15 rfl rfl
  · have hk := ab_ifp hk hc
    refine ab_iconst (pc := 8) dX9_eats_8 ab_k_0 ?_
    obtain rfl := Option.some.inj hk
    exact ab_retz (pc := 9) dX9_eats_9 rfl rfl
theorem dX9_eatsByte_0 : decode cX9_eatsByte 0 = .ok (.aload_n 0, 1) := by decide +kernel
theorem dX9_eatsByte_1 : decode cX9_eatsByte 1 = .ok (.invokevirtual 91, 3) := by decide +kernel
theorem dX9_eatsByte_4 : decode cX9_eatsByte 4 = .ok (.ifCond .eq 19, 3) := by decide +kernel
theorem dX9_eatsByte_7 : decode cX9_eatsByte 7 = .ok (.aload_n 0, 1) := by decide +kernel
theorem dX9_eatsByte_8 : decode cX9_eatsByte 8 = .ok (.getfield 108, 3) := by decide +kernel
theorem dX9_eatsByte_11 : decode cX9_eatsByte 11 = .ok (.iconst 3, 1) := by decide +kernel
theorem dX9_eatsByte_12 : decode cX9_eatsByte 12 = .ok (.if_icmp .ne 11, 3) := by decide +kernel
theorem dX9_eatsByte_15 : decode cX9_eatsByte 15 = .ok (.aload_n 0, 1) := by decide +kernel
theorem dX9_eatsByte_16 : decode cX9_eatsByte 16 = .ok (.getfield 119, 3) := by decide +kernel
theorem dX9_eatsByte_19 : decode cX9_eatsByte 19 = .ok (.iload_n 1, 1) := by decide +kernel
theorem dX9_eatsByte_20 : decode cX9_eatsByte 20 = .ok (.if_icmp .eq 5, 3) := by decide +kernel
theorem dX9_eatsByte_23 : decode cX9_eatsByte 23 = .ok (.iconst 0, 1) := by decide +kernel
theorem dX9_eatsByte_24 : decode cX9_eatsByte 24 = .ok (.ireturn, 1) := by decide +kernel
theorem dX9_eatsByte_25 : decode cX9_eatsByte 25 = .ok (.aload_n 0, 1) := by decide +kernel
theorem dX9_eatsByte_26 : decode cX9_eatsByte 26 = .ok (.invokevirtual 142, 3) := by decide +kernel
theorem dX9_eatsByte_29 : decode cX9_eatsByte 29 = .ok (.iconst 1, 1) := by decide +kernel
theorem dX9_eatsByte_30 : decode cX9_eatsByte 30 = .ok (.ireturn, 1) := by decide +kernel
abbrev mm_X9_eatsByte : ab_M := (RX9, 2, (some .boolean), false, 2, 46, none)
noncomputable def f_X9_eatsByte (a0 : Int) (a1 : Int) (h : ab_H) : Option (Int × ab_H) :=
  (ab_on h 10 a0 (f_X9_good a0 h)).bind fun q1 =>
  if q1.1 = (0 : Int) then
    some ((0 : Int), q1.2)
  else
  (ab_get q1.2 10 8 a0).bind fun t2 =>
  if t2 = (3 : Int) then
    (ab_get q1.2 10 9 a0).bind fun t3 =>
    if t3 = a1 then
      (ab_on q1.2 10 a0 (f_X9_advance a0 q1.2)).bind fun q4 =>
      some ((1 : Int), q4)
    else
    some ((0 : Int), q1.2)
  else
  some ((0 : Int), q1.2)
set_option maxRecDepth 20000 in
theorem ct_X9_eatsByte {a0 a1 : Int} {h : ab_H} {q : Int × ab_H} (hk : f_X9_eatsByte a0 a1 h = some q) : ab_CT yX9_eatsByte cX9_eatsByte 2 (some .boolean) 2 46 [ab_R a0, ab_I a1] h (some (ab_I q.1)) q.2 := by
  refine ab_CT.mk_ 0 (own := RX9) (ini := false) (lv := [some (ab_R a0), some (ab_I a1)]) rfl (by decide +kernel) (fun q => by cases q) rfl rfl ?_
  unfold f_X9_eatsByte at hk
  show ab_E mm_X9_eatsByte cX9_eatsByte 0 _ [] h _ _
  refine ab_aload_n (pc := 0) (i := 0) dX9_eatsByte_0 rfl rfl ?_
  obtain ⟨q1, hq1, hk⟩ := ab_bnd hk
  obtain ⟨hb, hq1⟩ := ab_on_some hq1
  refine ab_callVI (st := []) (as := []) (b := a0) (pc := 1) dX9_eatsByte_1 ml_RX9_91 my_X9_good mv_X9_good hb (ct_X9_good hq1) ⟨Nat.le_of_ble_eq_true rfl, Nat.le_of_ble_eq_true rfl⟩ rfl (Nat.le_of_ble_eq_true rfl) rfl ?_
  refine ab_if_eq (pc := 4) (tgt := 23) dX9_eatsByte_4 rfl (fun hc => ?_) (fun hc => ?_)
  · have hk := ab_ifp hk hc
    refine ab_iconst (pc := 23) dX9_eatsByte_23 ab_k_0 ?_
    obtain rfl := Option.some.inj hk
    exact ab_retz (pc := 24) dX9_eatsByte_24 rfl rfl
  · have hk := ab_ifn hk hc
    refine ab_aload_n (pc := 7) (i := 0) dX9_eatsByte_7 rfl rfl ?_
    obtain ⟨t2, ht2, hk⟩ := ab_bnd hk
    refine ab_getI (pc := 8) dX9_eatsByte_8 fl_RX9_108 ht2 ?_
    refine ab_iconst (pc := 11) dX9_eatsByte_11 ab_k_3 ?_
    refine ab_icmp_ne (pc := 12) (tgt := 23) dX9_eatsByte_12 rfl (fun hc => ?_) (fun hc => ?_)
    · have hk := ab_ifn hk hc
      refine ab_iconst (pc := 23) dX9_eatsByte_23 ab_k_0 ?_
      obtain rfl := Option.some.inj hk
      exact ab_retz (pc := 24) dX9_eatsByte_24 rfl rfl
    · have hk := ab_ifp hk hc
      refine ab_aload_n (pc := 15) (i := 0) dX9_eatsByte_15 rfl rfl ?_
      obtain ⟨t3, ht3, hk⟩ := ab_bnd hk
      refine ab_getI (pc := 16) dX9_eatsByte_16 fl_RX9_119 ht3 ?_
      refine ab_iload_n (pc := 19) (i := 1) dX9_eatsByte_19 rfl rfl ?_
      refine ab_icmp_eq (pc := 20) (tgt := 25) dX9_eatsByte_20 rfl (fun hc => ?_) (fun hc => ?_)
      · have hk := ab_ifp hk hc
        refine ab_aload_n (pc := 25) (i := 0) dX9_eatsByte_25 rfl rfl ?_
        obtain ⟨q4, hq4, hk⟩ := ab_bnd hk
        obtain ⟨hb, hq4⟩ := ab_on_some hq4
        refine ab_callVV (st := []) (as := []) (b := a0) (pc := 26) dX9_eatsByte_26 ml_RX9_142 my_X9_advance mv_X9_advance hb (ct_X9_advance hq4) ⟨Nat.le_of_ble_eq_true rfl, Nat.le_of_ble_eq_true rfl⟩ rfl (Nat.le_of_ble_eq_true rfl) rfl ?_
        refine ab_iconst (pc := 29) dX9_eatsByte_29 ab_k_1 ?_
        obtain rfl := Option.some.inj hk
        exact ab_retz (pc := 30) dX9_eatsByte_30 rfl rfl
      · have hk := ab_ifn hk hc
        refine ab_iconst (pc := 23) dX9_eatsByte_23 ab_k_0 ?_
        obtain rfl := Option.some.inj hk
        exact ab_retz (pc := 24) dX9_eatsByte_24 rfl rfl
theorem dX9_passesByte_0 : decode cX9_passesByte 0 = .ok (.aload_n 0, 1) := by decide +kernel
theorem dX9_passesByte_1 : decode cX9_passesByte 1 = .ok (.iload_n 1, 1) := by decide +kernel
theorem dX9_passesByte_2 : decode cX9_passesByte 2 = .ok (.invokevirtual 145, 3) := by decide +kernel
theorem dX9_passesByte_5 : decode cX9_passesByte 5 = .ok (.ifCond .ne 12, 3) := by decide +kernel
theorem dX9_passesByte_8 : decode cX9_passesByte 8 = .ok (.aload_n 0, 1) := by decide +kernel
theorem dX9_passesByte_9 : decode cX9_passesByte 9 = .ok (.iconst 1, 1) := by decide +kernel
theorem dX9_passesByte_10 : decode cX9_passesByte 10 = .ok (.aload_n 0, 1) := by decide +kernel
theorem dX9_passesByte_11 : decode cX9_passesByte 11 = .ok (.getfield 105, 3) := by decide +kernel
theorem dX9_passesByte_14 : decode cX9_passesByte 14 = .ok (.invokevirtual 149, 3) := by decide +kernel
theorem dX9_passesByte_17 : decode cX9_passesByte 17 = .ok (.return_, 1) := by decide +kernel
abbrev mm_X9_passesByte : ab_M := (RX9, 2, none, false, 3, 67, none)
noncomputable def f_X9_passesByte (a0 : Int) (a1 : Int) (h : ab_H) : Option ab_H :=
  (ab_on h 10 a0 (f_X9_eatsByte a0 a1 h)).bind fun q1 =>
  if q1.1 = (0 : Int) then
    (ab_get q1.2 10 7 a0).bind fun t2 =>
    (ab_on q1.2 10 a0 (f_X9_errs a0 (1 : Int) t2 q1.2)).bind fun q3 =>
    some q3
  else
  some q1.2
set_option maxRecDepth 20000 in
theorem ct_X9_passesByte {a0 a1 : Int} {h : ab_H} {q : ab_H} (hk : f_X9_passesByte a0 a1 h = some q) : ab_CT yX9_passesByte cX9_passesByte 2 none 3 67 [ab_R a0, ab_I a1] h none q := by
  refine ab_CT.mk_ 0 (own := RX9) (ini := false) (lv := [some (ab_R a0), some (ab_I a1)]) rfl (by decide +kernel) (fun q => by cases q) rfl rfl ?_
  unfold f_X9_passesByte at hk
  show ab_E mm_X9_passesByte cX9_passesByte 0 _ [] h _ _
  refine ab_aload_n (pc := 0) (i := 0) dX9_passesByte_0 rfl rfl ?_
  refine ab_iload_n (pc := 1) (i := 1) dX9_passesByte_1 rfl rfl ?_
  obtain ⟨q1, hq1, hk⟩ := ab_bnd hk
  obtain ⟨hb, hq1⟩ := ab_on_some hq1
  refine ab_callVI (st := []) (as := [ab_I a1]) (b := a0) (pc := 2) dX9_passesByte_2 ml_RX9_145 my_X9_eatsByte mv_X9_eatsByte hb (ct_X9_eatsByte hq1) ⟨Nat.le_of_ble_eq_true rfl, Nat.le_of_ble_eq_true rfl⟩ rfl (Nat.le_of_ble_eq_true rfl) rfl ?_
  refine ab_if_ne (pc := 5) (tgt := 17) dX9_passesByte_5 rfl (fun hc => ?_) (fun hc => ?_)
  · have hk := ab_ifn hk hc
    obtain rfl := Option.some.inj hk
    exact ab_retv (pc := 17) dX9_passesByte_17 rfl
  · have hk := ab_ifp hk hc
    refine ab_aload_n (pc := 8) (i := 0) dX9_passesByte_8 rfl rfl ?_
    refine ab_iconst (pc := 9) dX9_passesByte_9 ab_k_1 ?_
    refine ab_aload_n (pc := 10) (i := 0) dX9_passesByte_10 rfl rfl ?_
    obtain ⟨t2, ht2, hk⟩ := ab_bnd hk
    refine ab_getI (pc := 11) dX9_passesByte_11 fl_RX9_105 ht2 ?_
    obtain ⟨q3, hq3, hk⟩ := ab_bnd hk
    obtain ⟨hb, hq3⟩ := ab_on_some hq3
    refine ab_callVV (st := []) (as := [ab_I (1 : Int), ab_I t2]) (b := a0) (pc := 14) dX9_passesByte_14 ml_RX9_149 my_X9_errs mv_X9_errs hb (ct_X9_errs hq3) ⟨Nat.le_of_ble_eq_true rfl, Nat.le_of_ble_eq_true rfl⟩ rfl (Nat.le_of_ble_eq_true rfl) rfl ?_
    obtain rfl := Option.some.inj hk
    exact ab_retv (pc := 17) dX9_passesByte_17 rfl
theorem dX9_roleHere_0 : decode cX9_roleHere 0 = .ok (.aload_n 0, 1) := by decide +kernel
theorem dX9_roleHere_1 : decode cX9_roleHere 1 = .ok (.ldc 153, 2) := by decide +kernel
theorem dX9_roleHere_3 : decode cX9_roleHere 3 = .ok (.invokevirtual 138, 3) := by decide +kernel
theorem dX9_roleHere_6 : decode cX9_roleHere 6 = .ok (.ifCond .eq 7, 3) := by decide +kernel
theorem dX9_roleHere_9 : decode cX9_roleHere 9 = .ok (.iconst 0, 1) := by decide +kernel
theorem dX9_roleHere_10 : decode cX9_roleHere 10 = .ok (.goto 69, 3) := by decide +kernel
theorem dX9_roleHere_13 : decode cX9_roleHere 13 = .ok (.aload_n 0, 1) := by decide +kernel
theorem dX9_roleHere_14 : decode cX9_roleHere 14 = .ok (.ldc 155, 2) := by decide +kernel
theorem dX9_roleHere_16 : decode cX9_roleHere 16 = .ok (.invokevirtual 138, 3) := by decide +kernel
theorem dX9_roleHere_19 : decode cX9_roleHere 19 = .ok (.ifCond .eq 7, 3) := by decide +kernel
theorem dX9_roleHere_22 : decode cX9_roleHere 22 = .ok (.iconst 1, 1) := by decide +kernel
theorem dX9_roleHere_23 : decode cX9_roleHere 23 = .ok (.goto 56, 3) := by decide +kernel
theorem dX9_roleHere_26 : decode cX9_roleHere 26 = .ok (.aload_n 0, 1) := by decide +kernel
theorem dX9_roleHere_27 : decode cX9_roleHere 27 = .ok (.ldc 157, 2) := by decide +kernel
theorem dX9_roleHere_29 : decode cX9_roleHere 29 = .ok (.invokevirtual 138, 3) := by decide +kernel
theorem dX9_roleHere_32 : decode cX9_roleHere 32 = .ok (.ifCond .eq 7, 3) := by decide +kernel
theorem dX9_roleHere_35 : decode cX9_roleHere 35 = .ok (.iconst 2, 1) := by decide +kernel
theorem dX9_roleHere_36 : decode cX9_roleHere 36 = .ok (.goto 43, 3) := by decide +kernel
theorem dX9_roleHere_39 : decode cX9_roleHere 39 = .ok (.aload_n 0, 1) := by decide +kernel
theorem dX9_roleHere_40 : decode cX9_roleHere 40 = .ok (.ldc 159, 2) := by decide +kernel
theorem dX9_roleHere_42 : decode cX9_roleHere 42 = .ok (.invokevirtual 138, 3) := by decide +kernel
theorem dX9_roleHere_45 : decode cX9_roleHere 45 = .ok (.ifCond .eq 7, 3) := by decide +kernel
theorem dX9_roleHere_48 : decode cX9_roleHere 48 = .ok (.iconst 3, 1) := by decide +kernel
theorem dX9_roleHere_49 : decode cX9_roleHere 49 = .ok (.goto 30, 3) := by decide +kernel
theorem dX9_roleHere_52 : decode cX9_roleHere 52 = .ok (.aload_n 0, 1) := by decide +kernel
theorem dX9_roleHere_53 : decode cX9_roleHere 53 = .ok (.ldc 161, 2) := by decide +kernel
theorem dX9_roleHere_55 : decode cX9_roleHere 55 = .ok (.invokevirtual 138, 3) := by decide +kernel
theorem dX9_roleHere_58 : decode cX9_roleHere 58 = .ok (.ifCond .eq 7, 3) := by decide +kernel
theorem dX9_roleHere_61 : decode cX9_roleHere 61 = .ok (.iconst 4, 1) := by decide +kernel
theorem dX9_roleHere_62 : decode cX9_roleHere 62 = .ok (.goto 17, 3) := by decide +kernel
theorem dX9_roleHere_65 : decode cX9_roleHere 65 = .ok (.aload_n 0, 1) := by decide +kernel
theorem dX9_roleHere_66 : decode cX9_roleHere 66 = .ok (.ldc 163, 2) := by decide +kernel
theorem dX9_roleHere_68 : decode cX9_roleHere 68 = .ok (.invokevirtual 138, 3) := by decide +kernel
theorem dX9_roleHere_71 : decode cX9_roleHere 71 = .ok (.ifCond .eq 7, 3) := by decide +kernel
theorem dX9_roleHere_74 : decode cX9_roleHere 74 = .ok (.iconst 5, 1) := by decide +kernel
theorem dX9_roleHere_75 : decode cX9_roleHere 75 = .ok (.goto 4, 3) := by decide +kernel
theorem dX9_roleHere_78 : decode cX9_roleHere 78 = .ok (.iconst (-1), 1) := by decide +kernel
theorem dX9_roleHere_79 : decode cX9_roleHere 79 = .ok (.ireturn, 1) := by decide +kernel
abbrev mm_X9_roleHere : ab_M := (RX9, 1, (some .int), false, 6, 173, none)
noncomputable def f_X9_roleHere (a0 : Int) (h : ab_H) : Option (Int × ab_H) :=
  (ab_on h 10 a0 (f_X9_isWord a0 (-3 : Int) h)).bind fun q1 =>
  if q1.1 = (0 : Int) then
    (ab_on q1.2 10 a0 (f_X9_isWord a0 (-4 : Int) q1.2)).bind fun q2 =>
    if q2.1 = (0 : Int) then
      (ab_on q2.2 10 a0 (f_X9_isWord a0 (-5 : Int) q2.2)).bind fun q3 =>
      if q3.1 = (0 : Int) then
        (ab_on q3.2 10 a0 (f_X9_isWord a0 (-6 : Int) q3.2)).bind fun q4 =>
        if q4.1 = (0 : Int) then
          (ab_on q4.2 10 a0 (f_X9_isWord a0 (-7 : Int) q4.2)).bind fun q5 =>
          if q5.1 = (0 : Int) then
            (ab_on q5.2 10 a0 (f_X9_isWord a0 (-8 : Int) q5.2)).bind fun q6 =>
            if q6.1 = (0 : Int) then
              some ((-1 : Int), q6.2)
            else
            some ((5 : Int), q6.2)
          else
          some ((4 : Int), q5.2)
        else
        some ((3 : Int), q4.2)
      else
      some ((2 : Int), q3.2)
    else
    some ((1 : Int), q2.2)
  else
  some ((0 : Int), q1.2)
set_option maxRecDepth 20000 in
theorem ct_X9_roleHere {a0 : Int} {h : ab_H} {q : Int × ab_H} (hk : f_X9_roleHere a0 h = some q) : ab_CT yX9_roleHere cX9_roleHere 1 (some .int) 6 173 [ab_R a0] h (some (ab_I q.1)) q.2 := by
  refine ab_CT.mk_ 0 (own := RX9) (ini := false) (lv := [some (ab_R a0)]) rfl (by decide +kernel) (fun q => by cases q) rfl rfl ?_
  unfold f_X9_roleHere at hk
  show ab_E mm_X9_roleHere cX9_roleHere 0 _ [] h _ _
  refine ab_aload_n (pc := 0) (i := 0) dX9_roleHere_0 rfl rfl ?_
  refine ab_lds (j := 2) (pc := 1) dX9_roleHere_1 rfl ?_
  obtain ⟨q1, hq1, hk⟩ := ab_bnd hk
  obtain ⟨hb, hq1⟩ := ab_on_some hq1
  refine ab_callVI (st := []) (as := [ab_R (-3 : Int)]) (b := a0) (pc := 3) dX9_roleHere_3 ml_RX9_138 my_X9_isWord mv_X9_isWord hb (ct_X9_isWord hq1) ⟨Nat.le_of_ble_eq_true rfl, Nat.le_of_ble_eq_true rfl⟩ rfl (Nat.le_of_ble_eq_true rfl) rfl ?_
  refine ab_if_eq (pc := 6) (tgt := 13) dX9_roleHere_6 rfl (fun hc => ?_) (fun hc => ?_)
  · have hk := ab_ifp hk hc
    refine ab_aload_n (pc := 13) (i := 0) dX9_roleHere_13 rfl rfl ?_
    refine ab_lds (j := 3) (pc := 14) dX9_roleHere_14 rfl ?_
    obtain ⟨q2, hq2, hk⟩ := ab_bnd hk
    obtain ⟨hb, hq2⟩ := ab_on_some hq2
    refine ab_callVI (st := []) (as := [ab_R (-4 : Int)]) (b := a0) (pc := 16) dX9_roleHere_16 ml_RX9_138 my_X9_isWord mv_X9_isWord hb (ct_X9_isWord hq2) ⟨Nat.le_of_ble_eq_true rfl, Nat.le_of_ble_eq_true rfl⟩ rfl (Nat.le_of_ble_eq_true rfl) rfl ?_
    refine ab_if_eq (pc := 19) (tgt := 26) dX9_roleHere_19 rfl (fun hc => ?_) (fun hc => ?_)
    · have hk := ab_ifp hk hc
      refine ab_aload_n (pc := 26) (i := 0) dX9_roleHere_26 rfl rfl ?_
      refine ab_lds (j := 4) (pc := 27) dX9_roleHere_27 rfl ?_
      obtain ⟨q3, hq3, hk⟩ := ab_bnd hk
      obtain ⟨hb, hq3⟩ := ab_on_some hq3
      refine ab_callVI (st := []) (as := [ab_R (-5 : Int)]) (b := a0) (pc := 29) dX9_roleHere_29 ml_RX9_138 my_X9_isWord mv_X9_isWord hb (ct_X9_isWord hq3) ⟨Nat.le_of_ble_eq_true rfl, Nat.le_of_ble_eq_true rfl⟩ rfl (Nat.le_of_ble_eq_true rfl) rfl ?_
      refine ab_if_eq (pc := 32) (tgt := 39) dX9_roleHere_32 rfl (fun hc => ?_) (fun hc => ?_)
      · have hk := ab_ifp hk hc
        refine ab_aload_n (pc := 39) (i := 0) dX9_roleHere_39 rfl rfl ?_
        refine ab_lds (j := 5) (pc := 40) dX9_roleHere_40 rfl ?_
        obtain ⟨q4, hq4, hk⟩ := ab_bnd hk
        obtain ⟨hb, hq4⟩ := ab_on_some hq4
        refine ab_callVI (st := []) (as := [ab_R (-6 : Int)]) (b := a0) (pc := 42) dX9_roleHere_42 ml_RX9_138 my_X9_isWord mv_X9_isWord hb (ct_X9_isWord hq4) ⟨Nat.le_of_ble_eq_true rfl, Nat.le_of_ble_eq_true rfl⟩ rfl (Nat.le_of_ble_eq_true rfl) rfl ?_
        refine ab_if_eq (pc := 45) (tgt := 52) dX9_roleHere_45 rfl (fun hc => ?_) (fun hc => ?_)
        · have hk := ab_ifp hk hc
          refine ab_aload_n (pc := 52) (i := 0) dX9_roleHere_52 rfl rfl ?_
          refine ab_lds (j := 6) (pc := 53) dX9_roleHere_53 rfl ?_
          obtain ⟨q5, hq5, hk⟩ := ab_bnd hk
          obtain ⟨hb, hq5⟩ := ab_on_some hq5
          refine ab_callVI (st := []) (as := [ab_R (-7 : Int)]) (b := a0) (pc := 55) dX9_roleHere_55 ml_RX9_138 my_X9_isWord mv_X9_isWord hb (ct_X9_isWord hq5) ⟨Nat.le_of_ble_eq_true rfl, Nat.le_of_ble_eq_true rfl⟩ rfl (Nat.le_of_ble_eq_true rfl) rfl ?_
          refine ab_if_eq (pc := 58) (tgt := 65) dX9_roleHere_58 rfl (fun hc => ?_) (fun hc => ?_)
          · have hk := ab_ifp hk hc
            refine ab_aload_n (pc := 65) (i := 0) dX9_roleHere_65 rfl rfl ?_
            refine ab_lds (j := 7) (pc := 66) dX9_roleHere_66 rfl ?_
            obtain ⟨q6, hq6, hk⟩ := ab_bnd hk
            obtain ⟨hb, hq6⟩ := ab_on_some hq6
            refine ab_callVI (st := []) (as := [ab_R (-8 : Int)]) (b := a0) (pc := 68) dX9_roleHere_68 ml_RX9_138 my_X9_isWord mv_X9_isWord hb (ct_X9_isWord hq6) ⟨Nat.le_of_ble_eq_true rfl, Nat.le_of_ble_eq_true rfl⟩ rfl (Nat.le_of_ble_eq_true rfl) rfl ?_
            refine ab_if_eq (pc := 71) (tgt := 78) dX9_roleHere_71 rfl (fun hc => ?_) (fun hc => ?_)
            · have hk := ab_ifp hk hc
              refine ab_iconst (pc := 78) dX9_roleHere_78 ab_k_m1 ?_
              obtain rfl := Option.some.inj hk
              exact ab_reti (pc := 79) dX9_roleHere_79 (Or.inl rfl)
            · have hk := ab_ifn hk hc
              refine ab_iconst (pc := 74) dX9_roleHere_74 ab_k_5 ?_
              refine ab_goto (pc := 75) (tgt := 79) dX9_roleHere_75 rfl ?_
              obtain rfl := Option.some.inj hk
              exact ab_reti (pc := 79) dX9_roleHere_79 (Or.inl rfl)
          · have hk := ab_ifn hk hc
            refine ab_iconst (pc := 61) dX9_roleHere_61 ab_k_4 ?_
            refine ab_goto (pc := 62) (tgt := 79) dX9_roleHere_62 rfl ?_
            obtain rfl := Option.some.inj hk
            exact ab_reti (pc := 79) dX9_roleHere_79 (Or.inl rfl)
        · have hk := ab_ifn hk hc
          refine ab_iconst (pc := 48) dX9_roleHere_48 ab_k_3 ?_
          refine ab_goto (pc := 49) (tgt := 79) dX9_roleHere_49 rfl ?_
          obtain rfl := Option.some.inj hk
          exact ab_reti (pc := 79) dX9_roleHere_79 (Or.inl rfl)
      · have hk := ab_ifn hk hc
        refine ab_iconst (pc := 35) dX9_roleHere_35 ab_k_2 ?_
        refine ab_goto (pc := 36) (tgt := 79) dX9_roleHere_36 rfl ?_
        obtain rfl := Option.some.inj hk
        exact ab_reti (pc := 79) dX9_roleHere_79 (Or.inl rfl)
    · have hk := ab_ifn hk hc
      refine ab_iconst (pc := 22) dX9_roleHere_22 ab_k_1 ?_
      refine ab_goto (pc := 23) (tgt := 79) dX9_roleHere_23 rfl ?_
      obtain rfl := Option.some.inj hk
      exact ab_reti (pc := 79) dX9_roleHere_79 (Or.inl rfl)
  · have hk := ab_ifn hk hc
    refine ab_iconst (pc := 9) dX9_roleHere_9 ab_k_0 ?_
    refine ab_goto (pc := 10) (tgt := 79) dX9_roleHere_10 rfl ?_
    obtain rfl := Option.some.inj hk
    exact ab_reti (pc := 79) dX9_roleHere_79 (Or.inl rfl)
theorem dX9_isOwnWord_0 : decode cX9_isOwnWord 0 = .ok (.aload_n 0, 1) := by decide +kernel
theorem dX9_isOwnWord_1 : decode cX9_isOwnWord 1 = .ok (.invokevirtual 165, 3) := by decide +kernel
theorem dX9_isOwnWord_4 : decode cX9_isOwnWord 4 = .ok (.iconst (-1), 1) := by decide +kernel
theorem dX9_isOwnWord_5 : decode cX9_isOwnWord 5 = .ok (.if_icmp .ne 84, 3) := by decide +kernel
theorem dX9_isOwnWord_8 : decode cX9_isOwnWord 8 = .ok (.aload_n 0, 1) := by decide +kernel
theorem dX9_isOwnWord_9 : decode cX9_isOwnWord 9 = .ok (.ldc 168, 2) := by decide +kernel
theorem dX9_isOwnWord_11 : decode cX9_isOwnWord 11 = .ok (.invokevirtual 138, 3) := by decide +kernel
theorem dX9_isOwnWord_14 : decode cX9_isOwnWord 14 = .ok (.ifCond .ne 75, 3) := by decide +kernel
theorem dX9_isOwnWord_17 : decode cX9_isOwnWord 17 = .ok (.aload_n 0, 1) := by decide +kernel
theorem dX9_isOwnWord_18 : decode cX9_isOwnWord 18 = .ok (.ldc 170, 2) := by decide +kernel
theorem dX9_isOwnWord_20 : decode cX9_isOwnWord 20 = .ok (.invokevirtual 138, 3) := by decide +kernel
theorem dX9_isOwnWord_23 : decode cX9_isOwnWord 23 = .ok (.ifCond .ne 66, 3) := by decide +kernel
theorem dX9_isOwnWord_26 : decode cX9_isOwnWord 26 = .ok (.aload_n 0, 1) := by decide +kernel
theorem dX9_isOwnWord_27 : decode cX9_isOwnWord 27 = .ok (.ldc 172, 2) := by decide +kernel
theorem dX9_isOwnWord_29 : decode cX9_isOwnWord 29 = .ok (.invokevirtual 138, 3) := by decide +kernel
theorem dX9_isOwnWord_32 : decode cX9_isOwnWord 32 = .ok (.ifCond .ne 57, 3) := by decide +kernel
theorem dX9_isOwnWord_35 : decode cX9_isOwnWord 35 = .ok (.aload_n 0, 1) := by decide +kernel
theorem dX9_isOwnWord_36 : decode cX9_isOwnWord 36 = .ok (.ldc 174, 2) := by decide +kernel
theorem dX9_isOwnWord_38 : decode cX9_isOwnWord 38 = .ok (.invokevirtual 138, 3) := by decide +kernel
theorem dX9_isOwnWord_41 : decode cX9_isOwnWord 41 = .ok (.ifCond .ne 48, 3) := by decide +kernel
theorem dX9_isOwnWord_44 : decode cX9_isOwnWord 44 = .ok (.aload_n 0, 1) := by decide +kernel
theorem dX9_isOwnWord_45 : decode cX9_isOwnWord 45 = .ok (.ldc 176, 2) := by decide +kernel
theorem dX9_isOwnWord_47 : decode cX9_isOwnWord 47 = .ok (.invokevirtual 138, 3) := by decide +kernel
theorem dX9_isOwnWord_50 : decode cX9_isOwnWord 50 = .ok (.ifCond .ne 39, 3) := by decide +kernel
theorem dX9_isOwnWord_53 : decode cX9_isOwnWord 53 = .ok (.aload_n 0, 1) := by decide +kernel
theorem dX9_isOwnWord_54 : decode cX9_isOwnWord 54 = .ok (.ldc 178, 2) := by decide +kernel
theorem dX9_isOwnWord_56 : decode cX9_isOwnWord 56 = .ok (.invokevirtual 138, 3) := by decide +kernel
theorem dX9_isOwnWord_59 : decode cX9_isOwnWord 59 = .ok (.ifCond .ne 30, 3) := by decide +kernel
theorem dX9_isOwnWord_62 : decode cX9_isOwnWord 62 = .ok (.aload_n 0, 1) := by decide +kernel
theorem dX9_isOwnWord_63 : decode cX9_isOwnWord 63 = .ok (.ldc 180, 2) := by decide +kernel
theorem dX9_isOwnWord_65 : decode cX9_isOwnWord 65 = .ok (.invokevirtual 138, 3) := by decide +kernel
theorem dX9_isOwnWord_68 : decode cX9_isOwnWord 68 = .ok (.ifCond .ne 21, 3) := by decide +kernel
theorem dX9_isOwnWord_71 : decode cX9_isOwnWord 71 = .ok (.aload_n 0, 1) := by decide +kernel
theorem dX9_isOwnWord_72 : decode cX9_isOwnWord 72 = .ok (.ldc 182, 2) := by decide +kernel
theorem dX9_isOwnWord_74 : decode cX9_isOwnWord 74 = .ok (.invokevirtual 138, 3) := by decide +kernel
theorem dX9_isOwnWord_77 : decode cX9_isOwnWord 77 = .ok (.ifCond .ne 12, 3) := by decide +kernel
theorem dX9_isOwnWord_80 : decode cX9_isOwnWord 80 = .ok (.aload_n 0, 1) := by decide +kernel
theorem dX9_isOwnWord_81 : decode cX9_isOwnWord 81 = .ok (.ldc 184, 2) := by decide +kernel
theorem dX9_isOwnWord_83 : decode cX9_isOwnWord 83 = .ok (.invokevirtual 138, 3) := by decide +kernel
theorem dX9_isOwnWord_86 : decode cX9_isOwnWord 86 = .ok (.ifCond .eq 7, 3) := by decide +kernel
theorem dX9_isOwnWord_89 : decode cX9_isOwnWord 89 = .ok (.iconst 1, 1) := by decide +kernel
theorem dX9_isOwnWord_90 : decode cX9_isOwnWord 90 = .ok (.goto 4, 3) := by decide +kernel
theorem dX9_isOwnWord_93 : decode cX9_isOwnWord 93 = .ok (.iconst 0, 1) := by decide +kernel
theorem dX9_isOwnWord_94 : decode cX9_isOwnWord 94 = .ok (.ireturn, 1) := by decide +kernel
abbrev mm_X9_isOwnWord : ab_M := (RX9, 1, (some .boolean), false, 7, 193, none)
noncomputable def f_X9_isOwnWord_J89 (h : ab_H) : Option (Int × ab_H) :=
  some ((1 : Int), h)
set_option maxRecDepth 20000 in
theorem e_X9_isOwnWord_J89 : ∀ (h : ab_H) (q : Int × ab_H), f_X9_isOwnWord_J89  h = some q → ab_E mm_X9_isOwnWord cX9_isOwnWord 89 [none] [] h (some (ab_I q.1)) q.2 := by
  intro  h q hk
  unfold f_X9_isOwnWord_J89 at hk
  refine ab_iconst (pc := 89) dX9_isOwnWord_89 ab_k_1 ?_
  refine ab_goto (pc := 90) (tgt := 94) dX9_isOwnWord_90 rfl ?_
  obtain rfl := Option.some.inj hk
  exact ab_retz (pc := 94) dX9_isOwnWord_94 rfl rfl
noncomputable def f_X9_isOwnWord (a0 : Int) (h : ab_H) : Option (Int × ab_H) :=
  (ab_on h 10 a0 (f_X9_roleHere a0 h)).bind fun q1 =>
  if q1.1 = (-1 : Int) then
    (ab_on q1.2 10 a0 (f_X9_isWord a0 (-2 : Int) q1.2)).bind fun q2 =>
    if q2.1 = (0 : Int) then
      (ab_on q2.2 10 a0 (f_X9_isWord a0 (-12 : Int) q2.2)).bind fun q3 =>
      if q3.1 = (0 : Int) then
        (ab_on q3.2 10 a0 (f_X9_isWord a0 (-13 : Int) q3.2)).bind fun q4 =>
        if q4.1 = (0 : Int) then
          (ab_on q4.2 10 a0 (f_X9_isWord a0 (-9 : Int) q4.2)).bind fun q5 =>
          if q5.1 = (0 : Int) then
            (ab_on q5.2 10 a0 (f_X9_isWord a0 (-10 : Int) q5.2)).bind fun q6 =>
            if q6.1 = (0 : Int) then
              (ab_on q6.2 10 a0 (f_X9_isWord a0 (-11 : Int) q6.2)).bind fun q7 =>
              if q7.1 = (0 : Int) then
                (ab_on q7.2 10 a0 (f_X9_isWord a0 (-14 : Int) q7.2)).bind fun q8 =>
                if q8.1 = (0 : Int) then
                  (ab_on q8.2 10 a0 (f_X9_isWord a0 (-15 : Int) q8.2)).bind fun q9 =>
                  if q9.1 = (0 : Int) then
                    (ab_on q9.2 10 a0 (f_X9_isWord a0 (-16 : Int) q9.2)).bind fun q10 =>
                    if q10.1 = (0 : Int) then
                      some ((0 : Int), q10.2)
                    else
                    f_X9_isOwnWord_J89 q10.2
                  else
                  f_X9_isOwnWord_J89 q9.2
                else
                f_X9_isOwnWord_J89 q8.2
              else
              f_X9_isOwnWord_J89 q7.2
            else
            f_X9_isOwnWord_J89 q6.2
          else
          f_X9_isOwnWord_J89 q5.2
        else
        f_X9_isOwnWord_J89 q4.2
      else
      f_X9_isOwnWord_J89 q3.2
    else
    f_X9_isOwnWord_J89 q2.2
  else
  f_X9_isOwnWord_J89 q1.2
set_option maxRecDepth 20000 in
theorem ct_X9_isOwnWord {a0 : Int} {h : ab_H} {q : Int × ab_H} (hk : f_X9_isOwnWord a0 h = some q) : ab_CT yX9_isOwnWord cX9_isOwnWord 1 (some .boolean) 7 193 [ab_R a0] h (some (ab_I q.1)) q.2 := by
  refine ab_CT.mk_ 0 (own := RX9) (ini := false) (lv := [some (ab_R a0)]) rfl (by decide +kernel) (fun q => by cases q) rfl rfl ?_
  unfold f_X9_isOwnWord at hk
  show ab_E mm_X9_isOwnWord cX9_isOwnWord 0 _ [] h _ _
  refine ab_aload_n (pc := 0) (i := 0) dX9_isOwnWord_0 rfl rfl ?_
  obtain ⟨q1, hq1, hk⟩ := ab_bnd hk
  obtain ⟨hb, hq1⟩ := ab_on_some hq1
  refine ab_callVI (st := []) (as := []) (b := a0) (pc := 1) dX9_isOwnWord_1 ml_RX9_165 my_X9_roleHere mv_X9_roleHere hb (ct_X9_roleHere hq1) ⟨Nat.le_of_ble_eq_true rfl, Nat.le_of_ble_eq_true rfl⟩ rfl (Nat.le_of_ble_eq_true rfl) rfl ?_
  refine ab_iconst (pc := 4) dX9_isOwnWord_4 ab_k_m1 ?_
  refine ab_icmp_ne (pc := 5) (tgt := 89) dX9_isOwnWord_5 rfl (fun hc => ?_) (fun hc => ?_)
  · have hk := ab_ifn hk hc
    refine ab_sub_ (lv2 := [none]) (ab_sn ab_s0) ?_
    exact e_X9_isOwnWord_J89  _ _ hk
  · have hk := ab_ifp hk hc
    refine ab_aload_n (pc := 8) (i := 0) dX9_isOwnWord_8 rfl rfl ?_
    refine ab_lds (j := 1) (pc := 9) dX9_isOwnWord_9 rfl ?_
    obtain ⟨q2, hq2, hk⟩ := ab_bnd hk
    obtain ⟨hb, hq2⟩ := ab_on_some hq2
    refine ab_callVI (st := []) (as := [ab_R (-2 : Int)]) (b := a0) (pc := 11) dX9_isOwnWord_11 ml_RX9_138 my_X9_isWord mv_X9_isWord hb (ct_X9_isWord hq2) ⟨Nat.le_of_ble_eq_true rfl, Nat.le_of_ble_eq_true rfl⟩ rfl (Nat.le_of_ble_eq_true rfl) rfl ?_
    refine ab_if_ne (pc := 14) (tgt := 89) dX9_isOwnWord_14 rfl (fun hc => ?_) (fun hc => ?_)
    · have hk := ab_ifn hk hc
      refine ab_sub_ (lv2 := [none]) (ab_sn ab_s0) ?_
      exact e_X9_isOwnWord_J89  _ _ hk
    · have hk := ab_ifp hk hc
      refine ab_aload_n (pc := 17) (i := 0) dX9_isOwnWord_17 rfl rfl ?_
      refine ab_lds (j := 11) (pc := 18) dX9_isOwnWord_18 rfl ?_
      obtain ⟨q3, hq3, hk⟩ := ab_bnd hk
      obtain ⟨hb, hq3⟩ := ab_on_some hq3
      refine ab_callVI (st := []) (as := [ab_R (-12 : Int)]) (b := a0) (pc := 20) dX9_isOwnWord_20 ml_RX9_138 my_X9_isWord mv_X9_isWord hb (ct_X9_isWord hq3) ⟨Nat.le_of_ble_eq_true rfl, Nat.le_of_ble_eq_true rfl⟩ rfl (Nat.le_of_ble_eq_true rfl) rfl ?_
      refine ab_if_ne (pc := 23) (tgt := 89) dX9_isOwnWord_23 rfl (fun hc => ?_) (fun hc => ?_)
      · have hk := ab_ifn hk hc
        refine ab_sub_ (lv2 := [none]) (ab_sn ab_s0) ?_
        exact e_X9_isOwnWord_J89  _ _ hk
      · have hk := ab_ifp hk hc
        refine ab_aload_n (pc := 26) (i := 0) dX9_isOwnWord_26 rfl rfl ?_
        refine ab_lds (j := 12) (pc := 27) dX9_isOwnWord_27 rfl ?_
        obtain ⟨q4, hq4, hk⟩ := ab_bnd hk
        obtain ⟨hb, hq4⟩ := ab_on_some hq4
        refine ab_callVI (st := []) (as := [ab_R (-13 : Int)]) (b := a0) (pc := 29) dX9_isOwnWord_29 ml_RX9_138 my_X9_isWord mv_X9_isWord hb (ct_X9_isWord hq4) ⟨Nat.le_of_ble_eq_true rfl, Nat.le_of_ble_eq_true rfl⟩ rfl (Nat.le_of_ble_eq_true rfl) rfl ?_
        refine ab_if_ne (pc := 32) (tgt := 89) dX9_isOwnWord_32 rfl (fun hc => ?_) (fun hc => ?_)
        · have hk := ab_ifn hk hc
          refine ab_sub_ (lv2 := [none]) (ab_sn ab_s0) ?_
          exact e_X9_isOwnWord_J89  _ _ hk
        · have hk := ab_ifp hk hc
          refine ab_aload_n (pc := 35) (i := 0) dX9_isOwnWord_35 rfl rfl ?_
          refine ab_lds (j := 8) (pc := 36) dX9_isOwnWord_36 rfl ?_
          obtain ⟨q5, hq5, hk⟩ := ab_bnd hk
          obtain ⟨hb, hq5⟩ := ab_on_some hq5
          refine ab_callVI (st := []) (as := [ab_R (-9 : Int)]) (b := a0) (pc := 38) dX9_isOwnWord_38 ml_RX9_138 my_X9_isWord mv_X9_isWord hb (ct_X9_isWord hq5) ⟨Nat.le_of_ble_eq_true rfl, Nat.le_of_ble_eq_true rfl⟩ rfl (Nat.le_of_ble_eq_true rfl) rfl ?_
          refine ab_if_ne (pc := 41) (tgt := 89) dX9_isOwnWord_41 rfl (fun hc => ?_) (fun hc => ?_)
          · have hk := ab_ifn hk hc
            refine ab_sub_ (lv2 := [none]) (ab_sn ab_s0) ?_
            exact e_X9_isOwnWord_J89  _ _ hk
          · have hk := ab_ifp hk hc
            refine ab_aload_n (pc := 44) (i := 0) dX9_isOwnWord_44 rfl rfl ?_
            refine ab_lds (j := 9) (pc := 45) dX9_isOwnWord_45 rfl ?_
            obtain ⟨q6, hq6, hk⟩ := ab_bnd hk
            obtain ⟨hb, hq6⟩ := ab_on_some hq6
            refine ab_callVI (st := []) (as := [ab_R (-10 : Int)]) (b := a0) (pc := 47) dX9_isOwnWord_47 ml_RX9_138 my_X9_isWord mv_X9_isWord hb (ct_X9_isWord hq6) ⟨Nat.le_of_ble_eq_true rfl, Nat.le_of_ble_eq_true rfl⟩ rfl (Nat.le_of_ble_eq_true rfl) rfl ?_
            refine ab_if_ne (pc := 50) (tgt := 89) dX9_isOwnWord_50 rfl (fun hc => ?_) (fun hc => ?_)
            · have hk := ab_ifn hk hc
              refine ab_sub_ (lv2 := [none]) (ab_sn ab_s0) ?_
              exact e_X9_isOwnWord_J89  _ _ hk
            · have hk := ab_ifp hk hc
              refine ab_aload_n (pc := 53) (i := 0) dX9_isOwnWord_53 rfl rfl ?_
              refine ab_lds (j := 10) (pc := 54) dX9_isOwnWord_54 rfl ?_
              obtain ⟨q7, hq7, hk⟩ := ab_bnd hk
              obtain ⟨hb, hq7⟩ := ab_on_some hq7
              refine ab_callVI (st := []) (as := [ab_R (-11 : Int)]) (b := a0) (pc := 56) dX9_isOwnWord_56 ml_RX9_138 my_X9_isWord mv_X9_isWord hb (ct_X9_isWord hq7) ⟨Nat.le_of_ble_eq_true rfl, Nat.le_of_ble_eq_true rfl⟩ rfl (Nat.le_of_ble_eq_true rfl) rfl ?_
              refine ab_if_ne (pc := 59) (tgt := 89) dX9_isOwnWord_59 rfl (fun hc => ?_) (fun hc => ?_)
              · have hk := ab_ifn hk hc
                refine ab_sub_ (lv2 := [none]) (ab_sn ab_s0) ?_
                exact e_X9_isOwnWord_J89  _ _ hk
              · have hk := ab_ifp hk hc
                refine ab_aload_n (pc := 62) (i := 0) dX9_isOwnWord_62 rfl rfl ?_
                refine ab_lds (j := 13) (pc := 63) dX9_isOwnWord_63 rfl ?_
                obtain ⟨q8, hq8, hk⟩ := ab_bnd hk
                obtain ⟨hb, hq8⟩ := ab_on_some hq8
                refine ab_callVI (st := []) (as := [ab_R (-14 : Int)]) (b := a0) (pc := 65) dX9_isOwnWord_65 ml_RX9_138 my_X9_isWord mv_X9_isWord hb (ct_X9_isWord hq8) ⟨Nat.le_of_ble_eq_true rfl, Nat.le_of_ble_eq_true rfl⟩ rfl (Nat.le_of_ble_eq_true rfl) rfl ?_
                refine ab_if_ne (pc := 68) (tgt := 89) dX9_isOwnWord_68 rfl (fun hc => ?_) (fun hc => ?_)
                · have hk := ab_ifn hk hc
                  refine ab_sub_ (lv2 := [none]) (ab_sn ab_s0) ?_
                  exact e_X9_isOwnWord_J89  _ _ hk
                · have hk := ab_ifp hk hc
                  refine ab_aload_n (pc := 71) (i := 0) dX9_isOwnWord_71 rfl rfl ?_
                  refine ab_lds (j := 14) (pc := 72) dX9_isOwnWord_72 rfl ?_
                  obtain ⟨q9, hq9, hk⟩ := ab_bnd hk
                  obtain ⟨hb, hq9⟩ := ab_on_some hq9
                  refine ab_callVI (st := []) (as := [ab_R (-15 : Int)]) (b := a0) (pc := 74) dX9_isOwnWord_74 ml_RX9_138 my_X9_isWord mv_X9_isWord hb (ct_X9_isWord hq9) ⟨Nat.le_of_ble_eq_true rfl, Nat.le_of_ble_eq_true rfl⟩ rfl (Nat.le_of_ble_eq_true rfl) rfl ?_
                  refine ab_if_ne (pc := 77) (tgt := 89) dX9_isOwnWord_77 rfl (fun hc => ?_) (fun hc => ?_)
                  · have hk := ab_ifn hk hc
                    refine ab_sub_ (lv2 := [none]) (ab_sn ab_s0) ?_
                    exact e_X9_isOwnWord_J89  _ _ hk
                  · have hk := ab_ifp hk hc
                    refine ab_aload_n (pc := 80) (i := 0) dX9_isOwnWord_80 rfl rfl ?_
                    refine ab_lds (j := 15) (pc := 81) dX9_isOwnWord_81 rfl ?_
                    obtain ⟨q10, hq10, hk⟩ := ab_bnd hk
                    obtain ⟨hb, hq10⟩ := ab_on_some hq10
                    refine ab_callVI (st := []) (as := [ab_R (-16 : Int)]) (b := a0) (pc := 83) dX9_isOwnWord_83 ml_RX9_138 my_X9_isWord mv_X9_isWord hb (ct_X9_isWord hq10) ⟨Nat.le_of_ble_eq_true rfl, Nat.le_of_ble_eq_true rfl⟩ rfl (Nat.le_of_ble_eq_true rfl) rfl ?_
                    refine ab_if_eq (pc := 86) (tgt := 93) dX9_isOwnWord_86 rfl (fun hc => ?_) (fun hc => ?_)
                    · have hk := ab_ifp hk hc
                      refine ab_iconst (pc := 93) dX9_isOwnWord_93 ab_k_0 ?_
                      obtain rfl := Option.some.inj hk
                      exact ab_retz (pc := 94) dX9_isOwnWord_94 rfl rfl
                    · have hk := ab_ifn hk hc
                      refine ab_sub_ (lv2 := [none]) (ab_sn ab_s0) ?_
                      exact e_X9_isOwnWord_J89  _ _ hk
theorem dX9_packed_0 : decode cX9_packed 0 = .ok (.lconst 0, 1) := by decide +kernel
theorem dX9_packed_1 : decode cX9_packed 1 = .ok (.lstore_n 3, 1) := by decide +kernel
theorem dX9_packed_2 : decode cX9_packed 2 = .ok (.iconst 0, 1) := by decide +kernel
theorem dX9_packed_3 : decode cX9_packed 3 = .ok (.istore 5, 2) := by decide +kernel
theorem dX9_packed_5 : decode cX9_packed 5 = .ok (.iload 5, 2) := by decide +kernel
theorem dX9_packed_7 : decode cX9_packed 7 = .ok (.bipush 7, 2) := by decide +kernel
theorem dX9_packed_9 : decode cX9_packed 9 = .ok (.if_icmp .ge 41, 3) := by decide +kernel
theorem dX9_packed_12 : decode cX9_packed 12 = .ok (.lload_n 3, 1) := by decide +kernel
theorem dX9_packed_13 : decode cX9_packed 13 = .ok (.iconst 5, 1) := by decide +kernel
theorem dX9_packed_14 : decode cX9_packed 14 = .ok (.lshl, 1) := by decide +kernel
theorem dX9_packed_15 : decode cX9_packed 15 = .ok (.iload_n 1, 1) := by decide +kernel
theorem dX9_packed_16 : decode cX9_packed 16 = .ok (.iload 5, 2) := by decide +kernel
theorem dX9_packed_18 : decode cX9_packed 18 = .ok (.iadd, 1) := by decide +kernel
theorem dX9_packed_19 : decode cX9_packed 19 = .ok (.iload_n 2, 1) := by decide +kernel
theorem dX9_packed_20 : decode cX9_packed 20 = .ok (.if_icmp .ge 20, 3) := by decide +kernel
theorem dX9_packed_23 : decode cX9_packed 23 = .ok (.aload_n 0, 1) := by decide +kernel
theorem dX9_packed_24 : decode cX9_packed 24 = .ok (.getfield 16, 3) := by decide +kernel
theorem dX9_packed_27 : decode cX9_packed 27 = .ok (.iload_n 1, 1) := by decide +kernel
theorem dX9_packed_28 : decode cX9_packed 28 = .ok (.iload 5, 2) := by decide +kernel
theorem dX9_packed_30 : decode cX9_packed 30 = .ok (.iadd, 1) := by decide +kernel
theorem dX9_packed_31 : decode cX9_packed 31 = .ok (.baload, 1) := by decide +kernel
theorem dX9_packed_32 : decode cX9_packed 32 = .ok (.bipush 97, 2) := by decide +kernel
theorem dX9_packed_34 : decode cX9_packed 34 = .ok (.isub, 1) := by decide +kernel
theorem dX9_packed_35 : decode cX9_packed 35 = .ok (.iconst 1, 1) := by decide +kernel
theorem dX9_packed_36 : decode cX9_packed 36 = .ok (.iadd, 1) := by decide +kernel
theorem dX9_packed_37 : decode cX9_packed 37 = .ok (.goto 4, 3) := by decide +kernel
theorem dX9_packed_40 : decode cX9_packed 40 = .ok (.iconst 0, 1) := by decide +kernel
theorem dX9_packed_41 : decode cX9_packed 41 = .ok (.i2l, 1) := by decide +kernel
theorem dX9_packed_42 : decode cX9_packed 42 = .ok (.lor, 1) := by decide +kernel
theorem dX9_packed_43 : decode cX9_packed 43 = .ok (.lstore_n 3, 1) := by decide +kernel
theorem dX9_packed_44 : decode cX9_packed 44 = .ok (.iinc 5 1, 3) := by decide +kernel
theorem dX9_packed_47 : decode cX9_packed 47 = .ok (.goto (-42), 3) := by decide +kernel
theorem dX9_packed_50 : decode cX9_packed 50 = .ok (.lload_n 3, 1) := by decide +kernel
theorem dX9_packed_51 : decode cX9_packed 51 = .ok (.lreturn, 1) := by decide +kernel
abbrev mm_X9_packed : ab_M := (RX9, 6, (some .long), false, 0, 0, none)
noncomputable def f_X9_packed_J41 (rec : Int → Int → Int → Int → Int → ab_H → Option (Int × ab_H)) (v0 : Int) (v1 : Int) (v2 : Int) (v5 : Int) (s1 : Int) (s0 : Int) (h : ab_H) : Option (Int × ab_H) :=
  rec v0 v1 v2 (ab_lor s0 s1) (ab_w32 (v5 + (1 : Int))) h
set_option maxRecDepth 20000 in
theorem e_X9_packed_J41 {rec : Int → Int → Int → Int → Int → ab_H → Option (Int × ab_H)} (hrec : ∀ (v0 : Int) (v1 : Int) (v2 : Int) (v3 : Int) (v5 : Int) (h : ab_H) (q : Int × ab_H), rec v0 v1 v2 v3 v5 h = some q → ab_E mm_X9_packed cX9_packed 5 [some (ab_R v0), some (ab_I v1), some (ab_I v2), some (ab_J v3), none, some (ab_I v5)] [] h (some (ab_J q.1)) q.2) : ∀ (v0 : Int) (v1 : Int) (v2 : Int) (v5 : Int) (s1 : Int) (s0 : Int) (h : ab_H) (q : Int × ab_H), f_X9_packed_J41 rec v0 v1 v2 v5 s1 s0 h = some q → ab_E mm_X9_packed cX9_packed 41 [some (ab_R v0), some (ab_I v1), some (ab_I v2), none, none, some (ab_I v5)] [ab_I s1, ab_J s0] h (some (ab_J q.1)) q.2 := by
  intro v0 v1 v2 v5 s1 s0 h q hk
  unfold f_X9_packed_J41 at hk
  refine ab_i2l_ (pc := 41) dX9_packed_41 ?_
  refine ab_lor_ (pc := 42) dX9_packed_42 ?_
  refine ab_lstore_n (pc := 43) (i := 3) (lv2 := [some (ab_R v0), some (ab_I v1), some (ab_I v2), some (ab_J (ab_lor s0 s1)), none, some (ab_I v5)]) dX9_packed_43 rfl (Nat.le_of_ble_eq_true rfl) rfl rfl ?_
  refine ab_iinc (pc := 44) (i := 5) (lv2 := [some (ab_R v0), some (ab_I v1), some (ab_I v2), some (ab_J (ab_lor s0 s1)), none, some (ab_I (ab_w32 (v5 + (1 : Int))))]) dX9_packed_44 rfl (Nat.le_of_ble_eq_true rfl) rfl rfl ?_
  refine ab_goto (pc := 47) (tgt := 5) dX9_packed_47 rfl ?_
  refine ab_sub_ (lv2 := [some (ab_R v0), some (ab_I v1), some (ab_I v2), some (ab_J (ab_lor s0 s1)), none, some (ab_I (ab_w32 (v5 + (1 : Int))))]) (ab_ss (ab_ss (ab_ss (ab_ss (ab_sn (ab_ss ab_s0)))))) ?_
  exact hrec _ _ _ _ _ _ _ hk
noncomputable def f_X9_packed_L5 : Nat → Int → Int → Int → Int → Int → ab_H → Option (Int × ab_H)
  | 0, _, _, _, _, _, _ => none
  | n + 1, v0, v1, v2, v3, v5, h =>
    if (7 : Int) ≤ v5 then
      some (v3, h)
    else
    if v2 ≤ ab_w32 (v1 + v5) then
      f_X9_packed_J41 (f_X9_packed_L5 n) v0 v1 v2 v5 (0 : Int) (ab_lshl v3 (5 : Int)) h
    else
    (ab_get h 10 3 v0).bind fun t1 =>
    (ab_ald h 13 t1 (ab_w32 (v1 + v5))).bind fun t2 =>
    f_X9_packed_J41 (f_X9_packed_L5 n) v0 v1 v2 v5 (ab_w32 ((ab_w32 (t2 - (97 : Int))) + (1 : Int))) (ab_lshl v3 (5 : Int)) h
set_option maxRecDepth 20000 in
theorem e_X9_packed_L5 : ∀ (n : Nat) (v0 : Int) (v1 : Int) (v2 : Int) (v3 : Int) (v5 : Int) (h : ab_H) (q : Int × ab_H), f_X9_packed_L5 n v0 v1 v2 v3 v5 h = some q → ab_E mm_X9_packed cX9_packed 5 [some (ab_R v0), some (ab_I v1), some (ab_I v2), some (ab_J v3), none, some (ab_I v5)] [] h (some (ab_J q.1)) q.2 := by
  intro n
  induction n with
  | zero => intro v0 v1 v2 v3 v5 h q hk; cases hk
  | succ n ih =>
    intro v0 v1 v2 v3 v5 h q hk
    unfold f_X9_packed_L5 at hk
    refine ab_iload (pc := 5) (i := 5) dX9_packed_5 rfl ?_
    refine ab_bipush (pc := 7) dX9_packed_7 ab_p8_7 ab_k_7 ?_
    refine ab_icmp_ge (pc := 9) (tgt := 50) dX9_packed_9 rfl (fun hc => ?_) (fun hc => ?_)
    · have hk := ab_ifp hk hc
      refine ab_lload_n (pc := 50) (i := 3) dX9_packed_50 rfl rfl ?_
      obtain rfl := Option.some.inj hk
      exact ab_retl (pc := 51) dX9_packed_51 rfl
    · have hk := ab_ifn hk hc
      refine ab_lload_n (pc := 12) (i := 3) dX9_packed_12 rfl rfl ?_
      refine ab_iconst (pc := 13) dX9_packed_13 ab_k_5 ?_
      refine ab_lshl_ (pc := 14) dX9_packed_14 ?_
      refine ab_iload_n (pc := 15) (i := 1) dX9_packed_15 rfl rfl ?_
      refine ab_iload (pc := 16) (i := 5) dX9_packed_16 rfl ?_
      refine ab_iadd (pc := 18) dX9_packed_18 ?_
      refine ab_iload_n (pc := 19) (i := 2) dX9_packed_19 rfl rfl ?_
      refine ab_icmp_ge (pc := 20) (tgt := 40) dX9_packed_20 rfl (fun hc => ?_) (fun hc => ?_)
      · have hk := ab_ifp hk hc
        refine ab_iconst (pc := 40) dX9_packed_40 ab_k_0 ?_
        refine ab_sub_ (lv2 := [some (ab_R v0), some (ab_I v1), some (ab_I v2), none, none, some (ab_I v5)]) (ab_ss (ab_ss (ab_ss (ab_sn (ab_sn (ab_ss ab_s0)))))) ?_
        exact e_X9_packed_J41 ih _ _ _ _ _ _ _ _ hk
      · have hk := ab_ifn hk hc
        refine ab_aload_n (pc := 23) (i := 0) dX9_packed_23 rfl rfl ?_
        obtain ⟨t1, ht1, hk⟩ := ab_bnd hk
        refine ab_getR (pc := 24) dX9_packed_24 fl_RX9_16 ht1 ?_
        refine ab_iload_n (pc := 27) (i := 1) dX9_packed_27 rfl rfl ?_
        refine ab_iload (pc := 28) (i := 5) dX9_packed_28 rfl ?_
        refine ab_iadd (pc := 30) dX9_packed_30 ?_
        obtain ⟨t2, ht2, hk⟩ := ab_bnd hk
        refine ab_bald (pc := 31) dX9_packed_31 ht2 ?_
        refine ab_bipush (pc := 32) dX9_packed_32 ab_p8_97 ab_k_97 ?_
        refine ab_isub (pc := 34) dX9_packed_34 ?_
        refine ab_iconst (pc := 35) dX9_packed_35 ab_k_1 ?_
        refine ab_iadd (pc := 36) dX9_packed_36 ?_
        refine ab_goto (pc := 37) (tgt := 41) dX9_packed_37 rfl ?_
        refine ab_sub_ (lv2 := [some (ab_R v0), some (ab_I v1), some (ab_I v2), none, none, some (ab_I v5)]) (ab_ss (ab_ss (ab_ss (ab_sn (ab_sn (ab_ss ab_s0)))))) ?_
        exact e_X9_packed_J41 ih _ _ _ _ _ _ _ _ hk
noncomputable def f_X9_packed (a0 : Int) (a1 : Int) (a2 : Int) (h : ab_H) : Option (Int × ab_H) :=
  f_X9_packed_L5 ab_FU a0 a1 a2 (0 : Int) (0 : Int) h
set_option maxRecDepth 20000 in
theorem ct_X9_packed {a0 a1 a2 : Int} {h : ab_H} {q : Int × ab_H} (hk : f_X9_packed a0 a1 a2 h = some q) : ab_CT yX9_packed cX9_packed 6 (some .long) 0 0 [ab_R a0, ab_I a1, ab_I a2] h (some (ab_J q.1)) q.2 := by
  refine ab_CT.mk_ 3 (own := RX9) (ini := false) (lv := [some (ab_R a0), some (ab_I a1), some (ab_I a2), none, none, none]) rfl (by decide +kernel) (fun q => by cases q) rfl rfl ?_
  unfold f_X9_packed at hk
  show ab_E mm_X9_packed cX9_packed 0 _ [] h _ _
  refine ab_lconst (x := (0 : Int)) (pc := 0) dX9_packed_0 rfl ab_kl_0 ?_
  refine ab_lstore_n (pc := 1) (i := 3) (lv2 := [some (ab_R a0), some (ab_I a1), some (ab_I a2), some (ab_J (0 : Int)), none, none]) dX9_packed_1 rfl (Nat.le_of_ble_eq_true rfl) rfl rfl ?_
  refine ab_iconst (pc := 2) dX9_packed_2 ab_k_0 ?_
  refine ab_istore (pc := 3) (i := 5) (lv2 := [some (ab_R a0), some (ab_I a1), some (ab_I a2), some (ab_J (0 : Int)), none, some (ab_I (0 : Int))]) dX9_packed_3 (Nat.le_of_ble_eq_true rfl) rfl rfl ?_
  refine ab_sub_ (lv2 := [some (ab_R a0), some (ab_I a1), some (ab_I a2), some (ab_J (0 : Int)), none, some (ab_I (0 : Int))]) (ab_ss (ab_ss (ab_ss (ab_ss (ab_sn (ab_ss ab_s0)))))) ?_
  refine e_X9_packed_L5 _ _ _ _ _ _ _ _ hk
theorem dX9_wordHere_0 : decode cX9_wordHere 0 = .ok (.aload_n 0, 1) := by decide +kernel
theorem dX9_wordHere_1 : decode cX9_wordHere 1 = .ok (.invokevirtual 91, 3) := by decide +kernel
theorem dX9_wordHere_4 : decode cX9_wordHere 4 = .ok (.ifCond .eq 41, 3) := by decide +kernel
theorem dX9_wordHere_7 : decode cX9_wordHere 7 = .ok (.aload_n 0, 1) := by decide +kernel
theorem dX9_wordHere_8 : decode cX9_wordHere 8 = .ok (.getfield 108, 3) := by decide +kernel
theorem dX9_wordHere_11 : decode cX9_wordHere 11 = .ok (.iconst 1, 1) := by decide +kernel
theorem dX9_wordHere_12 : decode cX9_wordHere 12 = .ok (.if_icmp .ne 24, 3) := by decide +kernel
theorem dX9_wordHere_15 : decode cX9_wordHere 15 = .ok (.aload_n 0, 1) := by decide +kernel
theorem dX9_wordHere_16 : decode cX9_wordHere 16 = .ok (.getfield 98, 3) := by decide +kernel
theorem dX9_wordHere_19 : decode cX9_wordHere 19 = .ok (.aload_n 0, 1) := by decide +kernel
theorem dX9_wordHere_20 : decode cX9_wordHere 20 = .ok (.getfield 105, 3) := by decide +kernel
theorem dX9_wordHere_23 : decode cX9_wordHere 23 = .ok (.isub, 1) := by decide +kernel
theorem dX9_wordHere_24 : decode cX9_wordHere 24 = .ok (.bipush 7, 2) := by decide +kernel
theorem dX9_wordHere_26 : decode cX9_wordHere 26 = .ok (.if_icmp .gt 10, 3) := by decide +kernel
theorem dX9_wordHere_29 : decode cX9_wordHere 29 = .ok (.aload_n 0, 1) := by decide +kernel
theorem dX9_wordHere_30 : decode cX9_wordHere 30 = .ok (.invokevirtual 186, 3) := by decide +kernel
theorem dX9_wordHere_33 : decode cX9_wordHere 33 = .ok (.ifCond .eq 12, 3) := by decide +kernel
theorem dX9_wordHere_36 : decode cX9_wordHere 36 = .ok (.aload_n 0, 1) := by decide +kernel
theorem dX9_wordHere_37 : decode cX9_wordHere 37 = .ok (.iconst 1, 1) := by decide +kernel
theorem dX9_wordHere_38 : decode cX9_wordHere 38 = .ok (.aload_n 0, 1) := by decide +kernel
theorem dX9_wordHere_39 : decode cX9_wordHere 39 = .ok (.getfield 105, 3) := by decide +kernel
theorem dX9_wordHere_42 : decode cX9_wordHere 42 = .ok (.invokevirtual 149, 3) := by decide +kernel
theorem dX9_wordHere_45 : decode cX9_wordHere 45 = .ok (.aload_n 0, 1) := by decide +kernel
theorem dX9_wordHere_46 : decode cX9_wordHere 46 = .ok (.invokevirtual 91, 3) := by decide +kernel
theorem dX9_wordHere_49 : decode cX9_wordHere 49 = .ok (.ifCond .eq 18, 3) := by decide +kernel
theorem dX9_wordHere_52 : decode cX9_wordHere 52 = .ok (.aload_n 0, 1) := by decide +kernel
theorem dX9_wordHere_53 : decode cX9_wordHere 53 = .ok (.aload_n 0, 1) := by decide +kernel
theorem dX9_wordHere_54 : decode cX9_wordHere 54 = .ok (.getfield 105, 3) := by decide +kernel
theorem dX9_wordHere_57 : decode cX9_wordHere 57 = .ok (.aload_n 0, 1) := by decide +kernel
theorem dX9_wordHere_58 : decode cX9_wordHere 58 = .ok (.getfield 98, 3) := by decide +kernel
theorem dX9_wordHere_61 : decode cX9_wordHere 61 = .ok (.invokevirtual 189, 3) := by decide +kernel
theorem dX9_wordHere_64 : decode cX9_wordHere 64 = .ok (.goto 4, 3) := by decide +kernel
theorem dX9_wordHere_67 : decode cX9_wordHere 67 = .ok (.lconst 0, 1) := by decide +kernel
theorem dX9_wordHere_68 : decode cX9_wordHere 68 = .ok (.lreturn, 1) := by decide +kernel
abbrev mm_X9_wordHere : ab_M := (RX9, 1, (some .long), false, 8, 213, none)
noncomputable def f_X9_wordHere_J45 (v0 : Int) (h : ab_H) : Option (Int × ab_H) :=
  (ab_on h 10 v0 (f_X9_good v0 h)).bind fun q1 =>
  if q1.1 = (0 : Int) then
    some ((0 : Int), q1.2)
  else
  (ab_get q1.2 10 7 v0).bind fun t2 =>
  (ab_get q1.2 10 6 v0).bind fun t3 =>
  (ab_on q1.2 10 v0 (f_X9_packed v0 t2 t3 q1.2)).bind fun q4 =>
  some (q4.1, q4.2)
set_option maxRecDepth 20000 in
theorem e_X9_wordHere_J45 : ∀ (v0 : Int) (h : ab_H) (q : Int × ab_H), f_X9_wordHere_J45 v0 h = some q → ab_E mm_X9_wordHere cX9_wordHere 45 [some (ab_R v0)] [] h (some (ab_J q.1)) q.2 := by
  intro v0 h q hk
  unfold f_X9_wordHere_J45 at hk
  refine ab_aload_n (pc := 45) (i := 0) dX9_wordHere_45 rfl rfl ?_
  obtain ⟨q1, hq1, hk⟩ := ab_bnd hk
  obtain ⟨hb, hq1⟩ := ab_on_some hq1
  refine ab_callVI (st := []) (as := []) (b := v0) (pc := 46) dX9_wordHere_46 ml_RX9_91 my_X9_good mv_X9_good hb (ct_X9_good hq1) ⟨Nat.le_of_ble_eq_true rfl, Nat.le_of_ble_eq_true rfl⟩ rfl (Nat.le_of_ble_eq_true rfl) rfl ?_
  refine ab_if_eq (pc := 49) (tgt := 67) dX9_wordHere_49 rfl (fun hc => ?_) (fun hc => ?_)
  · have hk := ab_ifp hk hc
    refine ab_lconst (x := (0 : Int)) (pc := 67) dX9_wordHere_67 rfl ab_kl_0 ?_
    obtain rfl := Option.some.inj hk
    exact ab_retl (pc := 68) dX9_wordHere_68 rfl
  · have hk := ab_ifn hk hc
    refine ab_aload_n (pc := 52) (i := 0) dX9_wordHere_52 rfl rfl ?_
    refine ab_aload_n (pc := 53) (i := 0) dX9_wordHere_53 rfl rfl ?_
    obtain ⟨t2, ht2, hk⟩ := ab_bnd hk
    refine ab_getI (pc := 54) dX9_wordHere_54 fl_RX9_105 ht2 ?_
    refine ab_aload_n (pc := 57) (i := 0) dX9_wordHere_57 rfl rfl ?_
    obtain ⟨t3, ht3, hk⟩ := ab_bnd hk
    refine ab_getI (pc := 58) dX9_wordHere_58 fl_RX9_98 ht3 ?_
    obtain ⟨q4, hq4, hk⟩ := ab_bnd hk
    obtain ⟨hb, hq4⟩ := ab_on_some hq4
    refine ab_callVJ (st := []) (as := [ab_I t2, ab_I t3]) (b := v0) (pc := 61) dX9_wordHere_61 ml_RX9_189 my_X9_packed mv_X9_packed hb (ct_X9_packed hq4) ⟨Nat.le_of_ble_eq_true rfl, Nat.le_of_ble_eq_true rfl⟩ rfl (Nat.le_of_ble_eq_true rfl) rfl ?_
    refine ab_goto (pc := 64) (tgt := 68) dX9_wordHere_64 rfl ?_
    obtain rfl := Option.some.inj hk
    exact ab_retl (pc := 68) dX9_wordHere_68 rfl
noncomputable def f_X9_wordHere_J36 (v0 : Int) (h : ab_H) : Option (Int × ab_H) :=
  (ab_get h 10 7 v0).bind fun t1 =>
  (ab_on h 10 v0 (f_X9_errs v0 (1 : Int) t1 h)).bind fun q2 =>
  f_X9_wordHere_J45 v0 q2
set_option maxRecDepth 20000 in
theorem e_X9_wordHere_J36 : ∀ (v0 : Int) (h : ab_H) (q : Int × ab_H), f_X9_wordHere_J36 v0 h = some q → ab_E mm_X9_wordHere cX9_wordHere 36 [some (ab_R v0)] [] h (some (ab_J q.1)) q.2 := by
  intro v0 h q hk
  unfold f_X9_wordHere_J36 at hk
  refine ab_aload_n (pc := 36) (i := 0) dX9_wordHere_36 rfl rfl ?_
  refine ab_iconst (pc := 37) dX9_wordHere_37 ab_k_1 ?_
  refine ab_aload_n (pc := 38) (i := 0) dX9_wordHere_38 rfl rfl ?_
  obtain ⟨t1, ht1, hk⟩ := ab_bnd hk
  refine ab_getI (pc := 39) dX9_wordHere_39 fl_RX9_105 ht1 ?_
  obtain ⟨q2, hq2, hk⟩ := ab_bnd hk
  obtain ⟨hb, hq2⟩ := ab_on_some hq2
  refine ab_callVV (st := []) (as := [ab_I (1 : Int), ab_I t1]) (b := v0) (pc := 42) dX9_wordHere_42 ml_RX9_149 my_X9_errs mv_X9_errs hb (ct_X9_errs hq2) ⟨Nat.le_of_ble_eq_true rfl, Nat.le_of_ble_eq_true rfl⟩ rfl (Nat.le_of_ble_eq_true rfl) rfl ?_
  refine ab_sub_ (lv2 := [some (ab_R v0)]) (ab_ss ab_s0) ?_
  exact e_X9_wordHere_J45 _ _ _ hk
noncomputable def f_X9_wordHere (a0 : Int) (h : ab_H) : Option (Int × ab_H) :=
  (ab_on h 10 a0 (f_X9_good a0 h)).bind fun q1 =>
  if q1.1 = (0 : Int) then
    f_X9_wordHere_J45 a0 q1.2
  else
  (ab_get q1.2 10 8 a0).bind fun t2 =>
  if t2 = (1 : Int) then
    (ab_get q1.2 10 6 a0).bind fun t3 =>
    (ab_get q1.2 10 7 a0).bind fun t4 =>
    if (7 : Int) < ab_w32 (t3 - t4) then
      f_X9_wordHere_J36 a0 q1.2
    else
    (ab_on q1.2 10 a0 (f_X9_isOwnWord a0 q1.2)).bind fun q5 =>
    if q5.1 = (0 : Int) then
      f_X9_wordHere_J45 a0 q5.2
    else
    f_X9_wordHere_J36 a0 q5.2
  else
  f_X9_wordHere_J36 a0 q1.2
set_option maxRecDepth 20000 in
theorem ct_X9_wordHere {a0 : Int} {h : ab_H} {q : Int × ab_H} (hk : f_X9_wordHere a0 h = some q) : ab_CT yX9_wordHere cX9_wordHere 1 (some .long) 8 213 [ab_R a0] h (some (ab_J q.1)) q.2 := by
  refine ab_CT.mk_ 0 (own := RX9) (ini := false) (lv := [some (ab_R a0)]) rfl (by decide +kernel) (fun q => by cases q) rfl rfl ?_
  unfold f_X9_wordHere at hk
  show ab_E mm_X9_wordHere cX9_wordHere 0 _ [] h _ _
  refine ab_aload_n (pc := 0) (i := 0) dX9_wordHere_0 rfl rfl ?_
  obtain ⟨q1, hq1, hk⟩ := ab_bnd hk
  obtain ⟨hb, hq1⟩ := ab_on_some hq1
  refine ab_callVI (st := []) (as := []) (b := a0) (pc := 1) dX9_wordHere_1 ml_RX9_91 my_X9_good mv_X9_good hb (ct_X9_good hq1) ⟨Nat.le_of_ble_eq_true rfl, Nat.le_of_ble_eq_true rfl⟩ rfl (Nat.le_of_ble_eq_true rfl) rfl ?_
  refine ab_if_eq (pc := 4) (tgt := 45) dX9_wordHere_4 rfl (fun hc => ?_) (fun hc => ?_)
  · have hk := ab_ifp hk hc
    refine ab_sub_ (lv2 := [some (ab_R a0)]) (ab_ss ab_s0) ?_
    exact e_X9_wordHere_J45 _ _ _ hk
  · have hk := ab_ifn hk hc
    refine ab_aload_n (pc := 7) (i := 0) dX9_wordHere_7 rfl rfl ?_
    obtain ⟨t2, ht2, hk⟩ := ab_bnd hk
    refine ab_getI (pc := 8) dX9_wordHere_8 fl_RX9_108 ht2 ?_
    refine ab_iconst (pc := 11) dX9_wordHere_11 ab_k_1 ?_
    refine ab_icmp_ne (pc := 12) (tgt := 36) dX9_wordHere_12 rfl (fun hc => ?_) (fun hc => ?_)
    · have hk := ab_ifn hk hc
      refine ab_sub_ (lv2 := [some (ab_R a0)]) (ab_ss ab_s0) ?_
      exact e_X9_wordHere_J36 _ _ _ hk
    · have hk := ab_ifp hk hc
      refine ab_aload_n (pc := 15) (i := 0) dX9_wordHere_15 rfl rfl ?_
      obtain ⟨t3, ht3, hk⟩ := ab_bnd hk
      refine ab_getI (pc := 16) dX9_wordHere_16 fl_RX9_98 ht3 ?_
      refine ab_aload_n (pc := 19) (i := 0) dX9_wordHere_19 rfl rfl ?_
      obtain ⟨t4, ht4, hk⟩ := ab_bnd hk
      refine ab_getI (pc := 20) dX9_wordHere_20 fl_RX9_105 ht4 ?_
      refine ab_isub (pc := 23) dX9_wordHere_23 ?_
      refine ab_bipush (pc := 24) dX9_wordHere_24 ab_p8_7 ab_k_7 ?_
      refine ab_icmp_gt (pc := 26) (tgt := 36) dX9_wordHere_26 rfl (fun hc => ?_) (fun hc => ?_)
      · have hk := ab_ifp hk hc
        refine ab_sub_ (lv2 := [some (ab_R a0)]) (ab_ss ab_s0) ?_
        exact e_X9_wordHere_J36 _ _ _ hk
      · have hk := ab_ifn hk hc
        refine ab_aload_n (pc := 29) (i := 0) dX9_wordHere_29 rfl rfl ?_
        obtain ⟨q5, hq5, hk⟩ := ab_bnd hk
        obtain ⟨hb, hq5⟩ := ab_on_some hq5
        refine ab_callVI (st := []) (as := []) (b := a0) (pc := 30) dX9_wordHere_30 ml_RX9_186 my_X9_isOwnWord mv_X9_isOwnWord hb (ct_X9_isOwnWord hq5) ⟨Nat.le_of_ble_eq_true rfl, Nat.le_of_ble_eq_true rfl⟩ rfl (Nat.le_of_ble_eq_true rfl) rfl ?_
        refine ab_if_eq (pc := 33) (tgt := 45) dX9_wordHere_33 rfl (fun hc => ?_) (fun hc => ?_)
        · have hk := ab_ifp hk hc
          refine ab_sub_ (lv2 := [some (ab_R a0)]) (ab_ss ab_s0) ?_
          exact e_X9_wordHere_J45 _ _ _ hk
        · have hk := ab_ifn hk hc
          refine ab_sub_ (lv2 := [some (ab_R a0)]) (ab_ss ab_s0) ?_
          exact e_X9_wordHere_J36 _ _ _ hk
theorem dX9_wordRead_0 : decode cX9_wordRead 0 = .ok (.aload_n 0, 1) := by decide +kernel
theorem dX9_wordRead_1 : decode cX9_wordRead 1 = .ok (.invokevirtual 193, 3) := by decide +kernel
theorem dX9_wordRead_4 : decode cX9_wordRead 4 = .ok (.lstore_n 1, 1) := by decide +kernel
theorem dX9_wordRead_5 : decode cX9_wordRead 5 = .ok (.aload_n 0, 1) := by decide +kernel
theorem dX9_wordRead_6 : decode cX9_wordRead 6 = .ok (.invokevirtual 91, 3) := by decide +kernel
theorem dX9_wordRead_9 : decode cX9_wordRead 9 = .ok (.ifCond .eq 7, 3) := by decide +kernel
theorem dX9_wordRead_12 : decode cX9_wordRead 12 = .ok (.aload_n 0, 1) := by decide +kernel
theorem dX9_wordRead_13 : decode cX9_wordRead 13 = .ok (.invokevirtual 142, 3) := by decide +kernel
theorem dX9_wordRead_16 : decode cX9_wordRead 16 = .ok (.lload_n 1, 1) := by decide +kernel
theorem dX9_wordRead_17 : decode cX9_wordRead 17 = .ok (.lreturn, 1) := by decide +kernel
abbrev mm_X9_wordRead : ab_M := (RX9, 3, (some .long), false, 9, 233, none)
noncomputable def f_X9_wordRead (a0 : Int) (h : ab_H) : Option (Int × ab_H) :=
  (ab_on h 10 a0 (f_X9_wordHere a0 h)).bind fun q1 =>
  (ab_on q1.2 10 a0 (f_X9_good a0 q1.2)).bind fun q2 =>
  if q2.1 = (0 : Int) then
    some (q1.1, q2.2)
  else
  (ab_on q2.2 10 a0 (f_X9_advance a0 q2.2)).bind fun q3 =>
  some (q1.1, q3)
set_option maxRecDepth 20000 in
theorem ct_X9_wordRead {a0 : Int} {h : ab_H} {q : Int × ab_H} (hk : f_X9_wordRead a0 h = some q) : ab_CT yX9_wordRead cX9_wordRead 3 (some .long) 9 233 [ab_R a0] h (some (ab_J q.1)) q.2 := by
  refine ab_CT.mk_ 2 (own := RX9) (ini := false) (lv := [some (ab_R a0), none, none]) rfl (by decide +kernel) (fun q => by cases q) rfl rfl ?_
  unfold f_X9_wordRead at hk
  show ab_E mm_X9_wordRead cX9_wordRead 0 _ [] h _ _
  refine ab_aload_n (pc := 0) (i := 0) dX9_wordRead_0 rfl rfl ?_
  obtain ⟨q1, hq1, hk⟩ := ab_bnd hk
  obtain ⟨hb, hq1⟩ := ab_on_some hq1
  refine ab_callVJ (st := []) (as := []) (b := a0) (pc := 1) dX9_wordRead_1 ml_RX9_193 my_X9_wordHere mv_X9_wordHere hb (ct_X9_wordHere hq1) ⟨Nat.le_of_ble_eq_true rfl, Nat.le_of_ble_eq_true rfl⟩ rfl (Nat.le_of_ble_eq_true rfl) rfl ?_
  refine ab_lstore_n (pc := 4) (i := 1) (lv2 := [some (ab_R a0), some (ab_J q1.1), none]) dX9_wordRead_4 rfl (Nat.le_of_ble_eq_true rfl) rfl rfl ?_
  refine ab_aload_n (pc := 5) (i := 0) dX9_wordRead_5 rfl rfl ?_
  obtain ⟨q2, hq2, hk⟩ := ab_bnd hk
  obtain ⟨hb, hq2⟩ := ab_on_some hq2
  refine ab_callVI (st := []) (as := []) (b := a0) (pc := 6) dX9_wordRead_6 ml_RX9_91 my_X9_good mv_X9_good hb (ct_X9_good hq2) ⟨Nat.le_of_ble_eq_true rfl, Nat.le_of_ble_eq_true rfl⟩ rfl (Nat.le_of_ble_eq_true rfl) rfl ?_
  refine ab_if_eq (pc := 9) (tgt := 16) dX9_wordRead_9 rfl (fun hc => ?_) (fun hc => ?_)
  · have hk := ab_ifp hk hc
    refine ab_lload_n (pc := 16) (i := 1) dX9_wordRead_16 rfl rfl ?_
    obtain rfl := Option.some.inj hk
    exact ab_retl (pc := 17) dX9_wordRead_17 rfl
  · have hk := ab_ifn hk hc
    refine ab_aload_n (pc := 12) (i := 0) dX9_wordRead_12 rfl rfl ?_
    obtain ⟨q3, hq3, hk⟩ := ab_bnd hk
    obtain ⟨hb, hq3⟩ := ab_on_some hq3
    refine ab_callVV (st := []) (as := []) (b := a0) (pc := 13) dX9_wordRead_13 ml_RX9_142 my_X9_advance mv_X9_advance hb (ct_X9_advance hq3) ⟨Nat.le_of_ble_eq_true rfl, Nat.le_of_ble_eq_true rfl⟩ rfl (Nat.le_of_ble_eq_true rfl) rfl ?_
    refine ab_lload_n (pc := 16) (i := 1) dX9_wordRead_16 rfl rfl ?_
    obtain rfl := Option.some.inj hk
    exact ab_retl (pc := 17) dX9_wordRead_17 rfl
theorem dX9_readLaw_0 : decode cX9_readLaw 0 = .ok (.aload_n 0, 1) := by decide +kernel
theorem dX9_readLaw_1 : decode cX9_readLaw 1 = .ok (.invokevirtual 165, 3) := by decide +kernel
theorem dX9_readLaw_4 : decode cX9_readLaw 4 = .ok (.istore_n 1, 1) := by decide +kernel
theorem dX9_readLaw_5 : decode cX9_readLaw 5 = .ok (.iload_n 1, 1) := by decide +kernel
theorem dX9_readLaw_6 : decode cX9_readLaw 6 = .ok (.iconst (-1), 1) := by decide +kernel
theorem dX9_readLaw_7 : decode cX9_readLaw 7 = .ok (.if_icmp .ne 12, 3) := by decide +kernel
theorem dX9_readLaw_10 : decode cX9_readLaw 10 = .ok (.aload_n 0, 1) := by decide +kernel
theorem dX9_readLaw_11 : decode cX9_readLaw 11 = .ok (.iconst 1, 1) := by decide +kernel
theorem dX9_readLaw_12 : decode cX9_readLaw 12 = .ok (.aload_n 0, 1) := by decide +kernel
theorem dX9_readLaw_13 : decode cX9_readLaw 13 = .ok (.getfield 105, 3) := by decide +kernel
theorem dX9_readLaw_16 : decode cX9_readLaw 16 = .ok (.invokevirtual 149, 3) := by decide +kernel
theorem dX9_readLaw_19 : decode cX9_readLaw 19 = .ok (.aload_n 0, 1) := by decide +kernel
theorem dX9_readLaw_20 : decode cX9_readLaw 20 = .ok (.invokevirtual 91, 3) := by decide +kernel
theorem dX9_readLaw_23 : decode cX9_readLaw 23 = .ok (.ifCond .eq 24, 3) := by decide +kernel
theorem dX9_readLaw_26 : decode cX9_readLaw 26 = .ok (.aload_n 0, 1) := by decide +kernel
theorem dX9_readLaw_27 : decode cX9_readLaw 27 = .ok (.getfield 197, 3) := by decide +kernel
theorem dX9_readLaw_30 : decode cX9_readLaw 30 = .ok (.iload_n 1, 1) := by decide +kernel
theorem dX9_readLaw_31 : decode cX9_readLaw 31 = .ok (.ishr, 1) := by decide +kernel
theorem dX9_readLaw_32 : decode cX9_readLaw 32 = .ok (.iconst 1, 1) := by decide +kernel
theorem dX9_readLaw_33 : decode cX9_readLaw 33 = .ok (.iand, 1) := by decide +kernel
theorem dX9_readLaw_34 : decode cX9_readLaw 34 = .ok (.iconst 1, 1) := by decide +kernel
theorem dX9_readLaw_35 : decode cX9_readLaw 35 = .ok (.if_icmp .ne 12, 3) := by decide +kernel
theorem dX9_readLaw_38 : decode cX9_readLaw 38 = .ok (.aload_n 0, 1) := by decide +kernel
theorem dX9_readLaw_39 : decode cX9_readLaw 39 = .ok (.iconst 3, 1) := by decide +kernel
theorem dX9_readLaw_40 : decode cX9_readLaw 40 = .ok (.aload_n 0, 1) := by decide +kernel
theorem dX9_readLaw_41 : decode cX9_readLaw 41 = .ok (.getfield 105, 3) := by decide +kernel
theorem dX9_readLaw_44 : decode cX9_readLaw 44 = .ok (.invokevirtual 149, 3) := by decide +kernel
theorem dX9_readLaw_47 : decode cX9_readLaw 47 = .ok (.aload_n 0, 1) := by decide +kernel
theorem dX9_readLaw_48 : decode cX9_readLaw 48 = .ok (.invokevirtual 91, 3) := by decide +kernel
theorem dX9_readLaw_51 : decode cX9_readLaw 51 = .ok (.ifCond .ne 4, 3) := by decide +kernel
theorem dX9_readLaw_54 : decode cX9_readLaw 54 = .ok (.return_, 1) := by decide +kernel
theorem dX9_readLaw_55 : decode cX9_readLaw 55 = .ok (.aload_n 0, 1) := by decide +kernel
theorem dX9_readLaw_56 : decode cX9_readLaw 56 = .ok (.dup, 1) := by decide +kernel
theorem dX9_readLaw_57 : decode cX9_readLaw 57 = .ok (.getfield 197, 3) := by decide +kernel
theorem dX9_readLaw_60 : decode cX9_readLaw 60 = .ok (.iconst 1, 1) := by decide +kernel
theorem dX9_readLaw_61 : decode cX9_readLaw 61 = .ok (.iload_n 1, 1) := by decide +kernel
theorem dX9_readLaw_62 : decode cX9_readLaw 62 = .ok (.ishl, 1) := by decide +kernel
theorem dX9_readLaw_63 : decode cX9_readLaw 63 = .ok (.ior, 1) := by decide +kernel
theorem dX9_readLaw_64 : decode cX9_readLaw 64 = .ok (.putfield 197, 3) := by decide +kernel
theorem dX9_readLaw_67 : decode cX9_readLaw 67 = .ok (.aload_n 0, 1) := by decide +kernel
theorem dX9_readLaw_68 : decode cX9_readLaw 68 = .ok (.invokevirtual 142, 3) := by decide +kernel
theorem dX9_readLaw_71 : decode cX9_readLaw 71 = .ok (.aload_n 0, 1) := by decide +kernel
theorem dX9_readLaw_72 : decode cX9_readLaw 72 = .ok (.ldc 174, 2) := by decide +kernel
theorem dX9_readLaw_74 : decode cX9_readLaw 74 = .ok (.invokevirtual 138, 3) := by decide +kernel
theorem dX9_readLaw_77 : decode cX9_readLaw 77 = .ok (.ifCond .eq 7, 3) := by decide +kernel
theorem dX9_readLaw_80 : decode cX9_readLaw 80 = .ok (.iconst 0, 1) := by decide +kernel
theorem dX9_readLaw_81 : decode cX9_readLaw 81 = .ok (.goto 30, 3) := by decide +kernel
theorem dX9_readLaw_84 : decode cX9_readLaw 84 = .ok (.aload_n 0, 1) := by decide +kernel
theorem dX9_readLaw_85 : decode cX9_readLaw 85 = .ok (.ldc 176, 2) := by decide +kernel
theorem dX9_readLaw_87 : decode cX9_readLaw 87 = .ok (.invokevirtual 138, 3) := by decide +kernel
theorem dX9_readLaw_90 : decode cX9_readLaw 90 = .ok (.ifCond .eq 7, 3) := by decide +kernel
theorem dX9_readLaw_93 : decode cX9_readLaw 93 = .ok (.iconst 1, 1) := by decide +kernel
theorem dX9_readLaw_94 : decode cX9_readLaw 94 = .ok (.goto 17, 3) := by decide +kernel
theorem dX9_readLaw_97 : decode cX9_readLaw 97 = .ok (.aload_n 0, 1) := by decide +kernel
theorem dX9_readLaw_98 : decode cX9_readLaw 98 = .ok (.ldc 178, 2) := by decide +kernel
theorem dX9_readLaw_100 : decode cX9_readLaw 100 = .ok (.invokevirtual 138, 3) := by decide +kernel
theorem dX9_readLaw_103 : decode cX9_readLaw 103 = .ok (.ifCond .eq 7, 3) := by decide +kernel
theorem dX9_readLaw_106 : decode cX9_readLaw 106 = .ok (.iconst 2, 1) := by decide +kernel
theorem dX9_readLaw_107 : decode cX9_readLaw 107 = .ok (.goto 4, 3) := by decide +kernel
theorem dX9_readLaw_110 : decode cX9_readLaw 110 = .ok (.iconst (-1), 1) := by decide +kernel
theorem dX9_readLaw_111 : decode cX9_readLaw 111 = .ok (.istore_n 2, 1) := by decide +kernel
theorem dX9_readLaw_112 : decode cX9_readLaw 112 = .ok (.iload_n 2, 1) := by decide +kernel
theorem dX9_readLaw_113 : decode cX9_readLaw 113 = .ok (.iconst (-1), 1) := by decide +kernel
theorem dX9_readLaw_114 : decode cX9_readLaw 114 = .ok (.if_icmp .ne 12, 3) := by decide +kernel
theorem dX9_readLaw_117 : decode cX9_readLaw 117 = .ok (.aload_n 0, 1) := by decide +kernel
theorem dX9_readLaw_118 : decode cX9_readLaw 118 = .ok (.iconst 1, 1) := by decide +kernel
theorem dX9_readLaw_119 : decode cX9_readLaw 119 = .ok (.aload_n 0, 1) := by decide +kernel
theorem dX9_readLaw_120 : decode cX9_readLaw 120 = .ok (.getfield 105, 3) := by decide +kernel
theorem dX9_readLaw_123 : decode cX9_readLaw 123 = .ok (.invokevirtual 149, 3) := by decide +kernel
theorem dX9_readLaw_126 : decode cX9_readLaw 126 = .ok (.aload_n 0, 1) := by decide +kernel
theorem dX9_readLaw_127 : decode cX9_readLaw 127 = .ok (.invokevirtual 91, 3) := by decide +kernel
theorem dX9_readLaw_130 : decode cX9_readLaw 130 = .ok (.ifCond .ne 4, 3) := by decide +kernel
theorem dX9_readLaw_133 : decode cX9_readLaw 133 = .ok (.return_, 1) := by decide +kernel
theorem dX9_readLaw_134 : decode cX9_readLaw 134 = .ok (.aload_n 0, 1) := by decide +kernel
theorem dX9_readLaw_135 : decode cX9_readLaw 135 = .ok (.getfield 13, 3) := by decide +kernel
theorem dX9_readLaw_138 : decode cX9_readLaw 138 = .ok (.iconst 2, 1) := by decide +kernel
theorem dX9_readLaw_139 : decode cX9_readLaw 139 = .ok (.iload_n 1, 1) := by decide +kernel
theorem dX9_readLaw_140 : decode cX9_readLaw 140 = .ok (.iadd, 1) := by decide +kernel
theorem dX9_readLaw_141 : decode cX9_readLaw 141 = .ok (.iload_n 2, 1) := by decide +kernel
theorem dX9_readLaw_142 : decode cX9_readLaw 142 = .ok (.i2l, 1) := by decide +kernel
theorem dX9_readLaw_143 : decode cX9_readLaw 143 = .ok (.lastore, 1) := by decide +kernel
theorem dX9_readLaw_144 : decode cX9_readLaw 144 = .ok (.aload_n 0, 1) := by decide +kernel
theorem dX9_readLaw_145 : decode cX9_readLaw 145 = .ok (.invokevirtual 142, 3) := by decide +kernel
theorem dX9_readLaw_148 : decode cX9_readLaw 148 = .ok (.return_, 1) := by decide +kernel
abbrev mm_X9_readLaw : ab_M := (RX9, 3, none, false, 7, 193, none)
noncomputable def f_X9_readLaw_J126 (v0 : Int) (v1 : Int) (v2 : Int) (h : ab_H) : Option ab_H :=
  (ab_on h 10 v0 (f_X9_good v0 h)).bind fun q1 =>
  if q1.1 = (0 : Int) then
    some q1.2
  else
  (ab_get q1.2 10 2 v0).bind fun t2 =>
  (ab_ast q1.2 12 t2 (ab_w32 ((2 : Int) + v1)) v2).bind fun h1 =>
  (ab_on h1 10 v0 (f_X9_advance v0 h1)).bind fun q3 =>
  some q3
set_option maxRecDepth 20000 in
theorem e_X9_readLaw_J126 : ∀ (v0 : Int) (v1 : Int) (v2 : Int) (h : ab_H) (q : ab_H), f_X9_readLaw_J126 v0 v1 v2 h = some q → ab_E mm_X9_readLaw cX9_readLaw 126 [some (ab_R v0), some (ab_I v1), some (ab_I v2)] [] h none q := by
  intro v0 v1 v2 h q hk
  unfold f_X9_readLaw_J126 at hk
  refine ab_aload_n (pc := 126) (i := 0) dX9_readLaw_126 rfl rfl ?_
  obtain ⟨q1, hq1, hk⟩ := ab_bnd hk
  obtain ⟨hb, hq1⟩ := ab_on_some hq1
  refine ab_callVI (st := []) (as := []) (b := v0) (pc := 127) dX9_readLaw_127 ml_RX9_91 my_X9_good mv_X9_good hb (ct_X9_good hq1) ⟨Nat.le_of_ble_eq_true rfl, Nat.le_of_ble_eq_true rfl⟩ rfl (Nat.le_of_ble_eq_true rfl) rfl ?_
  refine ab_if_ne (pc := 130) (tgt := 134) dX9_readLaw_130 rfl (fun hc => ?_) (fun hc => ?_)
  · have hk := ab_ifn hk hc
    refine ab_aload_n (pc := 134) (i := 0) dX9_readLaw_134 rfl rfl ?_
    obtain ⟨t2, ht2, hk⟩ := ab_bnd hk
    refine ab_getR (pc := 135) dX9_readLaw_135 fl_RX9_13 ht2 ?_
    refine ab_iconst (pc := 138) dX9_readLaw_138 ab_k_2 ?_
    refine ab_iload_n (pc := 139) (i := 1) dX9_readLaw_139 rfl rfl ?_
    refine ab_iadd (pc := 140) dX9_readLaw_140 ?_
    refine ab_iload_n (pc := 141) (i := 2) dX9_readLaw_141 rfl rfl ?_
    refine ab_i2l_ (pc := 142) dX9_readLaw_142 ?_
    obtain ⟨h1, hh1, hk⟩ := ab_bnd hk
    refine ab_last (pc := 143) dX9_readLaw_143 hh1 ?_
    refine ab_aload_n (pc := 144) (i := 0) dX9_readLaw_144 rfl rfl ?_
    obtain ⟨q3, hq3, hk⟩ := ab_bnd hk
    obtain ⟨hb, hq3⟩ := ab_on_some hq3
    refine ab_callVV (st := []) (as := []) (b := v0) (pc := 145) dX9_readLaw_145 ml_RX9_142 my_X9_advance mv_X9_advance hb (ct_X9_advance hq3) ⟨Nat.le_of_ble_eq_true rfl, Nat.le_of_ble_eq_true rfl⟩ rfl (Nat.le_of_ble_eq_true rfl) rfl ?_
    obtain rfl := Option.some.inj hk
    exact ab_retv (pc := 148) dX9_readLaw_148 rfl
  · have hk := ab_ifp hk hc
    obtain rfl := Option.some.inj hk
    exact ab_retv (pc := 133) dX9_readLaw_133 rfl
noncomputable def f_X9_readLaw_J111 (v0 : Int) (v1 : Int) (s0 : Int) (h : ab_H) : Option ab_H :=
  if s0 = (-1 : Int) then
    (ab_get h 10 7 v0).bind fun t1 =>
    (ab_on h 10 v0 (f_X9_errs v0 (1 : Int) t1 h)).bind fun q2 =>
    f_X9_readLaw_J126 v0 v1 s0 q2
  else
  f_X9_readLaw_J126 v0 v1 s0 h
set_option maxRecDepth 20000 in
theorem e_X9_readLaw_J111 : ∀ (v0 : Int) (v1 : Int) (s0 : Int) (h : ab_H) (q : ab_H), f_X9_readLaw_J111 v0 v1 s0 h = some q → ab_E mm_X9_readLaw cX9_readLaw 111 [some (ab_R v0), some (ab_I v1), none] [ab_I s0] h none q := by
  intro v0 v1 s0 h q hk
  unfold f_X9_readLaw_J111 at hk
  refine ab_istore_n (pc := 111) (i := 2) (lv2 := [some (ab_R v0), some (ab_I v1), some (ab_I s0)]) dX9_readLaw_111 rfl (Nat.le_of_ble_eq_true rfl) rfl rfl ?_
  refine ab_iload_n (pc := 112) (i := 2) dX9_readLaw_112 rfl rfl ?_
  refine ab_iconst (pc := 113) dX9_readLaw_113 ab_k_m1 ?_
  refine ab_icmp_ne (pc := 114) (tgt := 126) dX9_readLaw_114 rfl (fun hc => ?_) (fun hc => ?_)
  · have hk := ab_ifn hk hc
    refine ab_sub_ (lv2 := [some (ab_R v0), some (ab_I v1), some (ab_I s0)]) (ab_ss (ab_ss (ab_ss ab_s0))) ?_
    exact e_X9_readLaw_J126 _ _ _ _ _ hk
  · have hk := ab_ifp hk hc
    refine ab_aload_n (pc := 117) (i := 0) dX9_readLaw_117 rfl rfl ?_
    refine ab_iconst (pc := 118) dX9_readLaw_118 ab_k_1 ?_
    refine ab_aload_n (pc := 119) (i := 0) dX9_readLaw_119 rfl rfl ?_
    obtain ⟨t1, ht1, hk⟩ := ab_bnd hk
    refine ab_getI (pc := 120) dX9_readLaw_120 fl_RX9_105 ht1 ?_
    obtain ⟨q2, hq2, hk⟩ := ab_bnd hk
    obtain ⟨hb, hq2⟩ := ab_on_some hq2
    refine ab_callVV (st := []) (as := [ab_I (1 : Int), ab_I t1]) (b := v0) (pc := 123) dX9_readLaw_123 ml_RX9_149 my_X9_errs mv_X9_errs hb (ct_X9_errs hq2) ⟨Nat.le_of_ble_eq_true rfl, Nat.le_of_ble_eq_true rfl⟩ rfl (Nat.le_of_ble_eq_true rfl) rfl ?_
    refine ab_sub_ (lv2 := [some (ab_R v0), some (ab_I v1), some (ab_I s0)]) (ab_ss (ab_ss (ab_ss ab_s0))) ?_
    exact e_X9_readLaw_J126 _ _ _ _ _ hk
noncomputable def f_X9_readLaw_J47 (v0 : Int) (v1 : Int) (h : ab_H) : Option ab_H :=
  (ab_on h 10 v0 (f_X9_good v0 h)).bind fun q1 =>
  if q1.1 = (0 : Int) then
    some q1.2
  else
  (ab_get q1.2 10 12 v0).bind fun t2 =>
  (ab_put q1.2 10 12 v0 (ab_or t2 (ab_shl (1 : Int) v1))).bind fun h1 =>
  (ab_on h1 10 v0 (f_X9_advance v0 h1)).bind fun q3 =>
  (ab_on q3 10 v0 (f_X9_isWord v0 (-9 : Int) q3)).bind fun q4 =>
  if q4.1 = (0 : Int) then
    (ab_on q4.2 10 v0 (f_X9_isWord v0 (-10 : Int) q4.2)).bind fun q5 =>
    if q5.1 = (0 : Int) then
      (ab_on q5.2 10 v0 (f_X9_isWord v0 (-11 : Int) q5.2)).bind fun q6 =>
      if q6.1 = (0 : Int) then
        f_X9_readLaw_J111 v0 v1 (-1 : Int) q6.2
      else
      f_X9_readLaw_J111 v0 v1 (2 : Int) q6.2
    else
    f_X9_readLaw_J111 v0 v1 (1 : Int) q5.2
  else
  f_X9_readLaw_J111 v0 v1 (0 : Int) q4.2
set_option maxRecDepth 20000 in
theorem e_X9_readLaw_J47 : ∀ (v0 : Int) (v1 : Int) (h : ab_H) (q : ab_H), f_X9_readLaw_J47 v0 v1 h = some q → ab_E mm_X9_readLaw cX9_readLaw 47 [some (ab_R v0), some (ab_I v1), none] [] h none q := by
  intro v0 v1 h q hk
  unfold f_X9_readLaw_J47 at hk
  refine ab_aload_n (pc := 47) (i := 0) dX9_readLaw_47 rfl rfl ?_
  obtain ⟨q1, hq1, hk⟩ := ab_bnd hk
  obtain ⟨hb, hq1⟩ := ab_on_some hq1
  refine ab_callVI (st := []) (as := []) (b := v0) (pc := 48) dX9_readLaw_48 ml_RX9_91 my_X9_good mv_X9_good hb (ct_X9_good hq1) ⟨Nat.le_of_ble_eq_true rfl, Nat.le_of_ble_eq_true rfl⟩ rfl (Nat.le_of_ble_eq_true rfl) rfl ?_
  refine ab_if_ne (pc := 51) (tgt := 55) dX9_readLaw_51 rfl (fun hc => ?_) (fun hc => ?_)
  · have hk := ab_ifn hk hc
    refine ab_aload_n (pc := 55) (i := 0) dX9_readLaw_55 rfl rfl ?_
    refine ab_dup (pc := 56) dX9_readLaw_56 rfl ?_
    obtain ⟨t2, ht2, hk⟩ := ab_bnd hk
    refine ab_getI (pc := 57) dX9_readLaw_57 fl_RX9_197 ht2 ?_
    refine ab_iconst (pc := 60) dX9_readLaw_60 ab_k_1 ?_
    refine ab_iload_n (pc := 61) (i := 1) dX9_readLaw_61 rfl rfl ?_
    refine ab_ishl (pc := 62) dX9_readLaw_62 ?_
    refine ab_ior (pc := 63) dX9_readLaw_63 ?_
    obtain ⟨h1, hh1, hk⟩ := ab_bnd hk
    refine ab_putI_ (pc := 64) dX9_readLaw_64 fl_RX9_197 (fun q => by cases q) hh1 ?_
    refine ab_aload_n (pc := 67) (i := 0) dX9_readLaw_67 rfl rfl ?_
    obtain ⟨q3, hq3, hk⟩ := ab_bnd hk
    obtain ⟨hb, hq3⟩ := ab_on_some hq3
    refine ab_callVV (st := []) (as := []) (b := v0) (pc := 68) dX9_readLaw_68 ml_RX9_142 my_X9_advance mv_X9_advance hb (ct_X9_advance hq3) ⟨Nat.le_of_ble_eq_true rfl, Nat.le_of_ble_eq_true rfl⟩ rfl (Nat.le_of_ble_eq_true rfl) rfl ?_
    refine ab_aload_n (pc := 71) (i := 0) dX9_readLaw_71 rfl rfl ?_
    refine ab_lds (j := 8) (pc := 72) dX9_readLaw_72 rfl ?_
    obtain ⟨q4, hq4, hk⟩ := ab_bnd hk
    obtain ⟨hb, hq4⟩ := ab_on_some hq4
    refine ab_callVI (st := []) (as := [ab_R (-9 : Int)]) (b := v0) (pc := 74) dX9_readLaw_74 ml_RX9_138 my_X9_isWord mv_X9_isWord hb (ct_X9_isWord hq4) ⟨Nat.le_of_ble_eq_true rfl, Nat.le_of_ble_eq_true rfl⟩ rfl (Nat.le_of_ble_eq_true rfl) rfl ?_
    refine ab_if_eq (pc := 77) (tgt := 84) dX9_readLaw_77 rfl (fun hc => ?_) (fun hc => ?_)
    · have hk := ab_ifp hk hc
      refine ab_aload_n (pc := 84) (i := 0) dX9_readLaw_84 rfl rfl ?_
      refine ab_lds (j := 9) (pc := 85) dX9_readLaw_85 rfl ?_
      obtain ⟨q5, hq5, hk⟩ := ab_bnd hk
      obtain ⟨hb, hq5⟩ := ab_on_some hq5
      refine ab_callVI (st := []) (as := [ab_R (-10 : Int)]) (b := v0) (pc := 87) dX9_readLaw_87 ml_RX9_138 my_X9_isWord mv_X9_isWord hb (ct_X9_isWord hq5) ⟨Nat.le_of_ble_eq_true rfl, Nat.le_of_ble_eq_true rfl⟩ rfl (Nat.le_of_ble_eq_true rfl) rfl ?_
      refine ab_if_eq (pc := 90) (tgt := 97) dX9_readLaw_90 rfl (fun hc => ?_) (fun hc => ?_)
      · have hk := ab_ifp hk hc
        refine ab_aload_n (pc := 97) (i := 0) dX9_readLaw_97 rfl rfl ?_
        refine ab_lds (j := 10) (pc := 98) dX9_readLaw_98 rfl ?_
        obtain ⟨q6, hq6, hk⟩ := ab_bnd hk
        obtain ⟨hb, hq6⟩ := ab_on_some hq6
        refine ab_callVI (st := []) (as := [ab_R (-11 : Int)]) (b := v0) (pc := 100) dX9_readLaw_100 ml_RX9_138 my_X9_isWord mv_X9_isWord hb (ct_X9_isWord hq6) ⟨Nat.le_of_ble_eq_true rfl, Nat.le_of_ble_eq_true rfl⟩ rfl (Nat.le_of_ble_eq_true rfl) rfl ?_
        refine ab_if_eq (pc := 103) (tgt := 110) dX9_readLaw_103 rfl (fun hc => ?_) (fun hc => ?_)
        · have hk := ab_ifp hk hc
          refine ab_iconst (pc := 110) dX9_readLaw_110 ab_k_m1 ?_
          refine ab_sub_ (lv2 := [some (ab_R v0), some (ab_I v1), none]) (ab_ss (ab_ss (ab_sn ab_s0))) ?_
          exact e_X9_readLaw_J111 _ _ _ _ _ hk
        · have hk := ab_ifn hk hc
          refine ab_iconst (pc := 106) dX9_readLaw_106 ab_k_2 ?_
          refine ab_goto (pc := 107) (tgt := 111) dX9_readLaw_107 rfl ?_
          refine ab_sub_ (lv2 := [some (ab_R v0), some (ab_I v1), none]) (ab_ss (ab_ss (ab_sn ab_s0))) ?_
          exact e_X9_readLaw_J111 _ _ _ _ _ hk
      · have hk := ab_ifn hk hc
        refine ab_iconst (pc := 93) dX9_readLaw_93 ab_k_1 ?_
        refine ab_goto (pc := 94) (tgt := 111) dX9_readLaw_94 rfl ?_
        refine ab_sub_ (lv2 := [some (ab_R v0), some (ab_I v1), none]) (ab_ss (ab_ss (ab_sn ab_s0))) ?_
        exact e_X9_readLaw_J111 _ _ _ _ _ hk
    · have hk := ab_ifn hk hc
      refine ab_iconst (pc := 80) dX9_readLaw_80 ab_k_0 ?_
      refine ab_goto (pc := 81) (tgt := 111) dX9_readLaw_81 rfl ?_
      refine ab_sub_ (lv2 := [some (ab_R v0), some (ab_I v1), none]) (ab_ss (ab_ss (ab_sn ab_s0))) ?_
      exact e_X9_readLaw_J111 _ _ _ _ _ hk
  · have hk := ab_ifp hk hc
    obtain rfl := Option.some.inj hk
    exact ab_retv (pc := 54) dX9_readLaw_54 rfl
noncomputable def f_X9_readLaw_J19 (v0 : Int) (v1 : Int) (h : ab_H) : Option ab_H :=
  (ab_on h 10 v0 (f_X9_good v0 h)).bind fun q1 =>
  if q1.1 = (0 : Int) then
    f_X9_readLaw_J47 v0 v1 q1.2
  else
  (ab_get q1.2 10 12 v0).bind fun t2 =>
  if ab_and (ab_shr t2 v1) (1 : Int) = (1 : Int) then
    (ab_get q1.2 10 7 v0).bind fun t3 =>
    (ab_on q1.2 10 v0 (f_X9_errs v0 (3 : Int) t3 q1.2)).bind fun q4 =>
    f_X9_readLaw_J47 v0 v1 q4
  else
  f_X9_readLaw_J47 v0 v1 q1.2
set_option maxRecDepth 20000 in
theorem e_X9_readLaw_J19 : ∀ (v0 : Int) (v1 : Int) (h : ab_H) (q : ab_H), f_X9_readLaw_J19 v0 v1 h = some q → ab_E mm_X9_readLaw cX9_readLaw 19 [some (ab_R v0), some (ab_I v1), none] [] h none q := by
  intro v0 v1 h q hk
  unfold f_X9_readLaw_J19 at hk
  refine ab_aload_n (pc := 19) (i := 0) dX9_readLaw_19 rfl rfl ?_
  obtain ⟨q1, hq1, hk⟩ := ab_bnd hk
  obtain ⟨hb, hq1⟩ := ab_on_some hq1
  refine ab_callVI (st := []) (as := []) (b := v0) (pc := 20) dX9_readLaw_20 ml_RX9_91 my_X9_good mv_X9_good hb (ct_X9_good hq1) ⟨Nat.le_of_ble_eq_true rfl, Nat.le_of_ble_eq_true rfl⟩ rfl (Nat.le_of_ble_eq_true rfl) rfl ?_
  refine ab_if_eq (pc := 23) (tgt := 47) dX9_readLaw_23 rfl (fun hc => ?_) (fun hc => ?_)
  · have hk := ab_ifp hk hc
    refine ab_sub_ (lv2 := [some (ab_R v0), some (ab_I v1), none]) (ab_ss (ab_ss (ab_sn ab_s0))) ?_
    exact e_X9_readLaw_J47 _ _ _ _ hk
  · have hk := ab_ifn hk hc
    refine ab_aload_n (pc := 26) (i := 0) dX9_readLaw_26 rfl rfl ?_
    obtain ⟨t2, ht2, hk⟩ := ab_bnd hk
    refine ab_getI (pc := 27) dX9_readLaw_27 fl_RX9_197 ht2 ?_
    refine ab_iload_n (pc := 30) (i := 1) dX9_readLaw_30 rfl rfl ?_
    refine ab_ishr (pc := 31) dX9_readLaw_31 ?_
    refine ab_iconst (pc := 32) dX9_readLaw_32 ab_k_1 ?_
    refine ab_iand (pc := 33) dX9_readLaw_33 ?_
    refine ab_iconst (pc := 34) dX9_readLaw_34 ab_k_1 ?_
    refine ab_icmp_ne (pc := 35) (tgt := 47) dX9_readLaw_35 rfl (fun hc => ?_) (fun hc => ?_)
    · have hk := ab_ifn hk hc
      refine ab_sub_ (lv2 := [some (ab_R v0), some (ab_I v1), none]) (ab_ss (ab_ss (ab_sn ab_s0))) ?_
      exact e_X9_readLaw_J47 _ _ _ _ hk
    · have hk := ab_ifp hk hc
      refine ab_aload_n (pc := 38) (i := 0) dX9_readLaw_38 rfl rfl ?_
      refine ab_iconst (pc := 39) dX9_readLaw_39 ab_k_3 ?_
      refine ab_aload_n (pc := 40) (i := 0) dX9_readLaw_40 rfl rfl ?_
      obtain ⟨t3, ht3, hk⟩ := ab_bnd hk
      refine ab_getI (pc := 41) dX9_readLaw_41 fl_RX9_105 ht3 ?_
      obtain ⟨q4, hq4, hk⟩ := ab_bnd hk
      obtain ⟨hb, hq4⟩ := ab_on_some hq4
      refine ab_callVV (st := []) (as := [ab_I (3 : Int), ab_I t3]) (b := v0) (pc := 44) dX9_readLaw_44 ml_RX9_149 my_X9_errs mv_X9_errs hb (ct_X9_errs hq4) ⟨Nat.le_of_ble_eq_true rfl, Nat.le_of_ble_eq_true rfl⟩ rfl (Nat.le_of_ble_eq_true rfl) rfl ?_
      refine ab_sub_ (lv2 := [some (ab_R v0), some (ab_I v1), none]) (ab_ss (ab_ss (ab_sn ab_s0))) ?_
      exact e_X9_readLaw_J47 _ _ _ _ hk
noncomputable def f_X9_readLaw (a0 : Int) (h : ab_H) : Option ab_H :=
  (ab_on h 10 a0 (f_X9_roleHere a0 h)).bind fun q1 =>
  if q1.1 = (-1 : Int) then
    (ab_get q1.2 10 7 a0).bind fun t2 =>
    (ab_on q1.2 10 a0 (f_X9_errs a0 (1 : Int) t2 q1.2)).bind fun q3 =>
    f_X9_readLaw_J19 a0 q1.1 q3
  else
  f_X9_readLaw_J19 a0 q1.1 q1.2
set_option maxRecDepth 20000 in
theorem ct_X9_readLaw {a0 : Int} {h : ab_H} {q : ab_H} (hk : f_X9_readLaw a0 h = some q) : ab_CT yX9_readLaw cX9_readLaw 3 none 7 193 [ab_R a0] h none q := by
  refine ab_CT.mk_ 2 (own := RX9) (ini := false) (lv := [some (ab_R a0), none, none]) rfl (by decide +kernel) (fun q => by cases q) rfl rfl ?_
  unfold f_X9_readLaw at hk
  show ab_E mm_X9_readLaw cX9_readLaw 0 _ [] h _ _
  refine ab_aload_n (pc := 0) (i := 0) dX9_readLaw_0 rfl rfl ?_
  obtain ⟨q1, hq1, hk⟩ := ab_bnd hk
  obtain ⟨hb, hq1⟩ := ab_on_some hq1
  refine ab_callVI (st := []) (as := []) (b := a0) (pc := 1) dX9_readLaw_1 ml_RX9_165 my_X9_roleHere mv_X9_roleHere hb (ct_X9_roleHere hq1) ⟨Nat.le_of_ble_eq_true rfl, Nat.le_of_ble_eq_true rfl⟩ rfl (Nat.le_of_ble_eq_true rfl) rfl ?_
  refine ab_istore_n (pc := 4) (i := 1) (lv2 := [some (ab_R a0), some (ab_I q1.1), none]) dX9_readLaw_4 rfl (Nat.le_of_ble_eq_true rfl) rfl rfl ?_
  refine ab_iload_n (pc := 5) (i := 1) dX9_readLaw_5 rfl rfl ?_
  refine ab_iconst (pc := 6) dX9_readLaw_6 ab_k_m1 ?_
  refine ab_icmp_ne (pc := 7) (tgt := 19) dX9_readLaw_7 rfl (fun hc => ?_) (fun hc => ?_)
  · have hk := ab_ifn hk hc
    refine ab_sub_ (lv2 := [some (ab_R a0), some (ab_I q1.1), none]) (ab_ss (ab_ss (ab_sn ab_s0))) ?_
    exact e_X9_readLaw_J19 _ _ _ _ hk
  · have hk := ab_ifp hk hc
    refine ab_aload_n (pc := 10) (i := 0) dX9_readLaw_10 rfl rfl ?_
    refine ab_iconst (pc := 11) dX9_readLaw_11 ab_k_1 ?_
    refine ab_aload_n (pc := 12) (i := 0) dX9_readLaw_12 rfl rfl ?_
    obtain ⟨t2, ht2, hk⟩ := ab_bnd hk
    refine ab_getI (pc := 13) dX9_readLaw_13 fl_RX9_105 ht2 ?_
    obtain ⟨q3, hq3, hk⟩ := ab_bnd hk
    obtain ⟨hb, hq3⟩ := ab_on_some hq3
    refine ab_callVV (st := []) (as := [ab_I (1 : Int), ab_I t2]) (b := a0) (pc := 16) dX9_readLaw_16 ml_RX9_149 my_X9_errs mv_X9_errs hb (ct_X9_errs hq3) ⟨Nat.le_of_ble_eq_true rfl, Nat.le_of_ble_eq_true rfl⟩ rfl (Nat.le_of_ble_eq_true rfl) rfl ?_
    refine ab_sub_ (lv2 := [some (ab_R a0), some (ab_I q1.1), none]) (ab_ss (ab_ss (ab_sn ab_s0))) ?_
    exact e_X9_readLaw_J19 _ _ _ _ hk
theorem dX9_usedOf_0 : decode cX9_usedOf 0 = .ok (.lload_n 1, 1) := by decide +kernel
theorem dX9_usedOf_1 : decode cX9_usedOf 1 = .ok (.lstore_n 3, 1) := by decide +kernel
theorem dX9_usedOf_2 : decode cX9_usedOf 2 = .ok (.iconst 0, 1) := by decide +kernel
theorem dX9_usedOf_3 : decode cX9_usedOf 3 = .ok (.istore 5, 2) := by decide +kernel
theorem dX9_usedOf_5 : decode cX9_usedOf 5 = .ok (.iload 5, 2) := by decide +kernel
theorem dX9_usedOf_7 : decode cX9_usedOf 7 = .ok (.bipush 12, 2) := by decide +kernel
theorem dX9_usedOf_9 : decode cX9_usedOf 9 = .ok (.if_icmp .gt 53, 3) := by decide +kernel
theorem dX9_usedOf_12 : decode cX9_usedOf 12 = .ok (.iconst 0, 1) := by decide +kernel
theorem dX9_usedOf_13 : decode cX9_usedOf 13 = .ok (.istore 6, 2) := by decide +kernel
theorem dX9_usedOf_15 : decode cX9_usedOf 15 = .ok (.iload 6, 2) := by decide +kernel
theorem dX9_usedOf_17 : decode cX9_usedOf 17 = .ok (.aload_n 0, 1) := by decide +kernel
theorem dX9_usedOf_18 : decode cX9_usedOf 18 = .ok (.iconst 1, 1) := by decide +kernel
theorem dX9_usedOf_19 : decode cX9_usedOf 19 = .ok (.laload, 1) := by decide +kernel
theorem dX9_usedOf_20 : decode cX9_usedOf 20 = .ok (.l2i, 1) := by decide +kernel
theorem dX9_usedOf_21 : decode cX9_usedOf 21 = .ok (.if_icmp .ge 35, 3) := by decide +kernel
theorem dX9_usedOf_24 : decode cX9_usedOf 24 = .ok (.aload_n 0, 1) := by decide +kernel
theorem dX9_usedOf_25 : decode cX9_usedOf 25 = .ok (.bipush 8, 2) := by decide +kernel
theorem dX9_usedOf_27 : decode cX9_usedOf 27 = .ok (.iconst 2, 1) := by decide +kernel
theorem dX9_usedOf_28 : decode cX9_usedOf 28 = .ok (.iload 6, 2) := by decide +kernel
theorem dX9_usedOf_30 : decode cX9_usedOf 30 = .ok (.imul, 1) := by decide +kernel
theorem dX9_usedOf_31 : decode cX9_usedOf 31 = .ok (.iadd, 1) := by decide +kernel
theorem dX9_usedOf_32 : decode cX9_usedOf 32 = .ok (.laload, 1) := by decide +kernel
theorem dX9_usedOf_33 : decode cX9_usedOf 33 = .ok (.lload_n 3, 1) := by decide +kernel
theorem dX9_usedOf_34 : decode cX9_usedOf 34 = .ok (.lcmp, 1) := by decide +kernel
theorem dX9_usedOf_35 : decode cX9_usedOf 35 = .ok (.ifCond .ne 15, 3) := by decide +kernel
theorem dX9_usedOf_38 : decode cX9_usedOf 38 = .ok (.aload_n 0, 1) := by decide +kernel
theorem dX9_usedOf_39 : decode cX9_usedOf 39 = .ok (.bipush 8, 2) := by decide +kernel
theorem dX9_usedOf_41 : decode cX9_usedOf 41 = .ok (.iconst 2, 1) := by decide +kernel
theorem dX9_usedOf_42 : decode cX9_usedOf 42 = .ok (.iload 6, 2) := by decide +kernel
theorem dX9_usedOf_44 : decode cX9_usedOf 44 = .ok (.imul, 1) := by decide +kernel
theorem dX9_usedOf_45 : decode cX9_usedOf 45 = .ok (.iadd, 1) := by decide +kernel
theorem dX9_usedOf_46 : decode cX9_usedOf 46 = .ok (.iconst 1, 1) := by decide +kernel
theorem dX9_usedOf_47 : decode cX9_usedOf 47 = .ok (.iadd, 1) := by decide +kernel
theorem dX9_usedOf_48 : decode cX9_usedOf 48 = .ok (.laload, 1) := by decide +kernel
theorem dX9_usedOf_49 : decode cX9_usedOf 49 = .ok (.lstore_n 3, 1) := by decide +kernel
theorem dX9_usedOf_50 : decode cX9_usedOf 50 = .ok (.iinc 6 1, 3) := by decide +kernel
theorem dX9_usedOf_53 : decode cX9_usedOf 53 = .ok (.goto (-38), 3) := by decide +kernel
theorem dX9_usedOf_56 : decode cX9_usedOf 56 = .ok (.iinc 5 1, 3) := by decide +kernel
theorem dX9_usedOf_59 : decode cX9_usedOf 59 = .ok (.goto (-54), 3) := by decide +kernel
theorem dX9_usedOf_62 : decode cX9_usedOf 62 = .ok (.lload_n 3, 1) := by decide +kernel
theorem dX9_usedOf_63 : decode cX9_usedOf 63 = .ok (.lreturn, 1) := by decide +kernel
abbrev mm_X9_usedOf : ab_M := (RX9, 7, (some .long), false, 0, 0, none)
noncomputable def f_X9_usedOf_J50 (rec : Int → Int → Int → Int → ab_H → Option (Int × ab_H)) (k56 : Int → Int → Int → ab_H → Option (Int × ab_H)) (v0 : Int) (v3 : Int) (v5 : Int) (v6 : Int) (h : ab_H) : Option (Int × ab_H) :=
  rec v0 v3 v5 (ab_w32 (v6 + (1 : Int))) h
set_option maxRecDepth 20000 in
theorem e_X9_usedOf_J50 {rec : Int → Int → Int → Int → ab_H → Option (Int × ab_H)} {k56 : Int → Int → Int → ab_H → Option (Int × ab_H)} (hrec : ∀ (v0 : Int) (v3 : Int) (v5 : Int) (v6 : Int) (h : ab_H) (q : Int × ab_H), rec v0 v3 v5 v6 h = some q → ab_E mm_X9_usedOf cX9_usedOf 15 [some (ab_R v0), none, none, some (ab_J v3), none, some (ab_I v5), some (ab_I v6)] [] h (some (ab_J q.1)) q.2) (hk56 : ∀ (v0 : Int) (v3 : Int) (v5 : Int) (h : ab_H) (q : Int × ab_H), k56 v0 v3 v5 h = some q → ab_E mm_X9_usedOf cX9_usedOf 56 [some (ab_R v0), none, none, some (ab_J v3), none, some (ab_I v5), none] [] h (some (ab_J q.1)) q.2) : ∀ (v0 : Int) (v3 : Int) (v5 : Int) (v6 : Int) (h : ab_H) (q : Int × ab_H), f_X9_usedOf_J50 rec k56 v0 v3 v5 v6 h = some q → ab_E mm_X9_usedOf cX9_usedOf 50 [some (ab_R v0), none, none, some (ab_J v3), none, some (ab_I v5), some (ab_I v6)] [] h (some (ab_J q.1)) q.2 := by
  intro v0 v3 v5 v6 h q hk
  unfold f_X9_usedOf_J50 at hk
  refine ab_iinc (pc := 50) (i := 6) (lv2 := [some (ab_R v0), none, none, some (ab_J v3), none, some (ab_I v5), some (ab_I (ab_w32 (v6 + (1 : Int))))]) dX9_usedOf_50 rfl (Nat.le_of_ble_eq_true rfl) rfl rfl ?_
  refine ab_goto (pc := 53) (tgt := 15) dX9_usedOf_53 rfl ?_
  refine ab_sub_ (lv2 := [some (ab_R v0), none, none, some (ab_J v3), none, some (ab_I v5), some (ab_I (ab_w32 (v6 + (1 : Int))))]) (ab_ss (ab_sn (ab_sn (ab_ss (ab_sn (ab_ss (ab_ss ab_s0))))))) ?_
  exact hrec _ _ _ _ _ _ hk
noncomputable def f_X9_usedOf_L15 (k56 : Int → Int → Int → ab_H → Option (Int × ab_H)) : Nat → Int → Int → Int → Int → ab_H → Option (Int × ab_H)
  | 0, _, _, _, _, _ => none
  | n + 1, v0, v3, v5, v6, h =>
    (ab_ald h 12 v0 (1 : Int)).bind fun t1 =>
    if ab_w32 t1 ≤ v6 then
      k56 v0 v3 v5 h
    else
    (ab_ald h 12 v0 (ab_w32 ((8 : Int) + (ab_w32 ((2 : Int) * v6))))).bind fun t2 =>
    if ab_cmp t2 v3 = (0 : Int) then
      (ab_ald h 12 v0 (ab_w32 ((ab_w32 ((8 : Int) + (ab_w32 ((2 : Int) * v6)))) + (1 : Int)))).bind fun t3 =>
      f_X9_usedOf_J50 (f_X9_usedOf_L15 k56 n) k56 v0 t3 v5 v6 h
    else
    f_X9_usedOf_J50 (f_X9_usedOf_L15 k56 n) k56 v0 v3 v5 v6 h
set_option maxRecDepth 20000 in
theorem e_X9_usedOf_L15 {k56 : Int → Int → Int → ab_H → Option (Int × ab_H)} (hk56 : ∀ (v0 : Int) (v3 : Int) (v5 : Int) (h : ab_H) (q : Int × ab_H), k56 v0 v3 v5 h = some q → ab_E mm_X9_usedOf cX9_usedOf 56 [some (ab_R v0), none, none, some (ab_J v3), none, some (ab_I v5), none] [] h (some (ab_J q.1)) q.2) : ∀ (n : Nat) (v0 : Int) (v3 : Int) (v5 : Int) (v6 : Int) (h : ab_H) (q : Int × ab_H), f_X9_usedOf_L15 k56 n v0 v3 v5 v6 h = some q → ab_E mm_X9_usedOf cX9_usedOf 15 [some (ab_R v0), none, none, some (ab_J v3), none, some (ab_I v5), some (ab_I v6)] [] h (some (ab_J q.1)) q.2 := by
  intro n
  induction n with
  | zero => intro v0 v3 v5 v6 h q hk; cases hk
  | succ n ih =>
    intro v0 v3 v5 v6 h q hk
    unfold f_X9_usedOf_L15 at hk
    refine ab_iload (pc := 15) (i := 6) dX9_usedOf_15 rfl ?_
    refine ab_aload_n (pc := 17) (i := 0) dX9_usedOf_17 rfl rfl ?_
    refine ab_iconst (pc := 18) dX9_usedOf_18 ab_k_1 ?_
    obtain ⟨t1, ht1, hk⟩ := ab_bnd hk
    refine ab_lald (pc := 19) dX9_usedOf_19 ht1 ?_
    refine ab_l2i_ (pc := 20) dX9_usedOf_20 ?_
    refine ab_icmp_ge (pc := 21) (tgt := 56) dX9_usedOf_21 rfl (fun hc => ?_) (fun hc => ?_)
    · have hk := ab_ifp hk hc
      refine ab_sub_ (lv2 := [some (ab_R v0), none, none, some (ab_J v3), none, some (ab_I v5), none]) (ab_ss (ab_sn (ab_sn (ab_ss (ab_sn (ab_ss (ab_sn ab_s0))))))) ?_
      exact hk56 _ _ _ _ _ hk
    · have hk := ab_ifn hk hc
      refine ab_aload_n (pc := 24) (i := 0) dX9_usedOf_24 rfl rfl ?_
      refine ab_bipush (pc := 25) dX9_usedOf_25 ab_p8_8 ab_k_8 ?_
      refine ab_iconst (pc := 27) dX9_usedOf_27 ab_k_2 ?_
      refine ab_iload (pc := 28) (i := 6) dX9_usedOf_28 rfl ?_
      refine ab_imul (pc := 30) dX9_usedOf_30 ?_
      refine ab_iadd (pc := 31) dX9_usedOf_31 ?_
      obtain ⟨t2, ht2, hk⟩ := ab_bnd hk
      refine ab_lald (pc := 32) dX9_usedOf_32 ht2 ?_
      refine ab_lload_n (pc := 33) (i := 3) dX9_usedOf_33 rfl rfl ?_
      refine ab_lcmp_ (pc := 34) dX9_usedOf_34 ?_
      refine ab_if_ne (pc := 35) (tgt := 50) dX9_usedOf_35 rfl (fun hc => ?_) (fun hc => ?_)
      · have hk := ab_ifn hk hc
        refine ab_sub_ (lv2 := [some (ab_R v0), none, none, some (ab_J v3), none, some (ab_I v5), some (ab_I v6)]) (ab_ss (ab_sn (ab_sn (ab_ss (ab_sn (ab_ss (ab_ss ab_s0))))))) ?_
        exact e_X9_usedOf_J50 ih hk56 _ _ _ _ _ _ hk
      · have hk := ab_ifp hk hc
        refine ab_aload_n (pc := 38) (i := 0) dX9_usedOf_38 rfl rfl ?_
        refine ab_bipush (pc := 39) dX9_usedOf_39 ab_p8_8 ab_k_8 ?_
        refine ab_iconst (pc := 41) dX9_usedOf_41 ab_k_2 ?_
        refine ab_iload (pc := 42) (i := 6) dX9_usedOf_42 rfl ?_
        refine ab_imul (pc := 44) dX9_usedOf_44 ?_
        refine ab_iadd (pc := 45) dX9_usedOf_45 ?_
        refine ab_iconst (pc := 46) dX9_usedOf_46 ab_k_1 ?_
        refine ab_iadd (pc := 47) dX9_usedOf_47 ?_
        obtain ⟨t3, ht3, hk⟩ := ab_bnd hk
        refine ab_lald (pc := 48) dX9_usedOf_48 ht3 ?_
        refine ab_lstore_n (pc := 49) (i := 3) (lv2 := [some (ab_R v0), none, none, some (ab_J t3), none, some (ab_I v5), some (ab_I v6)]) dX9_usedOf_49 rfl (Nat.le_of_ble_eq_true rfl) rfl rfl ?_
        refine ab_sub_ (lv2 := [some (ab_R v0), none, none, some (ab_J t3), none, some (ab_I v5), some (ab_I v6)]) (ab_ss (ab_sn (ab_sn (ab_ss (ab_sn (ab_ss (ab_ss ab_s0))))))) ?_
        exact e_X9_usedOf_J50 ih hk56 _ _ _ _ _ _ hk
noncomputable def f_X9_usedOf_L5 : Nat → Int → Int → Int → ab_H → Option (Int × ab_H)
  | 0, _, _, _, _ => none
  | n + 1, v0, v3, v5, h =>
    if (12 : Int) < v5 then
      some (v3, h)
    else
    f_X9_usedOf_L15 (fun w56_0 w56_3 w56_5 hx56 =>
      f_X9_usedOf_L5 n w56_0 w56_3 (ab_w32 (w56_5 + (1 : Int))) hx56) ab_FU v0 v3 v5 (0 : Int) h
set_option maxRecDepth 20000 in
theorem e_X9_usedOf_L5 : ∀ (n : Nat) (v0 : Int) (v3 : Int) (v5 : Int) (h : ab_H) (q : Int × ab_H), f_X9_usedOf_L5 n v0 v3 v5 h = some q → ab_E mm_X9_usedOf cX9_usedOf 5 [some (ab_R v0), none, none, some (ab_J v3), none, some (ab_I v5), none] [] h (some (ab_J q.1)) q.2 := by
  intro n
  induction n with
  | zero => intro v0 v3 v5 h q hk; cases hk
  | succ n ih =>
    intro v0 v3 v5 h q hk
    unfold f_X9_usedOf_L5 at hk
    refine ab_iload (pc := 5) (i := 5) dX9_usedOf_5 rfl ?_
    refine ab_bipush (pc := 7) dX9_usedOf_7 ab_p8_12 ab_k_12 ?_
    refine ab_icmp_gt (pc := 9) (tgt := 62) dX9_usedOf_9 rfl (fun hc => ?_) (fun hc => ?_)
    · have hk := ab_ifp hk hc
      refine ab_lload_n (pc := 62) (i := 3) dX9_usedOf_62 rfl rfl ?_
      obtain rfl := Option.some.inj hk
      exact ab_retl (pc := 63) dX9_usedOf_63 rfl
    · have hk := ab_ifn hk hc
      refine ab_iconst (pc := 12) dX9_usedOf_12 ab_k_0 ?_
      refine ab_istore (pc := 13) (i := 6) (lv2 := [some (ab_R v0), none, none, some (ab_J v3), none, some (ab_I v5), some (ab_I (0 : Int))]) dX9_usedOf_13 (Nat.le_of_ble_eq_true rfl) rfl rfl ?_
      refine ab_sub_ (lv2 := [some (ab_R v0), none, none, some (ab_J v3), none, some (ab_I v5), some (ab_I (0 : Int))]) (ab_ss (ab_sn (ab_sn (ab_ss (ab_sn (ab_ss (ab_ss ab_s0))))))) ?_
      refine e_X9_usedOf_L15 (fun w56_0 w56_3 w56_5 hx56 q hk => ?_) _ _ _ _ _ _ _ hk
      · skip
        refine ab_iinc (pc := 56) (i := 5) (lv2 := [some (ab_R w56_0), none, none, some (ab_J w56_3), none, some (ab_I (ab_w32 (w56_5 + (1 : Int)))), none]) dX9_usedOf_56 rfl (Nat.le_of_ble_eq_true rfl) rfl rfl ?_
        refine ab_goto (pc := 59) (tgt := 5) dX9_usedOf_59 rfl ?_
        refine ab_sub_ (lv2 := [some (ab_R w56_0), none, none, some (ab_J w56_3), none, some (ab_I (ab_w32 (w56_5 + (1 : Int)))), none]) (ab_ss (ab_sn (ab_sn (ab_ss (ab_sn (ab_ss (ab_sn ab_s0))))))) ?_
        exact ih _ _ _ _ _ hk
noncomputable def f_X9_usedOf (a0 : Int) (a1 : Int) (h : ab_H) : Option (Int × ab_H) :=
  f_X9_usedOf_L5 ab_FU a0 a1 (0 : Int) h
set_option maxRecDepth 20000 in
theorem ct_X9_usedOf {a0 a1 : Int} {h : ab_H} {q : Int × ab_H} (hk : f_X9_usedOf a0 a1 h = some q) : ab_CT yX9_usedOf cX9_usedOf 7 (some .long) 0 0 [ab_R a0, ab_J a1] h (some (ab_J q.1)) q.2 := by
  refine ab_CT.mk_ 4 (own := RX9) (ini := false) (lv := [some (ab_R a0), some (ab_J a1), none, none, none, none, none]) rfl (by decide +kernel) (fun q => by cases q) rfl rfl ?_
  unfold f_X9_usedOf at hk
  show ab_E mm_X9_usedOf cX9_usedOf 0 _ [] h _ _
  refine ab_lload_n (pc := 0) (i := 1) dX9_usedOf_0 rfl rfl ?_
  refine ab_lstore_n (pc := 1) (i := 3) (lv2 := [some (ab_R a0), some (ab_J a1), none, some (ab_J a1), none, none, none]) dX9_usedOf_1 rfl (Nat.le_of_ble_eq_true rfl) rfl rfl ?_
  refine ab_iconst (pc := 2) dX9_usedOf_2 ab_k_0 ?_
  refine ab_istore (pc := 3) (i := 5) (lv2 := [some (ab_R a0), some (ab_J a1), none, some (ab_J a1), none, some (ab_I (0 : Int)), none]) dX9_usedOf_3 (Nat.le_of_ble_eq_true rfl) rfl rfl ?_
  refine ab_sub_ (lv2 := [some (ab_R a0), none, none, some (ab_J a1), none, some (ab_I (0 : Int)), none]) (ab_ss (ab_sn (ab_sn (ab_ss (ab_sn (ab_ss (ab_sn ab_s0))))))) ?_
  refine e_X9_usedOf_L5 _ _ _ _ _ _ hk
theorem dX9_isSeen_0 : decode cX9_isSeen 0 = .ok (.iconst 0, 1) := by decide +kernel
theorem dX9_isSeen_1 : decode cX9_isSeen 1 = .ok (.istore_n 3, 1) := by decide +kernel
theorem dX9_isSeen_2 : decode cX9_isSeen 2 = .ok (.iload_n 3, 1) := by decide +kernel
theorem dX9_isSeen_3 : decode cX9_isSeen 3 = .ok (.aload_n 0, 1) := by decide +kernel
theorem dX9_isSeen_4 : decode cX9_isSeen 4 = .ok (.getfield 13, 3) := by decide +kernel
theorem dX9_isSeen_7 : decode cX9_isSeen 7 = .ok (.iconst 1, 1) := by decide +kernel
theorem dX9_isSeen_8 : decode cX9_isSeen 8 = .ok (.laload, 1) := by decide +kernel
theorem dX9_isSeen_9 : decode cX9_isSeen 9 = .ok (.l2i, 1) := by decide +kernel
theorem dX9_isSeen_10 : decode cX9_isSeen 10 = .ok (.if_icmp .ge 27, 3) := by decide +kernel
theorem dX9_isSeen_13 : decode cX9_isSeen 13 = .ok (.aload_n 0, 1) := by decide +kernel
theorem dX9_isSeen_14 : decode cX9_isSeen 14 = .ok (.getfield 13, 3) := by decide +kernel
theorem dX9_isSeen_17 : decode cX9_isSeen 17 = .ok (.bipush 8, 2) := by decide +kernel
theorem dX9_isSeen_19 : decode cX9_isSeen 19 = .ok (.iconst 2, 1) := by decide +kernel
theorem dX9_isSeen_20 : decode cX9_isSeen 20 = .ok (.iload_n 3, 1) := by decide +kernel
theorem dX9_isSeen_21 : decode cX9_isSeen 21 = .ok (.imul, 1) := by decide +kernel
theorem dX9_isSeen_22 : decode cX9_isSeen 22 = .ok (.iadd, 1) := by decide +kernel
theorem dX9_isSeen_23 : decode cX9_isSeen 23 = .ok (.laload, 1) := by decide +kernel
theorem dX9_isSeen_24 : decode cX9_isSeen 24 = .ok (.lload_n 1, 1) := by decide +kernel
theorem dX9_isSeen_25 : decode cX9_isSeen 25 = .ok (.lcmp, 1) := by decide +kernel
theorem dX9_isSeen_26 : decode cX9_isSeen 26 = .ok (.ifCond .ne 5, 3) := by decide +kernel
theorem dX9_isSeen_29 : decode cX9_isSeen 29 = .ok (.iconst 1, 1) := by decide +kernel
theorem dX9_isSeen_30 : decode cX9_isSeen 30 = .ok (.ireturn, 1) := by decide +kernel
theorem dX9_isSeen_31 : decode cX9_isSeen 31 = .ok (.iinc 3 1, 3) := by decide +kernel
theorem dX9_isSeen_34 : decode cX9_isSeen 34 = .ok (.goto (-32), 3) := by decide +kernel
theorem dX9_isSeen_37 : decode cX9_isSeen 37 = .ok (.iconst 0, 1) := by decide +kernel
theorem dX9_isSeen_38 : decode cX9_isSeen 38 = .ok (.ireturn, 1) := by decide +kernel
abbrev mm_X9_isSeen : ab_M := (RX9, 4, (some .boolean), false, 0, 0, none)
noncomputable def f_X9_isSeen_L2 : Nat → Int → Int → Int → ab_H → Option (Int × ab_H)
  | 0, _, _, _, _ => none
  | n + 1, v0, v1, v3, h =>
    (ab_get h 10 2 v0).bind fun t1 =>
    (ab_ald h 12 t1 (1 : Int)).bind fun t2 =>
    if ab_w32 t2 ≤ v3 then
      some ((0 : Int), h)
    else
    (ab_get h 10 2 v0).bind fun t3 =>
    (ab_ald h 12 t3 (ab_w32 ((8 : Int) + (ab_w32 ((2 : Int) * v3))))).bind fun t4 =>
    if ab_cmp t4 v1 = (0 : Int) then
      some ((1 : Int), h)
    else
    f_X9_isSeen_L2 n v0 v1 (ab_w32 (v3 + (1 : Int))) h
set_option maxRecDepth 20000 in
theorem e_X9_isSeen_L2 : ∀ (n : Nat) (v0 : Int) (v1 : Int) (v3 : Int) (h : ab_H) (q : Int × ab_H), f_X9_isSeen_L2 n v0 v1 v3 h = some q → ab_E mm_X9_isSeen cX9_isSeen 2 [some (ab_R v0), some (ab_J v1), none, some (ab_I v3)] [] h (some (ab_I q.1)) q.2 := by
  intro n
  induction n with
  | zero => intro v0 v1 v3 h q hk; cases hk
  | succ n ih =>
    intro v0 v1 v3 h q hk
    unfold f_X9_isSeen_L2 at hk
    refine ab_iload_n (pc := 2) (i := 3) dX9_isSeen_2 rfl rfl ?_
    refine ab_aload_n (pc := 3) (i := 0) dX9_isSeen_3 rfl rfl ?_
    obtain ⟨t1, ht1, hk⟩ := ab_bnd hk
    refine ab_getR (pc := 4) dX9_isSeen_4 fl_RX9_13 ht1 ?_
    refine ab_iconst (pc := 7) dX9_isSeen_7 ab_k_1 ?_
    obtain ⟨t2, ht2, hk⟩ := ab_bnd hk
    refine ab_lald (pc := 8) dX9_isSeen_8 ht2 ?_
    refine ab_l2i_ (pc := 9) dX9_isSeen_9 ?_
    refine ab_icmp_ge (pc := 10) (tgt := 37) dX9_isSeen_10 rfl (fun hc => ?_) (fun hc => ?_)
    · have hk := ab_ifp hk hc
      refine ab_iconst (pc := 37) dX9_isSeen_37 ab_k_0 ?_
      obtain rfl := Option.some.inj hk
      exact ab_retz (pc := 38) dX9_isSeen_38 rfl rfl
    · have hk := ab_ifn hk hc
      refine ab_aload_n (pc := 13) (i := 0) dX9_isSeen_13 rfl rfl ?_
      obtain ⟨t3, ht3, hk⟩ := ab_bnd hk
      refine ab_getR (pc := 14) dX9_isSeen_14 fl_RX9_13 ht3 ?_
      refine ab_bipush (pc := 17) dX9_isSeen_17 ab_p8_8 ab_k_8 ?_
      refine ab_iconst (pc := 19) dX9_isSeen_19 ab_k_2 ?_
      refine ab_iload_n (pc := 20) (i := 3) dX9_isSeen_20 rfl rfl ?_
      refine ab_imul (pc := 21) dX9_isSeen_21 ?_
      refine ab_iadd (pc := 22) dX9_isSeen_22 ?_
      obtain ⟨t4, ht4, hk⟩ := ab_bnd hk
      refine ab_lald (pc := 23) dX9_isSeen_23 ht4 ?_
      refine ab_lload_n (pc := 24) (i := 1) dX9_isSeen_24 rfl rfl ?_
      refine ab_lcmp_ (pc := 25) dX9_isSeen_25 ?_
      refine ab_if_ne (pc := 26) (tgt := 31) dX9_isSeen_26 rfl (fun hc => ?_) (fun hc => ?_)
      · have hk := ab_ifn hk hc
        refine ab_iinc (pc := 31) (i := 3) (lv2 := [some (ab_R v0), some (ab_J v1), none, some (ab_I (ab_w32 (v3 + (1 : Int))))]) dX9_isSeen_31 rfl (Nat.le_of_ble_eq_true rfl) rfl rfl ?_
        refine ab_goto (pc := 34) (tgt := 2) dX9_isSeen_34 rfl ?_
        refine ab_sub_ (lv2 := [some (ab_R v0), some (ab_J v1), none, some (ab_I (ab_w32 (v3 + (1 : Int))))]) (ab_ss (ab_ss (ab_sn (ab_ss ab_s0)))) ?_
        exact ih _ _ _ _ _ hk
      · have hk := ab_ifp hk hc
        refine ab_iconst (pc := 29) dX9_isSeen_29 ab_k_1 ?_
        obtain rfl := Option.some.inj hk
        exact ab_retz (pc := 30) dX9_isSeen_30 rfl rfl
noncomputable def f_X9_isSeen (a0 : Int) (a1 : Int) (h : ab_H) : Option (Int × ab_H) :=
  f_X9_isSeen_L2 ab_FU a0 a1 (0 : Int) h
set_option maxRecDepth 20000 in
theorem ct_X9_isSeen {a0 a1 : Int} {h : ab_H} {q : Int × ab_H} (hk : f_X9_isSeen a0 a1 h = some q) : ab_CT yX9_isSeen cX9_isSeen 4 (some .boolean) 0 0 [ab_R a0, ab_J a1] h (some (ab_I q.1)) q.2 := by
  refine ab_CT.mk_ 1 (own := RX9) (ini := false) (lv := [some (ab_R a0), some (ab_J a1), none, none]) rfl (by decide +kernel) (fun q => by cases q) rfl rfl ?_
  unfold f_X9_isSeen at hk
  show ab_E mm_X9_isSeen cX9_isSeen 0 _ [] h _ _
  refine ab_iconst (pc := 0) dX9_isSeen_0 ab_k_0 ?_
  refine ab_istore_n (pc := 1) (i := 3) (lv2 := [some (ab_R a0), some (ab_J a1), none, some (ab_I (0 : Int))]) dX9_isSeen_1 rfl (Nat.le_of_ble_eq_true rfl) rfl rfl ?_
  refine ab_sub_ (lv2 := [some (ab_R a0), some (ab_J a1), none, some (ab_I (0 : Int))]) (ab_ss (ab_ss (ab_sn (ab_ss ab_s0)))) ?_
  refine e_X9_isSeen_L2 _ _ _ _ _ _ hk
theorem dX9_readSee_0 : decode cX9_readSee 0 = .ok (.aload_n 0, 1) := by decide +kernel
theorem dX9_readSee_1 : decode cX9_readSee 1 = .ok (.invokevirtual 193, 3) := by decide +kernel
theorem dX9_readSee_4 : decode cX9_readSee 4 = .ok (.lstore_n 1, 1) := by decide +kernel
theorem dX9_readSee_5 : decode cX9_readSee 5 = .ok (.aload_n 0, 1) := by decide +kernel
theorem dX9_readSee_6 : decode cX9_readSee 6 = .ok (.invokevirtual 91, 3) := by decide +kernel
theorem dX9_readSee_9 : decode cX9_readSee 9 = .ok (.ifCond .eq 20, 3) := by decide +kernel
theorem dX9_readSee_12 : decode cX9_readSee 12 = .ok (.aload_n 0, 1) := by decide +kernel
theorem dX9_readSee_13 : decode cX9_readSee 13 = .ok (.lload_n 1, 1) := by decide +kernel
theorem dX9_readSee_14 : decode cX9_readSee 14 = .ok (.invokevirtual 200, 3) := by decide +kernel
theorem dX9_readSee_17 : decode cX9_readSee 17 = .ok (.ifCond .eq 12, 3) := by decide +kernel
theorem dX9_readSee_20 : decode cX9_readSee 20 = .ok (.aload_n 0, 1) := by decide +kernel
theorem dX9_readSee_21 : decode cX9_readSee 21 = .ok (.iconst 3, 1) := by decide +kernel
theorem dX9_readSee_22 : decode cX9_readSee 22 = .ok (.aload_n 0, 1) := by decide +kernel
theorem dX9_readSee_23 : decode cX9_readSee 23 = .ok (.getfield 105, 3) := by decide +kernel
theorem dX9_readSee_26 : decode cX9_readSee 26 = .ok (.invokevirtual 149, 3) := by decide +kernel
theorem dX9_readSee_29 : decode cX9_readSee 29 = .ok (.aload_n 0, 1) := by decide +kernel
theorem dX9_readSee_30 : decode cX9_readSee 30 = .ok (.invokevirtual 91, 3) := by decide +kernel
theorem dX9_readSee_33 : decode cX9_readSee 33 = .ok (.ifCond .eq 7, 3) := by decide +kernel
theorem dX9_readSee_36 : decode cX9_readSee 36 = .ok (.aload_n 0, 1) := by decide +kernel
theorem dX9_readSee_37 : decode cX9_readSee 37 = .ok (.invokevirtual 142, 3) := by decide +kernel
theorem dX9_readSee_40 : decode cX9_readSee 40 = .ok (.aload_n 0, 1) := by decide +kernel
theorem dX9_readSee_41 : decode cX9_readSee 41 = .ok (.invokevirtual 193, 3) := by decide +kernel
theorem dX9_readSee_44 : decode cX9_readSee 44 = .ok (.lstore_n 3, 1) := by decide +kernel
theorem dX9_readSee_45 : decode cX9_readSee 45 = .ok (.aload_n 0, 1) := by decide +kernel
theorem dX9_readSee_46 : decode cX9_readSee 46 = .ok (.invokevirtual 91, 3) := by decide +kernel
theorem dX9_readSee_49 : decode cX9_readSee 49 = .ok (.ifCond .eq 25, 3) := by decide +kernel
theorem dX9_readSee_52 : decode cX9_readSee 52 = .ok (.aload_n 0, 1) := by decide +kernel
theorem dX9_readSee_53 : decode cX9_readSee 53 = .ok (.getfield 13, 3) := by decide +kernel
theorem dX9_readSee_56 : decode cX9_readSee 56 = .ok (.lload_n 3, 1) := by decide +kernel
theorem dX9_readSee_57 : decode cX9_readSee 57 = .ok (.invokestatic 204, 3) := by decide +kernel
theorem dX9_readSee_60 : decode cX9_readSee 60 = .ok (.lload_n 1, 1) := by decide +kernel
theorem dX9_readSee_61 : decode cX9_readSee 61 = .ok (.lcmp, 1) := by decide +kernel
theorem dX9_readSee_62 : decode cX9_readSee 62 = .ok (.ifCond .ne 12, 3) := by decide +kernel
theorem dX9_readSee_65 : decode cX9_readSee 65 = .ok (.aload_n 0, 1) := by decide +kernel
theorem dX9_readSee_66 : decode cX9_readSee 66 = .ok (.iconst 3, 1) := by decide +kernel
theorem dX9_readSee_67 : decode cX9_readSee 67 = .ok (.aload_n 0, 1) := by decide +kernel
theorem dX9_readSee_68 : decode cX9_readSee 68 = .ok (.getfield 105, 3) := by decide +kernel
theorem dX9_readSee_71 : decode cX9_readSee 71 = .ok (.invokevirtual 149, 3) := by decide +kernel
theorem dX9_readSee_74 : decode cX9_readSee 74 = .ok (.aload_n 0, 1) := by decide +kernel
theorem dX9_readSee_75 : decode cX9_readSee 75 = .ok (.invokevirtual 91, 3) := by decide +kernel
theorem dX9_readSee_78 : decode cX9_readSee 78 = .ok (.ifCond .ne 4, 3) := by decide +kernel
theorem dX9_readSee_81 : decode cX9_readSee 81 = .ok (.return_, 1) := by decide +kernel
theorem dX9_readSee_82 : decode cX9_readSee 82 = .ok (.aload_n 0, 1) := by decide +kernel
theorem dX9_readSee_83 : decode cX9_readSee 83 = .ok (.invokevirtual 142, 3) := by decide +kernel
theorem dX9_readSee_86 : decode cX9_readSee 86 = .ok (.bipush 8, 2) := by decide +kernel
theorem dX9_readSee_88 : decode cX9_readSee 88 = .ok (.iconst 2, 1) := by decide +kernel
theorem dX9_readSee_89 : decode cX9_readSee 89 = .ok (.aload_n 0, 1) := by decide +kernel
theorem dX9_readSee_90 : decode cX9_readSee 90 = .ok (.getfield 13, 3) := by decide +kernel
theorem dX9_readSee_93 : decode cX9_readSee 93 = .ok (.iconst 1, 1) := by decide +kernel
theorem dX9_readSee_94 : decode cX9_readSee 94 = .ok (.laload, 1) := by decide +kernel
theorem dX9_readSee_95 : decode cX9_readSee 95 = .ok (.l2i, 1) := by decide +kernel
theorem dX9_readSee_96 : decode cX9_readSee 96 = .ok (.imul, 1) := by decide +kernel
theorem dX9_readSee_97 : decode cX9_readSee 97 = .ok (.iadd, 1) := by decide +kernel
theorem dX9_readSee_98 : decode cX9_readSee 98 = .ok (.istore 5, 2) := by decide +kernel
theorem dX9_readSee_100 : decode cX9_readSee 100 = .ok (.aload_n 0, 1) := by decide +kernel
theorem dX9_readSee_101 : decode cX9_readSee 101 = .ok (.getfield 13, 3) := by decide +kernel
theorem dX9_readSee_104 : decode cX9_readSee 104 = .ok (.iload 5, 2) := by decide +kernel
theorem dX9_readSee_106 : decode cX9_readSee 106 = .ok (.lload_n 1, 1) := by decide +kernel
theorem dX9_readSee_107 : decode cX9_readSee 107 = .ok (.lastore, 1) := by decide +kernel
theorem dX9_readSee_108 : decode cX9_readSee 108 = .ok (.aload_n 0, 1) := by decide +kernel
theorem dX9_readSee_109 : decode cX9_readSee 109 = .ok (.getfield 13, 3) := by decide +kernel
theorem dX9_readSee_112 : decode cX9_readSee 112 = .ok (.iload 5, 2) := by decide +kernel
theorem dX9_readSee_114 : decode cX9_readSee 114 = .ok (.iconst 1, 1) := by decide +kernel
theorem dX9_readSee_115 : decode cX9_readSee 115 = .ok (.iadd, 1) := by decide +kernel
theorem dX9_readSee_116 : decode cX9_readSee 116 = .ok (.lload_n 3, 1) := by decide +kernel
theorem dX9_readSee_117 : decode cX9_readSee 117 = .ok (.lastore, 1) := by decide +kernel
theorem dX9_readSee_118 : decode cX9_readSee 118 = .ok (.aload_n 0, 1) := by decide +kernel
theorem dX9_readSee_119 : decode cX9_readSee 119 = .ok (.getfield 13, 3) := by decide +kernel
theorem dX9_readSee_122 : decode cX9_readSee 122 = .ok (.iconst 1, 1) := by decide +kernel
theorem dX9_readSee_123 : decode cX9_readSee 123 = .ok (.dup2, 1) := by decide +kernel
theorem dX9_readSee_124 : decode cX9_readSee 124 = .ok (.laload, 1) := by decide +kernel
theorem dX9_readSee_125 : decode cX9_readSee 125 = .ok (.lconst 1, 1) := by decide +kernel
theorem dX9_readSee_126 : decode cX9_readSee 126 = .ok (.ladd, 1) := by decide +kernel
theorem dX9_readSee_127 : decode cX9_readSee 127 = .ok (.lastore, 1) := by decide +kernel
theorem dX9_readSee_128 : decode cX9_readSee 128 = .ok (.return_, 1) := by decide +kernel
abbrev mm_X9_readSee : ab_M := (RX9, 6, none, false, 9, 233, none)
noncomputable def f_X9_readSee_J74 (v0 : Int) (v1 : Int) (v3 : Int) (h : ab_H) : Option ab_H :=
  (ab_on h 10 v0 (f_X9_good v0 h)).bind fun q1 =>
  if q1.1 = (0 : Int) then
    some q1.2
  else
  (ab_on q1.2 10 v0 (f_X9_advance v0 q1.2)).bind fun q2 =>
  (ab_get q2 10 2 v0).bind fun t3 =>
  (ab_ald q2 12 t3 (1 : Int)).bind fun t4 =>
  (ab_get q2 10 2 v0).bind fun t5 =>
  (ab_ast q2 12 t5 (ab_w32 ((8 : Int) + (ab_w32 ((2 : Int) * (ab_w32 t4))))) v1).bind fun h1 =>
  (ab_get h1 10 2 v0).bind fun t6 =>
  (ab_ast h1 12 t6 (ab_w32 ((ab_w32 ((8 : Int) + (ab_w32 ((2 : Int) * (ab_w32 t4))))) + (1 : Int))) v3).bind fun h2 =>
  (ab_get h2 10 2 v0).bind fun t7 =>
  (ab_ald h2 12 t7 (1 : Int)).bind fun t8 =>
  (ab_ast h2 12 t7 (1 : Int) (ab_w64 (t8 + (1 : Int)))).bind fun h3 =>
  some h3
set_option maxRecDepth 20000 in
theorem e_X9_readSee_J74 : ∀ (v0 : Int) (v1 : Int) (v3 : Int) (h : ab_H) (q : ab_H), f_X9_readSee_J74 v0 v1 v3 h = some q → ab_E mm_X9_readSee cX9_readSee 74 [some (ab_R v0), some (ab_J v1), none, some (ab_J v3), none, none] [] h none q := by
  intro v0 v1 v3 h q hk
  unfold f_X9_readSee_J74 at hk
  refine ab_aload_n (pc := 74) (i := 0) dX9_readSee_74 rfl rfl ?_
  obtain ⟨q1, hq1, hk⟩ := ab_bnd hk
  obtain ⟨hb, hq1⟩ := ab_on_some hq1
  refine ab_callVI (st := []) (as := []) (b := v0) (pc := 75) dX9_readSee_75 ml_RX9_91 my_X9_good mv_X9_good hb (ct_X9_good hq1) ⟨Nat.le_of_ble_eq_true rfl, Nat.le_of_ble_eq_true rfl⟩ rfl (Nat.le_of_ble_eq_true rfl) rfl ?_
  refine ab_if_ne (pc := 78) (tgt := 82) dX9_readSee_78 rfl (fun hc => ?_) (fun hc => ?_)
  · have hk := ab_ifn hk hc
    refine ab_aload_n (pc := 82) (i := 0) dX9_readSee_82 rfl rfl ?_
    obtain ⟨q2, hq2, hk⟩ := ab_bnd hk
    obtain ⟨hb, hq2⟩ := ab_on_some hq2
    refine ab_callVV (st := []) (as := []) (b := v0) (pc := 83) dX9_readSee_83 ml_RX9_142 my_X9_advance mv_X9_advance hb (ct_X9_advance hq2) ⟨Nat.le_of_ble_eq_true rfl, Nat.le_of_ble_eq_true rfl⟩ rfl (Nat.le_of_ble_eq_true rfl) rfl ?_
    refine ab_bipush (pc := 86) dX9_readSee_86 ab_p8_8 ab_k_8 ?_
    refine ab_iconst (pc := 88) dX9_readSee_88 ab_k_2 ?_
    refine ab_aload_n (pc := 89) (i := 0) dX9_readSee_89 rfl rfl ?_
    obtain ⟨t3, ht3, hk⟩ := ab_bnd hk
    refine ab_getR (pc := 90) dX9_readSee_90 fl_RX9_13 ht3 ?_
    refine ab_iconst (pc := 93) dX9_readSee_93 ab_k_1 ?_
    obtain ⟨t4, ht4, hk⟩ := ab_bnd hk
    refine ab_lald (pc := 94) dX9_readSee_94 ht4 ?_
    refine ab_l2i_ (pc := 95) dX9_readSee_95 ?_
    refine ab_imul (pc := 96) dX9_readSee_96 ?_
    refine ab_iadd (pc := 97) dX9_readSee_97 ?_
    refine ab_istore (pc := 98) (i := 5) (lv2 := [some (ab_R v0), some (ab_J v1), none, some (ab_J v3), none, some (ab_I (ab_w32 ((8 : Int) + (ab_w32 ((2 : Int) * (ab_w32 t4))))))]) dX9_readSee_98 (Nat.le_of_ble_eq_true rfl) rfl rfl ?_
    refine ab_aload_n (pc := 100) (i := 0) dX9_readSee_100 rfl rfl ?_
    obtain ⟨t5, ht5, hk⟩ := ab_bnd hk
    refine ab_getR (pc := 101) dX9_readSee_101 fl_RX9_13 ht5 ?_
    refine ab_iload (pc := 104) (i := 5) dX9_readSee_104 rfl ?_
    refine ab_lload_n (pc := 106) (i := 1) dX9_readSee_106 rfl rfl ?_
    obtain ⟨h1, hh1, hk⟩ := ab_bnd hk
    refine ab_last (pc := 107) dX9_readSee_107 hh1 ?_
    refine ab_aload_n (pc := 108) (i := 0) dX9_readSee_108 rfl rfl ?_
    obtain ⟨t6, ht6, hk⟩ := ab_bnd hk
    refine ab_getR (pc := 109) dX9_readSee_109 fl_RX9_13 ht6 ?_
    refine ab_iload (pc := 112) (i := 5) dX9_readSee_112 rfl ?_
    refine ab_iconst (pc := 114) dX9_readSee_114 ab_k_1 ?_
    refine ab_iadd (pc := 115) dX9_readSee_115 ?_
    refine ab_lload_n (pc := 116) (i := 3) dX9_readSee_116 rfl rfl ?_
    obtain ⟨h2, hh2, hk⟩ := ab_bnd hk
    refine ab_last (pc := 117) dX9_readSee_117 hh2 ?_
    refine ab_aload_n (pc := 118) (i := 0) dX9_readSee_118 rfl rfl ?_
    obtain ⟨t7, ht7, hk⟩ := ab_bnd hk
    refine ab_getR (pc := 119) dX9_readSee_119 fl_RX9_13 ht7 ?_
    refine ab_iconst (pc := 122) dX9_readSee_122 ab_k_1 ?_
    refine ab_dup2 (pc := 123) dX9_readSee_123 rfl rfl ?_
    obtain ⟨t8, ht8, hk⟩ := ab_bnd hk
    refine ab_lald (pc := 124) dX9_readSee_124 ht8 ?_
    refine ab_lconst (x := (1 : Int)) (pc := 125) dX9_readSee_125 rfl ab_kl_1 ?_
    refine ab_ladd (pc := 126) dX9_readSee_126 ?_
    obtain ⟨h3, hh3, hk⟩ := ab_bnd hk
    refine ab_last (pc := 127) dX9_readSee_127 hh3 ?_
    obtain rfl := Option.some.inj hk
    exact ab_retv (pc := 128) dX9_readSee_128 rfl
  · have hk := ab_ifp hk hc
    obtain rfl := Option.some.inj hk
    exact ab_retv (pc := 81) dX9_readSee_81 rfl
noncomputable def f_X9_readSee_J40 (v0 : Int) (v1 : Int) (h : ab_H) : Option ab_H :=
  (ab_on h 10 v0 (f_X9_wordHere v0 h)).bind fun q1 =>
  (ab_on q1.2 10 v0 (f_X9_good v0 q1.2)).bind fun q2 =>
  if q2.1 = (0 : Int) then
    f_X9_readSee_J74 v0 v1 q1.1 q2.2
  else
  (ab_get q2.2 10 2 v0).bind fun t3 =>
  (f_X9_usedOf t3 q1.1 q2.2).bind fun q4 =>
  if ab_cmp q4.1 v1 = (0 : Int) then
    (ab_get q4.2 10 7 v0).bind fun t5 =>
    (ab_on q4.2 10 v0 (f_X9_errs v0 (3 : Int) t5 q4.2)).bind fun q6 =>
    f_X9_readSee_J74 v0 v1 q1.1 q6
  else
  f_X9_readSee_J74 v0 v1 q1.1 q4.2
set_option maxRecDepth 20000 in
theorem e_X9_readSee_J40 : ∀ (v0 : Int) (v1 : Int) (h : ab_H) (q : ab_H), f_X9_readSee_J40 v0 v1 h = some q → ab_E mm_X9_readSee cX9_readSee 40 [some (ab_R v0), some (ab_J v1), none, none, none, none] [] h none q := by
  intro v0 v1 h q hk
  unfold f_X9_readSee_J40 at hk
  refine ab_aload_n (pc := 40) (i := 0) dX9_readSee_40 rfl rfl ?_
  obtain ⟨q1, hq1, hk⟩ := ab_bnd hk
  obtain ⟨hb, hq1⟩ := ab_on_some hq1
  refine ab_callVJ (st := []) (as := []) (b := v0) (pc := 41) dX9_readSee_41 ml_RX9_193 my_X9_wordHere mv_X9_wordHere hb (ct_X9_wordHere hq1) ⟨Nat.le_of_ble_eq_true rfl, Nat.le_of_ble_eq_true rfl⟩ rfl (Nat.le_of_ble_eq_true rfl) rfl ?_
  refine ab_lstore_n (pc := 44) (i := 3) (lv2 := [some (ab_R v0), some (ab_J v1), none, some (ab_J q1.1), none, none]) dX9_readSee_44 rfl (Nat.le_of_ble_eq_true rfl) rfl rfl ?_
  refine ab_aload_n (pc := 45) (i := 0) dX9_readSee_45 rfl rfl ?_
  obtain ⟨q2, hq2, hk⟩ := ab_bnd hk
  obtain ⟨hb, hq2⟩ := ab_on_some hq2
  refine ab_callVI (st := []) (as := []) (b := v0) (pc := 46) dX9_readSee_46 ml_RX9_91 my_X9_good mv_X9_good hb (ct_X9_good hq2) ⟨Nat.le_of_ble_eq_true rfl, Nat.le_of_ble_eq_true rfl⟩ rfl (Nat.le_of_ble_eq_true rfl) rfl ?_
  refine ab_if_eq (pc := 49) (tgt := 74) dX9_readSee_49 rfl (fun hc => ?_) (fun hc => ?_)
  · have hk := ab_ifp hk hc
    refine ab_sub_ (lv2 := [some (ab_R v0), some (ab_J v1), none, some (ab_J q1.1), none, none]) (ab_ss (ab_ss (ab_sn (ab_ss (ab_sn (ab_sn ab_s0)))))) ?_
    exact e_X9_readSee_J74 _ _ _ _ _ hk
  · have hk := ab_ifn hk hc
    refine ab_aload_n (pc := 52) (i := 0) dX9_readSee_52 rfl rfl ?_
    obtain ⟨t3, ht3, hk⟩ := ab_bnd hk
    refine ab_getR (pc := 53) dX9_readSee_53 fl_RX9_13 ht3 ?_
    refine ab_lload_n (pc := 56) (i := 3) dX9_readSee_56 rfl rfl ?_
    obtain ⟨q4, hq4, hk⟩ := ab_bnd hk
    refine ab_callSJ (st := []) (as := [ab_R t3, ab_J q1.1]) (pc := 57) dX9_readSee_57 ml_RX9_204 my_X9_usedOf ms_X9_usedOf (ct_X9_usedOf hq4) ⟨Nat.le_of_ble_eq_true rfl, Nat.le_of_ble_eq_true rfl⟩ rfl (Nat.le_of_ble_eq_true rfl) rfl ?_
    refine ab_lload_n (pc := 60) (i := 1) dX9_readSee_60 rfl rfl ?_
    refine ab_lcmp_ (pc := 61) dX9_readSee_61 ?_
    refine ab_if_ne (pc := 62) (tgt := 74) dX9_readSee_62 rfl (fun hc => ?_) (fun hc => ?_)
    · have hk := ab_ifn hk hc
      refine ab_sub_ (lv2 := [some (ab_R v0), some (ab_J v1), none, some (ab_J q1.1), none, none]) (ab_ss (ab_ss (ab_sn (ab_ss (ab_sn (ab_sn ab_s0)))))) ?_
      exact e_X9_readSee_J74 _ _ _ _ _ hk
    · have hk := ab_ifp hk hc
      refine ab_aload_n (pc := 65) (i := 0) dX9_readSee_65 rfl rfl ?_
      refine ab_iconst (pc := 66) dX9_readSee_66 ab_k_3 ?_
      refine ab_aload_n (pc := 67) (i := 0) dX9_readSee_67 rfl rfl ?_
      obtain ⟨t5, ht5, hk⟩ := ab_bnd hk
      refine ab_getI (pc := 68) dX9_readSee_68 fl_RX9_105 ht5 ?_
      obtain ⟨q6, hq6, hk⟩ := ab_bnd hk
      obtain ⟨hb, hq6⟩ := ab_on_some hq6
      refine ab_callVV (st := []) (as := [ab_I (3 : Int), ab_I t5]) (b := v0) (pc := 71) dX9_readSee_71 ml_RX9_149 my_X9_errs mv_X9_errs hb (ct_X9_errs hq6) ⟨Nat.le_of_ble_eq_true rfl, Nat.le_of_ble_eq_true rfl⟩ rfl (Nat.le_of_ble_eq_true rfl) rfl ?_
      refine ab_sub_ (lv2 := [some (ab_R v0), some (ab_J v1), none, some (ab_J q1.1), none, none]) (ab_ss (ab_ss (ab_sn (ab_ss (ab_sn (ab_sn ab_s0)))))) ?_
      exact e_X9_readSee_J74 _ _ _ _ _ hk
noncomputable def f_X9_readSee_J29 (v0 : Int) (v1 : Int) (h : ab_H) : Option ab_H :=
  (ab_on h 10 v0 (f_X9_good v0 h)).bind fun q1 =>
  if q1.1 = (0 : Int) then
    f_X9_readSee_J40 v0 v1 q1.2
  else
  (ab_on q1.2 10 v0 (f_X9_advance v0 q1.2)).bind fun q2 =>
  f_X9_readSee_J40 v0 v1 q2
set_option maxRecDepth 20000 in
theorem e_X9_readSee_J29 : ∀ (v0 : Int) (v1 : Int) (h : ab_H) (q : ab_H), f_X9_readSee_J29 v0 v1 h = some q → ab_E mm_X9_readSee cX9_readSee 29 [some (ab_R v0), some (ab_J v1), none, none, none, none] [] h none q := by
  intro v0 v1 h q hk
  unfold f_X9_readSee_J29 at hk
  refine ab_aload_n (pc := 29) (i := 0) dX9_readSee_29 rfl rfl ?_
  obtain ⟨q1, hq1, hk⟩ := ab_bnd hk
  obtain ⟨hb, hq1⟩ := ab_on_some hq1
  refine ab_callVI (st := []) (as := []) (b := v0) (pc := 30) dX9_readSee_30 ml_RX9_91 my_X9_good mv_X9_good hb (ct_X9_good hq1) ⟨Nat.le_of_ble_eq_true rfl, Nat.le_of_ble_eq_true rfl⟩ rfl (Nat.le_of_ble_eq_true rfl) rfl ?_
  refine ab_if_eq (pc := 33) (tgt := 40) dX9_readSee_33 rfl (fun hc => ?_) (fun hc => ?_)
  · have hk := ab_ifp hk hc
    refine ab_sub_ (lv2 := [some (ab_R v0), some (ab_J v1), none, none, none, none]) (ab_ss (ab_ss (ab_sn (ab_sn (ab_sn (ab_sn ab_s0)))))) ?_
    exact e_X9_readSee_J40 _ _ _ _ hk
  · have hk := ab_ifn hk hc
    refine ab_aload_n (pc := 36) (i := 0) dX9_readSee_36 rfl rfl ?_
    obtain ⟨q2, hq2, hk⟩ := ab_bnd hk
    obtain ⟨hb, hq2⟩ := ab_on_some hq2
    refine ab_callVV (st := []) (as := []) (b := v0) (pc := 37) dX9_readSee_37 ml_RX9_142 my_X9_advance mv_X9_advance hb (ct_X9_advance hq2) ⟨Nat.le_of_ble_eq_true rfl, Nat.le_of_ble_eq_true rfl⟩ rfl (Nat.le_of_ble_eq_true rfl) rfl ?_
    refine ab_sub_ (lv2 := [some (ab_R v0), some (ab_J v1), none, none, none, none]) (ab_ss (ab_ss (ab_sn (ab_sn (ab_sn (ab_sn ab_s0)))))) ?_
    exact e_X9_readSee_J40 _ _ _ _ hk
noncomputable def f_X9_readSee (a0 : Int) (h : ab_H) : Option ab_H :=
  (ab_on h 10 a0 (f_X9_wordHere a0 h)).bind fun q1 =>
  (ab_on q1.2 10 a0 (f_X9_good a0 q1.2)).bind fun q2 =>
  if q2.1 = (0 : Int) then
    f_X9_readSee_J29 a0 q1.1 q2.2
  else
  (ab_on q2.2 10 a0 (f_X9_isSeen a0 q1.1 q2.2)).bind fun q3 =>
  if q3.1 = (0 : Int) then
    f_X9_readSee_J29 a0 q1.1 q3.2
  else
  (ab_get q3.2 10 7 a0).bind fun t4 =>
  (ab_on q3.2 10 a0 (f_X9_errs a0 (3 : Int) t4 q3.2)).bind fun q5 =>
  f_X9_readSee_J29 a0 q1.1 q5
set_option maxRecDepth 20000 in
theorem ct_X9_readSee {a0 : Int} {h : ab_H} {q : ab_H} (hk : f_X9_readSee a0 h = some q) : ab_CT yX9_readSee cX9_readSee 6 none 9 233 [ab_R a0] h none q := by
  refine ab_CT.mk_ 5 (own := RX9) (ini := false) (lv := [some (ab_R a0), none, none, none, none, none]) rfl (by decide +kernel) (fun q => by cases q) rfl rfl ?_
  unfold f_X9_readSee at hk
  show ab_E mm_X9_readSee cX9_readSee 0 _ [] h _ _
  refine ab_aload_n (pc := 0) (i := 0) dX9_readSee_0 rfl rfl ?_
  obtain ⟨q1, hq1, hk⟩ := ab_bnd hk
  obtain ⟨hb, hq1⟩ := ab_on_some hq1
  refine ab_callVJ (st := []) (as := []) (b := a0) (pc := 1) dX9_readSee_1 ml_RX9_193 my_X9_wordHere mv_X9_wordHere hb (ct_X9_wordHere hq1) ⟨Nat.le_of_ble_eq_true rfl, Nat.le_of_ble_eq_true rfl⟩ rfl (Nat.le_of_ble_eq_true rfl) rfl ?_
  refine ab_lstore_n (pc := 4) (i := 1) (lv2 := [some (ab_R a0), some (ab_J q1.1), none, none, none, none]) dX9_readSee_4 rfl (Nat.le_of_ble_eq_true rfl) rfl rfl ?_
  refine ab_aload_n (pc := 5) (i := 0) dX9_readSee_5 rfl rfl ?_
  obtain ⟨q2, hq2, hk⟩ := ab_bnd hk
  obtain ⟨hb, hq2⟩ := ab_on_some hq2
  refine ab_callVI (st := []) (as := []) (b := a0) (pc := 6) dX9_readSee_6 ml_RX9_91 my_X9_good mv_X9_good hb (ct_X9_good hq2) ⟨Nat.le_of_ble_eq_true rfl, Nat.le_of_ble_eq_true rfl⟩ rfl (Nat.le_of_ble_eq_true rfl) rfl ?_
  refine ab_if_eq (pc := 9) (tgt := 29) dX9_readSee_9 rfl (fun hc => ?_) (fun hc => ?_)
  · have hk := ab_ifp hk hc
    refine ab_sub_ (lv2 := [some (ab_R a0), some (ab_J q1.1), none, none, none, none]) (ab_ss (ab_ss (ab_sn (ab_sn (ab_sn (ab_sn ab_s0)))))) ?_
    exact e_X9_readSee_J29 _ _ _ _ hk
  · have hk := ab_ifn hk hc
    refine ab_aload_n (pc := 12) (i := 0) dX9_readSee_12 rfl rfl ?_
    refine ab_lload_n (pc := 13) (i := 1) dX9_readSee_13 rfl rfl ?_
    obtain ⟨q3, hq3, hk⟩ := ab_bnd hk
    obtain ⟨hb, hq3⟩ := ab_on_some hq3
    refine ab_callVI (st := []) (as := [ab_J q1.1]) (b := a0) (pc := 14) dX9_readSee_14 ml_RX9_200 my_X9_isSeen mv_X9_isSeen hb (ct_X9_isSeen hq3) ⟨Nat.le_of_ble_eq_true rfl, Nat.le_of_ble_eq_true rfl⟩ rfl (Nat.le_of_ble_eq_true rfl) rfl ?_
    refine ab_if_eq (pc := 17) (tgt := 29) dX9_readSee_17 rfl (fun hc => ?_) (fun hc => ?_)
    · have hk := ab_ifp hk hc
      refine ab_sub_ (lv2 := [some (ab_R a0), some (ab_J q1.1), none, none, none, none]) (ab_ss (ab_ss (ab_sn (ab_sn (ab_sn (ab_sn ab_s0)))))) ?_
      exact e_X9_readSee_J29 _ _ _ _ hk
    · have hk := ab_ifn hk hc
      refine ab_aload_n (pc := 20) (i := 0) dX9_readSee_20 rfl rfl ?_
      refine ab_iconst (pc := 21) dX9_readSee_21 ab_k_3 ?_
      refine ab_aload_n (pc := 22) (i := 0) dX9_readSee_22 rfl rfl ?_
      obtain ⟨t4, ht4, hk⟩ := ab_bnd hk
      refine ab_getI (pc := 23) dX9_readSee_23 fl_RX9_105 ht4 ?_
      obtain ⟨q5, hq5, hk⟩ := ab_bnd hk
      obtain ⟨hb, hq5⟩ := ab_on_some hq5
      refine ab_callVV (st := []) (as := [ab_I (3 : Int), ab_I t4]) (b := a0) (pc := 26) dX9_readSee_26 ml_RX9_149 my_X9_errs mv_X9_errs hb (ct_X9_errs hq5) ⟨Nat.le_of_ble_eq_true rfl, Nat.le_of_ble_eq_true rfl⟩ rfl (Nat.le_of_ble_eq_true rfl) rfl ?_
      refine ab_sub_ (lv2 := [some (ab_R a0), some (ab_J q1.1), none, none, none, none]) (ab_ss (ab_ss (ab_sn (ab_sn (ab_sn (ab_sn ab_s0)))))) ?_
      exact e_X9_readSee_J29 _ _ _ _ hk
theorem dX9_isAddress_0 : decode cX9_isAddress 0 = .ok (.iconst 0, 1) := by decide +kernel
theorem dX9_isAddress_1 : decode cX9_isAddress 1 = .ok (.istore_n 2, 1) := by decide +kernel
theorem dX9_isAddress_2 : decode cX9_isAddress 2 = .ok (.iload_n 2, 1) := by decide +kernel
theorem dX9_isAddress_3 : decode cX9_isAddress 3 = .ok (.aload_n 0, 1) := by decide +kernel
theorem dX9_isAddress_4 : decode cX9_isAddress 4 = .ok (.getfield 13, 3) := by decide +kernel
theorem dX9_isAddress_7 : decode cX9_isAddress 7 = .ok (.iconst 0, 1) := by decide +kernel
theorem dX9_isAddress_8 : decode cX9_isAddress 8 = .ok (.laload, 1) := by decide +kernel
theorem dX9_isAddress_9 : decode cX9_isAddress 9 = .ok (.l2i, 1) := by decide +kernel
theorem dX9_isAddress_10 : decode cX9_isAddress 10 = .ok (.if_icmp .ge 29, 3) := by decide +kernel
theorem dX9_isAddress_13 : decode cX9_isAddress 13 = .ok (.aload_n 0, 1) := by decide +kernel
theorem dX9_isAddress_14 : decode cX9_isAddress 14 = .ok (.getfield 13, 3) := by decide +kernel
theorem dX9_isAddress_17 : decode cX9_isAddress 17 = .ok (.bipush 32, 2) := by decide +kernel
theorem dX9_isAddress_19 : decode cX9_isAddress 19 = .ok (.bipush 32, 2) := by decide +kernel
theorem dX9_isAddress_21 : decode cX9_isAddress 21 = .ok (.iload_n 2, 1) := by decide +kernel
theorem dX9_isAddress_22 : decode cX9_isAddress 22 = .ok (.imul, 1) := by decide +kernel
theorem dX9_isAddress_23 : decode cX9_isAddress 23 = .ok (.iadd, 1) := by decide +kernel
theorem dX9_isAddress_24 : decode cX9_isAddress 24 = .ok (.laload, 1) := by decide +kernel
theorem dX9_isAddress_25 : decode cX9_isAddress 25 = .ok (.iload_n 1, 1) := by decide +kernel
theorem dX9_isAddress_26 : decode cX9_isAddress 26 = .ok (.i2l, 1) := by decide +kernel
theorem dX9_isAddress_27 : decode cX9_isAddress 27 = .ok (.lcmp, 1) := by decide +kernel
theorem dX9_isAddress_28 : decode cX9_isAddress 28 = .ok (.ifCond .ne 5, 3) := by decide +kernel
theorem dX9_isAddress_31 : decode cX9_isAddress 31 = .ok (.iconst 1, 1) := by decide +kernel
theorem dX9_isAddress_32 : decode cX9_isAddress 32 = .ok (.ireturn, 1) := by decide +kernel
theorem dX9_isAddress_33 : decode cX9_isAddress 33 = .ok (.iinc 2 1, 3) := by decide +kernel
theorem dX9_isAddress_36 : decode cX9_isAddress 36 = .ok (.goto (-34), 3) := by decide +kernel
theorem dX9_isAddress_39 : decode cX9_isAddress 39 = .ok (.iconst 0, 1) := by decide +kernel
theorem dX9_isAddress_40 : decode cX9_isAddress 40 = .ok (.ireturn, 1) := by decide +kernel
abbrev mm_X9_isAddress : ab_M := (RX9, 3, (some .boolean), false, 0, 0, none)
noncomputable def f_X9_isAddress_L2 : Nat → Int → Int → Int → ab_H → Option (Int × ab_H)
  | 0, _, _, _, _ => none
  | n + 1, v0, v1, v2, h =>
    (ab_get h 10 2 v0).bind fun t1 =>
    (ab_ald h 12 t1 (0 : Int)).bind fun t2 =>
    if ab_w32 t2 ≤ v2 then
      some ((0 : Int), h)
    else
    (ab_get h 10 2 v0).bind fun t3 =>
    (ab_ald h 12 t3 (ab_w32 ((32 : Int) + (ab_w32 ((32 : Int) * v2))))).bind fun t4 =>
    if ab_cmp t4 v1 = (0 : Int) then
      some ((1 : Int), h)
    else
    f_X9_isAddress_L2 n v0 v1 (ab_w32 (v2 + (1 : Int))) h
set_option maxRecDepth 20000 in
theorem e_X9_isAddress_L2 : ∀ (n : Nat) (v0 : Int) (v1 : Int) (v2 : Int) (h : ab_H) (q : Int × ab_H), f_X9_isAddress_L2 n v0 v1 v2 h = some q → ab_E mm_X9_isAddress cX9_isAddress 2 [some (ab_R v0), some (ab_I v1), some (ab_I v2)] [] h (some (ab_I q.1)) q.2 := by
  intro n
  induction n with
  | zero => intro v0 v1 v2 h q hk; cases hk
  | succ n ih =>
    intro v0 v1 v2 h q hk
    unfold f_X9_isAddress_L2 at hk
    refine ab_iload_n (pc := 2) (i := 2) dX9_isAddress_2 rfl rfl ?_
    refine ab_aload_n (pc := 3) (i := 0) dX9_isAddress_3 rfl rfl ?_
    obtain ⟨t1, ht1, hk⟩ := ab_bnd hk
    refine ab_getR (pc := 4) dX9_isAddress_4 fl_RX9_13 ht1 ?_
    refine ab_iconst (pc := 7) dX9_isAddress_7 ab_k_0 ?_
    obtain ⟨t2, ht2, hk⟩ := ab_bnd hk
    refine ab_lald (pc := 8) dX9_isAddress_8 ht2 ?_
    refine ab_l2i_ (pc := 9) dX9_isAddress_9 ?_
    refine ab_icmp_ge (pc := 10) (tgt := 39) dX9_isAddress_10 rfl (fun hc => ?_) (fun hc => ?_)
    · have hk := ab_ifp hk hc
      refine ab_iconst (pc := 39) dX9_isAddress_39 ab_k_0 ?_
      obtain rfl := Option.some.inj hk
      exact ab_retz (pc := 40) dX9_isAddress_40 rfl rfl
    · have hk := ab_ifn hk hc
      refine ab_aload_n (pc := 13) (i := 0) dX9_isAddress_13 rfl rfl ?_
      obtain ⟨t3, ht3, hk⟩ := ab_bnd hk
      refine ab_getR (pc := 14) dX9_isAddress_14 fl_RX9_13 ht3 ?_
      refine ab_bipush (pc := 17) dX9_isAddress_17 ab_p8_32 ab_k_32 ?_
      refine ab_bipush (pc := 19) dX9_isAddress_19 ab_p8_32 ab_k_32 ?_
      refine ab_iload_n (pc := 21) (i := 2) dX9_isAddress_21 rfl rfl ?_
      refine ab_imul (pc := 22) dX9_isAddress_22 ?_
      refine ab_iadd (pc := 23) dX9_isAddress_23 ?_
      obtain ⟨t4, ht4, hk⟩ := ab_bnd hk
      refine ab_lald (pc := 24) dX9_isAddress_24 ht4 ?_
      refine ab_iload_n (pc := 25) (i := 1) dX9_isAddress_25 rfl rfl ?_
      refine ab_i2l_ (pc := 26) dX9_isAddress_26 ?_
      refine ab_lcmp_ (pc := 27) dX9_isAddress_27 ?_
      refine ab_if_ne (pc := 28) (tgt := 33) dX9_isAddress_28 rfl (fun hc => ?_) (fun hc => ?_)
      · have hk := ab_ifn hk hc
        refine ab_iinc (pc := 33) (i := 2) (lv2 := [some (ab_R v0), some (ab_I v1), some (ab_I (ab_w32 (v2 + (1 : Int))))]) dX9_isAddress_33 rfl (Nat.le_of_ble_eq_true rfl) rfl rfl ?_
        refine ab_goto (pc := 36) (tgt := 2) dX9_isAddress_36 rfl ?_
        refine ab_sub_ (lv2 := [some (ab_R v0), some (ab_I v1), some (ab_I (ab_w32 (v2 + (1 : Int))))]) (ab_ss (ab_ss (ab_ss ab_s0))) ?_
        exact ih _ _ _ _ _ hk
      · have hk := ab_ifp hk hc
        refine ab_iconst (pc := 31) dX9_isAddress_31 ab_k_1 ?_
        obtain rfl := Option.some.inj hk
        exact ab_retz (pc := 32) dX9_isAddress_32 rfl rfl
noncomputable def f_X9_isAddress (a0 : Int) (a1 : Int) (h : ab_H) : Option (Int × ab_H) :=
  f_X9_isAddress_L2 ab_FU a0 a1 (0 : Int) h
set_option maxRecDepth 20000 in
theorem ct_X9_isAddress {a0 a1 : Int} {h : ab_H} {q : Int × ab_H} (hk : f_X9_isAddress a0 a1 h = some q) : ab_CT yX9_isAddress cX9_isAddress 3 (some .boolean) 0 0 [ab_R a0, ab_I a1] h (some (ab_I q.1)) q.2 := by
  refine ab_CT.mk_ 1 (own := RX9) (ini := false) (lv := [some (ab_R a0), some (ab_I a1), none]) rfl (by decide +kernel) (fun q => by cases q) rfl rfl ?_
  unfold f_X9_isAddress at hk
  show ab_E mm_X9_isAddress cX9_isAddress 0 _ [] h _ _
  refine ab_iconst (pc := 0) dX9_isAddress_0 ab_k_0 ?_
  refine ab_istore_n (pc := 1) (i := 2) (lv2 := [some (ab_R a0), some (ab_I a1), some (ab_I (0 : Int))]) dX9_isAddress_1 rfl (Nat.le_of_ble_eq_true rfl) rfl rfl ?_
  refine ab_sub_ (lv2 := [some (ab_R a0), some (ab_I a1), some (ab_I (0 : Int))]) (ab_ss (ab_ss (ab_ss ab_s0))) ?_
  refine e_X9_isAddress_L2 _ _ _ _ _ _ hk
theorem dX9_readTerm_0 : decode cX9_readTerm 0 = .ok (.iload_n 1, 1) := by decide +kernel
theorem dX9_readTerm_1 : decode cX9_readTerm 1 = .ok (.iload_n 2, 1) := by decide +kernel
theorem dX9_readTerm_2 : decode cX9_readTerm 2 = .ok (.invokestatic 73, 3) := by decide +kernel
theorem dX9_readTerm_5 : decode cX9_readTerm 5 = .ok (.istore 4, 2) := by decide +kernel
theorem dX9_readTerm_7 : decode cX9_readTerm 7 = .ok (.aload_n 0, 1) := by decide +kernel
theorem dX9_readTerm_8 : decode cX9_readTerm 8 = .ok (.invokevirtual 91, 3) := by decide +kernel
theorem dX9_readTerm_11 : decode cX9_readTerm 11 = .ok (.ifCond .eq 39, 3) := by decide +kernel
theorem dX9_readTerm_14 : decode cX9_readTerm 14 = .ok (.iload_n 2, 1) := by decide +kernel
theorem dX9_readTerm_15 : decode cX9_readTerm 15 = .ok (.bipush 6, 2) := by decide +kernel
theorem dX9_readTerm_17 : decode cX9_readTerm 17 = .ok (.if_icmp .ne 33, 3) := by decide +kernel
theorem dX9_readTerm_20 : decode cX9_readTerm 20 = .ok (.aload_n 0, 1) := by decide +kernel
theorem dX9_readTerm_21 : decode cX9_readTerm 21 = .ok (.aload_n 0, 1) := by decide +kernel
theorem dX9_readTerm_22 : decode cX9_readTerm 22 = .ok (.ldc 180, 2) := by decide +kernel
theorem dX9_readTerm_24 : decode cX9_readTerm 24 = .ok (.invokevirtual 138, 3) := by decide +kernel
theorem dX9_readTerm_27 : decode cX9_readTerm 27 = .ok (.ifCond .ne 11, 3) := by decide +kernel
theorem dX9_readTerm_30 : decode cX9_readTerm 30 = .ok (.aload_n 0, 1) := by decide +kernel
theorem dX9_readTerm_31 : decode cX9_readTerm 31 = .ok (.invokevirtual 165, 3) := by decide +kernel
theorem dX9_readTerm_34 : decode cX9_readTerm 34 = .ok (.iconst (-1), 1) := by decide +kernel
theorem dX9_readTerm_35 : decode cX9_readTerm 35 = .ok (.if_icmp .eq 7, 3) := by decide +kernel
theorem dX9_readTerm_38 : decode cX9_readTerm 38 = .ok (.iconst 4, 1) := by decide +kernel
theorem dX9_readTerm_39 : decode cX9_readTerm 39 = .ok (.goto 4, 3) := by decide +kernel
theorem dX9_readTerm_42 : decode cX9_readTerm 42 = .ok (.iconst 1, 1) := by decide +kernel
theorem dX9_readTerm_43 : decode cX9_readTerm 43 = .ok (.aload_n 0, 1) := by decide +kernel
theorem dX9_readTerm_44 : decode cX9_readTerm 44 = .ok (.getfield 105, 3) := by decide +kernel
theorem dX9_readTerm_47 : decode cX9_readTerm 47 = .ok (.invokevirtual 149, 3) := by decide +kernel
theorem dX9_readTerm_50 : decode cX9_readTerm 50 = .ok (.aload_n 0, 1) := by decide +kernel
theorem dX9_readTerm_51 : decode cX9_readTerm 51 = .ok (.invokevirtual 91, 3) := by decide +kernel
theorem dX9_readTerm_54 : decode cX9_readTerm 54 = .ok (.ifCond .ne 4, 3) := by decide +kernel
theorem dX9_readTerm_57 : decode cX9_readTerm 57 = .ok (.return_, 1) := by decide +kernel
theorem dX9_readTerm_58 : decode cX9_readTerm 58 = .ok (.aload_n 0, 1) := by decide +kernel
theorem dX9_readTerm_59 : decode cX9_readTerm 59 = .ok (.getfield 13, 3) := by decide +kernel
theorem dX9_readTerm_62 : decode cX9_readTerm 62 = .ok (.iload 4, 2) := by decide +kernel
theorem dX9_readTerm_64 : decode cX9_readTerm 64 = .ok (.iconst 1, 1) := by decide +kernel
theorem dX9_readTerm_65 : decode cX9_readTerm 65 = .ok (.iadd, 1) := by decide +kernel
theorem dX9_readTerm_66 : decode cX9_readTerm 66 = .ok (.aload_n 0, 1) := by decide +kernel
theorem dX9_readTerm_67 : decode cX9_readTerm 67 = .ok (.ldc 180, 2) := by decide +kernel
theorem dX9_readTerm_69 : decode cX9_readTerm 69 = .ok (.invokevirtual 208, 3) := by decide +kernel
theorem dX9_readTerm_72 : decode cX9_readTerm 72 = .ok (.ifCond .eq 7, 3) := by decide +kernel
theorem dX9_readTerm_75 : decode cX9_readTerm 75 = .ok (.lconst 0, 1) := by decide +kernel
theorem dX9_readTerm_76 : decode cX9_readTerm 76 = .ok (.goto 4, 3) := by decide +kernel
theorem dX9_readTerm_79 : decode cX9_readTerm 79 = .ok (.lconst 1, 1) := by decide +kernel
theorem dX9_readTerm_80 : decode cX9_readTerm 80 = .ok (.lastore, 1) := by decide +kernel
theorem dX9_readTerm_81 : decode cX9_readTerm 81 = .ok (.aload_n 0, 1) := by decide +kernel
theorem dX9_readTerm_82 : decode cX9_readTerm 82 = .ok (.invokevirtual 165, 3) := by decide +kernel
theorem dX9_readTerm_85 : decode cX9_readTerm 85 = .ok (.istore 5, 2) := by decide +kernel
theorem dX9_readTerm_87 : decode cX9_readTerm 87 = .ok (.iload 5, 2) := by decide +kernel
theorem dX9_readTerm_89 : decode cX9_readTerm 89 = .ok (.iconst (-1), 1) := by decide +kernel
theorem dX9_readTerm_90 : decode cX9_readTerm 90 = .ok (.if_icmp .ne 12, 3) := by decide +kernel
theorem dX9_readTerm_93 : decode cX9_readTerm 93 = .ok (.aload_n 0, 1) := by decide +kernel
theorem dX9_readTerm_94 : decode cX9_readTerm 94 = .ok (.iconst 1, 1) := by decide +kernel
theorem dX9_readTerm_95 : decode cX9_readTerm 95 = .ok (.aload_n 0, 1) := by decide +kernel
theorem dX9_readTerm_96 : decode cX9_readTerm 96 = .ok (.getfield 105, 3) := by decide +kernel
theorem dX9_readTerm_99 : decode cX9_readTerm 99 = .ok (.invokevirtual 149, 3) := by decide +kernel
theorem dX9_readTerm_102 : decode cX9_readTerm 102 = .ok (.aload_n 0, 1) := by decide +kernel
theorem dX9_readTerm_103 : decode cX9_readTerm 103 = .ok (.invokevirtual 91, 3) := by decide +kernel
theorem dX9_readTerm_106 : decode cX9_readTerm 106 = .ok (.ifCond .eq 18, 3) := by decide +kernel
theorem dX9_readTerm_109 : decode cX9_readTerm 109 = .ok (.iload 5, 2) := by decide +kernel
theorem dX9_readTerm_111 : decode cX9_readTerm 111 = .ok (.iload_n 3, 1) := by decide +kernel
theorem dX9_readTerm_112 : decode cX9_readTerm 112 = .ok (.if_icmp .ge 12, 3) := by decide +kernel
theorem dX9_readTerm_115 : decode cX9_readTerm 115 = .ok (.aload_n 0, 1) := by decide +kernel
theorem dX9_readTerm_116 : decode cX9_readTerm 116 = .ok (.iconst 5, 1) := by decide +kernel
theorem dX9_readTerm_117 : decode cX9_readTerm 117 = .ok (.aload_n 0, 1) := by decide +kernel
theorem dX9_readTerm_118 : decode cX9_readTerm 118 = .ok (.getfield 105, 3) := by decide +kernel
theorem dX9_readTerm_121 : decode cX9_readTerm 121 = .ok (.invokevirtual 149, 3) := by decide +kernel
theorem dX9_readTerm_124 : decode cX9_readTerm 124 = .ok (.aload_n 0, 1) := by decide +kernel
theorem dX9_readTerm_125 : decode cX9_readTerm 125 = .ok (.invokevirtual 91, 3) := by decide +kernel
theorem dX9_readTerm_128 : decode cX9_readTerm 128 = .ok (.ifCond .ne 4, 3) := by decide +kernel
theorem dX9_readTerm_131 : decode cX9_readTerm 131 = .ok (.return_, 1) := by decide +kernel
theorem dX9_readTerm_132 : decode cX9_readTerm 132 = .ok (.aload_n 0, 1) := by decide +kernel
theorem dX9_readTerm_133 : decode cX9_readTerm 133 = .ok (.invokevirtual 142, 3) := by decide +kernel
theorem dX9_readTerm_136 : decode cX9_readTerm 136 = .ok (.aload_n 0, 1) := by decide +kernel
theorem dX9_readTerm_137 : decode cX9_readTerm 137 = .ok (.getfield 13, 3) := by decide +kernel
theorem dX9_readTerm_140 : decode cX9_readTerm 140 = .ok (.iload 4, 2) := by decide +kernel
theorem dX9_readTerm_142 : decode cX9_readTerm 142 = .ok (.iconst 0, 1) := by decide +kernel
theorem dX9_readTerm_143 : decode cX9_readTerm 143 = .ok (.iadd, 1) := by decide +kernel
theorem dX9_readTerm_144 : decode cX9_readTerm 144 = .ok (.iload 5, 2) := by decide +kernel
theorem dX9_readTerm_146 : decode cX9_readTerm 146 = .ok (.i2l, 1) := by decide +kernel
theorem dX9_readTerm_147 : decode cX9_readTerm 147 = .ok (.lastore, 1) := by decide +kernel
theorem dX9_readTerm_148 : decode cX9_readTerm 148 = .ok (.aload_n 0, 1) := by decide +kernel
theorem dX9_readTerm_149 : decode cX9_readTerm 149 = .ok (.getfield 13, 3) := by decide +kernel
theorem dX9_readTerm_152 : decode cX9_readTerm 152 = .ok (.iload 4, 2) := by decide +kernel
theorem dX9_readTerm_154 : decode cX9_readTerm 154 = .ok (.iconst 2, 1) := by decide +kernel
theorem dX9_readTerm_155 : decode cX9_readTerm 155 = .ok (.iadd, 1) := by decide +kernel
theorem dX9_readTerm_156 : decode cX9_readTerm 156 = .ok (.aload_n 0, 1) := by decide +kernel
theorem dX9_readTerm_157 : decode cX9_readTerm 157 = .ok (.invokevirtual 211, 3) := by decide +kernel
theorem dX9_readTerm_160 : decode cX9_readTerm 160 = .ok (.lastore, 1) := by decide +kernel
theorem dX9_readTerm_161 : decode cX9_readTerm 161 = .ok (.aload_n 0, 1) := by decide +kernel
theorem dX9_readTerm_162 : decode cX9_readTerm 162 = .ok (.getfield 13, 3) := by decide +kernel
theorem dX9_readTerm_165 : decode cX9_readTerm 165 = .ok (.iload 4, 2) := by decide +kernel
theorem dX9_readTerm_167 : decode cX9_readTerm 167 = .ok (.iconst 3, 1) := by decide +kernel
theorem dX9_readTerm_168 : decode cX9_readTerm 168 = .ok (.iadd, 1) := by decide +kernel
theorem dX9_readTerm_169 : decode cX9_readTerm 169 = .ok (.aload_n 0, 1) := by decide +kernel
theorem dX9_readTerm_170 : decode cX9_readTerm 170 = .ok (.ldc 182, 2) := by decide +kernel
theorem dX9_readTerm_172 : decode cX9_readTerm 172 = .ok (.invokevirtual 208, 3) := by decide +kernel
theorem dX9_readTerm_175 : decode cX9_readTerm 175 = .ok (.ifCond .eq 10, 3) := by decide +kernel
theorem dX9_readTerm_178 : decode cX9_readTerm 178 = .ok (.aload_n 0, 1) := by decide +kernel
theorem dX9_readTerm_179 : decode cX9_readTerm 179 = .ok (.invokevirtual 211, 3) := by decide +kernel
theorem dX9_readTerm_182 : decode cX9_readTerm 182 = .ok (.goto 4, 3) := by decide +kernel
theorem dX9_readTerm_185 : decode cX9_readTerm 185 = .ok (.lconst 0, 1) := by decide +kernel
theorem dX9_readTerm_186 : decode cX9_readTerm 186 = .ok (.lastore, 1) := by decide +kernel
theorem dX9_readTerm_187 : decode cX9_readTerm 187 = .ok (.aload_n 0, 1) := by decide +kernel
theorem dX9_readTerm_188 : decode cX9_readTerm 188 = .ok (.getfield 13, 3) := by decide +kernel
theorem dX9_readTerm_191 : decode cX9_readTerm 191 = .ok (.iload 4, 2) := by decide +kernel
theorem dX9_readTerm_193 : decode cX9_readTerm 193 = .ok (.iconst 4, 1) := by decide +kernel
theorem dX9_readTerm_194 : decode cX9_readTerm 194 = .ok (.iadd, 1) := by decide +kernel
theorem dX9_readTerm_195 : decode cX9_readTerm 195 = .ok (.aload_n 0, 1) := by decide +kernel
theorem dX9_readTerm_196 : decode cX9_readTerm 196 = .ok (.ldc 184, 2) := by decide +kernel
theorem dX9_readTerm_198 : decode cX9_readTerm 198 = .ok (.invokevirtual 208, 3) := by decide +kernel
theorem dX9_readTerm_201 : decode cX9_readTerm 201 = .ok (.ifCond .eq 10, 3) := by decide +kernel
theorem dX9_readTerm_204 : decode cX9_readTerm 204 = .ok (.aload_n 0, 1) := by decide +kernel
theorem dX9_readTerm_205 : decode cX9_readTerm 205 = .ok (.invokevirtual 211, 3) := by decide +kernel
theorem dX9_readTerm_208 : decode cX9_readTerm 208 = .ok (.goto 4, 3) := by decide +kernel
theorem dX9_readTerm_211 : decode cX9_readTerm 211 = .ok (.lconst 0, 1) := by decide +kernel
theorem dX9_readTerm_212 : decode cX9_readTerm 212 = .ok (.lastore, 1) := by decide +kernel
theorem dX9_readTerm_213 : decode cX9_readTerm 213 = .ok (.return_, 1) := by decide +kernel
abbrev mm_X9_readTerm : ab_M := (RX9, 6, none, false, 10, 255, none)
noncomputable def f_X9_readTerm_J186 (v0 : Int) (v4 : Int) (s2 : Int) (s1 : Int) (s0 : Int) (h : ab_H) : Option ab_H :=
  (ab_ast h 12 s0 s1 s2).bind fun h1 =>
  (ab_get h1 10 2 v0).bind fun t1 =>
  (ab_on h1 10 v0 (f_X9_eats v0 (-16 : Int) h1)).bind fun q2 =>
  if q2.1 = (0 : Int) then
    (ab_ast q2.2 12 t1 (ab_w32 (v4 + (4 : Int))) (0 : Int)).bind fun h2 =>
    some h2
  else
  (ab_on q2.2 10 v0 (f_X9_wordRead v0 q2.2)).bind fun q3 =>
  (ab_ast q3.2 12 t1 (ab_w32 (v4 + (4 : Int))) q3.1).bind fun h3 =>
  some h3
set_option maxRecDepth 20000 in
theorem e_X9_readTerm_J186 : ∀ (v0 : Int) (v4 : Int) (s2 : Int) (s1 : Int) (s0 : Int) (h : ab_H) (q : ab_H), f_X9_readTerm_J186 v0 v4 s2 s1 s0 h = some q → ab_E mm_X9_readTerm cX9_readTerm 186 [some (ab_R v0), none, none, none, some (ab_I v4), none] [ab_J s2, ab_I s1, ab_R s0] h none q := by
  intro v0 v4 s2 s1 s0 h q hk
  unfold f_X9_readTerm_J186 at hk
  obtain ⟨h1, hh1, hk⟩ := ab_bnd hk
  refine ab_last (pc := 186) dX9_readTerm_186 hh1 ?_
  refine ab_aload_n (pc := 187) (i := 0) dX9_readTerm_187 rfl rfl ?_
  obtain ⟨t1, ht1, hk⟩ := ab_bnd hk
  refine ab_getR (pc := 188) dX9_readTerm_188 fl_RX9_13 ht1 ?_
  refine ab_iload (pc := 191) (i := 4) dX9_readTerm_191 rfl ?_
  refine ab_iconst (pc := 193) dX9_readTerm_193 ab_k_4 ?_
  refine ab_iadd (pc := 194) dX9_readTerm_194 ?_
  refine ab_aload_n (pc := 195) (i := 0) dX9_readTerm_195 rfl rfl ?_
  refine ab_lds (j := 15) (pc := 196) dX9_readTerm_196 rfl ?_
  obtain ⟨q2, hq2, hk⟩ := ab_bnd hk
  obtain ⟨hb, hq2⟩ := ab_on_some hq2
  refine ab_callVI (st := [ab_I (ab_w32 (v4 + (4 : Int))), ab_R t1]) (as := [ab_R (-16 : Int)]) (b := v0) (pc := 198) dX9_readTerm_198 ml_RX9_208 my_X9_eats mv_X9_eats hb (ct_X9_eats hq2) ⟨Nat.le_of_ble_eq_true rfl, Nat.le_of_ble_eq_true rfl⟩ rfl (Nat.le_of_ble_eq_true rfl) rfl ?_
  refine ab_if_eq (pc := 201) (tgt := 211) dX9_readTerm_201 rfl (fun hc => ?_) (fun hc => ?_)
  · have hk := ab_ifp hk hc
    refine ab_lconst (x := (0 : Int)) (pc := 211) dX9_readTerm_211 rfl ab_kl_0 ?_
    obtain ⟨h2, hh2, hk⟩ := ab_bnd hk
    refine ab_last (pc := 212) dX9_readTerm_212 hh2 ?_
    obtain rfl := Option.some.inj hk
    exact ab_retv (pc := 213) dX9_readTerm_213 rfl
  · have hk := ab_ifn hk hc
    refine ab_aload_n (pc := 204) (i := 0) dX9_readTerm_204 rfl rfl ?_
    obtain ⟨q3, hq3, hk⟩ := ab_bnd hk
    obtain ⟨hb, hq3⟩ := ab_on_some hq3
    refine ab_callVJ (st := [ab_I (ab_w32 (v4 + (4 : Int))), ab_R t1]) (as := []) (b := v0) (pc := 205) dX9_readTerm_205 ml_RX9_211 my_X9_wordRead mv_X9_wordRead hb (ct_X9_wordRead hq3) ⟨Nat.le_of_ble_eq_true rfl, Nat.le_of_ble_eq_true rfl⟩ rfl (Nat.le_of_ble_eq_true rfl) rfl ?_
    refine ab_goto (pc := 208) (tgt := 212) dX9_readTerm_208 rfl ?_
    obtain ⟨h3, hh3, hk⟩ := ab_bnd hk
    refine ab_last (pc := 212) dX9_readTerm_212 hh3 ?_
    obtain rfl := Option.some.inj hk
    exact ab_retv (pc := 213) dX9_readTerm_213 rfl
noncomputable def f_X9_readTerm_J124 (v0 : Int) (v4 : Int) (v5 : Int) (h : ab_H) : Option ab_H :=
  (ab_on h 10 v0 (f_X9_good v0 h)).bind fun q1 =>
  if q1.1 = (0 : Int) then
    some q1.2
  else
  (ab_on q1.2 10 v0 (f_X9_advance v0 q1.2)).bind fun q2 =>
  (ab_get q2 10 2 v0).bind fun t3 =>
  (ab_ast q2 12 t3 (ab_w32 (v4 + (0 : Int))) v5).bind fun h1 =>
  (ab_get h1 10 2 v0).bind fun t4 =>
  (ab_on h1 10 v0 (f_X9_wordRead v0 h1)).bind fun q5 =>
  (ab_ast q5.2 12 t4 (ab_w32 (v4 + (2 : Int))) q5.1).bind fun h2 =>
  (ab_get h2 10 2 v0).bind fun t6 =>
  (ab_on h2 10 v0 (f_X9_eats v0 (-15 : Int) h2)).bind fun q7 =>
  if q7.1 = (0 : Int) then
    f_X9_readTerm_J186 v0 v4 (0 : Int) (ab_w32 (v4 + (3 : Int))) t6 q7.2
  else
  (ab_on q7.2 10 v0 (f_X9_wordRead v0 q7.2)).bind fun q8 =>
  f_X9_readTerm_J186 v0 v4 q8.1 (ab_w32 (v4 + (3 : Int))) t6 q8.2
set_option maxRecDepth 20000 in
theorem e_X9_readTerm_J124 : ∀ (v0 : Int) (v4 : Int) (v5 : Int) (h : ab_H) (q : ab_H), f_X9_readTerm_J124 v0 v4 v5 h = some q → ab_E mm_X9_readTerm cX9_readTerm 124 [some (ab_R v0), none, none, none, some (ab_I v4), some (ab_I v5)] [] h none q := by
  intro v0 v4 v5 h q hk
  unfold f_X9_readTerm_J124 at hk
  refine ab_aload_n (pc := 124) (i := 0) dX9_readTerm_124 rfl rfl ?_
  obtain ⟨q1, hq1, hk⟩ := ab_bnd hk
  obtain ⟨hb, hq1⟩ := ab_on_some hq1
  refine ab_callVI (st := []) (as := []) (b := v0) (pc := 125) dX9_readTerm_125 ml_RX9_91 my_X9_good mv_X9_good hb (ct_X9_good hq1) ⟨Nat.le_of_ble_eq_true rfl, Nat.le_of_ble_eq_true rfl⟩ rfl (Nat.le_of_ble_eq_true rfl) rfl ?_
  refine ab_if_ne (pc := 128) (tgt := 132) dX9_readTerm_128 rfl (fun hc => ?_) (fun hc => ?_)
  · have hk := ab_ifn hk hc
    refine ab_aload_n (pc := 132) (i := 0) dX9_readTerm_132 rfl rfl ?_
    obtain ⟨q2, hq2, hk⟩ := ab_bnd hk
    obtain ⟨hb, hq2⟩ := ab_on_some hq2
    refine ab_callVV (st := []) (as := []) (b := v0) (pc := 133) dX9_readTerm_133 ml_RX9_142 my_X9_advance mv_X9_advance hb (ct_X9_advance hq2) ⟨Nat.le_of_ble_eq_true rfl, Nat.le_of_ble_eq_true rfl⟩ rfl (Nat.le_of_ble_eq_true rfl) rfl ?_
    refine ab_aload_n (pc := 136) (i := 0) dX9_readTerm_136 rfl rfl ?_
    obtain ⟨t3, ht3, hk⟩ := ab_bnd hk
    refine ab_getR (pc := 137) dX9_readTerm_137 fl_RX9_13 ht3 ?_
    refine ab_iload (pc := 140) (i := 4) dX9_readTerm_140 rfl ?_
    refine ab_iconst (pc := 142) dX9_readTerm_142 ab_k_0 ?_
    refine ab_iadd (pc := 143) dX9_readTerm_143 ?_
    refine ab_iload (pc := 144) (i := 5) dX9_readTerm_144 rfl ?_
    refine ab_i2l_ (pc := 146) dX9_readTerm_146 ?_
    obtain ⟨h1, hh1, hk⟩ := ab_bnd hk
    refine ab_last (pc := 147) dX9_readTerm_147 hh1 ?_
    refine ab_aload_n (pc := 148) (i := 0) dX9_readTerm_148 rfl rfl ?_
    obtain ⟨t4, ht4, hk⟩ := ab_bnd hk
    refine ab_getR (pc := 149) dX9_readTerm_149 fl_RX9_13 ht4 ?_
    refine ab_iload (pc := 152) (i := 4) dX9_readTerm_152 rfl ?_
    refine ab_iconst (pc := 154) dX9_readTerm_154 ab_k_2 ?_
    refine ab_iadd (pc := 155) dX9_readTerm_155 ?_
    refine ab_aload_n (pc := 156) (i := 0) dX9_readTerm_156 rfl rfl ?_
    obtain ⟨q5, hq5, hk⟩ := ab_bnd hk
    obtain ⟨hb, hq5⟩ := ab_on_some hq5
    refine ab_callVJ (st := [ab_I (ab_w32 (v4 + (2 : Int))), ab_R t4]) (as := []) (b := v0) (pc := 157) dX9_readTerm_157 ml_RX9_211 my_X9_wordRead mv_X9_wordRead hb (ct_X9_wordRead hq5) ⟨Nat.le_of_ble_eq_true rfl, Nat.le_of_ble_eq_true rfl⟩ rfl (Nat.le_of_ble_eq_true rfl) rfl ?_
    obtain ⟨h2, hh2, hk⟩ := ab_bnd hk
    refine ab_last (pc := 160) dX9_readTerm_160 hh2 ?_
    refine ab_aload_n (pc := 161) (i := 0) dX9_readTerm_161 rfl rfl ?_
    obtain ⟨t6, ht6, hk⟩ := ab_bnd hk
    refine ab_getR (pc := 162) dX9_readTerm_162 fl_RX9_13 ht6 ?_
    refine ab_iload (pc := 165) (i := 4) dX9_readTerm_165 rfl ?_
    refine ab_iconst (pc := 167) dX9_readTerm_167 ab_k_3 ?_
    refine ab_iadd (pc := 168) dX9_readTerm_168 ?_
    refine ab_aload_n (pc := 169) (i := 0) dX9_readTerm_169 rfl rfl ?_
    refine ab_lds (j := 14) (pc := 170) dX9_readTerm_170 rfl ?_
    obtain ⟨q7, hq7, hk⟩ := ab_bnd hk
    obtain ⟨hb, hq7⟩ := ab_on_some hq7
    refine ab_callVI (st := [ab_I (ab_w32 (v4 + (3 : Int))), ab_R t6]) (as := [ab_R (-15 : Int)]) (b := v0) (pc := 172) dX9_readTerm_172 ml_RX9_208 my_X9_eats mv_X9_eats hb (ct_X9_eats hq7) ⟨Nat.le_of_ble_eq_true rfl, Nat.le_of_ble_eq_true rfl⟩ rfl (Nat.le_of_ble_eq_true rfl) rfl ?_
    refine ab_if_eq (pc := 175) (tgt := 185) dX9_readTerm_175 rfl (fun hc => ?_) (fun hc => ?_)
    · have hk := ab_ifp hk hc
      refine ab_lconst (x := (0 : Int)) (pc := 185) dX9_readTerm_185 rfl ab_kl_0 ?_
      refine ab_sub_ (lv2 := [some (ab_R v0), none, none, none, some (ab_I v4), none]) (ab_ss (ab_sn (ab_sn (ab_sn (ab_ss (ab_sn ab_s0)))))) ?_
      exact e_X9_readTerm_J186 _ _ _ _ _ _ _ hk
    · have hk := ab_ifn hk hc
      refine ab_aload_n (pc := 178) (i := 0) dX9_readTerm_178 rfl rfl ?_
      obtain ⟨q8, hq8, hk⟩ := ab_bnd hk
      obtain ⟨hb, hq8⟩ := ab_on_some hq8
      refine ab_callVJ (st := [ab_I (ab_w32 (v4 + (3 : Int))), ab_R t6]) (as := []) (b := v0) (pc := 179) dX9_readTerm_179 ml_RX9_211 my_X9_wordRead mv_X9_wordRead hb (ct_X9_wordRead hq8) ⟨Nat.le_of_ble_eq_true rfl, Nat.le_of_ble_eq_true rfl⟩ rfl (Nat.le_of_ble_eq_true rfl) rfl ?_
      refine ab_goto (pc := 182) (tgt := 186) dX9_readTerm_182 rfl ?_
      refine ab_sub_ (lv2 := [some (ab_R v0), none, none, none, some (ab_I v4), none]) (ab_ss (ab_sn (ab_sn (ab_sn (ab_ss (ab_sn ab_s0)))))) ?_
      exact e_X9_readTerm_J186 _ _ _ _ _ _ _ hk
  · have hk := ab_ifp hk hc
    obtain rfl := Option.some.inj hk
    exact ab_retv (pc := 131) dX9_readTerm_131 rfl
noncomputable def f_X9_readTerm_J102 (v0 : Int) (v3 : Int) (v4 : Int) (v5 : Int) (h : ab_H) : Option ab_H :=
  (ab_on h 10 v0 (f_X9_good v0 h)).bind fun q1 =>
  if q1.1 = (0 : Int) then
    f_X9_readTerm_J124 v0 v4 v5 q1.2
  else
  if v3 ≤ v5 then
    f_X9_readTerm_J124 v0 v4 v5 q1.2
  else
  (ab_get q1.2 10 7 v0).bind fun t2 =>
  (ab_on q1.2 10 v0 (f_X9_errs v0 (5 : Int) t2 q1.2)).bind fun q3 =>
  f_X9_readTerm_J124 v0 v4 v5 q3
set_option maxRecDepth 20000 in
theorem e_X9_readTerm_J102 : ∀ (v0 : Int) (v3 : Int) (v4 : Int) (v5 : Int) (h : ab_H) (q : ab_H), f_X9_readTerm_J102 v0 v3 v4 v5 h = some q → ab_E mm_X9_readTerm cX9_readTerm 102 [some (ab_R v0), none, none, some (ab_I v3), some (ab_I v4), some (ab_I v5)] [] h none q := by
  intro v0 v3 v4 v5 h q hk
  unfold f_X9_readTerm_J102 at hk
  refine ab_aload_n (pc := 102) (i := 0) dX9_readTerm_102 rfl rfl ?_
  obtain ⟨q1, hq1, hk⟩ := ab_bnd hk
  obtain ⟨hb, hq1⟩ := ab_on_some hq1
  refine ab_callVI (st := []) (as := []) (b := v0) (pc := 103) dX9_readTerm_103 ml_RX9_91 my_X9_good mv_X9_good hb (ct_X9_good hq1) ⟨Nat.le_of_ble_eq_true rfl, Nat.le_of_ble_eq_true rfl⟩ rfl (Nat.le_of_ble_eq_true rfl) rfl ?_
  refine ab_if_eq (pc := 106) (tgt := 124) dX9_readTerm_106 rfl (fun hc => ?_) (fun hc => ?_)
  · have hk := ab_ifp hk hc
    refine ab_sub_ (lv2 := [some (ab_R v0), none, none, none, some (ab_I v4), some (ab_I v5)]) (ab_ss (ab_sn (ab_sn (ab_sn (ab_ss (ab_ss ab_s0)))))) ?_
    exact e_X9_readTerm_J124 _ _ _ _ _ hk
  · have hk := ab_ifn hk hc
    refine ab_iload (pc := 109) (i := 5) dX9_readTerm_109 rfl ?_
    refine ab_iload_n (pc := 111) (i := 3) dX9_readTerm_111 rfl rfl ?_
    refine ab_icmp_ge (pc := 112) (tgt := 124) dX9_readTerm_112 rfl (fun hc => ?_) (fun hc => ?_)
    · have hk := ab_ifp hk hc
      refine ab_sub_ (lv2 := [some (ab_R v0), none, none, none, some (ab_I v4), some (ab_I v5)]) (ab_ss (ab_sn (ab_sn (ab_sn (ab_ss (ab_ss ab_s0)))))) ?_
      exact e_X9_readTerm_J124 _ _ _ _ _ hk
    · have hk := ab_ifn hk hc
      refine ab_aload_n (pc := 115) (i := 0) dX9_readTerm_115 rfl rfl ?_
      refine ab_iconst (pc := 116) dX9_readTerm_116 ab_k_5 ?_
      refine ab_aload_n (pc := 117) (i := 0) dX9_readTerm_117 rfl rfl ?_
      obtain ⟨t2, ht2, hk⟩ := ab_bnd hk
      refine ab_getI (pc := 118) dX9_readTerm_118 fl_RX9_105 ht2 ?_
      obtain ⟨q3, hq3, hk⟩ := ab_bnd hk
      obtain ⟨hb, hq3⟩ := ab_on_some hq3
      refine ab_callVV (st := []) (as := [ab_I (5 : Int), ab_I t2]) (b := v0) (pc := 121) dX9_readTerm_121 ml_RX9_149 my_X9_errs mv_X9_errs hb (ct_X9_errs hq3) ⟨Nat.le_of_ble_eq_true rfl, Nat.le_of_ble_eq_true rfl⟩ rfl (Nat.le_of_ble_eq_true rfl) rfl ?_
      refine ab_sub_ (lv2 := [some (ab_R v0), none, none, none, some (ab_I v4), some (ab_I v5)]) (ab_ss (ab_sn (ab_sn (ab_sn (ab_ss (ab_ss ab_s0)))))) ?_
      exact e_X9_readTerm_J124 _ _ _ _ _ hk
noncomputable def f_X9_readTerm_J80 (v0 : Int) (v3 : Int) (v4 : Int) (s2 : Int) (s1 : Int) (s0 : Int) (h : ab_H) : Option ab_H :=
  (ab_ast h 12 s0 s1 s2).bind fun h1 =>
  (ab_on h1 10 v0 (f_X9_roleHere v0 h1)).bind fun q1 =>
  if q1.1 = (-1 : Int) then
    (ab_get q1.2 10 7 v0).bind fun t2 =>
    (ab_on q1.2 10 v0 (f_X9_errs v0 (1 : Int) t2 q1.2)).bind fun q3 =>
    f_X9_readTerm_J102 v0 v3 v4 q1.1 q3
  else
  f_X9_readTerm_J102 v0 v3 v4 q1.1 q1.2
set_option maxRecDepth 20000 in
theorem e_X9_readTerm_J80 : ∀ (v0 : Int) (v3 : Int) (v4 : Int) (s2 : Int) (s1 : Int) (s0 : Int) (h : ab_H) (q : ab_H), f_X9_readTerm_J80 v0 v3 v4 s2 s1 s0 h = some q → ab_E mm_X9_readTerm cX9_readTerm 80 [some (ab_R v0), none, none, some (ab_I v3), some (ab_I v4), none] [ab_J s2, ab_I s1, ab_R s0] h none q := by
  intro v0 v3 v4 s2 s1 s0 h q hk
  unfold f_X9_readTerm_J80 at hk
  obtain ⟨h1, hh1, hk⟩ := ab_bnd hk
  refine ab_last (pc := 80) dX9_readTerm_80 hh1 ?_
  refine ab_aload_n (pc := 81) (i := 0) dX9_readTerm_81 rfl rfl ?_
  obtain ⟨q1, hq1, hk⟩ := ab_bnd hk
  obtain ⟨hb, hq1⟩ := ab_on_some hq1
  refine ab_callVI (st := []) (as := []) (b := v0) (pc := 82) dX9_readTerm_82 ml_RX9_165 my_X9_roleHere mv_X9_roleHere hb (ct_X9_roleHere hq1) ⟨Nat.le_of_ble_eq_true rfl, Nat.le_of_ble_eq_true rfl⟩ rfl (Nat.le_of_ble_eq_true rfl) rfl ?_
  refine ab_istore (pc := 85) (i := 5) (lv2 := [some (ab_R v0), none, none, some (ab_I v3), some (ab_I v4), some (ab_I q1.1)]) dX9_readTerm_85 (Nat.le_of_ble_eq_true rfl) rfl rfl ?_
  refine ab_iload (pc := 87) (i := 5) dX9_readTerm_87 rfl ?_
  refine ab_iconst (pc := 89) dX9_readTerm_89 ab_k_m1 ?_
  refine ab_icmp_ne (pc := 90) (tgt := 102) dX9_readTerm_90 rfl (fun hc => ?_) (fun hc => ?_)
  · have hk := ab_ifn hk hc
    refine ab_sub_ (lv2 := [some (ab_R v0), none, none, some (ab_I v3), some (ab_I v4), some (ab_I q1.1)]) (ab_ss (ab_sn (ab_sn (ab_ss (ab_ss (ab_ss ab_s0)))))) ?_
    exact e_X9_readTerm_J102 _ _ _ _ _ _ hk
  · have hk := ab_ifp hk hc
    refine ab_aload_n (pc := 93) (i := 0) dX9_readTerm_93 rfl rfl ?_
    refine ab_iconst (pc := 94) dX9_readTerm_94 ab_k_1 ?_
    refine ab_aload_n (pc := 95) (i := 0) dX9_readTerm_95 rfl rfl ?_
    obtain ⟨t2, ht2, hk⟩ := ab_bnd hk
    refine ab_getI (pc := 96) dX9_readTerm_96 fl_RX9_105 ht2 ?_
    obtain ⟨q3, hq3, hk⟩ := ab_bnd hk
    obtain ⟨hb, hq3⟩ := ab_on_some hq3
    refine ab_callVV (st := []) (as := [ab_I (1 : Int), ab_I t2]) (b := v0) (pc := 99) dX9_readTerm_99 ml_RX9_149 my_X9_errs mv_X9_errs hb (ct_X9_errs hq3) ⟨Nat.le_of_ble_eq_true rfl, Nat.le_of_ble_eq_true rfl⟩ rfl (Nat.le_of_ble_eq_true rfl) rfl ?_
    refine ab_sub_ (lv2 := [some (ab_R v0), none, none, some (ab_I v3), some (ab_I v4), some (ab_I q1.1)]) (ab_ss (ab_sn (ab_sn (ab_ss (ab_ss (ab_ss ab_s0)))))) ?_
    exact e_X9_readTerm_J102 _ _ _ _ _ _ hk
noncomputable def f_X9_readTerm_J50 (v0 : Int) (v3 : Int) (v4 : Int) (h : ab_H) : Option ab_H :=
  (ab_on h 10 v0 (f_X9_good v0 h)).bind fun q1 =>
  if q1.1 = (0 : Int) then
    some q1.2
  else
  (ab_get q1.2 10 2 v0).bind fun t2 =>
  (ab_on q1.2 10 v0 (f_X9_eats v0 (-14 : Int) q1.2)).bind fun q3 =>
  if q3.1 = (0 : Int) then
    f_X9_readTerm_J80 v0 v3 v4 (1 : Int) (ab_w32 (v4 + (1 : Int))) t2 q3.2
  else
  f_X9_readTerm_J80 v0 v3 v4 (0 : Int) (ab_w32 (v4 + (1 : Int))) t2 q3.2
set_option maxRecDepth 20000 in
theorem e_X9_readTerm_J50 : ∀ (v0 : Int) (v3 : Int) (v4 : Int) (h : ab_H) (q : ab_H), f_X9_readTerm_J50 v0 v3 v4 h = some q → ab_E mm_X9_readTerm cX9_readTerm 50 [some (ab_R v0), none, none, some (ab_I v3), some (ab_I v4), none] [] h none q := by
  intro v0 v3 v4 h q hk
  unfold f_X9_readTerm_J50 at hk
  refine ab_aload_n (pc := 50) (i := 0) dX9_readTerm_50 rfl rfl ?_
  obtain ⟨q1, hq1, hk⟩ := ab_bnd hk
  obtain ⟨hb, hq1⟩ := ab_on_some hq1
  refine ab_callVI (st := []) (as := []) (b := v0) (pc := 51) dX9_readTerm_51 ml_RX9_91 my_X9_good mv_X9_good hb (ct_X9_good hq1) ⟨Nat.le_of_ble_eq_true rfl, Nat.le_of_ble_eq_true rfl⟩ rfl (Nat.le_of_ble_eq_true rfl) rfl ?_
  refine ab_if_ne (pc := 54) (tgt := 58) dX9_readTerm_54 rfl (fun hc => ?_) (fun hc => ?_)
  · have hk := ab_ifn hk hc
    refine ab_aload_n (pc := 58) (i := 0) dX9_readTerm_58 rfl rfl ?_
    obtain ⟨t2, ht2, hk⟩ := ab_bnd hk
    refine ab_getR (pc := 59) dX9_readTerm_59 fl_RX9_13 ht2 ?_
    refine ab_iload (pc := 62) (i := 4) dX9_readTerm_62 rfl ?_
    refine ab_iconst (pc := 64) dX9_readTerm_64 ab_k_1 ?_
    refine ab_iadd (pc := 65) dX9_readTerm_65 ?_
    refine ab_aload_n (pc := 66) (i := 0) dX9_readTerm_66 rfl rfl ?_
    refine ab_lds (j := 13) (pc := 67) dX9_readTerm_67 rfl ?_
    obtain ⟨q3, hq3, hk⟩ := ab_bnd hk
    obtain ⟨hb, hq3⟩ := ab_on_some hq3
    refine ab_callVI (st := [ab_I (ab_w32 (v4 + (1 : Int))), ab_R t2]) (as := [ab_R (-14 : Int)]) (b := v0) (pc := 69) dX9_readTerm_69 ml_RX9_208 my_X9_eats mv_X9_eats hb (ct_X9_eats hq3) ⟨Nat.le_of_ble_eq_true rfl, Nat.le_of_ble_eq_true rfl⟩ rfl (Nat.le_of_ble_eq_true rfl) rfl ?_
    refine ab_if_eq (pc := 72) (tgt := 79) dX9_readTerm_72 rfl (fun hc => ?_) (fun hc => ?_)
    · have hk := ab_ifp hk hc
      refine ab_lconst (x := (1 : Int)) (pc := 79) dX9_readTerm_79 rfl ab_kl_1 ?_
      refine ab_sub_ (lv2 := [some (ab_R v0), none, none, some (ab_I v3), some (ab_I v4), none]) (ab_ss (ab_sn (ab_sn (ab_ss (ab_ss (ab_sn ab_s0)))))) ?_
      exact e_X9_readTerm_J80 _ _ _ _ _ _ _ _ hk
    · have hk := ab_ifn hk hc
      refine ab_lconst (x := (0 : Int)) (pc := 75) dX9_readTerm_75 rfl ab_kl_0 ?_
      refine ab_goto (pc := 76) (tgt := 80) dX9_readTerm_76 rfl ?_
      refine ab_sub_ (lv2 := [some (ab_R v0), none, none, some (ab_I v3), some (ab_I v4), none]) (ab_ss (ab_sn (ab_sn (ab_ss (ab_ss (ab_sn ab_s0)))))) ?_
      exact e_X9_readTerm_J80 _ _ _ _ _ _ _ _ hk
  · have hk := ab_ifp hk hc
    obtain rfl := Option.some.inj hk
    exact ab_retv (pc := 57) dX9_readTerm_57 rfl
noncomputable def f_X9_readTerm_J43 (v0 : Int) (v3 : Int) (v4 : Int) (s1 : Int) (s0 : Int) (h : ab_H) : Option ab_H :=
  (ab_get h 10 7 v0).bind fun t1 =>
  (ab_on h 10 s0 (f_X9_errs s0 s1 t1 h)).bind fun q2 =>
  f_X9_readTerm_J50 v0 v3 v4 q2
set_option maxRecDepth 20000 in
theorem e_X9_readTerm_J43 : ∀ (v0 : Int) (v3 : Int) (v4 : Int) (s1 : Int) (s0 : Int) (h : ab_H) (q : ab_H), f_X9_readTerm_J43 v0 v3 v4 s1 s0 h = some q → ab_E mm_X9_readTerm cX9_readTerm 43 [some (ab_R v0), none, none, some (ab_I v3), some (ab_I v4), none] [ab_I s1, ab_R s0] h none q := by
  intro v0 v3 v4 s1 s0 h q hk
  unfold f_X9_readTerm_J43 at hk
  refine ab_aload_n (pc := 43) (i := 0) dX9_readTerm_43 rfl rfl ?_
  obtain ⟨t1, ht1, hk⟩ := ab_bnd hk
  refine ab_getI (pc := 44) dX9_readTerm_44 fl_RX9_105 ht1 ?_
  obtain ⟨q2, hq2, hk⟩ := ab_bnd hk
  obtain ⟨hb, hq2⟩ := ab_on_some hq2
  refine ab_callVV (st := []) (as := [ab_I s1, ab_I t1]) (b := s0) (pc := 47) dX9_readTerm_47 ml_RX9_149 my_X9_errs mv_X9_errs hb (ct_X9_errs hq2) ⟨Nat.le_of_ble_eq_true rfl, Nat.le_of_ble_eq_true rfl⟩ rfl (Nat.le_of_ble_eq_true rfl) rfl ?_
  refine ab_sub_ (lv2 := [some (ab_R v0), none, none, some (ab_I v3), some (ab_I v4), none]) (ab_ss (ab_sn (ab_sn (ab_ss (ab_ss (ab_sn ab_s0)))))) ?_
  exact e_X9_readTerm_J50 _ _ _ _ _ hk
noncomputable def f_X9_readTerm_J38 (v0 : Int) (v3 : Int) (v4 : Int) (s0 : Int) (h : ab_H) : Option ab_H :=
  f_X9_readTerm_J43 v0 v3 v4 (4 : Int) s0 h
set_option maxRecDepth 20000 in
theorem e_X9_readTerm_J38 : ∀ (v0 : Int) (v3 : Int) (v4 : Int) (s0 : Int) (h : ab_H) (q : ab_H), f_X9_readTerm_J38 v0 v3 v4 s0 h = some q → ab_E mm_X9_readTerm cX9_readTerm 38 [some (ab_R v0), none, none, some (ab_I v3), some (ab_I v4), none] [ab_R s0] h none q := by
  intro v0 v3 v4 s0 h q hk
  unfold f_X9_readTerm_J38 at hk
  refine ab_iconst (pc := 38) dX9_readTerm_38 ab_k_4 ?_
  refine ab_goto (pc := 39) (tgt := 43) dX9_readTerm_39 rfl ?_
  refine ab_sub_ (lv2 := [some (ab_R v0), none, none, some (ab_I v3), some (ab_I v4), none]) (ab_ss (ab_sn (ab_sn (ab_ss (ab_ss (ab_sn ab_s0)))))) ?_
  exact e_X9_readTerm_J43 _ _ _ _ _ _ _ hk
noncomputable def f_X9_readTerm (a0 : Int) (a1 : Int) (a2 : Int) (a3 : Int) (h : ab_H) : Option ab_H :=
  (f_X9_termAt a1 a2 h).bind fun q1 =>
  (ab_on q1.2 10 a0 (f_X9_good a0 q1.2)).bind fun q2 =>
  if q2.1 = (0 : Int) then
    f_X9_readTerm_J50 a0 a3 q1.1 q2.2
  else
  if a2 = (6 : Int) then
    (ab_on q2.2 10 a0 (f_X9_isWord a0 (-14 : Int) q2.2)).bind fun q3 =>
    if q3.1 = (0 : Int) then
      (ab_on q3.2 10 a0 (f_X9_roleHere a0 q3.2)).bind fun q4 =>
      if q4.1 = (-1 : Int) then
        f_X9_readTerm_J43 a0 a3 q1.1 (1 : Int) a0 q4.2
      else
      f_X9_readTerm_J38 a0 a3 q1.1 a0 q4.2
    else
    f_X9_readTerm_J38 a0 a3 q1.1 a0 q3.2
  else
  f_X9_readTerm_J50 a0 a3 q1.1 q2.2
set_option maxRecDepth 20000 in
theorem ct_X9_readTerm {a0 a1 a2 a3 : Int} {h : ab_H} {q : ab_H} (hk : f_X9_readTerm a0 a1 a2 a3 h = some q) : ab_CT yX9_readTerm cX9_readTerm 6 none 10 255 [ab_R a0, ab_I a1, ab_I a2, ab_I a3] h none q := by
  refine ab_CT.mk_ 2 (own := RX9) (ini := false) (lv := [some (ab_R a0), some (ab_I a1), some (ab_I a2), some (ab_I a3), none, none]) rfl (by decide +kernel) (fun q => by cases q) rfl rfl ?_
  unfold f_X9_readTerm at hk
  show ab_E mm_X9_readTerm cX9_readTerm 0 _ [] h _ _
  refine ab_iload_n (pc := 0) (i := 1) dX9_readTerm_0 rfl rfl ?_
  refine ab_iload_n (pc := 1) (i := 2) dX9_readTerm_1 rfl rfl ?_
  obtain ⟨q1, hq1, hk⟩ := ab_bnd hk
  refine ab_callSI (st := []) (as := [ab_I a1, ab_I a2]) (pc := 2) dX9_readTerm_2 ml_RX9_73 my_X9_termAt ms_X9_termAt (ct_X9_termAt hq1) ⟨Nat.le_of_ble_eq_true rfl, Nat.le_of_ble_eq_true rfl⟩ rfl (Nat.le_of_ble_eq_true rfl) rfl ?_
  refine ab_istore (pc := 5) (i := 4) (lv2 := [some (ab_R a0), some (ab_I a1), some (ab_I a2), some (ab_I a3), some (ab_I q1.1), none]) dX9_readTerm_5 (Nat.le_of_ble_eq_true rfl) rfl rfl ?_
  refine ab_aload_n (pc := 7) (i := 0) dX9_readTerm_7 rfl rfl ?_
  obtain ⟨q2, hq2, hk⟩ := ab_bnd hk
  obtain ⟨hb, hq2⟩ := ab_on_some hq2
  refine ab_callVI (st := []) (as := []) (b := a0) (pc := 8) dX9_readTerm_8 ml_RX9_91 my_X9_good mv_X9_good hb (ct_X9_good hq2) ⟨Nat.le_of_ble_eq_true rfl, Nat.le_of_ble_eq_true rfl⟩ rfl (Nat.le_of_ble_eq_true rfl) rfl ?_
  refine ab_if_eq (pc := 11) (tgt := 50) dX9_readTerm_11 rfl (fun hc => ?_) (fun hc => ?_)
  · have hk := ab_ifp hk hc
    refine ab_sub_ (lv2 := [some (ab_R a0), none, none, some (ab_I a3), some (ab_I q1.1), none]) (ab_ss (ab_sn (ab_sn (ab_ss (ab_ss (ab_sn ab_s0)))))) ?_
    exact e_X9_readTerm_J50 _ _ _ _ _ hk
  · have hk := ab_ifn hk hc
    refine ab_iload_n (pc := 14) (i := 2) dX9_readTerm_14 rfl rfl ?_
    refine ab_bipush (pc := 15) dX9_readTerm_15 ab_p8_6 ab_k_6 ?_
    refine ab_icmp_ne (pc := 17) (tgt := 50) dX9_readTerm_17 rfl (fun hc => ?_) (fun hc => ?_)
    · have hk := ab_ifn hk hc
      refine ab_sub_ (lv2 := [some (ab_R a0), none, none, some (ab_I a3), some (ab_I q1.1), none]) (ab_ss (ab_sn (ab_sn (ab_ss (ab_ss (ab_sn ab_s0)))))) ?_
      exact e_X9_readTerm_J50 _ _ _ _ _ hk
    · have hk := ab_ifp hk hc
      refine ab_aload_n (pc := 20) (i := 0) dX9_readTerm_20 rfl rfl ?_
      refine ab_aload_n (pc := 21) (i := 0) dX9_readTerm_21 rfl rfl ?_
      refine ab_lds (j := 13) (pc := 22) dX9_readTerm_22 rfl ?_
      obtain ⟨q3, hq3, hk⟩ := ab_bnd hk
      obtain ⟨hb, hq3⟩ := ab_on_some hq3
      refine ab_callVI (st := [ab_R a0]) (as := [ab_R (-14 : Int)]) (b := a0) (pc := 24) dX9_readTerm_24 ml_RX9_138 my_X9_isWord mv_X9_isWord hb (ct_X9_isWord hq3) ⟨Nat.le_of_ble_eq_true rfl, Nat.le_of_ble_eq_true rfl⟩ rfl (Nat.le_of_ble_eq_true rfl) rfl ?_
      refine ab_if_ne (pc := 27) (tgt := 38) dX9_readTerm_27 rfl (fun hc => ?_) (fun hc => ?_)
      · have hk := ab_ifn hk hc
        refine ab_sub_ (lv2 := [some (ab_R a0), none, none, some (ab_I a3), some (ab_I q1.1), none]) (ab_ss (ab_sn (ab_sn (ab_ss (ab_ss (ab_sn ab_s0)))))) ?_
        exact e_X9_readTerm_J38 _ _ _ _ _ _ hk
      · have hk := ab_ifp hk hc
        refine ab_aload_n (pc := 30) (i := 0) dX9_readTerm_30 rfl rfl ?_
        obtain ⟨q4, hq4, hk⟩ := ab_bnd hk
        obtain ⟨hb, hq4⟩ := ab_on_some hq4
        refine ab_callVI (st := [ab_R a0]) (as := []) (b := a0) (pc := 31) dX9_readTerm_31 ml_RX9_165 my_X9_roleHere mv_X9_roleHere hb (ct_X9_roleHere hq4) ⟨Nat.le_of_ble_eq_true rfl, Nat.le_of_ble_eq_true rfl⟩ rfl (Nat.le_of_ble_eq_true rfl) rfl ?_
        refine ab_iconst (pc := 34) dX9_readTerm_34 ab_k_m1 ?_
        refine ab_icmp_eq (pc := 35) (tgt := 42) dX9_readTerm_35 rfl (fun hc => ?_) (fun hc => ?_)
        · have hk := ab_ifp hk hc
          refine ab_iconst (pc := 42) dX9_readTerm_42 ab_k_1 ?_
          refine ab_sub_ (lv2 := [some (ab_R a0), none, none, some (ab_I a3), some (ab_I q1.1), none]) (ab_ss (ab_sn (ab_sn (ab_ss (ab_ss (ab_sn ab_s0)))))) ?_
          exact e_X9_readTerm_J43 _ _ _ _ _ _ _ hk
        · have hk := ab_ifn hk hc
          refine ab_sub_ (lv2 := [some (ab_R a0), none, none, some (ab_I a3), some (ab_I q1.1), none]) (ab_ss (ab_sn (ab_sn (ab_ss (ab_ss (ab_sn ab_s0)))))) ?_
          exact e_X9_readTerm_J38 _ _ _ _ _ _ hk
theorem dX9_readString_0 : decode cX9_readString 0 = .ok (.aload_n 0, 1) := by decide +kernel
theorem dX9_readString_1 : decode cX9_readString 1 = .ok (.getfield 13, 3) := by decide +kernel
theorem dX9_readString_4 : decode cX9_readString 4 = .ok (.iconst 0, 1) := by decide +kernel
theorem dX9_readString_5 : decode cX9_readString 5 = .ok (.laload, 1) := by decide +kernel
theorem dX9_readString_6 : decode cX9_readString 6 = .ok (.l2i, 1) := by decide +kernel
theorem dX9_readString_7 : decode cX9_readString 7 = .ok (.istore_n 1, 1) := by decide +kernel
theorem dX9_readString_8 : decode cX9_readString 8 = .ok (.aload_n 0, 1) := by decide +kernel
theorem dX9_readString_9 : decode cX9_readString 9 = .ok (.invokevirtual 91, 3) := by decide +kernel
theorem dX9_readString_12 : decode cX9_readString 12 = .ok (.ifCond .eq 20, 3) := by decide +kernel
theorem dX9_readString_15 : decode cX9_readString 15 = .ok (.aload_n 0, 1) := by decide +kernel
theorem dX9_readString_16 : decode cX9_readString 16 = .ok (.getfield 108, 3) := by decide +kernel
theorem dX9_readString_19 : decode cX9_readString 19 = .ok (.iconst 2, 1) := by decide +kernel
theorem dX9_readString_20 : decode cX9_readString 20 = .ok (.if_icmp .eq 12, 3) := by decide +kernel
theorem dX9_readString_23 : decode cX9_readString 23 = .ok (.aload_n 0, 1) := by decide +kernel
theorem dX9_readString_24 : decode cX9_readString 24 = .ok (.iconst 1, 1) := by decide +kernel
theorem dX9_readString_25 : decode cX9_readString 25 = .ok (.aload_n 0, 1) := by decide +kernel
theorem dX9_readString_26 : decode cX9_readString 26 = .ok (.getfield 105, 3) := by decide +kernel
theorem dX9_readString_29 : decode cX9_readString 29 = .ok (.invokevirtual 149, 3) := by decide +kernel
theorem dX9_readString_32 : decode cX9_readString 32 = .ok (.aload_n 0, 1) := by decide +kernel
theorem dX9_readString_33 : decode cX9_readString 33 = .ok (.invokevirtual 91, 3) := by decide +kernel
theorem dX9_readString_36 : decode cX9_readString 36 = .ok (.ifCond .eq 27, 3) := by decide +kernel
theorem dX9_readString_39 : decode cX9_readString 39 = .ok (.aload_n 0, 1) := by decide +kernel
theorem dX9_readString_40 : decode cX9_readString 40 = .ok (.getfield 119, 3) := by decide +kernel
theorem dX9_readString_43 : decode cX9_readString 43 = .ok (.i2l, 1) := by decide +kernel
theorem dX9_readString_44 : decode cX9_readString 44 = .ok (.lconst 0, 1) := by decide +kernel
theorem dX9_readString_45 : decode cX9_readString 45 = .ok (.ldc2_w 214, 3) := by decide +kernel
theorem dX9_readString_48 : decode cX9_readString 48 = .ok (.invokestatic 84, 3) := by decide +kernel
theorem dX9_readString_51 : decode cX9_readString 51 = .ok (.ifCond .ne 12, 3) := by decide +kernel
theorem dX9_readString_54 : decode cX9_readString 54 = .ok (.aload_n 0, 1) := by decide +kernel
theorem dX9_readString_55 : decode cX9_readString 55 = .ok (.iconst 2, 1) := by decide +kernel
theorem dX9_readString_56 : decode cX9_readString 56 = .ok (.aload_n 0, 1) := by decide +kernel
theorem dX9_readString_57 : decode cX9_readString 57 = .ok (.getfield 105, 3) := by decide +kernel
theorem dX9_readString_60 : decode cX9_readString 60 = .ok (.invokevirtual 149, 3) := by decide +kernel
theorem dX9_readString_63 : decode cX9_readString 63 = .ok (.aload_n 0, 1) := by decide +kernel
theorem dX9_readString_64 : decode cX9_readString 64 = .ok (.invokevirtual 91, 3) := by decide +kernel
theorem dX9_readString_67 : decode cX9_readString 67 = .ok (.ifCond .eq 23, 3) := by decide +kernel
theorem dX9_readString_70 : decode cX9_readString 70 = .ok (.aload_n 0, 1) := by decide +kernel
theorem dX9_readString_71 : decode cX9_readString 71 = .ok (.aload_n 0, 1) := by decide +kernel
theorem dX9_readString_72 : decode cX9_readString 72 = .ok (.getfield 119, 3) := by decide +kernel
theorem dX9_readString_75 : decode cX9_readString 75 = .ok (.invokevirtual 216, 3) := by decide +kernel
theorem dX9_readString_78 : decode cX9_readString 78 = .ok (.ifCond .eq 12, 3) := by decide +kernel
theorem dX9_readString_81 : decode cX9_readString 81 = .ok (.aload_n 0, 1) := by decide +kernel
theorem dX9_readString_82 : decode cX9_readString 82 = .ok (.iconst 3, 1) := by decide +kernel
theorem dX9_readString_83 : decode cX9_readString 83 = .ok (.aload_n 0, 1) := by decide +kernel
theorem dX9_readString_84 : decode cX9_readString 84 = .ok (.getfield 105, 3) := by decide +kernel
theorem dX9_readString_87 : decode cX9_readString 87 = .ok (.invokevirtual 149, 3) := by decide +kernel
theorem dX9_readString_90 : decode cX9_readString 90 = .ok (.aload_n 0, 1) := by decide +kernel
theorem dX9_readString_91 : decode cX9_readString 91 = .ok (.invokevirtual 91, 3) := by decide +kernel
theorem dX9_readString_94 : decode cX9_readString 94 = .ok (.ifCond .ne 4, 3) := by decide +kernel
theorem dX9_readString_97 : decode cX9_readString 97 = .ok (.return_, 1) := by decide +kernel
theorem dX9_readString_98 : decode cX9_readString 98 = .ok (.aload_n 0, 1) := by decide +kernel
theorem dX9_readString_99 : decode cX9_readString 99 = .ok (.getfield 13, 3) := by decide +kernel
theorem dX9_readString_102 : decode cX9_readString 102 = .ok (.bipush 32, 2) := by decide +kernel
theorem dX9_readString_104 : decode cX9_readString 104 = .ok (.bipush 32, 2) := by decide +kernel
theorem dX9_readString_106 : decode cX9_readString 106 = .ok (.iload_n 1, 1) := by decide +kernel
theorem dX9_readString_107 : decode cX9_readString 107 = .ok (.imul, 1) := by decide +kernel
theorem dX9_readString_108 : decode cX9_readString 108 = .ok (.iadd, 1) := by decide +kernel
theorem dX9_readString_109 : decode cX9_readString 109 = .ok (.aload_n 0, 1) := by decide +kernel
theorem dX9_readString_110 : decode cX9_readString 110 = .ok (.getfield 119, 3) := by decide +kernel
theorem dX9_readString_113 : decode cX9_readString 113 = .ok (.i2l, 1) := by decide +kernel
theorem dX9_readString_114 : decode cX9_readString 114 = .ok (.lastore, 1) := by decide +kernel
theorem dX9_readString_115 : decode cX9_readString 115 = .ok (.aload_n 0, 1) := by decide +kernel
theorem dX9_readString_116 : decode cX9_readString 116 = .ok (.invokevirtual 142, 3) := by decide +kernel
theorem dX9_readString_119 : decode cX9_readString 119 = .ok (.aload_n 0, 1) := by decide +kernel
theorem dX9_readString_120 : decode cX9_readString 120 = .ok (.bipush 58, 2) := by decide +kernel
theorem dX9_readString_122 : decode cX9_readString 122 = .ok (.invokevirtual 219, 3) := by decide +kernel
theorem dX9_readString_125 : decode cX9_readString 125 = .ok (.iconst 0, 1) := by decide +kernel
theorem dX9_readString_126 : decode cX9_readString 126 = .ok (.istore_n 2, 1) := by decide +kernel
theorem dX9_readString_127 : decode cX9_readString 127 = .ok (.iconst 0, 1) := by decide +kernel
theorem dX9_readString_128 : decode cX9_readString 128 = .ok (.istore_n 3, 1) := by decide +kernel
theorem dX9_readString_129 : decode cX9_readString 129 = .ok (.aload_n 0, 1) := by decide +kernel
theorem dX9_readString_130 : decode cX9_readString 130 = .ok (.iload_n 1, 1) := by decide +kernel
theorem dX9_readString_131 : decode cX9_readString 131 = .ok (.iload_n 2, 1) := by decide +kernel
theorem dX9_readString_132 : decode cX9_readString 132 = .ok (.iload_n 3, 1) := by decide +kernel
theorem dX9_readString_133 : decode cX9_readString 133 = .ok (.invokevirtual 222, 3) := by decide +kernel
theorem dX9_readString_136 : decode cX9_readString 136 = .ok (.aload_n 0, 1) := by decide +kernel
theorem dX9_readString_137 : decode cX9_readString 137 = .ok (.invokevirtual 91, 3) := by decide +kernel
theorem dX9_readString_140 : decode cX9_readString 140 = .ok (.ifCond .ne 4, 3) := by decide +kernel
theorem dX9_readString_143 : decode cX9_readString 143 = .ok (.return_, 1) := by decide +kernel
theorem dX9_readString_144 : decode cX9_readString 144 = .ok (.aload_n 0, 1) := by decide +kernel
theorem dX9_readString_145 : decode cX9_readString 145 = .ok (.getfield 13, 3) := by decide +kernel
theorem dX9_readString_148 : decode cX9_readString 148 = .ok (.iload_n 1, 1) := by decide +kernel
theorem dX9_readString_149 : decode cX9_readString 149 = .ok (.iload_n 2, 1) := by decide +kernel
theorem dX9_readString_150 : decode cX9_readString 150 = .ok (.invokestatic 73, 3) := by decide +kernel
theorem dX9_readString_153 : decode cX9_readString 153 = .ok (.iconst 0, 1) := by decide +kernel
theorem dX9_readString_154 : decode cX9_readString 154 = .ok (.iadd, 1) := by decide +kernel
theorem dX9_readString_155 : decode cX9_readString 155 = .ok (.laload, 1) := by decide +kernel
theorem dX9_readString_156 : decode cX9_readString 156 = .ok (.l2i, 1) := by decide +kernel
theorem dX9_readString_157 : decode cX9_readString 157 = .ok (.istore_n 3, 1) := by decide +kernel
theorem dX9_readString_158 : decode cX9_readString 158 = .ok (.iinc 2 1, 3) := by decide +kernel
theorem dX9_readString_161 : decode cX9_readString 161 = .ok (.aload_n 0, 1) := by decide +kernel
theorem dX9_readString_162 : decode cX9_readString 162 = .ok (.bipush 44, 2) := by decide +kernel
theorem dX9_readString_164 : decode cX9_readString 164 = .ok (.invokevirtual 145, 3) := by decide +kernel
theorem dX9_readString_167 : decode cX9_readString 167 = .ok (.ifCond .ne (-38), 3) := by decide +kernel
theorem dX9_readString_170 : decode cX9_readString 170 = .ok (.aload_n 0, 1) := by decide +kernel
theorem dX9_readString_171 : decode cX9_readString 171 = .ok (.getfield 13, 3) := by decide +kernel
theorem dX9_readString_174 : decode cX9_readString 174 = .ok (.bipush 32, 2) := by decide +kernel
theorem dX9_readString_176 : decode cX9_readString 176 = .ok (.bipush 32, 2) := by decide +kernel
theorem dX9_readString_178 : decode cX9_readString 178 = .ok (.iload_n 1, 1) := by decide +kernel
theorem dX9_readString_179 : decode cX9_readString 179 = .ok (.imul, 1) := by decide +kernel
theorem dX9_readString_180 : decode cX9_readString 180 = .ok (.iadd, 1) := by decide +kernel
theorem dX9_readString_181 : decode cX9_readString 181 = .ok (.iconst 1, 1) := by decide +kernel
theorem dX9_readString_182 : decode cX9_readString 182 = .ok (.iadd, 1) := by decide +kernel
theorem dX9_readString_183 : decode cX9_readString 183 = .ok (.iload_n 2, 1) := by decide +kernel
theorem dX9_readString_184 : decode cX9_readString 184 = .ok (.i2l, 1) := by decide +kernel
theorem dX9_readString_185 : decode cX9_readString 185 = .ok (.lastore, 1) := by decide +kernel
theorem dX9_readString_186 : decode cX9_readString 186 = .ok (.return_, 1) := by decide +kernel
abbrev mm_X9_readString : ab_M := (RX9, 4, none, false, 11, 280, none)
noncomputable def f_X9_readString_L129 (k170 : Int → Int → Int → ab_H → Option ab_H) : Nat → Int → Int → Int → Int → ab_H → Option ab_H
  | 0, _, _, _, _, _ => none
  | n + 1, v0, v1, v2, v3, h =>
    (ab_on h 10 v0 (f_X9_readTerm v0 v1 v2 v3 h)).bind fun q1 =>
    (ab_on q1 10 v0 (f_X9_good v0 q1)).bind fun q2 =>
    if q2.1 = (0 : Int) then
      some q2.2
    else
    (ab_get q2.2 10 2 v0).bind fun t3 =>
    (f_X9_termAt v1 v2 q2.2).bind fun q4 =>
    (ab_ald q4.2 12 t3 (ab_w32 (q4.1 + (0 : Int)))).bind fun t5 =>
    (ab_on q4.2 10 v0 (f_X9_eatsByte v0 (44 : Int) q4.2)).bind fun q6 =>
    if q6.1 = (0 : Int) then
      k170 v0 v1 (ab_w32 (v2 + (1 : Int))) q6.2
    else
    f_X9_readString_L129 k170 n v0 v1 (ab_w32 (v2 + (1 : Int))) (ab_w32 t5) q6.2
set_option maxRecDepth 20000 in
theorem e_X9_readString_L129 {k170 : Int → Int → Int → ab_H → Option ab_H} (hk170 : ∀ (v0 : Int) (v1 : Int) (v2 : Int) (h : ab_H) (q : ab_H), k170 v0 v1 v2 h = some q → ab_E mm_X9_readString cX9_readString 170 [some (ab_R v0), some (ab_I v1), some (ab_I v2), none] [] h none q) : ∀ (n : Nat) (v0 : Int) (v1 : Int) (v2 : Int) (v3 : Int) (h : ab_H) (q : ab_H), f_X9_readString_L129 k170 n v0 v1 v2 v3 h = some q → ab_E mm_X9_readString cX9_readString 129 [some (ab_R v0), some (ab_I v1), some (ab_I v2), some (ab_I v3)] [] h none q := by
  intro n
  induction n with
  | zero => intro v0 v1 v2 v3 h q hk; cases hk
  | succ n ih =>
    intro v0 v1 v2 v3 h q hk
    unfold f_X9_readString_L129 at hk
    refine ab_aload_n (pc := 129) (i := 0) dX9_readString_129 rfl rfl ?_
    refine ab_iload_n (pc := 130) (i := 1) dX9_readString_130 rfl rfl ?_
    refine ab_iload_n (pc := 131) (i := 2) dX9_readString_131 rfl rfl ?_
    refine ab_iload_n (pc := 132) (i := 3) dX9_readString_132 rfl rfl ?_
    obtain ⟨q1, hq1, hk⟩ := ab_bnd hk
    obtain ⟨hb, hq1⟩ := ab_on_some hq1
    refine ab_callVV (st := []) (as := [ab_I v1, ab_I v2, ab_I v3]) (b := v0) (pc := 133) dX9_readString_133 ml_RX9_222 my_X9_readTerm mv_X9_readTerm hb (ct_X9_readTerm hq1) ⟨Nat.le_of_ble_eq_true rfl, Nat.le_of_ble_eq_true rfl⟩ rfl (Nat.le_of_ble_eq_true rfl) rfl ?_
    refine ab_aload_n (pc := 136) (i := 0) dX9_readString_136 rfl rfl ?_
    obtain ⟨q2, hq2, hk⟩ := ab_bnd hk
    obtain ⟨hb, hq2⟩ := ab_on_some hq2
    refine ab_callVI (st := []) (as := []) (b := v0) (pc := 137) dX9_readString_137 ml_RX9_91 my_X9_good mv_X9_good hb (ct_X9_good hq2) ⟨Nat.le_of_ble_eq_true rfl, Nat.le_of_ble_eq_true rfl⟩ rfl (Nat.le_of_ble_eq_true rfl) rfl ?_
    refine ab_if_ne (pc := 140) (tgt := 144) dX9_readString_140 rfl (fun hc => ?_) (fun hc => ?_)
    · have hk := ab_ifn hk hc
      refine ab_aload_n (pc := 144) (i := 0) dX9_readString_144 rfl rfl ?_
      obtain ⟨t3, ht3, hk⟩ := ab_bnd hk
      refine ab_getR (pc := 145) dX9_readString_145 fl_RX9_13 ht3 ?_
      refine ab_iload_n (pc := 148) (i := 1) dX9_readString_148 rfl rfl ?_
      refine ab_iload_n (pc := 149) (i := 2) dX9_readString_149 rfl rfl ?_
      obtain ⟨q4, hq4, hk⟩ := ab_bnd hk
      refine ab_callSI (st := [ab_R t3]) (as := [ab_I v1, ab_I v2]) (pc := 150) dX9_readString_150 ml_RX9_73 my_X9_termAt ms_X9_termAt (ct_X9_termAt hq4) ⟨Nat.le_of_ble_eq_true rfl, Nat.le_of_ble_eq_true rfl⟩ rfl (Nat.le_of_ble_eq_true rfl) rfl ?_
      refine ab_iconst (pc := 153) dX9_readString_153 ab_k_0 ?_
      refine ab_iadd (pc := 154) dX9_readString_154 ?_
      obtain ⟨t5, ht5, hk⟩ := ab_bnd hk
      refine ab_lald (pc := 155) dX9_readString_155 ht5 ?_
      refine ab_l2i_ (pc := 156) dX9_readString_156 ?_
      refine ab_istore_n (pc := 157) (i := 3) (lv2 := [some (ab_R v0), some (ab_I v1), some (ab_I v2), some (ab_I (ab_w32 t5))]) dX9_readString_157 rfl (Nat.le_of_ble_eq_true rfl) rfl rfl ?_
      refine ab_iinc (pc := 158) (i := 2) (lv2 := [some (ab_R v0), some (ab_I v1), some (ab_I (ab_w32 (v2 + (1 : Int)))), some (ab_I (ab_w32 t5))]) dX9_readString_158 rfl (Nat.le_of_ble_eq_true rfl) rfl rfl ?_
      refine ab_aload_n (pc := 161) (i := 0) dX9_readString_161 rfl rfl ?_
      refine ab_bipush (pc := 162) dX9_readString_162 ab_p8_44 ab_k_44 ?_
      obtain ⟨q6, hq6, hk⟩ := ab_bnd hk
      obtain ⟨hb, hq6⟩ := ab_on_some hq6
      refine ab_callVI (st := []) (as := [ab_I (44 : Int)]) (b := v0) (pc := 164) dX9_readString_164 ml_RX9_145 my_X9_eatsByte mv_X9_eatsByte hb (ct_X9_eatsByte hq6) ⟨Nat.le_of_ble_eq_true rfl, Nat.le_of_ble_eq_true rfl⟩ rfl (Nat.le_of_ble_eq_true rfl) rfl ?_
      refine ab_if_ne (pc := 167) (tgt := 129) dX9_readString_167 rfl (fun hc => ?_) (fun hc => ?_)
      · have hk := ab_ifn hk hc
        refine ab_sub_ (lv2 := [some (ab_R v0), some (ab_I v1), some (ab_I (ab_w32 (v2 + (1 : Int)))), some (ab_I (ab_w32 t5))]) (ab_ss (ab_ss (ab_ss (ab_ss ab_s0)))) ?_
        exact ih _ _ _ _ _ _ hk
      · have hk := ab_ifp hk hc
        refine ab_sub_ (lv2 := [some (ab_R v0), some (ab_I v1), some (ab_I (ab_w32 (v2 + (1 : Int)))), none]) (ab_ss (ab_ss (ab_ss (ab_sn ab_s0)))) ?_
        exact hk170 _ _ _ _ _ hk
    · have hk := ab_ifp hk hc
      obtain rfl := Option.some.inj hk
      exact ab_retv (pc := 143) dX9_readString_143 rfl
noncomputable def f_X9_readString_J90 (v0 : Int) (v1 : Int) (h : ab_H) : Option ab_H :=
  (ab_on h 10 v0 (f_X9_good v0 h)).bind fun q1 =>
  if q1.1 = (0 : Int) then
    some q1.2
  else
  (ab_get q1.2 10 2 v0).bind fun t2 =>
  (ab_get q1.2 10 9 v0).bind fun t3 =>
  (ab_ast q1.2 12 t2 (ab_w32 ((32 : Int) + (ab_w32 ((32 : Int) * v1)))) t3).bind fun h1 =>
  (ab_on h1 10 v0 (f_X9_advance v0 h1)).bind fun q4 =>
  (ab_on q4 10 v0 (f_X9_passesByte v0 (58 : Int) q4)).bind fun q5 =>
  f_X9_readString_L129 (fun w170_0 w170_1 w170_2 hx170 =>
    (ab_get hx170 10 2 w170_0).bind fun t6 =>
    (ab_ast hx170 12 t6 (ab_w32 ((ab_w32 ((32 : Int) + (ab_w32 ((32 : Int) * w170_1)))) + (1 : Int))) w170_2).bind fun h2 =>
    some h2) ab_FU v0 v1 (0 : Int) (0 : Int) q5
set_option maxRecDepth 20000 in
theorem e_X9_readString_J90 : ∀ (v0 : Int) (v1 : Int) (h : ab_H) (q : ab_H), f_X9_readString_J90 v0 v1 h = some q → ab_E mm_X9_readString cX9_readString 90 [some (ab_R v0), some (ab_I v1), none, none] [] h none q := by
  intro v0 v1 h q hk
  unfold f_X9_readString_J90 at hk
  refine ab_aload_n (pc := 90) (i := 0) dX9_readString_90 rfl rfl ?_
  obtain ⟨q1, hq1, hk⟩ := ab_bnd hk
  obtain ⟨hb, hq1⟩ := ab_on_some hq1
  refine ab_callVI (st := []) (as := []) (b := v0) (pc := 91) dX9_readString_91 ml_RX9_91 my_X9_good mv_X9_good hb (ct_X9_good hq1) ⟨Nat.le_of_ble_eq_true rfl, Nat.le_of_ble_eq_true rfl⟩ rfl (Nat.le_of_ble_eq_true rfl) rfl ?_
  refine ab_if_ne (pc := 94) (tgt := 98) dX9_readString_94 rfl (fun hc => ?_) (fun hc => ?_)
  · have hk := ab_ifn hk hc
    refine ab_aload_n (pc := 98) (i := 0) dX9_readString_98 rfl rfl ?_
    obtain ⟨t2, ht2, hk⟩ := ab_bnd hk
    refine ab_getR (pc := 99) dX9_readString_99 fl_RX9_13 ht2 ?_
    refine ab_bipush (pc := 102) dX9_readString_102 ab_p8_32 ab_k_32 ?_
    refine ab_bipush (pc := 104) dX9_readString_104 ab_p8_32 ab_k_32 ?_
    refine ab_iload_n (pc := 106) (i := 1) dX9_readString_106 rfl rfl ?_
    refine ab_imul (pc := 107) dX9_readString_107 ?_
    refine ab_iadd (pc := 108) dX9_readString_108 ?_
    refine ab_aload_n (pc := 109) (i := 0) dX9_readString_109 rfl rfl ?_
    obtain ⟨t3, ht3, hk⟩ := ab_bnd hk
    refine ab_getI (pc := 110) dX9_readString_110 fl_RX9_119 ht3 ?_
    refine ab_i2l_ (pc := 113) dX9_readString_113 ?_
    obtain ⟨h1, hh1, hk⟩ := ab_bnd hk
    refine ab_last (pc := 114) dX9_readString_114 hh1 ?_
    refine ab_aload_n (pc := 115) (i := 0) dX9_readString_115 rfl rfl ?_
    obtain ⟨q4, hq4, hk⟩ := ab_bnd hk
    obtain ⟨hb, hq4⟩ := ab_on_some hq4
    refine ab_callVV (st := []) (as := []) (b := v0) (pc := 116) dX9_readString_116 ml_RX9_142 my_X9_advance mv_X9_advance hb (ct_X9_advance hq4) ⟨Nat.le_of_ble_eq_true rfl, Nat.le_of_ble_eq_true rfl⟩ rfl (Nat.le_of_ble_eq_true rfl) rfl ?_
    refine ab_aload_n (pc := 119) (i := 0) dX9_readString_119 rfl rfl ?_
    refine ab_bipush (pc := 120) dX9_readString_120 ab_p8_58 ab_k_58 ?_
    obtain ⟨q5, hq5, hk⟩ := ab_bnd hk
    obtain ⟨hb, hq5⟩ := ab_on_some hq5
    refine ab_callVV (st := []) (as := [ab_I (58 : Int)]) (b := v0) (pc := 122) dX9_readString_122 ml_RX9_219 my_X9_passesByte mv_X9_passesByte hb (ct_X9_passesByte hq5) ⟨Nat.le_of_ble_eq_true rfl, Nat.le_of_ble_eq_true rfl⟩ rfl (Nat.le_of_ble_eq_true rfl) rfl ?_
    refine ab_iconst (pc := 125) dX9_readString_125 ab_k_0 ?_
    refine ab_istore_n (pc := 126) (i := 2) (lv2 := [some (ab_R v0), some (ab_I v1), some (ab_I (0 : Int)), none]) dX9_readString_126 rfl (Nat.le_of_ble_eq_true rfl) rfl rfl ?_
    refine ab_iconst (pc := 127) dX9_readString_127 ab_k_0 ?_
    refine ab_istore_n (pc := 128) (i := 3) (lv2 := [some (ab_R v0), some (ab_I v1), some (ab_I (0 : Int)), some (ab_I (0 : Int))]) dX9_readString_128 rfl (Nat.le_of_ble_eq_true rfl) rfl rfl ?_
    refine ab_sub_ (lv2 := [some (ab_R v0), some (ab_I v1), some (ab_I (0 : Int)), some (ab_I (0 : Int))]) (ab_ss (ab_ss (ab_ss (ab_ss ab_s0)))) ?_
    refine e_X9_readString_L129 (fun w170_0 w170_1 w170_2 hx170 q hk => ?_) _ _ _ _ _ _ _ hk
    · skip
      refine ab_aload_n (pc := 170) (i := 0) dX9_readString_170 rfl rfl ?_
      obtain ⟨t6, ht6, hk⟩ := ab_bnd hk
      refine ab_getR (pc := 171) dX9_readString_171 fl_RX9_13 ht6 ?_
      refine ab_bipush (pc := 174) dX9_readString_174 ab_p8_32 ab_k_32 ?_
      refine ab_bipush (pc := 176) dX9_readString_176 ab_p8_32 ab_k_32 ?_
      refine ab_iload_n (pc := 178) (i := 1) dX9_readString_178 rfl rfl ?_
      refine ab_imul (pc := 179) dX9_readString_179 ?_
      refine ab_iadd (pc := 180) dX9_readString_180 ?_
      refine ab_iconst (pc := 181) dX9_readString_181 ab_k_1 ?_
      refine ab_iadd (pc := 182) dX9_readString_182 ?_
      refine ab_iload_n (pc := 183) (i := 2) dX9_readString_183 rfl rfl ?_
      refine ab_i2l_ (pc := 184) dX9_readString_184 ?_
      obtain ⟨h2, hh2, hk⟩ := ab_bnd hk
      refine ab_last (pc := 185) dX9_readString_185 hh2 ?_
      obtain rfl := Option.some.inj hk
      exact ab_retv (pc := 186) dX9_readString_186 rfl
  · have hk := ab_ifp hk hc
    obtain rfl := Option.some.inj hk
    exact ab_retv (pc := 97) dX9_readString_97 rfl
noncomputable def f_X9_readString_J63 (v0 : Int) (v1 : Int) (h : ab_H) : Option ab_H :=
  (ab_on h 10 v0 (f_X9_good v0 h)).bind fun q1 =>
  if q1.1 = (0 : Int) then
    f_X9_readString_J90 v0 v1 q1.2
  else
  (ab_get q1.2 10 9 v0).bind fun t2 =>
  (ab_on q1.2 10 v0 (f_X9_isAddress v0 t2 q1.2)).bind fun q3 =>
  if q3.1 = (0 : Int) then
    f_X9_readString_J90 v0 v1 q3.2
  else
  (ab_get q3.2 10 7 v0).bind fun t4 =>
  (ab_on q3.2 10 v0 (f_X9_errs v0 (3 : Int) t4 q3.2)).bind fun q5 =>
  f_X9_readString_J90 v0 v1 q5
set_option maxRecDepth 20000 in
theorem e_X9_readString_J63 : ∀ (v0 : Int) (v1 : Int) (h : ab_H) (q : ab_H), f_X9_readString_J63 v0 v1 h = some q → ab_E mm_X9_readString cX9_readString 63 [some (ab_R v0), some (ab_I v1), none, none] [] h none q := by
  intro v0 v1 h q hk
  unfold f_X9_readString_J63 at hk
  refine ab_aload_n (pc := 63) (i := 0) dX9_readString_63 rfl rfl ?_
  obtain ⟨q1, hq1, hk⟩ := ab_bnd hk
  obtain ⟨hb, hq1⟩ := ab_on_some hq1
  refine ab_callVI (st := []) (as := []) (b := v0) (pc := 64) dX9_readString_64 ml_RX9_91 my_X9_good mv_X9_good hb (ct_X9_good hq1) ⟨Nat.le_of_ble_eq_true rfl, Nat.le_of_ble_eq_true rfl⟩ rfl (Nat.le_of_ble_eq_true rfl) rfl ?_
  refine ab_if_eq (pc := 67) (tgt := 90) dX9_readString_67 rfl (fun hc => ?_) (fun hc => ?_)
  · have hk := ab_ifp hk hc
    refine ab_sub_ (lv2 := [some (ab_R v0), some (ab_I v1), none, none]) (ab_ss (ab_ss (ab_sn (ab_sn ab_s0)))) ?_
    exact e_X9_readString_J90 _ _ _ _ hk
  · have hk := ab_ifn hk hc
    refine ab_aload_n (pc := 70) (i := 0) dX9_readString_70 rfl rfl ?_
    refine ab_aload_n (pc := 71) (i := 0) dX9_readString_71 rfl rfl ?_
    obtain ⟨t2, ht2, hk⟩ := ab_bnd hk
    refine ab_getI (pc := 72) dX9_readString_72 fl_RX9_119 ht2 ?_
    obtain ⟨q3, hq3, hk⟩ := ab_bnd hk
    obtain ⟨hb, hq3⟩ := ab_on_some hq3
    refine ab_callVI (st := []) (as := [ab_I t2]) (b := v0) (pc := 75) dX9_readString_75 ml_RX9_216 my_X9_isAddress mv_X9_isAddress hb (ct_X9_isAddress hq3) ⟨Nat.le_of_ble_eq_true rfl, Nat.le_of_ble_eq_true rfl⟩ rfl (Nat.le_of_ble_eq_true rfl) rfl ?_
    refine ab_if_eq (pc := 78) (tgt := 90) dX9_readString_78 rfl (fun hc => ?_) (fun hc => ?_)
    · have hk := ab_ifp hk hc
      refine ab_sub_ (lv2 := [some (ab_R v0), some (ab_I v1), none, none]) (ab_ss (ab_ss (ab_sn (ab_sn ab_s0)))) ?_
      exact e_X9_readString_J90 _ _ _ _ hk
    · have hk := ab_ifn hk hc
      refine ab_aload_n (pc := 81) (i := 0) dX9_readString_81 rfl rfl ?_
      refine ab_iconst (pc := 82) dX9_readString_82 ab_k_3 ?_
      refine ab_aload_n (pc := 83) (i := 0) dX9_readString_83 rfl rfl ?_
      obtain ⟨t4, ht4, hk⟩ := ab_bnd hk
      refine ab_getI (pc := 84) dX9_readString_84 fl_RX9_105 ht4 ?_
      obtain ⟨q5, hq5, hk⟩ := ab_bnd hk
      obtain ⟨hb, hq5⟩ := ab_on_some hq5
      refine ab_callVV (st := []) (as := [ab_I (3 : Int), ab_I t4]) (b := v0) (pc := 87) dX9_readString_87 ml_RX9_149 my_X9_errs mv_X9_errs hb (ct_X9_errs hq5) ⟨Nat.le_of_ble_eq_true rfl, Nat.le_of_ble_eq_true rfl⟩ rfl (Nat.le_of_ble_eq_true rfl) rfl ?_
      refine ab_sub_ (lv2 := [some (ab_R v0), some (ab_I v1), none, none]) (ab_ss (ab_ss (ab_sn (ab_sn ab_s0)))) ?_
      exact e_X9_readString_J90 _ _ _ _ hk
noncomputable def f_X9_readString_J32 (v0 : Int) (v1 : Int) (h : ab_H) : Option ab_H :=
  (ab_on h 10 v0 (f_X9_good v0 h)).bind fun q1 =>
  if q1.1 = (0 : Int) then
    f_X9_readString_J63 v0 v1 q1.2
  else
  (ab_get q1.2 10 9 v0).bind fun t2 =>
  (f_X9_in t2 (0 : Int) (999 : Int) q1.2).bind fun q3 =>
  if q3.1 = (0 : Int) then
    (ab_get q3.2 10 7 v0).bind fun t4 =>
    (ab_on q3.2 10 v0 (f_X9_errs v0 (2 : Int) t4 q3.2)).bind fun q5 =>
    f_X9_readString_J63 v0 v1 q5
  else
  f_X9_readString_J63 v0 v1 q3.2
set_option maxRecDepth 20000 in
theorem e_X9_readString_J32 : ∀ (v0 : Int) (v1 : Int) (h : ab_H) (q : ab_H), f_X9_readString_J32 v0 v1 h = some q → ab_E mm_X9_readString cX9_readString 32 [some (ab_R v0), some (ab_I v1), none, none] [] h none q := by
  intro v0 v1 h q hk
  unfold f_X9_readString_J32 at hk
  refine ab_aload_n (pc := 32) (i := 0) dX9_readString_32 rfl rfl ?_
  obtain ⟨q1, hq1, hk⟩ := ab_bnd hk
  obtain ⟨hb, hq1⟩ := ab_on_some hq1
  refine ab_callVI (st := []) (as := []) (b := v0) (pc := 33) dX9_readString_33 ml_RX9_91 my_X9_good mv_X9_good hb (ct_X9_good hq1) ⟨Nat.le_of_ble_eq_true rfl, Nat.le_of_ble_eq_true rfl⟩ rfl (Nat.le_of_ble_eq_true rfl) rfl ?_
  refine ab_if_eq (pc := 36) (tgt := 63) dX9_readString_36 rfl (fun hc => ?_) (fun hc => ?_)
  · have hk := ab_ifp hk hc
    refine ab_sub_ (lv2 := [some (ab_R v0), some (ab_I v1), none, none]) (ab_ss (ab_ss (ab_sn (ab_sn ab_s0)))) ?_
    exact e_X9_readString_J63 _ _ _ _ hk
  · have hk := ab_ifn hk hc
    refine ab_aload_n (pc := 39) (i := 0) dX9_readString_39 rfl rfl ?_
    obtain ⟨t2, ht2, hk⟩ := ab_bnd hk
    refine ab_getI (pc := 40) dX9_readString_40 fl_RX9_119 ht2 ?_
    refine ab_i2l_ (pc := 43) dX9_readString_43 ?_
    refine ab_lconst (x := (0 : Int)) (pc := 44) dX9_readString_44 rfl ab_kl_0 ?_
    refine ab_ldc2 (x := (999 : Int)) (pc := 45) dX9_readString_45 ab_ld2_RX9_214 ab_kl_999 ?_
    obtain ⟨q3, hq3, hk⟩ := ab_bnd hk
    refine ab_callSI (st := []) (as := [ab_J t2, ab_J (0 : Int), ab_J (999 : Int)]) (pc := 48) dX9_readString_48 ml_RX9_84 my_X9_in ms_X9_in (ct_X9_in hq3) ⟨Nat.le_of_ble_eq_true rfl, Nat.le_of_ble_eq_true rfl⟩ rfl (Nat.le_of_ble_eq_true rfl) rfl ?_
    refine ab_if_ne (pc := 51) (tgt := 63) dX9_readString_51 rfl (fun hc => ?_) (fun hc => ?_)
    · have hk := ab_ifn hk hc
      refine ab_sub_ (lv2 := [some (ab_R v0), some (ab_I v1), none, none]) (ab_ss (ab_ss (ab_sn (ab_sn ab_s0)))) ?_
      exact e_X9_readString_J63 _ _ _ _ hk
    · have hk := ab_ifp hk hc
      refine ab_aload_n (pc := 54) (i := 0) dX9_readString_54 rfl rfl ?_
      refine ab_iconst (pc := 55) dX9_readString_55 ab_k_2 ?_
      refine ab_aload_n (pc := 56) (i := 0) dX9_readString_56 rfl rfl ?_
      obtain ⟨t4, ht4, hk⟩ := ab_bnd hk
      refine ab_getI (pc := 57) dX9_readString_57 fl_RX9_105 ht4 ?_
      obtain ⟨q5, hq5, hk⟩ := ab_bnd hk
      obtain ⟨hb, hq5⟩ := ab_on_some hq5
      refine ab_callVV (st := []) (as := [ab_I (2 : Int), ab_I t4]) (b := v0) (pc := 60) dX9_readString_60 ml_RX9_149 my_X9_errs mv_X9_errs hb (ct_X9_errs hq5) ⟨Nat.le_of_ble_eq_true rfl, Nat.le_of_ble_eq_true rfl⟩ rfl (Nat.le_of_ble_eq_true rfl) rfl ?_
      refine ab_sub_ (lv2 := [some (ab_R v0), some (ab_I v1), none, none]) (ab_ss (ab_ss (ab_sn (ab_sn ab_s0)))) ?_
      exact e_X9_readString_J63 _ _ _ _ hk
noncomputable def f_X9_readString (a0 : Int) (h : ab_H) : Option ab_H :=
  (ab_get h 10 2 a0).bind fun t1 =>
  (ab_ald h 12 t1 (0 : Int)).bind fun t2 =>
  (ab_on h 10 a0 (f_X9_good a0 h)).bind fun q3 =>
  if q3.1 = (0 : Int) then
    f_X9_readString_J32 a0 (ab_w32 t2) q3.2
  else
  (ab_get q3.2 10 8 a0).bind fun t4 =>
  if t4 = (2 : Int) then
    f_X9_readString_J32 a0 (ab_w32 t2) q3.2
  else
  (ab_get q3.2 10 7 a0).bind fun t5 =>
  (ab_on q3.2 10 a0 (f_X9_errs a0 (1 : Int) t5 q3.2)).bind fun q6 =>
  f_X9_readString_J32 a0 (ab_w32 t2) q6
set_option maxRecDepth 20000 in
theorem ct_X9_readString {a0 : Int} {h : ab_H} {q : ab_H} (hk : f_X9_readString a0 h = some q) : ab_CT yX9_readString cX9_readString 4 none 11 280 [ab_R a0] h none q := by
  refine ab_CT.mk_ 3 (own := RX9) (ini := false) (lv := [some (ab_R a0), none, none, none]) rfl (by decide +kernel) (fun q => by cases q) rfl rfl ?_
  unfold f_X9_readString at hk
  show ab_E mm_X9_readString cX9_readString 0 _ [] h _ _
  refine ab_aload_n (pc := 0) (i := 0) dX9_readString_0 rfl rfl ?_
  obtain ⟨t1, ht1, hk⟩ := ab_bnd hk
  refine ab_getR (pc := 1) dX9_readString_1 fl_RX9_13 ht1 ?_
  refine ab_iconst (pc := 4) dX9_readString_4 ab_k_0 ?_
  obtain ⟨t2, ht2, hk⟩ := ab_bnd hk
  refine ab_lald (pc := 5) dX9_readString_5 ht2 ?_
  refine ab_l2i_ (pc := 6) dX9_readString_6 ?_
  refine ab_istore_n (pc := 7) (i := 1) (lv2 := [some (ab_R a0), some (ab_I (ab_w32 t2)), none, none]) dX9_readString_7 rfl (Nat.le_of_ble_eq_true rfl) rfl rfl ?_
  refine ab_aload_n (pc := 8) (i := 0) dX9_readString_8 rfl rfl ?_
  obtain ⟨q3, hq3, hk⟩ := ab_bnd hk
  obtain ⟨hb, hq3⟩ := ab_on_some hq3
  refine ab_callVI (st := []) (as := []) (b := a0) (pc := 9) dX9_readString_9 ml_RX9_91 my_X9_good mv_X9_good hb (ct_X9_good hq3) ⟨Nat.le_of_ble_eq_true rfl, Nat.le_of_ble_eq_true rfl⟩ rfl (Nat.le_of_ble_eq_true rfl) rfl ?_
  refine ab_if_eq (pc := 12) (tgt := 32) dX9_readString_12 rfl (fun hc => ?_) (fun hc => ?_)
  · have hk := ab_ifp hk hc
    refine ab_sub_ (lv2 := [some (ab_R a0), some (ab_I (ab_w32 t2)), none, none]) (ab_ss (ab_ss (ab_sn (ab_sn ab_s0)))) ?_
    exact e_X9_readString_J32 _ _ _ _ hk
  · have hk := ab_ifn hk hc
    refine ab_aload_n (pc := 15) (i := 0) dX9_readString_15 rfl rfl ?_
    obtain ⟨t4, ht4, hk⟩ := ab_bnd hk
    refine ab_getI (pc := 16) dX9_readString_16 fl_RX9_108 ht4 ?_
    refine ab_iconst (pc := 19) dX9_readString_19 ab_k_2 ?_
    refine ab_icmp_eq (pc := 20) (tgt := 32) dX9_readString_20 rfl (fun hc => ?_) (fun hc => ?_)
    · have hk := ab_ifp hk hc
      refine ab_sub_ (lv2 := [some (ab_R a0), some (ab_I (ab_w32 t2)), none, none]) (ab_ss (ab_ss (ab_sn (ab_sn ab_s0)))) ?_
      exact e_X9_readString_J32 _ _ _ _ hk
    · have hk := ab_ifn hk hc
      refine ab_aload_n (pc := 23) (i := 0) dX9_readString_23 rfl rfl ?_
      refine ab_iconst (pc := 24) dX9_readString_24 ab_k_1 ?_
      refine ab_aload_n (pc := 25) (i := 0) dX9_readString_25 rfl rfl ?_
      obtain ⟨t5, ht5, hk⟩ := ab_bnd hk
      refine ab_getI (pc := 26) dX9_readString_26 fl_RX9_105 ht5 ?_
      obtain ⟨q6, hq6, hk⟩ := ab_bnd hk
      obtain ⟨hb, hq6⟩ := ab_on_some hq6
      refine ab_callVV (st := []) (as := [ab_I (1 : Int), ab_I t5]) (b := a0) (pc := 29) dX9_readString_29 ml_RX9_149 my_X9_errs mv_X9_errs hb (ct_X9_errs hq6) ⟨Nat.le_of_ble_eq_true rfl, Nat.le_of_ble_eq_true rfl⟩ rfl (Nat.le_of_ble_eq_true rfl) rfl ?_
      refine ab_sub_ (lv2 := [some (ab_R a0), some (ab_I (ab_w32 t2)), none, none]) (ab_ss (ab_ss (ab_sn (ab_sn ab_s0)))) ?_
      exact e_X9_readString_J32 _ _ _ _ hk
theorem dX9_readLine_0 : decode cX9_readLine 0 = .ok (.aload_n 0, 1) := by decide +kernel
theorem dX9_readLine_1 : decode cX9_readLine 1 = .ok (.ldc 168, 2) := by decide +kernel
theorem dX9_readLine_3 : decode cX9_readLine 3 = .ok (.invokevirtual 138, 3) := by decide +kernel
theorem dX9_readLine_6 : decode cX9_readLine 6 = .ok (.ifCond .eq 14, 3) := by decide +kernel
theorem dX9_readLine_9 : decode cX9_readLine 9 = .ok (.aload_n 0, 1) := by decide +kernel
theorem dX9_readLine_10 : decode cX9_readLine 10 = .ok (.invokevirtual 142, 3) := by decide +kernel
theorem dX9_readLine_13 : decode cX9_readLine 13 = .ok (.aload_n 0, 1) := by decide +kernel
theorem dX9_readLine_14 : decode cX9_readLine 14 = .ok (.invokevirtual 226, 3) := by decide +kernel
theorem dX9_readLine_17 : decode cX9_readLine 17 = .ok (.goto 134, 3) := by decide +kernel
theorem dX9_readLine_20 : decode cX9_readLine 20 = .ok (.aload_n 0, 1) := by decide +kernel
theorem dX9_readLine_21 : decode cX9_readLine 21 = .ok (.ldc 170, 2) := by decide +kernel
theorem dX9_readLine_23 : decode cX9_readLine 23 = .ok (.invokevirtual 138, 3) := by decide +kernel
theorem dX9_readLine_26 : decode cX9_readLine 26 = .ok (.ifCond .eq 50, 3) := by decide +kernel
theorem dX9_readLine_29 : decode cX9_readLine 29 = .ok (.aload_n 0, 1) := by decide +kernel
theorem dX9_readLine_30 : decode cX9_readLine 30 = .ok (.getfield 13, 3) := by decide +kernel
theorem dX9_readLine_33 : decode cX9_readLine 33 = .ok (.iconst 1, 1) := by decide +kernel
theorem dX9_readLine_34 : decode cX9_readLine 34 = .ok (.laload, 1) := by decide +kernel
theorem dX9_readLine_35 : decode cX9_readLine 35 = .ok (.ldc2_w 229, 3) := by decide +kernel
theorem dX9_readLine_38 : decode cX9_readLine 38 = .ok (.lcmp, 1) := by decide +kernel
theorem dX9_readLine_39 : decode cX9_readLine 39 = .ok (.ifCond .ne 12, 3) := by decide +kernel
theorem dX9_readLine_42 : decode cX9_readLine 42 = .ok (.aload_n 0, 1) := by decide +kernel
theorem dX9_readLine_43 : decode cX9_readLine 43 = .ok (.iconst 4, 1) := by decide +kernel
theorem dX9_readLine_44 : decode cX9_readLine 44 = .ok (.aload_n 0, 1) := by decide +kernel
theorem dX9_readLine_45 : decode cX9_readLine 45 = .ok (.getfield 105, 3) := by decide +kernel
theorem dX9_readLine_48 : decode cX9_readLine 48 = .ok (.invokevirtual 149, 3) := by decide +kernel
theorem dX9_readLine_51 : decode cX9_readLine 51 = .ok (.aload_n 0, 1) := by decide +kernel
theorem dX9_readLine_52 : decode cX9_readLine 52 = .ok (.invokevirtual 91, 3) := by decide +kernel
theorem dX9_readLine_55 : decode cX9_readLine 55 = .ok (.ifCond .eq 7, 3) := by decide +kernel
theorem dX9_readLine_58 : decode cX9_readLine 58 = .ok (.aload_n 0, 1) := by decide +kernel
theorem dX9_readLine_59 : decode cX9_readLine 59 = .ok (.invokevirtual 142, 3) := by decide +kernel
theorem dX9_readLine_62 : decode cX9_readLine 62 = .ok (.aload_n 0, 1) := by decide +kernel
theorem dX9_readLine_63 : decode cX9_readLine 63 = .ok (.invokevirtual 91, 3) := by decide +kernel
theorem dX9_readLine_66 : decode cX9_readLine 66 = .ok (.ifCond .eq 85, 3) := by decide +kernel
theorem dX9_readLine_69 : decode cX9_readLine 69 = .ok (.aload_n 0, 1) := by decide +kernel
theorem dX9_readLine_70 : decode cX9_readLine 70 = .ok (.invokevirtual 231, 3) := by decide +kernel
theorem dX9_readLine_73 : decode cX9_readLine 73 = .ok (.goto 78, 3) := by decide +kernel
theorem dX9_readLine_76 : decode cX9_readLine 76 = .ok (.aload_n 0, 1) := by decide +kernel
theorem dX9_readLine_77 : decode cX9_readLine 77 = .ok (.ldc 172, 2) := by decide +kernel
theorem dX9_readLine_79 : decode cX9_readLine 79 = .ok (.invokevirtual 138, 3) := by decide +kernel
theorem dX9_readLine_82 : decode cX9_readLine 82 = .ok (.ifCond .eq 60, 3) := by decide +kernel
theorem dX9_readLine_85 : decode cX9_readLine 85 = .ok (.aload_n 0, 1) := by decide +kernel
theorem dX9_readLine_86 : decode cX9_readLine 86 = .ok (.getfield 13, 3) := by decide +kernel
theorem dX9_readLine_89 : decode cX9_readLine 89 = .ok (.iconst 0, 1) := by decide +kernel
theorem dX9_readLine_90 : decode cX9_readLine 90 = .ok (.laload, 1) := by decide +kernel
theorem dX9_readLine_91 : decode cX9_readLine 91 = .ok (.ldc2_w 229, 3) := by decide +kernel
theorem dX9_readLine_94 : decode cX9_readLine 94 = .ok (.lcmp, 1) := by decide +kernel
theorem dX9_readLine_95 : decode cX9_readLine 95 = .ok (.ifCond .ne 12, 3) := by decide +kernel
theorem dX9_readLine_98 : decode cX9_readLine 98 = .ok (.aload_n 0, 1) := by decide +kernel
theorem dX9_readLine_99 : decode cX9_readLine 99 = .ok (.iconst 4, 1) := by decide +kernel
theorem dX9_readLine_100 : decode cX9_readLine 100 = .ok (.aload_n 0, 1) := by decide +kernel
theorem dX9_readLine_101 : decode cX9_readLine 101 = .ok (.getfield 105, 3) := by decide +kernel
theorem dX9_readLine_104 : decode cX9_readLine 104 = .ok (.invokevirtual 149, 3) := by decide +kernel
theorem dX9_readLine_107 : decode cX9_readLine 107 = .ok (.aload_n 0, 1) := by decide +kernel
theorem dX9_readLine_108 : decode cX9_readLine 108 = .ok (.invokevirtual 91, 3) := by decide +kernel
theorem dX9_readLine_111 : decode cX9_readLine 111 = .ok (.ifCond .eq 7, 3) := by decide +kernel
theorem dX9_readLine_114 : decode cX9_readLine 114 = .ok (.aload_n 0, 1) := by decide +kernel
theorem dX9_readLine_115 : decode cX9_readLine 115 = .ok (.invokevirtual 142, 3) := by decide +kernel
theorem dX9_readLine_118 : decode cX9_readLine 118 = .ok (.aload_n 0, 1) := by decide +kernel
theorem dX9_readLine_119 : decode cX9_readLine 119 = .ok (.invokevirtual 234, 3) := by decide +kernel
theorem dX9_readLine_122 : decode cX9_readLine 122 = .ok (.aload_n 0, 1) := by decide +kernel
theorem dX9_readLine_123 : decode cX9_readLine 123 = .ok (.invokevirtual 91, 3) := by decide +kernel
theorem dX9_readLine_126 : decode cX9_readLine 126 = .ok (.ifCond .eq 25, 3) := by decide +kernel
theorem dX9_readLine_129 : decode cX9_readLine 129 = .ok (.aload_n 0, 1) := by decide +kernel
theorem dX9_readLine_130 : decode cX9_readLine 130 = .ok (.getfield 13, 3) := by decide +kernel
theorem dX9_readLine_133 : decode cX9_readLine 133 = .ok (.iconst 0, 1) := by decide +kernel
theorem dX9_readLine_134 : decode cX9_readLine 134 = .ok (.dup2, 1) := by decide +kernel
theorem dX9_readLine_135 : decode cX9_readLine 135 = .ok (.laload, 1) := by decide +kernel
theorem dX9_readLine_136 : decode cX9_readLine 136 = .ok (.lconst 1, 1) := by decide +kernel
theorem dX9_readLine_137 : decode cX9_readLine 137 = .ok (.ladd, 1) := by decide +kernel
theorem dX9_readLine_138 : decode cX9_readLine 138 = .ok (.lastore, 1) := by decide +kernel
theorem dX9_readLine_139 : decode cX9_readLine 139 = .ok (.goto 12, 3) := by decide +kernel
theorem dX9_readLine_142 : decode cX9_readLine 142 = .ok (.aload_n 0, 1) := by decide +kernel
theorem dX9_readLine_143 : decode cX9_readLine 143 = .ok (.iconst 1, 1) := by decide +kernel
theorem dX9_readLine_144 : decode cX9_readLine 144 = .ok (.aload_n 0, 1) := by decide +kernel
theorem dX9_readLine_145 : decode cX9_readLine 145 = .ok (.getfield 105, 3) := by decide +kernel
theorem dX9_readLine_148 : decode cX9_readLine 148 = .ok (.invokevirtual 149, 3) := by decide +kernel
theorem dX9_readLine_151 : decode cX9_readLine 151 = .ok (.aload_n 0, 1) := by decide +kernel
theorem dX9_readLine_152 : decode cX9_readLine 152 = .ok (.bipush 59, 2) := by decide +kernel
theorem dX9_readLine_154 : decode cX9_readLine 154 = .ok (.invokevirtual 219, 3) := by decide +kernel
theorem dX9_readLine_157 : decode cX9_readLine 157 = .ok (.return_, 1) := by decide +kernel
abbrev mm_X9_readLine : ab_M := (RX9, 1, none, false, 12, 303, none)
noncomputable def f_X9_readLine_J151 (v0 : Int) (h : ab_H) : Option ab_H :=
  (ab_on h 10 v0 (f_X9_passesByte v0 (59 : Int) h)).bind fun q1 =>
  some q1
set_option maxRecDepth 20000 in
theorem e_X9_readLine_J151 : ∀ (v0 : Int) (h : ab_H) (q : ab_H), f_X9_readLine_J151 v0 h = some q → ab_E mm_X9_readLine cX9_readLine 151 [some (ab_R v0)] [] h none q := by
  intro v0 h q hk
  unfold f_X9_readLine_J151 at hk
  refine ab_aload_n (pc := 151) (i := 0) dX9_readLine_151 rfl rfl ?_
  refine ab_bipush (pc := 152) dX9_readLine_152 ab_p8_59 ab_k_59 ?_
  obtain ⟨q1, hq1, hk⟩ := ab_bnd hk
  obtain ⟨hb, hq1⟩ := ab_on_some hq1
  refine ab_callVV (st := []) (as := [ab_I (59 : Int)]) (b := v0) (pc := 154) dX9_readLine_154 ml_RX9_219 my_X9_passesByte mv_X9_passesByte hb (ct_X9_passesByte hq1) ⟨Nat.le_of_ble_eq_true rfl, Nat.le_of_ble_eq_true rfl⟩ rfl (Nat.le_of_ble_eq_true rfl) rfl ?_
  obtain rfl := Option.some.inj hk
  exact ab_retv (pc := 157) dX9_readLine_157 rfl
noncomputable def f_X9_readLine_J118 (v0 : Int) (h : ab_H) : Option ab_H :=
  (ab_on h 10 v0 (f_X9_readString v0 h)).bind fun q1 =>
  (ab_on q1 10 v0 (f_X9_good v0 q1)).bind fun q2 =>
  if q2.1 = (0 : Int) then
    f_X9_readLine_J151 v0 q2.2
  else
  (ab_get q2.2 10 2 v0).bind fun t3 =>
  (ab_ald q2.2 12 t3 (0 : Int)).bind fun t4 =>
  (ab_ast q2.2 12 t3 (0 : Int) (ab_w64 (t4 + (1 : Int)))).bind fun h1 =>
  f_X9_readLine_J151 v0 h1
set_option maxRecDepth 20000 in
theorem e_X9_readLine_J118 : ∀ (v0 : Int) (h : ab_H) (q : ab_H), f_X9_readLine_J118 v0 h = some q → ab_E mm_X9_readLine cX9_readLine 118 [some (ab_R v0)] [] h none q := by
  intro v0 h q hk
  unfold f_X9_readLine_J118 at hk
  refine ab_aload_n (pc := 118) (i := 0) dX9_readLine_118 rfl rfl ?_
  obtain ⟨q1, hq1, hk⟩ := ab_bnd hk
  obtain ⟨hb, hq1⟩ := ab_on_some hq1
  refine ab_callVV (st := []) (as := []) (b := v0) (pc := 119) dX9_readLine_119 ml_RX9_234 my_X9_readString mv_X9_readString hb (ct_X9_readString hq1) ⟨Nat.le_of_ble_eq_true rfl, Nat.le_of_ble_eq_true rfl⟩ rfl (Nat.le_of_ble_eq_true rfl) rfl ?_
  refine ab_aload_n (pc := 122) (i := 0) dX9_readLine_122 rfl rfl ?_
  obtain ⟨q2, hq2, hk⟩ := ab_bnd hk
  obtain ⟨hb, hq2⟩ := ab_on_some hq2
  refine ab_callVI (st := []) (as := []) (b := v0) (pc := 123) dX9_readLine_123 ml_RX9_91 my_X9_good mv_X9_good hb (ct_X9_good hq2) ⟨Nat.le_of_ble_eq_true rfl, Nat.le_of_ble_eq_true rfl⟩ rfl (Nat.le_of_ble_eq_true rfl) rfl ?_
  refine ab_if_eq (pc := 126) (tgt := 151) dX9_readLine_126 rfl (fun hc => ?_) (fun hc => ?_)
  · have hk := ab_ifp hk hc
    refine ab_sub_ (lv2 := [some (ab_R v0)]) (ab_ss ab_s0) ?_
    exact e_X9_readLine_J151 _ _ _ hk
  · have hk := ab_ifn hk hc
    refine ab_aload_n (pc := 129) (i := 0) dX9_readLine_129 rfl rfl ?_
    obtain ⟨t3, ht3, hk⟩ := ab_bnd hk
    refine ab_getR (pc := 130) dX9_readLine_130 fl_RX9_13 ht3 ?_
    refine ab_iconst (pc := 133) dX9_readLine_133 ab_k_0 ?_
    refine ab_dup2 (pc := 134) dX9_readLine_134 rfl rfl ?_
    obtain ⟨t4, ht4, hk⟩ := ab_bnd hk
    refine ab_lald (pc := 135) dX9_readLine_135 ht4 ?_
    refine ab_lconst (x := (1 : Int)) (pc := 136) dX9_readLine_136 rfl ab_kl_1 ?_
    refine ab_ladd (pc := 137) dX9_readLine_137 ?_
    obtain ⟨h1, hh1, hk⟩ := ab_bnd hk
    refine ab_last (pc := 138) dX9_readLine_138 hh1 ?_
    refine ab_goto (pc := 139) (tgt := 151) dX9_readLine_139 rfl ?_
    refine ab_sub_ (lv2 := [some (ab_R v0)]) (ab_ss ab_s0) ?_
    exact e_X9_readLine_J151 _ _ _ hk
noncomputable def f_X9_readLine_J107 (v0 : Int) (h : ab_H) : Option ab_H :=
  (ab_on h 10 v0 (f_X9_good v0 h)).bind fun q1 =>
  if q1.1 = (0 : Int) then
    f_X9_readLine_J118 v0 q1.2
  else
  (ab_on q1.2 10 v0 (f_X9_advance v0 q1.2)).bind fun q2 =>
  f_X9_readLine_J118 v0 q2
set_option maxRecDepth 20000 in
theorem e_X9_readLine_J107 : ∀ (v0 : Int) (h : ab_H) (q : ab_H), f_X9_readLine_J107 v0 h = some q → ab_E mm_X9_readLine cX9_readLine 107 [some (ab_R v0)] [] h none q := by
  intro v0 h q hk
  unfold f_X9_readLine_J107 at hk
  refine ab_aload_n (pc := 107) (i := 0) dX9_readLine_107 rfl rfl ?_
  obtain ⟨q1, hq1, hk⟩ := ab_bnd hk
  obtain ⟨hb, hq1⟩ := ab_on_some hq1
  refine ab_callVI (st := []) (as := []) (b := v0) (pc := 108) dX9_readLine_108 ml_RX9_91 my_X9_good mv_X9_good hb (ct_X9_good hq1) ⟨Nat.le_of_ble_eq_true rfl, Nat.le_of_ble_eq_true rfl⟩ rfl (Nat.le_of_ble_eq_true rfl) rfl ?_
  refine ab_if_eq (pc := 111) (tgt := 118) dX9_readLine_111 rfl (fun hc => ?_) (fun hc => ?_)
  · have hk := ab_ifp hk hc
    refine ab_sub_ (lv2 := [some (ab_R v0)]) (ab_ss ab_s0) ?_
    exact e_X9_readLine_J118 _ _ _ hk
  · have hk := ab_ifn hk hc
    refine ab_aload_n (pc := 114) (i := 0) dX9_readLine_114 rfl rfl ?_
    obtain ⟨q2, hq2, hk⟩ := ab_bnd hk
    obtain ⟨hb, hq2⟩ := ab_on_some hq2
    refine ab_callVV (st := []) (as := []) (b := v0) (pc := 115) dX9_readLine_115 ml_RX9_142 my_X9_advance mv_X9_advance hb (ct_X9_advance hq2) ⟨Nat.le_of_ble_eq_true rfl, Nat.le_of_ble_eq_true rfl⟩ rfl (Nat.le_of_ble_eq_true rfl) rfl ?_
    refine ab_sub_ (lv2 := [some (ab_R v0)]) (ab_ss ab_s0) ?_
    exact e_X9_readLine_J118 _ _ _ hk
noncomputable def f_X9_readLine_J62 (v0 : Int) (h : ab_H) : Option ab_H :=
  (ab_on h 10 v0 (f_X9_good v0 h)).bind fun q1 =>
  if q1.1 = (0 : Int) then
    f_X9_readLine_J151 v0 q1.2
  else
  (ab_on q1.2 10 v0 (f_X9_readSee v0 q1.2)).bind fun q2 =>
  f_X9_readLine_J151 v0 q2
set_option maxRecDepth 20000 in
theorem e_X9_readLine_J62 : ∀ (v0 : Int) (h : ab_H) (q : ab_H), f_X9_readLine_J62 v0 h = some q → ab_E mm_X9_readLine cX9_readLine 62 [some (ab_R v0)] [] h none q := by
  intro v0 h q hk
  unfold f_X9_readLine_J62 at hk
  refine ab_aload_n (pc := 62) (i := 0) dX9_readLine_62 rfl rfl ?_
  obtain ⟨q1, hq1, hk⟩ := ab_bnd hk
  obtain ⟨hb, hq1⟩ := ab_on_some hq1
  refine ab_callVI (st := []) (as := []) (b := v0) (pc := 63) dX9_readLine_63 ml_RX9_91 my_X9_good mv_X9_good hb (ct_X9_good hq1) ⟨Nat.le_of_ble_eq_true rfl, Nat.le_of_ble_eq_true rfl⟩ rfl (Nat.le_of_ble_eq_true rfl) rfl ?_
  refine ab_if_eq (pc := 66) (tgt := 151) dX9_readLine_66 rfl (fun hc => ?_) (fun hc => ?_)
  · have hk := ab_ifp hk hc
    refine ab_sub_ (lv2 := [some (ab_R v0)]) (ab_ss ab_s0) ?_
    exact e_X9_readLine_J151 _ _ _ hk
  · have hk := ab_ifn hk hc
    refine ab_aload_n (pc := 69) (i := 0) dX9_readLine_69 rfl rfl ?_
    obtain ⟨q2, hq2, hk⟩ := ab_bnd hk
    obtain ⟨hb, hq2⟩ := ab_on_some hq2
    refine ab_callVV (st := []) (as := []) (b := v0) (pc := 70) dX9_readLine_70 ml_RX9_231 my_X9_readSee mv_X9_readSee hb (ct_X9_readSee hq2) ⟨Nat.le_of_ble_eq_true rfl, Nat.le_of_ble_eq_true rfl⟩ rfl (Nat.le_of_ble_eq_true rfl) rfl ?_
    refine ab_goto (pc := 73) (tgt := 151) dX9_readLine_73 rfl ?_
    refine ab_sub_ (lv2 := [some (ab_R v0)]) (ab_ss ab_s0) ?_
    exact e_X9_readLine_J151 _ _ _ hk
noncomputable def f_X9_readLine_J51 (v0 : Int) (h : ab_H) : Option ab_H :=
  (ab_on h 10 v0 (f_X9_good v0 h)).bind fun q1 =>
  if q1.1 = (0 : Int) then
    f_X9_readLine_J62 v0 q1.2
  else
  (ab_on q1.2 10 v0 (f_X9_advance v0 q1.2)).bind fun q2 =>
  f_X9_readLine_J62 v0 q2
set_option maxRecDepth 20000 in
theorem e_X9_readLine_J51 : ∀ (v0 : Int) (h : ab_H) (q : ab_H), f_X9_readLine_J51 v0 h = some q → ab_E mm_X9_readLine cX9_readLine 51 [some (ab_R v0)] [] h none q := by
  intro v0 h q hk
  unfold f_X9_readLine_J51 at hk
  refine ab_aload_n (pc := 51) (i := 0) dX9_readLine_51 rfl rfl ?_
  obtain ⟨q1, hq1, hk⟩ := ab_bnd hk
  obtain ⟨hb, hq1⟩ := ab_on_some hq1
  refine ab_callVI (st := []) (as := []) (b := v0) (pc := 52) dX9_readLine_52 ml_RX9_91 my_X9_good mv_X9_good hb (ct_X9_good hq1) ⟨Nat.le_of_ble_eq_true rfl, Nat.le_of_ble_eq_true rfl⟩ rfl (Nat.le_of_ble_eq_true rfl) rfl ?_
  refine ab_if_eq (pc := 55) (tgt := 62) dX9_readLine_55 rfl (fun hc => ?_) (fun hc => ?_)
  · have hk := ab_ifp hk hc
    refine ab_sub_ (lv2 := [some (ab_R v0)]) (ab_ss ab_s0) ?_
    exact e_X9_readLine_J62 _ _ _ hk
  · have hk := ab_ifn hk hc
    refine ab_aload_n (pc := 58) (i := 0) dX9_readLine_58 rfl rfl ?_
    obtain ⟨q2, hq2, hk⟩ := ab_bnd hk
    obtain ⟨hb, hq2⟩ := ab_on_some hq2
    refine ab_callVV (st := []) (as := []) (b := v0) (pc := 59) dX9_readLine_59 ml_RX9_142 my_X9_advance mv_X9_advance hb (ct_X9_advance hq2) ⟨Nat.le_of_ble_eq_true rfl, Nat.le_of_ble_eq_true rfl⟩ rfl (Nat.le_of_ble_eq_true rfl) rfl ?_
    refine ab_sub_ (lv2 := [some (ab_R v0)]) (ab_ss ab_s0) ?_
    exact e_X9_readLine_J62 _ _ _ hk
noncomputable def f_X9_readLine (a0 : Int) (h : ab_H) : Option ab_H :=
  (ab_on h 10 a0 (f_X9_isWord a0 (-2 : Int) h)).bind fun q1 =>
  if q1.1 = (0 : Int) then
    (ab_on q1.2 10 a0 (f_X9_isWord a0 (-12 : Int) q1.2)).bind fun q2 =>
    if q2.1 = (0 : Int) then
      (ab_on q2.2 10 a0 (f_X9_isWord a0 (-13 : Int) q2.2)).bind fun q3 =>
      if q3.1 = (0 : Int) then
        (ab_get q3.2 10 7 a0).bind fun t4 =>
        (ab_on q3.2 10 a0 (f_X9_errs a0 (1 : Int) t4 q3.2)).bind fun q5 =>
        f_X9_readLine_J151 a0 q5
      else
      (ab_get q3.2 10 2 a0).bind fun t6 =>
      (ab_ald q3.2 12 t6 (0 : Int)).bind fun t7 =>
      if ab_cmp t7 (12 : Int) = (0 : Int) then
        (ab_get q3.2 10 7 a0).bind fun t8 =>
        (ab_on q3.2 10 a0 (f_X9_errs a0 (4 : Int) t8 q3.2)).bind fun q9 =>
        f_X9_readLine_J107 a0 q9
      else
      f_X9_readLine_J107 a0 q3.2
    else
    (ab_get q2.2 10 2 a0).bind fun t10 =>
    (ab_ald q2.2 12 t10 (1 : Int)).bind fun t11 =>
    if ab_cmp t11 (12 : Int) = (0 : Int) then
      (ab_get q2.2 10 7 a0).bind fun t12 =>
      (ab_on q2.2 10 a0 (f_X9_errs a0 (4 : Int) t12 q2.2)).bind fun q13 =>
      f_X9_readLine_J51 a0 q13
    else
    f_X9_readLine_J51 a0 q2.2
  else
  (ab_on q1.2 10 a0 (f_X9_advance a0 q1.2)).bind fun q14 =>
  (ab_on q14 10 a0 (f_X9_readLaw a0 q14)).bind fun q15 =>
  f_X9_readLine_J151 a0 q15
set_option maxRecDepth 20000 in
theorem ct_X9_readLine {a0 : Int} {h : ab_H} {q : ab_H} (hk : f_X9_readLine a0 h = some q) : ab_CT yX9_readLine cX9_readLine 1 none 12 303 [ab_R a0] h none q := by
  refine ab_CT.mk_ 0 (own := RX9) (ini := false) (lv := [some (ab_R a0)]) rfl (by decide +kernel) (fun q => by cases q) rfl rfl ?_
  unfold f_X9_readLine at hk
  show ab_E mm_X9_readLine cX9_readLine 0 _ [] h _ _
  refine ab_aload_n (pc := 0) (i := 0) dX9_readLine_0 rfl rfl ?_
  refine ab_lds (j := 1) (pc := 1) dX9_readLine_1 rfl ?_
  obtain ⟨q1, hq1, hk⟩ := ab_bnd hk
  obtain ⟨hb, hq1⟩ := ab_on_some hq1
  refine ab_callVI (st := []) (as := [ab_R (-2 : Int)]) (b := a0) (pc := 3) dX9_readLine_3 ml_RX9_138 my_X9_isWord mv_X9_isWord hb (ct_X9_isWord hq1) ⟨Nat.le_of_ble_eq_true rfl, Nat.le_of_ble_eq_true rfl⟩ rfl (Nat.le_of_ble_eq_true rfl) rfl ?_
  refine ab_if_eq (pc := 6) (tgt := 20) dX9_readLine_6 rfl (fun hc => ?_) (fun hc => ?_)
  · have hk := ab_ifp hk hc
    refine ab_aload_n (pc := 20) (i := 0) dX9_readLine_20 rfl rfl ?_
    refine ab_lds (j := 11) (pc := 21) dX9_readLine_21 rfl ?_
    obtain ⟨q2, hq2, hk⟩ := ab_bnd hk
    obtain ⟨hb, hq2⟩ := ab_on_some hq2
    refine ab_callVI (st := []) (as := [ab_R (-12 : Int)]) (b := a0) (pc := 23) dX9_readLine_23 ml_RX9_138 my_X9_isWord mv_X9_isWord hb (ct_X9_isWord hq2) ⟨Nat.le_of_ble_eq_true rfl, Nat.le_of_ble_eq_true rfl⟩ rfl (Nat.le_of_ble_eq_true rfl) rfl ?_
    refine ab_if_eq (pc := 26) (tgt := 76) dX9_readLine_26 rfl (fun hc => ?_) (fun hc => ?_)
    · have hk := ab_ifp hk hc
      refine ab_aload_n (pc := 76) (i := 0) dX9_readLine_76 rfl rfl ?_
      refine ab_lds (j := 12) (pc := 77) dX9_readLine_77 rfl ?_
      obtain ⟨q3, hq3, hk⟩ := ab_bnd hk
      obtain ⟨hb, hq3⟩ := ab_on_some hq3
      refine ab_callVI (st := []) (as := [ab_R (-13 : Int)]) (b := a0) (pc := 79) dX9_readLine_79 ml_RX9_138 my_X9_isWord mv_X9_isWord hb (ct_X9_isWord hq3) ⟨Nat.le_of_ble_eq_true rfl, Nat.le_of_ble_eq_true rfl⟩ rfl (Nat.le_of_ble_eq_true rfl) rfl ?_
      refine ab_if_eq (pc := 82) (tgt := 142) dX9_readLine_82 rfl (fun hc => ?_) (fun hc => ?_)
      · have hk := ab_ifp hk hc
        refine ab_aload_n (pc := 142) (i := 0) dX9_readLine_142 rfl rfl ?_
        refine ab_iconst (pc := 143) dX9_readLine_143 ab_k_1 ?_
        refine ab_aload_n (pc := 144) (i := 0) dX9_readLine_144 rfl rfl ?_
        obtain ⟨t4, ht4, hk⟩ := ab_bnd hk
        refine ab_getI (pc := 145) dX9_readLine_145 fl_RX9_105 ht4 ?_
        obtain ⟨q5, hq5, hk⟩ := ab_bnd hk
        obtain ⟨hb, hq5⟩ := ab_on_some hq5
        refine ab_callVV (st := []) (as := [ab_I (1 : Int), ab_I t4]) (b := a0) (pc := 148) dX9_readLine_148 ml_RX9_149 my_X9_errs mv_X9_errs hb (ct_X9_errs hq5) ⟨Nat.le_of_ble_eq_true rfl, Nat.le_of_ble_eq_true rfl⟩ rfl (Nat.le_of_ble_eq_true rfl) rfl ?_
        refine ab_sub_ (lv2 := [some (ab_R a0)]) (ab_ss ab_s0) ?_
        exact e_X9_readLine_J151 _ _ _ hk
      · have hk := ab_ifn hk hc
        refine ab_aload_n (pc := 85) (i := 0) dX9_readLine_85 rfl rfl ?_
        obtain ⟨t6, ht6, hk⟩ := ab_bnd hk
        refine ab_getR (pc := 86) dX9_readLine_86 fl_RX9_13 ht6 ?_
        refine ab_iconst (pc := 89) dX9_readLine_89 ab_k_0 ?_
        obtain ⟨t7, ht7, hk⟩ := ab_bnd hk
        refine ab_lald (pc := 90) dX9_readLine_90 ht7 ?_
        refine ab_ldc2 (x := (12 : Int)) (pc := 91) dX9_readLine_91 ab_ld2_RX9_229 ab_kl_12 ?_
        refine ab_lcmp_ (pc := 94) dX9_readLine_94 ?_
        refine ab_if_ne (pc := 95) (tgt := 107) dX9_readLine_95 rfl (fun hc => ?_) (fun hc => ?_)
        · have hk := ab_ifn hk hc
          refine ab_sub_ (lv2 := [some (ab_R a0)]) (ab_ss ab_s0) ?_
          exact e_X9_readLine_J107 _ _ _ hk
        · have hk := ab_ifp hk hc
          refine ab_aload_n (pc := 98) (i := 0) dX9_readLine_98 rfl rfl ?_
          refine ab_iconst (pc := 99) dX9_readLine_99 ab_k_4 ?_
          refine ab_aload_n (pc := 100) (i := 0) dX9_readLine_100 rfl rfl ?_
          obtain ⟨t8, ht8, hk⟩ := ab_bnd hk
          refine ab_getI (pc := 101) dX9_readLine_101 fl_RX9_105 ht8 ?_
          obtain ⟨q9, hq9, hk⟩ := ab_bnd hk
          obtain ⟨hb, hq9⟩ := ab_on_some hq9
          refine ab_callVV (st := []) (as := [ab_I (4 : Int), ab_I t8]) (b := a0) (pc := 104) dX9_readLine_104 ml_RX9_149 my_X9_errs mv_X9_errs hb (ct_X9_errs hq9) ⟨Nat.le_of_ble_eq_true rfl, Nat.le_of_ble_eq_true rfl⟩ rfl (Nat.le_of_ble_eq_true rfl) rfl ?_
          refine ab_sub_ (lv2 := [some (ab_R a0)]) (ab_ss ab_s0) ?_
          exact e_X9_readLine_J107 _ _ _ hk
    · have hk := ab_ifn hk hc
      refine ab_aload_n (pc := 29) (i := 0) dX9_readLine_29 rfl rfl ?_
      obtain ⟨t10, ht10, hk⟩ := ab_bnd hk
      refine ab_getR (pc := 30) dX9_readLine_30 fl_RX9_13 ht10 ?_
      refine ab_iconst (pc := 33) dX9_readLine_33 ab_k_1 ?_
      obtain ⟨t11, ht11, hk⟩ := ab_bnd hk
      refine ab_lald (pc := 34) dX9_readLine_34 ht11 ?_
      refine ab_ldc2 (x := (12 : Int)) (pc := 35) dX9_readLine_35 ab_ld2_RX9_229 ab_kl_12 ?_
      refine ab_lcmp_ (pc := 38) dX9_readLine_38 ?_
      refine ab_if_ne (pc := 39) (tgt := 51) dX9_readLine_39 rfl (fun hc => ?_) (fun hc => ?_)
      · have hk := ab_ifn hk hc
        refine ab_sub_ (lv2 := [some (ab_R a0)]) (ab_ss ab_s0) ?_
        exact e_X9_readLine_J51 _ _ _ hk
      · have hk := ab_ifp hk hc
        refine ab_aload_n (pc := 42) (i := 0) dX9_readLine_42 rfl rfl ?_
        refine ab_iconst (pc := 43) dX9_readLine_43 ab_k_4 ?_
        refine ab_aload_n (pc := 44) (i := 0) dX9_readLine_44 rfl rfl ?_
        obtain ⟨t12, ht12, hk⟩ := ab_bnd hk
        refine ab_getI (pc := 45) dX9_readLine_45 fl_RX9_105 ht12 ?_
        obtain ⟨q13, hq13, hk⟩ := ab_bnd hk
        obtain ⟨hb, hq13⟩ := ab_on_some hq13
        refine ab_callVV (st := []) (as := [ab_I (4 : Int), ab_I t12]) (b := a0) (pc := 48) dX9_readLine_48 ml_RX9_149 my_X9_errs mv_X9_errs hb (ct_X9_errs hq13) ⟨Nat.le_of_ble_eq_true rfl, Nat.le_of_ble_eq_true rfl⟩ rfl (Nat.le_of_ble_eq_true rfl) rfl ?_
        refine ab_sub_ (lv2 := [some (ab_R a0)]) (ab_ss ab_s0) ?_
        exact e_X9_readLine_J51 _ _ _ hk
  · have hk := ab_ifn hk hc
    refine ab_aload_n (pc := 9) (i := 0) dX9_readLine_9 rfl rfl ?_
    obtain ⟨q14, hq14, hk⟩ := ab_bnd hk
    obtain ⟨hb, hq14⟩ := ab_on_some hq14
    refine ab_callVV (st := []) (as := []) (b := a0) (pc := 10) dX9_readLine_10 ml_RX9_142 my_X9_advance mv_X9_advance hb (ct_X9_advance hq14) ⟨Nat.le_of_ble_eq_true rfl, Nat.le_of_ble_eq_true rfl⟩ rfl (Nat.le_of_ble_eq_true rfl) rfl ?_
    refine ab_aload_n (pc := 13) (i := 0) dX9_readLine_13 rfl rfl ?_
    obtain ⟨q15, hq15, hk⟩ := ab_bnd hk
    obtain ⟨hb, hq15⟩ := ab_on_some hq15
    refine ab_callVV (st := []) (as := []) (b := a0) (pc := 14) dX9_readLine_14 ml_RX9_226 my_X9_readLaw mv_X9_readLaw hb (ct_X9_readLaw hq15) ⟨Nat.le_of_ble_eq_true rfl, Nat.le_of_ble_eq_true rfl⟩ rfl (Nat.le_of_ble_eq_true rfl) rfl ?_
    refine ab_goto (pc := 17) (tgt := 151) dX9_readLine_17 rfl ?_
    refine ab_sub_ (lv2 := [some (ab_R a0)]) (ab_ss ab_s0) ?_
    exact e_X9_readLine_J151 _ _ _ hk
