theorem dX4_init_0 : decode cX4_init 0 = .ok (.aload_n 0, 1) := by decide +kernel
theorem dX4_init_1 : decode cX4_init 1 = .ok (.invokespecial 3, 3) := by decide +kernel
theorem dX4_init_4 : decode cX4_init 4 = .ok (.aload_n 0, 1) := by decide +kernel
theorem dX4_init_5 : decode cX4_init 5 = .ok (.bipush 15, 2) := by decide +kernel
theorem dX4_init_7 : decode cX4_init 7 = .ok (.newarray .long, 2) := by decide +kernel
theorem dX4_init_9 : decode cX4_init 9 = .ok (.putfield 11, 3) := by decide +kernel
theorem dX4_init_12 : decode cX4_init 12 = .ok (.aload_n 0, 1) := by decide +kernel
theorem dX4_init_13 : decode cX4_init 13 = .ok (.sipush 1201, 3) := by decide +kernel
theorem dX4_init_16 : decode cX4_init 16 = .ok (.newarray .int, 2) := by decide +kernel
theorem dX4_init_18 : decode cX4_init 18 = .ok (.putfield 15, 3) := by decide +kernel
theorem dX4_init_21 : decode cX4_init 21 = .ok (.aload_n 0, 1) := by decide +kernel
theorem dX4_init_22 : decode cX4_init 22 = .ok (.sipush 1201, 3) := by decide +kernel
theorem dX4_init_25 : decode cX4_init 25 = .ok (.newarray .int, 2) := by decide +kernel
theorem dX4_init_27 : decode cX4_init 27 = .ok (.putfield 19, 3) := by decide +kernel
theorem dX4_init_30 : decode cX4_init 30 = .ok (.aload_n 0, 1) := by decide +kernel
theorem dX4_init_31 : decode cX4_init 31 = .ok (.sipush 1201, 3) := by decide +kernel
theorem dX4_init_34 : decode cX4_init 34 = .ok (.newarray .long, 2) := by decide +kernel
theorem dX4_init_36 : decode cX4_init 36 = .ok (.putfield 22, 3) := by decide +kernel
theorem dX4_init_39 : decode cX4_init 39 = .ok (.aload_n 0, 1) := by decide +kernel
theorem dX4_init_40 : decode cX4_init 40 = .ok (.iconst (-1), 1) := by decide +kernel
theorem dX4_init_41 : decode cX4_init 41 = .ok (.putfield 25, 3) := by decide +kernel
theorem dX4_init_44 : decode cX4_init 44 = .ok (.iconst 0, 1) := by decide +kernel
theorem dX4_init_45 : decode cX4_init 45 = .ok (.istore_n 1, 1) := by decide +kernel
theorem dX4_init_46 : decode cX4_init 46 = .ok (.lconst 0, 1) := by decide +kernel
theorem dX4_init_47 : decode cX4_init 47 = .ok (.lstore_n 2, 1) := by decide +kernel
theorem dX4_init_48 : decode cX4_init 48 = .ok (.iconst 0, 1) := by decide +kernel
theorem dX4_init_49 : decode cX4_init 49 = .ok (.istore 4, 2) := by decide +kernel
theorem dX4_init_51 : decode cX4_init 51 = .ok (.iload 4, 2) := by decide +kernel
theorem dX4_init_53 : decode cX4_init 53 = .ok (.ldc 29, 2) := by decide +kernel
theorem dX4_init_55 : decode cX4_init 55 = .ok (.invokevirtual 31, 3) := by decide +kernel
theorem dX4_init_58 : decode cX4_init 58 = .ok (.if_icmp .ge 58, 3) := by decide +kernel
theorem dX4_init_61 : decode cX4_init 61 = .ok (.iload_n 1, 1) := by decide +kernel
theorem dX4_init_62 : decode cX4_init 62 = .ok (.bipush 15, 2) := by decide +kernel
theorem dX4_init_64 : decode cX4_init 64 = .ok (.if_icmp .ge 52, 3) := by decide +kernel
theorem dX4_init_67 : decode cX4_init 67 = .ok (.ldc 29, 2) := by decide +kernel
theorem dX4_init_69 : decode cX4_init 69 = .ok (.iload 4, 2) := by decide +kernel
theorem dX4_init_71 : decode cX4_init 71 = .ok (.invokevirtual 37, 3) := by decide +kernel
theorem dX4_init_74 : decode cX4_init 74 = .ok (.invokestatic 41, 3) := by decide +kernel
theorem dX4_init_77 : decode cX4_init 77 = .ok (.ifCond .eq 18, 3) := by decide +kernel
theorem dX4_init_80 : decode cX4_init 80 = .ok (.lload_n 2, 1) := by decide +kernel
theorem dX4_init_81 : decode cX4_init 81 = .ok (.ldc 29, 2) := by decide +kernel
theorem dX4_init_83 : decode cX4_init 83 = .ok (.iload 4, 2) := by decide +kernel
theorem dX4_init_85 : decode cX4_init 85 = .ok (.invokevirtual 37, 3) := by decide +kernel
theorem dX4_init_88 : decode cX4_init 88 = .ok (.invokestatic 45, 3) := by decide +kernel
theorem dX4_init_91 : decode cX4_init 91 = .ok (.lstore_n 2, 1) := by decide +kernel
theorem dX4_init_92 : decode cX4_init 92 = .ok (.goto 18, 3) := by decide +kernel
theorem dX4_init_95 : decode cX4_init 95 = .ok (.aload_n 0, 1) := by decide +kernel
theorem dX4_init_96 : decode cX4_init 96 = .ok (.getfield 11, 3) := by decide +kernel
theorem dX4_init_99 : decode cX4_init 99 = .ok (.iload_n 1, 1) := by decide +kernel
theorem dX4_init_100 : decode cX4_init 100 = .ok (.iinc 1 1, 3) := by decide +kernel
theorem dX4_init_103 : decode cX4_init 103 = .ok (.lload_n 2, 1) := by decide +kernel
theorem dX4_init_104 : decode cX4_init 104 = .ok (.invokestatic 49, 3) := by decide +kernel
theorem dX4_init_107 : decode cX4_init 107 = .ok (.lastore, 1) := by decide +kernel
theorem dX4_init_108 : decode cX4_init 108 = .ok (.lconst 0, 1) := by decide +kernel
theorem dX4_init_109 : decode cX4_init 109 = .ok (.lstore_n 2, 1) := by decide +kernel
theorem dX4_init_110 : decode cX4_init 110 = .ok (.iinc 4 1, 3) := by decide +kernel
theorem dX4_init_113 : decode cX4_init 113 = .ok (.goto (-62), 3) := by decide +kernel
theorem dX4_init_116 : decode cX4_init 116 = .ok (.return_, 1) := by decide +kernel
abbrev mm_X4_init : ab_M := (RX4, 5, none, true, 5, 150, none)
noncomputable def f_X4_init_J110 (rec : Int → Int → Int → Int → ab_H → Option ab_H) (v0 : Int) (v1 : Int) (v2 : Int) (v4 : Int) (h : ab_H) : Option ab_H :=
  rec v0 v1 v2 (ab_w32 (v4 + (1 : Int))) h
set_option maxRecDepth 20000 in
theorem e_X4_init_J110 {rec : Int → Int → Int → Int → ab_H → Option ab_H} (hrec : ∀ (v0 : Int) (v1 : Int) (v2 : Int) (v4 : Int) (h : ab_H) (q : ab_H), rec v0 v1 v2 v4 h = some q → ab_E mm_X4_init cX4_init 51 [some (ab_R v0), some (ab_I v1), some (ab_J v2), none, some (ab_I v4)] [] h none q) : ∀ (v0 : Int) (v1 : Int) (v2 : Int) (v4 : Int) (h : ab_H) (q : ab_H), f_X4_init_J110 rec v0 v1 v2 v4 h = some q → ab_E mm_X4_init cX4_init 110 [some (ab_R v0), some (ab_I v1), some (ab_J v2), none, some (ab_I v4)] [] h none q := by
  intro v0 v1 v2 v4 h q hk
  unfold f_X4_init_J110 at hk
  refine ab_iinc (pc := 110) (i := 4) (lv2 := [some (ab_R v0), some (ab_I v1), some (ab_J v2), none, some (ab_I (ab_w32 (v4 + (1 : Int))))]) dX4_init_110 rfl (Nat.le_of_ble_eq_true rfl) rfl rfl ?_
  refine ab_goto (pc := 113) (tgt := 51) dX4_init_113 rfl ?_
  refine ab_sub_ (lv2 := [some (ab_R v0), some (ab_I v1), some (ab_J v2), none, some (ab_I (ab_w32 (v4 + (1 : Int))))]) (ab_ss (ab_ss (ab_ss (ab_sn (ab_ss ab_s0))))) ?_
  exact hrec _ _ _ _ _ _ hk
noncomputable def f_X4_init_L51 : Nat → Int → Int → Int → Int → ab_H → Option ab_H
  | 0, _, _, _, _, _ => none
  | n + 1, v0, v1, v2, v4, h =>
    (ab_slen (-1 : Int)).bind fun t1 =>
    if t1 ≤ v4 then
      some h
    else
    if (15 : Int) ≤ v1 then
      some h
    else
    (ab_schr (-1 : Int) v4).bind fun t2 =>
    (f_X8_isLetter t2 h).bind fun q3 =>
    if q3.1 = (0 : Int) then
      (ab_get q3.2 5 0 v0).bind fun t4 =>
      (f_X8_aligned v2 q3.2).bind fun q5 =>
      (ab_ast q5.2 12 t4 v1 q5.1).bind fun h1 =>
      f_X4_init_J110 (f_X4_init_L51 n) v0 (ab_w32 (v1 + (1 : Int))) (0 : Int) v4 h1
    else
    (ab_schr (-1 : Int) v4).bind fun t6 =>
    (f_X8_grown v2 t6 q3.2).bind fun q7 =>
    f_X4_init_J110 (f_X4_init_L51 n) v0 v1 q7.1 v4 q7.2
set_option maxRecDepth 20000 in
theorem e_X4_init_L51 : ∀ (n : Nat) (v0 : Int) (v1 : Int) (v2 : Int) (v4 : Int) (h : ab_H) (q : ab_H), f_X4_init_L51 n v0 v1 v2 v4 h = some q → ab_E mm_X4_init cX4_init 51 [some (ab_R v0), some (ab_I v1), some (ab_J v2), none, some (ab_I v4)] [] h none q := by
  intro n
  induction n with
  | zero => intro v0 v1 v2 v4 h q hk; cases hk
  | succ n ih =>
    intro v0 v1 v2 v4 h q hk
    unfold f_X4_init_L51 at hk
    refine ab_iload (pc := 51) (i := 4) dX4_init_51 rfl ?_
    refine ab_lds (j := 0) (pc := 53) dX4_init_53 rfl ?_
    obtain ⟨t1, ht1, hk⟩ := ab_bnd hk
    refine ab_slen_ (st := [ab_I v4]) (pc := 55) dX4_init_55 sl_RX4_31 ht1 (Nat.le_of_ble_eq_true rfl) (Nat.le_of_ble_eq_true rfl) (Nat.le_of_ble_eq_true rfl) ?_
    refine ab_icmp_ge (pc := 58) (tgt := 116) dX4_init_58 rfl (fun hc => ?_) (fun hc => ?_)
    · have hk := ab_ifp hk hc
      obtain rfl := Option.some.inj hk
      exact ab_retv (pc := 116) dX4_init_116 rfl
    · have hk := ab_ifn hk hc
      refine ab_iload_n (pc := 61) (i := 1) dX4_init_61 rfl rfl ?_
      refine ab_bipush (pc := 62) dX4_init_62 ab_p8_15 ab_k_15 ?_
      refine ab_icmp_ge (pc := 64) (tgt := 116) dX4_init_64 rfl (fun hc => ?_) (fun hc => ?_)
      · have hk := ab_ifp hk hc
        obtain rfl := Option.some.inj hk
        exact ab_retv (pc := 116) dX4_init_116 rfl
      · have hk := ab_ifn hk hc
        refine ab_lds (j := 0) (pc := 67) dX4_init_67 rfl ?_
        refine ab_iload (pc := 69) (i := 4) dX4_init_69 rfl ?_
        obtain ⟨t2, ht2, hk⟩ := ab_bnd hk
        refine ab_schr_ (st := []) (pc := 71) dX4_init_71 sl_RX4_37 ht2 (Nat.le_of_ble_eq_true rfl) (Nat.le_of_ble_eq_true rfl) (Nat.le_of_ble_eq_true rfl) ?_
        obtain ⟨q3, hq3, hk⟩ := ab_bnd hk
        refine ab_callSI (st := []) (as := [ab_I t2]) (pc := 74) dX4_init_74 ml_RX4_41 my_X8_isLetter ms_X8_isLetter (ct_X8_isLetter hq3) ⟨Nat.le_of_ble_eq_true rfl, Nat.le_of_ble_eq_true rfl⟩ rfl (Nat.le_of_ble_eq_true rfl) rfl ?_
        refine ab_if_eq (pc := 77) (tgt := 95) dX4_init_77 rfl (fun hc => ?_) (fun hc => ?_)
        · have hk := ab_ifp hk hc
          refine ab_aload_n (pc := 95) (i := 0) dX4_init_95 rfl rfl ?_
          obtain ⟨t4, ht4, hk⟩ := ab_bnd hk
          refine ab_getR (pc := 96) dX4_init_96 fl_RX4_11 ht4 ?_
          refine ab_iload_n (pc := 99) (i := 1) dX4_init_99 rfl rfl ?_
          refine ab_iinc (pc := 100) (i := 1) (lv2 := [some (ab_R v0), some (ab_I (ab_w32 (v1 + (1 : Int)))), some (ab_J v2), none, some (ab_I v4)]) dX4_init_100 rfl (Nat.le_of_ble_eq_true rfl) rfl rfl ?_
          refine ab_lload_n (pc := 103) (i := 2) dX4_init_103 rfl rfl ?_
          obtain ⟨q5, hq5, hk⟩ := ab_bnd hk
          refine ab_callSJ (st := [ab_I v1, ab_R t4]) (as := [ab_J v2]) (pc := 104) dX4_init_104 ml_RX4_49 my_X8_aligned ms_X8_aligned (ct_X8_aligned hq5) ⟨Nat.le_of_ble_eq_true rfl, Nat.le_of_ble_eq_true rfl⟩ rfl (Nat.le_of_ble_eq_true rfl) rfl ?_
          obtain ⟨h1, hh1, hk⟩ := ab_bnd hk
          refine ab_last (pc := 107) dX4_init_107 hh1 ?_
          refine ab_lconst (x := (0 : Int)) (pc := 108) dX4_init_108 rfl ab_kl_0 ?_
          refine ab_lstore_n (pc := 109) (i := 2) (lv2 := [some (ab_R v0), some (ab_I (ab_w32 (v1 + (1 : Int)))), some (ab_J (0 : Int)), none, some (ab_I v4)]) dX4_init_109 rfl (Nat.le_of_ble_eq_true rfl) rfl rfl ?_
          refine ab_sub_ (lv2 := [some (ab_R v0), some (ab_I (ab_w32 (v1 + (1 : Int)))), some (ab_J (0 : Int)), none, some (ab_I v4)]) (ab_ss (ab_ss (ab_ss (ab_sn (ab_ss ab_s0))))) ?_
          exact e_X4_init_J110 ih _ _ _ _ _ _ hk
        · have hk := ab_ifn hk hc
          refine ab_lload_n (pc := 80) (i := 2) dX4_init_80 rfl rfl ?_
          refine ab_lds (j := 0) (pc := 81) dX4_init_81 rfl ?_
          refine ab_iload (pc := 83) (i := 4) dX4_init_83 rfl ?_
          obtain ⟨t6, ht6, hk⟩ := ab_bnd hk
          refine ab_schr_ (st := [ab_J v2]) (pc := 85) dX4_init_85 sl_RX4_37 ht6 (Nat.le_of_ble_eq_true rfl) (Nat.le_of_ble_eq_true rfl) (Nat.le_of_ble_eq_true rfl) ?_
          obtain ⟨q7, hq7, hk⟩ := ab_bnd hk
          refine ab_callSJ (st := []) (as := [ab_J v2, ab_I t6]) (pc := 88) dX4_init_88 ml_RX4_45 my_X8_grown ms_X8_grown (ct_X8_grown hq7) ⟨Nat.le_of_ble_eq_true rfl, Nat.le_of_ble_eq_true rfl⟩ rfl (Nat.le_of_ble_eq_true rfl) rfl ?_
          refine ab_lstore_n (pc := 91) (i := 2) (lv2 := [some (ab_R v0), some (ab_I v1), some (ab_J q7.1), none, some (ab_I v4)]) dX4_init_91 rfl (Nat.le_of_ble_eq_true rfl) rfl rfl ?_
          refine ab_goto (pc := 92) (tgt := 110) dX4_init_92 rfl ?_
          refine ab_sub_ (lv2 := [some (ab_R v0), some (ab_I v1), some (ab_J q7.1), none, some (ab_I v4)]) (ab_ss (ab_ss (ab_ss (ab_sn (ab_ss ab_s0))))) ?_
          exact e_X4_init_J110 ih _ _ _ _ _ _ hk
noncomputable def f_X4_init (a0 : Int) (h : ab_H) : Option ab_H :=
  ab_if (decide (0 < a0)) <|
  (ab_mkA h 12 (15 : Int)).bind fun h1 =>
  (ab_putR h1 5 0 a0 (ab_nx h)).bind fun h2 =>
  (ab_mkA h2 11 (1201 : Int)).bind fun h3 =>
  (ab_putR h3 5 1 a0 (ab_nx h2)).bind fun h4 =>
  (ab_mkA h4 11 (1201 : Int)).bind fun h5 =>
  (ab_putR h5 5 2 a0 (ab_nx h4)).bind fun h6 =>
  (ab_mkA h6 12 (1201 : Int)).bind fun h7 =>
  (ab_putR h7 5 3 a0 (ab_nx h6)).bind fun h8 =>
  (ab_put h8 5 10 a0 (-1 : Int)).bind fun h9 =>
  f_X4_init_L51 ab_FU a0 (0 : Int) (0 : Int) (0 : Int) h9
set_option maxRecDepth 20000 in
theorem ct_X4_init {a0 : Int} {h : ab_H} {q : ab_H} (hk : f_X4_init a0 h = some q) : ab_CT yX4_init cX4_init 5 none 5 150 [ab_R a0] h none q := by
  refine ab_CT.mk_ 4 (own := RX4) (ini := true) (lv := [some (ab_R a0), none, none, none, none]) rfl (by decide +kernel) (fun _ => rfl) rfl rfl ?_
  unfold f_X4_init at hk
  show ab_E mm_X4_init cX4_init 0 _ [] h _ _
  refine ab_aload_n (pc := 0) (i := 0) dX4_init_0 rfl rfl ?_
  obtain ⟨hg, hk⟩ := ab_if_some hk
  refine ab_obj0_ (pc := 1) dX4_init_1 ob_RX4_3 hg (Nat.le_of_ble_eq_true rfl) (Nat.le_of_ble_eq_true rfl) (Nat.le_of_ble_eq_true rfl) ?_
  refine ab_aload_n (pc := 4) (i := 0) dX4_init_4 rfl rfl ?_
  refine ab_bipush (pc := 5) dX4_init_5 ab_p8_15 ab_k_15 ?_
  obtain ⟨h1, hh1, hk⟩ := ab_bnd hk
  refine ab_newA (pc := 7) dX4_init_7 (by decide) ab_ac_long hh1 ?_
  obtain ⟨h2, hh2, hk⟩ := ab_bnd hk
  refine ab_putR_ (pc := 9) dX4_init_9 fl_RX4_11 (fun _ => ⟨rfl, rfl⟩) hh2 ?_
  refine ab_aload_n (pc := 12) (i := 0) dX4_init_12 rfl rfl ?_
  refine ab_sipush (pc := 13) dX4_init_13 ab_p16_1201 ab_k_1201 ?_
  obtain ⟨h3, hh3, hk⟩ := ab_bnd hk
  refine ab_newA (pc := 16) dX4_init_16 (by decide) ab_ac_int hh3 ?_
  obtain ⟨h4, hh4, hk⟩ := ab_bnd hk
  refine ab_putR_ (pc := 18) dX4_init_18 fl_RX4_15 (fun _ => ⟨rfl, rfl⟩) hh4 ?_
  refine ab_aload_n (pc := 21) (i := 0) dX4_init_21 rfl rfl ?_
  refine ab_sipush (pc := 22) dX4_init_22 ab_p16_1201 ab_k_1201 ?_
  obtain ⟨h5, hh5, hk⟩ := ab_bnd hk
  refine ab_newA (pc := 25) dX4_init_25 (by decide) ab_ac_int hh5 ?_
  obtain ⟨h6, hh6, hk⟩ := ab_bnd hk
  refine ab_putR_ (pc := 27) dX4_init_27 fl_RX4_19 (fun _ => ⟨rfl, rfl⟩) hh6 ?_
  refine ab_aload_n (pc := 30) (i := 0) dX4_init_30 rfl rfl ?_
  refine ab_sipush (pc := 31) dX4_init_31 ab_p16_1201 ab_k_1201 ?_
  obtain ⟨h7, hh7, hk⟩ := ab_bnd hk
  refine ab_newA (pc := 34) dX4_init_34 (by decide) ab_ac_long hh7 ?_
  obtain ⟨h8, hh8, hk⟩ := ab_bnd hk
  refine ab_putR_ (pc := 36) dX4_init_36 fl_RX4_22 (fun _ => ⟨rfl, rfl⟩) hh8 ?_
  refine ab_aload_n (pc := 39) (i := 0) dX4_init_39 rfl rfl ?_
  refine ab_iconst (pc := 40) dX4_init_40 ab_k_m1 ?_
  obtain ⟨h9, hh9, hk⟩ := ab_bnd hk
  refine ab_putI_ (pc := 41) dX4_init_41 fl_RX4_25 (fun q => by cases q) hh9 ?_
  refine ab_iconst (pc := 44) dX4_init_44 ab_k_0 ?_
  refine ab_istore_n (pc := 45) (i := 1) (lv2 := [some (ab_R a0), some (ab_I (0 : Int)), none, none, none]) dX4_init_45 rfl (Nat.le_of_ble_eq_true rfl) rfl rfl ?_
  refine ab_lconst (x := (0 : Int)) (pc := 46) dX4_init_46 rfl ab_kl_0 ?_
  refine ab_lstore_n (pc := 47) (i := 2) (lv2 := [some (ab_R a0), some (ab_I (0 : Int)), some (ab_J (0 : Int)), none, none]) dX4_init_47 rfl (Nat.le_of_ble_eq_true rfl) rfl rfl ?_
  refine ab_iconst (pc := 48) dX4_init_48 ab_k_0 ?_
  refine ab_istore (pc := 49) (i := 4) (lv2 := [some (ab_R a0), some (ab_I (0 : Int)), some (ab_J (0 : Int)), none, some (ab_I (0 : Int))]) dX4_init_49 (Nat.le_of_ble_eq_true rfl) rfl rfl ?_
  refine ab_sub_ (lv2 := [some (ab_R a0), some (ab_I (0 : Int)), some (ab_J (0 : Int)), none, some (ab_I (0 : Int))]) (ab_ss (ab_ss (ab_ss (ab_sn (ab_ss ab_s0))))) ?_
  refine e_X4_init_L51 _ _ _ _ _ _ _ hk
theorem dX4_kindOf_0 : decode cX4_kindOf 0 = .ok (.iload_n 0, 1) := by decide +kernel
theorem dX4_kindOf_1 : decode cX4_kindOf 1 = .ok (.bipush 32, 2) := by decide +kernel
theorem dX4_kindOf_3 : decode cX4_kindOf 3 = .ok (.if_icmp .eq 9, 3) := by decide +kernel
theorem dX4_kindOf_6 : decode cX4_kindOf 6 = .ok (.iload_n 0, 1) := by decide +kernel
theorem dX4_kindOf_7 : decode cX4_kindOf 7 = .ok (.bipush 10, 2) := by decide +kernel
theorem dX4_kindOf_9 : decode cX4_kindOf 9 = .ok (.if_icmp .ne 6, 3) := by decide +kernel
theorem dX4_kindOf_12 : decode cX4_kindOf 12 = .ok (.bipush 6, 2) := by decide +kernel
theorem dX4_kindOf_14 : decode cX4_kindOf 14 = .ok (.ireturn, 1) := by decide +kernel
theorem dX4_kindOf_15 : decode cX4_kindOf 15 = .ok (.iload_n 0, 1) := by decide +kernel
theorem dX4_kindOf_16 : decode cX4_kindOf 16 = .ok (.invokestatic 41, 3) := by decide +kernel
theorem dX4_kindOf_19 : decode cX4_kindOf 19 = .ok (.ifCond .eq 5, 3) := by decide +kernel
theorem dX4_kindOf_22 : decode cX4_kindOf 22 = .ok (.iconst 2, 1) := by decide +kernel
theorem dX4_kindOf_23 : decode cX4_kindOf 23 = .ok (.ireturn, 1) := by decide +kernel
theorem dX4_kindOf_24 : decode cX4_kindOf 24 = .ok (.iload_n 0, 1) := by decide +kernel
theorem dX4_kindOf_25 : decode cX4_kindOf 25 = .ok (.bipush 48, 2) := by decide +kernel
theorem dX4_kindOf_27 : decode cX4_kindOf 27 = .ok (.if_icmp .lt 13, 3) := by decide +kernel
theorem dX4_kindOf_30 : decode cX4_kindOf 30 = .ok (.iload_n 0, 1) := by decide +kernel
theorem dX4_kindOf_31 : decode cX4_kindOf 31 = .ok (.bipush 57, 2) := by decide +kernel
theorem dX4_kindOf_33 : decode cX4_kindOf 33 = .ok (.if_icmp .gt 7, 3) := by decide +kernel
theorem dX4_kindOf_36 : decode cX4_kindOf 36 = .ok (.iconst 4, 1) := by decide +kernel
theorem dX4_kindOf_37 : decode cX4_kindOf 37 = .ok (.goto 4, 3) := by decide +kernel
theorem dX4_kindOf_40 : decode cX4_kindOf 40 = .ok (.iconst 5, 1) := by decide +kernel
theorem dX4_kindOf_41 : decode cX4_kindOf 41 = .ok (.ireturn, 1) := by decide +kernel
abbrev mm_X4_kindOf : ab_M := (RX4, 1, (some .int), false, 1, 20, none)
noncomputable def f_X4_kindOf_J40 (h : ab_H) : Option (Int × ab_H) :=
  some ((5 : Int), h)
set_option maxRecDepth 20000 in
theorem e_X4_kindOf_J40 : ∀ (h : ab_H) (q : Int × ab_H), f_X4_kindOf_J40  h = some q → ab_E mm_X4_kindOf cX4_kindOf 40 [none] [] h (some (ab_I q.1)) q.2 := by
  intro  h q hk
  unfold f_X4_kindOf_J40 at hk
  refine ab_iconst (pc := 40) dX4_kindOf_40 ab_k_5 ?_
  obtain rfl := Option.some.inj hk
  exact ab_reti (pc := 41) dX4_kindOf_41 (Or.inl rfl)
noncomputable def f_X4_kindOf (a0 : Int) (h : ab_H) : Option (Int × ab_H) :=
  if a0 = (32 : Int) then
    some ((6 : Int), h)
  else
  if a0 = (10 : Int) then
    some ((6 : Int), h)
  else
  (f_X8_isLetter a0 h).bind fun q1 =>
  if q1.1 = (0 : Int) then
    if a0 < (48 : Int) then
      f_X4_kindOf_J40 q1.2
    else
    if (57 : Int) < a0 then
      f_X4_kindOf_J40 q1.2
    else
    some ((4 : Int), q1.2)
  else
  some ((2 : Int), q1.2)
set_option maxRecDepth 20000 in
theorem ct_X4_kindOf {a0 : Int} {h : ab_H} {q : Int × ab_H} (hk : f_X4_kindOf a0 h = some q) : ab_CT yX4_kindOf cX4_kindOf 1 (some .int) 1 20 [ab_I a0] h (some (ab_I q.1)) q.2 := by
  refine ab_CT.mk_ 0 (own := RX4) (ini := false) (lv := [some (ab_I a0)]) rfl (by decide +kernel) (fun q => by cases q) rfl rfl ?_
  unfold f_X4_kindOf at hk
  show ab_E mm_X4_kindOf cX4_kindOf 0 _ [] h _ _
  refine ab_iload_n (pc := 0) (i := 0) dX4_kindOf_0 rfl rfl ?_
  refine ab_bipush (pc := 1) dX4_kindOf_1 ab_p8_32 ab_k_32 ?_
  refine ab_icmp_eq (pc := 3) (tgt := 12) dX4_kindOf_3 rfl (fun hc => ?_) (fun hc => ?_)
  · have hk := ab_ifp hk hc
    refine ab_bipush (pc := 12) dX4_kindOf_12 ab_p8_6 ab_k_6 ?_
    obtain rfl := Option.some.inj hk
    exact ab_reti (pc := 14) dX4_kindOf_14 (Or.inl rfl)
  · have hk := ab_ifn hk hc
    refine ab_iload_n (pc := 6) (i := 0) dX4_kindOf_6 rfl rfl ?_
    refine ab_bipush (pc := 7) dX4_kindOf_7 ab_p8_10 ab_k_10 ?_
    refine ab_icmp_ne (pc := 9) (tgt := 15) dX4_kindOf_9 rfl (fun hc => ?_) (fun hc => ?_)
    · have hk := ab_ifn hk hc
      refine ab_iload_n (pc := 15) (i := 0) dX4_kindOf_15 rfl rfl ?_
      obtain ⟨q1, hq1, hk⟩ := ab_bnd hk
      refine ab_callSI (st := []) (as := [ab_I a0]) (pc := 16) dX4_kindOf_16 ml_RX4_41 my_X8_isLetter ms_X8_isLetter (ct_X8_isLetter hq1) ⟨Nat.le_of_ble_eq_true rfl, Nat.le_of_ble_eq_true rfl⟩ rfl (Nat.le_of_ble_eq_true rfl) rfl ?_
      refine ab_if_eq (pc := 19) (tgt := 24) dX4_kindOf_19 rfl (fun hc => ?_) (fun hc => ?_)
      · have hk := ab_ifp hk hc
        refine ab_iload_n (pc := 24) (i := 0) dX4_kindOf_24 rfl rfl ?_
        refine ab_bipush (pc := 25) dX4_kindOf_25 ab_p8_48 ab_k_48 ?_
        refine ab_icmp_lt (pc := 27) (tgt := 40) dX4_kindOf_27 rfl (fun hc => ?_) (fun hc => ?_)
        · have hk := ab_ifp hk hc
          refine ab_sub_ (lv2 := [none]) (ab_sn ab_s0) ?_
          exact e_X4_kindOf_J40  _ _ hk
        · have hk := ab_ifn hk hc
          refine ab_iload_n (pc := 30) (i := 0) dX4_kindOf_30 rfl rfl ?_
          refine ab_bipush (pc := 31) dX4_kindOf_31 ab_p8_57 ab_k_57 ?_
          refine ab_icmp_gt (pc := 33) (tgt := 40) dX4_kindOf_33 rfl (fun hc => ?_) (fun hc => ?_)
          · have hk := ab_ifp hk hc
            refine ab_sub_ (lv2 := [none]) (ab_sn ab_s0) ?_
            exact e_X4_kindOf_J40  _ _ hk
          · have hk := ab_ifn hk hc
            refine ab_iconst (pc := 36) dX4_kindOf_36 ab_k_4 ?_
            refine ab_goto (pc := 37) (tgt := 41) dX4_kindOf_37 rfl ?_
            obtain rfl := Option.some.inj hk
            exact ab_reti (pc := 41) dX4_kindOf_41 (Or.inl rfl)
      · have hk := ab_ifn hk hc
        refine ab_iconst (pc := 22) dX4_kindOf_22 ab_k_2 ?_
        obtain rfl := Option.some.inj hk
        exact ab_reti (pc := 23) dX4_kindOf_23 (Or.inl rfl)
    · have hk := ab_ifp hk hc
      refine ab_bipush (pc := 12) dX4_kindOf_12 ab_p8_6 ab_k_6 ?_
      obtain rfl := Option.some.inj hk
      exact ab_reti (pc := 14) dX4_kindOf_14 (Or.inl rfl)
theorem dX4_open_0 : decode cX4_open 0 = .ok (.aload_n 0, 1) := by decide +kernel
theorem dX4_open_1 : decode cX4_open 1 = .ok (.getfield 65, 3) := by decide +kernel
theorem dX4_open_4 : decode cX4_open 4 = .ok (.sipush 1200, 3) := by decide +kernel
theorem dX4_open_7 : decode cX4_open 7 = .ok (.if_icmp .le 4, 3) := by decide +kernel
theorem dX4_open_10 : decode cX4_open 10 = .ok (.return_, 1) := by decide +kernel
theorem dX4_open_11 : decode cX4_open 11 = .ok (.aload_n 0, 1) := by decide +kernel
theorem dX4_open_12 : decode cX4_open 12 = .ok (.getfield 15, 3) := by decide +kernel
theorem dX4_open_15 : decode cX4_open 15 = .ok (.aload_n 0, 1) := by decide +kernel
theorem dX4_open_16 : decode cX4_open 16 = .ok (.getfield 65, 3) := by decide +kernel
theorem dX4_open_19 : decode cX4_open 19 = .ok (.iload_n 1, 1) := by decide +kernel
theorem dX4_open_20 : decode cX4_open 20 = .ok (.iastore, 1) := by decide +kernel
theorem dX4_open_21 : decode cX4_open 21 = .ok (.aload_n 0, 1) := by decide +kernel
theorem dX4_open_22 : decode cX4_open 22 = .ok (.getfield 19, 3) := by decide +kernel
theorem dX4_open_25 : decode cX4_open 25 = .ok (.aload_n 0, 1) := by decide +kernel
theorem dX4_open_26 : decode cX4_open 26 = .ok (.getfield 65, 3) := by decide +kernel
theorem dX4_open_29 : decode cX4_open 29 = .ok (.iload_n 2, 1) := by decide +kernel
theorem dX4_open_30 : decode cX4_open 30 = .ok (.iastore, 1) := by decide +kernel
theorem dX4_open_31 : decode cX4_open 31 = .ok (.aload_n 0, 1) := by decide +kernel
theorem dX4_open_32 : decode cX4_open 32 = .ok (.getfield 22, 3) := by decide +kernel
theorem dX4_open_35 : decode cX4_open 35 = .ok (.aload_n 0, 1) := by decide +kernel
theorem dX4_open_36 : decode cX4_open 36 = .ok (.getfield 65, 3) := by decide +kernel
theorem dX4_open_39 : decode cX4_open 39 = .ok (.lconst 0, 1) := by decide +kernel
theorem dX4_open_40 : decode cX4_open 40 = .ok (.lastore, 1) := by decide +kernel
theorem dX4_open_41 : decode cX4_open 41 = .ok (.aload_n 0, 1) := by decide +kernel
theorem dX4_open_42 : decode cX4_open 42 = .ok (.dup, 1) := by decide +kernel
theorem dX4_open_43 : decode cX4_open 43 = .ok (.getfield 65, 3) := by decide +kernel
theorem dX4_open_46 : decode cX4_open 46 = .ok (.iconst 1, 1) := by decide +kernel
theorem dX4_open_47 : decode cX4_open 47 = .ok (.iadd, 1) := by decide +kernel
theorem dX4_open_48 : decode cX4_open 48 = .ok (.putfield 65, 3) := by decide +kernel
theorem dX4_open_51 : decode cX4_open 51 = .ok (.return_, 1) := by decide +kernel
abbrev mm_X4_open : ab_M := (RX4, 3, none, false, 0, 0, none)
noncomputable def f_X4_open (a0 : Int) (a1 : Int) (a2 : Int) (h : ab_H) : Option ab_H :=
  (ab_get h 5 4 a0).bind fun t1 =>
  if t1 ≤ (1200 : Int) then
    (ab_get h 5 1 a0).bind fun t2 =>
    (ab_get h 5 4 a0).bind fun t3 =>
    (ab_ast h 11 t2 t3 a1).bind fun h1 =>
    (ab_get h1 5 2 a0).bind fun t4 =>
    (ab_get h1 5 4 a0).bind fun t5 =>
    (ab_ast h1 11 t4 t5 a2).bind fun h2 =>
    (ab_get h2 5 3 a0).bind fun t6 =>
    (ab_get h2 5 4 a0).bind fun t7 =>
    (ab_ast h2 12 t6 t7 (0 : Int)).bind fun h3 =>
    (ab_get h3 5 4 a0).bind fun t8 =>
    (ab_put h3 5 4 a0 (ab_w32 (t8 + (1 : Int)))).bind fun h4 =>
    some h4
  else
  some h
set_option maxRecDepth 20000 in
theorem ct_X4_open {a0 a1 a2 : Int} {h : ab_H} {q : ab_H} (hk : f_X4_open a0 a1 a2 h = some q) : ab_CT yX4_open cX4_open 3 none 0 0 [ab_R a0, ab_I a1, ab_I a2] h none q := by
  refine ab_CT.mk_ 0 (own := RX4) (ini := false) (lv := [some (ab_R a0), some (ab_I a1), some (ab_I a2)]) rfl (by decide +kernel) (fun q => by cases q) rfl rfl ?_
  unfold f_X4_open at hk
  show ab_E mm_X4_open cX4_open 0 _ [] h _ _
  refine ab_aload_n (pc := 0) (i := 0) dX4_open_0 rfl rfl ?_
  obtain ⟨t1, ht1, hk⟩ := ab_bnd hk
  refine ab_getI (pc := 1) dX4_open_1 fl_RX4_65 ht1 ?_
  refine ab_sipush (pc := 4) dX4_open_4 ab_p16_1200 ab_k_1200 ?_
  refine ab_icmp_le (pc := 7) (tgt := 11) dX4_open_7 rfl (fun hc => ?_) (fun hc => ?_)
  · have hk := ab_ifp hk hc
    refine ab_aload_n (pc := 11) (i := 0) dX4_open_11 rfl rfl ?_
    obtain ⟨t2, ht2, hk⟩ := ab_bnd hk
    refine ab_getR (pc := 12) dX4_open_12 fl_RX4_15 ht2 ?_
    refine ab_aload_n (pc := 15) (i := 0) dX4_open_15 rfl rfl ?_
    obtain ⟨t3, ht3, hk⟩ := ab_bnd hk
    refine ab_getI (pc := 16) dX4_open_16 fl_RX4_65 ht3 ?_
    refine ab_iload_n (pc := 19) (i := 1) dX4_open_19 rfl rfl ?_
    obtain ⟨h1, hh1, hk⟩ := ab_bnd hk
    refine ab_iast (pc := 20) dX4_open_20 hh1 ?_
    refine ab_aload_n (pc := 21) (i := 0) dX4_open_21 rfl rfl ?_
    obtain ⟨t4, ht4, hk⟩ := ab_bnd hk
    refine ab_getR (pc := 22) dX4_open_22 fl_RX4_19 ht4 ?_
    refine ab_aload_n (pc := 25) (i := 0) dX4_open_25 rfl rfl ?_
    obtain ⟨t5, ht5, hk⟩ := ab_bnd hk
    refine ab_getI (pc := 26) dX4_open_26 fl_RX4_65 ht5 ?_
    refine ab_iload_n (pc := 29) (i := 2) dX4_open_29 rfl rfl ?_
    obtain ⟨h2, hh2, hk⟩ := ab_bnd hk
    refine ab_iast (pc := 30) dX4_open_30 hh2 ?_
    refine ab_aload_n (pc := 31) (i := 0) dX4_open_31 rfl rfl ?_
    obtain ⟨t6, ht6, hk⟩ := ab_bnd hk
    refine ab_getR (pc := 32) dX4_open_32 fl_RX4_22 ht6 ?_
    refine ab_aload_n (pc := 35) (i := 0) dX4_open_35 rfl rfl ?_
    obtain ⟨t7, ht7, hk⟩ := ab_bnd hk
    refine ab_getI (pc := 36) dX4_open_36 fl_RX4_65 ht7 ?_
    refine ab_lconst (x := (0 : Int)) (pc := 39) dX4_open_39 rfl ab_kl_0 ?_
    obtain ⟨h3, hh3, hk⟩ := ab_bnd hk
    refine ab_last (pc := 40) dX4_open_40 hh3 ?_
    refine ab_aload_n (pc := 41) (i := 0) dX4_open_41 rfl rfl ?_
    refine ab_dup (pc := 42) dX4_open_42 rfl ?_
    obtain ⟨t8, ht8, hk⟩ := ab_bnd hk
    refine ab_getI (pc := 43) dX4_open_43 fl_RX4_65 ht8 ?_
    refine ab_iconst (pc := 46) dX4_open_46 ab_k_1 ?_
    refine ab_iadd (pc := 47) dX4_open_47 ?_
    obtain ⟨h4, hh4, hk⟩ := ab_bnd hk
    refine ab_putI_ (pc := 48) dX4_open_48 fl_RX4_65 (fun q => by cases q) hh4 ?_
    obtain rfl := Option.some.inj hk
    exact ab_retv (pc := 51) dX4_open_51 rfl
  · have hk := ab_ifn hk hc
    obtain rfl := Option.some.inj hk
    exact ab_retv (pc := 10) dX4_open_10 rfl
theorem dX4_extend_0 : decode cX4_extend 0 = .ok (.iload_n 3, 1) := by decide +kernel
theorem dX4_extend_1 : decode cX4_extend 1 = .ok (.ifCond .ge 4, 3) := by decide +kernel
theorem dX4_extend_4 : decode cX4_extend 4 = .ok (.return_, 1) := by decide +kernel
theorem dX4_extend_5 : decode cX4_extend 5 = .ok (.iload_n 1, 1) := by decide +kernel
theorem dX4_extend_6 : decode cX4_extend 6 = .ok (.iconst 5, 1) := by decide +kernel
theorem dX4_extend_7 : decode cX4_extend 7 = .ok (.if_icmp .ne 14, 3) := by decide +kernel
theorem dX4_extend_10 : decode cX4_extend 10 = .ok (.aload_n 0, 1) := by decide +kernel
theorem dX4_extend_11 : decode cX4_extend 11 = .ok (.getfield 22, 3) := by decide +kernel
theorem dX4_extend_14 : decode cX4_extend 14 = .ok (.iload_n 3, 1) := by decide +kernel
theorem dX4_extend_15 : decode cX4_extend 15 = .ok (.iload_n 2, 1) := by decide +kernel
theorem dX4_extend_16 : decode cX4_extend 16 = .ok (.i2l, 1) := by decide +kernel
theorem dX4_extend_17 : decode cX4_extend 17 = .ok (.lastore, 1) := by decide +kernel
theorem dX4_extend_18 : decode cX4_extend 18 = .ok (.goto 79, 3) := by decide +kernel
theorem dX4_extend_21 : decode cX4_extend 21 = .ok (.iload_n 1, 1) := by decide +kernel
theorem dX4_extend_22 : decode cX4_extend 22 = .ok (.iconst 4, 1) := by decide +kernel
theorem dX4_extend_23 : decode cX4_extend 23 = .ok (.if_icmp .ne 35, 3) := by decide +kernel
theorem dX4_extend_26 : decode cX4_extend 26 = .ok (.aload_n 0, 1) := by decide +kernel
theorem dX4_extend_27 : decode cX4_extend 27 = .ok (.getfield 22, 3) := by decide +kernel
theorem dX4_extend_30 : decode cX4_extend 30 = .ok (.iload_n 3, 1) := by decide +kernel
theorem dX4_extend_31 : decode cX4_extend 31 = .ok (.aload_n 0, 1) := by decide +kernel
theorem dX4_extend_32 : decode cX4_extend 32 = .ok (.getfield 22, 3) := by decide +kernel
theorem dX4_extend_35 : decode cX4_extend 35 = .ok (.iload_n 3, 1) := by decide +kernel
theorem dX4_extend_36 : decode cX4_extend 36 = .ok (.laload, 1) := by decide +kernel
theorem dX4_extend_37 : decode cX4_extend 37 = .ok (.ldc2_w 118, 3) := by decide +kernel
theorem dX4_extend_40 : decode cX4_extend 40 = .ok (.lmul, 1) := by decide +kernel
theorem dX4_extend_41 : decode cX4_extend 41 = .ok (.iload_n 2, 1) := by decide +kernel
theorem dX4_extend_42 : decode cX4_extend 42 = .ok (.i2l, 1) := by decide +kernel
theorem dX4_extend_43 : decode cX4_extend 43 = .ok (.ladd, 1) := by decide +kernel
theorem dX4_extend_44 : decode cX4_extend 44 = .ok (.ldc2_w 120, 3) := by decide +kernel
theorem dX4_extend_47 : decode cX4_extend 47 = .ok (.lsub, 1) := by decide +kernel
theorem dX4_extend_48 : decode cX4_extend 48 = .ok (.ldc2_w 122, 3) := by decide +kernel
theorem dX4_extend_51 : decode cX4_extend 51 = .ok (.invokestatic 124, 3) := by decide +kernel
theorem dX4_extend_54 : decode cX4_extend 54 = .ok (.lastore, 1) := by decide +kernel
theorem dX4_extend_55 : decode cX4_extend 55 = .ok (.goto 42, 3) := by decide +kernel
theorem dX4_extend_58 : decode cX4_extend 58 = .ok (.aload_n 0, 1) := by decide +kernel
theorem dX4_extend_59 : decode cX4_extend 59 = .ok (.getfield 22, 3) := by decide +kernel
theorem dX4_extend_62 : decode cX4_extend 62 = .ok (.iload_n 3, 1) := by decide +kernel
theorem dX4_extend_63 : decode cX4_extend 63 = .ok (.laload, 1) := by decide +kernel
theorem dX4_extend_64 : decode cX4_extend 64 = .ok (.ldc2_w 130, 3) := by decide +kernel
theorem dX4_extend_67 : decode cX4_extend 67 = .ok (.lcmp, 1) := by decide +kernel
theorem dX4_extend_68 : decode cX4_extend 68 = .ok (.ifCond .lt 13, 3) := by decide +kernel
theorem dX4_extend_71 : decode cX4_extend 71 = .ok (.aload_n 0, 1) := by decide +kernel
theorem dX4_extend_72 : decode cX4_extend 72 = .ok (.getfield 15, 3) := by decide +kernel
theorem dX4_extend_75 : decode cX4_extend 75 = .ok (.iload_n 3, 1) := by decide +kernel
theorem dX4_extend_76 : decode cX4_extend 76 = .ok (.iconst 3, 1) := by decide +kernel
theorem dX4_extend_77 : decode cX4_extend 77 = .ok (.iastore, 1) := by decide +kernel
theorem dX4_extend_78 : decode cX4_extend 78 = .ok (.goto 19, 3) := by decide +kernel
theorem dX4_extend_81 : decode cX4_extend 81 = .ok (.aload_n 0, 1) := by decide +kernel
theorem dX4_extend_82 : decode cX4_extend 82 = .ok (.getfield 22, 3) := by decide +kernel
theorem dX4_extend_85 : decode cX4_extend 85 = .ok (.iload_n 3, 1) := by decide +kernel
theorem dX4_extend_86 : decode cX4_extend 86 = .ok (.aload_n 0, 1) := by decide +kernel
theorem dX4_extend_87 : decode cX4_extend 87 = .ok (.getfield 22, 3) := by decide +kernel
theorem dX4_extend_90 : decode cX4_extend 90 = .ok (.iload_n 3, 1) := by decide +kernel
theorem dX4_extend_91 : decode cX4_extend 91 = .ok (.laload, 1) := by decide +kernel
theorem dX4_extend_92 : decode cX4_extend 92 = .ok (.iload_n 2, 1) := by decide +kernel
theorem dX4_extend_93 : decode cX4_extend 93 = .ok (.invokestatic 45, 3) := by decide +kernel
theorem dX4_extend_96 : decode cX4_extend 96 = .ok (.lastore, 1) := by decide +kernel
theorem dX4_extend_97 : decode cX4_extend 97 = .ok (.return_, 1) := by decide +kernel
abbrev mm_X4_extend : ab_M := (RX4, 4, none, false, 1, 24, none)
noncomputable def f_X4_extend (a0 : Int) (a1 : Int) (a2 : Int) (a3 : Int) (h : ab_H) : Option ab_H :=
  if (0 : Int) ≤ a3 then
    if a1 = (5 : Int) then
      (ab_get h 5 3 a0).bind fun t11 =>
      (ab_ast h 12 t11 a3 a2).bind fun h4 =>
      some h4
    else
    if a1 = (4 : Int) then
      (ab_get h 5 3 a0).bind fun t8 =>
      (ab_get h 5 3 a0).bind fun t9 =>
      (ab_ald h 12 t9 a3).bind fun t10 =>
      (ab_ast h 12 t8 a3 (ab_mn (ab_w64 ((ab_w64 ((ab_w64 (t10 * (10 : Int))) + a2)) - (48 : Int))) (1000 : Int))).bind fun h3 =>
      some h3
    else
    (ab_get h 5 3 a0).bind fun t1 =>
    (ab_ald h 12 t1 a3).bind fun t2 =>
    if ab_cmp t2 (1073741824 : Int) < (0 : Int) then
      (ab_get h 5 3 a0).bind fun t3 =>
      (ab_get h 5 3 a0).bind fun t4 =>
      (ab_ald h 12 t4 a3).bind fun t5 =>
      (f_X8_grown t5 a2 h).bind fun q6 =>
      (ab_ast q6.2 12 t3 a3 q6.1).bind fun h1 =>
      some h1
    else
    (ab_get h 5 1 a0).bind fun t7 =>
    (ab_ast h 11 t7 a3 (3 : Int)).bind fun h2 =>
    some h2
  else
  some h
set_option maxRecDepth 20000 in
theorem ct_X4_extend {a0 a1 a2 a3 : Int} {h : ab_H} {q : ab_H} (hk : f_X4_extend a0 a1 a2 a3 h = some q) : ab_CT yX4_extend cX4_extend 4 none 1 24 [ab_R a0, ab_I a1, ab_I a2, ab_I a3] h none q := by
  refine ab_CT.mk_ 0 (own := RX4) (ini := false) (lv := [some (ab_R a0), some (ab_I a1), some (ab_I a2), some (ab_I a3)]) rfl (by decide +kernel) (fun q => by cases q) rfl rfl ?_
  unfold f_X4_extend at hk
  show ab_E mm_X4_extend cX4_extend 0 _ [] h _ _
  refine ab_iload_n (pc := 0) (i := 3) dX4_extend_0 rfl rfl ?_
  refine ab_if_ge (pc := 1) (tgt := 5) dX4_extend_1 rfl (fun hc => ?_) (fun hc => ?_)
  · have hk := ab_ifp hk hc
    refine ab_iload_n (pc := 5) (i := 1) dX4_extend_5 rfl rfl ?_
    refine ab_iconst (pc := 6) dX4_extend_6 ab_k_5 ?_
    refine ab_icmp_ne (pc := 7) (tgt := 21) dX4_extend_7 rfl (fun hc => ?_) (fun hc => ?_)
    · have hk := ab_ifn hk hc
      refine ab_iload_n (pc := 21) (i := 1) dX4_extend_21 rfl rfl ?_
      refine ab_iconst (pc := 22) dX4_extend_22 ab_k_4 ?_
      refine ab_icmp_ne (pc := 23) (tgt := 58) dX4_extend_23 rfl (fun hc => ?_) (fun hc => ?_)
      · have hk := ab_ifn hk hc
        refine ab_aload_n (pc := 58) (i := 0) dX4_extend_58 rfl rfl ?_
        obtain ⟨t1, ht1, hk⟩ := ab_bnd hk
        refine ab_getR (pc := 59) dX4_extend_59 fl_RX4_22 ht1 ?_
        refine ab_iload_n (pc := 62) (i := 3) dX4_extend_62 rfl rfl ?_
        obtain ⟨t2, ht2, hk⟩ := ab_bnd hk
        refine ab_lald (pc := 63) dX4_extend_63 ht2 ?_
        refine ab_ldc2 (x := (1073741824 : Int)) (pc := 64) dX4_extend_64 ab_ld2_RX4_130 ab_kl_1073741824 ?_
        refine ab_lcmp_ (pc := 67) dX4_extend_67 ?_
        refine ab_if_lt (pc := 68) (tgt := 81) dX4_extend_68 rfl (fun hc => ?_) (fun hc => ?_)
        · have hk := ab_ifp hk hc
          refine ab_aload_n (pc := 81) (i := 0) dX4_extend_81 rfl rfl ?_
          obtain ⟨t3, ht3, hk⟩ := ab_bnd hk
          refine ab_getR (pc := 82) dX4_extend_82 fl_RX4_22 ht3 ?_
          refine ab_iload_n (pc := 85) (i := 3) dX4_extend_85 rfl rfl ?_
          refine ab_aload_n (pc := 86) (i := 0) dX4_extend_86 rfl rfl ?_
          obtain ⟨t4, ht4, hk⟩ := ab_bnd hk
          refine ab_getR (pc := 87) dX4_extend_87 fl_RX4_22 ht4 ?_
          refine ab_iload_n (pc := 90) (i := 3) dX4_extend_90 rfl rfl ?_
          obtain ⟨t5, ht5, hk⟩ := ab_bnd hk
          refine ab_lald (pc := 91) dX4_extend_91 ht5 ?_
          refine ab_iload_n (pc := 92) (i := 2) dX4_extend_92 rfl rfl ?_
          obtain ⟨q6, hq6, hk⟩ := ab_bnd hk
          refine ab_callSJ (st := [ab_I a3, ab_R t3]) (as := [ab_J t5, ab_I a2]) (pc := 93) dX4_extend_93 ml_RX4_45 my_X8_grown ms_X8_grown (ct_X8_grown hq6) ⟨Nat.le_of_ble_eq_true rfl, Nat.le_of_ble_eq_true rfl⟩ rfl (Nat.le_of_ble_eq_true rfl) rfl ?_
          obtain ⟨h1, hh1, hk⟩ := ab_bnd hk
          refine ab_last (pc := 96) dX4_extend_96 hh1 ?_
          obtain rfl := Option.some.inj hk
          exact ab_retv (pc := 97) dX4_extend_97 rfl
        · have hk := ab_ifn hk hc
          refine ab_aload_n (pc := 71) (i := 0) dX4_extend_71 rfl rfl ?_
          obtain ⟨t7, ht7, hk⟩ := ab_bnd hk
          refine ab_getR (pc := 72) dX4_extend_72 fl_RX4_15 ht7 ?_
          refine ab_iload_n (pc := 75) (i := 3) dX4_extend_75 rfl rfl ?_
          refine ab_iconst (pc := 76) dX4_extend_76 ab_k_3 ?_
          obtain ⟨h2, hh2, hk⟩ := ab_bnd hk
          refine ab_iast (pc := 77) dX4_extend_77 hh2 ?_
          refine ab_goto (pc := 78) (tgt := 97) dX4_extend_78 rfl ?_
          obtain rfl := Option.some.inj hk
          exact ab_retv (pc := 97) dX4_extend_97 rfl
      · have hk := ab_ifp hk hc
        refine ab_aload_n (pc := 26) (i := 0) dX4_extend_26 rfl rfl ?_
        obtain ⟨t8, ht8, hk⟩ := ab_bnd hk
        refine ab_getR (pc := 27) dX4_extend_27 fl_RX4_22 ht8 ?_
        refine ab_iload_n (pc := 30) (i := 3) dX4_extend_30 rfl rfl ?_
        refine ab_aload_n (pc := 31) (i := 0) dX4_extend_31 rfl rfl ?_
        obtain ⟨t9, ht9, hk⟩ := ab_bnd hk
        refine ab_getR (pc := 32) dX4_extend_32 fl_RX4_22 ht9 ?_
        refine ab_iload_n (pc := 35) (i := 3) dX4_extend_35 rfl rfl ?_
        obtain ⟨t10, ht10, hk⟩ := ab_bnd hk
        refine ab_lald (pc := 36) dX4_extend_36 ht10 ?_
        refine ab_ldc2 (x := (10 : Int)) (pc := 37) dX4_extend_37 ab_ld2_RX4_118 ab_kl_10 ?_
        refine ab_lmul (pc := 40) dX4_extend_40 ?_
        refine ab_iload_n (pc := 41) (i := 2) dX4_extend_41 rfl rfl ?_
        refine ab_i2l_ (pc := 42) dX4_extend_42 ?_
        refine ab_ladd (pc := 43) dX4_extend_43 ?_
        refine ab_ldc2 (x := (48 : Int)) (pc := 44) dX4_extend_44 ab_ld2_RX4_120 ab_kl_48 ?_
        refine ab_lsub (pc := 47) dX4_extend_47 ?_
        refine ab_ldc2 (x := (1000 : Int)) (pc := 48) dX4_extend_48 ab_ld2_RX4_122 ab_kl_1000 ?_
        refine ab_mminL_ (st := [ab_I a3, ab_R t8]) (pc := 51) dX4_extend_51 mt_RX4_124 (Nat.le_of_ble_eq_true rfl) (Nat.le_of_ble_eq_true rfl) (Nat.le_of_ble_eq_true rfl) ?_
        obtain ⟨h3, hh3, hk⟩ := ab_bnd hk
        refine ab_last (pc := 54) dX4_extend_54 hh3 ?_
        refine ab_goto (pc := 55) (tgt := 97) dX4_extend_55 rfl ?_
        obtain rfl := Option.some.inj hk
        exact ab_retv (pc := 97) dX4_extend_97 rfl
    · have hk := ab_ifp hk hc
      refine ab_aload_n (pc := 10) (i := 0) dX4_extend_10 rfl rfl ?_
      obtain ⟨t11, ht11, hk⟩ := ab_bnd hk
      refine ab_getR (pc := 11) dX4_extend_11 fl_RX4_22 ht11 ?_
      refine ab_iload_n (pc := 14) (i := 3) dX4_extend_14 rfl rfl ?_
      refine ab_iload_n (pc := 15) (i := 2) dX4_extend_15 rfl rfl ?_
      refine ab_i2l_ (pc := 16) dX4_extend_16 ?_
      obtain ⟨h4, hh4, hk⟩ := ab_bnd hk
      refine ab_last (pc := 17) dX4_extend_17 hh4 ?_
      refine ab_goto (pc := 18) (tgt := 97) dX4_extend_18 rfl ?_
      obtain rfl := Option.some.inj hk
      exact ab_retv (pc := 97) dX4_extend_97 rfl
  · have hk := ab_ifn hk hc
    obtain rfl := Option.some.inj hk
    exact ab_retv (pc := 4) dX4_extend_4 rfl
theorem dX4_scan_0 : decode cX4_scan 0 = .ok (.aload_n 0, 1) := by decide +kernel
theorem dX4_scan_1 : decode cX4_scan 1 = .ok (.iconst 0, 1) := by decide +kernel
theorem dX4_scan_2 : decode cX4_scan 2 = .ok (.putfield 65, 3) := by decide +kernel
theorem dX4_scan_5 : decode cX4_scan 5 = .ok (.bipush 6, 2) := by decide +kernel
theorem dX4_scan_7 : decode cX4_scan 7 = .ok (.istore_n 2, 1) := by decide +kernel
theorem dX4_scan_8 : decode cX4_scan 8 = .ok (.iconst 0, 1) := by decide +kernel
theorem dX4_scan_9 : decode cX4_scan 9 = .ok (.istore_n 3, 1) := by decide +kernel
theorem dX4_scan_10 : decode cX4_scan 10 = .ok (.iload_n 3, 1) := by decide +kernel
theorem dX4_scan_11 : decode cX4_scan 11 = .ok (.aload_n 1, 1) := by decide +kernel
theorem dX4_scan_12 : decode cX4_scan 12 = .ok (.getfield 97, 3) := by decide +kernel
theorem dX4_scan_15 : decode cX4_scan 15 = .ok (.if_icmp .ge 86, 3) := by decide +kernel
theorem dX4_scan_18 : decode cX4_scan 18 = .ok (.aload_n 1, 1) := by decide +kernel
theorem dX4_scan_19 : decode cX4_scan 19 = .ok (.getfield 102, 3) := by decide +kernel
theorem dX4_scan_22 : decode cX4_scan 22 = .ok (.iload_n 3, 1) := by decide +kernel
theorem dX4_scan_23 : decode cX4_scan 23 = .ok (.baload, 1) := by decide +kernel
theorem dX4_scan_24 : decode cX4_scan 24 = .ok (.istore 4, 2) := by decide +kernel
theorem dX4_scan_26 : decode cX4_scan 26 = .ok (.iload 4, 2) := by decide +kernel
theorem dX4_scan_28 : decode cX4_scan 28 = .ok (.invokestatic 106, 3) := by decide +kernel
theorem dX4_scan_31 : decode cX4_scan 31 = .ok (.istore 5, 2) := by decide +kernel
theorem dX4_scan_33 : decode cX4_scan 33 = .ok (.iload 5, 2) := by decide +kernel
theorem dX4_scan_35 : decode cX4_scan 35 = .ok (.iload_n 2, 1) := by decide +kernel
theorem dX4_scan_36 : decode cX4_scan 36 = .ok (.if_icmp .ne 13, 3) := by decide +kernel
theorem dX4_scan_39 : decode cX4_scan 39 = .ok (.iload 5, 2) := by decide +kernel
theorem dX4_scan_41 : decode cX4_scan 41 = .ok (.iconst 5, 1) := by decide +kernel
theorem dX4_scan_42 : decode cX4_scan 42 = .ok (.if_icmp .eq 7, 3) := by decide +kernel
theorem dX4_scan_45 : decode cX4_scan 45 = .ok (.iconst 1, 1) := by decide +kernel
theorem dX4_scan_46 : decode cX4_scan 46 = .ok (.goto 4, 3) := by decide +kernel
theorem dX4_scan_49 : decode cX4_scan 49 = .ok (.iconst 0, 1) := by decide +kernel
theorem dX4_scan_50 : decode cX4_scan 50 = .ok (.istore 6, 2) := by decide +kernel
theorem dX4_scan_52 : decode cX4_scan 52 = .ok (.iload 5, 2) := by decide +kernel
theorem dX4_scan_54 : decode cX4_scan 54 = .ok (.bipush 6, 2) := by decide +kernel
theorem dX4_scan_56 : decode cX4_scan 56 = .ok (.if_icmp .eq 15, 3) := by decide +kernel
theorem dX4_scan_59 : decode cX4_scan 59 = .ok (.iload 6, 2) := by decide +kernel
theorem dX4_scan_61 : decode cX4_scan 61 = .ok (.ifCond .ne 10, 3) := by decide +kernel
theorem dX4_scan_64 : decode cX4_scan 64 = .ok (.aload_n 0, 1) := by decide +kernel
theorem dX4_scan_65 : decode cX4_scan 65 = .ok (.iload 5, 2) := by decide +kernel
theorem dX4_scan_67 : decode cX4_scan 67 = .ok (.iload_n 3, 1) := by decide +kernel
theorem dX4_scan_68 : decode cX4_scan 68 = .ok (.invokevirtual 110, 3) := by decide +kernel
theorem dX4_scan_71 : decode cX4_scan 71 = .ok (.iload 5, 2) := by decide +kernel
theorem dX4_scan_73 : decode cX4_scan 73 = .ok (.bipush 6, 2) := by decide +kernel
theorem dX4_scan_75 : decode cX4_scan 75 = .ok (.if_icmp .eq 17, 3) := by decide +kernel
theorem dX4_scan_78 : decode cX4_scan 78 = .ok (.aload_n 0, 1) := by decide +kernel
theorem dX4_scan_79 : decode cX4_scan 79 = .ok (.iload 5, 2) := by decide +kernel
theorem dX4_scan_81 : decode cX4_scan 81 = .ok (.iload 4, 2) := by decide +kernel
theorem dX4_scan_83 : decode cX4_scan 83 = .ok (.aload_n 0, 1) := by decide +kernel
theorem dX4_scan_84 : decode cX4_scan 84 = .ok (.getfield 65, 3) := by decide +kernel
theorem dX4_scan_87 : decode cX4_scan 87 = .ok (.iconst 1, 1) := by decide +kernel
theorem dX4_scan_88 : decode cX4_scan 88 = .ok (.isub, 1) := by decide +kernel
theorem dX4_scan_89 : decode cX4_scan 89 = .ok (.invokevirtual 114, 3) := by decide +kernel
theorem dX4_scan_92 : decode cX4_scan 92 = .ok (.iload 5, 2) := by decide +kernel
theorem dX4_scan_94 : decode cX4_scan 94 = .ok (.istore_n 2, 1) := by decide +kernel
theorem dX4_scan_95 : decode cX4_scan 95 = .ok (.iinc 3 1, 3) := by decide +kernel
theorem dX4_scan_98 : decode cX4_scan 98 = .ok (.goto (-88), 3) := by decide +kernel
theorem dX4_scan_101 : decode cX4_scan 101 = .ok (.aload_n 0, 1) := by decide +kernel
theorem dX4_scan_102 : decode cX4_scan 102 = .ok (.iconst 0, 1) := by decide +kernel
theorem dX4_scan_103 : decode cX4_scan 103 = .ok (.aload_n 1, 1) := by decide +kernel
theorem dX4_scan_104 : decode cX4_scan 104 = .ok (.getfield 97, 3) := by decide +kernel
theorem dX4_scan_107 : decode cX4_scan 107 = .ok (.invokevirtual 110, 3) := by decide +kernel
theorem dX4_scan_110 : decode cX4_scan 110 = .ok (.return_, 1) := by decide +kernel
abbrev mm_X4_scan : ab_M := (RX4, 7, none, false, 2, 47, none)
noncomputable def f_X4_scan_J92 (rec : Int → Int → Int → Int → ab_H → Option ab_H) (k101 : Int → Int → ab_H → Option ab_H) (v0 : Int) (v1 : Int) (v3 : Int) (v5 : Int) (h : ab_H) : Option ab_H :=
  rec v0 v1 v5 (ab_w32 (v3 + (1 : Int))) h
set_option maxRecDepth 20000 in
theorem e_X4_scan_J92 {rec : Int → Int → Int → Int → ab_H → Option ab_H} {k101 : Int → Int → ab_H → Option ab_H} (hrec : ∀ (v0 : Int) (v1 : Int) (v2 : Int) (v3 : Int) (h : ab_H) (q : ab_H), rec v0 v1 v2 v3 h = some q → ab_E mm_X4_scan cX4_scan 10 [some (ab_R v0), some (ab_R v1), some (ab_I v2), some (ab_I v3), none, none, none] [] h none q) (hk101 : ∀ (v0 : Int) (v1 : Int) (h : ab_H) (q : ab_H), k101 v0 v1 h = some q → ab_E mm_X4_scan cX4_scan 101 [some (ab_R v0), some (ab_R v1), none, none, none, none, none] [] h none q) : ∀ (v0 : Int) (v1 : Int) (v3 : Int) (v5 : Int) (h : ab_H) (q : ab_H), f_X4_scan_J92 rec k101 v0 v1 v3 v5 h = some q → ab_E mm_X4_scan cX4_scan 92 [some (ab_R v0), some (ab_R v1), none, some (ab_I v3), none, some (ab_I v5), none] [] h none q := by
  intro v0 v1 v3 v5 h q hk
  unfold f_X4_scan_J92 at hk
  refine ab_iload (pc := 92) (i := 5) dX4_scan_92 rfl ?_
  refine ab_istore_n (pc := 94) (i := 2) (lv2 := [some (ab_R v0), some (ab_R v1), some (ab_I v5), some (ab_I v3), none, some (ab_I v5), none]) dX4_scan_94 rfl (Nat.le_of_ble_eq_true rfl) rfl rfl ?_
  refine ab_iinc (pc := 95) (i := 3) (lv2 := [some (ab_R v0), some (ab_R v1), some (ab_I v5), some (ab_I (ab_w32 (v3 + (1 : Int)))), none, some (ab_I v5), none]) dX4_scan_95 rfl (Nat.le_of_ble_eq_true rfl) rfl rfl ?_
  refine ab_goto (pc := 98) (tgt := 10) dX4_scan_98 rfl ?_
  refine ab_sub_ (lv2 := [some (ab_R v0), some (ab_R v1), some (ab_I v5), some (ab_I (ab_w32 (v3 + (1 : Int)))), none, none, none]) (ab_ss (ab_ss (ab_ss (ab_ss (ab_sn (ab_sn (ab_sn ab_s0))))))) ?_
  exact hrec _ _ _ _ _ _ hk
noncomputable def f_X4_scan_J71 (rec : Int → Int → Int → Int → ab_H → Option ab_H) (k101 : Int → Int → ab_H → Option ab_H) (v0 : Int) (v1 : Int) (v3 : Int) (v4 : Int) (v5 : Int) (h : ab_H) : Option ab_H :=
  if v5 = (6 : Int) then
    f_X4_scan_J92 rec k101 v0 v1 v3 v5 h
  else
  (ab_get h 5 4 v0).bind fun t1 =>
  (ab_on h 5 v0 (f_X4_extend v0 v5 v4 (ab_w32 (t1 - (1 : Int))) h)).bind fun q2 =>
  f_X4_scan_J92 rec k101 v0 v1 v3 v5 q2
set_option maxRecDepth 20000 in
theorem e_X4_scan_J71 {rec : Int → Int → Int → Int → ab_H → Option ab_H} {k101 : Int → Int → ab_H → Option ab_H} (hrec : ∀ (v0 : Int) (v1 : Int) (v2 : Int) (v3 : Int) (h : ab_H) (q : ab_H), rec v0 v1 v2 v3 h = some q → ab_E mm_X4_scan cX4_scan 10 [some (ab_R v0), some (ab_R v1), some (ab_I v2), some (ab_I v3), none, none, none] [] h none q) (hk101 : ∀ (v0 : Int) (v1 : Int) (h : ab_H) (q : ab_H), k101 v0 v1 h = some q → ab_E mm_X4_scan cX4_scan 101 [some (ab_R v0), some (ab_R v1), none, none, none, none, none] [] h none q) : ∀ (v0 : Int) (v1 : Int) (v3 : Int) (v4 : Int) (v5 : Int) (h : ab_H) (q : ab_H), f_X4_scan_J71 rec k101 v0 v1 v3 v4 v5 h = some q → ab_E mm_X4_scan cX4_scan 71 [some (ab_R v0), some (ab_R v1), none, some (ab_I v3), some (ab_I v4), some (ab_I v5), none] [] h none q := by
  intro v0 v1 v3 v4 v5 h q hk
  unfold f_X4_scan_J71 at hk
  refine ab_iload (pc := 71) (i := 5) dX4_scan_71 rfl ?_
  refine ab_bipush (pc := 73) dX4_scan_73 ab_p8_6 ab_k_6 ?_
  refine ab_icmp_eq (pc := 75) (tgt := 92) dX4_scan_75 rfl (fun hc => ?_) (fun hc => ?_)
  · have hk := ab_ifp hk hc
    refine ab_sub_ (lv2 := [some (ab_R v0), some (ab_R v1), none, some (ab_I v3), none, some (ab_I v5), none]) (ab_ss (ab_ss (ab_sn (ab_ss (ab_sn (ab_ss (ab_sn ab_s0))))))) ?_
    exact e_X4_scan_J92 hrec hk101 _ _ _ _ _ _ hk
  · have hk := ab_ifn hk hc
    refine ab_aload_n (pc := 78) (i := 0) dX4_scan_78 rfl rfl ?_
    refine ab_iload (pc := 79) (i := 5) dX4_scan_79 rfl ?_
    refine ab_iload (pc := 81) (i := 4) dX4_scan_81 rfl ?_
    refine ab_aload_n (pc := 83) (i := 0) dX4_scan_83 rfl rfl ?_
    obtain ⟨t1, ht1, hk⟩ := ab_bnd hk
    refine ab_getI (pc := 84) dX4_scan_84 fl_RX4_65 ht1 ?_
    refine ab_iconst (pc := 87) dX4_scan_87 ab_k_1 ?_
    refine ab_isub (pc := 88) dX4_scan_88 ?_
    obtain ⟨q2, hq2, hk⟩ := ab_bnd hk
    obtain ⟨hb, hq2⟩ := ab_on_some hq2
    refine ab_callVV (st := []) (as := [ab_I v5, ab_I v4, ab_I (ab_w32 (t1 - (1 : Int)))]) (b := v0) (pc := 89) dX4_scan_89 ml_RX4_114 my_X4_extend mv_X4_extend hb (ct_X4_extend hq2) ⟨Nat.le_of_ble_eq_true rfl, Nat.le_of_ble_eq_true rfl⟩ rfl (Nat.le_of_ble_eq_true rfl) rfl ?_
    refine ab_sub_ (lv2 := [some (ab_R v0), some (ab_R v1), none, some (ab_I v3), none, some (ab_I v5), none]) (ab_ss (ab_ss (ab_sn (ab_ss (ab_sn (ab_ss (ab_sn ab_s0))))))) ?_
    exact e_X4_scan_J92 hrec hk101 _ _ _ _ _ _ hk
noncomputable def f_X4_scan_J50 (rec : Int → Int → Int → Int → ab_H → Option ab_H) (k101 : Int → Int → ab_H → Option ab_H) (v0 : Int) (v1 : Int) (v3 : Int) (v4 : Int) (v5 : Int) (s0 : Int) (h : ab_H) : Option ab_H :=
  if v5 = (6 : Int) then
    f_X4_scan_J71 rec k101 v0 v1 v3 v4 v5 h
  else
  if s0 = (0 : Int) then
    (ab_on h 5 v0 (f_X4_open v0 v5 v3 h)).bind fun q1 =>
    f_X4_scan_J71 rec k101 v0 v1 v3 v4 v5 q1
  else
  f_X4_scan_J71 rec k101 v0 v1 v3 v4 v5 h
set_option maxRecDepth 20000 in
theorem e_X4_scan_J50 {rec : Int → Int → Int → Int → ab_H → Option ab_H} {k101 : Int → Int → ab_H → Option ab_H} (hrec : ∀ (v0 : Int) (v1 : Int) (v2 : Int) (v3 : Int) (h : ab_H) (q : ab_H), rec v0 v1 v2 v3 h = some q → ab_E mm_X4_scan cX4_scan 10 [some (ab_R v0), some (ab_R v1), some (ab_I v2), some (ab_I v3), none, none, none] [] h none q) (hk101 : ∀ (v0 : Int) (v1 : Int) (h : ab_H) (q : ab_H), k101 v0 v1 h = some q → ab_E mm_X4_scan cX4_scan 101 [some (ab_R v0), some (ab_R v1), none, none, none, none, none] [] h none q) : ∀ (v0 : Int) (v1 : Int) (v3 : Int) (v4 : Int) (v5 : Int) (s0 : Int) (h : ab_H) (q : ab_H), f_X4_scan_J50 rec k101 v0 v1 v3 v4 v5 s0 h = some q → ab_E mm_X4_scan cX4_scan 50 [some (ab_R v0), some (ab_R v1), none, some (ab_I v3), some (ab_I v4), some (ab_I v5), none] [ab_I s0] h none q := by
  intro v0 v1 v3 v4 v5 s0 h q hk
  unfold f_X4_scan_J50 at hk
  refine ab_istore (pc := 50) (i := 6) (lv2 := [some (ab_R v0), some (ab_R v1), none, some (ab_I v3), some (ab_I v4), some (ab_I v5), some (ab_I s0)]) dX4_scan_50 (Nat.le_of_ble_eq_true rfl) rfl rfl ?_
  refine ab_iload (pc := 52) (i := 5) dX4_scan_52 rfl ?_
  refine ab_bipush (pc := 54) dX4_scan_54 ab_p8_6 ab_k_6 ?_
  refine ab_icmp_eq (pc := 56) (tgt := 71) dX4_scan_56 rfl (fun hc => ?_) (fun hc => ?_)
  · have hk := ab_ifp hk hc
    refine ab_sub_ (lv2 := [some (ab_R v0), some (ab_R v1), none, some (ab_I v3), some (ab_I v4), some (ab_I v5), none]) (ab_ss (ab_ss (ab_sn (ab_ss (ab_ss (ab_ss (ab_sn ab_s0))))))) ?_
    exact e_X4_scan_J71 hrec hk101 _ _ _ _ _ _ _ hk
  · have hk := ab_ifn hk hc
    refine ab_iload (pc := 59) (i := 6) dX4_scan_59 rfl ?_
    refine ab_if_ne (pc := 61) (tgt := 71) dX4_scan_61 rfl (fun hc => ?_) (fun hc => ?_)
    · have hk := ab_ifn hk hc
      refine ab_sub_ (lv2 := [some (ab_R v0), some (ab_R v1), none, some (ab_I v3), some (ab_I v4), some (ab_I v5), none]) (ab_ss (ab_ss (ab_sn (ab_ss (ab_ss (ab_ss (ab_sn ab_s0))))))) ?_
      exact e_X4_scan_J71 hrec hk101 _ _ _ _ _ _ _ hk
    · have hk := ab_ifp hk hc
      refine ab_aload_n (pc := 64) (i := 0) dX4_scan_64 rfl rfl ?_
      refine ab_iload (pc := 65) (i := 5) dX4_scan_65 rfl ?_
      refine ab_iload_n (pc := 67) (i := 3) dX4_scan_67 rfl rfl ?_
      obtain ⟨q1, hq1, hk⟩ := ab_bnd hk
      obtain ⟨hb, hq1⟩ := ab_on_some hq1
      refine ab_callVV (st := []) (as := [ab_I v5, ab_I v3]) (b := v0) (pc := 68) dX4_scan_68 ml_RX4_110 my_X4_open mv_X4_open hb (ct_X4_open hq1) ⟨Nat.le_of_ble_eq_true rfl, Nat.le_of_ble_eq_true rfl⟩ rfl (Nat.le_of_ble_eq_true rfl) rfl ?_
      refine ab_sub_ (lv2 := [some (ab_R v0), some (ab_R v1), none, some (ab_I v3), some (ab_I v4), some (ab_I v5), none]) (ab_ss (ab_ss (ab_sn (ab_ss (ab_ss (ab_ss (ab_sn ab_s0))))))) ?_
      exact e_X4_scan_J71 hrec hk101 _ _ _ _ _ _ _ hk
noncomputable def f_X4_scan_J49 (rec : Int → Int → Int → Int → ab_H → Option ab_H) (k101 : Int → Int → ab_H → Option ab_H) (v0 : Int) (v1 : Int) (v3 : Int) (v4 : Int) (v5 : Int) (h : ab_H) : Option ab_H :=
  f_X4_scan_J50 rec k101 v0 v1 v3 v4 v5 (0 : Int) h
set_option maxRecDepth 20000 in
theorem e_X4_scan_J49 {rec : Int → Int → Int → Int → ab_H → Option ab_H} {k101 : Int → Int → ab_H → Option ab_H} (hrec : ∀ (v0 : Int) (v1 : Int) (v2 : Int) (v3 : Int) (h : ab_H) (q : ab_H), rec v0 v1 v2 v3 h = some q → ab_E mm_X4_scan cX4_scan 10 [some (ab_R v0), some (ab_R v1), some (ab_I v2), some (ab_I v3), none, none, none] [] h none q) (hk101 : ∀ (v0 : Int) (v1 : Int) (h : ab_H) (q : ab_H), k101 v0 v1 h = some q → ab_E mm_X4_scan cX4_scan 101 [some (ab_R v0), some (ab_R v1), none, none, none, none, none] [] h none q) : ∀ (v0 : Int) (v1 : Int) (v3 : Int) (v4 : Int) (v5 : Int) (h : ab_H) (q : ab_H), f_X4_scan_J49 rec k101 v0 v1 v3 v4 v5 h = some q → ab_E mm_X4_scan cX4_scan 49 [some (ab_R v0), some (ab_R v1), none, some (ab_I v3), some (ab_I v4), some (ab_I v5), none] [] h none q := by
  intro v0 v1 v3 v4 v5 h q hk
  unfold f_X4_scan_J49 at hk
  refine ab_iconst (pc := 49) dX4_scan_49 ab_k_0 ?_
  refine ab_sub_ (lv2 := [some (ab_R v0), some (ab_R v1), none, some (ab_I v3), some (ab_I v4), some (ab_I v5), none]) (ab_ss (ab_ss (ab_sn (ab_ss (ab_ss (ab_ss (ab_sn ab_s0))))))) ?_
  exact e_X4_scan_J50 hrec hk101 _ _ _ _ _ _ _ _ hk
noncomputable def f_X4_scan_L10 (k101 : Int → Int → ab_H → Option ab_H) : Nat → Int → Int → Int → Int → ab_H → Option ab_H
  | 0, _, _, _, _, _ => none
  | n + 1, v0, v1, v2, v3, h =>
    (ab_get h 2 1 v1).bind fun t1 =>
    if t1 ≤ v3 then
      k101 v0 v1 h
    else
    (ab_get h 2 0 v1).bind fun t2 =>
    (ab_ald h 13 t2 v3).bind fun t3 =>
    (f_X4_kindOf t3 h).bind fun q4 =>
    if q4.1 = v2 then
      if q4.1 = (5 : Int) then
        f_X4_scan_J49 (f_X4_scan_L10 k101 n) k101 v0 v1 v3 t3 q4.1 q4.2
      else
      f_X4_scan_J50 (f_X4_scan_L10 k101 n) k101 v0 v1 v3 t3 q4.1 (1 : Int) q4.2
    else
    f_X4_scan_J49 (f_X4_scan_L10 k101 n) k101 v0 v1 v3 t3 q4.1 q4.2
set_option maxRecDepth 20000 in
theorem e_X4_scan_L10 {k101 : Int → Int → ab_H → Option ab_H} (hk101 : ∀ (v0 : Int) (v1 : Int) (h : ab_H) (q : ab_H), k101 v0 v1 h = some q → ab_E mm_X4_scan cX4_scan 101 [some (ab_R v0), some (ab_R v1), none, none, none, none, none] [] h none q) : ∀ (n : Nat) (v0 : Int) (v1 : Int) (v2 : Int) (v3 : Int) (h : ab_H) (q : ab_H), f_X4_scan_L10 k101 n v0 v1 v2 v3 h = some q → ab_E mm_X4_scan cX4_scan 10 [some (ab_R v0), some (ab_R v1), some (ab_I v2), some (ab_I v3), none, none, none] [] h none q := by
  intro n
  induction n with
  | zero => intro v0 v1 v2 v3 h q hk; cases hk
  | succ n ih =>
    intro v0 v1 v2 v3 h q hk
    unfold f_X4_scan_L10 at hk
    refine ab_iload_n (pc := 10) (i := 3) dX4_scan_10 rfl rfl ?_
    refine ab_aload_n (pc := 11) (i := 1) dX4_scan_11 rfl rfl ?_
    obtain ⟨t1, ht1, hk⟩ := ab_bnd hk
    refine ab_getI (pc := 12) dX4_scan_12 fl_RX4_97 ht1 ?_
    refine ab_icmp_ge (pc := 15) (tgt := 101) dX4_scan_15 rfl (fun hc => ?_) (fun hc => ?_)
    · have hk := ab_ifp hk hc
      refine ab_sub_ (lv2 := [some (ab_R v0), some (ab_R v1), none, none, none, none, none]) (ab_ss (ab_ss (ab_sn (ab_sn (ab_sn (ab_sn (ab_sn ab_s0))))))) ?_
      exact hk101 _ _ _ _ hk
    · have hk := ab_ifn hk hc
      refine ab_aload_n (pc := 18) (i := 1) dX4_scan_18 rfl rfl ?_
      obtain ⟨t2, ht2, hk⟩ := ab_bnd hk
      refine ab_getR (pc := 19) dX4_scan_19 fl_RX4_102 ht2 ?_
      refine ab_iload_n (pc := 22) (i := 3) dX4_scan_22 rfl rfl ?_
      obtain ⟨t3, ht3, hk⟩ := ab_bnd hk
      refine ab_bald (pc := 23) dX4_scan_23 ht3 ?_
      refine ab_istore (pc := 24) (i := 4) (lv2 := [some (ab_R v0), some (ab_R v1), some (ab_I v2), some (ab_I v3), some (ab_I t3), none, none]) dX4_scan_24 (Nat.le_of_ble_eq_true rfl) rfl rfl ?_
      refine ab_iload (pc := 26) (i := 4) dX4_scan_26 rfl ?_
      obtain ⟨q4, hq4, hk⟩ := ab_bnd hk
      refine ab_callSI (st := []) (as := [ab_I t3]) (pc := 28) dX4_scan_28 ml_RX4_106 my_X4_kindOf ms_X4_kindOf (ct_X4_kindOf hq4) ⟨Nat.le_of_ble_eq_true rfl, Nat.le_of_ble_eq_true rfl⟩ rfl (Nat.le_of_ble_eq_true rfl) rfl ?_
      refine ab_istore (pc := 31) (i := 5) (lv2 := [some (ab_R v0), some (ab_R v1), some (ab_I v2), some (ab_I v3), some (ab_I t3), some (ab_I q4.1), none]) dX4_scan_31 (Nat.le_of_ble_eq_true rfl) rfl rfl ?_
      refine ab_iload (pc := 33) (i := 5) dX4_scan_33 rfl ?_
      refine ab_iload_n (pc := 35) (i := 2) dX4_scan_35 rfl rfl ?_
      refine ab_icmp_ne (pc := 36) (tgt := 49) dX4_scan_36 rfl (fun hc => ?_) (fun hc => ?_)
      · have hk := ab_ifn hk hc
        refine ab_sub_ (lv2 := [some (ab_R v0), some (ab_R v1), none, some (ab_I v3), some (ab_I t3), some (ab_I q4.1), none]) (ab_ss (ab_ss (ab_sn (ab_ss (ab_ss (ab_ss (ab_sn ab_s0))))))) ?_
        exact e_X4_scan_J49 ih hk101 _ _ _ _ _ _ _ hk
      · have hk := ab_ifp hk hc
        refine ab_iload (pc := 39) (i := 5) dX4_scan_39 rfl ?_
        refine ab_iconst (pc := 41) dX4_scan_41 ab_k_5 ?_
        refine ab_icmp_eq (pc := 42) (tgt := 49) dX4_scan_42 rfl (fun hc => ?_) (fun hc => ?_)
        · have hk := ab_ifp hk hc
          refine ab_sub_ (lv2 := [some (ab_R v0), some (ab_R v1), none, some (ab_I v3), some (ab_I t3), some (ab_I q4.1), none]) (ab_ss (ab_ss (ab_sn (ab_ss (ab_ss (ab_ss (ab_sn ab_s0))))))) ?_
          exact e_X4_scan_J49 ih hk101 _ _ _ _ _ _ _ hk
        · have hk := ab_ifn hk hc
          refine ab_iconst (pc := 45) dX4_scan_45 ab_k_1 ?_
          refine ab_goto (pc := 46) (tgt := 50) dX4_scan_46 rfl ?_
          refine ab_sub_ (lv2 := [some (ab_R v0), some (ab_R v1), none, some (ab_I v3), some (ab_I t3), some (ab_I q4.1), none]) (ab_ss (ab_ss (ab_sn (ab_ss (ab_ss (ab_ss (ab_sn ab_s0))))))) ?_
          exact e_X4_scan_J50 ih hk101 _ _ _ _ _ _ _ _ hk
noncomputable def f_X4_scan (a0 : Int) (a1 : Int) (h : ab_H) : Option ab_H :=
  (ab_put h 5 4 a0 (0 : Int)).bind fun h1 =>
  f_X4_scan_L10 (fun w101_0 w101_1 hx101 =>
    (ab_get hx101 2 1 w101_1).bind fun t1 =>
    (ab_on hx101 5 w101_0 (f_X4_open w101_0 (0 : Int) t1 hx101)).bind fun q2 =>
    some q2) ab_FU a0 a1 (6 : Int) (0 : Int) h1
set_option maxRecDepth 20000 in
theorem ct_X4_scan {a0 a1 : Int} {h : ab_H} {q : ab_H} (hk : f_X4_scan a0 a1 h = some q) : ab_CT yX4_scan cX4_scan 7 none 2 47 [ab_R a0, ab_R a1] h none q := by
  refine ab_CT.mk_ 5 (own := RX4) (ini := false) (lv := [some (ab_R a0), some (ab_R a1), none, none, none, none, none]) rfl (by decide +kernel) (fun q => by cases q) rfl rfl ?_
  unfold f_X4_scan at hk
  show ab_E mm_X4_scan cX4_scan 0 _ [] h _ _
  refine ab_aload_n (pc := 0) (i := 0) dX4_scan_0 rfl rfl ?_
  refine ab_iconst (pc := 1) dX4_scan_1 ab_k_0 ?_
  obtain ⟨h1, hh1, hk⟩ := ab_bnd hk
  refine ab_putI_ (pc := 2) dX4_scan_2 fl_RX4_65 (fun q => by cases q) hh1 ?_
  refine ab_bipush (pc := 5) dX4_scan_5 ab_p8_6 ab_k_6 ?_
  refine ab_istore_n (pc := 7) (i := 2) (lv2 := [some (ab_R a0), some (ab_R a1), some (ab_I (6 : Int)), none, none, none, none]) dX4_scan_7 rfl (Nat.le_of_ble_eq_true rfl) rfl rfl ?_
  refine ab_iconst (pc := 8) dX4_scan_8 ab_k_0 ?_
  refine ab_istore_n (pc := 9) (i := 3) (lv2 := [some (ab_R a0), some (ab_R a1), some (ab_I (6 : Int)), some (ab_I (0 : Int)), none, none, none]) dX4_scan_9 rfl (Nat.le_of_ble_eq_true rfl) rfl rfl ?_
  refine ab_sub_ (lv2 := [some (ab_R a0), some (ab_R a1), some (ab_I (6 : Int)), some (ab_I (0 : Int)), none, none, none]) (ab_ss (ab_ss (ab_ss (ab_ss (ab_sn (ab_sn (ab_sn ab_s0))))))) ?_
  refine e_X4_scan_L10 (fun w101_0 w101_1 hx101 q hk => ?_) _ _ _ _ _ _ _ hk
  · skip
    refine ab_aload_n (pc := 101) (i := 0) dX4_scan_101 rfl rfl ?_
    refine ab_iconst (pc := 102) dX4_scan_102 ab_k_0 ?_
    refine ab_aload_n (pc := 103) (i := 1) dX4_scan_103 rfl rfl ?_
    obtain ⟨t1, ht1, hk⟩ := ab_bnd hk
    refine ab_getI (pc := 104) dX4_scan_104 fl_RX4_97 ht1 ?_
    obtain ⟨q2, hq2, hk⟩ := ab_bnd hk
    obtain ⟨hb, hq2⟩ := ab_on_some hq2
    refine ab_callVV (st := []) (as := [ab_I (0 : Int), ab_I t1]) (b := w101_0) (pc := 107) dX4_scan_107 ml_RX4_110 my_X4_open mv_X4_open hb (ct_X4_open hq2) ⟨Nat.le_of_ble_eq_true rfl, Nat.le_of_ble_eq_true rfl⟩ rfl (Nat.le_of_ble_eq_true rfl) rfl ?_
    obtain rfl := Option.some.inj hk
    exact ab_retv (pc := 110) dX4_scan_110 rfl
theorem dX4_settle_0 : decode cX4_settle 0 = .ok (.aload_n 0, 1) := by decide +kernel
theorem dX4_settle_1 : decode cX4_settle 1 = .ok (.getfield 22, 3) := by decide +kernel
theorem dX4_settle_4 : decode cX4_settle 4 = .ok (.iload_n 1, 1) := by decide +kernel
theorem dX4_settle_5 : decode cX4_settle 5 = .ok (.aload_n 0, 1) := by decide +kernel
theorem dX4_settle_6 : decode cX4_settle 6 = .ok (.getfield 22, 3) := by decide +kernel
theorem dX4_settle_9 : decode cX4_settle 9 = .ok (.iload_n 1, 1) := by decide +kernel
theorem dX4_settle_10 : decode cX4_settle 10 = .ok (.laload, 1) := by decide +kernel
theorem dX4_settle_11 : decode cX4_settle 11 = .ok (.invokestatic 49, 3) := by decide +kernel
theorem dX4_settle_14 : decode cX4_settle 14 = .ok (.lastore, 1) := by decide +kernel
theorem dX4_settle_15 : decode cX4_settle 15 = .ok (.iconst 0, 1) := by decide +kernel
theorem dX4_settle_16 : decode cX4_settle 16 = .ok (.istore_n 2, 1) := by decide +kernel
theorem dX4_settle_17 : decode cX4_settle 17 = .ok (.iload_n 2, 1) := by decide +kernel
theorem dX4_settle_18 : decode cX4_settle 18 = .ok (.bipush 15, 2) := by decide +kernel
theorem dX4_settle_20 : decode cX4_settle 20 = .ok (.if_icmp .ge 44, 3) := by decide +kernel
theorem dX4_settle_23 : decode cX4_settle 23 = .ok (.aload_n 0, 1) := by decide +kernel
theorem dX4_settle_24 : decode cX4_settle 24 = .ok (.getfield 11, 3) := by decide +kernel
theorem dX4_settle_27 : decode cX4_settle 27 = .ok (.iload_n 2, 1) := by decide +kernel
theorem dX4_settle_28 : decode cX4_settle 28 = .ok (.laload, 1) := by decide +kernel
theorem dX4_settle_29 : decode cX4_settle 29 = .ok (.aload_n 0, 1) := by decide +kernel
theorem dX4_settle_30 : decode cX4_settle 30 = .ok (.getfield 22, 3) := by decide +kernel
theorem dX4_settle_33 : decode cX4_settle 33 = .ok (.iload_n 1, 1) := by decide +kernel
theorem dX4_settle_34 : decode cX4_settle 34 = .ok (.laload, 1) := by decide +kernel
theorem dX4_settle_35 : decode cX4_settle 35 = .ok (.lcmp, 1) := by decide +kernel
theorem dX4_settle_36 : decode cX4_settle 36 = .ok (.ifCond .eq 6, 3) := by decide +kernel
theorem dX4_settle_39 : decode cX4_settle 39 = .ok (.goto 19, 3) := by decide +kernel
theorem dX4_settle_42 : decode cX4_settle 42 = .ok (.aload_n 0, 1) := by decide +kernel
theorem dX4_settle_43 : decode cX4_settle 43 = .ok (.getfield 15, 3) := by decide +kernel
theorem dX4_settle_46 : decode cX4_settle 46 = .ok (.iload_n 1, 1) := by decide +kernel
theorem dX4_settle_47 : decode cX4_settle 47 = .ok (.iconst 1, 1) := by decide +kernel
theorem dX4_settle_48 : decode cX4_settle 48 = .ok (.iastore, 1) := by decide +kernel
theorem dX4_settle_49 : decode cX4_settle 49 = .ok (.aload_n 0, 1) := by decide +kernel
theorem dX4_settle_50 : decode cX4_settle 50 = .ok (.getfield 22, 3) := by decide +kernel
theorem dX4_settle_53 : decode cX4_settle 53 = .ok (.iload_n 1, 1) := by decide +kernel
theorem dX4_settle_54 : decode cX4_settle 54 = .ok (.iload_n 2, 1) := by decide +kernel
theorem dX4_settle_55 : decode cX4_settle 55 = .ok (.i2l, 1) := by decide +kernel
theorem dX4_settle_56 : decode cX4_settle 56 = .ok (.lastore, 1) := by decide +kernel
theorem dX4_settle_57 : decode cX4_settle 57 = .ok (.return_, 1) := by decide +kernel
theorem dX4_settle_58 : decode cX4_settle 58 = .ok (.iinc 2 1, 3) := by decide +kernel
theorem dX4_settle_61 : decode cX4_settle 61 = .ok (.goto (-44), 3) := by decide +kernel
theorem dX4_settle_64 : decode cX4_settle 64 = .ok (.return_, 1) := by decide +kernel
abbrev mm_X4_settle : ab_M := (RX4, 3, none, false, 1, 24, none)
noncomputable def f_X4_settle_L17 (k42 : Int → Int → Int → ab_H → Option ab_H) : Nat → Int → Int → Int → ab_H → Option ab_H
  | 0, _, _, _, _ => none
  | n + 1, v0, v1, v2, h =>
    if (15 : Int) ≤ v2 then
      some h
    else
    (ab_get h 5 0 v0).bind fun t1 =>
    (ab_ald h 12 t1 v2).bind fun t2 =>
    (ab_get h 5 3 v0).bind fun t3 =>
    (ab_ald h 12 t3 v1).bind fun t4 =>
    if ab_cmp t2 t4 = (0 : Int) then
      k42 v0 v1 v2 h
    else
    f_X4_settle_L17 k42 n v0 v1 (ab_w32 (v2 + (1 : Int))) h
set_option maxRecDepth 20000 in
theorem e_X4_settle_L17 {k42 : Int → Int → Int → ab_H → Option ab_H} (hk42 : ∀ (v0 : Int) (v1 : Int) (v2 : Int) (h : ab_H) (q : ab_H), k42 v0 v1 v2 h = some q → ab_E mm_X4_settle cX4_settle 42 [some (ab_R v0), some (ab_I v1), some (ab_I v2)] [] h none q) : ∀ (n : Nat) (v0 : Int) (v1 : Int) (v2 : Int) (h : ab_H) (q : ab_H), f_X4_settle_L17 k42 n v0 v1 v2 h = some q → ab_E mm_X4_settle cX4_settle 17 [some (ab_R v0), some (ab_I v1), some (ab_I v2)] [] h none q := by
  intro n
  induction n with
  | zero => intro v0 v1 v2 h q hk; cases hk
  | succ n ih =>
    intro v0 v1 v2 h q hk
    unfold f_X4_settle_L17 at hk
    refine ab_iload_n (pc := 17) (i := 2) dX4_settle_17 rfl rfl ?_
    refine ab_bipush (pc := 18) dX4_settle_18 ab_p8_15 ab_k_15 ?_
    refine ab_icmp_ge (pc := 20) (tgt := 64) dX4_settle_20 rfl (fun hc => ?_) (fun hc => ?_)
    · have hk := ab_ifp hk hc
      obtain rfl := Option.some.inj hk
      exact ab_retv (pc := 64) dX4_settle_64 rfl
    · have hk := ab_ifn hk hc
      refine ab_aload_n (pc := 23) (i := 0) dX4_settle_23 rfl rfl ?_
      obtain ⟨t1, ht1, hk⟩ := ab_bnd hk
      refine ab_getR (pc := 24) dX4_settle_24 fl_RX4_11 ht1 ?_
      refine ab_iload_n (pc := 27) (i := 2) dX4_settle_27 rfl rfl ?_
      obtain ⟨t2, ht2, hk⟩ := ab_bnd hk
      refine ab_lald (pc := 28) dX4_settle_28 ht2 ?_
      refine ab_aload_n (pc := 29) (i := 0) dX4_settle_29 rfl rfl ?_
      obtain ⟨t3, ht3, hk⟩ := ab_bnd hk
      refine ab_getR (pc := 30) dX4_settle_30 fl_RX4_22 ht3 ?_
      refine ab_iload_n (pc := 33) (i := 1) dX4_settle_33 rfl rfl ?_
      obtain ⟨t4, ht4, hk⟩ := ab_bnd hk
      refine ab_lald (pc := 34) dX4_settle_34 ht4 ?_
      refine ab_lcmp_ (pc := 35) dX4_settle_35 ?_
      refine ab_if_eq (pc := 36) (tgt := 42) dX4_settle_36 rfl (fun hc => ?_) (fun hc => ?_)
      · have hk := ab_ifp hk hc
        refine ab_sub_ (lv2 := [some (ab_R v0), some (ab_I v1), some (ab_I v2)]) (ab_ss (ab_ss (ab_ss ab_s0))) ?_
        exact hk42 _ _ _ _ _ hk
      · have hk := ab_ifn hk hc
        refine ab_goto (pc := 39) (tgt := 58) dX4_settle_39 rfl ?_
        refine ab_iinc (pc := 58) (i := 2) (lv2 := [some (ab_R v0), some (ab_I v1), some (ab_I (ab_w32 (v2 + (1 : Int))))]) dX4_settle_58 rfl (Nat.le_of_ble_eq_true rfl) rfl rfl ?_
        refine ab_goto (pc := 61) (tgt := 17) dX4_settle_61 rfl ?_
        refine ab_sub_ (lv2 := [some (ab_R v0), some (ab_I v1), some (ab_I (ab_w32 (v2 + (1 : Int))))]) (ab_ss (ab_ss (ab_ss ab_s0))) ?_
        exact ih _ _ _ _ _ hk
noncomputable def f_X4_settle (a0 : Int) (a1 : Int) (h : ab_H) : Option ab_H :=
  (ab_get h 5 3 a0).bind fun t1 =>
  (ab_get h 5 3 a0).bind fun t2 =>
  (ab_ald h 12 t2 a1).bind fun t3 =>
  (f_X8_aligned t3 h).bind fun q4 =>
  (ab_ast q4.2 12 t1 a1 q4.1).bind fun h1 =>
  f_X4_settle_L17 (fun w42_0 w42_1 w42_2 hx42 =>
    (ab_get hx42 5 1 w42_0).bind fun t5 =>
    (ab_ast hx42 11 t5 w42_1 (1 : Int)).bind fun h2 =>
    (ab_get h2 5 3 w42_0).bind fun t6 =>
    (ab_ast h2 12 t6 w42_1 w42_2).bind fun h3 =>
    some h3) ab_FU a0 a1 (0 : Int) h1
set_option maxRecDepth 20000 in
theorem ct_X4_settle {a0 a1 : Int} {h : ab_H} {q : ab_H} (hk : f_X4_settle a0 a1 h = some q) : ab_CT yX4_settle cX4_settle 3 none 1 24 [ab_R a0, ab_I a1] h none q := by
  refine ab_CT.mk_ 1 (own := RX4) (ini := false) (lv := [some (ab_R a0), some (ab_I a1), none]) rfl (by decide +kernel) (fun q => by cases q) rfl rfl ?_
  unfold f_X4_settle at hk
  show ab_E mm_X4_settle cX4_settle 0 _ [] h _ _
  refine ab_aload_n (pc := 0) (i := 0) dX4_settle_0 rfl rfl ?_
  obtain ⟨t1, ht1, hk⟩ := ab_bnd hk
  refine ab_getR (pc := 1) dX4_settle_1 fl_RX4_22 ht1 ?_
  refine ab_iload_n (pc := 4) (i := 1) dX4_settle_4 rfl rfl ?_
  refine ab_aload_n (pc := 5) (i := 0) dX4_settle_5 rfl rfl ?_
  obtain ⟨t2, ht2, hk⟩ := ab_bnd hk
  refine ab_getR (pc := 6) dX4_settle_6 fl_RX4_22 ht2 ?_
  refine ab_iload_n (pc := 9) (i := 1) dX4_settle_9 rfl rfl ?_
  obtain ⟨t3, ht3, hk⟩ := ab_bnd hk
  refine ab_lald (pc := 10) dX4_settle_10 ht3 ?_
  obtain ⟨q4, hq4, hk⟩ := ab_bnd hk
  refine ab_callSJ (st := [ab_I a1, ab_R t1]) (as := [ab_J t3]) (pc := 11) dX4_settle_11 ml_RX4_49 my_X8_aligned ms_X8_aligned (ct_X8_aligned hq4) ⟨Nat.le_of_ble_eq_true rfl, Nat.le_of_ble_eq_true rfl⟩ rfl (Nat.le_of_ble_eq_true rfl) rfl ?_
  obtain ⟨h1, hh1, hk⟩ := ab_bnd hk
  refine ab_last (pc := 14) dX4_settle_14 hh1 ?_
  refine ab_iconst (pc := 15) dX4_settle_15 ab_k_0 ?_
  refine ab_istore_n (pc := 16) (i := 2) (lv2 := [some (ab_R a0), some (ab_I a1), some (ab_I (0 : Int))]) dX4_settle_16 rfl (Nat.le_of_ble_eq_true rfl) rfl rfl ?_
  refine ab_sub_ (lv2 := [some (ab_R a0), some (ab_I a1), some (ab_I (0 : Int))]) (ab_ss (ab_ss (ab_ss ab_s0))) ?_
  refine e_X4_settle_L17 (fun w42_0 w42_1 w42_2 hx42 q hk => ?_) _ _ _ _ _ _ hk
  · skip
    refine ab_aload_n (pc := 42) (i := 0) dX4_settle_42 rfl rfl ?_
    obtain ⟨t5, ht5, hk⟩ := ab_bnd hk
    refine ab_getR (pc := 43) dX4_settle_43 fl_RX4_15 ht5 ?_
    refine ab_iload_n (pc := 46) (i := 1) dX4_settle_46 rfl rfl ?_
    refine ab_iconst (pc := 47) dX4_settle_47 ab_k_1 ?_
    obtain ⟨h2, hh2, hk⟩ := ab_bnd hk
    refine ab_iast (pc := 48) dX4_settle_48 hh2 ?_
    refine ab_aload_n (pc := 49) (i := 0) dX4_settle_49 rfl rfl ?_
    obtain ⟨t6, ht6, hk⟩ := ab_bnd hk
    refine ab_getR (pc := 50) dX4_settle_50 fl_RX4_22 ht6 ?_
    refine ab_iload_n (pc := 53) (i := 1) dX4_settle_53 rfl rfl ?_
    refine ab_iload_n (pc := 54) (i := 2) dX4_settle_54 rfl rfl ?_
    refine ab_i2l_ (pc := 55) dX4_settle_55 ?_
    obtain ⟨h3, hh3, hk⟩ := ab_bnd hk
    refine ab_last (pc := 56) dX4_settle_56 hh3 ?_
    obtain rfl := Option.some.inj hk
    exact ab_retv (pc := 57) dX4_settle_57 rfl
theorem dX4_begin_0 : decode cX4_begin 0 = .ok (.aload_n 0, 1) := by decide +kernel
theorem dX4_begin_1 : decode cX4_begin 1 = .ok (.iconst 0, 1) := by decide +kernel
theorem dX4_begin_2 : decode cX4_begin 2 = .ok (.putfield 84, 3) := by decide +kernel
theorem dX4_begin_5 : decode cX4_begin 5 = .ok (.aload_n 0, 1) := by decide +kernel
theorem dX4_begin_6 : decode cX4_begin 6 = .ok (.iconst (-1), 1) := by decide +kernel
theorem dX4_begin_7 : decode cX4_begin 7 = .ok (.putfield 25, 3) := by decide +kernel
theorem dX4_begin_10 : decode cX4_begin 10 = .ok (.aload_n 0, 1) := by decide +kernel
theorem dX4_begin_11 : decode cX4_begin 11 = .ok (.iconst 0, 1) := by decide +kernel
theorem dX4_begin_12 : decode cX4_begin 12 = .ok (.putfield 87, 3) := by decide +kernel
theorem dX4_begin_15 : decode cX4_begin 15 = .ok (.aload_n 0, 1) := by decide +kernel
theorem dX4_begin_16 : decode cX4_begin 16 = .ok (.iconst 0, 1) := by decide +kernel
theorem dX4_begin_17 : decode cX4_begin 17 = .ok (.putfield 68, 3) := by decide +kernel
theorem dX4_begin_20 : decode cX4_begin 20 = .ok (.aload_n 0, 1) := by decide +kernel
theorem dX4_begin_21 : decode cX4_begin 21 = .ok (.aload_n 1, 1) := by decide +kernel
theorem dX4_begin_22 : decode cX4_begin 22 = .ok (.invokevirtual 90, 3) := by decide +kernel
theorem dX4_begin_25 : decode cX4_begin 25 = .ok (.iconst 0, 1) := by decide +kernel
theorem dX4_begin_26 : decode cX4_begin 26 = .ok (.istore_n 2, 1) := by decide +kernel
theorem dX4_begin_27 : decode cX4_begin 27 = .ok (.iload_n 2, 1) := by decide +kernel
theorem dX4_begin_28 : decode cX4_begin 28 = .ok (.aload_n 0, 1) := by decide +kernel
theorem dX4_begin_29 : decode cX4_begin 29 = .ok (.getfield 65, 3) := by decide +kernel
theorem dX4_begin_32 : decode cX4_begin 32 = .ok (.if_icmp .ge 24, 3) := by decide +kernel
theorem dX4_begin_35 : decode cX4_begin 35 = .ok (.aload_n 0, 1) := by decide +kernel
theorem dX4_begin_36 : decode cX4_begin 36 = .ok (.getfield 15, 3) := by decide +kernel
theorem dX4_begin_39 : decode cX4_begin 39 = .ok (.iload_n 2, 1) := by decide +kernel
theorem dX4_begin_40 : decode cX4_begin 40 = .ok (.iaload, 1) := by decide +kernel
theorem dX4_begin_41 : decode cX4_begin 41 = .ok (.iconst 2, 1) := by decide +kernel
theorem dX4_begin_42 : decode cX4_begin 42 = .ok (.if_icmp .ne 8, 3) := by decide +kernel
theorem dX4_begin_45 : decode cX4_begin 45 = .ok (.aload_n 0, 1) := by decide +kernel
theorem dX4_begin_46 : decode cX4_begin 46 = .ok (.iload_n 2, 1) := by decide +kernel
theorem dX4_begin_47 : decode cX4_begin 47 = .ok (.invokevirtual 93, 3) := by decide +kernel
theorem dX4_begin_50 : decode cX4_begin 50 = .ok (.iinc 2 1, 3) := by decide +kernel
theorem dX4_begin_53 : decode cX4_begin 53 = .ok (.goto (-26), 3) := by decide +kernel
theorem dX4_begin_56 : decode cX4_begin 56 = .ok (.return_, 1) := by decide +kernel
abbrev mm_X4_begin : ab_M := (RX4, 3, none, false, 3, 73, none)
noncomputable def f_X4_begin_J50 (rec : Int → Int → ab_H → Option ab_H) (v0 : Int) (v2 : Int) (h : ab_H) : Option ab_H :=
  rec v0 (ab_w32 (v2 + (1 : Int))) h
set_option maxRecDepth 20000 in
theorem e_X4_begin_J50 {rec : Int → Int → ab_H → Option ab_H} (hrec : ∀ (v0 : Int) (v2 : Int) (h : ab_H) (q : ab_H), rec v0 v2 h = some q → ab_E mm_X4_begin cX4_begin 27 [some (ab_R v0), none, some (ab_I v2)] [] h none q) : ∀ (v0 : Int) (v2 : Int) (h : ab_H) (q : ab_H), f_X4_begin_J50 rec v0 v2 h = some q → ab_E mm_X4_begin cX4_begin 50 [some (ab_R v0), none, some (ab_I v2)] [] h none q := by
  intro v0 v2 h q hk
  unfold f_X4_begin_J50 at hk
  refine ab_iinc (pc := 50) (i := 2) (lv2 := [some (ab_R v0), none, some (ab_I (ab_w32 (v2 + (1 : Int))))]) dX4_begin_50 rfl (Nat.le_of_ble_eq_true rfl) rfl rfl ?_
  refine ab_goto (pc := 53) (tgt := 27) dX4_begin_53 rfl ?_
  refine ab_sub_ (lv2 := [some (ab_R v0), none, some (ab_I (ab_w32 (v2 + (1 : Int))))]) (ab_ss (ab_sn (ab_ss ab_s0))) ?_
  exact hrec _ _ _ _ hk
noncomputable def f_X4_begin_L27 : Nat → Int → Int → ab_H → Option ab_H
  | 0, _, _, _ => none
  | n + 1, v0, v2, h =>
    (ab_get h 5 4 v0).bind fun t1 =>
    if t1 ≤ v2 then
      some h
    else
    (ab_get h 5 1 v0).bind fun t2 =>
    (ab_ald h 11 t2 v2).bind fun t3 =>
    if t3 = (2 : Int) then
      (ab_on h 5 v0 (f_X4_settle v0 v2 h)).bind fun q4 =>
      f_X4_begin_J50 (f_X4_begin_L27 n) v0 v2 q4
    else
    f_X4_begin_J50 (f_X4_begin_L27 n) v0 v2 h
set_option maxRecDepth 20000 in
theorem e_X4_begin_L27 : ∀ (n : Nat) (v0 : Int) (v2 : Int) (h : ab_H) (q : ab_H), f_X4_begin_L27 n v0 v2 h = some q → ab_E mm_X4_begin cX4_begin 27 [some (ab_R v0), none, some (ab_I v2)] [] h none q := by
  intro n
  induction n with
  | zero => intro v0 v2 h q hk; cases hk
  | succ n ih =>
    intro v0 v2 h q hk
    unfold f_X4_begin_L27 at hk
    refine ab_iload_n (pc := 27) (i := 2) dX4_begin_27 rfl rfl ?_
    refine ab_aload_n (pc := 28) (i := 0) dX4_begin_28 rfl rfl ?_
    obtain ⟨t1, ht1, hk⟩ := ab_bnd hk
    refine ab_getI (pc := 29) dX4_begin_29 fl_RX4_65 ht1 ?_
    refine ab_icmp_ge (pc := 32) (tgt := 56) dX4_begin_32 rfl (fun hc => ?_) (fun hc => ?_)
    · have hk := ab_ifp hk hc
      obtain rfl := Option.some.inj hk
      exact ab_retv (pc := 56) dX4_begin_56 rfl
    · have hk := ab_ifn hk hc
      refine ab_aload_n (pc := 35) (i := 0) dX4_begin_35 rfl rfl ?_
      obtain ⟨t2, ht2, hk⟩ := ab_bnd hk
      refine ab_getR (pc := 36) dX4_begin_36 fl_RX4_15 ht2 ?_
      refine ab_iload_n (pc := 39) (i := 2) dX4_begin_39 rfl rfl ?_
      obtain ⟨t3, ht3, hk⟩ := ab_bnd hk
      refine ab_iald (pc := 40) dX4_begin_40 ht3 ?_
      refine ab_iconst (pc := 41) dX4_begin_41 ab_k_2 ?_
      refine ab_icmp_ne (pc := 42) (tgt := 50) dX4_begin_42 rfl (fun hc => ?_) (fun hc => ?_)
      · have hk := ab_ifn hk hc
        refine ab_sub_ (lv2 := [some (ab_R v0), none, some (ab_I v2)]) (ab_ss (ab_sn (ab_ss ab_s0))) ?_
        exact e_X4_begin_J50 ih _ _ _ _ hk
      · have hk := ab_ifp hk hc
        refine ab_aload_n (pc := 45) (i := 0) dX4_begin_45 rfl rfl ?_
        refine ab_iload_n (pc := 46) (i := 2) dX4_begin_46 rfl rfl ?_
        obtain ⟨q4, hq4, hk⟩ := ab_bnd hk
        obtain ⟨hb, hq4⟩ := ab_on_some hq4
        refine ab_callVV (st := []) (as := [ab_I v2]) (b := v0) (pc := 47) dX4_begin_47 ml_RX4_93 my_X4_settle mv_X4_settle hb (ct_X4_settle hq4) ⟨Nat.le_of_ble_eq_true rfl, Nat.le_of_ble_eq_true rfl⟩ rfl (Nat.le_of_ble_eq_true rfl) rfl ?_
        refine ab_sub_ (lv2 := [some (ab_R v0), none, some (ab_I v2)]) (ab_ss (ab_sn (ab_ss ab_s0))) ?_
        exact e_X4_begin_J50 ih _ _ _ _ hk
noncomputable def f_X4_begin (a0 : Int) (a1 : Int) (h : ab_H) : Option ab_H :=
  (ab_put h 5 9 a0 (0 : Int)).bind fun h1 =>
  (ab_put h1 5 10 a0 (-1 : Int)).bind fun h2 =>
  (ab_put h2 5 6 a0 (0 : Int)).bind fun h3 =>
  (ab_put h3 5 5 a0 (0 : Int)).bind fun h4 =>
  (ab_on h4 5 a0 (f_X4_scan a0 a1 h4)).bind fun q1 =>
  f_X4_begin_L27 ab_FU a0 (0 : Int) q1
set_option maxRecDepth 20000 in
theorem ct_X4_begin {a0 a1 : Int} {h : ab_H} {q : ab_H} (hk : f_X4_begin a0 a1 h = some q) : ab_CT yX4_begin cX4_begin 3 none 3 73 [ab_R a0, ab_R a1] h none q := by
  refine ab_CT.mk_ 1 (own := RX4) (ini := false) (lv := [some (ab_R a0), some (ab_R a1), none]) rfl (by decide +kernel) (fun q => by cases q) rfl rfl ?_
  unfold f_X4_begin at hk
  show ab_E mm_X4_begin cX4_begin 0 _ [] h _ _
  refine ab_aload_n (pc := 0) (i := 0) dX4_begin_0 rfl rfl ?_
  refine ab_iconst (pc := 1) dX4_begin_1 ab_k_0 ?_
  obtain ⟨h1, hh1, hk⟩ := ab_bnd hk
  refine ab_putI_ (pc := 2) dX4_begin_2 fl_RX4_84 (fun q => by cases q) hh1 ?_
  refine ab_aload_n (pc := 5) (i := 0) dX4_begin_5 rfl rfl ?_
  refine ab_iconst (pc := 6) dX4_begin_6 ab_k_m1 ?_
  obtain ⟨h2, hh2, hk⟩ := ab_bnd hk
  refine ab_putI_ (pc := 7) dX4_begin_7 fl_RX4_25 (fun q => by cases q) hh2 ?_
  refine ab_aload_n (pc := 10) (i := 0) dX4_begin_10 rfl rfl ?_
  refine ab_iconst (pc := 11) dX4_begin_11 ab_k_0 ?_
  obtain ⟨h3, hh3, hk⟩ := ab_bnd hk
  refine ab_putI_ (pc := 12) dX4_begin_12 fl_RX4_87 (fun q => by cases q) hh3 ?_
  refine ab_aload_n (pc := 15) (i := 0) dX4_begin_15 rfl rfl ?_
  refine ab_iconst (pc := 16) dX4_begin_16 ab_k_0 ?_
  obtain ⟨h4, hh4, hk⟩ := ab_bnd hk
  refine ab_putI_ (pc := 17) dX4_begin_17 fl_RX4_68 (fun q => by cases q) hh4 ?_
  refine ab_aload_n (pc := 20) (i := 0) dX4_begin_20 rfl rfl ?_
  refine ab_aload_n (pc := 21) (i := 1) dX4_begin_21 rfl rfl ?_
  obtain ⟨q1, hq1, hk⟩ := ab_bnd hk
  obtain ⟨hb, hq1⟩ := ab_on_some hq1
  refine ab_callVV (st := []) (as := [ab_R a1]) (b := a0) (pc := 22) dX4_begin_22 ml_RX4_90 my_X4_scan mv_X4_scan hb (ct_X4_scan hq1) ⟨Nat.le_of_ble_eq_true rfl, Nat.le_of_ble_eq_true rfl⟩ rfl (Nat.le_of_ble_eq_true rfl) rfl ?_
  refine ab_iconst (pc := 25) dX4_begin_25 ab_k_0 ?_
  refine ab_istore_n (pc := 26) (i := 2) (lv2 := [some (ab_R a0), some (ab_R a1), some (ab_I (0 : Int))]) dX4_begin_26 rfl (Nat.le_of_ble_eq_true rfl) rfl rfl ?_
  refine ab_sub_ (lv2 := [some (ab_R a0), none, some (ab_I (0 : Int))]) (ab_ss (ab_sn (ab_ss ab_s0))) ?_
  refine e_X4_begin_L27 _ _ _ _ _ hk
theorem dX4_isKey_0 : decode cX4_isKey 0 = .ok (.aload_n 0, 1) := by decide +kernel
theorem dX4_isKey_1 : decode cX4_isKey 1 = .ok (.getfield 15, 3) := by decide +kernel
theorem dX4_isKey_4 : decode cX4_isKey 4 = .ok (.aload_n 0, 1) := by decide +kernel
theorem dX4_isKey_5 : decode cX4_isKey 5 = .ok (.getfield 68, 3) := by decide +kernel
theorem dX4_isKey_8 : decode cX4_isKey 8 = .ok (.iaload, 1) := by decide +kernel
theorem dX4_isKey_9 : decode cX4_isKey 9 = .ok (.iconst 1, 1) := by decide +kernel
theorem dX4_isKey_10 : decode cX4_isKey 10 = .ok (.if_icmp .ne 22, 3) := by decide +kernel
theorem dX4_isKey_13 : decode cX4_isKey 13 = .ok (.aload_n 0, 1) := by decide +kernel
theorem dX4_isKey_14 : decode cX4_isKey 14 = .ok (.getfield 22, 3) := by decide +kernel
theorem dX4_isKey_17 : decode cX4_isKey 17 = .ok (.aload_n 0, 1) := by decide +kernel
theorem dX4_isKey_18 : decode cX4_isKey 18 = .ok (.getfield 68, 3) := by decide +kernel
theorem dX4_isKey_21 : decode cX4_isKey 21 = .ok (.laload, 1) := by decide +kernel
theorem dX4_isKey_22 : decode cX4_isKey 22 = .ok (.iload_n 1, 1) := by decide +kernel
theorem dX4_isKey_23 : decode cX4_isKey 23 = .ok (.i2l, 1) := by decide +kernel
theorem dX4_isKey_24 : decode cX4_isKey 24 = .ok (.lcmp, 1) := by decide +kernel
theorem dX4_isKey_25 : decode cX4_isKey 25 = .ok (.ifCond .ne 7, 3) := by decide +kernel
theorem dX4_isKey_28 : decode cX4_isKey 28 = .ok (.iconst 1, 1) := by decide +kernel
theorem dX4_isKey_29 : decode cX4_isKey 29 = .ok (.goto 4, 3) := by decide +kernel
theorem dX4_isKey_32 : decode cX4_isKey 32 = .ok (.iconst 0, 1) := by decide +kernel
theorem dX4_isKey_33 : decode cX4_isKey 33 = .ok (.ireturn, 1) := by decide +kernel
abbrev mm_X4_isKey : ab_M := (RX4, 2, (some .boolean), false, 0, 0, none)
noncomputable def f_X4_isKey_J32 (h : ab_H) : Option (Int × ab_H) :=
  some ((0 : Int), h)
set_option maxRecDepth 20000 in
theorem e_X4_isKey_J32 : ∀ (h : ab_H) (q : Int × ab_H), f_X4_isKey_J32  h = some q → ab_E mm_X4_isKey cX4_isKey 32 [none, none] [] h (some (ab_I q.1)) q.2 := by
  intro  h q hk
  unfold f_X4_isKey_J32 at hk
  refine ab_iconst (pc := 32) dX4_isKey_32 ab_k_0 ?_
  obtain rfl := Option.some.inj hk
  exact ab_retz (pc := 33) dX4_isKey_33 rfl rfl
noncomputable def f_X4_isKey (a0 : Int) (a1 : Int) (h : ab_H) : Option (Int × ab_H) :=
  (ab_get h 5 1 a0).bind fun t1 =>
  (ab_get h 5 5 a0).bind fun t2 =>
  (ab_ald h 11 t1 t2).bind fun t3 =>
  if t3 = (1 : Int) then
    (ab_get h 5 3 a0).bind fun t4 =>
    (ab_get h 5 5 a0).bind fun t5 =>
    (ab_ald h 12 t4 t5).bind fun t6 =>
    if ab_cmp t6 a1 = (0 : Int) then
      some ((1 : Int), h)
    else
    f_X4_isKey_J32 h
  else
  f_X4_isKey_J32 h
set_option maxRecDepth 20000 in
theorem ct_X4_isKey {a0 a1 : Int} {h : ab_H} {q : Int × ab_H} (hk : f_X4_isKey a0 a1 h = some q) : ab_CT yX4_isKey cX4_isKey 2 (some .boolean) 0 0 [ab_R a0, ab_I a1] h (some (ab_I q.1)) q.2 := by
  refine ab_CT.mk_ 0 (own := RX4) (ini := false) (lv := [some (ab_R a0), some (ab_I a1)]) rfl (by decide +kernel) (fun q => by cases q) rfl rfl ?_
  unfold f_X4_isKey at hk
  show ab_E mm_X4_isKey cX4_isKey 0 _ [] h _ _
  refine ab_aload_n (pc := 0) (i := 0) dX4_isKey_0 rfl rfl ?_
  obtain ⟨t1, ht1, hk⟩ := ab_bnd hk
  refine ab_getR (pc := 1) dX4_isKey_1 fl_RX4_15 ht1 ?_
  refine ab_aload_n (pc := 4) (i := 0) dX4_isKey_4 rfl rfl ?_
  obtain ⟨t2, ht2, hk⟩ := ab_bnd hk
  refine ab_getI (pc := 5) dX4_isKey_5 fl_RX4_68 ht2 ?_
  obtain ⟨t3, ht3, hk⟩ := ab_bnd hk
  refine ab_iald (pc := 8) dX4_isKey_8 ht3 ?_
  refine ab_iconst (pc := 9) dX4_isKey_9 ab_k_1 ?_
  refine ab_icmp_ne (pc := 10) (tgt := 32) dX4_isKey_10 rfl (fun hc => ?_) (fun hc => ?_)
  · have hk := ab_ifn hk hc
    refine ab_sub_ (lv2 := [none, none]) (ab_sn (ab_sn ab_s0)) ?_
    exact e_X4_isKey_J32  _ _ hk
  · have hk := ab_ifp hk hc
    refine ab_aload_n (pc := 13) (i := 0) dX4_isKey_13 rfl rfl ?_
    obtain ⟨t4, ht4, hk⟩ := ab_bnd hk
    refine ab_getR (pc := 14) dX4_isKey_14 fl_RX4_22 ht4 ?_
    refine ab_aload_n (pc := 17) (i := 0) dX4_isKey_17 rfl rfl ?_
    obtain ⟨t5, ht5, hk⟩ := ab_bnd hk
    refine ab_getI (pc := 18) dX4_isKey_18 fl_RX4_68 ht5 ?_
    obtain ⟨t6, ht6, hk⟩ := ab_bnd hk
    refine ab_lald (pc := 21) dX4_isKey_21 ht6 ?_
    refine ab_iload_n (pc := 22) (i := 1) dX4_isKey_22 rfl rfl ?_
    refine ab_i2l_ (pc := 23) dX4_isKey_23 ?_
    refine ab_lcmp_ (pc := 24) dX4_isKey_24 ?_
    refine ab_if_ne (pc := 25) (tgt := 32) dX4_isKey_25 rfl (fun hc => ?_) (fun hc => ?_)
    · have hk := ab_ifn hk hc
      refine ab_sub_ (lv2 := [none, none]) (ab_sn (ab_sn ab_s0)) ?_
      exact e_X4_isKey_J32  _ _ hk
    · have hk := ab_ifp hk hc
      refine ab_iconst (pc := 28) dX4_isKey_28 ab_k_1 ?_
      refine ab_goto (pc := 29) (tgt := 33) dX4_isKey_29 rfl ?_
      obtain rfl := Option.some.inj hk
      exact ab_retz (pc := 33) dX4_isKey_33 rfl rfl
theorem dX4_step_0 : decode cX4_step 0 = .ok (.aload_n 0, 1) := by decide +kernel
theorem dX4_step_1 : decode cX4_step 1 = .ok (.getfield 68, 3) := by decide +kernel
theorem dX4_step_4 : decode cX4_step 4 = .ok (.iconst 1, 1) := by decide +kernel
theorem dX4_step_5 : decode cX4_step 5 = .ok (.iadd, 1) := by decide +kernel
theorem dX4_step_6 : decode cX4_step 6 = .ok (.aload_n 0, 1) := by decide +kernel
theorem dX4_step_7 : decode cX4_step 7 = .ok (.getfield 65, 3) := by decide +kernel
theorem dX4_step_10 : decode cX4_step 10 = .ok (.if_icmp .ge 13, 3) := by decide +kernel
theorem dX4_step_13 : decode cX4_step 13 = .ok (.aload_n 0, 1) := by decide +kernel
theorem dX4_step_14 : decode cX4_step 14 = .ok (.dup, 1) := by decide +kernel
theorem dX4_step_15 : decode cX4_step 15 = .ok (.getfield 68, 3) := by decide +kernel
theorem dX4_step_18 : decode cX4_step 18 = .ok (.iconst 1, 1) := by decide +kernel
theorem dX4_step_19 : decode cX4_step 19 = .ok (.iadd, 1) := by decide +kernel
theorem dX4_step_20 : decode cX4_step 20 = .ok (.putfield 68, 3) := by decide +kernel
theorem dX4_step_23 : decode cX4_step 23 = .ok (.return_, 1) := by decide +kernel
abbrev mm_X4_step : ab_M := (RX4, 1, none, false, 0, 0, none)
noncomputable def f_X4_step (a0 : Int) (h : ab_H) : Option ab_H :=
  (ab_get h 5 5 a0).bind fun t1 =>
  (ab_get h 5 4 a0).bind fun t2 =>
  if t2 ≤ ab_w32 (t1 + (1 : Int)) then
    some h
  else
  (ab_get h 5 5 a0).bind fun t3 =>
  (ab_put h 5 5 a0 (ab_w32 (t3 + (1 : Int)))).bind fun h1 =>
  some h1
set_option maxRecDepth 20000 in
theorem ct_X4_step {a0 : Int} {h : ab_H} {q : ab_H} (hk : f_X4_step a0 h = some q) : ab_CT yX4_step cX4_step 1 none 0 0 [ab_R a0] h none q := by
  refine ab_CT.mk_ 0 (own := RX4) (ini := false) (lv := [some (ab_R a0)]) rfl (by decide +kernel) (fun q => by cases q) rfl rfl ?_
  unfold f_X4_step at hk
  show ab_E mm_X4_step cX4_step 0 _ [] h _ _
  refine ab_aload_n (pc := 0) (i := 0) dX4_step_0 rfl rfl ?_
  obtain ⟨t1, ht1, hk⟩ := ab_bnd hk
  refine ab_getI (pc := 1) dX4_step_1 fl_RX4_68 ht1 ?_
  refine ab_iconst (pc := 4) dX4_step_4 ab_k_1 ?_
  refine ab_iadd (pc := 5) dX4_step_5 ?_
  refine ab_aload_n (pc := 6) (i := 0) dX4_step_6 rfl rfl ?_
  obtain ⟨t2, ht2, hk⟩ := ab_bnd hk
  refine ab_getI (pc := 7) dX4_step_7 fl_RX4_65 ht2 ?_
  refine ab_icmp_ge (pc := 10) (tgt := 23) dX4_step_10 rfl (fun hc => ?_) (fun hc => ?_)
  · have hk := ab_ifp hk hc
    obtain rfl := Option.some.inj hk
    exact ab_retv (pc := 23) dX4_step_23 rfl
  · have hk := ab_ifn hk hc
    refine ab_aload_n (pc := 13) (i := 0) dX4_step_13 rfl rfl ?_
    refine ab_dup (pc := 14) dX4_step_14 rfl ?_
    obtain ⟨t3, ht3, hk⟩ := ab_bnd hk
    refine ab_getI (pc := 15) dX4_step_15 fl_RX4_68 ht3 ?_
    refine ab_iconst (pc := 18) dX4_step_18 ab_k_1 ?_
    refine ab_iadd (pc := 19) dX4_step_19 ?_
    obtain ⟨h1, hh1, hk⟩ := ab_bnd hk
    refine ab_putI_ (pc := 20) dX4_step_20 fl_RX4_68 (fun q => by cases q) hh1 ?_
    obtain rfl := Option.some.inj hk
    exact ab_retv (pc := 23) dX4_step_23 rfl
theorem dX4_choice_0 : decode cX4_choice 0 = .ok (.aload_n 0, 1) := by decide +kernel
theorem dX4_choice_1 : decode cX4_choice 1 = .ok (.getfield 15, 3) := by decide +kernel
theorem dX4_choice_4 : decode cX4_choice 4 = .ok (.aload_n 0, 1) := by decide +kernel
theorem dX4_choice_5 : decode cX4_choice 5 = .ok (.getfield 68, 3) := by decide +kernel
theorem dX4_choice_8 : decode cX4_choice 8 = .ok (.iaload, 1) := by decide +kernel
theorem dX4_choice_9 : decode cX4_choice 9 = .ok (.iconst 1, 1) := by decide +kernel
theorem dX4_choice_10 : decode cX4_choice 10 = .ok (.if_icmp .eq 5, 3) := by decide +kernel
theorem dX4_choice_13 : decode cX4_choice 13 = .ok (.iconst (-1), 1) := by decide +kernel
theorem dX4_choice_14 : decode cX4_choice 14 = .ok (.ireturn, 1) := by decide +kernel
theorem dX4_choice_15 : decode cX4_choice 15 = .ok (.aload_n 0, 1) := by decide +kernel
theorem dX4_choice_16 : decode cX4_choice 16 = .ok (.getfield 22, 3) := by decide +kernel
theorem dX4_choice_19 : decode cX4_choice 19 = .ok (.aload_n 0, 1) := by decide +kernel
theorem dX4_choice_20 : decode cX4_choice 20 = .ok (.getfield 68, 3) := by decide +kernel
theorem dX4_choice_23 : decode cX4_choice 23 = .ok (.laload, 1) := by decide +kernel
theorem dX4_choice_24 : decode cX4_choice 24 = .ok (.l2i, 1) := by decide +kernel
theorem dX4_choice_25 : decode cX4_choice 25 = .ok (.iload_n 1, 1) := by decide +kernel
theorem dX4_choice_26 : decode cX4_choice 26 = .ok (.isub, 1) := by decide +kernel
theorem dX4_choice_27 : decode cX4_choice 27 = .ok (.istore_n 3, 1) := by decide +kernel
theorem dX4_choice_28 : decode cX4_choice 28 = .ok (.iload_n 3, 1) := by decide +kernel
theorem dX4_choice_29 : decode cX4_choice 29 = .ok (.ifCond .lt 12, 3) := by decide +kernel
theorem dX4_choice_32 : decode cX4_choice 32 = .ok (.iload_n 3, 1) := by decide +kernel
theorem dX4_choice_33 : decode cX4_choice 33 = .ok (.iload_n 2, 1) := by decide +kernel
theorem dX4_choice_34 : decode cX4_choice 34 = .ok (.if_icmp .ge 7, 3) := by decide +kernel
theorem dX4_choice_37 : decode cX4_choice 37 = .ok (.iload_n 3, 1) := by decide +kernel
theorem dX4_choice_38 : decode cX4_choice 38 = .ok (.goto 4, 3) := by decide +kernel
theorem dX4_choice_41 : decode cX4_choice 41 = .ok (.iconst (-1), 1) := by decide +kernel
theorem dX4_choice_42 : decode cX4_choice 42 = .ok (.ireturn, 1) := by decide +kernel
abbrev mm_X4_choice : ab_M := (RX4, 4, (some .int), false, 0, 0, none)
noncomputable def f_X4_choice_J41 (h : ab_H) : Option (Int × ab_H) :=
  some ((-1 : Int), h)
set_option maxRecDepth 20000 in
theorem e_X4_choice_J41 : ∀ (h : ab_H) (q : Int × ab_H), f_X4_choice_J41  h = some q → ab_E mm_X4_choice cX4_choice 41 [none, none, none, none] [] h (some (ab_I q.1)) q.2 := by
  intro  h q hk
  unfold f_X4_choice_J41 at hk
  refine ab_iconst (pc := 41) dX4_choice_41 ab_k_m1 ?_
  obtain rfl := Option.some.inj hk
  exact ab_reti (pc := 42) dX4_choice_42 (Or.inl rfl)
noncomputable def f_X4_choice (a0 : Int) (a1 : Int) (a2 : Int) (h : ab_H) : Option (Int × ab_H) :=
  (ab_get h 5 1 a0).bind fun t1 =>
  (ab_get h 5 5 a0).bind fun t2 =>
  (ab_ald h 11 t1 t2).bind fun t3 =>
  if t3 = (1 : Int) then
    (ab_get h 5 3 a0).bind fun t4 =>
    (ab_get h 5 5 a0).bind fun t5 =>
    (ab_ald h 12 t4 t5).bind fun t6 =>
    if ab_w32 ((ab_w32 t6) - a1) < (0 : Int) then
      f_X4_choice_J41 h
    else
    if a2 ≤ ab_w32 ((ab_w32 t6) - a1) then
      f_X4_choice_J41 h
    else
    some (ab_w32 ((ab_w32 t6) - a1), h)
  else
  some ((-1 : Int), h)
set_option maxRecDepth 20000 in
theorem ct_X4_choice {a0 a1 a2 : Int} {h : ab_H} {q : Int × ab_H} (hk : f_X4_choice a0 a1 a2 h = some q) : ab_CT yX4_choice cX4_choice 4 (some .int) 0 0 [ab_R a0, ab_I a1, ab_I a2] h (some (ab_I q.1)) q.2 := by
  refine ab_CT.mk_ 1 (own := RX4) (ini := false) (lv := [some (ab_R a0), some (ab_I a1), some (ab_I a2), none]) rfl (by decide +kernel) (fun q => by cases q) rfl rfl ?_
  unfold f_X4_choice at hk
  show ab_E mm_X4_choice cX4_choice 0 _ [] h _ _
  refine ab_aload_n (pc := 0) (i := 0) dX4_choice_0 rfl rfl ?_
  obtain ⟨t1, ht1, hk⟩ := ab_bnd hk
  refine ab_getR (pc := 1) dX4_choice_1 fl_RX4_15 ht1 ?_
  refine ab_aload_n (pc := 4) (i := 0) dX4_choice_4 rfl rfl ?_
  obtain ⟨t2, ht2, hk⟩ := ab_bnd hk
  refine ab_getI (pc := 5) dX4_choice_5 fl_RX4_68 ht2 ?_
  obtain ⟨t3, ht3, hk⟩ := ab_bnd hk
  refine ab_iald (pc := 8) dX4_choice_8 ht3 ?_
  refine ab_iconst (pc := 9) dX4_choice_9 ab_k_1 ?_
  refine ab_icmp_eq (pc := 10) (tgt := 15) dX4_choice_10 rfl (fun hc => ?_) (fun hc => ?_)
  · have hk := ab_ifp hk hc
    refine ab_aload_n (pc := 15) (i := 0) dX4_choice_15 rfl rfl ?_
    obtain ⟨t4, ht4, hk⟩ := ab_bnd hk
    refine ab_getR (pc := 16) dX4_choice_16 fl_RX4_22 ht4 ?_
    refine ab_aload_n (pc := 19) (i := 0) dX4_choice_19 rfl rfl ?_
    obtain ⟨t5, ht5, hk⟩ := ab_bnd hk
    refine ab_getI (pc := 20) dX4_choice_20 fl_RX4_68 ht5 ?_
    obtain ⟨t6, ht6, hk⟩ := ab_bnd hk
    refine ab_lald (pc := 23) dX4_choice_23 ht6 ?_
    refine ab_l2i_ (pc := 24) dX4_choice_24 ?_
    refine ab_iload_n (pc := 25) (i := 1) dX4_choice_25 rfl rfl ?_
    refine ab_isub (pc := 26) dX4_choice_26 ?_
    refine ab_istore_n (pc := 27) (i := 3) (lv2 := [some (ab_R a0), some (ab_I a1), some (ab_I a2), some (ab_I (ab_w32 ((ab_w32 t6) - a1)))]) dX4_choice_27 rfl (Nat.le_of_ble_eq_true rfl) rfl rfl ?_
    refine ab_iload_n (pc := 28) (i := 3) dX4_choice_28 rfl rfl ?_
    refine ab_if_lt (pc := 29) (tgt := 41) dX4_choice_29 rfl (fun hc => ?_) (fun hc => ?_)
    · have hk := ab_ifp hk hc
      refine ab_sub_ (lv2 := [none, none, none, none]) (ab_sn (ab_sn (ab_sn (ab_sn ab_s0)))) ?_
      exact e_X4_choice_J41  _ _ hk
    · have hk := ab_ifn hk hc
      refine ab_iload_n (pc := 32) (i := 3) dX4_choice_32 rfl rfl ?_
      refine ab_iload_n (pc := 33) (i := 2) dX4_choice_33 rfl rfl ?_
      refine ab_icmp_ge (pc := 34) (tgt := 41) dX4_choice_34 rfl (fun hc => ?_) (fun hc => ?_)
      · have hk := ab_ifp hk hc
        refine ab_sub_ (lv2 := [none, none, none, none]) (ab_sn (ab_sn (ab_sn (ab_sn ab_s0)))) ?_
        exact e_X4_choice_J41  _ _ hk
      · have hk := ab_ifn hk hc
        refine ab_iload_n (pc := 37) (i := 3) dX4_choice_37 rfl rfl ?_
        refine ab_goto (pc := 38) (tgt := 42) dX4_choice_38 rfl ?_
        obtain rfl := Option.some.inj hk
        exact ab_reti (pc := 42) dX4_choice_42 (Or.inl rfl)
  · have hk := ab_ifn hk hc
    refine ab_iconst (pc := 13) dX4_choice_13 ab_k_m1 ?_
    obtain rfl := Option.some.inj hk
    exact ab_reti (pc := 14) dX4_choice_14 (Or.inl rfl)
theorem dX4_fail_0 : decode cX4_fail 0 = .ok (.aload_n 0, 1) := by decide +kernel
theorem dX4_fail_1 : decode cX4_fail 1 = .ok (.iload_n 1, 1) := by decide +kernel
theorem dX4_fail_2 : decode cX4_fail 2 = .ok (.putfield 84, 3) := by decide +kernel
theorem dX4_fail_5 : decode cX4_fail 5 = .ok (.aload_n 0, 1) := by decide +kernel
theorem dX4_fail_6 : decode cX4_fail 6 = .ok (.aload_n 0, 1) := by decide +kernel
theorem dX4_fail_7 : decode cX4_fail 7 = .ok (.getfield 19, 3) := by decide +kernel
theorem dX4_fail_10 : decode cX4_fail 10 = .ok (.aload_n 0, 1) := by decide +kernel
theorem dX4_fail_11 : decode cX4_fail 11 = .ok (.getfield 68, 3) := by decide +kernel
theorem dX4_fail_14 : decode cX4_fail 14 = .ok (.iaload, 1) := by decide +kernel
theorem dX4_fail_15 : decode cX4_fail 15 = .ok (.putfield 25, 3) := by decide +kernel
theorem dX4_fail_18 : decode cX4_fail 18 = .ok (.iconst 0, 1) := by decide +kernel
theorem dX4_fail_19 : decode cX4_fail 19 = .ok (.ireturn, 1) := by decide +kernel
abbrev mm_X4_fail : ab_M := (RX4, 2, (some .boolean), false, 0, 0, none)
noncomputable def f_X4_fail (a0 : Int) (a1 : Int) (h : ab_H) : Option (Int × ab_H) :=
  (ab_put h 5 9 a0 a1).bind fun h1 =>
  (ab_get h1 5 2 a0).bind fun t1 =>
  (ab_get h1 5 5 a0).bind fun t2 =>
  (ab_ald h1 11 t1 t2).bind fun t3 =>
  (ab_put h1 5 10 a0 t3).bind fun h2 =>
  some ((0 : Int), h2)
set_option maxRecDepth 20000 in
theorem ct_X4_fail {a0 a1 : Int} {h : ab_H} {q : Int × ab_H} (hk : f_X4_fail a0 a1 h = some q) : ab_CT yX4_fail cX4_fail 2 (some .boolean) 0 0 [ab_R a0, ab_I a1] h (some (ab_I q.1)) q.2 := by
  refine ab_CT.mk_ 0 (own := RX4) (ini := false) (lv := [some (ab_R a0), some (ab_I a1)]) rfl (by decide +kernel) (fun q => by cases q) rfl rfl ?_
  unfold f_X4_fail at hk
  show ab_E mm_X4_fail cX4_fail 0 _ [] h _ _
  refine ab_aload_n (pc := 0) (i := 0) dX4_fail_0 rfl rfl ?_
  refine ab_iload_n (pc := 1) (i := 1) dX4_fail_1 rfl rfl ?_
  obtain ⟨h1, hh1, hk⟩ := ab_bnd hk
  refine ab_putI_ (pc := 2) dX4_fail_2 fl_RX4_84 (fun q => by cases q) hh1 ?_
  refine ab_aload_n (pc := 5) (i := 0) dX4_fail_5 rfl rfl ?_
  refine ab_aload_n (pc := 6) (i := 0) dX4_fail_6 rfl rfl ?_
  obtain ⟨t1, ht1, hk⟩ := ab_bnd hk
  refine ab_getR (pc := 7) dX4_fail_7 fl_RX4_19 ht1 ?_
  refine ab_aload_n (pc := 10) (i := 0) dX4_fail_10 rfl rfl ?_
  obtain ⟨t2, ht2, hk⟩ := ab_bnd hk
  refine ab_getI (pc := 11) dX4_fail_11 fl_RX4_68 ht2 ?_
  obtain ⟨t3, ht3, hk⟩ := ab_bnd hk
  refine ab_iald (pc := 14) dX4_fail_14 ht3 ?_
  obtain ⟨h2, hh2, hk⟩ := ab_bnd hk
  refine ab_putI_ (pc := 15) dX4_fail_15 fl_RX4_25 (fun q => by cases q) hh2 ?_
  refine ab_iconst (pc := 18) dX4_fail_18 ab_k_0 ?_
  obtain rfl := Option.some.inj hk
  exact ab_retz (pc := 19) dX4_fail_19 rfl rfl
theorem dX4_readLaw_0 : decode cX4_readLaw 0 = .ok (.aload_n 0, 1) := by decide +kernel
theorem dX4_readLaw_1 : decode cX4_readLaw 1 = .ok (.invokevirtual 135, 3) := by decide +kernel
theorem dX4_readLaw_4 : decode cX4_readLaw 4 = .ok (.aload_n 0, 1) := by decide +kernel
theorem dX4_readLaw_5 : decode cX4_readLaw 5 = .ok (.iconst 3, 1) := by decide +kernel
theorem dX4_readLaw_6 : decode cX4_readLaw 6 = .ok (.bipush 6, 2) := by decide +kernel
theorem dX4_readLaw_8 : decode cX4_readLaw 8 = .ok (.invokevirtual 148, 3) := by decide +kernel
theorem dX4_readLaw_11 : decode cX4_readLaw 11 = .ok (.istore_n 2, 1) := by decide +kernel
theorem dX4_readLaw_12 : decode cX4_readLaw 12 = .ok (.iload_n 2, 1) := by decide +kernel
theorem dX4_readLaw_13 : decode cX4_readLaw 13 = .ok (.iconst (-1), 1) := by decide +kernel
theorem dX4_readLaw_14 : decode cX4_readLaw 14 = .ok (.if_icmp .ne 9, 3) := by decide +kernel
theorem dX4_readLaw_17 : decode cX4_readLaw 17 = .ok (.aload_n 0, 1) := by decide +kernel
theorem dX4_readLaw_18 : decode cX4_readLaw 18 = .ok (.iconst 1, 1) := by decide +kernel
theorem dX4_readLaw_19 : decode cX4_readLaw 19 = .ok (.invokevirtual 81, 3) := by decide +kernel
theorem dX4_readLaw_22 : decode cX4_readLaw 22 = .ok (.ireturn, 1) := by decide +kernel
theorem dX4_readLaw_23 : decode cX4_readLaw 23 = .ok (.aload_n 0, 1) := by decide +kernel
theorem dX4_readLaw_24 : decode cX4_readLaw 24 = .ok (.getfield 87, 3) := by decide +kernel
theorem dX4_readLaw_27 : decode cX4_readLaw 27 = .ok (.iload_n 2, 1) := by decide +kernel
theorem dX4_readLaw_28 : decode cX4_readLaw 28 = .ok (.invokestatic 152, 3) := by decide +kernel
theorem dX4_readLaw_31 : decode cX4_readLaw 31 = .ok (.ifCond .eq 9, 3) := by decide +kernel
theorem dX4_readLaw_34 : decode cX4_readLaw 34 = .ok (.aload_n 0, 1) := by decide +kernel
theorem dX4_readLaw_35 : decode cX4_readLaw 35 = .ok (.iconst 3, 1) := by decide +kernel
theorem dX4_readLaw_36 : decode cX4_readLaw 36 = .ok (.invokevirtual 81, 3) := by decide +kernel
theorem dX4_readLaw_39 : decode cX4_readLaw 39 = .ok (.ireturn, 1) := by decide +kernel
theorem dX4_readLaw_40 : decode cX4_readLaw 40 = .ok (.aload_n 0, 1) := by decide +kernel
theorem dX4_readLaw_41 : decode cX4_readLaw 41 = .ok (.dup, 1) := by decide +kernel
theorem dX4_readLaw_42 : decode cX4_readLaw 42 = .ok (.getfield 87, 3) := by decide +kernel
theorem dX4_readLaw_45 : decode cX4_readLaw 45 = .ok (.iconst 1, 1) := by decide +kernel
theorem dX4_readLaw_46 : decode cX4_readLaw 46 = .ok (.iload_n 2, 1) := by decide +kernel
theorem dX4_readLaw_47 : decode cX4_readLaw 47 = .ok (.ishl, 1) := by decide +kernel
theorem dX4_readLaw_48 : decode cX4_readLaw 48 = .ok (.ior, 1) := by decide +kernel
theorem dX4_readLaw_49 : decode cX4_readLaw 49 = .ok (.putfield 87, 3) := by decide +kernel
theorem dX4_readLaw_52 : decode cX4_readLaw 52 = .ok (.aload_n 0, 1) := by decide +kernel
theorem dX4_readLaw_53 : decode cX4_readLaw 53 = .ok (.invokevirtual 135, 3) := by decide +kernel
theorem dX4_readLaw_56 : decode cX4_readLaw 56 = .ok (.aload_n 0, 1) := by decide +kernel
theorem dX4_readLaw_57 : decode cX4_readLaw 57 = .ok (.bipush 9, 2) := by decide +kernel
theorem dX4_readLaw_59 : decode cX4_readLaw 59 = .ok (.iconst 3, 1) := by decide +kernel
theorem dX4_readLaw_60 : decode cX4_readLaw 60 = .ok (.invokevirtual 148, 3) := by decide +kernel
theorem dX4_readLaw_63 : decode cX4_readLaw 63 = .ok (.istore_n 3, 1) := by decide +kernel
theorem dX4_readLaw_64 : decode cX4_readLaw 64 = .ok (.iload_n 3, 1) := by decide +kernel
theorem dX4_readLaw_65 : decode cX4_readLaw 65 = .ok (.iconst (-1), 1) := by decide +kernel
theorem dX4_readLaw_66 : decode cX4_readLaw 66 = .ok (.if_icmp .ne 9, 3) := by decide +kernel
theorem dX4_readLaw_69 : decode cX4_readLaw 69 = .ok (.aload_n 0, 1) := by decide +kernel
theorem dX4_readLaw_70 : decode cX4_readLaw 70 = .ok (.iconst 1, 1) := by decide +kernel
theorem dX4_readLaw_71 : decode cX4_readLaw 71 = .ok (.invokevirtual 81, 3) := by decide +kernel
theorem dX4_readLaw_74 : decode cX4_readLaw 74 = .ok (.ireturn, 1) := by decide +kernel
theorem dX4_readLaw_75 : decode cX4_readLaw 75 = .ok (.aload_n 1, 1) := by decide +kernel
theorem dX4_readLaw_76 : decode cX4_readLaw 76 = .ok (.getfield 156, 3) := by decide +kernel
theorem dX4_readLaw_79 : decode cX4_readLaw 79 = .ok (.iload_n 2, 1) := by decide +kernel
theorem dX4_readLaw_80 : decode cX4_readLaw 80 = .ok (.iload_n 3, 1) := by decide +kernel
theorem dX4_readLaw_81 : decode cX4_readLaw 81 = .ok (.iastore, 1) := by decide +kernel
theorem dX4_readLaw_82 : decode cX4_readLaw 82 = .ok (.aload_n 0, 1) := by decide +kernel
theorem dX4_readLaw_83 : decode cX4_readLaw 83 = .ok (.invokevirtual 135, 3) := by decide +kernel
theorem dX4_readLaw_86 : decode cX4_readLaw 86 = .ok (.iconst 1, 1) := by decide +kernel
theorem dX4_readLaw_87 : decode cX4_readLaw 87 = .ok (.ireturn, 1) := by decide +kernel
abbrev mm_X4_readLaw : ab_M := (RX4, 4, (some .boolean), false, 1, 23, none)
noncomputable def f_X4_readLaw (a0 : Int) (a1 : Int) (h : ab_H) : Option (Int × ab_H) :=
  (ab_on h 5 a0 (f_X4_step a0 h)).bind fun q1 =>
  (ab_on q1 5 a0 (f_X4_choice a0 (3 : Int) (6 : Int) q1)).bind fun q2 =>
  if q2.1 = (-1 : Int) then
    (ab_on q2.2 5 a0 (f_X4_fail a0 (1 : Int) q2.2)).bind fun q12 =>
    ab_if (decide (q12.1 = 0 ∨ q12.1 = 1)) <|
    some (q12.1, q12.2)
  else
  (ab_get q2.2 5 6 a0).bind fun t3 =>
  (f_X8_hasBit t3 q2.1 q2.2).bind fun q4 =>
  if q4.1 = (0 : Int) then
    (ab_get q4.2 5 6 a0).bind fun t5 =>
    (ab_put q4.2 5 6 a0 (ab_or t5 (ab_shl (1 : Int) q2.1))).bind fun h1 =>
    (ab_on h1 5 a0 (f_X4_step a0 h1)).bind fun q6 =>
    (ab_on q6 5 a0 (f_X4_choice a0 (9 : Int) (3 : Int) q6)).bind fun q7 =>
    if q7.1 = (-1 : Int) then
      (ab_on q7.2 5 a0 (f_X4_fail a0 (1 : Int) q7.2)).bind fun q10 =>
      ab_if (decide (q10.1 = 0 ∨ q10.1 = 1)) <|
      some (q10.1, q10.2)
    else
    (ab_get q7.2 1 8 a1).bind fun t8 =>
    (ab_ast q7.2 11 t8 q2.1 q7.1).bind fun h2 =>
    (ab_on h2 5 a0 (f_X4_step a0 h2)).bind fun q9 =>
    some ((1 : Int), q9)
  else
  (ab_on q4.2 5 a0 (f_X4_fail a0 (3 : Int) q4.2)).bind fun q11 =>
  ab_if (decide (q11.1 = 0 ∨ q11.1 = 1)) <|
  some (q11.1, q11.2)
set_option maxRecDepth 20000 in
theorem ct_X4_readLaw {a0 a1 : Int} {h : ab_H} {q : Int × ab_H} (hk : f_X4_readLaw a0 a1 h = some q) : ab_CT yX4_readLaw cX4_readLaw 4 (some .boolean) 1 23 [ab_R a0, ab_R a1] h (some (ab_I q.1)) q.2 := by
  refine ab_CT.mk_ 2 (own := RX4) (ini := false) (lv := [some (ab_R a0), some (ab_R a1), none, none]) rfl (by decide +kernel) (fun q => by cases q) rfl rfl ?_
  unfold f_X4_readLaw at hk
  show ab_E mm_X4_readLaw cX4_readLaw 0 _ [] h _ _
  refine ab_aload_n (pc := 0) (i := 0) dX4_readLaw_0 rfl rfl ?_
  obtain ⟨q1, hq1, hk⟩ := ab_bnd hk
  obtain ⟨hb, hq1⟩ := ab_on_some hq1
  refine ab_callVV (st := []) (as := []) (b := a0) (pc := 1) dX4_readLaw_1 ml_RX4_135 my_X4_step mv_X4_step hb (ct_X4_step hq1) ⟨Nat.le_of_ble_eq_true rfl, Nat.le_of_ble_eq_true rfl⟩ rfl (Nat.le_of_ble_eq_true rfl) rfl ?_
  refine ab_aload_n (pc := 4) (i := 0) dX4_readLaw_4 rfl rfl ?_
  refine ab_iconst (pc := 5) dX4_readLaw_5 ab_k_3 ?_
  refine ab_bipush (pc := 6) dX4_readLaw_6 ab_p8_6 ab_k_6 ?_
  obtain ⟨q2, hq2, hk⟩ := ab_bnd hk
  obtain ⟨hb, hq2⟩ := ab_on_some hq2
  refine ab_callVI (st := []) (as := [ab_I (3 : Int), ab_I (6 : Int)]) (b := a0) (pc := 8) dX4_readLaw_8 ml_RX4_148 my_X4_choice mv_X4_choice hb (ct_X4_choice hq2) ⟨Nat.le_of_ble_eq_true rfl, Nat.le_of_ble_eq_true rfl⟩ rfl (Nat.le_of_ble_eq_true rfl) rfl ?_
  refine ab_istore_n (pc := 11) (i := 2) (lv2 := [some (ab_R a0), some (ab_R a1), some (ab_I q2.1), none]) dX4_readLaw_11 rfl (Nat.le_of_ble_eq_true rfl) rfl rfl ?_
  refine ab_iload_n (pc := 12) (i := 2) dX4_readLaw_12 rfl rfl ?_
  refine ab_iconst (pc := 13) dX4_readLaw_13 ab_k_m1 ?_
  refine ab_icmp_ne (pc := 14) (tgt := 23) dX4_readLaw_14 rfl (fun hc => ?_) (fun hc => ?_)
  · have hk := ab_ifn hk hc
    refine ab_aload_n (pc := 23) (i := 0) dX4_readLaw_23 rfl rfl ?_
    obtain ⟨t3, ht3, hk⟩ := ab_bnd hk
    refine ab_getI (pc := 24) dX4_readLaw_24 fl_RX4_87 ht3 ?_
    refine ab_iload_n (pc := 27) (i := 2) dX4_readLaw_27 rfl rfl ?_
    obtain ⟨q4, hq4, hk⟩ := ab_bnd hk
    refine ab_callSI (st := []) (as := [ab_I t3, ab_I q2.1]) (pc := 28) dX4_readLaw_28 ml_RX4_152 my_X8_hasBit ms_X8_hasBit (ct_X8_hasBit hq4) ⟨Nat.le_of_ble_eq_true rfl, Nat.le_of_ble_eq_true rfl⟩ rfl (Nat.le_of_ble_eq_true rfl) rfl ?_
    refine ab_if_eq (pc := 31) (tgt := 40) dX4_readLaw_31 rfl (fun hc => ?_) (fun hc => ?_)
    · have hk := ab_ifp hk hc
      refine ab_aload_n (pc := 40) (i := 0) dX4_readLaw_40 rfl rfl ?_
      refine ab_dup (pc := 41) dX4_readLaw_41 rfl ?_
      obtain ⟨t5, ht5, hk⟩ := ab_bnd hk
      refine ab_getI (pc := 42) dX4_readLaw_42 fl_RX4_87 ht5 ?_
      refine ab_iconst (pc := 45) dX4_readLaw_45 ab_k_1 ?_
      refine ab_iload_n (pc := 46) (i := 2) dX4_readLaw_46 rfl rfl ?_
      refine ab_ishl (pc := 47) dX4_readLaw_47 ?_
      refine ab_ior (pc := 48) dX4_readLaw_48 ?_
      obtain ⟨h1, hh1, hk⟩ := ab_bnd hk
      refine ab_putI_ (pc := 49) dX4_readLaw_49 fl_RX4_87 (fun q => by cases q) hh1 ?_
      refine ab_aload_n (pc := 52) (i := 0) dX4_readLaw_52 rfl rfl ?_
      obtain ⟨q6, hq6, hk⟩ := ab_bnd hk
      obtain ⟨hb, hq6⟩ := ab_on_some hq6
      refine ab_callVV (st := []) (as := []) (b := a0) (pc := 53) dX4_readLaw_53 ml_RX4_135 my_X4_step mv_X4_step hb (ct_X4_step hq6) ⟨Nat.le_of_ble_eq_true rfl, Nat.le_of_ble_eq_true rfl⟩ rfl (Nat.le_of_ble_eq_true rfl) rfl ?_
      refine ab_aload_n (pc := 56) (i := 0) dX4_readLaw_56 rfl rfl ?_
      refine ab_bipush (pc := 57) dX4_readLaw_57 ab_p8_9 ab_k_9 ?_
      refine ab_iconst (pc := 59) dX4_readLaw_59 ab_k_3 ?_
      obtain ⟨q7, hq7, hk⟩ := ab_bnd hk
      obtain ⟨hb, hq7⟩ := ab_on_some hq7
      refine ab_callVI (st := []) (as := [ab_I (9 : Int), ab_I (3 : Int)]) (b := a0) (pc := 60) dX4_readLaw_60 ml_RX4_148 my_X4_choice mv_X4_choice hb (ct_X4_choice hq7) ⟨Nat.le_of_ble_eq_true rfl, Nat.le_of_ble_eq_true rfl⟩ rfl (Nat.le_of_ble_eq_true rfl) rfl ?_
      refine ab_istore_n (pc := 63) (i := 3) (lv2 := [some (ab_R a0), some (ab_R a1), some (ab_I q2.1), some (ab_I q7.1)]) dX4_readLaw_63 rfl (Nat.le_of_ble_eq_true rfl) rfl rfl ?_
      refine ab_iload_n (pc := 64) (i := 3) dX4_readLaw_64 rfl rfl ?_
      refine ab_iconst (pc := 65) dX4_readLaw_65 ab_k_m1 ?_
      refine ab_icmp_ne (pc := 66) (tgt := 75) dX4_readLaw_66 rfl (fun hc => ?_) (fun hc => ?_)
      · have hk := ab_ifn hk hc
        refine ab_aload_n (pc := 75) (i := 1) dX4_readLaw_75 rfl rfl ?_
        obtain ⟨t8, ht8, hk⟩ := ab_bnd hk
        refine ab_getR (pc := 76) dX4_readLaw_76 fl_RX4_156 ht8 ?_
        refine ab_iload_n (pc := 79) (i := 2) dX4_readLaw_79 rfl rfl ?_
        refine ab_iload_n (pc := 80) (i := 3) dX4_readLaw_80 rfl rfl ?_
        obtain ⟨h2, hh2, hk⟩ := ab_bnd hk
        refine ab_iast (pc := 81) dX4_readLaw_81 hh2 ?_
        refine ab_aload_n (pc := 82) (i := 0) dX4_readLaw_82 rfl rfl ?_
        obtain ⟨q9, hq9, hk⟩ := ab_bnd hk
        obtain ⟨hb, hq9⟩ := ab_on_some hq9
        refine ab_callVV (st := []) (as := []) (b := a0) (pc := 83) dX4_readLaw_83 ml_RX4_135 my_X4_step mv_X4_step hb (ct_X4_step hq9) ⟨Nat.le_of_ble_eq_true rfl, Nat.le_of_ble_eq_true rfl⟩ rfl (Nat.le_of_ble_eq_true rfl) rfl ?_
        refine ab_iconst (pc := 86) dX4_readLaw_86 ab_k_1 ?_
        obtain rfl := Option.some.inj hk
        exact ab_retz (pc := 87) dX4_readLaw_87 rfl rfl
      · have hk := ab_ifp hk hc
        refine ab_aload_n (pc := 69) (i := 0) dX4_readLaw_69 rfl rfl ?_
        refine ab_iconst (pc := 70) dX4_readLaw_70 ab_k_1 ?_
        obtain ⟨q10, hq10, hk⟩ := ab_bnd hk
        obtain ⟨hb, hq10⟩ := ab_on_some hq10
        refine ab_callVI (st := []) (as := [ab_I (1 : Int)]) (b := a0) (pc := 71) dX4_readLaw_71 ml_RX4_81 my_X4_fail mv_X4_fail hb (ct_X4_fail hq10) ⟨Nat.le_of_ble_eq_true rfl, Nat.le_of_ble_eq_true rfl⟩ rfl (Nat.le_of_ble_eq_true rfl) rfl ?_
        obtain ⟨hg, hk⟩ := ab_if_some hk
        obtain rfl := Option.some.inj hk
        exact ab_retz (pc := 74) dX4_readLaw_74 rfl hg
    · have hk := ab_ifn hk hc
      refine ab_aload_n (pc := 34) (i := 0) dX4_readLaw_34 rfl rfl ?_
      refine ab_iconst (pc := 35) dX4_readLaw_35 ab_k_3 ?_
      obtain ⟨q11, hq11, hk⟩ := ab_bnd hk
      obtain ⟨hb, hq11⟩ := ab_on_some hq11
      refine ab_callVI (st := []) (as := [ab_I (3 : Int)]) (b := a0) (pc := 36) dX4_readLaw_36 ml_RX4_81 my_X4_fail mv_X4_fail hb (ct_X4_fail hq11) ⟨Nat.le_of_ble_eq_true rfl, Nat.le_of_ble_eq_true rfl⟩ rfl (Nat.le_of_ble_eq_true rfl) rfl ?_
      obtain ⟨hg, hk⟩ := ab_if_some hk
      obtain rfl := Option.some.inj hk
      exact ab_retz (pc := 39) dX4_readLaw_39 rfl hg
  · have hk := ab_ifp hk hc
    refine ab_aload_n (pc := 17) (i := 0) dX4_readLaw_17 rfl rfl ?_
    refine ab_iconst (pc := 18) dX4_readLaw_18 ab_k_1 ?_
    obtain ⟨q12, hq12, hk⟩ := ab_bnd hk
    obtain ⟨hb, hq12⟩ := ab_on_some hq12
    refine ab_callVI (st := []) (as := [ab_I (1 : Int)]) (b := a0) (pc := 19) dX4_readLaw_19 ml_RX4_81 my_X4_fail mv_X4_fail hb (ct_X4_fail hq12) ⟨Nat.le_of_ble_eq_true rfl, Nat.le_of_ble_eq_true rfl⟩ rfl (Nat.le_of_ble_eq_true rfl) rfl ?_
    obtain ⟨hg, hk⟩ := ab_if_some hk
    obtain rfl := Option.some.inj hk
    exact ab_retz (pc := 22) dX4_readLaw_22 rfl hg
theorem dX4_readSee_0 : decode cX4_readSee 0 = .ok (.aload_n 1, 1) := by decide +kernel
theorem dX4_readSee_1 : decode cX4_readSee 1 = .ok (.getfield 159, 3) := by decide +kernel
theorem dX4_readSee_4 : decode cX4_readSee 4 = .ok (.bipush 12, 2) := by decide +kernel
theorem dX4_readSee_6 : decode cX4_readSee 6 = .ok (.if_icmp .lt 9, 3) := by decide +kernel
theorem dX4_readSee_9 : decode cX4_readSee 9 = .ok (.aload_n 0, 1) := by decide +kernel
theorem dX4_readSee_10 : decode cX4_readSee 10 = .ok (.iconst 4, 1) := by decide +kernel
theorem dX4_readSee_11 : decode cX4_readSee 11 = .ok (.invokevirtual 81, 3) := by decide +kernel
theorem dX4_readSee_14 : decode cX4_readSee 14 = .ok (.ireturn, 1) := by decide +kernel
theorem dX4_readSee_15 : decode cX4_readSee 15 = .ok (.aload_n 0, 1) := by decide +kernel
theorem dX4_readSee_16 : decode cX4_readSee 16 = .ok (.invokevirtual 135, 3) := by decide +kernel
theorem dX4_readSee_19 : decode cX4_readSee 19 = .ok (.aload_n 0, 1) := by decide +kernel
theorem dX4_readSee_20 : decode cX4_readSee 20 = .ok (.getfield 15, 3) := by decide +kernel
theorem dX4_readSee_23 : decode cX4_readSee 23 = .ok (.aload_n 0, 1) := by decide +kernel
theorem dX4_readSee_24 : decode cX4_readSee 24 = .ok (.getfield 68, 3) := by decide +kernel
theorem dX4_readSee_27 : decode cX4_readSee 27 = .ok (.iaload, 1) := by decide +kernel
theorem dX4_readSee_28 : decode cX4_readSee 28 = .ok (.iconst 2, 1) := by decide +kernel
theorem dX4_readSee_29 : decode cX4_readSee 29 = .ok (.if_icmp .eq 9, 3) := by decide +kernel
theorem dX4_readSee_32 : decode cX4_readSee 32 = .ok (.aload_n 0, 1) := by decide +kernel
theorem dX4_readSee_33 : decode cX4_readSee 33 = .ok (.iconst 1, 1) := by decide +kernel
theorem dX4_readSee_34 : decode cX4_readSee 34 = .ok (.invokevirtual 81, 3) := by decide +kernel
theorem dX4_readSee_37 : decode cX4_readSee 37 = .ok (.ireturn, 1) := by decide +kernel
theorem dX4_readSee_38 : decode cX4_readSee 38 = .ok (.aload_n 0, 1) := by decide +kernel
theorem dX4_readSee_39 : decode cX4_readSee 39 = .ok (.getfield 22, 3) := by decide +kernel
theorem dX4_readSee_42 : decode cX4_readSee 42 = .ok (.aload_n 0, 1) := by decide +kernel
theorem dX4_readSee_43 : decode cX4_readSee 43 = .ok (.getfield 68, 3) := by decide +kernel
theorem dX4_readSee_46 : decode cX4_readSee 46 = .ok (.laload, 1) := by decide +kernel
theorem dX4_readSee_47 : decode cX4_readSee 47 = .ok (.lstore_n 2, 1) := by decide +kernel
theorem dX4_readSee_48 : decode cX4_readSee 48 = .ok (.aload_n 1, 1) := by decide +kernel
theorem dX4_readSee_49 : decode cX4_readSee 49 = .ok (.lload_n 2, 1) := by decide +kernel
theorem dX4_readSee_50 : decode cX4_readSee 50 = .ok (.invokevirtual 162, 3) := by decide +kernel
theorem dX4_readSee_53 : decode cX4_readSee 53 = .ok (.iconst (-1), 1) := by decide +kernel
theorem dX4_readSee_54 : decode cX4_readSee 54 = .ok (.if_icmp .eq 9, 3) := by decide +kernel
theorem dX4_readSee_57 : decode cX4_readSee 57 = .ok (.aload_n 0, 1) := by decide +kernel
theorem dX4_readSee_58 : decode cX4_readSee 58 = .ok (.iconst 3, 1) := by decide +kernel
theorem dX4_readSee_59 : decode cX4_readSee 59 = .ok (.invokevirtual 81, 3) := by decide +kernel
theorem dX4_readSee_62 : decode cX4_readSee 62 = .ok (.ireturn, 1) := by decide +kernel
theorem dX4_readSee_63 : decode cX4_readSee 63 = .ok (.aload_n 0, 1) := by decide +kernel
theorem dX4_readSee_64 : decode cX4_readSee 64 = .ok (.invokevirtual 135, 3) := by decide +kernel
theorem dX4_readSee_67 : decode cX4_readSee 67 = .ok (.aload_n 0, 1) := by decide +kernel
theorem dX4_readSee_68 : decode cX4_readSee 68 = .ok (.getfield 15, 3) := by decide +kernel
theorem dX4_readSee_71 : decode cX4_readSee 71 = .ok (.aload_n 0, 1) := by decide +kernel
theorem dX4_readSee_72 : decode cX4_readSee 72 = .ok (.getfield 68, 3) := by decide +kernel
theorem dX4_readSee_75 : decode cX4_readSee 75 = .ok (.iaload, 1) := by decide +kernel
theorem dX4_readSee_76 : decode cX4_readSee 76 = .ok (.iconst 2, 1) := by decide +kernel
theorem dX4_readSee_77 : decode cX4_readSee 77 = .ok (.if_icmp .eq 9, 3) := by decide +kernel
theorem dX4_readSee_80 : decode cX4_readSee 80 = .ok (.aload_n 0, 1) := by decide +kernel
theorem dX4_readSee_81 : decode cX4_readSee 81 = .ok (.iconst 1, 1) := by decide +kernel
theorem dX4_readSee_82 : decode cX4_readSee 82 = .ok (.invokevirtual 81, 3) := by decide +kernel
theorem dX4_readSee_85 : decode cX4_readSee 85 = .ok (.ireturn, 1) := by decide +kernel
theorem dX4_readSee_86 : decode cX4_readSee 86 = .ok (.aload_n 0, 1) := by decide +kernel
theorem dX4_readSee_87 : decode cX4_readSee 87 = .ok (.getfield 22, 3) := by decide +kernel
theorem dX4_readSee_90 : decode cX4_readSee 90 = .ok (.aload_n 0, 1) := by decide +kernel
theorem dX4_readSee_91 : decode cX4_readSee 91 = .ok (.getfield 68, 3) := by decide +kernel
theorem dX4_readSee_94 : decode cX4_readSee 94 = .ok (.laload, 1) := by decide +kernel
theorem dX4_readSee_95 : decode cX4_readSee 95 = .ok (.lstore 4, 2) := by decide +kernel
theorem dX4_readSee_97 : decode cX4_readSee 97 = .ok (.aload_n 1, 1) := by decide +kernel
theorem dX4_readSee_98 : decode cX4_readSee 98 = .ok (.lload 4, 2) := by decide +kernel
theorem dX4_readSee_100 : decode cX4_readSee 100 = .ok (.invokevirtual 166, 3) := by decide +kernel
theorem dX4_readSee_103 : decode cX4_readSee 103 = .ok (.lload_n 2, 1) := by decide +kernel
theorem dX4_readSee_104 : decode cX4_readSee 104 = .ok (.lcmp, 1) := by decide +kernel
theorem dX4_readSee_105 : decode cX4_readSee 105 = .ok (.ifCond .ne 9, 3) := by decide +kernel
theorem dX4_readSee_108 : decode cX4_readSee 108 = .ok (.aload_n 0, 1) := by decide +kernel
theorem dX4_readSee_109 : decode cX4_readSee 109 = .ok (.iconst 3, 1) := by decide +kernel
theorem dX4_readSee_110 : decode cX4_readSee 110 = .ok (.invokevirtual 81, 3) := by decide +kernel
theorem dX4_readSee_113 : decode cX4_readSee 113 = .ok (.ireturn, 1) := by decide +kernel
theorem dX4_readSee_114 : decode cX4_readSee 114 = .ok (.aload_n 1, 1) := by decide +kernel
theorem dX4_readSee_115 : decode cX4_readSee 115 = .ok (.lload_n 2, 1) := by decide +kernel
theorem dX4_readSee_116 : decode cX4_readSee 116 = .ok (.lload 4, 2) := by decide +kernel
theorem dX4_readSee_118 : decode cX4_readSee 118 = .ok (.invokevirtual 169, 3) := by decide +kernel
theorem dX4_readSee_121 : decode cX4_readSee 121 = .ok (.aload_n 0, 1) := by decide +kernel
theorem dX4_readSee_122 : decode cX4_readSee 122 = .ok (.invokevirtual 135, 3) := by decide +kernel
theorem dX4_readSee_125 : decode cX4_readSee 125 = .ok (.iconst 1, 1) := by decide +kernel
theorem dX4_readSee_126 : decode cX4_readSee 126 = .ok (.ireturn, 1) := by decide +kernel
abbrev mm_X4_readSee : ab_M := (RX4, 6, (some .boolean), false, 2, 49, none)
noncomputable def f_X4_readSee (a0 : Int) (a1 : Int) (h : ab_H) : Option (Int × ab_H) :=
  (ab_get h 1 9 a1).bind fun t1 =>
  if t1 < (12 : Int) then
    (ab_on h 5 a0 (f_X4_step a0 h)).bind fun q2 =>
    (ab_get q2 5 1 a0).bind fun t3 =>
    (ab_get q2 5 5 a0).bind fun t4 =>
    (ab_ald q2 11 t3 t4).bind fun t5 =>
    if t5 = (2 : Int) then
      (ab_get q2 5 3 a0).bind fun t6 =>
      (ab_get q2 5 5 a0).bind fun t7 =>
      (ab_ald q2 12 t6 t7).bind fun t8 =>
      (ab_on q2 1 a1 (f_X0_seeOf a1 t8 q2)).bind fun q9 =>
      if q9.1 = (-1 : Int) then
        (ab_on q9.2 5 a0 (f_X4_step a0 q9.2)).bind fun q10 =>
        (ab_get q10 5 1 a0).bind fun t11 =>
        (ab_get q10 5 5 a0).bind fun t12 =>
        (ab_ald q10 11 t11 t12).bind fun t13 =>
        if t13 = (2 : Int) then
          (ab_get q10 5 3 a0).bind fun t14 =>
          (ab_get q10 5 5 a0).bind fun t15 =>
          (ab_ald q10 12 t14 t15).bind fun t16 =>
          (ab_on q10 1 a1 (f_X0_used a1 t16 q10)).bind fun q17 =>
          if ab_cmp q17.1 t8 = (0 : Int) then
            (ab_on q17.2 5 a0 (f_X4_fail a0 (3 : Int) q17.2)).bind fun q20 =>
            ab_if (decide (q20.1 = 0 ∨ q20.1 = 1)) <|
            some (q20.1, q20.2)
          else
          (ab_on q17.2 1 a1 (f_X0_addSee a1 t8 t16 q17.2)).bind fun q18 =>
          (ab_on q18 5 a0 (f_X4_step a0 q18)).bind fun q19 =>
          some ((1 : Int), q19)
        else
        (ab_on q10 5 a0 (f_X4_fail a0 (1 : Int) q10)).bind fun q21 =>
        ab_if (decide (q21.1 = 0 ∨ q21.1 = 1)) <|
        some (q21.1, q21.2)
      else
      (ab_on q9.2 5 a0 (f_X4_fail a0 (3 : Int) q9.2)).bind fun q22 =>
      ab_if (decide (q22.1 = 0 ∨ q22.1 = 1)) <|
      some (q22.1, q22.2)
    else
    (ab_on q2 5 a0 (f_X4_fail a0 (1 : Int) q2)).bind fun q23 =>
    ab_if (decide (q23.1 = 0 ∨ q23.1 = 1)) <|
    some (q23.1, q23.2)
  else
  (ab_on h 5 a0 (f_X4_fail a0 (4 : Int) h)).bind fun q24 =>
  ab_if (decide (q24.1 = 0 ∨ q24.1 = 1)) <|
  some (q24.1, q24.2)
set_option maxRecDepth 20000 in
theorem ct_X4_readSee {a0 a1 : Int} {h : ab_H} {q : Int × ab_H} (hk : f_X4_readSee a0 a1 h = some q) : ab_CT yX4_readSee cX4_readSee 6 (some .boolean) 2 49 [ab_R a0, ab_R a1] h (some (ab_I q.1)) q.2 := by
  refine ab_CT.mk_ 4 (own := RX4) (ini := false) (lv := [some (ab_R a0), some (ab_R a1), none, none, none, none]) rfl (by decide +kernel) (fun q => by cases q) rfl rfl ?_
  unfold f_X4_readSee at hk
  show ab_E mm_X4_readSee cX4_readSee 0 _ [] h _ _
  refine ab_aload_n (pc := 0) (i := 1) dX4_readSee_0 rfl rfl ?_
  obtain ⟨t1, ht1, hk⟩ := ab_bnd hk
  refine ab_getI (pc := 1) dX4_readSee_1 fl_RX4_159 ht1 ?_
  refine ab_bipush (pc := 4) dX4_readSee_4 ab_p8_12 ab_k_12 ?_
  refine ab_icmp_lt (pc := 6) (tgt := 15) dX4_readSee_6 rfl (fun hc => ?_) (fun hc => ?_)
  · have hk := ab_ifp hk hc
    refine ab_aload_n (pc := 15) (i := 0) dX4_readSee_15 rfl rfl ?_
    obtain ⟨q2, hq2, hk⟩ := ab_bnd hk
    obtain ⟨hb, hq2⟩ := ab_on_some hq2
    refine ab_callVV (st := []) (as := []) (b := a0) (pc := 16) dX4_readSee_16 ml_RX4_135 my_X4_step mv_X4_step hb (ct_X4_step hq2) ⟨Nat.le_of_ble_eq_true rfl, Nat.le_of_ble_eq_true rfl⟩ rfl (Nat.le_of_ble_eq_true rfl) rfl ?_
    refine ab_aload_n (pc := 19) (i := 0) dX4_readSee_19 rfl rfl ?_
    obtain ⟨t3, ht3, hk⟩ := ab_bnd hk
    refine ab_getR (pc := 20) dX4_readSee_20 fl_RX4_15 ht3 ?_
    refine ab_aload_n (pc := 23) (i := 0) dX4_readSee_23 rfl rfl ?_
    obtain ⟨t4, ht4, hk⟩ := ab_bnd hk
    refine ab_getI (pc := 24) dX4_readSee_24 fl_RX4_68 ht4 ?_
    obtain ⟨t5, ht5, hk⟩ := ab_bnd hk
    refine ab_iald (pc := 27) dX4_readSee_27 ht5 ?_
    refine ab_iconst (pc := 28) dX4_readSee_28 ab_k_2 ?_
    refine ab_icmp_eq (pc := 29) (tgt := 38) dX4_readSee_29 rfl (fun hc => ?_) (fun hc => ?_)
    · have hk := ab_ifp hk hc
      refine ab_aload_n (pc := 38) (i := 0) dX4_readSee_38 rfl rfl ?_
      obtain ⟨t6, ht6, hk⟩ := ab_bnd hk
      refine ab_getR (pc := 39) dX4_readSee_39 fl_RX4_22 ht6 ?_
      refine ab_aload_n (pc := 42) (i := 0) dX4_readSee_42 rfl rfl ?_
      obtain ⟨t7, ht7, hk⟩ := ab_bnd hk
      refine ab_getI (pc := 43) dX4_readSee_43 fl_RX4_68 ht7 ?_
      obtain ⟨t8, ht8, hk⟩ := ab_bnd hk
      refine ab_lald (pc := 46) dX4_readSee_46 ht8 ?_
      refine ab_lstore_n (pc := 47) (i := 2) (lv2 := [some (ab_R a0), some (ab_R a1), some (ab_J t8), none, none, none]) dX4_readSee_47 rfl (Nat.le_of_ble_eq_true rfl) rfl rfl ?_
      refine ab_aload_n (pc := 48) (i := 1) dX4_readSee_48 rfl rfl ?_
      refine ab_lload_n (pc := 49) (i := 2) dX4_readSee_49 rfl rfl ?_
      obtain ⟨q9, hq9, hk⟩ := ab_bnd hk
      obtain ⟨hb, hq9⟩ := ab_on_some hq9
      refine ab_callVI (st := []) (as := [ab_J t8]) (b := a1) (pc := 50) dX4_readSee_50 ml_RX4_162 my_X0_seeOf mv_X0_seeOf hb (ct_X0_seeOf hq9) ⟨Nat.le_of_ble_eq_true rfl, Nat.le_of_ble_eq_true rfl⟩ rfl (Nat.le_of_ble_eq_true rfl) rfl ?_
      refine ab_iconst (pc := 53) dX4_readSee_53 ab_k_m1 ?_
      refine ab_icmp_eq (pc := 54) (tgt := 63) dX4_readSee_54 rfl (fun hc => ?_) (fun hc => ?_)
      · have hk := ab_ifp hk hc
        refine ab_aload_n (pc := 63) (i := 0) dX4_readSee_63 rfl rfl ?_
        obtain ⟨q10, hq10, hk⟩ := ab_bnd hk
        obtain ⟨hb, hq10⟩ := ab_on_some hq10
        refine ab_callVV (st := []) (as := []) (b := a0) (pc := 64) dX4_readSee_64 ml_RX4_135 my_X4_step mv_X4_step hb (ct_X4_step hq10) ⟨Nat.le_of_ble_eq_true rfl, Nat.le_of_ble_eq_true rfl⟩ rfl (Nat.le_of_ble_eq_true rfl) rfl ?_
        refine ab_aload_n (pc := 67) (i := 0) dX4_readSee_67 rfl rfl ?_
        obtain ⟨t11, ht11, hk⟩ := ab_bnd hk
        refine ab_getR (pc := 68) dX4_readSee_68 fl_RX4_15 ht11 ?_
        refine ab_aload_n (pc := 71) (i := 0) dX4_readSee_71 rfl rfl ?_
        obtain ⟨t12, ht12, hk⟩ := ab_bnd hk
        refine ab_getI (pc := 72) dX4_readSee_72 fl_RX4_68 ht12 ?_
        obtain ⟨t13, ht13, hk⟩ := ab_bnd hk
        refine ab_iald (pc := 75) dX4_readSee_75 ht13 ?_
        refine ab_iconst (pc := 76) dX4_readSee_76 ab_k_2 ?_
        refine ab_icmp_eq (pc := 77) (tgt := 86) dX4_readSee_77 rfl (fun hc => ?_) (fun hc => ?_)
        · have hk := ab_ifp hk hc
          refine ab_aload_n (pc := 86) (i := 0) dX4_readSee_86 rfl rfl ?_
          obtain ⟨t14, ht14, hk⟩ := ab_bnd hk
          refine ab_getR (pc := 87) dX4_readSee_87 fl_RX4_22 ht14 ?_
          refine ab_aload_n (pc := 90) (i := 0) dX4_readSee_90 rfl rfl ?_
          obtain ⟨t15, ht15, hk⟩ := ab_bnd hk
          refine ab_getI (pc := 91) dX4_readSee_91 fl_RX4_68 ht15 ?_
          obtain ⟨t16, ht16, hk⟩ := ab_bnd hk
          refine ab_lald (pc := 94) dX4_readSee_94 ht16 ?_
          refine ab_lstore (pc := 95) (i := 4) (lv2 := [some (ab_R a0), some (ab_R a1), some (ab_J t8), none, some (ab_J t16), none]) dX4_readSee_95 (Nat.le_of_ble_eq_true rfl) rfl rfl ?_
          refine ab_aload_n (pc := 97) (i := 1) dX4_readSee_97 rfl rfl ?_
          refine ab_lload (pc := 98) (i := 4) dX4_readSee_98 rfl ?_
          obtain ⟨q17, hq17, hk⟩ := ab_bnd hk
          obtain ⟨hb, hq17⟩ := ab_on_some hq17
          refine ab_callVJ (st := []) (as := [ab_J t16]) (b := a1) (pc := 100) dX4_readSee_100 ml_RX4_166 my_X0_used mv_X0_used hb (ct_X0_used hq17) ⟨Nat.le_of_ble_eq_true rfl, Nat.le_of_ble_eq_true rfl⟩ rfl (Nat.le_of_ble_eq_true rfl) rfl ?_
          refine ab_lload_n (pc := 103) (i := 2) dX4_readSee_103 rfl rfl ?_
          refine ab_lcmp_ (pc := 104) dX4_readSee_104 ?_
          refine ab_if_ne (pc := 105) (tgt := 114) dX4_readSee_105 rfl (fun hc => ?_) (fun hc => ?_)
          · have hk := ab_ifn hk hc
            refine ab_aload_n (pc := 114) (i := 1) dX4_readSee_114 rfl rfl ?_
            refine ab_lload_n (pc := 115) (i := 2) dX4_readSee_115 rfl rfl ?_
            refine ab_lload (pc := 116) (i := 4) dX4_readSee_116 rfl ?_
            obtain ⟨q18, hq18, hk⟩ := ab_bnd hk
            obtain ⟨hb, hq18⟩ := ab_on_some hq18
            refine ab_callVV (st := []) (as := [ab_J t8, ab_J t16]) (b := a1) (pc := 118) dX4_readSee_118 ml_RX4_169 my_X0_addSee mv_X0_addSee hb (ct_X0_addSee hq18) ⟨Nat.le_of_ble_eq_true rfl, Nat.le_of_ble_eq_true rfl⟩ rfl (Nat.le_of_ble_eq_true rfl) rfl ?_
            refine ab_aload_n (pc := 121) (i := 0) dX4_readSee_121 rfl rfl ?_
            obtain ⟨q19, hq19, hk⟩ := ab_bnd hk
            obtain ⟨hb, hq19⟩ := ab_on_some hq19
            refine ab_callVV (st := []) (as := []) (b := a0) (pc := 122) dX4_readSee_122 ml_RX4_135 my_X4_step mv_X4_step hb (ct_X4_step hq19) ⟨Nat.le_of_ble_eq_true rfl, Nat.le_of_ble_eq_true rfl⟩ rfl (Nat.le_of_ble_eq_true rfl) rfl ?_
            refine ab_iconst (pc := 125) dX4_readSee_125 ab_k_1 ?_
            obtain rfl := Option.some.inj hk
            exact ab_retz (pc := 126) dX4_readSee_126 rfl rfl
          · have hk := ab_ifp hk hc
            refine ab_aload_n (pc := 108) (i := 0) dX4_readSee_108 rfl rfl ?_
            refine ab_iconst (pc := 109) dX4_readSee_109 ab_k_3 ?_
            obtain ⟨q20, hq20, hk⟩ := ab_bnd hk
            obtain ⟨hb, hq20⟩ := ab_on_some hq20
            refine ab_callVI (st := []) (as := [ab_I (3 : Int)]) (b := a0) (pc := 110) dX4_readSee_110 ml_RX4_81 my_X4_fail mv_X4_fail hb (ct_X4_fail hq20) ⟨Nat.le_of_ble_eq_true rfl, Nat.le_of_ble_eq_true rfl⟩ rfl (Nat.le_of_ble_eq_true rfl) rfl ?_
            obtain ⟨hg, hk⟩ := ab_if_some hk
            obtain rfl := Option.some.inj hk
            exact ab_retz (pc := 113) dX4_readSee_113 rfl hg
        · have hk := ab_ifn hk hc
          refine ab_aload_n (pc := 80) (i := 0) dX4_readSee_80 rfl rfl ?_
          refine ab_iconst (pc := 81) dX4_readSee_81 ab_k_1 ?_
          obtain ⟨q21, hq21, hk⟩ := ab_bnd hk
          obtain ⟨hb, hq21⟩ := ab_on_some hq21
          refine ab_callVI (st := []) (as := [ab_I (1 : Int)]) (b := a0) (pc := 82) dX4_readSee_82 ml_RX4_81 my_X4_fail mv_X4_fail hb (ct_X4_fail hq21) ⟨Nat.le_of_ble_eq_true rfl, Nat.le_of_ble_eq_true rfl⟩ rfl (Nat.le_of_ble_eq_true rfl) rfl ?_
          obtain ⟨hg, hk⟩ := ab_if_some hk
          obtain rfl := Option.some.inj hk
          exact ab_retz (pc := 85) dX4_readSee_85 rfl hg
      · have hk := ab_ifn hk hc
        refine ab_aload_n (pc := 57) (i := 0) dX4_readSee_57 rfl rfl ?_
        refine ab_iconst (pc := 58) dX4_readSee_58 ab_k_3 ?_
        obtain ⟨q22, hq22, hk⟩ := ab_bnd hk
        obtain ⟨hb, hq22⟩ := ab_on_some hq22
        refine ab_callVI (st := []) (as := [ab_I (3 : Int)]) (b := a0) (pc := 59) dX4_readSee_59 ml_RX4_81 my_X4_fail mv_X4_fail hb (ct_X4_fail hq22) ⟨Nat.le_of_ble_eq_true rfl, Nat.le_of_ble_eq_true rfl⟩ rfl (Nat.le_of_ble_eq_true rfl) rfl ?_
        obtain ⟨hg, hk⟩ := ab_if_some hk
        obtain rfl := Option.some.inj hk
        exact ab_retz (pc := 62) dX4_readSee_62 rfl hg
    · have hk := ab_ifn hk hc
      refine ab_aload_n (pc := 32) (i := 0) dX4_readSee_32 rfl rfl ?_
      refine ab_iconst (pc := 33) dX4_readSee_33 ab_k_1 ?_
      obtain ⟨q23, hq23, hk⟩ := ab_bnd hk
      obtain ⟨hb, hq23⟩ := ab_on_some hq23
      refine ab_callVI (st := []) (as := [ab_I (1 : Int)]) (b := a0) (pc := 34) dX4_readSee_34 ml_RX4_81 my_X4_fail mv_X4_fail hb (ct_X4_fail hq23) ⟨Nat.le_of_ble_eq_true rfl, Nat.le_of_ble_eq_true rfl⟩ rfl (Nat.le_of_ble_eq_true rfl) rfl ?_
      obtain ⟨hg, hk⟩ := ab_if_some hk
      obtain rfl := Option.some.inj hk
      exact ab_retz (pc := 37) dX4_readSee_37 rfl hg
  · have hk := ab_ifn hk hc
    refine ab_aload_n (pc := 9) (i := 0) dX4_readSee_9 rfl rfl ?_
    refine ab_iconst (pc := 10) dX4_readSee_10 ab_k_4 ?_
    obtain ⟨q24, hq24, hk⟩ := ab_bnd hk
    obtain ⟨hb, hq24⟩ := ab_on_some hq24
    refine ab_callVI (st := []) (as := [ab_I (4 : Int)]) (b := a0) (pc := 11) dX4_readSee_11 ml_RX4_81 my_X4_fail mv_X4_fail hb (ct_X4_fail hq24) ⟨Nat.le_of_ble_eq_true rfl, Nat.le_of_ble_eq_true rfl⟩ rfl (Nat.le_of_ble_eq_true rfl) rfl ?_
    obtain ⟨hg, hk⟩ := ab_if_some hk
    obtain rfl := Option.some.inj hk
    exact ab_retz (pc := 14) dX4_readSee_14 rfl hg
theorem dX4_isSign_0 : decode cX4_isSign 0 = .ok (.aload_n 0, 1) := by decide +kernel
theorem dX4_isSign_1 : decode cX4_isSign 1 = .ok (.getfield 15, 3) := by decide +kernel
theorem dX4_isSign_4 : decode cX4_isSign 4 = .ok (.aload_n 0, 1) := by decide +kernel
theorem dX4_isSign_5 : decode cX4_isSign 5 = .ok (.getfield 68, 3) := by decide +kernel
theorem dX4_isSign_8 : decode cX4_isSign 8 = .ok (.iaload, 1) := by decide +kernel
theorem dX4_isSign_9 : decode cX4_isSign 9 = .ok (.iconst 5, 1) := by decide +kernel
theorem dX4_isSign_10 : decode cX4_isSign 10 = .ok (.if_icmp .ne 22, 3) := by decide +kernel
theorem dX4_isSign_13 : decode cX4_isSign 13 = .ok (.aload_n 0, 1) := by decide +kernel
theorem dX4_isSign_14 : decode cX4_isSign 14 = .ok (.getfield 22, 3) := by decide +kernel
theorem dX4_isSign_17 : decode cX4_isSign 17 = .ok (.aload_n 0, 1) := by decide +kernel
theorem dX4_isSign_18 : decode cX4_isSign 18 = .ok (.getfield 68, 3) := by decide +kernel
theorem dX4_isSign_21 : decode cX4_isSign 21 = .ok (.laload, 1) := by decide +kernel
theorem dX4_isSign_22 : decode cX4_isSign 22 = .ok (.iload_n 1, 1) := by decide +kernel
theorem dX4_isSign_23 : decode cX4_isSign 23 = .ok (.i2l, 1) := by decide +kernel
theorem dX4_isSign_24 : decode cX4_isSign 24 = .ok (.lcmp, 1) := by decide +kernel
theorem dX4_isSign_25 : decode cX4_isSign 25 = .ok (.ifCond .ne 7, 3) := by decide +kernel
theorem dX4_isSign_28 : decode cX4_isSign 28 = .ok (.iconst 1, 1) := by decide +kernel
theorem dX4_isSign_29 : decode cX4_isSign 29 = .ok (.goto 4, 3) := by decide +kernel
theorem dX4_isSign_32 : decode cX4_isSign 32 = .ok (.iconst 0, 1) := by decide +kernel
theorem dX4_isSign_33 : decode cX4_isSign 33 = .ok (.ireturn, 1) := by decide +kernel
abbrev mm_X4_isSign : ab_M := (RX4, 2, (some .boolean), false, 0, 0, none)
noncomputable def f_X4_isSign_J32 (h : ab_H) : Option (Int × ab_H) :=
  some ((0 : Int), h)
set_option maxRecDepth 20000 in
theorem e_X4_isSign_J32 : ∀ (h : ab_H) (q : Int × ab_H), f_X4_isSign_J32  h = some q → ab_E mm_X4_isSign cX4_isSign 32 [none, none] [] h (some (ab_I q.1)) q.2 := by
  intro  h q hk
  unfold f_X4_isSign_J32 at hk
  refine ab_iconst (pc := 32) dX4_isSign_32 ab_k_0 ?_
  obtain rfl := Option.some.inj hk
  exact ab_retz (pc := 33) dX4_isSign_33 rfl rfl
noncomputable def f_X4_isSign (a0 : Int) (a1 : Int) (h : ab_H) : Option (Int × ab_H) :=
  (ab_get h 5 1 a0).bind fun t1 =>
  (ab_get h 5 5 a0).bind fun t2 =>
  (ab_ald h 11 t1 t2).bind fun t3 =>
  if t3 = (5 : Int) then
    (ab_get h 5 3 a0).bind fun t4 =>
    (ab_get h 5 5 a0).bind fun t5 =>
    (ab_ald h 12 t4 t5).bind fun t6 =>
    if ab_cmp t6 a1 = (0 : Int) then
      some ((1 : Int), h)
    else
    f_X4_isSign_J32 h
  else
  f_X4_isSign_J32 h
set_option maxRecDepth 20000 in
theorem ct_X4_isSign {a0 a1 : Int} {h : ab_H} {q : Int × ab_H} (hk : f_X4_isSign a0 a1 h = some q) : ab_CT yX4_isSign cX4_isSign 2 (some .boolean) 0 0 [ab_R a0, ab_I a1] h (some (ab_I q.1)) q.2 := by
  refine ab_CT.mk_ 0 (own := RX4) (ini := false) (lv := [some (ab_R a0), some (ab_I a1)]) rfl (by decide +kernel) (fun q => by cases q) rfl rfl ?_
  unfold f_X4_isSign at hk
  show ab_E mm_X4_isSign cX4_isSign 0 _ [] h _ _
  refine ab_aload_n (pc := 0) (i := 0) dX4_isSign_0 rfl rfl ?_
  obtain ⟨t1, ht1, hk⟩ := ab_bnd hk
  refine ab_getR (pc := 1) dX4_isSign_1 fl_RX4_15 ht1 ?_
  refine ab_aload_n (pc := 4) (i := 0) dX4_isSign_4 rfl rfl ?_
  obtain ⟨t2, ht2, hk⟩ := ab_bnd hk
  refine ab_getI (pc := 5) dX4_isSign_5 fl_RX4_68 ht2 ?_
  obtain ⟨t3, ht3, hk⟩ := ab_bnd hk
  refine ab_iald (pc := 8) dX4_isSign_8 ht3 ?_
  refine ab_iconst (pc := 9) dX4_isSign_9 ab_k_5 ?_
  refine ab_icmp_ne (pc := 10) (tgt := 32) dX4_isSign_10 rfl (fun hc => ?_) (fun hc => ?_)
  · have hk := ab_ifn hk hc
    refine ab_sub_ (lv2 := [none, none]) (ab_sn (ab_sn ab_s0)) ?_
    exact e_X4_isSign_J32  _ _ hk
  · have hk := ab_ifp hk hc
    refine ab_aload_n (pc := 13) (i := 0) dX4_isSign_13 rfl rfl ?_
    obtain ⟨t4, ht4, hk⟩ := ab_bnd hk
    refine ab_getR (pc := 14) dX4_isSign_14 fl_RX4_22 ht4 ?_
    refine ab_aload_n (pc := 17) (i := 0) dX4_isSign_17 rfl rfl ?_
    obtain ⟨t5, ht5, hk⟩ := ab_bnd hk
    refine ab_getI (pc := 18) dX4_isSign_18 fl_RX4_68 ht5 ?_
    obtain ⟨t6, ht6, hk⟩ := ab_bnd hk
    refine ab_lald (pc := 21) dX4_isSign_21 ht6 ?_
    refine ab_iload_n (pc := 22) (i := 1) dX4_isSign_22 rfl rfl ?_
    refine ab_i2l_ (pc := 23) dX4_isSign_23 ?_
    refine ab_lcmp_ (pc := 24) dX4_isSign_24 ?_
    refine ab_if_ne (pc := 25) (tgt := 32) dX4_isSign_25 rfl (fun hc => ?_) (fun hc => ?_)
    · have hk := ab_ifn hk hc
      refine ab_sub_ (lv2 := [none, none]) (ab_sn (ab_sn ab_s0)) ?_
      exact e_X4_isSign_J32  _ _ hk
    · have hk := ab_ifp hk hc
      refine ab_iconst (pc := 28) dX4_isSign_28 ab_k_1 ?_
      refine ab_goto (pc := 29) (tgt := 33) dX4_isSign_29 rfl ?_
      obtain rfl := Option.some.inj hk
      exact ab_retz (pc := 33) dX4_isSign_33 rfl rfl
theorem dX4_takeSign_0 : decode cX4_takeSign 0 = .ok (.aload_n 0, 1) := by decide +kernel
theorem dX4_takeSign_1 : decode cX4_takeSign 1 = .ok (.iload_n 1, 1) := by decide +kernel
theorem dX4_takeSign_2 : decode cX4_takeSign 2 = .ok (.invokevirtual 132, 3) := by decide +kernel
theorem dX4_takeSign_5 : decode cX4_takeSign 5 = .ok (.ifCond .ne 9, 3) := by decide +kernel
theorem dX4_takeSign_8 : decode cX4_takeSign 8 = .ok (.aload_n 0, 1) := by decide +kernel
theorem dX4_takeSign_9 : decode cX4_takeSign 9 = .ok (.iconst 1, 1) := by decide +kernel
theorem dX4_takeSign_10 : decode cX4_takeSign 10 = .ok (.invokevirtual 81, 3) := by decide +kernel
theorem dX4_takeSign_13 : decode cX4_takeSign 13 = .ok (.ireturn, 1) := by decide +kernel
theorem dX4_takeSign_14 : decode cX4_takeSign 14 = .ok (.aload_n 0, 1) := by decide +kernel
theorem dX4_takeSign_15 : decode cX4_takeSign 15 = .ok (.invokevirtual 135, 3) := by decide +kernel
theorem dX4_takeSign_18 : decode cX4_takeSign 18 = .ok (.iconst 1, 1) := by decide +kernel
theorem dX4_takeSign_19 : decode cX4_takeSign 19 = .ok (.ireturn, 1) := by decide +kernel
abbrev mm_X4_takeSign : ab_M := (RX4, 2, (some .boolean), false, 1, 21, none)
noncomputable def f_X4_takeSign (a0 : Int) (a1 : Int) (h : ab_H) : Option (Int × ab_H) :=
  (ab_on h 5 a0 (f_X4_isSign a0 a1 h)).bind fun q1 =>
  if q1.1 = (0 : Int) then
    (ab_on q1.2 5 a0 (f_X4_fail a0 (1 : Int) q1.2)).bind fun q3 =>
    ab_if (decide (q3.1 = 0 ∨ q3.1 = 1)) <|
    some (q3.1, q3.2)
  else
  (ab_on q1.2 5 a0 (f_X4_step a0 q1.2)).bind fun q2 =>
  some ((1 : Int), q2)
set_option maxRecDepth 20000 in
theorem ct_X4_takeSign {a0 a1 : Int} {h : ab_H} {q : Int × ab_H} (hk : f_X4_takeSign a0 a1 h = some q) : ab_CT yX4_takeSign cX4_takeSign 2 (some .boolean) 1 21 [ab_R a0, ab_I a1] h (some (ab_I q.1)) q.2 := by
  refine ab_CT.mk_ 0 (own := RX4) (ini := false) (lv := [some (ab_R a0), some (ab_I a1)]) rfl (by decide +kernel) (fun q => by cases q) rfl rfl ?_
  unfold f_X4_takeSign at hk
  show ab_E mm_X4_takeSign cX4_takeSign 0 _ [] h _ _
  refine ab_aload_n (pc := 0) (i := 0) dX4_takeSign_0 rfl rfl ?_
  refine ab_iload_n (pc := 1) (i := 1) dX4_takeSign_1 rfl rfl ?_
  obtain ⟨q1, hq1, hk⟩ := ab_bnd hk
  obtain ⟨hb, hq1⟩ := ab_on_some hq1
  refine ab_callVI (st := []) (as := [ab_I a1]) (b := a0) (pc := 2) dX4_takeSign_2 ml_RX4_132 my_X4_isSign mv_X4_isSign hb (ct_X4_isSign hq1) ⟨Nat.le_of_ble_eq_true rfl, Nat.le_of_ble_eq_true rfl⟩ rfl (Nat.le_of_ble_eq_true rfl) rfl ?_
  refine ab_if_ne (pc := 5) (tgt := 14) dX4_takeSign_5 rfl (fun hc => ?_) (fun hc => ?_)
  · have hk := ab_ifn hk hc
    refine ab_aload_n (pc := 14) (i := 0) dX4_takeSign_14 rfl rfl ?_
    obtain ⟨q2, hq2, hk⟩ := ab_bnd hk
    obtain ⟨hb, hq2⟩ := ab_on_some hq2
    refine ab_callVV (st := []) (as := []) (b := a0) (pc := 15) dX4_takeSign_15 ml_RX4_135 my_X4_step mv_X4_step hb (ct_X4_step hq2) ⟨Nat.le_of_ble_eq_true rfl, Nat.le_of_ble_eq_true rfl⟩ rfl (Nat.le_of_ble_eq_true rfl) rfl ?_
    refine ab_iconst (pc := 18) dX4_takeSign_18 ab_k_1 ?_
    obtain rfl := Option.some.inj hk
    exact ab_retz (pc := 19) dX4_takeSign_19 rfl rfl
  · have hk := ab_ifp hk hc
    refine ab_aload_n (pc := 8) (i := 0) dX4_takeSign_8 rfl rfl ?_
    refine ab_iconst (pc := 9) dX4_takeSign_9 ab_k_1 ?_
    obtain ⟨q3, hq3, hk⟩ := ab_bnd hk
    obtain ⟨hb, hq3⟩ := ab_on_some hq3
    refine ab_callVI (st := []) (as := [ab_I (1 : Int)]) (b := a0) (pc := 10) dX4_takeSign_10 ml_RX4_81 my_X4_fail mv_X4_fail hb (ct_X4_fail hq3) ⟨Nat.le_of_ble_eq_true rfl, Nat.le_of_ble_eq_true rfl⟩ rfl (Nat.le_of_ble_eq_true rfl) rfl ?_
    obtain ⟨hg, hk⟩ := ab_if_some hk
    obtain rfl := Option.some.inj hk
    exact ab_retz (pc := 13) dX4_takeSign_13 rfl hg
theorem dX4_readJoin_0 : decode cX4_readJoin 0 = .ok (.aload_n 0, 1) := by decide +kernel
theorem dX4_readJoin_1 : decode cX4_readJoin 1 = .ok (.lconst 0, 1) := by decide +kernel
theorem dX4_readJoin_2 : decode cX4_readJoin 2 = .ok (.putfield 204, 3) := by decide +kernel
theorem dX4_readJoin_5 : decode cX4_readJoin 5 = .ok (.aload_n 0, 1) := by decide +kernel
theorem dX4_readJoin_6 : decode cX4_readJoin 6 = .ok (.iload_n 1, 1) := by decide +kernel
theorem dX4_readJoin_7 : decode cX4_readJoin 7 = .ok (.invokevirtual 138, 3) := by decide +kernel
theorem dX4_readJoin_10 : decode cX4_readJoin 10 = .ok (.ifCond .ne 5, 3) := by decide +kernel
theorem dX4_readJoin_13 : decode cX4_readJoin 13 = .ok (.iconst 1, 1) := by decide +kernel
theorem dX4_readJoin_14 : decode cX4_readJoin 14 = .ok (.ireturn, 1) := by decide +kernel
theorem dX4_readJoin_15 : decode cX4_readJoin 15 = .ok (.aload_n 0, 1) := by decide +kernel
theorem dX4_readJoin_16 : decode cX4_readJoin 16 = .ok (.invokevirtual 135, 3) := by decide +kernel
theorem dX4_readJoin_19 : decode cX4_readJoin 19 = .ok (.aload_n 0, 1) := by decide +kernel
theorem dX4_readJoin_20 : decode cX4_readJoin 20 = .ok (.getfield 15, 3) := by decide +kernel
theorem dX4_readJoin_23 : decode cX4_readJoin 23 = .ok (.aload_n 0, 1) := by decide +kernel
theorem dX4_readJoin_24 : decode cX4_readJoin 24 = .ok (.getfield 68, 3) := by decide +kernel
theorem dX4_readJoin_27 : decode cX4_readJoin 27 = .ok (.iaload, 1) := by decide +kernel
theorem dX4_readJoin_28 : decode cX4_readJoin 28 = .ok (.iconst 2, 1) := by decide +kernel
theorem dX4_readJoin_29 : decode cX4_readJoin 29 = .ok (.if_icmp .eq 9, 3) := by decide +kernel
theorem dX4_readJoin_32 : decode cX4_readJoin 32 = .ok (.aload_n 0, 1) := by decide +kernel
theorem dX4_readJoin_33 : decode cX4_readJoin 33 = .ok (.iconst 1, 1) := by decide +kernel
theorem dX4_readJoin_34 : decode cX4_readJoin 34 = .ok (.invokevirtual 81, 3) := by decide +kernel
theorem dX4_readJoin_37 : decode cX4_readJoin 37 = .ok (.ireturn, 1) := by decide +kernel
theorem dX4_readJoin_38 : decode cX4_readJoin 38 = .ok (.aload_n 0, 1) := by decide +kernel
theorem dX4_readJoin_39 : decode cX4_readJoin 39 = .ok (.aload_n 0, 1) := by decide +kernel
theorem dX4_readJoin_40 : decode cX4_readJoin 40 = .ok (.getfield 22, 3) := by decide +kernel
theorem dX4_readJoin_43 : decode cX4_readJoin 43 = .ok (.aload_n 0, 1) := by decide +kernel
theorem dX4_readJoin_44 : decode cX4_readJoin 44 = .ok (.getfield 68, 3) := by decide +kernel
theorem dX4_readJoin_47 : decode cX4_readJoin 47 = .ok (.laload, 1) := by decide +kernel
theorem dX4_readJoin_48 : decode cX4_readJoin 48 = .ok (.putfield 204, 3) := by decide +kernel
theorem dX4_readJoin_51 : decode cX4_readJoin 51 = .ok (.aload_n 0, 1) := by decide +kernel
theorem dX4_readJoin_52 : decode cX4_readJoin 52 = .ok (.invokevirtual 135, 3) := by decide +kernel
theorem dX4_readJoin_55 : decode cX4_readJoin 55 = .ok (.iconst 1, 1) := by decide +kernel
theorem dX4_readJoin_56 : decode cX4_readJoin 56 = .ok (.ireturn, 1) := by decide +kernel
abbrev mm_X4_readJoin : ab_M := (RX4, 2, (some .boolean), false, 1, 21, none)
noncomputable def f_X4_readJoin (a0 : Int) (a1 : Int) (h : ab_H) : Option (Int × ab_H) :=
  (ab_put h 5 7 a0 (0 : Int)).bind fun h1 =>
  (ab_on h1 5 a0 (f_X4_isKey a0 a1 h1)).bind fun q1 =>
  if q1.1 = (0 : Int) then
    some ((1 : Int), q1.2)
  else
  (ab_on q1.2 5 a0 (f_X4_step a0 q1.2)).bind fun q2 =>
  (ab_get q2 5 1 a0).bind fun t3 =>
  (ab_get q2 5 5 a0).bind fun t4 =>
  (ab_ald q2 11 t3 t4).bind fun t5 =>
  if t5 = (2 : Int) then
    (ab_get q2 5 3 a0).bind fun t6 =>
    (ab_get q2 5 5 a0).bind fun t7 =>
    (ab_ald q2 12 t6 t7).bind fun t8 =>
    (ab_put q2 5 7 a0 t8).bind fun h2 =>
    (ab_on h2 5 a0 (f_X4_step a0 h2)).bind fun q9 =>
    some ((1 : Int), q9)
  else
  (ab_on q2 5 a0 (f_X4_fail a0 (1 : Int) q2)).bind fun q10 =>
  ab_if (decide (q10.1 = 0 ∨ q10.1 = 1)) <|
  some (q10.1, q10.2)
set_option maxRecDepth 20000 in
theorem ct_X4_readJoin {a0 a1 : Int} {h : ab_H} {q : Int × ab_H} (hk : f_X4_readJoin a0 a1 h = some q) : ab_CT yX4_readJoin cX4_readJoin 2 (some .boolean) 1 21 [ab_R a0, ab_I a1] h (some (ab_I q.1)) q.2 := by
  refine ab_CT.mk_ 0 (own := RX4) (ini := false) (lv := [some (ab_R a0), some (ab_I a1)]) rfl (by decide +kernel) (fun q => by cases q) rfl rfl ?_
  unfold f_X4_readJoin at hk
  show ab_E mm_X4_readJoin cX4_readJoin 0 _ [] h _ _
  refine ab_aload_n (pc := 0) (i := 0) dX4_readJoin_0 rfl rfl ?_
  refine ab_lconst (x := (0 : Int)) (pc := 1) dX4_readJoin_1 rfl ab_kl_0 ?_
  obtain ⟨h1, hh1, hk⟩ := ab_bnd hk
  refine ab_putJ_ (pc := 2) dX4_readJoin_2 fl_RX4_204 (fun q => by cases q) hh1 ?_
  refine ab_aload_n (pc := 5) (i := 0) dX4_readJoin_5 rfl rfl ?_
  refine ab_iload_n (pc := 6) (i := 1) dX4_readJoin_6 rfl rfl ?_
  obtain ⟨q1, hq1, hk⟩ := ab_bnd hk
  obtain ⟨hb, hq1⟩ := ab_on_some hq1
  refine ab_callVI (st := []) (as := [ab_I a1]) (b := a0) (pc := 7) dX4_readJoin_7 ml_RX4_138 my_X4_isKey mv_X4_isKey hb (ct_X4_isKey hq1) ⟨Nat.le_of_ble_eq_true rfl, Nat.le_of_ble_eq_true rfl⟩ rfl (Nat.le_of_ble_eq_true rfl) rfl ?_
  refine ab_if_ne (pc := 10) (tgt := 15) dX4_readJoin_10 rfl (fun hc => ?_) (fun hc => ?_)
  · have hk := ab_ifn hk hc
    refine ab_aload_n (pc := 15) (i := 0) dX4_readJoin_15 rfl rfl ?_
    obtain ⟨q2, hq2, hk⟩ := ab_bnd hk
    obtain ⟨hb, hq2⟩ := ab_on_some hq2
    refine ab_callVV (st := []) (as := []) (b := a0) (pc := 16) dX4_readJoin_16 ml_RX4_135 my_X4_step mv_X4_step hb (ct_X4_step hq2) ⟨Nat.le_of_ble_eq_true rfl, Nat.le_of_ble_eq_true rfl⟩ rfl (Nat.le_of_ble_eq_true rfl) rfl ?_
    refine ab_aload_n (pc := 19) (i := 0) dX4_readJoin_19 rfl rfl ?_
    obtain ⟨t3, ht3, hk⟩ := ab_bnd hk
    refine ab_getR (pc := 20) dX4_readJoin_20 fl_RX4_15 ht3 ?_
    refine ab_aload_n (pc := 23) (i := 0) dX4_readJoin_23 rfl rfl ?_
    obtain ⟨t4, ht4, hk⟩ := ab_bnd hk
    refine ab_getI (pc := 24) dX4_readJoin_24 fl_RX4_68 ht4 ?_
    obtain ⟨t5, ht5, hk⟩ := ab_bnd hk
    refine ab_iald (pc := 27) dX4_readJoin_27 ht5 ?_
    refine ab_iconst (pc := 28) dX4_readJoin_28 ab_k_2 ?_
    refine ab_icmp_eq (pc := 29) (tgt := 38) dX4_readJoin_29 rfl (fun hc => ?_) (fun hc => ?_)
    · have hk := ab_ifp hk hc
      refine ab_aload_n (pc := 38) (i := 0) dX4_readJoin_38 rfl rfl ?_
      refine ab_aload_n (pc := 39) (i := 0) dX4_readJoin_39 rfl rfl ?_
      obtain ⟨t6, ht6, hk⟩ := ab_bnd hk
      refine ab_getR (pc := 40) dX4_readJoin_40 fl_RX4_22 ht6 ?_
      refine ab_aload_n (pc := 43) (i := 0) dX4_readJoin_43 rfl rfl ?_
      obtain ⟨t7, ht7, hk⟩ := ab_bnd hk
      refine ab_getI (pc := 44) dX4_readJoin_44 fl_RX4_68 ht7 ?_
      obtain ⟨t8, ht8, hk⟩ := ab_bnd hk
      refine ab_lald (pc := 47) dX4_readJoin_47 ht8 ?_
      obtain ⟨h2, hh2, hk⟩ := ab_bnd hk
      refine ab_putJ_ (pc := 48) dX4_readJoin_48 fl_RX4_204 (fun q => by cases q) hh2 ?_
      refine ab_aload_n (pc := 51) (i := 0) dX4_readJoin_51 rfl rfl ?_
      obtain ⟨q9, hq9, hk⟩ := ab_bnd hk
      obtain ⟨hb, hq9⟩ := ab_on_some hq9
      refine ab_callVV (st := []) (as := []) (b := a0) (pc := 52) dX4_readJoin_52 ml_RX4_135 my_X4_step mv_X4_step hb (ct_X4_step hq9) ⟨Nat.le_of_ble_eq_true rfl, Nat.le_of_ble_eq_true rfl⟩ rfl (Nat.le_of_ble_eq_true rfl) rfl ?_
      refine ab_iconst (pc := 55) dX4_readJoin_55 ab_k_1 ?_
      obtain rfl := Option.some.inj hk
      exact ab_retz (pc := 56) dX4_readJoin_56 rfl rfl
    · have hk := ab_ifn hk hc
      refine ab_aload_n (pc := 32) (i := 0) dX4_readJoin_32 rfl rfl ?_
      refine ab_iconst (pc := 33) dX4_readJoin_33 ab_k_1 ?_
      obtain ⟨q10, hq10, hk⟩ := ab_bnd hk
      obtain ⟨hb, hq10⟩ := ab_on_some hq10
      refine ab_callVI (st := []) (as := [ab_I (1 : Int)]) (b := a0) (pc := 34) dX4_readJoin_34 ml_RX4_81 my_X4_fail mv_X4_fail hb (ct_X4_fail hq10) ⟨Nat.le_of_ble_eq_true rfl, Nat.le_of_ble_eq_true rfl⟩ rfl (Nat.le_of_ble_eq_true rfl) rfl ?_
      obtain ⟨hg, hk⟩ := ab_if_some hk
      obtain rfl := Option.some.inj hk
      exact ab_retz (pc := 37) dX4_readJoin_37 rfl hg
  · have hk := ab_ifp hk hc
    refine ab_iconst (pc := 13) dX4_readJoin_13 ab_k_1 ?_
    obtain rfl := Option.some.inj hk
    exact ab_retz (pc := 14) dX4_readJoin_14 rfl rfl
theorem dX4_readTerm_0 : decode cX4_readTerm 0 = .ok (.aload_n 0, 1) := by decide +kernel
theorem dX4_readTerm_1 : decode cX4_readTerm 1 = .ok (.bipush 12, 2) := by decide +kernel
theorem dX4_readTerm_3 : decode cX4_readTerm 3 = .ok (.invokevirtual 138, 3) := by decide +kernel
theorem dX4_readTerm_6 : decode cX4_readTerm 6 = .ok (.ifCond .ne 7, 3) := by decide +kernel
theorem dX4_readTerm_9 : decode cX4_readTerm 9 = .ok (.iconst 1, 1) := by decide +kernel
theorem dX4_readTerm_10 : decode cX4_readTerm 10 = .ok (.goto 4, 3) := by decide +kernel
theorem dX4_readTerm_13 : decode cX4_readTerm 13 = .ok (.iconst 0, 1) := by decide +kernel
theorem dX4_readTerm_14 : decode cX4_readTerm 14 = .ok (.istore 4, 2) := by decide +kernel
theorem dX4_readTerm_16 : decode cX4_readTerm 16 = .ok (.iload 4, 2) := by decide +kernel
theorem dX4_readTerm_18 : decode cX4_readTerm 18 = .ok (.ifCond .eq 20, 3) := by decide +kernel
theorem dX4_readTerm_21 : decode cX4_readTerm 21 = .ok (.aload_n 0, 1) := by decide +kernel
theorem dX4_readTerm_22 : decode cX4_readTerm 22 = .ok (.iconst 3, 1) := by decide +kernel
theorem dX4_readTerm_23 : decode cX4_readTerm 23 = .ok (.bipush 6, 2) := by decide +kernel
theorem dX4_readTerm_25 : decode cX4_readTerm 25 = .ok (.invokevirtual 148, 3) := by decide +kernel
theorem dX4_readTerm_28 : decode cX4_readTerm 28 = .ok (.iconst (-1), 1) := by decide +kernel
theorem dX4_readTerm_29 : decode cX4_readTerm 29 = .ok (.if_icmp .ne 9, 3) := by decide +kernel
theorem dX4_readTerm_32 : decode cX4_readTerm 32 = .ok (.aload_n 0, 1) := by decide +kernel
theorem dX4_readTerm_33 : decode cX4_readTerm 33 = .ok (.iconst 1, 1) := by decide +kernel
theorem dX4_readTerm_34 : decode cX4_readTerm 34 = .ok (.invokevirtual 81, 3) := by decide +kernel
theorem dX4_readTerm_37 : decode cX4_readTerm 37 = .ok (.ireturn, 1) := by decide +kernel
theorem dX4_readTerm_38 : decode cX4_readTerm 38 = .ok (.iload_n 3, 1) := by decide +kernel
theorem dX4_readTerm_39 : decode cX4_readTerm 39 = .ok (.bipush 6, 2) := by decide +kernel
theorem dX4_readTerm_41 : decode cX4_readTerm 41 = .ok (.if_icmp .lt 9, 3) := by decide +kernel
theorem dX4_readTerm_44 : decode cX4_readTerm 44 = .ok (.aload_n 0, 1) := by decide +kernel
theorem dX4_readTerm_45 : decode cX4_readTerm 45 = .ok (.iconst 4, 1) := by decide +kernel
theorem dX4_readTerm_46 : decode cX4_readTerm 46 = .ok (.invokevirtual 81, 3) := by decide +kernel
theorem dX4_readTerm_49 : decode cX4_readTerm 49 = .ok (.ireturn, 1) := by decide +kernel
theorem dX4_readTerm_50 : decode cX4_readTerm 50 = .ok (.iload 4, 2) := by decide +kernel
theorem dX4_readTerm_52 : decode cX4_readTerm 52 = .ok (.ifCond .ne 7, 3) := by decide +kernel
theorem dX4_readTerm_55 : decode cX4_readTerm 55 = .ok (.aload_n 0, 1) := by decide +kernel
theorem dX4_readTerm_56 : decode cX4_readTerm 56 = .ok (.invokevirtual 135, 3) := by decide +kernel
theorem dX4_readTerm_59 : decode cX4_readTerm 59 = .ok (.aload_n 0, 1) := by decide +kernel
theorem dX4_readTerm_60 : decode cX4_readTerm 60 = .ok (.iconst 3, 1) := by decide +kernel
theorem dX4_readTerm_61 : decode cX4_readTerm 61 = .ok (.bipush 6, 2) := by decide +kernel
theorem dX4_readTerm_63 : decode cX4_readTerm 63 = .ok (.invokevirtual 148, 3) := by decide +kernel
theorem dX4_readTerm_66 : decode cX4_readTerm 66 = .ok (.istore 5, 2) := by decide +kernel
theorem dX4_readTerm_68 : decode cX4_readTerm 68 = .ok (.iload 5, 2) := by decide +kernel
theorem dX4_readTerm_70 : decode cX4_readTerm 70 = .ok (.iconst (-1), 1) := by decide +kernel
theorem dX4_readTerm_71 : decode cX4_readTerm 71 = .ok (.if_icmp .ne 9, 3) := by decide +kernel
theorem dX4_readTerm_74 : decode cX4_readTerm 74 = .ok (.aload_n 0, 1) := by decide +kernel
theorem dX4_readTerm_75 : decode cX4_readTerm 75 = .ok (.iconst 1, 1) := by decide +kernel
theorem dX4_readTerm_76 : decode cX4_readTerm 76 = .ok (.invokevirtual 81, 3) := by decide +kernel
theorem dX4_readTerm_79 : decode cX4_readTerm 79 = .ok (.ireturn, 1) := by decide +kernel
theorem dX4_readTerm_80 : decode cX4_readTerm 80 = .ok (.iload_n 2, 1) := by decide +kernel
theorem dX4_readTerm_81 : decode cX4_readTerm 81 = .ok (.bipush 6, 2) := by decide +kernel
theorem dX4_readTerm_83 : decode cX4_readTerm 83 = .ok (.imul, 1) := by decide +kernel
theorem dX4_readTerm_84 : decode cX4_readTerm 84 = .ok (.iload_n 3, 1) := by decide +kernel
theorem dX4_readTerm_85 : decode cX4_readTerm 85 = .ok (.iadd, 1) := by decide +kernel
theorem dX4_readTerm_86 : decode cX4_readTerm 86 = .ok (.istore 6, 2) := by decide +kernel
theorem dX4_readTerm_88 : decode cX4_readTerm 88 = .ok (.iload_n 3, 1) := by decide +kernel
theorem dX4_readTerm_89 : decode cX4_readTerm 89 = .ok (.ifCond .le 23, 3) := by decide +kernel
theorem dX4_readTerm_92 : decode cX4_readTerm 92 = .ok (.iload 5, 2) := by decide +kernel
theorem dX4_readTerm_94 : decode cX4_readTerm 94 = .ok (.aload_n 1, 1) := by decide +kernel
theorem dX4_readTerm_95 : decode cX4_readTerm 95 = .ok (.getfield 189, 3) := by decide +kernel
theorem dX4_readTerm_98 : decode cX4_readTerm 98 = .ok (.iload 6, 2) := by decide +kernel
theorem dX4_readTerm_100 : decode cX4_readTerm 100 = .ok (.iconst 1, 1) := by decide +kernel
theorem dX4_readTerm_101 : decode cX4_readTerm 101 = .ok (.isub, 1) := by decide +kernel
theorem dX4_readTerm_102 : decode cX4_readTerm 102 = .ok (.iaload, 1) := by decide +kernel
theorem dX4_readTerm_103 : decode cX4_readTerm 103 = .ok (.if_icmp .ge 9, 3) := by decide +kernel
theorem dX4_readTerm_106 : decode cX4_readTerm 106 = .ok (.aload_n 0, 1) := by decide +kernel
theorem dX4_readTerm_107 : decode cX4_readTerm 107 = .ok (.iconst 5, 1) := by decide +kernel
theorem dX4_readTerm_108 : decode cX4_readTerm 108 = .ok (.invokevirtual 81, 3) := by decide +kernel
theorem dX4_readTerm_111 : decode cX4_readTerm 111 = .ok (.ireturn, 1) := by decide +kernel
theorem dX4_readTerm_112 : decode cX4_readTerm 112 = .ok (.aload_n 0, 1) := by decide +kernel
theorem dX4_readTerm_113 : decode cX4_readTerm 113 = .ok (.invokevirtual 135, 3) := by decide +kernel
theorem dX4_readTerm_116 : decode cX4_readTerm 116 = .ok (.aload_n 0, 1) := by decide +kernel
theorem dX4_readTerm_117 : decode cX4_readTerm 117 = .ok (.getfield 15, 3) := by decide +kernel
theorem dX4_readTerm_120 : decode cX4_readTerm 120 = .ok (.aload_n 0, 1) := by decide +kernel
theorem dX4_readTerm_121 : decode cX4_readTerm 121 = .ok (.getfield 68, 3) := by decide +kernel
theorem dX4_readTerm_124 : decode cX4_readTerm 124 = .ok (.iaload, 1) := by decide +kernel
theorem dX4_readTerm_125 : decode cX4_readTerm 125 = .ok (.iconst 2, 1) := by decide +kernel
theorem dX4_readTerm_126 : decode cX4_readTerm 126 = .ok (.if_icmp .eq 9, 3) := by decide +kernel
theorem dX4_readTerm_129 : decode cX4_readTerm 129 = .ok (.aload_n 0, 1) := by decide +kernel
theorem dX4_readTerm_130 : decode cX4_readTerm 130 = .ok (.iconst 1, 1) := by decide +kernel
theorem dX4_readTerm_131 : decode cX4_readTerm 131 = .ok (.invokevirtual 81, 3) := by decide +kernel
theorem dX4_readTerm_134 : decode cX4_readTerm 134 = .ok (.ireturn, 1) := by decide +kernel
theorem dX4_readTerm_135 : decode cX4_readTerm 135 = .ok (.aload_n 1, 1) := by decide +kernel
theorem dX4_readTerm_136 : decode cX4_readTerm 136 = .ok (.getfield 189, 3) := by decide +kernel
theorem dX4_readTerm_139 : decode cX4_readTerm 139 = .ok (.iload 6, 2) := by decide +kernel
theorem dX4_readTerm_141 : decode cX4_readTerm 141 = .ok (.iload 5, 2) := by decide +kernel
theorem dX4_readTerm_143 : decode cX4_readTerm 143 = .ok (.iastore, 1) := by decide +kernel
theorem dX4_readTerm_144 : decode cX4_readTerm 144 = .ok (.aload_n 1, 1) := by decide +kernel
theorem dX4_readTerm_145 : decode cX4_readTerm 145 = .ok (.getfield 192, 3) := by decide +kernel
theorem dX4_readTerm_148 : decode cX4_readTerm 148 = .ok (.iload 6, 2) := by decide +kernel
theorem dX4_readTerm_150 : decode cX4_readTerm 150 = .ok (.iload 4, 2) := by decide +kernel
theorem dX4_readTerm_152 : decode cX4_readTerm 152 = .ok (.ifCond .eq 7, 3) := by decide +kernel
theorem dX4_readTerm_155 : decode cX4_readTerm 155 = .ok (.iconst 1, 1) := by decide +kernel
theorem dX4_readTerm_156 : decode cX4_readTerm 156 = .ok (.goto 4, 3) := by decide +kernel
theorem dX4_readTerm_159 : decode cX4_readTerm 159 = .ok (.iconst 0, 1) := by decide +kernel
theorem dX4_readTerm_160 : decode cX4_readTerm 160 = .ok (.iastore, 1) := by decide +kernel
theorem dX4_readTerm_161 : decode cX4_readTerm 161 = .ok (.aload_n 1, 1) := by decide +kernel
theorem dX4_readTerm_162 : decode cX4_readTerm 162 = .ok (.getfield 195, 3) := by decide +kernel
theorem dX4_readTerm_165 : decode cX4_readTerm 165 = .ok (.iload 6, 2) := by decide +kernel
theorem dX4_readTerm_167 : decode cX4_readTerm 167 = .ok (.aload_n 0, 1) := by decide +kernel
theorem dX4_readTerm_168 : decode cX4_readTerm 168 = .ok (.getfield 22, 3) := by decide +kernel
theorem dX4_readTerm_171 : decode cX4_readTerm 171 = .ok (.aload_n 0, 1) := by decide +kernel
theorem dX4_readTerm_172 : decode cX4_readTerm 172 = .ok (.getfield 68, 3) := by decide +kernel
theorem dX4_readTerm_175 : decode cX4_readTerm 175 = .ok (.laload, 1) := by decide +kernel
theorem dX4_readTerm_176 : decode cX4_readTerm 176 = .ok (.lastore, 1) := by decide +kernel
theorem dX4_readTerm_177 : decode cX4_readTerm 177 = .ok (.aload_n 0, 1) := by decide +kernel
theorem dX4_readTerm_178 : decode cX4_readTerm 178 = .ok (.invokevirtual 135, 3) := by decide +kernel
theorem dX4_readTerm_181 : decode cX4_readTerm 181 = .ok (.aload_n 0, 1) := by decide +kernel
theorem dX4_readTerm_182 : decode cX4_readTerm 182 = .ok (.bipush 13, 2) := by decide +kernel
theorem dX4_readTerm_184 : decode cX4_readTerm 184 = .ok (.invokevirtual 198, 3) := by decide +kernel
theorem dX4_readTerm_187 : decode cX4_readTerm 187 = .ok (.ifCond .ne 5, 3) := by decide +kernel
theorem dX4_readTerm_190 : decode cX4_readTerm 190 = .ok (.iconst 0, 1) := by decide +kernel
theorem dX4_readTerm_191 : decode cX4_readTerm 191 = .ok (.ireturn, 1) := by decide +kernel
theorem dX4_readTerm_192 : decode cX4_readTerm 192 = .ok (.aload_n 1, 1) := by decide +kernel
theorem dX4_readTerm_193 : decode cX4_readTerm 193 = .ok (.getfield 201, 3) := by decide +kernel
theorem dX4_readTerm_196 : decode cX4_readTerm 196 = .ok (.iload 6, 2) := by decide +kernel
theorem dX4_readTerm_198 : decode cX4_readTerm 198 = .ok (.aload_n 0, 1) := by decide +kernel
theorem dX4_readTerm_199 : decode cX4_readTerm 199 = .ok (.getfield 204, 3) := by decide +kernel
theorem dX4_readTerm_202 : decode cX4_readTerm 202 = .ok (.lastore, 1) := by decide +kernel
theorem dX4_readTerm_203 : decode cX4_readTerm 203 = .ok (.aload_n 0, 1) := by decide +kernel
theorem dX4_readTerm_204 : decode cX4_readTerm 204 = .ok (.bipush 14, 2) := by decide +kernel
theorem dX4_readTerm_206 : decode cX4_readTerm 206 = .ok (.invokevirtual 198, 3) := by decide +kernel
theorem dX4_readTerm_209 : decode cX4_readTerm 209 = .ok (.ifCond .ne 5, 3) := by decide +kernel
theorem dX4_readTerm_212 : decode cX4_readTerm 212 = .ok (.iconst 0, 1) := by decide +kernel
theorem dX4_readTerm_213 : decode cX4_readTerm 213 = .ok (.ireturn, 1) := by decide +kernel
theorem dX4_readTerm_214 : decode cX4_readTerm 214 = .ok (.aload_n 1, 1) := by decide +kernel
theorem dX4_readTerm_215 : decode cX4_readTerm 215 = .ok (.getfield 208, 3) := by decide +kernel
theorem dX4_readTerm_218 : decode cX4_readTerm 218 = .ok (.iload 6, 2) := by decide +kernel
theorem dX4_readTerm_220 : decode cX4_readTerm 220 = .ok (.aload_n 0, 1) := by decide +kernel
theorem dX4_readTerm_221 : decode cX4_readTerm 221 = .ok (.getfield 204, 3) := by decide +kernel
theorem dX4_readTerm_224 : decode cX4_readTerm 224 = .ok (.lastore, 1) := by decide +kernel
theorem dX4_readTerm_225 : decode cX4_readTerm 225 = .ok (.iconst 1, 1) := by decide +kernel
theorem dX4_readTerm_226 : decode cX4_readTerm 226 = .ok (.ireturn, 1) := by decide +kernel
abbrev mm_X4_readTerm : ab_M := (RX4, 7, (some .boolean), false, 2, 42, none)
noncomputable def f_X4_readTerm_J160 (v0 : Int) (v1 : Int) (v6 : Int) (s2 : Int) (s1 : Int) (s0 : Int) (h : ab_H) : Option (Int × ab_H) :=
  (ab_ast h 11 s0 s1 s2).bind fun h1 =>
  (ab_get h1 1 5 v1).bind fun t1 =>
  (ab_get h1 5 3 v0).bind fun t2 =>
  (ab_get h1 5 5 v0).bind fun t3 =>
  (ab_ald h1 12 t2 t3).bind fun t4 =>
  (ab_ast h1 12 t1 v6 t4).bind fun h2 =>
  (ab_on h2 5 v0 (f_X4_step v0 h2)).bind fun q5 =>
  (ab_on q5 5 v0 (f_X4_readJoin v0 (13 : Int) q5)).bind fun q6 =>
  if q6.1 = (0 : Int) then
    some ((0 : Int), q6.2)
  else
  (ab_get q6.2 1 6 v1).bind fun t7 =>
  (ab_get q6.2 5 7 v0).bind fun t8 =>
  (ab_ast q6.2 12 t7 v6 t8).bind fun h3 =>
  (ab_on h3 5 v0 (f_X4_readJoin v0 (14 : Int) h3)).bind fun q9 =>
  if q9.1 = (0 : Int) then
    some ((0 : Int), q9.2)
  else
  (ab_get q9.2 1 7 v1).bind fun t10 =>
  (ab_get q9.2 5 7 v0).bind fun t11 =>
  (ab_ast q9.2 12 t10 v6 t11).bind fun h4 =>
  some ((1 : Int), h4)
set_option maxRecDepth 20000 in
theorem e_X4_readTerm_J160 : ∀ (v0 : Int) (v1 : Int) (v6 : Int) (s2 : Int) (s1 : Int) (s0 : Int) (h : ab_H) (q : Int × ab_H), f_X4_readTerm_J160 v0 v1 v6 s2 s1 s0 h = some q → ab_E mm_X4_readTerm cX4_readTerm 160 [some (ab_R v0), some (ab_R v1), none, none, none, none, some (ab_I v6)] [ab_I s2, ab_I s1, ab_R s0] h (some (ab_I q.1)) q.2 := by
  intro v0 v1 v6 s2 s1 s0 h q hk
  unfold f_X4_readTerm_J160 at hk
  obtain ⟨h1, hh1, hk⟩ := ab_bnd hk
  refine ab_iast (pc := 160) dX4_readTerm_160 hh1 ?_
  refine ab_aload_n (pc := 161) (i := 1) dX4_readTerm_161 rfl rfl ?_
  obtain ⟨t1, ht1, hk⟩ := ab_bnd hk
  refine ab_getR (pc := 162) dX4_readTerm_162 fl_RX4_195 ht1 ?_
  refine ab_iload (pc := 165) (i := 6) dX4_readTerm_165 rfl ?_
  refine ab_aload_n (pc := 167) (i := 0) dX4_readTerm_167 rfl rfl ?_
  obtain ⟨t2, ht2, hk⟩ := ab_bnd hk
  refine ab_getR (pc := 168) dX4_readTerm_168 fl_RX4_22 ht2 ?_
  refine ab_aload_n (pc := 171) (i := 0) dX4_readTerm_171 rfl rfl ?_
  obtain ⟨t3, ht3, hk⟩ := ab_bnd hk
  refine ab_getI (pc := 172) dX4_readTerm_172 fl_RX4_68 ht3 ?_
  obtain ⟨t4, ht4, hk⟩ := ab_bnd hk
  refine ab_lald (pc := 175) dX4_readTerm_175 ht4 ?_
  obtain ⟨h2, hh2, hk⟩ := ab_bnd hk
  refine ab_last (pc := 176) dX4_readTerm_176 hh2 ?_
  refine ab_aload_n (pc := 177) (i := 0) dX4_readTerm_177 rfl rfl ?_
  obtain ⟨q5, hq5, hk⟩ := ab_bnd hk
  obtain ⟨hb, hq5⟩ := ab_on_some hq5
  refine ab_callVV (st := []) (as := []) (b := v0) (pc := 178) dX4_readTerm_178 ml_RX4_135 my_X4_step mv_X4_step hb (ct_X4_step hq5) ⟨Nat.le_of_ble_eq_true rfl, Nat.le_of_ble_eq_true rfl⟩ rfl (Nat.le_of_ble_eq_true rfl) rfl ?_
  refine ab_aload_n (pc := 181) (i := 0) dX4_readTerm_181 rfl rfl ?_
  refine ab_bipush (pc := 182) dX4_readTerm_182 ab_p8_13 ab_k_13 ?_
  obtain ⟨q6, hq6, hk⟩ := ab_bnd hk
  obtain ⟨hb, hq6⟩ := ab_on_some hq6
  refine ab_callVI (st := []) (as := [ab_I (13 : Int)]) (b := v0) (pc := 184) dX4_readTerm_184 ml_RX4_198 my_X4_readJoin mv_X4_readJoin hb (ct_X4_readJoin hq6) ⟨Nat.le_of_ble_eq_true rfl, Nat.le_of_ble_eq_true rfl⟩ rfl (Nat.le_of_ble_eq_true rfl) rfl ?_
  refine ab_if_ne (pc := 187) (tgt := 192) dX4_readTerm_187 rfl (fun hc => ?_) (fun hc => ?_)
  · have hk := ab_ifn hk hc
    refine ab_aload_n (pc := 192) (i := 1) dX4_readTerm_192 rfl rfl ?_
    obtain ⟨t7, ht7, hk⟩ := ab_bnd hk
    refine ab_getR (pc := 193) dX4_readTerm_193 fl_RX4_201 ht7 ?_
    refine ab_iload (pc := 196) (i := 6) dX4_readTerm_196 rfl ?_
    refine ab_aload_n (pc := 198) (i := 0) dX4_readTerm_198 rfl rfl ?_
    obtain ⟨t8, ht8, hk⟩ := ab_bnd hk
    refine ab_getJ (pc := 199) dX4_readTerm_199 fl_RX4_204 ht8 ?_
    obtain ⟨h3, hh3, hk⟩ := ab_bnd hk
    refine ab_last (pc := 202) dX4_readTerm_202 hh3 ?_
    refine ab_aload_n (pc := 203) (i := 0) dX4_readTerm_203 rfl rfl ?_
    refine ab_bipush (pc := 204) dX4_readTerm_204 ab_p8_14 ab_k_14 ?_
    obtain ⟨q9, hq9, hk⟩ := ab_bnd hk
    obtain ⟨hb, hq9⟩ := ab_on_some hq9
    refine ab_callVI (st := []) (as := [ab_I (14 : Int)]) (b := v0) (pc := 206) dX4_readTerm_206 ml_RX4_198 my_X4_readJoin mv_X4_readJoin hb (ct_X4_readJoin hq9) ⟨Nat.le_of_ble_eq_true rfl, Nat.le_of_ble_eq_true rfl⟩ rfl (Nat.le_of_ble_eq_true rfl) rfl ?_
    refine ab_if_ne (pc := 209) (tgt := 214) dX4_readTerm_209 rfl (fun hc => ?_) (fun hc => ?_)
    · have hk := ab_ifn hk hc
      refine ab_aload_n (pc := 214) (i := 1) dX4_readTerm_214 rfl rfl ?_
      obtain ⟨t10, ht10, hk⟩ := ab_bnd hk
      refine ab_getR (pc := 215) dX4_readTerm_215 fl_RX4_208 ht10 ?_
      refine ab_iload (pc := 218) (i := 6) dX4_readTerm_218 rfl ?_
      refine ab_aload_n (pc := 220) (i := 0) dX4_readTerm_220 rfl rfl ?_
      obtain ⟨t11, ht11, hk⟩ := ab_bnd hk
      refine ab_getJ (pc := 221) dX4_readTerm_221 fl_RX4_204 ht11 ?_
      obtain ⟨h4, hh4, hk⟩ := ab_bnd hk
      refine ab_last (pc := 224) dX4_readTerm_224 hh4 ?_
      refine ab_iconst (pc := 225) dX4_readTerm_225 ab_k_1 ?_
      obtain rfl := Option.some.inj hk
      exact ab_retz (pc := 226) dX4_readTerm_226 rfl rfl
    · have hk := ab_ifp hk hc
      refine ab_iconst (pc := 212) dX4_readTerm_212 ab_k_0 ?_
      obtain rfl := Option.some.inj hk
      exact ab_retz (pc := 213) dX4_readTerm_213 rfl rfl
  · have hk := ab_ifp hk hc
    refine ab_iconst (pc := 190) dX4_readTerm_190 ab_k_0 ?_
    obtain rfl := Option.some.inj hk
    exact ab_retz (pc := 191) dX4_readTerm_191 rfl rfl
noncomputable def f_X4_readTerm_J112 (v0 : Int) (v1 : Int) (v4 : Int) (v5 : Int) (v6 : Int) (h : ab_H) : Option (Int × ab_H) :=
  (ab_on h 5 v0 (f_X4_step v0 h)).bind fun q1 =>
  (ab_get q1 5 1 v0).bind fun t2 =>
  (ab_get q1 5 5 v0).bind fun t3 =>
  (ab_ald q1 11 t2 t3).bind fun t4 =>
  if t4 = (2 : Int) then
    (ab_get q1 1 3 v1).bind fun t5 =>
    (ab_ast q1 11 t5 v6 v5).bind fun h1 =>
    (ab_get h1 1 4 v1).bind fun t6 =>
    if v4 = (0 : Int) then
      f_X4_readTerm_J160 v0 v1 v6 (0 : Int) v6 t6 h1
    else
    f_X4_readTerm_J160 v0 v1 v6 (1 : Int) v6 t6 h1
  else
  (ab_on q1 5 v0 (f_X4_fail v0 (1 : Int) q1)).bind fun q7 =>
  ab_if (decide (q7.1 = 0 ∨ q7.1 = 1)) <|
  some (q7.1, q7.2)
set_option maxRecDepth 20000 in
theorem e_X4_readTerm_J112 : ∀ (v0 : Int) (v1 : Int) (v4 : Int) (v5 : Int) (v6 : Int) (h : ab_H) (q : Int × ab_H), f_X4_readTerm_J112 v0 v1 v4 v5 v6 h = some q → ab_E mm_X4_readTerm cX4_readTerm 112 [some (ab_R v0), some (ab_R v1), none, none, some (ab_I v4), some (ab_I v5), some (ab_I v6)] [] h (some (ab_I q.1)) q.2 := by
  intro v0 v1 v4 v5 v6 h q hk
  unfold f_X4_readTerm_J112 at hk
  refine ab_aload_n (pc := 112) (i := 0) dX4_readTerm_112 rfl rfl ?_
  obtain ⟨q1, hq1, hk⟩ := ab_bnd hk
  obtain ⟨hb, hq1⟩ := ab_on_some hq1
  refine ab_callVV (st := []) (as := []) (b := v0) (pc := 113) dX4_readTerm_113 ml_RX4_135 my_X4_step mv_X4_step hb (ct_X4_step hq1) ⟨Nat.le_of_ble_eq_true rfl, Nat.le_of_ble_eq_true rfl⟩ rfl (Nat.le_of_ble_eq_true rfl) rfl ?_
  refine ab_aload_n (pc := 116) (i := 0) dX4_readTerm_116 rfl rfl ?_
  obtain ⟨t2, ht2, hk⟩ := ab_bnd hk
  refine ab_getR (pc := 117) dX4_readTerm_117 fl_RX4_15 ht2 ?_
  refine ab_aload_n (pc := 120) (i := 0) dX4_readTerm_120 rfl rfl ?_
  obtain ⟨t3, ht3, hk⟩ := ab_bnd hk
  refine ab_getI (pc := 121) dX4_readTerm_121 fl_RX4_68 ht3 ?_
  obtain ⟨t4, ht4, hk⟩ := ab_bnd hk
  refine ab_iald (pc := 124) dX4_readTerm_124 ht4 ?_
  refine ab_iconst (pc := 125) dX4_readTerm_125 ab_k_2 ?_
  refine ab_icmp_eq (pc := 126) (tgt := 135) dX4_readTerm_126 rfl (fun hc => ?_) (fun hc => ?_)
  · have hk := ab_ifp hk hc
    refine ab_aload_n (pc := 135) (i := 1) dX4_readTerm_135 rfl rfl ?_
    obtain ⟨t5, ht5, hk⟩ := ab_bnd hk
    refine ab_getR (pc := 136) dX4_readTerm_136 fl_RX4_189 ht5 ?_
    refine ab_iload (pc := 139) (i := 6) dX4_readTerm_139 rfl ?_
    refine ab_iload (pc := 141) (i := 5) dX4_readTerm_141 rfl ?_
    obtain ⟨h1, hh1, hk⟩ := ab_bnd hk
    refine ab_iast (pc := 143) dX4_readTerm_143 hh1 ?_
    refine ab_aload_n (pc := 144) (i := 1) dX4_readTerm_144 rfl rfl ?_
    obtain ⟨t6, ht6, hk⟩ := ab_bnd hk
    refine ab_getR (pc := 145) dX4_readTerm_145 fl_RX4_192 ht6 ?_
    refine ab_iload (pc := 148) (i := 6) dX4_readTerm_148 rfl ?_
    refine ab_iload (pc := 150) (i := 4) dX4_readTerm_150 rfl ?_
    refine ab_if_eq (pc := 152) (tgt := 159) dX4_readTerm_152 rfl (fun hc => ?_) (fun hc => ?_)
    · have hk := ab_ifp hk hc
      refine ab_iconst (pc := 159) dX4_readTerm_159 ab_k_0 ?_
      refine ab_sub_ (lv2 := [some (ab_R v0), some (ab_R v1), none, none, none, none, some (ab_I v6)]) (ab_ss (ab_ss (ab_sn (ab_sn (ab_sn (ab_sn (ab_ss ab_s0))))))) ?_
      exact e_X4_readTerm_J160 _ _ _ _ _ _ _ _ hk
    · have hk := ab_ifn hk hc
      refine ab_iconst (pc := 155) dX4_readTerm_155 ab_k_1 ?_
      refine ab_goto (pc := 156) (tgt := 160) dX4_readTerm_156 rfl ?_
      refine ab_sub_ (lv2 := [some (ab_R v0), some (ab_R v1), none, none, none, none, some (ab_I v6)]) (ab_ss (ab_ss (ab_sn (ab_sn (ab_sn (ab_sn (ab_ss ab_s0))))))) ?_
      exact e_X4_readTerm_J160 _ _ _ _ _ _ _ _ hk
  · have hk := ab_ifn hk hc
    refine ab_aload_n (pc := 129) (i := 0) dX4_readTerm_129 rfl rfl ?_
    refine ab_iconst (pc := 130) dX4_readTerm_130 ab_k_1 ?_
    obtain ⟨q7, hq7, hk⟩ := ab_bnd hk
    obtain ⟨hb, hq7⟩ := ab_on_some hq7
    refine ab_callVI (st := []) (as := [ab_I (1 : Int)]) (b := v0) (pc := 131) dX4_readTerm_131 ml_RX4_81 my_X4_fail mv_X4_fail hb (ct_X4_fail hq7) ⟨Nat.le_of_ble_eq_true rfl, Nat.le_of_ble_eq_true rfl⟩ rfl (Nat.le_of_ble_eq_true rfl) rfl ?_
    obtain ⟨hg, hk⟩ := ab_if_some hk
    obtain rfl := Option.some.inj hk
    exact ab_retz (pc := 134) dX4_readTerm_134 rfl hg
noncomputable def f_X4_readTerm_J59 (v0 : Int) (v1 : Int) (v2 : Int) (v3 : Int) (v4 : Int) (h : ab_H) : Option (Int × ab_H) :=
  (ab_on h 5 v0 (f_X4_choice v0 (3 : Int) (6 : Int) h)).bind fun q1 =>
  if q1.1 = (-1 : Int) then
    (ab_on q1.2 5 v0 (f_X4_fail v0 (1 : Int) q1.2)).bind fun q5 =>
    ab_if (decide (q5.1 = 0 ∨ q5.1 = 1)) <|
    some (q5.1, q5.2)
  else
  if v3 ≤ (0 : Int) then
    f_X4_readTerm_J112 v0 v1 v4 q1.1 (ab_w32 ((ab_w32 (v2 * (6 : Int))) + v3)) q1.2
  else
  (ab_get q1.2 1 3 v1).bind fun t2 =>
  (ab_ald q1.2 11 t2 (ab_w32 ((ab_w32 ((ab_w32 (v2 * (6 : Int))) + v3)) - (1 : Int)))).bind fun t3 =>
  if t3 ≤ q1.1 then
    f_X4_readTerm_J112 v0 v1 v4 q1.1 (ab_w32 ((ab_w32 (v2 * (6 : Int))) + v3)) q1.2
  else
  (ab_on q1.2 5 v0 (f_X4_fail v0 (5 : Int) q1.2)).bind fun q4 =>
  ab_if (decide (q4.1 = 0 ∨ q4.1 = 1)) <|
  some (q4.1, q4.2)
set_option maxRecDepth 20000 in
theorem e_X4_readTerm_J59 : ∀ (v0 : Int) (v1 : Int) (v2 : Int) (v3 : Int) (v4 : Int) (h : ab_H) (q : Int × ab_H), f_X4_readTerm_J59 v0 v1 v2 v3 v4 h = some q → ab_E mm_X4_readTerm cX4_readTerm 59 [some (ab_R v0), some (ab_R v1), some (ab_I v2), some (ab_I v3), some (ab_I v4), none, none] [] h (some (ab_I q.1)) q.2 := by
  intro v0 v1 v2 v3 v4 h q hk
  unfold f_X4_readTerm_J59 at hk
  refine ab_aload_n (pc := 59) (i := 0) dX4_readTerm_59 rfl rfl ?_
  refine ab_iconst (pc := 60) dX4_readTerm_60 ab_k_3 ?_
  refine ab_bipush (pc := 61) dX4_readTerm_61 ab_p8_6 ab_k_6 ?_
  obtain ⟨q1, hq1, hk⟩ := ab_bnd hk
  obtain ⟨hb, hq1⟩ := ab_on_some hq1
  refine ab_callVI (st := []) (as := [ab_I (3 : Int), ab_I (6 : Int)]) (b := v0) (pc := 63) dX4_readTerm_63 ml_RX4_148 my_X4_choice mv_X4_choice hb (ct_X4_choice hq1) ⟨Nat.le_of_ble_eq_true rfl, Nat.le_of_ble_eq_true rfl⟩ rfl (Nat.le_of_ble_eq_true rfl) rfl ?_
  refine ab_istore (pc := 66) (i := 5) (lv2 := [some (ab_R v0), some (ab_R v1), some (ab_I v2), some (ab_I v3), some (ab_I v4), some (ab_I q1.1), none]) dX4_readTerm_66 (Nat.le_of_ble_eq_true rfl) rfl rfl ?_
  refine ab_iload (pc := 68) (i := 5) dX4_readTerm_68 rfl ?_
  refine ab_iconst (pc := 70) dX4_readTerm_70 ab_k_m1 ?_
  refine ab_icmp_ne (pc := 71) (tgt := 80) dX4_readTerm_71 rfl (fun hc => ?_) (fun hc => ?_)
  · have hk := ab_ifn hk hc
    refine ab_iload_n (pc := 80) (i := 2) dX4_readTerm_80 rfl rfl ?_
    refine ab_bipush (pc := 81) dX4_readTerm_81 ab_p8_6 ab_k_6 ?_
    refine ab_imul (pc := 83) dX4_readTerm_83 ?_
    refine ab_iload_n (pc := 84) (i := 3) dX4_readTerm_84 rfl rfl ?_
    refine ab_iadd (pc := 85) dX4_readTerm_85 ?_
    refine ab_istore (pc := 86) (i := 6) (lv2 := [some (ab_R v0), some (ab_R v1), some (ab_I v2), some (ab_I v3), some (ab_I v4), some (ab_I q1.1), some (ab_I (ab_w32 ((ab_w32 (v2 * (6 : Int))) + v3)))]) dX4_readTerm_86 (Nat.le_of_ble_eq_true rfl) rfl rfl ?_
    refine ab_iload_n (pc := 88) (i := 3) dX4_readTerm_88 rfl rfl ?_
    refine ab_if_le (pc := 89) (tgt := 112) dX4_readTerm_89 rfl (fun hc => ?_) (fun hc => ?_)
    · have hk := ab_ifp hk hc
      refine ab_sub_ (lv2 := [some (ab_R v0), some (ab_R v1), none, none, some (ab_I v4), some (ab_I q1.1), some (ab_I (ab_w32 ((ab_w32 (v2 * (6 : Int))) + v3)))]) (ab_ss (ab_ss (ab_sn (ab_sn (ab_ss (ab_ss (ab_ss ab_s0))))))) ?_
      exact e_X4_readTerm_J112 _ _ _ _ _ _ _ hk
    · have hk := ab_ifn hk hc
      refine ab_iload (pc := 92) (i := 5) dX4_readTerm_92 rfl ?_
      refine ab_aload_n (pc := 94) (i := 1) dX4_readTerm_94 rfl rfl ?_
      obtain ⟨t2, ht2, hk⟩ := ab_bnd hk
      refine ab_getR (pc := 95) dX4_readTerm_95 fl_RX4_189 ht2 ?_
      refine ab_iload (pc := 98) (i := 6) dX4_readTerm_98 rfl ?_
      refine ab_iconst (pc := 100) dX4_readTerm_100 ab_k_1 ?_
      refine ab_isub (pc := 101) dX4_readTerm_101 ?_
      obtain ⟨t3, ht3, hk⟩ := ab_bnd hk
      refine ab_iald (pc := 102) dX4_readTerm_102 ht3 ?_
      refine ab_icmp_ge (pc := 103) (tgt := 112) dX4_readTerm_103 rfl (fun hc => ?_) (fun hc => ?_)
      · have hk := ab_ifp hk hc
        refine ab_sub_ (lv2 := [some (ab_R v0), some (ab_R v1), none, none, some (ab_I v4), some (ab_I q1.1), some (ab_I (ab_w32 ((ab_w32 (v2 * (6 : Int))) + v3)))]) (ab_ss (ab_ss (ab_sn (ab_sn (ab_ss (ab_ss (ab_ss ab_s0))))))) ?_
        exact e_X4_readTerm_J112 _ _ _ _ _ _ _ hk
      · have hk := ab_ifn hk hc
        refine ab_aload_n (pc := 106) (i := 0) dX4_readTerm_106 rfl rfl ?_
        refine ab_iconst (pc := 107) dX4_readTerm_107 ab_k_5 ?_
        obtain ⟨q4, hq4, hk⟩ := ab_bnd hk
        obtain ⟨hb, hq4⟩ := ab_on_some hq4
        refine ab_callVI (st := []) (as := [ab_I (5 : Int)]) (b := v0) (pc := 108) dX4_readTerm_108 ml_RX4_81 my_X4_fail mv_X4_fail hb (ct_X4_fail hq4) ⟨Nat.le_of_ble_eq_true rfl, Nat.le_of_ble_eq_true rfl⟩ rfl (Nat.le_of_ble_eq_true rfl) rfl ?_
        obtain ⟨hg, hk⟩ := ab_if_some hk
        obtain rfl := Option.some.inj hk
        exact ab_retz (pc := 111) dX4_readTerm_111 rfl hg
  · have hk := ab_ifp hk hc
    refine ab_aload_n (pc := 74) (i := 0) dX4_readTerm_74 rfl rfl ?_
    refine ab_iconst (pc := 75) dX4_readTerm_75 ab_k_1 ?_
    obtain ⟨q5, hq5, hk⟩ := ab_bnd hk
    obtain ⟨hb, hq5⟩ := ab_on_some hq5
    refine ab_callVI (st := []) (as := [ab_I (1 : Int)]) (b := v0) (pc := 76) dX4_readTerm_76 ml_RX4_81 my_X4_fail mv_X4_fail hb (ct_X4_fail hq5) ⟨Nat.le_of_ble_eq_true rfl, Nat.le_of_ble_eq_true rfl⟩ rfl (Nat.le_of_ble_eq_true rfl) rfl ?_
    obtain ⟨hg, hk⟩ := ab_if_some hk
    obtain rfl := Option.some.inj hk
    exact ab_retz (pc := 79) dX4_readTerm_79 rfl hg
noncomputable def f_X4_readTerm_J38 (v0 : Int) (v1 : Int) (v2 : Int) (v3 : Int) (v4 : Int) (h : ab_H) : Option (Int × ab_H) :=
  if v3 < (6 : Int) then
    if v4 = (0 : Int) then
      (ab_on h 5 v0 (f_X4_step v0 h)).bind fun q1 =>
      f_X4_readTerm_J59 v0 v1 v2 v3 v4 q1
    else
    f_X4_readTerm_J59 v0 v1 v2 v3 v4 h
  else
  (ab_on h 5 v0 (f_X4_fail v0 (4 : Int) h)).bind fun q2 =>
  ab_if (decide (q2.1 = 0 ∨ q2.1 = 1)) <|
  some (q2.1, q2.2)
set_option maxRecDepth 20000 in
theorem e_X4_readTerm_J38 : ∀ (v0 : Int) (v1 : Int) (v2 : Int) (v3 : Int) (v4 : Int) (h : ab_H) (q : Int × ab_H), f_X4_readTerm_J38 v0 v1 v2 v3 v4 h = some q → ab_E mm_X4_readTerm cX4_readTerm 38 [some (ab_R v0), some (ab_R v1), some (ab_I v2), some (ab_I v3), some (ab_I v4), none, none] [] h (some (ab_I q.1)) q.2 := by
  intro v0 v1 v2 v3 v4 h q hk
  unfold f_X4_readTerm_J38 at hk
  refine ab_iload_n (pc := 38) (i := 3) dX4_readTerm_38 rfl rfl ?_
  refine ab_bipush (pc := 39) dX4_readTerm_39 ab_p8_6 ab_k_6 ?_
  refine ab_icmp_lt (pc := 41) (tgt := 50) dX4_readTerm_41 rfl (fun hc => ?_) (fun hc => ?_)
  · have hk := ab_ifp hk hc
    refine ab_iload (pc := 50) (i := 4) dX4_readTerm_50 rfl ?_
    refine ab_if_ne (pc := 52) (tgt := 59) dX4_readTerm_52 rfl (fun hc => ?_) (fun hc => ?_)
    · have hk := ab_ifn hk hc
      refine ab_sub_ (lv2 := [some (ab_R v0), some (ab_R v1), some (ab_I v2), some (ab_I v3), some (ab_I v4), none, none]) (ab_ss (ab_ss (ab_ss (ab_ss (ab_ss (ab_sn (ab_sn ab_s0))))))) ?_
      exact e_X4_readTerm_J59 _ _ _ _ _ _ _ hk
    · have hk := ab_ifp hk hc
      refine ab_aload_n (pc := 55) (i := 0) dX4_readTerm_55 rfl rfl ?_
      obtain ⟨q1, hq1, hk⟩ := ab_bnd hk
      obtain ⟨hb, hq1⟩ := ab_on_some hq1
      refine ab_callVV (st := []) (as := []) (b := v0) (pc := 56) dX4_readTerm_56 ml_RX4_135 my_X4_step mv_X4_step hb (ct_X4_step hq1) ⟨Nat.le_of_ble_eq_true rfl, Nat.le_of_ble_eq_true rfl⟩ rfl (Nat.le_of_ble_eq_true rfl) rfl ?_
      refine ab_sub_ (lv2 := [some (ab_R v0), some (ab_R v1), some (ab_I v2), some (ab_I v3), some (ab_I v4), none, none]) (ab_ss (ab_ss (ab_ss (ab_ss (ab_ss (ab_sn (ab_sn ab_s0))))))) ?_
      exact e_X4_readTerm_J59 _ _ _ _ _ _ _ hk
  · have hk := ab_ifn hk hc
    refine ab_aload_n (pc := 44) (i := 0) dX4_readTerm_44 rfl rfl ?_
    refine ab_iconst (pc := 45) dX4_readTerm_45 ab_k_4 ?_
    obtain ⟨q2, hq2, hk⟩ := ab_bnd hk
    obtain ⟨hb, hq2⟩ := ab_on_some hq2
    refine ab_callVI (st := []) (as := [ab_I (4 : Int)]) (b := v0) (pc := 46) dX4_readTerm_46 ml_RX4_81 my_X4_fail mv_X4_fail hb (ct_X4_fail hq2) ⟨Nat.le_of_ble_eq_true rfl, Nat.le_of_ble_eq_true rfl⟩ rfl (Nat.le_of_ble_eq_true rfl) rfl ?_
    obtain ⟨hg, hk⟩ := ab_if_some hk
    obtain rfl := Option.some.inj hk
    exact ab_retz (pc := 49) dX4_readTerm_49 rfl hg
noncomputable def f_X4_readTerm_J14 (v0 : Int) (v1 : Int) (v2 : Int) (v3 : Int) (s0 : Int) (h : ab_H) : Option (Int × ab_H) :=
  if s0 = (0 : Int) then
    f_X4_readTerm_J38 v0 v1 v2 v3 s0 h
  else
  (ab_on h 5 v0 (f_X4_choice v0 (3 : Int) (6 : Int) h)).bind fun q1 =>
  if q1.1 = (-1 : Int) then
    (ab_on q1.2 5 v0 (f_X4_fail v0 (1 : Int) q1.2)).bind fun q2 =>
    ab_if (decide (q2.1 = 0 ∨ q2.1 = 1)) <|
    some (q2.1, q2.2)
  else
  f_X4_readTerm_J38 v0 v1 v2 v3 s0 q1.2
set_option maxRecDepth 20000 in
theorem e_X4_readTerm_J14 : ∀ (v0 : Int) (v1 : Int) (v2 : Int) (v3 : Int) (s0 : Int) (h : ab_H) (q : Int × ab_H), f_X4_readTerm_J14 v0 v1 v2 v3 s0 h = some q → ab_E mm_X4_readTerm cX4_readTerm 14 [some (ab_R v0), some (ab_R v1), some (ab_I v2), some (ab_I v3), none, none, none] [ab_I s0] h (some (ab_I q.1)) q.2 := by
  intro v0 v1 v2 v3 s0 h q hk
  unfold f_X4_readTerm_J14 at hk
  refine ab_istore (pc := 14) (i := 4) (lv2 := [some (ab_R v0), some (ab_R v1), some (ab_I v2), some (ab_I v3), some (ab_I s0), none, none]) dX4_readTerm_14 (Nat.le_of_ble_eq_true rfl) rfl rfl ?_
  refine ab_iload (pc := 16) (i := 4) dX4_readTerm_16 rfl ?_
  refine ab_if_eq (pc := 18) (tgt := 38) dX4_readTerm_18 rfl (fun hc => ?_) (fun hc => ?_)
  · have hk := ab_ifp hk hc
    refine ab_sub_ (lv2 := [some (ab_R v0), some (ab_R v1), some (ab_I v2), some (ab_I v3), some (ab_I s0), none, none]) (ab_ss (ab_ss (ab_ss (ab_ss (ab_ss (ab_sn (ab_sn ab_s0))))))) ?_
    exact e_X4_readTerm_J38 _ _ _ _ _ _ _ hk
  · have hk := ab_ifn hk hc
    refine ab_aload_n (pc := 21) (i := 0) dX4_readTerm_21 rfl rfl ?_
    refine ab_iconst (pc := 22) dX4_readTerm_22 ab_k_3 ?_
    refine ab_bipush (pc := 23) dX4_readTerm_23 ab_p8_6 ab_k_6 ?_
    obtain ⟨q1, hq1, hk⟩ := ab_bnd hk
    obtain ⟨hb, hq1⟩ := ab_on_some hq1
    refine ab_callVI (st := []) (as := [ab_I (3 : Int), ab_I (6 : Int)]) (b := v0) (pc := 25) dX4_readTerm_25 ml_RX4_148 my_X4_choice mv_X4_choice hb (ct_X4_choice hq1) ⟨Nat.le_of_ble_eq_true rfl, Nat.le_of_ble_eq_true rfl⟩ rfl (Nat.le_of_ble_eq_true rfl) rfl ?_
    refine ab_iconst (pc := 28) dX4_readTerm_28 ab_k_m1 ?_
    refine ab_icmp_ne (pc := 29) (tgt := 38) dX4_readTerm_29 rfl (fun hc => ?_) (fun hc => ?_)
    · have hk := ab_ifn hk hc
      refine ab_sub_ (lv2 := [some (ab_R v0), some (ab_R v1), some (ab_I v2), some (ab_I v3), some (ab_I s0), none, none]) (ab_ss (ab_ss (ab_ss (ab_ss (ab_ss (ab_sn (ab_sn ab_s0))))))) ?_
      exact e_X4_readTerm_J38 _ _ _ _ _ _ _ hk
    · have hk := ab_ifp hk hc
      refine ab_aload_n (pc := 32) (i := 0) dX4_readTerm_32 rfl rfl ?_
      refine ab_iconst (pc := 33) dX4_readTerm_33 ab_k_1 ?_
      obtain ⟨q2, hq2, hk⟩ := ab_bnd hk
      obtain ⟨hb, hq2⟩ := ab_on_some hq2
      refine ab_callVI (st := []) (as := [ab_I (1 : Int)]) (b := v0) (pc := 34) dX4_readTerm_34 ml_RX4_81 my_X4_fail mv_X4_fail hb (ct_X4_fail hq2) ⟨Nat.le_of_ble_eq_true rfl, Nat.le_of_ble_eq_true rfl⟩ rfl (Nat.le_of_ble_eq_true rfl) rfl ?_
      obtain ⟨hg, hk⟩ := ab_if_some hk
      obtain rfl := Option.some.inj hk
      exact ab_retz (pc := 37) dX4_readTerm_37 rfl hg
noncomputable def f_X4_readTerm (a0 : Int) (a1 : Int) (a2 : Int) (a3 : Int) (h : ab_H) : Option (Int × ab_H) :=
  (ab_on h 5 a0 (f_X4_isKey a0 (12 : Int) h)).bind fun q1 =>
  if q1.1 = (0 : Int) then
    f_X4_readTerm_J14 a0 a1 a2 a3 (1 : Int) q1.2
  else
  f_X4_readTerm_J14 a0 a1 a2 a3 (0 : Int) q1.2
set_option maxRecDepth 20000 in
theorem ct_X4_readTerm {a0 a1 a2 a3 : Int} {h : ab_H} {q : Int × ab_H} (hk : f_X4_readTerm a0 a1 a2 a3 h = some q) : ab_CT yX4_readTerm cX4_readTerm 7 (some .boolean) 2 42 [ab_R a0, ab_R a1, ab_I a2, ab_I a3] h (some (ab_I q.1)) q.2 := by
  refine ab_CT.mk_ 3 (own := RX4) (ini := false) (lv := [some (ab_R a0), some (ab_R a1), some (ab_I a2), some (ab_I a3), none, none, none]) rfl (by decide +kernel) (fun q => by cases q) rfl rfl ?_
  unfold f_X4_readTerm at hk
  show ab_E mm_X4_readTerm cX4_readTerm 0 _ [] h _ _
  refine ab_aload_n (pc := 0) (i := 0) dX4_readTerm_0 rfl rfl ?_
  refine ab_bipush (pc := 1) dX4_readTerm_1 ab_p8_12 ab_k_12 ?_
  obtain ⟨q1, hq1, hk⟩ := ab_bnd hk
  obtain ⟨hb, hq1⟩ := ab_on_some hq1
  refine ab_callVI (st := []) (as := [ab_I (12 : Int)]) (b := a0) (pc := 3) dX4_readTerm_3 ml_RX4_138 my_X4_isKey mv_X4_isKey hb (ct_X4_isKey hq1) ⟨Nat.le_of_ble_eq_true rfl, Nat.le_of_ble_eq_true rfl⟩ rfl (Nat.le_of_ble_eq_true rfl) rfl ?_
  refine ab_if_ne (pc := 6) (tgt := 13) dX4_readTerm_6 rfl (fun hc => ?_) (fun hc => ?_)
  · have hk := ab_ifn hk hc
    refine ab_iconst (pc := 13) dX4_readTerm_13 ab_k_0 ?_
    refine ab_sub_ (lv2 := [some (ab_R a0), some (ab_R a1), some (ab_I a2), some (ab_I a3), none, none, none]) (ab_ss (ab_ss (ab_ss (ab_ss (ab_sn (ab_sn (ab_sn ab_s0))))))) ?_
    exact e_X4_readTerm_J14 _ _ _ _ _ _ _ hk
  · have hk := ab_ifp hk hc
    refine ab_iconst (pc := 9) dX4_readTerm_9 ab_k_1 ?_
    refine ab_goto (pc := 10) (tgt := 14) dX4_readTerm_10 rfl ?_
    refine ab_sub_ (lv2 := [some (ab_R a0), some (ab_R a1), some (ab_I a2), some (ab_I a3), none, none, none]) (ab_ss (ab_ss (ab_ss (ab_ss (ab_sn (ab_sn (ab_sn ab_s0))))))) ?_
    exact e_X4_readTerm_J14 _ _ _ _ _ _ _ hk
theorem dX4_readHeading_0 : decode cX4_readHeading 0 = .ok (.aload_n 1, 1) := by decide +kernel
theorem dX4_readHeading_1 : decode cX4_readHeading 1 = .ok (.getfield 147, 3) := by decide +kernel
theorem dX4_readHeading_4 : decode cX4_readHeading 4 = .ok (.istore_n 2, 1) := by decide +kernel
theorem dX4_readHeading_5 : decode cX4_readHeading 5 = .ok (.iload_n 2, 1) := by decide +kernel
theorem dX4_readHeading_6 : decode cX4_readHeading 6 = .ok (.bipush 12, 2) := by decide +kernel
theorem dX4_readHeading_8 : decode cX4_readHeading 8 = .ok (.if_icmp .lt 9, 3) := by decide +kernel
theorem dX4_readHeading_11 : decode cX4_readHeading 11 = .ok (.aload_n 0, 1) := by decide +kernel
theorem dX4_readHeading_12 : decode cX4_readHeading 12 = .ok (.iconst 4, 1) := by decide +kernel
theorem dX4_readHeading_13 : decode cX4_readHeading 13 = .ok (.invokevirtual 81, 3) := by decide +kernel
theorem dX4_readHeading_16 : decode cX4_readHeading 16 = .ok (.ireturn, 1) := by decide +kernel
theorem dX4_readHeading_17 : decode cX4_readHeading 17 = .ok (.aload_n 0, 1) := by decide +kernel
theorem dX4_readHeading_18 : decode cX4_readHeading 18 = .ok (.getfield 15, 3) := by decide +kernel
theorem dX4_readHeading_21 : decode cX4_readHeading 21 = .ok (.aload_n 0, 1) := by decide +kernel
theorem dX4_readHeading_22 : decode cX4_readHeading 22 = .ok (.getfield 68, 3) := by decide +kernel
theorem dX4_readHeading_25 : decode cX4_readHeading 25 = .ok (.iaload, 1) := by decide +kernel
theorem dX4_readHeading_26 : decode cX4_readHeading 26 = .ok (.iconst 4, 1) := by decide +kernel
theorem dX4_readHeading_27 : decode cX4_readHeading 27 = .ok (.if_icmp .eq 9, 3) := by decide +kernel
theorem dX4_readHeading_30 : decode cX4_readHeading 30 = .ok (.aload_n 0, 1) := by decide +kernel
theorem dX4_readHeading_31 : decode cX4_readHeading 31 = .ok (.iconst 1, 1) := by decide +kernel
theorem dX4_readHeading_32 : decode cX4_readHeading 32 = .ok (.invokevirtual 81, 3) := by decide +kernel
theorem dX4_readHeading_35 : decode cX4_readHeading 35 = .ok (.ireturn, 1) := by decide +kernel
theorem dX4_readHeading_36 : decode cX4_readHeading 36 = .ok (.aload_n 0, 1) := by decide +kernel
theorem dX4_readHeading_37 : decode cX4_readHeading 37 = .ok (.getfield 22, 3) := by decide +kernel
theorem dX4_readHeading_40 : decode cX4_readHeading 40 = .ok (.aload_n 0, 1) := by decide +kernel
theorem dX4_readHeading_41 : decode cX4_readHeading 41 = .ok (.getfield 68, 3) := by decide +kernel
theorem dX4_readHeading_44 : decode cX4_readHeading 44 = .ok (.laload, 1) := by decide +kernel
theorem dX4_readHeading_45 : decode cX4_readHeading 45 = .ok (.l2i, 1) := by decide +kernel
theorem dX4_readHeading_46 : decode cX4_readHeading 46 = .ok (.istore_n 3, 1) := by decide +kernel
theorem dX4_readHeading_47 : decode cX4_readHeading 47 = .ok (.iload_n 3, 1) := by decide +kernel
theorem dX4_readHeading_48 : decode cX4_readHeading 48 = .ok (.invokestatic 173, 3) := by decide +kernel
theorem dX4_readHeading_51 : decode cX4_readHeading 51 = .ok (.ifCond .ne 9, 3) := by decide +kernel
theorem dX4_readHeading_54 : decode cX4_readHeading 54 = .ok (.aload_n 0, 1) := by decide +kernel
theorem dX4_readHeading_55 : decode cX4_readHeading 55 = .ok (.iconst 2, 1) := by decide +kernel
theorem dX4_readHeading_56 : decode cX4_readHeading 56 = .ok (.invokevirtual 81, 3) := by decide +kernel
theorem dX4_readHeading_59 : decode cX4_readHeading 59 = .ok (.ireturn, 1) := by decide +kernel
theorem dX4_readHeading_60 : decode cX4_readHeading 60 = .ok (.aload_n 1, 1) := by decide +kernel
theorem dX4_readHeading_61 : decode cX4_readHeading 61 = .ok (.iload_n 3, 1) := by decide +kernel
theorem dX4_readHeading_62 : decode cX4_readHeading 62 = .ok (.invokevirtual 176, 3) := by decide +kernel
theorem dX4_readHeading_65 : decode cX4_readHeading 65 = .ok (.iconst (-1), 1) := by decide +kernel
theorem dX4_readHeading_66 : decode cX4_readHeading 66 = .ok (.if_icmp .eq 9, 3) := by decide +kernel
theorem dX4_readHeading_69 : decode cX4_readHeading 69 = .ok (.aload_n 0, 1) := by decide +kernel
theorem dX4_readHeading_70 : decode cX4_readHeading 70 = .ok (.iconst 3, 1) := by decide +kernel
theorem dX4_readHeading_71 : decode cX4_readHeading 71 = .ok (.invokevirtual 81, 3) := by decide +kernel
theorem dX4_readHeading_74 : decode cX4_readHeading 74 = .ok (.ireturn, 1) := by decide +kernel
theorem dX4_readHeading_75 : decode cX4_readHeading 75 = .ok (.aload_n 0, 1) := by decide +kernel
theorem dX4_readHeading_76 : decode cX4_readHeading 76 = .ok (.invokevirtual 135, 3) := by decide +kernel
theorem dX4_readHeading_79 : decode cX4_readHeading 79 = .ok (.aload_n 0, 1) := by decide +kernel
theorem dX4_readHeading_80 : decode cX4_readHeading 80 = .ok (.bipush 58, 2) := by decide +kernel
theorem dX4_readHeading_82 : decode cX4_readHeading 82 = .ok (.invokevirtual 78, 3) := by decide +kernel
theorem dX4_readHeading_85 : decode cX4_readHeading 85 = .ok (.ifCond .ne 5, 3) := by decide +kernel
theorem dX4_readHeading_88 : decode cX4_readHeading 88 = .ok (.iconst 0, 1) := by decide +kernel
theorem dX4_readHeading_89 : decode cX4_readHeading 89 = .ok (.ireturn, 1) := by decide +kernel
theorem dX4_readHeading_90 : decode cX4_readHeading 90 = .ok (.iconst 0, 1) := by decide +kernel
theorem dX4_readHeading_91 : decode cX4_readHeading 91 = .ok (.istore 4, 2) := by decide +kernel
theorem dX4_readHeading_93 : decode cX4_readHeading 93 = .ok (.iload 4, 2) := by decide +kernel
theorem dX4_readHeading_95 : decode cX4_readHeading 95 = .ok (.bipush 6, 2) := by decide +kernel
theorem dX4_readHeading_97 : decode cX4_readHeading 97 = .ok (.if_icmp .gt 64, 3) := by decide +kernel
theorem dX4_readHeading_100 : decode cX4_readHeading 100 = .ok (.aload_n 0, 1) := by decide +kernel
theorem dX4_readHeading_101 : decode cX4_readHeading 101 = .ok (.aload_n 1, 1) := by decide +kernel
theorem dX4_readHeading_102 : decode cX4_readHeading 102 = .ok (.iload_n 2, 1) := by decide +kernel
theorem dX4_readHeading_103 : decode cX4_readHeading 103 = .ok (.iload 4, 2) := by decide +kernel
theorem dX4_readHeading_105 : decode cX4_readHeading 105 = .ok (.invokevirtual 179, 3) := by decide +kernel
theorem dX4_readHeading_108 : decode cX4_readHeading 108 = .ok (.ifCond .ne 5, 3) := by decide +kernel
theorem dX4_readHeading_111 : decode cX4_readHeading 111 = .ok (.iconst 0, 1) := by decide +kernel
theorem dX4_readHeading_112 : decode cX4_readHeading 112 = .ok (.ireturn, 1) := by decide +kernel
theorem dX4_readHeading_113 : decode cX4_readHeading 113 = .ok (.aload_n 0, 1) := by decide +kernel
theorem dX4_readHeading_114 : decode cX4_readHeading 114 = .ok (.bipush 44, 2) := by decide +kernel
theorem dX4_readHeading_116 : decode cX4_readHeading 116 = .ok (.invokevirtual 132, 3) := by decide +kernel
theorem dX4_readHeading_119 : decode cX4_readHeading 119 = .ok (.ifCond .ne 32, 3) := by decide +kernel
theorem dX4_readHeading_122 : decode cX4_readHeading 122 = .ok (.aload_n 1, 1) := by decide +kernel
theorem dX4_readHeading_123 : decode cX4_readHeading 123 = .ok (.getfield 183, 3) := by decide +kernel
theorem dX4_readHeading_126 : decode cX4_readHeading 126 = .ok (.iload_n 2, 1) := by decide +kernel
theorem dX4_readHeading_127 : decode cX4_readHeading 127 = .ok (.iload_n 3, 1) := by decide +kernel
theorem dX4_readHeading_128 : decode cX4_readHeading 128 = .ok (.iastore, 1) := by decide +kernel
theorem dX4_readHeading_129 : decode cX4_readHeading 129 = .ok (.aload_n 1, 1) := by decide +kernel
theorem dX4_readHeading_130 : decode cX4_readHeading 130 = .ok (.getfield 186, 3) := by decide +kernel
theorem dX4_readHeading_133 : decode cX4_readHeading 133 = .ok (.iload_n 2, 1) := by decide +kernel
theorem dX4_readHeading_134 : decode cX4_readHeading 134 = .ok (.iload 4, 2) := by decide +kernel
theorem dX4_readHeading_136 : decode cX4_readHeading 136 = .ok (.iconst 1, 1) := by decide +kernel
theorem dX4_readHeading_137 : decode cX4_readHeading 137 = .ok (.iadd, 1) := by decide +kernel
theorem dX4_readHeading_138 : decode cX4_readHeading 138 = .ok (.iastore, 1) := by decide +kernel
theorem dX4_readHeading_139 : decode cX4_readHeading 139 = .ok (.aload_n 1, 1) := by decide +kernel
theorem dX4_readHeading_140 : decode cX4_readHeading 140 = .ok (.dup, 1) := by decide +kernel
theorem dX4_readHeading_141 : decode cX4_readHeading 141 = .ok (.getfield 147, 3) := by decide +kernel
theorem dX4_readHeading_144 : decode cX4_readHeading 144 = .ok (.iconst 1, 1) := by decide +kernel
theorem dX4_readHeading_145 : decode cX4_readHeading 145 = .ok (.iadd, 1) := by decide +kernel
theorem dX4_readHeading_146 : decode cX4_readHeading 146 = .ok (.putfield 147, 3) := by decide +kernel
theorem dX4_readHeading_149 : decode cX4_readHeading 149 = .ok (.iconst 1, 1) := by decide +kernel
theorem dX4_readHeading_150 : decode cX4_readHeading 150 = .ok (.ireturn, 1) := by decide +kernel
theorem dX4_readHeading_151 : decode cX4_readHeading 151 = .ok (.aload_n 0, 1) := by decide +kernel
theorem dX4_readHeading_152 : decode cX4_readHeading 152 = .ok (.invokevirtual 135, 3) := by decide +kernel
theorem dX4_readHeading_155 : decode cX4_readHeading 155 = .ok (.iinc 4 1, 3) := by decide +kernel
theorem dX4_readHeading_158 : decode cX4_readHeading 158 = .ok (.goto (-65), 3) := by decide +kernel
theorem dX4_readHeading_161 : decode cX4_readHeading 161 = .ok (.iconst 0, 1) := by decide +kernel
theorem dX4_readHeading_162 : decode cX4_readHeading 162 = .ok (.ireturn, 1) := by decide +kernel
abbrev mm_X4_readHeading : ab_M := (RX4, 5, (some .boolean), false, 3, 68, none)
noncomputable def f_X4_readHeading_L93 (k122 : Int → Int → Int → Int → ab_H → Option (Int × ab_H)) : Nat → Int → Int → Int → Int → Int → ab_H → Option (Int × ab_H)
  | 0, _, _, _, _, _, _ => none
  | n + 1, v0, v1, v2, v3, v4, h =>
    if (6 : Int) < v4 then
      some ((0 : Int), h)
    else
    (ab_on h 5 v0 (f_X4_readTerm v0 v1 v2 v4 h)).bind fun q1 =>
    if q1.1 = (0 : Int) then
      some ((0 : Int), q1.2)
    else
    (ab_on q1.2 5 v0 (f_X4_isSign v0 (44 : Int) q1.2)).bind fun q2 =>
    if q2.1 = (0 : Int) then
      k122 v1 v2 v3 v4 q2.2
    else
    (ab_on q2.2 5 v0 (f_X4_step v0 q2.2)).bind fun q3 =>
    f_X4_readHeading_L93 k122 n v0 v1 v2 v3 (ab_w32 (v4 + (1 : Int))) q3
set_option maxRecDepth 20000 in
theorem e_X4_readHeading_L93 {k122 : Int → Int → Int → Int → ab_H → Option (Int × ab_H)} (hk122 : ∀ (v1 : Int) (v2 : Int) (v3 : Int) (v4 : Int) (h : ab_H) (q : Int × ab_H), k122 v1 v2 v3 v4 h = some q → ab_E mm_X4_readHeading cX4_readHeading 122 [none, some (ab_R v1), some (ab_I v2), some (ab_I v3), some (ab_I v4)] [] h (some (ab_I q.1)) q.2) : ∀ (n : Nat) (v0 : Int) (v1 : Int) (v2 : Int) (v3 : Int) (v4 : Int) (h : ab_H) (q : Int × ab_H), f_X4_readHeading_L93 k122 n v0 v1 v2 v3 v4 h = some q → ab_E mm_X4_readHeading cX4_readHeading 93 [some (ab_R v0), some (ab_R v1), some (ab_I v2), some (ab_I v3), some (ab_I v4)] [] h (some (ab_I q.1)) q.2 := by
  intro n
  induction n with
  | zero => intro v0 v1 v2 v3 v4 h q hk; cases hk
  | succ n ih =>
    intro v0 v1 v2 v3 v4 h q hk
    unfold f_X4_readHeading_L93 at hk
    refine ab_iload (pc := 93) (i := 4) dX4_readHeading_93 rfl ?_
    refine ab_bipush (pc := 95) dX4_readHeading_95 ab_p8_6 ab_k_6 ?_
    refine ab_icmp_gt (pc := 97) (tgt := 161) dX4_readHeading_97 rfl (fun hc => ?_) (fun hc => ?_)
    · have hk := ab_ifp hk hc
      refine ab_iconst (pc := 161) dX4_readHeading_161 ab_k_0 ?_
      obtain rfl := Option.some.inj hk
      exact ab_retz (pc := 162) dX4_readHeading_162 rfl rfl
    · have hk := ab_ifn hk hc
      refine ab_aload_n (pc := 100) (i := 0) dX4_readHeading_100 rfl rfl ?_
      refine ab_aload_n (pc := 101) (i := 1) dX4_readHeading_101 rfl rfl ?_
      refine ab_iload_n (pc := 102) (i := 2) dX4_readHeading_102 rfl rfl ?_
      refine ab_iload (pc := 103) (i := 4) dX4_readHeading_103 rfl ?_
      obtain ⟨q1, hq1, hk⟩ := ab_bnd hk
      obtain ⟨hb, hq1⟩ := ab_on_some hq1
      refine ab_callVI (st := []) (as := [ab_R v1, ab_I v2, ab_I v4]) (b := v0) (pc := 105) dX4_readHeading_105 ml_RX4_179 my_X4_readTerm mv_X4_readTerm hb (ct_X4_readTerm hq1) ⟨Nat.le_of_ble_eq_true rfl, Nat.le_of_ble_eq_true rfl⟩ rfl (Nat.le_of_ble_eq_true rfl) rfl ?_
      refine ab_if_ne (pc := 108) (tgt := 113) dX4_readHeading_108 rfl (fun hc => ?_) (fun hc => ?_)
      · have hk := ab_ifn hk hc
        refine ab_aload_n (pc := 113) (i := 0) dX4_readHeading_113 rfl rfl ?_
        refine ab_bipush (pc := 114) dX4_readHeading_114 ab_p8_44 ab_k_44 ?_
        obtain ⟨q2, hq2, hk⟩ := ab_bnd hk
        obtain ⟨hb, hq2⟩ := ab_on_some hq2
        refine ab_callVI (st := []) (as := [ab_I (44 : Int)]) (b := v0) (pc := 116) dX4_readHeading_116 ml_RX4_132 my_X4_isSign mv_X4_isSign hb (ct_X4_isSign hq2) ⟨Nat.le_of_ble_eq_true rfl, Nat.le_of_ble_eq_true rfl⟩ rfl (Nat.le_of_ble_eq_true rfl) rfl ?_
        refine ab_if_ne (pc := 119) (tgt := 151) dX4_readHeading_119 rfl (fun hc => ?_) (fun hc => ?_)
        · have hk := ab_ifn hk hc
          refine ab_aload_n (pc := 151) (i := 0) dX4_readHeading_151 rfl rfl ?_
          obtain ⟨q3, hq3, hk⟩ := ab_bnd hk
          obtain ⟨hb, hq3⟩ := ab_on_some hq3
          refine ab_callVV (st := []) (as := []) (b := v0) (pc := 152) dX4_readHeading_152 ml_RX4_135 my_X4_step mv_X4_step hb (ct_X4_step hq3) ⟨Nat.le_of_ble_eq_true rfl, Nat.le_of_ble_eq_true rfl⟩ rfl (Nat.le_of_ble_eq_true rfl) rfl ?_
          refine ab_iinc (pc := 155) (i := 4) (lv2 := [some (ab_R v0), some (ab_R v1), some (ab_I v2), some (ab_I v3), some (ab_I (ab_w32 (v4 + (1 : Int))))]) dX4_readHeading_155 rfl (Nat.le_of_ble_eq_true rfl) rfl rfl ?_
          refine ab_goto (pc := 158) (tgt := 93) dX4_readHeading_158 rfl ?_
          refine ab_sub_ (lv2 := [some (ab_R v0), some (ab_R v1), some (ab_I v2), some (ab_I v3), some (ab_I (ab_w32 (v4 + (1 : Int))))]) (ab_ss (ab_ss (ab_ss (ab_ss (ab_ss ab_s0))))) ?_
          exact ih _ _ _ _ _ _ _ hk
        · have hk := ab_ifp hk hc
          refine ab_sub_ (lv2 := [none, some (ab_R v1), some (ab_I v2), some (ab_I v3), some (ab_I v4)]) (ab_sn (ab_ss (ab_ss (ab_ss (ab_ss ab_s0))))) ?_
          exact hk122 _ _ _ _ _ _ hk
      · have hk := ab_ifp hk hc
        refine ab_iconst (pc := 111) dX4_readHeading_111 ab_k_0 ?_
        obtain rfl := Option.some.inj hk
        exact ab_retz (pc := 112) dX4_readHeading_112 rfl rfl
noncomputable def f_X4_readHeading (a0 : Int) (a1 : Int) (h : ab_H) : Option (Int × ab_H) :=
  (ab_get h 1 0 a1).bind fun t1 =>
  if t1 < (12 : Int) then
    (ab_get h 5 1 a0).bind fun t2 =>
    (ab_get h 5 5 a0).bind fun t3 =>
    (ab_ald h 11 t2 t3).bind fun t4 =>
    if t4 = (4 : Int) then
      (ab_get h 5 3 a0).bind fun t5 =>
      (ab_get h 5 5 a0).bind fun t6 =>
      (ab_ald h 12 t5 t6).bind fun t7 =>
      (f_X8_isAddress (ab_w32 t7) h).bind fun q8 =>
      if q8.1 = (0 : Int) then
        (ab_on q8.2 5 a0 (f_X4_fail a0 (2 : Int) q8.2)).bind fun q16 =>
        ab_if (decide (q16.1 = 0 ∨ q16.1 = 1)) <|
        some (q16.1, q16.2)
      else
      (ab_on q8.2 1 a1 (f_X0_stringAt a1 (ab_w32 t7) q8.2)).bind fun q9 =>
      if q9.1 = (-1 : Int) then
        (ab_on q9.2 5 a0 (f_X4_step a0 q9.2)).bind fun q10 =>
        (ab_on q10 5 a0 (f_X4_takeSign a0 (58 : Int) q10)).bind fun q11 =>
        if q11.1 = (0 : Int) then
          some ((0 : Int), q11.2)
        else
        f_X4_readHeading_L93 (fun w122_1 w122_2 w122_3 w122_4 hx122 =>
          (ab_get hx122 1 1 w122_1).bind fun t12 =>
          (ab_ast hx122 11 t12 w122_2 w122_3).bind fun h1 =>
          (ab_get h1 1 2 w122_1).bind fun t13 =>
          (ab_ast h1 11 t13 w122_2 (ab_w32 (w122_4 + (1 : Int)))).bind fun h2 =>
          (ab_get h2 1 0 w122_1).bind fun t14 =>
          (ab_put h2 1 0 w122_1 (ab_w32 (t14 + (1 : Int)))).bind fun h3 =>
          some ((1 : Int), h3)) ab_FU a0 a1 t1 (ab_w32 t7) (0 : Int) q11.2
      else
      (ab_on q9.2 5 a0 (f_X4_fail a0 (3 : Int) q9.2)).bind fun q15 =>
      ab_if (decide (q15.1 = 0 ∨ q15.1 = 1)) <|
      some (q15.1, q15.2)
    else
    (ab_on h 5 a0 (f_X4_fail a0 (1 : Int) h)).bind fun q17 =>
    ab_if (decide (q17.1 = 0 ∨ q17.1 = 1)) <|
    some (q17.1, q17.2)
  else
  (ab_on h 5 a0 (f_X4_fail a0 (4 : Int) h)).bind fun q18 =>
  ab_if (decide (q18.1 = 0 ∨ q18.1 = 1)) <|
  some (q18.1, q18.2)
set_option maxRecDepth 20000 in
theorem ct_X4_readHeading {a0 a1 : Int} {h : ab_H} {q : Int × ab_H} (hk : f_X4_readHeading a0 a1 h = some q) : ab_CT yX4_readHeading cX4_readHeading 5 (some .boolean) 3 68 [ab_R a0, ab_R a1] h (some (ab_I q.1)) q.2 := by
  refine ab_CT.mk_ 3 (own := RX4) (ini := false) (lv := [some (ab_R a0), some (ab_R a1), none, none, none]) rfl (by decide +kernel) (fun q => by cases q) rfl rfl ?_
  unfold f_X4_readHeading at hk
  show ab_E mm_X4_readHeading cX4_readHeading 0 _ [] h _ _
  refine ab_aload_n (pc := 0) (i := 1) dX4_readHeading_0 rfl rfl ?_
  obtain ⟨t1, ht1, hk⟩ := ab_bnd hk
  refine ab_getI (pc := 1) dX4_readHeading_1 fl_RX4_147 ht1 ?_
  refine ab_istore_n (pc := 4) (i := 2) (lv2 := [some (ab_R a0), some (ab_R a1), some (ab_I t1), none, none]) dX4_readHeading_4 rfl (Nat.le_of_ble_eq_true rfl) rfl rfl ?_
  refine ab_iload_n (pc := 5) (i := 2) dX4_readHeading_5 rfl rfl ?_
  refine ab_bipush (pc := 6) dX4_readHeading_6 ab_p8_12 ab_k_12 ?_
  refine ab_icmp_lt (pc := 8) (tgt := 17) dX4_readHeading_8 rfl (fun hc => ?_) (fun hc => ?_)
  · have hk := ab_ifp hk hc
    refine ab_aload_n (pc := 17) (i := 0) dX4_readHeading_17 rfl rfl ?_
    obtain ⟨t2, ht2, hk⟩ := ab_bnd hk
    refine ab_getR (pc := 18) dX4_readHeading_18 fl_RX4_15 ht2 ?_
    refine ab_aload_n (pc := 21) (i := 0) dX4_readHeading_21 rfl rfl ?_
    obtain ⟨t3, ht3, hk⟩ := ab_bnd hk
    refine ab_getI (pc := 22) dX4_readHeading_22 fl_RX4_68 ht3 ?_
    obtain ⟨t4, ht4, hk⟩ := ab_bnd hk
    refine ab_iald (pc := 25) dX4_readHeading_25 ht4 ?_
    refine ab_iconst (pc := 26) dX4_readHeading_26 ab_k_4 ?_
    refine ab_icmp_eq (pc := 27) (tgt := 36) dX4_readHeading_27 rfl (fun hc => ?_) (fun hc => ?_)
    · have hk := ab_ifp hk hc
      refine ab_aload_n (pc := 36) (i := 0) dX4_readHeading_36 rfl rfl ?_
      obtain ⟨t5, ht5, hk⟩ := ab_bnd hk
      refine ab_getR (pc := 37) dX4_readHeading_37 fl_RX4_22 ht5 ?_
      refine ab_aload_n (pc := 40) (i := 0) dX4_readHeading_40 rfl rfl ?_
      obtain ⟨t6, ht6, hk⟩ := ab_bnd hk
      refine ab_getI (pc := 41) dX4_readHeading_41 fl_RX4_68 ht6 ?_
      obtain ⟨t7, ht7, hk⟩ := ab_bnd hk
      refine ab_lald (pc := 44) dX4_readHeading_44 ht7 ?_
      refine ab_l2i_ (pc := 45) dX4_readHeading_45 ?_
      refine ab_istore_n (pc := 46) (i := 3) (lv2 := [some (ab_R a0), some (ab_R a1), some (ab_I t1), some (ab_I (ab_w32 t7)), none]) dX4_readHeading_46 rfl (Nat.le_of_ble_eq_true rfl) rfl rfl ?_
      refine ab_iload_n (pc := 47) (i := 3) dX4_readHeading_47 rfl rfl ?_
      obtain ⟨q8, hq8, hk⟩ := ab_bnd hk
      refine ab_callSI (st := []) (as := [ab_I (ab_w32 t7)]) (pc := 48) dX4_readHeading_48 ml_RX4_173 my_X8_isAddress ms_X8_isAddress (ct_X8_isAddress hq8) ⟨Nat.le_of_ble_eq_true rfl, Nat.le_of_ble_eq_true rfl⟩ rfl (Nat.le_of_ble_eq_true rfl) rfl ?_
      refine ab_if_ne (pc := 51) (tgt := 60) dX4_readHeading_51 rfl (fun hc => ?_) (fun hc => ?_)
      · have hk := ab_ifn hk hc
        refine ab_aload_n (pc := 60) (i := 1) dX4_readHeading_60 rfl rfl ?_
        refine ab_iload_n (pc := 61) (i := 3) dX4_readHeading_61 rfl rfl ?_
        obtain ⟨q9, hq9, hk⟩ := ab_bnd hk
        obtain ⟨hb, hq9⟩ := ab_on_some hq9
        refine ab_callVI (st := []) (as := [ab_I (ab_w32 t7)]) (b := a1) (pc := 62) dX4_readHeading_62 ml_RX4_176 my_X0_stringAt mv_X0_stringAt hb (ct_X0_stringAt hq9) ⟨Nat.le_of_ble_eq_true rfl, Nat.le_of_ble_eq_true rfl⟩ rfl (Nat.le_of_ble_eq_true rfl) rfl ?_
        refine ab_iconst (pc := 65) dX4_readHeading_65 ab_k_m1 ?_
        refine ab_icmp_eq (pc := 66) (tgt := 75) dX4_readHeading_66 rfl (fun hc => ?_) (fun hc => ?_)
        · have hk := ab_ifp hk hc
          refine ab_aload_n (pc := 75) (i := 0) dX4_readHeading_75 rfl rfl ?_
          obtain ⟨q10, hq10, hk⟩ := ab_bnd hk
          obtain ⟨hb, hq10⟩ := ab_on_some hq10
          refine ab_callVV (st := []) (as := []) (b := a0) (pc := 76) dX4_readHeading_76 ml_RX4_135 my_X4_step mv_X4_step hb (ct_X4_step hq10) ⟨Nat.le_of_ble_eq_true rfl, Nat.le_of_ble_eq_true rfl⟩ rfl (Nat.le_of_ble_eq_true rfl) rfl ?_
          refine ab_aload_n (pc := 79) (i := 0) dX4_readHeading_79 rfl rfl ?_
          refine ab_bipush (pc := 80) dX4_readHeading_80 ab_p8_58 ab_k_58 ?_
          obtain ⟨q11, hq11, hk⟩ := ab_bnd hk
          obtain ⟨hb, hq11⟩ := ab_on_some hq11
          refine ab_callVI (st := []) (as := [ab_I (58 : Int)]) (b := a0) (pc := 82) dX4_readHeading_82 ml_RX4_78 my_X4_takeSign mv_X4_takeSign hb (ct_X4_takeSign hq11) ⟨Nat.le_of_ble_eq_true rfl, Nat.le_of_ble_eq_true rfl⟩ rfl (Nat.le_of_ble_eq_true rfl) rfl ?_
          refine ab_if_ne (pc := 85) (tgt := 90) dX4_readHeading_85 rfl (fun hc => ?_) (fun hc => ?_)
          · have hk := ab_ifn hk hc
            refine ab_iconst (pc := 90) dX4_readHeading_90 ab_k_0 ?_
            refine ab_istore (pc := 91) (i := 4) (lv2 := [some (ab_R a0), some (ab_R a1), some (ab_I t1), some (ab_I (ab_w32 t7)), some (ab_I (0 : Int))]) dX4_readHeading_91 (Nat.le_of_ble_eq_true rfl) rfl rfl ?_
            refine ab_sub_ (lv2 := [some (ab_R a0), some (ab_R a1), some (ab_I t1), some (ab_I (ab_w32 t7)), some (ab_I (0 : Int))]) (ab_ss (ab_ss (ab_ss (ab_ss (ab_ss ab_s0))))) ?_
            refine e_X4_readHeading_L93 (fun w122_1 w122_2 w122_3 w122_4 hx122 q hk => ?_) _ _ _ _ _ _ _ _ hk
            · skip
              refine ab_aload_n (pc := 122) (i := 1) dX4_readHeading_122 rfl rfl ?_
              obtain ⟨t12, ht12, hk⟩ := ab_bnd hk
              refine ab_getR (pc := 123) dX4_readHeading_123 fl_RX4_183 ht12 ?_
              refine ab_iload_n (pc := 126) (i := 2) dX4_readHeading_126 rfl rfl ?_
              refine ab_iload_n (pc := 127) (i := 3) dX4_readHeading_127 rfl rfl ?_
              obtain ⟨h1, hh1, hk⟩ := ab_bnd hk
              refine ab_iast (pc := 128) dX4_readHeading_128 hh1 ?_
              refine ab_aload_n (pc := 129) (i := 1) dX4_readHeading_129 rfl rfl ?_
              obtain ⟨t13, ht13, hk⟩ := ab_bnd hk
              refine ab_getR (pc := 130) dX4_readHeading_130 fl_RX4_186 ht13 ?_
              refine ab_iload_n (pc := 133) (i := 2) dX4_readHeading_133 rfl rfl ?_
              refine ab_iload (pc := 134) (i := 4) dX4_readHeading_134 rfl ?_
              refine ab_iconst (pc := 136) dX4_readHeading_136 ab_k_1 ?_
              refine ab_iadd (pc := 137) dX4_readHeading_137 ?_
              obtain ⟨h2, hh2, hk⟩ := ab_bnd hk
              refine ab_iast (pc := 138) dX4_readHeading_138 hh2 ?_
              refine ab_aload_n (pc := 139) (i := 1) dX4_readHeading_139 rfl rfl ?_
              refine ab_dup (pc := 140) dX4_readHeading_140 rfl ?_
              obtain ⟨t14, ht14, hk⟩ := ab_bnd hk
              refine ab_getI (pc := 141) dX4_readHeading_141 fl_RX4_147 ht14 ?_
              refine ab_iconst (pc := 144) dX4_readHeading_144 ab_k_1 ?_
              refine ab_iadd (pc := 145) dX4_readHeading_145 ?_
              obtain ⟨h3, hh3, hk⟩ := ab_bnd hk
              refine ab_putI_ (pc := 146) dX4_readHeading_146 fl_RX4_147 (fun q => by cases q) hh3 ?_
              refine ab_iconst (pc := 149) dX4_readHeading_149 ab_k_1 ?_
              obtain rfl := Option.some.inj hk
              exact ab_retz (pc := 150) dX4_readHeading_150 rfl rfl
          · have hk := ab_ifp hk hc
            refine ab_iconst (pc := 88) dX4_readHeading_88 ab_k_0 ?_
            obtain rfl := Option.some.inj hk
            exact ab_retz (pc := 89) dX4_readHeading_89 rfl rfl
        · have hk := ab_ifn hk hc
          refine ab_aload_n (pc := 69) (i := 0) dX4_readHeading_69 rfl rfl ?_
          refine ab_iconst (pc := 70) dX4_readHeading_70 ab_k_3 ?_
          obtain ⟨q15, hq15, hk⟩ := ab_bnd hk
          obtain ⟨hb, hq15⟩ := ab_on_some hq15
          refine ab_callVI (st := []) (as := [ab_I (3 : Int)]) (b := a0) (pc := 71) dX4_readHeading_71 ml_RX4_81 my_X4_fail mv_X4_fail hb (ct_X4_fail hq15) ⟨Nat.le_of_ble_eq_true rfl, Nat.le_of_ble_eq_true rfl⟩ rfl (Nat.le_of_ble_eq_true rfl) rfl ?_
          obtain ⟨hg, hk⟩ := ab_if_some hk
          obtain rfl := Option.some.inj hk
          exact ab_retz (pc := 74) dX4_readHeading_74 rfl hg
      · have hk := ab_ifp hk hc
        refine ab_aload_n (pc := 54) (i := 0) dX4_readHeading_54 rfl rfl ?_
        refine ab_iconst (pc := 55) dX4_readHeading_55 ab_k_2 ?_
        obtain ⟨q16, hq16, hk⟩ := ab_bnd hk
        obtain ⟨hb, hq16⟩ := ab_on_some hq16
        refine ab_callVI (st := []) (as := [ab_I (2 : Int)]) (b := a0) (pc := 56) dX4_readHeading_56 ml_RX4_81 my_X4_fail mv_X4_fail hb (ct_X4_fail hq16) ⟨Nat.le_of_ble_eq_true rfl, Nat.le_of_ble_eq_true rfl⟩ rfl (Nat.le_of_ble_eq_true rfl) rfl ?_
        obtain ⟨hg, hk⟩ := ab_if_some hk
        obtain rfl := Option.some.inj hk
        exact ab_retz (pc := 59) dX4_readHeading_59 rfl hg
    · have hk := ab_ifn hk hc
      refine ab_aload_n (pc := 30) (i := 0) dX4_readHeading_30 rfl rfl ?_
      refine ab_iconst (pc := 31) dX4_readHeading_31 ab_k_1 ?_
      obtain ⟨q17, hq17, hk⟩ := ab_bnd hk
      obtain ⟨hb, hq17⟩ := ab_on_some hq17
      refine ab_callVI (st := []) (as := [ab_I (1 : Int)]) (b := a0) (pc := 32) dX4_readHeading_32 ml_RX4_81 my_X4_fail mv_X4_fail hb (ct_X4_fail hq17) ⟨Nat.le_of_ble_eq_true rfl, Nat.le_of_ble_eq_true rfl⟩ rfl (Nat.le_of_ble_eq_true rfl) rfl ?_
      obtain ⟨hg, hk⟩ := ab_if_some hk
      obtain rfl := Option.some.inj hk
      exact ab_retz (pc := 35) dX4_readHeading_35 rfl hg
  · have hk := ab_ifn hk hc
    refine ab_aload_n (pc := 11) (i := 0) dX4_readHeading_11 rfl rfl ?_
    refine ab_iconst (pc := 12) dX4_readHeading_12 ab_k_4 ?_
    obtain ⟨q18, hq18, hk⟩ := ab_bnd hk
    obtain ⟨hb, hq18⟩ := ab_on_some hq18
    refine ab_callVI (st := []) (as := [ab_I (4 : Int)]) (b := a0) (pc := 13) dX4_readHeading_13 ml_RX4_81 my_X4_fail mv_X4_fail hb (ct_X4_fail hq18) ⟨Nat.le_of_ble_eq_true rfl, Nat.le_of_ble_eq_true rfl⟩ rfl (Nat.le_of_ble_eq_true rfl) rfl ?_
    obtain ⟨hg, hk⟩ := ab_if_some hk
    obtain rfl := Option.some.inj hk
    exact ab_retz (pc := 16) dX4_readHeading_16 rfl hg
theorem dX4_readLine_0 : decode cX4_readLine 0 = .ok (.aload_n 0, 1) := by decide +kernel
theorem dX4_readLine_1 : decode cX4_readLine 1 = .ok (.iconst 0, 1) := by decide +kernel
theorem dX4_readLine_2 : decode cX4_readLine 2 = .ok (.invokevirtual 138, 3) := by decide +kernel
theorem dX4_readLine_5 : decode cX4_readLine 5 = .ok (.ifCond .eq 12, 3) := by decide +kernel
theorem dX4_readLine_8 : decode cX4_readLine 8 = .ok (.aload_n 0, 1) := by decide +kernel
theorem dX4_readLine_9 : decode cX4_readLine 9 = .ok (.aload_n 1, 1) := by decide +kernel
theorem dX4_readLine_10 : decode cX4_readLine 10 = .ok (.invokevirtual 141, 3) := by decide +kernel
theorem dX4_readLine_13 : decode cX4_readLine 13 = .ok (.istore_n 2, 1) := by decide +kernel
theorem dX4_readLine_14 : decode cX4_readLine 14 = .ok (.goto 65, 3) := by decide +kernel
theorem dX4_readLine_17 : decode cX4_readLine 17 = .ok (.aload_n 0, 1) := by decide +kernel
theorem dX4_readLine_18 : decode cX4_readLine 18 = .ok (.iconst 1, 1) := by decide +kernel
theorem dX4_readLine_19 : decode cX4_readLine 19 = .ok (.invokevirtual 138, 3) := by decide +kernel
theorem dX4_readLine_22 : decode cX4_readLine 22 = .ok (.ifCond .eq 12, 3) := by decide +kernel
theorem dX4_readLine_25 : decode cX4_readLine 25 = .ok (.aload_n 0, 1) := by decide +kernel
theorem dX4_readLine_26 : decode cX4_readLine 26 = .ok (.aload_n 1, 1) := by decide +kernel
theorem dX4_readLine_27 : decode cX4_readLine 27 = .ok (.invokevirtual 144, 3) := by decide +kernel
theorem dX4_readLine_30 : decode cX4_readLine 30 = .ok (.istore_n 2, 1) := by decide +kernel
theorem dX4_readLine_31 : decode cX4_readLine 31 = .ok (.goto 48, 3) := by decide +kernel
theorem dX4_readLine_34 : decode cX4_readLine 34 = .ok (.aload_n 0, 1) := by decide +kernel
theorem dX4_readLine_35 : decode cX4_readLine 35 = .ok (.iconst 2, 1) := by decide +kernel
theorem dX4_readLine_36 : decode cX4_readLine 36 = .ok (.invokevirtual 138, 3) := by decide +kernel
theorem dX4_readLine_39 : decode cX4_readLine 39 = .ok (.ifCond .ne 12, 3) := by decide +kernel
theorem dX4_readLine_42 : decode cX4_readLine 42 = .ok (.aload_n 0, 1) := by decide +kernel
theorem dX4_readLine_43 : decode cX4_readLine 43 = .ok (.iconst 1, 1) := by decide +kernel
theorem dX4_readLine_44 : decode cX4_readLine 44 = .ok (.invokevirtual 81, 3) := by decide +kernel
theorem dX4_readLine_47 : decode cX4_readLine 47 = .ok (.istore_n 2, 1) := by decide +kernel
theorem dX4_readLine_48 : decode cX4_readLine 48 = .ok (.goto 31, 3) := by decide +kernel
theorem dX4_readLine_51 : decode cX4_readLine 51 = .ok (.aload_n 1, 1) := by decide +kernel
theorem dX4_readLine_52 : decode cX4_readLine 52 = .ok (.getfield 147, 3) := by decide +kernel
theorem dX4_readLine_55 : decode cX4_readLine 55 = .ok (.bipush 12, 2) := by decide +kernel
theorem dX4_readLine_57 : decode cX4_readLine 57 = .ok (.if_icmp .lt 12, 3) := by decide +kernel
theorem dX4_readLine_60 : decode cX4_readLine 60 = .ok (.aload_n 0, 1) := by decide +kernel
theorem dX4_readLine_61 : decode cX4_readLine 61 = .ok (.iconst 4, 1) := by decide +kernel
theorem dX4_readLine_62 : decode cX4_readLine 62 = .ok (.invokevirtual 81, 3) := by decide +kernel
theorem dX4_readLine_65 : decode cX4_readLine 65 = .ok (.istore_n 2, 1) := by decide +kernel
theorem dX4_readLine_66 : decode cX4_readLine 66 = .ok (.goto 13, 3) := by decide +kernel
theorem dX4_readLine_69 : decode cX4_readLine 69 = .ok (.aload_n 0, 1) := by decide +kernel
theorem dX4_readLine_70 : decode cX4_readLine 70 = .ok (.invokevirtual 135, 3) := by decide +kernel
theorem dX4_readLine_73 : decode cX4_readLine 73 = .ok (.aload_n 0, 1) := by decide +kernel
theorem dX4_readLine_74 : decode cX4_readLine 74 = .ok (.aload_n 1, 1) := by decide +kernel
theorem dX4_readLine_75 : decode cX4_readLine 75 = .ok (.invokevirtual 75, 3) := by decide +kernel
theorem dX4_readLine_78 : decode cX4_readLine 78 = .ok (.istore_n 2, 1) := by decide +kernel
theorem dX4_readLine_79 : decode cX4_readLine 79 = .ok (.iload_n 2, 1) := by decide +kernel
theorem dX4_readLine_80 : decode cX4_readLine 80 = .ok (.ifCond .eq 16, 3) := by decide +kernel
theorem dX4_readLine_83 : decode cX4_readLine 83 = .ok (.aload_n 0, 1) := by decide +kernel
theorem dX4_readLine_84 : decode cX4_readLine 84 = .ok (.bipush 59, 2) := by decide +kernel
theorem dX4_readLine_86 : decode cX4_readLine 86 = .ok (.invokevirtual 78, 3) := by decide +kernel
theorem dX4_readLine_89 : decode cX4_readLine 89 = .ok (.ifCond .eq 7, 3) := by decide +kernel
theorem dX4_readLine_92 : decode cX4_readLine 92 = .ok (.iconst 1, 1) := by decide +kernel
theorem dX4_readLine_93 : decode cX4_readLine 93 = .ok (.goto 4, 3) := by decide +kernel
theorem dX4_readLine_96 : decode cX4_readLine 96 = .ok (.iconst 0, 1) := by decide +kernel
theorem dX4_readLine_97 : decode cX4_readLine 97 = .ok (.ireturn, 1) := by decide +kernel
abbrev mm_X4_readLine : ab_M := (RX4, 3, (some .boolean), false, 4, 92, none)
noncomputable def f_X4_readLine_J96 (h : ab_H) : Option (Int × ab_H) :=
  some ((0 : Int), h)
set_option maxRecDepth 20000 in
theorem e_X4_readLine_J96 : ∀ (h : ab_H) (q : Int × ab_H), f_X4_readLine_J96  h = some q → ab_E mm_X4_readLine cX4_readLine 96 [none, none, none] [] h (some (ab_I q.1)) q.2 := by
  intro  h q hk
  unfold f_X4_readLine_J96 at hk
  refine ab_iconst (pc := 96) dX4_readLine_96 ab_k_0 ?_
  obtain rfl := Option.some.inj hk
  exact ab_retz (pc := 97) dX4_readLine_97 rfl rfl
noncomputable def f_X4_readLine_J79 (v0 : Int) (v2 : Int) (h : ab_H) : Option (Int × ab_H) :=
  if v2 = (0 : Int) then
    f_X4_readLine_J96 h
  else
  (ab_on h 5 v0 (f_X4_takeSign v0 (59 : Int) h)).bind fun q1 =>
  if q1.1 = (0 : Int) then
    f_X4_readLine_J96 q1.2
  else
  some ((1 : Int), q1.2)
set_option maxRecDepth 20000 in
theorem e_X4_readLine_J79 : ∀ (v0 : Int) (v2 : Int) (h : ab_H) (q : Int × ab_H), f_X4_readLine_J79 v0 v2 h = some q → ab_E mm_X4_readLine cX4_readLine 79 [some (ab_R v0), none, some (ab_I v2)] [] h (some (ab_I q.1)) q.2 := by
  intro v0 v2 h q hk
  unfold f_X4_readLine_J79 at hk
  refine ab_iload_n (pc := 79) (i := 2) dX4_readLine_79 rfl rfl ?_
  refine ab_if_eq (pc := 80) (tgt := 96) dX4_readLine_80 rfl (fun hc => ?_) (fun hc => ?_)
  · have hk := ab_ifp hk hc
    refine ab_sub_ (lv2 := [none, none, none]) (ab_sn (ab_sn (ab_sn ab_s0))) ?_
    exact e_X4_readLine_J96  _ _ hk
  · have hk := ab_ifn hk hc
    refine ab_aload_n (pc := 83) (i := 0) dX4_readLine_83 rfl rfl ?_
    refine ab_bipush (pc := 84) dX4_readLine_84 ab_p8_59 ab_k_59 ?_
    obtain ⟨q1, hq1, hk⟩ := ab_bnd hk
    obtain ⟨hb, hq1⟩ := ab_on_some hq1
    refine ab_callVI (st := []) (as := [ab_I (59 : Int)]) (b := v0) (pc := 86) dX4_readLine_86 ml_RX4_78 my_X4_takeSign mv_X4_takeSign hb (ct_X4_takeSign hq1) ⟨Nat.le_of_ble_eq_true rfl, Nat.le_of_ble_eq_true rfl⟩ rfl (Nat.le_of_ble_eq_true rfl) rfl ?_
    refine ab_if_eq (pc := 89) (tgt := 96) dX4_readLine_89 rfl (fun hc => ?_) (fun hc => ?_)
    · have hk := ab_ifp hk hc
      refine ab_sub_ (lv2 := [none, none, none]) (ab_sn (ab_sn (ab_sn ab_s0))) ?_
      exact e_X4_readLine_J96  _ _ hk
    · have hk := ab_ifn hk hc
      refine ab_iconst (pc := 92) dX4_readLine_92 ab_k_1 ?_
      refine ab_goto (pc := 93) (tgt := 97) dX4_readLine_93 rfl ?_
      obtain rfl := Option.some.inj hk
      exact ab_retz (pc := 97) dX4_readLine_97 rfl rfl
noncomputable def f_X4_readLine (a0 : Int) (a1 : Int) (h : ab_H) : Option (Int × ab_H) :=
  (ab_on h 5 a0 (f_X4_isKey a0 (0 : Int) h)).bind fun q1 =>
  if q1.1 = (0 : Int) then
    (ab_on q1.2 5 a0 (f_X4_isKey a0 (1 : Int) q1.2)).bind fun q2 =>
    if q2.1 = (0 : Int) then
      (ab_on q2.2 5 a0 (f_X4_isKey a0 (2 : Int) q2.2)).bind fun q3 =>
      if q3.1 = (0 : Int) then
        (ab_on q3.2 5 a0 (f_X4_fail a0 (1 : Int) q3.2)).bind fun q8 =>
        f_X4_readLine_J79 a0 q8.1 q8.2
      else
      (ab_get q3.2 1 0 a1).bind fun t4 =>
      if t4 < (12 : Int) then
        (ab_on q3.2 5 a0 (f_X4_step a0 q3.2)).bind fun q5 =>
        (ab_on q5 5 a0 (f_X4_readHeading a0 a1 q5)).bind fun q6 =>
        f_X4_readLine_J79 a0 q6.1 q6.2
      else
      (ab_on q3.2 5 a0 (f_X4_fail a0 (4 : Int) q3.2)).bind fun q7 =>
      f_X4_readLine_J79 a0 q7.1 q7.2
    else
    (ab_on q2.2 5 a0 (f_X4_readSee a0 a1 q2.2)).bind fun q9 =>
    f_X4_readLine_J79 a0 q9.1 q9.2
  else
  (ab_on q1.2 5 a0 (f_X4_readLaw a0 a1 q1.2)).bind fun q10 =>
  f_X4_readLine_J79 a0 q10.1 q10.2
set_option maxRecDepth 20000 in
theorem ct_X4_readLine {a0 a1 : Int} {h : ab_H} {q : Int × ab_H} (hk : f_X4_readLine a0 a1 h = some q) : ab_CT yX4_readLine cX4_readLine 3 (some .boolean) 4 92 [ab_R a0, ab_R a1] h (some (ab_I q.1)) q.2 := by
  refine ab_CT.mk_ 1 (own := RX4) (ini := false) (lv := [some (ab_R a0), some (ab_R a1), none]) rfl (by decide +kernel) (fun q => by cases q) rfl rfl ?_
  unfold f_X4_readLine at hk
  show ab_E mm_X4_readLine cX4_readLine 0 _ [] h _ _
  refine ab_aload_n (pc := 0) (i := 0) dX4_readLine_0 rfl rfl ?_
  refine ab_iconst (pc := 1) dX4_readLine_1 ab_k_0 ?_
  obtain ⟨q1, hq1, hk⟩ := ab_bnd hk
  obtain ⟨hb, hq1⟩ := ab_on_some hq1
  refine ab_callVI (st := []) (as := [ab_I (0 : Int)]) (b := a0) (pc := 2) dX4_readLine_2 ml_RX4_138 my_X4_isKey mv_X4_isKey hb (ct_X4_isKey hq1) ⟨Nat.le_of_ble_eq_true rfl, Nat.le_of_ble_eq_true rfl⟩ rfl (Nat.le_of_ble_eq_true rfl) rfl ?_
  refine ab_if_eq (pc := 5) (tgt := 17) dX4_readLine_5 rfl (fun hc => ?_) (fun hc => ?_)
  · have hk := ab_ifp hk hc
    refine ab_aload_n (pc := 17) (i := 0) dX4_readLine_17 rfl rfl ?_
    refine ab_iconst (pc := 18) dX4_readLine_18 ab_k_1 ?_
    obtain ⟨q2, hq2, hk⟩ := ab_bnd hk
    obtain ⟨hb, hq2⟩ := ab_on_some hq2
    refine ab_callVI (st := []) (as := [ab_I (1 : Int)]) (b := a0) (pc := 19) dX4_readLine_19 ml_RX4_138 my_X4_isKey mv_X4_isKey hb (ct_X4_isKey hq2) ⟨Nat.le_of_ble_eq_true rfl, Nat.le_of_ble_eq_true rfl⟩ rfl (Nat.le_of_ble_eq_true rfl) rfl ?_
    refine ab_if_eq (pc := 22) (tgt := 34) dX4_readLine_22 rfl (fun hc => ?_) (fun hc => ?_)
    · have hk := ab_ifp hk hc
      refine ab_aload_n (pc := 34) (i := 0) dX4_readLine_34 rfl rfl ?_
      refine ab_iconst (pc := 35) dX4_readLine_35 ab_k_2 ?_
      obtain ⟨q3, hq3, hk⟩ := ab_bnd hk
      obtain ⟨hb, hq3⟩ := ab_on_some hq3
      refine ab_callVI (st := []) (as := [ab_I (2 : Int)]) (b := a0) (pc := 36) dX4_readLine_36 ml_RX4_138 my_X4_isKey mv_X4_isKey hb (ct_X4_isKey hq3) ⟨Nat.le_of_ble_eq_true rfl, Nat.le_of_ble_eq_true rfl⟩ rfl (Nat.le_of_ble_eq_true rfl) rfl ?_
      refine ab_if_ne (pc := 39) (tgt := 51) dX4_readLine_39 rfl (fun hc => ?_) (fun hc => ?_)
      · have hk := ab_ifn hk hc
        refine ab_aload_n (pc := 51) (i := 1) dX4_readLine_51 rfl rfl ?_
        obtain ⟨t4, ht4, hk⟩ := ab_bnd hk
        refine ab_getI (pc := 52) dX4_readLine_52 fl_RX4_147 ht4 ?_
        refine ab_bipush (pc := 55) dX4_readLine_55 ab_p8_12 ab_k_12 ?_
        refine ab_icmp_lt (pc := 57) (tgt := 69) dX4_readLine_57 rfl (fun hc => ?_) (fun hc => ?_)
        · have hk := ab_ifp hk hc
          refine ab_aload_n (pc := 69) (i := 0) dX4_readLine_69 rfl rfl ?_
          obtain ⟨q5, hq5, hk⟩ := ab_bnd hk
          obtain ⟨hb, hq5⟩ := ab_on_some hq5
          refine ab_callVV (st := []) (as := []) (b := a0) (pc := 70) dX4_readLine_70 ml_RX4_135 my_X4_step mv_X4_step hb (ct_X4_step hq5) ⟨Nat.le_of_ble_eq_true rfl, Nat.le_of_ble_eq_true rfl⟩ rfl (Nat.le_of_ble_eq_true rfl) rfl ?_
          refine ab_aload_n (pc := 73) (i := 0) dX4_readLine_73 rfl rfl ?_
          refine ab_aload_n (pc := 74) (i := 1) dX4_readLine_74 rfl rfl ?_
          obtain ⟨q6, hq6, hk⟩ := ab_bnd hk
          obtain ⟨hb, hq6⟩ := ab_on_some hq6
          refine ab_callVI (st := []) (as := [ab_R a1]) (b := a0) (pc := 75) dX4_readLine_75 ml_RX4_75 my_X4_readHeading mv_X4_readHeading hb (ct_X4_readHeading hq6) ⟨Nat.le_of_ble_eq_true rfl, Nat.le_of_ble_eq_true rfl⟩ rfl (Nat.le_of_ble_eq_true rfl) rfl ?_
          refine ab_istore_n (pc := 78) (i := 2) (lv2 := [some (ab_R a0), some (ab_R a1), some (ab_I q6.1)]) dX4_readLine_78 rfl (Nat.le_of_ble_eq_true rfl) rfl rfl ?_
          refine ab_sub_ (lv2 := [some (ab_R a0), none, some (ab_I q6.1)]) (ab_ss (ab_sn (ab_ss ab_s0))) ?_
          exact e_X4_readLine_J79 _ _ _ _ hk
        · have hk := ab_ifn hk hc
          refine ab_aload_n (pc := 60) (i := 0) dX4_readLine_60 rfl rfl ?_
          refine ab_iconst (pc := 61) dX4_readLine_61 ab_k_4 ?_
          obtain ⟨q7, hq7, hk⟩ := ab_bnd hk
          obtain ⟨hb, hq7⟩ := ab_on_some hq7
          refine ab_callVI (st := []) (as := [ab_I (4 : Int)]) (b := a0) (pc := 62) dX4_readLine_62 ml_RX4_81 my_X4_fail mv_X4_fail hb (ct_X4_fail hq7) ⟨Nat.le_of_ble_eq_true rfl, Nat.le_of_ble_eq_true rfl⟩ rfl (Nat.le_of_ble_eq_true rfl) rfl ?_
          refine ab_istore_n (pc := 65) (i := 2) (lv2 := [some (ab_R a0), some (ab_R a1), some (ab_I q7.1)]) dX4_readLine_65 rfl (Nat.le_of_ble_eq_true rfl) rfl rfl ?_
          refine ab_goto (pc := 66) (tgt := 79) dX4_readLine_66 rfl ?_
          refine ab_sub_ (lv2 := [some (ab_R a0), none, some (ab_I q7.1)]) (ab_ss (ab_sn (ab_ss ab_s0))) ?_
          exact e_X4_readLine_J79 _ _ _ _ hk
      · have hk := ab_ifp hk hc
        refine ab_aload_n (pc := 42) (i := 0) dX4_readLine_42 rfl rfl ?_
        refine ab_iconst (pc := 43) dX4_readLine_43 ab_k_1 ?_
        obtain ⟨q8, hq8, hk⟩ := ab_bnd hk
        obtain ⟨hb, hq8⟩ := ab_on_some hq8
        refine ab_callVI (st := []) (as := [ab_I (1 : Int)]) (b := a0) (pc := 44) dX4_readLine_44 ml_RX4_81 my_X4_fail mv_X4_fail hb (ct_X4_fail hq8) ⟨Nat.le_of_ble_eq_true rfl, Nat.le_of_ble_eq_true rfl⟩ rfl (Nat.le_of_ble_eq_true rfl) rfl ?_
        refine ab_istore_n (pc := 47) (i := 2) (lv2 := [some (ab_R a0), some (ab_R a1), some (ab_I q8.1)]) dX4_readLine_47 rfl (Nat.le_of_ble_eq_true rfl) rfl rfl ?_
        refine ab_goto (pc := 48) (tgt := 79) dX4_readLine_48 rfl ?_
        refine ab_sub_ (lv2 := [some (ab_R a0), none, some (ab_I q8.1)]) (ab_ss (ab_sn (ab_ss ab_s0))) ?_
        exact e_X4_readLine_J79 _ _ _ _ hk
    · have hk := ab_ifn hk hc
      refine ab_aload_n (pc := 25) (i := 0) dX4_readLine_25 rfl rfl ?_
      refine ab_aload_n (pc := 26) (i := 1) dX4_readLine_26 rfl rfl ?_
      obtain ⟨q9, hq9, hk⟩ := ab_bnd hk
      obtain ⟨hb, hq9⟩ := ab_on_some hq9
      refine ab_callVI (st := []) (as := [ab_R a1]) (b := a0) (pc := 27) dX4_readLine_27 ml_RX4_144 my_X4_readSee mv_X4_readSee hb (ct_X4_readSee hq9) ⟨Nat.le_of_ble_eq_true rfl, Nat.le_of_ble_eq_true rfl⟩ rfl (Nat.le_of_ble_eq_true rfl) rfl ?_
      refine ab_istore_n (pc := 30) (i := 2) (lv2 := [some (ab_R a0), some (ab_R a1), some (ab_I q9.1)]) dX4_readLine_30 rfl (Nat.le_of_ble_eq_true rfl) rfl rfl ?_
      refine ab_goto (pc := 31) (tgt := 79) dX4_readLine_31 rfl ?_
      refine ab_sub_ (lv2 := [some (ab_R a0), none, some (ab_I q9.1)]) (ab_ss (ab_sn (ab_ss ab_s0))) ?_
      exact e_X4_readLine_J79 _ _ _ _ hk
  · have hk := ab_ifn hk hc
    refine ab_aload_n (pc := 8) (i := 0) dX4_readLine_8 rfl rfl ?_
    refine ab_aload_n (pc := 9) (i := 1) dX4_readLine_9 rfl rfl ?_
    obtain ⟨q10, hq10, hk⟩ := ab_bnd hk
    obtain ⟨hb, hq10⟩ := ab_on_some hq10
    refine ab_callVI (st := []) (as := [ab_R a1]) (b := a0) (pc := 10) dX4_readLine_10 ml_RX4_141 my_X4_readLaw mv_X4_readLaw hb (ct_X4_readLaw hq10) ⟨Nat.le_of_ble_eq_true rfl, Nat.le_of_ble_eq_true rfl⟩ rfl (Nat.le_of_ble_eq_true rfl) rfl ?_
    refine ab_istore_n (pc := 13) (i := 2) (lv2 := [some (ab_R a0), some (ab_R a1), some (ab_I q10.1)]) dX4_readLine_13 rfl (Nat.le_of_ble_eq_true rfl) rfl rfl ?_
    refine ab_goto (pc := 14) (tgt := 79) dX4_readLine_14 rfl ?_
    refine ab_sub_ (lv2 := [some (ab_R a0), none, some (ab_I q10.1)]) (ab_ss (ab_sn (ab_ss ab_s0))) ?_
    exact e_X4_readLine_J79 _ _ _ _ hk
theorem dX4_readText_0 : decode cX4_readText 0 = .ok (.aload_n 0, 1) := by decide +kernel
theorem dX4_readText_1 : decode cX4_readText 1 = .ok (.aload_n 1, 1) := by decide +kernel
theorem dX4_readText_2 : decode cX4_readText 2 = .ok (.invokevirtual 53, 3) := by decide +kernel
theorem dX4_readText_5 : decode cX4_readText 5 = .ok (.aload_n 2, 1) := by decide +kernel
theorem dX4_readText_6 : decode cX4_readText 6 = .ok (.invokevirtual 57, 3) := by decide +kernel
theorem dX4_readText_9 : decode cX4_readText 9 = .ok (.aload_n 0, 1) := by decide +kernel
theorem dX4_readText_10 : decode cX4_readText 10 = .ok (.iconst 0, 1) := by decide +kernel
theorem dX4_readText_11 : decode cX4_readText 11 = .ok (.putfield 62, 3) := by decide +kernel
theorem dX4_readText_14 : decode cX4_readText 14 = .ok (.aload_n 0, 1) := by decide +kernel
theorem dX4_readText_15 : decode cX4_readText 15 = .ok (.getfield 62, 3) := by decide +kernel
theorem dX4_readText_18 : decode cX4_readText 18 = .ok (.aload_n 0, 1) := by decide +kernel
theorem dX4_readText_19 : decode cX4_readText 19 = .ok (.getfield 65, 3) := by decide +kernel
theorem dX4_readText_22 : decode cX4_readText 22 = .ok (.if_icmp .ge 38, 3) := by decide +kernel
theorem dX4_readText_25 : decode cX4_readText 25 = .ok (.aload_n 0, 1) := by decide +kernel
theorem dX4_readText_26 : decode cX4_readText 26 = .ok (.getfield 15, 3) := by decide +kernel
theorem dX4_readText_29 : decode cX4_readText 29 = .ok (.aload_n 0, 1) := by decide +kernel
theorem dX4_readText_30 : decode cX4_readText 30 = .ok (.getfield 68, 3) := by decide +kernel
theorem dX4_readText_33 : decode cX4_readText 33 = .ok (.iaload, 1) := by decide +kernel
theorem dX4_readText_34 : decode cX4_readText 34 = .ok (.ifCond .eq 26, 3) := by decide +kernel
theorem dX4_readText_37 : decode cX4_readText 37 = .ok (.aload_n 0, 1) := by decide +kernel
theorem dX4_readText_38 : decode cX4_readText 38 = .ok (.aload_n 2, 1) := by decide +kernel
theorem dX4_readText_39 : decode cX4_readText 39 = .ok (.invokevirtual 71, 3) := by decide +kernel
theorem dX4_readText_42 : decode cX4_readText 42 = .ok (.ifCond .ne 5, 3) := by decide +kernel
theorem dX4_readText_45 : decode cX4_readText 45 = .ok (.iconst 0, 1) := by decide +kernel
theorem dX4_readText_46 : decode cX4_readText 46 = .ok (.ireturn, 1) := by decide +kernel
theorem dX4_readText_47 : decode cX4_readText 47 = .ok (.aload_n 0, 1) := by decide +kernel
theorem dX4_readText_48 : decode cX4_readText 48 = .ok (.dup, 1) := by decide +kernel
theorem dX4_readText_49 : decode cX4_readText 49 = .ok (.getfield 62, 3) := by decide +kernel
theorem dX4_readText_52 : decode cX4_readText 52 = .ok (.iconst 1, 1) := by decide +kernel
theorem dX4_readText_53 : decode cX4_readText 53 = .ok (.iadd, 1) := by decide +kernel
theorem dX4_readText_54 : decode cX4_readText 54 = .ok (.putfield 62, 3) := by decide +kernel
theorem dX4_readText_57 : decode cX4_readText 57 = .ok (.goto (-43), 3) := by decide +kernel
theorem dX4_readText_60 : decode cX4_readText 60 = .ok (.iconst 1, 1) := by decide +kernel
theorem dX4_readText_61 : decode cX4_readText 61 = .ok (.ireturn, 1) := by decide +kernel
abbrev mm_X4_readText : ab_M := (RX4, 3, (some .boolean), false, 5, 114, none)
noncomputable def f_X4_readText_L14 : Nat → Int → Int → ab_H → Option (Int × ab_H)
  | 0, _, _, _ => none
  | n + 1, v0, v2, h =>
    (ab_get h 5 8 v0).bind fun t1 =>
    (ab_get h 5 4 v0).bind fun t2 =>
    if t2 ≤ t1 then
      some ((1 : Int), h)
    else
    (ab_get h 5 1 v0).bind fun t3 =>
    (ab_get h 5 5 v0).bind fun t4 =>
    (ab_ald h 11 t3 t4).bind fun t5 =>
    if t5 = (0 : Int) then
      some ((1 : Int), h)
    else
    (ab_on h 5 v0 (f_X4_readLine v0 v2 h)).bind fun q6 =>
    if q6.1 = (0 : Int) then
      some ((0 : Int), q6.2)
    else
    (ab_get q6.2 5 8 v0).bind fun t7 =>
    (ab_put q6.2 5 8 v0 (ab_w32 (t7 + (1 : Int)))).bind fun h1 =>
    f_X4_readText_L14 n v0 v2 h1
set_option maxRecDepth 20000 in
theorem e_X4_readText_L14 : ∀ (n : Nat) (v0 : Int) (v2 : Int) (h : ab_H) (q : Int × ab_H), f_X4_readText_L14 n v0 v2 h = some q → ab_E mm_X4_readText cX4_readText 14 [some (ab_R v0), none, some (ab_R v2)] [] h (some (ab_I q.1)) q.2 := by
  intro n
  induction n with
  | zero => intro v0 v2 h q hk; cases hk
  | succ n ih =>
    intro v0 v2 h q hk
    unfold f_X4_readText_L14 at hk
    refine ab_aload_n (pc := 14) (i := 0) dX4_readText_14 rfl rfl ?_
    obtain ⟨t1, ht1, hk⟩ := ab_bnd hk
    refine ab_getI (pc := 15) dX4_readText_15 fl_RX4_62 ht1 ?_
    refine ab_aload_n (pc := 18) (i := 0) dX4_readText_18 rfl rfl ?_
    obtain ⟨t2, ht2, hk⟩ := ab_bnd hk
    refine ab_getI (pc := 19) dX4_readText_19 fl_RX4_65 ht2 ?_
    refine ab_icmp_ge (pc := 22) (tgt := 60) dX4_readText_22 rfl (fun hc => ?_) (fun hc => ?_)
    · have hk := ab_ifp hk hc
      refine ab_iconst (pc := 60) dX4_readText_60 ab_k_1 ?_
      obtain rfl := Option.some.inj hk
      exact ab_retz (pc := 61) dX4_readText_61 rfl rfl
    · have hk := ab_ifn hk hc
      refine ab_aload_n (pc := 25) (i := 0) dX4_readText_25 rfl rfl ?_
      obtain ⟨t3, ht3, hk⟩ := ab_bnd hk
      refine ab_getR (pc := 26) dX4_readText_26 fl_RX4_15 ht3 ?_
      refine ab_aload_n (pc := 29) (i := 0) dX4_readText_29 rfl rfl ?_
      obtain ⟨t4, ht4, hk⟩ := ab_bnd hk
      refine ab_getI (pc := 30) dX4_readText_30 fl_RX4_68 ht4 ?_
      obtain ⟨t5, ht5, hk⟩ := ab_bnd hk
      refine ab_iald (pc := 33) dX4_readText_33 ht5 ?_
      refine ab_if_eq (pc := 34) (tgt := 60) dX4_readText_34 rfl (fun hc => ?_) (fun hc => ?_)
      · have hk := ab_ifp hk hc
        refine ab_iconst (pc := 60) dX4_readText_60 ab_k_1 ?_
        obtain rfl := Option.some.inj hk
        exact ab_retz (pc := 61) dX4_readText_61 rfl rfl
      · have hk := ab_ifn hk hc
        refine ab_aload_n (pc := 37) (i := 0) dX4_readText_37 rfl rfl ?_
        refine ab_aload_n (pc := 38) (i := 2) dX4_readText_38 rfl rfl ?_
        obtain ⟨q6, hq6, hk⟩ := ab_bnd hk
        obtain ⟨hb, hq6⟩ := ab_on_some hq6
        refine ab_callVI (st := []) (as := [ab_R v2]) (b := v0) (pc := 39) dX4_readText_39 ml_RX4_71 my_X4_readLine mv_X4_readLine hb (ct_X4_readLine hq6) ⟨Nat.le_of_ble_eq_true rfl, Nat.le_of_ble_eq_true rfl⟩ rfl (Nat.le_of_ble_eq_true rfl) rfl ?_
        refine ab_if_ne (pc := 42) (tgt := 47) dX4_readText_42 rfl (fun hc => ?_) (fun hc => ?_)
        · have hk := ab_ifn hk hc
          refine ab_aload_n (pc := 47) (i := 0) dX4_readText_47 rfl rfl ?_
          refine ab_dup (pc := 48) dX4_readText_48 rfl ?_
          obtain ⟨t7, ht7, hk⟩ := ab_bnd hk
          refine ab_getI (pc := 49) dX4_readText_49 fl_RX4_62 ht7 ?_
          refine ab_iconst (pc := 52) dX4_readText_52 ab_k_1 ?_
          refine ab_iadd (pc := 53) dX4_readText_53 ?_
          obtain ⟨h1, hh1, hk⟩ := ab_bnd hk
          refine ab_putI_ (pc := 54) dX4_readText_54 fl_RX4_62 (fun q => by cases q) hh1 ?_
          refine ab_goto (pc := 57) (tgt := 14) dX4_readText_57 rfl ?_
          refine ab_sub_ (lv2 := [some (ab_R v0), none, some (ab_R v2)]) (ab_ss (ab_sn (ab_ss ab_s0))) ?_
          exact ih _ _ _ _ hk
        · have hk := ab_ifp hk hc
          refine ab_iconst (pc := 45) dX4_readText_45 ab_k_0 ?_
          obtain rfl := Option.some.inj hk
          exact ab_retz (pc := 46) dX4_readText_46 rfl rfl
noncomputable def f_X4_readText (a0 : Int) (a1 : Int) (a2 : Int) (h : ab_H) : Option (Int × ab_H) :=
  (ab_on h 5 a0 (f_X4_begin a0 a1 h)).bind fun q1 =>
  (ab_on q1 1 a2 (f_X0_clear a2 q1)).bind fun q2 =>
  (ab_put q2 5 8 a0 (0 : Int)).bind fun h1 =>
  f_X4_readText_L14 ab_FU a0 a2 h1
set_option maxRecDepth 20000 in
theorem ct_X4_readText {a0 a1 a2 : Int} {h : ab_H} {q : Int × ab_H} (hk : f_X4_readText a0 a1 a2 h = some q) : ab_CT yX4_readText cX4_readText 3 (some .boolean) 5 114 [ab_R a0, ab_R a1, ab_R a2] h (some (ab_I q.1)) q.2 := by
  refine ab_CT.mk_ 0 (own := RX4) (ini := false) (lv := [some (ab_R a0), some (ab_R a1), some (ab_R a2)]) rfl (by decide +kernel) (fun q => by cases q) rfl rfl ?_
  unfold f_X4_readText at hk
  show ab_E mm_X4_readText cX4_readText 0 _ [] h _ _
  refine ab_aload_n (pc := 0) (i := 0) dX4_readText_0 rfl rfl ?_
  refine ab_aload_n (pc := 1) (i := 1) dX4_readText_1 rfl rfl ?_
  obtain ⟨q1, hq1, hk⟩ := ab_bnd hk
  obtain ⟨hb, hq1⟩ := ab_on_some hq1
  refine ab_callVV (st := []) (as := [ab_R a1]) (b := a0) (pc := 2) dX4_readText_2 ml_RX4_53 my_X4_begin mv_X4_begin hb (ct_X4_begin hq1) ⟨Nat.le_of_ble_eq_true rfl, Nat.le_of_ble_eq_true rfl⟩ rfl (Nat.le_of_ble_eq_true rfl) rfl ?_
  refine ab_aload_n (pc := 5) (i := 2) dX4_readText_5 rfl rfl ?_
  obtain ⟨q2, hq2, hk⟩ := ab_bnd hk
  obtain ⟨hb, hq2⟩ := ab_on_some hq2
  refine ab_callVV (st := []) (as := []) (b := a2) (pc := 6) dX4_readText_6 ml_RX4_57 my_X0_clear mv_X0_clear hb (ct_X0_clear hq2) ⟨Nat.le_of_ble_eq_true rfl, Nat.le_of_ble_eq_true rfl⟩ rfl (Nat.le_of_ble_eq_true rfl) rfl ?_
  refine ab_aload_n (pc := 9) (i := 0) dX4_readText_9 rfl rfl ?_
  refine ab_iconst (pc := 10) dX4_readText_10 ab_k_0 ?_
  obtain ⟨h1, hh1, hk⟩ := ab_bnd hk
  refine ab_putI_ (pc := 11) dX4_readText_11 fl_RX4_62 (fun q => by cases q) hh1 ?_
  refine ab_sub_ (lv2 := [some (ab_R a0), none, some (ab_R a2)]) (ab_ss (ab_sn (ab_ss ab_s0))) ?_
  refine e_X4_readText_L14 _ _ _ _ _ hk
theorem dX4_readAdded_0 : decode cX4_readAdded 0 = .ok (.aload_n 0, 1) := by decide +kernel
theorem dX4_readAdded_1 : decode cX4_readAdded 1 = .ok (.aload_n 1, 1) := by decide +kernel
theorem dX4_readAdded_2 : decode cX4_readAdded 2 = .ok (.invokevirtual 53, 3) := by decide +kernel
theorem dX4_readAdded_5 : decode cX4_readAdded 5 = .ok (.aload_n 0, 1) := by decide +kernel
theorem dX4_readAdded_6 : decode cX4_readAdded 6 = .ok (.aload_n 2, 1) := by decide +kernel
theorem dX4_readAdded_7 : decode cX4_readAdded 7 = .ok (.invokevirtual 75, 3) := by decide +kernel
theorem dX4_readAdded_10 : decode cX4_readAdded 10 = .ok (.ifCond .eq 12, 3) := by decide +kernel
theorem dX4_readAdded_13 : decode cX4_readAdded 13 = .ok (.aload_n 0, 1) := by decide +kernel
theorem dX4_readAdded_14 : decode cX4_readAdded 14 = .ok (.bipush 59, 2) := by decide +kernel
theorem dX4_readAdded_16 : decode cX4_readAdded 16 = .ok (.invokevirtual 78, 3) := by decide +kernel
theorem dX4_readAdded_19 : decode cX4_readAdded 19 = .ok (.ifCond .ne 5, 3) := by decide +kernel
theorem dX4_readAdded_22 : decode cX4_readAdded 22 = .ok (.iconst 0, 1) := by decide +kernel
theorem dX4_readAdded_23 : decode cX4_readAdded 23 = .ok (.ireturn, 1) := by decide +kernel
theorem dX4_readAdded_24 : decode cX4_readAdded 24 = .ok (.aload_n 0, 1) := by decide +kernel
theorem dX4_readAdded_25 : decode cX4_readAdded 25 = .ok (.getfield 15, 3) := by decide +kernel
theorem dX4_readAdded_28 : decode cX4_readAdded 28 = .ok (.aload_n 0, 1) := by decide +kernel
theorem dX4_readAdded_29 : decode cX4_readAdded 29 = .ok (.getfield 68, 3) := by decide +kernel
theorem dX4_readAdded_32 : decode cX4_readAdded 32 = .ok (.iaload, 1) := by decide +kernel
theorem dX4_readAdded_33 : decode cX4_readAdded 33 = .ok (.ifCond .eq 11, 3) := by decide +kernel
theorem dX4_readAdded_36 : decode cX4_readAdded 36 = .ok (.aload_n 0, 1) := by decide +kernel
theorem dX4_readAdded_37 : decode cX4_readAdded 37 = .ok (.iconst 1, 1) := by decide +kernel
theorem dX4_readAdded_38 : decode cX4_readAdded 38 = .ok (.invokevirtual 81, 3) := by decide +kernel
theorem dX4_readAdded_41 : decode cX4_readAdded 41 = .ok (.ifCond .eq 7, 3) := by decide +kernel
theorem dX4_readAdded_44 : decode cX4_readAdded 44 = .ok (.iconst 1, 1) := by decide +kernel
theorem dX4_readAdded_45 : decode cX4_readAdded 45 = .ok (.goto 4, 3) := by decide +kernel
theorem dX4_readAdded_48 : decode cX4_readAdded 48 = .ok (.iconst 0, 1) := by decide +kernel
theorem dX4_readAdded_49 : decode cX4_readAdded 49 = .ok (.ireturn, 1) := by decide +kernel
abbrev mm_X4_readAdded : ab_M := (RX4, 3, (some .boolean), false, 4, 95, none)
noncomputable def f_X4_readAdded_J44 (h : ab_H) : Option (Int × ab_H) :=
  some ((1 : Int), h)
set_option maxRecDepth 20000 in
theorem e_X4_readAdded_J44 : ∀ (h : ab_H) (q : Int × ab_H), f_X4_readAdded_J44  h = some q → ab_E mm_X4_readAdded cX4_readAdded 44 [none, none, none] [] h (some (ab_I q.1)) q.2 := by
  intro  h q hk
  unfold f_X4_readAdded_J44 at hk
  refine ab_iconst (pc := 44) dX4_readAdded_44 ab_k_1 ?_
  refine ab_goto (pc := 45) (tgt := 49) dX4_readAdded_45 rfl ?_
  obtain rfl := Option.some.inj hk
  exact ab_retz (pc := 49) dX4_readAdded_49 rfl rfl
noncomputable def f_X4_readAdded (a0 : Int) (a1 : Int) (a2 : Int) (h : ab_H) : Option (Int × ab_H) :=
  (ab_on h 5 a0 (f_X4_begin a0 a1 h)).bind fun q1 =>
  (ab_on q1 5 a0 (f_X4_readHeading a0 a2 q1)).bind fun q2 =>
  if q2.1 = (0 : Int) then
    some ((0 : Int), q2.2)
  else
  (ab_on q2.2 5 a0 (f_X4_takeSign a0 (59 : Int) q2.2)).bind fun q3 =>
  if q3.1 = (0 : Int) then
    some ((0 : Int), q3.2)
  else
  (ab_get q3.2 5 1 a0).bind fun t4 =>
  (ab_get q3.2 5 5 a0).bind fun t5 =>
  (ab_ald q3.2 11 t4 t5).bind fun t6 =>
  if t6 = (0 : Int) then
    f_X4_readAdded_J44 q3.2
  else
  (ab_on q3.2 5 a0 (f_X4_fail a0 (1 : Int) q3.2)).bind fun q7 =>
  if q7.1 = (0 : Int) then
    some ((0 : Int), q7.2)
  else
  f_X4_readAdded_J44 q7.2
set_option maxRecDepth 20000 in
theorem ct_X4_readAdded {a0 a1 a2 : Int} {h : ab_H} {q : Int × ab_H} (hk : f_X4_readAdded a0 a1 a2 h = some q) : ab_CT yX4_readAdded cX4_readAdded 3 (some .boolean) 4 95 [ab_R a0, ab_R a1, ab_R a2] h (some (ab_I q.1)) q.2 := by
  refine ab_CT.mk_ 0 (own := RX4) (ini := false) (lv := [some (ab_R a0), some (ab_R a1), some (ab_R a2)]) rfl (by decide +kernel) (fun q => by cases q) rfl rfl ?_
  unfold f_X4_readAdded at hk
  show ab_E mm_X4_readAdded cX4_readAdded 0 _ [] h _ _
  refine ab_aload_n (pc := 0) (i := 0) dX4_readAdded_0 rfl rfl ?_
  refine ab_aload_n (pc := 1) (i := 1) dX4_readAdded_1 rfl rfl ?_
  obtain ⟨q1, hq1, hk⟩ := ab_bnd hk
  obtain ⟨hb, hq1⟩ := ab_on_some hq1
  refine ab_callVV (st := []) (as := [ab_R a1]) (b := a0) (pc := 2) dX4_readAdded_2 ml_RX4_53 my_X4_begin mv_X4_begin hb (ct_X4_begin hq1) ⟨Nat.le_of_ble_eq_true rfl, Nat.le_of_ble_eq_true rfl⟩ rfl (Nat.le_of_ble_eq_true rfl) rfl ?_
  refine ab_aload_n (pc := 5) (i := 0) dX4_readAdded_5 rfl rfl ?_
  refine ab_aload_n (pc := 6) (i := 2) dX4_readAdded_6 rfl rfl ?_
  obtain ⟨q2, hq2, hk⟩ := ab_bnd hk
  obtain ⟨hb, hq2⟩ := ab_on_some hq2
  refine ab_callVI (st := []) (as := [ab_R a2]) (b := a0) (pc := 7) dX4_readAdded_7 ml_RX4_75 my_X4_readHeading mv_X4_readHeading hb (ct_X4_readHeading hq2) ⟨Nat.le_of_ble_eq_true rfl, Nat.le_of_ble_eq_true rfl⟩ rfl (Nat.le_of_ble_eq_true rfl) rfl ?_
  refine ab_if_eq (pc := 10) (tgt := 22) dX4_readAdded_10 rfl (fun hc => ?_) (fun hc => ?_)
  · have hk := ab_ifp hk hc
    refine ab_iconst (pc := 22) dX4_readAdded_22 ab_k_0 ?_
    obtain rfl := Option.some.inj hk
    exact ab_retz (pc := 23) dX4_readAdded_23 rfl rfl
  · have hk := ab_ifn hk hc
    refine ab_aload_n (pc := 13) (i := 0) dX4_readAdded_13 rfl rfl ?_
    refine ab_bipush (pc := 14) dX4_readAdded_14 ab_p8_59 ab_k_59 ?_
    obtain ⟨q3, hq3, hk⟩ := ab_bnd hk
    obtain ⟨hb, hq3⟩ := ab_on_some hq3
    refine ab_callVI (st := []) (as := [ab_I (59 : Int)]) (b := a0) (pc := 16) dX4_readAdded_16 ml_RX4_78 my_X4_takeSign mv_X4_takeSign hb (ct_X4_takeSign hq3) ⟨Nat.le_of_ble_eq_true rfl, Nat.le_of_ble_eq_true rfl⟩ rfl (Nat.le_of_ble_eq_true rfl) rfl ?_
    refine ab_if_ne (pc := 19) (tgt := 24) dX4_readAdded_19 rfl (fun hc => ?_) (fun hc => ?_)
    · have hk := ab_ifn hk hc
      refine ab_aload_n (pc := 24) (i := 0) dX4_readAdded_24 rfl rfl ?_
      obtain ⟨t4, ht4, hk⟩ := ab_bnd hk
      refine ab_getR (pc := 25) dX4_readAdded_25 fl_RX4_15 ht4 ?_
      refine ab_aload_n (pc := 28) (i := 0) dX4_readAdded_28 rfl rfl ?_
      obtain ⟨t5, ht5, hk⟩ := ab_bnd hk
      refine ab_getI (pc := 29) dX4_readAdded_29 fl_RX4_68 ht5 ?_
      obtain ⟨t6, ht6, hk⟩ := ab_bnd hk
      refine ab_iald (pc := 32) dX4_readAdded_32 ht6 ?_
      refine ab_if_eq (pc := 33) (tgt := 44) dX4_readAdded_33 rfl (fun hc => ?_) (fun hc => ?_)
      · have hk := ab_ifp hk hc
        refine ab_sub_ (lv2 := [none, none, none]) (ab_sn (ab_sn (ab_sn ab_s0))) ?_
        exact e_X4_readAdded_J44  _ _ hk
      · have hk := ab_ifn hk hc
        refine ab_aload_n (pc := 36) (i := 0) dX4_readAdded_36 rfl rfl ?_
        refine ab_iconst (pc := 37) dX4_readAdded_37 ab_k_1 ?_
        obtain ⟨q7, hq7, hk⟩ := ab_bnd hk
        obtain ⟨hb, hq7⟩ := ab_on_some hq7
        refine ab_callVI (st := []) (as := [ab_I (1 : Int)]) (b := a0) (pc := 38) dX4_readAdded_38 ml_RX4_81 my_X4_fail mv_X4_fail hb (ct_X4_fail hq7) ⟨Nat.le_of_ble_eq_true rfl, Nat.le_of_ble_eq_true rfl⟩ rfl (Nat.le_of_ble_eq_true rfl) rfl ?_
        refine ab_if_eq (pc := 41) (tgt := 48) dX4_readAdded_41 rfl (fun hc => ?_) (fun hc => ?_)
        · have hk := ab_ifp hk hc
          refine ab_iconst (pc := 48) dX4_readAdded_48 ab_k_0 ?_
          obtain rfl := Option.some.inj hk
          exact ab_retz (pc := 49) dX4_readAdded_49 rfl rfl
        · have hk := ab_ifn hk hc
          refine ab_sub_ (lv2 := [none, none, none]) (ab_sn (ab_sn (ab_sn ab_s0))) ?_
          exact e_X4_readAdded_J44  _ _ hk
    · have hk := ab_ifp hk hc
      refine ab_iconst (pc := 22) dX4_readAdded_22 ab_k_0 ?_
      obtain rfl := Option.some.inj hk
      exact ab_retz (pc := 23) dX4_readAdded_23 rfl rfl
