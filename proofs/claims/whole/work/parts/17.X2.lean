theorem dX2_init_0 : decode cX2_init 0 = .ok (.aload_n 0, 1) := by decide +kernel
theorem dX2_init_1 : decode cX2_init 1 = .ok (.invokespecial 3, 3) := by decide +kernel
theorem dX2_init_4 : decode cX2_init 4 = .ok (.aload_n 0, 1) := by decide +kernel
theorem dX2_init_5 : decode cX2_init 5 = .ok (.bipush 6, 2) := by decide +kernel
theorem dX2_init_7 : decode cX2_init 7 = .ok (.newarray .int, 2) := by decide +kernel
theorem dX2_init_9 : decode cX2_init 9 = .ok (.putfield 9, 3) := by decide +kernel
theorem dX2_init_12 : decode cX2_init 12 = .ok (.aload_n 0, 1) := by decide +kernel
theorem dX2_init_13 : decode cX2_init 13 = .ok (.bipush 6, 2) := by decide +kernel
theorem dX2_init_15 : decode cX2_init 15 = .ok (.newarray .int, 2) := by decide +kernel
theorem dX2_init_17 : decode cX2_init 17 = .ok (.putfield 15, 3) := by decide +kernel
theorem dX2_init_20 : decode cX2_init 20 = .ok (.return_, 1) := by decide +kernel
abbrev mm_X2_init : ab_M := (RX2, 1, none, true, 1, 20, none)
noncomputable def f_X2_init (a0 : Int) (h : ab_H) : Option ab_H :=
  ab_if (decide (0 < a0)) <|
  (ab_mkA h 11 (6 : Int)).bind fun h1 =>
  (ab_putR h1 3 4 a0 (ab_nx h)).bind fun h2 =>
  (ab_mkA h2 11 (6 : Int)).bind fun h3 =>
  (ab_putR h3 3 5 a0 (ab_nx h2)).bind fun h4 =>
  some h4
set_option maxRecDepth 20000 in
theorem ct_X2_init {a0 : Int} {h : ab_H} {q : ab_H} (hk : f_X2_init a0 h = some q) : ab_CT yX2_init cX2_init 1 none 1 20 [ab_R a0] h none q := by
  refine ab_CT.mk_ 0 (own := RX2) (ini := true) (lv := [some (ab_R a0)]) rfl (by decide +kernel) (fun _ => rfl) rfl rfl ?_
  unfold f_X2_init at hk
  show ab_E mm_X2_init cX2_init 0 _ [] h _ _
  refine ab_aload_n (pc := 0) (i := 0) dX2_init_0 rfl rfl ?_
  obtain ⟨hg, hk⟩ := ab_if_some hk
  refine ab_obj0_ (pc := 1) dX2_init_1 ob_RX2_3 hg (Nat.le_of_ble_eq_true rfl) (Nat.le_of_ble_eq_true rfl) (Nat.le_of_ble_eq_true rfl) ?_
  refine ab_aload_n (pc := 4) (i := 0) dX2_init_4 rfl rfl ?_
  refine ab_bipush (pc := 5) dX2_init_5 ab_p8_6 ab_k_6 ?_
  obtain ⟨h1, hh1, hk⟩ := ab_bnd hk
  refine ab_newA (pc := 7) dX2_init_7 (by decide) ab_ac_int hh1 ?_
  obtain ⟨h2, hh2, hk⟩ := ab_bnd hk
  refine ab_putR_ (pc := 9) dX2_init_9 fl_RX2_9 (fun _ => ⟨rfl, rfl⟩) hh2 ?_
  refine ab_aload_n (pc := 12) (i := 0) dX2_init_12 rfl rfl ?_
  refine ab_bipush (pc := 13) dX2_init_13 ab_p8_6 ab_k_6 ?_
  obtain ⟨h3, hh3, hk⟩ := ab_bnd hk
  refine ab_newA (pc := 15) dX2_init_15 (by decide) ab_ac_int hh3 ?_
  obtain ⟨h4, hh4, hk⟩ := ab_bnd hk
  refine ab_putR_ (pc := 17) dX2_init_17 fl_RX2_15 (fun _ => ⟨rfl, rfl⟩) hh4 ?_
  obtain rfl := Option.some.inj hk
  exact ab_retv (pc := 20) dX2_init_20 rfl
theorem dX2_offer_0 : decode cX2_offer 0 = .ok (.aload_n 0, 1) := by decide +kernel
theorem dX2_offer_1 : decode cX2_offer 1 = .ok (.getfield 34, 3) := by decide +kernel
theorem dX2_offer_4 : decode cX2_offer 4 = .ok (.iload_n 3, 1) := by decide +kernel
theorem dX2_offer_5 : decode cX2_offer 5 = .ok (.if_icmp .ne 10, 3) := by decide +kernel
theorem dX2_offer_8 : decode cX2_offer 8 = .ok (.aload_n 0, 1) := by decide +kernel
theorem dX2_offer_9 : decode cX2_offer 9 = .ok (.getfield 28, 3) := by decide +kernel
theorem dX2_offer_12 : decode cX2_offer 12 = .ok (.goto 14, 3) := by decide +kernel
theorem dX2_offer_15 : decode cX2_offer 15 = .ok (.aload_n 0, 1) := by decide +kernel
theorem dX2_offer_16 : decode cX2_offer 16 = .ok (.getfield 15, 3) := by decide +kernel
theorem dX2_offer_19 : decode cX2_offer 19 = .ok (.aload_n 0, 1) := by decide +kernel
theorem dX2_offer_20 : decode cX2_offer 20 = .ok (.getfield 34, 3) := by decide +kernel
theorem dX2_offer_23 : decode cX2_offer 23 = .ok (.iconst 1, 1) := by decide +kernel
theorem dX2_offer_24 : decode cX2_offer 24 = .ok (.isub, 1) := by decide +kernel
theorem dX2_offer_25 : decode cX2_offer 25 = .ok (.iaload, 1) := by decide +kernel
theorem dX2_offer_26 : decode cX2_offer 26 = .ok (.istore 4, 2) := by decide +kernel
theorem dX2_offer_28 : decode cX2_offer 28 = .ok (.iload_n 2, 1) := by decide +kernel
theorem dX2_offer_29 : decode cX2_offer 29 = .ok (.iload 4, 2) := by decide +kernel
theorem dX2_offer_31 : decode cX2_offer 31 = .ok (.if_icmp .ne 18, 3) := by decide +kernel
theorem dX2_offer_34 : decode cX2_offer 34 = .ok (.aload_n 0, 1) := by decide +kernel
theorem dX2_offer_35 : decode cX2_offer 35 = .ok (.dup, 1) := by decide +kernel
theorem dX2_offer_36 : decode cX2_offer 36 = .ok (.getfield 37, 3) := by decide +kernel
theorem dX2_offer_39 : decode cX2_offer 39 = .ok (.iconst 1, 1) := by decide +kernel
theorem dX2_offer_40 : decode cX2_offer 40 = .ok (.iload_n 1, 1) := by decide +kernel
theorem dX2_offer_41 : decode cX2_offer 41 = .ok (.ishl, 1) := by decide +kernel
theorem dX2_offer_42 : decode cX2_offer 42 = .ok (.ior, 1) := by decide +kernel
theorem dX2_offer_43 : decode cX2_offer 43 = .ok (.putfield 37, 3) := by decide +kernel
theorem dX2_offer_46 : decode cX2_offer 46 = .ok (.goto 42, 3) := by decide +kernel
theorem dX2_offer_49 : decode cX2_offer 49 = .ok (.aload_n 0, 1) := by decide +kernel
theorem dX2_offer_50 : decode cX2_offer 50 = .ok (.getfield 34, 3) := by decide +kernel
theorem dX2_offer_53 : decode cX2_offer 53 = .ok (.bipush 6, 2) := by decide +kernel
theorem dX2_offer_55 : decode cX2_offer 55 = .ok (.if_icmp .ge 33, 3) := by decide +kernel
theorem dX2_offer_58 : decode cX2_offer 58 = .ok (.aload_n 0, 1) := by decide +kernel
theorem dX2_offer_59 : decode cX2_offer 59 = .ok (.getfield 9, 3) := by decide +kernel
theorem dX2_offer_62 : decode cX2_offer 62 = .ok (.aload_n 0, 1) := by decide +kernel
theorem dX2_offer_63 : decode cX2_offer 63 = .ok (.getfield 34, 3) := by decide +kernel
theorem dX2_offer_66 : decode cX2_offer 66 = .ok (.iload_n 1, 1) := by decide +kernel
theorem dX2_offer_67 : decode cX2_offer 67 = .ok (.iastore, 1) := by decide +kernel
theorem dX2_offer_68 : decode cX2_offer 68 = .ok (.aload_n 0, 1) := by decide +kernel
theorem dX2_offer_69 : decode cX2_offer 69 = .ok (.getfield 15, 3) := by decide +kernel
theorem dX2_offer_72 : decode cX2_offer 72 = .ok (.aload_n 0, 1) := by decide +kernel
theorem dX2_offer_73 : decode cX2_offer 73 = .ok (.getfield 34, 3) := by decide +kernel
theorem dX2_offer_76 : decode cX2_offer 76 = .ok (.iload_n 2, 1) := by decide +kernel
theorem dX2_offer_77 : decode cX2_offer 77 = .ok (.iastore, 1) := by decide +kernel
theorem dX2_offer_78 : decode cX2_offer 78 = .ok (.aload_n 0, 1) := by decide +kernel
theorem dX2_offer_79 : decode cX2_offer 79 = .ok (.dup, 1) := by decide +kernel
theorem dX2_offer_80 : decode cX2_offer 80 = .ok (.getfield 34, 3) := by decide +kernel
theorem dX2_offer_83 : decode cX2_offer 83 = .ok (.iconst 1, 1) := by decide +kernel
theorem dX2_offer_84 : decode cX2_offer 84 = .ok (.iadd, 1) := by decide +kernel
theorem dX2_offer_85 : decode cX2_offer 85 = .ok (.putfield 34, 3) := by decide +kernel
theorem dX2_offer_88 : decode cX2_offer 88 = .ok (.return_, 1) := by decide +kernel
abbrev mm_X2_offer : ab_M := (RX2, 5, none, false, 0, 0, none)
noncomputable def f_X2_offer_J26 (v0 : Int) (v1 : Int) (v2 : Int) (s0 : Int) (h : ab_H) : Option ab_H :=
  if v2 = s0 then
    (ab_get h 3 8 v0).bind fun t7 =>
    (ab_put h 3 8 v0 (ab_or t7 (ab_shl (1 : Int) v1))).bind fun h4 =>
    some h4
  else
  (ab_get h 3 7 v0).bind fun t1 =>
  if (6 : Int) ≤ t1 then
    some h
  else
  (ab_get h 3 4 v0).bind fun t2 =>
  (ab_get h 3 7 v0).bind fun t3 =>
  (ab_ast h 11 t2 t3 v1).bind fun h1 =>
  (ab_get h1 3 5 v0).bind fun t4 =>
  (ab_get h1 3 7 v0).bind fun t5 =>
  (ab_ast h1 11 t4 t5 v2).bind fun h2 =>
  (ab_get h2 3 7 v0).bind fun t6 =>
  (ab_put h2 3 7 v0 (ab_w32 (t6 + (1 : Int)))).bind fun h3 =>
  some h3
set_option maxRecDepth 20000 in
theorem e_X2_offer_J26 : ∀ (v0 : Int) (v1 : Int) (v2 : Int) (s0 : Int) (h : ab_H) (q : ab_H), f_X2_offer_J26 v0 v1 v2 s0 h = some q → ab_E mm_X2_offer cX2_offer 26 [some (ab_R v0), some (ab_I v1), some (ab_I v2), none, none] [ab_I s0] h none q := by
  intro v0 v1 v2 s0 h q hk
  unfold f_X2_offer_J26 at hk
  refine ab_istore (pc := 26) (i := 4) (lv2 := [some (ab_R v0), some (ab_I v1), some (ab_I v2), none, some (ab_I s0)]) dX2_offer_26 (Nat.le_of_ble_eq_true rfl) rfl rfl ?_
  refine ab_iload_n (pc := 28) (i := 2) dX2_offer_28 rfl rfl ?_
  refine ab_iload (pc := 29) (i := 4) dX2_offer_29 rfl ?_
  refine ab_icmp_ne (pc := 31) (tgt := 49) dX2_offer_31 rfl (fun hc => ?_) (fun hc => ?_)
  · have hk := ab_ifn hk hc
    refine ab_aload_n (pc := 49) (i := 0) dX2_offer_49 rfl rfl ?_
    obtain ⟨t1, ht1, hk⟩ := ab_bnd hk
    refine ab_getI (pc := 50) dX2_offer_50 fl_RX2_34 ht1 ?_
    refine ab_bipush (pc := 53) dX2_offer_53 ab_p8_6 ab_k_6 ?_
    refine ab_icmp_ge (pc := 55) (tgt := 88) dX2_offer_55 rfl (fun hc => ?_) (fun hc => ?_)
    · have hk := ab_ifp hk hc
      obtain rfl := Option.some.inj hk
      exact ab_retv (pc := 88) dX2_offer_88 rfl
    · have hk := ab_ifn hk hc
      refine ab_aload_n (pc := 58) (i := 0) dX2_offer_58 rfl rfl ?_
      obtain ⟨t2, ht2, hk⟩ := ab_bnd hk
      refine ab_getR (pc := 59) dX2_offer_59 fl_RX2_9 ht2 ?_
      refine ab_aload_n (pc := 62) (i := 0) dX2_offer_62 rfl rfl ?_
      obtain ⟨t3, ht3, hk⟩ := ab_bnd hk
      refine ab_getI (pc := 63) dX2_offer_63 fl_RX2_34 ht3 ?_
      refine ab_iload_n (pc := 66) (i := 1) dX2_offer_66 rfl rfl ?_
      obtain ⟨h1, hh1, hk⟩ := ab_bnd hk
      refine ab_iast (pc := 67) dX2_offer_67 hh1 ?_
      refine ab_aload_n (pc := 68) (i := 0) dX2_offer_68 rfl rfl ?_
      obtain ⟨t4, ht4, hk⟩ := ab_bnd hk
      refine ab_getR (pc := 69) dX2_offer_69 fl_RX2_15 ht4 ?_
      refine ab_aload_n (pc := 72) (i := 0) dX2_offer_72 rfl rfl ?_
      obtain ⟨t5, ht5, hk⟩ := ab_bnd hk
      refine ab_getI (pc := 73) dX2_offer_73 fl_RX2_34 ht5 ?_
      refine ab_iload_n (pc := 76) (i := 2) dX2_offer_76 rfl rfl ?_
      obtain ⟨h2, hh2, hk⟩ := ab_bnd hk
      refine ab_iast (pc := 77) dX2_offer_77 hh2 ?_
      refine ab_aload_n (pc := 78) (i := 0) dX2_offer_78 rfl rfl ?_
      refine ab_dup (pc := 79) dX2_offer_79 rfl ?_
      obtain ⟨t6, ht6, hk⟩ := ab_bnd hk
      refine ab_getI (pc := 80) dX2_offer_80 fl_RX2_34 ht6 ?_
      refine ab_iconst (pc := 83) dX2_offer_83 ab_k_1 ?_
      refine ab_iadd (pc := 84) dX2_offer_84 ?_
      obtain ⟨h3, hh3, hk⟩ := ab_bnd hk
      refine ab_putI_ (pc := 85) dX2_offer_85 fl_RX2_34 (fun q => by cases q) hh3 ?_
      obtain rfl := Option.some.inj hk
      exact ab_retv (pc := 88) dX2_offer_88 rfl
  · have hk := ab_ifp hk hc
    refine ab_aload_n (pc := 34) (i := 0) dX2_offer_34 rfl rfl ?_
    refine ab_dup (pc := 35) dX2_offer_35 rfl ?_
    obtain ⟨t7, ht7, hk⟩ := ab_bnd hk
    refine ab_getI (pc := 36) dX2_offer_36 fl_RX2_37 ht7 ?_
    refine ab_iconst (pc := 39) dX2_offer_39 ab_k_1 ?_
    refine ab_iload_n (pc := 40) (i := 1) dX2_offer_40 rfl rfl ?_
    refine ab_ishl (pc := 41) dX2_offer_41 ?_
    refine ab_ior (pc := 42) dX2_offer_42 ?_
    obtain ⟨h4, hh4, hk⟩ := ab_bnd hk
    refine ab_putI_ (pc := 43) dX2_offer_43 fl_RX2_37 (fun q => by cases q) hh4 ?_
    refine ab_goto (pc := 46) (tgt := 88) dX2_offer_46 rfl ?_
    obtain rfl := Option.some.inj hk
    exact ab_retv (pc := 88) dX2_offer_88 rfl
noncomputable def f_X2_offer (a0 : Int) (a1 : Int) (a2 : Int) (a3 : Int) (h : ab_H) : Option ab_H :=
  (ab_get h 3 7 a0).bind fun t1 =>
  if t1 = a3 then
    (ab_get h 3 3 a0).bind fun t5 =>
    f_X2_offer_J26 a0 a1 a2 t5 h
  else
  (ab_get h 3 5 a0).bind fun t2 =>
  (ab_get h 3 7 a0).bind fun t3 =>
  (ab_ald h 11 t2 (ab_w32 (t3 - (1 : Int)))).bind fun t4 =>
  f_X2_offer_J26 a0 a1 a2 t4 h
set_option maxRecDepth 20000 in
theorem ct_X2_offer {a0 a1 a2 a3 : Int} {h : ab_H} {q : ab_H} (hk : f_X2_offer a0 a1 a2 a3 h = some q) : ab_CT yX2_offer cX2_offer 5 none 0 0 [ab_R a0, ab_I a1, ab_I a2, ab_I a3] h none q := by
  refine ab_CT.mk_ 1 (own := RX2) (ini := false) (lv := [some (ab_R a0), some (ab_I a1), some (ab_I a2), some (ab_I a3), none]) rfl (by decide +kernel) (fun q => by cases q) rfl rfl ?_
  unfold f_X2_offer at hk
  show ab_E mm_X2_offer cX2_offer 0 _ [] h _ _
  refine ab_aload_n (pc := 0) (i := 0) dX2_offer_0 rfl rfl ?_
  obtain ⟨t1, ht1, hk⟩ := ab_bnd hk
  refine ab_getI (pc := 1) dX2_offer_1 fl_RX2_34 ht1 ?_
  refine ab_iload_n (pc := 4) (i := 3) dX2_offer_4 rfl rfl ?_
  refine ab_icmp_ne (pc := 5) (tgt := 15) dX2_offer_5 rfl (fun hc => ?_) (fun hc => ?_)
  · have hk := ab_ifn hk hc
    refine ab_aload_n (pc := 15) (i := 0) dX2_offer_15 rfl rfl ?_
    obtain ⟨t2, ht2, hk⟩ := ab_bnd hk
    refine ab_getR (pc := 16) dX2_offer_16 fl_RX2_15 ht2 ?_
    refine ab_aload_n (pc := 19) (i := 0) dX2_offer_19 rfl rfl ?_
    obtain ⟨t3, ht3, hk⟩ := ab_bnd hk
    refine ab_getI (pc := 20) dX2_offer_20 fl_RX2_34 ht3 ?_
    refine ab_iconst (pc := 23) dX2_offer_23 ab_k_1 ?_
    refine ab_isub (pc := 24) dX2_offer_24 ?_
    obtain ⟨t4, ht4, hk⟩ := ab_bnd hk
    refine ab_iald (pc := 25) dX2_offer_25 ht4 ?_
    refine ab_sub_ (lv2 := [some (ab_R a0), some (ab_I a1), some (ab_I a2), none, none]) (ab_ss (ab_ss (ab_ss (ab_sn (ab_sn ab_s0))))) ?_
    exact e_X2_offer_J26 _ _ _ _ _ _ hk
  · have hk := ab_ifp hk hc
    refine ab_aload_n (pc := 8) (i := 0) dX2_offer_8 rfl rfl ?_
    obtain ⟨t5, ht5, hk⟩ := ab_bnd hk
    refine ab_getI (pc := 9) dX2_offer_9 fl_RX2_28 ht5 ?_
    refine ab_goto (pc := 12) (tgt := 26) dX2_offer_12 rfl ?_
    refine ab_sub_ (lv2 := [some (ab_R a0), some (ab_I a1), some (ab_I a2), none, none]) (ab_ss (ab_ss (ab_ss (ab_sn (ab_sn ab_s0))))) ?_
    exact e_X2_offer_J26 _ _ _ _ _ _ hk
theorem dX2_turn_0 : decode cX2_turn 0 = .ok (.aload_n 0, 1) := by decide +kernel
theorem dX2_turn_1 : decode cX2_turn 1 = .ok (.getfield 18, 3) := by decide +kernel
theorem dX2_turn_4 : decode cX2_turn 4 = .ok (.bipush 6, 2) := by decide +kernel
theorem dX2_turn_6 : decode cX2_turn 6 = .ok (.imul, 1) := by decide +kernel
theorem dX2_turn_7 : decode cX2_turn 7 = .ok (.istore_n 3, 1) := by decide +kernel
theorem dX2_turn_8 : decode cX2_turn 8 = .ok (.aload_n 0, 1) := by decide +kernel
theorem dX2_turn_9 : decode cX2_turn 9 = .ok (.aload_n 2, 1) := by decide +kernel
theorem dX2_turn_10 : decode cX2_turn 10 = .ok (.getfield 22, 3) := by decide +kernel
theorem dX2_turn_13 : decode cX2_turn 13 = .ok (.iload_n 3, 1) := by decide +kernel
theorem dX2_turn_14 : decode cX2_turn 14 = .ok (.aload_n 0, 1) := by decide +kernel
theorem dX2_turn_15 : decode cX2_turn 15 = .ok (.getfield 25, 3) := by decide +kernel
theorem dX2_turn_18 : decode cX2_turn 18 = .ok (.iadd, 1) := by decide +kernel
theorem dX2_turn_19 : decode cX2_turn 19 = .ok (.iaload, 1) := by decide +kernel
theorem dX2_turn_20 : decode cX2_turn 20 = .ok (.putfield 28, 3) := by decide +kernel
theorem dX2_turn_23 : decode cX2_turn 23 = .ok (.aload_n 0, 1) := by decide +kernel
theorem dX2_turn_24 : decode cX2_turn 24 = .ok (.iconst 0, 1) := by decide +kernel
theorem dX2_turn_25 : decode cX2_turn 25 = .ok (.putfield 31, 3) := by decide +kernel
theorem dX2_turn_28 : decode cX2_turn 28 = .ok (.aload_n 0, 1) := by decide +kernel
theorem dX2_turn_29 : decode cX2_turn 29 = .ok (.iconst 0, 1) := by decide +kernel
theorem dX2_turn_30 : decode cX2_turn 30 = .ok (.putfield 34, 3) := by decide +kernel
theorem dX2_turn_33 : decode cX2_turn 33 = .ok (.aload_n 0, 1) := by decide +kernel
theorem dX2_turn_34 : decode cX2_turn 34 = .ok (.iconst 0, 1) := by decide +kernel
theorem dX2_turn_35 : decode cX2_turn 35 = .ok (.putfield 37, 3) := by decide +kernel
theorem dX2_turn_38 : decode cX2_turn 38 = .ok (.iload_n 1, 1) := by decide +kernel
theorem dX2_turn_39 : decode cX2_turn 39 = .ok (.iconst 1, 1) := by decide +kernel
theorem dX2_turn_40 : decode cX2_turn 40 = .ok (.if_icmp .eq 38, 3) := by decide +kernel
theorem dX2_turn_43 : decode cX2_turn 43 = .ok (.aload_n 0, 1) := by decide +kernel
theorem dX2_turn_44 : decode cX2_turn 44 = .ok (.getfield 25, 3) := by decide +kernel
theorem dX2_turn_47 : decode cX2_turn 47 = .ok (.iconst 1, 1) := by decide +kernel
theorem dX2_turn_48 : decode cX2_turn 48 = .ok (.isub, 1) := by decide +kernel
theorem dX2_turn_49 : decode cX2_turn 49 = .ok (.istore 4, 2) := by decide +kernel
theorem dX2_turn_51 : decode cX2_turn 51 = .ok (.iload 4, 2) := by decide +kernel
theorem dX2_turn_53 : decode cX2_turn 53 = .ok (.ifCond .lt 25, 3) := by decide +kernel
theorem dX2_turn_56 : decode cX2_turn 56 = .ok (.aload_n 0, 1) := by decide +kernel
theorem dX2_turn_57 : decode cX2_turn 57 = .ok (.iload 4, 2) := by decide +kernel
theorem dX2_turn_59 : decode cX2_turn 59 = .ok (.aload_n 2, 1) := by decide +kernel
theorem dX2_turn_60 : decode cX2_turn 60 = .ok (.getfield 22, 3) := by decide +kernel
theorem dX2_turn_63 : decode cX2_turn 63 = .ok (.iload_n 3, 1) := by decide +kernel
theorem dX2_turn_64 : decode cX2_turn 64 = .ok (.iload 4, 2) := by decide +kernel
theorem dX2_turn_66 : decode cX2_turn 66 = .ok (.iadd, 1) := by decide +kernel
theorem dX2_turn_67 : decode cX2_turn 67 = .ok (.iaload, 1) := by decide +kernel
theorem dX2_turn_68 : decode cX2_turn 68 = .ok (.iconst 0, 1) := by decide +kernel
theorem dX2_turn_69 : decode cX2_turn 69 = .ok (.invokevirtual 40, 3) := by decide +kernel
theorem dX2_turn_72 : decode cX2_turn 72 = .ok (.iinc 4 (-1), 3) := by decide +kernel
theorem dX2_turn_75 : decode cX2_turn 75 = .ok (.goto (-24), 3) := by decide +kernel
theorem dX2_turn_78 : decode cX2_turn 78 = .ok (.iload_n 1, 1) := by decide +kernel
theorem dX2_turn_79 : decode cX2_turn 79 = .ok (.iconst 2, 1) := by decide +kernel
theorem dX2_turn_80 : decode cX2_turn 80 = .ok (.if_icmp .eq 11, 3) := by decide +kernel
theorem dX2_turn_83 : decode cX2_turn 83 = .ok (.aload_n 0, 1) := by decide +kernel
theorem dX2_turn_84 : decode cX2_turn 84 = .ok (.aload_n 0, 1) := by decide +kernel
theorem dX2_turn_85 : decode cX2_turn 85 = .ok (.getfield 34, 3) := by decide +kernel
theorem dX2_turn_88 : decode cX2_turn 88 = .ok (.putfield 31, 3) := by decide +kernel
theorem dX2_turn_91 : decode cX2_turn 91 = .ok (.iload_n 1, 1) := by decide +kernel
theorem dX2_turn_92 : decode cX2_turn 92 = .ok (.iconst 1, 1) := by decide +kernel
theorem dX2_turn_93 : decode cX2_turn 93 = .ok (.if_icmp .ne 7, 3) := by decide +kernel
theorem dX2_turn_96 : decode cX2_turn 96 = .ok (.iconst 0, 1) := by decide +kernel
theorem dX2_turn_97 : decode cX2_turn 97 = .ok (.goto 9, 3) := by decide +kernel
theorem dX2_turn_100 : decode cX2_turn 100 = .ok (.aload_n 0, 1) := by decide +kernel
theorem dX2_turn_101 : decode cX2_turn 101 = .ok (.getfield 25, 3) := by decide +kernel
theorem dX2_turn_104 : decode cX2_turn 104 = .ok (.iconst 1, 1) := by decide +kernel
theorem dX2_turn_105 : decode cX2_turn 105 = .ok (.iadd, 1) := by decide +kernel
theorem dX2_turn_106 : decode cX2_turn 106 = .ok (.istore 4, 2) := by decide +kernel
theorem dX2_turn_108 : decode cX2_turn 108 = .ok (.iload 4, 2) := by decide +kernel
theorem dX2_turn_110 : decode cX2_turn 110 = .ok (.istore 5, 2) := by decide +kernel
theorem dX2_turn_112 : decode cX2_turn 112 = .ok (.iload 5, 2) := by decide +kernel
theorem dX2_turn_114 : decode cX2_turn 114 = .ok (.aload_n 2, 1) := by decide +kernel
theorem dX2_turn_115 : decode cX2_turn 115 = .ok (.getfield 44, 3) := by decide +kernel
theorem dX2_turn_118 : decode cX2_turn 118 = .ok (.aload_n 0, 1) := by decide +kernel
theorem dX2_turn_119 : decode cX2_turn 119 = .ok (.getfield 18, 3) := by decide +kernel
theorem dX2_turn_122 : decode cX2_turn 122 = .ok (.iaload, 1) := by decide +kernel
theorem dX2_turn_123 : decode cX2_turn 123 = .ok (.if_icmp .ge 37, 3) := by decide +kernel
theorem dX2_turn_126 : decode cX2_turn 126 = .ok (.iload 5, 2) := by decide +kernel
theorem dX2_turn_128 : decode cX2_turn 128 = .ok (.aload_n 0, 1) := by decide +kernel
theorem dX2_turn_129 : decode cX2_turn 129 = .ok (.getfield 25, 3) := by decide +kernel
theorem dX2_turn_132 : decode cX2_turn 132 = .ok (.if_icmp .eq 22, 3) := by decide +kernel
theorem dX2_turn_135 : decode cX2_turn 135 = .ok (.aload_n 0, 1) := by decide +kernel
theorem dX2_turn_136 : decode cX2_turn 136 = .ok (.iload 5, 2) := by decide +kernel
theorem dX2_turn_138 : decode cX2_turn 138 = .ok (.aload_n 2, 1) := by decide +kernel
theorem dX2_turn_139 : decode cX2_turn 139 = .ok (.getfield 22, 3) := by decide +kernel
theorem dX2_turn_142 : decode cX2_turn 142 = .ok (.iload_n 3, 1) := by decide +kernel
theorem dX2_turn_143 : decode cX2_turn 143 = .ok (.iload 5, 2) := by decide +kernel
theorem dX2_turn_145 : decode cX2_turn 145 = .ok (.iadd, 1) := by decide +kernel
theorem dX2_turn_146 : decode cX2_turn 146 = .ok (.iaload, 1) := by decide +kernel
theorem dX2_turn_147 : decode cX2_turn 147 = .ok (.aload_n 0, 1) := by decide +kernel
theorem dX2_turn_148 : decode cX2_turn 148 = .ok (.getfield 31, 3) := by decide +kernel
theorem dX2_turn_151 : decode cX2_turn 151 = .ok (.invokevirtual 40, 3) := by decide +kernel
theorem dX2_turn_154 : decode cX2_turn 154 = .ok (.iinc 5 1, 3) := by decide +kernel
theorem dX2_turn_157 : decode cX2_turn 157 = .ok (.goto (-45), 3) := by decide +kernel
theorem dX2_turn_160 : decode cX2_turn 160 = .ok (.iload_n 1, 1) := by decide +kernel
theorem dX2_turn_161 : decode cX2_turn 161 = .ok (.iconst 2, 1) := by decide +kernel
theorem dX2_turn_162 : decode cX2_turn 162 = .ok (.if_icmp .ne 11, 3) := by decide +kernel
theorem dX2_turn_165 : decode cX2_turn 165 = .ok (.aload_n 0, 1) := by decide +kernel
theorem dX2_turn_166 : decode cX2_turn 166 = .ok (.aload_n 0, 1) := by decide +kernel
theorem dX2_turn_167 : decode cX2_turn 167 = .ok (.getfield 34, 3) := by decide +kernel
theorem dX2_turn_170 : decode cX2_turn 170 = .ok (.putfield 31, 3) := by decide +kernel
theorem dX2_turn_173 : decode cX2_turn 173 = .ok (.return_, 1) := by decide +kernel
abbrev mm_X2_turn : ab_M := (RX2, 6, none, false, 1, 24, none)
noncomputable def f_X2_turn_J154 (rec : Int → Int → Int → Int → Int → ab_H → Option ab_H) (k160 : Int → Int → ab_H → Option ab_H) (v0 : Int) (v1 : Int) (v2 : Int) (v3 : Int) (v5 : Int) (h : ab_H) : Option ab_H :=
  rec v0 v1 v2 v3 (ab_w32 (v5 + (1 : Int))) h
set_option maxRecDepth 20000 in
theorem e_X2_turn_J154 {rec : Int → Int → Int → Int → Int → ab_H → Option ab_H} {k160 : Int → Int → ab_H → Option ab_H} (hrec : ∀ (v0 : Int) (v1 : Int) (v2 : Int) (v3 : Int) (v5 : Int) (h : ab_H) (q : ab_H), rec v0 v1 v2 v3 v5 h = some q → ab_E mm_X2_turn cX2_turn 112 [some (ab_R v0), some (ab_I v1), some (ab_R v2), some (ab_I v3), none, some (ab_I v5)] [] h none q) (hk160 : ∀ (v0 : Int) (v1 : Int) (h : ab_H) (q : ab_H), k160 v0 v1 h = some q → ab_E mm_X2_turn cX2_turn 160 [some (ab_R v0), some (ab_I v1), none, none, none, none] [] h none q) : ∀ (v0 : Int) (v1 : Int) (v2 : Int) (v3 : Int) (v5 : Int) (h : ab_H) (q : ab_H), f_X2_turn_J154 rec k160 v0 v1 v2 v3 v5 h = some q → ab_E mm_X2_turn cX2_turn 154 [some (ab_R v0), some (ab_I v1), some (ab_R v2), some (ab_I v3), none, some (ab_I v5)] [] h none q := by
  intro v0 v1 v2 v3 v5 h q hk
  unfold f_X2_turn_J154 at hk
  refine ab_iinc (pc := 154) (i := 5) (lv2 := [some (ab_R v0), some (ab_I v1), some (ab_R v2), some (ab_I v3), none, some (ab_I (ab_w32 (v5 + (1 : Int))))]) dX2_turn_154 rfl (Nat.le_of_ble_eq_true rfl) rfl rfl ?_
  refine ab_goto (pc := 157) (tgt := 112) dX2_turn_157 rfl ?_
  refine ab_sub_ (lv2 := [some (ab_R v0), some (ab_I v1), some (ab_R v2), some (ab_I v3), none, some (ab_I (ab_w32 (v5 + (1 : Int))))]) (ab_ss (ab_ss (ab_ss (ab_ss (ab_sn (ab_ss ab_s0)))))) ?_
  exact hrec _ _ _ _ _ _ _ hk
noncomputable def f_X2_turn_L112 (k160 : Int → Int → ab_H → Option ab_H) : Nat → Int → Int → Int → Int → Int → ab_H → Option ab_H
  | 0, _, _, _, _, _, _ => none
  | n + 1, v0, v1, v2, v3, v5, h =>
    (ab_get h 6 1 v2).bind fun t1 =>
    (ab_get h 3 0 v0).bind fun t2 =>
    (ab_ald h 11 t1 t2).bind fun t3 =>
    if t3 ≤ v5 then
      k160 v0 v1 h
    else
    (ab_get h 3 2 v0).bind fun t4 =>
    if v5 = t4 then
      f_X2_turn_J154 (f_X2_turn_L112 k160 n) k160 v0 v1 v2 v3 v5 h
    else
    (ab_get h 6 3 v2).bind fun t5 =>
    (ab_ald h 11 t5 (ab_w32 (v3 + v5))).bind fun t6 =>
    (ab_get h 3 6 v0).bind fun t7 =>
    (ab_on h 3 v0 (f_X2_offer v0 v5 t6 t7 h)).bind fun q8 =>
    f_X2_turn_J154 (f_X2_turn_L112 k160 n) k160 v0 v1 v2 v3 v5 q8
set_option maxRecDepth 20000 in
theorem e_X2_turn_L112 {k160 : Int → Int → ab_H → Option ab_H} (hk160 : ∀ (v0 : Int) (v1 : Int) (h : ab_H) (q : ab_H), k160 v0 v1 h = some q → ab_E mm_X2_turn cX2_turn 160 [some (ab_R v0), some (ab_I v1), none, none, none, none] [] h none q) : ∀ (n : Nat) (v0 : Int) (v1 : Int) (v2 : Int) (v3 : Int) (v5 : Int) (h : ab_H) (q : ab_H), f_X2_turn_L112 k160 n v0 v1 v2 v3 v5 h = some q → ab_E mm_X2_turn cX2_turn 112 [some (ab_R v0), some (ab_I v1), some (ab_R v2), some (ab_I v3), none, some (ab_I v5)] [] h none q := by
  intro n
  induction n with
  | zero => intro v0 v1 v2 v3 v5 h q hk; cases hk
  | succ n ih =>
    intro v0 v1 v2 v3 v5 h q hk
    unfold f_X2_turn_L112 at hk
    refine ab_iload (pc := 112) (i := 5) dX2_turn_112 rfl ?_
    refine ab_aload_n (pc := 114) (i := 2) dX2_turn_114 rfl rfl ?_
    obtain ⟨t1, ht1, hk⟩ := ab_bnd hk
    refine ab_getR (pc := 115) dX2_turn_115 fl_RX2_44 ht1 ?_
    refine ab_aload_n (pc := 118) (i := 0) dX2_turn_118 rfl rfl ?_
    obtain ⟨t2, ht2, hk⟩ := ab_bnd hk
    refine ab_getI (pc := 119) dX2_turn_119 fl_RX2_18 ht2 ?_
    obtain ⟨t3, ht3, hk⟩ := ab_bnd hk
    refine ab_iald (pc := 122) dX2_turn_122 ht3 ?_
    refine ab_icmp_ge (pc := 123) (tgt := 160) dX2_turn_123 rfl (fun hc => ?_) (fun hc => ?_)
    · have hk := ab_ifp hk hc
      refine ab_sub_ (lv2 := [some (ab_R v0), some (ab_I v1), none, none, none, none]) (ab_ss (ab_ss (ab_sn (ab_sn (ab_sn (ab_sn ab_s0)))))) ?_
      exact hk160 _ _ _ _ hk
    · have hk := ab_ifn hk hc
      refine ab_iload (pc := 126) (i := 5) dX2_turn_126 rfl ?_
      refine ab_aload_n (pc := 128) (i := 0) dX2_turn_128 rfl rfl ?_
      obtain ⟨t4, ht4, hk⟩ := ab_bnd hk
      refine ab_getI (pc := 129) dX2_turn_129 fl_RX2_25 ht4 ?_
      refine ab_icmp_eq (pc := 132) (tgt := 154) dX2_turn_132 rfl (fun hc => ?_) (fun hc => ?_)
      · have hk := ab_ifp hk hc
        refine ab_sub_ (lv2 := [some (ab_R v0), some (ab_I v1), some (ab_R v2), some (ab_I v3), none, some (ab_I v5)]) (ab_ss (ab_ss (ab_ss (ab_ss (ab_sn (ab_ss ab_s0)))))) ?_
        exact e_X2_turn_J154 ih hk160 _ _ _ _ _ _ _ hk
      · have hk := ab_ifn hk hc
        refine ab_aload_n (pc := 135) (i := 0) dX2_turn_135 rfl rfl ?_
        refine ab_iload (pc := 136) (i := 5) dX2_turn_136 rfl ?_
        refine ab_aload_n (pc := 138) (i := 2) dX2_turn_138 rfl rfl ?_
        obtain ⟨t5, ht5, hk⟩ := ab_bnd hk
        refine ab_getR (pc := 139) dX2_turn_139 fl_RX2_22 ht5 ?_
        refine ab_iload_n (pc := 142) (i := 3) dX2_turn_142 rfl rfl ?_
        refine ab_iload (pc := 143) (i := 5) dX2_turn_143 rfl ?_
        refine ab_iadd (pc := 145) dX2_turn_145 ?_
        obtain ⟨t6, ht6, hk⟩ := ab_bnd hk
        refine ab_iald (pc := 146) dX2_turn_146 ht6 ?_
        refine ab_aload_n (pc := 147) (i := 0) dX2_turn_147 rfl rfl ?_
        obtain ⟨t7, ht7, hk⟩ := ab_bnd hk
        refine ab_getI (pc := 148) dX2_turn_148 fl_RX2_31 ht7 ?_
        obtain ⟨q8, hq8, hk⟩ := ab_bnd hk
        obtain ⟨hb, hq8⟩ := ab_on_some hq8
        refine ab_callVV (st := []) (as := [ab_I v5, ab_I t6, ab_I t7]) (b := v0) (pc := 151) dX2_turn_151 ml_RX2_40 my_X2_offer mv_X2_offer hb (ct_X2_offer hq8) ⟨Nat.le_of_ble_eq_true rfl, Nat.le_of_ble_eq_true rfl⟩ rfl (Nat.le_of_ble_eq_true rfl) rfl ?_
        refine ab_sub_ (lv2 := [some (ab_R v0), some (ab_I v1), some (ab_R v2), some (ab_I v3), none, some (ab_I v5)]) (ab_ss (ab_ss (ab_ss (ab_ss (ab_sn (ab_ss ab_s0)))))) ?_
        exact e_X2_turn_J154 ih hk160 _ _ _ _ _ _ _ hk
noncomputable def f_X2_turn_J106 (v0 : Int) (v1 : Int) (v2 : Int) (v3 : Int) (s0 : Int) (h : ab_H) : Option ab_H :=
  f_X2_turn_L112 (fun w160_0 w160_1 hx160 =>
    if w160_1 = (2 : Int) then
      (ab_get hx160 3 7 w160_0).bind fun t1 =>
      (ab_put hx160 3 6 w160_0 t1).bind fun h1 =>
      some h1
    else
    some hx160) ab_FU v0 v1 v2 v3 s0 h
set_option maxRecDepth 20000 in
theorem e_X2_turn_J106 : ∀ (v0 : Int) (v1 : Int) (v2 : Int) (v3 : Int) (s0 : Int) (h : ab_H) (q : ab_H), f_X2_turn_J106 v0 v1 v2 v3 s0 h = some q → ab_E mm_X2_turn cX2_turn 106 [some (ab_R v0), some (ab_I v1), some (ab_R v2), some (ab_I v3), none, none] [ab_I s0] h none q := by
  intro v0 v1 v2 v3 s0 h q hk
  unfold f_X2_turn_J106 at hk
  refine ab_istore (pc := 106) (i := 4) (lv2 := [some (ab_R v0), some (ab_I v1), some (ab_R v2), some (ab_I v3), some (ab_I s0), none]) dX2_turn_106 (Nat.le_of_ble_eq_true rfl) rfl rfl ?_
  refine ab_iload (pc := 108) (i := 4) dX2_turn_108 rfl ?_
  refine ab_istore (pc := 110) (i := 5) (lv2 := [some (ab_R v0), some (ab_I v1), some (ab_R v2), some (ab_I v3), some (ab_I s0), some (ab_I s0)]) dX2_turn_110 (Nat.le_of_ble_eq_true rfl) rfl rfl ?_
  refine ab_sub_ (lv2 := [some (ab_R v0), some (ab_I v1), some (ab_R v2), some (ab_I v3), none, some (ab_I s0)]) (ab_ss (ab_ss (ab_ss (ab_ss (ab_sn (ab_ss ab_s0)))))) ?_
  refine e_X2_turn_L112 (fun w160_0 w160_1 hx160 q hk => ?_) _ _ _ _ _ _ _ _ hk
  · skip
    refine ab_iload_n (pc := 160) (i := 1) dX2_turn_160 rfl rfl ?_
    refine ab_iconst (pc := 161) dX2_turn_161 ab_k_2 ?_
    refine ab_icmp_ne (pc := 162) (tgt := 173) dX2_turn_162 rfl (fun hc => ?_) (fun hc => ?_)
    · have hk := ab_ifn hk hc
      obtain rfl := Option.some.inj hk
      exact ab_retv (pc := 173) dX2_turn_173 rfl
    · have hk := ab_ifp hk hc
      refine ab_aload_n (pc := 165) (i := 0) dX2_turn_165 rfl rfl ?_
      refine ab_aload_n (pc := 166) (i := 0) dX2_turn_166 rfl rfl ?_
      obtain ⟨t1, ht1, hk⟩ := ab_bnd hk
      refine ab_getI (pc := 167) dX2_turn_167 fl_RX2_34 ht1 ?_
      obtain ⟨h1, hh1, hk⟩ := ab_bnd hk
      refine ab_putI_ (pc := 170) dX2_turn_170 fl_RX2_31 (fun q => by cases q) hh1 ?_
      obtain rfl := Option.some.inj hk
      exact ab_retv (pc := 173) dX2_turn_173 rfl
noncomputable def f_X2_turn_J91 (v0 : Int) (v1 : Int) (v2 : Int) (v3 : Int) (h : ab_H) : Option ab_H :=
  if v1 = (1 : Int) then
    f_X2_turn_J106 v0 v1 v2 v3 (0 : Int) h
  else
  (ab_get h 3 2 v0).bind fun t1 =>
  f_X2_turn_J106 v0 v1 v2 v3 (ab_w32 (t1 + (1 : Int))) h
set_option maxRecDepth 20000 in
theorem e_X2_turn_J91 : ∀ (v0 : Int) (v1 : Int) (v2 : Int) (v3 : Int) (h : ab_H) (q : ab_H), f_X2_turn_J91 v0 v1 v2 v3 h = some q → ab_E mm_X2_turn cX2_turn 91 [some (ab_R v0), some (ab_I v1), some (ab_R v2), some (ab_I v3), none, none] [] h none q := by
  intro v0 v1 v2 v3 h q hk
  unfold f_X2_turn_J91 at hk
  refine ab_iload_n (pc := 91) (i := 1) dX2_turn_91 rfl rfl ?_
  refine ab_iconst (pc := 92) dX2_turn_92 ab_k_1 ?_
  refine ab_icmp_ne (pc := 93) (tgt := 100) dX2_turn_93 rfl (fun hc => ?_) (fun hc => ?_)
  · have hk := ab_ifn hk hc
    refine ab_aload_n (pc := 100) (i := 0) dX2_turn_100 rfl rfl ?_
    obtain ⟨t1, ht1, hk⟩ := ab_bnd hk
    refine ab_getI (pc := 101) dX2_turn_101 fl_RX2_25 ht1 ?_
    refine ab_iconst (pc := 104) dX2_turn_104 ab_k_1 ?_
    refine ab_iadd (pc := 105) dX2_turn_105 ?_
    refine ab_sub_ (lv2 := [some (ab_R v0), some (ab_I v1), some (ab_R v2), some (ab_I v3), none, none]) (ab_ss (ab_ss (ab_ss (ab_ss (ab_sn (ab_sn ab_s0)))))) ?_
    exact e_X2_turn_J106 _ _ _ _ _ _ _ hk
  · have hk := ab_ifp hk hc
    refine ab_iconst (pc := 96) dX2_turn_96 ab_k_0 ?_
    refine ab_goto (pc := 97) (tgt := 106) dX2_turn_97 rfl ?_
    refine ab_sub_ (lv2 := [some (ab_R v0), some (ab_I v1), some (ab_R v2), some (ab_I v3), none, none]) (ab_ss (ab_ss (ab_ss (ab_ss (ab_sn (ab_sn ab_s0)))))) ?_
    exact e_X2_turn_J106 _ _ _ _ _ _ _ hk
noncomputable def f_X2_turn_J78 (v0 : Int) (v1 : Int) (v2 : Int) (v3 : Int) (h : ab_H) : Option ab_H :=
  if v1 = (2 : Int) then
    f_X2_turn_J91 v0 v1 v2 v3 h
  else
  (ab_get h 3 7 v0).bind fun t1 =>
  (ab_put h 3 6 v0 t1).bind fun h1 =>
  f_X2_turn_J91 v0 v1 v2 v3 h1
set_option maxRecDepth 20000 in
theorem e_X2_turn_J78 : ∀ (v0 : Int) (v1 : Int) (v2 : Int) (v3 : Int) (h : ab_H) (q : ab_H), f_X2_turn_J78 v0 v1 v2 v3 h = some q → ab_E mm_X2_turn cX2_turn 78 [some (ab_R v0), some (ab_I v1), some (ab_R v2), some (ab_I v3), none, none] [] h none q := by
  intro v0 v1 v2 v3 h q hk
  unfold f_X2_turn_J78 at hk
  refine ab_iload_n (pc := 78) (i := 1) dX2_turn_78 rfl rfl ?_
  refine ab_iconst (pc := 79) dX2_turn_79 ab_k_2 ?_
  refine ab_icmp_eq (pc := 80) (tgt := 91) dX2_turn_80 rfl (fun hc => ?_) (fun hc => ?_)
  · have hk := ab_ifp hk hc
    refine ab_sub_ (lv2 := [some (ab_R v0), some (ab_I v1), some (ab_R v2), some (ab_I v3), none, none]) (ab_ss (ab_ss (ab_ss (ab_ss (ab_sn (ab_sn ab_s0)))))) ?_
    exact e_X2_turn_J91 _ _ _ _ _ _ hk
  · have hk := ab_ifn hk hc
    refine ab_aload_n (pc := 83) (i := 0) dX2_turn_83 rfl rfl ?_
    refine ab_aload_n (pc := 84) (i := 0) dX2_turn_84 rfl rfl ?_
    obtain ⟨t1, ht1, hk⟩ := ab_bnd hk
    refine ab_getI (pc := 85) dX2_turn_85 fl_RX2_34 ht1 ?_
    obtain ⟨h1, hh1, hk⟩ := ab_bnd hk
    refine ab_putI_ (pc := 88) dX2_turn_88 fl_RX2_31 (fun q => by cases q) hh1 ?_
    refine ab_sub_ (lv2 := [some (ab_R v0), some (ab_I v1), some (ab_R v2), some (ab_I v3), none, none]) (ab_ss (ab_ss (ab_ss (ab_ss (ab_sn (ab_sn ab_s0)))))) ?_
    exact e_X2_turn_J91 _ _ _ _ _ _ hk
noncomputable def f_X2_turn_L51 (k78 : Int → Int → Int → Int → ab_H → Option ab_H) : Nat → Int → Int → Int → Int → Int → ab_H → Option ab_H
  | 0, _, _, _, _, _, _ => none
  | n + 1, v0, v1, v2, v3, v4, h =>
    if v4 < (0 : Int) then
      k78 v0 v1 v2 v3 h
    else
    (ab_get h 6 3 v2).bind fun t1 =>
    (ab_ald h 11 t1 (ab_w32 (v3 + v4))).bind fun t2 =>
    (ab_on h 3 v0 (f_X2_offer v0 v4 t2 (0 : Int) h)).bind fun q3 =>
    f_X2_turn_L51 k78 n v0 v1 v2 v3 (ab_w32 (v4 + (-1 : Int))) q3
set_option maxRecDepth 20000 in
theorem e_X2_turn_L51 {k78 : Int → Int → Int → Int → ab_H → Option ab_H} (hk78 : ∀ (v0 : Int) (v1 : Int) (v2 : Int) (v3 : Int) (h : ab_H) (q : ab_H), k78 v0 v1 v2 v3 h = some q → ab_E mm_X2_turn cX2_turn 78 [some (ab_R v0), some (ab_I v1), some (ab_R v2), some (ab_I v3), none, none] [] h none q) : ∀ (n : Nat) (v0 : Int) (v1 : Int) (v2 : Int) (v3 : Int) (v4 : Int) (h : ab_H) (q : ab_H), f_X2_turn_L51 k78 n v0 v1 v2 v3 v4 h = some q → ab_E mm_X2_turn cX2_turn 51 [some (ab_R v0), some (ab_I v1), some (ab_R v2), some (ab_I v3), some (ab_I v4), none] [] h none q := by
  intro n
  induction n with
  | zero => intro v0 v1 v2 v3 v4 h q hk; cases hk
  | succ n ih =>
    intro v0 v1 v2 v3 v4 h q hk
    unfold f_X2_turn_L51 at hk
    refine ab_iload (pc := 51) (i := 4) dX2_turn_51 rfl ?_
    refine ab_if_lt (pc := 53) (tgt := 78) dX2_turn_53 rfl (fun hc => ?_) (fun hc => ?_)
    · have hk := ab_ifp hk hc
      refine ab_sub_ (lv2 := [some (ab_R v0), some (ab_I v1), some (ab_R v2), some (ab_I v3), none, none]) (ab_ss (ab_ss (ab_ss (ab_ss (ab_sn (ab_sn ab_s0)))))) ?_
      exact hk78 _ _ _ _ _ _ hk
    · have hk := ab_ifn hk hc
      refine ab_aload_n (pc := 56) (i := 0) dX2_turn_56 rfl rfl ?_
      refine ab_iload (pc := 57) (i := 4) dX2_turn_57 rfl ?_
      refine ab_aload_n (pc := 59) (i := 2) dX2_turn_59 rfl rfl ?_
      obtain ⟨t1, ht1, hk⟩ := ab_bnd hk
      refine ab_getR (pc := 60) dX2_turn_60 fl_RX2_22 ht1 ?_
      refine ab_iload_n (pc := 63) (i := 3) dX2_turn_63 rfl rfl ?_
      refine ab_iload (pc := 64) (i := 4) dX2_turn_64 rfl ?_
      refine ab_iadd (pc := 66) dX2_turn_66 ?_
      obtain ⟨t2, ht2, hk⟩ := ab_bnd hk
      refine ab_iald (pc := 67) dX2_turn_67 ht2 ?_
      refine ab_iconst (pc := 68) dX2_turn_68 ab_k_0 ?_
      obtain ⟨q3, hq3, hk⟩ := ab_bnd hk
      obtain ⟨hb, hq3⟩ := ab_on_some hq3
      refine ab_callVV (st := []) (as := [ab_I v4, ab_I t2, ab_I (0 : Int)]) (b := v0) (pc := 69) dX2_turn_69 ml_RX2_40 my_X2_offer mv_X2_offer hb (ct_X2_offer hq3) ⟨Nat.le_of_ble_eq_true rfl, Nat.le_of_ble_eq_true rfl⟩ rfl (Nat.le_of_ble_eq_true rfl) rfl ?_
      refine ab_iinc (pc := 72) (i := 4) (lv2 := [some (ab_R v0), some (ab_I v1), some (ab_R v2), some (ab_I v3), some (ab_I (ab_w32 (v4 + (-1 : Int)))), none]) dX2_turn_72 rfl (Nat.le_of_ble_eq_true rfl) rfl rfl ?_
      refine ab_goto (pc := 75) (tgt := 51) dX2_turn_75 rfl ?_
      refine ab_sub_ (lv2 := [some (ab_R v0), some (ab_I v1), some (ab_R v2), some (ab_I v3), some (ab_I (ab_w32 (v4 + (-1 : Int)))), none]) (ab_ss (ab_ss (ab_ss (ab_ss (ab_ss (ab_sn ab_s0)))))) ?_
      exact ih _ _ _ _ _ _ _ hk
noncomputable def f_X2_turn (a0 : Int) (a1 : Int) (a2 : Int) (h : ab_H) : Option ab_H :=
  (ab_get h 3 0 a0).bind fun t1 =>
  (ab_get h 6 3 a2).bind fun t2 =>
  (ab_get h 3 2 a0).bind fun t3 =>
  (ab_ald h 11 t2 (ab_w32 ((ab_w32 (t1 * (6 : Int))) + t3))).bind fun t4 =>
  (ab_put h 3 3 a0 t4).bind fun h1 =>
  (ab_put h1 3 6 a0 (0 : Int)).bind fun h2 =>
  (ab_put h2 3 7 a0 (0 : Int)).bind fun h3 =>
  (ab_put h3 3 8 a0 (0 : Int)).bind fun h4 =>
  if a1 = (1 : Int) then
    f_X2_turn_J78 a0 a1 a2 (ab_w32 (t1 * (6 : Int))) h4
  else
  (ab_get h4 3 2 a0).bind fun t5 =>
  f_X2_turn_L51 (fun w78_0 w78_1 w78_2 w78_3 hx78 =>
    f_X2_turn_J78 w78_0 w78_1 w78_2 w78_3 hx78) ab_FU a0 a1 a2 (ab_w32 (t1 * (6 : Int))) (ab_w32 (t5 - (1 : Int))) h4
set_option maxRecDepth 20000 in
theorem ct_X2_turn {a0 a1 a2 : Int} {h : ab_H} {q : ab_H} (hk : f_X2_turn a0 a1 a2 h = some q) : ab_CT yX2_turn cX2_turn 6 none 1 24 [ab_R a0, ab_I a1, ab_R a2] h none q := by
  refine ab_CT.mk_ 3 (own := RX2) (ini := false) (lv := [some (ab_R a0), some (ab_I a1), some (ab_R a2), none, none, none]) rfl (by decide +kernel) (fun q => by cases q) rfl rfl ?_
  unfold f_X2_turn at hk
  show ab_E mm_X2_turn cX2_turn 0 _ [] h _ _
  refine ab_aload_n (pc := 0) (i := 0) dX2_turn_0 rfl rfl ?_
  obtain ⟨t1, ht1, hk⟩ := ab_bnd hk
  refine ab_getI (pc := 1) dX2_turn_1 fl_RX2_18 ht1 ?_
  refine ab_bipush (pc := 4) dX2_turn_4 ab_p8_6 ab_k_6 ?_
  refine ab_imul (pc := 6) dX2_turn_6 ?_
  refine ab_istore_n (pc := 7) (i := 3) (lv2 := [some (ab_R a0), some (ab_I a1), some (ab_R a2), some (ab_I (ab_w32 (t1 * (6 : Int)))), none, none]) dX2_turn_7 rfl (Nat.le_of_ble_eq_true rfl) rfl rfl ?_
  refine ab_aload_n (pc := 8) (i := 0) dX2_turn_8 rfl rfl ?_
  refine ab_aload_n (pc := 9) (i := 2) dX2_turn_9 rfl rfl ?_
  obtain ⟨t2, ht2, hk⟩ := ab_bnd hk
  refine ab_getR (pc := 10) dX2_turn_10 fl_RX2_22 ht2 ?_
  refine ab_iload_n (pc := 13) (i := 3) dX2_turn_13 rfl rfl ?_
  refine ab_aload_n (pc := 14) (i := 0) dX2_turn_14 rfl rfl ?_
  obtain ⟨t3, ht3, hk⟩ := ab_bnd hk
  refine ab_getI (pc := 15) dX2_turn_15 fl_RX2_25 ht3 ?_
  refine ab_iadd (pc := 18) dX2_turn_18 ?_
  obtain ⟨t4, ht4, hk⟩ := ab_bnd hk
  refine ab_iald (pc := 19) dX2_turn_19 ht4 ?_
  obtain ⟨h1, hh1, hk⟩ := ab_bnd hk
  refine ab_putI_ (pc := 20) dX2_turn_20 fl_RX2_28 (fun q => by cases q) hh1 ?_
  refine ab_aload_n (pc := 23) (i := 0) dX2_turn_23 rfl rfl ?_
  refine ab_iconst (pc := 24) dX2_turn_24 ab_k_0 ?_
  obtain ⟨h2, hh2, hk⟩ := ab_bnd hk
  refine ab_putI_ (pc := 25) dX2_turn_25 fl_RX2_31 (fun q => by cases q) hh2 ?_
  refine ab_aload_n (pc := 28) (i := 0) dX2_turn_28 rfl rfl ?_
  refine ab_iconst (pc := 29) dX2_turn_29 ab_k_0 ?_
  obtain ⟨h3, hh3, hk⟩ := ab_bnd hk
  refine ab_putI_ (pc := 30) dX2_turn_30 fl_RX2_34 (fun q => by cases q) hh3 ?_
  refine ab_aload_n (pc := 33) (i := 0) dX2_turn_33 rfl rfl ?_
  refine ab_iconst (pc := 34) dX2_turn_34 ab_k_0 ?_
  obtain ⟨h4, hh4, hk⟩ := ab_bnd hk
  refine ab_putI_ (pc := 35) dX2_turn_35 fl_RX2_37 (fun q => by cases q) hh4 ?_
  refine ab_iload_n (pc := 38) (i := 1) dX2_turn_38 rfl rfl ?_
  refine ab_iconst (pc := 39) dX2_turn_39 ab_k_1 ?_
  refine ab_icmp_eq (pc := 40) (tgt := 78) dX2_turn_40 rfl (fun hc => ?_) (fun hc => ?_)
  · have hk := ab_ifp hk hc
    refine ab_sub_ (lv2 := [some (ab_R a0), some (ab_I a1), some (ab_R a2), some (ab_I (ab_w32 (t1 * (6 : Int)))), none, none]) (ab_ss (ab_ss (ab_ss (ab_ss (ab_sn (ab_sn ab_s0)))))) ?_
    exact e_X2_turn_J78 _ _ _ _ _ _ hk
  · have hk := ab_ifn hk hc
    refine ab_aload_n (pc := 43) (i := 0) dX2_turn_43 rfl rfl ?_
    obtain ⟨t5, ht5, hk⟩ := ab_bnd hk
    refine ab_getI (pc := 44) dX2_turn_44 fl_RX2_25 ht5 ?_
    refine ab_iconst (pc := 47) dX2_turn_47 ab_k_1 ?_
    refine ab_isub (pc := 48) dX2_turn_48 ?_
    refine ab_istore (pc := 49) (i := 4) (lv2 := [some (ab_R a0), some (ab_I a1), some (ab_R a2), some (ab_I (ab_w32 (t1 * (6 : Int)))), some (ab_I (ab_w32 (t5 - (1 : Int)))), none]) dX2_turn_49 (Nat.le_of_ble_eq_true rfl) rfl rfl ?_
    refine ab_sub_ (lv2 := [some (ab_R a0), some (ab_I a1), some (ab_R a2), some (ab_I (ab_w32 (t1 * (6 : Int)))), some (ab_I (ab_w32 (t5 - (1 : Int)))), none]) (ab_ss (ab_ss (ab_ss (ab_ss (ab_ss (ab_sn ab_s0)))))) ?_
    refine e_X2_turn_L51 (fun w78_0 w78_1 w78_2 w78_3 hx78 q hk => ?_) _ _ _ _ _ _ _ _ hk
    · skip
      refine ab_sub_ (lv2 := [some (ab_R w78_0), some (ab_I w78_1), some (ab_R w78_2), some (ab_I w78_3), none, none]) (ab_ss (ab_ss (ab_ss (ab_ss (ab_sn (ab_sn ab_s0)))))) ?_
      exact e_X2_turn_J78 _ _ _ _ _ _ hk
theorem dX2_compareRows_0 : decode cX2_compareRows 0 = .ok (.iload_n 2, 1) := by decide +kernel
theorem dX2_compareRows_1 : decode cX2_compareRows 1 = .ok (.istore 5, 2) := by decide +kernel
theorem dX2_compareRows_3 : decode cX2_compareRows 3 = .ok (.iload 5, 2) := by decide +kernel
theorem dX2_compareRows_5 : decode cX2_compareRows 5 = .ok (.iload_n 3, 1) := by decide +kernel
theorem dX2_compareRows_6 : decode cX2_compareRows 6 = .ok (.if_icmp .ge 49, 3) := by decide +kernel
theorem dX2_compareRows_9 : decode cX2_compareRows 9 = .ok (.iload 5, 2) := by decide +kernel
theorem dX2_compareRows_11 : decode cX2_compareRows 11 = .ok (.iload 4, 2) := by decide +kernel
theorem dX2_compareRows_13 : decode cX2_compareRows 13 = .ok (.if_icmp .ge 42, 3) := by decide +kernel
theorem dX2_compareRows_16 : decode cX2_compareRows 16 = .ok (.aload_n 0, 1) := by decide +kernel
theorem dX2_compareRows_17 : decode cX2_compareRows 17 = .ok (.getfield 15, 3) := by decide +kernel
theorem dX2_compareRows_20 : decode cX2_compareRows 20 = .ok (.iload 5, 2) := by decide +kernel
theorem dX2_compareRows_22 : decode cX2_compareRows 22 = .ok (.iaload, 1) := by decide +kernel
theorem dX2_compareRows_23 : decode cX2_compareRows 23 = .ok (.aload_n 1, 1) := by decide +kernel
theorem dX2_compareRows_24 : decode cX2_compareRows 24 = .ok (.getfield 15, 3) := by decide +kernel
theorem dX2_compareRows_27 : decode cX2_compareRows 27 = .ok (.iload 5, 2) := by decide +kernel
theorem dX2_compareRows_29 : decode cX2_compareRows 29 = .ok (.iaload, 1) := by decide +kernel
theorem dX2_compareRows_30 : decode cX2_compareRows 30 = .ok (.if_icmp .eq 19, 3) := by decide +kernel
theorem dX2_compareRows_33 : decode cX2_compareRows 33 = .ok (.aload_n 0, 1) := by decide +kernel
theorem dX2_compareRows_34 : decode cX2_compareRows 34 = .ok (.getfield 15, 3) := by decide +kernel
theorem dX2_compareRows_37 : decode cX2_compareRows 37 = .ok (.iload 5, 2) := by decide +kernel
theorem dX2_compareRows_39 : decode cX2_compareRows 39 = .ok (.iaload, 1) := by decide +kernel
theorem dX2_compareRows_40 : decode cX2_compareRows 40 = .ok (.aload_n 1, 1) := by decide +kernel
theorem dX2_compareRows_41 : decode cX2_compareRows 41 = .ok (.getfield 15, 3) := by decide +kernel
theorem dX2_compareRows_44 : decode cX2_compareRows 44 = .ok (.iload 5, 2) := by decide +kernel
theorem dX2_compareRows_46 : decode cX2_compareRows 46 = .ok (.iaload, 1) := by decide +kernel
theorem dX2_compareRows_47 : decode cX2_compareRows 47 = .ok (.isub, 1) := by decide +kernel
theorem dX2_compareRows_48 : decode cX2_compareRows 48 = .ok (.ireturn, 1) := by decide +kernel
theorem dX2_compareRows_49 : decode cX2_compareRows 49 = .ok (.iinc 5 1, 3) := by decide +kernel
theorem dX2_compareRows_52 : decode cX2_compareRows 52 = .ok (.goto (-49), 3) := by decide +kernel
theorem dX2_compareRows_55 : decode cX2_compareRows 55 = .ok (.iload_n 3, 1) := by decide +kernel
theorem dX2_compareRows_56 : decode cX2_compareRows 56 = .ok (.iload 4, 2) := by decide +kernel
theorem dX2_compareRows_58 : decode cX2_compareRows 58 = .ok (.isub, 1) := by decide +kernel
theorem dX2_compareRows_59 : decode cX2_compareRows 59 = .ok (.ireturn, 1) := by decide +kernel
abbrev mm_X2_compareRows : ab_M := (RX2, 6, (some .int), false, 0, 0, none)
noncomputable def f_X2_compareRows_L3 (k33 : Int → Int → Int → ab_H → Option (Int × ab_H)) : Nat → Int → Int → Int → Int → Int → ab_H → Option (Int × ab_H)
  | 0, _, _, _, _, _, _ => none
  | n + 1, v0, v1, v3, v4, v5, h =>
    if v3 ≤ v5 then
      some (ab_w32 (v3 - v4), h)
    else
    if v4 ≤ v5 then
      some (ab_w32 (v3 - v4), h)
    else
    (ab_get h 3 5 v0).bind fun t1 =>
    (ab_ald h 11 t1 v5).bind fun t2 =>
    (ab_get h 3 5 v1).bind fun t3 =>
    (ab_ald h 11 t3 v5).bind fun t4 =>
    if t2 = t4 then
      f_X2_compareRows_L3 k33 n v0 v1 v3 v4 (ab_w32 (v5 + (1 : Int))) h
    else
    k33 v0 v1 v5 h
set_option maxRecDepth 20000 in
theorem e_X2_compareRows_L3 {k33 : Int → Int → Int → ab_H → Option (Int × ab_H)} (hk33 : ∀ (v0 : Int) (v1 : Int) (v5 : Int) (h : ab_H) (q : Int × ab_H), k33 v0 v1 v5 h = some q → ab_E mm_X2_compareRows cX2_compareRows 33 [some (ab_R v0), some (ab_R v1), none, none, none, some (ab_I v5)] [] h (some (ab_I q.1)) q.2) : ∀ (n : Nat) (v0 : Int) (v1 : Int) (v3 : Int) (v4 : Int) (v5 : Int) (h : ab_H) (q : Int × ab_H), f_X2_compareRows_L3 k33 n v0 v1 v3 v4 v5 h = some q → ab_E mm_X2_compareRows cX2_compareRows 3 [some (ab_R v0), some (ab_R v1), none, some (ab_I v3), some (ab_I v4), some (ab_I v5)] [] h (some (ab_I q.1)) q.2 := by
  intro n
  induction n with
  | zero => intro v0 v1 v3 v4 v5 h q hk; cases hk
  | succ n ih =>
    intro v0 v1 v3 v4 v5 h q hk
    unfold f_X2_compareRows_L3 at hk
    refine ab_iload (pc := 3) (i := 5) dX2_compareRows_3 rfl ?_
    refine ab_iload_n (pc := 5) (i := 3) dX2_compareRows_5 rfl rfl ?_
    refine ab_icmp_ge (pc := 6) (tgt := 55) dX2_compareRows_6 rfl (fun hc => ?_) (fun hc => ?_)
    · have hk := ab_ifp hk hc
      refine ab_iload_n (pc := 55) (i := 3) dX2_compareRows_55 rfl rfl ?_
      refine ab_iload (pc := 56) (i := 4) dX2_compareRows_56 rfl ?_
      refine ab_isub (pc := 58) dX2_compareRows_58 ?_
      obtain rfl := Option.some.inj hk
      exact ab_reti (pc := 59) dX2_compareRows_59 (Or.inl rfl)
    · have hk := ab_ifn hk hc
      refine ab_iload (pc := 9) (i := 5) dX2_compareRows_9 rfl ?_
      refine ab_iload (pc := 11) (i := 4) dX2_compareRows_11 rfl ?_
      refine ab_icmp_ge (pc := 13) (tgt := 55) dX2_compareRows_13 rfl (fun hc => ?_) (fun hc => ?_)
      · have hk := ab_ifp hk hc
        refine ab_iload_n (pc := 55) (i := 3) dX2_compareRows_55 rfl rfl ?_
        refine ab_iload (pc := 56) (i := 4) dX2_compareRows_56 rfl ?_
        refine ab_isub (pc := 58) dX2_compareRows_58 ?_
        obtain rfl := Option.some.inj hk
        exact ab_reti (pc := 59) dX2_compareRows_59 (Or.inl rfl)
      · have hk := ab_ifn hk hc
        refine ab_aload_n (pc := 16) (i := 0) dX2_compareRows_16 rfl rfl ?_
        obtain ⟨t1, ht1, hk⟩ := ab_bnd hk
        refine ab_getR (pc := 17) dX2_compareRows_17 fl_RX2_15 ht1 ?_
        refine ab_iload (pc := 20) (i := 5) dX2_compareRows_20 rfl ?_
        obtain ⟨t2, ht2, hk⟩ := ab_bnd hk
        refine ab_iald (pc := 22) dX2_compareRows_22 ht2 ?_
        refine ab_aload_n (pc := 23) (i := 1) dX2_compareRows_23 rfl rfl ?_
        obtain ⟨t3, ht3, hk⟩ := ab_bnd hk
        refine ab_getR (pc := 24) dX2_compareRows_24 fl_RX2_15 ht3 ?_
        refine ab_iload (pc := 27) (i := 5) dX2_compareRows_27 rfl ?_
        obtain ⟨t4, ht4, hk⟩ := ab_bnd hk
        refine ab_iald (pc := 29) dX2_compareRows_29 ht4 ?_
        refine ab_icmp_eq (pc := 30) (tgt := 49) dX2_compareRows_30 rfl (fun hc => ?_) (fun hc => ?_)
        · have hk := ab_ifp hk hc
          refine ab_iinc (pc := 49) (i := 5) (lv2 := [some (ab_R v0), some (ab_R v1), none, some (ab_I v3), some (ab_I v4), some (ab_I (ab_w32 (v5 + (1 : Int))))]) dX2_compareRows_49 rfl (Nat.le_of_ble_eq_true rfl) rfl rfl ?_
          refine ab_goto (pc := 52) (tgt := 3) dX2_compareRows_52 rfl ?_
          refine ab_sub_ (lv2 := [some (ab_R v0), some (ab_R v1), none, some (ab_I v3), some (ab_I v4), some (ab_I (ab_w32 (v5 + (1 : Int))))]) (ab_ss (ab_ss (ab_sn (ab_ss (ab_ss (ab_ss ab_s0)))))) ?_
          exact ih _ _ _ _ _ _ _ hk
        · have hk := ab_ifn hk hc
          refine ab_sub_ (lv2 := [some (ab_R v0), some (ab_R v1), none, none, none, some (ab_I v5)]) (ab_ss (ab_ss (ab_sn (ab_sn (ab_sn (ab_ss ab_s0)))))) ?_
          exact hk33 _ _ _ _ _ hk
noncomputable def f_X2_compareRows (a0 : Int) (a1 : Int) (a2 : Int) (a3 : Int) (a4 : Int) (h : ab_H) : Option (Int × ab_H) :=
  f_X2_compareRows_L3 (fun w33_0 w33_1 w33_5 hx33 =>
    (ab_get hx33 3 5 w33_0).bind fun t1 =>
    (ab_ald hx33 11 t1 w33_5).bind fun t2 =>
    (ab_get hx33 3 5 w33_1).bind fun t3 =>
    (ab_ald hx33 11 t3 w33_5).bind fun t4 =>
    some (ab_w32 (t2 - t4), hx33)) ab_FU a0 a1 a3 a4 a2 h
set_option maxRecDepth 20000 in
theorem ct_X2_compareRows {a0 a1 a2 a3 a4 : Int} {h : ab_H} {q : Int × ab_H} (hk : f_X2_compareRows a0 a1 a2 a3 a4 h = some q) : ab_CT yX2_compareRows cX2_compareRows 6 (some .int) 0 0 [ab_R a0, ab_R a1, ab_I a2, ab_I a3, ab_I a4] h (some (ab_I q.1)) q.2 := by
  refine ab_CT.mk_ 1 (own := RX2) (ini := false) (lv := [some (ab_R a0), some (ab_R a1), some (ab_I a2), some (ab_I a3), some (ab_I a4), none]) rfl (by decide +kernel) (fun q => by cases q) rfl rfl ?_
  unfold f_X2_compareRows at hk
  show ab_E mm_X2_compareRows cX2_compareRows 0 _ [] h _ _
  refine ab_iload_n (pc := 0) (i := 2) dX2_compareRows_0 rfl rfl ?_
  refine ab_istore (pc := 1) (i := 5) (lv2 := [some (ab_R a0), some (ab_R a1), some (ab_I a2), some (ab_I a3), some (ab_I a4), some (ab_I a2)]) dX2_compareRows_1 (Nat.le_of_ble_eq_true rfl) rfl rfl ?_
  refine ab_sub_ (lv2 := [some (ab_R a0), some (ab_R a1), none, some (ab_I a3), some (ab_I a4), some (ab_I a2)]) (ab_ss (ab_ss (ab_sn (ab_ss (ab_ss (ab_ss ab_s0)))))) ?_
  refine e_X2_compareRows_L3 (fun w33_0 w33_1 w33_5 hx33 q hk => ?_) _ _ _ _ _ _ _ _ hk
  · skip
    refine ab_aload_n (pc := 33) (i := 0) dX2_compareRows_33 rfl rfl ?_
    obtain ⟨t1, ht1, hk⟩ := ab_bnd hk
    refine ab_getR (pc := 34) dX2_compareRows_34 fl_RX2_15 ht1 ?_
    refine ab_iload (pc := 37) (i := 5) dX2_compareRows_37 rfl ?_
    obtain ⟨t2, ht2, hk⟩ := ab_bnd hk
    refine ab_iald (pc := 39) dX2_compareRows_39 ht2 ?_
    refine ab_aload_n (pc := 40) (i := 1) dX2_compareRows_40 rfl rfl ?_
    obtain ⟨t3, ht3, hk⟩ := ab_bnd hk
    refine ab_getR (pc := 41) dX2_compareRows_41 fl_RX2_15 ht3 ?_
    refine ab_iload (pc := 44) (i := 5) dX2_compareRows_44 rfl ?_
    obtain ⟨t4, ht4, hk⟩ := ab_bnd hk
    refine ab_iald (pc := 46) dX2_compareRows_46 ht4 ?_
    refine ab_isub (pc := 47) dX2_compareRows_47 ?_
    obtain rfl := Option.some.inj hk
    exact ab_reti (pc := 48) dX2_compareRows_48 (Or.inl rfl)
theorem dX2_compareWords_0 : decode cX2_compareWords 0 = .ok (.aload_n 0, 1) := by decide +kernel
theorem dX2_compareWords_1 : decode cX2_compareWords 1 = .ok (.getfield 28, 3) := by decide +kernel
theorem dX2_compareWords_4 : decode cX2_compareWords 4 = .ok (.aload_n 1, 1) := by decide +kernel
theorem dX2_compareWords_5 : decode cX2_compareWords 5 = .ok (.getfield 28, 3) := by decide +kernel
theorem dX2_compareWords_8 : decode cX2_compareWords 8 = .ok (.if_icmp .eq 13, 3) := by decide +kernel
theorem dX2_compareWords_11 : decode cX2_compareWords 11 = .ok (.aload_n 0, 1) := by decide +kernel
theorem dX2_compareWords_12 : decode cX2_compareWords 12 = .ok (.getfield 28, 3) := by decide +kernel
theorem dX2_compareWords_15 : decode cX2_compareWords 15 = .ok (.aload_n 1, 1) := by decide +kernel
theorem dX2_compareWords_16 : decode cX2_compareWords 16 = .ok (.getfield 28, 3) := by decide +kernel
theorem dX2_compareWords_19 : decode cX2_compareWords 19 = .ok (.isub, 1) := by decide +kernel
theorem dX2_compareWords_20 : decode cX2_compareWords 20 = .ok (.ireturn, 1) := by decide +kernel
theorem dX2_compareWords_21 : decode cX2_compareWords 21 = .ok (.aload_n 0, 1) := by decide +kernel
theorem dX2_compareWords_22 : decode cX2_compareWords 22 = .ok (.aload_n 1, 1) := by decide +kernel
theorem dX2_compareWords_23 : decode cX2_compareWords 23 = .ok (.iconst 0, 1) := by decide +kernel
theorem dX2_compareWords_24 : decode cX2_compareWords 24 = .ok (.aload_n 0, 1) := by decide +kernel
theorem dX2_compareWords_25 : decode cX2_compareWords 25 = .ok (.getfield 31, 3) := by decide +kernel
theorem dX2_compareWords_28 : decode cX2_compareWords 28 = .ok (.aload_n 1, 1) := by decide +kernel
theorem dX2_compareWords_29 : decode cX2_compareWords 29 = .ok (.getfield 31, 3) := by decide +kernel
theorem dX2_compareWords_32 : decode cX2_compareWords 32 = .ok (.invokevirtual 47, 3) := by decide +kernel
theorem dX2_compareWords_35 : decode cX2_compareWords 35 = .ok (.istore_n 2, 1) := by decide +kernel
theorem dX2_compareWords_36 : decode cX2_compareWords 36 = .ok (.iload_n 2, 1) := by decide +kernel
theorem dX2_compareWords_37 : decode cX2_compareWords 37 = .ok (.ifCond .eq 7, 3) := by decide +kernel
theorem dX2_compareWords_40 : decode cX2_compareWords 40 = .ok (.iload_n 2, 1) := by decide +kernel
theorem dX2_compareWords_41 : decode cX2_compareWords 41 = .ok (.goto 20, 3) := by decide +kernel
theorem dX2_compareWords_44 : decode cX2_compareWords 44 = .ok (.aload_n 0, 1) := by decide +kernel
theorem dX2_compareWords_45 : decode cX2_compareWords 45 = .ok (.aload_n 1, 1) := by decide +kernel
theorem dX2_compareWords_46 : decode cX2_compareWords 46 = .ok (.aload_n 0, 1) := by decide +kernel
theorem dX2_compareWords_47 : decode cX2_compareWords 47 = .ok (.getfield 31, 3) := by decide +kernel
theorem dX2_compareWords_50 : decode cX2_compareWords 50 = .ok (.aload_n 0, 1) := by decide +kernel
theorem dX2_compareWords_51 : decode cX2_compareWords 51 = .ok (.getfield 34, 3) := by decide +kernel
theorem dX2_compareWords_54 : decode cX2_compareWords 54 = .ok (.aload_n 1, 1) := by decide +kernel
theorem dX2_compareWords_55 : decode cX2_compareWords 55 = .ok (.getfield 34, 3) := by decide +kernel
theorem dX2_compareWords_58 : decode cX2_compareWords 58 = .ok (.invokevirtual 47, 3) := by decide +kernel
theorem dX2_compareWords_61 : decode cX2_compareWords 61 = .ok (.ireturn, 1) := by decide +kernel
abbrev mm_X2_compareWords : ab_M := (RX2, 3, (some .int), false, 1, 25, none)
noncomputable def f_X2_compareWords (a0 : Int) (a1 : Int) (h : ab_H) : Option (Int × ab_H) :=
  (ab_get h 3 3 a0).bind fun t1 =>
  (ab_get h 3 3 a1).bind fun t2 =>
  if t1 = t2 then
    (ab_get h 3 6 a0).bind fun t3 =>
    (ab_get h 3 6 a1).bind fun t4 =>
    (ab_on h 3 a0 (f_X2_compareRows a0 a1 (0 : Int) t3 t4 h)).bind fun q5 =>
    if q5.1 = (0 : Int) then
      (ab_get q5.2 3 6 a0).bind fun t6 =>
      (ab_get q5.2 3 7 a0).bind fun t7 =>
      (ab_get q5.2 3 7 a1).bind fun t8 =>
      (ab_on q5.2 3 a0 (f_X2_compareRows a0 a1 t6 t7 t8 q5.2)).bind fun q9 =>
      some (q9.1, q9.2)
    else
    some (q5.1, q5.2)
  else
  (ab_get h 3 3 a0).bind fun t10 =>
  (ab_get h 3 3 a1).bind fun t11 =>
  some (ab_w32 (t10 - t11), h)
set_option maxRecDepth 20000 in
theorem ct_X2_compareWords {a0 a1 : Int} {h : ab_H} {q : Int × ab_H} (hk : f_X2_compareWords a0 a1 h = some q) : ab_CT yX2_compareWords cX2_compareWords 3 (some .int) 1 25 [ab_R a0, ab_R a1] h (some (ab_I q.1)) q.2 := by
  refine ab_CT.mk_ 1 (own := RX2) (ini := false) (lv := [some (ab_R a0), some (ab_R a1), none]) rfl (by decide +kernel) (fun q => by cases q) rfl rfl ?_
  unfold f_X2_compareWords at hk
  show ab_E mm_X2_compareWords cX2_compareWords 0 _ [] h _ _
  refine ab_aload_n (pc := 0) (i := 0) dX2_compareWords_0 rfl rfl ?_
  obtain ⟨t1, ht1, hk⟩ := ab_bnd hk
  refine ab_getI (pc := 1) dX2_compareWords_1 fl_RX2_28 ht1 ?_
  refine ab_aload_n (pc := 4) (i := 1) dX2_compareWords_4 rfl rfl ?_
  obtain ⟨t2, ht2, hk⟩ := ab_bnd hk
  refine ab_getI (pc := 5) dX2_compareWords_5 fl_RX2_28 ht2 ?_
  refine ab_icmp_eq (pc := 8) (tgt := 21) dX2_compareWords_8 rfl (fun hc => ?_) (fun hc => ?_)
  · have hk := ab_ifp hk hc
    refine ab_aload_n (pc := 21) (i := 0) dX2_compareWords_21 rfl rfl ?_
    refine ab_aload_n (pc := 22) (i := 1) dX2_compareWords_22 rfl rfl ?_
    refine ab_iconst (pc := 23) dX2_compareWords_23 ab_k_0 ?_
    refine ab_aload_n (pc := 24) (i := 0) dX2_compareWords_24 rfl rfl ?_
    obtain ⟨t3, ht3, hk⟩ := ab_bnd hk
    refine ab_getI (pc := 25) dX2_compareWords_25 fl_RX2_31 ht3 ?_
    refine ab_aload_n (pc := 28) (i := 1) dX2_compareWords_28 rfl rfl ?_
    obtain ⟨t4, ht4, hk⟩ := ab_bnd hk
    refine ab_getI (pc := 29) dX2_compareWords_29 fl_RX2_31 ht4 ?_
    obtain ⟨q5, hq5, hk⟩ := ab_bnd hk
    obtain ⟨hb, hq5⟩ := ab_on_some hq5
    refine ab_callVI (st := []) (as := [ab_R a1, ab_I (0 : Int), ab_I t3, ab_I t4]) (b := a0) (pc := 32) dX2_compareWords_32 ml_RX2_47 my_X2_compareRows mv_X2_compareRows hb (ct_X2_compareRows hq5) ⟨Nat.le_of_ble_eq_true rfl, Nat.le_of_ble_eq_true rfl⟩ rfl (Nat.le_of_ble_eq_true rfl) rfl ?_
    refine ab_istore_n (pc := 35) (i := 2) (lv2 := [some (ab_R a0), some (ab_R a1), some (ab_I q5.1)]) dX2_compareWords_35 rfl (Nat.le_of_ble_eq_true rfl) rfl rfl ?_
    refine ab_iload_n (pc := 36) (i := 2) dX2_compareWords_36 rfl rfl ?_
    refine ab_if_eq (pc := 37) (tgt := 44) dX2_compareWords_37 rfl (fun hc => ?_) (fun hc => ?_)
    · have hk := ab_ifp hk hc
      refine ab_aload_n (pc := 44) (i := 0) dX2_compareWords_44 rfl rfl ?_
      refine ab_aload_n (pc := 45) (i := 1) dX2_compareWords_45 rfl rfl ?_
      refine ab_aload_n (pc := 46) (i := 0) dX2_compareWords_46 rfl rfl ?_
      obtain ⟨t6, ht6, hk⟩ := ab_bnd hk
      refine ab_getI (pc := 47) dX2_compareWords_47 fl_RX2_31 ht6 ?_
      refine ab_aload_n (pc := 50) (i := 0) dX2_compareWords_50 rfl rfl ?_
      obtain ⟨t7, ht7, hk⟩ := ab_bnd hk
      refine ab_getI (pc := 51) dX2_compareWords_51 fl_RX2_34 ht7 ?_
      refine ab_aload_n (pc := 54) (i := 1) dX2_compareWords_54 rfl rfl ?_
      obtain ⟨t8, ht8, hk⟩ := ab_bnd hk
      refine ab_getI (pc := 55) dX2_compareWords_55 fl_RX2_34 ht8 ?_
      obtain ⟨q9, hq9, hk⟩ := ab_bnd hk
      obtain ⟨hb, hq9⟩ := ab_on_some hq9
      refine ab_callVI (st := []) (as := [ab_R a1, ab_I t6, ab_I t7, ab_I t8]) (b := a0) (pc := 58) dX2_compareWords_58 ml_RX2_47 my_X2_compareRows mv_X2_compareRows hb (ct_X2_compareRows hq9) ⟨Nat.le_of_ble_eq_true rfl, Nat.le_of_ble_eq_true rfl⟩ rfl (Nat.le_of_ble_eq_true rfl) rfl ?_
      obtain rfl := Option.some.inj hk
      exact ab_reti (pc := 61) dX2_compareWords_61 (Or.inl rfl)
    · have hk := ab_ifn hk hc
      refine ab_iload_n (pc := 40) (i := 2) dX2_compareWords_40 rfl rfl ?_
      refine ab_goto (pc := 41) (tgt := 61) dX2_compareWords_41 rfl ?_
      obtain rfl := Option.some.inj hk
      exact ab_reti (pc := 61) dX2_compareWords_61 (Or.inl rfl)
  · have hk := ab_ifn hk hc
    refine ab_aload_n (pc := 11) (i := 0) dX2_compareWords_11 rfl rfl ?_
    obtain ⟨t10, ht10, hk⟩ := ab_bnd hk
    refine ab_getI (pc := 12) dX2_compareWords_12 fl_RX2_28 ht10 ?_
    refine ab_aload_n (pc := 15) (i := 1) dX2_compareWords_15 rfl rfl ?_
    obtain ⟨t11, ht11, hk⟩ := ab_bnd hk
    refine ab_getI (pc := 16) dX2_compareWords_16 fl_RX2_28 ht11 ?_
    refine ab_isub (pc := 19) dX2_compareWords_19 ?_
    obtain rfl := Option.some.inj hk
    exact ab_reti (pc := 20) dX2_compareWords_20 (Or.inl rfl)
theorem dX2_compare_0 : decode cX2_compare 0 = .ok (.aload_n 0, 1) := by decide +kernel
theorem dX2_compare_1 : decode cX2_compare 1 = .ok (.aload_n 1, 1) := by decide +kernel
theorem dX2_compare_2 : decode cX2_compare 2 = .ok (.invokevirtual 51, 3) := by decide +kernel
theorem dX2_compare_5 : decode cX2_compare 5 = .ok (.istore_n 2, 1) := by decide +kernel
theorem dX2_compare_6 : decode cX2_compare 6 = .ok (.iload_n 2, 1) := by decide +kernel
theorem dX2_compare_7 : decode cX2_compare 7 = .ok (.ifCond .ne 13, 3) := by decide +kernel
theorem dX2_compare_10 : decode cX2_compare 10 = .ok (.aload_n 0, 1) := by decide +kernel
theorem dX2_compare_11 : decode cX2_compare 11 = .ok (.getfield 55, 3) := by decide +kernel
theorem dX2_compare_14 : decode cX2_compare 14 = .ok (.aload_n 1, 1) := by decide +kernel
theorem dX2_compare_15 : decode cX2_compare 15 = .ok (.getfield 55, 3) := by decide +kernel
theorem dX2_compare_18 : decode cX2_compare 18 = .ok (.isub, 1) := by decide +kernel
theorem dX2_compare_19 : decode cX2_compare 19 = .ok (.istore_n 2, 1) := by decide +kernel
theorem dX2_compare_20 : decode cX2_compare 20 = .ok (.iload_n 2, 1) := by decide +kernel
theorem dX2_compare_21 : decode cX2_compare 21 = .ok (.ifCond .eq 7, 3) := by decide +kernel
theorem dX2_compare_24 : decode cX2_compare 24 = .ok (.iload_n 2, 1) := by decide +kernel
theorem dX2_compare_25 : decode cX2_compare 25 = .ok (.goto 12, 3) := by decide +kernel
theorem dX2_compare_28 : decode cX2_compare 28 = .ok (.aload_n 0, 1) := by decide +kernel
theorem dX2_compare_29 : decode cX2_compare 29 = .ok (.getfield 25, 3) := by decide +kernel
theorem dX2_compare_32 : decode cX2_compare 32 = .ok (.aload_n 1, 1) := by decide +kernel
theorem dX2_compare_33 : decode cX2_compare 33 = .ok (.getfield 25, 3) := by decide +kernel
theorem dX2_compare_36 : decode cX2_compare 36 = .ok (.isub, 1) := by decide +kernel
theorem dX2_compare_37 : decode cX2_compare 37 = .ok (.ireturn, 1) := by decide +kernel
abbrev mm_X2_compare : ab_M := (RX2, 3, (some .int), false, 2, 47, none)
noncomputable def f_X2_compare_J20 (v0 : Int) (v1 : Int) (v2 : Int) (h : ab_H) : Option (Int × ab_H) :=
  if v2 = (0 : Int) then
    (ab_get h 3 2 v0).bind fun t1 =>
    (ab_get h 3 2 v1).bind fun t2 =>
    some (ab_w32 (t1 - t2), h)
  else
  some (v2, h)
set_option maxRecDepth 20000 in
theorem e_X2_compare_J20 : ∀ (v0 : Int) (v1 : Int) (v2 : Int) (h : ab_H) (q : Int × ab_H), f_X2_compare_J20 v0 v1 v2 h = some q → ab_E mm_X2_compare cX2_compare 20 [some (ab_R v0), some (ab_R v1), some (ab_I v2)] [] h (some (ab_I q.1)) q.2 := by
  intro v0 v1 v2 h q hk
  unfold f_X2_compare_J20 at hk
  refine ab_iload_n (pc := 20) (i := 2) dX2_compare_20 rfl rfl ?_
  refine ab_if_eq (pc := 21) (tgt := 28) dX2_compare_21 rfl (fun hc => ?_) (fun hc => ?_)
  · have hk := ab_ifp hk hc
    refine ab_aload_n (pc := 28) (i := 0) dX2_compare_28 rfl rfl ?_
    obtain ⟨t1, ht1, hk⟩ := ab_bnd hk
    refine ab_getI (pc := 29) dX2_compare_29 fl_RX2_25 ht1 ?_
    refine ab_aload_n (pc := 32) (i := 1) dX2_compare_32 rfl rfl ?_
    obtain ⟨t2, ht2, hk⟩ := ab_bnd hk
    refine ab_getI (pc := 33) dX2_compare_33 fl_RX2_25 ht2 ?_
    refine ab_isub (pc := 36) dX2_compare_36 ?_
    obtain rfl := Option.some.inj hk
    exact ab_reti (pc := 37) dX2_compare_37 (Or.inl rfl)
  · have hk := ab_ifn hk hc
    refine ab_iload_n (pc := 24) (i := 2) dX2_compare_24 rfl rfl ?_
    refine ab_goto (pc := 25) (tgt := 37) dX2_compare_25 rfl ?_
    obtain rfl := Option.some.inj hk
    exact ab_reti (pc := 37) dX2_compare_37 (Or.inl rfl)
noncomputable def f_X2_compare (a0 : Int) (a1 : Int) (h : ab_H) : Option (Int × ab_H) :=
  (ab_on h 3 a0 (f_X2_compareWords a0 a1 h)).bind fun q1 =>
  if q1.1 = (0 : Int) then
    (ab_get q1.2 3 1 a0).bind fun t2 =>
    (ab_get q1.2 3 1 a1).bind fun t3 =>
    f_X2_compare_J20 a0 a1 (ab_w32 (t2 - t3)) q1.2
  else
  f_X2_compare_J20 a0 a1 q1.1 q1.2
set_option maxRecDepth 20000 in
theorem ct_X2_compare {a0 a1 : Int} {h : ab_H} {q : Int × ab_H} (hk : f_X2_compare a0 a1 h = some q) : ab_CT yX2_compare cX2_compare 3 (some .int) 2 47 [ab_R a0, ab_R a1] h (some (ab_I q.1)) q.2 := by
  refine ab_CT.mk_ 1 (own := RX2) (ini := false) (lv := [some (ab_R a0), some (ab_R a1), none]) rfl (by decide +kernel) (fun q => by cases q) rfl rfl ?_
  unfold f_X2_compare at hk
  show ab_E mm_X2_compare cX2_compare 0 _ [] h _ _
  refine ab_aload_n (pc := 0) (i := 0) dX2_compare_0 rfl rfl ?_
  refine ab_aload_n (pc := 1) (i := 1) dX2_compare_1 rfl rfl ?_
  obtain ⟨q1, hq1, hk⟩ := ab_bnd hk
  obtain ⟨hb, hq1⟩ := ab_on_some hq1
  refine ab_callVI (st := []) (as := [ab_R a1]) (b := a0) (pc := 2) dX2_compare_2 ml_RX2_51 my_X2_compareWords mv_X2_compareWords hb (ct_X2_compareWords hq1) ⟨Nat.le_of_ble_eq_true rfl, Nat.le_of_ble_eq_true rfl⟩ rfl (Nat.le_of_ble_eq_true rfl) rfl ?_
  refine ab_istore_n (pc := 5) (i := 2) (lv2 := [some (ab_R a0), some (ab_R a1), some (ab_I q1.1)]) dX2_compare_5 rfl (Nat.le_of_ble_eq_true rfl) rfl rfl ?_
  refine ab_iload_n (pc := 6) (i := 2) dX2_compare_6 rfl rfl ?_
  refine ab_if_ne (pc := 7) (tgt := 20) dX2_compare_7 rfl (fun hc => ?_) (fun hc => ?_)
  · have hk := ab_ifn hk hc
    refine ab_sub_ (lv2 := [some (ab_R a0), some (ab_R a1), some (ab_I q1.1)]) (ab_ss (ab_ss (ab_ss ab_s0))) ?_
    exact e_X2_compare_J20 _ _ _ _ _ hk
  · have hk := ab_ifp hk hc
    refine ab_aload_n (pc := 10) (i := 0) dX2_compare_10 rfl rfl ?_
    obtain ⟨t2, ht2, hk⟩ := ab_bnd hk
    refine ab_getI (pc := 11) dX2_compare_11 fl_RX2_55 ht2 ?_
    refine ab_aload_n (pc := 14) (i := 1) dX2_compare_14 rfl rfl ?_
    obtain ⟨t3, ht3, hk⟩ := ab_bnd hk
    refine ab_getI (pc := 15) dX2_compare_15 fl_RX2_55 ht3 ?_
    refine ab_isub (pc := 18) dX2_compare_18 ?_
    refine ab_istore_n (pc := 19) (i := 2) (lv2 := [some (ab_R a0), some (ab_R a1), some (ab_I (ab_w32 (t2 - t3)))]) dX2_compare_19 rfl (Nat.le_of_ble_eq_true rfl) rfl rfl ?_
    refine ab_sub_ (lv2 := [some (ab_R a0), some (ab_R a1), some (ab_I (ab_w32 (t2 - t3)))]) (ab_ss (ab_ss (ab_ss ab_s0))) ?_
    exact e_X2_compare_J20 _ _ _ _ _ hk
theorem dX2_shows_0 : decode cX2_shows 0 = .ok (.iload_n 2, 1) := by decide +kernel
theorem dX2_shows_1 : decode cX2_shows 1 = .ok (.ifCond .ne 17, 3) := by decide +kernel
theorem dX2_shows_4 : decode cX2_shows 4 = .ok (.aload_n 0, 1) := by decide +kernel
theorem dX2_shows_5 : decode cX2_shows 5 = .ok (.getfield 28, 3) := by decide +kernel
theorem dX2_shows_8 : decode cX2_shows 8 = .ok (.iload_n 1, 1) := by decide +kernel
theorem dX2_shows_9 : decode cX2_shows 9 = .ok (.if_icmp .ne 7, 3) := by decide +kernel
theorem dX2_shows_12 : decode cX2_shows 12 = .ok (.iconst 1, 1) := by decide +kernel
theorem dX2_shows_13 : decode cX2_shows 13 = .ok (.goto 4, 3) := by decide +kernel
theorem dX2_shows_16 : decode cX2_shows 16 = .ok (.iconst 0, 1) := by decide +kernel
theorem dX2_shows_17 : decode cX2_shows 17 = .ok (.ireturn, 1) := by decide +kernel
theorem dX2_shows_18 : decode cX2_shows 18 = .ok (.iload_n 2, 1) := by decide +kernel
theorem dX2_shows_19 : decode cX2_shows 19 = .ok (.iconst 1, 1) := by decide +kernel
theorem dX2_shows_20 : decode cX2_shows 20 = .ok (.if_icmp .ne 7, 3) := by decide +kernel
theorem dX2_shows_23 : decode cX2_shows 23 = .ok (.iconst 0, 1) := by decide +kernel
theorem dX2_shows_24 : decode cX2_shows 24 = .ok (.goto 7, 3) := by decide +kernel
theorem dX2_shows_27 : decode cX2_shows 27 = .ok (.aload_n 0, 1) := by decide +kernel
theorem dX2_shows_28 : decode cX2_shows 28 = .ok (.getfield 31, 3) := by decide +kernel
theorem dX2_shows_31 : decode cX2_shows 31 = .ok (.istore_n 3, 1) := by decide +kernel
theorem dX2_shows_32 : decode cX2_shows 32 = .ok (.iload_n 2, 1) := by decide +kernel
theorem dX2_shows_33 : decode cX2_shows 33 = .ok (.iconst 1, 1) := by decide +kernel
theorem dX2_shows_34 : decode cX2_shows 34 = .ok (.if_icmp .ne 10, 3) := by decide +kernel
theorem dX2_shows_37 : decode cX2_shows 37 = .ok (.aload_n 0, 1) := by decide +kernel
theorem dX2_shows_38 : decode cX2_shows 38 = .ok (.getfield 31, 3) := by decide +kernel
theorem dX2_shows_41 : decode cX2_shows 41 = .ok (.goto 7, 3) := by decide +kernel
theorem dX2_shows_44 : decode cX2_shows 44 = .ok (.aload_n 0, 1) := by decide +kernel
theorem dX2_shows_45 : decode cX2_shows 45 = .ok (.getfield 34, 3) := by decide +kernel
theorem dX2_shows_48 : decode cX2_shows 48 = .ok (.istore 4, 2) := by decide +kernel
theorem dX2_shows_50 : decode cX2_shows 50 = .ok (.iload_n 3, 1) := by decide +kernel
theorem dX2_shows_51 : decode cX2_shows 51 = .ok (.istore 5, 2) := by decide +kernel
theorem dX2_shows_53 : decode cX2_shows 53 = .ok (.iload 5, 2) := by decide +kernel
theorem dX2_shows_55 : decode cX2_shows 55 = .ok (.iload 4, 2) := by decide +kernel
theorem dX2_shows_57 : decode cX2_shows 57 = .ok (.if_icmp .ge 22, 3) := by decide +kernel
theorem dX2_shows_60 : decode cX2_shows 60 = .ok (.aload_n 0, 1) := by decide +kernel
theorem dX2_shows_61 : decode cX2_shows 61 = .ok (.getfield 15, 3) := by decide +kernel
theorem dX2_shows_64 : decode cX2_shows 64 = .ok (.iload 5, 2) := by decide +kernel
theorem dX2_shows_66 : decode cX2_shows 66 = .ok (.iaload, 1) := by decide +kernel
theorem dX2_shows_67 : decode cX2_shows 67 = .ok (.iload_n 1, 1) := by decide +kernel
theorem dX2_shows_68 : decode cX2_shows 68 = .ok (.if_icmp .ne 5, 3) := by decide +kernel
theorem dX2_shows_71 : decode cX2_shows 71 = .ok (.iconst 1, 1) := by decide +kernel
theorem dX2_shows_72 : decode cX2_shows 72 = .ok (.ireturn, 1) := by decide +kernel
theorem dX2_shows_73 : decode cX2_shows 73 = .ok (.iinc 5 1, 3) := by decide +kernel
theorem dX2_shows_76 : decode cX2_shows 76 = .ok (.goto (-23), 3) := by decide +kernel
theorem dX2_shows_79 : decode cX2_shows 79 = .ok (.iconst 0, 1) := by decide +kernel
theorem dX2_shows_80 : decode cX2_shows 80 = .ok (.ireturn, 1) := by decide +kernel
abbrev mm_X2_shows : ab_M := (RX2, 6, (some .boolean), false, 0, 0, none)
noncomputable def f_X2_shows_L53 : Nat → Int → Int → Int → Int → ab_H → Option (Int × ab_H)
  | 0, _, _, _, _, _ => none
  | n + 1, v0, v1, v4, v5, h =>
    if v4 ≤ v5 then
      some ((0 : Int), h)
    else
    (ab_get h 3 5 v0).bind fun t1 =>
    (ab_ald h 11 t1 v5).bind fun t2 =>
    if t2 = v1 then
      some ((1 : Int), h)
    else
    f_X2_shows_L53 n v0 v1 v4 (ab_w32 (v5 + (1 : Int))) h
set_option maxRecDepth 20000 in
theorem e_X2_shows_L53 : ∀ (n : Nat) (v0 : Int) (v1 : Int) (v4 : Int) (v5 : Int) (h : ab_H) (q : Int × ab_H), f_X2_shows_L53 n v0 v1 v4 v5 h = some q → ab_E mm_X2_shows cX2_shows 53 [some (ab_R v0), some (ab_I v1), none, none, some (ab_I v4), some (ab_I v5)] [] h (some (ab_I q.1)) q.2 := by
  intro n
  induction n with
  | zero => intro v0 v1 v4 v5 h q hk; cases hk
  | succ n ih =>
    intro v0 v1 v4 v5 h q hk
    unfold f_X2_shows_L53 at hk
    refine ab_iload (pc := 53) (i := 5) dX2_shows_53 rfl ?_
    refine ab_iload (pc := 55) (i := 4) dX2_shows_55 rfl ?_
    refine ab_icmp_ge (pc := 57) (tgt := 79) dX2_shows_57 rfl (fun hc => ?_) (fun hc => ?_)
    · have hk := ab_ifp hk hc
      refine ab_iconst (pc := 79) dX2_shows_79 ab_k_0 ?_
      obtain rfl := Option.some.inj hk
      exact ab_retz (pc := 80) dX2_shows_80 rfl rfl
    · have hk := ab_ifn hk hc
      refine ab_aload_n (pc := 60) (i := 0) dX2_shows_60 rfl rfl ?_
      obtain ⟨t1, ht1, hk⟩ := ab_bnd hk
      refine ab_getR (pc := 61) dX2_shows_61 fl_RX2_15 ht1 ?_
      refine ab_iload (pc := 64) (i := 5) dX2_shows_64 rfl ?_
      obtain ⟨t2, ht2, hk⟩ := ab_bnd hk
      refine ab_iald (pc := 66) dX2_shows_66 ht2 ?_
      refine ab_iload_n (pc := 67) (i := 1) dX2_shows_67 rfl rfl ?_
      refine ab_icmp_ne (pc := 68) (tgt := 73) dX2_shows_68 rfl (fun hc => ?_) (fun hc => ?_)
      · have hk := ab_ifn hk hc
        refine ab_iinc (pc := 73) (i := 5) (lv2 := [some (ab_R v0), some (ab_I v1), none, none, some (ab_I v4), some (ab_I (ab_w32 (v5 + (1 : Int))))]) dX2_shows_73 rfl (Nat.le_of_ble_eq_true rfl) rfl rfl ?_
        refine ab_goto (pc := 76) (tgt := 53) dX2_shows_76 rfl ?_
        refine ab_sub_ (lv2 := [some (ab_R v0), some (ab_I v1), none, none, some (ab_I v4), some (ab_I (ab_w32 (v5 + (1 : Int))))]) (ab_ss (ab_ss (ab_sn (ab_sn (ab_ss (ab_ss ab_s0)))))) ?_
        exact ih _ _ _ _ _ _ hk
      · have hk := ab_ifp hk hc
        refine ab_iconst (pc := 71) dX2_shows_71 ab_k_1 ?_
        obtain rfl := Option.some.inj hk
        exact ab_retz (pc := 72) dX2_shows_72 rfl rfl
noncomputable def f_X2_shows_J48 (v0 : Int) (v1 : Int) (v3 : Int) (s0 : Int) (h : ab_H) : Option (Int × ab_H) :=
  f_X2_shows_L53 ab_FU v0 v1 s0 v3 h
set_option maxRecDepth 20000 in
theorem e_X2_shows_J48 : ∀ (v0 : Int) (v1 : Int) (v3 : Int) (s0 : Int) (h : ab_H) (q : Int × ab_H), f_X2_shows_J48 v0 v1 v3 s0 h = some q → ab_E mm_X2_shows cX2_shows 48 [some (ab_R v0), some (ab_I v1), none, some (ab_I v3), none, none] [ab_I s0] h (some (ab_I q.1)) q.2 := by
  intro v0 v1 v3 s0 h q hk
  unfold f_X2_shows_J48 at hk
  refine ab_istore (pc := 48) (i := 4) (lv2 := [some (ab_R v0), some (ab_I v1), none, some (ab_I v3), some (ab_I s0), none]) dX2_shows_48 (Nat.le_of_ble_eq_true rfl) rfl rfl ?_
  refine ab_iload_n (pc := 50) (i := 3) dX2_shows_50 rfl rfl ?_
  refine ab_istore (pc := 51) (i := 5) (lv2 := [some (ab_R v0), some (ab_I v1), none, some (ab_I v3), some (ab_I s0), some (ab_I v3)]) dX2_shows_51 (Nat.le_of_ble_eq_true rfl) rfl rfl ?_
  refine ab_sub_ (lv2 := [some (ab_R v0), some (ab_I v1), none, none, some (ab_I s0), some (ab_I v3)]) (ab_ss (ab_ss (ab_sn (ab_sn (ab_ss (ab_ss ab_s0)))))) ?_
  refine e_X2_shows_L53 _ _ _ _ _ _ _ hk
noncomputable def f_X2_shows_J31 (v0 : Int) (v1 : Int) (v2 : Int) (s0 : Int) (h : ab_H) : Option (Int × ab_H) :=
  if v2 = (1 : Int) then
    (ab_get h 3 6 v0).bind fun t2 =>
    f_X2_shows_J48 v0 v1 s0 t2 h
  else
  (ab_get h 3 7 v0).bind fun t1 =>
  f_X2_shows_J48 v0 v1 s0 t1 h
set_option maxRecDepth 20000 in
theorem e_X2_shows_J31 : ∀ (v0 : Int) (v1 : Int) (v2 : Int) (s0 : Int) (h : ab_H) (q : Int × ab_H), f_X2_shows_J31 v0 v1 v2 s0 h = some q → ab_E mm_X2_shows cX2_shows 31 [some (ab_R v0), some (ab_I v1), some (ab_I v2), none, none, none] [ab_I s0] h (some (ab_I q.1)) q.2 := by
  intro v0 v1 v2 s0 h q hk
  unfold f_X2_shows_J31 at hk
  refine ab_istore_n (pc := 31) (i := 3) (lv2 := [some (ab_R v0), some (ab_I v1), some (ab_I v2), some (ab_I s0), none, none]) dX2_shows_31 rfl (Nat.le_of_ble_eq_true rfl) rfl rfl ?_
  refine ab_iload_n (pc := 32) (i := 2) dX2_shows_32 rfl rfl ?_
  refine ab_iconst (pc := 33) dX2_shows_33 ab_k_1 ?_
  refine ab_icmp_ne (pc := 34) (tgt := 44) dX2_shows_34 rfl (fun hc => ?_) (fun hc => ?_)
  · have hk := ab_ifn hk hc
    refine ab_aload_n (pc := 44) (i := 0) dX2_shows_44 rfl rfl ?_
    obtain ⟨t1, ht1, hk⟩ := ab_bnd hk
    refine ab_getI (pc := 45) dX2_shows_45 fl_RX2_34 ht1 ?_
    refine ab_sub_ (lv2 := [some (ab_R v0), some (ab_I v1), none, some (ab_I s0), none, none]) (ab_ss (ab_ss (ab_sn (ab_ss (ab_sn (ab_sn ab_s0)))))) ?_
    exact e_X2_shows_J48 _ _ _ _ _ _ hk
  · have hk := ab_ifp hk hc
    refine ab_aload_n (pc := 37) (i := 0) dX2_shows_37 rfl rfl ?_
    obtain ⟨t2, ht2, hk⟩ := ab_bnd hk
    refine ab_getI (pc := 38) dX2_shows_38 fl_RX2_31 ht2 ?_
    refine ab_goto (pc := 41) (tgt := 48) dX2_shows_41 rfl ?_
    refine ab_sub_ (lv2 := [some (ab_R v0), some (ab_I v1), none, some (ab_I s0), none, none]) (ab_ss (ab_ss (ab_sn (ab_ss (ab_sn (ab_sn ab_s0)))))) ?_
    exact e_X2_shows_J48 _ _ _ _ _ _ hk
noncomputable def f_X2_shows (a0 : Int) (a1 : Int) (a2 : Int) (h : ab_H) : Option (Int × ab_H) :=
  if a2 = (0 : Int) then
    (ab_get h 3 3 a0).bind fun t2 =>
    if t2 = a1 then
      some ((1 : Int), h)
    else
    some ((0 : Int), h)
  else
  if a2 = (1 : Int) then
    f_X2_shows_J31 a0 a1 a2 (0 : Int) h
  else
  (ab_get h 3 6 a0).bind fun t1 =>
  f_X2_shows_J31 a0 a1 a2 t1 h
set_option maxRecDepth 20000 in
theorem ct_X2_shows {a0 a1 a2 : Int} {h : ab_H} {q : Int × ab_H} (hk : f_X2_shows a0 a1 a2 h = some q) : ab_CT yX2_shows cX2_shows 6 (some .boolean) 0 0 [ab_R a0, ab_I a1, ab_I a2] h (some (ab_I q.1)) q.2 := by
  refine ab_CT.mk_ 3 (own := RX2) (ini := false) (lv := [some (ab_R a0), some (ab_I a1), some (ab_I a2), none, none, none]) rfl (by decide +kernel) (fun q => by cases q) rfl rfl ?_
  unfold f_X2_shows at hk
  show ab_E mm_X2_shows cX2_shows 0 _ [] h _ _
  refine ab_iload_n (pc := 0) (i := 2) dX2_shows_0 rfl rfl ?_
  refine ab_if_ne (pc := 1) (tgt := 18) dX2_shows_1 rfl (fun hc => ?_) (fun hc => ?_)
  · have hk := ab_ifn hk hc
    refine ab_iload_n (pc := 18) (i := 2) dX2_shows_18 rfl rfl ?_
    refine ab_iconst (pc := 19) dX2_shows_19 ab_k_1 ?_
    refine ab_icmp_ne (pc := 20) (tgt := 27) dX2_shows_20 rfl (fun hc => ?_) (fun hc => ?_)
    · have hk := ab_ifn hk hc
      refine ab_aload_n (pc := 27) (i := 0) dX2_shows_27 rfl rfl ?_
      obtain ⟨t1, ht1, hk⟩ := ab_bnd hk
      refine ab_getI (pc := 28) dX2_shows_28 fl_RX2_31 ht1 ?_
      refine ab_sub_ (lv2 := [some (ab_R a0), some (ab_I a1), some (ab_I a2), none, none, none]) (ab_ss (ab_ss (ab_ss (ab_sn (ab_sn (ab_sn ab_s0)))))) ?_
      exact e_X2_shows_J31 _ _ _ _ _ _ hk
    · have hk := ab_ifp hk hc
      refine ab_iconst (pc := 23) dX2_shows_23 ab_k_0 ?_
      refine ab_goto (pc := 24) (tgt := 31) dX2_shows_24 rfl ?_
      refine ab_sub_ (lv2 := [some (ab_R a0), some (ab_I a1), some (ab_I a2), none, none, none]) (ab_ss (ab_ss (ab_ss (ab_sn (ab_sn (ab_sn ab_s0)))))) ?_
      exact e_X2_shows_J31 _ _ _ _ _ _ hk
  · have hk := ab_ifp hk hc
    refine ab_aload_n (pc := 4) (i := 0) dX2_shows_4 rfl rfl ?_
    obtain ⟨t2, ht2, hk⟩ := ab_bnd hk
    refine ab_getI (pc := 5) dX2_shows_5 fl_RX2_28 ht2 ?_
    refine ab_iload_n (pc := 8) (i := 1) dX2_shows_8 rfl rfl ?_
    refine ab_icmp_ne (pc := 9) (tgt := 16) dX2_shows_9 rfl (fun hc => ?_) (fun hc => ?_)
    · have hk := ab_ifn hk hc
      refine ab_iconst (pc := 16) dX2_shows_16 ab_k_0 ?_
      obtain rfl := Option.some.inj hk
      exact ab_retz (pc := 17) dX2_shows_17 rfl rfl
    · have hk := ab_ifp hk hc
      refine ab_iconst (pc := 12) dX2_shows_12 ab_k_1 ?_
      refine ab_goto (pc := 13) (tgt := 17) dX2_shows_13 rfl ?_
      obtain rfl := Option.some.inj hk
      exact ab_retz (pc := 17) dX2_shows_17 rfl rfl
