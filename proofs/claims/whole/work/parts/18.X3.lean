theorem dX3_init_0 : decode cX3_init 0 = .ok (.aload_n 0, 1) := by decide +kernel
theorem dX3_init_1 : decode cX3_init 1 = .ok (.invokespecial 3, 3) := by decide +kernel
theorem dX3_init_4 : decode cX3_init 4 = .ok (.aload_n 0, 1) := by decide +kernel
theorem dX3_init_5 : decode cX3_init 5 = .ok (.bipush 10, 2) := by decide +kernel
theorem dX3_init_7 : decode cX3_init 7 = .ok (.anewarray 9, 3) := by decide +kernel
theorem dX3_init_10 : decode cX3_init 10 = .ok (.putfield 11, 3) := by decide +kernel
theorem dX3_init_13 : decode cX3_init 13 = .ok (.iconst 0, 1) := by decide +kernel
theorem dX3_init_14 : decode cX3_init 14 = .ok (.istore_n 1, 1) := by decide +kernel
theorem dX3_init_15 : decode cX3_init 15 = .ok (.iload_n 1, 1) := by decide +kernel
theorem dX3_init_16 : decode cX3_init 16 = .ok (.bipush 10, 2) := by decide +kernel
theorem dX3_init_18 : decode cX3_init 18 = .ok (.if_icmp .ge 22, 3) := by decide +kernel
theorem dX3_init_21 : decode cX3_init 21 = .ok (.aload_n 0, 1) := by decide +kernel
theorem dX3_init_22 : decode cX3_init 22 = .ok (.getfield 11, 3) := by decide +kernel
theorem dX3_init_25 : decode cX3_init 25 = .ok (.iload_n 1, 1) := by decide +kernel
theorem dX3_init_26 : decode cX3_init 26 = .ok (.new 9, 3) := by decide +kernel
theorem dX3_init_29 : decode cX3_init 29 = .ok (.dup, 1) := by decide +kernel
theorem dX3_init_30 : decode cX3_init 30 = .ok (.invokespecial 17, 3) := by decide +kernel
theorem dX3_init_33 : decode cX3_init 33 = .ok (.aastore, 1) := by decide +kernel
theorem dX3_init_34 : decode cX3_init 34 = .ok (.iinc 1 1, 3) := by decide +kernel
theorem dX3_init_37 : decode cX3_init 37 = .ok (.goto (-22), 3) := by decide +kernel
theorem dX3_init_40 : decode cX3_init 40 = .ok (.return_, 1) := by decide +kernel
abbrev mm_X3_init : ab_M := (RX3, 2, none, true, 2, 40, none)
noncomputable def f_X3_init_L15 : Nat → Int → Int → ab_H → Option ab_H
  | 0, _, _, _ => none
  | n + 1, v0, v1, h =>
    if (10 : Int) ≤ v1 then
      some h
    else
    (ab_get h 4 0 v0).bind fun t1 =>
    (ab_mkO h 0).bind fun h1 =>
    (ab_if (decide (0 < ab_nx h)) (f_X0_init (ab_nx h) h1)).bind fun q2 =>
    (ab_astR q2 14 1 t1 v1 (ab_nx h)).bind fun h2 =>
    f_X3_init_L15 n v0 (ab_w32 (v1 + (1 : Int))) h2
set_option maxRecDepth 20000 in
theorem e_X3_init_L15 : ∀ (n : Nat) (v0 : Int) (v1 : Int) (h : ab_H) (q : ab_H), f_X3_init_L15 n v0 v1 h = some q → ab_E mm_X3_init cX3_init 15 [some (ab_R v0), some (ab_I v1)] [] h none q := by
  intro n
  induction n with
  | zero => intro v0 v1 h q hk; cases hk
  | succ n ih =>
    intro v0 v1 h q hk
    unfold f_X3_init_L15 at hk
    refine ab_iload_n (pc := 15) (i := 1) dX3_init_15 rfl rfl ?_
    refine ab_bipush (pc := 16) dX3_init_16 ab_p8_10 ab_k_10 ?_
    refine ab_icmp_ge (pc := 18) (tgt := 40) dX3_init_18 rfl (fun hc => ?_) (fun hc => ?_)
    · have hk := ab_ifp hk hc
      obtain rfl := Option.some.inj hk
      exact ab_retv (pc := 40) dX3_init_40 rfl
    · have hk := ab_ifn hk hc
      refine ab_aload_n (pc := 21) (i := 0) dX3_init_21 rfl rfl ?_
      obtain ⟨t1, ht1, hk⟩ := ab_bnd hk
      refine ab_getR (pc := 22) dX3_init_22 fl_RX3_11 ht1 ?_
      refine ab_iload_n (pc := 25) (i := 1) dX3_init_25 rfl rfl ?_
      obtain ⟨h1, hh1, hk⟩ := ab_bnd hk
      refine ab_newO (pc := 26) dX3_init_26 nw_RX3_9 hh1 ?_
      refine ab_dup (pc := 29) dX3_init_29 rfl ?_
      obtain ⟨q2, hq2, hk⟩ := ab_bnd hk
      obtain ⟨hb, hq2⟩ := ab_if_some hq2
      refine ab_callI_ (st := [ab_R (ab_nx h), ab_I v1, ab_R t1]) (as := []) (b := ab_nx h) (pc := 30) dX3_init_30 ml_RX3_17 my_X0_init mi_X0_init hb (ct_X0_init hq2) ⟨Nat.le_of_ble_eq_true rfl, Nat.le_of_ble_eq_true rfl⟩ rfl (Nat.le_of_ble_eq_true rfl) rfl ?_
      obtain ⟨h2, hh2, hk⟩ := ab_bnd hk
      refine ab_aastR (pc := 33) dX3_init_33 (by decide) hh2 ?_
      refine ab_iinc (pc := 34) (i := 1) (lv2 := [some (ab_R v0), some (ab_I (ab_w32 (v1 + (1 : Int))))]) dX3_init_34 rfl (Nat.le_of_ble_eq_true rfl) rfl rfl ?_
      refine ab_goto (pc := 37) (tgt := 15) dX3_init_37 rfl ?_
      refine ab_sub_ (lv2 := [some (ab_R v0), some (ab_I (ab_w32 (v1 + (1 : Int))))]) (ab_ss (ab_ss ab_s0)) ?_
      exact ih _ _ _ _ hk
noncomputable def f_X3_init (a0 : Int) (h : ab_H) : Option ab_H :=
  ab_if (decide (0 < a0)) <|
  (ab_mkA h 14 (10 : Int)).bind fun h1 =>
  (ab_putR h1 4 0 a0 (ab_nx h)).bind fun h2 =>
  f_X3_init_L15 ab_FU a0 (0 : Int) h2
set_option maxRecDepth 20000 in
theorem ct_X3_init {a0 : Int} {h : ab_H} {q : ab_H} (hk : f_X3_init a0 h = some q) : ab_CT yX3_init cX3_init 2 none 2 40 [ab_R a0] h none q := by
  refine ab_CT.mk_ 1 (own := RX3) (ini := true) (lv := [some (ab_R a0), none]) rfl (by decide +kernel) (fun _ => rfl) rfl rfl ?_
  unfold f_X3_init at hk
  show ab_E mm_X3_init cX3_init 0 _ [] h _ _
  refine ab_aload_n (pc := 0) (i := 0) dX3_init_0 rfl rfl ?_
  obtain ⟨hg, hk⟩ := ab_if_some hk
  refine ab_obj0_ (pc := 1) dX3_init_1 ob_RX3_3 hg (Nat.le_of_ble_eq_true rfl) (Nat.le_of_ble_eq_true rfl) (Nat.le_of_ble_eq_true rfl) ?_
  refine ab_aload_n (pc := 4) (i := 0) dX3_init_4 rfl rfl ?_
  refine ab_bipush (pc := 5) dX3_init_5 ab_p8_10 ab_k_10 ?_
  obtain ⟨h1, hh1, hk⟩ := ab_bnd hk
  refine ab_newQ (C := RX0) (pc := 7) dX3_init_7 (by decide) nq_RX3_9 hh1 ?_
  obtain ⟨h2, hh2, hk⟩ := ab_bnd hk
  refine ab_putR_ (pc := 10) dX3_init_10 fl_RX3_11 (fun _ => ⟨rfl, rfl⟩) hh2 ?_
  refine ab_iconst (pc := 13) dX3_init_13 ab_k_0 ?_
  refine ab_istore_n (pc := 14) (i := 1) (lv2 := [some (ab_R a0), some (ab_I (0 : Int))]) dX3_init_14 rfl (Nat.le_of_ble_eq_true rfl) rfl rfl ?_
  refine ab_sub_ (lv2 := [some (ab_R a0), some (ab_I (0 : Int))]) (ab_ss (ab_ss ab_s0)) ?_
  refine e_X3_init_L15 _ _ _ _ _ hk
theorem dX3_forgetAll_0 : decode cX3_forgetAll 0 = .ok (.aload_n 0, 1) := by decide +kernel
theorem dX3_forgetAll_1 : decode cX3_forgetAll 1 = .ok (.iconst 0, 1) := by decide +kernel
theorem dX3_forgetAll_2 : decode cX3_forgetAll 2 = .ok (.putfield 18, 3) := by decide +kernel
theorem dX3_forgetAll_5 : decode cX3_forgetAll 5 = .ok (.return_, 1) := by decide +kernel
abbrev mm_X3_forgetAll : ab_M := (RX3, 1, none, false, 0, 0, none)
noncomputable def f_X3_forgetAll (a0 : Int) (h : ab_H) : Option ab_H :=
  (ab_put h 4 2 a0 (0 : Int)).bind fun h1 =>
  some h1
set_option maxRecDepth 20000 in
theorem ct_X3_forgetAll {a0 : Int} {h : ab_H} {q : ab_H} (hk : f_X3_forgetAll a0 h = some q) : ab_CT yX3_forgetAll cX3_forgetAll 1 none 0 0 [ab_R a0] h none q := by
  refine ab_CT.mk_ 0 (own := RX3) (ini := false) (lv := [some (ab_R a0)]) rfl (by decide +kernel) (fun q => by cases q) rfl rfl ?_
  unfold f_X3_forgetAll at hk
  show ab_E mm_X3_forgetAll cX3_forgetAll 0 _ [] h _ _
  refine ab_aload_n (pc := 0) (i := 0) dX3_forgetAll_0 rfl rfl ?_
  refine ab_iconst (pc := 1) dX3_forgetAll_1 ab_k_0 ?_
  obtain ⟨h1, hh1, hk⟩ := ab_bnd hk
  refine ab_putI_ (pc := 2) dX3_forgetAll_2 fl_RX3_18 (fun q => by cases q) hh1 ?_
  obtain rfl := Option.some.inj hk
  exact ab_retv (pc := 5) dX3_forgetAll_5 rfl
theorem dX3_keep_0 : decode cX3_keep 0 = .ok (.aload_n 0, 1) := by decide +kernel
theorem dX3_keep_1 : decode cX3_keep 1 = .ok (.getfield 11, 3) := by decide +kernel
theorem dX3_keep_4 : decode cX3_keep 4 = .ok (.aload_n 0, 1) := by decide +kernel
theorem dX3_keep_5 : decode cX3_keep 5 = .ok (.getfield 22, 3) := by decide +kernel
theorem dX3_keep_8 : decode cX3_keep 8 = .ok (.aload_n 0, 1) := by decide +kernel
theorem dX3_keep_9 : decode cX3_keep 9 = .ok (.getfield 18, 3) := by decide +kernel
theorem dX3_keep_12 : decode cX3_keep 12 = .ok (.iadd, 1) := by decide +kernel
theorem dX3_keep_13 : decode cX3_keep 13 = .ok (.bipush 10, 2) := by decide +kernel
theorem dX3_keep_15 : decode cX3_keep 15 = .ok (.irem, 1) := by decide +kernel
theorem dX3_keep_16 : decode cX3_keep 16 = .ok (.aaload, 1) := by decide +kernel
theorem dX3_keep_17 : decode cX3_keep 17 = .ok (.aload_n 1, 1) := by decide +kernel
theorem dX3_keep_18 : decode cX3_keep 18 = .ok (.invokevirtual 25, 3) := by decide +kernel
theorem dX3_keep_21 : decode cX3_keep 21 = .ok (.aload_n 0, 1) := by decide +kernel
theorem dX3_keep_22 : decode cX3_keep 22 = .ok (.getfield 18, 3) := by decide +kernel
theorem dX3_keep_25 : decode cX3_keep 25 = .ok (.bipush 10, 2) := by decide +kernel
theorem dX3_keep_27 : decode cX3_keep 27 = .ok (.if_icmp .ge 16, 3) := by decide +kernel
theorem dX3_keep_30 : decode cX3_keep 30 = .ok (.aload_n 0, 1) := by decide +kernel
theorem dX3_keep_31 : decode cX3_keep 31 = .ok (.dup, 1) := by decide +kernel
theorem dX3_keep_32 : decode cX3_keep 32 = .ok (.getfield 18, 3) := by decide +kernel
theorem dX3_keep_35 : decode cX3_keep 35 = .ok (.iconst 1, 1) := by decide +kernel
theorem dX3_keep_36 : decode cX3_keep 36 = .ok (.iadd, 1) := by decide +kernel
theorem dX3_keep_37 : decode cX3_keep 37 = .ok (.putfield 18, 3) := by decide +kernel
theorem dX3_keep_40 : decode cX3_keep 40 = .ok (.goto 16, 3) := by decide +kernel
theorem dX3_keep_43 : decode cX3_keep 43 = .ok (.aload_n 0, 1) := by decide +kernel
theorem dX3_keep_44 : decode cX3_keep 44 = .ok (.aload_n 0, 1) := by decide +kernel
theorem dX3_keep_45 : decode cX3_keep 45 = .ok (.getfield 22, 3) := by decide +kernel
theorem dX3_keep_48 : decode cX3_keep 48 = .ok (.iconst 1, 1) := by decide +kernel
theorem dX3_keep_49 : decode cX3_keep 49 = .ok (.iadd, 1) := by decide +kernel
theorem dX3_keep_50 : decode cX3_keep 50 = .ok (.bipush 10, 2) := by decide +kernel
theorem dX3_keep_52 : decode cX3_keep 52 = .ok (.irem, 1) := by decide +kernel
theorem dX3_keep_53 : decode cX3_keep 53 = .ok (.putfield 22, 3) := by decide +kernel
theorem dX3_keep_56 : decode cX3_keep 56 = .ok (.return_, 1) := by decide +kernel
abbrev mm_X3_keep : ab_M := (RX3, 2, none, false, 3, 88, none)
noncomputable def f_X3_keep (a0 : Int) (a1 : Int) (h : ab_H) : Option ab_H :=
  (ab_get h 4 0 a0).bind fun t1 =>
  (ab_get h 4 1 a0).bind fun t2 =>
  (ab_get h 4 2 a0).bind fun t3 =>
  (ab_rm_ (ab_w32 (t2 + t3)) (10 : Int)).bind fun t4 =>
  (ab_ald h 14 t1 t4).bind fun t5 =>
  (ab_on h 1 t5 (f_X0_copyFrom t5 a1 h)).bind fun q6 =>
  (ab_get q6 4 2 a0).bind fun t7 =>
  if (10 : Int) ≤ t7 then
    (ab_get q6 4 1 a0).bind fun t8 =>
    (ab_rm_ (ab_w32 (t8 + (1 : Int))) (10 : Int)).bind fun t9 =>
    (ab_put q6 4 1 a0 t9).bind fun h1 =>
    some h1
  else
  (ab_get q6 4 2 a0).bind fun t10 =>
  (ab_put q6 4 2 a0 (ab_w32 (t10 + (1 : Int)))).bind fun h2 =>
  some h2
set_option maxRecDepth 20000 in
theorem ct_X3_keep {a0 a1 : Int} {h : ab_H} {q : ab_H} (hk : f_X3_keep a0 a1 h = some q) : ab_CT yX3_keep cX3_keep 2 none 3 88 [ab_R a0, ab_R a1] h none q := by
  refine ab_CT.mk_ 0 (own := RX3) (ini := false) (lv := [some (ab_R a0), some (ab_R a1)]) rfl (by decide +kernel) (fun q => by cases q) rfl rfl ?_
  unfold f_X3_keep at hk
  show ab_E mm_X3_keep cX3_keep 0 _ [] h _ _
  refine ab_aload_n (pc := 0) (i := 0) dX3_keep_0 rfl rfl ?_
  obtain ⟨t1, ht1, hk⟩ := ab_bnd hk
  refine ab_getR (pc := 1) dX3_keep_1 fl_RX3_11 ht1 ?_
  refine ab_aload_n (pc := 4) (i := 0) dX3_keep_4 rfl rfl ?_
  obtain ⟨t2, ht2, hk⟩ := ab_bnd hk
  refine ab_getI (pc := 5) dX3_keep_5 fl_RX3_22 ht2 ?_
  refine ab_aload_n (pc := 8) (i := 0) dX3_keep_8 rfl rfl ?_
  obtain ⟨t3, ht3, hk⟩ := ab_bnd hk
  refine ab_getI (pc := 9) dX3_keep_9 fl_RX3_18 ht3 ?_
  refine ab_iadd (pc := 12) dX3_keep_12 ?_
  refine ab_bipush (pc := 13) dX3_keep_13 ab_p8_10 ab_k_10 ?_
  obtain ⟨t4, ht4, hk⟩ := ab_bnd hk
  refine ab_irem_ (pc := 15) dX3_keep_15 ht4 ?_
  obtain ⟨t5, ht5, hk⟩ := ab_bnd hk
  refine ab_aald (pc := 16) dX3_keep_16 (by decide) ht5 ?_
  refine ab_aload_n (pc := 17) (i := 1) dX3_keep_17 rfl rfl ?_
  obtain ⟨q6, hq6, hk⟩ := ab_bnd hk
  obtain ⟨hb, hq6⟩ := ab_on_some hq6
  refine ab_callVV (st := []) (as := [ab_R a1]) (b := t5) (pc := 18) dX3_keep_18 ml_RX3_25 my_X0_copyFrom mv_X0_copyFrom hb (ct_X0_copyFrom hq6) ⟨Nat.le_of_ble_eq_true rfl, Nat.le_of_ble_eq_true rfl⟩ rfl (Nat.le_of_ble_eq_true rfl) rfl ?_
  refine ab_aload_n (pc := 21) (i := 0) dX3_keep_21 rfl rfl ?_
  obtain ⟨t7, ht7, hk⟩ := ab_bnd hk
  refine ab_getI (pc := 22) dX3_keep_22 fl_RX3_18 ht7 ?_
  refine ab_bipush (pc := 25) dX3_keep_25 ab_p8_10 ab_k_10 ?_
  refine ab_icmp_ge (pc := 27) (tgt := 43) dX3_keep_27 rfl (fun hc => ?_) (fun hc => ?_)
  · have hk := ab_ifp hk hc
    refine ab_aload_n (pc := 43) (i := 0) dX3_keep_43 rfl rfl ?_
    refine ab_aload_n (pc := 44) (i := 0) dX3_keep_44 rfl rfl ?_
    obtain ⟨t8, ht8, hk⟩ := ab_bnd hk
    refine ab_getI (pc := 45) dX3_keep_45 fl_RX3_22 ht8 ?_
    refine ab_iconst (pc := 48) dX3_keep_48 ab_k_1 ?_
    refine ab_iadd (pc := 49) dX3_keep_49 ?_
    refine ab_bipush (pc := 50) dX3_keep_50 ab_p8_10 ab_k_10 ?_
    obtain ⟨t9, ht9, hk⟩ := ab_bnd hk
    refine ab_irem_ (pc := 52) dX3_keep_52 ht9 ?_
    obtain ⟨h1, hh1, hk⟩ := ab_bnd hk
    refine ab_putI_ (pc := 53) dX3_keep_53 fl_RX3_22 (fun q => by cases q) hh1 ?_
    obtain rfl := Option.some.inj hk
    exact ab_retv (pc := 56) dX3_keep_56 rfl
  · have hk := ab_ifn hk hc
    refine ab_aload_n (pc := 30) (i := 0) dX3_keep_30 rfl rfl ?_
    refine ab_dup (pc := 31) dX3_keep_31 rfl ?_
    obtain ⟨t10, ht10, hk⟩ := ab_bnd hk
    refine ab_getI (pc := 32) dX3_keep_32 fl_RX3_18 ht10 ?_
    refine ab_iconst (pc := 35) dX3_keep_35 ab_k_1 ?_
    refine ab_iadd (pc := 36) dX3_keep_36 ?_
    obtain ⟨h2, hh2, hk⟩ := ab_bnd hk
    refine ab_putI_ (pc := 37) dX3_keep_37 fl_RX3_18 (fun q => by cases q) hh2 ?_
    refine ab_goto (pc := 40) (tgt := 56) dX3_keep_40 rfl ?_
    obtain rfl := Option.some.inj hk
    exact ab_retv (pc := 56) dX3_keep_56 rfl
theorem dX3_takeBack_0 : decode cX3_takeBack 0 = .ok (.aload_n 0, 1) := by decide +kernel
theorem dX3_takeBack_1 : decode cX3_takeBack 1 = .ok (.getfield 18, 3) := by decide +kernel
theorem dX3_takeBack_4 : decode cX3_takeBack 4 = .ok (.ifCond .ne 4, 3) := by decide +kernel
theorem dX3_takeBack_7 : decode cX3_takeBack 7 = .ok (.return_, 1) := by decide +kernel
theorem dX3_takeBack_8 : decode cX3_takeBack 8 = .ok (.aload_n 0, 1) := by decide +kernel
theorem dX3_takeBack_9 : decode cX3_takeBack 9 = .ok (.dup, 1) := by decide +kernel
theorem dX3_takeBack_10 : decode cX3_takeBack 10 = .ok (.getfield 18, 3) := by decide +kernel
theorem dX3_takeBack_13 : decode cX3_takeBack 13 = .ok (.iconst 1, 1) := by decide +kernel
theorem dX3_takeBack_14 : decode cX3_takeBack 14 = .ok (.isub, 1) := by decide +kernel
theorem dX3_takeBack_15 : decode cX3_takeBack 15 = .ok (.putfield 18, 3) := by decide +kernel
theorem dX3_takeBack_18 : decode cX3_takeBack 18 = .ok (.aload_n 1, 1) := by decide +kernel
theorem dX3_takeBack_19 : decode cX3_takeBack 19 = .ok (.aload_n 0, 1) := by decide +kernel
theorem dX3_takeBack_20 : decode cX3_takeBack 20 = .ok (.getfield 11, 3) := by decide +kernel
theorem dX3_takeBack_23 : decode cX3_takeBack 23 = .ok (.aload_n 0, 1) := by decide +kernel
theorem dX3_takeBack_24 : decode cX3_takeBack 24 = .ok (.getfield 22, 3) := by decide +kernel
theorem dX3_takeBack_27 : decode cX3_takeBack 27 = .ok (.aload_n 0, 1) := by decide +kernel
theorem dX3_takeBack_28 : decode cX3_takeBack 28 = .ok (.getfield 18, 3) := by decide +kernel
theorem dX3_takeBack_31 : decode cX3_takeBack 31 = .ok (.iadd, 1) := by decide +kernel
theorem dX3_takeBack_32 : decode cX3_takeBack 32 = .ok (.bipush 10, 2) := by decide +kernel
theorem dX3_takeBack_34 : decode cX3_takeBack 34 = .ok (.irem, 1) := by decide +kernel
theorem dX3_takeBack_35 : decode cX3_takeBack 35 = .ok (.aaload, 1) := by decide +kernel
theorem dX3_takeBack_36 : decode cX3_takeBack 36 = .ok (.invokevirtual 25, 3) := by decide +kernel
theorem dX3_takeBack_39 : decode cX3_takeBack 39 = .ok (.return_, 1) := by decide +kernel
abbrev mm_X3_takeBack : ab_M := (RX3, 2, none, false, 3, 88, none)
noncomputable def f_X3_takeBack (a0 : Int) (a1 : Int) (h : ab_H) : Option ab_H :=
  (ab_get h 4 2 a0).bind fun t1 =>
  if t1 = (0 : Int) then
    some h
  else
  (ab_get h 4 2 a0).bind fun t2 =>
  (ab_put h 4 2 a0 (ab_w32 (t2 - (1 : Int)))).bind fun h1 =>
  (ab_get h1 4 0 a0).bind fun t3 =>
  (ab_get h1 4 1 a0).bind fun t4 =>
  (ab_get h1 4 2 a0).bind fun t5 =>
  (ab_rm_ (ab_w32 (t4 + t5)) (10 : Int)).bind fun t6 =>
  (ab_ald h1 14 t3 t6).bind fun t7 =>
  (ab_on h1 1 a1 (f_X0_copyFrom a1 t7 h1)).bind fun q8 =>
  some q8
set_option maxRecDepth 20000 in
theorem ct_X3_takeBack {a0 a1 : Int} {h : ab_H} {q : ab_H} (hk : f_X3_takeBack a0 a1 h = some q) : ab_CT yX3_takeBack cX3_takeBack 2 none 3 88 [ab_R a0, ab_R a1] h none q := by
  refine ab_CT.mk_ 0 (own := RX3) (ini := false) (lv := [some (ab_R a0), some (ab_R a1)]) rfl (by decide +kernel) (fun q => by cases q) rfl rfl ?_
  unfold f_X3_takeBack at hk
  show ab_E mm_X3_takeBack cX3_takeBack 0 _ [] h _ _
  refine ab_aload_n (pc := 0) (i := 0) dX3_takeBack_0 rfl rfl ?_
  obtain ⟨t1, ht1, hk⟩ := ab_bnd hk
  refine ab_getI (pc := 1) dX3_takeBack_1 fl_RX3_18 ht1 ?_
  refine ab_if_ne (pc := 4) (tgt := 8) dX3_takeBack_4 rfl (fun hc => ?_) (fun hc => ?_)
  · have hk := ab_ifn hk hc
    refine ab_aload_n (pc := 8) (i := 0) dX3_takeBack_8 rfl rfl ?_
    refine ab_dup (pc := 9) dX3_takeBack_9 rfl ?_
    obtain ⟨t2, ht2, hk⟩ := ab_bnd hk
    refine ab_getI (pc := 10) dX3_takeBack_10 fl_RX3_18 ht2 ?_
    refine ab_iconst (pc := 13) dX3_takeBack_13 ab_k_1 ?_
    refine ab_isub (pc := 14) dX3_takeBack_14 ?_
    obtain ⟨h1, hh1, hk⟩ := ab_bnd hk
    refine ab_putI_ (pc := 15) dX3_takeBack_15 fl_RX3_18 (fun q => by cases q) hh1 ?_
    refine ab_aload_n (pc := 18) (i := 1) dX3_takeBack_18 rfl rfl ?_
    refine ab_aload_n (pc := 19) (i := 0) dX3_takeBack_19 rfl rfl ?_
    obtain ⟨t3, ht3, hk⟩ := ab_bnd hk
    refine ab_getR (pc := 20) dX3_takeBack_20 fl_RX3_11 ht3 ?_
    refine ab_aload_n (pc := 23) (i := 0) dX3_takeBack_23 rfl rfl ?_
    obtain ⟨t4, ht4, hk⟩ := ab_bnd hk
    refine ab_getI (pc := 24) dX3_takeBack_24 fl_RX3_22 ht4 ?_
    refine ab_aload_n (pc := 27) (i := 0) dX3_takeBack_27 rfl rfl ?_
    obtain ⟨t5, ht5, hk⟩ := ab_bnd hk
    refine ab_getI (pc := 28) dX3_takeBack_28 fl_RX3_18 ht5 ?_
    refine ab_iadd (pc := 31) dX3_takeBack_31 ?_
    refine ab_bipush (pc := 32) dX3_takeBack_32 ab_p8_10 ab_k_10 ?_
    obtain ⟨t6, ht6, hk⟩ := ab_bnd hk
    refine ab_irem_ (pc := 34) dX3_takeBack_34 ht6 ?_
    obtain ⟨t7, ht7, hk⟩ := ab_bnd hk
    refine ab_aald (pc := 35) dX3_takeBack_35 (by decide) ht7 ?_
    obtain ⟨q8, hq8, hk⟩ := ab_bnd hk
    obtain ⟨hb, hq8⟩ := ab_on_some hq8
    refine ab_callVV (st := []) (as := [ab_R t7]) (b := a1) (pc := 36) dX3_takeBack_36 ml_RX3_25 my_X0_copyFrom mv_X0_copyFrom hb (ct_X0_copyFrom hq8) ⟨Nat.le_of_ble_eq_true rfl, Nat.le_of_ble_eq_true rfl⟩ rfl (Nat.le_of_ble_eq_true rfl) rfl ?_
    obtain rfl := Option.some.inj hk
    exact ab_retv (pc := 39) dX3_takeBack_39 rfl
  · have hk := ab_ifp hk hc
    obtain rfl := Option.some.inj hk
    exact ab_retv (pc := 7) dX3_takeBack_7 rfl
