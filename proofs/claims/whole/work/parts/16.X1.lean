theorem dX1_init_0 : decode cX1_init 0 = .ok (.aload_n 0, 1) := by decide +kernel
theorem dX1_init_1 : decode cX1_init 1 = .ok (.invokespecial 3, 3) := by decide +kernel
theorem dX1_init_4 : decode cX1_init 4 = .ok (.aload_n 0, 1) := by decide +kernel
theorem dX1_init_5 : decode cX1_init 5 = .ok (.iload_n 1, 1) := by decide +kernel
theorem dX1_init_6 : decode cX1_init 6 = .ok (.iconst 0, 1) := by decide +kernel
theorem dX1_init_7 : decode cX1_init 7 = .ok (.invokestatic 9, 3) := by decide +kernel
theorem dX1_init_10 : decode cX1_init 10 = .ok (.newarray .byte, 2) := by decide +kernel
theorem dX1_init_12 : decode cX1_init 12 = .ok (.putfield 15, 3) := by decide +kernel
theorem dX1_init_15 : decode cX1_init 15 = .ok (.return_, 1) := by decide +kernel
abbrev mm_X1_init : ab_M := (RX1, 2, none, true, 1, 24, none)
noncomputable def f_X1_init (a0 : Int) (a1 : Int) (h : ab_H) : Option ab_H :=
  ab_if (decide (0 < a0)) <|
  (ab_mkA h 13 (ab_mx a1 (0 : Int))).bind fun h1 =>
  (ab_putR h1 2 0 a0 (ab_nx h)).bind fun h2 =>
  some h2
set_option maxRecDepth 20000 in
theorem ct_X1_init {a0 a1 : Int} {h : ab_H} {q : ab_H} (hk : f_X1_init a0 a1 h = some q) : ab_CT yX1_init cX1_init 2 none 1 24 [ab_R a0, ab_I a1] h none q := by
  refine ab_CT.mk_ 0 (own := RX1) (ini := true) (lv := [some (ab_R a0), some (ab_I a1)]) rfl (by decide +kernel) (fun _ => rfl) rfl rfl ?_
  unfold f_X1_init at hk
  show ab_E mm_X1_init cX1_init 0 _ [] h _ _
  refine ab_aload_n (pc := 0) (i := 0) dX1_init_0 rfl rfl ?_
  obtain ⟨hg, hk⟩ := ab_if_some hk
  refine ab_obj0_ (pc := 1) dX1_init_1 ob_RX1_3 hg (Nat.le_of_ble_eq_true rfl) (Nat.le_of_ble_eq_true rfl) (Nat.le_of_ble_eq_true rfl) ?_
  refine ab_aload_n (pc := 4) (i := 0) dX1_init_4 rfl rfl ?_
  refine ab_iload_n (pc := 5) (i := 1) dX1_init_5 rfl rfl ?_
  refine ab_iconst (pc := 6) dX1_init_6 ab_k_0 ?_
  refine ab_mmax_ (st := [ab_R a0]) (pc := 7) dX1_init_7 mt_RX1_9 (Nat.le_of_ble_eq_true rfl) (Nat.le_of_ble_eq_true rfl) (Nat.le_of_ble_eq_true rfl) ?_
  obtain ⟨h1, hh1, hk⟩ := ab_bnd hk
  refine ab_newA (pc := 10) dX1_init_10 (by decide) ab_ac_byte hh1 ?_
  obtain ⟨h2, hh2, hk⟩ := ab_bnd hk
  refine ab_putR_ (pc := 12) dX1_init_12 fl_RX1_15 (fun _ => ⟨rfl, rfl⟩) hh2 ?_
  obtain rfl := Option.some.inj hk
  exact ab_retv (pc := 15) dX1_init_15 rfl
theorem dX1_put_0 : decode cX1_put 0 = .ok (.aload_n 0, 1) := by decide +kernel
theorem dX1_put_1 : decode cX1_put 1 = .ok (.getfield 21, 3) := by decide +kernel
theorem dX1_put_4 : decode cX1_put 4 = .ok (.aload_n 0, 1) := by decide +kernel
theorem dX1_put_5 : decode cX1_put 5 = .ok (.getfield 15, 3) := by decide +kernel
theorem dX1_put_8 : decode cX1_put 8 = .ok (.arraylength, 1) := by decide +kernel
theorem dX1_put_9 : decode cX1_put 9 = .ok (.if_icmp .ge 21, 3) := by decide +kernel
theorem dX1_put_12 : decode cX1_put 12 = .ok (.aload_n 0, 1) := by decide +kernel
theorem dX1_put_13 : decode cX1_put 13 = .ok (.getfield 15, 3) := by decide +kernel
theorem dX1_put_16 : decode cX1_put 16 = .ok (.aload_n 0, 1) := by decide +kernel
theorem dX1_put_17 : decode cX1_put 17 = .ok (.dup, 1) := by decide +kernel
theorem dX1_put_18 : decode cX1_put 18 = .ok (.getfield 21, 3) := by decide +kernel
theorem dX1_put_21 : decode cX1_put 21 = .ok (.dup_x1, 1) := by decide +kernel
theorem dX1_put_22 : decode cX1_put 22 = .ok (.iconst 1, 1) := by decide +kernel
theorem dX1_put_23 : decode cX1_put 23 = .ok (.iadd, 1) := by decide +kernel
theorem dX1_put_24 : decode cX1_put 24 = .ok (.putfield 21, 3) := by decide +kernel
theorem dX1_put_27 : decode cX1_put 27 = .ok (.iload_n 1, 1) := by decide +kernel
theorem dX1_put_28 : decode cX1_put 28 = .ok (.i2b, 1) := by decide +kernel
theorem dX1_put_29 : decode cX1_put 29 = .ok (.bastore, 1) := by decide +kernel
theorem dX1_put_30 : decode cX1_put 30 = .ok (.return_, 1) := by decide +kernel
abbrev mm_X1_put : ab_M := (RX1, 2, none, false, 0, 0, none)
noncomputable def f_X1_put (a0 : Int) (a1 : Int) (h : ab_H) : Option ab_H :=
  (ab_get h 2 1 a0).bind fun t1 =>
  (ab_get h 2 0 a0).bind fun t2 =>
  (ab_len h 13 t2).bind fun t3 =>
  if t3 ≤ t1 then
    some h
  else
  (ab_get h 2 0 a0).bind fun t4 =>
  (ab_get h 2 1 a0).bind fun t5 =>
  (ab_put h 2 1 a0 (ab_w32 (t5 + (1 : Int)))).bind fun h1 =>
  (ab_ast h1 13 t4 t5 (ab_w8 (ab_w8 a1))).bind fun h2 =>
  some h2
set_option maxRecDepth 20000 in
theorem ct_X1_put {a0 a1 : Int} {h : ab_H} {q : ab_H} (hk : f_X1_put a0 a1 h = some q) : ab_CT yX1_put cX1_put 2 none 0 0 [ab_R a0, ab_I a1] h none q := by
  refine ab_CT.mk_ 0 (own := RX1) (ini := false) (lv := [some (ab_R a0), some (ab_I a1)]) rfl (by decide +kernel) (fun q => by cases q) rfl rfl ?_
  unfold f_X1_put at hk
  show ab_E mm_X1_put cX1_put 0 _ [] h _ _
  refine ab_aload_n (pc := 0) (i := 0) dX1_put_0 rfl rfl ?_
  obtain ⟨t1, ht1, hk⟩ := ab_bnd hk
  refine ab_getI (pc := 1) dX1_put_1 fl_RX1_21 ht1 ?_
  refine ab_aload_n (pc := 4) (i := 0) dX1_put_4 rfl rfl ?_
  obtain ⟨t2, ht2, hk⟩ := ab_bnd hk
  refine ab_getR (pc := 5) dX1_put_5 fl_RX1_15 ht2 ?_
  obtain ⟨t3, ht3, hk⟩ := ab_bnd hk
  refine ab_alen (pc := 8) dX1_put_8 (by decide) ht3 ?_
  refine ab_icmp_ge (pc := 9) (tgt := 30) dX1_put_9 rfl (fun hc => ?_) (fun hc => ?_)
  · have hk := ab_ifp hk hc
    obtain rfl := Option.some.inj hk
    exact ab_retv (pc := 30) dX1_put_30 rfl
  · have hk := ab_ifn hk hc
    refine ab_aload_n (pc := 12) (i := 0) dX1_put_12 rfl rfl ?_
    obtain ⟨t4, ht4, hk⟩ := ab_bnd hk
    refine ab_getR (pc := 13) dX1_put_13 fl_RX1_15 ht4 ?_
    refine ab_aload_n (pc := 16) (i := 0) dX1_put_16 rfl rfl ?_
    refine ab_dup (pc := 17) dX1_put_17 rfl ?_
    obtain ⟨t5, ht5, hk⟩ := ab_bnd hk
    refine ab_getI (pc := 18) dX1_put_18 fl_RX1_21 ht5 ?_
    refine ab_dup_x1 (pc := 21) dX1_put_21 rfl rfl ?_
    refine ab_iconst (pc := 22) dX1_put_22 ab_k_1 ?_
    refine ab_iadd (pc := 23) dX1_put_23 ?_
    obtain ⟨h1, hh1, hk⟩ := ab_bnd hk
    refine ab_putI_ (pc := 24) dX1_put_24 fl_RX1_21 (fun q => by cases q) hh1 ?_
    refine ab_iload_n (pc := 27) (i := 1) dX1_put_27 rfl rfl ?_
    refine ab_i2b_ (pc := 28) dX1_put_28 ?_
    obtain ⟨h2, hh2, hk⟩ := ab_bnd hk
    refine ab_bast (pc := 29) dX1_put_29 hh2 ?_
    obtain rfl := Option.some.inj hk
    exact ab_retv (pc := 30) dX1_put_30 rfl
theorem dX1_putFour_0 : decode cX1_putFour 0 = .ok (.bipush 24, 2) := by decide +kernel
theorem dX1_putFour_2 : decode cX1_putFour 2 = .ok (.istore_n 2, 1) := by decide +kernel
theorem dX1_putFour_3 : decode cX1_putFour 3 = .ok (.iload_n 2, 1) := by decide +kernel
theorem dX1_putFour_4 : decode cX1_putFour 4 = .ok (.ifCond .lt 16, 3) := by decide +kernel
theorem dX1_putFour_7 : decode cX1_putFour 7 = .ok (.aload_n 0, 1) := by decide +kernel
theorem dX1_putFour_8 : decode cX1_putFour 8 = .ok (.iload_n 1, 1) := by decide +kernel
theorem dX1_putFour_9 : decode cX1_putFour 9 = .ok (.iload_n 2, 1) := by decide +kernel
theorem dX1_putFour_10 : decode cX1_putFour 10 = .ok (.ishr, 1) := by decide +kernel
theorem dX1_putFour_11 : decode cX1_putFour 11 = .ok (.invokevirtual 25, 3) := by decide +kernel
theorem dX1_putFour_14 : decode cX1_putFour 14 = .ok (.iinc 2 (-8), 3) := by decide +kernel
theorem dX1_putFour_17 : decode cX1_putFour 17 = .ok (.goto (-14), 3) := by decide +kernel
theorem dX1_putFour_20 : decode cX1_putFour 20 = .ok (.return_, 1) := by decide +kernel
abbrev mm_X1_putFour : ab_M := (RX1, 3, none, false, 1, 21, none)
noncomputable def f_X1_putFour_L3 : Nat → Int → Int → Int → ab_H → Option ab_H
  | 0, _, _, _, _ => none
  | n + 1, v0, v1, v2, h =>
    if v2 < (0 : Int) then
      some h
    else
    (ab_on h 2 v0 (f_X1_put v0 (ab_shr v1 v2) h)).bind fun q1 =>
    f_X1_putFour_L3 n v0 v1 (ab_w32 (v2 + (-8 : Int))) q1
set_option maxRecDepth 20000 in
theorem e_X1_putFour_L3 : ∀ (n : Nat) (v0 : Int) (v1 : Int) (v2 : Int) (h : ab_H) (q : ab_H), f_X1_putFour_L3 n v0 v1 v2 h = some q → ab_E mm_X1_putFour cX1_putFour 3 [some (ab_R v0), some (ab_I v1), some (ab_I v2)] [] h none q := by
  intro n
  induction n with
  | zero => intro v0 v1 v2 h q hk; cases hk
  | succ n ih =>
    intro v0 v1 v2 h q hk
    unfold f_X1_putFour_L3 at hk
    refine ab_iload_n (pc := 3) (i := 2) dX1_putFour_3 rfl rfl ?_
    refine ab_if_lt (pc := 4) (tgt := 20) dX1_putFour_4 rfl (fun hc => ?_) (fun hc => ?_)
    · have hk := ab_ifp hk hc
      obtain rfl := Option.some.inj hk
      exact ab_retv (pc := 20) dX1_putFour_20 rfl
    · have hk := ab_ifn hk hc
      refine ab_aload_n (pc := 7) (i := 0) dX1_putFour_7 rfl rfl ?_
      refine ab_iload_n (pc := 8) (i := 1) dX1_putFour_8 rfl rfl ?_
      refine ab_iload_n (pc := 9) (i := 2) dX1_putFour_9 rfl rfl ?_
      refine ab_ishr (pc := 10) dX1_putFour_10 ?_
      obtain ⟨q1, hq1, hk⟩ := ab_bnd hk
      obtain ⟨hb, hq1⟩ := ab_on_some hq1
      refine ab_callVV (st := []) (as := [ab_I (ab_shr v1 v2)]) (b := v0) (pc := 11) dX1_putFour_11 ml_RX1_25 my_X1_put mv_X1_put hb (ct_X1_put hq1) ⟨Nat.le_of_ble_eq_true rfl, Nat.le_of_ble_eq_true rfl⟩ rfl (Nat.le_of_ble_eq_true rfl) rfl ?_
      refine ab_iinc (pc := 14) (i := 2) (lv2 := [some (ab_R v0), some (ab_I v1), some (ab_I (ab_w32 (v2 + (-8 : Int))))]) dX1_putFour_14 rfl (Nat.le_of_ble_eq_true rfl) rfl rfl ?_
      refine ab_goto (pc := 17) (tgt := 3) dX1_putFour_17 rfl ?_
      refine ab_sub_ (lv2 := [some (ab_R v0), some (ab_I v1), some (ab_I (ab_w32 (v2 + (-8 : Int))))]) (ab_ss (ab_ss (ab_ss ab_s0))) ?_
      exact ih _ _ _ _ _ hk
noncomputable def f_X1_putFour (a0 : Int) (a1 : Int) (h : ab_H) : Option ab_H :=
  f_X1_putFour_L3 ab_FU a0 a1 (24 : Int) h
set_option maxRecDepth 20000 in
theorem ct_X1_putFour {a0 a1 : Int} {h : ab_H} {q : ab_H} (hk : f_X1_putFour a0 a1 h = some q) : ab_CT yX1_putFour cX1_putFour 3 none 1 21 [ab_R a0, ab_I a1] h none q := by
  refine ab_CT.mk_ 1 (own := RX1) (ini := false) (lv := [some (ab_R a0), some (ab_I a1), none]) rfl (by decide +kernel) (fun q => by cases q) rfl rfl ?_
  unfold f_X1_putFour at hk
  show ab_E mm_X1_putFour cX1_putFour 0 _ [] h _ _
  refine ab_bipush (pc := 0) dX1_putFour_0 ab_p8_24 ab_k_24 ?_
  refine ab_istore_n (pc := 2) (i := 2) (lv2 := [some (ab_R a0), some (ab_I a1), some (ab_I (24 : Int))]) dX1_putFour_2 rfl (Nat.le_of_ble_eq_true rfl) rfl rfl ?_
  refine ab_sub_ (lv2 := [some (ab_R a0), some (ab_I a1), some (ab_I (24 : Int))]) (ab_ss (ab_ss (ab_ss ab_s0))) ?_
  refine e_X1_putFour_L3 _ _ _ _ _ _ hk
theorem dX1_putAll_0 : decode cX1_putAll 0 = .ok (.iconst 0, 1) := by decide +kernel
theorem dX1_putAll_1 : decode cX1_putAll 1 = .ok (.istore_n 2, 1) := by decide +kernel
theorem dX1_putAll_2 : decode cX1_putAll 2 = .ok (.iload_n 2, 1) := by decide +kernel
theorem dX1_putAll_3 : decode cX1_putAll 3 = .ok (.aload_n 1, 1) := by decide +kernel
theorem dX1_putAll_4 : decode cX1_putAll 4 = .ok (.getfield 21, 3) := by decide +kernel
theorem dX1_putAll_7 : decode cX1_putAll 7 = .ok (.if_icmp .ge 19, 3) := by decide +kernel
theorem dX1_putAll_10 : decode cX1_putAll 10 = .ok (.aload_n 0, 1) := by decide +kernel
theorem dX1_putAll_11 : decode cX1_putAll 11 = .ok (.aload_n 1, 1) := by decide +kernel
theorem dX1_putAll_12 : decode cX1_putAll 12 = .ok (.getfield 15, 3) := by decide +kernel
theorem dX1_putAll_15 : decode cX1_putAll 15 = .ok (.iload_n 2, 1) := by decide +kernel
theorem dX1_putAll_16 : decode cX1_putAll 16 = .ok (.baload, 1) := by decide +kernel
theorem dX1_putAll_17 : decode cX1_putAll 17 = .ok (.invokevirtual 25, 3) := by decide +kernel
theorem dX1_putAll_20 : decode cX1_putAll 20 = .ok (.iinc 2 1, 3) := by decide +kernel
theorem dX1_putAll_23 : decode cX1_putAll 23 = .ok (.goto (-21), 3) := by decide +kernel
theorem dX1_putAll_26 : decode cX1_putAll 26 = .ok (.return_, 1) := by decide +kernel
abbrev mm_X1_putAll : ab_M := (RX1, 3, none, false, 1, 21, none)
noncomputable def f_X1_putAll_L2 : Nat → Int → Int → Int → ab_H → Option ab_H
  | 0, _, _, _, _ => none
  | n + 1, v0, v1, v2, h =>
    (ab_get h 2 1 v1).bind fun t1 =>
    if t1 ≤ v2 then
      some h
    else
    (ab_get h 2 0 v1).bind fun t2 =>
    (ab_ald h 13 t2 v2).bind fun t3 =>
    (ab_on h 2 v0 (f_X1_put v0 t3 h)).bind fun q4 =>
    f_X1_putAll_L2 n v0 v1 (ab_w32 (v2 + (1 : Int))) q4
set_option maxRecDepth 20000 in
theorem e_X1_putAll_L2 : ∀ (n : Nat) (v0 : Int) (v1 : Int) (v2 : Int) (h : ab_H) (q : ab_H), f_X1_putAll_L2 n v0 v1 v2 h = some q → ab_E mm_X1_putAll cX1_putAll 2 [some (ab_R v0), some (ab_R v1), some (ab_I v2)] [] h none q := by
  intro n
  induction n with
  | zero => intro v0 v1 v2 h q hk; cases hk
  | succ n ih =>
    intro v0 v1 v2 h q hk
    unfold f_X1_putAll_L2 at hk
    refine ab_iload_n (pc := 2) (i := 2) dX1_putAll_2 rfl rfl ?_
    refine ab_aload_n (pc := 3) (i := 1) dX1_putAll_3 rfl rfl ?_
    obtain ⟨t1, ht1, hk⟩ := ab_bnd hk
    refine ab_getI (pc := 4) dX1_putAll_4 fl_RX1_21 ht1 ?_
    refine ab_icmp_ge (pc := 7) (tgt := 26) dX1_putAll_7 rfl (fun hc => ?_) (fun hc => ?_)
    · have hk := ab_ifp hk hc
      obtain rfl := Option.some.inj hk
      exact ab_retv (pc := 26) dX1_putAll_26 rfl
    · have hk := ab_ifn hk hc
      refine ab_aload_n (pc := 10) (i := 0) dX1_putAll_10 rfl rfl ?_
      refine ab_aload_n (pc := 11) (i := 1) dX1_putAll_11 rfl rfl ?_
      obtain ⟨t2, ht2, hk⟩ := ab_bnd hk
      refine ab_getR (pc := 12) dX1_putAll_12 fl_RX1_15 ht2 ?_
      refine ab_iload_n (pc := 15) (i := 2) dX1_putAll_15 rfl rfl ?_
      obtain ⟨t3, ht3, hk⟩ := ab_bnd hk
      refine ab_bald (pc := 16) dX1_putAll_16 ht3 ?_
      obtain ⟨q4, hq4, hk⟩ := ab_bnd hk
      obtain ⟨hb, hq4⟩ := ab_on_some hq4
      refine ab_callVV (st := []) (as := [ab_I t3]) (b := v0) (pc := 17) dX1_putAll_17 ml_RX1_25 my_X1_put mv_X1_put hb (ct_X1_put hq4) ⟨Nat.le_of_ble_eq_true rfl, Nat.le_of_ble_eq_true rfl⟩ rfl (Nat.le_of_ble_eq_true rfl) rfl ?_
      refine ab_iinc (pc := 20) (i := 2) (lv2 := [some (ab_R v0), some (ab_R v1), some (ab_I (ab_w32 (v2 + (1 : Int))))]) dX1_putAll_20 rfl (Nat.le_of_ble_eq_true rfl) rfl rfl ?_
      refine ab_goto (pc := 23) (tgt := 2) dX1_putAll_23 rfl ?_
      refine ab_sub_ (lv2 := [some (ab_R v0), some (ab_R v1), some (ab_I (ab_w32 (v2 + (1 : Int))))]) (ab_ss (ab_ss (ab_ss ab_s0))) ?_
      exact ih _ _ _ _ _ hk
noncomputable def f_X1_putAll (a0 : Int) (a1 : Int) (h : ab_H) : Option ab_H :=
  f_X1_putAll_L2 ab_FU a0 a1 (0 : Int) h
set_option maxRecDepth 20000 in
theorem ct_X1_putAll {a0 a1 : Int} {h : ab_H} {q : ab_H} (hk : f_X1_putAll a0 a1 h = some q) : ab_CT yX1_putAll cX1_putAll 3 none 1 21 [ab_R a0, ab_R a1] h none q := by
  refine ab_CT.mk_ 1 (own := RX1) (ini := false) (lv := [some (ab_R a0), some (ab_R a1), none]) rfl (by decide +kernel) (fun q => by cases q) rfl rfl ?_
  unfold f_X1_putAll at hk
  show ab_E mm_X1_putAll cX1_putAll 0 _ [] h _ _
  refine ab_iconst (pc := 0) dX1_putAll_0 ab_k_0 ?_
  refine ab_istore_n (pc := 1) (i := 2) (lv2 := [some (ab_R a0), some (ab_R a1), some (ab_I (0 : Int))]) dX1_putAll_1 rfl (Nat.le_of_ble_eq_true rfl) rfl rfl ?_
  refine ab_sub_ (lv2 := [some (ab_R a0), some (ab_R a1), some (ab_I (0 : Int))]) (ab_ss (ab_ss (ab_ss ab_s0))) ?_
  refine e_X1_putAll_L2 _ _ _ _ _ _ hk
theorem dX1_putName_0 : decode cX1_putName 0 = .ok (.iconst 0, 1) := by decide +kernel
theorem dX1_putName_1 : decode cX1_putName 1 = .ok (.istore_n 3, 1) := by decide +kernel
theorem dX1_putName_2 : decode cX1_putName 2 = .ok (.iload_n 3, 1) := by decide +kernel
theorem dX1_putName_3 : decode cX1_putName 3 = .ok (.bipush 7, 2) := by decide +kernel
theorem dX1_putName_5 : decode cX1_putName 5 = .ok (.if_icmp .ge 30, 3) := by decide +kernel
theorem dX1_putName_8 : decode cX1_putName 8 = .ok (.lload_n 1, 1) := by decide +kernel
theorem dX1_putName_9 : decode cX1_putName 9 = .ok (.iload_n 3, 1) := by decide +kernel
theorem dX1_putName_10 : decode cX1_putName 10 = .ok (.invokestatic 29, 3) := by decide +kernel
theorem dX1_putName_13 : decode cX1_putName 13 = .ok (.istore 4, 2) := by decide +kernel
theorem dX1_putName_15 : decode cX1_putName 15 = .ok (.iload 4, 2) := by decide +kernel
theorem dX1_putName_17 : decode cX1_putName 17 = .ok (.ifCond .eq 12, 3) := by decide +kernel
theorem dX1_putName_20 : decode cX1_putName 20 = .ok (.aload_n 0, 1) := by decide +kernel
theorem dX1_putName_21 : decode cX1_putName 21 = .ok (.bipush 96, 2) := by decide +kernel
theorem dX1_putName_23 : decode cX1_putName 23 = .ok (.iload 4, 2) := by decide +kernel
theorem dX1_putName_25 : decode cX1_putName 25 = .ok (.iadd, 1) := by decide +kernel
theorem dX1_putName_26 : decode cX1_putName 26 = .ok (.invokevirtual 25, 3) := by decide +kernel
theorem dX1_putName_29 : decode cX1_putName 29 = .ok (.iinc 3 1, 3) := by decide +kernel
theorem dX1_putName_32 : decode cX1_putName 32 = .ok (.goto (-30), 3) := by decide +kernel
theorem dX1_putName_35 : decode cX1_putName 35 = .ok (.return_, 1) := by decide +kernel
abbrev mm_X1_putName : ab_M := (RX1, 5, none, false, 1, 22, none)
noncomputable def f_X1_putName_J29 (rec : Int → Int → Int → ab_H → Option ab_H) (v0 : Int) (v1 : Int) (v3 : Int) (h : ab_H) : Option ab_H :=
  rec v0 v1 (ab_w32 (v3 + (1 : Int))) h
set_option maxRecDepth 20000 in
theorem e_X1_putName_J29 {rec : Int → Int → Int → ab_H → Option ab_H} (hrec : ∀ (v0 : Int) (v1 : Int) (v3 : Int) (h : ab_H) (q : ab_H), rec v0 v1 v3 h = some q → ab_E mm_X1_putName cX1_putName 2 [some (ab_R v0), some (ab_J v1), none, some (ab_I v3), none] [] h none q) : ∀ (v0 : Int) (v1 : Int) (v3 : Int) (h : ab_H) (q : ab_H), f_X1_putName_J29 rec v0 v1 v3 h = some q → ab_E mm_X1_putName cX1_putName 29 [some (ab_R v0), some (ab_J v1), none, some (ab_I v3), none] [] h none q := by
  intro v0 v1 v3 h q hk
  unfold f_X1_putName_J29 at hk
  refine ab_iinc (pc := 29) (i := 3) (lv2 := [some (ab_R v0), some (ab_J v1), none, some (ab_I (ab_w32 (v3 + (1 : Int)))), none]) dX1_putName_29 rfl (Nat.le_of_ble_eq_true rfl) rfl rfl ?_
  refine ab_goto (pc := 32) (tgt := 2) dX1_putName_32 rfl ?_
  refine ab_sub_ (lv2 := [some (ab_R v0), some (ab_J v1), none, some (ab_I (ab_w32 (v3 + (1 : Int)))), none]) (ab_ss (ab_ss (ab_sn (ab_ss (ab_sn ab_s0))))) ?_
  exact hrec _ _ _ _ _ hk
noncomputable def f_X1_putName_L2 : Nat → Int → Int → Int → ab_H → Option ab_H
  | 0, _, _, _, _ => none
  | n + 1, v0, v1, v3, h =>
    if (7 : Int) ≤ v3 then
      some h
    else
    (f_X8_letterOf v1 v3 h).bind fun q1 =>
    if q1.1 = (0 : Int) then
      f_X1_putName_J29 (f_X1_putName_L2 n) v0 v1 v3 q1.2
    else
    (ab_on q1.2 2 v0 (f_X1_put v0 (ab_w32 ((96 : Int) + q1.1)) q1.2)).bind fun q2 =>
    f_X1_putName_J29 (f_X1_putName_L2 n) v0 v1 v3 q2
set_option maxRecDepth 20000 in
theorem e_X1_putName_L2 : ∀ (n : Nat) (v0 : Int) (v1 : Int) (v3 : Int) (h : ab_H) (q : ab_H), f_X1_putName_L2 n v0 v1 v3 h = some q → ab_E mm_X1_putName cX1_putName 2 [some (ab_R v0), some (ab_J v1), none, some (ab_I v3), none] [] h none q := by
  intro n
  induction n with
  | zero => intro v0 v1 v3 h q hk; cases hk
  | succ n ih =>
    intro v0 v1 v3 h q hk
    unfold f_X1_putName_L2 at hk
    refine ab_iload_n (pc := 2) (i := 3) dX1_putName_2 rfl rfl ?_
    refine ab_bipush (pc := 3) dX1_putName_3 ab_p8_7 ab_k_7 ?_
    refine ab_icmp_ge (pc := 5) (tgt := 35) dX1_putName_5 rfl (fun hc => ?_) (fun hc => ?_)
    · have hk := ab_ifp hk hc
      obtain rfl := Option.some.inj hk
      exact ab_retv (pc := 35) dX1_putName_35 rfl
    · have hk := ab_ifn hk hc
      refine ab_lload_n (pc := 8) (i := 1) dX1_putName_8 rfl rfl ?_
      refine ab_iload_n (pc := 9) (i := 3) dX1_putName_9 rfl rfl ?_
      obtain ⟨q1, hq1, hk⟩ := ab_bnd hk
      refine ab_callSI (st := []) (as := [ab_J v1, ab_I v3]) (pc := 10) dX1_putName_10 ml_RX1_29 my_X8_letterOf ms_X8_letterOf (ct_X8_letterOf hq1) ⟨Nat.le_of_ble_eq_true rfl, Nat.le_of_ble_eq_true rfl⟩ rfl (Nat.le_of_ble_eq_true rfl) rfl ?_
      refine ab_istore (pc := 13) (i := 4) (lv2 := [some (ab_R v0), some (ab_J v1), none, some (ab_I v3), some (ab_I q1.1)]) dX1_putName_13 (Nat.le_of_ble_eq_true rfl) rfl rfl ?_
      refine ab_iload (pc := 15) (i := 4) dX1_putName_15 rfl ?_
      refine ab_if_eq (pc := 17) (tgt := 29) dX1_putName_17 rfl (fun hc => ?_) (fun hc => ?_)
      · have hk := ab_ifp hk hc
        refine ab_sub_ (lv2 := [some (ab_R v0), some (ab_J v1), none, some (ab_I v3), none]) (ab_ss (ab_ss (ab_sn (ab_ss (ab_sn ab_s0))))) ?_
        exact e_X1_putName_J29 ih _ _ _ _ _ hk
      · have hk := ab_ifn hk hc
        refine ab_aload_n (pc := 20) (i := 0) dX1_putName_20 rfl rfl ?_
        refine ab_bipush (pc := 21) dX1_putName_21 ab_p8_96 ab_k_96 ?_
        refine ab_iload (pc := 23) (i := 4) dX1_putName_23 rfl ?_
        refine ab_iadd (pc := 25) dX1_putName_25 ?_
        obtain ⟨q2, hq2, hk⟩ := ab_bnd hk
        obtain ⟨hb, hq2⟩ := ab_on_some hq2
        refine ab_callVV (st := []) (as := [ab_I (ab_w32 ((96 : Int) + q1.1))]) (b := v0) (pc := 26) dX1_putName_26 ml_RX1_25 my_X1_put mv_X1_put hb (ct_X1_put hq2) ⟨Nat.le_of_ble_eq_true rfl, Nat.le_of_ble_eq_true rfl⟩ rfl (Nat.le_of_ble_eq_true rfl) rfl ?_
        refine ab_sub_ (lv2 := [some (ab_R v0), some (ab_J v1), none, some (ab_I v3), none]) (ab_ss (ab_ss (ab_sn (ab_ss (ab_sn ab_s0))))) ?_
        exact e_X1_putName_J29 ih _ _ _ _ _ hk
noncomputable def f_X1_putName (a0 : Int) (a1 : Int) (h : ab_H) : Option ab_H :=
  f_X1_putName_L2 ab_FU a0 a1 (0 : Int) h
set_option maxRecDepth 20000 in
theorem ct_X1_putName {a0 a1 : Int} {h : ab_H} {q : ab_H} (hk : f_X1_putName a0 a1 h = some q) : ab_CT yX1_putName cX1_putName 5 none 1 22 [ab_R a0, ab_J a1] h none q := by
  refine ab_CT.mk_ 2 (own := RX1) (ini := false) (lv := [some (ab_R a0), some (ab_J a1), none, none, none]) rfl (by decide +kernel) (fun q => by cases q) rfl rfl ?_
  unfold f_X1_putName at hk
  show ab_E mm_X1_putName cX1_putName 0 _ [] h _ _
  refine ab_iconst (pc := 0) dX1_putName_0 ab_k_0 ?_
  refine ab_istore_n (pc := 1) (i := 3) (lv2 := [some (ab_R a0), some (ab_J a1), none, some (ab_I (0 : Int)), none]) dX1_putName_1 rfl (Nat.le_of_ble_eq_true rfl) rfl rfl ?_
  refine ab_sub_ (lv2 := [some (ab_R a0), some (ab_J a1), none, some (ab_I (0 : Int)), none]) (ab_ss (ab_ss (ab_sn (ab_ss (ab_sn ab_s0))))) ?_
  refine e_X1_putName_L2 _ _ _ _ _ _ hk
theorem dX1_putAddress_0 : decode cX1_putAddress 0 = .ok (.iload_n 1, 1) := by decide +kernel
theorem dX1_putAddress_1 : decode cX1_putAddress 1 = .ok (.bipush 100, 2) := by decide +kernel
theorem dX1_putAddress_3 : decode cX1_putAddress 3 = .ok (.if_icmp .lt 14, 3) := by decide +kernel
theorem dX1_putAddress_6 : decode cX1_putAddress 6 = .ok (.aload_n 0, 1) := by decide +kernel
theorem dX1_putAddress_7 : decode cX1_putAddress 7 = .ok (.bipush 48, 2) := by decide +kernel
theorem dX1_putAddress_9 : decode cX1_putAddress 9 = .ok (.iload_n 1, 1) := by decide +kernel
theorem dX1_putAddress_10 : decode cX1_putAddress 10 = .ok (.bipush 100, 2) := by decide +kernel
theorem dX1_putAddress_12 : decode cX1_putAddress 12 = .ok (.idiv, 1) := by decide +kernel
theorem dX1_putAddress_13 : decode cX1_putAddress 13 = .ok (.iadd, 1) := by decide +kernel
theorem dX1_putAddress_14 : decode cX1_putAddress 14 = .ok (.invokevirtual 25, 3) := by decide +kernel
theorem dX1_putAddress_17 : decode cX1_putAddress 17 = .ok (.iload_n 1, 1) := by decide +kernel
theorem dX1_putAddress_18 : decode cX1_putAddress 18 = .ok (.bipush 10, 2) := by decide +kernel
theorem dX1_putAddress_20 : decode cX1_putAddress 20 = .ok (.if_icmp .lt 17, 3) := by decide +kernel
theorem dX1_putAddress_23 : decode cX1_putAddress 23 = .ok (.aload_n 0, 1) := by decide +kernel
theorem dX1_putAddress_24 : decode cX1_putAddress 24 = .ok (.bipush 48, 2) := by decide +kernel
theorem dX1_putAddress_26 : decode cX1_putAddress 26 = .ok (.iload_n 1, 1) := by decide +kernel
theorem dX1_putAddress_27 : decode cX1_putAddress 27 = .ok (.bipush 10, 2) := by decide +kernel
theorem dX1_putAddress_29 : decode cX1_putAddress 29 = .ok (.idiv, 1) := by decide +kernel
theorem dX1_putAddress_30 : decode cX1_putAddress 30 = .ok (.bipush 10, 2) := by decide +kernel
theorem dX1_putAddress_32 : decode cX1_putAddress 32 = .ok (.irem, 1) := by decide +kernel
theorem dX1_putAddress_33 : decode cX1_putAddress 33 = .ok (.iadd, 1) := by decide +kernel
theorem dX1_putAddress_34 : decode cX1_putAddress 34 = .ok (.invokevirtual 25, 3) := by decide +kernel
theorem dX1_putAddress_37 : decode cX1_putAddress 37 = .ok (.aload_n 0, 1) := by decide +kernel
theorem dX1_putAddress_38 : decode cX1_putAddress 38 = .ok (.bipush 48, 2) := by decide +kernel
theorem dX1_putAddress_40 : decode cX1_putAddress 40 = .ok (.iload_n 1, 1) := by decide +kernel
theorem dX1_putAddress_41 : decode cX1_putAddress 41 = .ok (.bipush 10, 2) := by decide +kernel
theorem dX1_putAddress_43 : decode cX1_putAddress 43 = .ok (.irem, 1) := by decide +kernel
theorem dX1_putAddress_44 : decode cX1_putAddress 44 = .ok (.iadd, 1) := by decide +kernel
theorem dX1_putAddress_45 : decode cX1_putAddress 45 = .ok (.invokevirtual 25, 3) := by decide +kernel
theorem dX1_putAddress_48 : decode cX1_putAddress 48 = .ok (.return_, 1) := by decide +kernel
abbrev mm_X1_putAddress : ab_M := (RX1, 2, none, false, 1, 21, none)
noncomputable def f_X1_putAddress_J37 (v0 : Int) (v1 : Int) (h : ab_H) : Option ab_H :=
  (ab_rm_ v1 (10 : Int)).bind fun t1 =>
  (ab_on h 2 v0 (f_X1_put v0 (ab_w32 ((48 : Int) + t1)) h)).bind fun q2 =>
  some q2
set_option maxRecDepth 20000 in
theorem e_X1_putAddress_J37 : ∀ (v0 : Int) (v1 : Int) (h : ab_H) (q : ab_H), f_X1_putAddress_J37 v0 v1 h = some q → ab_E mm_X1_putAddress cX1_putAddress 37 [some (ab_R v0), some (ab_I v1)] [] h none q := by
  intro v0 v1 h q hk
  unfold f_X1_putAddress_J37 at hk
  refine ab_aload_n (pc := 37) (i := 0) dX1_putAddress_37 rfl rfl ?_
  refine ab_bipush (pc := 38) dX1_putAddress_38 ab_p8_48 ab_k_48 ?_
  refine ab_iload_n (pc := 40) (i := 1) dX1_putAddress_40 rfl rfl ?_
  refine ab_bipush (pc := 41) dX1_putAddress_41 ab_p8_10 ab_k_10 ?_
  obtain ⟨t1, ht1, hk⟩ := ab_bnd hk
  refine ab_irem_ (pc := 43) dX1_putAddress_43 ht1 ?_
  refine ab_iadd (pc := 44) dX1_putAddress_44 ?_
  obtain ⟨q2, hq2, hk⟩ := ab_bnd hk
  obtain ⟨hb, hq2⟩ := ab_on_some hq2
  refine ab_callVV (st := []) (as := [ab_I (ab_w32 ((48 : Int) + t1))]) (b := v0) (pc := 45) dX1_putAddress_45 ml_RX1_25 my_X1_put mv_X1_put hb (ct_X1_put hq2) ⟨Nat.le_of_ble_eq_true rfl, Nat.le_of_ble_eq_true rfl⟩ rfl (Nat.le_of_ble_eq_true rfl) rfl ?_
  obtain rfl := Option.some.inj hk
  exact ab_retv (pc := 48) dX1_putAddress_48 rfl
noncomputable def f_X1_putAddress_J17 (v0 : Int) (v1 : Int) (h : ab_H) : Option ab_H :=
  if v1 < (10 : Int) then
    f_X1_putAddress_J37 v0 v1 h
  else
  (ab_dv v1 (10 : Int)).bind fun t1 =>
  (ab_rm_ t1 (10 : Int)).bind fun t2 =>
  (ab_on h 2 v0 (f_X1_put v0 (ab_w32 ((48 : Int) + t2)) h)).bind fun q3 =>
  f_X1_putAddress_J37 v0 v1 q3
set_option maxRecDepth 20000 in
theorem e_X1_putAddress_J17 : ∀ (v0 : Int) (v1 : Int) (h : ab_H) (q : ab_H), f_X1_putAddress_J17 v0 v1 h = some q → ab_E mm_X1_putAddress cX1_putAddress 17 [some (ab_R v0), some (ab_I v1)] [] h none q := by
  intro v0 v1 h q hk
  unfold f_X1_putAddress_J17 at hk
  refine ab_iload_n (pc := 17) (i := 1) dX1_putAddress_17 rfl rfl ?_
  refine ab_bipush (pc := 18) dX1_putAddress_18 ab_p8_10 ab_k_10 ?_
  refine ab_icmp_lt (pc := 20) (tgt := 37) dX1_putAddress_20 rfl (fun hc => ?_) (fun hc => ?_)
  · have hk := ab_ifp hk hc
    refine ab_sub_ (lv2 := [some (ab_R v0), some (ab_I v1)]) (ab_ss (ab_ss ab_s0)) ?_
    exact e_X1_putAddress_J37 _ _ _ _ hk
  · have hk := ab_ifn hk hc
    refine ab_aload_n (pc := 23) (i := 0) dX1_putAddress_23 rfl rfl ?_
    refine ab_bipush (pc := 24) dX1_putAddress_24 ab_p8_48 ab_k_48 ?_
    refine ab_iload_n (pc := 26) (i := 1) dX1_putAddress_26 rfl rfl ?_
    refine ab_bipush (pc := 27) dX1_putAddress_27 ab_p8_10 ab_k_10 ?_
    obtain ⟨t1, ht1, hk⟩ := ab_bnd hk
    refine ab_idiv_ (pc := 29) dX1_putAddress_29 ht1 ?_
    refine ab_bipush (pc := 30) dX1_putAddress_30 ab_p8_10 ab_k_10 ?_
    obtain ⟨t2, ht2, hk⟩ := ab_bnd hk
    refine ab_irem_ (pc := 32) dX1_putAddress_32 ht2 ?_
    refine ab_iadd (pc := 33) dX1_putAddress_33 ?_
    obtain ⟨q3, hq3, hk⟩ := ab_bnd hk
    obtain ⟨hb, hq3⟩ := ab_on_some hq3
    refine ab_callVV (st := []) (as := [ab_I (ab_w32 ((48 : Int) + t2))]) (b := v0) (pc := 34) dX1_putAddress_34 ml_RX1_25 my_X1_put mv_X1_put hb (ct_X1_put hq3) ⟨Nat.le_of_ble_eq_true rfl, Nat.le_of_ble_eq_true rfl⟩ rfl (Nat.le_of_ble_eq_true rfl) rfl ?_
    refine ab_sub_ (lv2 := [some (ab_R v0), some (ab_I v1)]) (ab_ss (ab_ss ab_s0)) ?_
    exact e_X1_putAddress_J37 _ _ _ _ hk
noncomputable def f_X1_putAddress (a0 : Int) (a1 : Int) (h : ab_H) : Option ab_H :=
  if a1 < (100 : Int) then
    f_X1_putAddress_J17 a0 a1 h
  else
  (ab_dv a1 (100 : Int)).bind fun t1 =>
  (ab_on h 2 a0 (f_X1_put a0 (ab_w32 ((48 : Int) + t1)) h)).bind fun q2 =>
  f_X1_putAddress_J17 a0 a1 q2
set_option maxRecDepth 20000 in
theorem ct_X1_putAddress {a0 a1 : Int} {h : ab_H} {q : ab_H} (hk : f_X1_putAddress a0 a1 h = some q) : ab_CT yX1_putAddress cX1_putAddress 2 none 1 21 [ab_R a0, ab_I a1] h none q := by
  refine ab_CT.mk_ 0 (own := RX1) (ini := false) (lv := [some (ab_R a0), some (ab_I a1)]) rfl (by decide +kernel) (fun q => by cases q) rfl rfl ?_
  unfold f_X1_putAddress at hk
  show ab_E mm_X1_putAddress cX1_putAddress 0 _ [] h _ _
  refine ab_iload_n (pc := 0) (i := 1) dX1_putAddress_0 rfl rfl ?_
  refine ab_bipush (pc := 1) dX1_putAddress_1 ab_p8_100 ab_k_100 ?_
  refine ab_icmp_lt (pc := 3) (tgt := 17) dX1_putAddress_3 rfl (fun hc => ?_) (fun hc => ?_)
  · have hk := ab_ifp hk hc
    refine ab_sub_ (lv2 := [some (ab_R a0), some (ab_I a1)]) (ab_ss (ab_ss ab_s0)) ?_
    exact e_X1_putAddress_J17 _ _ _ _ hk
  · have hk := ab_ifn hk hc
    refine ab_aload_n (pc := 6) (i := 0) dX1_putAddress_6 rfl rfl ?_
    refine ab_bipush (pc := 7) dX1_putAddress_7 ab_p8_48 ab_k_48 ?_
    refine ab_iload_n (pc := 9) (i := 1) dX1_putAddress_9 rfl rfl ?_
    refine ab_bipush (pc := 10) dX1_putAddress_10 ab_p8_100 ab_k_100 ?_
    obtain ⟨t1, ht1, hk⟩ := ab_bnd hk
    refine ab_idiv_ (pc := 12) dX1_putAddress_12 ht1 ?_
    refine ab_iadd (pc := 13) dX1_putAddress_13 ?_
    obtain ⟨q2, hq2, hk⟩ := ab_bnd hk
    obtain ⟨hb, hq2⟩ := ab_on_some hq2
    refine ab_callVV (st := []) (as := [ab_I (ab_w32 ((48 : Int) + t1))]) (b := a0) (pc := 14) dX1_putAddress_14 ml_RX1_25 my_X1_put mv_X1_put hb (ct_X1_put hq2) ⟨Nat.le_of_ble_eq_true rfl, Nat.le_of_ble_eq_true rfl⟩ rfl (Nat.le_of_ble_eq_true rfl) rfl ?_
    refine ab_sub_ (lv2 := [some (ab_R a0), some (ab_I a1)]) (ab_ss (ab_ss ab_s0)) ?_
    exact e_X1_putAddress_J17 _ _ _ _ hk
theorem dX1_asName_0 : decode cX1_asName 0 = .ok (.aload_n 0, 1) := by decide +kernel
theorem dX1_asName_1 : decode cX1_asName 1 = .ok (.getfield 21, 3) := by decide +kernel
theorem dX1_asName_4 : decode cX1_asName 4 = .ok (.bipush 7, 2) := by decide +kernel
theorem dX1_asName_6 : decode cX1_asName 6 = .ok (.if_icmp .le 7, 3) := by decide +kernel
theorem dX1_asName_9 : decode cX1_asName 9 = .ok (.ldc2_w 33, 3) := by decide +kernel
theorem dX1_asName_12 : decode cX1_asName 12 = .ok (.lreturn, 1) := by decide +kernel
theorem dX1_asName_13 : decode cX1_asName 13 = .ok (.lconst 0, 1) := by decide +kernel
theorem dX1_asName_14 : decode cX1_asName 14 = .ok (.lstore_n 1, 1) := by decide +kernel
theorem dX1_asName_15 : decode cX1_asName 15 = .ok (.iconst 0, 1) := by decide +kernel
theorem dX1_asName_16 : decode cX1_asName 16 = .ok (.istore_n 3, 1) := by decide +kernel
theorem dX1_asName_17 : decode cX1_asName 17 = .ok (.iload_n 3, 1) := by decide +kernel
theorem dX1_asName_18 : decode cX1_asName 18 = .ok (.aload_n 0, 1) := by decide +kernel
theorem dX1_asName_19 : decode cX1_asName 19 = .ok (.getfield 21, 3) := by decide +kernel
theorem dX1_asName_22 : decode cX1_asName 22 = .ok (.if_icmp .ge 36, 3) := by decide +kernel
theorem dX1_asName_25 : decode cX1_asName 25 = .ok (.aload_n 0, 1) := by decide +kernel
theorem dX1_asName_26 : decode cX1_asName 26 = .ok (.getfield 15, 3) := by decide +kernel
theorem dX1_asName_29 : decode cX1_asName 29 = .ok (.iload_n 3, 1) := by decide +kernel
theorem dX1_asName_30 : decode cX1_asName 30 = .ok (.baload, 1) := by decide +kernel
theorem dX1_asName_31 : decode cX1_asName 31 = .ok (.invokestatic 35, 3) := by decide +kernel
theorem dX1_asName_34 : decode cX1_asName 34 = .ok (.ifCond .ne 7, 3) := by decide +kernel
theorem dX1_asName_37 : decode cX1_asName 37 = .ok (.ldc2_w 33, 3) := by decide +kernel
theorem dX1_asName_40 : decode cX1_asName 40 = .ok (.lreturn, 1) := by decide +kernel
theorem dX1_asName_41 : decode cX1_asName 41 = .ok (.lload_n 1, 1) := by decide +kernel
theorem dX1_asName_42 : decode cX1_asName 42 = .ok (.aload_n 0, 1) := by decide +kernel
theorem dX1_asName_43 : decode cX1_asName 43 = .ok (.getfield 15, 3) := by decide +kernel
theorem dX1_asName_46 : decode cX1_asName 46 = .ok (.iload_n 3, 1) := by decide +kernel
theorem dX1_asName_47 : decode cX1_asName 47 = .ok (.baload, 1) := by decide +kernel
theorem dX1_asName_48 : decode cX1_asName 48 = .ok (.invokestatic 39, 3) := by decide +kernel
theorem dX1_asName_51 : decode cX1_asName 51 = .ok (.lstore_n 1, 1) := by decide +kernel
theorem dX1_asName_52 : decode cX1_asName 52 = .ok (.iinc 3 1, 3) := by decide +kernel
theorem dX1_asName_55 : decode cX1_asName 55 = .ok (.goto (-38), 3) := by decide +kernel
theorem dX1_asName_58 : decode cX1_asName 58 = .ok (.lload_n 1, 1) := by decide +kernel
theorem dX1_asName_59 : decode cX1_asName 59 = .ok (.invokestatic 43, 3) := by decide +kernel
theorem dX1_asName_62 : decode cX1_asName 62 = .ok (.lreturn, 1) := by decide +kernel
abbrev mm_X1_asName : ab_M := (RX1, 4, (some .long), false, 1, 24, none)
noncomputable def f_X1_asName_L17 (k58 : Int → ab_H → Option (Int × ab_H)) : Nat → Int → Int → Int → ab_H → Option (Int × ab_H)
  | 0, _, _, _, _ => none
  | n + 1, v0, v1, v3, h =>
    (ab_get h 2 1 v0).bind fun t1 =>
    if t1 ≤ v3 then
      k58 v1 h
    else
    (ab_get h 2 0 v0).bind fun t2 =>
    (ab_ald h 13 t2 v3).bind fun t3 =>
    (f_X8_isLetter t3 h).bind fun q4 =>
    if q4.1 = (0 : Int) then
      some ((-1 : Int), q4.2)
    else
    (ab_get q4.2 2 0 v0).bind fun t5 =>
    (ab_ald q4.2 13 t5 v3).bind fun t6 =>
    (f_X8_grown v1 t6 q4.2).bind fun q7 =>
    f_X1_asName_L17 k58 n v0 q7.1 (ab_w32 (v3 + (1 : Int))) q7.2
set_option maxRecDepth 20000 in
theorem e_X1_asName_L17 {k58 : Int → ab_H → Option (Int × ab_H)} (hk58 : ∀ (v1 : Int) (h : ab_H) (q : Int × ab_H), k58 v1 h = some q → ab_E mm_X1_asName cX1_asName 58 [none, some (ab_J v1), none, none] [] h (some (ab_J q.1)) q.2) : ∀ (n : Nat) (v0 : Int) (v1 : Int) (v3 : Int) (h : ab_H) (q : Int × ab_H), f_X1_asName_L17 k58 n v0 v1 v3 h = some q → ab_E mm_X1_asName cX1_asName 17 [some (ab_R v0), some (ab_J v1), none, some (ab_I v3)] [] h (some (ab_J q.1)) q.2 := by
  intro n
  induction n with
  | zero => intro v0 v1 v3 h q hk; cases hk
  | succ n ih =>
    intro v0 v1 v3 h q hk
    unfold f_X1_asName_L17 at hk
    refine ab_iload_n (pc := 17) (i := 3) dX1_asName_17 rfl rfl ?_
    refine ab_aload_n (pc := 18) (i := 0) dX1_asName_18 rfl rfl ?_
    obtain ⟨t1, ht1, hk⟩ := ab_bnd hk
    refine ab_getI (pc := 19) dX1_asName_19 fl_RX1_21 ht1 ?_
    refine ab_icmp_ge (pc := 22) (tgt := 58) dX1_asName_22 rfl (fun hc => ?_) (fun hc => ?_)
    · have hk := ab_ifp hk hc
      refine ab_sub_ (lv2 := [none, some (ab_J v1), none, none]) (ab_sn (ab_ss (ab_sn (ab_sn ab_s0)))) ?_
      exact hk58 _ _ _ hk
    · have hk := ab_ifn hk hc
      refine ab_aload_n (pc := 25) (i := 0) dX1_asName_25 rfl rfl ?_
      obtain ⟨t2, ht2, hk⟩ := ab_bnd hk
      refine ab_getR (pc := 26) dX1_asName_26 fl_RX1_15 ht2 ?_
      refine ab_iload_n (pc := 29) (i := 3) dX1_asName_29 rfl rfl ?_
      obtain ⟨t3, ht3, hk⟩ := ab_bnd hk
      refine ab_bald (pc := 30) dX1_asName_30 ht3 ?_
      obtain ⟨q4, hq4, hk⟩ := ab_bnd hk
      refine ab_callSI (st := []) (as := [ab_I t3]) (pc := 31) dX1_asName_31 ml_RX1_35 my_X8_isLetter ms_X8_isLetter (ct_X8_isLetter hq4) ⟨Nat.le_of_ble_eq_true rfl, Nat.le_of_ble_eq_true rfl⟩ rfl (Nat.le_of_ble_eq_true rfl) rfl ?_
      refine ab_if_ne (pc := 34) (tgt := 41) dX1_asName_34 rfl (fun hc => ?_) (fun hc => ?_)
      · have hk := ab_ifn hk hc
        refine ab_lload_n (pc := 41) (i := 1) dX1_asName_41 rfl rfl ?_
        refine ab_aload_n (pc := 42) (i := 0) dX1_asName_42 rfl rfl ?_
        obtain ⟨t5, ht5, hk⟩ := ab_bnd hk
        refine ab_getR (pc := 43) dX1_asName_43 fl_RX1_15 ht5 ?_
        refine ab_iload_n (pc := 46) (i := 3) dX1_asName_46 rfl rfl ?_
        obtain ⟨t6, ht6, hk⟩ := ab_bnd hk
        refine ab_bald (pc := 47) dX1_asName_47 ht6 ?_
        obtain ⟨q7, hq7, hk⟩ := ab_bnd hk
        refine ab_callSJ (st := []) (as := [ab_J v1, ab_I t6]) (pc := 48) dX1_asName_48 ml_RX1_39 my_X8_grown ms_X8_grown (ct_X8_grown hq7) ⟨Nat.le_of_ble_eq_true rfl, Nat.le_of_ble_eq_true rfl⟩ rfl (Nat.le_of_ble_eq_true rfl) rfl ?_
        refine ab_lstore_n (pc := 51) (i := 1) (lv2 := [some (ab_R v0), some (ab_J q7.1), none, some (ab_I v3)]) dX1_asName_51 rfl (Nat.le_of_ble_eq_true rfl) rfl rfl ?_
        refine ab_iinc (pc := 52) (i := 3) (lv2 := [some (ab_R v0), some (ab_J q7.1), none, some (ab_I (ab_w32 (v3 + (1 : Int))))]) dX1_asName_52 rfl (Nat.le_of_ble_eq_true rfl) rfl rfl ?_
        refine ab_goto (pc := 55) (tgt := 17) dX1_asName_55 rfl ?_
        refine ab_sub_ (lv2 := [some (ab_R v0), some (ab_J q7.1), none, some (ab_I (ab_w32 (v3 + (1 : Int))))]) (ab_ss (ab_ss (ab_sn (ab_ss ab_s0)))) ?_
        exact ih _ _ _ _ _ hk
      · have hk := ab_ifp hk hc
        refine ab_ldc2 (x := (-1 : Int)) (pc := 37) dX1_asName_37 ab_ld2_RX1_33 ab_kl_m1 ?_
        obtain rfl := Option.some.inj hk
        exact ab_retl (pc := 40) dX1_asName_40 rfl
noncomputable def f_X1_asName (a0 : Int) (h : ab_H) : Option (Int × ab_H) :=
  (ab_get h 2 1 a0).bind fun t1 =>
  if t1 ≤ (7 : Int) then
    f_X1_asName_L17 (fun w58_1 hx58 =>
      (f_X8_aligned w58_1 hx58).bind fun q2 =>
      some (q2.1, q2.2)) ab_FU a0 (0 : Int) (0 : Int) h
  else
  some ((-1 : Int), h)
set_option maxRecDepth 20000 in
theorem ct_X1_asName {a0 : Int} {h : ab_H} {q : Int × ab_H} (hk : f_X1_asName a0 h = some q) : ab_CT yX1_asName cX1_asName 4 (some .long) 1 24 [ab_R a0] h (some (ab_J q.1)) q.2 := by
  refine ab_CT.mk_ 3 (own := RX1) (ini := false) (lv := [some (ab_R a0), none, none, none]) rfl (by decide +kernel) (fun q => by cases q) rfl rfl ?_
  unfold f_X1_asName at hk
  show ab_E mm_X1_asName cX1_asName 0 _ [] h _ _
  refine ab_aload_n (pc := 0) (i := 0) dX1_asName_0 rfl rfl ?_
  obtain ⟨t1, ht1, hk⟩ := ab_bnd hk
  refine ab_getI (pc := 1) dX1_asName_1 fl_RX1_21 ht1 ?_
  refine ab_bipush (pc := 4) dX1_asName_4 ab_p8_7 ab_k_7 ?_
  refine ab_icmp_le (pc := 6) (tgt := 13) dX1_asName_6 rfl (fun hc => ?_) (fun hc => ?_)
  · have hk := ab_ifp hk hc
    refine ab_lconst (x := (0 : Int)) (pc := 13) dX1_asName_13 rfl ab_kl_0 ?_
    refine ab_lstore_n (pc := 14) (i := 1) (lv2 := [some (ab_R a0), some (ab_J (0 : Int)), none, none]) dX1_asName_14 rfl (Nat.le_of_ble_eq_true rfl) rfl rfl ?_
    refine ab_iconst (pc := 15) dX1_asName_15 ab_k_0 ?_
    refine ab_istore_n (pc := 16) (i := 3) (lv2 := [some (ab_R a0), some (ab_J (0 : Int)), none, some (ab_I (0 : Int))]) dX1_asName_16 rfl (Nat.le_of_ble_eq_true rfl) rfl rfl ?_
    refine ab_sub_ (lv2 := [some (ab_R a0), some (ab_J (0 : Int)), none, some (ab_I (0 : Int))]) (ab_ss (ab_ss (ab_sn (ab_ss ab_s0)))) ?_
    refine e_X1_asName_L17 (fun w58_1 hx58 q hk => ?_) _ _ _ _ _ _ hk
    · skip
      refine ab_lload_n (pc := 58) (i := 1) dX1_asName_58 rfl rfl ?_
      obtain ⟨q2, hq2, hk⟩ := ab_bnd hk
      refine ab_callSJ (st := []) (as := [ab_J w58_1]) (pc := 59) dX1_asName_59 ml_RX1_43 my_X8_aligned ms_X8_aligned (ct_X8_aligned hq2) ⟨Nat.le_of_ble_eq_true rfl, Nat.le_of_ble_eq_true rfl⟩ rfl (Nat.le_of_ble_eq_true rfl) rfl ?_
      obtain rfl := Option.some.inj hk
      exact ab_retl (pc := 62) dX1_asName_62 rfl
  · have hk := ab_ifn hk hc
    refine ab_ldc2 (x := (-1 : Int)) (pc := 9) dX1_asName_9 ab_ld2_RX1_33 ab_kl_m1 ?_
    obtain rfl := Option.some.inj hk
    exact ab_retl (pc := 12) dX1_asName_12 rfl
