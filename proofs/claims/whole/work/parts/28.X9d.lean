theorem dX9_alike_0 : decode cX9_alike 0 = .ok (.aload_n 0, 1) := by decide +kernel
theorem dX9_alike_1 : decode cX9_alike 1 = .ok (.iload_n 1, 1) := by decide +kernel
theorem dX9_alike_2 : decode cX9_alike 2 = .ok (.invokevirtual 323, 3) := by decide +kernel
theorem dX9_alike_5 : decode cX9_alike 5 = .ok (.ifCond .eq 11, 3) := by decide +kernel
theorem dX9_alike_8 : decode cX9_alike 8 = .ok (.aload_n 0, 1) := by decide +kernel
theorem dX9_alike_9 : decode cX9_alike 9 = .ok (.iload_n 2, 1) := by decide +kernel
theorem dX9_alike_10 : decode cX9_alike 10 = .ok (.invokevirtual 323, 3) := by decide +kernel
theorem dX9_alike_13 : decode cX9_alike 13 = .ok (.ifCond .ne 6, 3) := by decide +kernel
theorem dX9_alike_16 : decode cX9_alike 16 = .ok (.bipush (-2), 2) := by decide +kernel
theorem dX9_alike_18 : decode cX9_alike 18 = .ok (.ireturn, 1) := by decide +kernel
theorem dX9_alike_19 : decode cX9_alike 19 = .ok (.aload_n 0, 1) := by decide +kernel
theorem dX9_alike_20 : decode cX9_alike 20 = .ok (.invokevirtual 287, 3) := by decide +kernel
theorem dX9_alike_23 : decode cX9_alike 23 = .ok (.aload_n 0, 1) := by decide +kernel
theorem dX9_alike_24 : decode cX9_alike 24 = .ok (.iload_n 1, 1) := by decide +kernel
theorem dX9_alike_25 : decode cX9_alike 25 = .ok (.iload_n 2, 1) := by decide +kernel
theorem dX9_alike_26 : decode cX9_alike 26 = .ok (.invokevirtual 423, 3) := by decide +kernel
theorem dX9_alike_29 : decode cX9_alike 29 = .ok (.ifCond .eq 7, 3) := by decide +kernel
theorem dX9_alike_32 : decode cX9_alike 32 = .ok (.iconst 2, 1) := by decide +kernel
theorem dX9_alike_33 : decode cX9_alike 33 = .ok (.goto 17, 3) := by decide +kernel
theorem dX9_alike_36 : decode cX9_alike 36 = .ok (.aload_n 0, 1) := by decide +kernel
theorem dX9_alike_37 : decode cX9_alike 37 = .ok (.iload_n 1, 1) := by decide +kernel
theorem dX9_alike_38 : decode cX9_alike 38 = .ok (.iload_n 2, 1) := by decide +kernel
theorem dX9_alike_39 : decode cX9_alike 39 = .ok (.invokevirtual 426, 3) := by decide +kernel
theorem dX9_alike_42 : decode cX9_alike 42 = .ok (.ifCond .eq 7, 3) := by decide +kernel
theorem dX9_alike_45 : decode cX9_alike 45 = .ok (.iconst 1, 1) := by decide +kernel
theorem dX9_alike_46 : decode cX9_alike 46 = .ok (.goto 4, 3) := by decide +kernel
theorem dX9_alike_49 : decode cX9_alike 49 = .ok (.iconst 0, 1) := by decide +kernel
theorem dX9_alike_50 : decode cX9_alike 50 = .ok (.ireturn, 1) := by decide +kernel
abbrev mm_X9_alike : ab_M := (RX9, 3, (some .int), false, 6, 136, none)
noncomputable def f_X9_alike (a0 : Int) (a1 : Int) (a2 : Int) (h : ab_H) : Option (Int × ab_H) :=
  (ab_on h 10 a0 (f_X9_isString a0 a1 h)).bind fun q1 =>
  if q1.1 = (0 : Int) then
    some ((-2 : Int), q1.2)
  else
  (ab_on q1.2 10 a0 (f_X9_isString a0 a2 q1.2)).bind fun q2 =>
  if q2.1 = (0 : Int) then
    some ((-2 : Int), q2.2)
  else
  (ab_on q2.2 10 a0 (f_X9_laysWords a0 q2.2)).bind fun q3 =>
  (ab_on q3 10 a0 (f_X9_areSame a0 a1 a2 q3)).bind fun q4 =>
  if q4.1 = (0 : Int) then
    (ab_on q4.2 10 a0 (f_X9_areOneSense a0 a1 a2 q4.2)).bind fun q5 =>
    if q5.1 = (0 : Int) then
      some ((0 : Int), q5.2)
    else
    some ((1 : Int), q5.2)
  else
  some ((2 : Int), q4.2)
set_option maxRecDepth 20000 in
theorem ct_X9_alike {a0 a1 a2 : Int} {h : ab_H} {q : Int × ab_H} (hk : f_X9_alike a0 a1 a2 h = some q) : ab_CT yX9_alike cX9_alike 3 (some .int) 6 136 [ab_R a0, ab_I a1, ab_I a2] h (some (ab_I q.1)) q.2 := by
  refine ab_CT.mk_ 0 (own := RX9) (ini := false) (lv := [some (ab_R a0), some (ab_I a1), some (ab_I a2)]) rfl (by decide +kernel) (fun q => by cases q) rfl rfl ?_
  unfold f_X9_alike at hk
  show ab_E mm_X9_alike cX9_alike 0 _ [] h _ _
  refine ab_aload_n (pc := 0) (i := 0) dX9_alike_0 rfl rfl ?_
  refine ab_iload_n (pc := 1) (i := 1) dX9_alike_1 rfl rfl ?_
  obtain ⟨q1, hq1, hk⟩ := ab_bnd hk
  obtain ⟨hb, hq1⟩ := ab_on_some hq1
  refine ab_callVI (st := []) (as := [ab_I a1]) (b := a0) (pc := 2) dX9_alike_2 ml_RX9_323 my_X9_isString mv_X9_isString hb (ct_X9_isString hq1) ⟨Nat.le_of_ble_eq_true rfl, Nat.le_of_ble_eq_true rfl⟩ rfl (Nat.le_of_ble_eq_true rfl) rfl ?_
  refine ab_if_eq (pc := 5) (tgt := 16) dX9_alike_5 rfl (fun hc => ?_) (fun hc => ?_)
  · have hk := ab_ifp hk hc
    refine ab_bipush (pc := 16) dX9_alike_16 ab_p8_m2 ab_k_m2 ?_
    obtain rfl := Option.some.inj hk
    exact ab_reti (pc := 18) dX9_alike_18 (Or.inl rfl)
  · have hk := ab_ifn hk hc
    refine ab_aload_n (pc := 8) (i := 0) dX9_alike_8 rfl rfl ?_
    refine ab_iload_n (pc := 9) (i := 2) dX9_alike_9 rfl rfl ?_
    obtain ⟨q2, hq2, hk⟩ := ab_bnd hk
    obtain ⟨hb, hq2⟩ := ab_on_some hq2
    refine ab_callVI (st := []) (as := [ab_I a2]) (b := a0) (pc := 10) dX9_alike_10 ml_RX9_323 my_X9_isString mv_X9_isString hb (ct_X9_isString hq2) ⟨Nat.le_of_ble_eq_true rfl, Nat.le_of_ble_eq_true rfl⟩ rfl (Nat.le_of_ble_eq_true rfl) rfl ?_
    refine ab_if_ne (pc := 13) (tgt := 19) dX9_alike_13 rfl (fun hc => ?_) (fun hc => ?_)
    · have hk := ab_ifn hk hc
      refine ab_aload_n (pc := 19) (i := 0) dX9_alike_19 rfl rfl ?_
      obtain ⟨q3, hq3, hk⟩ := ab_bnd hk
      obtain ⟨hb, hq3⟩ := ab_on_some hq3
      refine ab_callVV (st := []) (as := []) (b := a0) (pc := 20) dX9_alike_20 ml_RX9_287 my_X9_laysWords mv_X9_laysWords hb (ct_X9_laysWords hq3) ⟨Nat.le_of_ble_eq_true rfl, Nat.le_of_ble_eq_true rfl⟩ rfl (Nat.le_of_ble_eq_true rfl) rfl ?_
      refine ab_aload_n (pc := 23) (i := 0) dX9_alike_23 rfl rfl ?_
      refine ab_iload_n (pc := 24) (i := 1) dX9_alike_24 rfl rfl ?_
      refine ab_iload_n (pc := 25) (i := 2) dX9_alike_25 rfl rfl ?_
      obtain ⟨q4, hq4, hk⟩ := ab_bnd hk
      obtain ⟨hb, hq4⟩ := ab_on_some hq4
      refine ab_callVI (st := []) (as := [ab_I a1, ab_I a2]) (b := a0) (pc := 26) dX9_alike_26 ml_RX9_423 my_X9_areSame mv_X9_areSame hb (ct_X9_areSame hq4) ⟨Nat.le_of_ble_eq_true rfl, Nat.le_of_ble_eq_true rfl⟩ rfl (Nat.le_of_ble_eq_true rfl) rfl ?_
      refine ab_if_eq (pc := 29) (tgt := 36) dX9_alike_29 rfl (fun hc => ?_) (fun hc => ?_)
      · have hk := ab_ifp hk hc
        refine ab_aload_n (pc := 36) (i := 0) dX9_alike_36 rfl rfl ?_
        refine ab_iload_n (pc := 37) (i := 1) dX9_alike_37 rfl rfl ?_
        refine ab_iload_n (pc := 38) (i := 2) dX9_alike_38 rfl rfl ?_
        obtain ⟨q5, hq5, hk⟩ := ab_bnd hk
        obtain ⟨hb, hq5⟩ := ab_on_some hq5
        refine ab_callVI (st := []) (as := [ab_I a1, ab_I a2]) (b := a0) (pc := 39) dX9_alike_39 ml_RX9_426 my_X9_areOneSense mv_X9_areOneSense hb (ct_X9_areOneSense hq5) ⟨Nat.le_of_ble_eq_true rfl, Nat.le_of_ble_eq_true rfl⟩ rfl (Nat.le_of_ble_eq_true rfl) rfl ?_
        refine ab_if_eq (pc := 42) (tgt := 49) dX9_alike_42 rfl (fun hc => ?_) (fun hc => ?_)
        · have hk := ab_ifp hk hc
          refine ab_iconst (pc := 49) dX9_alike_49 ab_k_0 ?_
          obtain rfl := Option.some.inj hk
          exact ab_reti (pc := 50) dX9_alike_50 (Or.inl rfl)
        · have hk := ab_ifn hk hc
          refine ab_iconst (pc := 45) dX9_alike_45 ab_k_1 ?_
          refine ab_goto (pc := 46) (tgt := 50) dX9_alike_46 rfl ?_
          obtain rfl := Option.some.inj hk
          exact ab_reti (pc := 50) dX9_alike_50 (Or.inl rfl)
      · have hk := ab_ifn hk hc
        refine ab_iconst (pc := 32) dX9_alike_32 ab_k_2 ?_
        refine ab_goto (pc := 33) (tgt := 50) dX9_alike_33 rfl ?_
        obtain rfl := Option.some.inj hk
        exact ab_reti (pc := 50) dX9_alike_50 (Or.inl rfl)
    · have hk := ab_ifp hk hc
      refine ab_bipush (pc := 16) dX9_alike_16 ab_p8_m2 ab_k_m2 ?_
      obtain rfl := Option.some.inj hk
      exact ab_reti (pc := 18) dX9_alike_18 (Or.inl rfl)
theorem dX9_common_0 : decode cX9_common 0 = .ok (.aload_n 0, 1) := by decide +kernel
theorem dX9_common_1 : decode cX9_common 1 = .ok (.iload_n 1, 1) := by decide +kernel
theorem dX9_common_2 : decode cX9_common 2 = .ok (.invokevirtual 323, 3) := by decide +kernel
theorem dX9_common_5 : decode cX9_common 5 = .ok (.ifCond .eq 21, 3) := by decide +kernel
theorem dX9_common_8 : decode cX9_common 8 = .ok (.aload_n 0, 1) := by decide +kernel
theorem dX9_common_9 : decode cX9_common 9 = .ok (.iload_n 2, 1) := by decide +kernel
theorem dX9_common_10 : decode cX9_common 10 = .ok (.invokevirtual 323, 3) := by decide +kernel
theorem dX9_common_13 : decode cX9_common 13 = .ok (.ifCond .eq 13, 3) := by decide +kernel
theorem dX9_common_16 : decode cX9_common 16 = .ok (.iload_n 3, 1) := by decide +kernel
theorem dX9_common_17 : decode cX9_common 17 = .ok (.i2l, 1) := by decide +kernel
theorem dX9_common_18 : decode cX9_common 18 = .ok (.lconst 0, 1) := by decide +kernel
theorem dX9_common_19 : decode cX9_common 19 = .ok (.lconst 1, 1) := by decide +kernel
theorem dX9_common_20 : decode cX9_common 20 = .ok (.invokestatic 84, 3) := by decide +kernel
theorem dX9_common_23 : decode cX9_common 23 = .ok (.ifCond .ne 6, 3) := by decide +kernel
theorem dX9_common_26 : decode cX9_common 26 = .ok (.bipush (-2), 2) := by decide +kernel
theorem dX9_common_28 : decode cX9_common 28 = .ok (.ireturn, 1) := by decide +kernel
theorem dX9_common_29 : decode cX9_common 29 = .ok (.aload_n 0, 1) := by decide +kernel
theorem dX9_common_30 : decode cX9_common 30 = .ok (.invokevirtual 287, 3) := by decide +kernel
theorem dX9_common_33 : decode cX9_common 33 = .ok (.aload_n 0, 1) := by decide +kernel
theorem dX9_common_34 : decode cX9_common 34 = .ok (.iload_n 1, 1) := by decide +kernel
theorem dX9_common_35 : decode cX9_common 35 = .ok (.iload_n 2, 1) := by decide +kernel
theorem dX9_common_36 : decode cX9_common 36 = .ok (.invokevirtual 420, 3) := by decide +kernel
theorem dX9_common_39 : decode cX9_common 39 = .ok (.istore 4, 2) := by decide +kernel
theorem dX9_common_41 : decode cX9_common 41 = .ok (.iload_n 3, 1) := by decide +kernel
theorem dX9_common_42 : decode cX9_common 42 = .ok (.ifCond .ne 8, 3) := by decide +kernel
theorem dX9_common_45 : decode cX9_common 45 = .ok (.iload 4, 2) := by decide +kernel
theorem dX9_common_47 : decode cX9_common 47 = .ok (.goto 19, 3) := by decide +kernel
theorem dX9_common_50 : decode cX9_common 50 = .ok (.aload_n 0, 1) := by decide +kernel
theorem dX9_common_51 : decode cX9_common 51 = .ok (.iload_n 1, 1) := by decide +kernel
theorem dX9_common_52 : decode cX9_common 52 = .ok (.iload_n 1, 1) := by decide +kernel
theorem dX9_common_53 : decode cX9_common 53 = .ok (.invokevirtual 420, 3) := by decide +kernel
theorem dX9_common_56 : decode cX9_common 56 = .ok (.aload_n 0, 1) := by decide +kernel
theorem dX9_common_57 : decode cX9_common 57 = .ok (.iload_n 2, 1) := by decide +kernel
theorem dX9_common_58 : decode cX9_common 58 = .ok (.iload_n 2, 1) := by decide +kernel
theorem dX9_common_59 : decode cX9_common 59 = .ok (.invokevirtual 420, 3) := by decide +kernel
theorem dX9_common_62 : decode cX9_common 62 = .ok (.iadd, 1) := by decide +kernel
theorem dX9_common_63 : decode cX9_common 63 = .ok (.iload 4, 2) := by decide +kernel
theorem dX9_common_65 : decode cX9_common 65 = .ok (.isub, 1) := by decide +kernel
theorem dX9_common_66 : decode cX9_common 66 = .ok (.ireturn, 1) := by decide +kernel
abbrev mm_X9_common : ab_M := (RX9, 5, (some .int), false, 5, 114, none)
noncomputable def f_X9_common (a0 : Int) (a1 : Int) (a2 : Int) (a3 : Int) (h : ab_H) : Option (Int × ab_H) :=
  (ab_on h 10 a0 (f_X9_isString a0 a1 h)).bind fun q1 =>
  if q1.1 = (0 : Int) then
    some ((-2 : Int), q1.2)
  else
  (ab_on q1.2 10 a0 (f_X9_isString a0 a2 q1.2)).bind fun q2 =>
  if q2.1 = (0 : Int) then
    some ((-2 : Int), q2.2)
  else
  (f_X9_in a3 (0 : Int) (1 : Int) q2.2).bind fun q3 =>
  if q3.1 = (0 : Int) then
    some ((-2 : Int), q3.2)
  else
  (ab_on q3.2 10 a0 (f_X9_laysWords a0 q3.2)).bind fun q4 =>
  (ab_on q4 10 a0 (f_X9_commonOf a0 a1 a2 q4)).bind fun q5 =>
  if a3 = (0 : Int) then
    some (q5.1, q5.2)
  else
  (ab_on q5.2 10 a0 (f_X9_commonOf a0 a1 a1 q5.2)).bind fun q6 =>
  (ab_on q6.2 10 a0 (f_X9_commonOf a0 a2 a2 q6.2)).bind fun q7 =>
  some (ab_w32 ((ab_w32 (q6.1 + q7.1)) - q5.1), q7.2)
set_option maxRecDepth 20000 in
theorem ct_X9_common {a0 a1 a2 a3 : Int} {h : ab_H} {q : Int × ab_H} (hk : f_X9_common a0 a1 a2 a3 h = some q) : ab_CT yX9_common cX9_common 5 (some .int) 5 114 [ab_R a0, ab_I a1, ab_I a2, ab_I a3] h (some (ab_I q.1)) q.2 := by
  refine ab_CT.mk_ 1 (own := RX9) (ini := false) (lv := [some (ab_R a0), some (ab_I a1), some (ab_I a2), some (ab_I a3), none]) rfl (by decide +kernel) (fun q => by cases q) rfl rfl ?_
  unfold f_X9_common at hk
  show ab_E mm_X9_common cX9_common 0 _ [] h _ _
  refine ab_aload_n (pc := 0) (i := 0) dX9_common_0 rfl rfl ?_
  refine ab_iload_n (pc := 1) (i := 1) dX9_common_1 rfl rfl ?_
  obtain ⟨q1, hq1, hk⟩ := ab_bnd hk
  obtain ⟨hb, hq1⟩ := ab_on_some hq1
  refine ab_callVI (st := []) (as := [ab_I a1]) (b := a0) (pc := 2) dX9_common_2 ml_RX9_323 my_X9_isString mv_X9_isString hb (ct_X9_isString hq1) ⟨Nat.le_of_ble_eq_true rfl, Nat.le_of_ble_eq_true rfl⟩ rfl (Nat.le_of_ble_eq_true rfl) rfl ?_
  refine ab_if_eq (pc := 5) (tgt := 26) dX9_common_5 rfl (fun hc => ?_) (fun hc => ?_)
  · have hk := ab_ifp hk hc
    refine ab_bipush (pc := 26) dX9_common_26 ab_p8_m2 ab_k_m2 ?_
    obtain rfl := Option.some.inj hk
    exact ab_reti (pc := 28) dX9_common_28 (Or.inl rfl)
  · have hk := ab_ifn hk hc
    refine ab_aload_n (pc := 8) (i := 0) dX9_common_8 rfl rfl ?_
    refine ab_iload_n (pc := 9) (i := 2) dX9_common_9 rfl rfl ?_
    obtain ⟨q2, hq2, hk⟩ := ab_bnd hk
    obtain ⟨hb, hq2⟩ := ab_on_some hq2
    refine ab_callVI (st := []) (as := [ab_I a2]) (b := a0) (pc := 10) dX9_common_10 ml_RX9_323 my_X9_isString mv_X9_isString hb (ct_X9_isString hq2) ⟨Nat.le_of_ble_eq_true rfl, Nat.le_of_ble_eq_true rfl⟩ rfl (Nat.le_of_ble_eq_true rfl) rfl ?_
    refine ab_if_eq (pc := 13) (tgt := 26) dX9_common_13 rfl (fun hc => ?_) (fun hc => ?_)
    · have hk := ab_ifp hk hc
      refine ab_bipush (pc := 26) dX9_common_26 ab_p8_m2 ab_k_m2 ?_
      obtain rfl := Option.some.inj hk
      exact ab_reti (pc := 28) dX9_common_28 (Or.inl rfl)
    · have hk := ab_ifn hk hc
      refine ab_iload_n (pc := 16) (i := 3) dX9_common_16 rfl rfl ?_
      refine ab_i2l_ (pc := 17) dX9_common_17 ?_
      refine ab_lconst (x := (0 : Int)) (pc := 18) dX9_common_18 rfl ab_kl_0 ?_
      refine ab_lconst (x := (1 : Int)) (pc := 19) dX9_common_19 rfl ab_kl_1 ?_
      obtain ⟨q3, hq3, hk⟩ := ab_bnd hk
      refine ab_callSI (st := []) (as := [ab_J a3, ab_J (0 : Int), ab_J (1 : Int)]) (pc := 20) dX9_common_20 ml_RX9_84 my_X9_in ms_X9_in (ct_X9_in hq3) ⟨Nat.le_of_ble_eq_true rfl, Nat.le_of_ble_eq_true rfl⟩ rfl (Nat.le_of_ble_eq_true rfl) rfl ?_
      refine ab_if_ne (pc := 23) (tgt := 29) dX9_common_23 rfl (fun hc => ?_) (fun hc => ?_)
      · have hk := ab_ifn hk hc
        refine ab_aload_n (pc := 29) (i := 0) dX9_common_29 rfl rfl ?_
        obtain ⟨q4, hq4, hk⟩ := ab_bnd hk
        obtain ⟨hb, hq4⟩ := ab_on_some hq4
        refine ab_callVV (st := []) (as := []) (b := a0) (pc := 30) dX9_common_30 ml_RX9_287 my_X9_laysWords mv_X9_laysWords hb (ct_X9_laysWords hq4) ⟨Nat.le_of_ble_eq_true rfl, Nat.le_of_ble_eq_true rfl⟩ rfl (Nat.le_of_ble_eq_true rfl) rfl ?_
        refine ab_aload_n (pc := 33) (i := 0) dX9_common_33 rfl rfl ?_
        refine ab_iload_n (pc := 34) (i := 1) dX9_common_34 rfl rfl ?_
        refine ab_iload_n (pc := 35) (i := 2) dX9_common_35 rfl rfl ?_
        obtain ⟨q5, hq5, hk⟩ := ab_bnd hk
        obtain ⟨hb, hq5⟩ := ab_on_some hq5
        refine ab_callVI (st := []) (as := [ab_I a1, ab_I a2]) (b := a0) (pc := 36) dX9_common_36 ml_RX9_420 my_X9_commonOf mv_X9_commonOf hb (ct_X9_commonOf hq5) ⟨Nat.le_of_ble_eq_true rfl, Nat.le_of_ble_eq_true rfl⟩ rfl (Nat.le_of_ble_eq_true rfl) rfl ?_
        refine ab_istore (pc := 39) (i := 4) (lv2 := [some (ab_R a0), some (ab_I a1), some (ab_I a2), some (ab_I a3), some (ab_I q5.1)]) dX9_common_39 (Nat.le_of_ble_eq_true rfl) rfl rfl ?_
        refine ab_iload_n (pc := 41) (i := 3) dX9_common_41 rfl rfl ?_
        refine ab_if_ne (pc := 42) (tgt := 50) dX9_common_42 rfl (fun hc => ?_) (fun hc => ?_)
        · have hk := ab_ifn hk hc
          refine ab_aload_n (pc := 50) (i := 0) dX9_common_50 rfl rfl ?_
          refine ab_iload_n (pc := 51) (i := 1) dX9_common_51 rfl rfl ?_
          refine ab_iload_n (pc := 52) (i := 1) dX9_common_52 rfl rfl ?_
          obtain ⟨q6, hq6, hk⟩ := ab_bnd hk
          obtain ⟨hb, hq6⟩ := ab_on_some hq6
          refine ab_callVI (st := []) (as := [ab_I a1, ab_I a1]) (b := a0) (pc := 53) dX9_common_53 ml_RX9_420 my_X9_commonOf mv_X9_commonOf hb (ct_X9_commonOf hq6) ⟨Nat.le_of_ble_eq_true rfl, Nat.le_of_ble_eq_true rfl⟩ rfl (Nat.le_of_ble_eq_true rfl) rfl ?_
          refine ab_aload_n (pc := 56) (i := 0) dX9_common_56 rfl rfl ?_
          refine ab_iload_n (pc := 57) (i := 2) dX9_common_57 rfl rfl ?_
          refine ab_iload_n (pc := 58) (i := 2) dX9_common_58 rfl rfl ?_
          obtain ⟨q7, hq7, hk⟩ := ab_bnd hk
          obtain ⟨hb, hq7⟩ := ab_on_some hq7
          refine ab_callVI (st := [ab_I q6.1]) (as := [ab_I a2, ab_I a2]) (b := a0) (pc := 59) dX9_common_59 ml_RX9_420 my_X9_commonOf mv_X9_commonOf hb (ct_X9_commonOf hq7) ⟨Nat.le_of_ble_eq_true rfl, Nat.le_of_ble_eq_true rfl⟩ rfl (Nat.le_of_ble_eq_true rfl) rfl ?_
          refine ab_iadd (pc := 62) dX9_common_62 ?_
          refine ab_iload (pc := 63) (i := 4) dX9_common_63 rfl ?_
          refine ab_isub (pc := 65) dX9_common_65 ?_
          obtain rfl := Option.some.inj hk
          exact ab_reti (pc := 66) dX9_common_66 (Or.inl rfl)
        · have hk := ab_ifp hk hc
          refine ab_iload (pc := 45) (i := 4) dX9_common_45 rfl ?_
          refine ab_goto (pc := 47) (tgt := 66) dX9_common_47 rfl ?_
          obtain rfl := Option.some.inj hk
          exact ab_reti (pc := 66) dX9_common_66 (Or.inl rfl)
      · have hk := ab_ifp hk hc
        refine ab_bipush (pc := 26) dX9_common_26 ab_p8_m2 ab_k_m2 ?_
        obtain rfl := Option.some.inj hk
        exact ab_reti (pc := 28) dX9_common_28 (Or.inl rfl)
theorem dX9_nearest_0 : decode cX9_nearest 0 = .ok (.aload_n 0, 1) := by decide +kernel
theorem dX9_nearest_1 : decode cX9_nearest 1 = .ok (.iload_n 1, 1) := by decide +kernel
theorem dX9_nearest_2 : decode cX9_nearest 2 = .ok (.invokevirtual 323, 3) := by decide +kernel
theorem dX9_nearest_5 : decode cX9_nearest 5 = .ok (.ifCond .ne 6, 3) := by decide +kernel
theorem dX9_nearest_8 : decode cX9_nearest 8 = .ok (.bipush (-2), 2) := by decide +kernel
theorem dX9_nearest_10 : decode cX9_nearest 10 = .ok (.ireturn, 1) := by decide +kernel
theorem dX9_nearest_11 : decode cX9_nearest 11 = .ok (.aload_n 0, 1) := by decide +kernel
theorem dX9_nearest_12 : decode cX9_nearest 12 = .ok (.invokevirtual 287, 3) := by decide +kernel
theorem dX9_nearest_15 : decode cX9_nearest 15 = .ok (.iconst (-1), 1) := by decide +kernel
theorem dX9_nearest_16 : decode cX9_nearest 16 = .ok (.istore_n 2, 1) := by decide +kernel
theorem dX9_nearest_17 : decode cX9_nearest 17 = .ok (.iconst 0, 1) := by decide +kernel
theorem dX9_nearest_18 : decode cX9_nearest 18 = .ok (.istore_n 3, 1) := by decide +kernel
theorem dX9_nearest_19 : decode cX9_nearest 19 = .ok (.iconst 0, 1) := by decide +kernel
theorem dX9_nearest_20 : decode cX9_nearest 20 = .ok (.istore 4, 2) := by decide +kernel
theorem dX9_nearest_22 : decode cX9_nearest 22 = .ok (.iload 4, 2) := by decide +kernel
theorem dX9_nearest_24 : decode cX9_nearest 24 = .ok (.aload_n 0, 1) := by decide +kernel
theorem dX9_nearest_25 : decode cX9_nearest 25 = .ok (.invokevirtual 246, 3) := by decide +kernel
theorem dX9_nearest_28 : decode cX9_nearest 28 = .ok (.if_icmp .ge 40, 3) := by decide +kernel
theorem dX9_nearest_31 : decode cX9_nearest 31 = .ok (.iload 4, 2) := by decide +kernel
theorem dX9_nearest_33 : decode cX9_nearest 33 = .ok (.iload_n 1, 1) := by decide +kernel
theorem dX9_nearest_34 : decode cX9_nearest 34 = .ok (.if_icmp .eq 28, 3) := by decide +kernel
theorem dX9_nearest_37 : decode cX9_nearest 37 = .ok (.aload_n 0, 1) := by decide +kernel
theorem dX9_nearest_38 : decode cX9_nearest 38 = .ok (.iload_n 1, 1) := by decide +kernel
theorem dX9_nearest_39 : decode cX9_nearest 39 = .ok (.iload 4, 2) := by decide +kernel
theorem dX9_nearest_41 : decode cX9_nearest 41 = .ok (.invokevirtual 420, 3) := by decide +kernel
theorem dX9_nearest_44 : decode cX9_nearest 44 = .ok (.iload_n 3, 1) := by decide +kernel
theorem dX9_nearest_45 : decode cX9_nearest 45 = .ok (.if_icmp .gt 6, 3) := by decide +kernel
theorem dX9_nearest_48 : decode cX9_nearest 48 = .ok (.goto 14, 3) := by decide +kernel
theorem dX9_nearest_51 : decode cX9_nearest 51 = .ok (.iload 4, 2) := by decide +kernel
theorem dX9_nearest_53 : decode cX9_nearest 53 = .ok (.istore_n 2, 1) := by decide +kernel
theorem dX9_nearest_54 : decode cX9_nearest 54 = .ok (.aload_n 0, 1) := by decide +kernel
theorem dX9_nearest_55 : decode cX9_nearest 55 = .ok (.iload_n 1, 1) := by decide +kernel
theorem dX9_nearest_56 : decode cX9_nearest 56 = .ok (.iload 4, 2) := by decide +kernel
theorem dX9_nearest_58 : decode cX9_nearest 58 = .ok (.invokevirtual 420, 3) := by decide +kernel
theorem dX9_nearest_61 : decode cX9_nearest 61 = .ok (.istore_n 3, 1) := by decide +kernel
theorem dX9_nearest_62 : decode cX9_nearest 62 = .ok (.iinc 4 1, 3) := by decide +kernel
theorem dX9_nearest_65 : decode cX9_nearest 65 = .ok (.goto (-43), 3) := by decide +kernel
theorem dX9_nearest_68 : decode cX9_nearest 68 = .ok (.iload_n 2, 1) := by decide +kernel
theorem dX9_nearest_69 : decode cX9_nearest 69 = .ok (.ireturn, 1) := by decide +kernel
abbrev mm_X9_nearest : ab_M := (RX9, 5, (some .int), false, 5, 114, none)
noncomputable def f_X9_nearest_J62 (rec : Int → Int → Int → Int → Int → ab_H → Option (Int × ab_H)) (v0 : Int) (v1 : Int) (v2 : Int) (v3 : Int) (v4 : Int) (h : ab_H) : Option (Int × ab_H) :=
  rec v0 v1 v2 v3 (ab_w32 (v4 + (1 : Int))) h
set_option maxRecDepth 20000 in
theorem e_X9_nearest_J62 {rec : Int → Int → Int → Int → Int → ab_H → Option (Int × ab_H)} (hrec : ∀ (v0 : Int) (v1 : Int) (v2 : Int) (v3 : Int) (v4 : Int) (h : ab_H) (q : Int × ab_H), rec v0 v1 v2 v3 v4 h = some q → ab_E mm_X9_nearest cX9_nearest 22 [some (ab_R v0), some (ab_I v1), some (ab_I v2), some (ab_I v3), some (ab_I v4)] [] h (some (ab_I q.1)) q.2) : ∀ (v0 : Int) (v1 : Int) (v2 : Int) (v3 : Int) (v4 : Int) (h : ab_H) (q : Int × ab_H), f_X9_nearest_J62 rec v0 v1 v2 v3 v4 h = some q → ab_E mm_X9_nearest cX9_nearest 62 [some (ab_R v0), some (ab_I v1), some (ab_I v2), some (ab_I v3), some (ab_I v4)] [] h (some (ab_I q.1)) q.2 := by
  intro v0 v1 v2 v3 v4 h q hk
  unfold f_X9_nearest_J62 at hk
  refine ab_iinc (pc := 62) (i := 4) (lv2 := [some (ab_R v0), some (ab_I v1), some (ab_I v2), some (ab_I v3), some (ab_I (ab_w32 (v4 + (1 : Int))))]) dX9_nearest_62 rfl (Nat.le_of_ble_eq_true rfl) rfl rfl ?_
  refine ab_goto (pc := 65) (tgt := 22) dX9_nearest_65 rfl ?_
  refine ab_sub_ (lv2 := [some (ab_R v0), some (ab_I v1), some (ab_I v2), some (ab_I v3), some (ab_I (ab_w32 (v4 + (1 : Int))))]) (ab_ss (ab_ss (ab_ss (ab_ss (ab_ss ab_s0))))) ?_
  exact hrec _ _ _ _ _ _ _ hk
noncomputable def f_X9_nearest_L22 : Nat → Int → Int → Int → Int → Int → ab_H → Option (Int × ab_H)
  | 0, _, _, _, _, _, _ => none
  | n + 1, v0, v1, v2, v3, v4, h =>
    (ab_on h 10 v0 (f_X9_strings v0 h)).bind fun q1 =>
    if q1.1 ≤ v4 then
      some (v2, q1.2)
    else
    if v4 = v1 then
      f_X9_nearest_J62 (f_X9_nearest_L22 n) v0 v1 v2 v3 v4 q1.2
    else
    (ab_on q1.2 10 v0 (f_X9_commonOf v0 v1 v4 q1.2)).bind fun q2 =>
    if v3 < q2.1 then
      (ab_on q2.2 10 v0 (f_X9_commonOf v0 v1 v4 q2.2)).bind fun q3 =>
      f_X9_nearest_J62 (f_X9_nearest_L22 n) v0 v1 v4 q3.1 v4 q3.2
    else
    f_X9_nearest_J62 (f_X9_nearest_L22 n) v0 v1 v2 v3 v4 q2.2
set_option maxRecDepth 20000 in
theorem e_X9_nearest_L22 : ∀ (n : Nat) (v0 : Int) (v1 : Int) (v2 : Int) (v3 : Int) (v4 : Int) (h : ab_H) (q : Int × ab_H), f_X9_nearest_L22 n v0 v1 v2 v3 v4 h = some q → ab_E mm_X9_nearest cX9_nearest 22 [some (ab_R v0), some (ab_I v1), some (ab_I v2), some (ab_I v3), some (ab_I v4)] [] h (some (ab_I q.1)) q.2 := by
  intro n
  induction n with
  | zero => intro v0 v1 v2 v3 v4 h q hk; cases hk
  | succ n ih =>
    intro v0 v1 v2 v3 v4 h q hk
    unfold f_X9_nearest_L22 at hk
    refine ab_iload (pc := 22) (i := 4) dX9_nearest_22 rfl ?_
    refine ab_aload_n (pc := 24) (i := 0) dX9_nearest_24 rfl rfl ?_
    obtain ⟨q1, hq1, hk⟩ := ab_bnd hk
    obtain ⟨hb, hq1⟩ := ab_on_some hq1
    refine ab_callVI (st := [ab_I v4]) (as := []) (b := v0) (pc := 25) dX9_nearest_25 ml_RX9_246 my_X9_strings mv_X9_strings hb (ct_X9_strings hq1) ⟨Nat.le_of_ble_eq_true rfl, Nat.le_of_ble_eq_true rfl⟩ rfl (Nat.le_of_ble_eq_true rfl) rfl ?_
    refine ab_icmp_ge (pc := 28) (tgt := 68) dX9_nearest_28 rfl (fun hc => ?_) (fun hc => ?_)
    · have hk := ab_ifp hk hc
      refine ab_iload_n (pc := 68) (i := 2) dX9_nearest_68 rfl rfl ?_
      obtain rfl := Option.some.inj hk
      exact ab_reti (pc := 69) dX9_nearest_69 (Or.inl rfl)
    · have hk := ab_ifn hk hc
      refine ab_iload (pc := 31) (i := 4) dX9_nearest_31 rfl ?_
      refine ab_iload_n (pc := 33) (i := 1) dX9_nearest_33 rfl rfl ?_
      refine ab_icmp_eq (pc := 34) (tgt := 62) dX9_nearest_34 rfl (fun hc => ?_) (fun hc => ?_)
      · have hk := ab_ifp hk hc
        refine ab_sub_ (lv2 := [some (ab_R v0), some (ab_I v1), some (ab_I v2), some (ab_I v3), some (ab_I v4)]) (ab_ss (ab_ss (ab_ss (ab_ss (ab_ss ab_s0))))) ?_
        exact e_X9_nearest_J62 ih _ _ _ _ _ _ _ hk
      · have hk := ab_ifn hk hc
        refine ab_aload_n (pc := 37) (i := 0) dX9_nearest_37 rfl rfl ?_
        refine ab_iload_n (pc := 38) (i := 1) dX9_nearest_38 rfl rfl ?_
        refine ab_iload (pc := 39) (i := 4) dX9_nearest_39 rfl ?_
        obtain ⟨q2, hq2, hk⟩ := ab_bnd hk
        obtain ⟨hb, hq2⟩ := ab_on_some hq2
        refine ab_callVI (st := []) (as := [ab_I v1, ab_I v4]) (b := v0) (pc := 41) dX9_nearest_41 ml_RX9_420 my_X9_commonOf mv_X9_commonOf hb (ct_X9_commonOf hq2) ⟨Nat.le_of_ble_eq_true rfl, Nat.le_of_ble_eq_true rfl⟩ rfl (Nat.le_of_ble_eq_true rfl) rfl ?_
        refine ab_iload_n (pc := 44) (i := 3) dX9_nearest_44 rfl rfl ?_
        refine ab_icmp_gt (pc := 45) (tgt := 51) dX9_nearest_45 rfl (fun hc => ?_) (fun hc => ?_)
        · have hk := ab_ifp hk hc
          refine ab_iload (pc := 51) (i := 4) dX9_nearest_51 rfl ?_
          refine ab_istore_n (pc := 53) (i := 2) (lv2 := [some (ab_R v0), some (ab_I v1), some (ab_I v4), some (ab_I v3), some (ab_I v4)]) dX9_nearest_53 rfl (Nat.le_of_ble_eq_true rfl) rfl rfl ?_
          refine ab_aload_n (pc := 54) (i := 0) dX9_nearest_54 rfl rfl ?_
          refine ab_iload_n (pc := 55) (i := 1) dX9_nearest_55 rfl rfl ?_
          refine ab_iload (pc := 56) (i := 4) dX9_nearest_56 rfl ?_
          obtain ⟨q3, hq3, hk⟩ := ab_bnd hk
          obtain ⟨hb, hq3⟩ := ab_on_some hq3
          refine ab_callVI (st := []) (as := [ab_I v1, ab_I v4]) (b := v0) (pc := 58) dX9_nearest_58 ml_RX9_420 my_X9_commonOf mv_X9_commonOf hb (ct_X9_commonOf hq3) ⟨Nat.le_of_ble_eq_true rfl, Nat.le_of_ble_eq_true rfl⟩ rfl (Nat.le_of_ble_eq_true rfl) rfl ?_
          refine ab_istore_n (pc := 61) (i := 3) (lv2 := [some (ab_R v0), some (ab_I v1), some (ab_I v4), some (ab_I q3.1), some (ab_I v4)]) dX9_nearest_61 rfl (Nat.le_of_ble_eq_true rfl) rfl rfl ?_
          refine ab_sub_ (lv2 := [some (ab_R v0), some (ab_I v1), some (ab_I v4), some (ab_I q3.1), some (ab_I v4)]) (ab_ss (ab_ss (ab_ss (ab_ss (ab_ss ab_s0))))) ?_
          exact e_X9_nearest_J62 ih _ _ _ _ _ _ _ hk
        · have hk := ab_ifn hk hc
          refine ab_goto (pc := 48) (tgt := 62) dX9_nearest_48 rfl ?_
          refine ab_sub_ (lv2 := [some (ab_R v0), some (ab_I v1), some (ab_I v2), some (ab_I v3), some (ab_I v4)]) (ab_ss (ab_ss (ab_ss (ab_ss (ab_ss ab_s0))))) ?_
          exact e_X9_nearest_J62 ih _ _ _ _ _ _ _ hk
noncomputable def f_X9_nearest (a0 : Int) (a1 : Int) (h : ab_H) : Option (Int × ab_H) :=
  (ab_on h 10 a0 (f_X9_isString a0 a1 h)).bind fun q1 =>
  if q1.1 = (0 : Int) then
    some ((-2 : Int), q1.2)
  else
  (ab_on q1.2 10 a0 (f_X9_laysWords a0 q1.2)).bind fun q2 =>
  f_X9_nearest_L22 ab_FU a0 a1 (-1 : Int) (0 : Int) (0 : Int) q2
set_option maxRecDepth 20000 in
theorem ct_X9_nearest {a0 a1 : Int} {h : ab_H} {q : Int × ab_H} (hk : f_X9_nearest a0 a1 h = some q) : ab_CT yX9_nearest cX9_nearest 5 (some .int) 5 114 [ab_R a0, ab_I a1] h (some (ab_I q.1)) q.2 := by
  refine ab_CT.mk_ 3 (own := RX9) (ini := false) (lv := [some (ab_R a0), some (ab_I a1), none, none, none]) rfl (by decide +kernel) (fun q => by cases q) rfl rfl ?_
  unfold f_X9_nearest at hk
  show ab_E mm_X9_nearest cX9_nearest 0 _ [] h _ _
  refine ab_aload_n (pc := 0) (i := 0) dX9_nearest_0 rfl rfl ?_
  refine ab_iload_n (pc := 1) (i := 1) dX9_nearest_1 rfl rfl ?_
  obtain ⟨q1, hq1, hk⟩ := ab_bnd hk
  obtain ⟨hb, hq1⟩ := ab_on_some hq1
  refine ab_callVI (st := []) (as := [ab_I a1]) (b := a0) (pc := 2) dX9_nearest_2 ml_RX9_323 my_X9_isString mv_X9_isString hb (ct_X9_isString hq1) ⟨Nat.le_of_ble_eq_true rfl, Nat.le_of_ble_eq_true rfl⟩ rfl (Nat.le_of_ble_eq_true rfl) rfl ?_
  refine ab_if_ne (pc := 5) (tgt := 11) dX9_nearest_5 rfl (fun hc => ?_) (fun hc => ?_)
  · have hk := ab_ifn hk hc
    refine ab_aload_n (pc := 11) (i := 0) dX9_nearest_11 rfl rfl ?_
    obtain ⟨q2, hq2, hk⟩ := ab_bnd hk
    obtain ⟨hb, hq2⟩ := ab_on_some hq2
    refine ab_callVV (st := []) (as := []) (b := a0) (pc := 12) dX9_nearest_12 ml_RX9_287 my_X9_laysWords mv_X9_laysWords hb (ct_X9_laysWords hq2) ⟨Nat.le_of_ble_eq_true rfl, Nat.le_of_ble_eq_true rfl⟩ rfl (Nat.le_of_ble_eq_true rfl) rfl ?_
    refine ab_iconst (pc := 15) dX9_nearest_15 ab_k_m1 ?_
    refine ab_istore_n (pc := 16) (i := 2) (lv2 := [some (ab_R a0), some (ab_I a1), some (ab_I (-1 : Int)), none, none]) dX9_nearest_16 rfl (Nat.le_of_ble_eq_true rfl) rfl rfl ?_
    refine ab_iconst (pc := 17) dX9_nearest_17 ab_k_0 ?_
    refine ab_istore_n (pc := 18) (i := 3) (lv2 := [some (ab_R a0), some (ab_I a1), some (ab_I (-1 : Int)), some (ab_I (0 : Int)), none]) dX9_nearest_18 rfl (Nat.le_of_ble_eq_true rfl) rfl rfl ?_
    refine ab_iconst (pc := 19) dX9_nearest_19 ab_k_0 ?_
    refine ab_istore (pc := 20) (i := 4) (lv2 := [some (ab_R a0), some (ab_I a1), some (ab_I (-1 : Int)), some (ab_I (0 : Int)), some (ab_I (0 : Int))]) dX9_nearest_20 (Nat.le_of_ble_eq_true rfl) rfl rfl ?_
    refine ab_sub_ (lv2 := [some (ab_R a0), some (ab_I a1), some (ab_I (-1 : Int)), some (ab_I (0 : Int)), some (ab_I (0 : Int))]) (ab_ss (ab_ss (ab_ss (ab_ss (ab_ss ab_s0))))) ?_
    refine e_X9_nearest_L22 _ _ _ _ _ _ _ _ hk
  · have hk := ab_ifp hk hc
    refine ab_bipush (pc := 8) dX9_nearest_8 ab_p8_m2 ab_k_m2 ?_
    obtain rfl := Option.some.inj hk
    exact ab_reti (pc := 10) dX9_nearest_10 (Or.inl rfl)
theorem dX9_senses_0 : decode cX9_senses 0 = .ok (.aload_n 0, 1) := by decide +kernel
theorem dX9_senses_1 : decode cX9_senses 1 = .ok (.invokevirtual 287, 3) := by decide +kernel
theorem dX9_senses_4 : decode cX9_senses 4 = .ok (.iconst 0, 1) := by decide +kernel
theorem dX9_senses_5 : decode cX9_senses 5 = .ok (.istore_n 1, 1) := by decide +kernel
theorem dX9_senses_6 : decode cX9_senses 6 = .ok (.iconst 0, 1) := by decide +kernel
theorem dX9_senses_7 : decode cX9_senses 7 = .ok (.istore_n 2, 1) := by decide +kernel
theorem dX9_senses_8 : decode cX9_senses 8 = .ok (.iload_n 2, 1) := by decide +kernel
theorem dX9_senses_9 : decode cX9_senses 9 = .ok (.aload_n 0, 1) := by decide +kernel
theorem dX9_senses_10 : decode cX9_senses 10 = .ok (.invokevirtual 246, 3) := by decide +kernel
theorem dX9_senses_13 : decode cX9_senses 13 = .ok (.if_icmp .ge 58, 3) := by decide +kernel
theorem dX9_senses_16 : decode cX9_senses 16 = .ok (.iconst 1, 1) := by decide +kernel
theorem dX9_senses_17 : decode cX9_senses 17 = .ok (.istore_n 3, 1) := by decide +kernel
theorem dX9_senses_18 : decode cX9_senses 18 = .ok (.iconst 0, 1) := by decide +kernel
theorem dX9_senses_19 : decode cX9_senses 19 = .ok (.istore 4, 2) := by decide +kernel
theorem dX9_senses_21 : decode cX9_senses 21 = .ok (.iload 4, 2) := by decide +kernel
theorem dX9_senses_23 : decode cX9_senses 23 = .ok (.iload_n 2, 1) := by decide +kernel
theorem dX9_senses_24 : decode cX9_senses 24 = .ok (.if_icmp .ge 29, 3) := by decide +kernel
theorem dX9_senses_27 : decode cX9_senses 27 = .ok (.iload_n 3, 1) := by decide +kernel
theorem dX9_senses_28 : decode cX9_senses 28 = .ok (.ifCond .eq 25, 3) := by decide +kernel
theorem dX9_senses_31 : decode cX9_senses 31 = .ok (.aload_n 0, 1) := by decide +kernel
theorem dX9_senses_32 : decode cX9_senses 32 = .ok (.iload_n 2, 1) := by decide +kernel
theorem dX9_senses_33 : decode cX9_senses 33 = .ok (.iload 4, 2) := by decide +kernel
theorem dX9_senses_35 : decode cX9_senses 35 = .ok (.invokevirtual 426, 3) := by decide +kernel
theorem dX9_senses_38 : decode cX9_senses 38 = .ok (.ifCond .ne 7, 3) := by decide +kernel
theorem dX9_senses_41 : decode cX9_senses 41 = .ok (.iconst 1, 1) := by decide +kernel
theorem dX9_senses_42 : decode cX9_senses 42 = .ok (.goto 4, 3) := by decide +kernel
theorem dX9_senses_45 : decode cX9_senses 45 = .ok (.iconst 0, 1) := by decide +kernel
theorem dX9_senses_46 : decode cX9_senses 46 = .ok (.istore_n 3, 1) := by decide +kernel
theorem dX9_senses_47 : decode cX9_senses 47 = .ok (.iinc 4 1, 3) := by decide +kernel
theorem dX9_senses_50 : decode cX9_senses 50 = .ok (.goto (-29), 3) := by decide +kernel
theorem dX9_senses_53 : decode cX9_senses 53 = .ok (.iload_n 1, 1) := by decide +kernel
theorem dX9_senses_54 : decode cX9_senses 54 = .ok (.iload_n 3, 1) := by decide +kernel
theorem dX9_senses_55 : decode cX9_senses 55 = .ok (.ifCond .eq 7, 3) := by decide +kernel
theorem dX9_senses_58 : decode cX9_senses 58 = .ok (.iconst 1, 1) := by decide +kernel
theorem dX9_senses_59 : decode cX9_senses 59 = .ok (.goto 4, 3) := by decide +kernel
theorem dX9_senses_62 : decode cX9_senses 62 = .ok (.iconst 0, 1) := by decide +kernel
theorem dX9_senses_63 : decode cX9_senses 63 = .ok (.iadd, 1) := by decide +kernel
theorem dX9_senses_64 : decode cX9_senses 64 = .ok (.istore_n 1, 1) := by decide +kernel
theorem dX9_senses_65 : decode cX9_senses 65 = .ok (.iinc 2 1, 3) := by decide +kernel
theorem dX9_senses_68 : decode cX9_senses 68 = .ok (.goto (-60), 3) := by decide +kernel
theorem dX9_senses_71 : decode cX9_senses 71 = .ok (.iload_n 1, 1) := by decide +kernel
theorem dX9_senses_72 : decode cX9_senses 72 = .ok (.ireturn, 1) := by decide +kernel
abbrev mm_X9_senses : ab_M := (RX9, 5, (some .int), false, 6, 136, none)
noncomputable def f_X9_senses_J63 (rec : Int → Int → Int → ab_H → Option (Int × ab_H)) (v0 : Int) (v2 : Int) (s1 : Int) (s0 : Int) (h : ab_H) : Option (Int × ab_H) :=
  rec v0 (ab_w32 (s0 + s1)) (ab_w32 (v2 + (1 : Int))) h
set_option maxRecDepth 20000 in
theorem e_X9_senses_J63 {rec : Int → Int → Int → ab_H → Option (Int × ab_H)} (hrec : ∀ (v0 : Int) (v1 : Int) (v2 : Int) (h : ab_H) (q : Int × ab_H), rec v0 v1 v2 h = some q → ab_E mm_X9_senses cX9_senses 8 [some (ab_R v0), some (ab_I v1), some (ab_I v2), none, none] [] h (some (ab_I q.1)) q.2) : ∀ (v0 : Int) (v2 : Int) (s1 : Int) (s0 : Int) (h : ab_H) (q : Int × ab_H), f_X9_senses_J63 rec v0 v2 s1 s0 h = some q → ab_E mm_X9_senses cX9_senses 63 [some (ab_R v0), none, some (ab_I v2), none, none] [ab_I s1, ab_I s0] h (some (ab_I q.1)) q.2 := by
  intro v0 v2 s1 s0 h q hk
  unfold f_X9_senses_J63 at hk
  refine ab_iadd (pc := 63) dX9_senses_63 ?_
  refine ab_istore_n (pc := 64) (i := 1) (lv2 := [some (ab_R v0), some (ab_I (ab_w32 (s0 + s1))), some (ab_I v2), none, none]) dX9_senses_64 rfl (Nat.le_of_ble_eq_true rfl) rfl rfl ?_
  refine ab_iinc (pc := 65) (i := 2) (lv2 := [some (ab_R v0), some (ab_I (ab_w32 (s0 + s1))), some (ab_I (ab_w32 (v2 + (1 : Int)))), none, none]) dX9_senses_65 rfl (Nat.le_of_ble_eq_true rfl) rfl rfl ?_
  refine ab_goto (pc := 68) (tgt := 8) dX9_senses_68 rfl ?_
  refine ab_sub_ (lv2 := [some (ab_R v0), some (ab_I (ab_w32 (s0 + s1))), some (ab_I (ab_w32 (v2 + (1 : Int)))), none, none]) (ab_ss (ab_ss (ab_ss (ab_sn (ab_sn ab_s0))))) ?_
  exact hrec _ _ _ _ _ hk
noncomputable def f_X9_senses_J53 (rec : Int → Int → Int → ab_H → Option (Int × ab_H)) (v0 : Int) (v1 : Int) (v2 : Int) (v3 : Int) (h : ab_H) : Option (Int × ab_H) :=
  if v3 = (0 : Int) then
    f_X9_senses_J63 rec v0 v2 (0 : Int) v1 h
  else
  f_X9_senses_J63 rec v0 v2 (1 : Int) v1 h
set_option maxRecDepth 20000 in
theorem e_X9_senses_J53 {rec : Int → Int → Int → ab_H → Option (Int × ab_H)} (hrec : ∀ (v0 : Int) (v1 : Int) (v2 : Int) (h : ab_H) (q : Int × ab_H), rec v0 v1 v2 h = some q → ab_E mm_X9_senses cX9_senses 8 [some (ab_R v0), some (ab_I v1), some (ab_I v2), none, none] [] h (some (ab_I q.1)) q.2) : ∀ (v0 : Int) (v1 : Int) (v2 : Int) (v3 : Int) (h : ab_H) (q : Int × ab_H), f_X9_senses_J53 rec v0 v1 v2 v3 h = some q → ab_E mm_X9_senses cX9_senses 53 [some (ab_R v0), some (ab_I v1), some (ab_I v2), some (ab_I v3), none] [] h (some (ab_I q.1)) q.2 := by
  intro v0 v1 v2 v3 h q hk
  unfold f_X9_senses_J53 at hk
  refine ab_iload_n (pc := 53) (i := 1) dX9_senses_53 rfl rfl ?_
  refine ab_iload_n (pc := 54) (i := 3) dX9_senses_54 rfl rfl ?_
  refine ab_if_eq (pc := 55) (tgt := 62) dX9_senses_55 rfl (fun hc => ?_) (fun hc => ?_)
  · have hk := ab_ifp hk hc
    refine ab_iconst (pc := 62) dX9_senses_62 ab_k_0 ?_
    refine ab_sub_ (lv2 := [some (ab_R v0), none, some (ab_I v2), none, none]) (ab_ss (ab_sn (ab_ss (ab_sn (ab_sn ab_s0))))) ?_
    exact e_X9_senses_J63 hrec _ _ _ _ _ _ hk
  · have hk := ab_ifn hk hc
    refine ab_iconst (pc := 58) dX9_senses_58 ab_k_1 ?_
    refine ab_goto (pc := 59) (tgt := 63) dX9_senses_59 rfl ?_
    refine ab_sub_ (lv2 := [some (ab_R v0), none, some (ab_I v2), none, none]) (ab_ss (ab_sn (ab_ss (ab_sn (ab_sn ab_s0))))) ?_
    exact e_X9_senses_J63 hrec _ _ _ _ _ _ hk
noncomputable def f_X9_senses_J46 (rec : Int → Int → Int → Int → Int → ab_H → Option (Int × ab_H)) (k53 : Int → Int → Int → Int → ab_H → Option (Int × ab_H)) (v0 : Int) (v1 : Int) (v2 : Int) (v4 : Int) (s0 : Int) (h : ab_H) : Option (Int × ab_H) :=
  rec v0 v1 v2 s0 (ab_w32 (v4 + (1 : Int))) h
set_option maxRecDepth 20000 in
theorem e_X9_senses_J46 {rec : Int → Int → Int → Int → Int → ab_H → Option (Int × ab_H)} {k53 : Int → Int → Int → Int → ab_H → Option (Int × ab_H)} (hrec : ∀ (v0 : Int) (v1 : Int) (v2 : Int) (v3 : Int) (v4 : Int) (h : ab_H) (q : Int × ab_H), rec v0 v1 v2 v3 v4 h = some q → ab_E mm_X9_senses cX9_senses 21 [some (ab_R v0), some (ab_I v1), some (ab_I v2), some (ab_I v3), some (ab_I v4)] [] h (some (ab_I q.1)) q.2) (hk53 : ∀ (v0 : Int) (v1 : Int) (v2 : Int) (v3 : Int) (h : ab_H) (q : Int × ab_H), k53 v0 v1 v2 v3 h = some q → ab_E mm_X9_senses cX9_senses 53 [some (ab_R v0), some (ab_I v1), some (ab_I v2), some (ab_I v3), none] [] h (some (ab_I q.1)) q.2) : ∀ (v0 : Int) (v1 : Int) (v2 : Int) (v4 : Int) (s0 : Int) (h : ab_H) (q : Int × ab_H), f_X9_senses_J46 rec k53 v0 v1 v2 v4 s0 h = some q → ab_E mm_X9_senses cX9_senses 46 [some (ab_R v0), some (ab_I v1), some (ab_I v2), none, some (ab_I v4)] [ab_I s0] h (some (ab_I q.1)) q.2 := by
  intro v0 v1 v2 v4 s0 h q hk
  unfold f_X9_senses_J46 at hk
  refine ab_istore_n (pc := 46) (i := 3) (lv2 := [some (ab_R v0), some (ab_I v1), some (ab_I v2), some (ab_I s0), some (ab_I v4)]) dX9_senses_46 rfl (Nat.le_of_ble_eq_true rfl) rfl rfl ?_
  refine ab_iinc (pc := 47) (i := 4) (lv2 := [some (ab_R v0), some (ab_I v1), some (ab_I v2), some (ab_I s0), some (ab_I (ab_w32 (v4 + (1 : Int))))]) dX9_senses_47 rfl (Nat.le_of_ble_eq_true rfl) rfl rfl ?_
  refine ab_goto (pc := 50) (tgt := 21) dX9_senses_50 rfl ?_
  refine ab_sub_ (lv2 := [some (ab_R v0), some (ab_I v1), some (ab_I v2), some (ab_I s0), some (ab_I (ab_w32 (v4 + (1 : Int))))]) (ab_ss (ab_ss (ab_ss (ab_ss (ab_ss ab_s0))))) ?_
  exact hrec _ _ _ _ _ _ _ hk
noncomputable def f_X9_senses_L21 (k53 : Int → Int → Int → Int → ab_H → Option (Int × ab_H)) : Nat → Int → Int → Int → Int → Int → ab_H → Option (Int × ab_H)
  | 0, _, _, _, _, _, _ => none
  | n + 1, v0, v1, v2, v3, v4, h =>
    if v2 ≤ v4 then
      k53 v0 v1 v2 v3 h
    else
    if v3 = (0 : Int) then
      k53 v0 v1 v2 v3 h
    else
    (ab_on h 10 v0 (f_X9_areOneSense v0 v2 v4 h)).bind fun q1 =>
    if q1.1 = (0 : Int) then
      f_X9_senses_J46 (f_X9_senses_L21 k53 n) k53 v0 v1 v2 v4 (1 : Int) q1.2
    else
    f_X9_senses_J46 (f_X9_senses_L21 k53 n) k53 v0 v1 v2 v4 (0 : Int) q1.2
set_option maxRecDepth 20000 in
theorem e_X9_senses_L21 {k53 : Int → Int → Int → Int → ab_H → Option (Int × ab_H)} (hk53 : ∀ (v0 : Int) (v1 : Int) (v2 : Int) (v3 : Int) (h : ab_H) (q : Int × ab_H), k53 v0 v1 v2 v3 h = some q → ab_E mm_X9_senses cX9_senses 53 [some (ab_R v0), some (ab_I v1), some (ab_I v2), some (ab_I v3), none] [] h (some (ab_I q.1)) q.2) : ∀ (n : Nat) (v0 : Int) (v1 : Int) (v2 : Int) (v3 : Int) (v4 : Int) (h : ab_H) (q : Int × ab_H), f_X9_senses_L21 k53 n v0 v1 v2 v3 v4 h = some q → ab_E mm_X9_senses cX9_senses 21 [some (ab_R v0), some (ab_I v1), some (ab_I v2), some (ab_I v3), some (ab_I v4)] [] h (some (ab_I q.1)) q.2 := by
  intro n
  induction n with
  | zero => intro v0 v1 v2 v3 v4 h q hk; cases hk
  | succ n ih =>
    intro v0 v1 v2 v3 v4 h q hk
    unfold f_X9_senses_L21 at hk
    refine ab_iload (pc := 21) (i := 4) dX9_senses_21 rfl ?_
    refine ab_iload_n (pc := 23) (i := 2) dX9_senses_23 rfl rfl ?_
    refine ab_icmp_ge (pc := 24) (tgt := 53) dX9_senses_24 rfl (fun hc => ?_) (fun hc => ?_)
    · have hk := ab_ifp hk hc
      refine ab_sub_ (lv2 := [some (ab_R v0), some (ab_I v1), some (ab_I v2), some (ab_I v3), none]) (ab_ss (ab_ss (ab_ss (ab_ss (ab_sn ab_s0))))) ?_
      exact hk53 _ _ _ _ _ _ hk
    · have hk := ab_ifn hk hc
      refine ab_iload_n (pc := 27) (i := 3) dX9_senses_27 rfl rfl ?_
      refine ab_if_eq (pc := 28) (tgt := 53) dX9_senses_28 rfl (fun hc => ?_) (fun hc => ?_)
      · have hk := ab_ifp hk hc
        refine ab_sub_ (lv2 := [some (ab_R v0), some (ab_I v1), some (ab_I v2), some (ab_I v3), none]) (ab_ss (ab_ss (ab_ss (ab_ss (ab_sn ab_s0))))) ?_
        exact hk53 _ _ _ _ _ _ hk
      · have hk := ab_ifn hk hc
        refine ab_aload_n (pc := 31) (i := 0) dX9_senses_31 rfl rfl ?_
        refine ab_iload_n (pc := 32) (i := 2) dX9_senses_32 rfl rfl ?_
        refine ab_iload (pc := 33) (i := 4) dX9_senses_33 rfl ?_
        obtain ⟨q1, hq1, hk⟩ := ab_bnd hk
        obtain ⟨hb, hq1⟩ := ab_on_some hq1
        refine ab_callVI (st := []) (as := [ab_I v2, ab_I v4]) (b := v0) (pc := 35) dX9_senses_35 ml_RX9_426 my_X9_areOneSense mv_X9_areOneSense hb (ct_X9_areOneSense hq1) ⟨Nat.le_of_ble_eq_true rfl, Nat.le_of_ble_eq_true rfl⟩ rfl (Nat.le_of_ble_eq_true rfl) rfl ?_
        refine ab_if_ne (pc := 38) (tgt := 45) dX9_senses_38 rfl (fun hc => ?_) (fun hc => ?_)
        · have hk := ab_ifn hk hc
          refine ab_iconst (pc := 45) dX9_senses_45 ab_k_0 ?_
          refine ab_sub_ (lv2 := [some (ab_R v0), some (ab_I v1), some (ab_I v2), none, some (ab_I v4)]) (ab_ss (ab_ss (ab_ss (ab_sn (ab_ss ab_s0))))) ?_
          exact e_X9_senses_J46 ih hk53 _ _ _ _ _ _ _ hk
        · have hk := ab_ifp hk hc
          refine ab_iconst (pc := 41) dX9_senses_41 ab_k_1 ?_
          refine ab_goto (pc := 42) (tgt := 46) dX9_senses_42 rfl ?_
          refine ab_sub_ (lv2 := [some (ab_R v0), some (ab_I v1), some (ab_I v2), none, some (ab_I v4)]) (ab_ss (ab_ss (ab_ss (ab_sn (ab_ss ab_s0))))) ?_
          exact e_X9_senses_J46 ih hk53 _ _ _ _ _ _ _ hk
noncomputable def f_X9_senses_L8 : Nat → Int → Int → Int → ab_H → Option (Int × ab_H)
  | 0, _, _, _, _ => none
  | n + 1, v0, v1, v2, h =>
    (ab_on h 10 v0 (f_X9_strings v0 h)).bind fun q1 =>
    if q1.1 ≤ v2 then
      some (v1, q1.2)
    else
    f_X9_senses_L21 (fun w53_0 w53_1 w53_2 w53_3 hx53 =>
      f_X9_senses_J53 (f_X9_senses_L8 n) w53_0 w53_1 w53_2 w53_3 hx53) ab_FU v0 v1 v2 (1 : Int) (0 : Int) q1.2
set_option maxRecDepth 20000 in
theorem e_X9_senses_L8 : ∀ (n : Nat) (v0 : Int) (v1 : Int) (v2 : Int) (h : ab_H) (q : Int × ab_H), f_X9_senses_L8 n v0 v1 v2 h = some q → ab_E mm_X9_senses cX9_senses 8 [some (ab_R v0), some (ab_I v1), some (ab_I v2), none, none] [] h (some (ab_I q.1)) q.2 := by
  intro n
  induction n with
  | zero => intro v0 v1 v2 h q hk; cases hk
  | succ n ih =>
    intro v0 v1 v2 h q hk
    unfold f_X9_senses_L8 at hk
    refine ab_iload_n (pc := 8) (i := 2) dX9_senses_8 rfl rfl ?_
    refine ab_aload_n (pc := 9) (i := 0) dX9_senses_9 rfl rfl ?_
    obtain ⟨q1, hq1, hk⟩ := ab_bnd hk
    obtain ⟨hb, hq1⟩ := ab_on_some hq1
    refine ab_callVI (st := [ab_I v2]) (as := []) (b := v0) (pc := 10) dX9_senses_10 ml_RX9_246 my_X9_strings mv_X9_strings hb (ct_X9_strings hq1) ⟨Nat.le_of_ble_eq_true rfl, Nat.le_of_ble_eq_true rfl⟩ rfl (Nat.le_of_ble_eq_true rfl) rfl ?_
    refine ab_icmp_ge (pc := 13) (tgt := 71) dX9_senses_13 rfl (fun hc => ?_) (fun hc => ?_)
    · have hk := ab_ifp hk hc
      refine ab_iload_n (pc := 71) (i := 1) dX9_senses_71 rfl rfl ?_
      obtain rfl := Option.some.inj hk
      exact ab_reti (pc := 72) dX9_senses_72 (Or.inl rfl)
    · have hk := ab_ifn hk hc
      refine ab_iconst (pc := 16) dX9_senses_16 ab_k_1 ?_
      refine ab_istore_n (pc := 17) (i := 3) (lv2 := [some (ab_R v0), some (ab_I v1), some (ab_I v2), some (ab_I (1 : Int)), none]) dX9_senses_17 rfl (Nat.le_of_ble_eq_true rfl) rfl rfl ?_
      refine ab_iconst (pc := 18) dX9_senses_18 ab_k_0 ?_
      refine ab_istore (pc := 19) (i := 4) (lv2 := [some (ab_R v0), some (ab_I v1), some (ab_I v2), some (ab_I (1 : Int)), some (ab_I (0 : Int))]) dX9_senses_19 (Nat.le_of_ble_eq_true rfl) rfl rfl ?_
      refine ab_sub_ (lv2 := [some (ab_R v0), some (ab_I v1), some (ab_I v2), some (ab_I (1 : Int)), some (ab_I (0 : Int))]) (ab_ss (ab_ss (ab_ss (ab_ss (ab_ss ab_s0))))) ?_
      refine e_X9_senses_L21 (fun w53_0 w53_1 w53_2 w53_3 hx53 q hk => ?_) _ _ _ _ _ _ _ _ hk
      · skip
        refine ab_sub_ (lv2 := [some (ab_R w53_0), some (ab_I w53_1), some (ab_I w53_2), some (ab_I w53_3), none]) (ab_ss (ab_ss (ab_ss (ab_ss (ab_sn ab_s0))))) ?_
        exact e_X9_senses_J53 ih _ _ _ _ _ _ hk
noncomputable def f_X9_senses (a0 : Int) (h : ab_H) : Option (Int × ab_H) :=
  (ab_on h 10 a0 (f_X9_laysWords a0 h)).bind fun q1 =>
  f_X9_senses_L8 ab_FU a0 (0 : Int) (0 : Int) q1
set_option maxRecDepth 20000 in
theorem ct_X9_senses {a0 : Int} {h : ab_H} {q : Int × ab_H} (hk : f_X9_senses a0 h = some q) : ab_CT yX9_senses cX9_senses 5 (some .int) 6 136 [ab_R a0] h (some (ab_I q.1)) q.2 := by
  refine ab_CT.mk_ 4 (own := RX9) (ini := false) (lv := [some (ab_R a0), none, none, none, none]) rfl (by decide +kernel) (fun q => by cases q) rfl rfl ?_
  unfold f_X9_senses at hk
  show ab_E mm_X9_senses cX9_senses 0 _ [] h _ _
  refine ab_aload_n (pc := 0) (i := 0) dX9_senses_0 rfl rfl ?_
  obtain ⟨q1, hq1, hk⟩ := ab_bnd hk
  obtain ⟨hb, hq1⟩ := ab_on_some hq1
  refine ab_callVV (st := []) (as := []) (b := a0) (pc := 1) dX9_senses_1 ml_RX9_287 my_X9_laysWords mv_X9_laysWords hb (ct_X9_laysWords hq1) ⟨Nat.le_of_ble_eq_true rfl, Nat.le_of_ble_eq_true rfl⟩ rfl (Nat.le_of_ble_eq_true rfl) rfl ?_
  refine ab_iconst (pc := 4) dX9_senses_4 ab_k_0 ?_
  refine ab_istore_n (pc := 5) (i := 1) (lv2 := [some (ab_R a0), some (ab_I (0 : Int)), none, none, none]) dX9_senses_5 rfl (Nat.le_of_ble_eq_true rfl) rfl rfl ?_
  refine ab_iconst (pc := 6) dX9_senses_6 ab_k_0 ?_
  refine ab_istore_n (pc := 7) (i := 2) (lv2 := [some (ab_R a0), some (ab_I (0 : Int)), some (ab_I (0 : Int)), none, none]) dX9_senses_7 rfl (Nat.le_of_ble_eq_true rfl) rfl rfl ?_
  refine ab_sub_ (lv2 := [some (ab_R a0), some (ab_I (0 : Int)), some (ab_I (0 : Int)), none, none]) (ab_ss (ab_ss (ab_ss (ab_sn (ab_sn ab_s0))))) ?_
  refine e_X9_senses_L8 _ _ _ _ _ _ hk
theorem dX9_isBeside_0 : decode cX9_isBeside 0 = .ok (.iconst 0, 1) := by decide +kernel
theorem dX9_isBeside_1 : decode cX9_isBeside 1 = .ok (.istore 4, 2) := by decide +kernel
theorem dX9_isBeside_3 : decode cX9_isBeside 3 = .ok (.iload 4, 2) := by decide +kernel
theorem dX9_isBeside_5 : decode cX9_isBeside 5 = .ok (.aload_n 0, 1) := by decide +kernel
theorem dX9_isBeside_6 : decode cX9_isBeside 6 = .ok (.invokevirtual 246, 3) := by decide +kernel
theorem dX9_isBeside_9 : decode cX9_isBeside 9 = .ok (.if_icmp .ge 92, 3) := by decide +kernel
theorem dX9_isBeside_12 : decode cX9_isBeside 12 = .ok (.iconst 1, 1) := by decide +kernel
theorem dX9_isBeside_13 : decode cX9_isBeside 13 = .ok (.istore 5, 2) := by decide +kernel
theorem dX9_isBeside_15 : decode cX9_isBeside 15 = .ok (.iload 5, 2) := by decide +kernel
theorem dX9_isBeside_17 : decode cX9_isBeside 17 = .ok (.aload_n 0, 1) := by decide +kernel
theorem dX9_isBeside_18 : decode cX9_isBeside 18 = .ok (.iload 4, 2) := by decide +kernel
theorem dX9_isBeside_20 : decode cX9_isBeside 20 = .ok (.invokevirtual 255, 3) := by decide +kernel
theorem dX9_isBeside_23 : decode cX9_isBeside 23 = .ok (.if_icmp .ge 72, 3) := by decide +kernel
theorem dX9_isBeside_26 : decode cX9_isBeside 26 = .ok (.aload_n 0, 1) := by decide +kernel
theorem dX9_isBeside_27 : decode cX9_isBeside 27 = .ok (.getfield 27, 3) := by decide +kernel
theorem dX9_isBeside_30 : decode cX9_isBeside 30 = .ok (.iload 4, 2) := by decide +kernel
theorem dX9_isBeside_32 : decode cX9_isBeside 32 = .ok (.iload 5, 2) := by decide +kernel
theorem dX9_isBeside_34 : decode cX9_isBeside 34 = .ok (.iconst 1, 1) := by decide +kernel
theorem dX9_isBeside_35 : decode cX9_isBeside 35 = .ok (.isub, 1) := by decide +kernel
theorem dX9_isBeside_36 : decode cX9_isBeside 36 = .ok (.invokestatic 262, 3) := by decide +kernel
theorem dX9_isBeside_39 : decode cX9_isBeside 39 = .ok (.iaload, 1) := by decide +kernel
theorem dX9_isBeside_40 : decode cX9_isBeside 40 = .ok (.istore 6, 2) := by decide +kernel
theorem dX9_isBeside_42 : decode cX9_isBeside 42 = .ok (.aload_n 0, 1) := by decide +kernel
theorem dX9_isBeside_43 : decode cX9_isBeside 43 = .ok (.getfield 27, 3) := by decide +kernel
theorem dX9_isBeside_46 : decode cX9_isBeside 46 = .ok (.iload 4, 2) := by decide +kernel
theorem dX9_isBeside_48 : decode cX9_isBeside 48 = .ok (.iload 5, 2) := by decide +kernel
theorem dX9_isBeside_50 : decode cX9_isBeside 50 = .ok (.invokestatic 262, 3) := by decide +kernel
theorem dX9_isBeside_53 : decode cX9_isBeside 53 = .ok (.iaload, 1) := by decide +kernel
theorem dX9_isBeside_54 : decode cX9_isBeside 54 = .ok (.istore 7, 2) := by decide +kernel
theorem dX9_isBeside_56 : decode cX9_isBeside 56 = .ok (.iload_n 3, 1) := by decide +kernel
theorem dX9_isBeside_57 : decode cX9_isBeside 57 = .ok (.ifCond .ne 18, 3) := by decide +kernel
theorem dX9_isBeside_60 : decode cX9_isBeside 60 = .ok (.iload 7, 2) := by decide +kernel
theorem dX9_isBeside_62 : decode cX9_isBeside 62 = .ok (.iload_n 1, 1) := by decide +kernel
theorem dX9_isBeside_63 : decode cX9_isBeside 63 = .ok (.if_icmp .ne 26, 3) := by decide +kernel
theorem dX9_isBeside_66 : decode cX9_isBeside 66 = .ok (.iload 6, 2) := by decide +kernel
theorem dX9_isBeside_68 : decode cX9_isBeside 68 = .ok (.iload_n 2, 1) := by decide +kernel
theorem dX9_isBeside_69 : decode cX9_isBeside 69 = .ok (.if_icmp .ne 20, 3) := by decide +kernel
theorem dX9_isBeside_72 : decode cX9_isBeside 72 = .ok (.goto 15, 3) := by decide +kernel
theorem dX9_isBeside_75 : decode cX9_isBeside 75 = .ok (.iload 6, 2) := by decide +kernel
theorem dX9_isBeside_77 : decode cX9_isBeside 77 = .ok (.iload_n 1, 1) := by decide +kernel
theorem dX9_isBeside_78 : decode cX9_isBeside 78 = .ok (.if_icmp .ne 11, 3) := by decide +kernel
theorem dX9_isBeside_81 : decode cX9_isBeside 81 = .ok (.iload 7, 2) := by decide +kernel
theorem dX9_isBeside_83 : decode cX9_isBeside 83 = .ok (.iload_n 2, 1) := by decide +kernel
theorem dX9_isBeside_84 : decode cX9_isBeside 84 = .ok (.if_icmp .ne 5, 3) := by decide +kernel
theorem dX9_isBeside_87 : decode cX9_isBeside 87 = .ok (.iconst 1, 1) := by decide +kernel
theorem dX9_isBeside_88 : decode cX9_isBeside 88 = .ok (.ireturn, 1) := by decide +kernel
theorem dX9_isBeside_89 : decode cX9_isBeside 89 = .ok (.iinc 5 1, 3) := by decide +kernel
theorem dX9_isBeside_92 : decode cX9_isBeside 92 = .ok (.goto (-77), 3) := by decide +kernel
theorem dX9_isBeside_95 : decode cX9_isBeside 95 = .ok (.iinc 4 1, 3) := by decide +kernel
theorem dX9_isBeside_98 : decode cX9_isBeside 98 = .ok (.goto (-95), 3) := by decide +kernel
theorem dX9_isBeside_101 : decode cX9_isBeside 101 = .ok (.iconst 0, 1) := by decide +kernel
theorem dX9_isBeside_102 : decode cX9_isBeside 102 = .ok (.ireturn, 1) := by decide +kernel
abbrev mm_X9_isBeside : ab_M := (RX9, 8, (some .boolean), false, 1, 21, none)
noncomputable def f_X9_isBeside_J89 (rec : Int → Int → Int → Int → Int → Int → ab_H → Option (Int × ab_H)) (k72 : ab_H → Option (Int × ab_H)) (k95 : Int → Int → Int → Int → Int → ab_H → Option (Int × ab_H)) (v0 : Int) (v1 : Int) (v2 : Int) (v3 : Int) (v4 : Int) (v5 : Int) (h : ab_H) : Option (Int × ab_H) :=
  rec v0 v1 v2 v3 v4 (ab_w32 (v5 + (1 : Int))) h
set_option maxRecDepth 20000 in
theorem e_X9_isBeside_J89 {rec : Int → Int → Int → Int → Int → Int → ab_H → Option (Int × ab_H)} {k72 : ab_H → Option (Int × ab_H)} {k95 : Int → Int → Int → Int → Int → ab_H → Option (Int × ab_H)} (hrec : ∀ (v0 : Int) (v1 : Int) (v2 : Int) (v3 : Int) (v4 : Int) (v5 : Int) (h : ab_H) (q : Int × ab_H), rec v0 v1 v2 v3 v4 v5 h = some q → ab_E mm_X9_isBeside cX9_isBeside 15 [some (ab_R v0), some (ab_I v1), some (ab_I v2), some (ab_I v3), some (ab_I v4), some (ab_I v5), none, none] [] h (some (ab_I q.1)) q.2) (hk72 : ∀ (h : ab_H) (q : Int × ab_H), k72  h = some q → ab_E mm_X9_isBeside cX9_isBeside 72 [none, none, none, none, none, none, none, none] [] h (some (ab_I q.1)) q.2) (hk95 : ∀ (v0 : Int) (v1 : Int) (v2 : Int) (v3 : Int) (v4 : Int) (h : ab_H) (q : Int × ab_H), k95 v0 v1 v2 v3 v4 h = some q → ab_E mm_X9_isBeside cX9_isBeside 95 [some (ab_R v0), some (ab_I v1), some (ab_I v2), some (ab_I v3), some (ab_I v4), none, none, none] [] h (some (ab_I q.1)) q.2) : ∀ (v0 : Int) (v1 : Int) (v2 : Int) (v3 : Int) (v4 : Int) (v5 : Int) (h : ab_H) (q : Int × ab_H), f_X9_isBeside_J89 rec k72 k95 v0 v1 v2 v3 v4 v5 h = some q → ab_E mm_X9_isBeside cX9_isBeside 89 [some (ab_R v0), some (ab_I v1), some (ab_I v2), some (ab_I v3), some (ab_I v4), some (ab_I v5), none, none] [] h (some (ab_I q.1)) q.2 := by
  intro v0 v1 v2 v3 v4 v5 h q hk
  unfold f_X9_isBeside_J89 at hk
  refine ab_iinc (pc := 89) (i := 5) (lv2 := [some (ab_R v0), some (ab_I v1), some (ab_I v2), some (ab_I v3), some (ab_I v4), some (ab_I (ab_w32 (v5 + (1 : Int)))), none, none]) dX9_isBeside_89 rfl (Nat.le_of_ble_eq_true rfl) rfl rfl ?_
  refine ab_goto (pc := 92) (tgt := 15) dX9_isBeside_92 rfl ?_
  refine ab_sub_ (lv2 := [some (ab_R v0), some (ab_I v1), some (ab_I v2), some (ab_I v3), some (ab_I v4), some (ab_I (ab_w32 (v5 + (1 : Int)))), none, none]) (ab_ss (ab_ss (ab_ss (ab_ss (ab_ss (ab_ss (ab_sn (ab_sn ab_s0)))))))) ?_
  exact hrec _ _ _ _ _ _ _ _ hk
noncomputable def f_X9_isBeside_L15 (k72 : ab_H → Option (Int × ab_H)) (k95 : Int → Int → Int → Int → Int → ab_H → Option (Int × ab_H)) : Nat → Int → Int → Int → Int → Int → Int → ab_H → Option (Int × ab_H)
  | 0, _, _, _, _, _, _, _ => none
  | n + 1, v0, v1, v2, v3, v4, v5, h =>
    (ab_on h 10 v0 (f_X9_terms v0 v4 h)).bind fun q1 =>
    if q1.1 ≤ v5 then
      k95 v0 v1 v2 v3 v4 q1.2
    else
    (ab_get q1.2 10 15 v0).bind fun t2 =>
    (f_X9_place v4 (ab_w32 (v5 - (1 : Int))) q1.2).bind fun q3 =>
    (ab_ald q3.2 11 t2 q3.1).bind fun t4 =>
    (ab_get q3.2 10 15 v0).bind fun t5 =>
    (f_X9_place v4 v5 q3.2).bind fun q6 =>
    (ab_ald q6.2 11 t5 q6.1).bind fun t7 =>
    if v3 = (0 : Int) then
      if t7 = v1 then
        if t4 = v2 then
          k72 q6.2
        else
        f_X9_isBeside_J89 (f_X9_isBeside_L15 k72 k95 n) k72 k95 v0 v1 v2 v3 v4 v5 q6.2
      else
      f_X9_isBeside_J89 (f_X9_isBeside_L15 k72 k95 n) k72 k95 v0 v1 v2 v3 v4 v5 q6.2
    else
    if t4 = v1 then
      if t7 = v2 then
        some ((1 : Int), q6.2)
      else
      f_X9_isBeside_J89 (f_X9_isBeside_L15 k72 k95 n) k72 k95 v0 v1 v2 v3 v4 v5 q6.2
    else
    f_X9_isBeside_J89 (f_X9_isBeside_L15 k72 k95 n) k72 k95 v0 v1 v2 v3 v4 v5 q6.2
set_option maxRecDepth 20000 in
theorem e_X9_isBeside_L15 {k72 : ab_H → Option (Int × ab_H)} {k95 : Int → Int → Int → Int → Int → ab_H → Option (Int × ab_H)} (hk72 : ∀ (h : ab_H) (q : Int × ab_H), k72  h = some q → ab_E mm_X9_isBeside cX9_isBeside 72 [none, none, none, none, none, none, none, none] [] h (some (ab_I q.1)) q.2) (hk95 : ∀ (v0 : Int) (v1 : Int) (v2 : Int) (v3 : Int) (v4 : Int) (h : ab_H) (q : Int × ab_H), k95 v0 v1 v2 v3 v4 h = some q → ab_E mm_X9_isBeside cX9_isBeside 95 [some (ab_R v0), some (ab_I v1), some (ab_I v2), some (ab_I v3), some (ab_I v4), none, none, none] [] h (some (ab_I q.1)) q.2) : ∀ (n : Nat) (v0 : Int) (v1 : Int) (v2 : Int) (v3 : Int) (v4 : Int) (v5 : Int) (h : ab_H) (q : Int × ab_H), f_X9_isBeside_L15 k72 k95 n v0 v1 v2 v3 v4 v5 h = some q → ab_E mm_X9_isBeside cX9_isBeside 15 [some (ab_R v0), some (ab_I v1), some (ab_I v2), some (ab_I v3), some (ab_I v4), some (ab_I v5), none, none] [] h (some (ab_I q.1)) q.2 := by
  intro n
  induction n with
  | zero => intro v0 v1 v2 v3 v4 v5 h q hk; cases hk
  | succ n ih =>
    intro v0 v1 v2 v3 v4 v5 h q hk
    unfold f_X9_isBeside_L15 at hk
    refine ab_iload (pc := 15) (i := 5) dX9_isBeside_15 rfl ?_
    refine ab_aload_n (pc := 17) (i := 0) dX9_isBeside_17 rfl rfl ?_
    refine ab_iload (pc := 18) (i := 4) dX9_isBeside_18 rfl ?_
    obtain ⟨q1, hq1, hk⟩ := ab_bnd hk
    obtain ⟨hb, hq1⟩ := ab_on_some hq1
    refine ab_callVI (st := [ab_I v5]) (as := [ab_I v4]) (b := v0) (pc := 20) dX9_isBeside_20 ml_RX9_255 my_X9_terms mv_X9_terms hb (ct_X9_terms hq1) ⟨Nat.le_of_ble_eq_true rfl, Nat.le_of_ble_eq_true rfl⟩ rfl (Nat.le_of_ble_eq_true rfl) rfl ?_
    refine ab_icmp_ge (pc := 23) (tgt := 95) dX9_isBeside_23 rfl (fun hc => ?_) (fun hc => ?_)
    · have hk := ab_ifp hk hc
      refine ab_sub_ (lv2 := [some (ab_R v0), some (ab_I v1), some (ab_I v2), some (ab_I v3), some (ab_I v4), none, none, none]) (ab_ss (ab_ss (ab_ss (ab_ss (ab_ss (ab_sn (ab_sn (ab_sn ab_s0)))))))) ?_
      exact hk95 _ _ _ _ _ _ _ hk
    · have hk := ab_ifn hk hc
      refine ab_aload_n (pc := 26) (i := 0) dX9_isBeside_26 rfl rfl ?_
      obtain ⟨t2, ht2, hk⟩ := ab_bnd hk
      refine ab_getR (pc := 27) dX9_isBeside_27 fl_RX9_27 ht2 ?_
      refine ab_iload (pc := 30) (i := 4) dX9_isBeside_30 rfl ?_
      refine ab_iload (pc := 32) (i := 5) dX9_isBeside_32 rfl ?_
      refine ab_iconst (pc := 34) dX9_isBeside_34 ab_k_1 ?_
      refine ab_isub (pc := 35) dX9_isBeside_35 ?_
      obtain ⟨q3, hq3, hk⟩ := ab_bnd hk
      refine ab_callSI (st := [ab_R t2]) (as := [ab_I v4, ab_I (ab_w32 (v5 - (1 : Int)))]) (pc := 36) dX9_isBeside_36 ml_RX9_262 my_X9_place ms_X9_place (ct_X9_place hq3) ⟨Nat.le_of_ble_eq_true rfl, Nat.le_of_ble_eq_true rfl⟩ rfl (Nat.le_of_ble_eq_true rfl) rfl ?_
      obtain ⟨t4, ht4, hk⟩ := ab_bnd hk
      refine ab_iald (pc := 39) dX9_isBeside_39 ht4 ?_
      refine ab_istore (pc := 40) (i := 6) (lv2 := [some (ab_R v0), some (ab_I v1), some (ab_I v2), some (ab_I v3), some (ab_I v4), some (ab_I v5), some (ab_I t4), none]) dX9_isBeside_40 (Nat.le_of_ble_eq_true rfl) rfl rfl ?_
      refine ab_aload_n (pc := 42) (i := 0) dX9_isBeside_42 rfl rfl ?_
      obtain ⟨t5, ht5, hk⟩ := ab_bnd hk
      refine ab_getR (pc := 43) dX9_isBeside_43 fl_RX9_27 ht5 ?_
      refine ab_iload (pc := 46) (i := 4) dX9_isBeside_46 rfl ?_
      refine ab_iload (pc := 48) (i := 5) dX9_isBeside_48 rfl ?_
      obtain ⟨q6, hq6, hk⟩ := ab_bnd hk
      refine ab_callSI (st := [ab_R t5]) (as := [ab_I v4, ab_I v5]) (pc := 50) dX9_isBeside_50 ml_RX9_262 my_X9_place ms_X9_place (ct_X9_place hq6) ⟨Nat.le_of_ble_eq_true rfl, Nat.le_of_ble_eq_true rfl⟩ rfl (Nat.le_of_ble_eq_true rfl) rfl ?_
      obtain ⟨t7, ht7, hk⟩ := ab_bnd hk
      refine ab_iald (pc := 53) dX9_isBeside_53 ht7 ?_
      refine ab_istore (pc := 54) (i := 7) (lv2 := [some (ab_R v0), some (ab_I v1), some (ab_I v2), some (ab_I v3), some (ab_I v4), some (ab_I v5), some (ab_I t4), some (ab_I t7)]) dX9_isBeside_54 (Nat.le_of_ble_eq_true rfl) rfl rfl ?_
      refine ab_iload_n (pc := 56) (i := 3) dX9_isBeside_56 rfl rfl ?_
      refine ab_if_ne (pc := 57) (tgt := 75) dX9_isBeside_57 rfl (fun hc => ?_) (fun hc => ?_)
      · have hk := ab_ifn hk hc
        refine ab_iload (pc := 75) (i := 6) dX9_isBeside_75 rfl ?_
        refine ab_iload_n (pc := 77) (i := 1) dX9_isBeside_77 rfl rfl ?_
        refine ab_icmp_ne (pc := 78) (tgt := 89) dX9_isBeside_78 rfl (fun hc => ?_) (fun hc => ?_)
        · have hk := ab_ifn hk hc
          refine ab_sub_ (lv2 := [some (ab_R v0), some (ab_I v1), some (ab_I v2), some (ab_I v3), some (ab_I v4), some (ab_I v5), none, none]) (ab_ss (ab_ss (ab_ss (ab_ss (ab_ss (ab_ss (ab_sn (ab_sn ab_s0)))))))) ?_
          exact e_X9_isBeside_J89 ih hk72 hk95 _ _ _ _ _ _ _ _ hk
        · have hk := ab_ifp hk hc
          refine ab_iload (pc := 81) (i := 7) dX9_isBeside_81 rfl ?_
          refine ab_iload_n (pc := 83) (i := 2) dX9_isBeside_83 rfl rfl ?_
          refine ab_icmp_ne (pc := 84) (tgt := 89) dX9_isBeside_84 rfl (fun hc => ?_) (fun hc => ?_)
          · have hk := ab_ifn hk hc
            refine ab_sub_ (lv2 := [some (ab_R v0), some (ab_I v1), some (ab_I v2), some (ab_I v3), some (ab_I v4), some (ab_I v5), none, none]) (ab_ss (ab_ss (ab_ss (ab_ss (ab_ss (ab_ss (ab_sn (ab_sn ab_s0)))))))) ?_
            exact e_X9_isBeside_J89 ih hk72 hk95 _ _ _ _ _ _ _ _ hk
          · have hk := ab_ifp hk hc
            refine ab_iconst (pc := 87) dX9_isBeside_87 ab_k_1 ?_
            obtain rfl := Option.some.inj hk
            exact ab_retz (pc := 88) dX9_isBeside_88 rfl rfl
      · have hk := ab_ifp hk hc
        refine ab_iload (pc := 60) (i := 7) dX9_isBeside_60 rfl ?_
        refine ab_iload_n (pc := 62) (i := 1) dX9_isBeside_62 rfl rfl ?_
        refine ab_icmp_ne (pc := 63) (tgt := 89) dX9_isBeside_63 rfl (fun hc => ?_) (fun hc => ?_)
        · have hk := ab_ifn hk hc
          refine ab_sub_ (lv2 := [some (ab_R v0), some (ab_I v1), some (ab_I v2), some (ab_I v3), some (ab_I v4), some (ab_I v5), none, none]) (ab_ss (ab_ss (ab_ss (ab_ss (ab_ss (ab_ss (ab_sn (ab_sn ab_s0)))))))) ?_
          exact e_X9_isBeside_J89 ih hk72 hk95 _ _ _ _ _ _ _ _ hk
        · have hk := ab_ifp hk hc
          refine ab_iload (pc := 66) (i := 6) dX9_isBeside_66 rfl ?_
          refine ab_iload_n (pc := 68) (i := 2) dX9_isBeside_68 rfl rfl ?_
          refine ab_icmp_ne (pc := 69) (tgt := 89) dX9_isBeside_69 rfl (fun hc => ?_) (fun hc => ?_)
          · have hk := ab_ifn hk hc
            refine ab_sub_ (lv2 := [some (ab_R v0), some (ab_I v1), some (ab_I v2), some (ab_I v3), some (ab_I v4), some (ab_I v5), none, none]) (ab_ss (ab_ss (ab_ss (ab_ss (ab_ss (ab_ss (ab_sn (ab_sn ab_s0)))))))) ?_
            exact e_X9_isBeside_J89 ih hk72 hk95 _ _ _ _ _ _ _ _ hk
          · have hk := ab_ifp hk hc
            refine ab_sub_ (lv2 := [none, none, none, none, none, none, none, none]) (ab_sn (ab_sn (ab_sn (ab_sn (ab_sn (ab_sn (ab_sn (ab_sn ab_s0)))))))) ?_
            exact hk72  _ _ hk
noncomputable def f_X9_isBeside_L3 (k72 : ab_H → Option (Int × ab_H)) : Nat → Int → Int → Int → Int → Int → ab_H → Option (Int × ab_H)
  | 0, _, _, _, _, _, _ => none
  | n + 1, v0, v1, v2, v3, v4, h =>
    (ab_on h 10 v0 (f_X9_strings v0 h)).bind fun q1 =>
    if q1.1 ≤ v4 then
      some ((0 : Int), q1.2)
    else
    f_X9_isBeside_L15 (fun hx72 =>
      k72 hx72) (fun w95_0 w95_1 w95_2 w95_3 w95_4 hx95 =>
      f_X9_isBeside_L3 k72 n w95_0 w95_1 w95_2 w95_3 (ab_w32 (w95_4 + (1 : Int))) hx95) ab_FU v0 v1 v2 v3 v4 (1 : Int) q1.2
set_option maxRecDepth 20000 in
theorem e_X9_isBeside_L3 {k72 : ab_H → Option (Int × ab_H)} (hk72 : ∀ (h : ab_H) (q : Int × ab_H), k72  h = some q → ab_E mm_X9_isBeside cX9_isBeside 72 [none, none, none, none, none, none, none, none] [] h (some (ab_I q.1)) q.2) : ∀ (n : Nat) (v0 : Int) (v1 : Int) (v2 : Int) (v3 : Int) (v4 : Int) (h : ab_H) (q : Int × ab_H), f_X9_isBeside_L3 k72 n v0 v1 v2 v3 v4 h = some q → ab_E mm_X9_isBeside cX9_isBeside 3 [some (ab_R v0), some (ab_I v1), some (ab_I v2), some (ab_I v3), some (ab_I v4), none, none, none] [] h (some (ab_I q.1)) q.2 := by
  intro n
  induction n with
  | zero => intro v0 v1 v2 v3 v4 h q hk; cases hk
  | succ n ih =>
    intro v0 v1 v2 v3 v4 h q hk
    unfold f_X9_isBeside_L3 at hk
    refine ab_iload (pc := 3) (i := 4) dX9_isBeside_3 rfl ?_
    refine ab_aload_n (pc := 5) (i := 0) dX9_isBeside_5 rfl rfl ?_
    obtain ⟨q1, hq1, hk⟩ := ab_bnd hk
    obtain ⟨hb, hq1⟩ := ab_on_some hq1
    refine ab_callVI (st := [ab_I v4]) (as := []) (b := v0) (pc := 6) dX9_isBeside_6 ml_RX9_246 my_X9_strings mv_X9_strings hb (ct_X9_strings hq1) ⟨Nat.le_of_ble_eq_true rfl, Nat.le_of_ble_eq_true rfl⟩ rfl (Nat.le_of_ble_eq_true rfl) rfl ?_
    refine ab_icmp_ge (pc := 9) (tgt := 101) dX9_isBeside_9 rfl (fun hc => ?_) (fun hc => ?_)
    · have hk := ab_ifp hk hc
      refine ab_iconst (pc := 101) dX9_isBeside_101 ab_k_0 ?_
      obtain rfl := Option.some.inj hk
      exact ab_retz (pc := 102) dX9_isBeside_102 rfl rfl
    · have hk := ab_ifn hk hc
      refine ab_iconst (pc := 12) dX9_isBeside_12 ab_k_1 ?_
      refine ab_istore (pc := 13) (i := 5) (lv2 := [some (ab_R v0), some (ab_I v1), some (ab_I v2), some (ab_I v3), some (ab_I v4), some (ab_I (1 : Int)), none, none]) dX9_isBeside_13 (Nat.le_of_ble_eq_true rfl) rfl rfl ?_
      refine ab_sub_ (lv2 := [some (ab_R v0), some (ab_I v1), some (ab_I v2), some (ab_I v3), some (ab_I v4), some (ab_I (1 : Int)), none, none]) (ab_ss (ab_ss (ab_ss (ab_ss (ab_ss (ab_ss (ab_sn (ab_sn ab_s0)))))))) ?_
      refine e_X9_isBeside_L15 (fun hx72 q hk => ?_) (fun w95_0 w95_1 w95_2 w95_3 w95_4 hx95 q hk => ?_) _ _ _ _ _ _ _ _ _ hk
      · skip
        refine ab_sub_ (lv2 := [none, none, none, none, none, none, none, none]) (ab_sn (ab_sn (ab_sn (ab_sn (ab_sn (ab_sn (ab_sn (ab_sn ab_s0)))))))) ?_
        exact hk72  _ _ hk
      · skip
        refine ab_iinc (pc := 95) (i := 4) (lv2 := [some (ab_R w95_0), some (ab_I w95_1), some (ab_I w95_2), some (ab_I w95_3), some (ab_I (ab_w32 (w95_4 + (1 : Int)))), none, none, none]) dX9_isBeside_95 rfl (Nat.le_of_ble_eq_true rfl) rfl rfl ?_
        refine ab_goto (pc := 98) (tgt := 3) dX9_isBeside_98 rfl ?_
        refine ab_sub_ (lv2 := [some (ab_R w95_0), some (ab_I w95_1), some (ab_I w95_2), some (ab_I w95_3), some (ab_I (ab_w32 (w95_4 + (1 : Int)))), none, none, none]) (ab_ss (ab_ss (ab_ss (ab_ss (ab_ss (ab_sn (ab_sn (ab_sn ab_s0)))))))) ?_
        exact ih _ _ _ _ _ _ _ hk
noncomputable def f_X9_isBeside (a0 : Int) (a1 : Int) (a2 : Int) (a3 : Int) (h : ab_H) : Option (Int × ab_H) :=
  f_X9_isBeside_L3 (fun hx72 =>
    some ((1 : Int), hx72)) ab_FU a0 a1 a2 a3 (0 : Int) h
set_option maxRecDepth 20000 in
theorem ct_X9_isBeside {a0 a1 a2 a3 : Int} {h : ab_H} {q : Int × ab_H} (hk : f_X9_isBeside a0 a1 a2 a3 h = some q) : ab_CT yX9_isBeside cX9_isBeside 8 (some .boolean) 1 21 [ab_R a0, ab_I a1, ab_I a2, ab_I a3] h (some (ab_I q.1)) q.2 := by
  refine ab_CT.mk_ 4 (own := RX9) (ini := false) (lv := [some (ab_R a0), some (ab_I a1), some (ab_I a2), some (ab_I a3), none, none, none, none]) rfl (by decide +kernel) (fun q => by cases q) rfl rfl ?_
  unfold f_X9_isBeside at hk
  show ab_E mm_X9_isBeside cX9_isBeside 0 _ [] h _ _
  refine ab_iconst (pc := 0) dX9_isBeside_0 ab_k_0 ?_
  refine ab_istore (pc := 1) (i := 4) (lv2 := [some (ab_R a0), some (ab_I a1), some (ab_I a2), some (ab_I a3), some (ab_I (0 : Int)), none, none, none]) dX9_isBeside_1 (Nat.le_of_ble_eq_true rfl) rfl rfl ?_
  refine ab_sub_ (lv2 := [some (ab_R a0), some (ab_I a1), some (ab_I a2), some (ab_I a3), some (ab_I (0 : Int)), none, none, none]) (ab_ss (ab_ss (ab_ss (ab_ss (ab_ss (ab_sn (ab_sn (ab_sn ab_s0)))))))) ?_
  refine e_X9_isBeside_L3 (fun hx72 q hk => ?_) _ _ _ _ _ _ _ _ hk
  · skip
    refine ab_goto (pc := 72) (tgt := 87) dX9_isBeside_72 rfl ?_
    refine ab_iconst (pc := 87) dX9_isBeside_87 ab_k_1 ?_
    obtain rfl := Option.some.inj hk
    exact ab_retz (pc := 88) dX9_isBeside_88 rfl rfl
theorem dX9_beside_0 : decode cX9_beside 0 = .ok (.aload_n 0, 1) := by decide +kernel
theorem dX9_beside_1 : decode cX9_beside 1 = .ok (.iload_n 1, 1) := by decide +kernel
theorem dX9_beside_2 : decode cX9_beside 2 = .ok (.invokevirtual 346, 3) := by decide +kernel
theorem dX9_beside_5 : decode cX9_beside 5 = .ok (.ifCond .eq 18, 3) := by decide +kernel
theorem dX9_beside_8 : decode cX9_beside 8 = .ok (.iload_n 2, 1) := by decide +kernel
theorem dX9_beside_9 : decode cX9_beside 9 = .ok (.i2l, 1) := by decide +kernel
theorem dX9_beside_10 : decode cX9_beside 10 = .ok (.lconst 0, 1) := by decide +kernel
theorem dX9_beside_11 : decode cX9_beside 11 = .ok (.lconst 1, 1) := by decide +kernel
theorem dX9_beside_12 : decode cX9_beside 12 = .ok (.invokestatic 84, 3) := by decide +kernel
theorem dX9_beside_15 : decode cX9_beside 15 = .ok (.ifCond .eq 8, 3) := by decide +kernel
theorem dX9_beside_18 : decode cX9_beside 18 = .ok (.iload_n 3, 1) := by decide +kernel
theorem dX9_beside_19 : decode cX9_beside 19 = .ok (.iconst (-1), 1) := by decide +kernel
theorem dX9_beside_20 : decode cX9_beside 20 = .ok (.if_icmp .ge 6, 3) := by decide +kernel
theorem dX9_beside_23 : decode cX9_beside 23 = .ok (.bipush (-2), 2) := by decide +kernel
theorem dX9_beside_25 : decode cX9_beside 25 = .ok (.ireturn, 1) := by decide +kernel
theorem dX9_beside_26 : decode cX9_beside 26 = .ok (.iconst 0, 1) := by decide +kernel
theorem dX9_beside_27 : decode cX9_beside 27 = .ok (.istore 4, 2) := by decide +kernel
theorem dX9_beside_29 : decode cX9_beside 29 = .ok (.iconst 0, 1) := by decide +kernel
theorem dX9_beside_30 : decode cX9_beside 30 = .ok (.istore 5, 2) := by decide +kernel
theorem dX9_beside_32 : decode cX9_beside 32 = .ok (.iload 5, 2) := by decide +kernel
theorem dX9_beside_34 : decode cX9_beside 34 = .ok (.aload_n 0, 1) := by decide +kernel
theorem dX9_beside_35 : decode cX9_beside 35 = .ok (.getfield 252, 3) := by decide +kernel
theorem dX9_beside_38 : decode cX9_beside 38 = .ok (.if_icmp .ge 35, 3) := by decide +kernel
theorem dX9_beside_41 : decode cX9_beside 41 = .ok (.aload_n 0, 1) := by decide +kernel
theorem dX9_beside_42 : decode cX9_beside 42 = .ok (.iload_n 1, 1) := by decide +kernel
theorem dX9_beside_43 : decode cX9_beside 43 = .ok (.iload 5, 2) := by decide +kernel
theorem dX9_beside_45 : decode cX9_beside 45 = .ok (.iload_n 2, 1) := by decide +kernel
theorem dX9_beside_46 : decode cX9_beside 46 = .ok (.invokevirtual 429, 3) := by decide +kernel
theorem dX9_beside_49 : decode cX9_beside 49 = .ok (.ifCond .ne 6, 3) := by decide +kernel
theorem dX9_beside_52 : decode cX9_beside 52 = .ok (.goto 15, 3) := by decide +kernel
theorem dX9_beside_55 : decode cX9_beside 55 = .ok (.iload 4, 2) := by decide +kernel
theorem dX9_beside_57 : decode cX9_beside 57 = .ok (.iload_n 3, 1) := by decide +kernel
theorem dX9_beside_58 : decode cX9_beside 58 = .ok (.if_icmp .ne 6, 3) := by decide +kernel
theorem dX9_beside_61 : decode cX9_beside 61 = .ok (.iload 5, 2) := by decide +kernel
theorem dX9_beside_63 : decode cX9_beside 63 = .ok (.ireturn, 1) := by decide +kernel
theorem dX9_beside_64 : decode cX9_beside 64 = .ok (.iinc 4 1, 3) := by decide +kernel
theorem dX9_beside_67 : decode cX9_beside 67 = .ok (.iinc 5 1, 3) := by decide +kernel
theorem dX9_beside_70 : decode cX9_beside 70 = .ok (.goto (-38), 3) := by decide +kernel
theorem dX9_beside_73 : decode cX9_beside 73 = .ok (.iload_n 3, 1) := by decide +kernel
theorem dX9_beside_74 : decode cX9_beside 74 = .ok (.iconst (-1), 1) := by decide +kernel
theorem dX9_beside_75 : decode cX9_beside 75 = .ok (.if_icmp .ne 8, 3) := by decide +kernel
theorem dX9_beside_78 : decode cX9_beside 78 = .ok (.iload 4, 2) := by decide +kernel
theorem dX9_beside_80 : decode cX9_beside 80 = .ok (.goto 4, 3) := by decide +kernel
theorem dX9_beside_83 : decode cX9_beside 83 = .ok (.iconst (-1), 1) := by decide +kernel
theorem dX9_beside_84 : decode cX9_beside 84 = .ok (.ireturn, 1) := by decide +kernel
abbrev mm_X9_beside : ab_M := (RX9, 6, (some .int), false, 3, 72, none)
noncomputable def f_X9_beside_J67 (rec : Int → Int → Int → Int → Int → Int → ab_H → Option (Int × ab_H)) (k73 : Int → Int → ab_H → Option (Int × ab_H)) (v0 : Int) (v1 : Int) (v2 : Int) (v3 : Int) (v4 : Int) (v5 : Int) (h : ab_H) : Option (Int × ab_H) :=
  rec v0 v1 v2 v3 v4 (ab_w32 (v5 + (1 : Int))) h
set_option maxRecDepth 20000 in
theorem e_X9_beside_J67 {rec : Int → Int → Int → Int → Int → Int → ab_H → Option (Int × ab_H)} {k73 : Int → Int → ab_H → Option (Int × ab_H)} (hrec : ∀ (v0 : Int) (v1 : Int) (v2 : Int) (v3 : Int) (v4 : Int) (v5 : Int) (h : ab_H) (q : Int × ab_H), rec v0 v1 v2 v3 v4 v5 h = some q → ab_E mm_X9_beside cX9_beside 32 [some (ab_R v0), some (ab_I v1), some (ab_I v2), some (ab_I v3), some (ab_I v4), some (ab_I v5)] [] h (some (ab_I q.1)) q.2) (hk73 : ∀ (v3 : Int) (v4 : Int) (h : ab_H) (q : Int × ab_H), k73 v3 v4 h = some q → ab_E mm_X9_beside cX9_beside 73 [none, none, none, some (ab_I v3), some (ab_I v4), none] [] h (some (ab_I q.1)) q.2) : ∀ (v0 : Int) (v1 : Int) (v2 : Int) (v3 : Int) (v4 : Int) (v5 : Int) (h : ab_H) (q : Int × ab_H), f_X9_beside_J67 rec k73 v0 v1 v2 v3 v4 v5 h = some q → ab_E mm_X9_beside cX9_beside 67 [some (ab_R v0), some (ab_I v1), some (ab_I v2), some (ab_I v3), some (ab_I v4), some (ab_I v5)] [] h (some (ab_I q.1)) q.2 := by
  intro v0 v1 v2 v3 v4 v5 h q hk
  unfold f_X9_beside_J67 at hk
  refine ab_iinc (pc := 67) (i := 5) (lv2 := [some (ab_R v0), some (ab_I v1), some (ab_I v2), some (ab_I v3), some (ab_I v4), some (ab_I (ab_w32 (v5 + (1 : Int))))]) dX9_beside_67 rfl (Nat.le_of_ble_eq_true rfl) rfl rfl ?_
  refine ab_goto (pc := 70) (tgt := 32) dX9_beside_70 rfl ?_
  refine ab_sub_ (lv2 := [some (ab_R v0), some (ab_I v1), some (ab_I v2), some (ab_I v3), some (ab_I v4), some (ab_I (ab_w32 (v5 + (1 : Int))))]) (ab_ss (ab_ss (ab_ss (ab_ss (ab_ss (ab_ss ab_s0)))))) ?_
  exact hrec _ _ _ _ _ _ _ _ hk
noncomputable def f_X9_beside_L32 (k73 : Int → Int → ab_H → Option (Int × ab_H)) : Nat → Int → Int → Int → Int → Int → Int → ab_H → Option (Int × ab_H)
  | 0, _, _, _, _, _, _, _ => none
  | n + 1, v0, v1, v2, v3, v4, v5, h =>
    (ab_get h 10 14 v0).bind fun t1 =>
    if t1 ≤ v5 then
      k73 v3 v4 h
    else
    (ab_on h 10 v0 (f_X9_isBeside v0 v1 v5 v2 h)).bind fun q2 =>
    if q2.1 = (0 : Int) then
      f_X9_beside_J67 (f_X9_beside_L32 k73 n) k73 v0 v1 v2 v3 v4 v5 q2.2
    else
    if v4 = v3 then
      some (v5, q2.2)
    else
    f_X9_beside_J67 (f_X9_beside_L32 k73 n) k73 v0 v1 v2 v3 (ab_w32 (v4 + (1 : Int))) v5 q2.2
set_option maxRecDepth 20000 in
theorem e_X9_beside_L32 {k73 : Int → Int → ab_H → Option (Int × ab_H)} (hk73 : ∀ (v3 : Int) (v4 : Int) (h : ab_H) (q : Int × ab_H), k73 v3 v4 h = some q → ab_E mm_X9_beside cX9_beside 73 [none, none, none, some (ab_I v3), some (ab_I v4), none] [] h (some (ab_I q.1)) q.2) : ∀ (n : Nat) (v0 : Int) (v1 : Int) (v2 : Int) (v3 : Int) (v4 : Int) (v5 : Int) (h : ab_H) (q : Int × ab_H), f_X9_beside_L32 k73 n v0 v1 v2 v3 v4 v5 h = some q → ab_E mm_X9_beside cX9_beside 32 [some (ab_R v0), some (ab_I v1), some (ab_I v2), some (ab_I v3), some (ab_I v4), some (ab_I v5)] [] h (some (ab_I q.1)) q.2 := by
  intro n
  induction n with
  | zero => intro v0 v1 v2 v3 v4 v5 h q hk; cases hk
  | succ n ih =>
    intro v0 v1 v2 v3 v4 v5 h q hk
    unfold f_X9_beside_L32 at hk
    refine ab_iload (pc := 32) (i := 5) dX9_beside_32 rfl ?_
    refine ab_aload_n (pc := 34) (i := 0) dX9_beside_34 rfl rfl ?_
    obtain ⟨t1, ht1, hk⟩ := ab_bnd hk
    refine ab_getI (pc := 35) dX9_beside_35 fl_RX9_252 ht1 ?_
    refine ab_icmp_ge (pc := 38) (tgt := 73) dX9_beside_38 rfl (fun hc => ?_) (fun hc => ?_)
    · have hk := ab_ifp hk hc
      refine ab_sub_ (lv2 := [none, none, none, some (ab_I v3), some (ab_I v4), none]) (ab_sn (ab_sn (ab_sn (ab_ss (ab_ss (ab_sn ab_s0)))))) ?_
      exact hk73 _ _ _ _ hk
    · have hk := ab_ifn hk hc
      refine ab_aload_n (pc := 41) (i := 0) dX9_beside_41 rfl rfl ?_
      refine ab_iload_n (pc := 42) (i := 1) dX9_beside_42 rfl rfl ?_
      refine ab_iload (pc := 43) (i := 5) dX9_beside_43 rfl ?_
      refine ab_iload_n (pc := 45) (i := 2) dX9_beside_45 rfl rfl ?_
      obtain ⟨q2, hq2, hk⟩ := ab_bnd hk
      obtain ⟨hb, hq2⟩ := ab_on_some hq2
      refine ab_callVI (st := []) (as := [ab_I v1, ab_I v5, ab_I v2]) (b := v0) (pc := 46) dX9_beside_46 ml_RX9_429 my_X9_isBeside mv_X9_isBeside hb (ct_X9_isBeside hq2) ⟨Nat.le_of_ble_eq_true rfl, Nat.le_of_ble_eq_true rfl⟩ rfl (Nat.le_of_ble_eq_true rfl) rfl ?_
      refine ab_if_ne (pc := 49) (tgt := 55) dX9_beside_49 rfl (fun hc => ?_) (fun hc => ?_)
      · have hk := ab_ifn hk hc
        refine ab_iload (pc := 55) (i := 4) dX9_beside_55 rfl ?_
        refine ab_iload_n (pc := 57) (i := 3) dX9_beside_57 rfl rfl ?_
        refine ab_icmp_ne (pc := 58) (tgt := 64) dX9_beside_58 rfl (fun hc => ?_) (fun hc => ?_)
        · have hk := ab_ifn hk hc
          refine ab_iinc (pc := 64) (i := 4) (lv2 := [some (ab_R v0), some (ab_I v1), some (ab_I v2), some (ab_I v3), some (ab_I (ab_w32 (v4 + (1 : Int)))), some (ab_I v5)]) dX9_beside_64 rfl (Nat.le_of_ble_eq_true rfl) rfl rfl ?_
          refine ab_sub_ (lv2 := [some (ab_R v0), some (ab_I v1), some (ab_I v2), some (ab_I v3), some (ab_I (ab_w32 (v4 + (1 : Int)))), some (ab_I v5)]) (ab_ss (ab_ss (ab_ss (ab_ss (ab_ss (ab_ss ab_s0)))))) ?_
          exact e_X9_beside_J67 ih hk73 _ _ _ _ _ _ _ _ hk
        · have hk := ab_ifp hk hc
          refine ab_iload (pc := 61) (i := 5) dX9_beside_61 rfl ?_
          obtain rfl := Option.some.inj hk
          exact ab_reti (pc := 63) dX9_beside_63 (Or.inl rfl)
      · have hk := ab_ifp hk hc
        refine ab_goto (pc := 52) (tgt := 67) dX9_beside_52 rfl ?_
        refine ab_sub_ (lv2 := [some (ab_R v0), some (ab_I v1), some (ab_I v2), some (ab_I v3), some (ab_I v4), some (ab_I v5)]) (ab_ss (ab_ss (ab_ss (ab_ss (ab_ss (ab_ss ab_s0)))))) ?_
        exact e_X9_beside_J67 ih hk73 _ _ _ _ _ _ _ _ hk
noncomputable def f_X9_beside (a0 : Int) (a1 : Int) (a2 : Int) (a3 : Int) (h : ab_H) : Option (Int × ab_H) :=
  (ab_on h 10 a0 (f_X9_isWordNow a0 a1 h)).bind fun q1 =>
  if q1.1 = (0 : Int) then
    some ((-2 : Int), q1.2)
  else
  (f_X9_in a2 (0 : Int) (1 : Int) q1.2).bind fun q2 =>
  if q2.1 = (0 : Int) then
    some ((-2 : Int), q2.2)
  else
  if (-1 : Int) ≤ a3 then
    f_X9_beside_L32 (fun w73_3 w73_4 hx73 =>
      if w73_3 = (-1 : Int) then
        some (w73_4, hx73)
      else
      some ((-1 : Int), hx73)) ab_FU a0 a1 a2 a3 (0 : Int) (0 : Int) q2.2
  else
  some ((-2 : Int), q2.2)
set_option maxRecDepth 20000 in
theorem ct_X9_beside {a0 a1 a2 a3 : Int} {h : ab_H} {q : Int × ab_H} (hk : f_X9_beside a0 a1 a2 a3 h = some q) : ab_CT yX9_beside cX9_beside 6 (some .int) 3 72 [ab_R a0, ab_I a1, ab_I a2, ab_I a3] h (some (ab_I q.1)) q.2 := by
  refine ab_CT.mk_ 2 (own := RX9) (ini := false) (lv := [some (ab_R a0), some (ab_I a1), some (ab_I a2), some (ab_I a3), none, none]) rfl (by decide +kernel) (fun q => by cases q) rfl rfl ?_
  unfold f_X9_beside at hk
  show ab_E mm_X9_beside cX9_beside 0 _ [] h _ _
  refine ab_aload_n (pc := 0) (i := 0) dX9_beside_0 rfl rfl ?_
  refine ab_iload_n (pc := 1) (i := 1) dX9_beside_1 rfl rfl ?_
  obtain ⟨q1, hq1, hk⟩ := ab_bnd hk
  obtain ⟨hb, hq1⟩ := ab_on_some hq1
  refine ab_callVI (st := []) (as := [ab_I a1]) (b := a0) (pc := 2) dX9_beside_2 ml_RX9_346 my_X9_isWordNow mv_X9_isWordNow hb (ct_X9_isWordNow hq1) ⟨Nat.le_of_ble_eq_true rfl, Nat.le_of_ble_eq_true rfl⟩ rfl (Nat.le_of_ble_eq_true rfl) rfl ?_
  refine ab_if_eq (pc := 5) (tgt := 23) dX9_beside_5 rfl (fun hc => ?_) (fun hc => ?_)
  · have hk := ab_ifp hk hc
    refine ab_bipush (pc := 23) dX9_beside_23 ab_p8_m2 ab_k_m2 ?_
    obtain rfl := Option.some.inj hk
    exact ab_reti (pc := 25) dX9_beside_25 (Or.inl rfl)
  · have hk := ab_ifn hk hc
    refine ab_iload_n (pc := 8) (i := 2) dX9_beside_8 rfl rfl ?_
    refine ab_i2l_ (pc := 9) dX9_beside_9 ?_
    refine ab_lconst (x := (0 : Int)) (pc := 10) dX9_beside_10 rfl ab_kl_0 ?_
    refine ab_lconst (x := (1 : Int)) (pc := 11) dX9_beside_11 rfl ab_kl_1 ?_
    obtain ⟨q2, hq2, hk⟩ := ab_bnd hk
    refine ab_callSI (st := []) (as := [ab_J a2, ab_J (0 : Int), ab_J (1 : Int)]) (pc := 12) dX9_beside_12 ml_RX9_84 my_X9_in ms_X9_in (ct_X9_in hq2) ⟨Nat.le_of_ble_eq_true rfl, Nat.le_of_ble_eq_true rfl⟩ rfl (Nat.le_of_ble_eq_true rfl) rfl ?_
    refine ab_if_eq (pc := 15) (tgt := 23) dX9_beside_15 rfl (fun hc => ?_) (fun hc => ?_)
    · have hk := ab_ifp hk hc
      refine ab_bipush (pc := 23) dX9_beside_23 ab_p8_m2 ab_k_m2 ?_
      obtain rfl := Option.some.inj hk
      exact ab_reti (pc := 25) dX9_beside_25 (Or.inl rfl)
    · have hk := ab_ifn hk hc
      refine ab_iload_n (pc := 18) (i := 3) dX9_beside_18 rfl rfl ?_
      refine ab_iconst (pc := 19) dX9_beside_19 ab_k_m1 ?_
      refine ab_icmp_ge (pc := 20) (tgt := 26) dX9_beside_20 rfl (fun hc => ?_) (fun hc => ?_)
      · have hk := ab_ifp hk hc
        refine ab_iconst (pc := 26) dX9_beside_26 ab_k_0 ?_
        refine ab_istore (pc := 27) (i := 4) (lv2 := [some (ab_R a0), some (ab_I a1), some (ab_I a2), some (ab_I a3), some (ab_I (0 : Int)), none]) dX9_beside_27 (Nat.le_of_ble_eq_true rfl) rfl rfl ?_
        refine ab_iconst (pc := 29) dX9_beside_29 ab_k_0 ?_
        refine ab_istore (pc := 30) (i := 5) (lv2 := [some (ab_R a0), some (ab_I a1), some (ab_I a2), some (ab_I a3), some (ab_I (0 : Int)), some (ab_I (0 : Int))]) dX9_beside_30 (Nat.le_of_ble_eq_true rfl) rfl rfl ?_
        refine ab_sub_ (lv2 := [some (ab_R a0), some (ab_I a1), some (ab_I a2), some (ab_I a3), some (ab_I (0 : Int)), some (ab_I (0 : Int))]) (ab_ss (ab_ss (ab_ss (ab_ss (ab_ss (ab_ss ab_s0)))))) ?_
        refine e_X9_beside_L32 (fun w73_3 w73_4 hx73 q hk => ?_) _ _ _ _ _ _ _ _ _ hk
        · skip
          refine ab_iload_n (pc := 73) (i := 3) dX9_beside_73 rfl rfl ?_
          refine ab_iconst (pc := 74) dX9_beside_74 ab_k_m1 ?_
          refine ab_icmp_ne (pc := 75) (tgt := 83) dX9_beside_75 rfl (fun hc => ?_) (fun hc => ?_)
          · have hk := ab_ifn hk hc
            refine ab_iconst (pc := 83) dX9_beside_83 ab_k_m1 ?_
            obtain rfl := Option.some.inj hk
            exact ab_reti (pc := 84) dX9_beside_84 (Or.inl rfl)
          · have hk := ab_ifp hk hc
            refine ab_iload (pc := 78) (i := 4) dX9_beside_78 rfl ?_
            refine ab_goto (pc := 80) (tgt := 84) dX9_beside_80 rfl ?_
            obtain rfl := Option.some.inj hk
            exact ab_reti (pc := 84) dX9_beside_84 (Or.inl rfl)
      · have hk := ab_ifn hk hc
        refine ab_bipush (pc := 23) dX9_beside_23 ab_p8_m2 ab_k_m2 ?_
        obtain rfl := Option.some.inj hk
        exact ab_reti (pc := 25) dX9_beside_25 (Or.inl rfl)
theorem dX9_oftenOf_0 : decode cX9_oftenOf 0 = .ok (.aload_n 0, 1) := by decide +kernel
theorem dX9_oftenOf_1 : decode cX9_oftenOf 1 = .ok (.iload_n 1, 1) := by decide +kernel
theorem dX9_oftenOf_2 : decode cX9_oftenOf 2 = .ok (.iconst (-1), 1) := by decide +kernel
theorem dX9_oftenOf_3 : decode cX9_oftenOf 3 = .ok (.invokevirtual 408, 3) := by decide +kernel
theorem dX9_oftenOf_6 : decode cX9_oftenOf 6 = .ok (.invokestatic 377, 3) := by decide +kernel
theorem dX9_oftenOf_9 : decode cX9_oftenOf 9 = .ok (.ireturn, 1) := by decide +kernel
abbrev mm_X9_oftenOf : ab_M := (RX9, 2, (some .int), false, 4, 91, none)
noncomputable def f_X9_oftenOf (a0 : Int) (a1 : Int) (h : ab_H) : Option (Int × ab_H) :=
  (ab_on h 10 a0 (f_X9_having0 a0 a1 (-1 : Int) h)).bind fun q1 =>
  (f_X9_bits q1.1 q1.2).bind fun q2 =>
  some (q2.1, q2.2)
set_option maxRecDepth 20000 in
theorem ct_X9_oftenOf {a0 a1 : Int} {h : ab_H} {q : Int × ab_H} (hk : f_X9_oftenOf a0 a1 h = some q) : ab_CT yX9_oftenOf cX9_oftenOf 2 (some .int) 4 91 [ab_R a0, ab_I a1] h (some (ab_I q.1)) q.2 := by
  refine ab_CT.mk_ 0 (own := RX9) (ini := false) (lv := [some (ab_R a0), some (ab_I a1)]) rfl (by decide +kernel) (fun q => by cases q) rfl rfl ?_
  unfold f_X9_oftenOf at hk
  show ab_E mm_X9_oftenOf cX9_oftenOf 0 _ [] h _ _
  refine ab_aload_n (pc := 0) (i := 0) dX9_oftenOf_0 rfl rfl ?_
  refine ab_iload_n (pc := 1) (i := 1) dX9_oftenOf_1 rfl rfl ?_
  refine ab_iconst (pc := 2) dX9_oftenOf_2 ab_k_m1 ?_
  obtain ⟨q1, hq1, hk⟩ := ab_bnd hk
  obtain ⟨hb, hq1⟩ := ab_on_some hq1
  refine ab_callVI (st := []) (as := [ab_I a1, ab_I (-1 : Int)]) (b := a0) (pc := 3) dX9_oftenOf_3 ml_RX9_408 my_X9_having0 mv_X9_having0 hb (ct_X9_having0 hq1) ⟨Nat.le_of_ble_eq_true rfl, Nat.le_of_ble_eq_true rfl⟩ rfl (Nat.le_of_ble_eq_true rfl) rfl ?_
  obtain ⟨q2, hq2, hk⟩ := ab_bnd hk
  refine ab_callSI (st := []) (as := [ab_I q1.1]) (pc := 6) dX9_oftenOf_6 ml_RX9_377 my_X9_bits ms_X9_bits (ct_X9_bits hq2) ⟨Nat.le_of_ble_eq_true rfl, Nat.le_of_ble_eq_true rfl⟩ rfl (Nat.le_of_ble_eq_true rfl) rfl ?_
  obtain rfl := Option.some.inj hk
  exact ab_reti (pc := 9) dX9_oftenOf_9 (Or.inl rfl)
theorem dX9_often_0 : decode cX9_often 0 = .ok (.aload_n 0, 1) := by decide +kernel
theorem dX9_often_1 : decode cX9_often 1 = .ok (.iload_n 1, 1) := by decide +kernel
theorem dX9_often_2 : decode cX9_often 2 = .ok (.invokevirtual 346, 3) := by decide +kernel
theorem dX9_often_5 : decode cX9_often 5 = .ok (.ifCond .eq 11, 3) := by decide +kernel
theorem dX9_often_8 : decode cX9_often 8 = .ok (.aload_n 0, 1) := by decide +kernel
theorem dX9_often_9 : decode cX9_often 9 = .ok (.iload_n 1, 1) := by decide +kernel
theorem dX9_often_10 : decode cX9_often 10 = .ok (.invokevirtual 432, 3) := by decide +kernel
theorem dX9_often_13 : decode cX9_often 13 = .ok (.goto 5, 3) := by decide +kernel
theorem dX9_often_16 : decode cX9_often 16 = .ok (.bipush (-2), 2) := by decide +kernel
theorem dX9_often_18 : decode cX9_often 18 = .ok (.ireturn, 1) := by decide +kernel
abbrev mm_X9_often : ab_M := (RX9, 2, (some .int), false, 5, 112, none)
noncomputable def f_X9_often (a0 : Int) (a1 : Int) (h : ab_H) : Option (Int × ab_H) :=
  (ab_on h 10 a0 (f_X9_isWordNow a0 a1 h)).bind fun q1 =>
  if q1.1 = (0 : Int) then
    some ((-2 : Int), q1.2)
  else
  (ab_on q1.2 10 a0 (f_X9_oftenOf a0 a1 q1.2)).bind fun q2 =>
  some (q2.1, q2.2)
set_option maxRecDepth 20000 in
theorem ct_X9_often {a0 a1 : Int} {h : ab_H} {q : Int × ab_H} (hk : f_X9_often a0 a1 h = some q) : ab_CT yX9_often cX9_often 2 (some .int) 5 112 [ab_R a0, ab_I a1] h (some (ab_I q.1)) q.2 := by
  refine ab_CT.mk_ 0 (own := RX9) (ini := false) (lv := [some (ab_R a0), some (ab_I a1)]) rfl (by decide +kernel) (fun q => by cases q) rfl rfl ?_
  unfold f_X9_often at hk
  show ab_E mm_X9_often cX9_often 0 _ [] h _ _
  refine ab_aload_n (pc := 0) (i := 0) dX9_often_0 rfl rfl ?_
  refine ab_iload_n (pc := 1) (i := 1) dX9_often_1 rfl rfl ?_
  obtain ⟨q1, hq1, hk⟩ := ab_bnd hk
  obtain ⟨hb, hq1⟩ := ab_on_some hq1
  refine ab_callVI (st := []) (as := [ab_I a1]) (b := a0) (pc := 2) dX9_often_2 ml_RX9_346 my_X9_isWordNow mv_X9_isWordNow hb (ct_X9_isWordNow hq1) ⟨Nat.le_of_ble_eq_true rfl, Nat.le_of_ble_eq_true rfl⟩ rfl (Nat.le_of_ble_eq_true rfl) rfl ?_
  refine ab_if_eq (pc := 5) (tgt := 16) dX9_often_5 rfl (fun hc => ?_) (fun hc => ?_)
  · have hk := ab_ifp hk hc
    refine ab_bipush (pc := 16) dX9_often_16 ab_p8_m2 ab_k_m2 ?_
    obtain rfl := Option.some.inj hk
    exact ab_reti (pc := 18) dX9_often_18 (Or.inl rfl)
  · have hk := ab_ifn hk hc
    refine ab_aload_n (pc := 8) (i := 0) dX9_often_8 rfl rfl ?_
    refine ab_iload_n (pc := 9) (i := 1) dX9_often_9 rfl rfl ?_
    obtain ⟨q2, hq2, hk⟩ := ab_bnd hk
    obtain ⟨hb, hq2⟩ := ab_on_some hq2
    refine ab_callVI (st := []) (as := [ab_I a1]) (b := a0) (pc := 10) dX9_often_10 ml_RX9_432 my_X9_oftenOf mv_X9_oftenOf hb (ct_X9_oftenOf hq2) ⟨Nat.le_of_ble_eq_true rfl, Nat.le_of_ble_eq_true rfl⟩ rfl (Nat.le_of_ble_eq_true rfl) rfl ?_
    refine ab_goto (pc := 13) (tgt := 18) dX9_often_13 rfl ?_
    obtain rfl := Option.some.inj hk
    exact ab_reti (pc := 18) dX9_often_18 (Or.inl rfl)
theorem dX9_most_0 : decode cX9_most 0 = .ok (.iload_n 1, 1) := by decide +kernel
theorem dX9_most_1 : decode cX9_most 1 = .ok (.ifCond .ge 6, 3) := by decide +kernel
theorem dX9_most_4 : decode cX9_most 4 = .ok (.bipush (-2), 2) := by decide +kernel
theorem dX9_most_6 : decode cX9_most 6 = .ok (.ireturn, 1) := by decide +kernel
theorem dX9_most_7 : decode cX9_most 7 = .ok (.aload_n 0, 1) := by decide +kernel
theorem dX9_most_8 : decode cX9_most 8 = .ok (.invokevirtual 287, 3) := by decide +kernel
theorem dX9_most_11 : decode cX9_most 11 = .ok (.iconst 0, 1) := by decide +kernel
theorem dX9_most_12 : decode cX9_most 12 = .ok (.istore_n 2, 1) := by decide +kernel
theorem dX9_most_13 : decode cX9_most 13 = .ok (.iload_n 2, 1) := by decide +kernel
theorem dX9_most_14 : decode cX9_most 14 = .ok (.aload_n 0, 1) := by decide +kernel
theorem dX9_most_15 : decode cX9_most 15 = .ok (.getfield 252, 3) := by decide +kernel
theorem dX9_most_18 : decode cX9_most 18 = .ok (.if_icmp .ge 78, 3) := by decide +kernel
theorem dX9_most_21 : decode cX9_most 21 = .ok (.iconst 0, 1) := by decide +kernel
theorem dX9_most_22 : decode cX9_most 22 = .ok (.istore_n 3, 1) := by decide +kernel
theorem dX9_most_23 : decode cX9_most 23 = .ok (.iconst 0, 1) := by decide +kernel
theorem dX9_most_24 : decode cX9_most 24 = .ok (.istore 4, 2) := by decide +kernel
theorem dX9_most_26 : decode cX9_most 26 = .ok (.iload 4, 2) := by decide +kernel
theorem dX9_most_28 : decode cX9_most 28 = .ok (.aload_n 0, 1) := by decide +kernel
theorem dX9_most_29 : decode cX9_most 29 = .ok (.getfield 252, 3) := by decide +kernel
theorem dX9_most_32 : decode cX9_most 32 = .ok (.if_icmp .ge 51, 3) := by decide +kernel
theorem dX9_most_35 : decode cX9_most 35 = .ok (.iload_n 3, 1) := by decide +kernel
theorem dX9_most_36 : decode cX9_most 36 = .ok (.aload_n 0, 1) := by decide +kernel
theorem dX9_most_37 : decode cX9_most 37 = .ok (.iload 4, 2) := by decide +kernel
theorem dX9_most_39 : decode cX9_most 39 = .ok (.invokevirtual 432, 3) := by decide +kernel
theorem dX9_most_42 : decode cX9_most 42 = .ok (.aload_n 0, 1) := by decide +kernel
theorem dX9_most_43 : decode cX9_most 43 = .ok (.iload_n 2, 1) := by decide +kernel
theorem dX9_most_44 : decode cX9_most 44 = .ok (.invokevirtual 432, 3) := by decide +kernel
theorem dX9_most_47 : decode cX9_most 47 = .ok (.if_icmp .gt 23, 3) := by decide +kernel
theorem dX9_most_50 : decode cX9_most 50 = .ok (.aload_n 0, 1) := by decide +kernel
theorem dX9_most_51 : decode cX9_most 51 = .ok (.iload 4, 2) := by decide +kernel
theorem dX9_most_53 : decode cX9_most 53 = .ok (.invokevirtual 432, 3) := by decide +kernel
theorem dX9_most_56 : decode cX9_most 56 = .ok (.aload_n 0, 1) := by decide +kernel
theorem dX9_most_57 : decode cX9_most 57 = .ok (.iload_n 2, 1) := by decide +kernel
theorem dX9_most_58 : decode cX9_most 58 = .ok (.invokevirtual 432, 3) := by decide +kernel
theorem dX9_most_61 : decode cX9_most 61 = .ok (.if_icmp .ne 13, 3) := by decide +kernel
theorem dX9_most_64 : decode cX9_most 64 = .ok (.iload 4, 2) := by decide +kernel
theorem dX9_most_66 : decode cX9_most 66 = .ok (.iload_n 2, 1) := by decide +kernel
theorem dX9_most_67 : decode cX9_most 67 = .ok (.if_icmp .ge 7, 3) := by decide +kernel
theorem dX9_most_70 : decode cX9_most 70 = .ok (.iconst 1, 1) := by decide +kernel
theorem dX9_most_71 : decode cX9_most 71 = .ok (.goto 4, 3) := by decide +kernel
theorem dX9_most_74 : decode cX9_most 74 = .ok (.iconst 0, 1) := by decide +kernel
theorem dX9_most_75 : decode cX9_most 75 = .ok (.iadd, 1) := by decide +kernel
theorem dX9_most_76 : decode cX9_most 76 = .ok (.istore_n 3, 1) := by decide +kernel
theorem dX9_most_77 : decode cX9_most 77 = .ok (.iinc 4 1, 3) := by decide +kernel
theorem dX9_most_80 : decode cX9_most 80 = .ok (.goto (-54), 3) := by decide +kernel
theorem dX9_most_83 : decode cX9_most 83 = .ok (.iload_n 3, 1) := by decide +kernel
theorem dX9_most_84 : decode cX9_most 84 = .ok (.iload_n 1, 1) := by decide +kernel
theorem dX9_most_85 : decode cX9_most 85 = .ok (.if_icmp .ne 5, 3) := by decide +kernel
theorem dX9_most_88 : decode cX9_most 88 = .ok (.iload_n 2, 1) := by decide +kernel
theorem dX9_most_89 : decode cX9_most 89 = .ok (.ireturn, 1) := by decide +kernel
theorem dX9_most_90 : decode cX9_most 90 = .ok (.iinc 2 1, 3) := by decide +kernel
theorem dX9_most_93 : decode cX9_most 93 = .ok (.goto (-80), 3) := by decide +kernel
theorem dX9_most_96 : decode cX9_most 96 = .ok (.iconst (-1), 1) := by decide +kernel
theorem dX9_most_97 : decode cX9_most 97 = .ok (.ireturn, 1) := by decide +kernel
abbrev mm_X9_most : ab_M := (RX9, 5, (some .int), false, 5, 112, none)
noncomputable def f_X9_most_J75 (rec : Int → Int → Int → Int → Int → ab_H → Option (Int × ab_H)) (k83 : Int → Int → Int → Int → ab_H → Option (Int × ab_H)) (v0 : Int) (v1 : Int) (v2 : Int) (v4 : Int) (s1 : Int) (s0 : Int) (h : ab_H) : Option (Int × ab_H) :=
  rec v0 v1 v2 (ab_w32 (s0 + s1)) (ab_w32 (v4 + (1 : Int))) h
set_option maxRecDepth 20000 in
theorem e_X9_most_J75 {rec : Int → Int → Int → Int → Int → ab_H → Option (Int × ab_H)} {k83 : Int → Int → Int → Int → ab_H → Option (Int × ab_H)} (hrec : ∀ (v0 : Int) (v1 : Int) (v2 : Int) (v3 : Int) (v4 : Int) (h : ab_H) (q : Int × ab_H), rec v0 v1 v2 v3 v4 h = some q → ab_E mm_X9_most cX9_most 26 [some (ab_R v0), some (ab_I v1), some (ab_I v2), some (ab_I v3), some (ab_I v4)] [] h (some (ab_I q.1)) q.2) (hk83 : ∀ (v0 : Int) (v1 : Int) (v2 : Int) (v3 : Int) (h : ab_H) (q : Int × ab_H), k83 v0 v1 v2 v3 h = some q → ab_E mm_X9_most cX9_most 83 [some (ab_R v0), some (ab_I v1), some (ab_I v2), some (ab_I v3), none] [] h (some (ab_I q.1)) q.2) : ∀ (v0 : Int) (v1 : Int) (v2 : Int) (v4 : Int) (s1 : Int) (s0 : Int) (h : ab_H) (q : Int × ab_H), f_X9_most_J75 rec k83 v0 v1 v2 v4 s1 s0 h = some q → ab_E mm_X9_most cX9_most 75 [some (ab_R v0), some (ab_I v1), some (ab_I v2), none, some (ab_I v4)] [ab_I s1, ab_I s0] h (some (ab_I q.1)) q.2 := by
  intro v0 v1 v2 v4 s1 s0 h q hk
  unfold f_X9_most_J75 at hk
  refine ab_iadd (pc := 75) dX9_most_75 ?_
  refine ab_istore_n (pc := 76) (i := 3) (lv2 := [some (ab_R v0), some (ab_I v1), some (ab_I v2), some (ab_I (ab_w32 (s0 + s1))), some (ab_I v4)]) dX9_most_76 rfl (Nat.le_of_ble_eq_true rfl) rfl rfl ?_
  refine ab_iinc (pc := 77) (i := 4) (lv2 := [some (ab_R v0), some (ab_I v1), some (ab_I v2), some (ab_I (ab_w32 (s0 + s1))), some (ab_I (ab_w32 (v4 + (1 : Int))))]) dX9_most_77 rfl (Nat.le_of_ble_eq_true rfl) rfl rfl ?_
  refine ab_goto (pc := 80) (tgt := 26) dX9_most_80 rfl ?_
  refine ab_sub_ (lv2 := [some (ab_R v0), some (ab_I v1), some (ab_I v2), some (ab_I (ab_w32 (s0 + s1))), some (ab_I (ab_w32 (v4 + (1 : Int))))]) (ab_ss (ab_ss (ab_ss (ab_ss (ab_ss ab_s0))))) ?_
  exact hrec _ _ _ _ _ _ _ hk
noncomputable def f_X9_most_J74 (rec : Int → Int → Int → Int → Int → ab_H → Option (Int × ab_H)) (k83 : Int → Int → Int → Int → ab_H → Option (Int × ab_H)) (v0 : Int) (v1 : Int) (v2 : Int) (v4 : Int) (s0 : Int) (h : ab_H) : Option (Int × ab_H) :=
  f_X9_most_J75 rec k83 v0 v1 v2 v4 (0 : Int) s0 h
set_option maxRecDepth 20000 in
theorem e_X9_most_J74 {rec : Int → Int → Int → Int → Int → ab_H → Option (Int × ab_H)} {k83 : Int → Int → Int → Int → ab_H → Option (Int × ab_H)} (hrec : ∀ (v0 : Int) (v1 : Int) (v2 : Int) (v3 : Int) (v4 : Int) (h : ab_H) (q : Int × ab_H), rec v0 v1 v2 v3 v4 h = some q → ab_E mm_X9_most cX9_most 26 [some (ab_R v0), some (ab_I v1), some (ab_I v2), some (ab_I v3), some (ab_I v4)] [] h (some (ab_I q.1)) q.2) (hk83 : ∀ (v0 : Int) (v1 : Int) (v2 : Int) (v3 : Int) (h : ab_H) (q : Int × ab_H), k83 v0 v1 v2 v3 h = some q → ab_E mm_X9_most cX9_most 83 [some (ab_R v0), some (ab_I v1), some (ab_I v2), some (ab_I v3), none] [] h (some (ab_I q.1)) q.2) : ∀ (v0 : Int) (v1 : Int) (v2 : Int) (v4 : Int) (s0 : Int) (h : ab_H) (q : Int × ab_H), f_X9_most_J74 rec k83 v0 v1 v2 v4 s0 h = some q → ab_E mm_X9_most cX9_most 74 [some (ab_R v0), some (ab_I v1), some (ab_I v2), none, some (ab_I v4)] [ab_I s0] h (some (ab_I q.1)) q.2 := by
  intro v0 v1 v2 v4 s0 h q hk
  unfold f_X9_most_J74 at hk
  refine ab_iconst (pc := 74) dX9_most_74 ab_k_0 ?_
  refine ab_sub_ (lv2 := [some (ab_R v0), some (ab_I v1), some (ab_I v2), none, some (ab_I v4)]) (ab_ss (ab_ss (ab_ss (ab_sn (ab_ss ab_s0))))) ?_
  exact e_X9_most_J75 hrec hk83 _ _ _ _ _ _ _ _ hk
noncomputable def f_X9_most_J70 (rec : Int → Int → Int → Int → Int → ab_H → Option (Int × ab_H)) (k83 : Int → Int → Int → Int → ab_H → Option (Int × ab_H)) (v0 : Int) (v1 : Int) (v2 : Int) (v4 : Int) (s0 : Int) (h : ab_H) : Option (Int × ab_H) :=
  f_X9_most_J75 rec k83 v0 v1 v2 v4 (1 : Int) s0 h
set_option maxRecDepth 20000 in
theorem e_X9_most_J70 {rec : Int → Int → Int → Int → Int → ab_H → Option (Int × ab_H)} {k83 : Int → Int → Int → Int → ab_H → Option (Int × ab_H)} (hrec : ∀ (v0 : Int) (v1 : Int) (v2 : Int) (v3 : Int) (v4 : Int) (h : ab_H) (q : Int × ab_H), rec v0 v1 v2 v3 v4 h = some q → ab_E mm_X9_most cX9_most 26 [some (ab_R v0), some (ab_I v1), some (ab_I v2), some (ab_I v3), some (ab_I v4)] [] h (some (ab_I q.1)) q.2) (hk83 : ∀ (v0 : Int) (v1 : Int) (v2 : Int) (v3 : Int) (h : ab_H) (q : Int × ab_H), k83 v0 v1 v2 v3 h = some q → ab_E mm_X9_most cX9_most 83 [some (ab_R v0), some (ab_I v1), some (ab_I v2), some (ab_I v3), none] [] h (some (ab_I q.1)) q.2) : ∀ (v0 : Int) (v1 : Int) (v2 : Int) (v4 : Int) (s0 : Int) (h : ab_H) (q : Int × ab_H), f_X9_most_J70 rec k83 v0 v1 v2 v4 s0 h = some q → ab_E mm_X9_most cX9_most 70 [some (ab_R v0), some (ab_I v1), some (ab_I v2), none, some (ab_I v4)] [ab_I s0] h (some (ab_I q.1)) q.2 := by
  intro v0 v1 v2 v4 s0 h q hk
  unfold f_X9_most_J70 at hk
  refine ab_iconst (pc := 70) dX9_most_70 ab_k_1 ?_
  refine ab_goto (pc := 71) (tgt := 75) dX9_most_71 rfl ?_
  refine ab_sub_ (lv2 := [some (ab_R v0), some (ab_I v1), some (ab_I v2), none, some (ab_I v4)]) (ab_ss (ab_ss (ab_ss (ab_sn (ab_ss ab_s0))))) ?_
  exact e_X9_most_J75 hrec hk83 _ _ _ _ _ _ _ _ hk
noncomputable def f_X9_most_L26 (k83 : Int → Int → Int → Int → ab_H → Option (Int × ab_H)) : Nat → Int → Int → Int → Int → Int → ab_H → Option (Int × ab_H)
  | 0, _, _, _, _, _, _ => none
  | n + 1, v0, v1, v2, v3, v4, h =>
    (ab_get h 10 14 v0).bind fun t1 =>
    if t1 ≤ v4 then
      k83 v0 v1 v2 v3 h
    else
    (ab_on h 10 v0 (f_X9_oftenOf v0 v4 h)).bind fun q2 =>
    (ab_on q2.2 10 v0 (f_X9_oftenOf v0 v2 q2.2)).bind fun q3 =>
    if q3.1 < q2.1 then
      f_X9_most_J70 (f_X9_most_L26 k83 n) k83 v0 v1 v2 v4 v3 q3.2
    else
    (ab_on q3.2 10 v0 (f_X9_oftenOf v0 v4 q3.2)).bind fun q4 =>
    (ab_on q4.2 10 v0 (f_X9_oftenOf v0 v2 q4.2)).bind fun q5 =>
    if q4.1 = q5.1 then
      if v2 ≤ v4 then
        f_X9_most_J74 (f_X9_most_L26 k83 n) k83 v0 v1 v2 v4 v3 q5.2
      else
      f_X9_most_J70 (f_X9_most_L26 k83 n) k83 v0 v1 v2 v4 v3 q5.2
    else
    f_X9_most_J74 (f_X9_most_L26 k83 n) k83 v0 v1 v2 v4 v3 q5.2
set_option maxRecDepth 20000 in
theorem e_X9_most_L26 {k83 : Int → Int → Int → Int → ab_H → Option (Int × ab_H)} (hk83 : ∀ (v0 : Int) (v1 : Int) (v2 : Int) (v3 : Int) (h : ab_H) (q : Int × ab_H), k83 v0 v1 v2 v3 h = some q → ab_E mm_X9_most cX9_most 83 [some (ab_R v0), some (ab_I v1), some (ab_I v2), some (ab_I v3), none] [] h (some (ab_I q.1)) q.2) : ∀ (n : Nat) (v0 : Int) (v1 : Int) (v2 : Int) (v3 : Int) (v4 : Int) (h : ab_H) (q : Int × ab_H), f_X9_most_L26 k83 n v0 v1 v2 v3 v4 h = some q → ab_E mm_X9_most cX9_most 26 [some (ab_R v0), some (ab_I v1), some (ab_I v2), some (ab_I v3), some (ab_I v4)] [] h (some (ab_I q.1)) q.2 := by
  intro n
  induction n with
  | zero => intro v0 v1 v2 v3 v4 h q hk; cases hk
  | succ n ih =>
    intro v0 v1 v2 v3 v4 h q hk
    unfold f_X9_most_L26 at hk
    refine ab_iload (pc := 26) (i := 4) dX9_most_26 rfl ?_
    refine ab_aload_n (pc := 28) (i := 0) dX9_most_28 rfl rfl ?_
    obtain ⟨t1, ht1, hk⟩ := ab_bnd hk
    refine ab_getI (pc := 29) dX9_most_29 fl_RX9_252 ht1 ?_
    refine ab_icmp_ge (pc := 32) (tgt := 83) dX9_most_32 rfl (fun hc => ?_) (fun hc => ?_)
    · have hk := ab_ifp hk hc
      refine ab_sub_ (lv2 := [some (ab_R v0), some (ab_I v1), some (ab_I v2), some (ab_I v3), none]) (ab_ss (ab_ss (ab_ss (ab_ss (ab_sn ab_s0))))) ?_
      exact hk83 _ _ _ _ _ _ hk
    · have hk := ab_ifn hk hc
      refine ab_iload_n (pc := 35) (i := 3) dX9_most_35 rfl rfl ?_
      refine ab_aload_n (pc := 36) (i := 0) dX9_most_36 rfl rfl ?_
      refine ab_iload (pc := 37) (i := 4) dX9_most_37 rfl ?_
      obtain ⟨q2, hq2, hk⟩ := ab_bnd hk
      obtain ⟨hb, hq2⟩ := ab_on_some hq2
      refine ab_callVI (st := [ab_I v3]) (as := [ab_I v4]) (b := v0) (pc := 39) dX9_most_39 ml_RX9_432 my_X9_oftenOf mv_X9_oftenOf hb (ct_X9_oftenOf hq2) ⟨Nat.le_of_ble_eq_true rfl, Nat.le_of_ble_eq_true rfl⟩ rfl (Nat.le_of_ble_eq_true rfl) rfl ?_
      refine ab_aload_n (pc := 42) (i := 0) dX9_most_42 rfl rfl ?_
      refine ab_iload_n (pc := 43) (i := 2) dX9_most_43 rfl rfl ?_
      obtain ⟨q3, hq3, hk⟩ := ab_bnd hk
      obtain ⟨hb, hq3⟩ := ab_on_some hq3
      refine ab_callVI (st := [ab_I q2.1, ab_I v3]) (as := [ab_I v2]) (b := v0) (pc := 44) dX9_most_44 ml_RX9_432 my_X9_oftenOf mv_X9_oftenOf hb (ct_X9_oftenOf hq3) ⟨Nat.le_of_ble_eq_true rfl, Nat.le_of_ble_eq_true rfl⟩ rfl (Nat.le_of_ble_eq_true rfl) rfl ?_
      refine ab_icmp_gt (pc := 47) (tgt := 70) dX9_most_47 rfl (fun hc => ?_) (fun hc => ?_)
      · have hk := ab_ifp hk hc
        refine ab_sub_ (lv2 := [some (ab_R v0), some (ab_I v1), some (ab_I v2), none, some (ab_I v4)]) (ab_ss (ab_ss (ab_ss (ab_sn (ab_ss ab_s0))))) ?_
        exact e_X9_most_J70 ih hk83 _ _ _ _ _ _ _ hk
      · have hk := ab_ifn hk hc
        refine ab_aload_n (pc := 50) (i := 0) dX9_most_50 rfl rfl ?_
        refine ab_iload (pc := 51) (i := 4) dX9_most_51 rfl ?_
        obtain ⟨q4, hq4, hk⟩ := ab_bnd hk
        obtain ⟨hb, hq4⟩ := ab_on_some hq4
        refine ab_callVI (st := [ab_I v3]) (as := [ab_I v4]) (b := v0) (pc := 53) dX9_most_53 ml_RX9_432 my_X9_oftenOf mv_X9_oftenOf hb (ct_X9_oftenOf hq4) ⟨Nat.le_of_ble_eq_true rfl, Nat.le_of_ble_eq_true rfl⟩ rfl (Nat.le_of_ble_eq_true rfl) rfl ?_
        refine ab_aload_n (pc := 56) (i := 0) dX9_most_56 rfl rfl ?_
        refine ab_iload_n (pc := 57) (i := 2) dX9_most_57 rfl rfl ?_
        obtain ⟨q5, hq5, hk⟩ := ab_bnd hk
        obtain ⟨hb, hq5⟩ := ab_on_some hq5
        refine ab_callVI (st := [ab_I q4.1, ab_I v3]) (as := [ab_I v2]) (b := v0) (pc := 58) dX9_most_58 ml_RX9_432 my_X9_oftenOf mv_X9_oftenOf hb (ct_X9_oftenOf hq5) ⟨Nat.le_of_ble_eq_true rfl, Nat.le_of_ble_eq_true rfl⟩ rfl (Nat.le_of_ble_eq_true rfl) rfl ?_
        refine ab_icmp_ne (pc := 61) (tgt := 74) dX9_most_61 rfl (fun hc => ?_) (fun hc => ?_)
        · have hk := ab_ifn hk hc
          refine ab_sub_ (lv2 := [some (ab_R v0), some (ab_I v1), some (ab_I v2), none, some (ab_I v4)]) (ab_ss (ab_ss (ab_ss (ab_sn (ab_ss ab_s0))))) ?_
          exact e_X9_most_J74 ih hk83 _ _ _ _ _ _ _ hk
        · have hk := ab_ifp hk hc
          refine ab_iload (pc := 64) (i := 4) dX9_most_64 rfl ?_
          refine ab_iload_n (pc := 66) (i := 2) dX9_most_66 rfl rfl ?_
          refine ab_icmp_ge (pc := 67) (tgt := 74) dX9_most_67 rfl (fun hc => ?_) (fun hc => ?_)
          · have hk := ab_ifp hk hc
            refine ab_sub_ (lv2 := [some (ab_R v0), some (ab_I v1), some (ab_I v2), none, some (ab_I v4)]) (ab_ss (ab_ss (ab_ss (ab_sn (ab_ss ab_s0))))) ?_
            exact e_X9_most_J74 ih hk83 _ _ _ _ _ _ _ hk
          · have hk := ab_ifn hk hc
            refine ab_sub_ (lv2 := [some (ab_R v0), some (ab_I v1), some (ab_I v2), none, some (ab_I v4)]) (ab_ss (ab_ss (ab_ss (ab_sn (ab_ss ab_s0))))) ?_
            exact e_X9_most_J70 ih hk83 _ _ _ _ _ _ _ hk
noncomputable def f_X9_most_L13 : Nat → Int → Int → Int → ab_H → Option (Int × ab_H)
  | 0, _, _, _, _ => none
  | n + 1, v0, v1, v2, h =>
    (ab_get h 10 14 v0).bind fun t1 =>
    if t1 ≤ v2 then
      some ((-1 : Int), h)
    else
    f_X9_most_L26 (fun w83_0 w83_1 w83_2 w83_3 hx83 =>
      if w83_3 = w83_1 then
        some (w83_2, hx83)
      else
      f_X9_most_L13 n w83_0 w83_1 (ab_w32 (w83_2 + (1 : Int))) hx83) ab_FU v0 v1 v2 (0 : Int) (0 : Int) h
set_option maxRecDepth 20000 in
theorem e_X9_most_L13 : ∀ (n : Nat) (v0 : Int) (v1 : Int) (v2 : Int) (h : ab_H) (q : Int × ab_H), f_X9_most_L13 n v0 v1 v2 h = some q → ab_E mm_X9_most cX9_most 13 [some (ab_R v0), some (ab_I v1), some (ab_I v2), none, none] [] h (some (ab_I q.1)) q.2 := by
  intro n
  induction n with
  | zero => intro v0 v1 v2 h q hk; cases hk
  | succ n ih =>
    intro v0 v1 v2 h q hk
    unfold f_X9_most_L13 at hk
    refine ab_iload_n (pc := 13) (i := 2) dX9_most_13 rfl rfl ?_
    refine ab_aload_n (pc := 14) (i := 0) dX9_most_14 rfl rfl ?_
    obtain ⟨t1, ht1, hk⟩ := ab_bnd hk
    refine ab_getI (pc := 15) dX9_most_15 fl_RX9_252 ht1 ?_
    refine ab_icmp_ge (pc := 18) (tgt := 96) dX9_most_18 rfl (fun hc => ?_) (fun hc => ?_)
    · have hk := ab_ifp hk hc
      refine ab_iconst (pc := 96) dX9_most_96 ab_k_m1 ?_
      obtain rfl := Option.some.inj hk
      exact ab_reti (pc := 97) dX9_most_97 (Or.inl rfl)
    · have hk := ab_ifn hk hc
      refine ab_iconst (pc := 21) dX9_most_21 ab_k_0 ?_
      refine ab_istore_n (pc := 22) (i := 3) (lv2 := [some (ab_R v0), some (ab_I v1), some (ab_I v2), some (ab_I (0 : Int)), none]) dX9_most_22 rfl (Nat.le_of_ble_eq_true rfl) rfl rfl ?_
      refine ab_iconst (pc := 23) dX9_most_23 ab_k_0 ?_
      refine ab_istore (pc := 24) (i := 4) (lv2 := [some (ab_R v0), some (ab_I v1), some (ab_I v2), some (ab_I (0 : Int)), some (ab_I (0 : Int))]) dX9_most_24 (Nat.le_of_ble_eq_true rfl) rfl rfl ?_
      refine ab_sub_ (lv2 := [some (ab_R v0), some (ab_I v1), some (ab_I v2), some (ab_I (0 : Int)), some (ab_I (0 : Int))]) (ab_ss (ab_ss (ab_ss (ab_ss (ab_ss ab_s0))))) ?_
      refine e_X9_most_L26 (fun w83_0 w83_1 w83_2 w83_3 hx83 q hk => ?_) _ _ _ _ _ _ _ _ hk
      · skip
        refine ab_iload_n (pc := 83) (i := 3) dX9_most_83 rfl rfl ?_
        refine ab_iload_n (pc := 84) (i := 1) dX9_most_84 rfl rfl ?_
        refine ab_icmp_ne (pc := 85) (tgt := 90) dX9_most_85 rfl (fun hc => ?_) (fun hc => ?_)
        · have hk := ab_ifn hk hc
          refine ab_iinc (pc := 90) (i := 2) (lv2 := [some (ab_R w83_0), some (ab_I w83_1), some (ab_I (ab_w32 (w83_2 + (1 : Int)))), some (ab_I w83_3), none]) dX9_most_90 rfl (Nat.le_of_ble_eq_true rfl) rfl rfl ?_
          refine ab_goto (pc := 93) (tgt := 13) dX9_most_93 rfl ?_
          refine ab_sub_ (lv2 := [some (ab_R w83_0), some (ab_I w83_1), some (ab_I (ab_w32 (w83_2 + (1 : Int)))), none, none]) (ab_ss (ab_ss (ab_ss (ab_sn (ab_sn ab_s0))))) ?_
          exact ih _ _ _ _ _ hk
        · have hk := ab_ifp hk hc
          refine ab_iload_n (pc := 88) (i := 2) dX9_most_88 rfl rfl ?_
          obtain rfl := Option.some.inj hk
          exact ab_reti (pc := 89) dX9_most_89 (Or.inl rfl)
noncomputable def f_X9_most (a0 : Int) (a1 : Int) (h : ab_H) : Option (Int × ab_H) :=
  if (0 : Int) ≤ a1 then
    (ab_on h 10 a0 (f_X9_laysWords a0 h)).bind fun q1 =>
    f_X9_most_L13 ab_FU a0 a1 (0 : Int) q1
  else
  some ((-2 : Int), h)
set_option maxRecDepth 20000 in
theorem ct_X9_most {a0 a1 : Int} {h : ab_H} {q : Int × ab_H} (hk : f_X9_most a0 a1 h = some q) : ab_CT yX9_most cX9_most 5 (some .int) 5 112 [ab_R a0, ab_I a1] h (some (ab_I q.1)) q.2 := by
  refine ab_CT.mk_ 3 (own := RX9) (ini := false) (lv := [some (ab_R a0), some (ab_I a1), none, none, none]) rfl (by decide +kernel) (fun q => by cases q) rfl rfl ?_
  unfold f_X9_most at hk
  show ab_E mm_X9_most cX9_most 0 _ [] h _ _
  refine ab_iload_n (pc := 0) (i := 1) dX9_most_0 rfl rfl ?_
  refine ab_if_ge (pc := 1) (tgt := 7) dX9_most_1 rfl (fun hc => ?_) (fun hc => ?_)
  · have hk := ab_ifp hk hc
    refine ab_aload_n (pc := 7) (i := 0) dX9_most_7 rfl rfl ?_
    obtain ⟨q1, hq1, hk⟩ := ab_bnd hk
    obtain ⟨hb, hq1⟩ := ab_on_some hq1
    refine ab_callVV (st := []) (as := []) (b := a0) (pc := 8) dX9_most_8 ml_RX9_287 my_X9_laysWords mv_X9_laysWords hb (ct_X9_laysWords hq1) ⟨Nat.le_of_ble_eq_true rfl, Nat.le_of_ble_eq_true rfl⟩ rfl (Nat.le_of_ble_eq_true rfl) rfl ?_
    refine ab_iconst (pc := 11) dX9_most_11 ab_k_0 ?_
    refine ab_istore_n (pc := 12) (i := 2) (lv2 := [some (ab_R a0), some (ab_I a1), some (ab_I (0 : Int)), none, none]) dX9_most_12 rfl (Nat.le_of_ble_eq_true rfl) rfl rfl ?_
    refine ab_sub_ (lv2 := [some (ab_R a0), some (ab_I a1), some (ab_I (0 : Int)), none, none]) (ab_ss (ab_ss (ab_ss (ab_sn (ab_sn ab_s0))))) ?_
    refine e_X9_most_L13 _ _ _ _ _ _ hk
  · have hk := ab_ifn hk hc
    refine ab_bipush (pc := 4) dX9_most_4 ab_p8_m2 ab_k_m2 ?_
    obtain rfl := Option.some.inj hk
    exact ab_reti (pc := 6) dX9_most_6 (Or.inl rfl)
theorem dX9_apart_0 : decode cX9_apart 0 = .ok (.aload_n 0, 1) := by decide +kernel
theorem dX9_apart_1 : decode cX9_apart 1 = .ok (.iload_n 1, 1) := by decide +kernel
theorem dX9_apart_2 : decode cX9_apart 2 = .ok (.invokevirtual 323, 3) := by decide +kernel
theorem dX9_apart_5 : decode cX9_apart 5 = .ok (.ifCond .ne 6, 3) := by decide +kernel
theorem dX9_apart_8 : decode cX9_apart 8 = .ok (.bipush (-2), 2) := by decide +kernel
theorem dX9_apart_10 : decode cX9_apart 10 = .ok (.ireturn, 1) := by decide +kernel
theorem dX9_apart_11 : decode cX9_apart 11 = .ok (.aload_n 0, 1) := by decide +kernel
theorem dX9_apart_12 : decode cX9_apart 12 = .ok (.invokevirtual 287, 3) := by decide +kernel
theorem dX9_apart_15 : decode cX9_apart 15 = .ok (.iconst (-1), 1) := by decide +kernel
theorem dX9_apart_16 : decode cX9_apart 16 = .ok (.istore_n 2, 1) := by decide +kernel
theorem dX9_apart_17 : decode cX9_apart 17 = .ok (.iconst 0, 1) := by decide +kernel
theorem dX9_apart_18 : decode cX9_apart 18 = .ok (.istore_n 3, 1) := by decide +kernel
theorem dX9_apart_19 : decode cX9_apart 19 = .ok (.iload_n 3, 1) := by decide +kernel
theorem dX9_apart_20 : decode cX9_apart 20 = .ok (.iconst 1, 1) := by decide +kernel
theorem dX9_apart_21 : decode cX9_apart 21 = .ok (.aload_n 0, 1) := by decide +kernel
theorem dX9_apart_22 : decode cX9_apart 22 = .ok (.iload_n 1, 1) := by decide +kernel
theorem dX9_apart_23 : decode cX9_apart 23 = .ok (.invokevirtual 255, 3) := by decide +kernel
theorem dX9_apart_26 : decode cX9_apart 26 = .ok (.ishl, 1) := by decide +kernel
theorem dX9_apart_27 : decode cX9_apart 27 = .ok (.if_icmp .ge 39, 3) := by decide +kernel
theorem dX9_apart_30 : decode cX9_apart 30 = .ok (.iload_n 2, 1) := by decide +kernel
theorem dX9_apart_31 : decode cX9_apart 31 = .ok (.iconst (-1), 1) := by decide +kernel
theorem dX9_apart_32 : decode cX9_apart 32 = .ok (.if_icmp .eq 14, 3) := by decide +kernel
theorem dX9_apart_35 : decode cX9_apart 35 = .ok (.iload_n 3, 1) := by decide +kernel
theorem dX9_apart_36 : decode cX9_apart 36 = .ok (.invokestatic 377, 3) := by decide +kernel
theorem dX9_apart_39 : decode cX9_apart 39 = .ok (.iload_n 2, 1) := by decide +kernel
theorem dX9_apart_40 : decode cX9_apart 40 = .ok (.invokestatic 377, 3) := by decide +kernel
theorem dX9_apart_43 : decode cX9_apart 43 = .ok (.if_icmp .ge 17, 3) := by decide +kernel
theorem dX9_apart_46 : decode cX9_apart 46 = .ok (.aload_n 0, 1) := by decide +kernel
theorem dX9_apart_47 : decode cX9_apart 47 = .ok (.iload_n 1, 1) := by decide +kernel
theorem dX9_apart_48 : decode cX9_apart 48 = .ok (.iload_n 3, 1) := by decide +kernel
theorem dX9_apart_49 : decode cX9_apart 49 = .ok (.invokevirtual 411, 3) := by decide +kernel
theorem dX9_apart_52 : decode cX9_apart 52 = .ok (.iconst 1, 1) := by decide +kernel
theorem dX9_apart_53 : decode cX9_apart 53 = .ok (.iload_n 1, 1) := by decide +kernel
theorem dX9_apart_54 : decode cX9_apart 54 = .ok (.ishl, 1) := by decide +kernel
theorem dX9_apart_55 : decode cX9_apart 55 = .ok (.if_icmp .ne 5, 3) := by decide +kernel
theorem dX9_apart_58 : decode cX9_apart 58 = .ok (.iload_n 3, 1) := by decide +kernel
theorem dX9_apart_59 : decode cX9_apart 59 = .ok (.istore_n 2, 1) := by decide +kernel
theorem dX9_apart_60 : decode cX9_apart 60 = .ok (.iinc 3 1, 3) := by decide +kernel
theorem dX9_apart_63 : decode cX9_apart 63 = .ok (.goto (-44), 3) := by decide +kernel
theorem dX9_apart_66 : decode cX9_apart 66 = .ok (.iload_n 2, 1) := by decide +kernel
theorem dX9_apart_67 : decode cX9_apart 67 = .ok (.ireturn, 1) := by decide +kernel
abbrev mm_X9_apart : ab_M := (RX9, 4, (some .int), false, 5, 115, none)
noncomputable def f_X9_apart_J60 (rec : Int → Int → Int → Int → ab_H → Option (Int × ab_H)) (v0 : Int) (v1 : Int) (v2 : Int) (v3 : Int) (h : ab_H) : Option (Int × ab_H) :=
  rec v0 v1 v2 (ab_w32 (v3 + (1 : Int))) h
set_option maxRecDepth 20000 in
theorem e_X9_apart_J60 {rec : Int → Int → Int → Int → ab_H → Option (Int × ab_H)} (hrec : ∀ (v0 : Int) (v1 : Int) (v2 : Int) (v3 : Int) (h : ab_H) (q : Int × ab_H), rec v0 v1 v2 v3 h = some q → ab_E mm_X9_apart cX9_apart 19 [some (ab_R v0), some (ab_I v1), some (ab_I v2), some (ab_I v3)] [] h (some (ab_I q.1)) q.2) : ∀ (v0 : Int) (v1 : Int) (v2 : Int) (v3 : Int) (h : ab_H) (q : Int × ab_H), f_X9_apart_J60 rec v0 v1 v2 v3 h = some q → ab_E mm_X9_apart cX9_apart 60 [some (ab_R v0), some (ab_I v1), some (ab_I v2), some (ab_I v3)] [] h (some (ab_I q.1)) q.2 := by
  intro v0 v1 v2 v3 h q hk
  unfold f_X9_apart_J60 at hk
  refine ab_iinc (pc := 60) (i := 3) (lv2 := [some (ab_R v0), some (ab_I v1), some (ab_I v2), some (ab_I (ab_w32 (v3 + (1 : Int))))]) dX9_apart_60 rfl (Nat.le_of_ble_eq_true rfl) rfl rfl ?_
  refine ab_goto (pc := 63) (tgt := 19) dX9_apart_63 rfl ?_
  refine ab_sub_ (lv2 := [some (ab_R v0), some (ab_I v1), some (ab_I v2), some (ab_I (ab_w32 (v3 + (1 : Int))))]) (ab_ss (ab_ss (ab_ss (ab_ss ab_s0)))) ?_
  exact hrec _ _ _ _ _ _ hk
noncomputable def f_X9_apart_J46 (rec : Int → Int → Int → Int → ab_H → Option (Int × ab_H)) (v0 : Int) (v1 : Int) (v2 : Int) (v3 : Int) (h : ab_H) : Option (Int × ab_H) :=
  (ab_on h 10 v0 (f_X9_sharing0 v0 v1 v3 h)).bind fun q1 =>
  if q1.1 = ab_shl (1 : Int) v1 then
    f_X9_apart_J60 rec v0 v1 v3 v3 q1.2
  else
  f_X9_apart_J60 rec v0 v1 v2 v3 q1.2
set_option maxRecDepth 20000 in
theorem e_X9_apart_J46 {rec : Int → Int → Int → Int → ab_H → Option (Int × ab_H)} (hrec : ∀ (v0 : Int) (v1 : Int) (v2 : Int) (v3 : Int) (h : ab_H) (q : Int × ab_H), rec v0 v1 v2 v3 h = some q → ab_E mm_X9_apart cX9_apart 19 [some (ab_R v0), some (ab_I v1), some (ab_I v2), some (ab_I v3)] [] h (some (ab_I q.1)) q.2) : ∀ (v0 : Int) (v1 : Int) (v2 : Int) (v3 : Int) (h : ab_H) (q : Int × ab_H), f_X9_apart_J46 rec v0 v1 v2 v3 h = some q → ab_E mm_X9_apart cX9_apart 46 [some (ab_R v0), some (ab_I v1), some (ab_I v2), some (ab_I v3)] [] h (some (ab_I q.1)) q.2 := by
  intro v0 v1 v2 v3 h q hk
  unfold f_X9_apart_J46 at hk
  refine ab_aload_n (pc := 46) (i := 0) dX9_apart_46 rfl rfl ?_
  refine ab_iload_n (pc := 47) (i := 1) dX9_apart_47 rfl rfl ?_
  refine ab_iload_n (pc := 48) (i := 3) dX9_apart_48 rfl rfl ?_
  obtain ⟨q1, hq1, hk⟩ := ab_bnd hk
  obtain ⟨hb, hq1⟩ := ab_on_some hq1
  refine ab_callVI (st := []) (as := [ab_I v1, ab_I v3]) (b := v0) (pc := 49) dX9_apart_49 ml_RX9_411 my_X9_sharing0 mv_X9_sharing0 hb (ct_X9_sharing0 hq1) ⟨Nat.le_of_ble_eq_true rfl, Nat.le_of_ble_eq_true rfl⟩ rfl (Nat.le_of_ble_eq_true rfl) rfl ?_
  refine ab_iconst (pc := 52) dX9_apart_52 ab_k_1 ?_
  refine ab_iload_n (pc := 53) (i := 1) dX9_apart_53 rfl rfl ?_
  refine ab_ishl (pc := 54) dX9_apart_54 ?_
  refine ab_icmp_ne (pc := 55) (tgt := 60) dX9_apart_55 rfl (fun hc => ?_) (fun hc => ?_)
  · have hk := ab_ifn hk hc
    refine ab_sub_ (lv2 := [some (ab_R v0), some (ab_I v1), some (ab_I v2), some (ab_I v3)]) (ab_ss (ab_ss (ab_ss (ab_ss ab_s0)))) ?_
    exact e_X9_apart_J60 hrec _ _ _ _ _ _ hk
  · have hk := ab_ifp hk hc
    refine ab_iload_n (pc := 58) (i := 3) dX9_apart_58 rfl rfl ?_
    refine ab_istore_n (pc := 59) (i := 2) (lv2 := [some (ab_R v0), some (ab_I v1), some (ab_I v3), some (ab_I v3)]) dX9_apart_59 rfl (Nat.le_of_ble_eq_true rfl) rfl rfl ?_
    refine ab_sub_ (lv2 := [some (ab_R v0), some (ab_I v1), some (ab_I v3), some (ab_I v3)]) (ab_ss (ab_ss (ab_ss (ab_ss ab_s0)))) ?_
    exact e_X9_apart_J60 hrec _ _ _ _ _ _ hk
noncomputable def f_X9_apart_L19 : Nat → Int → Int → Int → Int → ab_H → Option (Int × ab_H)
  | 0, _, _, _, _, _ => none
  | n + 1, v0, v1, v2, v3, h =>
    (ab_on h 10 v0 (f_X9_terms v0 v1 h)).bind fun q1 =>
    if ab_shl (1 : Int) q1.1 ≤ v3 then
      some (v2, q1.2)
    else
    if v2 = (-1 : Int) then
      f_X9_apart_J46 (f_X9_apart_L19 n) v0 v1 v2 v3 q1.2
    else
    (f_X9_bits v3 q1.2).bind fun q2 =>
    (f_X9_bits v2 q2.2).bind fun q3 =>
    if q3.1 ≤ q2.1 then
      f_X9_apart_J60 (f_X9_apart_L19 n) v0 v1 v2 v3 q3.2
    else
    f_X9_apart_J46 (f_X9_apart_L19 n) v0 v1 v2 v3 q3.2
set_option maxRecDepth 20000 in
theorem e_X9_apart_L19 : ∀ (n : Nat) (v0 : Int) (v1 : Int) (v2 : Int) (v3 : Int) (h : ab_H) (q : Int × ab_H), f_X9_apart_L19 n v0 v1 v2 v3 h = some q → ab_E mm_X9_apart cX9_apart 19 [some (ab_R v0), some (ab_I v1), some (ab_I v2), some (ab_I v3)] [] h (some (ab_I q.1)) q.2 := by
  intro n
  induction n with
  | zero => intro v0 v1 v2 v3 h q hk; cases hk
  | succ n ih =>
    intro v0 v1 v2 v3 h q hk
    unfold f_X9_apart_L19 at hk
    refine ab_iload_n (pc := 19) (i := 3) dX9_apart_19 rfl rfl ?_
    refine ab_iconst (pc := 20) dX9_apart_20 ab_k_1 ?_
    refine ab_aload_n (pc := 21) (i := 0) dX9_apart_21 rfl rfl ?_
    refine ab_iload_n (pc := 22) (i := 1) dX9_apart_22 rfl rfl ?_
    obtain ⟨q1, hq1, hk⟩ := ab_bnd hk
    obtain ⟨hb, hq1⟩ := ab_on_some hq1
    refine ab_callVI (st := [ab_I (1 : Int), ab_I v3]) (as := [ab_I v1]) (b := v0) (pc := 23) dX9_apart_23 ml_RX9_255 my_X9_terms mv_X9_terms hb (ct_X9_terms hq1) ⟨Nat.le_of_ble_eq_true rfl, Nat.le_of_ble_eq_true rfl⟩ rfl (Nat.le_of_ble_eq_true rfl) rfl ?_
    refine ab_ishl (pc := 26) dX9_apart_26 ?_
    refine ab_icmp_ge (pc := 27) (tgt := 66) dX9_apart_27 rfl (fun hc => ?_) (fun hc => ?_)
    · have hk := ab_ifp hk hc
      refine ab_iload_n (pc := 66) (i := 2) dX9_apart_66 rfl rfl ?_
      obtain rfl := Option.some.inj hk
      exact ab_reti (pc := 67) dX9_apart_67 (Or.inl rfl)
    · have hk := ab_ifn hk hc
      refine ab_iload_n (pc := 30) (i := 2) dX9_apart_30 rfl rfl ?_
      refine ab_iconst (pc := 31) dX9_apart_31 ab_k_m1 ?_
      refine ab_icmp_eq (pc := 32) (tgt := 46) dX9_apart_32 rfl (fun hc => ?_) (fun hc => ?_)
      · have hk := ab_ifp hk hc
        refine ab_sub_ (lv2 := [some (ab_R v0), some (ab_I v1), some (ab_I v2), some (ab_I v3)]) (ab_ss (ab_ss (ab_ss (ab_ss ab_s0)))) ?_
        exact e_X9_apart_J46 ih _ _ _ _ _ _ hk
      · have hk := ab_ifn hk hc
        refine ab_iload_n (pc := 35) (i := 3) dX9_apart_35 rfl rfl ?_
        obtain ⟨q2, hq2, hk⟩ := ab_bnd hk
        refine ab_callSI (st := []) (as := [ab_I v3]) (pc := 36) dX9_apart_36 ml_RX9_377 my_X9_bits ms_X9_bits (ct_X9_bits hq2) ⟨Nat.le_of_ble_eq_true rfl, Nat.le_of_ble_eq_true rfl⟩ rfl (Nat.le_of_ble_eq_true rfl) rfl ?_
        refine ab_iload_n (pc := 39) (i := 2) dX9_apart_39 rfl rfl ?_
        obtain ⟨q3, hq3, hk⟩ := ab_bnd hk
        refine ab_callSI (st := [ab_I q2.1]) (as := [ab_I v2]) (pc := 40) dX9_apart_40 ml_RX9_377 my_X9_bits ms_X9_bits (ct_X9_bits hq3) ⟨Nat.le_of_ble_eq_true rfl, Nat.le_of_ble_eq_true rfl⟩ rfl (Nat.le_of_ble_eq_true rfl) rfl ?_
        refine ab_icmp_ge (pc := 43) (tgt := 60) dX9_apart_43 rfl (fun hc => ?_) (fun hc => ?_)
        · have hk := ab_ifp hk hc
          refine ab_sub_ (lv2 := [some (ab_R v0), some (ab_I v1), some (ab_I v2), some (ab_I v3)]) (ab_ss (ab_ss (ab_ss (ab_ss ab_s0)))) ?_
          exact e_X9_apart_J60 ih _ _ _ _ _ _ hk
        · have hk := ab_ifn hk hc
          refine ab_sub_ (lv2 := [some (ab_R v0), some (ab_I v1), some (ab_I v2), some (ab_I v3)]) (ab_ss (ab_ss (ab_ss (ab_ss ab_s0)))) ?_
          exact e_X9_apart_J46 ih _ _ _ _ _ _ hk
noncomputable def f_X9_apart (a0 : Int) (a1 : Int) (h : ab_H) : Option (Int × ab_H) :=
  (ab_on h 10 a0 (f_X9_isString a0 a1 h)).bind fun q1 =>
  if q1.1 = (0 : Int) then
    some ((-2 : Int), q1.2)
  else
  (ab_on q1.2 10 a0 (f_X9_laysWords a0 q1.2)).bind fun q2 =>
  f_X9_apart_L19 ab_FU a0 a1 (-1 : Int) (0 : Int) q2
set_option maxRecDepth 20000 in
theorem ct_X9_apart {a0 a1 : Int} {h : ab_H} {q : Int × ab_H} (hk : f_X9_apart a0 a1 h = some q) : ab_CT yX9_apart cX9_apart 4 (some .int) 5 115 [ab_R a0, ab_I a1] h (some (ab_I q.1)) q.2 := by
  refine ab_CT.mk_ 2 (own := RX9) (ini := false) (lv := [some (ab_R a0), some (ab_I a1), none, none]) rfl (by decide +kernel) (fun q => by cases q) rfl rfl ?_
  unfold f_X9_apart at hk
  show ab_E mm_X9_apart cX9_apart 0 _ [] h _ _
  refine ab_aload_n (pc := 0) (i := 0) dX9_apart_0 rfl rfl ?_
  refine ab_iload_n (pc := 1) (i := 1) dX9_apart_1 rfl rfl ?_
  obtain ⟨q1, hq1, hk⟩ := ab_bnd hk
  obtain ⟨hb, hq1⟩ := ab_on_some hq1
  refine ab_callVI (st := []) (as := [ab_I a1]) (b := a0) (pc := 2) dX9_apart_2 ml_RX9_323 my_X9_isString mv_X9_isString hb (ct_X9_isString hq1) ⟨Nat.le_of_ble_eq_true rfl, Nat.le_of_ble_eq_true rfl⟩ rfl (Nat.le_of_ble_eq_true rfl) rfl ?_
  refine ab_if_ne (pc := 5) (tgt := 11) dX9_apart_5 rfl (fun hc => ?_) (fun hc => ?_)
  · have hk := ab_ifn hk hc
    refine ab_aload_n (pc := 11) (i := 0) dX9_apart_11 rfl rfl ?_
    obtain ⟨q2, hq2, hk⟩ := ab_bnd hk
    obtain ⟨hb, hq2⟩ := ab_on_some hq2
    refine ab_callVV (st := []) (as := []) (b := a0) (pc := 12) dX9_apart_12 ml_RX9_287 my_X9_laysWords mv_X9_laysWords hb (ct_X9_laysWords hq2) ⟨Nat.le_of_ble_eq_true rfl, Nat.le_of_ble_eq_true rfl⟩ rfl (Nat.le_of_ble_eq_true rfl) rfl ?_
    refine ab_iconst (pc := 15) dX9_apart_15 ab_k_m1 ?_
    refine ab_istore_n (pc := 16) (i := 2) (lv2 := [some (ab_R a0), some (ab_I a1), some (ab_I (-1 : Int)), none]) dX9_apart_16 rfl (Nat.le_of_ble_eq_true rfl) rfl rfl ?_
    refine ab_iconst (pc := 17) dX9_apart_17 ab_k_0 ?_
    refine ab_istore_n (pc := 18) (i := 3) (lv2 := [some (ab_R a0), some (ab_I a1), some (ab_I (-1 : Int)), some (ab_I (0 : Int))]) dX9_apart_18 rfl (Nat.le_of_ble_eq_true rfl) rfl rfl ?_
    refine ab_sub_ (lv2 := [some (ab_R a0), some (ab_I a1), some (ab_I (-1 : Int)), some (ab_I (0 : Int))]) (ab_ss (ab_ss (ab_ss (ab_ss ab_s0)))) ?_
    refine e_X9_apart_L19 _ _ _ _ _ _ _ hk
  · have hk := ab_ifp hk hc
    refine ab_bipush (pc := 8) dX9_apart_8 ab_p8_m2 ab_k_m2 ?_
    obtain rfl := Option.some.inj hk
    exact ab_reti (pc := 10) dX9_apart_10 (Or.inl rfl)
theorem dX9_cover_0 : decode cX9_cover 0 = .ok (.aload_n 0, 1) := by decide +kernel
theorem dX9_cover_1 : decode cX9_cover 1 = .ok (.invokevirtual 287, 3) := by decide +kernel
theorem dX9_cover_4 : decode cX9_cover 4 = .ok (.aload_n 0, 1) := by decide +kernel
theorem dX9_cover_5 : decode cX9_cover 5 = .ok (.getfield 252, 3) := by decide +kernel
theorem dX9_cover_8 : decode cX9_cover 8 = .ok (.ifCond .ne 5, 3) := by decide +kernel
theorem dX9_cover_11 : decode cX9_cover 11 = .ok (.iconst (-1), 1) := by decide +kernel
theorem dX9_cover_12 : decode cX9_cover 12 = .ok (.ireturn, 1) := by decide +kernel
theorem dX9_cover_13 : decode cX9_cover 13 = .ok (.iconst 0, 1) := by decide +kernel
theorem dX9_cover_14 : decode cX9_cover 14 = .ok (.istore_n 1, 1) := by decide +kernel
theorem dX9_cover_15 : decode cX9_cover 15 = .ok (.iload_n 1, 1) := by decide +kernel
theorem dX9_cover_16 : decode cX9_cover 16 = .ok (.aload_n 0, 1) := by decide +kernel
theorem dX9_cover_17 : decode cX9_cover 17 = .ok (.invokevirtual 246, 3) := by decide +kernel
theorem dX9_cover_20 : decode cX9_cover 20 = .ok (.if_icmp .ge 87, 3) := by decide +kernel
theorem dX9_cover_23 : decode cX9_cover 23 = .ok (.aload_n 0, 1) := by decide +kernel
theorem dX9_cover_24 : decode cX9_cover 24 = .ok (.getfield 58, 3) := by decide +kernel
theorem dX9_cover_27 : decode cX9_cover 27 = .ok (.iload_n 1, 1) := by decide +kernel
theorem dX9_cover_28 : decode cX9_cover 28 = .ok (.lconst 0, 1) := by decide +kernel
theorem dX9_cover_29 : decode cX9_cover 29 = .ok (.lastore, 1) := by decide +kernel
theorem dX9_cover_30 : decode cX9_cover 30 = .ok (.aload_n 0, 1) := by decide +kernel
theorem dX9_cover_31 : decode cX9_cover 31 = .ok (.getfield 61, 3) := by decide +kernel
theorem dX9_cover_34 : decode cX9_cover 34 = .ok (.iload_n 1, 1) := by decide +kernel
theorem dX9_cover_35 : decode cX9_cover 35 = .ok (.lconst 0, 1) := by decide +kernel
theorem dX9_cover_36 : decode cX9_cover 36 = .ok (.lastore, 1) := by decide +kernel
theorem dX9_cover_37 : decode cX9_cover 37 = .ok (.iconst 0, 1) := by decide +kernel
theorem dX9_cover_38 : decode cX9_cover 38 = .ok (.istore_n 2, 1) := by decide +kernel
theorem dX9_cover_39 : decode cX9_cover 39 = .ok (.iload_n 2, 1) := by decide +kernel
theorem dX9_cover_40 : decode cX9_cover 40 = .ok (.aload_n 0, 1) := by decide +kernel
theorem dX9_cover_41 : decode cX9_cover 41 = .ok (.iload_n 1, 1) := by decide +kernel
theorem dX9_cover_42 : decode cX9_cover 42 = .ok (.invokevirtual 255, 3) := by decide +kernel
theorem dX9_cover_45 : decode cX9_cover 45 = .ok (.if_icmp .ge 56, 3) := by decide +kernel
theorem dX9_cover_48 : decode cX9_cover 48 = .ok (.aload_n 0, 1) := by decide +kernel
theorem dX9_cover_49 : decode cX9_cover 49 = .ok (.getfield 27, 3) := by decide +kernel
theorem dX9_cover_52 : decode cX9_cover 52 = .ok (.iload_n 1, 1) := by decide +kernel
theorem dX9_cover_53 : decode cX9_cover 53 = .ok (.iload_n 2, 1) := by decide +kernel
theorem dX9_cover_54 : decode cX9_cover 54 = .ok (.invokestatic 262, 3) := by decide +kernel
theorem dX9_cover_57 : decode cX9_cover 57 = .ok (.iaload, 1) := by decide +kernel
theorem dX9_cover_58 : decode cX9_cover 58 = .ok (.istore_n 3, 1) := by decide +kernel
theorem dX9_cover_59 : decode cX9_cover 59 = .ok (.iload_n 3, 1) := by decide +kernel
theorem dX9_cover_60 : decode cX9_cover 60 = .ok (.bipush 36, 2) := by decide +kernel
theorem dX9_cover_62 : decode cX9_cover 62 = .ok (.if_icmp .ge 18, 3) := by decide +kernel
theorem dX9_cover_65 : decode cX9_cover 65 = .ok (.aload_n 0, 1) := by decide +kernel
theorem dX9_cover_66 : decode cX9_cover 66 = .ok (.getfield 58, 3) := by decide +kernel
theorem dX9_cover_69 : decode cX9_cover 69 = .ok (.iload_n 1, 1) := by decide +kernel
theorem dX9_cover_70 : decode cX9_cover 70 = .ok (.dup2, 1) := by decide +kernel
theorem dX9_cover_71 : decode cX9_cover 71 = .ok (.laload, 1) := by decide +kernel
theorem dX9_cover_72 : decode cX9_cover 72 = .ok (.lconst 1, 1) := by decide +kernel
theorem dX9_cover_73 : decode cX9_cover 73 = .ok (.iload_n 3, 1) := by decide +kernel
theorem dX9_cover_74 : decode cX9_cover 74 = .ok (.lshl, 1) := by decide +kernel
theorem dX9_cover_75 : decode cX9_cover 75 = .ok (.lor, 1) := by decide +kernel
theorem dX9_cover_76 : decode cX9_cover 76 = .ok (.lastore, 1) := by decide +kernel
theorem dX9_cover_77 : decode cX9_cover 77 = .ok (.goto 18, 3) := by decide +kernel
theorem dX9_cover_80 : decode cX9_cover 80 = .ok (.aload_n 0, 1) := by decide +kernel
theorem dX9_cover_81 : decode cX9_cover 81 = .ok (.getfield 61, 3) := by decide +kernel
theorem dX9_cover_84 : decode cX9_cover 84 = .ok (.iload_n 1, 1) := by decide +kernel
theorem dX9_cover_85 : decode cX9_cover 85 = .ok (.dup2, 1) := by decide +kernel
theorem dX9_cover_86 : decode cX9_cover 86 = .ok (.laload, 1) := by decide +kernel
theorem dX9_cover_87 : decode cX9_cover 87 = .ok (.lconst 1, 1) := by decide +kernel
theorem dX9_cover_88 : decode cX9_cover 88 = .ok (.iload_n 3, 1) := by decide +kernel
theorem dX9_cover_89 : decode cX9_cover 89 = .ok (.bipush 36, 2) := by decide +kernel
theorem dX9_cover_91 : decode cX9_cover 91 = .ok (.isub, 1) := by decide +kernel
theorem dX9_cover_92 : decode cX9_cover 92 = .ok (.lshl, 1) := by decide +kernel
theorem dX9_cover_93 : decode cX9_cover 93 = .ok (.lor, 1) := by decide +kernel
theorem dX9_cover_94 : decode cX9_cover 94 = .ok (.lastore, 1) := by decide +kernel
theorem dX9_cover_95 : decode cX9_cover 95 = .ok (.iinc 2 1, 3) := by decide +kernel
theorem dX9_cover_98 : decode cX9_cover 98 = .ok (.goto (-59), 3) := by decide +kernel
theorem dX9_cover_101 : decode cX9_cover 101 = .ok (.iinc 1 1, 3) := by decide +kernel
theorem dX9_cover_104 : decode cX9_cover 104 = .ok (.goto (-89), 3) := by decide +kernel
theorem dX9_cover_107 : decode cX9_cover 107 = .ok (.iconst (-1), 1) := by decide +kernel
theorem dX9_cover_108 : decode cX9_cover 108 = .ok (.istore_n 1, 1) := by decide +kernel
theorem dX9_cover_109 : decode cX9_cover 109 = .ok (.iconst 0, 1) := by decide +kernel
theorem dX9_cover_110 : decode cX9_cover 110 = .ok (.istore_n 2, 1) := by decide +kernel
theorem dX9_cover_111 : decode cX9_cover 111 = .ok (.iload_n 2, 1) := by decide +kernel
theorem dX9_cover_112 : decode cX9_cover 112 = .ok (.iconst 1, 1) := by decide +kernel
theorem dX9_cover_113 : decode cX9_cover 113 = .ok (.aload_n 0, 1) := by decide +kernel
theorem dX9_cover_114 : decode cX9_cover 114 = .ok (.invokevirtual 246, 3) := by decide +kernel
theorem dX9_cover_117 : decode cX9_cover 117 = .ok (.ishl, 1) := by decide +kernel
theorem dX9_cover_118 : decode cX9_cover 118 = .ok (.if_icmp .ge 126, 3) := by decide +kernel
theorem dX9_cover_121 : decode cX9_cover 121 = .ok (.iload_n 1, 1) := by decide +kernel
theorem dX9_cover_122 : decode cX9_cover 122 = .ok (.iconst (-1), 1) := by decide +kernel
theorem dX9_cover_123 : decode cX9_cover 123 = .ok (.if_icmp .eq 17, 3) := by decide +kernel
theorem dX9_cover_126 : decode cX9_cover 126 = .ok (.iload_n 2, 1) := by decide +kernel
theorem dX9_cover_127 : decode cX9_cover 127 = .ok (.invokestatic 377, 3) := by decide +kernel
theorem dX9_cover_130 : decode cX9_cover 130 = .ok (.iload_n 1, 1) := by decide +kernel
theorem dX9_cover_131 : decode cX9_cover 131 = .ok (.invokestatic 377, 3) := by decide +kernel
theorem dX9_cover_134 : decode cX9_cover 134 = .ok (.if_icmp .lt 6, 3) := by decide +kernel
theorem dX9_cover_137 : decode cX9_cover 137 = .ok (.goto 101, 3) := by decide +kernel
theorem dX9_cover_140 : decode cX9_cover 140 = .ok (.lconst 0, 1) := by decide +kernel
theorem dX9_cover_141 : decode cX9_cover 141 = .ok (.lstore_n 3, 1) := by decide +kernel
theorem dX9_cover_142 : decode cX9_cover 142 = .ok (.lconst 0, 1) := by decide +kernel
theorem dX9_cover_143 : decode cX9_cover 143 = .ok (.lstore 5, 2) := by decide +kernel
theorem dX9_cover_145 : decode cX9_cover 145 = .ok (.iconst 0, 1) := by decide +kernel
theorem dX9_cover_146 : decode cX9_cover 146 = .ok (.istore 7, 2) := by decide +kernel
theorem dX9_cover_148 : decode cX9_cover 148 = .ok (.iload 7, 2) := by decide +kernel
theorem dX9_cover_150 : decode cX9_cover 150 = .ok (.aload_n 0, 1) := by decide +kernel
theorem dX9_cover_151 : decode cX9_cover 151 = .ok (.invokevirtual 246, 3) := by decide +kernel
theorem dX9_cover_154 : decode cX9_cover 154 = .ok (.if_icmp .ge 43, 3) := by decide +kernel
theorem dX9_cover_157 : decode cX9_cover 157 = .ok (.iload_n 2, 1) := by decide +kernel
theorem dX9_cover_158 : decode cX9_cover 158 = .ok (.iload 7, 2) := by decide +kernel
theorem dX9_cover_160 : decode cX9_cover 160 = .ok (.ishr, 1) := by decide +kernel
theorem dX9_cover_161 : decode cX9_cover 161 = .ok (.iconst 1, 1) := by decide +kernel
theorem dX9_cover_162 : decode cX9_cover 162 = .ok (.iand, 1) := by decide +kernel
theorem dX9_cover_163 : decode cX9_cover 163 = .ok (.ifCond .ne 6, 3) := by decide +kernel
theorem dX9_cover_166 : decode cX9_cover 166 = .ok (.goto 25, 3) := by decide +kernel
theorem dX9_cover_169 : decode cX9_cover 169 = .ok (.lload_n 3, 1) := by decide +kernel
theorem dX9_cover_170 : decode cX9_cover 170 = .ok (.aload_n 0, 1) := by decide +kernel
theorem dX9_cover_171 : decode cX9_cover 171 = .ok (.getfield 58, 3) := by decide +kernel
theorem dX9_cover_174 : decode cX9_cover 174 = .ok (.iload 7, 2) := by decide +kernel
theorem dX9_cover_176 : decode cX9_cover 176 = .ok (.laload, 1) := by decide +kernel
theorem dX9_cover_177 : decode cX9_cover 177 = .ok (.lor, 1) := by decide +kernel
theorem dX9_cover_178 : decode cX9_cover 178 = .ok (.lstore_n 3, 1) := by decide +kernel
theorem dX9_cover_179 : decode cX9_cover 179 = .ok (.lload 5, 2) := by decide +kernel
theorem dX9_cover_181 : decode cX9_cover 181 = .ok (.aload_n 0, 1) := by decide +kernel
theorem dX9_cover_182 : decode cX9_cover 182 = .ok (.getfield 61, 3) := by decide +kernel
theorem dX9_cover_185 : decode cX9_cover 185 = .ok (.iload 7, 2) := by decide +kernel
theorem dX9_cover_187 : decode cX9_cover 187 = .ok (.laload, 1) := by decide +kernel
theorem dX9_cover_188 : decode cX9_cover 188 = .ok (.lor, 1) := by decide +kernel
theorem dX9_cover_189 : decode cX9_cover 189 = .ok (.lstore 5, 2) := by decide +kernel
theorem dX9_cover_191 : decode cX9_cover 191 = .ok (.iinc 7 1, 3) := by decide +kernel
theorem dX9_cover_194 : decode cX9_cover 194 = .ok (.goto (-46), 3) := by decide +kernel
theorem dX9_cover_197 : decode cX9_cover 197 = .ok (.lload_n 3, 1) := by decide +kernel
theorem dX9_cover_198 : decode cX9_cover 198 = .ok (.lconst 1, 1) := by decide +kernel
theorem dX9_cover_199 : decode cX9_cover 199 = .ok (.bipush 36, 2) := by decide +kernel
theorem dX9_cover_201 : decode cX9_cover 201 = .ok (.aload_n 0, 1) := by decide +kernel
theorem dX9_cover_202 : decode cX9_cover 202 = .ok (.getfield 252, 3) := by decide +kernel
theorem dX9_cover_205 : decode cX9_cover 205 = .ok (.invokestatic 123, 3) := by decide +kernel
theorem dX9_cover_208 : decode cX9_cover 208 = .ok (.lshl, 1) := by decide +kernel
theorem dX9_cover_209 : decode cX9_cover 209 = .ok (.lconst 1, 1) := by decide +kernel
theorem dX9_cover_210 : decode cX9_cover 210 = .ok (.lsub, 1) := by decide +kernel
theorem dX9_cover_211 : decode cX9_cover 211 = .ok (.lcmp, 1) := by decide +kernel
theorem dX9_cover_212 : decode cX9_cover 212 = .ok (.ifCond .ne 26, 3) := by decide +kernel
theorem dX9_cover_215 : decode cX9_cover 215 = .ok (.lload 5, 2) := by decide +kernel
theorem dX9_cover_217 : decode cX9_cover 217 = .ok (.lconst 1, 1) := by decide +kernel
theorem dX9_cover_218 : decode cX9_cover 218 = .ok (.iconst 0, 1) := by decide +kernel
theorem dX9_cover_219 : decode cX9_cover 219 = .ok (.aload_n 0, 1) := by decide +kernel
theorem dX9_cover_220 : decode cX9_cover 220 = .ok (.getfield 252, 3) := by decide +kernel
theorem dX9_cover_223 : decode cX9_cover 223 = .ok (.bipush 36, 2) := by decide +kernel
theorem dX9_cover_225 : decode cX9_cover 225 = .ok (.isub, 1) := by decide +kernel
theorem dX9_cover_226 : decode cX9_cover 226 = .ok (.invokestatic 435, 3) := by decide +kernel
theorem dX9_cover_229 : decode cX9_cover 229 = .ok (.lshl, 1) := by decide +kernel
theorem dX9_cover_230 : decode cX9_cover 230 = .ok (.lconst 1, 1) := by decide +kernel
theorem dX9_cover_231 : decode cX9_cover 231 = .ok (.lsub, 1) := by decide +kernel
theorem dX9_cover_232 : decode cX9_cover 232 = .ok (.lcmp, 1) := by decide +kernel
theorem dX9_cover_233 : decode cX9_cover 233 = .ok (.ifCond .ne 5, 3) := by decide +kernel
theorem dX9_cover_236 : decode cX9_cover 236 = .ok (.iload_n 2, 1) := by decide +kernel
theorem dX9_cover_237 : decode cX9_cover 237 = .ok (.istore_n 1, 1) := by decide +kernel
theorem dX9_cover_238 : decode cX9_cover 238 = .ok (.iinc 2 1, 3) := by decide +kernel
theorem dX9_cover_241 : decode cX9_cover 241 = .ok (.goto (-130), 3) := by decide +kernel
theorem dX9_cover_244 : decode cX9_cover 244 = .ok (.iload_n 1, 1) := by decide +kernel
theorem dX9_cover_245 : decode cX9_cover 245 = .ok (.ireturn, 1) := by decide +kernel
abbrev mm_X9_cover : ab_M := (RX9, 8, (some .int), false, 2, 51, none)
noncomputable def f_X9_cover_J238 (rec : Int → Int → Int → ab_H → Option (Int × ab_H)) (v0 : Int) (v1 : Int) (v2 : Int) (h : ab_H) : Option (Int × ab_H) :=
  rec v0 v1 (ab_w32 (v2 + (1 : Int))) h
set_option maxRecDepth 20000 in
theorem e_X9_cover_J238 {rec : Int → Int → Int → ab_H → Option (Int × ab_H)} (hrec : ∀ (v0 : Int) (v1 : Int) (v2 : Int) (h : ab_H) (q : Int × ab_H), rec v0 v1 v2 h = some q → ab_E mm_X9_cover cX9_cover 111 [some (ab_R v0), some (ab_I v1), some (ab_I v2), none, none, none, none, none] [] h (some (ab_I q.1)) q.2) : ∀ (v0 : Int) (v1 : Int) (v2 : Int) (h : ab_H) (q : Int × ab_H), f_X9_cover_J238 rec v0 v1 v2 h = some q → ab_E mm_X9_cover cX9_cover 238 [some (ab_R v0), some (ab_I v1), some (ab_I v2), none, none, none, none, none] [] h (some (ab_I q.1)) q.2 := by
  intro v0 v1 v2 h q hk
  unfold f_X9_cover_J238 at hk
  refine ab_iinc (pc := 238) (i := 2) (lv2 := [some (ab_R v0), some (ab_I v1), some (ab_I (ab_w32 (v2 + (1 : Int)))), none, none, none, none, none]) dX9_cover_238 rfl (Nat.le_of_ble_eq_true rfl) rfl rfl ?_
  refine ab_goto (pc := 241) (tgt := 111) dX9_cover_241 rfl ?_
  refine ab_sub_ (lv2 := [some (ab_R v0), some (ab_I v1), some (ab_I (ab_w32 (v2 + (1 : Int)))), none, none, none, none, none]) (ab_ss (ab_ss (ab_ss (ab_sn (ab_sn (ab_sn (ab_sn (ab_sn ab_s0)))))))) ?_
  exact hrec _ _ _ _ _ hk
noncomputable def f_X9_cover_J191 (rec : Int → Int → Int → Int → Int → Int → ab_H → Option (Int × ab_H)) (k197 : Int → Int → Int → Int → Int → ab_H → Option (Int × ab_H)) (v0 : Int) (v1 : Int) (v2 : Int) (v3 : Int) (v5 : Int) (v7 : Int) (h : ab_H) : Option (Int × ab_H) :=
  rec v0 v1 v2 v3 v5 (ab_w32 (v7 + (1 : Int))) h
set_option maxRecDepth 20000 in
theorem e_X9_cover_J191 {rec : Int → Int → Int → Int → Int → Int → ab_H → Option (Int × ab_H)} {k197 : Int → Int → Int → Int → Int → ab_H → Option (Int × ab_H)} (hrec : ∀ (v0 : Int) (v1 : Int) (v2 : Int) (v3 : Int) (v5 : Int) (v7 : Int) (h : ab_H) (q : Int × ab_H), rec v0 v1 v2 v3 v5 v7 h = some q → ab_E mm_X9_cover cX9_cover 148 [some (ab_R v0), some (ab_I v1), some (ab_I v2), some (ab_J v3), none, some (ab_J v5), none, some (ab_I v7)] [] h (some (ab_I q.1)) q.2) (hk197 : ∀ (v0 : Int) (v1 : Int) (v2 : Int) (v3 : Int) (v5 : Int) (h : ab_H) (q : Int × ab_H), k197 v0 v1 v2 v3 v5 h = some q → ab_E mm_X9_cover cX9_cover 197 [some (ab_R v0), some (ab_I v1), some (ab_I v2), some (ab_J v3), none, some (ab_J v5), none, none] [] h (some (ab_I q.1)) q.2) : ∀ (v0 : Int) (v1 : Int) (v2 : Int) (v3 : Int) (v5 : Int) (v7 : Int) (h : ab_H) (q : Int × ab_H), f_X9_cover_J191 rec k197 v0 v1 v2 v3 v5 v7 h = some q → ab_E mm_X9_cover cX9_cover 191 [some (ab_R v0), some (ab_I v1), some (ab_I v2), some (ab_J v3), none, some (ab_J v5), none, some (ab_I v7)] [] h (some (ab_I q.1)) q.2 := by
  intro v0 v1 v2 v3 v5 v7 h q hk
  unfold f_X9_cover_J191 at hk
  refine ab_iinc (pc := 191) (i := 7) (lv2 := [some (ab_R v0), some (ab_I v1), some (ab_I v2), some (ab_J v3), none, some (ab_J v5), none, some (ab_I (ab_w32 (v7 + (1 : Int))))]) dX9_cover_191 rfl (Nat.le_of_ble_eq_true rfl) rfl rfl ?_
  refine ab_goto (pc := 194) (tgt := 148) dX9_cover_194 rfl ?_
  refine ab_sub_ (lv2 := [some (ab_R v0), some (ab_I v1), some (ab_I v2), some (ab_J v3), none, some (ab_J v5), none, some (ab_I (ab_w32 (v7 + (1 : Int))))]) (ab_ss (ab_ss (ab_ss (ab_ss (ab_sn (ab_ss (ab_sn (ab_ss ab_s0)))))))) ?_
  exact hrec _ _ _ _ _ _ _ _ hk
noncomputable def f_X9_cover_L148 (k197 : Int → Int → Int → Int → Int → ab_H → Option (Int × ab_H)) : Nat → Int → Int → Int → Int → Int → Int → ab_H → Option (Int × ab_H)
  | 0, _, _, _, _, _, _, _ => none
  | n + 1, v0, v1, v2, v3, v5, v7, h =>
    (ab_on h 10 v0 (f_X9_strings v0 h)).bind fun q1 =>
    if q1.1 ≤ v7 then
      k197 v0 v1 v2 v3 v5 q1.2
    else
    if ab_and (ab_shr v2 v7) (1 : Int) = (0 : Int) then
      f_X9_cover_J191 (f_X9_cover_L148 k197 n) k197 v0 v1 v2 v3 v5 v7 q1.2
    else
    (ab_get q1.2 10 31 v0).bind fun t2 =>
    (ab_ald q1.2 12 t2 v7).bind fun t3 =>
    (ab_get q1.2 10 32 v0).bind fun t4 =>
    (ab_ald q1.2 12 t4 v7).bind fun t5 =>
    f_X9_cover_J191 (f_X9_cover_L148 k197 n) k197 v0 v1 v2 (ab_lor v3 t3) (ab_lor v5 t5) v7 q1.2
set_option maxRecDepth 20000 in
theorem e_X9_cover_L148 {k197 : Int → Int → Int → Int → Int → ab_H → Option (Int × ab_H)} (hk197 : ∀ (v0 : Int) (v1 : Int) (v2 : Int) (v3 : Int) (v5 : Int) (h : ab_H) (q : Int × ab_H), k197 v0 v1 v2 v3 v5 h = some q → ab_E mm_X9_cover cX9_cover 197 [some (ab_R v0), some (ab_I v1), some (ab_I v2), some (ab_J v3), none, some (ab_J v5), none, none] [] h (some (ab_I q.1)) q.2) : ∀ (n : Nat) (v0 : Int) (v1 : Int) (v2 : Int) (v3 : Int) (v5 : Int) (v7 : Int) (h : ab_H) (q : Int × ab_H), f_X9_cover_L148 k197 n v0 v1 v2 v3 v5 v7 h = some q → ab_E mm_X9_cover cX9_cover 148 [some (ab_R v0), some (ab_I v1), some (ab_I v2), some (ab_J v3), none, some (ab_J v5), none, some (ab_I v7)] [] h (some (ab_I q.1)) q.2 := by
  intro n
  induction n with
  | zero => intro v0 v1 v2 v3 v5 v7 h q hk; cases hk
  | succ n ih =>
    intro v0 v1 v2 v3 v5 v7 h q hk
    unfold f_X9_cover_L148 at hk
    refine ab_iload (pc := 148) (i := 7) dX9_cover_148 rfl ?_
    refine ab_aload_n (pc := 150) (i := 0) dX9_cover_150 rfl rfl ?_
    obtain ⟨q1, hq1, hk⟩ := ab_bnd hk
    obtain ⟨hb, hq1⟩ := ab_on_some hq1
    refine ab_callVI (st := [ab_I v7]) (as := []) (b := v0) (pc := 151) dX9_cover_151 ml_RX9_246 my_X9_strings mv_X9_strings hb (ct_X9_strings hq1) ⟨Nat.le_of_ble_eq_true rfl, Nat.le_of_ble_eq_true rfl⟩ rfl (Nat.le_of_ble_eq_true rfl) rfl ?_
    refine ab_icmp_ge (pc := 154) (tgt := 197) dX9_cover_154 rfl (fun hc => ?_) (fun hc => ?_)
    · have hk := ab_ifp hk hc
      refine ab_sub_ (lv2 := [some (ab_R v0), some (ab_I v1), some (ab_I v2), some (ab_J v3), none, some (ab_J v5), none, none]) (ab_ss (ab_ss (ab_ss (ab_ss (ab_sn (ab_ss (ab_sn (ab_sn ab_s0)))))))) ?_
      exact hk197 _ _ _ _ _ _ _ hk
    · have hk := ab_ifn hk hc
      refine ab_iload_n (pc := 157) (i := 2) dX9_cover_157 rfl rfl ?_
      refine ab_iload (pc := 158) (i := 7) dX9_cover_158 rfl ?_
      refine ab_ishr (pc := 160) dX9_cover_160 ?_
      refine ab_iconst (pc := 161) dX9_cover_161 ab_k_1 ?_
      refine ab_iand (pc := 162) dX9_cover_162 ?_
      refine ab_if_ne (pc := 163) (tgt := 169) dX9_cover_163 rfl (fun hc => ?_) (fun hc => ?_)
      · have hk := ab_ifn hk hc
        refine ab_lload_n (pc := 169) (i := 3) dX9_cover_169 rfl rfl ?_
        refine ab_aload_n (pc := 170) (i := 0) dX9_cover_170 rfl rfl ?_
        obtain ⟨t2, ht2, hk⟩ := ab_bnd hk
        refine ab_getR (pc := 171) dX9_cover_171 fl_RX9_58 ht2 ?_
        refine ab_iload (pc := 174) (i := 7) dX9_cover_174 rfl ?_
        obtain ⟨t3, ht3, hk⟩ := ab_bnd hk
        refine ab_lald (pc := 176) dX9_cover_176 ht3 ?_
        refine ab_lor_ (pc := 177) dX9_cover_177 ?_
        refine ab_lstore_n (pc := 178) (i := 3) (lv2 := [some (ab_R v0), some (ab_I v1), some (ab_I v2), some (ab_J (ab_lor v3 t3)), none, some (ab_J v5), none, some (ab_I v7)]) dX9_cover_178 rfl (Nat.le_of_ble_eq_true rfl) rfl rfl ?_
        refine ab_lload (pc := 179) (i := 5) dX9_cover_179 rfl ?_
        refine ab_aload_n (pc := 181) (i := 0) dX9_cover_181 rfl rfl ?_
        obtain ⟨t4, ht4, hk⟩ := ab_bnd hk
        refine ab_getR (pc := 182) dX9_cover_182 fl_RX9_61 ht4 ?_
        refine ab_iload (pc := 185) (i := 7) dX9_cover_185 rfl ?_
        obtain ⟨t5, ht5, hk⟩ := ab_bnd hk
        refine ab_lald (pc := 187) dX9_cover_187 ht5 ?_
        refine ab_lor_ (pc := 188) dX9_cover_188 ?_
        refine ab_lstore (pc := 189) (i := 5) (lv2 := [some (ab_R v0), some (ab_I v1), some (ab_I v2), some (ab_J (ab_lor v3 t3)), none, some (ab_J (ab_lor v5 t5)), none, some (ab_I v7)]) dX9_cover_189 (Nat.le_of_ble_eq_true rfl) rfl rfl ?_
        refine ab_sub_ (lv2 := [some (ab_R v0), some (ab_I v1), some (ab_I v2), some (ab_J (ab_lor v3 t3)), none, some (ab_J (ab_lor v5 t5)), none, some (ab_I v7)]) (ab_ss (ab_ss (ab_ss (ab_ss (ab_sn (ab_ss (ab_sn (ab_ss ab_s0)))))))) ?_
        exact e_X9_cover_J191 ih hk197 _ _ _ _ _ _ _ _ hk
      · have hk := ab_ifp hk hc
        refine ab_goto (pc := 166) (tgt := 191) dX9_cover_166 rfl ?_
        refine ab_sub_ (lv2 := [some (ab_R v0), some (ab_I v1), some (ab_I v2), some (ab_J v3), none, some (ab_J v5), none, some (ab_I v7)]) (ab_ss (ab_ss (ab_ss (ab_ss (ab_sn (ab_ss (ab_sn (ab_ss ab_s0)))))))) ?_
        exact e_X9_cover_J191 ih hk197 _ _ _ _ _ _ _ _ hk
noncomputable def f_X9_cover_J140 (rec : Int → Int → Int → ab_H → Option (Int × ab_H)) (v0 : Int) (v1 : Int) (v2 : Int) (h : ab_H) : Option (Int × ab_H) :=
  f_X9_cover_L148 (fun w197_0 w197_1 w197_2 w197_3 w197_5 hx197 =>
    (ab_get hx197 10 14 w197_0).bind fun t1 =>
    if ab_cmp w197_3 (ab_w64 ((ab_lshl (1 : Int) (ab_mn (36 : Int) t1)) - (1 : Int))) = (0 : Int) then
      (ab_get hx197 10 14 w197_0).bind fun t2 =>
      if ab_cmp w197_5 (ab_w64 ((ab_lshl (1 : Int) (ab_mx (0 : Int) (ab_w32 (t2 - (36 : Int))))) - (1 : Int))) = (0 : Int) then
        f_X9_cover_J238 rec w197_0 w197_2 w197_2 hx197
      else
      f_X9_cover_J238 rec w197_0 w197_1 w197_2 hx197
    else
    f_X9_cover_J238 rec w197_0 w197_1 w197_2 hx197) ab_FU v0 v1 v2 (0 : Int) (0 : Int) (0 : Int) h
set_option maxRecDepth 20000 in
theorem e_X9_cover_J140 {rec : Int → Int → Int → ab_H → Option (Int × ab_H)} (hrec : ∀ (v0 : Int) (v1 : Int) (v2 : Int) (h : ab_H) (q : Int × ab_H), rec v0 v1 v2 h = some q → ab_E mm_X9_cover cX9_cover 111 [some (ab_R v0), some (ab_I v1), some (ab_I v2), none, none, none, none, none] [] h (some (ab_I q.1)) q.2) : ∀ (v0 : Int) (v1 : Int) (v2 : Int) (h : ab_H) (q : Int × ab_H), f_X9_cover_J140 rec v0 v1 v2 h = some q → ab_E mm_X9_cover cX9_cover 140 [some (ab_R v0), some (ab_I v1), some (ab_I v2), none, none, none, none, none] [] h (some (ab_I q.1)) q.2 := by
  intro v0 v1 v2 h q hk
  unfold f_X9_cover_J140 at hk
  refine ab_lconst (x := (0 : Int)) (pc := 140) dX9_cover_140 rfl ab_kl_0 ?_
  refine ab_lstore_n (pc := 141) (i := 3) (lv2 := [some (ab_R v0), some (ab_I v1), some (ab_I v2), some (ab_J (0 : Int)), none, none, none, none]) dX9_cover_141 rfl (Nat.le_of_ble_eq_true rfl) rfl rfl ?_
  refine ab_lconst (x := (0 : Int)) (pc := 142) dX9_cover_142 rfl ab_kl_0 ?_
  refine ab_lstore (pc := 143) (i := 5) (lv2 := [some (ab_R v0), some (ab_I v1), some (ab_I v2), some (ab_J (0 : Int)), none, some (ab_J (0 : Int)), none, none]) dX9_cover_143 (Nat.le_of_ble_eq_true rfl) rfl rfl ?_
  refine ab_iconst (pc := 145) dX9_cover_145 ab_k_0 ?_
  refine ab_istore (pc := 146) (i := 7) (lv2 := [some (ab_R v0), some (ab_I v1), some (ab_I v2), some (ab_J (0 : Int)), none, some (ab_J (0 : Int)), none, some (ab_I (0 : Int))]) dX9_cover_146 (Nat.le_of_ble_eq_true rfl) rfl rfl ?_
  refine ab_sub_ (lv2 := [some (ab_R v0), some (ab_I v1), some (ab_I v2), some (ab_J (0 : Int)), none, some (ab_J (0 : Int)), none, some (ab_I (0 : Int))]) (ab_ss (ab_ss (ab_ss (ab_ss (ab_sn (ab_ss (ab_sn (ab_ss ab_s0)))))))) ?_
  refine e_X9_cover_L148 (fun w197_0 w197_1 w197_2 w197_3 w197_5 hx197 q hk => ?_) _ _ _ _ _ _ _ _ _ hk
  · skip
    refine ab_lload_n (pc := 197) (i := 3) dX9_cover_197 rfl rfl ?_
    refine ab_lconst (x := (1 : Int)) (pc := 198) dX9_cover_198 rfl ab_kl_1 ?_
    refine ab_bipush (pc := 199) dX9_cover_199 ab_p8_36 ab_k_36 ?_
    refine ab_aload_n (pc := 201) (i := 0) dX9_cover_201 rfl rfl ?_
    obtain ⟨t1, ht1, hk⟩ := ab_bnd hk
    refine ab_getI (pc := 202) dX9_cover_202 fl_RX9_252 ht1 ?_
    refine ab_mmin_ (st := [ab_J (1 : Int), ab_J w197_3]) (pc := 205) dX9_cover_205 mt_RX9_123 (Nat.le_of_ble_eq_true rfl) (Nat.le_of_ble_eq_true rfl) (Nat.le_of_ble_eq_true rfl) ?_
    refine ab_lshl_ (pc := 208) dX9_cover_208 ?_
    refine ab_lconst (x := (1 : Int)) (pc := 209) dX9_cover_209 rfl ab_kl_1 ?_
    refine ab_lsub (pc := 210) dX9_cover_210 ?_
    refine ab_lcmp_ (pc := 211) dX9_cover_211 ?_
    refine ab_if_ne (pc := 212) (tgt := 238) dX9_cover_212 rfl (fun hc => ?_) (fun hc => ?_)
    · have hk := ab_ifn hk hc
      refine ab_sub_ (lv2 := [some (ab_R w197_0), some (ab_I w197_1), some (ab_I w197_2), none, none, none, none, none]) (ab_ss (ab_ss (ab_ss (ab_sn (ab_sn (ab_sn (ab_sn (ab_sn ab_s0)))))))) ?_
      exact e_X9_cover_J238 hrec _ _ _ _ _ hk
    · have hk := ab_ifp hk hc
      refine ab_lload (pc := 215) (i := 5) dX9_cover_215 rfl ?_
      refine ab_lconst (x := (1 : Int)) (pc := 217) dX9_cover_217 rfl ab_kl_1 ?_
      refine ab_iconst (pc := 218) dX9_cover_218 ab_k_0 ?_
      refine ab_aload_n (pc := 219) (i := 0) dX9_cover_219 rfl rfl ?_
      obtain ⟨t2, ht2, hk⟩ := ab_bnd hk
      refine ab_getI (pc := 220) dX9_cover_220 fl_RX9_252 ht2 ?_
      refine ab_bipush (pc := 223) dX9_cover_223 ab_p8_36 ab_k_36 ?_
      refine ab_isub (pc := 225) dX9_cover_225 ?_
      refine ab_mmax_ (st := [ab_J (1 : Int), ab_J w197_5]) (pc := 226) dX9_cover_226 mt_RX9_435 (Nat.le_of_ble_eq_true rfl) (Nat.le_of_ble_eq_true rfl) (Nat.le_of_ble_eq_true rfl) ?_
      refine ab_lshl_ (pc := 229) dX9_cover_229 ?_
      refine ab_lconst (x := (1 : Int)) (pc := 230) dX9_cover_230 rfl ab_kl_1 ?_
      refine ab_lsub (pc := 231) dX9_cover_231 ?_
      refine ab_lcmp_ (pc := 232) dX9_cover_232 ?_
      refine ab_if_ne (pc := 233) (tgt := 238) dX9_cover_233 rfl (fun hc => ?_) (fun hc => ?_)
      · have hk := ab_ifn hk hc
        refine ab_sub_ (lv2 := [some (ab_R w197_0), some (ab_I w197_1), some (ab_I w197_2), none, none, none, none, none]) (ab_ss (ab_ss (ab_ss (ab_sn (ab_sn (ab_sn (ab_sn (ab_sn ab_s0)))))))) ?_
        exact e_X9_cover_J238 hrec _ _ _ _ _ hk
      · have hk := ab_ifp hk hc
        refine ab_iload_n (pc := 236) (i := 2) dX9_cover_236 rfl rfl ?_
        refine ab_istore_n (pc := 237) (i := 1) (lv2 := [some (ab_R w197_0), some (ab_I w197_2), some (ab_I w197_2), some (ab_J w197_3), none, some (ab_J w197_5), none, none]) dX9_cover_237 rfl (Nat.le_of_ble_eq_true rfl) rfl rfl ?_
        refine ab_sub_ (lv2 := [some (ab_R w197_0), some (ab_I w197_2), some (ab_I w197_2), none, none, none, none, none]) (ab_ss (ab_ss (ab_ss (ab_sn (ab_sn (ab_sn (ab_sn (ab_sn ab_s0)))))))) ?_
        exact e_X9_cover_J238 hrec _ _ _ _ _ hk
noncomputable def f_X9_cover_L111 : Nat → Int → Int → Int → ab_H → Option (Int × ab_H)
  | 0, _, _, _, _ => none
  | n + 1, v0, v1, v2, h =>
    (ab_on h 10 v0 (f_X9_strings v0 h)).bind fun q1 =>
    if ab_shl (1 : Int) q1.1 ≤ v2 then
      some (v1, q1.2)
    else
    if v1 = (-1 : Int) then
      f_X9_cover_J140 (f_X9_cover_L111 n) v0 v1 v2 q1.2
    else
    (f_X9_bits v2 q1.2).bind fun q2 =>
    (f_X9_bits v1 q2.2).bind fun q3 =>
    if q2.1 < q3.1 then
      f_X9_cover_J140 (f_X9_cover_L111 n) v0 v1 v2 q3.2
    else
    f_X9_cover_J238 (f_X9_cover_L111 n) v0 v1 v2 q3.2
set_option maxRecDepth 20000 in
theorem e_X9_cover_L111 : ∀ (n : Nat) (v0 : Int) (v1 : Int) (v2 : Int) (h : ab_H) (q : Int × ab_H), f_X9_cover_L111 n v0 v1 v2 h = some q → ab_E mm_X9_cover cX9_cover 111 [some (ab_R v0), some (ab_I v1), some (ab_I v2), none, none, none, none, none] [] h (some (ab_I q.1)) q.2 := by
  intro n
  induction n with
  | zero => intro v0 v1 v2 h q hk; cases hk
  | succ n ih =>
    intro v0 v1 v2 h q hk
    unfold f_X9_cover_L111 at hk
    refine ab_iload_n (pc := 111) (i := 2) dX9_cover_111 rfl rfl ?_
    refine ab_iconst (pc := 112) dX9_cover_112 ab_k_1 ?_
    refine ab_aload_n (pc := 113) (i := 0) dX9_cover_113 rfl rfl ?_
    obtain ⟨q1, hq1, hk⟩ := ab_bnd hk
    obtain ⟨hb, hq1⟩ := ab_on_some hq1
    refine ab_callVI (st := [ab_I (1 : Int), ab_I v2]) (as := []) (b := v0) (pc := 114) dX9_cover_114 ml_RX9_246 my_X9_strings mv_X9_strings hb (ct_X9_strings hq1) ⟨Nat.le_of_ble_eq_true rfl, Nat.le_of_ble_eq_true rfl⟩ rfl (Nat.le_of_ble_eq_true rfl) rfl ?_
    refine ab_ishl (pc := 117) dX9_cover_117 ?_
    refine ab_icmp_ge (pc := 118) (tgt := 244) dX9_cover_118 rfl (fun hc => ?_) (fun hc => ?_)
    · have hk := ab_ifp hk hc
      refine ab_iload_n (pc := 244) (i := 1) dX9_cover_244 rfl rfl ?_
      obtain rfl := Option.some.inj hk
      exact ab_reti (pc := 245) dX9_cover_245 (Or.inl rfl)
    · have hk := ab_ifn hk hc
      refine ab_iload_n (pc := 121) (i := 1) dX9_cover_121 rfl rfl ?_
      refine ab_iconst (pc := 122) dX9_cover_122 ab_k_m1 ?_
      refine ab_icmp_eq (pc := 123) (tgt := 140) dX9_cover_123 rfl (fun hc => ?_) (fun hc => ?_)
      · have hk := ab_ifp hk hc
        refine ab_sub_ (lv2 := [some (ab_R v0), some (ab_I v1), some (ab_I v2), none, none, none, none, none]) (ab_ss (ab_ss (ab_ss (ab_sn (ab_sn (ab_sn (ab_sn (ab_sn ab_s0)))))))) ?_
        exact e_X9_cover_J140 ih _ _ _ _ _ hk
      · have hk := ab_ifn hk hc
        refine ab_iload_n (pc := 126) (i := 2) dX9_cover_126 rfl rfl ?_
        obtain ⟨q2, hq2, hk⟩ := ab_bnd hk
        refine ab_callSI (st := []) (as := [ab_I v2]) (pc := 127) dX9_cover_127 ml_RX9_377 my_X9_bits ms_X9_bits (ct_X9_bits hq2) ⟨Nat.le_of_ble_eq_true rfl, Nat.le_of_ble_eq_true rfl⟩ rfl (Nat.le_of_ble_eq_true rfl) rfl ?_
        refine ab_iload_n (pc := 130) (i := 1) dX9_cover_130 rfl rfl ?_
        obtain ⟨q3, hq3, hk⟩ := ab_bnd hk
        refine ab_callSI (st := [ab_I q2.1]) (as := [ab_I v1]) (pc := 131) dX9_cover_131 ml_RX9_377 my_X9_bits ms_X9_bits (ct_X9_bits hq3) ⟨Nat.le_of_ble_eq_true rfl, Nat.le_of_ble_eq_true rfl⟩ rfl (Nat.le_of_ble_eq_true rfl) rfl ?_
        refine ab_icmp_lt (pc := 134) (tgt := 140) dX9_cover_134 rfl (fun hc => ?_) (fun hc => ?_)
        · have hk := ab_ifp hk hc
          refine ab_sub_ (lv2 := [some (ab_R v0), some (ab_I v1), some (ab_I v2), none, none, none, none, none]) (ab_ss (ab_ss (ab_ss (ab_sn (ab_sn (ab_sn (ab_sn (ab_sn ab_s0)))))))) ?_
          exact e_X9_cover_J140 ih _ _ _ _ _ hk
        · have hk := ab_ifn hk hc
          refine ab_goto (pc := 137) (tgt := 238) dX9_cover_137 rfl ?_
          refine ab_sub_ (lv2 := [some (ab_R v0), some (ab_I v1), some (ab_I v2), none, none, none, none, none]) (ab_ss (ab_ss (ab_ss (ab_sn (ab_sn (ab_sn (ab_sn (ab_sn ab_s0)))))))) ?_
          exact e_X9_cover_J238 ih _ _ _ _ _ hk
noncomputable def f_X9_cover_J95 (rec : Int → Int → Int → ab_H → Option (Int × ab_H)) (k101 : Int → Int → ab_H → Option (Int × ab_H)) (v0 : Int) (v1 : Int) (v2 : Int) (h : ab_H) : Option (Int × ab_H) :=
  rec v0 v1 (ab_w32 (v2 + (1 : Int))) h
set_option maxRecDepth 20000 in
theorem e_X9_cover_J95 {rec : Int → Int → Int → ab_H → Option (Int × ab_H)} {k101 : Int → Int → ab_H → Option (Int × ab_H)} (hrec : ∀ (v0 : Int) (v1 : Int) (v2 : Int) (h : ab_H) (q : Int × ab_H), rec v0 v1 v2 h = some q → ab_E mm_X9_cover cX9_cover 39 [some (ab_R v0), some (ab_I v1), some (ab_I v2), none, none, none, none, none] [] h (some (ab_I q.1)) q.2) (hk101 : ∀ (v0 : Int) (v1 : Int) (h : ab_H) (q : Int × ab_H), k101 v0 v1 h = some q → ab_E mm_X9_cover cX9_cover 101 [some (ab_R v0), some (ab_I v1), none, none, none, none, none, none] [] h (some (ab_I q.1)) q.2) : ∀ (v0 : Int) (v1 : Int) (v2 : Int) (h : ab_H) (q : Int × ab_H), f_X9_cover_J95 rec k101 v0 v1 v2 h = some q → ab_E mm_X9_cover cX9_cover 95 [some (ab_R v0), some (ab_I v1), some (ab_I v2), none, none, none, none, none] [] h (some (ab_I q.1)) q.2 := by
  intro v0 v1 v2 h q hk
  unfold f_X9_cover_J95 at hk
  refine ab_iinc (pc := 95) (i := 2) (lv2 := [some (ab_R v0), some (ab_I v1), some (ab_I (ab_w32 (v2 + (1 : Int)))), none, none, none, none, none]) dX9_cover_95 rfl (Nat.le_of_ble_eq_true rfl) rfl rfl ?_
  refine ab_goto (pc := 98) (tgt := 39) dX9_cover_98 rfl ?_
  refine ab_sub_ (lv2 := [some (ab_R v0), some (ab_I v1), some (ab_I (ab_w32 (v2 + (1 : Int)))), none, none, none, none, none]) (ab_ss (ab_ss (ab_ss (ab_sn (ab_sn (ab_sn (ab_sn (ab_sn ab_s0)))))))) ?_
  exact hrec _ _ _ _ _ hk
noncomputable def f_X9_cover_L39 (k101 : Int → Int → ab_H → Option (Int × ab_H)) : Nat → Int → Int → Int → ab_H → Option (Int × ab_H)
  | 0, _, _, _, _ => none
  | n + 1, v0, v1, v2, h =>
    (ab_on h 10 v0 (f_X9_terms v0 v1 h)).bind fun q1 =>
    if q1.1 ≤ v2 then
      k101 v0 v1 q1.2
    else
    (ab_get q1.2 10 15 v0).bind fun t2 =>
    (f_X9_place v1 v2 q1.2).bind fun q3 =>
    (ab_ald q3.2 11 t2 q3.1).bind fun t4 =>
    if (36 : Int) ≤ t4 then
      (ab_get q3.2 10 32 v0).bind fun t5 =>
      (ab_ald q3.2 12 t5 v1).bind fun t6 =>
      (ab_ast q3.2 12 t5 v1 (ab_lor t6 (ab_lshl (1 : Int) (ab_w32 (t4 - (36 : Int)))))).bind fun h1 =>
      f_X9_cover_J95 (f_X9_cover_L39 k101 n) k101 v0 v1 v2 h1
    else
    (ab_get q3.2 10 31 v0).bind fun t7 =>
    (ab_ald q3.2 12 t7 v1).bind fun t8 =>
    (ab_ast q3.2 12 t7 v1 (ab_lor t8 (ab_lshl (1 : Int) t4))).bind fun h2 =>
    f_X9_cover_J95 (f_X9_cover_L39 k101 n) k101 v0 v1 v2 h2
set_option maxRecDepth 20000 in
theorem e_X9_cover_L39 {k101 : Int → Int → ab_H → Option (Int × ab_H)} (hk101 : ∀ (v0 : Int) (v1 : Int) (h : ab_H) (q : Int × ab_H), k101 v0 v1 h = some q → ab_E mm_X9_cover cX9_cover 101 [some (ab_R v0), some (ab_I v1), none, none, none, none, none, none] [] h (some (ab_I q.1)) q.2) : ∀ (n : Nat) (v0 : Int) (v1 : Int) (v2 : Int) (h : ab_H) (q : Int × ab_H), f_X9_cover_L39 k101 n v0 v1 v2 h = some q → ab_E mm_X9_cover cX9_cover 39 [some (ab_R v0), some (ab_I v1), some (ab_I v2), none, none, none, none, none] [] h (some (ab_I q.1)) q.2 := by
  intro n
  induction n with
  | zero => intro v0 v1 v2 h q hk; cases hk
  | succ n ih =>
    intro v0 v1 v2 h q hk
    unfold f_X9_cover_L39 at hk
    refine ab_iload_n (pc := 39) (i := 2) dX9_cover_39 rfl rfl ?_
    refine ab_aload_n (pc := 40) (i := 0) dX9_cover_40 rfl rfl ?_
    refine ab_iload_n (pc := 41) (i := 1) dX9_cover_41 rfl rfl ?_
    obtain ⟨q1, hq1, hk⟩ := ab_bnd hk
    obtain ⟨hb, hq1⟩ := ab_on_some hq1
    refine ab_callVI (st := [ab_I v2]) (as := [ab_I v1]) (b := v0) (pc := 42) dX9_cover_42 ml_RX9_255 my_X9_terms mv_X9_terms hb (ct_X9_terms hq1) ⟨Nat.le_of_ble_eq_true rfl, Nat.le_of_ble_eq_true rfl⟩ rfl (Nat.le_of_ble_eq_true rfl) rfl ?_
    refine ab_icmp_ge (pc := 45) (tgt := 101) dX9_cover_45 rfl (fun hc => ?_) (fun hc => ?_)
    · have hk := ab_ifp hk hc
      refine ab_sub_ (lv2 := [some (ab_R v0), some (ab_I v1), none, none, none, none, none, none]) (ab_ss (ab_ss (ab_sn (ab_sn (ab_sn (ab_sn (ab_sn (ab_sn ab_s0)))))))) ?_
      exact hk101 _ _ _ _ hk
    · have hk := ab_ifn hk hc
      refine ab_aload_n (pc := 48) (i := 0) dX9_cover_48 rfl rfl ?_
      obtain ⟨t2, ht2, hk⟩ := ab_bnd hk
      refine ab_getR (pc := 49) dX9_cover_49 fl_RX9_27 ht2 ?_
      refine ab_iload_n (pc := 52) (i := 1) dX9_cover_52 rfl rfl ?_
      refine ab_iload_n (pc := 53) (i := 2) dX9_cover_53 rfl rfl ?_
      obtain ⟨q3, hq3, hk⟩ := ab_bnd hk
      refine ab_callSI (st := [ab_R t2]) (as := [ab_I v1, ab_I v2]) (pc := 54) dX9_cover_54 ml_RX9_262 my_X9_place ms_X9_place (ct_X9_place hq3) ⟨Nat.le_of_ble_eq_true rfl, Nat.le_of_ble_eq_true rfl⟩ rfl (Nat.le_of_ble_eq_true rfl) rfl ?_
      obtain ⟨t4, ht4, hk⟩ := ab_bnd hk
      refine ab_iald (pc := 57) dX9_cover_57 ht4 ?_
      refine ab_istore_n (pc := 58) (i := 3) (lv2 := [some (ab_R v0), some (ab_I v1), some (ab_I v2), some (ab_I t4), none, none, none, none]) dX9_cover_58 rfl (Nat.le_of_ble_eq_true rfl) rfl rfl ?_
      refine ab_iload_n (pc := 59) (i := 3) dX9_cover_59 rfl rfl ?_
      refine ab_bipush (pc := 60) dX9_cover_60 ab_p8_36 ab_k_36 ?_
      refine ab_icmp_ge (pc := 62) (tgt := 80) dX9_cover_62 rfl (fun hc => ?_) (fun hc => ?_)
      · have hk := ab_ifp hk hc
        refine ab_aload_n (pc := 80) (i := 0) dX9_cover_80 rfl rfl ?_
        obtain ⟨t5, ht5, hk⟩ := ab_bnd hk
        refine ab_getR (pc := 81) dX9_cover_81 fl_RX9_61 ht5 ?_
        refine ab_iload_n (pc := 84) (i := 1) dX9_cover_84 rfl rfl ?_
        refine ab_dup2 (pc := 85) dX9_cover_85 rfl rfl ?_
        obtain ⟨t6, ht6, hk⟩ := ab_bnd hk
        refine ab_lald (pc := 86) dX9_cover_86 ht6 ?_
        refine ab_lconst (x := (1 : Int)) (pc := 87) dX9_cover_87 rfl ab_kl_1 ?_
        refine ab_iload_n (pc := 88) (i := 3) dX9_cover_88 rfl rfl ?_
        refine ab_bipush (pc := 89) dX9_cover_89 ab_p8_36 ab_k_36 ?_
        refine ab_isub (pc := 91) dX9_cover_91 ?_
        refine ab_lshl_ (pc := 92) dX9_cover_92 ?_
        refine ab_lor_ (pc := 93) dX9_cover_93 ?_
        obtain ⟨h1, hh1, hk⟩ := ab_bnd hk
        refine ab_last (pc := 94) dX9_cover_94 hh1 ?_
        refine ab_sub_ (lv2 := [some (ab_R v0), some (ab_I v1), some (ab_I v2), none, none, none, none, none]) (ab_ss (ab_ss (ab_ss (ab_sn (ab_sn (ab_sn (ab_sn (ab_sn ab_s0)))))))) ?_
        exact e_X9_cover_J95 ih hk101 _ _ _ _ _ hk
      · have hk := ab_ifn hk hc
        refine ab_aload_n (pc := 65) (i := 0) dX9_cover_65 rfl rfl ?_
        obtain ⟨t7, ht7, hk⟩ := ab_bnd hk
        refine ab_getR (pc := 66) dX9_cover_66 fl_RX9_58 ht7 ?_
        refine ab_iload_n (pc := 69) (i := 1) dX9_cover_69 rfl rfl ?_
        refine ab_dup2 (pc := 70) dX9_cover_70 rfl rfl ?_
        obtain ⟨t8, ht8, hk⟩ := ab_bnd hk
        refine ab_lald (pc := 71) dX9_cover_71 ht8 ?_
        refine ab_lconst (x := (1 : Int)) (pc := 72) dX9_cover_72 rfl ab_kl_1 ?_
        refine ab_iload_n (pc := 73) (i := 3) dX9_cover_73 rfl rfl ?_
        refine ab_lshl_ (pc := 74) dX9_cover_74 ?_
        refine ab_lor_ (pc := 75) dX9_cover_75 ?_
        obtain ⟨h2, hh2, hk⟩ := ab_bnd hk
        refine ab_last (pc := 76) dX9_cover_76 hh2 ?_
        refine ab_goto (pc := 77) (tgt := 95) dX9_cover_77 rfl ?_
        refine ab_sub_ (lv2 := [some (ab_R v0), some (ab_I v1), some (ab_I v2), none, none, none, none, none]) (ab_ss (ab_ss (ab_ss (ab_sn (ab_sn (ab_sn (ab_sn (ab_sn ab_s0)))))))) ?_
        exact e_X9_cover_J95 ih hk101 _ _ _ _ _ hk
noncomputable def f_X9_cover_L15 (k107 : Int → ab_H → Option (Int × ab_H)) : Nat → Int → Int → ab_H → Option (Int × ab_H)
  | 0, _, _, _ => none
  | n + 1, v0, v1, h =>
    (ab_on h 10 v0 (f_X9_strings v0 h)).bind fun q1 =>
    if q1.1 ≤ v1 then
      k107 v0 q1.2
    else
    (ab_get q1.2 10 31 v0).bind fun t2 =>
    (ab_ast q1.2 12 t2 v1 (0 : Int)).bind fun h1 =>
    (ab_get h1 10 32 v0).bind fun t3 =>
    (ab_ast h1 12 t3 v1 (0 : Int)).bind fun h2 =>
    f_X9_cover_L39 (fun w101_0 w101_1 hx101 =>
      f_X9_cover_L15 k107 n w101_0 (ab_w32 (w101_1 + (1 : Int))) hx101) ab_FU v0 v1 (0 : Int) h2
set_option maxRecDepth 20000 in
theorem e_X9_cover_L15 {k107 : Int → ab_H → Option (Int × ab_H)} (hk107 : ∀ (v0 : Int) (h : ab_H) (q : Int × ab_H), k107 v0 h = some q → ab_E mm_X9_cover cX9_cover 107 [some (ab_R v0), none, none, none, none, none, none, none] [] h (some (ab_I q.1)) q.2) : ∀ (n : Nat) (v0 : Int) (v1 : Int) (h : ab_H) (q : Int × ab_H), f_X9_cover_L15 k107 n v0 v1 h = some q → ab_E mm_X9_cover cX9_cover 15 [some (ab_R v0), some (ab_I v1), none, none, none, none, none, none] [] h (some (ab_I q.1)) q.2 := by
  intro n
  induction n with
  | zero => intro v0 v1 h q hk; cases hk
  | succ n ih =>
    intro v0 v1 h q hk
    unfold f_X9_cover_L15 at hk
    refine ab_iload_n (pc := 15) (i := 1) dX9_cover_15 rfl rfl ?_
    refine ab_aload_n (pc := 16) (i := 0) dX9_cover_16 rfl rfl ?_
    obtain ⟨q1, hq1, hk⟩ := ab_bnd hk
    obtain ⟨hb, hq1⟩ := ab_on_some hq1
    refine ab_callVI (st := [ab_I v1]) (as := []) (b := v0) (pc := 17) dX9_cover_17 ml_RX9_246 my_X9_strings mv_X9_strings hb (ct_X9_strings hq1) ⟨Nat.le_of_ble_eq_true rfl, Nat.le_of_ble_eq_true rfl⟩ rfl (Nat.le_of_ble_eq_true rfl) rfl ?_
    refine ab_icmp_ge (pc := 20) (tgt := 107) dX9_cover_20 rfl (fun hc => ?_) (fun hc => ?_)
    · have hk := ab_ifp hk hc
      refine ab_sub_ (lv2 := [some (ab_R v0), none, none, none, none, none, none, none]) (ab_ss (ab_sn (ab_sn (ab_sn (ab_sn (ab_sn (ab_sn (ab_sn ab_s0)))))))) ?_
      exact hk107 _ _ _ hk
    · have hk := ab_ifn hk hc
      refine ab_aload_n (pc := 23) (i := 0) dX9_cover_23 rfl rfl ?_
      obtain ⟨t2, ht2, hk⟩ := ab_bnd hk
      refine ab_getR (pc := 24) dX9_cover_24 fl_RX9_58 ht2 ?_
      refine ab_iload_n (pc := 27) (i := 1) dX9_cover_27 rfl rfl ?_
      refine ab_lconst (x := (0 : Int)) (pc := 28) dX9_cover_28 rfl ab_kl_0 ?_
      obtain ⟨h1, hh1, hk⟩ := ab_bnd hk
      refine ab_last (pc := 29) dX9_cover_29 hh1 ?_
      refine ab_aload_n (pc := 30) (i := 0) dX9_cover_30 rfl rfl ?_
      obtain ⟨t3, ht3, hk⟩ := ab_bnd hk
      refine ab_getR (pc := 31) dX9_cover_31 fl_RX9_61 ht3 ?_
      refine ab_iload_n (pc := 34) (i := 1) dX9_cover_34 rfl rfl ?_
      refine ab_lconst (x := (0 : Int)) (pc := 35) dX9_cover_35 rfl ab_kl_0 ?_
      obtain ⟨h2, hh2, hk⟩ := ab_bnd hk
      refine ab_last (pc := 36) dX9_cover_36 hh2 ?_
      refine ab_iconst (pc := 37) dX9_cover_37 ab_k_0 ?_
      refine ab_istore_n (pc := 38) (i := 2) (lv2 := [some (ab_R v0), some (ab_I v1), some (ab_I (0 : Int)), none, none, none, none, none]) dX9_cover_38 rfl (Nat.le_of_ble_eq_true rfl) rfl rfl ?_
      refine ab_sub_ (lv2 := [some (ab_R v0), some (ab_I v1), some (ab_I (0 : Int)), none, none, none, none, none]) (ab_ss (ab_ss (ab_ss (ab_sn (ab_sn (ab_sn (ab_sn (ab_sn ab_s0)))))))) ?_
      refine e_X9_cover_L39 (fun w101_0 w101_1 hx101 q hk => ?_) _ _ _ _ _ _ hk
      · skip
        refine ab_iinc (pc := 101) (i := 1) (lv2 := [some (ab_R w101_0), some (ab_I (ab_w32 (w101_1 + (1 : Int)))), none, none, none, none, none, none]) dX9_cover_101 rfl (Nat.le_of_ble_eq_true rfl) rfl rfl ?_
        refine ab_goto (pc := 104) (tgt := 15) dX9_cover_104 rfl ?_
        refine ab_sub_ (lv2 := [some (ab_R w101_0), some (ab_I (ab_w32 (w101_1 + (1 : Int)))), none, none, none, none, none, none]) (ab_ss (ab_ss (ab_sn (ab_sn (ab_sn (ab_sn (ab_sn (ab_sn ab_s0)))))))) ?_
        exact ih _ _ _ _ hk
noncomputable def f_X9_cover (a0 : Int) (h : ab_H) : Option (Int × ab_H) :=
  (ab_on h 10 a0 (f_X9_laysWords a0 h)).bind fun q1 =>
  (ab_get q1 10 14 a0).bind fun t2 =>
  if t2 = (0 : Int) then
    some ((-1 : Int), q1)
  else
  f_X9_cover_L15 (fun w107_0 hx107 =>
    f_X9_cover_L111 ab_FU w107_0 (-1 : Int) (0 : Int) hx107) ab_FU a0 (0 : Int) q1
set_option maxRecDepth 20000 in
theorem ct_X9_cover {a0 : Int} {h : ab_H} {q : Int × ab_H} (hk : f_X9_cover a0 h = some q) : ab_CT yX9_cover cX9_cover 8 (some .int) 2 51 [ab_R a0] h (some (ab_I q.1)) q.2 := by
  refine ab_CT.mk_ 7 (own := RX9) (ini := false) (lv := [some (ab_R a0), none, none, none, none, none, none, none]) rfl (by decide +kernel) (fun q => by cases q) rfl rfl ?_
  unfold f_X9_cover at hk
  show ab_E mm_X9_cover cX9_cover 0 _ [] h _ _
  refine ab_aload_n (pc := 0) (i := 0) dX9_cover_0 rfl rfl ?_
  obtain ⟨q1, hq1, hk⟩ := ab_bnd hk
  obtain ⟨hb, hq1⟩ := ab_on_some hq1
  refine ab_callVV (st := []) (as := []) (b := a0) (pc := 1) dX9_cover_1 ml_RX9_287 my_X9_laysWords mv_X9_laysWords hb (ct_X9_laysWords hq1) ⟨Nat.le_of_ble_eq_true rfl, Nat.le_of_ble_eq_true rfl⟩ rfl (Nat.le_of_ble_eq_true rfl) rfl ?_
  refine ab_aload_n (pc := 4) (i := 0) dX9_cover_4 rfl rfl ?_
  obtain ⟨t2, ht2, hk⟩ := ab_bnd hk
  refine ab_getI (pc := 5) dX9_cover_5 fl_RX9_252 ht2 ?_
  refine ab_if_ne (pc := 8) (tgt := 13) dX9_cover_8 rfl (fun hc => ?_) (fun hc => ?_)
  · have hk := ab_ifn hk hc
    refine ab_iconst (pc := 13) dX9_cover_13 ab_k_0 ?_
    refine ab_istore_n (pc := 14) (i := 1) (lv2 := [some (ab_R a0), some (ab_I (0 : Int)), none, none, none, none, none, none]) dX9_cover_14 rfl (Nat.le_of_ble_eq_true rfl) rfl rfl ?_
    refine ab_sub_ (lv2 := [some (ab_R a0), some (ab_I (0 : Int)), none, none, none, none, none, none]) (ab_ss (ab_ss (ab_sn (ab_sn (ab_sn (ab_sn (ab_sn (ab_sn ab_s0)))))))) ?_
    refine e_X9_cover_L15 (fun w107_0 hx107 q hk => ?_) _ _ _ _ _ hk
    · skip
      refine ab_iconst (pc := 107) dX9_cover_107 ab_k_m1 ?_
      refine ab_istore_n (pc := 108) (i := 1) (lv2 := [some (ab_R w107_0), some (ab_I (-1 : Int)), none, none, none, none, none, none]) dX9_cover_108 rfl (Nat.le_of_ble_eq_true rfl) rfl rfl ?_
      refine ab_iconst (pc := 109) dX9_cover_109 ab_k_0 ?_
      refine ab_istore_n (pc := 110) (i := 2) (lv2 := [some (ab_R w107_0), some (ab_I (-1 : Int)), some (ab_I (0 : Int)), none, none, none, none, none]) dX9_cover_110 rfl (Nat.le_of_ble_eq_true rfl) rfl rfl ?_
      refine ab_sub_ (lv2 := [some (ab_R w107_0), some (ab_I (-1 : Int)), some (ab_I (0 : Int)), none, none, none, none, none]) (ab_ss (ab_ss (ab_ss (ab_sn (ab_sn (ab_sn (ab_sn (ab_sn ab_s0)))))))) ?_
      refine e_X9_cover_L111 _ _ _ _ _ _ hk
  · have hk := ab_ifp hk hc
    refine ab_iconst (pc := 11) dX9_cover_11 ab_k_m1 ?_
    obtain rfl := Option.some.inj hk
    exact ab_reti (pc := 12) dX9_cover_12 (Or.inl rfl)
theorem dX9_would_0 : decode cX9_would 0 = .ok (.iload_n 1, 1) := by decide +kernel
theorem dX9_would_1 : decode cX9_would 1 = .ok (.i2l, 1) := by decide +kernel
theorem dX9_would_2 : decode cX9_would 2 = .ok (.lconst 0, 1) := by decide +kernel
theorem dX9_would_3 : decode cX9_would 3 = .ok (.ldc2_w 349, 3) := by decide +kernel
theorem dX9_would_6 : decode cX9_would 6 = .ok (.invokestatic 84, 3) := by decide +kernel
theorem dX9_would_9 : decode cX9_would 9 = .ok (.ifCond .eq 27, 3) := by decide +kernel
theorem dX9_would_12 : decode cX9_would 12 = .ok (.iload_n 2, 1) := by decide +kernel
theorem dX9_would_13 : decode cX9_would 13 = .ok (.i2l, 1) := by decide +kernel
theorem dX9_would_14 : decode cX9_would 14 = .ok (.lconst 0, 1) := by decide +kernel
theorem dX9_would_15 : decode cX9_would 15 = .ok (.ldc2_w 438, 3) := by decide +kernel
theorem dX9_would_18 : decode cX9_would 18 = .ok (.invokestatic 84, 3) := by decide +kernel
theorem dX9_would_21 : decode cX9_would 21 = .ok (.ifCond .eq 15, 3) := by decide +kernel
theorem dX9_would_24 : decode cX9_would 24 = .ok (.iload_n 3, 1) := by decide +kernel
theorem dX9_would_25 : decode cX9_would 25 = .ok (.i2l, 1) := by decide +kernel
theorem dX9_would_26 : decode cX9_would 26 = .ok (.lconst 0, 1) := by decide +kernel
theorem dX9_would_27 : decode cX9_would 27 = .ok (.ldc2_w 438, 3) := by decide +kernel
theorem dX9_would_30 : decode cX9_would 30 = .ok (.invokestatic 84, 3) := by decide +kernel
theorem dX9_would_33 : decode cX9_would 33 = .ok (.ifCond .ne 6, 3) := by decide +kernel
theorem dX9_would_36 : decode cX9_would 36 = .ok (.bipush (-2), 2) := by decide +kernel
theorem dX9_would_38 : decode cX9_would 38 = .ok (.ireturn, 1) := by decide +kernel
theorem dX9_would_39 : decode cX9_would 39 = .ok (.aload_n 0, 1) := by decide +kernel
theorem dX9_would_40 : decode cX9_would 40 = .ok (.iload_n 1, 1) := by decide +kernel
theorem dX9_would_41 : decode cX9_would 41 = .ok (.iload_n 2, 1) := by decide +kernel
theorem dX9_would_42 : decode cX9_would 42 = .ok (.invokevirtual 309, 3) := by decide +kernel
theorem dX9_would_45 : decode cX9_would 45 = .ok (.iconst 0, 1) := by decide +kernel
theorem dX9_would_46 : decode cX9_would 46 = .ok (.istore 4, 2) := by decide +kernel
theorem dX9_would_48 : decode cX9_would 48 = .ok (.iconst 0, 1) := by decide +kernel
theorem dX9_would_49 : decode cX9_would 49 = .ok (.istore 5, 2) := by decide +kernel
theorem dX9_would_51 : decode cX9_would 51 = .ok (.iload 5, 2) := by decide +kernel
theorem dX9_would_53 : decode cX9_would 53 = .ok (.aload_n 0, 1) := by decide +kernel
theorem dX9_would_54 : decode cX9_would 54 = .ok (.getfield 267, 3) := by decide +kernel
theorem dX9_would_57 : decode cX9_would 57 = .ok (.if_icmp .ge 21, 3) := by decide +kernel
theorem dX9_would_60 : decode cX9_would 60 = .ok (.iload 4, 2) := by decide +kernel
theorem dX9_would_62 : decode cX9_would 62 = .ok (.aload_n 0, 1) := by decide +kernel
theorem dX9_would_63 : decode cX9_would 63 = .ok (.getfield 37, 3) := by decide +kernel
theorem dX9_would_66 : decode cX9_would 66 = .ok (.iload 5, 2) := by decide +kernel
theorem dX9_would_68 : decode cX9_would 68 = .ok (.iaload, 1) := by decide +kernel
theorem dX9_would_69 : decode cX9_would 69 = .ok (.iadd, 1) := by decide +kernel
theorem dX9_would_70 : decode cX9_would 70 = .ok (.istore 4, 2) := by decide +kernel
theorem dX9_would_72 : decode cX9_would 72 = .ok (.iinc 5 1, 3) := by decide +kernel
theorem dX9_would_75 : decode cX9_would 75 = .ok (.goto (-24), 3) := by decide +kernel
theorem dX9_would_78 : decode cX9_would 78 = .ok (.iload_n 3, 1) := by decide +kernel
theorem dX9_would_79 : decode cX9_would 79 = .ok (.ifCond .ne 10, 3) := by decide +kernel
theorem dX9_would_82 : decode cX9_would 82 = .ok (.aload_n 0, 1) := by decide +kernel
theorem dX9_would_83 : decode cX9_would 83 = .ok (.getfield 267, 3) := by decide +kernel
theorem dX9_would_86 : decode cX9_would 86 = .ok (.goto 17, 3) := by decide +kernel
theorem dX9_would_89 : decode cX9_would 89 = .ok (.iload_n 3, 1) := by decide +kernel
theorem dX9_would_90 : decode cX9_would 90 = .ok (.iconst 1, 1) := by decide +kernel
theorem dX9_would_91 : decode cX9_would 91 = .ok (.if_icmp .ne 10, 3) := by decide +kernel
theorem dX9_would_94 : decode cX9_would 94 = .ok (.aload_n 0, 1) := by decide +kernel
theorem dX9_would_95 : decode cX9_would 95 = .ok (.getfield 303, 3) := by decide +kernel
theorem dX9_would_98 : decode cX9_would 98 = .ok (.goto 5, 3) := by decide +kernel
theorem dX9_would_101 : decode cX9_would 101 = .ok (.iload 4, 2) := by decide +kernel
theorem dX9_would_103 : decode cX9_would 103 = .ok (.ireturn, 1) := by decide +kernel
abbrev mm_X9_would : ab_M := (RX9, 6, (some .int), false, 5, 113, none)
noncomputable def f_X9_would_L51 (k78 : Int → Int → Int → ab_H → Option (Int × ab_H)) : Nat → Int → Int → Int → Int → ab_H → Option (Int × ab_H)
  | 0, _, _, _, _, _ => none
  | n + 1, v0, v3, v4, v5, h =>
    (ab_get h 10 16 v0).bind fun t1 =>
    if t1 ≤ v5 then
      k78 v0 v3 v4 h
    else
    (ab_get h 10 21 v0).bind fun t2 =>
    (ab_ald h 11 t2 v5).bind fun t3 =>
    f_X9_would_L51 k78 n v0 v3 (ab_w32 (v4 + t3)) (ab_w32 (v5 + (1 : Int))) h
set_option maxRecDepth 20000 in
theorem e_X9_would_L51 {k78 : Int → Int → Int → ab_H → Option (Int × ab_H)} (hk78 : ∀ (v0 : Int) (v3 : Int) (v4 : Int) (h : ab_H) (q : Int × ab_H), k78 v0 v3 v4 h = some q → ab_E mm_X9_would cX9_would 78 [some (ab_R v0), none, none, some (ab_I v3), some (ab_I v4), none] [] h (some (ab_I q.1)) q.2) : ∀ (n : Nat) (v0 : Int) (v3 : Int) (v4 : Int) (v5 : Int) (h : ab_H) (q : Int × ab_H), f_X9_would_L51 k78 n v0 v3 v4 v5 h = some q → ab_E mm_X9_would cX9_would 51 [some (ab_R v0), none, none, some (ab_I v3), some (ab_I v4), some (ab_I v5)] [] h (some (ab_I q.1)) q.2 := by
  intro n
  induction n with
  | zero => intro v0 v3 v4 v5 h q hk; cases hk
  | succ n ih =>
    intro v0 v3 v4 v5 h q hk
    unfold f_X9_would_L51 at hk
    refine ab_iload (pc := 51) (i := 5) dX9_would_51 rfl ?_
    refine ab_aload_n (pc := 53) (i := 0) dX9_would_53 rfl rfl ?_
    obtain ⟨t1, ht1, hk⟩ := ab_bnd hk
    refine ab_getI (pc := 54) dX9_would_54 fl_RX9_267 ht1 ?_
    refine ab_icmp_ge (pc := 57) (tgt := 78) dX9_would_57 rfl (fun hc => ?_) (fun hc => ?_)
    · have hk := ab_ifp hk hc
      refine ab_sub_ (lv2 := [some (ab_R v0), none, none, some (ab_I v3), some (ab_I v4), none]) (ab_ss (ab_sn (ab_sn (ab_ss (ab_ss (ab_sn ab_s0)))))) ?_
      exact hk78 _ _ _ _ _ hk
    · have hk := ab_ifn hk hc
      refine ab_iload (pc := 60) (i := 4) dX9_would_60 rfl ?_
      refine ab_aload_n (pc := 62) (i := 0) dX9_would_62 rfl rfl ?_
      obtain ⟨t2, ht2, hk⟩ := ab_bnd hk
      refine ab_getR (pc := 63) dX9_would_63 fl_RX9_37 ht2 ?_
      refine ab_iload (pc := 66) (i := 5) dX9_would_66 rfl ?_
      obtain ⟨t3, ht3, hk⟩ := ab_bnd hk
      refine ab_iald (pc := 68) dX9_would_68 ht3 ?_
      refine ab_iadd (pc := 69) dX9_would_69 ?_
      refine ab_istore (pc := 70) (i := 4) (lv2 := [some (ab_R v0), none, none, some (ab_I v3), some (ab_I (ab_w32 (v4 + t3))), some (ab_I v5)]) dX9_would_70 (Nat.le_of_ble_eq_true rfl) rfl rfl ?_
      refine ab_iinc (pc := 72) (i := 5) (lv2 := [some (ab_R v0), none, none, some (ab_I v3), some (ab_I (ab_w32 (v4 + t3))), some (ab_I (ab_w32 (v5 + (1 : Int))))]) dX9_would_72 rfl (Nat.le_of_ble_eq_true rfl) rfl rfl ?_
      refine ab_goto (pc := 75) (tgt := 51) dX9_would_75 rfl ?_
      refine ab_sub_ (lv2 := [some (ab_R v0), none, none, some (ab_I v3), some (ab_I (ab_w32 (v4 + t3))), some (ab_I (ab_w32 (v5 + (1 : Int))))]) (ab_ss (ab_sn (ab_sn (ab_ss (ab_ss (ab_ss ab_s0)))))) ?_
      exact ih _ _ _ _ _ _ hk
noncomputable def f_X9_would (a0 : Int) (a1 : Int) (a2 : Int) (a3 : Int) (h : ab_H) : Option (Int × ab_H) :=
  (f_X9_in a1 (0 : Int) (5 : Int) h).bind fun q1 =>
  if q1.1 = (0 : Int) then
    some ((-2 : Int), q1.2)
  else
  (f_X9_in a2 (0 : Int) (2 : Int) q1.2).bind fun q2 =>
  if q2.1 = (0 : Int) then
    some ((-2 : Int), q2.2)
  else
  (f_X9_in a3 (0 : Int) (2 : Int) q2.2).bind fun q3 =>
  if q3.1 = (0 : Int) then
    some ((-2 : Int), q3.2)
  else
  (ab_on q3.2 10 a0 (f_X9_laysBy a0 a1 a2 q3.2)).bind fun q4 =>
  f_X9_would_L51 (fun w78_0 w78_3 w78_4 hx78 =>
    if w78_3 = (0 : Int) then
      (ab_get hx78 10 16 w78_0).bind fun t6 =>
      some (t6, hx78)
    else
    if w78_3 = (1 : Int) then
      (ab_get hx78 10 17 w78_0).bind fun t5 =>
      some (t5, hx78)
    else
    some (w78_4, hx78)) ab_FU a0 a3 (0 : Int) (0 : Int) q4
set_option maxRecDepth 20000 in
theorem ct_X9_would {a0 a1 a2 a3 : Int} {h : ab_H} {q : Int × ab_H} (hk : f_X9_would a0 a1 a2 a3 h = some q) : ab_CT yX9_would cX9_would 6 (some .int) 5 113 [ab_R a0, ab_I a1, ab_I a2, ab_I a3] h (some (ab_I q.1)) q.2 := by
  refine ab_CT.mk_ 2 (own := RX9) (ini := false) (lv := [some (ab_R a0), some (ab_I a1), some (ab_I a2), some (ab_I a3), none, none]) rfl (by decide +kernel) (fun q => by cases q) rfl rfl ?_
  unfold f_X9_would at hk
  show ab_E mm_X9_would cX9_would 0 _ [] h _ _
  refine ab_iload_n (pc := 0) (i := 1) dX9_would_0 rfl rfl ?_
  refine ab_i2l_ (pc := 1) dX9_would_1 ?_
  refine ab_lconst (x := (0 : Int)) (pc := 2) dX9_would_2 rfl ab_kl_0 ?_
  refine ab_ldc2 (x := (5 : Int)) (pc := 3) dX9_would_3 ab_ld2_RX9_349 ab_kl_5 ?_
  obtain ⟨q1, hq1, hk⟩ := ab_bnd hk
  refine ab_callSI (st := []) (as := [ab_J a1, ab_J (0 : Int), ab_J (5 : Int)]) (pc := 6) dX9_would_6 ml_RX9_84 my_X9_in ms_X9_in (ct_X9_in hq1) ⟨Nat.le_of_ble_eq_true rfl, Nat.le_of_ble_eq_true rfl⟩ rfl (Nat.le_of_ble_eq_true rfl) rfl ?_
  refine ab_if_eq (pc := 9) (tgt := 36) dX9_would_9 rfl (fun hc => ?_) (fun hc => ?_)
  · have hk := ab_ifp hk hc
    refine ab_bipush (pc := 36) dX9_would_36 ab_p8_m2 ab_k_m2 ?_
    obtain rfl := Option.some.inj hk
    exact ab_reti (pc := 38) dX9_would_38 (Or.inl rfl)
  · have hk := ab_ifn hk hc
    refine ab_iload_n (pc := 12) (i := 2) dX9_would_12 rfl rfl ?_
    refine ab_i2l_ (pc := 13) dX9_would_13 ?_
    refine ab_lconst (x := (0 : Int)) (pc := 14) dX9_would_14 rfl ab_kl_0 ?_
    refine ab_ldc2 (x := (2 : Int)) (pc := 15) dX9_would_15 ab_ld2_RX9_438 ab_kl_2 ?_
    obtain ⟨q2, hq2, hk⟩ := ab_bnd hk
    refine ab_callSI (st := []) (as := [ab_J a2, ab_J (0 : Int), ab_J (2 : Int)]) (pc := 18) dX9_would_18 ml_RX9_84 my_X9_in ms_X9_in (ct_X9_in hq2) ⟨Nat.le_of_ble_eq_true rfl, Nat.le_of_ble_eq_true rfl⟩ rfl (Nat.le_of_ble_eq_true rfl) rfl ?_
    refine ab_if_eq (pc := 21) (tgt := 36) dX9_would_21 rfl (fun hc => ?_) (fun hc => ?_)
    · have hk := ab_ifp hk hc
      refine ab_bipush (pc := 36) dX9_would_36 ab_p8_m2 ab_k_m2 ?_
      obtain rfl := Option.some.inj hk
      exact ab_reti (pc := 38) dX9_would_38 (Or.inl rfl)
    · have hk := ab_ifn hk hc
      refine ab_iload_n (pc := 24) (i := 3) dX9_would_24 rfl rfl ?_
      refine ab_i2l_ (pc := 25) dX9_would_25 ?_
      refine ab_lconst (x := (0 : Int)) (pc := 26) dX9_would_26 rfl ab_kl_0 ?_
      refine ab_ldc2 (x := (2 : Int)) (pc := 27) dX9_would_27 ab_ld2_RX9_438 ab_kl_2 ?_
      obtain ⟨q3, hq3, hk⟩ := ab_bnd hk
      refine ab_callSI (st := []) (as := [ab_J a3, ab_J (0 : Int), ab_J (2 : Int)]) (pc := 30) dX9_would_30 ml_RX9_84 my_X9_in ms_X9_in (ct_X9_in hq3) ⟨Nat.le_of_ble_eq_true rfl, Nat.le_of_ble_eq_true rfl⟩ rfl (Nat.le_of_ble_eq_true rfl) rfl ?_
      refine ab_if_ne (pc := 33) (tgt := 39) dX9_would_33 rfl (fun hc => ?_) (fun hc => ?_)
      · have hk := ab_ifn hk hc
        refine ab_aload_n (pc := 39) (i := 0) dX9_would_39 rfl rfl ?_
        refine ab_iload_n (pc := 40) (i := 1) dX9_would_40 rfl rfl ?_
        refine ab_iload_n (pc := 41) (i := 2) dX9_would_41 rfl rfl ?_
        obtain ⟨q4, hq4, hk⟩ := ab_bnd hk
        obtain ⟨hb, hq4⟩ := ab_on_some hq4
        refine ab_callVV (st := []) (as := [ab_I a1, ab_I a2]) (b := a0) (pc := 42) dX9_would_42 ml_RX9_309 my_X9_laysBy mv_X9_laysBy hb (ct_X9_laysBy hq4) ⟨Nat.le_of_ble_eq_true rfl, Nat.le_of_ble_eq_true rfl⟩ rfl (Nat.le_of_ble_eq_true rfl) rfl ?_
        refine ab_iconst (pc := 45) dX9_would_45 ab_k_0 ?_
        refine ab_istore (pc := 46) (i := 4) (lv2 := [some (ab_R a0), some (ab_I a1), some (ab_I a2), some (ab_I a3), some (ab_I (0 : Int)), none]) dX9_would_46 (Nat.le_of_ble_eq_true rfl) rfl rfl ?_
        refine ab_iconst (pc := 48) dX9_would_48 ab_k_0 ?_
        refine ab_istore (pc := 49) (i := 5) (lv2 := [some (ab_R a0), some (ab_I a1), some (ab_I a2), some (ab_I a3), some (ab_I (0 : Int)), some (ab_I (0 : Int))]) dX9_would_49 (Nat.le_of_ble_eq_true rfl) rfl rfl ?_
        refine ab_sub_ (lv2 := [some (ab_R a0), none, none, some (ab_I a3), some (ab_I (0 : Int)), some (ab_I (0 : Int))]) (ab_ss (ab_sn (ab_sn (ab_ss (ab_ss (ab_ss ab_s0)))))) ?_
        refine e_X9_would_L51 (fun w78_0 w78_3 w78_4 hx78 q hk => ?_) _ _ _ _ _ _ _ hk
        · skip
          refine ab_iload_n (pc := 78) (i := 3) dX9_would_78 rfl rfl ?_
          refine ab_if_ne (pc := 79) (tgt := 89) dX9_would_79 rfl (fun hc => ?_) (fun hc => ?_)
          · have hk := ab_ifn hk hc
            refine ab_iload_n (pc := 89) (i := 3) dX9_would_89 rfl rfl ?_
            refine ab_iconst (pc := 90) dX9_would_90 ab_k_1 ?_
            refine ab_icmp_ne (pc := 91) (tgt := 101) dX9_would_91 rfl (fun hc => ?_) (fun hc => ?_)
            · have hk := ab_ifn hk hc
              refine ab_iload (pc := 101) (i := 4) dX9_would_101 rfl ?_
              obtain rfl := Option.some.inj hk
              exact ab_reti (pc := 103) dX9_would_103 (Or.inl rfl)
            · have hk := ab_ifp hk hc
              refine ab_aload_n (pc := 94) (i := 0) dX9_would_94 rfl rfl ?_
              obtain ⟨t5, ht5, hk⟩ := ab_bnd hk
              refine ab_getI (pc := 95) dX9_would_95 fl_RX9_303 ht5 ?_
              refine ab_goto (pc := 98) (tgt := 103) dX9_would_98 rfl ?_
              obtain rfl := Option.some.inj hk
              exact ab_reti (pc := 103) dX9_would_103 (Or.inl rfl)
          · have hk := ab_ifp hk hc
            refine ab_aload_n (pc := 82) (i := 0) dX9_would_82 rfl rfl ?_
            obtain ⟨t6, ht6, hk⟩ := ab_bnd hk
            refine ab_getI (pc := 83) dX9_would_83 fl_RX9_267 ht6 ?_
            refine ab_goto (pc := 86) (tgt := 103) dX9_would_86 rfl ?_
            obtain rfl := Option.some.inj hk
            exact ab_reti (pc := 103) dX9_would_103 (Or.inl rfl)
      · have hk := ab_ifp hk hc
        refine ab_bipush (pc := 36) dX9_would_36 ab_p8_m2 ab_k_m2 ?_
        obtain rfl := Option.some.inj hk
        exact ab_reti (pc := 38) dX9_would_38 (Or.inl rfl)
theorem dX9_isIn_0 : decode cX9_isIn 0 = .ok (.aload_n 0, 1) := by decide +kernel
theorem dX9_isIn_1 : decode cX9_isIn 1 = .ok (.iload_n 1, 1) := by decide +kernel
theorem dX9_isIn_2 : decode cX9_isIn 2 = .ok (.iload_n 2, 1) := by decide +kernel
theorem dX9_isIn_3 : decode cX9_isIn 3 = .ok (.invokevirtual 408, 3) := by decide +kernel
theorem dX9_isIn_6 : decode cX9_isIn 6 = .ok (.ifCond .eq 7, 3) := by decide +kernel
theorem dX9_isIn_9 : decode cX9_isIn 9 = .ok (.iconst 1, 1) := by decide +kernel
theorem dX9_isIn_10 : decode cX9_isIn 10 = .ok (.goto 4, 3) := by decide +kernel
theorem dX9_isIn_13 : decode cX9_isIn 13 = .ok (.iconst 0, 1) := by decide +kernel
theorem dX9_isIn_14 : decode cX9_isIn 14 = .ok (.ireturn, 1) := by decide +kernel
abbrev mm_X9_isIn : ab_M := (RX9, 3, (some .boolean), false, 4, 91, none)
noncomputable def f_X9_isIn (a0 : Int) (a1 : Int) (a2 : Int) (h : ab_H) : Option (Int × ab_H) :=
  (ab_on h 10 a0 (f_X9_having0 a0 a1 a2 h)).bind fun q1 =>
  if q1.1 = (0 : Int) then
    some ((0 : Int), q1.2)
  else
  some ((1 : Int), q1.2)
set_option maxRecDepth 20000 in
theorem ct_X9_isIn {a0 a1 a2 : Int} {h : ab_H} {q : Int × ab_H} (hk : f_X9_isIn a0 a1 a2 h = some q) : ab_CT yX9_isIn cX9_isIn 3 (some .boolean) 4 91 [ab_R a0, ab_I a1, ab_I a2] h (some (ab_I q.1)) q.2 := by
  refine ab_CT.mk_ 0 (own := RX9) (ini := false) (lv := [some (ab_R a0), some (ab_I a1), some (ab_I a2)]) rfl (by decide +kernel) (fun q => by cases q) rfl rfl ?_
  unfold f_X9_isIn at hk
  show ab_E mm_X9_isIn cX9_isIn 0 _ [] h _ _
  refine ab_aload_n (pc := 0) (i := 0) dX9_isIn_0 rfl rfl ?_
  refine ab_iload_n (pc := 1) (i := 1) dX9_isIn_1 rfl rfl ?_
  refine ab_iload_n (pc := 2) (i := 2) dX9_isIn_2 rfl rfl ?_
  obtain ⟨q1, hq1, hk⟩ := ab_bnd hk
  obtain ⟨hb, hq1⟩ := ab_on_some hq1
  refine ab_callVI (st := []) (as := [ab_I a1, ab_I a2]) (b := a0) (pc := 3) dX9_isIn_3 ml_RX9_408 my_X9_having0 mv_X9_having0 hb (ct_X9_having0 hq1) ⟨Nat.le_of_ble_eq_true rfl, Nat.le_of_ble_eq_true rfl⟩ rfl (Nat.le_of_ble_eq_true rfl) rfl ?_
  refine ab_if_eq (pc := 6) (tgt := 13) dX9_isIn_6 rfl (fun hc => ?_) (fun hc => ?_)
  · have hk := ab_ifp hk hc
    refine ab_iconst (pc := 13) dX9_isIn_13 ab_k_0 ?_
    obtain rfl := Option.some.inj hk
    exact ab_retz (pc := 14) dX9_isIn_14 rfl rfl
  · have hk := ab_ifn hk hc
    refine ab_iconst (pc := 9) dX9_isIn_9 ab_k_1 ?_
    refine ab_goto (pc := 10) (tgt := 14) dX9_isIn_10 rfl ?_
    obtain rfl := Option.some.inj hk
    exact ab_retz (pc := 14) dX9_isIn_14 rfl rfl
theorem dX9_gather_0 : decode cX9_gather 0 = .ok (.iload_n 1, 1) := by decide +kernel
theorem dX9_gather_1 : decode cX9_gather 1 = .ok (.i2l, 1) := by decide +kernel
theorem dX9_gather_2 : decode cX9_gather 2 = .ok (.lconst 0, 1) := by decide +kernel
theorem dX9_gather_3 : decode cX9_gather 3 = .ok (.ldc2_w 349, 3) := by decide +kernel
theorem dX9_gather_6 : decode cX9_gather 6 = .ok (.invokestatic 84, 3) := by decide +kernel
theorem dX9_gather_9 : decode cX9_gather 9 = .ok (.ifCond .eq 8, 3) := by decide +kernel
theorem dX9_gather_12 : decode cX9_gather 12 = .ok (.iload_n 2, 1) := by decide +kernel
theorem dX9_gather_13 : decode cX9_gather 13 = .ok (.iconst (-1), 1) := by decide +kernel
theorem dX9_gather_14 : decode cX9_gather 14 = .ok (.if_icmp .ge 6, 3) := by decide +kernel
theorem dX9_gather_17 : decode cX9_gather 17 = .ok (.bipush (-2), 2) := by decide +kernel
theorem dX9_gather_19 : decode cX9_gather 19 = .ok (.ireturn, 1) := by decide +kernel
theorem dX9_gather_20 : decode cX9_gather 20 = .ok (.aload_n 0, 1) := by decide +kernel
theorem dX9_gather_21 : decode cX9_gather 21 = .ok (.invokevirtual 287, 3) := by decide +kernel
theorem dX9_gather_24 : decode cX9_gather 24 = .ok (.iconst 0, 1) := by decide +kernel
theorem dX9_gather_25 : decode cX9_gather 25 = .ok (.istore_n 3, 1) := by decide +kernel
theorem dX9_gather_26 : decode cX9_gather 26 = .ok (.iconst 0, 1) := by decide +kernel
theorem dX9_gather_27 : decode cX9_gather 27 = .ok (.istore 4, 2) := by decide +kernel
theorem dX9_gather_29 : decode cX9_gather 29 = .ok (.iload 4, 2) := by decide +kernel
theorem dX9_gather_31 : decode cX9_gather 31 = .ok (.aload_n 0, 1) := by decide +kernel
theorem dX9_gather_32 : decode cX9_gather 32 = .ok (.getfield 252, 3) := by decide +kernel
theorem dX9_gather_35 : decode cX9_gather 35 = .ok (.if_icmp .ge 33, 3) := by decide +kernel
theorem dX9_gather_38 : decode cX9_gather 38 = .ok (.aload_n 0, 1) := by decide +kernel
theorem dX9_gather_39 : decode cX9_gather 39 = .ok (.iload 4, 2) := by decide +kernel
theorem dX9_gather_41 : decode cX9_gather 41 = .ok (.iload_n 1, 1) := by decide +kernel
theorem dX9_gather_42 : decode cX9_gather 42 = .ok (.invokevirtual 440, 3) := by decide +kernel
theorem dX9_gather_45 : decode cX9_gather 45 = .ok (.ifCond .ne 6, 3) := by decide +kernel
theorem dX9_gather_48 : decode cX9_gather 48 = .ok (.goto 14, 3) := by decide +kernel
theorem dX9_gather_51 : decode cX9_gather 51 = .ok (.iload_n 3, 1) := by decide +kernel
theorem dX9_gather_52 : decode cX9_gather 52 = .ok (.iload_n 2, 1) := by decide +kernel
theorem dX9_gather_53 : decode cX9_gather 53 = .ok (.if_icmp .ne 6, 3) := by decide +kernel
theorem dX9_gather_56 : decode cX9_gather 56 = .ok (.iload 4, 2) := by decide +kernel
theorem dX9_gather_58 : decode cX9_gather 58 = .ok (.ireturn, 1) := by decide +kernel
theorem dX9_gather_59 : decode cX9_gather 59 = .ok (.iinc 3 1, 3) := by decide +kernel
theorem dX9_gather_62 : decode cX9_gather 62 = .ok (.iinc 4 1, 3) := by decide +kernel
theorem dX9_gather_65 : decode cX9_gather 65 = .ok (.goto (-36), 3) := by decide +kernel
theorem dX9_gather_68 : decode cX9_gather 68 = .ok (.iload_n 2, 1) := by decide +kernel
theorem dX9_gather_69 : decode cX9_gather 69 = .ok (.iconst (-1), 1) := by decide +kernel
theorem dX9_gather_70 : decode cX9_gather 70 = .ok (.if_icmp .ne 7, 3) := by decide +kernel
theorem dX9_gather_73 : decode cX9_gather 73 = .ok (.iload_n 3, 1) := by decide +kernel
theorem dX9_gather_74 : decode cX9_gather 74 = .ok (.goto 4, 3) := by decide +kernel
theorem dX9_gather_77 : decode cX9_gather 77 = .ok (.iconst (-1), 1) := by decide +kernel
theorem dX9_gather_78 : decode cX9_gather 78 = .ok (.ireturn, 1) := by decide +kernel
abbrev mm_X9_gather : ab_M := (RX9, 5, (some .int), false, 5, 113, none)
noncomputable def f_X9_gather_J62 (rec : Int → Int → Int → Int → Int → ab_H → Option (Int × ab_H)) (k68 : Int → Int → ab_H → Option (Int × ab_H)) (v0 : Int) (v1 : Int) (v2 : Int) (v3 : Int) (v4 : Int) (h : ab_H) : Option (Int × ab_H) :=
  rec v0 v1 v2 v3 (ab_w32 (v4 + (1 : Int))) h
set_option maxRecDepth 20000 in
theorem e_X9_gather_J62 {rec : Int → Int → Int → Int → Int → ab_H → Option (Int × ab_H)} {k68 : Int → Int → ab_H → Option (Int × ab_H)} (hrec : ∀ (v0 : Int) (v1 : Int) (v2 : Int) (v3 : Int) (v4 : Int) (h : ab_H) (q : Int × ab_H), rec v0 v1 v2 v3 v4 h = some q → ab_E mm_X9_gather cX9_gather 29 [some (ab_R v0), some (ab_I v1), some (ab_I v2), some (ab_I v3), some (ab_I v4)] [] h (some (ab_I q.1)) q.2) (hk68 : ∀ (v2 : Int) (v3 : Int) (h : ab_H) (q : Int × ab_H), k68 v2 v3 h = some q → ab_E mm_X9_gather cX9_gather 68 [none, none, some (ab_I v2), some (ab_I v3), none] [] h (some (ab_I q.1)) q.2) : ∀ (v0 : Int) (v1 : Int) (v2 : Int) (v3 : Int) (v4 : Int) (h : ab_H) (q : Int × ab_H), f_X9_gather_J62 rec k68 v0 v1 v2 v3 v4 h = some q → ab_E mm_X9_gather cX9_gather 62 [some (ab_R v0), some (ab_I v1), some (ab_I v2), some (ab_I v3), some (ab_I v4)] [] h (some (ab_I q.1)) q.2 := by
  intro v0 v1 v2 v3 v4 h q hk
  unfold f_X9_gather_J62 at hk
  refine ab_iinc (pc := 62) (i := 4) (lv2 := [some (ab_R v0), some (ab_I v1), some (ab_I v2), some (ab_I v3), some (ab_I (ab_w32 (v4 + (1 : Int))))]) dX9_gather_62 rfl (Nat.le_of_ble_eq_true rfl) rfl rfl ?_
  refine ab_goto (pc := 65) (tgt := 29) dX9_gather_65 rfl ?_
  refine ab_sub_ (lv2 := [some (ab_R v0), some (ab_I v1), some (ab_I v2), some (ab_I v3), some (ab_I (ab_w32 (v4 + (1 : Int))))]) (ab_ss (ab_ss (ab_ss (ab_ss (ab_ss ab_s0))))) ?_
  exact hrec _ _ _ _ _ _ _ hk
noncomputable def f_X9_gather_L29 (k68 : Int → Int → ab_H → Option (Int × ab_H)) : Nat → Int → Int → Int → Int → Int → ab_H → Option (Int × ab_H)
  | 0, _, _, _, _, _, _ => none
  | n + 1, v0, v1, v2, v3, v4, h =>
    (ab_get h 10 14 v0).bind fun t1 =>
    if t1 ≤ v4 then
      k68 v2 v3 h
    else
    (ab_on h 10 v0 (f_X9_isIn v0 v4 v1 h)).bind fun q2 =>
    if q2.1 = (0 : Int) then
      f_X9_gather_J62 (f_X9_gather_L29 k68 n) k68 v0 v1 v2 v3 v4 q2.2
    else
    if v3 = v2 then
      some (v4, q2.2)
    else
    f_X9_gather_J62 (f_X9_gather_L29 k68 n) k68 v0 v1 v2 (ab_w32 (v3 + (1 : Int))) v4 q2.2
set_option maxRecDepth 20000 in
theorem e_X9_gather_L29 {k68 : Int → Int → ab_H → Option (Int × ab_H)} (hk68 : ∀ (v2 : Int) (v3 : Int) (h : ab_H) (q : Int × ab_H), k68 v2 v3 h = some q → ab_E mm_X9_gather cX9_gather 68 [none, none, some (ab_I v2), some (ab_I v3), none] [] h (some (ab_I q.1)) q.2) : ∀ (n : Nat) (v0 : Int) (v1 : Int) (v2 : Int) (v3 : Int) (v4 : Int) (h : ab_H) (q : Int × ab_H), f_X9_gather_L29 k68 n v0 v1 v2 v3 v4 h = some q → ab_E mm_X9_gather cX9_gather 29 [some (ab_R v0), some (ab_I v1), some (ab_I v2), some (ab_I v3), some (ab_I v4)] [] h (some (ab_I q.1)) q.2 := by
  intro n
  induction n with
  | zero => intro v0 v1 v2 v3 v4 h q hk; cases hk
  | succ n ih =>
    intro v0 v1 v2 v3 v4 h q hk
    unfold f_X9_gather_L29 at hk
    refine ab_iload (pc := 29) (i := 4) dX9_gather_29 rfl ?_
    refine ab_aload_n (pc := 31) (i := 0) dX9_gather_31 rfl rfl ?_
    obtain ⟨t1, ht1, hk⟩ := ab_bnd hk
    refine ab_getI (pc := 32) dX9_gather_32 fl_RX9_252 ht1 ?_
    refine ab_icmp_ge (pc := 35) (tgt := 68) dX9_gather_35 rfl (fun hc => ?_) (fun hc => ?_)
    · have hk := ab_ifp hk hc
      refine ab_sub_ (lv2 := [none, none, some (ab_I v2), some (ab_I v3), none]) (ab_sn (ab_sn (ab_ss (ab_ss (ab_sn ab_s0))))) ?_
      exact hk68 _ _ _ _ hk
    · have hk := ab_ifn hk hc
      refine ab_aload_n (pc := 38) (i := 0) dX9_gather_38 rfl rfl ?_
      refine ab_iload (pc := 39) (i := 4) dX9_gather_39 rfl ?_
      refine ab_iload_n (pc := 41) (i := 1) dX9_gather_41 rfl rfl ?_
      obtain ⟨q2, hq2, hk⟩ := ab_bnd hk
      obtain ⟨hb, hq2⟩ := ab_on_some hq2
      refine ab_callVI (st := []) (as := [ab_I v4, ab_I v1]) (b := v0) (pc := 42) dX9_gather_42 ml_RX9_440 my_X9_isIn mv_X9_isIn hb (ct_X9_isIn hq2) ⟨Nat.le_of_ble_eq_true rfl, Nat.le_of_ble_eq_true rfl⟩ rfl (Nat.le_of_ble_eq_true rfl) rfl ?_
      refine ab_if_ne (pc := 45) (tgt := 51) dX9_gather_45 rfl (fun hc => ?_) (fun hc => ?_)
      · have hk := ab_ifn hk hc
        refine ab_iload_n (pc := 51) (i := 3) dX9_gather_51 rfl rfl ?_
        refine ab_iload_n (pc := 52) (i := 2) dX9_gather_52 rfl rfl ?_
        refine ab_icmp_ne (pc := 53) (tgt := 59) dX9_gather_53 rfl (fun hc => ?_) (fun hc => ?_)
        · have hk := ab_ifn hk hc
          refine ab_iinc (pc := 59) (i := 3) (lv2 := [some (ab_R v0), some (ab_I v1), some (ab_I v2), some (ab_I (ab_w32 (v3 + (1 : Int)))), some (ab_I v4)]) dX9_gather_59 rfl (Nat.le_of_ble_eq_true rfl) rfl rfl ?_
          refine ab_sub_ (lv2 := [some (ab_R v0), some (ab_I v1), some (ab_I v2), some (ab_I (ab_w32 (v3 + (1 : Int)))), some (ab_I v4)]) (ab_ss (ab_ss (ab_ss (ab_ss (ab_ss ab_s0))))) ?_
          exact e_X9_gather_J62 ih hk68 _ _ _ _ _ _ _ hk
        · have hk := ab_ifp hk hc
          refine ab_iload (pc := 56) (i := 4) dX9_gather_56 rfl ?_
          obtain rfl := Option.some.inj hk
          exact ab_reti (pc := 58) dX9_gather_58 (Or.inl rfl)
      · have hk := ab_ifp hk hc
        refine ab_goto (pc := 48) (tgt := 62) dX9_gather_48 rfl ?_
        refine ab_sub_ (lv2 := [some (ab_R v0), some (ab_I v1), some (ab_I v2), some (ab_I v3), some (ab_I v4)]) (ab_ss (ab_ss (ab_ss (ab_ss (ab_ss ab_s0))))) ?_
        exact e_X9_gather_J62 ih hk68 _ _ _ _ _ _ _ hk
noncomputable def f_X9_gather (a0 : Int) (a1 : Int) (a2 : Int) (h : ab_H) : Option (Int × ab_H) :=
  (f_X9_in a1 (0 : Int) (5 : Int) h).bind fun q1 =>
  if q1.1 = (0 : Int) then
    some ((-2 : Int), q1.2)
  else
  if (-1 : Int) ≤ a2 then
    (ab_on q1.2 10 a0 (f_X9_laysWords a0 q1.2)).bind fun q2 =>
    f_X9_gather_L29 (fun w68_2 w68_3 hx68 =>
      if w68_2 = (-1 : Int) then
        some (w68_3, hx68)
      else
      some ((-1 : Int), hx68)) ab_FU a0 a1 a2 (0 : Int) (0 : Int) q2
  else
  some ((-2 : Int), q1.2)
set_option maxRecDepth 20000 in
theorem ct_X9_gather {a0 a1 a2 : Int} {h : ab_H} {q : Int × ab_H} (hk : f_X9_gather a0 a1 a2 h = some q) : ab_CT yX9_gather cX9_gather 5 (some .int) 5 113 [ab_R a0, ab_I a1, ab_I a2] h (some (ab_I q.1)) q.2 := by
  refine ab_CT.mk_ 2 (own := RX9) (ini := false) (lv := [some (ab_R a0), some (ab_I a1), some (ab_I a2), none, none]) rfl (by decide +kernel) (fun q => by cases q) rfl rfl ?_
  unfold f_X9_gather at hk
  show ab_E mm_X9_gather cX9_gather 0 _ [] h _ _
  refine ab_iload_n (pc := 0) (i := 1) dX9_gather_0 rfl rfl ?_
  refine ab_i2l_ (pc := 1) dX9_gather_1 ?_
  refine ab_lconst (x := (0 : Int)) (pc := 2) dX9_gather_2 rfl ab_kl_0 ?_
  refine ab_ldc2 (x := (5 : Int)) (pc := 3) dX9_gather_3 ab_ld2_RX9_349 ab_kl_5 ?_
  obtain ⟨q1, hq1, hk⟩ := ab_bnd hk
  refine ab_callSI (st := []) (as := [ab_J a1, ab_J (0 : Int), ab_J (5 : Int)]) (pc := 6) dX9_gather_6 ml_RX9_84 my_X9_in ms_X9_in (ct_X9_in hq1) ⟨Nat.le_of_ble_eq_true rfl, Nat.le_of_ble_eq_true rfl⟩ rfl (Nat.le_of_ble_eq_true rfl) rfl ?_
  refine ab_if_eq (pc := 9) (tgt := 17) dX9_gather_9 rfl (fun hc => ?_) (fun hc => ?_)
  · have hk := ab_ifp hk hc
    refine ab_bipush (pc := 17) dX9_gather_17 ab_p8_m2 ab_k_m2 ?_
    obtain rfl := Option.some.inj hk
    exact ab_reti (pc := 19) dX9_gather_19 (Or.inl rfl)
  · have hk := ab_ifn hk hc
    refine ab_iload_n (pc := 12) (i := 2) dX9_gather_12 rfl rfl ?_
    refine ab_iconst (pc := 13) dX9_gather_13 ab_k_m1 ?_
    refine ab_icmp_ge (pc := 14) (tgt := 20) dX9_gather_14 rfl (fun hc => ?_) (fun hc => ?_)
    · have hk := ab_ifp hk hc
      refine ab_aload_n (pc := 20) (i := 0) dX9_gather_20 rfl rfl ?_
      obtain ⟨q2, hq2, hk⟩ := ab_bnd hk
      obtain ⟨hb, hq2⟩ := ab_on_some hq2
      refine ab_callVV (st := []) (as := []) (b := a0) (pc := 21) dX9_gather_21 ml_RX9_287 my_X9_laysWords mv_X9_laysWords hb (ct_X9_laysWords hq2) ⟨Nat.le_of_ble_eq_true rfl, Nat.le_of_ble_eq_true rfl⟩ rfl (Nat.le_of_ble_eq_true rfl) rfl ?_
      refine ab_iconst (pc := 24) dX9_gather_24 ab_k_0 ?_
      refine ab_istore_n (pc := 25) (i := 3) (lv2 := [some (ab_R a0), some (ab_I a1), some (ab_I a2), some (ab_I (0 : Int)), none]) dX9_gather_25 rfl (Nat.le_of_ble_eq_true rfl) rfl rfl ?_
      refine ab_iconst (pc := 26) dX9_gather_26 ab_k_0 ?_
      refine ab_istore (pc := 27) (i := 4) (lv2 := [some (ab_R a0), some (ab_I a1), some (ab_I a2), some (ab_I (0 : Int)), some (ab_I (0 : Int))]) dX9_gather_27 (Nat.le_of_ble_eq_true rfl) rfl rfl ?_
      refine ab_sub_ (lv2 := [some (ab_R a0), some (ab_I a1), some (ab_I a2), some (ab_I (0 : Int)), some (ab_I (0 : Int))]) (ab_ss (ab_ss (ab_ss (ab_ss (ab_ss ab_s0))))) ?_
      refine e_X9_gather_L29 (fun w68_2 w68_3 hx68 q hk => ?_) _ _ _ _ _ _ _ _ hk
      · skip
        refine ab_iload_n (pc := 68) (i := 2) dX9_gather_68 rfl rfl ?_
        refine ab_iconst (pc := 69) dX9_gather_69 ab_k_m1 ?_
        refine ab_icmp_ne (pc := 70) (tgt := 77) dX9_gather_70 rfl (fun hc => ?_) (fun hc => ?_)
        · have hk := ab_ifn hk hc
          refine ab_iconst (pc := 77) dX9_gather_77 ab_k_m1 ?_
          obtain rfl := Option.some.inj hk
          exact ab_reti (pc := 78) dX9_gather_78 (Or.inl rfl)
        · have hk := ab_ifp hk hc
          refine ab_iload_n (pc := 73) (i := 3) dX9_gather_73 rfl rfl ?_
          refine ab_goto (pc := 74) (tgt := 78) dX9_gather_74 rfl ?_
          obtain rfl := Option.some.inj hk
          exact ab_reti (pc := 78) dX9_gather_78 (Or.inl rfl)
    · have hk := ab_ifn hk hc
      refine ab_bipush (pc := 17) dX9_gather_17 ab_p8_m2 ab_k_m2 ?_
      obtain rfl := Option.some.inj hk
      exact ab_reti (pc := 19) dX9_gather_19 (Or.inl rfl)
theorem dX9_shared_0 : decode cX9_shared 0 = .ok (.iload_n 1, 1) := by decide +kernel
theorem dX9_shared_1 : decode cX9_shared 1 = .ok (.i2l, 1) := by decide +kernel
theorem dX9_shared_2 : decode cX9_shared 2 = .ok (.lconst 0, 1) := by decide +kernel
theorem dX9_shared_3 : decode cX9_shared 3 = .ok (.ldc2_w 349, 3) := by decide +kernel
theorem dX9_shared_6 : decode cX9_shared 6 = .ok (.invokestatic 84, 3) := by decide +kernel
theorem dX9_shared_9 : decode cX9_shared 9 = .ok (.ifCond .ne 6, 3) := by decide +kernel
theorem dX9_shared_12 : decode cX9_shared 12 = .ok (.bipush (-2), 2) := by decide +kernel
theorem dX9_shared_14 : decode cX9_shared 14 = .ok (.ireturn, 1) := by decide +kernel
theorem dX9_shared_15 : decode cX9_shared 15 = .ok (.aload_n 0, 1) := by decide +kernel
theorem dX9_shared_16 : decode cX9_shared 16 = .ok (.invokevirtual 287, 3) := by decide +kernel
theorem dX9_shared_19 : decode cX9_shared 19 = .ok (.iconst 0, 1) := by decide +kernel
theorem dX9_shared_20 : decode cX9_shared 20 = .ok (.istore_n 2, 1) := by decide +kernel
theorem dX9_shared_21 : decode cX9_shared 21 = .ok (.iconst 0, 1) := by decide +kernel
theorem dX9_shared_22 : decode cX9_shared 22 = .ok (.istore_n 3, 1) := by decide +kernel
theorem dX9_shared_23 : decode cX9_shared 23 = .ok (.iload_n 3, 1) := by decide +kernel
theorem dX9_shared_24 : decode cX9_shared 24 = .ok (.aload_n 0, 1) := by decide +kernel
theorem dX9_shared_25 : decode cX9_shared 25 = .ok (.getfield 252, 3) := by decide +kernel
theorem dX9_shared_28 : decode cX9_shared 28 = .ok (.if_icmp .ge 35, 3) := by decide +kernel
theorem dX9_shared_31 : decode cX9_shared 31 = .ok (.iload_n 2, 1) := by decide +kernel
theorem dX9_shared_32 : decode cX9_shared 32 = .ok (.aload_n 0, 1) := by decide +kernel
theorem dX9_shared_33 : decode cX9_shared 33 = .ok (.iload_n 3, 1) := by decide +kernel
theorem dX9_shared_34 : decode cX9_shared 34 = .ok (.iload_n 1, 1) := by decide +kernel
theorem dX9_shared_35 : decode cX9_shared 35 = .ok (.invokevirtual 440, 3) := by decide +kernel
theorem dX9_shared_38 : decode cX9_shared 38 = .ok (.ifCond .eq 16, 3) := by decide +kernel
theorem dX9_shared_41 : decode cX9_shared 41 = .ok (.aload_n 0, 1) := by decide +kernel
theorem dX9_shared_42 : decode cX9_shared 42 = .ok (.iload_n 3, 1) := by decide +kernel
theorem dX9_shared_43 : decode cX9_shared 43 = .ok (.invokevirtual 432, 3) := by decide +kernel
theorem dX9_shared_46 : decode cX9_shared 46 = .ok (.iconst 1, 1) := by decide +kernel
theorem dX9_shared_47 : decode cX9_shared 47 = .ok (.if_icmp .le 7, 3) := by decide +kernel
theorem dX9_shared_50 : decode cX9_shared 50 = .ok (.iconst 1, 1) := by decide +kernel
theorem dX9_shared_51 : decode cX9_shared 51 = .ok (.goto 4, 3) := by decide +kernel
theorem dX9_shared_54 : decode cX9_shared 54 = .ok (.iconst 0, 1) := by decide +kernel
theorem dX9_shared_55 : decode cX9_shared 55 = .ok (.iadd, 1) := by decide +kernel
theorem dX9_shared_56 : decode cX9_shared 56 = .ok (.istore_n 2, 1) := by decide +kernel
theorem dX9_shared_57 : decode cX9_shared 57 = .ok (.iinc 3 1, 3) := by decide +kernel
theorem dX9_shared_60 : decode cX9_shared 60 = .ok (.goto (-37), 3) := by decide +kernel
theorem dX9_shared_63 : decode cX9_shared 63 = .ok (.iload_n 2, 1) := by decide +kernel
theorem dX9_shared_64 : decode cX9_shared 64 = .ok (.ireturn, 1) := by decide +kernel
abbrev mm_X9_shared : ab_M := (RX9, 4, (some .int), false, 5, 113, none)
noncomputable def f_X9_shared_J55 (rec : Int → Int → Int → Int → ab_H → Option (Int × ab_H)) (v0 : Int) (v1 : Int) (v3 : Int) (s1 : Int) (s0 : Int) (h : ab_H) : Option (Int × ab_H) :=
  rec v0 v1 (ab_w32 (s0 + s1)) (ab_w32 (v3 + (1 : Int))) h
set_option maxRecDepth 20000 in
theorem e_X9_shared_J55 {rec : Int → Int → Int → Int → ab_H → Option (Int × ab_H)} (hrec : ∀ (v0 : Int) (v1 : Int) (v2 : Int) (v3 : Int) (h : ab_H) (q : Int × ab_H), rec v0 v1 v2 v3 h = some q → ab_E mm_X9_shared cX9_shared 23 [some (ab_R v0), some (ab_I v1), some (ab_I v2), some (ab_I v3)] [] h (some (ab_I q.1)) q.2) : ∀ (v0 : Int) (v1 : Int) (v3 : Int) (s1 : Int) (s0 : Int) (h : ab_H) (q : Int × ab_H), f_X9_shared_J55 rec v0 v1 v3 s1 s0 h = some q → ab_E mm_X9_shared cX9_shared 55 [some (ab_R v0), some (ab_I v1), none, some (ab_I v3)] [ab_I s1, ab_I s0] h (some (ab_I q.1)) q.2 := by
  intro v0 v1 v3 s1 s0 h q hk
  unfold f_X9_shared_J55 at hk
  refine ab_iadd (pc := 55) dX9_shared_55 ?_
  refine ab_istore_n (pc := 56) (i := 2) (lv2 := [some (ab_R v0), some (ab_I v1), some (ab_I (ab_w32 (s0 + s1))), some (ab_I v3)]) dX9_shared_56 rfl (Nat.le_of_ble_eq_true rfl) rfl rfl ?_
  refine ab_iinc (pc := 57) (i := 3) (lv2 := [some (ab_R v0), some (ab_I v1), some (ab_I (ab_w32 (s0 + s1))), some (ab_I (ab_w32 (v3 + (1 : Int))))]) dX9_shared_57 rfl (Nat.le_of_ble_eq_true rfl) rfl rfl ?_
  refine ab_goto (pc := 60) (tgt := 23) dX9_shared_60 rfl ?_
  refine ab_sub_ (lv2 := [some (ab_R v0), some (ab_I v1), some (ab_I (ab_w32 (s0 + s1))), some (ab_I (ab_w32 (v3 + (1 : Int))))]) (ab_ss (ab_ss (ab_ss (ab_ss ab_s0)))) ?_
  exact hrec _ _ _ _ _ _ hk
noncomputable def f_X9_shared_J54 (rec : Int → Int → Int → Int → ab_H → Option (Int × ab_H)) (v0 : Int) (v1 : Int) (v3 : Int) (s0 : Int) (h : ab_H) : Option (Int × ab_H) :=
  f_X9_shared_J55 rec v0 v1 v3 (0 : Int) s0 h
set_option maxRecDepth 20000 in
theorem e_X9_shared_J54 {rec : Int → Int → Int → Int → ab_H → Option (Int × ab_H)} (hrec : ∀ (v0 : Int) (v1 : Int) (v2 : Int) (v3 : Int) (h : ab_H) (q : Int × ab_H), rec v0 v1 v2 v3 h = some q → ab_E mm_X9_shared cX9_shared 23 [some (ab_R v0), some (ab_I v1), some (ab_I v2), some (ab_I v3)] [] h (some (ab_I q.1)) q.2) : ∀ (v0 : Int) (v1 : Int) (v3 : Int) (s0 : Int) (h : ab_H) (q : Int × ab_H), f_X9_shared_J54 rec v0 v1 v3 s0 h = some q → ab_E mm_X9_shared cX9_shared 54 [some (ab_R v0), some (ab_I v1), none, some (ab_I v3)] [ab_I s0] h (some (ab_I q.1)) q.2 := by
  intro v0 v1 v3 s0 h q hk
  unfold f_X9_shared_J54 at hk
  refine ab_iconst (pc := 54) dX9_shared_54 ab_k_0 ?_
  refine ab_sub_ (lv2 := [some (ab_R v0), some (ab_I v1), none, some (ab_I v3)]) (ab_ss (ab_ss (ab_sn (ab_ss ab_s0)))) ?_
  exact e_X9_shared_J55 hrec _ _ _ _ _ _ _ hk
noncomputable def f_X9_shared_L23 : Nat → Int → Int → Int → Int → ab_H → Option (Int × ab_H)
  | 0, _, _, _, _, _ => none
  | n + 1, v0, v1, v2, v3, h =>
    (ab_get h 10 14 v0).bind fun t1 =>
    if t1 ≤ v3 then
      some (v2, h)
    else
    (ab_on h 10 v0 (f_X9_isIn v0 v3 v1 h)).bind fun q2 =>
    if q2.1 = (0 : Int) then
      f_X9_shared_J54 (f_X9_shared_L23 n) v0 v1 v3 v2 q2.2
    else
    (ab_on q2.2 10 v0 (f_X9_oftenOf v0 v3 q2.2)).bind fun q3 =>
    if q3.1 ≤ (1 : Int) then
      f_X9_shared_J54 (f_X9_shared_L23 n) v0 v1 v3 v2 q3.2
    else
    f_X9_shared_J55 (f_X9_shared_L23 n) v0 v1 v3 (1 : Int) v2 q3.2
set_option maxRecDepth 20000 in
theorem e_X9_shared_L23 : ∀ (n : Nat) (v0 : Int) (v1 : Int) (v2 : Int) (v3 : Int) (h : ab_H) (q : Int × ab_H), f_X9_shared_L23 n v0 v1 v2 v3 h = some q → ab_E mm_X9_shared cX9_shared 23 [some (ab_R v0), some (ab_I v1), some (ab_I v2), some (ab_I v3)] [] h (some (ab_I q.1)) q.2 := by
  intro n
  induction n with
  | zero => intro v0 v1 v2 v3 h q hk; cases hk
  | succ n ih =>
    intro v0 v1 v2 v3 h q hk
    unfold f_X9_shared_L23 at hk
    refine ab_iload_n (pc := 23) (i := 3) dX9_shared_23 rfl rfl ?_
    refine ab_aload_n (pc := 24) (i := 0) dX9_shared_24 rfl rfl ?_
    obtain ⟨t1, ht1, hk⟩ := ab_bnd hk
    refine ab_getI (pc := 25) dX9_shared_25 fl_RX9_252 ht1 ?_
    refine ab_icmp_ge (pc := 28) (tgt := 63) dX9_shared_28 rfl (fun hc => ?_) (fun hc => ?_)
    · have hk := ab_ifp hk hc
      refine ab_iload_n (pc := 63) (i := 2) dX9_shared_63 rfl rfl ?_
      obtain rfl := Option.some.inj hk
      exact ab_reti (pc := 64) dX9_shared_64 (Or.inl rfl)
    · have hk := ab_ifn hk hc
      refine ab_iload_n (pc := 31) (i := 2) dX9_shared_31 rfl rfl ?_
      refine ab_aload_n (pc := 32) (i := 0) dX9_shared_32 rfl rfl ?_
      refine ab_iload_n (pc := 33) (i := 3) dX9_shared_33 rfl rfl ?_
      refine ab_iload_n (pc := 34) (i := 1) dX9_shared_34 rfl rfl ?_
      obtain ⟨q2, hq2, hk⟩ := ab_bnd hk
      obtain ⟨hb, hq2⟩ := ab_on_some hq2
      refine ab_callVI (st := [ab_I v2]) (as := [ab_I v3, ab_I v1]) (b := v0) (pc := 35) dX9_shared_35 ml_RX9_440 my_X9_isIn mv_X9_isIn hb (ct_X9_isIn hq2) ⟨Nat.le_of_ble_eq_true rfl, Nat.le_of_ble_eq_true rfl⟩ rfl (Nat.le_of_ble_eq_true rfl) rfl ?_
      refine ab_if_eq (pc := 38) (tgt := 54) dX9_shared_38 rfl (fun hc => ?_) (fun hc => ?_)
      · have hk := ab_ifp hk hc
        refine ab_sub_ (lv2 := [some (ab_R v0), some (ab_I v1), none, some (ab_I v3)]) (ab_ss (ab_ss (ab_sn (ab_ss ab_s0)))) ?_
        exact e_X9_shared_J54 ih _ _ _ _ _ _ hk
      · have hk := ab_ifn hk hc
        refine ab_aload_n (pc := 41) (i := 0) dX9_shared_41 rfl rfl ?_
        refine ab_iload_n (pc := 42) (i := 3) dX9_shared_42 rfl rfl ?_
        obtain ⟨q3, hq3, hk⟩ := ab_bnd hk
        obtain ⟨hb, hq3⟩ := ab_on_some hq3
        refine ab_callVI (st := [ab_I v2]) (as := [ab_I v3]) (b := v0) (pc := 43) dX9_shared_43 ml_RX9_432 my_X9_oftenOf mv_X9_oftenOf hb (ct_X9_oftenOf hq3) ⟨Nat.le_of_ble_eq_true rfl, Nat.le_of_ble_eq_true rfl⟩ rfl (Nat.le_of_ble_eq_true rfl) rfl ?_
        refine ab_iconst (pc := 46) dX9_shared_46 ab_k_1 ?_
        refine ab_icmp_le (pc := 47) (tgt := 54) dX9_shared_47 rfl (fun hc => ?_) (fun hc => ?_)
        · have hk := ab_ifp hk hc
          refine ab_sub_ (lv2 := [some (ab_R v0), some (ab_I v1), none, some (ab_I v3)]) (ab_ss (ab_ss (ab_sn (ab_ss ab_s0)))) ?_
          exact e_X9_shared_J54 ih _ _ _ _ _ _ hk
        · have hk := ab_ifn hk hc
          refine ab_iconst (pc := 50) dX9_shared_50 ab_k_1 ?_
          refine ab_goto (pc := 51) (tgt := 55) dX9_shared_51 rfl ?_
          refine ab_sub_ (lv2 := [some (ab_R v0), some (ab_I v1), none, some (ab_I v3)]) (ab_ss (ab_ss (ab_sn (ab_ss ab_s0)))) ?_
          exact e_X9_shared_J55 ih _ _ _ _ _ _ _ hk
noncomputable def f_X9_shared (a0 : Int) (a1 : Int) (h : ab_H) : Option (Int × ab_H) :=
  (f_X9_in a1 (0 : Int) (5 : Int) h).bind fun q1 =>
  if q1.1 = (0 : Int) then
    some ((-2 : Int), q1.2)
  else
  (ab_on q1.2 10 a0 (f_X9_laysWords a0 q1.2)).bind fun q2 =>
  f_X9_shared_L23 ab_FU a0 a1 (0 : Int) (0 : Int) q2
set_option maxRecDepth 20000 in
theorem ct_X9_shared {a0 a1 : Int} {h : ab_H} {q : Int × ab_H} (hk : f_X9_shared a0 a1 h = some q) : ab_CT yX9_shared cX9_shared 4 (some .int) 5 113 [ab_R a0, ab_I a1] h (some (ab_I q.1)) q.2 := by
  refine ab_CT.mk_ 2 (own := RX9) (ini := false) (lv := [some (ab_R a0), some (ab_I a1), none, none]) rfl (by decide +kernel) (fun q => by cases q) rfl rfl ?_
  unfold f_X9_shared at hk
  show ab_E mm_X9_shared cX9_shared 0 _ [] h _ _
  refine ab_iload_n (pc := 0) (i := 1) dX9_shared_0 rfl rfl ?_
  refine ab_i2l_ (pc := 1) dX9_shared_1 ?_
  refine ab_lconst (x := (0 : Int)) (pc := 2) dX9_shared_2 rfl ab_kl_0 ?_
  refine ab_ldc2 (x := (5 : Int)) (pc := 3) dX9_shared_3 ab_ld2_RX9_349 ab_kl_5 ?_
  obtain ⟨q1, hq1, hk⟩ := ab_bnd hk
  refine ab_callSI (st := []) (as := [ab_J a1, ab_J (0 : Int), ab_J (5 : Int)]) (pc := 6) dX9_shared_6 ml_RX9_84 my_X9_in ms_X9_in (ct_X9_in hq1) ⟨Nat.le_of_ble_eq_true rfl, Nat.le_of_ble_eq_true rfl⟩ rfl (Nat.le_of_ble_eq_true rfl) rfl ?_
  refine ab_if_ne (pc := 9) (tgt := 15) dX9_shared_9 rfl (fun hc => ?_) (fun hc => ?_)
  · have hk := ab_ifn hk hc
    refine ab_aload_n (pc := 15) (i := 0) dX9_shared_15 rfl rfl ?_
    obtain ⟨q2, hq2, hk⟩ := ab_bnd hk
    obtain ⟨hb, hq2⟩ := ab_on_some hq2
    refine ab_callVV (st := []) (as := []) (b := a0) (pc := 16) dX9_shared_16 ml_RX9_287 my_X9_laysWords mv_X9_laysWords hb (ct_X9_laysWords hq2) ⟨Nat.le_of_ble_eq_true rfl, Nat.le_of_ble_eq_true rfl⟩ rfl (Nat.le_of_ble_eq_true rfl) rfl ?_
    refine ab_iconst (pc := 19) dX9_shared_19 ab_k_0 ?_
    refine ab_istore_n (pc := 20) (i := 2) (lv2 := [some (ab_R a0), some (ab_I a1), some (ab_I (0 : Int)), none]) dX9_shared_20 rfl (Nat.le_of_ble_eq_true rfl) rfl rfl ?_
    refine ab_iconst (pc := 21) dX9_shared_21 ab_k_0 ?_
    refine ab_istore_n (pc := 22) (i := 3) (lv2 := [some (ab_R a0), some (ab_I a1), some (ab_I (0 : Int)), some (ab_I (0 : Int))]) dX9_shared_22 rfl (Nat.le_of_ble_eq_true rfl) rfl rfl ?_
    refine ab_sub_ (lv2 := [some (ab_R a0), some (ab_I a1), some (ab_I (0 : Int)), some (ab_I (0 : Int))]) (ab_ss (ab_ss (ab_ss (ab_ss ab_s0)))) ?_
    refine e_X9_shared_L23 _ _ _ _ _ _ _ hk
  · have hk := ab_ifp hk hc
    refine ab_bipush (pc := 12) dX9_shared_12 ab_p8_m2 ab_k_m2 ?_
    obtain rfl := Option.some.inj hk
    exact ab_reti (pc := 14) dX9_shared_14 (Or.inl rfl)
theorem dX9_lost_0 : decode cX9_lost 0 = .ok (.iload_n 1, 1) := by decide +kernel
theorem dX9_lost_1 : decode cX9_lost 1 = .ok (.ifCond .ge 6, 3) := by decide +kernel
theorem dX9_lost_4 : decode cX9_lost 4 = .ok (.bipush (-2), 2) := by decide +kernel
theorem dX9_lost_6 : decode cX9_lost 6 = .ok (.ireturn, 1) := by decide +kernel
theorem dX9_lost_7 : decode cX9_lost 7 = .ok (.aload_n 0, 1) := by decide +kernel
theorem dX9_lost_8 : decode cX9_lost 8 = .ok (.invokevirtual 314, 3) := by decide +kernel
theorem dX9_lost_11 : decode cX9_lost 11 = .ok (.iload_n 1, 1) := by decide +kernel
theorem dX9_lost_12 : decode cX9_lost 12 = .ok (.aload_n 0, 1) := by decide +kernel
theorem dX9_lost_13 : decode cX9_lost 13 = .ok (.getfield 267, 3) := by decide +kernel
theorem dX9_lost_16 : decode cX9_lost 16 = .ok (.if_icmp .lt 5, 3) := by decide +kernel
theorem dX9_lost_19 : decode cX9_lost 19 = .ok (.iconst (-1), 1) := by decide +kernel
theorem dX9_lost_20 : decode cX9_lost 20 = .ok (.ireturn, 1) := by decide +kernel
theorem dX9_lost_21 : decode cX9_lost 21 = .ok (.aload_n 0, 1) := by decide +kernel
theorem dX9_lost_22 : decode cX9_lost 22 = .ok (.getfield 49, 3) := by decide +kernel
theorem dX9_lost_25 : decode cX9_lost 25 = .ok (.iload_n 1, 1) := by decide +kernel
theorem dX9_lost_26 : decode cX9_lost 26 = .ok (.iaload, 1) := by decide +kernel
theorem dX9_lost_27 : decode cX9_lost 27 = .ok (.istore_n 2, 1) := by decide +kernel
theorem dX9_lost_28 : decode cX9_lost 28 = .ok (.iconst 1, 1) := by decide +kernel
theorem dX9_lost_29 : decode cX9_lost 29 = .ok (.aload_n 0, 1) := by decide +kernel
theorem dX9_lost_30 : decode cX9_lost 30 = .ok (.aload_n 0, 1) := by decide +kernel
theorem dX9_lost_31 : decode cX9_lost 31 = .ok (.getfield 31, 3) := by decide +kernel
theorem dX9_lost_34 : decode cX9_lost 34 = .ok (.iload_n 2, 1) := by decide +kernel
theorem dX9_lost_35 : decode cX9_lost 35 = .ok (.iaload, 1) := by decide +kernel
theorem dX9_lost_36 : decode cX9_lost 36 = .ok (.invokevirtual 255, 3) := by decide +kernel
theorem dX9_lost_39 : decode cX9_lost 39 = .ok (.ishl, 1) := by decide +kernel
theorem dX9_lost_40 : decode cX9_lost 40 = .ok (.iconst 1, 1) := by decide +kernel
theorem dX9_lost_41 : decode cX9_lost 41 = .ok (.isub, 1) := by decide +kernel
theorem dX9_lost_42 : decode cX9_lost 42 = .ok (.iconst 1, 1) := by decide +kernel
theorem dX9_lost_43 : decode cX9_lost 43 = .ok (.aload_n 0, 1) := by decide +kernel
theorem dX9_lost_44 : decode cX9_lost 44 = .ok (.getfield 34, 3) := by decide +kernel
theorem dX9_lost_47 : decode cX9_lost 47 = .ok (.iload_n 2, 1) := by decide +kernel
theorem dX9_lost_48 : decode cX9_lost 48 = .ok (.iaload, 1) := by decide +kernel
theorem dX9_lost_49 : decode cX9_lost 49 = .ok (.ishl, 1) := by decide +kernel
theorem dX9_lost_50 : decode cX9_lost 50 = .ok (.iconst (-1), 1) := by decide +kernel
theorem dX9_lost_51 : decode cX9_lost 51 = .ok (.ixor, 1) := by decide +kernel
theorem dX9_lost_52 : decode cX9_lost 52 = .ok (.iand, 1) := by decide +kernel
theorem dX9_lost_53 : decode cX9_lost 53 = .ok (.istore_n 3, 1) := by decide +kernel
theorem dX9_lost_54 : decode cX9_lost 54 = .ok (.iconst 0, 1) := by decide +kernel
theorem dX9_lost_55 : decode cX9_lost 55 = .ok (.istore 4, 2) := by decide +kernel
theorem dX9_lost_57 : decode cX9_lost 57 = .ok (.iload 4, 2) := by decide +kernel
theorem dX9_lost_59 : decode cX9_lost 59 = .ok (.iconst 2, 1) := by decide +kernel
theorem dX9_lost_60 : decode cX9_lost 60 = .ok (.if_icmp .ge 66, 3) := by decide +kernel
theorem dX9_lost_63 : decode cX9_lost 63 = .ok (.iconst 1, 1) := by decide +kernel
theorem dX9_lost_64 : decode cX9_lost 64 = .ok (.istore 5, 2) := by decide +kernel
theorem dX9_lost_66 : decode cX9_lost 66 = .ok (.iload 5, 2) := by decide +kernel
theorem dX9_lost_68 : decode cX9_lost 68 = .ok (.aload_n 0, 1) := by decide +kernel
theorem dX9_lost_69 : decode cX9_lost 69 = .ok (.getfield 46, 3) := by decide +kernel
theorem dX9_lost_72 : decode cX9_lost 72 = .ok (.bipush 12, 2) := by decide +kernel
theorem dX9_lost_74 : decode cX9_lost 74 = .ok (.iload_n 2, 1) := by decide +kernel
theorem dX9_lost_75 : decode cX9_lost 75 = .ok (.imul, 1) := by decide +kernel
theorem dX9_lost_76 : decode cX9_lost 76 = .ok (.bipush 6, 2) := by decide +kernel
theorem dX9_lost_78 : decode cX9_lost 78 = .ok (.iload 4, 2) := by decide +kernel
theorem dX9_lost_80 : decode cX9_lost 80 = .ok (.imul, 1) := by decide +kernel
theorem dX9_lost_81 : decode cX9_lost 81 = .ok (.iadd, 1) := by decide +kernel
theorem dX9_lost_82 : decode cX9_lost 82 = .ok (.iaload, 1) := by decide +kernel
theorem dX9_lost_83 : decode cX9_lost 83 = .ok (.if_icmp .gt 37, 3) := by decide +kernel
theorem dX9_lost_86 : decode cX9_lost 86 = .ok (.iload_n 3, 1) := by decide +kernel
theorem dX9_lost_87 : decode cX9_lost 87 = .ok (.iconst 1, 1) := by decide +kernel
theorem dX9_lost_88 : decode cX9_lost 88 = .ok (.aload_n 0, 1) := by decide +kernel
theorem dX9_lost_89 : decode cX9_lost 89 = .ok (.getfield 46, 3) := by decide +kernel
theorem dX9_lost_92 : decode cX9_lost 92 = .ok (.bipush 12, 2) := by decide +kernel
theorem dX9_lost_94 : decode cX9_lost 94 = .ok (.iload_n 2, 1) := by decide +kernel
theorem dX9_lost_95 : decode cX9_lost 95 = .ok (.imul, 1) := by decide +kernel
theorem dX9_lost_96 : decode cX9_lost 96 = .ok (.bipush 6, 2) := by decide +kernel
theorem dX9_lost_98 : decode cX9_lost 98 = .ok (.iload 4, 2) := by decide +kernel
theorem dX9_lost_100 : decode cX9_lost 100 = .ok (.imul, 1) := by decide +kernel
theorem dX9_lost_101 : decode cX9_lost 101 = .ok (.iadd, 1) := by decide +kernel
theorem dX9_lost_102 : decode cX9_lost 102 = .ok (.iload 5, 2) := by decide +kernel
theorem dX9_lost_104 : decode cX9_lost 104 = .ok (.iadd, 1) := by decide +kernel
theorem dX9_lost_105 : decode cX9_lost 105 = .ok (.iaload, 1) := by decide +kernel
theorem dX9_lost_106 : decode cX9_lost 106 = .ok (.bipush 6, 2) := by decide +kernel
theorem dX9_lost_108 : decode cX9_lost 108 = .ok (.irem, 1) := by decide +kernel
theorem dX9_lost_109 : decode cX9_lost 109 = .ok (.ishl, 1) := by decide +kernel
theorem dX9_lost_110 : decode cX9_lost 110 = .ok (.iconst (-1), 1) := by decide +kernel
theorem dX9_lost_111 : decode cX9_lost 111 = .ok (.ixor, 1) := by decide +kernel
theorem dX9_lost_112 : decode cX9_lost 112 = .ok (.iand, 1) := by decide +kernel
theorem dX9_lost_113 : decode cX9_lost 113 = .ok (.istore_n 3, 1) := by decide +kernel
theorem dX9_lost_114 : decode cX9_lost 114 = .ok (.iinc 5 1, 3) := by decide +kernel
theorem dX9_lost_117 : decode cX9_lost 117 = .ok (.goto (-51), 3) := by decide +kernel
theorem dX9_lost_120 : decode cX9_lost 120 = .ok (.iinc 4 1, 3) := by decide +kernel
theorem dX9_lost_123 : decode cX9_lost 123 = .ok (.goto (-66), 3) := by decide +kernel
theorem dX9_lost_126 : decode cX9_lost 126 = .ok (.iload_n 3, 1) := by decide +kernel
theorem dX9_lost_127 : decode cX9_lost 127 = .ok (.ireturn, 1) := by decide +kernel
abbrev mm_X9_lost : ab_M := (RX9, 6, (some .int), false, 6, 133, none)
noncomputable def f_X9_lost_L66 (k120 : Int → Int → Int → Int → ab_H → Option (Int × ab_H)) : Nat → Int → Int → Int → Int → Int → ab_H → Option (Int × ab_H)
  | 0, _, _, _, _, _, _ => none
  | n + 1, v0, v2, v3, v4, v5, h =>
    (ab_get h 10 24 v0).bind fun t1 =>
    (ab_ald h 11 t1 (ab_w32 ((ab_w32 ((12 : Int) * v2)) + (ab_w32 ((6 : Int) * v4))))).bind fun t2 =>
    if t2 < v5 then
      k120 v0 v2 v3 v4 h
    else
    (ab_get h 10 24 v0).bind fun t3 =>
    (ab_ald h 11 t3 (ab_w32 ((ab_w32 ((ab_w32 ((12 : Int) * v2)) + (ab_w32 ((6 : Int) * v4)))) + v5))).bind fun t4 =>
    (ab_rm_ t4 (6 : Int)).bind fun t5 =>
    f_X9_lost_L66 k120 n v0 v2 (ab_and v3 (ab_xor (ab_shl (1 : Int) t5) (-1 : Int))) v4 (ab_w32 (v5 + (1 : Int))) h
set_option maxRecDepth 20000 in
theorem e_X9_lost_L66 {k120 : Int → Int → Int → Int → ab_H → Option (Int × ab_H)} (hk120 : ∀ (v0 : Int) (v2 : Int) (v3 : Int) (v4 : Int) (h : ab_H) (q : Int × ab_H), k120 v0 v2 v3 v4 h = some q → ab_E mm_X9_lost cX9_lost 120 [some (ab_R v0), none, some (ab_I v2), some (ab_I v3), some (ab_I v4), none] [] h (some (ab_I q.1)) q.2) : ∀ (n : Nat) (v0 : Int) (v2 : Int) (v3 : Int) (v4 : Int) (v5 : Int) (h : ab_H) (q : Int × ab_H), f_X9_lost_L66 k120 n v0 v2 v3 v4 v5 h = some q → ab_E mm_X9_lost cX9_lost 66 [some (ab_R v0), none, some (ab_I v2), some (ab_I v3), some (ab_I v4), some (ab_I v5)] [] h (some (ab_I q.1)) q.2 := by
  intro n
  induction n with
  | zero => intro v0 v2 v3 v4 v5 h q hk; cases hk
  | succ n ih =>
    intro v0 v2 v3 v4 v5 h q hk
    unfold f_X9_lost_L66 at hk
    refine ab_iload (pc := 66) (i := 5) dX9_lost_66 rfl ?_
    refine ab_aload_n (pc := 68) (i := 0) dX9_lost_68 rfl rfl ?_
    obtain ⟨t1, ht1, hk⟩ := ab_bnd hk
    refine ab_getR (pc := 69) dX9_lost_69 fl_RX9_46 ht1 ?_
    refine ab_bipush (pc := 72) dX9_lost_72 ab_p8_12 ab_k_12 ?_
    refine ab_iload_n (pc := 74) (i := 2) dX9_lost_74 rfl rfl ?_
    refine ab_imul (pc := 75) dX9_lost_75 ?_
    refine ab_bipush (pc := 76) dX9_lost_76 ab_p8_6 ab_k_6 ?_
    refine ab_iload (pc := 78) (i := 4) dX9_lost_78 rfl ?_
    refine ab_imul (pc := 80) dX9_lost_80 ?_
    refine ab_iadd (pc := 81) dX9_lost_81 ?_
    obtain ⟨t2, ht2, hk⟩ := ab_bnd hk
    refine ab_iald (pc := 82) dX9_lost_82 ht2 ?_
    refine ab_icmp_gt (pc := 83) (tgt := 120) dX9_lost_83 rfl (fun hc => ?_) (fun hc => ?_)
    · have hk := ab_ifp hk hc
      refine ab_sub_ (lv2 := [some (ab_R v0), none, some (ab_I v2), some (ab_I v3), some (ab_I v4), none]) (ab_ss (ab_sn (ab_ss (ab_ss (ab_ss (ab_sn ab_s0)))))) ?_
      exact hk120 _ _ _ _ _ _ hk
    · have hk := ab_ifn hk hc
      refine ab_iload_n (pc := 86) (i := 3) dX9_lost_86 rfl rfl ?_
      refine ab_iconst (pc := 87) dX9_lost_87 ab_k_1 ?_
      refine ab_aload_n (pc := 88) (i := 0) dX9_lost_88 rfl rfl ?_
      obtain ⟨t3, ht3, hk⟩ := ab_bnd hk
      refine ab_getR (pc := 89) dX9_lost_89 fl_RX9_46 ht3 ?_
      refine ab_bipush (pc := 92) dX9_lost_92 ab_p8_12 ab_k_12 ?_
      refine ab_iload_n (pc := 94) (i := 2) dX9_lost_94 rfl rfl ?_
      refine ab_imul (pc := 95) dX9_lost_95 ?_
      refine ab_bipush (pc := 96) dX9_lost_96 ab_p8_6 ab_k_6 ?_
      refine ab_iload (pc := 98) (i := 4) dX9_lost_98 rfl ?_
      refine ab_imul (pc := 100) dX9_lost_100 ?_
      refine ab_iadd (pc := 101) dX9_lost_101 ?_
      refine ab_iload (pc := 102) (i := 5) dX9_lost_102 rfl ?_
      refine ab_iadd (pc := 104) dX9_lost_104 ?_
      obtain ⟨t4, ht4, hk⟩ := ab_bnd hk
      refine ab_iald (pc := 105) dX9_lost_105 ht4 ?_
      refine ab_bipush (pc := 106) dX9_lost_106 ab_p8_6 ab_k_6 ?_
      obtain ⟨t5, ht5, hk⟩ := ab_bnd hk
      refine ab_irem_ (pc := 108) dX9_lost_108 ht5 ?_
      refine ab_ishl (pc := 109) dX9_lost_109 ?_
      refine ab_iconst (pc := 110) dX9_lost_110 ab_k_m1 ?_
      refine ab_ixor (pc := 111) dX9_lost_111 ?_
      refine ab_iand (pc := 112) dX9_lost_112 ?_
      refine ab_istore_n (pc := 113) (i := 3) (lv2 := [some (ab_R v0), none, some (ab_I v2), some (ab_I (ab_and v3 (ab_xor (ab_shl (1 : Int) t5) (-1 : Int)))), some (ab_I v4), some (ab_I v5)]) dX9_lost_113 rfl (Nat.le_of_ble_eq_true rfl) rfl rfl ?_
      refine ab_iinc (pc := 114) (i := 5) (lv2 := [some (ab_R v0), none, some (ab_I v2), some (ab_I (ab_and v3 (ab_xor (ab_shl (1 : Int) t5) (-1 : Int)))), some (ab_I v4), some (ab_I (ab_w32 (v5 + (1 : Int))))]) dX9_lost_114 rfl (Nat.le_of_ble_eq_true rfl) rfl rfl ?_
      refine ab_goto (pc := 117) (tgt := 66) dX9_lost_117 rfl ?_
      refine ab_sub_ (lv2 := [some (ab_R v0), none, some (ab_I v2), some (ab_I (ab_and v3 (ab_xor (ab_shl (1 : Int) t5) (-1 : Int)))), some (ab_I v4), some (ab_I (ab_w32 (v5 + (1 : Int))))]) (ab_ss (ab_sn (ab_ss (ab_ss (ab_ss (ab_ss ab_s0)))))) ?_
      exact ih _ _ _ _ _ _ _ hk
noncomputable def f_X9_lost_L57 : Nat → Int → Int → Int → Int → ab_H → Option (Int × ab_H)
  | 0, _, _, _, _, _ => none
  | n + 1, v0, v2, v3, v4, h =>
    if (2 : Int) ≤ v4 then
      some (v3, h)
    else
    f_X9_lost_L66 (fun w120_0 w120_2 w120_3 w120_4 hx120 =>
      f_X9_lost_L57 n w120_0 w120_2 w120_3 (ab_w32 (w120_4 + (1 : Int))) hx120) ab_FU v0 v2 v3 v4 (1 : Int) h
set_option maxRecDepth 20000 in
theorem e_X9_lost_L57 : ∀ (n : Nat) (v0 : Int) (v2 : Int) (v3 : Int) (v4 : Int) (h : ab_H) (q : Int × ab_H), f_X9_lost_L57 n v0 v2 v3 v4 h = some q → ab_E mm_X9_lost cX9_lost 57 [some (ab_R v0), none, some (ab_I v2), some (ab_I v3), some (ab_I v4), none] [] h (some (ab_I q.1)) q.2 := by
  intro n
  induction n with
  | zero => intro v0 v2 v3 v4 h q hk; cases hk
  | succ n ih =>
    intro v0 v2 v3 v4 h q hk
    unfold f_X9_lost_L57 at hk
    refine ab_iload (pc := 57) (i := 4) dX9_lost_57 rfl ?_
    refine ab_iconst (pc := 59) dX9_lost_59 ab_k_2 ?_
    refine ab_icmp_ge (pc := 60) (tgt := 126) dX9_lost_60 rfl (fun hc => ?_) (fun hc => ?_)
    · have hk := ab_ifp hk hc
      refine ab_iload_n (pc := 126) (i := 3) dX9_lost_126 rfl rfl ?_
      obtain rfl := Option.some.inj hk
      exact ab_reti (pc := 127) dX9_lost_127 (Or.inl rfl)
    · have hk := ab_ifn hk hc
      refine ab_iconst (pc := 63) dX9_lost_63 ab_k_1 ?_
      refine ab_istore (pc := 64) (i := 5) (lv2 := [some (ab_R v0), none, some (ab_I v2), some (ab_I v3), some (ab_I v4), some (ab_I (1 : Int))]) dX9_lost_64 (Nat.le_of_ble_eq_true rfl) rfl rfl ?_
      refine ab_sub_ (lv2 := [some (ab_R v0), none, some (ab_I v2), some (ab_I v3), some (ab_I v4), some (ab_I (1 : Int))]) (ab_ss (ab_sn (ab_ss (ab_ss (ab_ss (ab_ss ab_s0)))))) ?_
      refine e_X9_lost_L66 (fun w120_0 w120_2 w120_3 w120_4 hx120 q hk => ?_) _ _ _ _ _ _ _ _ hk
      · skip
        refine ab_iinc (pc := 120) (i := 4) (lv2 := [some (ab_R w120_0), none, some (ab_I w120_2), some (ab_I w120_3), some (ab_I (ab_w32 (w120_4 + (1 : Int)))), none]) dX9_lost_120 rfl (Nat.le_of_ble_eq_true rfl) rfl rfl ?_
        refine ab_goto (pc := 123) (tgt := 57) dX9_lost_123 rfl ?_
        refine ab_sub_ (lv2 := [some (ab_R w120_0), none, some (ab_I w120_2), some (ab_I w120_3), some (ab_I (ab_w32 (w120_4 + (1 : Int)))), none]) (ab_ss (ab_sn (ab_ss (ab_ss (ab_ss (ab_sn ab_s0)))))) ?_
        exact ih _ _ _ _ _ _ hk
noncomputable def f_X9_lost (a0 : Int) (a1 : Int) (h : ab_H) : Option (Int × ab_H) :=
  if (0 : Int) ≤ a1 then
    (ab_on h 10 a0 (f_X9_lays a0 h)).bind fun q1 =>
    (ab_get q1 10 16 a0).bind fun t2 =>
    if a1 < t2 then
      (ab_get q1 10 26 a0).bind fun t3 =>
      (ab_ald q1 11 t3 a1).bind fun t4 =>
      (ab_get q1 10 19 a0).bind fun t5 =>
      (ab_ald q1 11 t5 t4).bind fun t6 =>
      (ab_on q1 10 a0 (f_X9_terms a0 t6 q1)).bind fun q7 =>
      (ab_get q7.2 10 20 a0).bind fun t8 =>
      (ab_ald q7.2 11 t8 t4).bind fun t9 =>
      f_X9_lost_L57 ab_FU a0 t4 (ab_and (ab_w32 ((ab_shl (1 : Int) q7.1) - (1 : Int))) (ab_xor (ab_shl (1 : Int) t9) (-1 : Int))) (0 : Int) q7.2
    else
    some ((-1 : Int), q1)
  else
  some ((-2 : Int), h)
set_option maxRecDepth 20000 in
theorem ct_X9_lost {a0 a1 : Int} {h : ab_H} {q : Int × ab_H} (hk : f_X9_lost a0 a1 h = some q) : ab_CT yX9_lost cX9_lost 6 (some .int) 6 133 [ab_R a0, ab_I a1] h (some (ab_I q.1)) q.2 := by
  refine ab_CT.mk_ 4 (own := RX9) (ini := false) (lv := [some (ab_R a0), some (ab_I a1), none, none, none, none]) rfl (by decide +kernel) (fun q => by cases q) rfl rfl ?_
  unfold f_X9_lost at hk
  show ab_E mm_X9_lost cX9_lost 0 _ [] h _ _
  refine ab_iload_n (pc := 0) (i := 1) dX9_lost_0 rfl rfl ?_
  refine ab_if_ge (pc := 1) (tgt := 7) dX9_lost_1 rfl (fun hc => ?_) (fun hc => ?_)
  · have hk := ab_ifp hk hc
    refine ab_aload_n (pc := 7) (i := 0) dX9_lost_7 rfl rfl ?_
    obtain ⟨q1, hq1, hk⟩ := ab_bnd hk
    obtain ⟨hb, hq1⟩ := ab_on_some hq1
    refine ab_callVV (st := []) (as := []) (b := a0) (pc := 8) dX9_lost_8 ml_RX9_314 my_X9_lays mv_X9_lays hb (ct_X9_lays hq1) ⟨Nat.le_of_ble_eq_true rfl, Nat.le_of_ble_eq_true rfl⟩ rfl (Nat.le_of_ble_eq_true rfl) rfl ?_
    refine ab_iload_n (pc := 11) (i := 1) dX9_lost_11 rfl rfl ?_
    refine ab_aload_n (pc := 12) (i := 0) dX9_lost_12 rfl rfl ?_
    obtain ⟨t2, ht2, hk⟩ := ab_bnd hk
    refine ab_getI (pc := 13) dX9_lost_13 fl_RX9_267 ht2 ?_
    refine ab_icmp_lt (pc := 16) (tgt := 21) dX9_lost_16 rfl (fun hc => ?_) (fun hc => ?_)
    · have hk := ab_ifp hk hc
      refine ab_aload_n (pc := 21) (i := 0) dX9_lost_21 rfl rfl ?_
      obtain ⟨t3, ht3, hk⟩ := ab_bnd hk
      refine ab_getR (pc := 22) dX9_lost_22 fl_RX9_49 ht3 ?_
      refine ab_iload_n (pc := 25) (i := 1) dX9_lost_25 rfl rfl ?_
      obtain ⟨t4, ht4, hk⟩ := ab_bnd hk
      refine ab_iald (pc := 26) dX9_lost_26 ht4 ?_
      refine ab_istore_n (pc := 27) (i := 2) (lv2 := [some (ab_R a0), some (ab_I a1), some (ab_I t4), none, none, none]) dX9_lost_27 rfl (Nat.le_of_ble_eq_true rfl) rfl rfl ?_
      refine ab_iconst (pc := 28) dX9_lost_28 ab_k_1 ?_
      refine ab_aload_n (pc := 29) (i := 0) dX9_lost_29 rfl rfl ?_
      refine ab_aload_n (pc := 30) (i := 0) dX9_lost_30 rfl rfl ?_
      obtain ⟨t5, ht5, hk⟩ := ab_bnd hk
      refine ab_getR (pc := 31) dX9_lost_31 fl_RX9_31 ht5 ?_
      refine ab_iload_n (pc := 34) (i := 2) dX9_lost_34 rfl rfl ?_
      obtain ⟨t6, ht6, hk⟩ := ab_bnd hk
      refine ab_iald (pc := 35) dX9_lost_35 ht6 ?_
      obtain ⟨q7, hq7, hk⟩ := ab_bnd hk
      obtain ⟨hb, hq7⟩ := ab_on_some hq7
      refine ab_callVI (st := [ab_I (1 : Int)]) (as := [ab_I t6]) (b := a0) (pc := 36) dX9_lost_36 ml_RX9_255 my_X9_terms mv_X9_terms hb (ct_X9_terms hq7) ⟨Nat.le_of_ble_eq_true rfl, Nat.le_of_ble_eq_true rfl⟩ rfl (Nat.le_of_ble_eq_true rfl) rfl ?_
      refine ab_ishl (pc := 39) dX9_lost_39 ?_
      refine ab_iconst (pc := 40) dX9_lost_40 ab_k_1 ?_
      refine ab_isub (pc := 41) dX9_lost_41 ?_
      refine ab_iconst (pc := 42) dX9_lost_42 ab_k_1 ?_
      refine ab_aload_n (pc := 43) (i := 0) dX9_lost_43 rfl rfl ?_
      obtain ⟨t8, ht8, hk⟩ := ab_bnd hk
      refine ab_getR (pc := 44) dX9_lost_44 fl_RX9_34 ht8 ?_
      refine ab_iload_n (pc := 47) (i := 2) dX9_lost_47 rfl rfl ?_
      obtain ⟨t9, ht9, hk⟩ := ab_bnd hk
      refine ab_iald (pc := 48) dX9_lost_48 ht9 ?_
      refine ab_ishl (pc := 49) dX9_lost_49 ?_
      refine ab_iconst (pc := 50) dX9_lost_50 ab_k_m1 ?_
      refine ab_ixor (pc := 51) dX9_lost_51 ?_
      refine ab_iand (pc := 52) dX9_lost_52 ?_
      refine ab_istore_n (pc := 53) (i := 3) (lv2 := [some (ab_R a0), some (ab_I a1), some (ab_I t4), some (ab_I (ab_and (ab_w32 ((ab_shl (1 : Int) q7.1) - (1 : Int))) (ab_xor (ab_shl (1 : Int) t9) (-1 : Int)))), none, none]) dX9_lost_53 rfl (Nat.le_of_ble_eq_true rfl) rfl rfl ?_
      refine ab_iconst (pc := 54) dX9_lost_54 ab_k_0 ?_
      refine ab_istore (pc := 55) (i := 4) (lv2 := [some (ab_R a0), some (ab_I a1), some (ab_I t4), some (ab_I (ab_and (ab_w32 ((ab_shl (1 : Int) q7.1) - (1 : Int))) (ab_xor (ab_shl (1 : Int) t9) (-1 : Int)))), some (ab_I (0 : Int)), none]) dX9_lost_55 (Nat.le_of_ble_eq_true rfl) rfl rfl ?_
      refine ab_sub_ (lv2 := [some (ab_R a0), none, some (ab_I t4), some (ab_I (ab_and (ab_w32 ((ab_shl (1 : Int) q7.1) - (1 : Int))) (ab_xor (ab_shl (1 : Int) t9) (-1 : Int)))), some (ab_I (0 : Int)), none]) (ab_ss (ab_sn (ab_ss (ab_ss (ab_ss (ab_sn ab_s0)))))) ?_
      refine e_X9_lost_L57 _ _ _ _ _ _ _ hk
    · have hk := ab_ifn hk hc
      refine ab_iconst (pc := 19) dX9_lost_19 ab_k_m1 ?_
      obtain rfl := Option.some.inj hk
      exact ab_reti (pc := 20) dX9_lost_20 (Or.inl rfl)
  · have hk := ab_ifn hk hc
    refine ab_bipush (pc := 4) dX9_lost_4 ab_p8_m2 ab_k_m2 ?_
    obtain rfl := Option.some.inj hk
    exact ab_reti (pc := 6) dX9_lost_6 (Or.inl rfl)
theorem dX9_laysFar_0 : decode cX9_laysFar 0 = .ok (.iconst 0, 1) := by decide +kernel
theorem dX9_laysFar_1 : decode cX9_laysFar 1 = .ok (.istore_n 2, 1) := by decide +kernel
theorem dX9_laysFar_2 : decode cX9_laysFar 2 = .ok (.iload_n 2, 1) := by decide +kernel
theorem dX9_laysFar_3 : decode cX9_laysFar 3 = .ok (.aload_n 0, 1) := by decide +kernel
theorem dX9_laysFar_4 : decode cX9_laysFar 4 = .ok (.getfield 252, 3) := by decide +kernel
theorem dX9_laysFar_7 : decode cX9_laysFar 7 = .ok (.if_icmp .ge 25, 3) := by decide +kernel
theorem dX9_laysFar_10 : decode cX9_laysFar 10 = .ok (.aload_n 0, 1) := by decide +kernel
theorem dX9_laysFar_11 : decode cX9_laysFar 11 = .ok (.getfield 64, 3) := by decide +kernel
theorem dX9_laysFar_14 : decode cX9_laysFar 14 = .ok (.iload_n 2, 1) := by decide +kernel
theorem dX9_laysFar_15 : decode cX9_laysFar 15 = .ok (.iload_n 2, 1) := by decide +kernel
theorem dX9_laysFar_16 : decode cX9_laysFar 16 = .ok (.iload_n 1, 1) := by decide +kernel
theorem dX9_laysFar_17 : decode cX9_laysFar 17 = .ok (.if_icmp .ne 7, 3) := by decide +kernel
theorem dX9_laysFar_20 : decode cX9_laysFar 20 = .ok (.iconst 0, 1) := by decide +kernel
theorem dX9_laysFar_21 : decode cX9_laysFar 21 = .ok (.goto 4, 3) := by decide +kernel
theorem dX9_laysFar_24 : decode cX9_laysFar 24 = .ok (.iconst (-1), 1) := by decide +kernel
theorem dX9_laysFar_25 : decode cX9_laysFar 25 = .ok (.iastore, 1) := by decide +kernel
theorem dX9_laysFar_26 : decode cX9_laysFar 26 = .ok (.iinc 2 1, 3) := by decide +kernel
theorem dX9_laysFar_29 : decode cX9_laysFar 29 = .ok (.goto (-27), 3) := by decide +kernel
theorem dX9_laysFar_32 : decode cX9_laysFar 32 = .ok (.iconst 0, 1) := by decide +kernel
theorem dX9_laysFar_33 : decode cX9_laysFar 33 = .ok (.istore_n 2, 1) := by decide +kernel
theorem dX9_laysFar_34 : decode cX9_laysFar 34 = .ok (.iload_n 2, 1) := by decide +kernel
theorem dX9_laysFar_35 : decode cX9_laysFar 35 = .ok (.aload_n 0, 1) := by decide +kernel
theorem dX9_laysFar_36 : decode cX9_laysFar 36 = .ok (.getfield 252, 3) := by decide +kernel
theorem dX9_laysFar_39 : decode cX9_laysFar 39 = .ok (.if_icmp .ge 142, 3) := by decide +kernel
theorem dX9_laysFar_42 : decode cX9_laysFar 42 = .ok (.iconst 0, 1) := by decide +kernel
theorem dX9_laysFar_43 : decode cX9_laysFar 43 = .ok (.istore_n 3, 1) := by decide +kernel
theorem dX9_laysFar_44 : decode cX9_laysFar 44 = .ok (.iload_n 3, 1) := by decide +kernel
theorem dX9_laysFar_45 : decode cX9_laysFar 45 = .ok (.aload_n 0, 1) := by decide +kernel
theorem dX9_laysFar_46 : decode cX9_laysFar 46 = .ok (.invokevirtual 246, 3) := by decide +kernel
theorem dX9_laysFar_49 : decode cX9_laysFar 49 = .ok (.if_icmp .ge 126, 3) := by decide +kernel
theorem dX9_laysFar_52 : decode cX9_laysFar 52 = .ok (.iconst 0, 1) := by decide +kernel
theorem dX9_laysFar_53 : decode cX9_laysFar 53 = .ok (.istore 4, 2) := by decide +kernel
theorem dX9_laysFar_55 : decode cX9_laysFar 55 = .ok (.iconst 0, 1) := by decide +kernel
theorem dX9_laysFar_56 : decode cX9_laysFar 56 = .ok (.istore 5, 2) := by decide +kernel
theorem dX9_laysFar_58 : decode cX9_laysFar 58 = .ok (.iload 5, 2) := by decide +kernel
theorem dX9_laysFar_60 : decode cX9_laysFar 60 = .ok (.aload_n 0, 1) := by decide +kernel
theorem dX9_laysFar_61 : decode cX9_laysFar 61 = .ok (.iload_n 3, 1) := by decide +kernel
theorem dX9_laysFar_62 : decode cX9_laysFar 62 = .ok (.invokevirtual 255, 3) := by decide +kernel
theorem dX9_laysFar_65 : decode cX9_laysFar 65 = .ok (.if_icmp .ge 41, 3) := by decide +kernel
theorem dX9_laysFar_68 : decode cX9_laysFar 68 = .ok (.iload 4, 2) := by decide +kernel
theorem dX9_laysFar_70 : decode cX9_laysFar 70 = .ok (.ifCond .ne 23, 3) := by decide +kernel
theorem dX9_laysFar_73 : decode cX9_laysFar 73 = .ok (.aload_n 0, 1) := by decide +kernel
theorem dX9_laysFar_74 : decode cX9_laysFar 74 = .ok (.getfield 64, 3) := by decide +kernel
theorem dX9_laysFar_77 : decode cX9_laysFar 77 = .ok (.aload_n 0, 1) := by decide +kernel
theorem dX9_laysFar_78 : decode cX9_laysFar 78 = .ok (.getfield 27, 3) := by decide +kernel
theorem dX9_laysFar_81 : decode cX9_laysFar 81 = .ok (.iload_n 3, 1) := by decide +kernel
theorem dX9_laysFar_82 : decode cX9_laysFar 82 = .ok (.iload 5, 2) := by decide +kernel
theorem dX9_laysFar_84 : decode cX9_laysFar 84 = .ok (.invokestatic 262, 3) := by decide +kernel
theorem dX9_laysFar_87 : decode cX9_laysFar 87 = .ok (.iaload, 1) := by decide +kernel
theorem dX9_laysFar_88 : decode cX9_laysFar 88 = .ok (.iaload, 1) := by decide +kernel
theorem dX9_laysFar_89 : decode cX9_laysFar 89 = .ok (.iload_n 2, 1) := by decide +kernel
theorem dX9_laysFar_90 : decode cX9_laysFar 90 = .ok (.if_icmp .ne 7, 3) := by decide +kernel
theorem dX9_laysFar_93 : decode cX9_laysFar 93 = .ok (.iconst 1, 1) := by decide +kernel
theorem dX9_laysFar_94 : decode cX9_laysFar 94 = .ok (.goto 4, 3) := by decide +kernel
theorem dX9_laysFar_97 : decode cX9_laysFar 97 = .ok (.iconst 0, 1) := by decide +kernel
theorem dX9_laysFar_98 : decode cX9_laysFar 98 = .ok (.istore 4, 2) := by decide +kernel
theorem dX9_laysFar_100 : decode cX9_laysFar 100 = .ok (.iinc 5 1, 3) := by decide +kernel
theorem dX9_laysFar_103 : decode cX9_laysFar 103 = .ok (.goto (-45), 3) := by decide +kernel
theorem dX9_laysFar_106 : decode cX9_laysFar 106 = .ok (.iconst 0, 1) := by decide +kernel
theorem dX9_laysFar_107 : decode cX9_laysFar 107 = .ok (.istore 5, 2) := by decide +kernel
theorem dX9_laysFar_109 : decode cX9_laysFar 109 = .ok (.iload 5, 2) := by decide +kernel
theorem dX9_laysFar_111 : decode cX9_laysFar 111 = .ok (.aload_n 0, 1) := by decide +kernel
theorem dX9_laysFar_112 : decode cX9_laysFar 112 = .ok (.iload_n 3, 1) := by decide +kernel
theorem dX9_laysFar_113 : decode cX9_laysFar 113 = .ok (.invokevirtual 255, 3) := by decide +kernel
theorem dX9_laysFar_116 : decode cX9_laysFar 116 = .ok (.if_icmp .ge 53, 3) := by decide +kernel
theorem dX9_laysFar_119 : decode cX9_laysFar 119 = .ok (.iload 4, 2) := by decide +kernel
theorem dX9_laysFar_121 : decode cX9_laysFar 121 = .ok (.ifCond .eq 48, 3) := by decide +kernel
theorem dX9_laysFar_124 : decode cX9_laysFar 124 = .ok (.aload_n 0, 1) := by decide +kernel
theorem dX9_laysFar_125 : decode cX9_laysFar 125 = .ok (.getfield 64, 3) := by decide +kernel
theorem dX9_laysFar_128 : decode cX9_laysFar 128 = .ok (.aload_n 0, 1) := by decide +kernel
theorem dX9_laysFar_129 : decode cX9_laysFar 129 = .ok (.getfield 27, 3) := by decide +kernel
theorem dX9_laysFar_132 : decode cX9_laysFar 132 = .ok (.iload_n 3, 1) := by decide +kernel
theorem dX9_laysFar_133 : decode cX9_laysFar 133 = .ok (.iload 5, 2) := by decide +kernel
theorem dX9_laysFar_135 : decode cX9_laysFar 135 = .ok (.invokestatic 262, 3) := by decide +kernel
theorem dX9_laysFar_138 : decode cX9_laysFar 138 = .ok (.iaload, 1) := by decide +kernel
theorem dX9_laysFar_139 : decode cX9_laysFar 139 = .ok (.iaload, 1) := by decide +kernel
theorem dX9_laysFar_140 : decode cX9_laysFar 140 = .ok (.iconst (-1), 1) := by decide +kernel
theorem dX9_laysFar_141 : decode cX9_laysFar 141 = .ok (.if_icmp .ne 22, 3) := by decide +kernel
theorem dX9_laysFar_144 : decode cX9_laysFar 144 = .ok (.aload_n 0, 1) := by decide +kernel
theorem dX9_laysFar_145 : decode cX9_laysFar 145 = .ok (.getfield 64, 3) := by decide +kernel
theorem dX9_laysFar_148 : decode cX9_laysFar 148 = .ok (.aload_n 0, 1) := by decide +kernel
theorem dX9_laysFar_149 : decode cX9_laysFar 149 = .ok (.getfield 27, 3) := by decide +kernel
theorem dX9_laysFar_152 : decode cX9_laysFar 152 = .ok (.iload_n 3, 1) := by decide +kernel
theorem dX9_laysFar_153 : decode cX9_laysFar 153 = .ok (.iload 5, 2) := by decide +kernel
theorem dX9_laysFar_155 : decode cX9_laysFar 155 = .ok (.invokestatic 262, 3) := by decide +kernel
theorem dX9_laysFar_158 : decode cX9_laysFar 158 = .ok (.iaload, 1) := by decide +kernel
theorem dX9_laysFar_159 : decode cX9_laysFar 159 = .ok (.iload_n 2, 1) := by decide +kernel
theorem dX9_laysFar_160 : decode cX9_laysFar 160 = .ok (.iconst 1, 1) := by decide +kernel
theorem dX9_laysFar_161 : decode cX9_laysFar 161 = .ok (.iadd, 1) := by decide +kernel
theorem dX9_laysFar_162 : decode cX9_laysFar 162 = .ok (.iastore, 1) := by decide +kernel
theorem dX9_laysFar_163 : decode cX9_laysFar 163 = .ok (.iinc 5 1, 3) := by decide +kernel
theorem dX9_laysFar_166 : decode cX9_laysFar 166 = .ok (.goto (-57), 3) := by decide +kernel
theorem dX9_laysFar_169 : decode cX9_laysFar 169 = .ok (.iinc 3 1, 3) := by decide +kernel
theorem dX9_laysFar_172 : decode cX9_laysFar 172 = .ok (.goto (-128), 3) := by decide +kernel
theorem dX9_laysFar_175 : decode cX9_laysFar 175 = .ok (.iinc 2 1, 3) := by decide +kernel
theorem dX9_laysFar_178 : decode cX9_laysFar 178 = .ok (.goto (-144), 3) := by decide +kernel
theorem dX9_laysFar_181 : decode cX9_laysFar 181 = .ok (.return_, 1) := by decide +kernel
abbrev mm_X9_laysFar : ab_M := (RX9, 6, none, false, 1, 21, none)
noncomputable def f_X9_laysFar_J169 (rec : Int → Int → Int → ab_H → Option ab_H) (k175 : Int → Int → ab_H → Option ab_H) (v0 : Int) (v2 : Int) (v3 : Int) (h : ab_H) : Option ab_H :=
  rec v0 v2 (ab_w32 (v3 + (1 : Int))) h
set_option maxRecDepth 20000 in
theorem e_X9_laysFar_J169 {rec : Int → Int → Int → ab_H → Option ab_H} {k175 : Int → Int → ab_H → Option ab_H} (hrec : ∀ (v0 : Int) (v2 : Int) (v3 : Int) (h : ab_H) (q : ab_H), rec v0 v2 v3 h = some q → ab_E mm_X9_laysFar cX9_laysFar 44 [some (ab_R v0), none, some (ab_I v2), some (ab_I v3), none, none] [] h none q) (hk175 : ∀ (v0 : Int) (v2 : Int) (h : ab_H) (q : ab_H), k175 v0 v2 h = some q → ab_E mm_X9_laysFar cX9_laysFar 175 [some (ab_R v0), none, some (ab_I v2), none, none, none] [] h none q) : ∀ (v0 : Int) (v2 : Int) (v3 : Int) (h : ab_H) (q : ab_H), f_X9_laysFar_J169 rec k175 v0 v2 v3 h = some q → ab_E mm_X9_laysFar cX9_laysFar 169 [some (ab_R v0), none, some (ab_I v2), some (ab_I v3), none, none] [] h none q := by
  intro v0 v2 v3 h q hk
  unfold f_X9_laysFar_J169 at hk
  refine ab_iinc (pc := 169) (i := 3) (lv2 := [some (ab_R v0), none, some (ab_I v2), some (ab_I (ab_w32 (v3 + (1 : Int)))), none, none]) dX9_laysFar_169 rfl (Nat.le_of_ble_eq_true rfl) rfl rfl ?_
  refine ab_goto (pc := 172) (tgt := 44) dX9_laysFar_172 rfl ?_
  refine ab_sub_ (lv2 := [some (ab_R v0), none, some (ab_I v2), some (ab_I (ab_w32 (v3 + (1 : Int)))), none, none]) (ab_ss (ab_sn (ab_ss (ab_ss (ab_sn (ab_sn ab_s0)))))) ?_
  exact hrec _ _ _ _ _ hk
noncomputable def f_X9_laysFar_J163 (rec : Int → Int → Int → Int → Int → ab_H → Option ab_H) (k169 : Int → Int → Int → ab_H → Option ab_H) (v0 : Int) (v2 : Int) (v3 : Int) (v4 : Int) (v5 : Int) (h : ab_H) : Option ab_H :=
  rec v0 v2 v3 v4 (ab_w32 (v5 + (1 : Int))) h
set_option maxRecDepth 20000 in
theorem e_X9_laysFar_J163 {rec : Int → Int → Int → Int → Int → ab_H → Option ab_H} {k169 : Int → Int → Int → ab_H → Option ab_H} (hrec : ∀ (v0 : Int) (v2 : Int) (v3 : Int) (v4 : Int) (v5 : Int) (h : ab_H) (q : ab_H), rec v0 v2 v3 v4 v5 h = some q → ab_E mm_X9_laysFar cX9_laysFar 109 [some (ab_R v0), none, some (ab_I v2), some (ab_I v3), some (ab_I v4), some (ab_I v5)] [] h none q) (hk169 : ∀ (v0 : Int) (v2 : Int) (v3 : Int) (h : ab_H) (q : ab_H), k169 v0 v2 v3 h = some q → ab_E mm_X9_laysFar cX9_laysFar 169 [some (ab_R v0), none, some (ab_I v2), some (ab_I v3), none, none] [] h none q) : ∀ (v0 : Int) (v2 : Int) (v3 : Int) (v4 : Int) (v5 : Int) (h : ab_H) (q : ab_H), f_X9_laysFar_J163 rec k169 v0 v2 v3 v4 v5 h = some q → ab_E mm_X9_laysFar cX9_laysFar 163 [some (ab_R v0), none, some (ab_I v2), some (ab_I v3), some (ab_I v4), some (ab_I v5)] [] h none q := by
  intro v0 v2 v3 v4 v5 h q hk
  unfold f_X9_laysFar_J163 at hk
  refine ab_iinc (pc := 163) (i := 5) (lv2 := [some (ab_R v0), none, some (ab_I v2), some (ab_I v3), some (ab_I v4), some (ab_I (ab_w32 (v5 + (1 : Int))))]) dX9_laysFar_163 rfl (Nat.le_of_ble_eq_true rfl) rfl rfl ?_
  refine ab_goto (pc := 166) (tgt := 109) dX9_laysFar_166 rfl ?_
  refine ab_sub_ (lv2 := [some (ab_R v0), none, some (ab_I v2), some (ab_I v3), some (ab_I v4), some (ab_I (ab_w32 (v5 + (1 : Int))))]) (ab_ss (ab_sn (ab_ss (ab_ss (ab_ss (ab_ss ab_s0)))))) ?_
  exact hrec _ _ _ _ _ _ _ hk
noncomputable def f_X9_laysFar_L109 (k169 : Int → Int → Int → ab_H → Option ab_H) : Nat → Int → Int → Int → Int → Int → ab_H → Option ab_H
  | 0, _, _, _, _, _, _ => none
  | n + 1, v0, v2, v3, v4, v5, h =>
    (ab_on h 10 v0 (f_X9_terms v0 v3 h)).bind fun q1 =>
    if q1.1 ≤ v5 then
      k169 v0 v2 v3 q1.2
    else
    if v4 = (0 : Int) then
      k169 v0 v2 v3 q1.2
    else
    (ab_get q1.2 10 33 v0).bind fun t2 =>
    (ab_get q1.2 10 15 v0).bind fun t3 =>
    (f_X9_place v3 v5 q1.2).bind fun q4 =>
    (ab_ald q4.2 11 t3 q4.1).bind fun t5 =>
    (ab_ald q4.2 11 t2 t5).bind fun t6 =>
    if t6 = (-1 : Int) then
      (ab_get q4.2 10 33 v0).bind fun t7 =>
      (ab_get q4.2 10 15 v0).bind fun t8 =>
      (f_X9_place v3 v5 q4.2).bind fun q9 =>
      (ab_ald q9.2 11 t8 q9.1).bind fun t10 =>
      (ab_ast q9.2 11 t7 t10 (ab_w32 (v2 + (1 : Int)))).bind fun h1 =>
      f_X9_laysFar_J163 (f_X9_laysFar_L109 k169 n) k169 v0 v2 v3 v4 v5 h1
    else
    f_X9_laysFar_J163 (f_X9_laysFar_L109 k169 n) k169 v0 v2 v3 v4 v5 q4.2
set_option maxRecDepth 20000 in
theorem e_X9_laysFar_L109 {k169 : Int → Int → Int → ab_H → Option ab_H} (hk169 : ∀ (v0 : Int) (v2 : Int) (v3 : Int) (h : ab_H) (q : ab_H), k169 v0 v2 v3 h = some q → ab_E mm_X9_laysFar cX9_laysFar 169 [some (ab_R v0), none, some (ab_I v2), some (ab_I v3), none, none] [] h none q) : ∀ (n : Nat) (v0 : Int) (v2 : Int) (v3 : Int) (v4 : Int) (v5 : Int) (h : ab_H) (q : ab_H), f_X9_laysFar_L109 k169 n v0 v2 v3 v4 v5 h = some q → ab_E mm_X9_laysFar cX9_laysFar 109 [some (ab_R v0), none, some (ab_I v2), some (ab_I v3), some (ab_I v4), some (ab_I v5)] [] h none q := by
  intro n
  induction n with
  | zero => intro v0 v2 v3 v4 v5 h q hk; cases hk
  | succ n ih =>
    intro v0 v2 v3 v4 v5 h q hk
    unfold f_X9_laysFar_L109 at hk
    refine ab_iload (pc := 109) (i := 5) dX9_laysFar_109 rfl ?_
    refine ab_aload_n (pc := 111) (i := 0) dX9_laysFar_111 rfl rfl ?_
    refine ab_iload_n (pc := 112) (i := 3) dX9_laysFar_112 rfl rfl ?_
    obtain ⟨q1, hq1, hk⟩ := ab_bnd hk
    obtain ⟨hb, hq1⟩ := ab_on_some hq1
    refine ab_callVI (st := [ab_I v5]) (as := [ab_I v3]) (b := v0) (pc := 113) dX9_laysFar_113 ml_RX9_255 my_X9_terms mv_X9_terms hb (ct_X9_terms hq1) ⟨Nat.le_of_ble_eq_true rfl, Nat.le_of_ble_eq_true rfl⟩ rfl (Nat.le_of_ble_eq_true rfl) rfl ?_
    refine ab_icmp_ge (pc := 116) (tgt := 169) dX9_laysFar_116 rfl (fun hc => ?_) (fun hc => ?_)
    · have hk := ab_ifp hk hc
      refine ab_sub_ (lv2 := [some (ab_R v0), none, some (ab_I v2), some (ab_I v3), none, none]) (ab_ss (ab_sn (ab_ss (ab_ss (ab_sn (ab_sn ab_s0)))))) ?_
      exact hk169 _ _ _ _ _ hk
    · have hk := ab_ifn hk hc
      refine ab_iload (pc := 119) (i := 4) dX9_laysFar_119 rfl ?_
      refine ab_if_eq (pc := 121) (tgt := 169) dX9_laysFar_121 rfl (fun hc => ?_) (fun hc => ?_)
      · have hk := ab_ifp hk hc
        refine ab_sub_ (lv2 := [some (ab_R v0), none, some (ab_I v2), some (ab_I v3), none, none]) (ab_ss (ab_sn (ab_ss (ab_ss (ab_sn (ab_sn ab_s0)))))) ?_
        exact hk169 _ _ _ _ _ hk
      · have hk := ab_ifn hk hc
        refine ab_aload_n (pc := 124) (i := 0) dX9_laysFar_124 rfl rfl ?_
        obtain ⟨t2, ht2, hk⟩ := ab_bnd hk
        refine ab_getR (pc := 125) dX9_laysFar_125 fl_RX9_64 ht2 ?_
        refine ab_aload_n (pc := 128) (i := 0) dX9_laysFar_128 rfl rfl ?_
        obtain ⟨t3, ht3, hk⟩ := ab_bnd hk
        refine ab_getR (pc := 129) dX9_laysFar_129 fl_RX9_27 ht3 ?_
        refine ab_iload_n (pc := 132) (i := 3) dX9_laysFar_132 rfl rfl ?_
        refine ab_iload (pc := 133) (i := 5) dX9_laysFar_133 rfl ?_
        obtain ⟨q4, hq4, hk⟩ := ab_bnd hk
        refine ab_callSI (st := [ab_R t3, ab_R t2]) (as := [ab_I v3, ab_I v5]) (pc := 135) dX9_laysFar_135 ml_RX9_262 my_X9_place ms_X9_place (ct_X9_place hq4) ⟨Nat.le_of_ble_eq_true rfl, Nat.le_of_ble_eq_true rfl⟩ rfl (Nat.le_of_ble_eq_true rfl) rfl ?_
        obtain ⟨t5, ht5, hk⟩ := ab_bnd hk
        refine ab_iald (pc := 138) dX9_laysFar_138 ht5 ?_
        obtain ⟨t6, ht6, hk⟩ := ab_bnd hk
        refine ab_iald (pc := 139) dX9_laysFar_139 ht6 ?_
        refine ab_iconst (pc := 140) dX9_laysFar_140 ab_k_m1 ?_
        refine ab_icmp_ne (pc := 141) (tgt := 163) dX9_laysFar_141 rfl (fun hc => ?_) (fun hc => ?_)
        · have hk := ab_ifn hk hc
          refine ab_sub_ (lv2 := [some (ab_R v0), none, some (ab_I v2), some (ab_I v3), some (ab_I v4), some (ab_I v5)]) (ab_ss (ab_sn (ab_ss (ab_ss (ab_ss (ab_ss ab_s0)))))) ?_
          exact e_X9_laysFar_J163 ih hk169 _ _ _ _ _ _ _ hk
        · have hk := ab_ifp hk hc
          refine ab_aload_n (pc := 144) (i := 0) dX9_laysFar_144 rfl rfl ?_
          obtain ⟨t7, ht7, hk⟩ := ab_bnd hk
          refine ab_getR (pc := 145) dX9_laysFar_145 fl_RX9_64 ht7 ?_
          refine ab_aload_n (pc := 148) (i := 0) dX9_laysFar_148 rfl rfl ?_
          obtain ⟨t8, ht8, hk⟩ := ab_bnd hk
          refine ab_getR (pc := 149) dX9_laysFar_149 fl_RX9_27 ht8 ?_
          refine ab_iload_n (pc := 152) (i := 3) dX9_laysFar_152 rfl rfl ?_
          refine ab_iload (pc := 153) (i := 5) dX9_laysFar_153 rfl ?_
          obtain ⟨q9, hq9, hk⟩ := ab_bnd hk
          refine ab_callSI (st := [ab_R t8, ab_R t7]) (as := [ab_I v3, ab_I v5]) (pc := 155) dX9_laysFar_155 ml_RX9_262 my_X9_place ms_X9_place (ct_X9_place hq9) ⟨Nat.le_of_ble_eq_true rfl, Nat.le_of_ble_eq_true rfl⟩ rfl (Nat.le_of_ble_eq_true rfl) rfl ?_
          obtain ⟨t10, ht10, hk⟩ := ab_bnd hk
          refine ab_iald (pc := 158) dX9_laysFar_158 ht10 ?_
          refine ab_iload_n (pc := 159) (i := 2) dX9_laysFar_159 rfl rfl ?_
          refine ab_iconst (pc := 160) dX9_laysFar_160 ab_k_1 ?_
          refine ab_iadd (pc := 161) dX9_laysFar_161 ?_
          obtain ⟨h1, hh1, hk⟩ := ab_bnd hk
          refine ab_iast (pc := 162) dX9_laysFar_162 hh1 ?_
          refine ab_sub_ (lv2 := [some (ab_R v0), none, some (ab_I v2), some (ab_I v3), some (ab_I v4), some (ab_I v5)]) (ab_ss (ab_sn (ab_ss (ab_ss (ab_ss (ab_ss ab_s0)))))) ?_
          exact e_X9_laysFar_J163 ih hk169 _ _ _ _ _ _ _ hk
noncomputable def f_X9_laysFar_J98 (rec : Int → Int → Int → Int → Int → ab_H → Option ab_H) (k106 : Int → Int → Int → Int → ab_H → Option ab_H) (v0 : Int) (v2 : Int) (v3 : Int) (v5 : Int) (s0 : Int) (h : ab_H) : Option ab_H :=
  rec v0 v2 v3 s0 (ab_w32 (v5 + (1 : Int))) h
set_option maxRecDepth 20000 in
theorem e_X9_laysFar_J98 {rec : Int → Int → Int → Int → Int → ab_H → Option ab_H} {k106 : Int → Int → Int → Int → ab_H → Option ab_H} (hrec : ∀ (v0 : Int) (v2 : Int) (v3 : Int) (v4 : Int) (v5 : Int) (h : ab_H) (q : ab_H), rec v0 v2 v3 v4 v5 h = some q → ab_E mm_X9_laysFar cX9_laysFar 58 [some (ab_R v0), none, some (ab_I v2), some (ab_I v3), some (ab_I v4), some (ab_I v5)] [] h none q) (hk106 : ∀ (v0 : Int) (v2 : Int) (v3 : Int) (v4 : Int) (h : ab_H) (q : ab_H), k106 v0 v2 v3 v4 h = some q → ab_E mm_X9_laysFar cX9_laysFar 106 [some (ab_R v0), none, some (ab_I v2), some (ab_I v3), some (ab_I v4), none] [] h none q) : ∀ (v0 : Int) (v2 : Int) (v3 : Int) (v5 : Int) (s0 : Int) (h : ab_H) (q : ab_H), f_X9_laysFar_J98 rec k106 v0 v2 v3 v5 s0 h = some q → ab_E mm_X9_laysFar cX9_laysFar 98 [some (ab_R v0), none, some (ab_I v2), some (ab_I v3), none, some (ab_I v5)] [ab_I s0] h none q := by
  intro v0 v2 v3 v5 s0 h q hk
  unfold f_X9_laysFar_J98 at hk
  refine ab_istore (pc := 98) (i := 4) (lv2 := [some (ab_R v0), none, some (ab_I v2), some (ab_I v3), some (ab_I s0), some (ab_I v5)]) dX9_laysFar_98 (Nat.le_of_ble_eq_true rfl) rfl rfl ?_
  refine ab_iinc (pc := 100) (i := 5) (lv2 := [some (ab_R v0), none, some (ab_I v2), some (ab_I v3), some (ab_I s0), some (ab_I (ab_w32 (v5 + (1 : Int))))]) dX9_laysFar_100 rfl (Nat.le_of_ble_eq_true rfl) rfl rfl ?_
  refine ab_goto (pc := 103) (tgt := 58) dX9_laysFar_103 rfl ?_
  refine ab_sub_ (lv2 := [some (ab_R v0), none, some (ab_I v2), some (ab_I v3), some (ab_I s0), some (ab_I (ab_w32 (v5 + (1 : Int))))]) (ab_ss (ab_sn (ab_ss (ab_ss (ab_ss (ab_ss ab_s0)))))) ?_
  exact hrec _ _ _ _ _ _ _ hk
noncomputable def f_X9_laysFar_J93 (rec : Int → Int → Int → Int → Int → ab_H → Option ab_H) (k106 : Int → Int → Int → Int → ab_H → Option ab_H) (v0 : Int) (v2 : Int) (v3 : Int) (v5 : Int) (h : ab_H) : Option ab_H :=
  f_X9_laysFar_J98 rec k106 v0 v2 v3 v5 (1 : Int) h
set_option maxRecDepth 20000 in
theorem e_X9_laysFar_J93 {rec : Int → Int → Int → Int → Int → ab_H → Option ab_H} {k106 : Int → Int → Int → Int → ab_H → Option ab_H} (hrec : ∀ (v0 : Int) (v2 : Int) (v3 : Int) (v4 : Int) (v5 : Int) (h : ab_H) (q : ab_H), rec v0 v2 v3 v4 v5 h = some q → ab_E mm_X9_laysFar cX9_laysFar 58 [some (ab_R v0), none, some (ab_I v2), some (ab_I v3), some (ab_I v4), some (ab_I v5)] [] h none q) (hk106 : ∀ (v0 : Int) (v2 : Int) (v3 : Int) (v4 : Int) (h : ab_H) (q : ab_H), k106 v0 v2 v3 v4 h = some q → ab_E mm_X9_laysFar cX9_laysFar 106 [some (ab_R v0), none, some (ab_I v2), some (ab_I v3), some (ab_I v4), none] [] h none q) : ∀ (v0 : Int) (v2 : Int) (v3 : Int) (v5 : Int) (h : ab_H) (q : ab_H), f_X9_laysFar_J93 rec k106 v0 v2 v3 v5 h = some q → ab_E mm_X9_laysFar cX9_laysFar 93 [some (ab_R v0), none, some (ab_I v2), some (ab_I v3), none, some (ab_I v5)] [] h none q := by
  intro v0 v2 v3 v5 h q hk
  unfold f_X9_laysFar_J93 at hk
  refine ab_iconst (pc := 93) dX9_laysFar_93 ab_k_1 ?_
  refine ab_goto (pc := 94) (tgt := 98) dX9_laysFar_94 rfl ?_
  refine ab_sub_ (lv2 := [some (ab_R v0), none, some (ab_I v2), some (ab_I v3), none, some (ab_I v5)]) (ab_ss (ab_sn (ab_ss (ab_ss (ab_sn (ab_ss ab_s0)))))) ?_
  exact e_X9_laysFar_J98 hrec hk106 _ _ _ _ _ _ _ hk
noncomputable def f_X9_laysFar_L58 (k106 : Int → Int → Int → Int → ab_H → Option ab_H) : Nat → Int → Int → Int → Int → Int → ab_H → Option ab_H
  | 0, _, _, _, _, _, _ => none
  | n + 1, v0, v2, v3, v4, v5, h =>
    (ab_on h 10 v0 (f_X9_terms v0 v3 h)).bind fun q1 =>
    if q1.1 ≤ v5 then
      k106 v0 v2 v3 v4 q1.2
    else
    if v4 = (0 : Int) then
      (ab_get q1.2 10 33 v0).bind fun t2 =>
      (ab_get q1.2 10 15 v0).bind fun t3 =>
      (f_X9_place v3 v5 q1.2).bind fun q4 =>
      (ab_ald q4.2 11 t3 q4.1).bind fun t5 =>
      (ab_ald q4.2 11 t2 t5).bind fun t6 =>
      if t6 = v2 then
        f_X9_laysFar_J93 (f_X9_laysFar_L58 k106 n) k106 v0 v2 v3 v5 q4.2
      else
      f_X9_laysFar_J98 (f_X9_laysFar_L58 k106 n) k106 v0 v2 v3 v5 (0 : Int) q4.2
    else
    f_X9_laysFar_J93 (f_X9_laysFar_L58 k106 n) k106 v0 v2 v3 v5 q1.2
set_option maxRecDepth 20000 in
theorem e_X9_laysFar_L58 {k106 : Int → Int → Int → Int → ab_H → Option ab_H} (hk106 : ∀ (v0 : Int) (v2 : Int) (v3 : Int) (v4 : Int) (h : ab_H) (q : ab_H), k106 v0 v2 v3 v4 h = some q → ab_E mm_X9_laysFar cX9_laysFar 106 [some (ab_R v0), none, some (ab_I v2), some (ab_I v3), some (ab_I v4), none] [] h none q) : ∀ (n : Nat) (v0 : Int) (v2 : Int) (v3 : Int) (v4 : Int) (v5 : Int) (h : ab_H) (q : ab_H), f_X9_laysFar_L58 k106 n v0 v2 v3 v4 v5 h = some q → ab_E mm_X9_laysFar cX9_laysFar 58 [some (ab_R v0), none, some (ab_I v2), some (ab_I v3), some (ab_I v4), some (ab_I v5)] [] h none q := by
  intro n
  induction n with
  | zero => intro v0 v2 v3 v4 v5 h q hk; cases hk
  | succ n ih =>
    intro v0 v2 v3 v4 v5 h q hk
    unfold f_X9_laysFar_L58 at hk
    refine ab_iload (pc := 58) (i := 5) dX9_laysFar_58 rfl ?_
    refine ab_aload_n (pc := 60) (i := 0) dX9_laysFar_60 rfl rfl ?_
    refine ab_iload_n (pc := 61) (i := 3) dX9_laysFar_61 rfl rfl ?_
    obtain ⟨q1, hq1, hk⟩ := ab_bnd hk
    obtain ⟨hb, hq1⟩ := ab_on_some hq1
    refine ab_callVI (st := [ab_I v5]) (as := [ab_I v3]) (b := v0) (pc := 62) dX9_laysFar_62 ml_RX9_255 my_X9_terms mv_X9_terms hb (ct_X9_terms hq1) ⟨Nat.le_of_ble_eq_true rfl, Nat.le_of_ble_eq_true rfl⟩ rfl (Nat.le_of_ble_eq_true rfl) rfl ?_
    refine ab_icmp_ge (pc := 65) (tgt := 106) dX9_laysFar_65 rfl (fun hc => ?_) (fun hc => ?_)
    · have hk := ab_ifp hk hc
      refine ab_sub_ (lv2 := [some (ab_R v0), none, some (ab_I v2), some (ab_I v3), some (ab_I v4), none]) (ab_ss (ab_sn (ab_ss (ab_ss (ab_ss (ab_sn ab_s0)))))) ?_
      exact hk106 _ _ _ _ _ _ hk
    · have hk := ab_ifn hk hc
      refine ab_iload (pc := 68) (i := 4) dX9_laysFar_68 rfl ?_
      refine ab_if_ne (pc := 70) (tgt := 93) dX9_laysFar_70 rfl (fun hc => ?_) (fun hc => ?_)
      · have hk := ab_ifn hk hc
        refine ab_sub_ (lv2 := [some (ab_R v0), none, some (ab_I v2), some (ab_I v3), none, some (ab_I v5)]) (ab_ss (ab_sn (ab_ss (ab_ss (ab_sn (ab_ss ab_s0)))))) ?_
        exact e_X9_laysFar_J93 ih hk106 _ _ _ _ _ _ hk
      · have hk := ab_ifp hk hc
        refine ab_aload_n (pc := 73) (i := 0) dX9_laysFar_73 rfl rfl ?_
        obtain ⟨t2, ht2, hk⟩ := ab_bnd hk
        refine ab_getR (pc := 74) dX9_laysFar_74 fl_RX9_64 ht2 ?_
        refine ab_aload_n (pc := 77) (i := 0) dX9_laysFar_77 rfl rfl ?_
        obtain ⟨t3, ht3, hk⟩ := ab_bnd hk
        refine ab_getR (pc := 78) dX9_laysFar_78 fl_RX9_27 ht3 ?_
        refine ab_iload_n (pc := 81) (i := 3) dX9_laysFar_81 rfl rfl ?_
        refine ab_iload (pc := 82) (i := 5) dX9_laysFar_82 rfl ?_
        obtain ⟨q4, hq4, hk⟩ := ab_bnd hk
        refine ab_callSI (st := [ab_R t3, ab_R t2]) (as := [ab_I v3, ab_I v5]) (pc := 84) dX9_laysFar_84 ml_RX9_262 my_X9_place ms_X9_place (ct_X9_place hq4) ⟨Nat.le_of_ble_eq_true rfl, Nat.le_of_ble_eq_true rfl⟩ rfl (Nat.le_of_ble_eq_true rfl) rfl ?_
        obtain ⟨t5, ht5, hk⟩ := ab_bnd hk
        refine ab_iald (pc := 87) dX9_laysFar_87 ht5 ?_
        obtain ⟨t6, ht6, hk⟩ := ab_bnd hk
        refine ab_iald (pc := 88) dX9_laysFar_88 ht6 ?_
        refine ab_iload_n (pc := 89) (i := 2) dX9_laysFar_89 rfl rfl ?_
        refine ab_icmp_ne (pc := 90) (tgt := 97) dX9_laysFar_90 rfl (fun hc => ?_) (fun hc => ?_)
        · have hk := ab_ifn hk hc
          refine ab_iconst (pc := 97) dX9_laysFar_97 ab_k_0 ?_
          refine ab_sub_ (lv2 := [some (ab_R v0), none, some (ab_I v2), some (ab_I v3), none, some (ab_I v5)]) (ab_ss (ab_sn (ab_ss (ab_ss (ab_sn (ab_ss ab_s0)))))) ?_
          exact e_X9_laysFar_J98 ih hk106 _ _ _ _ _ _ _ hk
        · have hk := ab_ifp hk hc
          refine ab_sub_ (lv2 := [some (ab_R v0), none, some (ab_I v2), some (ab_I v3), none, some (ab_I v5)]) (ab_ss (ab_sn (ab_ss (ab_ss (ab_sn (ab_ss ab_s0)))))) ?_
          exact e_X9_laysFar_J93 ih hk106 _ _ _ _ _ _ hk
noncomputable def f_X9_laysFar_L44 (k175 : Int → Int → ab_H → Option ab_H) : Nat → Int → Int → Int → ab_H → Option ab_H
  | 0, _, _, _, _ => none
  | n + 1, v0, v2, v3, h =>
    (ab_on h 10 v0 (f_X9_strings v0 h)).bind fun q1 =>
    if q1.1 ≤ v3 then
      k175 v0 v2 q1.2
    else
    f_X9_laysFar_L58 (fun w106_0 w106_2 w106_3 w106_4 hx106 =>
      f_X9_laysFar_L109 (fun w169_0 w169_2 w169_3 hx169 =>
        f_X9_laysFar_J169 (f_X9_laysFar_L44 k175 n) k175 w169_0 w169_2 w169_3 hx169) ab_FU w106_0 w106_2 w106_3 w106_4 (0 : Int) hx106) ab_FU v0 v2 v3 (0 : Int) (0 : Int) q1.2
set_option maxRecDepth 20000 in
theorem e_X9_laysFar_L44 {k175 : Int → Int → ab_H → Option ab_H} (hk175 : ∀ (v0 : Int) (v2 : Int) (h : ab_H) (q : ab_H), k175 v0 v2 h = some q → ab_E mm_X9_laysFar cX9_laysFar 175 [some (ab_R v0), none, some (ab_I v2), none, none, none] [] h none q) : ∀ (n : Nat) (v0 : Int) (v2 : Int) (v3 : Int) (h : ab_H) (q : ab_H), f_X9_laysFar_L44 k175 n v0 v2 v3 h = some q → ab_E mm_X9_laysFar cX9_laysFar 44 [some (ab_R v0), none, some (ab_I v2), some (ab_I v3), none, none] [] h none q := by
  intro n
  induction n with
  | zero => intro v0 v2 v3 h q hk; cases hk
  | succ n ih =>
    intro v0 v2 v3 h q hk
    unfold f_X9_laysFar_L44 at hk
    refine ab_iload_n (pc := 44) (i := 3) dX9_laysFar_44 rfl rfl ?_
    refine ab_aload_n (pc := 45) (i := 0) dX9_laysFar_45 rfl rfl ?_
    obtain ⟨q1, hq1, hk⟩ := ab_bnd hk
    obtain ⟨hb, hq1⟩ := ab_on_some hq1
    refine ab_callVI (st := [ab_I v3]) (as := []) (b := v0) (pc := 46) dX9_laysFar_46 ml_RX9_246 my_X9_strings mv_X9_strings hb (ct_X9_strings hq1) ⟨Nat.le_of_ble_eq_true rfl, Nat.le_of_ble_eq_true rfl⟩ rfl (Nat.le_of_ble_eq_true rfl) rfl ?_
    refine ab_icmp_ge (pc := 49) (tgt := 175) dX9_laysFar_49 rfl (fun hc => ?_) (fun hc => ?_)
    · have hk := ab_ifp hk hc
      refine ab_sub_ (lv2 := [some (ab_R v0), none, some (ab_I v2), none, none, none]) (ab_ss (ab_sn (ab_ss (ab_sn (ab_sn (ab_sn ab_s0)))))) ?_
      exact hk175 _ _ _ _ hk
    · have hk := ab_ifn hk hc
      refine ab_iconst (pc := 52) dX9_laysFar_52 ab_k_0 ?_
      refine ab_istore (pc := 53) (i := 4) (lv2 := [some (ab_R v0), none, some (ab_I v2), some (ab_I v3), some (ab_I (0 : Int)), none]) dX9_laysFar_53 (Nat.le_of_ble_eq_true rfl) rfl rfl ?_
      refine ab_iconst (pc := 55) dX9_laysFar_55 ab_k_0 ?_
      refine ab_istore (pc := 56) (i := 5) (lv2 := [some (ab_R v0), none, some (ab_I v2), some (ab_I v3), some (ab_I (0 : Int)), some (ab_I (0 : Int))]) dX9_laysFar_56 (Nat.le_of_ble_eq_true rfl) rfl rfl ?_
      refine ab_sub_ (lv2 := [some (ab_R v0), none, some (ab_I v2), some (ab_I v3), some (ab_I (0 : Int)), some (ab_I (0 : Int))]) (ab_ss (ab_sn (ab_ss (ab_ss (ab_ss (ab_ss ab_s0)))))) ?_
      refine e_X9_laysFar_L58 (fun w106_0 w106_2 w106_3 w106_4 hx106 q hk => ?_) _ _ _ _ _ _ _ _ hk
      · skip
        refine ab_iconst (pc := 106) dX9_laysFar_106 ab_k_0 ?_
        refine ab_istore (pc := 107) (i := 5) (lv2 := [some (ab_R w106_0), none, some (ab_I w106_2), some (ab_I w106_3), some (ab_I w106_4), some (ab_I (0 : Int))]) dX9_laysFar_107 (Nat.le_of_ble_eq_true rfl) rfl rfl ?_
        refine ab_sub_ (lv2 := [some (ab_R w106_0), none, some (ab_I w106_2), some (ab_I w106_3), some (ab_I w106_4), some (ab_I (0 : Int))]) (ab_ss (ab_sn (ab_ss (ab_ss (ab_ss (ab_ss ab_s0)))))) ?_
        refine e_X9_laysFar_L109 (fun w169_0 w169_2 w169_3 hx169 q hk => ?_) _ _ _ _ _ _ _ _ hk
        · skip
          refine ab_sub_ (lv2 := [some (ab_R w169_0), none, some (ab_I w169_2), some (ab_I w169_3), none, none]) (ab_ss (ab_sn (ab_ss (ab_ss (ab_sn (ab_sn ab_s0)))))) ?_
          exact e_X9_laysFar_J169 ih hk175 _ _ _ _ _ hk
noncomputable def f_X9_laysFar_L34 : Nat → Int → Int → ab_H → Option ab_H
  | 0, _, _, _ => none
  | n + 1, v0, v2, h =>
    (ab_get h 10 14 v0).bind fun t1 =>
    if t1 ≤ v2 then
      some h
    else
    f_X9_laysFar_L44 (fun w175_0 w175_2 hx175 =>
      f_X9_laysFar_L34 n w175_0 (ab_w32 (w175_2 + (1 : Int))) hx175) ab_FU v0 v2 (0 : Int) h
set_option maxRecDepth 20000 in
theorem e_X9_laysFar_L34 : ∀ (n : Nat) (v0 : Int) (v2 : Int) (h : ab_H) (q : ab_H), f_X9_laysFar_L34 n v0 v2 h = some q → ab_E mm_X9_laysFar cX9_laysFar 34 [some (ab_R v0), none, some (ab_I v2), none, none, none] [] h none q := by
  intro n
  induction n with
  | zero => intro v0 v2 h q hk; cases hk
  | succ n ih =>
    intro v0 v2 h q hk
    unfold f_X9_laysFar_L34 at hk
    refine ab_iload_n (pc := 34) (i := 2) dX9_laysFar_34 rfl rfl ?_
    refine ab_aload_n (pc := 35) (i := 0) dX9_laysFar_35 rfl rfl ?_
    obtain ⟨t1, ht1, hk⟩ := ab_bnd hk
    refine ab_getI (pc := 36) dX9_laysFar_36 fl_RX9_252 ht1 ?_
    refine ab_icmp_ge (pc := 39) (tgt := 181) dX9_laysFar_39 rfl (fun hc => ?_) (fun hc => ?_)
    · have hk := ab_ifp hk hc
      obtain rfl := Option.some.inj hk
      exact ab_retv (pc := 181) dX9_laysFar_181 rfl
    · have hk := ab_ifn hk hc
      refine ab_iconst (pc := 42) dX9_laysFar_42 ab_k_0 ?_
      refine ab_istore_n (pc := 43) (i := 3) (lv2 := [some (ab_R v0), none, some (ab_I v2), some (ab_I (0 : Int)), none, none]) dX9_laysFar_43 rfl (Nat.le_of_ble_eq_true rfl) rfl rfl ?_
      refine ab_sub_ (lv2 := [some (ab_R v0), none, some (ab_I v2), some (ab_I (0 : Int)), none, none]) (ab_ss (ab_sn (ab_ss (ab_ss (ab_sn (ab_sn ab_s0)))))) ?_
      refine e_X9_laysFar_L44 (fun w175_0 w175_2 hx175 q hk => ?_) _ _ _ _ _ _ hk
      · skip
        refine ab_iinc (pc := 175) (i := 2) (lv2 := [some (ab_R w175_0), none, some (ab_I (ab_w32 (w175_2 + (1 : Int)))), none, none, none]) dX9_laysFar_175 rfl (Nat.le_of_ble_eq_true rfl) rfl rfl ?_
        refine ab_goto (pc := 178) (tgt := 34) dX9_laysFar_178 rfl ?_
        refine ab_sub_ (lv2 := [some (ab_R w175_0), none, some (ab_I (ab_w32 (w175_2 + (1 : Int)))), none, none, none]) (ab_ss (ab_sn (ab_ss (ab_sn (ab_sn (ab_sn ab_s0)))))) ?_
        exact ih _ _ _ _ hk
noncomputable def f_X9_laysFar_J25 (rec : Int → Int → Int → ab_H → Option ab_H) (k32 : Int → ab_H → Option ab_H) (v0 : Int) (v1 : Int) (v2 : Int) (s2 : Int) (s1 : Int) (s0 : Int) (h : ab_H) : Option ab_H :=
  (ab_ast h 11 s0 s1 s2).bind fun h1 =>
  rec v0 v1 (ab_w32 (v2 + (1 : Int))) h1
set_option maxRecDepth 20000 in
theorem e_X9_laysFar_J25 {rec : Int → Int → Int → ab_H → Option ab_H} {k32 : Int → ab_H → Option ab_H} (hrec : ∀ (v0 : Int) (v1 : Int) (v2 : Int) (h : ab_H) (q : ab_H), rec v0 v1 v2 h = some q → ab_E mm_X9_laysFar cX9_laysFar 2 [some (ab_R v0), some (ab_I v1), some (ab_I v2), none, none, none] [] h none q) (hk32 : ∀ (v0 : Int) (h : ab_H) (q : ab_H), k32 v0 h = some q → ab_E mm_X9_laysFar cX9_laysFar 32 [some (ab_R v0), none, none, none, none, none] [] h none q) : ∀ (v0 : Int) (v1 : Int) (v2 : Int) (s2 : Int) (s1 : Int) (s0 : Int) (h : ab_H) (q : ab_H), f_X9_laysFar_J25 rec k32 v0 v1 v2 s2 s1 s0 h = some q → ab_E mm_X9_laysFar cX9_laysFar 25 [some (ab_R v0), some (ab_I v1), some (ab_I v2), none, none, none] [ab_I s2, ab_I s1, ab_R s0] h none q := by
  intro v0 v1 v2 s2 s1 s0 h q hk
  unfold f_X9_laysFar_J25 at hk
  obtain ⟨h1, hh1, hk⟩ := ab_bnd hk
  refine ab_iast (pc := 25) dX9_laysFar_25 hh1 ?_
  refine ab_iinc (pc := 26) (i := 2) (lv2 := [some (ab_R v0), some (ab_I v1), some (ab_I (ab_w32 (v2 + (1 : Int)))), none, none, none]) dX9_laysFar_26 rfl (Nat.le_of_ble_eq_true rfl) rfl rfl ?_
  refine ab_goto (pc := 29) (tgt := 2) dX9_laysFar_29 rfl ?_
  refine ab_sub_ (lv2 := [some (ab_R v0), some (ab_I v1), some (ab_I (ab_w32 (v2 + (1 : Int)))), none, none, none]) (ab_ss (ab_ss (ab_ss (ab_sn (ab_sn (ab_sn ab_s0)))))) ?_
  exact hrec _ _ _ _ _ hk
noncomputable def f_X9_laysFar_L2 (k32 : Int → ab_H → Option ab_H) : Nat → Int → Int → Int → ab_H → Option ab_H
  | 0, _, _, _, _ => none
  | n + 1, v0, v1, v2, h =>
    (ab_get h 10 14 v0).bind fun t1 =>
    if t1 ≤ v2 then
      k32 v0 h
    else
    (ab_get h 10 33 v0).bind fun t2 =>
    if v2 = v1 then
      f_X9_laysFar_J25 (f_X9_laysFar_L2 k32 n) k32 v0 v1 v2 (0 : Int) v2 t2 h
    else
    f_X9_laysFar_J25 (f_X9_laysFar_L2 k32 n) k32 v0 v1 v2 (-1 : Int) v2 t2 h
set_option maxRecDepth 20000 in
theorem e_X9_laysFar_L2 {k32 : Int → ab_H → Option ab_H} (hk32 : ∀ (v0 : Int) (h : ab_H) (q : ab_H), k32 v0 h = some q → ab_E mm_X9_laysFar cX9_laysFar 32 [some (ab_R v0), none, none, none, none, none] [] h none q) : ∀ (n : Nat) (v0 : Int) (v1 : Int) (v2 : Int) (h : ab_H) (q : ab_H), f_X9_laysFar_L2 k32 n v0 v1 v2 h = some q → ab_E mm_X9_laysFar cX9_laysFar 2 [some (ab_R v0), some (ab_I v1), some (ab_I v2), none, none, none] [] h none q := by
  intro n
  induction n with
  | zero => intro v0 v1 v2 h q hk; cases hk
  | succ n ih =>
    intro v0 v1 v2 h q hk
    unfold f_X9_laysFar_L2 at hk
    refine ab_iload_n (pc := 2) (i := 2) dX9_laysFar_2 rfl rfl ?_
    refine ab_aload_n (pc := 3) (i := 0) dX9_laysFar_3 rfl rfl ?_
    obtain ⟨t1, ht1, hk⟩ := ab_bnd hk
    refine ab_getI (pc := 4) dX9_laysFar_4 fl_RX9_252 ht1 ?_
    refine ab_icmp_ge (pc := 7) (tgt := 32) dX9_laysFar_7 rfl (fun hc => ?_) (fun hc => ?_)
    · have hk := ab_ifp hk hc
      refine ab_sub_ (lv2 := [some (ab_R v0), none, none, none, none, none]) (ab_ss (ab_sn (ab_sn (ab_sn (ab_sn (ab_sn ab_s0)))))) ?_
      exact hk32 _ _ _ hk
    · have hk := ab_ifn hk hc
      refine ab_aload_n (pc := 10) (i := 0) dX9_laysFar_10 rfl rfl ?_
      obtain ⟨t2, ht2, hk⟩ := ab_bnd hk
      refine ab_getR (pc := 11) dX9_laysFar_11 fl_RX9_64 ht2 ?_
      refine ab_iload_n (pc := 14) (i := 2) dX9_laysFar_14 rfl rfl ?_
      refine ab_iload_n (pc := 15) (i := 2) dX9_laysFar_15 rfl rfl ?_
      refine ab_iload_n (pc := 16) (i := 1) dX9_laysFar_16 rfl rfl ?_
      refine ab_icmp_ne (pc := 17) (tgt := 24) dX9_laysFar_17 rfl (fun hc => ?_) (fun hc => ?_)
      · have hk := ab_ifn hk hc
        refine ab_iconst (pc := 24) dX9_laysFar_24 ab_k_m1 ?_
        refine ab_sub_ (lv2 := [some (ab_R v0), some (ab_I v1), some (ab_I v2), none, none, none]) (ab_ss (ab_ss (ab_ss (ab_sn (ab_sn (ab_sn ab_s0)))))) ?_
        exact e_X9_laysFar_J25 ih hk32 _ _ _ _ _ _ _ _ hk
      · have hk := ab_ifp hk hc
        refine ab_iconst (pc := 20) dX9_laysFar_20 ab_k_0 ?_
        refine ab_goto (pc := 21) (tgt := 25) dX9_laysFar_21 rfl ?_
        refine ab_sub_ (lv2 := [some (ab_R v0), some (ab_I v1), some (ab_I v2), none, none, none]) (ab_ss (ab_ss (ab_ss (ab_sn (ab_sn (ab_sn ab_s0)))))) ?_
        exact e_X9_laysFar_J25 ih hk32 _ _ _ _ _ _ _ _ hk
noncomputable def f_X9_laysFar (a0 : Int) (a1 : Int) (h : ab_H) : Option ab_H :=
  f_X9_laysFar_L2 (fun w32_0 hx32 =>
    f_X9_laysFar_L34 ab_FU w32_0 (0 : Int) hx32) ab_FU a0 a1 (0 : Int) h
set_option maxRecDepth 20000 in
theorem ct_X9_laysFar {a0 a1 : Int} {h : ab_H} {q : ab_H} (hk : f_X9_laysFar a0 a1 h = some q) : ab_CT yX9_laysFar cX9_laysFar 6 none 1 21 [ab_R a0, ab_I a1] h none q := by
  refine ab_CT.mk_ 4 (own := RX9) (ini := false) (lv := [some (ab_R a0), some (ab_I a1), none, none, none, none]) rfl (by decide +kernel) (fun q => by cases q) rfl rfl ?_
  unfold f_X9_laysFar at hk
  show ab_E mm_X9_laysFar cX9_laysFar 0 _ [] h _ _
  refine ab_iconst (pc := 0) dX9_laysFar_0 ab_k_0 ?_
  refine ab_istore_n (pc := 1) (i := 2) (lv2 := [some (ab_R a0), some (ab_I a1), some (ab_I (0 : Int)), none, none, none]) dX9_laysFar_1 rfl (Nat.le_of_ble_eq_true rfl) rfl rfl ?_
  refine ab_sub_ (lv2 := [some (ab_R a0), some (ab_I a1), some (ab_I (0 : Int)), none, none, none]) (ab_ss (ab_ss (ab_ss (ab_sn (ab_sn (ab_sn ab_s0)))))) ?_
  refine e_X9_laysFar_L2 (fun w32_0 hx32 q hk => ?_) _ _ _ _ _ _ hk
  · skip
    refine ab_iconst (pc := 32) dX9_laysFar_32 ab_k_0 ?_
    refine ab_istore_n (pc := 33) (i := 2) (lv2 := [some (ab_R w32_0), none, some (ab_I (0 : Int)), none, none, none]) dX9_laysFar_33 rfl (Nat.le_of_ble_eq_true rfl) rfl rfl ?_
    refine ab_sub_ (lv2 := [some (ab_R w32_0), none, some (ab_I (0 : Int)), none, none, none]) (ab_ss (ab_sn (ab_ss (ab_sn (ab_sn (ab_sn ab_s0)))))) ?_
    refine e_X9_laysFar_L34 _ _ _ _ _ hk
theorem dX9_chain_0 : decode cX9_chain 0 = .ok (.aload_n 0, 1) := by decide +kernel
theorem dX9_chain_1 : decode cX9_chain 1 = .ok (.iload_n 1, 1) := by decide +kernel
theorem dX9_chain_2 : decode cX9_chain 2 = .ok (.invokevirtual 346, 3) := by decide +kernel
theorem dX9_chain_5 : decode cX9_chain 5 = .ok (.ifCond .eq 19, 3) := by decide +kernel
theorem dX9_chain_8 : decode cX9_chain 8 = .ok (.iload_n 2, 1) := by decide +kernel
theorem dX9_chain_9 : decode cX9_chain 9 = .ok (.i2l, 1) := by decide +kernel
theorem dX9_chain_10 : decode cX9_chain 10 = .ok (.lconst 0, 1) := by decide +kernel
theorem dX9_chain_11 : decode cX9_chain 11 = .ok (.aload_n 0, 1) := by decide +kernel
theorem dX9_chain_12 : decode cX9_chain 12 = .ok (.getfield 252, 3) := by decide +kernel
theorem dX9_chain_15 : decode cX9_chain 15 = .ok (.iconst 1, 1) := by decide +kernel
theorem dX9_chain_16 : decode cX9_chain 16 = .ok (.isub, 1) := by decide +kernel
theorem dX9_chain_17 : decode cX9_chain 17 = .ok (.i2l, 1) := by decide +kernel
theorem dX9_chain_18 : decode cX9_chain 18 = .ok (.invokestatic 84, 3) := by decide +kernel
theorem dX9_chain_21 : decode cX9_chain 21 = .ok (.ifCond .ne 6, 3) := by decide +kernel
theorem dX9_chain_24 : decode cX9_chain 24 = .ok (.bipush (-2), 2) := by decide +kernel
theorem dX9_chain_26 : decode cX9_chain 26 = .ok (.ireturn, 1) := by decide +kernel
theorem dX9_chain_27 : decode cX9_chain 27 = .ok (.aload_n 0, 1) := by decide +kernel
theorem dX9_chain_28 : decode cX9_chain 28 = .ok (.iload_n 1, 1) := by decide +kernel
theorem dX9_chain_29 : decode cX9_chain 29 = .ok (.invokevirtual 443, 3) := by decide +kernel
theorem dX9_chain_32 : decode cX9_chain 32 = .ok (.aload_n 0, 1) := by decide +kernel
theorem dX9_chain_33 : decode cX9_chain 33 = .ok (.getfield 64, 3) := by decide +kernel
theorem dX9_chain_36 : decode cX9_chain 36 = .ok (.iload_n 2, 1) := by decide +kernel
theorem dX9_chain_37 : decode cX9_chain 37 = .ok (.iaload, 1) := by decide +kernel
theorem dX9_chain_38 : decode cX9_chain 38 = .ok (.ireturn, 1) := by decide +kernel
abbrev mm_X9_chain : ab_M := (RX9, 3, (some .int), false, 3, 72, none)
noncomputable def f_X9_chain (a0 : Int) (a1 : Int) (a2 : Int) (h : ab_H) : Option (Int × ab_H) :=
  (ab_on h 10 a0 (f_X9_isWordNow a0 a1 h)).bind fun q1 =>
  if q1.1 = (0 : Int) then
    some ((-2 : Int), q1.2)
  else
  (ab_get q1.2 10 14 a0).bind fun t2 =>
  (f_X9_in a2 (0 : Int) (ab_w32 (t2 - (1 : Int))) q1.2).bind fun q3 =>
  if q3.1 = (0 : Int) then
    some ((-2 : Int), q3.2)
  else
  (ab_on q3.2 10 a0 (f_X9_laysFar a0 a1 q3.2)).bind fun q4 =>
  (ab_get q4 10 33 a0).bind fun t5 =>
  (ab_ald q4 11 t5 a2).bind fun t6 =>
  some (t6, q4)
set_option maxRecDepth 20000 in
theorem ct_X9_chain {a0 a1 a2 : Int} {h : ab_H} {q : Int × ab_H} (hk : f_X9_chain a0 a1 a2 h = some q) : ab_CT yX9_chain cX9_chain 3 (some .int) 3 72 [ab_R a0, ab_I a1, ab_I a2] h (some (ab_I q.1)) q.2 := by
  refine ab_CT.mk_ 0 (own := RX9) (ini := false) (lv := [some (ab_R a0), some (ab_I a1), some (ab_I a2)]) rfl (by decide +kernel) (fun q => by cases q) rfl rfl ?_
  unfold f_X9_chain at hk
  show ab_E mm_X9_chain cX9_chain 0 _ [] h _ _
  refine ab_aload_n (pc := 0) (i := 0) dX9_chain_0 rfl rfl ?_
  refine ab_iload_n (pc := 1) (i := 1) dX9_chain_1 rfl rfl ?_
  obtain ⟨q1, hq1, hk⟩ := ab_bnd hk
  obtain ⟨hb, hq1⟩ := ab_on_some hq1
  refine ab_callVI (st := []) (as := [ab_I a1]) (b := a0) (pc := 2) dX9_chain_2 ml_RX9_346 my_X9_isWordNow mv_X9_isWordNow hb (ct_X9_isWordNow hq1) ⟨Nat.le_of_ble_eq_true rfl, Nat.le_of_ble_eq_true rfl⟩ rfl (Nat.le_of_ble_eq_true rfl) rfl ?_
  refine ab_if_eq (pc := 5) (tgt := 24) dX9_chain_5 rfl (fun hc => ?_) (fun hc => ?_)
  · have hk := ab_ifp hk hc
    refine ab_bipush (pc := 24) dX9_chain_24 ab_p8_m2 ab_k_m2 ?_
    obtain rfl := Option.some.inj hk
    exact ab_reti (pc := 26) dX9_chain_26 (Or.inl rfl)
  · have hk := ab_ifn hk hc
    refine ab_iload_n (pc := 8) (i := 2) dX9_chain_8 rfl rfl ?_
    refine ab_i2l_ (pc := 9) dX9_chain_9 ?_
    refine ab_lconst (x := (0 : Int)) (pc := 10) dX9_chain_10 rfl ab_kl_0 ?_
    refine ab_aload_n (pc := 11) (i := 0) dX9_chain_11 rfl rfl ?_
    obtain ⟨t2, ht2, hk⟩ := ab_bnd hk
    refine ab_getI (pc := 12) dX9_chain_12 fl_RX9_252 ht2 ?_
    refine ab_iconst (pc := 15) dX9_chain_15 ab_k_1 ?_
    refine ab_isub (pc := 16) dX9_chain_16 ?_
    refine ab_i2l_ (pc := 17) dX9_chain_17 ?_
    obtain ⟨q3, hq3, hk⟩ := ab_bnd hk
    refine ab_callSI (st := []) (as := [ab_J a2, ab_J (0 : Int), ab_J (ab_w32 (t2 - (1 : Int)))]) (pc := 18) dX9_chain_18 ml_RX9_84 my_X9_in ms_X9_in (ct_X9_in hq3) ⟨Nat.le_of_ble_eq_true rfl, Nat.le_of_ble_eq_true rfl⟩ rfl (Nat.le_of_ble_eq_true rfl) rfl ?_
    refine ab_if_ne (pc := 21) (tgt := 27) dX9_chain_21 rfl (fun hc => ?_) (fun hc => ?_)
    · have hk := ab_ifn hk hc
      refine ab_aload_n (pc := 27) (i := 0) dX9_chain_27 rfl rfl ?_
      refine ab_iload_n (pc := 28) (i := 1) dX9_chain_28 rfl rfl ?_
      obtain ⟨q4, hq4, hk⟩ := ab_bnd hk
      obtain ⟨hb, hq4⟩ := ab_on_some hq4
      refine ab_callVV (st := []) (as := [ab_I a1]) (b := a0) (pc := 29) dX9_chain_29 ml_RX9_443 my_X9_laysFar mv_X9_laysFar hb (ct_X9_laysFar hq4) ⟨Nat.le_of_ble_eq_true rfl, Nat.le_of_ble_eq_true rfl⟩ rfl (Nat.le_of_ble_eq_true rfl) rfl ?_
      refine ab_aload_n (pc := 32) (i := 0) dX9_chain_32 rfl rfl ?_
      obtain ⟨t5, ht5, hk⟩ := ab_bnd hk
      refine ab_getR (pc := 33) dX9_chain_33 fl_RX9_64 ht5 ?_
      refine ab_iload_n (pc := 36) (i := 2) dX9_chain_36 rfl rfl ?_
      obtain ⟨t6, ht6, hk⟩ := ab_bnd hk
      refine ab_iald (pc := 37) dX9_chain_37 ht6 ?_
      obtain rfl := Option.some.inj hk
      exact ab_reti (pc := 38) dX9_chain_38 (Or.inl rfl)
    · have hk := ab_ifp hk hc
      refine ab_bipush (pc := 24) dX9_chain_24 ab_p8_m2 ab_k_m2 ?_
      obtain rfl := Option.some.inj hk
      exact ab_reti (pc := 26) dX9_chain_26 (Or.inl rfl)
theorem dX9_groups_0 : decode cX9_groups 0 = .ok (.aload_n 0, 1) := by decide +kernel
theorem dX9_groups_1 : decode cX9_groups 1 = .ok (.invokevirtual 287, 3) := by decide +kernel
theorem dX9_groups_4 : decode cX9_groups 4 = .ok (.iconst 0, 1) := by decide +kernel
theorem dX9_groups_5 : decode cX9_groups 5 = .ok (.istore_n 1, 1) := by decide +kernel
theorem dX9_groups_6 : decode cX9_groups 6 = .ok (.iconst 0, 1) := by decide +kernel
theorem dX9_groups_7 : decode cX9_groups 7 = .ok (.istore_n 2, 1) := by decide +kernel
theorem dX9_groups_8 : decode cX9_groups 8 = .ok (.iload_n 2, 1) := by decide +kernel
theorem dX9_groups_9 : decode cX9_groups 9 = .ok (.aload_n 0, 1) := by decide +kernel
theorem dX9_groups_10 : decode cX9_groups 10 = .ok (.getfield 252, 3) := by decide +kernel
theorem dX9_groups_13 : decode cX9_groups 13 = .ok (.if_icmp .ge 64, 3) := by decide +kernel
theorem dX9_groups_16 : decode cX9_groups 16 = .ok (.aload_n 0, 1) := by decide +kernel
theorem dX9_groups_17 : decode cX9_groups 17 = .ok (.iload_n 2, 1) := by decide +kernel
theorem dX9_groups_18 : decode cX9_groups 18 = .ok (.invokevirtual 443, 3) := by decide +kernel
theorem dX9_groups_21 : decode cX9_groups 21 = .ok (.iconst 1, 1) := by decide +kernel
theorem dX9_groups_22 : decode cX9_groups 22 = .ok (.istore_n 3, 1) := by decide +kernel
theorem dX9_groups_23 : decode cX9_groups 23 = .ok (.iconst 0, 1) := by decide +kernel
theorem dX9_groups_24 : decode cX9_groups 24 = .ok (.istore 4, 2) := by decide +kernel
theorem dX9_groups_26 : decode cX9_groups 26 = .ok (.iload 4, 2) := by decide +kernel
theorem dX9_groups_28 : decode cX9_groups 28 = .ok (.iload_n 2, 1) := by decide +kernel
theorem dX9_groups_29 : decode cX9_groups 29 = .ok (.if_icmp .ge 30, 3) := by decide +kernel
theorem dX9_groups_32 : decode cX9_groups 32 = .ok (.iload_n 3, 1) := by decide +kernel
theorem dX9_groups_33 : decode cX9_groups 33 = .ok (.ifCond .eq 26, 3) := by decide +kernel
theorem dX9_groups_36 : decode cX9_groups 36 = .ok (.aload_n 0, 1) := by decide +kernel
theorem dX9_groups_37 : decode cX9_groups 37 = .ok (.getfield 64, 3) := by decide +kernel
theorem dX9_groups_40 : decode cX9_groups 40 = .ok (.iload 4, 2) := by decide +kernel
theorem dX9_groups_42 : decode cX9_groups 42 = .ok (.iaload, 1) := by decide +kernel
theorem dX9_groups_43 : decode cX9_groups 43 = .ok (.iconst (-1), 1) := by decide +kernel
theorem dX9_groups_44 : decode cX9_groups 44 = .ok (.if_icmp .ne 7, 3) := by decide +kernel
theorem dX9_groups_47 : decode cX9_groups 47 = .ok (.iconst 1, 1) := by decide +kernel
theorem dX9_groups_48 : decode cX9_groups 48 = .ok (.goto 4, 3) := by decide +kernel
theorem dX9_groups_51 : decode cX9_groups 51 = .ok (.iconst 0, 1) := by decide +kernel
theorem dX9_groups_52 : decode cX9_groups 52 = .ok (.istore_n 3, 1) := by decide +kernel
theorem dX9_groups_53 : decode cX9_groups 53 = .ok (.iinc 4 1, 3) := by decide +kernel
theorem dX9_groups_56 : decode cX9_groups 56 = .ok (.goto (-30), 3) := by decide +kernel
theorem dX9_groups_59 : decode cX9_groups 59 = .ok (.iload_n 1, 1) := by decide +kernel
theorem dX9_groups_60 : decode cX9_groups 60 = .ok (.iload_n 3, 1) := by decide +kernel
theorem dX9_groups_61 : decode cX9_groups 61 = .ok (.ifCond .eq 7, 3) := by decide +kernel
theorem dX9_groups_64 : decode cX9_groups 64 = .ok (.iconst 1, 1) := by decide +kernel
theorem dX9_groups_65 : decode cX9_groups 65 = .ok (.goto 4, 3) := by decide +kernel
theorem dX9_groups_68 : decode cX9_groups 68 = .ok (.iconst 0, 1) := by decide +kernel
theorem dX9_groups_69 : decode cX9_groups 69 = .ok (.iadd, 1) := by decide +kernel
theorem dX9_groups_70 : decode cX9_groups 70 = .ok (.istore_n 1, 1) := by decide +kernel
theorem dX9_groups_71 : decode cX9_groups 71 = .ok (.iinc 2 1, 3) := by decide +kernel
theorem dX9_groups_74 : decode cX9_groups 74 = .ok (.goto (-66), 3) := by decide +kernel
theorem dX9_groups_77 : decode cX9_groups 77 = .ok (.iload_n 1, 1) := by decide +kernel
theorem dX9_groups_78 : decode cX9_groups 78 = .ok (.ireturn, 1) := by decide +kernel
abbrev mm_X9_groups : ab_M := (RX9, 5, (some .int), false, 2, 51, none)
noncomputable def f_X9_groups_J69 (rec : Int → Int → Int → ab_H → Option (Int × ab_H)) (v0 : Int) (v2 : Int) (s1 : Int) (s0 : Int) (h : ab_H) : Option (Int × ab_H) :=
  rec v0 (ab_w32 (s0 + s1)) (ab_w32 (v2 + (1 : Int))) h
set_option maxRecDepth 20000 in
theorem e_X9_groups_J69 {rec : Int → Int → Int → ab_H → Option (Int × ab_H)} (hrec : ∀ (v0 : Int) (v1 : Int) (v2 : Int) (h : ab_H) (q : Int × ab_H), rec v0 v1 v2 h = some q → ab_E mm_X9_groups cX9_groups 8 [some (ab_R v0), some (ab_I v1), some (ab_I v2), none, none] [] h (some (ab_I q.1)) q.2) : ∀ (v0 : Int) (v2 : Int) (s1 : Int) (s0 : Int) (h : ab_H) (q : Int × ab_H), f_X9_groups_J69 rec v0 v2 s1 s0 h = some q → ab_E mm_X9_groups cX9_groups 69 [some (ab_R v0), none, some (ab_I v2), none, none] [ab_I s1, ab_I s0] h (some (ab_I q.1)) q.2 := by
  intro v0 v2 s1 s0 h q hk
  unfold f_X9_groups_J69 at hk
  refine ab_iadd (pc := 69) dX9_groups_69 ?_
  refine ab_istore_n (pc := 70) (i := 1) (lv2 := [some (ab_R v0), some (ab_I (ab_w32 (s0 + s1))), some (ab_I v2), none, none]) dX9_groups_70 rfl (Nat.le_of_ble_eq_true rfl) rfl rfl ?_
  refine ab_iinc (pc := 71) (i := 2) (lv2 := [some (ab_R v0), some (ab_I (ab_w32 (s0 + s1))), some (ab_I (ab_w32 (v2 + (1 : Int)))), none, none]) dX9_groups_71 rfl (Nat.le_of_ble_eq_true rfl) rfl rfl ?_
  refine ab_goto (pc := 74) (tgt := 8) dX9_groups_74 rfl ?_
  refine ab_sub_ (lv2 := [some (ab_R v0), some (ab_I (ab_w32 (s0 + s1))), some (ab_I (ab_w32 (v2 + (1 : Int)))), none, none]) (ab_ss (ab_ss (ab_ss (ab_sn (ab_sn ab_s0))))) ?_
  exact hrec _ _ _ _ _ hk
noncomputable def f_X9_groups_J59 (rec : Int → Int → Int → ab_H → Option (Int × ab_H)) (v0 : Int) (v1 : Int) (v2 : Int) (v3 : Int) (h : ab_H) : Option (Int × ab_H) :=
  if v3 = (0 : Int) then
    f_X9_groups_J69 rec v0 v2 (0 : Int) v1 h
  else
  f_X9_groups_J69 rec v0 v2 (1 : Int) v1 h
set_option maxRecDepth 20000 in
theorem e_X9_groups_J59 {rec : Int → Int → Int → ab_H → Option (Int × ab_H)} (hrec : ∀ (v0 : Int) (v1 : Int) (v2 : Int) (h : ab_H) (q : Int × ab_H), rec v0 v1 v2 h = some q → ab_E mm_X9_groups cX9_groups 8 [some (ab_R v0), some (ab_I v1), some (ab_I v2), none, none] [] h (some (ab_I q.1)) q.2) : ∀ (v0 : Int) (v1 : Int) (v2 : Int) (v3 : Int) (h : ab_H) (q : Int × ab_H), f_X9_groups_J59 rec v0 v1 v2 v3 h = some q → ab_E mm_X9_groups cX9_groups 59 [some (ab_R v0), some (ab_I v1), some (ab_I v2), some (ab_I v3), none] [] h (some (ab_I q.1)) q.2 := by
  intro v0 v1 v2 v3 h q hk
  unfold f_X9_groups_J59 at hk
  refine ab_iload_n (pc := 59) (i := 1) dX9_groups_59 rfl rfl ?_
  refine ab_iload_n (pc := 60) (i := 3) dX9_groups_60 rfl rfl ?_
  refine ab_if_eq (pc := 61) (tgt := 68) dX9_groups_61 rfl (fun hc => ?_) (fun hc => ?_)
  · have hk := ab_ifp hk hc
    refine ab_iconst (pc := 68) dX9_groups_68 ab_k_0 ?_
    refine ab_sub_ (lv2 := [some (ab_R v0), none, some (ab_I v2), none, none]) (ab_ss (ab_sn (ab_ss (ab_sn (ab_sn ab_s0))))) ?_
    exact e_X9_groups_J69 hrec _ _ _ _ _ _ hk
  · have hk := ab_ifn hk hc
    refine ab_iconst (pc := 64) dX9_groups_64 ab_k_1 ?_
    refine ab_goto (pc := 65) (tgt := 69) dX9_groups_65 rfl ?_
    refine ab_sub_ (lv2 := [some (ab_R v0), none, some (ab_I v2), none, none]) (ab_ss (ab_sn (ab_ss (ab_sn (ab_sn ab_s0))))) ?_
    exact e_X9_groups_J69 hrec _ _ _ _ _ _ hk
noncomputable def f_X9_groups_J52 (rec : Int → Int → Int → Int → Int → ab_H → Option (Int × ab_H)) (k59 : Int → Int → Int → Int → ab_H → Option (Int × ab_H)) (v0 : Int) (v1 : Int) (v2 : Int) (v4 : Int) (s0 : Int) (h : ab_H) : Option (Int × ab_H) :=
  rec v0 v1 v2 s0 (ab_w32 (v4 + (1 : Int))) h
set_option maxRecDepth 20000 in
theorem e_X9_groups_J52 {rec : Int → Int → Int → Int → Int → ab_H → Option (Int × ab_H)} {k59 : Int → Int → Int → Int → ab_H → Option (Int × ab_H)} (hrec : ∀ (v0 : Int) (v1 : Int) (v2 : Int) (v3 : Int) (v4 : Int) (h : ab_H) (q : Int × ab_H), rec v0 v1 v2 v3 v4 h = some q → ab_E mm_X9_groups cX9_groups 26 [some (ab_R v0), some (ab_I v1), some (ab_I v2), some (ab_I v3), some (ab_I v4)] [] h (some (ab_I q.1)) q.2) (hk59 : ∀ (v0 : Int) (v1 : Int) (v2 : Int) (v3 : Int) (h : ab_H) (q : Int × ab_H), k59 v0 v1 v2 v3 h = some q → ab_E mm_X9_groups cX9_groups 59 [some (ab_R v0), some (ab_I v1), some (ab_I v2), some (ab_I v3), none] [] h (some (ab_I q.1)) q.2) : ∀ (v0 : Int) (v1 : Int) (v2 : Int) (v4 : Int) (s0 : Int) (h : ab_H) (q : Int × ab_H), f_X9_groups_J52 rec k59 v0 v1 v2 v4 s0 h = some q → ab_E mm_X9_groups cX9_groups 52 [some (ab_R v0), some (ab_I v1), some (ab_I v2), none, some (ab_I v4)] [ab_I s0] h (some (ab_I q.1)) q.2 := by
  intro v0 v1 v2 v4 s0 h q hk
  unfold f_X9_groups_J52 at hk
  refine ab_istore_n (pc := 52) (i := 3) (lv2 := [some (ab_R v0), some (ab_I v1), some (ab_I v2), some (ab_I s0), some (ab_I v4)]) dX9_groups_52 rfl (Nat.le_of_ble_eq_true rfl) rfl rfl ?_
  refine ab_iinc (pc := 53) (i := 4) (lv2 := [some (ab_R v0), some (ab_I v1), some (ab_I v2), some (ab_I s0), some (ab_I (ab_w32 (v4 + (1 : Int))))]) dX9_groups_53 rfl (Nat.le_of_ble_eq_true rfl) rfl rfl ?_
  refine ab_goto (pc := 56) (tgt := 26) dX9_groups_56 rfl ?_
  refine ab_sub_ (lv2 := [some (ab_R v0), some (ab_I v1), some (ab_I v2), some (ab_I s0), some (ab_I (ab_w32 (v4 + (1 : Int))))]) (ab_ss (ab_ss (ab_ss (ab_ss (ab_ss ab_s0))))) ?_
  exact hrec _ _ _ _ _ _ _ hk
noncomputable def f_X9_groups_L26 (k59 : Int → Int → Int → Int → ab_H → Option (Int × ab_H)) : Nat → Int → Int → Int → Int → Int → ab_H → Option (Int × ab_H)
  | 0, _, _, _, _, _, _ => none
  | n + 1, v0, v1, v2, v3, v4, h =>
    if v2 ≤ v4 then
      k59 v0 v1 v2 v3 h
    else
    if v3 = (0 : Int) then
      k59 v0 v1 v2 v3 h
    else
    (ab_get h 10 33 v0).bind fun t1 =>
    (ab_ald h 11 t1 v4).bind fun t2 =>
    if t2 = (-1 : Int) then
      f_X9_groups_J52 (f_X9_groups_L26 k59 n) k59 v0 v1 v2 v4 (1 : Int) h
    else
    f_X9_groups_J52 (f_X9_groups_L26 k59 n) k59 v0 v1 v2 v4 (0 : Int) h
set_option maxRecDepth 20000 in
theorem e_X9_groups_L26 {k59 : Int → Int → Int → Int → ab_H → Option (Int × ab_H)} (hk59 : ∀ (v0 : Int) (v1 : Int) (v2 : Int) (v3 : Int) (h : ab_H) (q : Int × ab_H), k59 v0 v1 v2 v3 h = some q → ab_E mm_X9_groups cX9_groups 59 [some (ab_R v0), some (ab_I v1), some (ab_I v2), some (ab_I v3), none] [] h (some (ab_I q.1)) q.2) : ∀ (n : Nat) (v0 : Int) (v1 : Int) (v2 : Int) (v3 : Int) (v4 : Int) (h : ab_H) (q : Int × ab_H), f_X9_groups_L26 k59 n v0 v1 v2 v3 v4 h = some q → ab_E mm_X9_groups cX9_groups 26 [some (ab_R v0), some (ab_I v1), some (ab_I v2), some (ab_I v3), some (ab_I v4)] [] h (some (ab_I q.1)) q.2 := by
  intro n
  induction n with
  | zero => intro v0 v1 v2 v3 v4 h q hk; cases hk
  | succ n ih =>
    intro v0 v1 v2 v3 v4 h q hk
    unfold f_X9_groups_L26 at hk
    refine ab_iload (pc := 26) (i := 4) dX9_groups_26 rfl ?_
    refine ab_iload_n (pc := 28) (i := 2) dX9_groups_28 rfl rfl ?_
    refine ab_icmp_ge (pc := 29) (tgt := 59) dX9_groups_29 rfl (fun hc => ?_) (fun hc => ?_)
    · have hk := ab_ifp hk hc
      refine ab_sub_ (lv2 := [some (ab_R v0), some (ab_I v1), some (ab_I v2), some (ab_I v3), none]) (ab_ss (ab_ss (ab_ss (ab_ss (ab_sn ab_s0))))) ?_
      exact hk59 _ _ _ _ _ _ hk
    · have hk := ab_ifn hk hc
      refine ab_iload_n (pc := 32) (i := 3) dX9_groups_32 rfl rfl ?_
      refine ab_if_eq (pc := 33) (tgt := 59) dX9_groups_33 rfl (fun hc => ?_) (fun hc => ?_)
      · have hk := ab_ifp hk hc
        refine ab_sub_ (lv2 := [some (ab_R v0), some (ab_I v1), some (ab_I v2), some (ab_I v3), none]) (ab_ss (ab_ss (ab_ss (ab_ss (ab_sn ab_s0))))) ?_
        exact hk59 _ _ _ _ _ _ hk
      · have hk := ab_ifn hk hc
        refine ab_aload_n (pc := 36) (i := 0) dX9_groups_36 rfl rfl ?_
        obtain ⟨t1, ht1, hk⟩ := ab_bnd hk
        refine ab_getR (pc := 37) dX9_groups_37 fl_RX9_64 ht1 ?_
        refine ab_iload (pc := 40) (i := 4) dX9_groups_40 rfl ?_
        obtain ⟨t2, ht2, hk⟩ := ab_bnd hk
        refine ab_iald (pc := 42) dX9_groups_42 ht2 ?_
        refine ab_iconst (pc := 43) dX9_groups_43 ab_k_m1 ?_
        refine ab_icmp_ne (pc := 44) (tgt := 51) dX9_groups_44 rfl (fun hc => ?_) (fun hc => ?_)
        · have hk := ab_ifn hk hc
          refine ab_iconst (pc := 51) dX9_groups_51 ab_k_0 ?_
          refine ab_sub_ (lv2 := [some (ab_R v0), some (ab_I v1), some (ab_I v2), none, some (ab_I v4)]) (ab_ss (ab_ss (ab_ss (ab_sn (ab_ss ab_s0))))) ?_
          exact e_X9_groups_J52 ih hk59 _ _ _ _ _ _ _ hk
        · have hk := ab_ifp hk hc
          refine ab_iconst (pc := 47) dX9_groups_47 ab_k_1 ?_
          refine ab_goto (pc := 48) (tgt := 52) dX9_groups_48 rfl ?_
          refine ab_sub_ (lv2 := [some (ab_R v0), some (ab_I v1), some (ab_I v2), none, some (ab_I v4)]) (ab_ss (ab_ss (ab_ss (ab_sn (ab_ss ab_s0))))) ?_
          exact e_X9_groups_J52 ih hk59 _ _ _ _ _ _ _ hk
noncomputable def f_X9_groups_L8 : Nat → Int → Int → Int → ab_H → Option (Int × ab_H)
  | 0, _, _, _, _ => none
  | n + 1, v0, v1, v2, h =>
    (ab_get h 10 14 v0).bind fun t1 =>
    if t1 ≤ v2 then
      some (v1, h)
    else
    (ab_on h 10 v0 (f_X9_laysFar v0 v2 h)).bind fun q2 =>
    f_X9_groups_L26 (fun w59_0 w59_1 w59_2 w59_3 hx59 =>
      f_X9_groups_J59 (f_X9_groups_L8 n) w59_0 w59_1 w59_2 w59_3 hx59) ab_FU v0 v1 v2 (1 : Int) (0 : Int) q2
set_option maxRecDepth 20000 in
theorem e_X9_groups_L8 : ∀ (n : Nat) (v0 : Int) (v1 : Int) (v2 : Int) (h : ab_H) (q : Int × ab_H), f_X9_groups_L8 n v0 v1 v2 h = some q → ab_E mm_X9_groups cX9_groups 8 [some (ab_R v0), some (ab_I v1), some (ab_I v2), none, none] [] h (some (ab_I q.1)) q.2 := by
  intro n
  induction n with
  | zero => intro v0 v1 v2 h q hk; cases hk
  | succ n ih =>
    intro v0 v1 v2 h q hk
    unfold f_X9_groups_L8 at hk
    refine ab_iload_n (pc := 8) (i := 2) dX9_groups_8 rfl rfl ?_
    refine ab_aload_n (pc := 9) (i := 0) dX9_groups_9 rfl rfl ?_
    obtain ⟨t1, ht1, hk⟩ := ab_bnd hk
    refine ab_getI (pc := 10) dX9_groups_10 fl_RX9_252 ht1 ?_
    refine ab_icmp_ge (pc := 13) (tgt := 77) dX9_groups_13 rfl (fun hc => ?_) (fun hc => ?_)
    · have hk := ab_ifp hk hc
      refine ab_iload_n (pc := 77) (i := 1) dX9_groups_77 rfl rfl ?_
      obtain rfl := Option.some.inj hk
      exact ab_reti (pc := 78) dX9_groups_78 (Or.inl rfl)
    · have hk := ab_ifn hk hc
      refine ab_aload_n (pc := 16) (i := 0) dX9_groups_16 rfl rfl ?_
      refine ab_iload_n (pc := 17) (i := 2) dX9_groups_17 rfl rfl ?_
      obtain ⟨q2, hq2, hk⟩ := ab_bnd hk
      obtain ⟨hb, hq2⟩ := ab_on_some hq2
      refine ab_callVV (st := []) (as := [ab_I v2]) (b := v0) (pc := 18) dX9_groups_18 ml_RX9_443 my_X9_laysFar mv_X9_laysFar hb (ct_X9_laysFar hq2) ⟨Nat.le_of_ble_eq_true rfl, Nat.le_of_ble_eq_true rfl⟩ rfl (Nat.le_of_ble_eq_true rfl) rfl ?_
      refine ab_iconst (pc := 21) dX9_groups_21 ab_k_1 ?_
      refine ab_istore_n (pc := 22) (i := 3) (lv2 := [some (ab_R v0), some (ab_I v1), some (ab_I v2), some (ab_I (1 : Int)), none]) dX9_groups_22 rfl (Nat.le_of_ble_eq_true rfl) rfl rfl ?_
      refine ab_iconst (pc := 23) dX9_groups_23 ab_k_0 ?_
      refine ab_istore (pc := 24) (i := 4) (lv2 := [some (ab_R v0), some (ab_I v1), some (ab_I v2), some (ab_I (1 : Int)), some (ab_I (0 : Int))]) dX9_groups_24 (Nat.le_of_ble_eq_true rfl) rfl rfl ?_
      refine ab_sub_ (lv2 := [some (ab_R v0), some (ab_I v1), some (ab_I v2), some (ab_I (1 : Int)), some (ab_I (0 : Int))]) (ab_ss (ab_ss (ab_ss (ab_ss (ab_ss ab_s0))))) ?_
      refine e_X9_groups_L26 (fun w59_0 w59_1 w59_2 w59_3 hx59 q hk => ?_) _ _ _ _ _ _ _ _ hk
      · skip
        refine ab_sub_ (lv2 := [some (ab_R w59_0), some (ab_I w59_1), some (ab_I w59_2), some (ab_I w59_3), none]) (ab_ss (ab_ss (ab_ss (ab_ss (ab_sn ab_s0))))) ?_
        exact e_X9_groups_J59 ih _ _ _ _ _ _ hk
noncomputable def f_X9_groups (a0 : Int) (h : ab_H) : Option (Int × ab_H) :=
  (ab_on h 10 a0 (f_X9_laysWords a0 h)).bind fun q1 =>
  f_X9_groups_L8 ab_FU a0 (0 : Int) (0 : Int) q1
set_option maxRecDepth 20000 in
theorem ct_X9_groups {a0 : Int} {h : ab_H} {q : Int × ab_H} (hk : f_X9_groups a0 h = some q) : ab_CT yX9_groups cX9_groups 5 (some .int) 2 51 [ab_R a0] h (some (ab_I q.1)) q.2 := by
  refine ab_CT.mk_ 4 (own := RX9) (ini := false) (lv := [some (ab_R a0), none, none, none, none]) rfl (by decide +kernel) (fun q => by cases q) rfl rfl ?_
  unfold f_X9_groups at hk
  show ab_E mm_X9_groups cX9_groups 0 _ [] h _ _
  refine ab_aload_n (pc := 0) (i := 0) dX9_groups_0 rfl rfl ?_
  obtain ⟨q1, hq1, hk⟩ := ab_bnd hk
  obtain ⟨hb, hq1⟩ := ab_on_some hq1
  refine ab_callVV (st := []) (as := []) (b := a0) (pc := 1) dX9_groups_1 ml_RX9_287 my_X9_laysWords mv_X9_laysWords hb (ct_X9_laysWords hq1) ⟨Nat.le_of_ble_eq_true rfl, Nat.le_of_ble_eq_true rfl⟩ rfl (Nat.le_of_ble_eq_true rfl) rfl ?_
  refine ab_iconst (pc := 4) dX9_groups_4 ab_k_0 ?_
  refine ab_istore_n (pc := 5) (i := 1) (lv2 := [some (ab_R a0), some (ab_I (0 : Int)), none, none, none]) dX9_groups_5 rfl (Nat.le_of_ble_eq_true rfl) rfl rfl ?_
  refine ab_iconst (pc := 6) dX9_groups_6 ab_k_0 ?_
  refine ab_istore_n (pc := 7) (i := 2) (lv2 := [some (ab_R a0), some (ab_I (0 : Int)), some (ab_I (0 : Int)), none, none]) dX9_groups_7 rfl (Nat.le_of_ble_eq_true rfl) rfl rfl ?_
  refine ab_sub_ (lv2 := [some (ab_R a0), some (ab_I (0 : Int)), some (ab_I (0 : Int)), none, none]) (ab_ss (ab_ss (ab_ss (ab_sn (ab_sn ab_s0))))) ?_
  refine e_X9_groups_L8 _ _ _ _ _ _ hk
theorem dX9_shown_0 : decode cX9_shown 0 = .ok (.aload_n 0, 1) := by decide +kernel
theorem dX9_shown_1 : decode cX9_shown 1 = .ok (.iload_n 1, 1) := by decide +kernel
theorem dX9_shown_2 : decode cX9_shown 2 = .ok (.invokevirtual 346, 3) := by decide +kernel
theorem dX9_shown_5 : decode cX9_shown 5 = .ok (.ifCond .eq 15, 3) := by decide +kernel
theorem dX9_shown_8 : decode cX9_shown 8 = .ok (.iload_n 2, 1) := by decide +kernel
theorem dX9_shown_9 : decode cX9_shown 9 = .ok (.i2l, 1) := by decide +kernel
theorem dX9_shown_10 : decode cX9_shown 10 = .ok (.lconst 0, 1) := by decide +kernel
theorem dX9_shown_11 : decode cX9_shown 11 = .ok (.ldc2_w 438, 3) := by decide +kernel
theorem dX9_shown_14 : decode cX9_shown 14 = .ok (.invokestatic 84, 3) := by decide +kernel
theorem dX9_shown_17 : decode cX9_shown 17 = .ok (.ifCond .ne 6, 3) := by decide +kernel
theorem dX9_shown_20 : decode cX9_shown 20 = .ok (.bipush (-2), 2) := by decide +kernel
theorem dX9_shown_22 : decode cX9_shown 22 = .ok (.ireturn, 1) := by decide +kernel
theorem dX9_shown_23 : decode cX9_shown 23 = .ok (.aload_n 0, 1) := by decide +kernel
theorem dX9_shown_24 : decode cX9_shown 24 = .ok (.invokevirtual 314, 3) := by decide +kernel
theorem dX9_shown_27 : decode cX9_shown 27 = .ok (.iconst 0, 1) := by decide +kernel
theorem dX9_shown_28 : decode cX9_shown 28 = .ok (.istore_n 3, 1) := by decide +kernel
theorem dX9_shown_29 : decode cX9_shown 29 = .ok (.iconst 0, 1) := by decide +kernel
theorem dX9_shown_30 : decode cX9_shown 30 = .ok (.istore 4, 2) := by decide +kernel
theorem dX9_shown_32 : decode cX9_shown 32 = .ok (.iload 4, 2) := by decide +kernel
theorem dX9_shown_34 : decode cX9_shown 34 = .ok (.aload_n 0, 1) := by decide +kernel
theorem dX9_shown_35 : decode cX9_shown 35 = .ok (.getfield 303, 3) := by decide +kernel
theorem dX9_shown_38 : decode cX9_shown 38 = .ok (.if_icmp .ge 131, 3) := by decide +kernel
theorem dX9_shown_41 : decode cX9_shown 41 = .ok (.aload_n 0, 1) := by decide +kernel
theorem dX9_shown_42 : decode cX9_shown 42 = .ok (.getfield 49, 3) := by decide +kernel
theorem dX9_shown_45 : decode cX9_shown 45 = .ok (.aload_n 0, 1) := by decide +kernel
theorem dX9_shown_46 : decode cX9_shown 46 = .ok (.iload 4, 2) := by decide +kernel
theorem dX9_shown_48 : decode cX9_shown 48 = .ok (.invokevirtual 362, 3) := by decide +kernel
theorem dX9_shown_51 : decode cX9_shown 51 = .ok (.iaload, 1) := by decide +kernel
theorem dX9_shown_52 : decode cX9_shown 52 = .ok (.istore 5, 2) := by decide +kernel
theorem dX9_shown_54 : decode cX9_shown 54 = .ok (.iload_n 2, 1) := by decide +kernel
theorem dX9_shown_55 : decode cX9_shown 55 = .ok (.ifCond .ne 17, 3) := by decide +kernel
theorem dX9_shown_58 : decode cX9_shown 58 = .ok (.aload_n 0, 1) := by decide +kernel
theorem dX9_shown_59 : decode cX9_shown 59 = .ok (.iload 5, 2) := by decide +kernel
theorem dX9_shown_61 : decode cX9_shown 61 = .ok (.invokevirtual 274, 3) := by decide +kernel
theorem dX9_shown_64 : decode cX9_shown 64 = .ok (.iload_n 1, 1) := by decide +kernel
theorem dX9_shown_65 : decode cX9_shown 65 = .ok (.if_icmp .ne 7, 3) := by decide +kernel
theorem dX9_shown_68 : decode cX9_shown 68 = .ok (.iconst 1, 1) := by decide +kernel
theorem dX9_shown_69 : decode cX9_shown 69 = .ok (.goto 4, 3) := by decide +kernel
theorem dX9_shown_72 : decode cX9_shown 72 = .ok (.iconst 0, 1) := by decide +kernel
theorem dX9_shown_73 : decode cX9_shown 73 = .ok (.istore 6, 2) := by decide +kernel
theorem dX9_shown_75 : decode cX9_shown 75 = .ok (.bipush 12, 2) := by decide +kernel
theorem dX9_shown_77 : decode cX9_shown 77 = .ok (.iload 5, 2) := by decide +kernel
theorem dX9_shown_79 : decode cX9_shown 79 = .ok (.imul, 1) := by decide +kernel
theorem dX9_shown_80 : decode cX9_shown 80 = .ok (.iload_n 2, 1) := by decide +kernel
theorem dX9_shown_81 : decode cX9_shown 81 = .ok (.iconst 2, 1) := by decide +kernel
theorem dX9_shown_82 : decode cX9_shown 82 = .ok (.if_icmp .ne 8, 3) := by decide +kernel
theorem dX9_shown_85 : decode cX9_shown 85 = .ok (.bipush 6, 2) := by decide +kernel
theorem dX9_shown_87 : decode cX9_shown 87 = .ok (.goto 4, 3) := by decide +kernel
theorem dX9_shown_90 : decode cX9_shown 90 = .ok (.iconst 0, 1) := by decide +kernel
theorem dX9_shown_91 : decode cX9_shown 91 = .ok (.iadd, 1) := by decide +kernel
theorem dX9_shown_92 : decode cX9_shown 92 = .ok (.istore 7, 2) := by decide +kernel
theorem dX9_shown_94 : decode cX9_shown 94 = .ok (.iconst 1, 1) := by decide +kernel
theorem dX9_shown_95 : decode cX9_shown 95 = .ok (.istore 8, 2) := by decide +kernel
theorem dX9_shown_97 : decode cX9_shown 97 = .ok (.iload 8, 2) := by decide +kernel
theorem dX9_shown_99 : decode cX9_shown 99 = .ok (.aload_n 0, 1) := by decide +kernel
theorem dX9_shown_100 : decode cX9_shown 100 = .ok (.getfield 46, 3) := by decide +kernel
theorem dX9_shown_103 : decode cX9_shown 103 = .ok (.iload 7, 2) := by decide +kernel
theorem dX9_shown_105 : decode cX9_shown 105 = .ok (.iaload, 1) := by decide +kernel
theorem dX9_shown_106 : decode cX9_shown 106 = .ok (.if_icmp .gt 44, 3) := by decide +kernel
theorem dX9_shown_109 : decode cX9_shown 109 = .ok (.iload_n 2, 1) := by decide +kernel
theorem dX9_shown_110 : decode cX9_shown 110 = .ok (.ifCond .le 40, 3) := by decide +kernel
theorem dX9_shown_113 : decode cX9_shown 113 = .ok (.iload 6, 2) := by decide +kernel
theorem dX9_shown_115 : decode cX9_shown 115 = .ok (.ifCond .ne 22, 3) := by decide +kernel
theorem dX9_shown_118 : decode cX9_shown 118 = .ok (.aload_n 0, 1) := by decide +kernel
theorem dX9_shown_119 : decode cX9_shown 119 = .ok (.getfield 27, 3) := by decide +kernel
theorem dX9_shown_122 : decode cX9_shown 122 = .ok (.aload_n 0, 1) := by decide +kernel
theorem dX9_shown_123 : decode cX9_shown 123 = .ok (.getfield 46, 3) := by decide +kernel
theorem dX9_shown_126 : decode cX9_shown 126 = .ok (.iload 7, 2) := by decide +kernel
theorem dX9_shown_128 : decode cX9_shown 128 = .ok (.iload 8, 2) := by decide +kernel
theorem dX9_shown_130 : decode cX9_shown 130 = .ok (.iadd, 1) := by decide +kernel
theorem dX9_shown_131 : decode cX9_shown 131 = .ok (.iaload, 1) := by decide +kernel
theorem dX9_shown_132 : decode cX9_shown 132 = .ok (.iaload, 1) := by decide +kernel
theorem dX9_shown_133 : decode cX9_shown 133 = .ok (.iload_n 1, 1) := by decide +kernel
theorem dX9_shown_134 : decode cX9_shown 134 = .ok (.if_icmp .ne 7, 3) := by decide +kernel
theorem dX9_shown_137 : decode cX9_shown 137 = .ok (.iconst 1, 1) := by decide +kernel
theorem dX9_shown_138 : decode cX9_shown 138 = .ok (.goto 4, 3) := by decide +kernel
theorem dX9_shown_141 : decode cX9_shown 141 = .ok (.iconst 0, 1) := by decide +kernel
theorem dX9_shown_142 : decode cX9_shown 142 = .ok (.istore 6, 2) := by decide +kernel
theorem dX9_shown_144 : decode cX9_shown 144 = .ok (.iinc 8 1, 3) := by decide +kernel
theorem dX9_shown_147 : decode cX9_shown 147 = .ok (.goto (-50), 3) := by decide +kernel
theorem dX9_shown_150 : decode cX9_shown 150 = .ok (.iload_n 3, 1) := by decide +kernel
theorem dX9_shown_151 : decode cX9_shown 151 = .ok (.iload 6, 2) := by decide +kernel
theorem dX9_shown_153 : decode cX9_shown 153 = .ok (.ifCond .eq 7, 3) := by decide +kernel
theorem dX9_shown_156 : decode cX9_shown 156 = .ok (.iconst 1, 1) := by decide +kernel
theorem dX9_shown_157 : decode cX9_shown 157 = .ok (.goto 4, 3) := by decide +kernel
theorem dX9_shown_160 : decode cX9_shown 160 = .ok (.iconst 0, 1) := by decide +kernel
theorem dX9_shown_161 : decode cX9_shown 161 = .ok (.iadd, 1) := by decide +kernel
theorem dX9_shown_162 : decode cX9_shown 162 = .ok (.istore_n 3, 1) := by decide +kernel
theorem dX9_shown_163 : decode cX9_shown 163 = .ok (.iinc 4 1, 3) := by decide +kernel
theorem dX9_shown_166 : decode cX9_shown 166 = .ok (.goto (-134), 3) := by decide +kernel
theorem dX9_shown_169 : decode cX9_shown 169 = .ok (.iload_n 3, 1) := by decide +kernel
theorem dX9_shown_170 : decode cX9_shown 170 = .ok (.ireturn, 1) := by decide +kernel
abbrev mm_X9_shown : ab_M := (RX9, 9, (some .int), false, 6, 133, none)
noncomputable def f_X9_shown_J161 (rec : Int → Int → Int → Int → Int → ab_H → Option (Int × ab_H)) (v0 : Int) (v1 : Int) (v2 : Int) (v4 : Int) (s1 : Int) (s0 : Int) (h : ab_H) : Option (Int × ab_H) :=
  rec v0 v1 v2 (ab_w32 (s0 + s1)) (ab_w32 (v4 + (1 : Int))) h
set_option maxRecDepth 20000 in
theorem e_X9_shown_J161 {rec : Int → Int → Int → Int → Int → ab_H → Option (Int × ab_H)} (hrec : ∀ (v0 : Int) (v1 : Int) (v2 : Int) (v3 : Int) (v4 : Int) (h : ab_H) (q : Int × ab_H), rec v0 v1 v2 v3 v4 h = some q → ab_E mm_X9_shown cX9_shown 32 [some (ab_R v0), some (ab_I v1), some (ab_I v2), some (ab_I v3), some (ab_I v4), none, none, none, none] [] h (some (ab_I q.1)) q.2) : ∀ (v0 : Int) (v1 : Int) (v2 : Int) (v4 : Int) (s1 : Int) (s0 : Int) (h : ab_H) (q : Int × ab_H), f_X9_shown_J161 rec v0 v1 v2 v4 s1 s0 h = some q → ab_E mm_X9_shown cX9_shown 161 [some (ab_R v0), some (ab_I v1), some (ab_I v2), none, some (ab_I v4), none, none, none, none] [ab_I s1, ab_I s0] h (some (ab_I q.1)) q.2 := by
  intro v0 v1 v2 v4 s1 s0 h q hk
  unfold f_X9_shown_J161 at hk
  refine ab_iadd (pc := 161) dX9_shown_161 ?_
  refine ab_istore_n (pc := 162) (i := 3) (lv2 := [some (ab_R v0), some (ab_I v1), some (ab_I v2), some (ab_I (ab_w32 (s0 + s1))), some (ab_I v4), none, none, none, none]) dX9_shown_162 rfl (Nat.le_of_ble_eq_true rfl) rfl rfl ?_
  refine ab_iinc (pc := 163) (i := 4) (lv2 := [some (ab_R v0), some (ab_I v1), some (ab_I v2), some (ab_I (ab_w32 (s0 + s1))), some (ab_I (ab_w32 (v4 + (1 : Int)))), none, none, none, none]) dX9_shown_163 rfl (Nat.le_of_ble_eq_true rfl) rfl rfl ?_
  refine ab_goto (pc := 166) (tgt := 32) dX9_shown_166 rfl ?_
  refine ab_sub_ (lv2 := [some (ab_R v0), some (ab_I v1), some (ab_I v2), some (ab_I (ab_w32 (s0 + s1))), some (ab_I (ab_w32 (v4 + (1 : Int)))), none, none, none, none]) (ab_ss (ab_ss (ab_ss (ab_ss (ab_ss (ab_sn (ab_sn (ab_sn (ab_sn ab_s0))))))))) ?_
  exact hrec _ _ _ _ _ _ _ hk
noncomputable def f_X9_shown_J150 (rec : Int → Int → Int → Int → Int → ab_H → Option (Int × ab_H)) (v0 : Int) (v1 : Int) (v2 : Int) (v3 : Int) (v4 : Int) (v6 : Int) (h : ab_H) : Option (Int × ab_H) :=
  if v6 = (0 : Int) then
    f_X9_shown_J161 rec v0 v1 v2 v4 (0 : Int) v3 h
  else
  f_X9_shown_J161 rec v0 v1 v2 v4 (1 : Int) v3 h
set_option maxRecDepth 20000 in
theorem e_X9_shown_J150 {rec : Int → Int → Int → Int → Int → ab_H → Option (Int × ab_H)} (hrec : ∀ (v0 : Int) (v1 : Int) (v2 : Int) (v3 : Int) (v4 : Int) (h : ab_H) (q : Int × ab_H), rec v0 v1 v2 v3 v4 h = some q → ab_E mm_X9_shown cX9_shown 32 [some (ab_R v0), some (ab_I v1), some (ab_I v2), some (ab_I v3), some (ab_I v4), none, none, none, none] [] h (some (ab_I q.1)) q.2) : ∀ (v0 : Int) (v1 : Int) (v2 : Int) (v3 : Int) (v4 : Int) (v6 : Int) (h : ab_H) (q : Int × ab_H), f_X9_shown_J150 rec v0 v1 v2 v3 v4 v6 h = some q → ab_E mm_X9_shown cX9_shown 150 [some (ab_R v0), some (ab_I v1), some (ab_I v2), some (ab_I v3), some (ab_I v4), none, some (ab_I v6), none, none] [] h (some (ab_I q.1)) q.2 := by
  intro v0 v1 v2 v3 v4 v6 h q hk
  unfold f_X9_shown_J150 at hk
  refine ab_iload_n (pc := 150) (i := 3) dX9_shown_150 rfl rfl ?_
  refine ab_iload (pc := 151) (i := 6) dX9_shown_151 rfl ?_
  refine ab_if_eq (pc := 153) (tgt := 160) dX9_shown_153 rfl (fun hc => ?_) (fun hc => ?_)
  · have hk := ab_ifp hk hc
    refine ab_iconst (pc := 160) dX9_shown_160 ab_k_0 ?_
    refine ab_sub_ (lv2 := [some (ab_R v0), some (ab_I v1), some (ab_I v2), none, some (ab_I v4), none, none, none, none]) (ab_ss (ab_ss (ab_ss (ab_sn (ab_ss (ab_sn (ab_sn (ab_sn (ab_sn ab_s0))))))))) ?_
    exact e_X9_shown_J161 hrec _ _ _ _ _ _ _ _ hk
  · have hk := ab_ifn hk hc
    refine ab_iconst (pc := 156) dX9_shown_156 ab_k_1 ?_
    refine ab_goto (pc := 157) (tgt := 161) dX9_shown_157 rfl ?_
    refine ab_sub_ (lv2 := [some (ab_R v0), some (ab_I v1), some (ab_I v2), none, some (ab_I v4), none, none, none, none]) (ab_ss (ab_ss (ab_ss (ab_sn (ab_ss (ab_sn (ab_sn (ab_sn (ab_sn ab_s0))))))))) ?_
    exact e_X9_shown_J161 hrec _ _ _ _ _ _ _ _ hk
noncomputable def f_X9_shown_J142 (rec : Int → Int → Int → Int → Int → Int → Int → Int → ab_H → Option (Int × ab_H)) (k150 : Int → Int → Int → Int → Int → Int → ab_H → Option (Int × ab_H)) (v0 : Int) (v1 : Int) (v2 : Int) (v3 : Int) (v4 : Int) (v7 : Int) (v8 : Int) (s0 : Int) (h : ab_H) : Option (Int × ab_H) :=
  rec v0 v1 v2 v3 v4 s0 v7 (ab_w32 (v8 + (1 : Int))) h
set_option maxRecDepth 20000 in
theorem e_X9_shown_J142 {rec : Int → Int → Int → Int → Int → Int → Int → Int → ab_H → Option (Int × ab_H)} {k150 : Int → Int → Int → Int → Int → Int → ab_H → Option (Int × ab_H)} (hrec : ∀ (v0 : Int) (v1 : Int) (v2 : Int) (v3 : Int) (v4 : Int) (v6 : Int) (v7 : Int) (v8 : Int) (h : ab_H) (q : Int × ab_H), rec v0 v1 v2 v3 v4 v6 v7 v8 h = some q → ab_E mm_X9_shown cX9_shown 97 [some (ab_R v0), some (ab_I v1), some (ab_I v2), some (ab_I v3), some (ab_I v4), none, some (ab_I v6), some (ab_I v7), some (ab_I v8)] [] h (some (ab_I q.1)) q.2) (hk150 : ∀ (v0 : Int) (v1 : Int) (v2 : Int) (v3 : Int) (v4 : Int) (v6 : Int) (h : ab_H) (q : Int × ab_H), k150 v0 v1 v2 v3 v4 v6 h = some q → ab_E mm_X9_shown cX9_shown 150 [some (ab_R v0), some (ab_I v1), some (ab_I v2), some (ab_I v3), some (ab_I v4), none, some (ab_I v6), none, none] [] h (some (ab_I q.1)) q.2) : ∀ (v0 : Int) (v1 : Int) (v2 : Int) (v3 : Int) (v4 : Int) (v7 : Int) (v8 : Int) (s0 : Int) (h : ab_H) (q : Int × ab_H), f_X9_shown_J142 rec k150 v0 v1 v2 v3 v4 v7 v8 s0 h = some q → ab_E mm_X9_shown cX9_shown 142 [some (ab_R v0), some (ab_I v1), some (ab_I v2), some (ab_I v3), some (ab_I v4), none, none, some (ab_I v7), some (ab_I v8)] [ab_I s0] h (some (ab_I q.1)) q.2 := by
  intro v0 v1 v2 v3 v4 v7 v8 s0 h q hk
  unfold f_X9_shown_J142 at hk
  refine ab_istore (pc := 142) (i := 6) (lv2 := [some (ab_R v0), some (ab_I v1), some (ab_I v2), some (ab_I v3), some (ab_I v4), none, some (ab_I s0), some (ab_I v7), some (ab_I v8)]) dX9_shown_142 (Nat.le_of_ble_eq_true rfl) rfl rfl ?_
  refine ab_iinc (pc := 144) (i := 8) (lv2 := [some (ab_R v0), some (ab_I v1), some (ab_I v2), some (ab_I v3), some (ab_I v4), none, some (ab_I s0), some (ab_I v7), some (ab_I (ab_w32 (v8 + (1 : Int))))]) dX9_shown_144 rfl (Nat.le_of_ble_eq_true rfl) rfl rfl ?_
  refine ab_goto (pc := 147) (tgt := 97) dX9_shown_147 rfl ?_
  refine ab_sub_ (lv2 := [some (ab_R v0), some (ab_I v1), some (ab_I v2), some (ab_I v3), some (ab_I v4), none, some (ab_I s0), some (ab_I v7), some (ab_I (ab_w32 (v8 + (1 : Int))))]) (ab_ss (ab_ss (ab_ss (ab_ss (ab_ss (ab_sn (ab_ss (ab_ss (ab_ss ab_s0))))))))) ?_
  exact hrec _ _ _ _ _ _ _ _ _ _ hk
noncomputable def f_X9_shown_J137 (rec : Int → Int → Int → Int → Int → Int → Int → Int → ab_H → Option (Int × ab_H)) (k150 : Int → Int → Int → Int → Int → Int → ab_H → Option (Int × ab_H)) (v0 : Int) (v1 : Int) (v2 : Int) (v3 : Int) (v4 : Int) (v7 : Int) (v8 : Int) (h : ab_H) : Option (Int × ab_H) :=
  f_X9_shown_J142 rec k150 v0 v1 v2 v3 v4 v7 v8 (1 : Int) h
set_option maxRecDepth 20000 in
theorem e_X9_shown_J137 {rec : Int → Int → Int → Int → Int → Int → Int → Int → ab_H → Option (Int × ab_H)} {k150 : Int → Int → Int → Int → Int → Int → ab_H → Option (Int × ab_H)} (hrec : ∀ (v0 : Int) (v1 : Int) (v2 : Int) (v3 : Int) (v4 : Int) (v6 : Int) (v7 : Int) (v8 : Int) (h : ab_H) (q : Int × ab_H), rec v0 v1 v2 v3 v4 v6 v7 v8 h = some q → ab_E mm_X9_shown cX9_shown 97 [some (ab_R v0), some (ab_I v1), some (ab_I v2), some (ab_I v3), some (ab_I v4), none, some (ab_I v6), some (ab_I v7), some (ab_I v8)] [] h (some (ab_I q.1)) q.2) (hk150 : ∀ (v0 : Int) (v1 : Int) (v2 : Int) (v3 : Int) (v4 : Int) (v6 : Int) (h : ab_H) (q : Int × ab_H), k150 v0 v1 v2 v3 v4 v6 h = some q → ab_E mm_X9_shown cX9_shown 150 [some (ab_R v0), some (ab_I v1), some (ab_I v2), some (ab_I v3), some (ab_I v4), none, some (ab_I v6), none, none] [] h (some (ab_I q.1)) q.2) : ∀ (v0 : Int) (v1 : Int) (v2 : Int) (v3 : Int) (v4 : Int) (v7 : Int) (v8 : Int) (h : ab_H) (q : Int × ab_H), f_X9_shown_J137 rec k150 v0 v1 v2 v3 v4 v7 v8 h = some q → ab_E mm_X9_shown cX9_shown 137 [some (ab_R v0), some (ab_I v1), some (ab_I v2), some (ab_I v3), some (ab_I v4), none, none, some (ab_I v7), some (ab_I v8)] [] h (some (ab_I q.1)) q.2 := by
  intro v0 v1 v2 v3 v4 v7 v8 h q hk
  unfold f_X9_shown_J137 at hk
  refine ab_iconst (pc := 137) dX9_shown_137 ab_k_1 ?_
  refine ab_goto (pc := 138) (tgt := 142) dX9_shown_138 rfl ?_
  refine ab_sub_ (lv2 := [some (ab_R v0), some (ab_I v1), some (ab_I v2), some (ab_I v3), some (ab_I v4), none, none, some (ab_I v7), some (ab_I v8)]) (ab_ss (ab_ss (ab_ss (ab_ss (ab_ss (ab_sn (ab_sn (ab_ss (ab_ss ab_s0))))))))) ?_
  exact e_X9_shown_J142 hrec hk150 _ _ _ _ _ _ _ _ _ _ hk
noncomputable def f_X9_shown_L97 (k150 : Int → Int → Int → Int → Int → Int → ab_H → Option (Int × ab_H)) : Nat → Int → Int → Int → Int → Int → Int → Int → Int → ab_H → Option (Int × ab_H)
  | 0, _, _, _, _, _, _, _, _, _ => none
  | n + 1, v0, v1, v2, v3, v4, v6, v7, v8, h =>
    (ab_get h 10 24 v0).bind fun t1 =>
    (ab_ald h 11 t1 v7).bind fun t2 =>
    if t2 < v8 then
      k150 v0 v1 v2 v3 v4 v6 h
    else
    if v2 ≤ (0 : Int) then
      k150 v0 v1 v2 v3 v4 v6 h
    else
    if v6 = (0 : Int) then
      (ab_get h 10 15 v0).bind fun t3 =>
      (ab_get h 10 24 v0).bind fun t4 =>
      (ab_ald h 11 t4 (ab_w32 (v7 + v8))).bind fun t5 =>
      (ab_ald h 11 t3 t5).bind fun t6 =>
      if t6 = v1 then
        f_X9_shown_J137 (f_X9_shown_L97 k150 n) k150 v0 v1 v2 v3 v4 v7 v8 h
      else
      f_X9_shown_J142 (f_X9_shown_L97 k150 n) k150 v0 v1 v2 v3 v4 v7 v8 (0 : Int) h
    else
    f_X9_shown_J137 (f_X9_shown_L97 k150 n) k150 v0 v1 v2 v3 v4 v7 v8 h
set_option maxRecDepth 20000 in
theorem e_X9_shown_L97 {k150 : Int → Int → Int → Int → Int → Int → ab_H → Option (Int × ab_H)} (hk150 : ∀ (v0 : Int) (v1 : Int) (v2 : Int) (v3 : Int) (v4 : Int) (v6 : Int) (h : ab_H) (q : Int × ab_H), k150 v0 v1 v2 v3 v4 v6 h = some q → ab_E mm_X9_shown cX9_shown 150 [some (ab_R v0), some (ab_I v1), some (ab_I v2), some (ab_I v3), some (ab_I v4), none, some (ab_I v6), none, none] [] h (some (ab_I q.1)) q.2) : ∀ (n : Nat) (v0 : Int) (v1 : Int) (v2 : Int) (v3 : Int) (v4 : Int) (v6 : Int) (v7 : Int) (v8 : Int) (h : ab_H) (q : Int × ab_H), f_X9_shown_L97 k150 n v0 v1 v2 v3 v4 v6 v7 v8 h = some q → ab_E mm_X9_shown cX9_shown 97 [some (ab_R v0), some (ab_I v1), some (ab_I v2), some (ab_I v3), some (ab_I v4), none, some (ab_I v6), some (ab_I v7), some (ab_I v8)] [] h (some (ab_I q.1)) q.2 := by
  intro n
  induction n with
  | zero => intro v0 v1 v2 v3 v4 v6 v7 v8 h q hk; cases hk
  | succ n ih =>
    intro v0 v1 v2 v3 v4 v6 v7 v8 h q hk
    unfold f_X9_shown_L97 at hk
    refine ab_iload (pc := 97) (i := 8) dX9_shown_97 rfl ?_
    refine ab_aload_n (pc := 99) (i := 0) dX9_shown_99 rfl rfl ?_
    obtain ⟨t1, ht1, hk⟩ := ab_bnd hk
    refine ab_getR (pc := 100) dX9_shown_100 fl_RX9_46 ht1 ?_
    refine ab_iload (pc := 103) (i := 7) dX9_shown_103 rfl ?_
    obtain ⟨t2, ht2, hk⟩ := ab_bnd hk
    refine ab_iald (pc := 105) dX9_shown_105 ht2 ?_
    refine ab_icmp_gt (pc := 106) (tgt := 150) dX9_shown_106 rfl (fun hc => ?_) (fun hc => ?_)
    · have hk := ab_ifp hk hc
      refine ab_sub_ (lv2 := [some (ab_R v0), some (ab_I v1), some (ab_I v2), some (ab_I v3), some (ab_I v4), none, some (ab_I v6), none, none]) (ab_ss (ab_ss (ab_ss (ab_ss (ab_ss (ab_sn (ab_ss (ab_sn (ab_sn ab_s0))))))))) ?_
      exact hk150 _ _ _ _ _ _ _ _ hk
    · have hk := ab_ifn hk hc
      refine ab_iload_n (pc := 109) (i := 2) dX9_shown_109 rfl rfl ?_
      refine ab_if_le (pc := 110) (tgt := 150) dX9_shown_110 rfl (fun hc => ?_) (fun hc => ?_)
      · have hk := ab_ifp hk hc
        refine ab_sub_ (lv2 := [some (ab_R v0), some (ab_I v1), some (ab_I v2), some (ab_I v3), some (ab_I v4), none, some (ab_I v6), none, none]) (ab_ss (ab_ss (ab_ss (ab_ss (ab_ss (ab_sn (ab_ss (ab_sn (ab_sn ab_s0))))))))) ?_
        exact hk150 _ _ _ _ _ _ _ _ hk
      · have hk := ab_ifn hk hc
        refine ab_iload (pc := 113) (i := 6) dX9_shown_113 rfl ?_
        refine ab_if_ne (pc := 115) (tgt := 137) dX9_shown_115 rfl (fun hc => ?_) (fun hc => ?_)
        · have hk := ab_ifn hk hc
          refine ab_sub_ (lv2 := [some (ab_R v0), some (ab_I v1), some (ab_I v2), some (ab_I v3), some (ab_I v4), none, none, some (ab_I v7), some (ab_I v8)]) (ab_ss (ab_ss (ab_ss (ab_ss (ab_ss (ab_sn (ab_sn (ab_ss (ab_ss ab_s0))))))))) ?_
          exact e_X9_shown_J137 ih hk150 _ _ _ _ _ _ _ _ _ hk
        · have hk := ab_ifp hk hc
          refine ab_aload_n (pc := 118) (i := 0) dX9_shown_118 rfl rfl ?_
          obtain ⟨t3, ht3, hk⟩ := ab_bnd hk
          refine ab_getR (pc := 119) dX9_shown_119 fl_RX9_27 ht3 ?_
          refine ab_aload_n (pc := 122) (i := 0) dX9_shown_122 rfl rfl ?_
          obtain ⟨t4, ht4, hk⟩ := ab_bnd hk
          refine ab_getR (pc := 123) dX9_shown_123 fl_RX9_46 ht4 ?_
          refine ab_iload (pc := 126) (i := 7) dX9_shown_126 rfl ?_
          refine ab_iload (pc := 128) (i := 8) dX9_shown_128 rfl ?_
          refine ab_iadd (pc := 130) dX9_shown_130 ?_
          obtain ⟨t5, ht5, hk⟩ := ab_bnd hk
          refine ab_iald (pc := 131) dX9_shown_131 ht5 ?_
          obtain ⟨t6, ht6, hk⟩ := ab_bnd hk
          refine ab_iald (pc := 132) dX9_shown_132 ht6 ?_
          refine ab_iload_n (pc := 133) (i := 1) dX9_shown_133 rfl rfl ?_
          refine ab_icmp_ne (pc := 134) (tgt := 141) dX9_shown_134 rfl (fun hc => ?_) (fun hc => ?_)
          · have hk := ab_ifn hk hc
            refine ab_iconst (pc := 141) dX9_shown_141 ab_k_0 ?_
            refine ab_sub_ (lv2 := [some (ab_R v0), some (ab_I v1), some (ab_I v2), some (ab_I v3), some (ab_I v4), none, none, some (ab_I v7), some (ab_I v8)]) (ab_ss (ab_ss (ab_ss (ab_ss (ab_ss (ab_sn (ab_sn (ab_ss (ab_ss ab_s0))))))))) ?_
            exact e_X9_shown_J142 ih hk150 _ _ _ _ _ _ _ _ _ _ hk
          · have hk := ab_ifp hk hc
            refine ab_sub_ (lv2 := [some (ab_R v0), some (ab_I v1), some (ab_I v2), some (ab_I v3), some (ab_I v4), none, none, some (ab_I v7), some (ab_I v8)]) (ab_ss (ab_ss (ab_ss (ab_ss (ab_ss (ab_sn (ab_sn (ab_ss (ab_ss ab_s0))))))))) ?_
            exact e_X9_shown_J137 ih hk150 _ _ _ _ _ _ _ _ _ hk
noncomputable def f_X9_shown_J91 (rec : Int → Int → Int → Int → Int → ab_H → Option (Int × ab_H)) (v0 : Int) (v1 : Int) (v2 : Int) (v3 : Int) (v4 : Int) (v6 : Int) (s1 : Int) (s0 : Int) (h : ab_H) : Option (Int × ab_H) :=
  f_X9_shown_L97 (fun w150_0 w150_1 w150_2 w150_3 w150_4 w150_6 hx150 =>
    f_X9_shown_J150 rec w150_0 w150_1 w150_2 w150_3 w150_4 w150_6 hx150) ab_FU v0 v1 v2 v3 v4 v6 (ab_w32 (s0 + s1)) (1 : Int) h
set_option maxRecDepth 20000 in
theorem e_X9_shown_J91 {rec : Int → Int → Int → Int → Int → ab_H → Option (Int × ab_H)} (hrec : ∀ (v0 : Int) (v1 : Int) (v2 : Int) (v3 : Int) (v4 : Int) (h : ab_H) (q : Int × ab_H), rec v0 v1 v2 v3 v4 h = some q → ab_E mm_X9_shown cX9_shown 32 [some (ab_R v0), some (ab_I v1), some (ab_I v2), some (ab_I v3), some (ab_I v4), none, none, none, none] [] h (some (ab_I q.1)) q.2) : ∀ (v0 : Int) (v1 : Int) (v2 : Int) (v3 : Int) (v4 : Int) (v6 : Int) (s1 : Int) (s0 : Int) (h : ab_H) (q : Int × ab_H), f_X9_shown_J91 rec v0 v1 v2 v3 v4 v6 s1 s0 h = some q → ab_E mm_X9_shown cX9_shown 91 [some (ab_R v0), some (ab_I v1), some (ab_I v2), some (ab_I v3), some (ab_I v4), none, some (ab_I v6), none, none] [ab_I s1, ab_I s0] h (some (ab_I q.1)) q.2 := by
  intro v0 v1 v2 v3 v4 v6 s1 s0 h q hk
  unfold f_X9_shown_J91 at hk
  refine ab_iadd (pc := 91) dX9_shown_91 ?_
  refine ab_istore (pc := 92) (i := 7) (lv2 := [some (ab_R v0), some (ab_I v1), some (ab_I v2), some (ab_I v3), some (ab_I v4), none, some (ab_I v6), some (ab_I (ab_w32 (s0 + s1))), none]) dX9_shown_92 (Nat.le_of_ble_eq_true rfl) rfl rfl ?_
  refine ab_iconst (pc := 94) dX9_shown_94 ab_k_1 ?_
  refine ab_istore (pc := 95) (i := 8) (lv2 := [some (ab_R v0), some (ab_I v1), some (ab_I v2), some (ab_I v3), some (ab_I v4), none, some (ab_I v6), some (ab_I (ab_w32 (s0 + s1))), some (ab_I (1 : Int))]) dX9_shown_95 (Nat.le_of_ble_eq_true rfl) rfl rfl ?_
  refine ab_sub_ (lv2 := [some (ab_R v0), some (ab_I v1), some (ab_I v2), some (ab_I v3), some (ab_I v4), none, some (ab_I v6), some (ab_I (ab_w32 (s0 + s1))), some (ab_I (1 : Int))]) (ab_ss (ab_ss (ab_ss (ab_ss (ab_ss (ab_sn (ab_ss (ab_ss (ab_ss ab_s0))))))))) ?_
  refine e_X9_shown_L97 (fun w150_0 w150_1 w150_2 w150_3 w150_4 w150_6 hx150 q hk => ?_) _ _ _ _ _ _ _ _ _ _ _ hk
  · skip
    refine ab_sub_ (lv2 := [some (ab_R w150_0), some (ab_I w150_1), some (ab_I w150_2), some (ab_I w150_3), some (ab_I w150_4), none, some (ab_I w150_6), none, none]) (ab_ss (ab_ss (ab_ss (ab_ss (ab_ss (ab_sn (ab_ss (ab_sn (ab_sn ab_s0))))))))) ?_
    exact e_X9_shown_J150 hrec _ _ _ _ _ _ _ _ hk
noncomputable def f_X9_shown_J73 (rec : Int → Int → Int → Int → Int → ab_H → Option (Int × ab_H)) (v0 : Int) (v1 : Int) (v2 : Int) (v3 : Int) (v4 : Int) (v5 : Int) (s0 : Int) (h : ab_H) : Option (Int × ab_H) :=
  if v2 = (2 : Int) then
    f_X9_shown_J91 rec v0 v1 v2 v3 v4 s0 (6 : Int) (ab_w32 ((12 : Int) * v5)) h
  else
  f_X9_shown_J91 rec v0 v1 v2 v3 v4 s0 (0 : Int) (ab_w32 ((12 : Int) * v5)) h
set_option maxRecDepth 20000 in
theorem e_X9_shown_J73 {rec : Int → Int → Int → Int → Int → ab_H → Option (Int × ab_H)} (hrec : ∀ (v0 : Int) (v1 : Int) (v2 : Int) (v3 : Int) (v4 : Int) (h : ab_H) (q : Int × ab_H), rec v0 v1 v2 v3 v4 h = some q → ab_E mm_X9_shown cX9_shown 32 [some (ab_R v0), some (ab_I v1), some (ab_I v2), some (ab_I v3), some (ab_I v4), none, none, none, none] [] h (some (ab_I q.1)) q.2) : ∀ (v0 : Int) (v1 : Int) (v2 : Int) (v3 : Int) (v4 : Int) (v5 : Int) (s0 : Int) (h : ab_H) (q : Int × ab_H), f_X9_shown_J73 rec v0 v1 v2 v3 v4 v5 s0 h = some q → ab_E mm_X9_shown cX9_shown 73 [some (ab_R v0), some (ab_I v1), some (ab_I v2), some (ab_I v3), some (ab_I v4), some (ab_I v5), none, none, none] [ab_I s0] h (some (ab_I q.1)) q.2 := by
  intro v0 v1 v2 v3 v4 v5 s0 h q hk
  unfold f_X9_shown_J73 at hk
  refine ab_istore (pc := 73) (i := 6) (lv2 := [some (ab_R v0), some (ab_I v1), some (ab_I v2), some (ab_I v3), some (ab_I v4), some (ab_I v5), some (ab_I s0), none, none]) dX9_shown_73 (Nat.le_of_ble_eq_true rfl) rfl rfl ?_
  refine ab_bipush (pc := 75) dX9_shown_75 ab_p8_12 ab_k_12 ?_
  refine ab_iload (pc := 77) (i := 5) dX9_shown_77 rfl ?_
  refine ab_imul (pc := 79) dX9_shown_79 ?_
  refine ab_iload_n (pc := 80) (i := 2) dX9_shown_80 rfl rfl ?_
  refine ab_iconst (pc := 81) dX9_shown_81 ab_k_2 ?_
  refine ab_icmp_ne (pc := 82) (tgt := 90) dX9_shown_82 rfl (fun hc => ?_) (fun hc => ?_)
  · have hk := ab_ifn hk hc
    refine ab_iconst (pc := 90) dX9_shown_90 ab_k_0 ?_
    refine ab_sub_ (lv2 := [some (ab_R v0), some (ab_I v1), some (ab_I v2), some (ab_I v3), some (ab_I v4), none, some (ab_I s0), none, none]) (ab_ss (ab_ss (ab_ss (ab_ss (ab_ss (ab_sn (ab_ss (ab_sn (ab_sn ab_s0))))))))) ?_
    exact e_X9_shown_J91 hrec _ _ _ _ _ _ _ _ _ _ hk
  · have hk := ab_ifp hk hc
    refine ab_bipush (pc := 85) dX9_shown_85 ab_p8_6 ab_k_6 ?_
    refine ab_goto (pc := 87) (tgt := 91) dX9_shown_87 rfl ?_
    refine ab_sub_ (lv2 := [some (ab_R v0), some (ab_I v1), some (ab_I v2), some (ab_I v3), some (ab_I v4), none, some (ab_I s0), none, none]) (ab_ss (ab_ss (ab_ss (ab_ss (ab_ss (ab_sn (ab_ss (ab_sn (ab_sn ab_s0))))))))) ?_
    exact e_X9_shown_J91 hrec _ _ _ _ _ _ _ _ _ _ hk
noncomputable def f_X9_shown_J72 (rec : Int → Int → Int → Int → Int → ab_H → Option (Int × ab_H)) (v0 : Int) (v1 : Int) (v2 : Int) (v3 : Int) (v4 : Int) (v5 : Int) (h : ab_H) : Option (Int × ab_H) :=
  f_X9_shown_J73 rec v0 v1 v2 v3 v4 v5 (0 : Int) h
set_option maxRecDepth 20000 in
theorem e_X9_shown_J72 {rec : Int → Int → Int → Int → Int → ab_H → Option (Int × ab_H)} (hrec : ∀ (v0 : Int) (v1 : Int) (v2 : Int) (v3 : Int) (v4 : Int) (h : ab_H) (q : Int × ab_H), rec v0 v1 v2 v3 v4 h = some q → ab_E mm_X9_shown cX9_shown 32 [some (ab_R v0), some (ab_I v1), some (ab_I v2), some (ab_I v3), some (ab_I v4), none, none, none, none] [] h (some (ab_I q.1)) q.2) : ∀ (v0 : Int) (v1 : Int) (v2 : Int) (v3 : Int) (v4 : Int) (v5 : Int) (h : ab_H) (q : Int × ab_H), f_X9_shown_J72 rec v0 v1 v2 v3 v4 v5 h = some q → ab_E mm_X9_shown cX9_shown 72 [some (ab_R v0), some (ab_I v1), some (ab_I v2), some (ab_I v3), some (ab_I v4), some (ab_I v5), none, none, none] [] h (some (ab_I q.1)) q.2 := by
  intro v0 v1 v2 v3 v4 v5 h q hk
  unfold f_X9_shown_J72 at hk
  refine ab_iconst (pc := 72) dX9_shown_72 ab_k_0 ?_
  refine ab_sub_ (lv2 := [some (ab_R v0), some (ab_I v1), some (ab_I v2), some (ab_I v3), some (ab_I v4), some (ab_I v5), none, none, none]) (ab_ss (ab_ss (ab_ss (ab_ss (ab_ss (ab_ss (ab_sn (ab_sn (ab_sn ab_s0))))))))) ?_
  exact e_X9_shown_J73 hrec _ _ _ _ _ _ _ _ _ hk
noncomputable def f_X9_shown_L32 : Nat → Int → Int → Int → Int → Int → ab_H → Option (Int × ab_H)
  | 0, _, _, _, _, _, _ => none
  | n + 1, v0, v1, v2, v3, v4, h =>
    (ab_get h 10 17 v0).bind fun t1 =>
    if t1 ≤ v4 then
      some (v3, h)
    else
    (ab_get h 10 26 v0).bind fun t2 =>
    (ab_on h 10 v0 (f_X9_firstOf v0 v4 h)).bind fun q3 =>
    (ab_ald q3.2 11 t2 q3.1).bind fun t4 =>
    if v2 = (0 : Int) then
      (ab_on q3.2 10 v0 (f_X9_leadWord v0 t4 q3.2)).bind fun q5 =>
      if q5.1 = v1 then
        f_X9_shown_J73 (f_X9_shown_L32 n) v0 v1 v2 v3 v4 t4 (1 : Int) q5.2
      else
      f_X9_shown_J72 (f_X9_shown_L32 n) v0 v1 v2 v3 v4 t4 q5.2
    else
    f_X9_shown_J72 (f_X9_shown_L32 n) v0 v1 v2 v3 v4 t4 q3.2
set_option maxRecDepth 20000 in
theorem e_X9_shown_L32 : ∀ (n : Nat) (v0 : Int) (v1 : Int) (v2 : Int) (v3 : Int) (v4 : Int) (h : ab_H) (q : Int × ab_H), f_X9_shown_L32 n v0 v1 v2 v3 v4 h = some q → ab_E mm_X9_shown cX9_shown 32 [some (ab_R v0), some (ab_I v1), some (ab_I v2), some (ab_I v3), some (ab_I v4), none, none, none, none] [] h (some (ab_I q.1)) q.2 := by
  intro n
  induction n with
  | zero => intro v0 v1 v2 v3 v4 h q hk; cases hk
  | succ n ih =>
    intro v0 v1 v2 v3 v4 h q hk
    unfold f_X9_shown_L32 at hk
    refine ab_iload (pc := 32) (i := 4) dX9_shown_32 rfl ?_
    refine ab_aload_n (pc := 34) (i := 0) dX9_shown_34 rfl rfl ?_
    obtain ⟨t1, ht1, hk⟩ := ab_bnd hk
    refine ab_getI (pc := 35) dX9_shown_35 fl_RX9_303 ht1 ?_
    refine ab_icmp_ge (pc := 38) (tgt := 169) dX9_shown_38 rfl (fun hc => ?_) (fun hc => ?_)
    · have hk := ab_ifp hk hc
      refine ab_iload_n (pc := 169) (i := 3) dX9_shown_169 rfl rfl ?_
      obtain rfl := Option.some.inj hk
      exact ab_reti (pc := 170) dX9_shown_170 (Or.inl rfl)
    · have hk := ab_ifn hk hc
      refine ab_aload_n (pc := 41) (i := 0) dX9_shown_41 rfl rfl ?_
      obtain ⟨t2, ht2, hk⟩ := ab_bnd hk
      refine ab_getR (pc := 42) dX9_shown_42 fl_RX9_49 ht2 ?_
      refine ab_aload_n (pc := 45) (i := 0) dX9_shown_45 rfl rfl ?_
      refine ab_iload (pc := 46) (i := 4) dX9_shown_46 rfl ?_
      obtain ⟨q3, hq3, hk⟩ := ab_bnd hk
      obtain ⟨hb, hq3⟩ := ab_on_some hq3
      refine ab_callVI (st := [ab_R t2]) (as := [ab_I v4]) (b := v0) (pc := 48) dX9_shown_48 ml_RX9_362 my_X9_firstOf mv_X9_firstOf hb (ct_X9_firstOf hq3) ⟨Nat.le_of_ble_eq_true rfl, Nat.le_of_ble_eq_true rfl⟩ rfl (Nat.le_of_ble_eq_true rfl) rfl ?_
      obtain ⟨t4, ht4, hk⟩ := ab_bnd hk
      refine ab_iald (pc := 51) dX9_shown_51 ht4 ?_
      refine ab_istore (pc := 52) (i := 5) (lv2 := [some (ab_R v0), some (ab_I v1), some (ab_I v2), some (ab_I v3), some (ab_I v4), some (ab_I t4), none, none, none]) dX9_shown_52 (Nat.le_of_ble_eq_true rfl) rfl rfl ?_
      refine ab_iload_n (pc := 54) (i := 2) dX9_shown_54 rfl rfl ?_
      refine ab_if_ne (pc := 55) (tgt := 72) dX9_shown_55 rfl (fun hc => ?_) (fun hc => ?_)
      · have hk := ab_ifn hk hc
        refine ab_sub_ (lv2 := [some (ab_R v0), some (ab_I v1), some (ab_I v2), some (ab_I v3), some (ab_I v4), some (ab_I t4), none, none, none]) (ab_ss (ab_ss (ab_ss (ab_ss (ab_ss (ab_ss (ab_sn (ab_sn (ab_sn ab_s0))))))))) ?_
        exact e_X9_shown_J72 ih _ _ _ _ _ _ _ _ hk
      · have hk := ab_ifp hk hc
        refine ab_aload_n (pc := 58) (i := 0) dX9_shown_58 rfl rfl ?_
        refine ab_iload (pc := 59) (i := 5) dX9_shown_59 rfl ?_
        obtain ⟨q5, hq5, hk⟩ := ab_bnd hk
        obtain ⟨hb, hq5⟩ := ab_on_some hq5
        refine ab_callVI (st := []) (as := [ab_I t4]) (b := v0) (pc := 61) dX9_shown_61 ml_RX9_274 my_X9_leadWord mv_X9_leadWord hb (ct_X9_leadWord hq5) ⟨Nat.le_of_ble_eq_true rfl, Nat.le_of_ble_eq_true rfl⟩ rfl (Nat.le_of_ble_eq_true rfl) rfl ?_
        refine ab_iload_n (pc := 64) (i := 1) dX9_shown_64 rfl rfl ?_
        refine ab_icmp_ne (pc := 65) (tgt := 72) dX9_shown_65 rfl (fun hc => ?_) (fun hc => ?_)
        · have hk := ab_ifn hk hc
          refine ab_sub_ (lv2 := [some (ab_R v0), some (ab_I v1), some (ab_I v2), some (ab_I v3), some (ab_I v4), some (ab_I t4), none, none, none]) (ab_ss (ab_ss (ab_ss (ab_ss (ab_ss (ab_ss (ab_sn (ab_sn (ab_sn ab_s0))))))))) ?_
          exact e_X9_shown_J72 ih _ _ _ _ _ _ _ _ hk
        · have hk := ab_ifp hk hc
          refine ab_iconst (pc := 68) dX9_shown_68 ab_k_1 ?_
          refine ab_goto (pc := 69) (tgt := 73) dX9_shown_69 rfl ?_
          refine ab_sub_ (lv2 := [some (ab_R v0), some (ab_I v1), some (ab_I v2), some (ab_I v3), some (ab_I v4), some (ab_I t4), none, none, none]) (ab_ss (ab_ss (ab_ss (ab_ss (ab_ss (ab_ss (ab_sn (ab_sn (ab_sn ab_s0))))))))) ?_
          exact e_X9_shown_J73 ih _ _ _ _ _ _ _ _ _ hk
noncomputable def f_X9_shown (a0 : Int) (a1 : Int) (a2 : Int) (h : ab_H) : Option (Int × ab_H) :=
  (ab_on h 10 a0 (f_X9_isWordNow a0 a1 h)).bind fun q1 =>
  if q1.1 = (0 : Int) then
    some ((-2 : Int), q1.2)
  else
  (f_X9_in a2 (0 : Int) (2 : Int) q1.2).bind fun q2 =>
  if q2.1 = (0 : Int) then
    some ((-2 : Int), q2.2)
  else
  (ab_on q2.2 10 a0 (f_X9_lays a0 q2.2)).bind fun q3 =>
  f_X9_shown_L32 ab_FU a0 a1 a2 (0 : Int) (0 : Int) q3
set_option maxRecDepth 20000 in
theorem ct_X9_shown {a0 a1 a2 : Int} {h : ab_H} {q : Int × ab_H} (hk : f_X9_shown a0 a1 a2 h = some q) : ab_CT yX9_shown cX9_shown 9 (some .int) 6 133 [ab_R a0, ab_I a1, ab_I a2] h (some (ab_I q.1)) q.2 := by
  refine ab_CT.mk_ 6 (own := RX9) (ini := false) (lv := [some (ab_R a0), some (ab_I a1), some (ab_I a2), none, none, none, none, none, none]) rfl (by decide +kernel) (fun q => by cases q) rfl rfl ?_
  unfold f_X9_shown at hk
  show ab_E mm_X9_shown cX9_shown 0 _ [] h _ _
  refine ab_aload_n (pc := 0) (i := 0) dX9_shown_0 rfl rfl ?_
  refine ab_iload_n (pc := 1) (i := 1) dX9_shown_1 rfl rfl ?_
  obtain ⟨q1, hq1, hk⟩ := ab_bnd hk
  obtain ⟨hb, hq1⟩ := ab_on_some hq1
  refine ab_callVI (st := []) (as := [ab_I a1]) (b := a0) (pc := 2) dX9_shown_2 ml_RX9_346 my_X9_isWordNow mv_X9_isWordNow hb (ct_X9_isWordNow hq1) ⟨Nat.le_of_ble_eq_true rfl, Nat.le_of_ble_eq_true rfl⟩ rfl (Nat.le_of_ble_eq_true rfl) rfl ?_
  refine ab_if_eq (pc := 5) (tgt := 20) dX9_shown_5 rfl (fun hc => ?_) (fun hc => ?_)
  · have hk := ab_ifp hk hc
    refine ab_bipush (pc := 20) dX9_shown_20 ab_p8_m2 ab_k_m2 ?_
    obtain rfl := Option.some.inj hk
    exact ab_reti (pc := 22) dX9_shown_22 (Or.inl rfl)
  · have hk := ab_ifn hk hc
    refine ab_iload_n (pc := 8) (i := 2) dX9_shown_8 rfl rfl ?_
    refine ab_i2l_ (pc := 9) dX9_shown_9 ?_
    refine ab_lconst (x := (0 : Int)) (pc := 10) dX9_shown_10 rfl ab_kl_0 ?_
    refine ab_ldc2 (x := (2 : Int)) (pc := 11) dX9_shown_11 ab_ld2_RX9_438 ab_kl_2 ?_
    obtain ⟨q2, hq2, hk⟩ := ab_bnd hk
    refine ab_callSI (st := []) (as := [ab_J a2, ab_J (0 : Int), ab_J (2 : Int)]) (pc := 14) dX9_shown_14 ml_RX9_84 my_X9_in ms_X9_in (ct_X9_in hq2) ⟨Nat.le_of_ble_eq_true rfl, Nat.le_of_ble_eq_true rfl⟩ rfl (Nat.le_of_ble_eq_true rfl) rfl ?_
    refine ab_if_ne (pc := 17) (tgt := 23) dX9_shown_17 rfl (fun hc => ?_) (fun hc => ?_)
    · have hk := ab_ifn hk hc
      refine ab_aload_n (pc := 23) (i := 0) dX9_shown_23 rfl rfl ?_
      obtain ⟨q3, hq3, hk⟩ := ab_bnd hk
      obtain ⟨hb, hq3⟩ := ab_on_some hq3
      refine ab_callVV (st := []) (as := []) (b := a0) (pc := 24) dX9_shown_24 ml_RX9_314 my_X9_lays mv_X9_lays hb (ct_X9_lays hq3) ⟨Nat.le_of_ble_eq_true rfl, Nat.le_of_ble_eq_true rfl⟩ rfl (Nat.le_of_ble_eq_true rfl) rfl ?_
      refine ab_iconst (pc := 27) dX9_shown_27 ab_k_0 ?_
      refine ab_istore_n (pc := 28) (i := 3) (lv2 := [some (ab_R a0), some (ab_I a1), some (ab_I a2), some (ab_I (0 : Int)), none, none, none, none, none]) dX9_shown_28 rfl (Nat.le_of_ble_eq_true rfl) rfl rfl ?_
      refine ab_iconst (pc := 29) dX9_shown_29 ab_k_0 ?_
      refine ab_istore (pc := 30) (i := 4) (lv2 := [some (ab_R a0), some (ab_I a1), some (ab_I a2), some (ab_I (0 : Int)), some (ab_I (0 : Int)), none, none, none, none]) dX9_shown_30 (Nat.le_of_ble_eq_true rfl) rfl rfl ?_
      refine ab_sub_ (lv2 := [some (ab_R a0), some (ab_I a1), some (ab_I a2), some (ab_I (0 : Int)), some (ab_I (0 : Int)), none, none, none, none]) (ab_ss (ab_ss (ab_ss (ab_ss (ab_ss (ab_sn (ab_sn (ab_sn (ab_sn ab_s0))))))))) ?_
      refine e_X9_shown_L32 _ _ _ _ _ _ _ _ hk
    · have hk := ab_ifp hk hc
      refine ab_bipush (pc := 20) dX9_shown_20 ab_p8_m2 ab_k_m2 ?_
      obtain rfl := Option.some.inj hk
      exact ab_reti (pc := 22) dX9_shown_22 (Or.inl rfl)
theorem dX9_twins_0 : decode cX9_twins 0 = .ok (.aload_n 0, 1) := by decide +kernel
theorem dX9_twins_1 : decode cX9_twins 1 = .ok (.iload_n 1, 1) := by decide +kernel
theorem dX9_twins_2 : decode cX9_twins 2 = .ok (.invokevirtual 323, 3) := by decide +kernel
theorem dX9_twins_5 : decode cX9_twins 5 = .ok (.ifCond .ne 6, 3) := by decide +kernel
theorem dX9_twins_8 : decode cX9_twins 8 = .ok (.bipush (-2), 2) := by decide +kernel
theorem dX9_twins_10 : decode cX9_twins 10 = .ok (.ireturn, 1) := by decide +kernel
theorem dX9_twins_11 : decode cX9_twins 11 = .ok (.aload_n 0, 1) := by decide +kernel
theorem dX9_twins_12 : decode cX9_twins 12 = .ok (.invokevirtual 314, 3) := by decide +kernel
theorem dX9_twins_15 : decode cX9_twins 15 = .ok (.iconst 0, 1) := by decide +kernel
theorem dX9_twins_16 : decode cX9_twins 16 = .ok (.istore_n 2, 1) := by decide +kernel
theorem dX9_twins_17 : decode cX9_twins 17 = .ok (.iconst 0, 1) := by decide +kernel
theorem dX9_twins_18 : decode cX9_twins 18 = .ok (.istore_n 3, 1) := by decide +kernel
theorem dX9_twins_19 : decode cX9_twins 19 = .ok (.iload_n 3, 1) := by decide +kernel
theorem dX9_twins_20 : decode cX9_twins 20 = .ok (.aload_n 0, 1) := by decide +kernel
theorem dX9_twins_21 : decode cX9_twins 21 = .ok (.getfield 267, 3) := by decide +kernel
theorem dX9_twins_24 : decode cX9_twins 24 = .ok (.if_icmp .ge 82, 3) := by decide +kernel
theorem dX9_twins_27 : decode cX9_twins 27 = .ok (.aload_n 0, 1) := by decide +kernel
theorem dX9_twins_28 : decode cX9_twins 28 = .ok (.getfield 31, 3) := by decide +kernel
theorem dX9_twins_31 : decode cX9_twins 31 = .ok (.aload_n 0, 1) := by decide +kernel
theorem dX9_twins_32 : decode cX9_twins 32 = .ok (.getfield 49, 3) := by decide +kernel
theorem dX9_twins_35 : decode cX9_twins 35 = .ok (.iload_n 3, 1) := by decide +kernel
theorem dX9_twins_36 : decode cX9_twins 36 = .ok (.iaload, 1) := by decide +kernel
theorem dX9_twins_37 : decode cX9_twins 37 = .ok (.iaload, 1) := by decide +kernel
theorem dX9_twins_38 : decode cX9_twins 38 = .ok (.iload_n 1, 1) := by decide +kernel
theorem dX9_twins_39 : decode cX9_twins 39 = .ok (.if_icmp .eq 6, 3) := by decide +kernel
theorem dX9_twins_42 : decode cX9_twins 42 = .ok (.goto 58, 3) := by decide +kernel
theorem dX9_twins_45 : decode cX9_twins 45 = .ok (.iconst 0, 1) := by decide +kernel
theorem dX9_twins_46 : decode cX9_twins 46 = .ok (.istore 4, 2) := by decide +kernel
theorem dX9_twins_48 : decode cX9_twins 48 = .ok (.iload 4, 2) := by decide +kernel
theorem dX9_twins_50 : decode cX9_twins 50 = .ok (.aload_n 0, 1) := by decide +kernel
theorem dX9_twins_51 : decode cX9_twins 51 = .ok (.getfield 267, 3) := by decide +kernel
theorem dX9_twins_54 : decode cX9_twins 54 = .ok (.if_icmp .ge 46, 3) := by decide +kernel
theorem dX9_twins_57 : decode cX9_twins 57 = .ok (.iload_n 2, 1) := by decide +kernel
theorem dX9_twins_58 : decode cX9_twins 58 = .ok (.aload_n 0, 1) := by decide +kernel
theorem dX9_twins_59 : decode cX9_twins 59 = .ok (.getfield 40, 3) := by decide +kernel
theorem dX9_twins_62 : decode cX9_twins 62 = .ok (.iload 4, 2) := by decide +kernel
theorem dX9_twins_64 : decode cX9_twins 64 = .ok (.iaload, 1) := by decide +kernel
theorem dX9_twins_65 : decode cX9_twins 65 = .ok (.aload_n 0, 1) := by decide +kernel
theorem dX9_twins_66 : decode cX9_twins 66 = .ok (.getfield 40, 3) := by decide +kernel
theorem dX9_twins_69 : decode cX9_twins 69 = .ok (.iload_n 3, 1) := by decide +kernel
theorem dX9_twins_70 : decode cX9_twins 70 = .ok (.iaload, 1) := by decide +kernel
theorem dX9_twins_71 : decode cX9_twins 71 = .ok (.if_icmp .ne 20, 3) := by decide +kernel
theorem dX9_twins_74 : decode cX9_twins 74 = .ok (.iconst 1, 1) := by decide +kernel
theorem dX9_twins_75 : decode cX9_twins 75 = .ok (.aload_n 0, 1) := by decide +kernel
theorem dX9_twins_76 : decode cX9_twins 76 = .ok (.getfield 31, 3) := by decide +kernel
theorem dX9_twins_79 : decode cX9_twins 79 = .ok (.aload_n 0, 1) := by decide +kernel
theorem dX9_twins_80 : decode cX9_twins 80 = .ok (.getfield 49, 3) := by decide +kernel
theorem dX9_twins_83 : decode cX9_twins 83 = .ok (.iload 4, 2) := by decide +kernel
theorem dX9_twins_85 : decode cX9_twins 85 = .ok (.iaload, 1) := by decide +kernel
theorem dX9_twins_86 : decode cX9_twins 86 = .ok (.iaload, 1) := by decide +kernel
theorem dX9_twins_87 : decode cX9_twins 87 = .ok (.ishl, 1) := by decide +kernel
theorem dX9_twins_88 : decode cX9_twins 88 = .ok (.goto 4, 3) := by decide +kernel
theorem dX9_twins_91 : decode cX9_twins 91 = .ok (.iconst 0, 1) := by decide +kernel
theorem dX9_twins_92 : decode cX9_twins 92 = .ok (.ior, 1) := by decide +kernel
theorem dX9_twins_93 : decode cX9_twins 93 = .ok (.istore_n 2, 1) := by decide +kernel
theorem dX9_twins_94 : decode cX9_twins 94 = .ok (.iinc 4 1, 3) := by decide +kernel
theorem dX9_twins_97 : decode cX9_twins 97 = .ok (.goto (-49), 3) := by decide +kernel
theorem dX9_twins_100 : decode cX9_twins 100 = .ok (.iinc 3 1, 3) := by decide +kernel
theorem dX9_twins_103 : decode cX9_twins 103 = .ok (.goto (-84), 3) := by decide +kernel
theorem dX9_twins_106 : decode cX9_twins 106 = .ok (.iload_n 2, 1) := by decide +kernel
theorem dX9_twins_107 : decode cX9_twins 107 = .ok (.iconst 1, 1) := by decide +kernel
theorem dX9_twins_108 : decode cX9_twins 108 = .ok (.iload_n 1, 1) := by decide +kernel
theorem dX9_twins_109 : decode cX9_twins 109 = .ok (.ishl, 1) := by decide +kernel
theorem dX9_twins_110 : decode cX9_twins 110 = .ok (.iconst (-1), 1) := by decide +kernel
theorem dX9_twins_111 : decode cX9_twins 111 = .ok (.ixor, 1) := by decide +kernel
theorem dX9_twins_112 : decode cX9_twins 112 = .ok (.iand, 1) := by decide +kernel
theorem dX9_twins_113 : decode cX9_twins 113 = .ok (.ireturn, 1) := by decide +kernel
abbrev mm_X9_twins : ab_M := (RX9, 5, (some .int), false, 6, 133, none)
noncomputable def f_X9_twins_J100 (rec : Int → Int → Int → Int → ab_H → Option (Int × ab_H)) (k106 : Int → Int → ab_H → Option (Int × ab_H)) (v0 : Int) (v1 : Int) (v2 : Int) (v3 : Int) (h : ab_H) : Option (Int × ab_H) :=
  rec v0 v1 v2 (ab_w32 (v3 + (1 : Int))) h
set_option maxRecDepth 20000 in
theorem e_X9_twins_J100 {rec : Int → Int → Int → Int → ab_H → Option (Int × ab_H)} {k106 : Int → Int → ab_H → Option (Int × ab_H)} (hrec : ∀ (v0 : Int) (v1 : Int) (v2 : Int) (v3 : Int) (h : ab_H) (q : Int × ab_H), rec v0 v1 v2 v3 h = some q → ab_E mm_X9_twins cX9_twins 19 [some (ab_R v0), some (ab_I v1), some (ab_I v2), some (ab_I v3), none] [] h (some (ab_I q.1)) q.2) (hk106 : ∀ (v1 : Int) (v2 : Int) (h : ab_H) (q : Int × ab_H), k106 v1 v2 h = some q → ab_E mm_X9_twins cX9_twins 106 [none, some (ab_I v1), some (ab_I v2), none, none] [] h (some (ab_I q.1)) q.2) : ∀ (v0 : Int) (v1 : Int) (v2 : Int) (v3 : Int) (h : ab_H) (q : Int × ab_H), f_X9_twins_J100 rec k106 v0 v1 v2 v3 h = some q → ab_E mm_X9_twins cX9_twins 100 [some (ab_R v0), some (ab_I v1), some (ab_I v2), some (ab_I v3), none] [] h (some (ab_I q.1)) q.2 := by
  intro v0 v1 v2 v3 h q hk
  unfold f_X9_twins_J100 at hk
  refine ab_iinc (pc := 100) (i := 3) (lv2 := [some (ab_R v0), some (ab_I v1), some (ab_I v2), some (ab_I (ab_w32 (v3 + (1 : Int)))), none]) dX9_twins_100 rfl (Nat.le_of_ble_eq_true rfl) rfl rfl ?_
  refine ab_goto (pc := 103) (tgt := 19) dX9_twins_103 rfl ?_
  refine ab_sub_ (lv2 := [some (ab_R v0), some (ab_I v1), some (ab_I v2), some (ab_I (ab_w32 (v3 + (1 : Int)))), none]) (ab_ss (ab_ss (ab_ss (ab_ss (ab_sn ab_s0))))) ?_
  exact hrec _ _ _ _ _ _ hk
noncomputable def f_X9_twins_J92 (rec : Int → Int → Int → Int → Int → ab_H → Option (Int × ab_H)) (k100 : Int → Int → Int → Int → ab_H → Option (Int × ab_H)) (v0 : Int) (v1 : Int) (v3 : Int) (v4 : Int) (s1 : Int) (s0 : Int) (h : ab_H) : Option (Int × ab_H) :=
  rec v0 v1 (ab_or s0 s1) v3 (ab_w32 (v4 + (1 : Int))) h
set_option maxRecDepth 20000 in
theorem e_X9_twins_J92 {rec : Int → Int → Int → Int → Int → ab_H → Option (Int × ab_H)} {k100 : Int → Int → Int → Int → ab_H → Option (Int × ab_H)} (hrec : ∀ (v0 : Int) (v1 : Int) (v2 : Int) (v3 : Int) (v4 : Int) (h : ab_H) (q : Int × ab_H), rec v0 v1 v2 v3 v4 h = some q → ab_E mm_X9_twins cX9_twins 48 [some (ab_R v0), some (ab_I v1), some (ab_I v2), some (ab_I v3), some (ab_I v4)] [] h (some (ab_I q.1)) q.2) (hk100 : ∀ (v0 : Int) (v1 : Int) (v2 : Int) (v3 : Int) (h : ab_H) (q : Int × ab_H), k100 v0 v1 v2 v3 h = some q → ab_E mm_X9_twins cX9_twins 100 [some (ab_R v0), some (ab_I v1), some (ab_I v2), some (ab_I v3), none] [] h (some (ab_I q.1)) q.2) : ∀ (v0 : Int) (v1 : Int) (v3 : Int) (v4 : Int) (s1 : Int) (s0 : Int) (h : ab_H) (q : Int × ab_H), f_X9_twins_J92 rec k100 v0 v1 v3 v4 s1 s0 h = some q → ab_E mm_X9_twins cX9_twins 92 [some (ab_R v0), some (ab_I v1), none, some (ab_I v3), some (ab_I v4)] [ab_I s1, ab_I s0] h (some (ab_I q.1)) q.2 := by
  intro v0 v1 v3 v4 s1 s0 h q hk
  unfold f_X9_twins_J92 at hk
  refine ab_ior (pc := 92) dX9_twins_92 ?_
  refine ab_istore_n (pc := 93) (i := 2) (lv2 := [some (ab_R v0), some (ab_I v1), some (ab_I (ab_or s0 s1)), some (ab_I v3), some (ab_I v4)]) dX9_twins_93 rfl (Nat.le_of_ble_eq_true rfl) rfl rfl ?_
  refine ab_iinc (pc := 94) (i := 4) (lv2 := [some (ab_R v0), some (ab_I v1), some (ab_I (ab_or s0 s1)), some (ab_I v3), some (ab_I (ab_w32 (v4 + (1 : Int))))]) dX9_twins_94 rfl (Nat.le_of_ble_eq_true rfl) rfl rfl ?_
  refine ab_goto (pc := 97) (tgt := 48) dX9_twins_97 rfl ?_
  refine ab_sub_ (lv2 := [some (ab_R v0), some (ab_I v1), some (ab_I (ab_or s0 s1)), some (ab_I v3), some (ab_I (ab_w32 (v4 + (1 : Int))))]) (ab_ss (ab_ss (ab_ss (ab_ss (ab_ss ab_s0))))) ?_
  exact hrec _ _ _ _ _ _ _ hk
noncomputable def f_X9_twins_L48 (k100 : Int → Int → Int → Int → ab_H → Option (Int × ab_H)) : Nat → Int → Int → Int → Int → Int → ab_H → Option (Int × ab_H)
  | 0, _, _, _, _, _, _ => none
  | n + 1, v0, v1, v2, v3, v4, h =>
    (ab_get h 10 16 v0).bind fun t1 =>
    if t1 ≤ v4 then
      k100 v0 v1 v2 v3 h
    else
    (ab_get h 10 22 v0).bind fun t2 =>
    (ab_ald h 11 t2 v4).bind fun t3 =>
    (ab_get h 10 22 v0).bind fun t4 =>
    (ab_ald h 11 t4 v3).bind fun t5 =>
    if t3 = t5 then
      (ab_get h 10 19 v0).bind fun t6 =>
      (ab_get h 10 26 v0).bind fun t7 =>
      (ab_ald h 11 t7 v4).bind fun t8 =>
      (ab_ald h 11 t6 t8).bind fun t9 =>
      f_X9_twins_J92 (f_X9_twins_L48 k100 n) k100 v0 v1 v3 v4 (ab_shl (1 : Int) t9) v2 h
    else
    f_X9_twins_J92 (f_X9_twins_L48 k100 n) k100 v0 v1 v3 v4 (0 : Int) v2 h
set_option maxRecDepth 20000 in
theorem e_X9_twins_L48 {k100 : Int → Int → Int → Int → ab_H → Option (Int × ab_H)} (hk100 : ∀ (v0 : Int) (v1 : Int) (v2 : Int) (v3 : Int) (h : ab_H) (q : Int × ab_H), k100 v0 v1 v2 v3 h = some q → ab_E mm_X9_twins cX9_twins 100 [some (ab_R v0), some (ab_I v1), some (ab_I v2), some (ab_I v3), none] [] h (some (ab_I q.1)) q.2) : ∀ (n : Nat) (v0 : Int) (v1 : Int) (v2 : Int) (v3 : Int) (v4 : Int) (h : ab_H) (q : Int × ab_H), f_X9_twins_L48 k100 n v0 v1 v2 v3 v4 h = some q → ab_E mm_X9_twins cX9_twins 48 [some (ab_R v0), some (ab_I v1), some (ab_I v2), some (ab_I v3), some (ab_I v4)] [] h (some (ab_I q.1)) q.2 := by
  intro n
  induction n with
  | zero => intro v0 v1 v2 v3 v4 h q hk; cases hk
  | succ n ih =>
    intro v0 v1 v2 v3 v4 h q hk
    unfold f_X9_twins_L48 at hk
    refine ab_iload (pc := 48) (i := 4) dX9_twins_48 rfl ?_
    refine ab_aload_n (pc := 50) (i := 0) dX9_twins_50 rfl rfl ?_
    obtain ⟨t1, ht1, hk⟩ := ab_bnd hk
    refine ab_getI (pc := 51) dX9_twins_51 fl_RX9_267 ht1 ?_
    refine ab_icmp_ge (pc := 54) (tgt := 100) dX9_twins_54 rfl (fun hc => ?_) (fun hc => ?_)
    · have hk := ab_ifp hk hc
      refine ab_sub_ (lv2 := [some (ab_R v0), some (ab_I v1), some (ab_I v2), some (ab_I v3), none]) (ab_ss (ab_ss (ab_ss (ab_ss (ab_sn ab_s0))))) ?_
      exact hk100 _ _ _ _ _ _ hk
    · have hk := ab_ifn hk hc
      refine ab_iload_n (pc := 57) (i := 2) dX9_twins_57 rfl rfl ?_
      refine ab_aload_n (pc := 58) (i := 0) dX9_twins_58 rfl rfl ?_
      obtain ⟨t2, ht2, hk⟩ := ab_bnd hk
      refine ab_getR (pc := 59) dX9_twins_59 fl_RX9_40 ht2 ?_
      refine ab_iload (pc := 62) (i := 4) dX9_twins_62 rfl ?_
      obtain ⟨t3, ht3, hk⟩ := ab_bnd hk
      refine ab_iald (pc := 64) dX9_twins_64 ht3 ?_
      refine ab_aload_n (pc := 65) (i := 0) dX9_twins_65 rfl rfl ?_
      obtain ⟨t4, ht4, hk⟩ := ab_bnd hk
      refine ab_getR (pc := 66) dX9_twins_66 fl_RX9_40 ht4 ?_
      refine ab_iload_n (pc := 69) (i := 3) dX9_twins_69 rfl rfl ?_
      obtain ⟨t5, ht5, hk⟩ := ab_bnd hk
      refine ab_iald (pc := 70) dX9_twins_70 ht5 ?_
      refine ab_icmp_ne (pc := 71) (tgt := 91) dX9_twins_71 rfl (fun hc => ?_) (fun hc => ?_)
      · have hk := ab_ifn hk hc
        refine ab_iconst (pc := 91) dX9_twins_91 ab_k_0 ?_
        refine ab_sub_ (lv2 := [some (ab_R v0), some (ab_I v1), none, some (ab_I v3), some (ab_I v4)]) (ab_ss (ab_ss (ab_sn (ab_ss (ab_ss ab_s0))))) ?_
        exact e_X9_twins_J92 ih hk100 _ _ _ _ _ _ _ _ hk
      · have hk := ab_ifp hk hc
        refine ab_iconst (pc := 74) dX9_twins_74 ab_k_1 ?_
        refine ab_aload_n (pc := 75) (i := 0) dX9_twins_75 rfl rfl ?_
        obtain ⟨t6, ht6, hk⟩ := ab_bnd hk
        refine ab_getR (pc := 76) dX9_twins_76 fl_RX9_31 ht6 ?_
        refine ab_aload_n (pc := 79) (i := 0) dX9_twins_79 rfl rfl ?_
        obtain ⟨t7, ht7, hk⟩ := ab_bnd hk
        refine ab_getR (pc := 80) dX9_twins_80 fl_RX9_49 ht7 ?_
        refine ab_iload (pc := 83) (i := 4) dX9_twins_83 rfl ?_
        obtain ⟨t8, ht8, hk⟩ := ab_bnd hk
        refine ab_iald (pc := 85) dX9_twins_85 ht8 ?_
        obtain ⟨t9, ht9, hk⟩ := ab_bnd hk
        refine ab_iald (pc := 86) dX9_twins_86 ht9 ?_
        refine ab_ishl (pc := 87) dX9_twins_87 ?_
        refine ab_goto (pc := 88) (tgt := 92) dX9_twins_88 rfl ?_
        refine ab_sub_ (lv2 := [some (ab_R v0), some (ab_I v1), none, some (ab_I v3), some (ab_I v4)]) (ab_ss (ab_ss (ab_sn (ab_ss (ab_ss ab_s0))))) ?_
        exact e_X9_twins_J92 ih hk100 _ _ _ _ _ _ _ _ hk
noncomputable def f_X9_twins_L19 (k106 : Int → Int → ab_H → Option (Int × ab_H)) : Nat → Int → Int → Int → Int → ab_H → Option (Int × ab_H)
  | 0, _, _, _, _, _ => none
  | n + 1, v0, v1, v2, v3, h =>
    (ab_get h 10 16 v0).bind fun t1 =>
    if t1 ≤ v3 then
      k106 v1 v2 h
    else
    (ab_get h 10 19 v0).bind fun t2 =>
    (ab_get h 10 26 v0).bind fun t3 =>
    (ab_ald h 11 t3 v3).bind fun t4 =>
    (ab_ald h 11 t2 t4).bind fun t5 =>
    if t5 = v1 then
      f_X9_twins_L48 (fun w100_0 w100_1 w100_2 w100_3 hx100 =>
        f_X9_twins_J100 (f_X9_twins_L19 k106 n) k106 w100_0 w100_1 w100_2 w100_3 hx100) ab_FU v0 v1 v2 v3 (0 : Int) h
    else
    f_X9_twins_J100 (f_X9_twins_L19 k106 n) k106 v0 v1 v2 v3 h
set_option maxRecDepth 20000 in
theorem e_X9_twins_L19 {k106 : Int → Int → ab_H → Option (Int × ab_H)} (hk106 : ∀ (v1 : Int) (v2 : Int) (h : ab_H) (q : Int × ab_H), k106 v1 v2 h = some q → ab_E mm_X9_twins cX9_twins 106 [none, some (ab_I v1), some (ab_I v2), none, none] [] h (some (ab_I q.1)) q.2) : ∀ (n : Nat) (v0 : Int) (v1 : Int) (v2 : Int) (v3 : Int) (h : ab_H) (q : Int × ab_H), f_X9_twins_L19 k106 n v0 v1 v2 v3 h = some q → ab_E mm_X9_twins cX9_twins 19 [some (ab_R v0), some (ab_I v1), some (ab_I v2), some (ab_I v3), none] [] h (some (ab_I q.1)) q.2 := by
  intro n
  induction n with
  | zero => intro v0 v1 v2 v3 h q hk; cases hk
  | succ n ih =>
    intro v0 v1 v2 v3 h q hk
    unfold f_X9_twins_L19 at hk
    refine ab_iload_n (pc := 19) (i := 3) dX9_twins_19 rfl rfl ?_
    refine ab_aload_n (pc := 20) (i := 0) dX9_twins_20 rfl rfl ?_
    obtain ⟨t1, ht1, hk⟩ := ab_bnd hk
    refine ab_getI (pc := 21) dX9_twins_21 fl_RX9_267 ht1 ?_
    refine ab_icmp_ge (pc := 24) (tgt := 106) dX9_twins_24 rfl (fun hc => ?_) (fun hc => ?_)
    · have hk := ab_ifp hk hc
      refine ab_sub_ (lv2 := [none, some (ab_I v1), some (ab_I v2), none, none]) (ab_sn (ab_ss (ab_ss (ab_sn (ab_sn ab_s0))))) ?_
      exact hk106 _ _ _ _ hk
    · have hk := ab_ifn hk hc
      refine ab_aload_n (pc := 27) (i := 0) dX9_twins_27 rfl rfl ?_
      obtain ⟨t2, ht2, hk⟩ := ab_bnd hk
      refine ab_getR (pc := 28) dX9_twins_28 fl_RX9_31 ht2 ?_
      refine ab_aload_n (pc := 31) (i := 0) dX9_twins_31 rfl rfl ?_
      obtain ⟨t3, ht3, hk⟩ := ab_bnd hk
      refine ab_getR (pc := 32) dX9_twins_32 fl_RX9_49 ht3 ?_
      refine ab_iload_n (pc := 35) (i := 3) dX9_twins_35 rfl rfl ?_
      obtain ⟨t4, ht4, hk⟩ := ab_bnd hk
      refine ab_iald (pc := 36) dX9_twins_36 ht4 ?_
      obtain ⟨t5, ht5, hk⟩ := ab_bnd hk
      refine ab_iald (pc := 37) dX9_twins_37 ht5 ?_
      refine ab_iload_n (pc := 38) (i := 1) dX9_twins_38 rfl rfl ?_
      refine ab_icmp_eq (pc := 39) (tgt := 45) dX9_twins_39 rfl (fun hc => ?_) (fun hc => ?_)
      · have hk := ab_ifp hk hc
        refine ab_iconst (pc := 45) dX9_twins_45 ab_k_0 ?_
        refine ab_istore (pc := 46) (i := 4) (lv2 := [some (ab_R v0), some (ab_I v1), some (ab_I v2), some (ab_I v3), some (ab_I (0 : Int))]) dX9_twins_46 (Nat.le_of_ble_eq_true rfl) rfl rfl ?_
        refine ab_sub_ (lv2 := [some (ab_R v0), some (ab_I v1), some (ab_I v2), some (ab_I v3), some (ab_I (0 : Int))]) (ab_ss (ab_ss (ab_ss (ab_ss (ab_ss ab_s0))))) ?_
        refine e_X9_twins_L48 (fun w100_0 w100_1 w100_2 w100_3 hx100 q hk => ?_) _ _ _ _ _ _ _ _ hk
        · skip
          refine ab_sub_ (lv2 := [some (ab_R w100_0), some (ab_I w100_1), some (ab_I w100_2), some (ab_I w100_3), none]) (ab_ss (ab_ss (ab_ss (ab_ss (ab_sn ab_s0))))) ?_
          exact e_X9_twins_J100 ih hk106 _ _ _ _ _ _ hk
      · have hk := ab_ifn hk hc
        refine ab_goto (pc := 42) (tgt := 100) dX9_twins_42 rfl ?_
        refine ab_sub_ (lv2 := [some (ab_R v0), some (ab_I v1), some (ab_I v2), some (ab_I v3), none]) (ab_ss (ab_ss (ab_ss (ab_ss (ab_sn ab_s0))))) ?_
        exact e_X9_twins_J100 ih hk106 _ _ _ _ _ _ hk
noncomputable def f_X9_twins (a0 : Int) (a1 : Int) (h : ab_H) : Option (Int × ab_H) :=
  (ab_on h 10 a0 (f_X9_isString a0 a1 h)).bind fun q1 =>
  if q1.1 = (0 : Int) then
    some ((-2 : Int), q1.2)
  else
  (ab_on q1.2 10 a0 (f_X9_lays a0 q1.2)).bind fun q2 =>
  f_X9_twins_L19 (fun w106_1 w106_2 hx106 =>
    some (ab_and w106_2 (ab_xor (ab_shl (1 : Int) w106_1) (-1 : Int)), hx106)) ab_FU a0 a1 (0 : Int) (0 : Int) q2
set_option maxRecDepth 20000 in
theorem ct_X9_twins {a0 a1 : Int} {h : ab_H} {q : Int × ab_H} (hk : f_X9_twins a0 a1 h = some q) : ab_CT yX9_twins cX9_twins 5 (some .int) 6 133 [ab_R a0, ab_I a1] h (some (ab_I q.1)) q.2 := by
  refine ab_CT.mk_ 3 (own := RX9) (ini := false) (lv := [some (ab_R a0), some (ab_I a1), none, none, none]) rfl (by decide +kernel) (fun q => by cases q) rfl rfl ?_
  unfold f_X9_twins at hk
  show ab_E mm_X9_twins cX9_twins 0 _ [] h _ _
  refine ab_aload_n (pc := 0) (i := 0) dX9_twins_0 rfl rfl ?_
  refine ab_iload_n (pc := 1) (i := 1) dX9_twins_1 rfl rfl ?_
  obtain ⟨q1, hq1, hk⟩ := ab_bnd hk
  obtain ⟨hb, hq1⟩ := ab_on_some hq1
  refine ab_callVI (st := []) (as := [ab_I a1]) (b := a0) (pc := 2) dX9_twins_2 ml_RX9_323 my_X9_isString mv_X9_isString hb (ct_X9_isString hq1) ⟨Nat.le_of_ble_eq_true rfl, Nat.le_of_ble_eq_true rfl⟩ rfl (Nat.le_of_ble_eq_true rfl) rfl ?_
  refine ab_if_ne (pc := 5) (tgt := 11) dX9_twins_5 rfl (fun hc => ?_) (fun hc => ?_)
  · have hk := ab_ifn hk hc
    refine ab_aload_n (pc := 11) (i := 0) dX9_twins_11 rfl rfl ?_
    obtain ⟨q2, hq2, hk⟩ := ab_bnd hk
    obtain ⟨hb, hq2⟩ := ab_on_some hq2
    refine ab_callVV (st := []) (as := []) (b := a0) (pc := 12) dX9_twins_12 ml_RX9_314 my_X9_lays mv_X9_lays hb (ct_X9_lays hq2) ⟨Nat.le_of_ble_eq_true rfl, Nat.le_of_ble_eq_true rfl⟩ rfl (Nat.le_of_ble_eq_true rfl) rfl ?_
    refine ab_iconst (pc := 15) dX9_twins_15 ab_k_0 ?_
    refine ab_istore_n (pc := 16) (i := 2) (lv2 := [some (ab_R a0), some (ab_I a1), some (ab_I (0 : Int)), none, none]) dX9_twins_16 rfl (Nat.le_of_ble_eq_true rfl) rfl rfl ?_
    refine ab_iconst (pc := 17) dX9_twins_17 ab_k_0 ?_
    refine ab_istore_n (pc := 18) (i := 3) (lv2 := [some (ab_R a0), some (ab_I a1), some (ab_I (0 : Int)), some (ab_I (0 : Int)), none]) dX9_twins_18 rfl (Nat.le_of_ble_eq_true rfl) rfl rfl ?_
    refine ab_sub_ (lv2 := [some (ab_R a0), some (ab_I a1), some (ab_I (0 : Int)), some (ab_I (0 : Int)), none]) (ab_ss (ab_ss (ab_ss (ab_ss (ab_sn ab_s0))))) ?_
    refine e_X9_twins_L19 (fun w106_1 w106_2 hx106 q hk => ?_) _ _ _ _ _ _ _ hk
    · skip
      refine ab_iload_n (pc := 106) (i := 2) dX9_twins_106 rfl rfl ?_
      refine ab_iconst (pc := 107) dX9_twins_107 ab_k_1 ?_
      refine ab_iload_n (pc := 108) (i := 1) dX9_twins_108 rfl rfl ?_
      refine ab_ishl (pc := 109) dX9_twins_109 ?_
      refine ab_iconst (pc := 110) dX9_twins_110 ab_k_m1 ?_
      refine ab_ixor (pc := 111) dX9_twins_111 ?_
      refine ab_iand (pc := 112) dX9_twins_112 ?_
      obtain rfl := Option.some.inj hk
      exact ab_reti (pc := 113) dX9_twins_113 (Or.inl rfl)
  · have hk := ab_ifp hk hc
    refine ab_bipush (pc := 8) dX9_twins_8 ab_p8_m2 ab_k_m2 ?_
    obtain rfl := Option.some.inj hk
    exact ab_reti (pc := 10) dX9_twins_10 (Or.inl rfl)
theorem dX9_rarest_0 : decode cX9_rarest 0 = .ok (.aload_n 0, 1) := by decide +kernel
theorem dX9_rarest_1 : decode cX9_rarest 1 = .ok (.iload_n 1, 1) := by decide +kernel
theorem dX9_rarest_2 : decode cX9_rarest 2 = .ok (.invokevirtual 323, 3) := by decide +kernel
theorem dX9_rarest_5 : decode cX9_rarest 5 = .ok (.ifCond .ne 6, 3) := by decide +kernel
theorem dX9_rarest_8 : decode cX9_rarest 8 = .ok (.bipush (-2), 2) := by decide +kernel
theorem dX9_rarest_10 : decode cX9_rarest 10 = .ok (.ireturn, 1) := by decide +kernel
theorem dX9_rarest_11 : decode cX9_rarest 11 = .ok (.aload_n 0, 1) := by decide +kernel
theorem dX9_rarest_12 : decode cX9_rarest 12 = .ok (.invokevirtual 287, 3) := by decide +kernel
theorem dX9_rarest_15 : decode cX9_rarest 15 = .ok (.iconst 0, 1) := by decide +kernel
theorem dX9_rarest_16 : decode cX9_rarest 16 = .ok (.istore_n 2, 1) := by decide +kernel
theorem dX9_rarest_17 : decode cX9_rarest 17 = .ok (.iconst 1, 1) := by decide +kernel
theorem dX9_rarest_18 : decode cX9_rarest 18 = .ok (.istore_n 3, 1) := by decide +kernel
theorem dX9_rarest_19 : decode cX9_rarest 19 = .ok (.iload_n 3, 1) := by decide +kernel
theorem dX9_rarest_20 : decode cX9_rarest 20 = .ok (.aload_n 0, 1) := by decide +kernel
theorem dX9_rarest_21 : decode cX9_rarest 21 = .ok (.iload_n 1, 1) := by decide +kernel
theorem dX9_rarest_22 : decode cX9_rarest 22 = .ok (.invokevirtual 255, 3) := by decide +kernel
theorem dX9_rarest_25 : decode cX9_rarest 25 = .ok (.if_icmp .ge 42, 3) := by decide +kernel
theorem dX9_rarest_28 : decode cX9_rarest 28 = .ok (.aload_n 0, 1) := by decide +kernel
theorem dX9_rarest_29 : decode cX9_rarest 29 = .ok (.aload_n 0, 1) := by decide +kernel
theorem dX9_rarest_30 : decode cX9_rarest 30 = .ok (.getfield 27, 3) := by decide +kernel
theorem dX9_rarest_33 : decode cX9_rarest 33 = .ok (.iload_n 1, 1) := by decide +kernel
theorem dX9_rarest_34 : decode cX9_rarest 34 = .ok (.iload_n 3, 1) := by decide +kernel
theorem dX9_rarest_35 : decode cX9_rarest 35 = .ok (.invokestatic 262, 3) := by decide +kernel
theorem dX9_rarest_38 : decode cX9_rarest 38 = .ok (.iaload, 1) := by decide +kernel
theorem dX9_rarest_39 : decode cX9_rarest 39 = .ok (.invokevirtual 432, 3) := by decide +kernel
theorem dX9_rarest_42 : decode cX9_rarest 42 = .ok (.aload_n 0, 1) := by decide +kernel
theorem dX9_rarest_43 : decode cX9_rarest 43 = .ok (.aload_n 0, 1) := by decide +kernel
theorem dX9_rarest_44 : decode cX9_rarest 44 = .ok (.getfield 27, 3) := by decide +kernel
theorem dX9_rarest_47 : decode cX9_rarest 47 = .ok (.iload_n 1, 1) := by decide +kernel
theorem dX9_rarest_48 : decode cX9_rarest 48 = .ok (.iload_n 2, 1) := by decide +kernel
theorem dX9_rarest_49 : decode cX9_rarest 49 = .ok (.invokestatic 262, 3) := by decide +kernel
theorem dX9_rarest_52 : decode cX9_rarest 52 = .ok (.iaload, 1) := by decide +kernel
theorem dX9_rarest_53 : decode cX9_rarest 53 = .ok (.invokevirtual 432, 3) := by decide +kernel
theorem dX9_rarest_56 : decode cX9_rarest 56 = .ok (.if_icmp .ge 5, 3) := by decide +kernel
theorem dX9_rarest_59 : decode cX9_rarest 59 = .ok (.iload_n 3, 1) := by decide +kernel
theorem dX9_rarest_60 : decode cX9_rarest 60 = .ok (.istore_n 2, 1) := by decide +kernel
theorem dX9_rarest_61 : decode cX9_rarest 61 = .ok (.iinc 3 1, 3) := by decide +kernel
theorem dX9_rarest_64 : decode cX9_rarest 64 = .ok (.goto (-45), 3) := by decide +kernel
theorem dX9_rarest_67 : decode cX9_rarest 67 = .ok (.iload_n 2, 1) := by decide +kernel
theorem dX9_rarest_68 : decode cX9_rarest 68 = .ok (.ireturn, 1) := by decide +kernel
abbrev mm_X9_rarest : ab_M := (RX9, 4, (some .int), false, 5, 112, none)
noncomputable def f_X9_rarest_J61 (rec : Int → Int → Int → Int → ab_H → Option (Int × ab_H)) (v0 : Int) (v1 : Int) (v2 : Int) (v3 : Int) (h : ab_H) : Option (Int × ab_H) :=
  rec v0 v1 v2 (ab_w32 (v3 + (1 : Int))) h
set_option maxRecDepth 20000 in
theorem e_X9_rarest_J61 {rec : Int → Int → Int → Int → ab_H → Option (Int × ab_H)} (hrec : ∀ (v0 : Int) (v1 : Int) (v2 : Int) (v3 : Int) (h : ab_H) (q : Int × ab_H), rec v0 v1 v2 v3 h = some q → ab_E mm_X9_rarest cX9_rarest 19 [some (ab_R v0), some (ab_I v1), some (ab_I v2), some (ab_I v3)] [] h (some (ab_I q.1)) q.2) : ∀ (v0 : Int) (v1 : Int) (v2 : Int) (v3 : Int) (h : ab_H) (q : Int × ab_H), f_X9_rarest_J61 rec v0 v1 v2 v3 h = some q → ab_E mm_X9_rarest cX9_rarest 61 [some (ab_R v0), some (ab_I v1), some (ab_I v2), some (ab_I v3)] [] h (some (ab_I q.1)) q.2 := by
  intro v0 v1 v2 v3 h q hk
  unfold f_X9_rarest_J61 at hk
  refine ab_iinc (pc := 61) (i := 3) (lv2 := [some (ab_R v0), some (ab_I v1), some (ab_I v2), some (ab_I (ab_w32 (v3 + (1 : Int))))]) dX9_rarest_61 rfl (Nat.le_of_ble_eq_true rfl) rfl rfl ?_
  refine ab_goto (pc := 64) (tgt := 19) dX9_rarest_64 rfl ?_
  refine ab_sub_ (lv2 := [some (ab_R v0), some (ab_I v1), some (ab_I v2), some (ab_I (ab_w32 (v3 + (1 : Int))))]) (ab_ss (ab_ss (ab_ss (ab_ss ab_s0)))) ?_
  exact hrec _ _ _ _ _ _ hk
noncomputable def f_X9_rarest_L19 : Nat → Int → Int → Int → Int → ab_H → Option (Int × ab_H)
  | 0, _, _, _, _, _ => none
  | n + 1, v0, v1, v2, v3, h =>
    (ab_on h 10 v0 (f_X9_terms v0 v1 h)).bind fun q1 =>
    if q1.1 ≤ v3 then
      some (v2, q1.2)
    else
    (ab_get q1.2 10 15 v0).bind fun t2 =>
    (f_X9_place v1 v3 q1.2).bind fun q3 =>
    (ab_ald q3.2 11 t2 q3.1).bind fun t4 =>
    (ab_on q3.2 10 v0 (f_X9_oftenOf v0 t4 q3.2)).bind fun q5 =>
    (ab_get q5.2 10 15 v0).bind fun t6 =>
    (f_X9_place v1 v2 q5.2).bind fun q7 =>
    (ab_ald q7.2 11 t6 q7.1).bind fun t8 =>
    (ab_on q7.2 10 v0 (f_X9_oftenOf v0 t8 q7.2)).bind fun q9 =>
    if q9.1 ≤ q5.1 then
      f_X9_rarest_J61 (f_X9_rarest_L19 n) v0 v1 v2 v3 q9.2
    else
    f_X9_rarest_J61 (f_X9_rarest_L19 n) v0 v1 v3 v3 q9.2
set_option maxRecDepth 20000 in
theorem e_X9_rarest_L19 : ∀ (n : Nat) (v0 : Int) (v1 : Int) (v2 : Int) (v3 : Int) (h : ab_H) (q : Int × ab_H), f_X9_rarest_L19 n v0 v1 v2 v3 h = some q → ab_E mm_X9_rarest cX9_rarest 19 [some (ab_R v0), some (ab_I v1), some (ab_I v2), some (ab_I v3)] [] h (some (ab_I q.1)) q.2 := by
  intro n
  induction n with
  | zero => intro v0 v1 v2 v3 h q hk; cases hk
  | succ n ih =>
    intro v0 v1 v2 v3 h q hk
    unfold f_X9_rarest_L19 at hk
    refine ab_iload_n (pc := 19) (i := 3) dX9_rarest_19 rfl rfl ?_
    refine ab_aload_n (pc := 20) (i := 0) dX9_rarest_20 rfl rfl ?_
    refine ab_iload_n (pc := 21) (i := 1) dX9_rarest_21 rfl rfl ?_
    obtain ⟨q1, hq1, hk⟩ := ab_bnd hk
    obtain ⟨hb, hq1⟩ := ab_on_some hq1
    refine ab_callVI (st := [ab_I v3]) (as := [ab_I v1]) (b := v0) (pc := 22) dX9_rarest_22 ml_RX9_255 my_X9_terms mv_X9_terms hb (ct_X9_terms hq1) ⟨Nat.le_of_ble_eq_true rfl, Nat.le_of_ble_eq_true rfl⟩ rfl (Nat.le_of_ble_eq_true rfl) rfl ?_
    refine ab_icmp_ge (pc := 25) (tgt := 67) dX9_rarest_25 rfl (fun hc => ?_) (fun hc => ?_)
    · have hk := ab_ifp hk hc
      refine ab_iload_n (pc := 67) (i := 2) dX9_rarest_67 rfl rfl ?_
      obtain rfl := Option.some.inj hk
      exact ab_reti (pc := 68) dX9_rarest_68 (Or.inl rfl)
    · have hk := ab_ifn hk hc
      refine ab_aload_n (pc := 28) (i := 0) dX9_rarest_28 rfl rfl ?_
      refine ab_aload_n (pc := 29) (i := 0) dX9_rarest_29 rfl rfl ?_
      obtain ⟨t2, ht2, hk⟩ := ab_bnd hk
      refine ab_getR (pc := 30) dX9_rarest_30 fl_RX9_27 ht2 ?_
      refine ab_iload_n (pc := 33) (i := 1) dX9_rarest_33 rfl rfl ?_
      refine ab_iload_n (pc := 34) (i := 3) dX9_rarest_34 rfl rfl ?_
      obtain ⟨q3, hq3, hk⟩ := ab_bnd hk
      refine ab_callSI (st := [ab_R t2, ab_R v0]) (as := [ab_I v1, ab_I v3]) (pc := 35) dX9_rarest_35 ml_RX9_262 my_X9_place ms_X9_place (ct_X9_place hq3) ⟨Nat.le_of_ble_eq_true rfl, Nat.le_of_ble_eq_true rfl⟩ rfl (Nat.le_of_ble_eq_true rfl) rfl ?_
      obtain ⟨t4, ht4, hk⟩ := ab_bnd hk
      refine ab_iald (pc := 38) dX9_rarest_38 ht4 ?_
      obtain ⟨q5, hq5, hk⟩ := ab_bnd hk
      obtain ⟨hb, hq5⟩ := ab_on_some hq5
      refine ab_callVI (st := []) (as := [ab_I t4]) (b := v0) (pc := 39) dX9_rarest_39 ml_RX9_432 my_X9_oftenOf mv_X9_oftenOf hb (ct_X9_oftenOf hq5) ⟨Nat.le_of_ble_eq_true rfl, Nat.le_of_ble_eq_true rfl⟩ rfl (Nat.le_of_ble_eq_true rfl) rfl ?_
      refine ab_aload_n (pc := 42) (i := 0) dX9_rarest_42 rfl rfl ?_
      refine ab_aload_n (pc := 43) (i := 0) dX9_rarest_43 rfl rfl ?_
      obtain ⟨t6, ht6, hk⟩ := ab_bnd hk
      refine ab_getR (pc := 44) dX9_rarest_44 fl_RX9_27 ht6 ?_
      refine ab_iload_n (pc := 47) (i := 1) dX9_rarest_47 rfl rfl ?_
      refine ab_iload_n (pc := 48) (i := 2) dX9_rarest_48 rfl rfl ?_
      obtain ⟨q7, hq7, hk⟩ := ab_bnd hk
      refine ab_callSI (st := [ab_R t6, ab_R v0, ab_I q5.1]) (as := [ab_I v1, ab_I v2]) (pc := 49) dX9_rarest_49 ml_RX9_262 my_X9_place ms_X9_place (ct_X9_place hq7) ⟨Nat.le_of_ble_eq_true rfl, Nat.le_of_ble_eq_true rfl⟩ rfl (Nat.le_of_ble_eq_true rfl) rfl ?_
      obtain ⟨t8, ht8, hk⟩ := ab_bnd hk
      refine ab_iald (pc := 52) dX9_rarest_52 ht8 ?_
      obtain ⟨q9, hq9, hk⟩ := ab_bnd hk
      obtain ⟨hb, hq9⟩ := ab_on_some hq9
      refine ab_callVI (st := [ab_I q5.1]) (as := [ab_I t8]) (b := v0) (pc := 53) dX9_rarest_53 ml_RX9_432 my_X9_oftenOf mv_X9_oftenOf hb (ct_X9_oftenOf hq9) ⟨Nat.le_of_ble_eq_true rfl, Nat.le_of_ble_eq_true rfl⟩ rfl (Nat.le_of_ble_eq_true rfl) rfl ?_
      refine ab_icmp_ge (pc := 56) (tgt := 61) dX9_rarest_56 rfl (fun hc => ?_) (fun hc => ?_)
      · have hk := ab_ifp hk hc
        refine ab_sub_ (lv2 := [some (ab_R v0), some (ab_I v1), some (ab_I v2), some (ab_I v3)]) (ab_ss (ab_ss (ab_ss (ab_ss ab_s0)))) ?_
        exact e_X9_rarest_J61 ih _ _ _ _ _ _ hk
      · have hk := ab_ifn hk hc
        refine ab_iload_n (pc := 59) (i := 3) dX9_rarest_59 rfl rfl ?_
        refine ab_istore_n (pc := 60) (i := 2) (lv2 := [some (ab_R v0), some (ab_I v1), some (ab_I v3), some (ab_I v3)]) dX9_rarest_60 rfl (Nat.le_of_ble_eq_true rfl) rfl rfl ?_
        refine ab_sub_ (lv2 := [some (ab_R v0), some (ab_I v1), some (ab_I v3), some (ab_I v3)]) (ab_ss (ab_ss (ab_ss (ab_ss ab_s0)))) ?_
        exact e_X9_rarest_J61 ih _ _ _ _ _ _ hk
noncomputable def f_X9_rarest (a0 : Int) (a1 : Int) (h : ab_H) : Option (Int × ab_H) :=
  (ab_on h 10 a0 (f_X9_isString a0 a1 h)).bind fun q1 =>
  if q1.1 = (0 : Int) then
    some ((-2 : Int), q1.2)
  else
  (ab_on q1.2 10 a0 (f_X9_laysWords a0 q1.2)).bind fun q2 =>
  f_X9_rarest_L19 ab_FU a0 a1 (0 : Int) (1 : Int) q2
set_option maxRecDepth 20000 in
theorem ct_X9_rarest {a0 a1 : Int} {h : ab_H} {q : Int × ab_H} (hk : f_X9_rarest a0 a1 h = some q) : ab_CT yX9_rarest cX9_rarest 4 (some .int) 5 112 [ab_R a0, ab_I a1] h (some (ab_I q.1)) q.2 := by
  refine ab_CT.mk_ 2 (own := RX9) (ini := false) (lv := [some (ab_R a0), some (ab_I a1), none, none]) rfl (by decide +kernel) (fun q => by cases q) rfl rfl ?_
  unfold f_X9_rarest at hk
  show ab_E mm_X9_rarest cX9_rarest 0 _ [] h _ _
  refine ab_aload_n (pc := 0) (i := 0) dX9_rarest_0 rfl rfl ?_
  refine ab_iload_n (pc := 1) (i := 1) dX9_rarest_1 rfl rfl ?_
  obtain ⟨q1, hq1, hk⟩ := ab_bnd hk
  obtain ⟨hb, hq1⟩ := ab_on_some hq1
  refine ab_callVI (st := []) (as := [ab_I a1]) (b := a0) (pc := 2) dX9_rarest_2 ml_RX9_323 my_X9_isString mv_X9_isString hb (ct_X9_isString hq1) ⟨Nat.le_of_ble_eq_true rfl, Nat.le_of_ble_eq_true rfl⟩ rfl (Nat.le_of_ble_eq_true rfl) rfl ?_
  refine ab_if_ne (pc := 5) (tgt := 11) dX9_rarest_5 rfl (fun hc => ?_) (fun hc => ?_)
  · have hk := ab_ifn hk hc
    refine ab_aload_n (pc := 11) (i := 0) dX9_rarest_11 rfl rfl ?_
    obtain ⟨q2, hq2, hk⟩ := ab_bnd hk
    obtain ⟨hb, hq2⟩ := ab_on_some hq2
    refine ab_callVV (st := []) (as := []) (b := a0) (pc := 12) dX9_rarest_12 ml_RX9_287 my_X9_laysWords mv_X9_laysWords hb (ct_X9_laysWords hq2) ⟨Nat.le_of_ble_eq_true rfl, Nat.le_of_ble_eq_true rfl⟩ rfl (Nat.le_of_ble_eq_true rfl) rfl ?_
    refine ab_iconst (pc := 15) dX9_rarest_15 ab_k_0 ?_
    refine ab_istore_n (pc := 16) (i := 2) (lv2 := [some (ab_R a0), some (ab_I a1), some (ab_I (0 : Int)), none]) dX9_rarest_16 rfl (Nat.le_of_ble_eq_true rfl) rfl rfl ?_
    refine ab_iconst (pc := 17) dX9_rarest_17 ab_k_1 ?_
    refine ab_istore_n (pc := 18) (i := 3) (lv2 := [some (ab_R a0), some (ab_I a1), some (ab_I (0 : Int)), some (ab_I (1 : Int))]) dX9_rarest_18 rfl (Nat.le_of_ble_eq_true rfl) rfl rfl ?_
    refine ab_sub_ (lv2 := [some (ab_R a0), some (ab_I a1), some (ab_I (0 : Int)), some (ab_I (1 : Int))]) (ab_ss (ab_ss (ab_ss (ab_ss ab_s0)))) ?_
    refine e_X9_rarest_L19 _ _ _ _ _ _ _ hk
  · have hk := ab_ifp hk hc
    refine ab_bipush (pc := 8) dX9_rarest_8 ab_p8_m2 ab_k_m2 ?_
    obtain rfl := Option.some.inj hk
    exact ab_reti (pc := 10) dX9_rarest_10 (Or.inl rfl)
theorem dX9_crossed_0 : decode cX9_crossed 0 = .ok (.aload_n 0, 1) := by decide +kernel
theorem dX9_crossed_1 : decode cX9_crossed 1 = .ok (.invokevirtual 314, 3) := by decide +kernel
theorem dX9_crossed_4 : decode cX9_crossed 4 = .ok (.iload_n 1, 1) := by decide +kernel
theorem dX9_crossed_5 : decode cX9_crossed 5 = .ok (.i2l, 1) := by decide +kernel
theorem dX9_crossed_6 : decode cX9_crossed 6 = .ok (.lconst 0, 1) := by decide +kernel
theorem dX9_crossed_7 : decode cX9_crossed 7 = .ok (.aload_n 0, 1) := by decide +kernel
theorem dX9_crossed_8 : decode cX9_crossed 8 = .ok (.getfield 306, 3) := by decide +kernel
theorem dX9_crossed_11 : decode cX9_crossed 11 = .ok (.iconst 1, 1) := by decide +kernel
theorem dX9_crossed_12 : decode cX9_crossed 12 = .ok (.isub, 1) := by decide +kernel
theorem dX9_crossed_13 : decode cX9_crossed 13 = .ok (.i2l, 1) := by decide +kernel
theorem dX9_crossed_14 : decode cX9_crossed 14 = .ok (.invokestatic 84, 3) := by decide +kernel
theorem dX9_crossed_17 : decode cX9_crossed 17 = .ok (.ifCond .eq 33, 3) := by decide +kernel
theorem dX9_crossed_20 : decode cX9_crossed 20 = .ok (.iload_n 2, 1) := by decide +kernel
theorem dX9_crossed_21 : decode cX9_crossed 21 = .ok (.i2l, 1) := by decide +kernel
theorem dX9_crossed_22 : decode cX9_crossed 22 = .ok (.lconst 0, 1) := by decide +kernel
theorem dX9_crossed_23 : decode cX9_crossed 23 = .ok (.aload_n 0, 1) := by decide +kernel
theorem dX9_crossed_24 : decode cX9_crossed 24 = .ok (.getfield 306, 3) := by decide +kernel
theorem dX9_crossed_27 : decode cX9_crossed 27 = .ok (.iconst 1, 1) := by decide +kernel
theorem dX9_crossed_28 : decode cX9_crossed 28 = .ok (.isub, 1) := by decide +kernel
theorem dX9_crossed_29 : decode cX9_crossed 29 = .ok (.i2l, 1) := by decide +kernel
theorem dX9_crossed_30 : decode cX9_crossed 30 = .ok (.invokestatic 84, 3) := by decide +kernel
theorem dX9_crossed_33 : decode cX9_crossed 33 = .ok (.ifCond .eq 17, 3) := by decide +kernel
theorem dX9_crossed_36 : decode cX9_crossed 36 = .ok (.aload_n 0, 1) := by decide +kernel
theorem dX9_crossed_37 : decode cX9_crossed 37 = .ok (.iload_n 1, 1) := by decide +kernel
theorem dX9_crossed_38 : decode cX9_crossed 38 = .ok (.invokevirtual 374, 3) := by decide +kernel
theorem dX9_crossed_41 : decode cX9_crossed 41 = .ok (.aload_n 0, 1) := by decide +kernel
theorem dX9_crossed_42 : decode cX9_crossed 42 = .ok (.iload_n 2, 1) := by decide +kernel
theorem dX9_crossed_43 : decode cX9_crossed 43 = .ok (.invokevirtual 374, 3) := by decide +kernel
theorem dX9_crossed_46 : decode cX9_crossed 46 = .ok (.iand, 1) := by decide +kernel
theorem dX9_crossed_47 : decode cX9_crossed 47 = .ok (.goto 5, 3) := by decide +kernel
theorem dX9_crossed_50 : decode cX9_crossed 50 = .ok (.bipush (-2), 2) := by decide +kernel
theorem dX9_crossed_52 : decode cX9_crossed 52 = .ok (.ireturn, 1) := by decide +kernel
abbrev mm_X9_crossed : ab_M := (RX9, 3, (some .int), false, 6, 133, none)
noncomputable def f_X9_crossed_J50 (h : ab_H) : Option (Int × ab_H) :=
  some ((-2 : Int), h)
set_option maxRecDepth 20000 in
theorem e_X9_crossed_J50 : ∀ (h : ab_H) (q : Int × ab_H), f_X9_crossed_J50  h = some q → ab_E mm_X9_crossed cX9_crossed 50 [none, none, none] [] h (some (ab_I q.1)) q.2 := by
  intro  h q hk
  unfold f_X9_crossed_J50 at hk
  refine ab_bipush (pc := 50) dX9_crossed_50 ab_p8_m2 ab_k_m2 ?_
  obtain rfl := Option.some.inj hk
  exact ab_reti (pc := 52) dX9_crossed_52 (Or.inl rfl)
noncomputable def f_X9_crossed (a0 : Int) (a1 : Int) (a2 : Int) (h : ab_H) : Option (Int × ab_H) :=
  (ab_on h 10 a0 (f_X9_lays a0 h)).bind fun q1 =>
  (ab_get q1 10 18 a0).bind fun t2 =>
  (f_X9_in a1 (0 : Int) (ab_w32 (t2 - (1 : Int))) q1).bind fun q3 =>
  if q3.1 = (0 : Int) then
    f_X9_crossed_J50 q3.2
  else
  (ab_get q3.2 10 18 a0).bind fun t4 =>
  (f_X9_in a2 (0 : Int) (ab_w32 (t4 - (1 : Int))) q3.2).bind fun q5 =>
  if q5.1 = (0 : Int) then
    f_X9_crossed_J50 q5.2
  else
  (ab_on q5.2 10 a0 (f_X9_stringsUnder a0 a1 q5.2)).bind fun q6 =>
  (ab_on q6.2 10 a0 (f_X9_stringsUnder a0 a2 q6.2)).bind fun q7 =>
  some (ab_and q6.1 q7.1, q7.2)
set_option maxRecDepth 20000 in
theorem ct_X9_crossed {a0 a1 a2 : Int} {h : ab_H} {q : Int × ab_H} (hk : f_X9_crossed a0 a1 a2 h = some q) : ab_CT yX9_crossed cX9_crossed 3 (some .int) 6 133 [ab_R a0, ab_I a1, ab_I a2] h (some (ab_I q.1)) q.2 := by
  refine ab_CT.mk_ 0 (own := RX9) (ini := false) (lv := [some (ab_R a0), some (ab_I a1), some (ab_I a2)]) rfl (by decide +kernel) (fun q => by cases q) rfl rfl ?_
  unfold f_X9_crossed at hk
  show ab_E mm_X9_crossed cX9_crossed 0 _ [] h _ _
  refine ab_aload_n (pc := 0) (i := 0) dX9_crossed_0 rfl rfl ?_
  obtain ⟨q1, hq1, hk⟩ := ab_bnd hk
  obtain ⟨hb, hq1⟩ := ab_on_some hq1
  refine ab_callVV (st := []) (as := []) (b := a0) (pc := 1) dX9_crossed_1 ml_RX9_314 my_X9_lays mv_X9_lays hb (ct_X9_lays hq1) ⟨Nat.le_of_ble_eq_true rfl, Nat.le_of_ble_eq_true rfl⟩ rfl (Nat.le_of_ble_eq_true rfl) rfl ?_
  refine ab_iload_n (pc := 4) (i := 1) dX9_crossed_4 rfl rfl ?_
  refine ab_i2l_ (pc := 5) dX9_crossed_5 ?_
  refine ab_lconst (x := (0 : Int)) (pc := 6) dX9_crossed_6 rfl ab_kl_0 ?_
  refine ab_aload_n (pc := 7) (i := 0) dX9_crossed_7 rfl rfl ?_
  obtain ⟨t2, ht2, hk⟩ := ab_bnd hk
  refine ab_getI (pc := 8) dX9_crossed_8 fl_RX9_306 ht2 ?_
  refine ab_iconst (pc := 11) dX9_crossed_11 ab_k_1 ?_
  refine ab_isub (pc := 12) dX9_crossed_12 ?_
  refine ab_i2l_ (pc := 13) dX9_crossed_13 ?_
  obtain ⟨q3, hq3, hk⟩ := ab_bnd hk
  refine ab_callSI (st := []) (as := [ab_J a1, ab_J (0 : Int), ab_J (ab_w32 (t2 - (1 : Int)))]) (pc := 14) dX9_crossed_14 ml_RX9_84 my_X9_in ms_X9_in (ct_X9_in hq3) ⟨Nat.le_of_ble_eq_true rfl, Nat.le_of_ble_eq_true rfl⟩ rfl (Nat.le_of_ble_eq_true rfl) rfl ?_
  refine ab_if_eq (pc := 17) (tgt := 50) dX9_crossed_17 rfl (fun hc => ?_) (fun hc => ?_)
  · have hk := ab_ifp hk hc
    refine ab_sub_ (lv2 := [none, none, none]) (ab_sn (ab_sn (ab_sn ab_s0))) ?_
    exact e_X9_crossed_J50  _ _ hk
  · have hk := ab_ifn hk hc
    refine ab_iload_n (pc := 20) (i := 2) dX9_crossed_20 rfl rfl ?_
    refine ab_i2l_ (pc := 21) dX9_crossed_21 ?_
    refine ab_lconst (x := (0 : Int)) (pc := 22) dX9_crossed_22 rfl ab_kl_0 ?_
    refine ab_aload_n (pc := 23) (i := 0) dX9_crossed_23 rfl rfl ?_
    obtain ⟨t4, ht4, hk⟩ := ab_bnd hk
    refine ab_getI (pc := 24) dX9_crossed_24 fl_RX9_306 ht4 ?_
    refine ab_iconst (pc := 27) dX9_crossed_27 ab_k_1 ?_
    refine ab_isub (pc := 28) dX9_crossed_28 ?_
    refine ab_i2l_ (pc := 29) dX9_crossed_29 ?_
    obtain ⟨q5, hq5, hk⟩ := ab_bnd hk
    refine ab_callSI (st := []) (as := [ab_J a2, ab_J (0 : Int), ab_J (ab_w32 (t4 - (1 : Int)))]) (pc := 30) dX9_crossed_30 ml_RX9_84 my_X9_in ms_X9_in (ct_X9_in hq5) ⟨Nat.le_of_ble_eq_true rfl, Nat.le_of_ble_eq_true rfl⟩ rfl (Nat.le_of_ble_eq_true rfl) rfl ?_
    refine ab_if_eq (pc := 33) (tgt := 50) dX9_crossed_33 rfl (fun hc => ?_) (fun hc => ?_)
    · have hk := ab_ifp hk hc
      refine ab_sub_ (lv2 := [none, none, none]) (ab_sn (ab_sn (ab_sn ab_s0))) ?_
      exact e_X9_crossed_J50  _ _ hk
    · have hk := ab_ifn hk hc
      refine ab_aload_n (pc := 36) (i := 0) dX9_crossed_36 rfl rfl ?_
      refine ab_iload_n (pc := 37) (i := 1) dX9_crossed_37 rfl rfl ?_
      obtain ⟨q6, hq6, hk⟩ := ab_bnd hk
      obtain ⟨hb, hq6⟩ := ab_on_some hq6
      refine ab_callVI (st := []) (as := [ab_I a1]) (b := a0) (pc := 38) dX9_crossed_38 ml_RX9_374 my_X9_stringsUnder mv_X9_stringsUnder hb (ct_X9_stringsUnder hq6) ⟨Nat.le_of_ble_eq_true rfl, Nat.le_of_ble_eq_true rfl⟩ rfl (Nat.le_of_ble_eq_true rfl) rfl ?_
      refine ab_aload_n (pc := 41) (i := 0) dX9_crossed_41 rfl rfl ?_
      refine ab_iload_n (pc := 42) (i := 2) dX9_crossed_42 rfl rfl ?_
      obtain ⟨q7, hq7, hk⟩ := ab_bnd hk
      obtain ⟨hb, hq7⟩ := ab_on_some hq7
      refine ab_callVI (st := [ab_I q6.1]) (as := [ab_I a2]) (b := a0) (pc := 43) dX9_crossed_43 ml_RX9_374 my_X9_stringsUnder mv_X9_stringsUnder hb (ct_X9_stringsUnder hq7) ⟨Nat.le_of_ble_eq_true rfl, Nat.le_of_ble_eq_true rfl⟩ rfl (Nat.le_of_ble_eq_true rfl) rfl ?_
      refine ab_iand (pc := 46) dX9_crossed_46 ?_
      refine ab_goto (pc := 47) (tgt := 52) dX9_crossed_47 rfl ?_
      obtain rfl := Option.some.inj hk
      exact ab_reti (pc := 52) dX9_crossed_52 (Or.inl rfl)
theorem dX9_undo_0 : decode cX9_undo 0 = .ok (.aload_n 0, 1) := by decide +kernel
theorem dX9_undo_1 : decode cX9_undo 1 = .ok (.getfield 243, 3) := by decide +kernel
theorem dX9_undo_4 : decode cX9_undo 4 = .ok (.ifCond .ne 5, 3) := by decide +kernel
theorem dX9_undo_7 : decode cX9_undo 7 = .ok (.iconst (-1), 1) := by decide +kernel
theorem dX9_undo_8 : decode cX9_undo 8 = .ok (.ireturn, 1) := by decide +kernel
theorem dX9_undo_9 : decode cX9_undo 9 = .ok (.aload_n 0, 1) := by decide +kernel
theorem dX9_undo_10 : decode cX9_undo 10 = .ok (.dup, 1) := by decide +kernel
theorem dX9_undo_11 : decode cX9_undo 11 = .ok (.getfield 243, 3) := by decide +kernel
theorem dX9_undo_14 : decode cX9_undo 14 = .ok (.iconst 1, 1) := by decide +kernel
theorem dX9_undo_15 : decode cX9_undo 15 = .ok (.isub, 1) := by decide +kernel
theorem dX9_undo_16 : decode cX9_undo 16 = .ok (.putfield 243, 3) := by decide +kernel
theorem dX9_undo_19 : decode cX9_undo 19 = .ok (.iconst 0, 1) := by decide +kernel
theorem dX9_undo_20 : decode cX9_undo 20 = .ok (.istore_n 1, 1) := by decide +kernel
theorem dX9_undo_21 : decode cX9_undo 21 = .ok (.iload_n 1, 1) := by decide +kernel
theorem dX9_undo_22 : decode cX9_undo 22 = .ok (.sipush 416, 3) := by decide +kernel
theorem dX9_undo_25 : decode cX9_undo 25 = .ok (.if_icmp .ge 30, 3) := by decide +kernel
theorem dX9_undo_28 : decode cX9_undo 28 = .ok (.aload_n 0, 1) := by decide +kernel
theorem dX9_undo_29 : decode cX9_undo 29 = .ok (.getfield 9, 3) := by decide +kernel
theorem dX9_undo_32 : decode cX9_undo 32 = .ok (.iload_n 1, 1) := by decide +kernel
theorem dX9_undo_33 : decode cX9_undo 33 = .ok (.aload_n 0, 1) := by decide +kernel
theorem dX9_undo_34 : decode cX9_undo 34 = .ok (.getfield 67, 3) := by decide +kernel
theorem dX9_undo_37 : decode cX9_undo 37 = .ok (.sipush 416, 3) := by decide +kernel
theorem dX9_undo_40 : decode cX9_undo 40 = .ok (.aload_n 0, 1) := by decide +kernel
theorem dX9_undo_41 : decode cX9_undo 41 = .ok (.getfield 243, 3) := by decide +kernel
theorem dX9_undo_44 : decode cX9_undo 44 = .ok (.imul, 1) := by decide +kernel
theorem dX9_undo_45 : decode cX9_undo 45 = .ok (.iload_n 1, 1) := by decide +kernel
theorem dX9_undo_46 : decode cX9_undo 46 = .ok (.iadd, 1) := by decide +kernel
theorem dX9_undo_47 : decode cX9_undo 47 = .ok (.laload, 1) := by decide +kernel
theorem dX9_undo_48 : decode cX9_undo 48 = .ok (.lastore, 1) := by decide +kernel
theorem dX9_undo_49 : decode cX9_undo 49 = .ok (.iinc 1 1, 3) := by decide +kernel
theorem dX9_undo_52 : decode cX9_undo 52 = .ok (.goto (-31), 3) := by decide +kernel
theorem dX9_undo_55 : decode cX9_undo 55 = .ok (.aload_n 0, 1) := by decide +kernel
theorem dX9_undo_56 : decode cX9_undo 56 = .ok (.getfield 243, 3) := by decide +kernel
theorem dX9_undo_59 : decode cX9_undo 59 = .ok (.ireturn, 1) := by decide +kernel
abbrev mm_X9_undo : ab_M := (RX9, 2, (some .int), false, 0, 0, none)
noncomputable def f_X9_undo_L21 : Nat → Int → Int → ab_H → Option (Int × ab_H)
  | 0, _, _, _ => none
  | n + 1, v0, v1, h =>
    if (416 : Int) ≤ v1 then
      (ab_get h 10 34 v0).bind fun t1 =>
      some (t1, h)
    else
    (ab_get h 10 1 v0).bind fun t2 =>
    (ab_get h 10 35 v0).bind fun t3 =>
    (ab_get h 10 34 v0).bind fun t4 =>
    (ab_ald h 12 t3 (ab_w32 ((ab_w32 ((416 : Int) * t4)) + v1))).bind fun t5 =>
    (ab_ast h 12 t2 v1 t5).bind fun h1 =>
    f_X9_undo_L21 n v0 (ab_w32 (v1 + (1 : Int))) h1
set_option maxRecDepth 20000 in
theorem e_X9_undo_L21 : ∀ (n : Nat) (v0 : Int) (v1 : Int) (h : ab_H) (q : Int × ab_H), f_X9_undo_L21 n v0 v1 h = some q → ab_E mm_X9_undo cX9_undo 21 [some (ab_R v0), some (ab_I v1)] [] h (some (ab_I q.1)) q.2 := by
  intro n
  induction n with
  | zero => intro v0 v1 h q hk; cases hk
  | succ n ih =>
    intro v0 v1 h q hk
    unfold f_X9_undo_L21 at hk
    refine ab_iload_n (pc := 21) (i := 1) dX9_undo_21 rfl rfl ?_
    refine ab_sipush (pc := 22) dX9_undo_22 ab_p16_416 ab_k_416 ?_
    refine ab_icmp_ge (pc := 25) (tgt := 55) dX9_undo_25 rfl (fun hc => ?_) (fun hc => ?_)
    · have hk := ab_ifp hk hc
      refine ab_aload_n (pc := 55) (i := 0) dX9_undo_55 rfl rfl ?_
      obtain ⟨t1, ht1, hk⟩ := ab_bnd hk
      refine ab_getI (pc := 56) dX9_undo_56 fl_RX9_243 ht1 ?_
      obtain rfl := Option.some.inj hk
      exact ab_reti (pc := 59) dX9_undo_59 (Or.inl rfl)
    · have hk := ab_ifn hk hc
      refine ab_aload_n (pc := 28) (i := 0) dX9_undo_28 rfl rfl ?_
      obtain ⟨t2, ht2, hk⟩ := ab_bnd hk
      refine ab_getR (pc := 29) dX9_undo_29 fl_RX9_9 ht2 ?_
      refine ab_iload_n (pc := 32) (i := 1) dX9_undo_32 rfl rfl ?_
      refine ab_aload_n (pc := 33) (i := 0) dX9_undo_33 rfl rfl ?_
      obtain ⟨t3, ht3, hk⟩ := ab_bnd hk
      refine ab_getR (pc := 34) dX9_undo_34 fl_RX9_67 ht3 ?_
      refine ab_sipush (pc := 37) dX9_undo_37 ab_p16_416 ab_k_416 ?_
      refine ab_aload_n (pc := 40) (i := 0) dX9_undo_40 rfl rfl ?_
      obtain ⟨t4, ht4, hk⟩ := ab_bnd hk
      refine ab_getI (pc := 41) dX9_undo_41 fl_RX9_243 ht4 ?_
      refine ab_imul (pc := 44) dX9_undo_44 ?_
      refine ab_iload_n (pc := 45) (i := 1) dX9_undo_45 rfl rfl ?_
      refine ab_iadd (pc := 46) dX9_undo_46 ?_
      obtain ⟨t5, ht5, hk⟩ := ab_bnd hk
      refine ab_lald (pc := 47) dX9_undo_47 ht5 ?_
      obtain ⟨h1, hh1, hk⟩ := ab_bnd hk
      refine ab_last (pc := 48) dX9_undo_48 hh1 ?_
      refine ab_iinc (pc := 49) (i := 1) (lv2 := [some (ab_R v0), some (ab_I (ab_w32 (v1 + (1 : Int))))]) dX9_undo_49 rfl (Nat.le_of_ble_eq_true rfl) rfl rfl ?_
      refine ab_goto (pc := 52) (tgt := 21) dX9_undo_52 rfl ?_
      refine ab_sub_ (lv2 := [some (ab_R v0), some (ab_I (ab_w32 (v1 + (1 : Int))))]) (ab_ss (ab_ss ab_s0)) ?_
      exact ih _ _ _ _ hk
noncomputable def f_X9_undo (a0 : Int) (h : ab_H) : Option (Int × ab_H) :=
  (ab_get h 10 34 a0).bind fun t1 =>
  if t1 = (0 : Int) then
    some ((-1 : Int), h)
  else
  (ab_get h 10 34 a0).bind fun t2 =>
  (ab_put h 10 34 a0 (ab_w32 (t2 - (1 : Int)))).bind fun h1 =>
  f_X9_undo_L21 ab_FU a0 (0 : Int) h1
set_option maxRecDepth 20000 in
theorem ct_X9_undo {a0 : Int} {h : ab_H} {q : Int × ab_H} (hk : f_X9_undo a0 h = some q) : ab_CT yX9_undo cX9_undo 2 (some .int) 0 0 [ab_R a0] h (some (ab_I q.1)) q.2 := by
  refine ab_CT.mk_ 1 (own := RX9) (ini := false) (lv := [some (ab_R a0), none]) rfl (by decide +kernel) (fun q => by cases q) rfl rfl ?_
  unfold f_X9_undo at hk
  show ab_E mm_X9_undo cX9_undo 0 _ [] h _ _
  refine ab_aload_n (pc := 0) (i := 0) dX9_undo_0 rfl rfl ?_
  obtain ⟨t1, ht1, hk⟩ := ab_bnd hk
  refine ab_getI (pc := 1) dX9_undo_1 fl_RX9_243 ht1 ?_
  refine ab_if_ne (pc := 4) (tgt := 9) dX9_undo_4 rfl (fun hc => ?_) (fun hc => ?_)
  · have hk := ab_ifn hk hc
    refine ab_aload_n (pc := 9) (i := 0) dX9_undo_9 rfl rfl ?_
    refine ab_dup (pc := 10) dX9_undo_10 rfl ?_
    obtain ⟨t2, ht2, hk⟩ := ab_bnd hk
    refine ab_getI (pc := 11) dX9_undo_11 fl_RX9_243 ht2 ?_
    refine ab_iconst (pc := 14) dX9_undo_14 ab_k_1 ?_
    refine ab_isub (pc := 15) dX9_undo_15 ?_
    obtain ⟨h1, hh1, hk⟩ := ab_bnd hk
    refine ab_putI_ (pc := 16) dX9_undo_16 fl_RX9_243 (fun q => by cases q) hh1 ?_
    refine ab_iconst (pc := 19) dX9_undo_19 ab_k_0 ?_
    refine ab_istore_n (pc := 20) (i := 1) (lv2 := [some (ab_R a0), some (ab_I (0 : Int))]) dX9_undo_20 rfl (Nat.le_of_ble_eq_true rfl) rfl rfl ?_
    refine ab_sub_ (lv2 := [some (ab_R a0), some (ab_I (0 : Int))]) (ab_ss (ab_ss ab_s0)) ?_
    refine e_X9_undo_L21 _ _ _ _ _ hk
  · have hk := ab_ifp hk hc
    refine ab_iconst (pc := 7) dX9_undo_7 ab_k_m1 ?_
    obtain rfl := Option.some.inj hk
    exact ab_reti (pc := 8) dX9_undo_8 (Or.inl rfl)
theorem dX9_drops_0 : decode cX9_drops 0 = .ok (.aload_n 0, 1) := by decide +kernel
theorem dX9_drops_1 : decode cX9_drops 1 = .ok (.iload_n 1, 1) := by decide +kernel
theorem dX9_drops_2 : decode cX9_drops 2 = .ok (.invokevirtual 323, 3) := by decide +kernel
theorem dX9_drops_5 : decode cX9_drops 5 = .ok (.ifCond .ne 6, 3) := by decide +kernel
theorem dX9_drops_8 : decode cX9_drops 8 = .ok (.bipush (-2), 2) := by decide +kernel
theorem dX9_drops_10 : decode cX9_drops 10 = .ok (.ireturn, 1) := by decide +kernel
theorem dX9_drops_11 : decode cX9_drops 11 = .ok (.aload_n 0, 1) := by decide +kernel
theorem dX9_drops_12 : decode cX9_drops 12 = .ok (.invokevirtual 249, 3) := by decide +kernel
theorem dX9_drops_15 : decode cX9_drops 15 = .ok (.bipush 32, 2) := by decide +kernel
theorem dX9_drops_17 : decode cX9_drops 17 = .ok (.bipush 32, 2) := by decide +kernel
theorem dX9_drops_19 : decode cX9_drops 19 = .ok (.iload_n 1, 1) := by decide +kernel
theorem dX9_drops_20 : decode cX9_drops 20 = .ok (.imul, 1) := by decide +kernel
theorem dX9_drops_21 : decode cX9_drops 21 = .ok (.iadd, 1) := by decide +kernel
theorem dX9_drops_22 : decode cX9_drops 22 = .ok (.istore_n 2, 1) := by decide +kernel
theorem dX9_drops_23 : decode cX9_drops 23 = .ok (.iload_n 2, 1) := by decide +kernel
theorem dX9_drops_24 : decode cX9_drops 24 = .ok (.sipush 384, 3) := by decide +kernel
theorem dX9_drops_27 : decode cX9_drops 27 = .ok (.if_icmp .ge 24, 3) := by decide +kernel
theorem dX9_drops_30 : decode cX9_drops 30 = .ok (.aload_n 0, 1) := by decide +kernel
theorem dX9_drops_31 : decode cX9_drops 31 = .ok (.getfield 9, 3) := by decide +kernel
theorem dX9_drops_34 : decode cX9_drops 34 = .ok (.iload_n 2, 1) := by decide +kernel
theorem dX9_drops_35 : decode cX9_drops 35 = .ok (.aload_n 0, 1) := by decide +kernel
theorem dX9_drops_36 : decode cX9_drops 36 = .ok (.getfield 9, 3) := by decide +kernel
theorem dX9_drops_39 : decode cX9_drops 39 = .ok (.iload_n 2, 1) := by decide +kernel
theorem dX9_drops_40 : decode cX9_drops 40 = .ok (.bipush 32, 2) := by decide +kernel
theorem dX9_drops_42 : decode cX9_drops 42 = .ok (.iadd, 1) := by decide +kernel
theorem dX9_drops_43 : decode cX9_drops 43 = .ok (.laload, 1) := by decide +kernel
theorem dX9_drops_44 : decode cX9_drops 44 = .ok (.lastore, 1) := by decide +kernel
theorem dX9_drops_45 : decode cX9_drops 45 = .ok (.iinc 2 1, 3) := by decide +kernel
theorem dX9_drops_48 : decode cX9_drops 48 = .ok (.goto (-25), 3) := by decide +kernel
theorem dX9_drops_51 : decode cX9_drops 51 = .ok (.aload_n 0, 1) := by decide +kernel
theorem dX9_drops_52 : decode cX9_drops 52 = .ok (.getfield 9, 3) := by decide +kernel
theorem dX9_drops_55 : decode cX9_drops 55 = .ok (.iconst 0, 1) := by decide +kernel
theorem dX9_drops_56 : decode cX9_drops 56 = .ok (.dup2, 1) := by decide +kernel
theorem dX9_drops_57 : decode cX9_drops 57 = .ok (.laload, 1) := by decide +kernel
theorem dX9_drops_58 : decode cX9_drops 58 = .ok (.lconst 1, 1) := by decide +kernel
theorem dX9_drops_59 : decode cX9_drops 59 = .ok (.lsub, 1) := by decide +kernel
theorem dX9_drops_60 : decode cX9_drops 60 = .ok (.lastore, 1) := by decide +kernel
theorem dX9_drops_61 : decode cX9_drops 61 = .ok (.aload_n 0, 1) := by decide +kernel
theorem dX9_drops_62 : decode cX9_drops 62 = .ok (.invokevirtual 246, 3) := by decide +kernel
theorem dX9_drops_65 : decode cX9_drops 65 = .ok (.ireturn, 1) := by decide +kernel
abbrev mm_X9_drops : ab_M := (RX9, 3, (some .int), false, 2, 46, none)
noncomputable def f_X9_drops_L23 (k51 : Int → ab_H → Option (Int × ab_H)) : Nat → Int → Int → ab_H → Option (Int × ab_H)
  | 0, _, _, _ => none
  | n + 1, v0, v2, h =>
    if (384 : Int) ≤ v2 then
      k51 v0 h
    else
    (ab_get h 10 1 v0).bind fun t1 =>
    (ab_get h 10 1 v0).bind fun t2 =>
    (ab_ald h 12 t2 (ab_w32 (v2 + (32 : Int)))).bind fun t3 =>
    (ab_ast h 12 t1 v2 t3).bind fun h1 =>
    f_X9_drops_L23 k51 n v0 (ab_w32 (v2 + (1 : Int))) h1
set_option maxRecDepth 20000 in
theorem e_X9_drops_L23 {k51 : Int → ab_H → Option (Int × ab_H)} (hk51 : ∀ (v0 : Int) (h : ab_H) (q : Int × ab_H), k51 v0 h = some q → ab_E mm_X9_drops cX9_drops 51 [some (ab_R v0), none, none] [] h (some (ab_I q.1)) q.2) : ∀ (n : Nat) (v0 : Int) (v2 : Int) (h : ab_H) (q : Int × ab_H), f_X9_drops_L23 k51 n v0 v2 h = some q → ab_E mm_X9_drops cX9_drops 23 [some (ab_R v0), none, some (ab_I v2)] [] h (some (ab_I q.1)) q.2 := by
  intro n
  induction n with
  | zero => intro v0 v2 h q hk; cases hk
  | succ n ih =>
    intro v0 v2 h q hk
    unfold f_X9_drops_L23 at hk
    refine ab_iload_n (pc := 23) (i := 2) dX9_drops_23 rfl rfl ?_
    refine ab_sipush (pc := 24) dX9_drops_24 ab_p16_384 ab_k_384 ?_
    refine ab_icmp_ge (pc := 27) (tgt := 51) dX9_drops_27 rfl (fun hc => ?_) (fun hc => ?_)
    · have hk := ab_ifp hk hc
      refine ab_sub_ (lv2 := [some (ab_R v0), none, none]) (ab_ss (ab_sn (ab_sn ab_s0))) ?_
      exact hk51 _ _ _ hk
    · have hk := ab_ifn hk hc
      refine ab_aload_n (pc := 30) (i := 0) dX9_drops_30 rfl rfl ?_
      obtain ⟨t1, ht1, hk⟩ := ab_bnd hk
      refine ab_getR (pc := 31) dX9_drops_31 fl_RX9_9 ht1 ?_
      refine ab_iload_n (pc := 34) (i := 2) dX9_drops_34 rfl rfl ?_
      refine ab_aload_n (pc := 35) (i := 0) dX9_drops_35 rfl rfl ?_
      obtain ⟨t2, ht2, hk⟩ := ab_bnd hk
      refine ab_getR (pc := 36) dX9_drops_36 fl_RX9_9 ht2 ?_
      refine ab_iload_n (pc := 39) (i := 2) dX9_drops_39 rfl rfl ?_
      refine ab_bipush (pc := 40) dX9_drops_40 ab_p8_32 ab_k_32 ?_
      refine ab_iadd (pc := 42) dX9_drops_42 ?_
      obtain ⟨t3, ht3, hk⟩ := ab_bnd hk
      refine ab_lald (pc := 43) dX9_drops_43 ht3 ?_
      obtain ⟨h1, hh1, hk⟩ := ab_bnd hk
      refine ab_last (pc := 44) dX9_drops_44 hh1 ?_
      refine ab_iinc (pc := 45) (i := 2) (lv2 := [some (ab_R v0), none, some (ab_I (ab_w32 (v2 + (1 : Int))))]) dX9_drops_45 rfl (Nat.le_of_ble_eq_true rfl) rfl rfl ?_
      refine ab_goto (pc := 48) (tgt := 23) dX9_drops_48 rfl ?_
      refine ab_sub_ (lv2 := [some (ab_R v0), none, some (ab_I (ab_w32 (v2 + (1 : Int))))]) (ab_ss (ab_sn (ab_ss ab_s0))) ?_
      exact ih _ _ _ _ hk
noncomputable def f_X9_drops (a0 : Int) (a1 : Int) (h : ab_H) : Option (Int × ab_H) :=
  (ab_on h 10 a0 (f_X9_isString a0 a1 h)).bind fun q1 =>
  if q1.1 = (0 : Int) then
    some ((-2 : Int), q1.2)
  else
  (ab_on q1.2 10 a0 (f_X9_keeps a0 q1.2)).bind fun q2 =>
  f_X9_drops_L23 (fun w51_0 hx51 =>
    (ab_get hx51 10 1 w51_0).bind fun t3 =>
    (ab_ald hx51 12 t3 (0 : Int)).bind fun t4 =>
    (ab_ast hx51 12 t3 (0 : Int) (ab_w64 (t4 - (1 : Int)))).bind fun h1 =>
    (ab_on h1 10 w51_0 (f_X9_strings w51_0 h1)).bind fun q5 =>
    some (q5.1, q5.2)) ab_FU a0 (ab_w32 ((32 : Int) + (ab_w32 ((32 : Int) * a1)))) q2
set_option maxRecDepth 20000 in
theorem ct_X9_drops {a0 a1 : Int} {h : ab_H} {q : Int × ab_H} (hk : f_X9_drops a0 a1 h = some q) : ab_CT yX9_drops cX9_drops 3 (some .int) 2 46 [ab_R a0, ab_I a1] h (some (ab_I q.1)) q.2 := by
  refine ab_CT.mk_ 1 (own := RX9) (ini := false) (lv := [some (ab_R a0), some (ab_I a1), none]) rfl (by decide +kernel) (fun q => by cases q) rfl rfl ?_
  unfold f_X9_drops at hk
  show ab_E mm_X9_drops cX9_drops 0 _ [] h _ _
  refine ab_aload_n (pc := 0) (i := 0) dX9_drops_0 rfl rfl ?_
  refine ab_iload_n (pc := 1) (i := 1) dX9_drops_1 rfl rfl ?_
  obtain ⟨q1, hq1, hk⟩ := ab_bnd hk
  obtain ⟨hb, hq1⟩ := ab_on_some hq1
  refine ab_callVI (st := []) (as := [ab_I a1]) (b := a0) (pc := 2) dX9_drops_2 ml_RX9_323 my_X9_isString mv_X9_isString hb (ct_X9_isString hq1) ⟨Nat.le_of_ble_eq_true rfl, Nat.le_of_ble_eq_true rfl⟩ rfl (Nat.le_of_ble_eq_true rfl) rfl ?_
  refine ab_if_ne (pc := 5) (tgt := 11) dX9_drops_5 rfl (fun hc => ?_) (fun hc => ?_)
  · have hk := ab_ifn hk hc
    refine ab_aload_n (pc := 11) (i := 0) dX9_drops_11 rfl rfl ?_
    obtain ⟨q2, hq2, hk⟩ := ab_bnd hk
    obtain ⟨hb, hq2⟩ := ab_on_some hq2
    refine ab_callVV (st := []) (as := []) (b := a0) (pc := 12) dX9_drops_12 ml_RX9_249 my_X9_keeps mv_X9_keeps hb (ct_X9_keeps hq2) ⟨Nat.le_of_ble_eq_true rfl, Nat.le_of_ble_eq_true rfl⟩ rfl (Nat.le_of_ble_eq_true rfl) rfl ?_
    refine ab_bipush (pc := 15) dX9_drops_15 ab_p8_32 ab_k_32 ?_
    refine ab_bipush (pc := 17) dX9_drops_17 ab_p8_32 ab_k_32 ?_
    refine ab_iload_n (pc := 19) (i := 1) dX9_drops_19 rfl rfl ?_
    refine ab_imul (pc := 20) dX9_drops_20 ?_
    refine ab_iadd (pc := 21) dX9_drops_21 ?_
    refine ab_istore_n (pc := 22) (i := 2) (lv2 := [some (ab_R a0), some (ab_I a1), some (ab_I (ab_w32 ((32 : Int) + (ab_w32 ((32 : Int) * a1)))))]) dX9_drops_22 rfl (Nat.le_of_ble_eq_true rfl) rfl rfl ?_
    refine ab_sub_ (lv2 := [some (ab_R a0), none, some (ab_I (ab_w32 ((32 : Int) + (ab_w32 ((32 : Int) * a1)))))]) (ab_ss (ab_sn (ab_ss ab_s0))) ?_
    refine e_X9_drops_L23 (fun w51_0 hx51 q hk => ?_) _ _ _ _ _ hk
    · skip
      refine ab_aload_n (pc := 51) (i := 0) dX9_drops_51 rfl rfl ?_
      obtain ⟨t3, ht3, hk⟩ := ab_bnd hk
      refine ab_getR (pc := 52) dX9_drops_52 fl_RX9_9 ht3 ?_
      refine ab_iconst (pc := 55) dX9_drops_55 ab_k_0 ?_
      refine ab_dup2 (pc := 56) dX9_drops_56 rfl rfl ?_
      obtain ⟨t4, ht4, hk⟩ := ab_bnd hk
      refine ab_lald (pc := 57) dX9_drops_57 ht4 ?_
      refine ab_lconst (x := (1 : Int)) (pc := 58) dX9_drops_58 rfl ab_kl_1 ?_
      refine ab_lsub (pc := 59) dX9_drops_59 ?_
      obtain ⟨h1, hh1, hk⟩ := ab_bnd hk
      refine ab_last (pc := 60) dX9_drops_60 hh1 ?_
      refine ab_aload_n (pc := 61) (i := 0) dX9_drops_61 rfl rfl ?_
      obtain ⟨q5, hq5, hk⟩ := ab_bnd hk
      obtain ⟨hb, hq5⟩ := ab_on_some hq5
      refine ab_callVI (st := []) (as := []) (b := w51_0) (pc := 62) dX9_drops_62 ml_RX9_246 my_X9_strings mv_X9_strings hb (ct_X9_strings hq5) ⟨Nat.le_of_ble_eq_true rfl, Nat.le_of_ble_eq_true rfl⟩ rfl (Nat.le_of_ble_eq_true rfl) rfl ?_
      obtain rfl := Option.some.inj hk
      exact ab_reti (pc := 65) dX9_drops_65 (Or.inl rfl)
  · have hk := ab_ifp hk hc
    refine ab_bipush (pc := 8) dX9_drops_8 ab_p8_m2 ab_k_m2 ?_
    obtain rfl := Option.some.inj hk
    exact ab_reti (pc := 10) dX9_drops_10 (Or.inl rfl)
theorem dX9_law_0 : decode cX9_law 0 = .ok (.iload_n 1, 1) := by decide +kernel
theorem dX9_law_1 : decode cX9_law 1 = .ok (.i2l, 1) := by decide +kernel
theorem dX9_law_2 : decode cX9_law 2 = .ok (.lconst 0, 1) := by decide +kernel
theorem dX9_law_3 : decode cX9_law 3 = .ok (.ldc2_w 349, 3) := by decide +kernel
theorem dX9_law_6 : decode cX9_law 6 = .ok (.invokestatic 84, 3) := by decide +kernel
theorem dX9_law_9 : decode cX9_law 9 = .ok (.ifCond .eq 15, 3) := by decide +kernel
theorem dX9_law_12 : decode cX9_law 12 = .ok (.iload_n 2, 1) := by decide +kernel
theorem dX9_law_13 : decode cX9_law 13 = .ok (.i2l, 1) := by decide +kernel
theorem dX9_law_14 : decode cX9_law 14 = .ok (.lconst 0, 1) := by decide +kernel
theorem dX9_law_15 : decode cX9_law 15 = .ok (.ldc2_w 438, 3) := by decide +kernel
theorem dX9_law_18 : decode cX9_law 18 = .ok (.invokestatic 84, 3) := by decide +kernel
theorem dX9_law_21 : decode cX9_law 21 = .ok (.ifCond .ne 6, 3) := by decide +kernel
theorem dX9_law_24 : decode cX9_law 24 = .ok (.bipush (-2), 2) := by decide +kernel
theorem dX9_law_26 : decode cX9_law 26 = .ok (.ireturn, 1) := by decide +kernel
theorem dX9_law_27 : decode cX9_law 27 = .ok (.aload_n 0, 1) := by decide +kernel
theorem dX9_law_28 : decode cX9_law 28 = .ok (.getfield 9, 3) := by decide +kernel
theorem dX9_law_31 : decode cX9_law 31 = .ok (.iconst 2, 1) := by decide +kernel
theorem dX9_law_32 : decode cX9_law 32 = .ok (.iload_n 1, 1) := by decide +kernel
theorem dX9_law_33 : decode cX9_law 33 = .ok (.iadd, 1) := by decide +kernel
theorem dX9_law_34 : decode cX9_law 34 = .ok (.laload, 1) := by decide +kernel
theorem dX9_law_35 : decode cX9_law 35 = .ok (.l2i, 1) := by decide +kernel
theorem dX9_law_36 : decode cX9_law 36 = .ok (.istore_n 3, 1) := by decide +kernel
theorem dX9_law_37 : decode cX9_law 37 = .ok (.iload_n 3, 1) := by decide +kernel
theorem dX9_law_38 : decode cX9_law 38 = .ok (.iload_n 2, 1) := by decide +kernel
theorem dX9_law_39 : decode cX9_law 39 = .ok (.if_icmp .ne 5, 3) := by decide +kernel
theorem dX9_law_42 : decode cX9_law 42 = .ok (.iload_n 3, 1) := by decide +kernel
theorem dX9_law_43 : decode cX9_law 43 = .ok (.ireturn, 1) := by decide +kernel
theorem dX9_law_44 : decode cX9_law 44 = .ok (.aload_n 0, 1) := by decide +kernel
theorem dX9_law_45 : decode cX9_law 45 = .ok (.invokevirtual 249, 3) := by decide +kernel
theorem dX9_law_48 : decode cX9_law 48 = .ok (.aload_n 0, 1) := by decide +kernel
theorem dX9_law_49 : decode cX9_law 49 = .ok (.getfield 9, 3) := by decide +kernel
theorem dX9_law_52 : decode cX9_law 52 = .ok (.iconst 2, 1) := by decide +kernel
theorem dX9_law_53 : decode cX9_law 53 = .ok (.iload_n 1, 1) := by decide +kernel
theorem dX9_law_54 : decode cX9_law 54 = .ok (.iadd, 1) := by decide +kernel
theorem dX9_law_55 : decode cX9_law 55 = .ok (.iload_n 2, 1) := by decide +kernel
theorem dX9_law_56 : decode cX9_law 56 = .ok (.i2l, 1) := by decide +kernel
theorem dX9_law_57 : decode cX9_law 57 = .ok (.lastore, 1) := by decide +kernel
theorem dX9_law_58 : decode cX9_law 58 = .ok (.iload_n 3, 1) := by decide +kernel
theorem dX9_law_59 : decode cX9_law 59 = .ok (.ireturn, 1) := by decide +kernel
abbrev mm_X9_law : ab_M := (RX9, 4, (some .int), false, 1, 25, none)
noncomputable def f_X9_law (a0 : Int) (a1 : Int) (a2 : Int) (h : ab_H) : Option (Int × ab_H) :=
  (f_X9_in a1 (0 : Int) (5 : Int) h).bind fun q1 =>
  if q1.1 = (0 : Int) then
    some ((-2 : Int), q1.2)
  else
  (f_X9_in a2 (0 : Int) (2 : Int) q1.2).bind fun q2 =>
  if q2.1 = (0 : Int) then
    some ((-2 : Int), q2.2)
  else
  (ab_get q2.2 10 1 a0).bind fun t3 =>
  (ab_ald q2.2 12 t3 (ab_w32 ((2 : Int) + a1))).bind fun t4 =>
  if ab_w32 t4 = a2 then
    some (ab_w32 t4, q2.2)
  else
  (ab_on q2.2 10 a0 (f_X9_keeps a0 q2.2)).bind fun q5 =>
  (ab_get q5 10 1 a0).bind fun t6 =>
  (ab_ast q5 12 t6 (ab_w32 ((2 : Int) + a1)) a2).bind fun h1 =>
  some (ab_w32 t4, h1)
set_option maxRecDepth 20000 in
theorem ct_X9_law {a0 a1 a2 : Int} {h : ab_H} {q : Int × ab_H} (hk : f_X9_law a0 a1 a2 h = some q) : ab_CT yX9_law cX9_law 4 (some .int) 1 25 [ab_R a0, ab_I a1, ab_I a2] h (some (ab_I q.1)) q.2 := by
  refine ab_CT.mk_ 1 (own := RX9) (ini := false) (lv := [some (ab_R a0), some (ab_I a1), some (ab_I a2), none]) rfl (by decide +kernel) (fun q => by cases q) rfl rfl ?_
  unfold f_X9_law at hk
  show ab_E mm_X9_law cX9_law 0 _ [] h _ _
  refine ab_iload_n (pc := 0) (i := 1) dX9_law_0 rfl rfl ?_
  refine ab_i2l_ (pc := 1) dX9_law_1 ?_
  refine ab_lconst (x := (0 : Int)) (pc := 2) dX9_law_2 rfl ab_kl_0 ?_
  refine ab_ldc2 (x := (5 : Int)) (pc := 3) dX9_law_3 ab_ld2_RX9_349 ab_kl_5 ?_
  obtain ⟨q1, hq1, hk⟩ := ab_bnd hk
  refine ab_callSI (st := []) (as := [ab_J a1, ab_J (0 : Int), ab_J (5 : Int)]) (pc := 6) dX9_law_6 ml_RX9_84 my_X9_in ms_X9_in (ct_X9_in hq1) ⟨Nat.le_of_ble_eq_true rfl, Nat.le_of_ble_eq_true rfl⟩ rfl (Nat.le_of_ble_eq_true rfl) rfl ?_
  refine ab_if_eq (pc := 9) (tgt := 24) dX9_law_9 rfl (fun hc => ?_) (fun hc => ?_)
  · have hk := ab_ifp hk hc
    refine ab_bipush (pc := 24) dX9_law_24 ab_p8_m2 ab_k_m2 ?_
    obtain rfl := Option.some.inj hk
    exact ab_reti (pc := 26) dX9_law_26 (Or.inl rfl)
  · have hk := ab_ifn hk hc
    refine ab_iload_n (pc := 12) (i := 2) dX9_law_12 rfl rfl ?_
    refine ab_i2l_ (pc := 13) dX9_law_13 ?_
    refine ab_lconst (x := (0 : Int)) (pc := 14) dX9_law_14 rfl ab_kl_0 ?_
    refine ab_ldc2 (x := (2 : Int)) (pc := 15) dX9_law_15 ab_ld2_RX9_438 ab_kl_2 ?_
    obtain ⟨q2, hq2, hk⟩ := ab_bnd hk
    refine ab_callSI (st := []) (as := [ab_J a2, ab_J (0 : Int), ab_J (2 : Int)]) (pc := 18) dX9_law_18 ml_RX9_84 my_X9_in ms_X9_in (ct_X9_in hq2) ⟨Nat.le_of_ble_eq_true rfl, Nat.le_of_ble_eq_true rfl⟩ rfl (Nat.le_of_ble_eq_true rfl) rfl ?_
    refine ab_if_ne (pc := 21) (tgt := 27) dX9_law_21 rfl (fun hc => ?_) (fun hc => ?_)
    · have hk := ab_ifn hk hc
      refine ab_aload_n (pc := 27) (i := 0) dX9_law_27 rfl rfl ?_
      obtain ⟨t3, ht3, hk⟩ := ab_bnd hk
      refine ab_getR (pc := 28) dX9_law_28 fl_RX9_9 ht3 ?_
      refine ab_iconst (pc := 31) dX9_law_31 ab_k_2 ?_
      refine ab_iload_n (pc := 32) (i := 1) dX9_law_32 rfl rfl ?_
      refine ab_iadd (pc := 33) dX9_law_33 ?_
      obtain ⟨t4, ht4, hk⟩ := ab_bnd hk
      refine ab_lald (pc := 34) dX9_law_34 ht4 ?_
      refine ab_l2i_ (pc := 35) dX9_law_35 ?_
      refine ab_istore_n (pc := 36) (i := 3) (lv2 := [some (ab_R a0), some (ab_I a1), some (ab_I a2), some (ab_I (ab_w32 t4))]) dX9_law_36 rfl (Nat.le_of_ble_eq_true rfl) rfl rfl ?_
      refine ab_iload_n (pc := 37) (i := 3) dX9_law_37 rfl rfl ?_
      refine ab_iload_n (pc := 38) (i := 2) dX9_law_38 rfl rfl ?_
      refine ab_icmp_ne (pc := 39) (tgt := 44) dX9_law_39 rfl (fun hc => ?_) (fun hc => ?_)
      · have hk := ab_ifn hk hc
        refine ab_aload_n (pc := 44) (i := 0) dX9_law_44 rfl rfl ?_
        obtain ⟨q5, hq5, hk⟩ := ab_bnd hk
        obtain ⟨hb, hq5⟩ := ab_on_some hq5
        refine ab_callVV (st := []) (as := []) (b := a0) (pc := 45) dX9_law_45 ml_RX9_249 my_X9_keeps mv_X9_keeps hb (ct_X9_keeps hq5) ⟨Nat.le_of_ble_eq_true rfl, Nat.le_of_ble_eq_true rfl⟩ rfl (Nat.le_of_ble_eq_true rfl) rfl ?_
        refine ab_aload_n (pc := 48) (i := 0) dX9_law_48 rfl rfl ?_
        obtain ⟨t6, ht6, hk⟩ := ab_bnd hk
        refine ab_getR (pc := 49) dX9_law_49 fl_RX9_9 ht6 ?_
        refine ab_iconst (pc := 52) dX9_law_52 ab_k_2 ?_
        refine ab_iload_n (pc := 53) (i := 1) dX9_law_53 rfl rfl ?_
        refine ab_iadd (pc := 54) dX9_law_54 ?_
        refine ab_iload_n (pc := 55) (i := 2) dX9_law_55 rfl rfl ?_
        refine ab_i2l_ (pc := 56) dX9_law_56 ?_
        obtain ⟨h1, hh1, hk⟩ := ab_bnd hk
        refine ab_last (pc := 57) dX9_law_57 hh1 ?_
        refine ab_iload_n (pc := 58) (i := 3) dX9_law_58 rfl rfl ?_
        obtain rfl := Option.some.inj hk
        exact ab_reti (pc := 59) dX9_law_59 (Or.inl rfl)
      · have hk := ab_ifp hk hc
        refine ab_iload_n (pc := 42) (i := 3) dX9_law_42 rfl rfl ?_
        obtain rfl := Option.some.inj hk
        exact ab_reti (pc := 43) dX9_law_43 (Or.inl rfl)
    · have hk := ab_ifp hk hc
      refine ab_bipush (pc := 24) dX9_law_24 ab_p8_m2 ab_k_m2 ?_
      obtain rfl := Option.some.inj hk
      exact ab_reti (pc := 26) dX9_law_26 (Or.inl rfl)
theorem dX9_lead_0 : decode cX9_lead 0 = .ok (.aload_n 0, 1) := by decide +kernel
theorem dX9_lead_1 : decode cX9_lead 1 = .ok (.iload_n 1, 1) := by decide +kernel
theorem dX9_lead_2 : decode cX9_lead 2 = .ok (.iload_n 2, 1) := by decide +kernel
theorem dX9_lead_3 : decode cX9_lead 3 = .ok (.invokevirtual 340, 3) := by decide +kernel
theorem dX9_lead_6 : decode cX9_lead 6 = .ok (.ifCond .eq 13, 3) := by decide +kernel
theorem dX9_lead_9 : decode cX9_lead 9 = .ok (.iload_n 3, 1) := by decide +kernel
theorem dX9_lead_10 : decode cX9_lead 10 = .ok (.i2l, 1) := by decide +kernel
theorem dX9_lead_11 : decode cX9_lead 11 = .ok (.lconst 0, 1) := by decide +kernel
theorem dX9_lead_12 : decode cX9_lead 12 = .ok (.lconst 1, 1) := by decide +kernel
theorem dX9_lead_13 : decode cX9_lead 13 = .ok (.invokestatic 84, 3) := by decide +kernel
theorem dX9_lead_16 : decode cX9_lead 16 = .ok (.ifCond .ne 6, 3) := by decide +kernel
theorem dX9_lead_19 : decode cX9_lead 19 = .ok (.bipush (-2), 2) := by decide +kernel
theorem dX9_lead_21 : decode cX9_lead 21 = .ok (.ireturn, 1) := by decide +kernel
theorem dX9_lead_22 : decode cX9_lead 22 = .ok (.aload_n 0, 1) := by decide +kernel
theorem dX9_lead_23 : decode cX9_lead 23 = .ok (.iload_n 1, 1) := by decide +kernel
theorem dX9_lead_24 : decode cX9_lead 24 = .ok (.iload_n 2, 1) := by decide +kernel
theorem dX9_lead_25 : decode cX9_lead 25 = .ok (.invokevirtual 290, 3) := by decide +kernel
theorem dX9_lead_28 : decode cX9_lead 28 = .ok (.ifCond .eq 7, 3) := by decide +kernel
theorem dX9_lead_31 : decode cX9_lead 31 = .ok (.iconst 1, 1) := by decide +kernel
theorem dX9_lead_32 : decode cX9_lead 32 = .ok (.goto 4, 3) := by decide +kernel
theorem dX9_lead_35 : decode cX9_lead 35 = .ok (.iconst 0, 1) := by decide +kernel
theorem dX9_lead_36 : decode cX9_lead 36 = .ok (.istore 4, 2) := by decide +kernel
theorem dX9_lead_38 : decode cX9_lead 38 = .ok (.iload 4, 2) := by decide +kernel
theorem dX9_lead_40 : decode cX9_lead 40 = .ok (.iload_n 3, 1) := by decide +kernel
theorem dX9_lead_41 : decode cX9_lead 41 = .ok (.if_icmp .ne 6, 3) := by decide +kernel
theorem dX9_lead_44 : decode cX9_lead 44 = .ok (.iload 4, 2) := by decide +kernel
theorem dX9_lead_46 : decode cX9_lead 46 = .ok (.ireturn, 1) := by decide +kernel
theorem dX9_lead_47 : decode cX9_lead 47 = .ok (.aload_n 0, 1) := by decide +kernel
theorem dX9_lead_48 : decode cX9_lead 48 = .ok (.invokevirtual 249, 3) := by decide +kernel
theorem dX9_lead_51 : decode cX9_lead 51 = .ok (.aload_n 0, 1) := by decide +kernel
theorem dX9_lead_52 : decode cX9_lead 52 = .ok (.getfield 9, 3) := by decide +kernel
theorem dX9_lead_55 : decode cX9_lead 55 = .ok (.iload_n 1, 1) := by decide +kernel
theorem dX9_lead_56 : decode cX9_lead 56 = .ok (.iload_n 2, 1) := by decide +kernel
theorem dX9_lead_57 : decode cX9_lead 57 = .ok (.invokestatic 73, 3) := by decide +kernel
theorem dX9_lead_60 : decode cX9_lead 60 = .ok (.iconst 1, 1) := by decide +kernel
theorem dX9_lead_61 : decode cX9_lead 61 = .ok (.iadd, 1) := by decide +kernel
theorem dX9_lead_62 : decode cX9_lead 62 = .ok (.iload_n 3, 1) := by decide +kernel
theorem dX9_lead_63 : decode cX9_lead 63 = .ok (.i2l, 1) := by decide +kernel
theorem dX9_lead_64 : decode cX9_lead 64 = .ok (.lastore, 1) := by decide +kernel
theorem dX9_lead_65 : decode cX9_lead 65 = .ok (.iload 4, 2) := by decide +kernel
theorem dX9_lead_67 : decode cX9_lead 67 = .ok (.ireturn, 1) := by decide +kernel
abbrev mm_X9_lead : ab_M := (RX9, 5, (some .int), false, 3, 68, none)
noncomputable def f_X9_lead_J36 (v0 : Int) (v1 : Int) (v2 : Int) (v3 : Int) (s0 : Int) (h : ab_H) : Option (Int × ab_H) :=
  if s0 = v3 then
    some (s0, h)
  else
  (ab_on h 10 v0 (f_X9_keeps v0 h)).bind fun q1 =>
  (ab_get q1 10 1 v0).bind fun t2 =>
  (f_X9_termAt v1 v2 q1).bind fun q3 =>
  (ab_ast q3.2 12 t2 (ab_w32 (q3.1 + (1 : Int))) v3).bind fun h1 =>
  some (s0, h1)
set_option maxRecDepth 20000 in
theorem e_X9_lead_J36 : ∀ (v0 : Int) (v1 : Int) (v2 : Int) (v3 : Int) (s0 : Int) (h : ab_H) (q : Int × ab_H), f_X9_lead_J36 v0 v1 v2 v3 s0 h = some q → ab_E mm_X9_lead cX9_lead 36 [some (ab_R v0), some (ab_I v1), some (ab_I v2), some (ab_I v3), none] [ab_I s0] h (some (ab_I q.1)) q.2 := by
  intro v0 v1 v2 v3 s0 h q hk
  unfold f_X9_lead_J36 at hk
  refine ab_istore (pc := 36) (i := 4) (lv2 := [some (ab_R v0), some (ab_I v1), some (ab_I v2), some (ab_I v3), some (ab_I s0)]) dX9_lead_36 (Nat.le_of_ble_eq_true rfl) rfl rfl ?_
  refine ab_iload (pc := 38) (i := 4) dX9_lead_38 rfl ?_
  refine ab_iload_n (pc := 40) (i := 3) dX9_lead_40 rfl rfl ?_
  refine ab_icmp_ne (pc := 41) (tgt := 47) dX9_lead_41 rfl (fun hc => ?_) (fun hc => ?_)
  · have hk := ab_ifn hk hc
    refine ab_aload_n (pc := 47) (i := 0) dX9_lead_47 rfl rfl ?_
    obtain ⟨q1, hq1, hk⟩ := ab_bnd hk
    obtain ⟨hb, hq1⟩ := ab_on_some hq1
    refine ab_callVV (st := []) (as := []) (b := v0) (pc := 48) dX9_lead_48 ml_RX9_249 my_X9_keeps mv_X9_keeps hb (ct_X9_keeps hq1) ⟨Nat.le_of_ble_eq_true rfl, Nat.le_of_ble_eq_true rfl⟩ rfl (Nat.le_of_ble_eq_true rfl) rfl ?_
    refine ab_aload_n (pc := 51) (i := 0) dX9_lead_51 rfl rfl ?_
    obtain ⟨t2, ht2, hk⟩ := ab_bnd hk
    refine ab_getR (pc := 52) dX9_lead_52 fl_RX9_9 ht2 ?_
    refine ab_iload_n (pc := 55) (i := 1) dX9_lead_55 rfl rfl ?_
    refine ab_iload_n (pc := 56) (i := 2) dX9_lead_56 rfl rfl ?_
    obtain ⟨q3, hq3, hk⟩ := ab_bnd hk
    refine ab_callSI (st := [ab_R t2]) (as := [ab_I v1, ab_I v2]) (pc := 57) dX9_lead_57 ml_RX9_73 my_X9_termAt ms_X9_termAt (ct_X9_termAt hq3) ⟨Nat.le_of_ble_eq_true rfl, Nat.le_of_ble_eq_true rfl⟩ rfl (Nat.le_of_ble_eq_true rfl) rfl ?_
    refine ab_iconst (pc := 60) dX9_lead_60 ab_k_1 ?_
    refine ab_iadd (pc := 61) dX9_lead_61 ?_
    refine ab_iload_n (pc := 62) (i := 3) dX9_lead_62 rfl rfl ?_
    refine ab_i2l_ (pc := 63) dX9_lead_63 ?_
    obtain ⟨h1, hh1, hk⟩ := ab_bnd hk
    refine ab_last (pc := 64) dX9_lead_64 hh1 ?_
    refine ab_iload (pc := 65) (i := 4) dX9_lead_65 rfl ?_
    obtain rfl := Option.some.inj hk
    exact ab_reti (pc := 67) dX9_lead_67 (Or.inl rfl)
  · have hk := ab_ifp hk hc
    refine ab_iload (pc := 44) (i := 4) dX9_lead_44 rfl ?_
    obtain rfl := Option.some.inj hk
    exact ab_reti (pc := 46) dX9_lead_46 (Or.inl rfl)
noncomputable def f_X9_lead (a0 : Int) (a1 : Int) (a2 : Int) (a3 : Int) (h : ab_H) : Option (Int × ab_H) :=
  (ab_on h 10 a0 (f_X9_isTerm a0 a1 a2 h)).bind fun q1 =>
  if q1.1 = (0 : Int) then
    some ((-2 : Int), q1.2)
  else
  (f_X9_in a3 (0 : Int) (1 : Int) q1.2).bind fun q2 =>
  if q2.1 = (0 : Int) then
    some ((-2 : Int), q2.2)
  else
  (ab_on q2.2 10 a0 (f_X9_doesLead a0 a1 a2 q2.2)).bind fun q3 =>
  if q3.1 = (0 : Int) then
    f_X9_lead_J36 a0 a1 a2 a3 (0 : Int) q3.2
  else
  f_X9_lead_J36 a0 a1 a2 a3 (1 : Int) q3.2
set_option maxRecDepth 20000 in
theorem ct_X9_lead {a0 a1 a2 a3 : Int} {h : ab_H} {q : Int × ab_H} (hk : f_X9_lead a0 a1 a2 a3 h = some q) : ab_CT yX9_lead cX9_lead 5 (some .int) 3 68 [ab_R a0, ab_I a1, ab_I a2, ab_I a3] h (some (ab_I q.1)) q.2 := by
  refine ab_CT.mk_ 1 (own := RX9) (ini := false) (lv := [some (ab_R a0), some (ab_I a1), some (ab_I a2), some (ab_I a3), none]) rfl (by decide +kernel) (fun q => by cases q) rfl rfl ?_
  unfold f_X9_lead at hk
  show ab_E mm_X9_lead cX9_lead 0 _ [] h _ _
  refine ab_aload_n (pc := 0) (i := 0) dX9_lead_0 rfl rfl ?_
  refine ab_iload_n (pc := 1) (i := 1) dX9_lead_1 rfl rfl ?_
  refine ab_iload_n (pc := 2) (i := 2) dX9_lead_2 rfl rfl ?_
  obtain ⟨q1, hq1, hk⟩ := ab_bnd hk
  obtain ⟨hb, hq1⟩ := ab_on_some hq1
  refine ab_callVI (st := []) (as := [ab_I a1, ab_I a2]) (b := a0) (pc := 3) dX9_lead_3 ml_RX9_340 my_X9_isTerm mv_X9_isTerm hb (ct_X9_isTerm hq1) ⟨Nat.le_of_ble_eq_true rfl, Nat.le_of_ble_eq_true rfl⟩ rfl (Nat.le_of_ble_eq_true rfl) rfl ?_
  refine ab_if_eq (pc := 6) (tgt := 19) dX9_lead_6 rfl (fun hc => ?_) (fun hc => ?_)
  · have hk := ab_ifp hk hc
    refine ab_bipush (pc := 19) dX9_lead_19 ab_p8_m2 ab_k_m2 ?_
    obtain rfl := Option.some.inj hk
    exact ab_reti (pc := 21) dX9_lead_21 (Or.inl rfl)
  · have hk := ab_ifn hk hc
    refine ab_iload_n (pc := 9) (i := 3) dX9_lead_9 rfl rfl ?_
    refine ab_i2l_ (pc := 10) dX9_lead_10 ?_
    refine ab_lconst (x := (0 : Int)) (pc := 11) dX9_lead_11 rfl ab_kl_0 ?_
    refine ab_lconst (x := (1 : Int)) (pc := 12) dX9_lead_12 rfl ab_kl_1 ?_
    obtain ⟨q2, hq2, hk⟩ := ab_bnd hk
    refine ab_callSI (st := []) (as := [ab_J a3, ab_J (0 : Int), ab_J (1 : Int)]) (pc := 13) dX9_lead_13 ml_RX9_84 my_X9_in ms_X9_in (ct_X9_in hq2) ⟨Nat.le_of_ble_eq_true rfl, Nat.le_of_ble_eq_true rfl⟩ rfl (Nat.le_of_ble_eq_true rfl) rfl ?_
    refine ab_if_ne (pc := 16) (tgt := 22) dX9_lead_16 rfl (fun hc => ?_) (fun hc => ?_)
    · have hk := ab_ifn hk hc
      refine ab_aload_n (pc := 22) (i := 0) dX9_lead_22 rfl rfl ?_
      refine ab_iload_n (pc := 23) (i := 1) dX9_lead_23 rfl rfl ?_
      refine ab_iload_n (pc := 24) (i := 2) dX9_lead_24 rfl rfl ?_
      obtain ⟨q3, hq3, hk⟩ := ab_bnd hk
      obtain ⟨hb, hq3⟩ := ab_on_some hq3
      refine ab_callVI (st := []) (as := [ab_I a1, ab_I a2]) (b := a0) (pc := 25) dX9_lead_25 ml_RX9_290 my_X9_doesLead mv_X9_doesLead hb (ct_X9_doesLead hq3) ⟨Nat.le_of_ble_eq_true rfl, Nat.le_of_ble_eq_true rfl⟩ rfl (Nat.le_of_ble_eq_true rfl) rfl ?_
      refine ab_if_eq (pc := 28) (tgt := 35) dX9_lead_28 rfl (fun hc => ?_) (fun hc => ?_)
      · have hk := ab_ifp hk hc
        refine ab_iconst (pc := 35) dX9_lead_35 ab_k_0 ?_
        refine ab_sub_ (lv2 := [some (ab_R a0), some (ab_I a1), some (ab_I a2), some (ab_I a3), none]) (ab_ss (ab_ss (ab_ss (ab_ss (ab_sn ab_s0))))) ?_
        exact e_X9_lead_J36 _ _ _ _ _ _ _ hk
      · have hk := ab_ifn hk hc
        refine ab_iconst (pc := 31) dX9_lead_31 ab_k_1 ?_
        refine ab_goto (pc := 32) (tgt := 36) dX9_lead_32 rfl ?_
        refine ab_sub_ (lv2 := [some (ab_R a0), some (ab_I a1), some (ab_I a2), some (ab_I a3), none]) (ab_ss (ab_ss (ab_ss (ab_ss (ab_sn ab_s0))))) ?_
        exact e_X9_lead_J36 _ _ _ _ _ _ _ hk
    · have hk := ab_ifp hk hc
      refine ab_bipush (pc := 19) dX9_lead_19 ab_p8_m2 ab_k_m2 ?_
      obtain rfl := Option.some.inj hk
      exact ab_reti (pc := 21) dX9_lead_21 (Or.inl rfl)
theorem dX9_roleIf_0 : decode cX9_roleIf 0 = .ok (.aload_n 0, 1) := by decide +kernel
theorem dX9_roleIf_1 : decode cX9_roleIf 1 = .ok (.iload_n 1, 1) := by decide +kernel
theorem dX9_roleIf_2 : decode cX9_roleIf 2 = .ok (.iload_n 2, 1) := by decide +kernel
theorem dX9_roleIf_3 : decode cX9_roleIf 3 = .ok (.iload_n 3, 1) := by decide +kernel
theorem dX9_roleIf_4 : decode cX9_roleIf 4 = .ok (.if_icmp .ne 8, 3) := by decide +kernel
theorem dX9_roleIf_7 : decode cX9_roleIf 7 = .ok (.iload 4, 2) := by decide +kernel
theorem dX9_roleIf_9 : decode cX9_roleIf 9 = .ok (.goto 14, 3) := by decide +kernel
theorem dX9_roleIf_12 : decode cX9_roleIf 12 = .ok (.iload_n 2, 1) := by decide +kernel
theorem dX9_roleIf_13 : decode cX9_roleIf 13 = .ok (.iload 4, 2) := by decide +kernel
theorem dX9_roleIf_15 : decode cX9_roleIf 15 = .ok (.if_icmp .ne 7, 3) := by decide +kernel
theorem dX9_roleIf_18 : decode cX9_roleIf 18 = .ok (.iload_n 3, 1) := by decide +kernel
theorem dX9_roleIf_19 : decode cX9_roleIf 19 = .ok (.goto 4, 3) := by decide +kernel
theorem dX9_roleIf_22 : decode cX9_roleIf 22 = .ok (.iload_n 2, 1) := by decide +kernel
theorem dX9_roleIf_23 : decode cX9_roleIf 23 = .ok (.invokevirtual 294, 3) := by decide +kernel
theorem dX9_roleIf_26 : decode cX9_roleIf 26 = .ok (.ireturn, 1) := by decide +kernel
abbrev mm_X9_roleIf : ab_M := (RX9, 5, (some .int), false, 2, 43, none)
noncomputable def f_X9_roleIf_J23 (s2 : Int) (s1 : Int) (s0 : Int) (h : ab_H) : Option (Int × ab_H) :=
  (ab_on h 10 s0 (f_X9_roleOf s0 s1 s2 h)).bind fun q1 =>
  some (q1.1, q1.2)
set_option maxRecDepth 20000 in
theorem e_X9_roleIf_J23 : ∀ (s2 : Int) (s1 : Int) (s0 : Int) (h : ab_H) (q : Int × ab_H), f_X9_roleIf_J23 s2 s1 s0 h = some q → ab_E mm_X9_roleIf cX9_roleIf 23 [none, none, none, none, none] [ab_I s2, ab_I s1, ab_R s0] h (some (ab_I q.1)) q.2 := by
  intro s2 s1 s0 h q hk
  unfold f_X9_roleIf_J23 at hk
  obtain ⟨q1, hq1, hk⟩ := ab_bnd hk
  obtain ⟨hb, hq1⟩ := ab_on_some hq1
  refine ab_callVI (st := []) (as := [ab_I s1, ab_I s2]) (b := s0) (pc := 23) dX9_roleIf_23 ml_RX9_294 my_X9_roleOf mv_X9_roleOf hb (ct_X9_roleOf hq1) ⟨Nat.le_of_ble_eq_true rfl, Nat.le_of_ble_eq_true rfl⟩ rfl (Nat.le_of_ble_eq_true rfl) rfl ?_
  obtain rfl := Option.some.inj hk
  exact ab_reti (pc := 26) dX9_roleIf_26 (Or.inl rfl)
noncomputable def f_X9_roleIf (a0 : Int) (a1 : Int) (a2 : Int) (a3 : Int) (a4 : Int) (h : ab_H) : Option (Int × ab_H) :=
  if a2 = a3 then
    f_X9_roleIf_J23 a4 a1 a0 h
  else
  if a2 = a4 then
    f_X9_roleIf_J23 a3 a1 a0 h
  else
  f_X9_roleIf_J23 a2 a1 a0 h
set_option maxRecDepth 20000 in
theorem ct_X9_roleIf {a0 a1 a2 a3 a4 : Int} {h : ab_H} {q : Int × ab_H} (hk : f_X9_roleIf a0 a1 a2 a3 a4 h = some q) : ab_CT yX9_roleIf cX9_roleIf 5 (some .int) 2 43 [ab_R a0, ab_I a1, ab_I a2, ab_I a3, ab_I a4] h (some (ab_I q.1)) q.2 := by
  refine ab_CT.mk_ 0 (own := RX9) (ini := false) (lv := [some (ab_R a0), some (ab_I a1), some (ab_I a2), some (ab_I a3), some (ab_I a4)]) rfl (by decide +kernel) (fun q => by cases q) rfl rfl ?_
  unfold f_X9_roleIf at hk
  show ab_E mm_X9_roleIf cX9_roleIf 0 _ [] h _ _
  refine ab_aload_n (pc := 0) (i := 0) dX9_roleIf_0 rfl rfl ?_
  refine ab_iload_n (pc := 1) (i := 1) dX9_roleIf_1 rfl rfl ?_
  refine ab_iload_n (pc := 2) (i := 2) dX9_roleIf_2 rfl rfl ?_
  refine ab_iload_n (pc := 3) (i := 3) dX9_roleIf_3 rfl rfl ?_
  refine ab_icmp_ne (pc := 4) (tgt := 12) dX9_roleIf_4 rfl (fun hc => ?_) (fun hc => ?_)
  · have hk := ab_ifn hk hc
    refine ab_iload_n (pc := 12) (i := 2) dX9_roleIf_12 rfl rfl ?_
    refine ab_iload (pc := 13) (i := 4) dX9_roleIf_13 rfl ?_
    refine ab_icmp_ne (pc := 15) (tgt := 22) dX9_roleIf_15 rfl (fun hc => ?_) (fun hc => ?_)
    · have hk := ab_ifn hk hc
      refine ab_iload_n (pc := 22) (i := 2) dX9_roleIf_22 rfl rfl ?_
      refine ab_sub_ (lv2 := [none, none, none, none, none]) (ab_sn (ab_sn (ab_sn (ab_sn (ab_sn ab_s0))))) ?_
      exact e_X9_roleIf_J23 _ _ _ _ _ hk
    · have hk := ab_ifp hk hc
      refine ab_iload_n (pc := 18) (i := 3) dX9_roleIf_18 rfl rfl ?_
      refine ab_goto (pc := 19) (tgt := 23) dX9_roleIf_19 rfl ?_
      refine ab_sub_ (lv2 := [none, none, none, none, none]) (ab_sn (ab_sn (ab_sn (ab_sn (ab_sn ab_s0))))) ?_
      exact e_X9_roleIf_J23 _ _ _ _ _ hk
  · have hk := ab_ifp hk hc
    refine ab_iload (pc := 7) (i := 4) dX9_roleIf_7 rfl ?_
    refine ab_goto (pc := 9) (tgt := 23) dX9_roleIf_9 rfl ?_
    refine ab_sub_ (lv2 := [none, none, none, none, none]) (ab_sn (ab_sn (ab_sn (ab_sn (ab_sn ab_s0))))) ?_
    exact e_X9_roleIf_J23 _ _ _ _ _ hk
theorem dX9_swaps_0 : decode cX9_swaps 0 = .ok (.aload_n 0, 1) := by decide +kernel
theorem dX9_swaps_1 : decode cX9_swaps 1 = .ok (.iload_n 1, 1) := by decide +kernel
theorem dX9_swaps_2 : decode cX9_swaps 2 = .ok (.iload_n 2, 1) := by decide +kernel
theorem dX9_swaps_3 : decode cX9_swaps 3 = .ok (.invokevirtual 340, 3) := by decide +kernel
theorem dX9_swaps_6 : decode cX9_swaps 6 = .ok (.ifCond .eq 17, 3) := by decide +kernel
theorem dX9_swaps_9 : decode cX9_swaps 9 = .ok (.aload_n 0, 1) := by decide +kernel
theorem dX9_swaps_10 : decode cX9_swaps 10 = .ok (.iload_n 1, 1) := by decide +kernel
theorem dX9_swaps_11 : decode cX9_swaps 11 = .ok (.iload_n 3, 1) := by decide +kernel
theorem dX9_swaps_12 : decode cX9_swaps 12 = .ok (.invokevirtual 340, 3) := by decide +kernel
theorem dX9_swaps_15 : decode cX9_swaps 15 = .ok (.ifCond .eq 8, 3) := by decide +kernel
theorem dX9_swaps_18 : decode cX9_swaps 18 = .ok (.iload_n 2, 1) := by decide +kernel
theorem dX9_swaps_19 : decode cX9_swaps 19 = .ok (.iload_n 3, 1) := by decide +kernel
theorem dX9_swaps_20 : decode cX9_swaps 20 = .ok (.if_icmp .ne 6, 3) := by decide +kernel
theorem dX9_swaps_23 : decode cX9_swaps 23 = .ok (.bipush (-2), 2) := by decide +kernel
theorem dX9_swaps_25 : decode cX9_swaps 25 = .ok (.ireturn, 1) := by decide +kernel
theorem dX9_swaps_26 : decode cX9_swaps 26 = .ok (.iconst 1, 1) := by decide +kernel
theorem dX9_swaps_27 : decode cX9_swaps 27 = .ok (.istore 4, 2) := by decide +kernel
theorem dX9_swaps_29 : decode cX9_swaps 29 = .ok (.iload 4, 2) := by decide +kernel
theorem dX9_swaps_31 : decode cX9_swaps 31 = .ok (.aload_n 0, 1) := by decide +kernel
theorem dX9_swaps_32 : decode cX9_swaps 32 = .ok (.iload_n 1, 1) := by decide +kernel
theorem dX9_swaps_33 : decode cX9_swaps 33 = .ok (.invokevirtual 255, 3) := by decide +kernel
theorem dX9_swaps_36 : decode cX9_swaps 36 = .ok (.if_icmp .ge 35, 3) := by decide +kernel
theorem dX9_swaps_39 : decode cX9_swaps 39 = .ok (.aload_n 0, 1) := by decide +kernel
theorem dX9_swaps_40 : decode cX9_swaps 40 = .ok (.iload_n 1, 1) := by decide +kernel
theorem dX9_swaps_41 : decode cX9_swaps 41 = .ok (.iload 4, 2) := by decide +kernel
theorem dX9_swaps_43 : decode cX9_swaps 43 = .ok (.iload_n 2, 1) := by decide +kernel
theorem dX9_swaps_44 : decode cX9_swaps 44 = .ok (.iload_n 3, 1) := by decide +kernel
theorem dX9_swaps_45 : decode cX9_swaps 45 = .ok (.invokevirtual 446, 3) := by decide +kernel
theorem dX9_swaps_48 : decode cX9_swaps 48 = .ok (.aload_n 0, 1) := by decide +kernel
theorem dX9_swaps_49 : decode cX9_swaps 49 = .ok (.iload_n 1, 1) := by decide +kernel
theorem dX9_swaps_50 : decode cX9_swaps 50 = .ok (.iload 4, 2) := by decide +kernel
theorem dX9_swaps_52 : decode cX9_swaps 52 = .ok (.iconst 1, 1) := by decide +kernel
theorem dX9_swaps_53 : decode cX9_swaps 53 = .ok (.isub, 1) := by decide +kernel
theorem dX9_swaps_54 : decode cX9_swaps 54 = .ok (.iload_n 2, 1) := by decide +kernel
theorem dX9_swaps_55 : decode cX9_swaps 55 = .ok (.iload_n 3, 1) := by decide +kernel
theorem dX9_swaps_56 : decode cX9_swaps 56 = .ok (.invokevirtual 446, 3) := by decide +kernel
theorem dX9_swaps_59 : decode cX9_swaps 59 = .ok (.if_icmp .ge 6, 3) := by decide +kernel
theorem dX9_swaps_62 : decode cX9_swaps 62 = .ok (.bipush (-6), 2) := by decide +kernel
theorem dX9_swaps_64 : decode cX9_swaps 64 = .ok (.ireturn, 1) := by decide +kernel
theorem dX9_swaps_65 : decode cX9_swaps 65 = .ok (.iinc 4 1, 3) := by decide +kernel
theorem dX9_swaps_68 : decode cX9_swaps 68 = .ok (.goto (-39), 3) := by decide +kernel
theorem dX9_swaps_71 : decode cX9_swaps 71 = .ok (.aload_n 0, 1) := by decide +kernel
theorem dX9_swaps_72 : decode cX9_swaps 72 = .ok (.invokevirtual 249, 3) := by decide +kernel
theorem dX9_swaps_75 : decode cX9_swaps 75 = .ok (.iconst 0, 1) := by decide +kernel
theorem dX9_swaps_76 : decode cX9_swaps 76 = .ok (.istore 4, 2) := by decide +kernel
theorem dX9_swaps_78 : decode cX9_swaps 78 = .ok (.iload 4, 2) := by decide +kernel
theorem dX9_swaps_80 : decode cX9_swaps 80 = .ok (.iconst 5, 1) := by decide +kernel
theorem dX9_swaps_81 : decode cX9_swaps 81 = .ok (.if_icmp .ge 65, 3) := by decide +kernel
theorem dX9_swaps_84 : decode cX9_swaps 84 = .ok (.aload_n 0, 1) := by decide +kernel
theorem dX9_swaps_85 : decode cX9_swaps 85 = .ok (.getfield 9, 3) := by decide +kernel
theorem dX9_swaps_88 : decode cX9_swaps 88 = .ok (.iload_n 1, 1) := by decide +kernel
theorem dX9_swaps_89 : decode cX9_swaps 89 = .ok (.iload_n 2, 1) := by decide +kernel
theorem dX9_swaps_90 : decode cX9_swaps 90 = .ok (.invokestatic 73, 3) := by decide +kernel
theorem dX9_swaps_93 : decode cX9_swaps 93 = .ok (.iload 4, 2) := by decide +kernel
theorem dX9_swaps_95 : decode cX9_swaps 95 = .ok (.iadd, 1) := by decide +kernel
theorem dX9_swaps_96 : decode cX9_swaps 96 = .ok (.laload, 1) := by decide +kernel
theorem dX9_swaps_97 : decode cX9_swaps 97 = .ok (.lstore 5, 2) := by decide +kernel
theorem dX9_swaps_99 : decode cX9_swaps 99 = .ok (.aload_n 0, 1) := by decide +kernel
theorem dX9_swaps_100 : decode cX9_swaps 100 = .ok (.getfield 9, 3) := by decide +kernel
theorem dX9_swaps_103 : decode cX9_swaps 103 = .ok (.iload_n 1, 1) := by decide +kernel
theorem dX9_swaps_104 : decode cX9_swaps 104 = .ok (.iload_n 2, 1) := by decide +kernel
theorem dX9_swaps_105 : decode cX9_swaps 105 = .ok (.invokestatic 73, 3) := by decide +kernel
theorem dX9_swaps_108 : decode cX9_swaps 108 = .ok (.iload 4, 2) := by decide +kernel
theorem dX9_swaps_110 : decode cX9_swaps 110 = .ok (.iadd, 1) := by decide +kernel
theorem dX9_swaps_111 : decode cX9_swaps 111 = .ok (.aload_n 0, 1) := by decide +kernel
theorem dX9_swaps_112 : decode cX9_swaps 112 = .ok (.getfield 9, 3) := by decide +kernel
theorem dX9_swaps_115 : decode cX9_swaps 115 = .ok (.iload_n 1, 1) := by decide +kernel
theorem dX9_swaps_116 : decode cX9_swaps 116 = .ok (.iload_n 3, 1) := by decide +kernel
theorem dX9_swaps_117 : decode cX9_swaps 117 = .ok (.invokestatic 73, 3) := by decide +kernel
theorem dX9_swaps_120 : decode cX9_swaps 120 = .ok (.iload 4, 2) := by decide +kernel
theorem dX9_swaps_122 : decode cX9_swaps 122 = .ok (.iadd, 1) := by decide +kernel
theorem dX9_swaps_123 : decode cX9_swaps 123 = .ok (.laload, 1) := by decide +kernel
theorem dX9_swaps_124 : decode cX9_swaps 124 = .ok (.lastore, 1) := by decide +kernel
theorem dX9_swaps_125 : decode cX9_swaps 125 = .ok (.aload_n 0, 1) := by decide +kernel
theorem dX9_swaps_126 : decode cX9_swaps 126 = .ok (.getfield 9, 3) := by decide +kernel
theorem dX9_swaps_129 : decode cX9_swaps 129 = .ok (.iload_n 1, 1) := by decide +kernel
theorem dX9_swaps_130 : decode cX9_swaps 130 = .ok (.iload_n 3, 1) := by decide +kernel
theorem dX9_swaps_131 : decode cX9_swaps 131 = .ok (.invokestatic 73, 3) := by decide +kernel
theorem dX9_swaps_134 : decode cX9_swaps 134 = .ok (.iload 4, 2) := by decide +kernel
theorem dX9_swaps_136 : decode cX9_swaps 136 = .ok (.iadd, 1) := by decide +kernel
theorem dX9_swaps_137 : decode cX9_swaps 137 = .ok (.lload 5, 2) := by decide +kernel
theorem dX9_swaps_139 : decode cX9_swaps 139 = .ok (.lastore, 1) := by decide +kernel
theorem dX9_swaps_140 : decode cX9_swaps 140 = .ok (.iinc 4 1, 3) := by decide +kernel
theorem dX9_swaps_143 : decode cX9_swaps 143 = .ok (.goto (-65), 3) := by decide +kernel
theorem dX9_swaps_146 : decode cX9_swaps 146 = .ok (.iconst 1, 1) := by decide +kernel
theorem dX9_swaps_147 : decode cX9_swaps 147 = .ok (.ireturn, 1) := by decide +kernel
abbrev mm_X9_swaps : ab_M := (RX9, 7, (some .int), false, 3, 68, none)
noncomputable def f_X9_swaps_L78 : Nat → Int → Int → Int → Int → Int → ab_H → Option (Int × ab_H)
  | 0, _, _, _, _, _, _ => none
  | n + 1, v0, v1, v2, v3, v4, h =>
    if (5 : Int) ≤ v4 then
      some ((1 : Int), h)
    else
    (ab_get h 10 1 v0).bind fun t1 =>
    (f_X9_termAt v1 v2 h).bind fun q2 =>
    (ab_ald q2.2 12 t1 (ab_w32 (q2.1 + v4))).bind fun t3 =>
    (ab_get q2.2 10 1 v0).bind fun t4 =>
    (f_X9_termAt v1 v2 q2.2).bind fun q5 =>
    (ab_get q5.2 10 1 v0).bind fun t6 =>
    (f_X9_termAt v1 v3 q5.2).bind fun q7 =>
    (ab_ald q7.2 12 t6 (ab_w32 (q7.1 + v4))).bind fun t8 =>
    (ab_ast q7.2 12 t4 (ab_w32 (q5.1 + v4)) t8).bind fun h1 =>
    (ab_get h1 10 1 v0).bind fun t9 =>
    (f_X9_termAt v1 v3 h1).bind fun q10 =>
    (ab_ast q10.2 12 t9 (ab_w32 (q10.1 + v4)) t3).bind fun h2 =>
    f_X9_swaps_L78 n v0 v1 v2 v3 (ab_w32 (v4 + (1 : Int))) h2
set_option maxRecDepth 20000 in
theorem e_X9_swaps_L78 : ∀ (n : Nat) (v0 : Int) (v1 : Int) (v2 : Int) (v3 : Int) (v4 : Int) (h : ab_H) (q : Int × ab_H), f_X9_swaps_L78 n v0 v1 v2 v3 v4 h = some q → ab_E mm_X9_swaps cX9_swaps 78 [some (ab_R v0), some (ab_I v1), some (ab_I v2), some (ab_I v3), some (ab_I v4), none, none] [] h (some (ab_I q.1)) q.2 := by
  intro n
  induction n with
  | zero => intro v0 v1 v2 v3 v4 h q hk; cases hk
  | succ n ih =>
    intro v0 v1 v2 v3 v4 h q hk
    unfold f_X9_swaps_L78 at hk
    refine ab_iload (pc := 78) (i := 4) dX9_swaps_78 rfl ?_
    refine ab_iconst (pc := 80) dX9_swaps_80 ab_k_5 ?_
    refine ab_icmp_ge (pc := 81) (tgt := 146) dX9_swaps_81 rfl (fun hc => ?_) (fun hc => ?_)
    · have hk := ab_ifp hk hc
      refine ab_iconst (pc := 146) dX9_swaps_146 ab_k_1 ?_
      obtain rfl := Option.some.inj hk
      exact ab_reti (pc := 147) dX9_swaps_147 (Or.inl rfl)
    · have hk := ab_ifn hk hc
      refine ab_aload_n (pc := 84) (i := 0) dX9_swaps_84 rfl rfl ?_
      obtain ⟨t1, ht1, hk⟩ := ab_bnd hk
      refine ab_getR (pc := 85) dX9_swaps_85 fl_RX9_9 ht1 ?_
      refine ab_iload_n (pc := 88) (i := 1) dX9_swaps_88 rfl rfl ?_
      refine ab_iload_n (pc := 89) (i := 2) dX9_swaps_89 rfl rfl ?_
      obtain ⟨q2, hq2, hk⟩ := ab_bnd hk
      refine ab_callSI (st := [ab_R t1]) (as := [ab_I v1, ab_I v2]) (pc := 90) dX9_swaps_90 ml_RX9_73 my_X9_termAt ms_X9_termAt (ct_X9_termAt hq2) ⟨Nat.le_of_ble_eq_true rfl, Nat.le_of_ble_eq_true rfl⟩ rfl (Nat.le_of_ble_eq_true rfl) rfl ?_
      refine ab_iload (pc := 93) (i := 4) dX9_swaps_93 rfl ?_
      refine ab_iadd (pc := 95) dX9_swaps_95 ?_
      obtain ⟨t3, ht3, hk⟩ := ab_bnd hk
      refine ab_lald (pc := 96) dX9_swaps_96 ht3 ?_
      refine ab_lstore (pc := 97) (i := 5) (lv2 := [some (ab_R v0), some (ab_I v1), some (ab_I v2), some (ab_I v3), some (ab_I v4), some (ab_J t3), none]) dX9_swaps_97 (Nat.le_of_ble_eq_true rfl) rfl rfl ?_
      refine ab_aload_n (pc := 99) (i := 0) dX9_swaps_99 rfl rfl ?_
      obtain ⟨t4, ht4, hk⟩ := ab_bnd hk
      refine ab_getR (pc := 100) dX9_swaps_100 fl_RX9_9 ht4 ?_
      refine ab_iload_n (pc := 103) (i := 1) dX9_swaps_103 rfl rfl ?_
      refine ab_iload_n (pc := 104) (i := 2) dX9_swaps_104 rfl rfl ?_
      obtain ⟨q5, hq5, hk⟩ := ab_bnd hk
      refine ab_callSI (st := [ab_R t4]) (as := [ab_I v1, ab_I v2]) (pc := 105) dX9_swaps_105 ml_RX9_73 my_X9_termAt ms_X9_termAt (ct_X9_termAt hq5) ⟨Nat.le_of_ble_eq_true rfl, Nat.le_of_ble_eq_true rfl⟩ rfl (Nat.le_of_ble_eq_true rfl) rfl ?_
      refine ab_iload (pc := 108) (i := 4) dX9_swaps_108 rfl ?_
      refine ab_iadd (pc := 110) dX9_swaps_110 ?_
      refine ab_aload_n (pc := 111) (i := 0) dX9_swaps_111 rfl rfl ?_
      obtain ⟨t6, ht6, hk⟩ := ab_bnd hk
      refine ab_getR (pc := 112) dX9_swaps_112 fl_RX9_9 ht6 ?_
      refine ab_iload_n (pc := 115) (i := 1) dX9_swaps_115 rfl rfl ?_
      refine ab_iload_n (pc := 116) (i := 3) dX9_swaps_116 rfl rfl ?_
      obtain ⟨q7, hq7, hk⟩ := ab_bnd hk
      refine ab_callSI (st := [ab_R t6, ab_I (ab_w32 (q5.1 + v4)), ab_R t4]) (as := [ab_I v1, ab_I v3]) (pc := 117) dX9_swaps_117 ml_RX9_73 my_X9_termAt ms_X9_termAt (ct_X9_termAt hq7) ⟨Nat.le_of_ble_eq_true rfl, Nat.le_of_ble_eq_true rfl⟩ rfl (Nat.le_of_ble_eq_true rfl) rfl ?_
      refine ab_iload (pc := 120) (i := 4) dX9_swaps_120 rfl ?_
      refine ab_iadd (pc := 122) dX9_swaps_122 ?_
      obtain ⟨t8, ht8, hk⟩ := ab_bnd hk
      refine ab_lald (pc := 123) dX9_swaps_123 ht8 ?_
      obtain ⟨h1, hh1, hk⟩ := ab_bnd hk
      refine ab_last (pc := 124) dX9_swaps_124 hh1 ?_
      refine ab_aload_n (pc := 125) (i := 0) dX9_swaps_125 rfl rfl ?_
      obtain ⟨t9, ht9, hk⟩ := ab_bnd hk
      refine ab_getR (pc := 126) dX9_swaps_126 fl_RX9_9 ht9 ?_
      refine ab_iload_n (pc := 129) (i := 1) dX9_swaps_129 rfl rfl ?_
      refine ab_iload_n (pc := 130) (i := 3) dX9_swaps_130 rfl rfl ?_
      obtain ⟨q10, hq10, hk⟩ := ab_bnd hk
      refine ab_callSI (st := [ab_R t9]) (as := [ab_I v1, ab_I v3]) (pc := 131) dX9_swaps_131 ml_RX9_73 my_X9_termAt ms_X9_termAt (ct_X9_termAt hq10) ⟨Nat.le_of_ble_eq_true rfl, Nat.le_of_ble_eq_true rfl⟩ rfl (Nat.le_of_ble_eq_true rfl) rfl ?_
      refine ab_iload (pc := 134) (i := 4) dX9_swaps_134 rfl ?_
      refine ab_iadd (pc := 136) dX9_swaps_136 ?_
      refine ab_lload (pc := 137) (i := 5) dX9_swaps_137 rfl ?_
      obtain ⟨h2, hh2, hk⟩ := ab_bnd hk
      refine ab_last (pc := 139) dX9_swaps_139 hh2 ?_
      refine ab_iinc (pc := 140) (i := 4) (lv2 := [some (ab_R v0), some (ab_I v1), some (ab_I v2), some (ab_I v3), some (ab_I (ab_w32 (v4 + (1 : Int)))), some (ab_J t3), none]) dX9_swaps_140 rfl (Nat.le_of_ble_eq_true rfl) rfl rfl ?_
      refine ab_goto (pc := 143) (tgt := 78) dX9_swaps_143 rfl ?_
      refine ab_sub_ (lv2 := [some (ab_R v0), some (ab_I v1), some (ab_I v2), some (ab_I v3), some (ab_I (ab_w32 (v4 + (1 : Int)))), none, none]) (ab_ss (ab_ss (ab_ss (ab_ss (ab_ss (ab_sn (ab_sn ab_s0))))))) ?_
      exact ih _ _ _ _ _ _ _ hk
noncomputable def f_X9_swaps_L29 (k71 : Int → Int → Int → Int → ab_H → Option (Int × ab_H)) : Nat → Int → Int → Int → Int → Int → ab_H → Option (Int × ab_H)
  | 0, _, _, _, _, _, _ => none
  | n + 1, v0, v1, v2, v3, v4, h =>
    (ab_on h 10 v0 (f_X9_terms v0 v1 h)).bind fun q1 =>
    if q1.1 ≤ v4 then
      k71 v0 v1 v2 v3 q1.2
    else
    (ab_on q1.2 10 v0 (f_X9_roleIf v0 v1 v4 v2 v3 q1.2)).bind fun q2 =>
    (ab_on q2.2 10 v0 (f_X9_roleIf v0 v1 (ab_w32 (v4 - (1 : Int))) v2 v3 q2.2)).bind fun q3 =>
    if q3.1 ≤ q2.1 then
      f_X9_swaps_L29 k71 n v0 v1 v2 v3 (ab_w32 (v4 + (1 : Int))) q3.2
    else
    some ((-6 : Int), q3.2)
set_option maxRecDepth 20000 in
theorem e_X9_swaps_L29 {k71 : Int → Int → Int → Int → ab_H → Option (Int × ab_H)} (hk71 : ∀ (v0 : Int) (v1 : Int) (v2 : Int) (v3 : Int) (h : ab_H) (q : Int × ab_H), k71 v0 v1 v2 v3 h = some q → ab_E mm_X9_swaps cX9_swaps 71 [some (ab_R v0), some (ab_I v1), some (ab_I v2), some (ab_I v3), none, none, none] [] h (some (ab_I q.1)) q.2) : ∀ (n : Nat) (v0 : Int) (v1 : Int) (v2 : Int) (v3 : Int) (v4 : Int) (h : ab_H) (q : Int × ab_H), f_X9_swaps_L29 k71 n v0 v1 v2 v3 v4 h = some q → ab_E mm_X9_swaps cX9_swaps 29 [some (ab_R v0), some (ab_I v1), some (ab_I v2), some (ab_I v3), some (ab_I v4), none, none] [] h (some (ab_I q.1)) q.2 := by
  intro n
  induction n with
  | zero => intro v0 v1 v2 v3 v4 h q hk; cases hk
  | succ n ih =>
    intro v0 v1 v2 v3 v4 h q hk
    unfold f_X9_swaps_L29 at hk
    refine ab_iload (pc := 29) (i := 4) dX9_swaps_29 rfl ?_
    refine ab_aload_n (pc := 31) (i := 0) dX9_swaps_31 rfl rfl ?_
    refine ab_iload_n (pc := 32) (i := 1) dX9_swaps_32 rfl rfl ?_
    obtain ⟨q1, hq1, hk⟩ := ab_bnd hk
    obtain ⟨hb, hq1⟩ := ab_on_some hq1
    refine ab_callVI (st := [ab_I v4]) (as := [ab_I v1]) (b := v0) (pc := 33) dX9_swaps_33 ml_RX9_255 my_X9_terms mv_X9_terms hb (ct_X9_terms hq1) ⟨Nat.le_of_ble_eq_true rfl, Nat.le_of_ble_eq_true rfl⟩ rfl (Nat.le_of_ble_eq_true rfl) rfl ?_
    refine ab_icmp_ge (pc := 36) (tgt := 71) dX9_swaps_36 rfl (fun hc => ?_) (fun hc => ?_)
    · have hk := ab_ifp hk hc
      refine ab_sub_ (lv2 := [some (ab_R v0), some (ab_I v1), some (ab_I v2), some (ab_I v3), none, none, none]) (ab_ss (ab_ss (ab_ss (ab_ss (ab_sn (ab_sn (ab_sn ab_s0))))))) ?_
      exact hk71 _ _ _ _ _ _ hk
    · have hk := ab_ifn hk hc
      refine ab_aload_n (pc := 39) (i := 0) dX9_swaps_39 rfl rfl ?_
      refine ab_iload_n (pc := 40) (i := 1) dX9_swaps_40 rfl rfl ?_
      refine ab_iload (pc := 41) (i := 4) dX9_swaps_41 rfl ?_
      refine ab_iload_n (pc := 43) (i := 2) dX9_swaps_43 rfl rfl ?_
      refine ab_iload_n (pc := 44) (i := 3) dX9_swaps_44 rfl rfl ?_
      obtain ⟨q2, hq2, hk⟩ := ab_bnd hk
      obtain ⟨hb, hq2⟩ := ab_on_some hq2
      refine ab_callVI (st := []) (as := [ab_I v1, ab_I v4, ab_I v2, ab_I v3]) (b := v0) (pc := 45) dX9_swaps_45 ml_RX9_446 my_X9_roleIf mv_X9_roleIf hb (ct_X9_roleIf hq2) ⟨Nat.le_of_ble_eq_true rfl, Nat.le_of_ble_eq_true rfl⟩ rfl (Nat.le_of_ble_eq_true rfl) rfl ?_
      refine ab_aload_n (pc := 48) (i := 0) dX9_swaps_48 rfl rfl ?_
      refine ab_iload_n (pc := 49) (i := 1) dX9_swaps_49 rfl rfl ?_
      refine ab_iload (pc := 50) (i := 4) dX9_swaps_50 rfl ?_
      refine ab_iconst (pc := 52) dX9_swaps_52 ab_k_1 ?_
      refine ab_isub (pc := 53) dX9_swaps_53 ?_
      refine ab_iload_n (pc := 54) (i := 2) dX9_swaps_54 rfl rfl ?_
      refine ab_iload_n (pc := 55) (i := 3) dX9_swaps_55 rfl rfl ?_
      obtain ⟨q3, hq3, hk⟩ := ab_bnd hk
      obtain ⟨hb, hq3⟩ := ab_on_some hq3
      refine ab_callVI (st := [ab_I q2.1]) (as := [ab_I v1, ab_I (ab_w32 (v4 - (1 : Int))), ab_I v2, ab_I v3]) (b := v0) (pc := 56) dX9_swaps_56 ml_RX9_446 my_X9_roleIf mv_X9_roleIf hb (ct_X9_roleIf hq3) ⟨Nat.le_of_ble_eq_true rfl, Nat.le_of_ble_eq_true rfl⟩ rfl (Nat.le_of_ble_eq_true rfl) rfl ?_
      refine ab_icmp_ge (pc := 59) (tgt := 65) dX9_swaps_59 rfl (fun hc => ?_) (fun hc => ?_)
      · have hk := ab_ifp hk hc
        refine ab_iinc (pc := 65) (i := 4) (lv2 := [some (ab_R v0), some (ab_I v1), some (ab_I v2), some (ab_I v3), some (ab_I (ab_w32 (v4 + (1 : Int)))), none, none]) dX9_swaps_65 rfl (Nat.le_of_ble_eq_true rfl) rfl rfl ?_
        refine ab_goto (pc := 68) (tgt := 29) dX9_swaps_68 rfl ?_
        refine ab_sub_ (lv2 := [some (ab_R v0), some (ab_I v1), some (ab_I v2), some (ab_I v3), some (ab_I (ab_w32 (v4 + (1 : Int)))), none, none]) (ab_ss (ab_ss (ab_ss (ab_ss (ab_ss (ab_sn (ab_sn ab_s0))))))) ?_
        exact ih _ _ _ _ _ _ _ hk
      · have hk := ab_ifn hk hc
        refine ab_bipush (pc := 62) dX9_swaps_62 ab_p8_m6 ab_k_m6 ?_
        obtain rfl := Option.some.inj hk
        exact ab_reti (pc := 64) dX9_swaps_64 (Or.inl rfl)
noncomputable def f_X9_swaps (a0 : Int) (a1 : Int) (a2 : Int) (a3 : Int) (h : ab_H) : Option (Int × ab_H) :=
  (ab_on h 10 a0 (f_X9_isTerm a0 a1 a2 h)).bind fun q1 =>
  if q1.1 = (0 : Int) then
    some ((-2 : Int), q1.2)
  else
  (ab_on q1.2 10 a0 (f_X9_isTerm a0 a1 a3 q1.2)).bind fun q2 =>
  if q2.1 = (0 : Int) then
    some ((-2 : Int), q2.2)
  else
  if a2 = a3 then
    some ((-2 : Int), q2.2)
  else
  f_X9_swaps_L29 (fun w71_0 w71_1 w71_2 w71_3 hx71 =>
    (ab_on hx71 10 w71_0 (f_X9_keeps w71_0 hx71)).bind fun q3 =>
    f_X9_swaps_L78 ab_FU w71_0 w71_1 w71_2 w71_3 (0 : Int) q3) ab_FU a0 a1 a2 a3 (1 : Int) q2.2
set_option maxRecDepth 20000 in
theorem ct_X9_swaps {a0 a1 a2 a3 : Int} {h : ab_H} {q : Int × ab_H} (hk : f_X9_swaps a0 a1 a2 a3 h = some q) : ab_CT yX9_swaps cX9_swaps 7 (some .int) 3 68 [ab_R a0, ab_I a1, ab_I a2, ab_I a3] h (some (ab_I q.1)) q.2 := by
  refine ab_CT.mk_ 3 (own := RX9) (ini := false) (lv := [some (ab_R a0), some (ab_I a1), some (ab_I a2), some (ab_I a3), none, none, none]) rfl (by decide +kernel) (fun q => by cases q) rfl rfl ?_
  unfold f_X9_swaps at hk
  show ab_E mm_X9_swaps cX9_swaps 0 _ [] h _ _
  refine ab_aload_n (pc := 0) (i := 0) dX9_swaps_0 rfl rfl ?_
  refine ab_iload_n (pc := 1) (i := 1) dX9_swaps_1 rfl rfl ?_
  refine ab_iload_n (pc := 2) (i := 2) dX9_swaps_2 rfl rfl ?_
  obtain ⟨q1, hq1, hk⟩ := ab_bnd hk
  obtain ⟨hb, hq1⟩ := ab_on_some hq1
  refine ab_callVI (st := []) (as := [ab_I a1, ab_I a2]) (b := a0) (pc := 3) dX9_swaps_3 ml_RX9_340 my_X9_isTerm mv_X9_isTerm hb (ct_X9_isTerm hq1) ⟨Nat.le_of_ble_eq_true rfl, Nat.le_of_ble_eq_true rfl⟩ rfl (Nat.le_of_ble_eq_true rfl) rfl ?_
  refine ab_if_eq (pc := 6) (tgt := 23) dX9_swaps_6 rfl (fun hc => ?_) (fun hc => ?_)
  · have hk := ab_ifp hk hc
    refine ab_bipush (pc := 23) dX9_swaps_23 ab_p8_m2 ab_k_m2 ?_
    obtain rfl := Option.some.inj hk
    exact ab_reti (pc := 25) dX9_swaps_25 (Or.inl rfl)
  · have hk := ab_ifn hk hc
    refine ab_aload_n (pc := 9) (i := 0) dX9_swaps_9 rfl rfl ?_
    refine ab_iload_n (pc := 10) (i := 1) dX9_swaps_10 rfl rfl ?_
    refine ab_iload_n (pc := 11) (i := 3) dX9_swaps_11 rfl rfl ?_
    obtain ⟨q2, hq2, hk⟩ := ab_bnd hk
    obtain ⟨hb, hq2⟩ := ab_on_some hq2
    refine ab_callVI (st := []) (as := [ab_I a1, ab_I a3]) (b := a0) (pc := 12) dX9_swaps_12 ml_RX9_340 my_X9_isTerm mv_X9_isTerm hb (ct_X9_isTerm hq2) ⟨Nat.le_of_ble_eq_true rfl, Nat.le_of_ble_eq_true rfl⟩ rfl (Nat.le_of_ble_eq_true rfl) rfl ?_
    refine ab_if_eq (pc := 15) (tgt := 23) dX9_swaps_15 rfl (fun hc => ?_) (fun hc => ?_)
    · have hk := ab_ifp hk hc
      refine ab_bipush (pc := 23) dX9_swaps_23 ab_p8_m2 ab_k_m2 ?_
      obtain rfl := Option.some.inj hk
      exact ab_reti (pc := 25) dX9_swaps_25 (Or.inl rfl)
    · have hk := ab_ifn hk hc
      refine ab_iload_n (pc := 18) (i := 2) dX9_swaps_18 rfl rfl ?_
      refine ab_iload_n (pc := 19) (i := 3) dX9_swaps_19 rfl rfl ?_
      refine ab_icmp_ne (pc := 20) (tgt := 26) dX9_swaps_20 rfl (fun hc => ?_) (fun hc => ?_)
      · have hk := ab_ifn hk hc
        refine ab_iconst (pc := 26) dX9_swaps_26 ab_k_1 ?_
        refine ab_istore (pc := 27) (i := 4) (lv2 := [some (ab_R a0), some (ab_I a1), some (ab_I a2), some (ab_I a3), some (ab_I (1 : Int)), none, none]) dX9_swaps_27 (Nat.le_of_ble_eq_true rfl) rfl rfl ?_
        refine ab_sub_ (lv2 := [some (ab_R a0), some (ab_I a1), some (ab_I a2), some (ab_I a3), some (ab_I (1 : Int)), none, none]) (ab_ss (ab_ss (ab_ss (ab_ss (ab_ss (ab_sn (ab_sn ab_s0))))))) ?_
        refine e_X9_swaps_L29 (fun w71_0 w71_1 w71_2 w71_3 hx71 q hk => ?_) _ _ _ _ _ _ _ _ hk
        · skip
          refine ab_aload_n (pc := 71) (i := 0) dX9_swaps_71 rfl rfl ?_
          obtain ⟨q3, hq3, hk⟩ := ab_bnd hk
          obtain ⟨hb, hq3⟩ := ab_on_some hq3
          refine ab_callVV (st := []) (as := []) (b := w71_0) (pc := 72) dX9_swaps_72 ml_RX9_249 my_X9_keeps mv_X9_keeps hb (ct_X9_keeps hq3) ⟨Nat.le_of_ble_eq_true rfl, Nat.le_of_ble_eq_true rfl⟩ rfl (Nat.le_of_ble_eq_true rfl) rfl ?_
          refine ab_iconst (pc := 75) dX9_swaps_75 ab_k_0 ?_
          refine ab_istore (pc := 76) (i := 4) (lv2 := [some (ab_R w71_0), some (ab_I w71_1), some (ab_I w71_2), some (ab_I w71_3), some (ab_I (0 : Int)), none, none]) dX9_swaps_76 (Nat.le_of_ble_eq_true rfl) rfl rfl ?_
          refine ab_sub_ (lv2 := [some (ab_R w71_0), some (ab_I w71_1), some (ab_I w71_2), some (ab_I w71_3), some (ab_I (0 : Int)), none, none]) (ab_ss (ab_ss (ab_ss (ab_ss (ab_ss (ab_sn (ab_sn ab_s0))))))) ?_
          refine e_X9_swaps_L78 _ _ _ _ _ _ _ _ hk
      · have hk := ab_ifp hk hc
        refine ab_bipush (pc := 23) dX9_swaps_23 ab_p8_m2 ab_k_m2 ?_
        obtain rfl := Option.some.inj hk
        exact ab_reti (pc := 25) dX9_swaps_25 (Or.inl rfl)
theorem dX9_see_0 : decode cX9_see 0 = .ok (.aload_n 0, 1) := by decide +kernel
theorem dX9_see_1 : decode cX9_see 1 = .ok (.iload_n 1, 1) := by decide +kernel
theorem dX9_see_2 : decode cX9_see 2 = .ok (.invokevirtual 346, 3) := by decide +kernel
theorem dX9_see_5 : decode cX9_see 5 = .ok (.ifCond .eq 19, 3) := by decide +kernel
theorem dX9_see_8 : decode cX9_see 8 = .ok (.iload_n 2, 1) := by decide +kernel
theorem dX9_see_9 : decode cX9_see 9 = .ok (.i2l, 1) := by decide +kernel
theorem dX9_see_10 : decode cX9_see 10 = .ok (.lconst 0, 1) := by decide +kernel
theorem dX9_see_11 : decode cX9_see 11 = .ok (.aload_n 0, 1) := by decide +kernel
theorem dX9_see_12 : decode cX9_see 12 = .ok (.getfield 252, 3) := by decide +kernel
theorem dX9_see_15 : decode cX9_see 15 = .ok (.iconst 1, 1) := by decide +kernel
theorem dX9_see_16 : decode cX9_see 16 = .ok (.isub, 1) := by decide +kernel
theorem dX9_see_17 : decode cX9_see 17 = .ok (.i2l, 1) := by decide +kernel
theorem dX9_see_18 : decode cX9_see 18 = .ok (.invokestatic 84, 3) := by decide +kernel
theorem dX9_see_21 : decode cX9_see 21 = .ok (.ifCond .ne 6, 3) := by decide +kernel
theorem dX9_see_24 : decode cX9_see 24 = .ok (.bipush (-2), 2) := by decide +kernel
theorem dX9_see_26 : decode cX9_see 26 = .ok (.ireturn, 1) := by decide +kernel
theorem dX9_see_27 : decode cX9_see 27 = .ok (.aload_n 0, 1) := by decide +kernel
theorem dX9_see_28 : decode cX9_see 28 = .ok (.invokevirtual 317, 3) := by decide +kernel
theorem dX9_see_31 : decode cX9_see 31 = .ok (.bipush 12, 2) := by decide +kernel
theorem dX9_see_33 : decode cX9_see 33 = .ok (.if_icmp .ne 6, 3) := by decide +kernel
theorem dX9_see_36 : decode cX9_see 36 = .ok (.bipush (-5), 2) := by decide +kernel
theorem dX9_see_38 : decode cX9_see 38 = .ok (.ireturn, 1) := by decide +kernel
theorem dX9_see_39 : decode cX9_see 39 = .ok (.iload_n 1, 1) := by decide +kernel
theorem dX9_see_40 : decode cX9_see 40 = .ok (.iload_n 2, 1) := by decide +kernel
theorem dX9_see_41 : decode cX9_see 41 = .ok (.if_icmp .ne 6, 3) := by decide +kernel
theorem dX9_see_44 : decode cX9_see 44 = .ok (.bipush (-6), 2) := by decide +kernel
theorem dX9_see_46 : decode cX9_see 46 = .ok (.ireturn, 1) := by decide +kernel
theorem dX9_see_47 : decode cX9_see 47 = .ok (.aload_n 0, 1) := by decide +kernel
theorem dX9_see_48 : decode cX9_see 48 = .ok (.invokevirtual 249, 3) := by decide +kernel
theorem dX9_see_51 : decode cX9_see 51 = .ok (.aload_n 0, 1) := by decide +kernel
theorem dX9_see_52 : decode cX9_see 52 = .ok (.getfield 9, 3) := by decide +kernel
theorem dX9_see_55 : decode cX9_see 55 = .ok (.bipush 8, 2) := by decide +kernel
theorem dX9_see_57 : decode cX9_see 57 = .ok (.iconst 2, 1) := by decide +kernel
theorem dX9_see_58 : decode cX9_see 58 = .ok (.aload_n 0, 1) := by decide +kernel
theorem dX9_see_59 : decode cX9_see 59 = .ok (.invokevirtual 317, 3) := by decide +kernel
theorem dX9_see_62 : decode cX9_see 62 = .ok (.imul, 1) := by decide +kernel
theorem dX9_see_63 : decode cX9_see 63 = .ok (.iadd, 1) := by decide +kernel
theorem dX9_see_64 : decode cX9_see 64 = .ok (.aload_n 0, 1) := by decide +kernel
theorem dX9_see_65 : decode cX9_see 65 = .ok (.getfield 24, 3) := by decide +kernel
theorem dX9_see_68 : decode cX9_see 68 = .ok (.iload_n 1, 1) := by decide +kernel
theorem dX9_see_69 : decode cX9_see 69 = .ok (.laload, 1) := by decide +kernel
theorem dX9_see_70 : decode cX9_see 70 = .ok (.lastore, 1) := by decide +kernel
theorem dX9_see_71 : decode cX9_see 71 = .ok (.aload_n 0, 1) := by decide +kernel
theorem dX9_see_72 : decode cX9_see 72 = .ok (.getfield 9, 3) := by decide +kernel
theorem dX9_see_75 : decode cX9_see 75 = .ok (.bipush 8, 2) := by decide +kernel
theorem dX9_see_77 : decode cX9_see 77 = .ok (.iconst 2, 1) := by decide +kernel
theorem dX9_see_78 : decode cX9_see 78 = .ok (.aload_n 0, 1) := by decide +kernel
theorem dX9_see_79 : decode cX9_see 79 = .ok (.invokevirtual 317, 3) := by decide +kernel
theorem dX9_see_82 : decode cX9_see 82 = .ok (.imul, 1) := by decide +kernel
theorem dX9_see_83 : decode cX9_see 83 = .ok (.iadd, 1) := by decide +kernel
theorem dX9_see_84 : decode cX9_see 84 = .ok (.iconst 1, 1) := by decide +kernel
theorem dX9_see_85 : decode cX9_see 85 = .ok (.iadd, 1) := by decide +kernel
theorem dX9_see_86 : decode cX9_see 86 = .ok (.aload_n 0, 1) := by decide +kernel
theorem dX9_see_87 : decode cX9_see 87 = .ok (.getfield 24, 3) := by decide +kernel
theorem dX9_see_90 : decode cX9_see 90 = .ok (.iload_n 2, 1) := by decide +kernel
theorem dX9_see_91 : decode cX9_see 91 = .ok (.laload, 1) := by decide +kernel
theorem dX9_see_92 : decode cX9_see 92 = .ok (.lastore, 1) := by decide +kernel
theorem dX9_see_93 : decode cX9_see 93 = .ok (.aload_n 0, 1) := by decide +kernel
theorem dX9_see_94 : decode cX9_see 94 = .ok (.getfield 9, 3) := by decide +kernel
theorem dX9_see_97 : decode cX9_see 97 = .ok (.iconst 1, 1) := by decide +kernel
theorem dX9_see_98 : decode cX9_see 98 = .ok (.dup2, 1) := by decide +kernel
theorem dX9_see_99 : decode cX9_see 99 = .ok (.laload, 1) := by decide +kernel
theorem dX9_see_100 : decode cX9_see 100 = .ok (.lconst 1, 1) := by decide +kernel
theorem dX9_see_101 : decode cX9_see 101 = .ok (.ladd, 1) := by decide +kernel
theorem dX9_see_102 : decode cX9_see 102 = .ok (.lastore, 1) := by decide +kernel
theorem dX9_see_103 : decode cX9_see 103 = .ok (.aload_n 0, 1) := by decide +kernel
theorem dX9_see_104 : decode cX9_see 104 = .ok (.invokevirtual 317, 3) := by decide +kernel
theorem dX9_see_107 : decode cX9_see 107 = .ok (.ireturn, 1) := by decide +kernel
abbrev mm_X9_see : ab_M := (RX9, 3, (some .int), false, 3, 72, none)
noncomputable def f_X9_see (a0 : Int) (a1 : Int) (a2 : Int) (h : ab_H) : Option (Int × ab_H) :=
  (ab_on h 10 a0 (f_X9_isWordNow a0 a1 h)).bind fun q1 =>
  if q1.1 = (0 : Int) then
    some ((-2 : Int), q1.2)
  else
  (ab_get q1.2 10 14 a0).bind fun t2 =>
  (f_X9_in a2 (0 : Int) (ab_w32 (t2 - (1 : Int))) q1.2).bind fun q3 =>
  if q3.1 = (0 : Int) then
    some ((-2 : Int), q3.2)
  else
  (ab_on q3.2 10 a0 (f_X9_sees a0 q3.2)).bind fun q4 =>
  if q4.1 = (12 : Int) then
    some ((-5 : Int), q4.2)
  else
  if a1 = a2 then
    some ((-6 : Int), q4.2)
  else
  (ab_on q4.2 10 a0 (f_X9_keeps a0 q4.2)).bind fun q5 =>
  (ab_get q5 10 1 a0).bind fun t6 =>
  (ab_on q5 10 a0 (f_X9_sees a0 q5)).bind fun q7 =>
  (ab_get q7.2 10 13 a0).bind fun t8 =>
  (ab_ald q7.2 12 t8 a1).bind fun t9 =>
  (ab_ast q7.2 12 t6 (ab_w32 ((8 : Int) + (ab_w32 ((2 : Int) * q7.1)))) t9).bind fun h1 =>
  (ab_get h1 10 1 a0).bind fun t10 =>
  (ab_on h1 10 a0 (f_X9_sees a0 h1)).bind fun q11 =>
  (ab_get q11.2 10 13 a0).bind fun t12 =>
  (ab_ald q11.2 12 t12 a2).bind fun t13 =>
  (ab_ast q11.2 12 t10 (ab_w32 ((ab_w32 ((8 : Int) + (ab_w32 ((2 : Int) * q11.1)))) + (1 : Int))) t13).bind fun h2 =>
  (ab_get h2 10 1 a0).bind fun t14 =>
  (ab_ald h2 12 t14 (1 : Int)).bind fun t15 =>
  (ab_ast h2 12 t14 (1 : Int) (ab_w64 (t15 + (1 : Int)))).bind fun h3 =>
  (ab_on h3 10 a0 (f_X9_sees a0 h3)).bind fun q16 =>
  some (q16.1, q16.2)
set_option maxRecDepth 20000 in
theorem ct_X9_see {a0 a1 a2 : Int} {h : ab_H} {q : Int × ab_H} (hk : f_X9_see a0 a1 a2 h = some q) : ab_CT yX9_see cX9_see 3 (some .int) 3 72 [ab_R a0, ab_I a1, ab_I a2] h (some (ab_I q.1)) q.2 := by
  refine ab_CT.mk_ 0 (own := RX9) (ini := false) (lv := [some (ab_R a0), some (ab_I a1), some (ab_I a2)]) rfl (by decide +kernel) (fun q => by cases q) rfl rfl ?_
  unfold f_X9_see at hk
  show ab_E mm_X9_see cX9_see 0 _ [] h _ _
  refine ab_aload_n (pc := 0) (i := 0) dX9_see_0 rfl rfl ?_
  refine ab_iload_n (pc := 1) (i := 1) dX9_see_1 rfl rfl ?_
  obtain ⟨q1, hq1, hk⟩ := ab_bnd hk
  obtain ⟨hb, hq1⟩ := ab_on_some hq1
  refine ab_callVI (st := []) (as := [ab_I a1]) (b := a0) (pc := 2) dX9_see_2 ml_RX9_346 my_X9_isWordNow mv_X9_isWordNow hb (ct_X9_isWordNow hq1) ⟨Nat.le_of_ble_eq_true rfl, Nat.le_of_ble_eq_true rfl⟩ rfl (Nat.le_of_ble_eq_true rfl) rfl ?_
  refine ab_if_eq (pc := 5) (tgt := 24) dX9_see_5 rfl (fun hc => ?_) (fun hc => ?_)
  · have hk := ab_ifp hk hc
    refine ab_bipush (pc := 24) dX9_see_24 ab_p8_m2 ab_k_m2 ?_
    obtain rfl := Option.some.inj hk
    exact ab_reti (pc := 26) dX9_see_26 (Or.inl rfl)
  · have hk := ab_ifn hk hc
    refine ab_iload_n (pc := 8) (i := 2) dX9_see_8 rfl rfl ?_
    refine ab_i2l_ (pc := 9) dX9_see_9 ?_
    refine ab_lconst (x := (0 : Int)) (pc := 10) dX9_see_10 rfl ab_kl_0 ?_
    refine ab_aload_n (pc := 11) (i := 0) dX9_see_11 rfl rfl ?_
    obtain ⟨t2, ht2, hk⟩ := ab_bnd hk
    refine ab_getI (pc := 12) dX9_see_12 fl_RX9_252 ht2 ?_
    refine ab_iconst (pc := 15) dX9_see_15 ab_k_1 ?_
    refine ab_isub (pc := 16) dX9_see_16 ?_
    refine ab_i2l_ (pc := 17) dX9_see_17 ?_
    obtain ⟨q3, hq3, hk⟩ := ab_bnd hk
    refine ab_callSI (st := []) (as := [ab_J a2, ab_J (0 : Int), ab_J (ab_w32 (t2 - (1 : Int)))]) (pc := 18) dX9_see_18 ml_RX9_84 my_X9_in ms_X9_in (ct_X9_in hq3) ⟨Nat.le_of_ble_eq_true rfl, Nat.le_of_ble_eq_true rfl⟩ rfl (Nat.le_of_ble_eq_true rfl) rfl ?_
    refine ab_if_ne (pc := 21) (tgt := 27) dX9_see_21 rfl (fun hc => ?_) (fun hc => ?_)
    · have hk := ab_ifn hk hc
      refine ab_aload_n (pc := 27) (i := 0) dX9_see_27 rfl rfl ?_
      obtain ⟨q4, hq4, hk⟩ := ab_bnd hk
      obtain ⟨hb, hq4⟩ := ab_on_some hq4
      refine ab_callVI (st := []) (as := []) (b := a0) (pc := 28) dX9_see_28 ml_RX9_317 my_X9_sees mv_X9_sees hb (ct_X9_sees hq4) ⟨Nat.le_of_ble_eq_true rfl, Nat.le_of_ble_eq_true rfl⟩ rfl (Nat.le_of_ble_eq_true rfl) rfl ?_
      refine ab_bipush (pc := 31) dX9_see_31 ab_p8_12 ab_k_12 ?_
      refine ab_icmp_ne (pc := 33) (tgt := 39) dX9_see_33 rfl (fun hc => ?_) (fun hc => ?_)
      · have hk := ab_ifn hk hc
        refine ab_iload_n (pc := 39) (i := 1) dX9_see_39 rfl rfl ?_
        refine ab_iload_n (pc := 40) (i := 2) dX9_see_40 rfl rfl ?_
        refine ab_icmp_ne (pc := 41) (tgt := 47) dX9_see_41 rfl (fun hc => ?_) (fun hc => ?_)
        · have hk := ab_ifn hk hc
          refine ab_aload_n (pc := 47) (i := 0) dX9_see_47 rfl rfl ?_
          obtain ⟨q5, hq5, hk⟩ := ab_bnd hk
          obtain ⟨hb, hq5⟩ := ab_on_some hq5
          refine ab_callVV (st := []) (as := []) (b := a0) (pc := 48) dX9_see_48 ml_RX9_249 my_X9_keeps mv_X9_keeps hb (ct_X9_keeps hq5) ⟨Nat.le_of_ble_eq_true rfl, Nat.le_of_ble_eq_true rfl⟩ rfl (Nat.le_of_ble_eq_true rfl) rfl ?_
          refine ab_aload_n (pc := 51) (i := 0) dX9_see_51 rfl rfl ?_
          obtain ⟨t6, ht6, hk⟩ := ab_bnd hk
          refine ab_getR (pc := 52) dX9_see_52 fl_RX9_9 ht6 ?_
          refine ab_bipush (pc := 55) dX9_see_55 ab_p8_8 ab_k_8 ?_
          refine ab_iconst (pc := 57) dX9_see_57 ab_k_2 ?_
          refine ab_aload_n (pc := 58) (i := 0) dX9_see_58 rfl rfl ?_
          obtain ⟨q7, hq7, hk⟩ := ab_bnd hk
          obtain ⟨hb, hq7⟩ := ab_on_some hq7
          refine ab_callVI (st := [ab_I (2 : Int), ab_I (8 : Int), ab_R t6]) (as := []) (b := a0) (pc := 59) dX9_see_59 ml_RX9_317 my_X9_sees mv_X9_sees hb (ct_X9_sees hq7) ⟨Nat.le_of_ble_eq_true rfl, Nat.le_of_ble_eq_true rfl⟩ rfl (Nat.le_of_ble_eq_true rfl) rfl ?_
          refine ab_imul (pc := 62) dX9_see_62 ?_
          refine ab_iadd (pc := 63) dX9_see_63 ?_
          refine ab_aload_n (pc := 64) (i := 0) dX9_see_64 rfl rfl ?_
          obtain ⟨t8, ht8, hk⟩ := ab_bnd hk
          refine ab_getR (pc := 65) dX9_see_65 fl_RX9_24 ht8 ?_
          refine ab_iload_n (pc := 68) (i := 1) dX9_see_68 rfl rfl ?_
          obtain ⟨t9, ht9, hk⟩ := ab_bnd hk
          refine ab_lald (pc := 69) dX9_see_69 ht9 ?_
          obtain ⟨h1, hh1, hk⟩ := ab_bnd hk
          refine ab_last (pc := 70) dX9_see_70 hh1 ?_
          refine ab_aload_n (pc := 71) (i := 0) dX9_see_71 rfl rfl ?_
          obtain ⟨t10, ht10, hk⟩ := ab_bnd hk
          refine ab_getR (pc := 72) dX9_see_72 fl_RX9_9 ht10 ?_
          refine ab_bipush (pc := 75) dX9_see_75 ab_p8_8 ab_k_8 ?_
          refine ab_iconst (pc := 77) dX9_see_77 ab_k_2 ?_
          refine ab_aload_n (pc := 78) (i := 0) dX9_see_78 rfl rfl ?_
          obtain ⟨q11, hq11, hk⟩ := ab_bnd hk
          obtain ⟨hb, hq11⟩ := ab_on_some hq11
          refine ab_callVI (st := [ab_I (2 : Int), ab_I (8 : Int), ab_R t10]) (as := []) (b := a0) (pc := 79) dX9_see_79 ml_RX9_317 my_X9_sees mv_X9_sees hb (ct_X9_sees hq11) ⟨Nat.le_of_ble_eq_true rfl, Nat.le_of_ble_eq_true rfl⟩ rfl (Nat.le_of_ble_eq_true rfl) rfl ?_
          refine ab_imul (pc := 82) dX9_see_82 ?_
          refine ab_iadd (pc := 83) dX9_see_83 ?_
          refine ab_iconst (pc := 84) dX9_see_84 ab_k_1 ?_
          refine ab_iadd (pc := 85) dX9_see_85 ?_
          refine ab_aload_n (pc := 86) (i := 0) dX9_see_86 rfl rfl ?_
          obtain ⟨t12, ht12, hk⟩ := ab_bnd hk
          refine ab_getR (pc := 87) dX9_see_87 fl_RX9_24 ht12 ?_
          refine ab_iload_n (pc := 90) (i := 2) dX9_see_90 rfl rfl ?_
          obtain ⟨t13, ht13, hk⟩ := ab_bnd hk
          refine ab_lald (pc := 91) dX9_see_91 ht13 ?_
          obtain ⟨h2, hh2, hk⟩ := ab_bnd hk
          refine ab_last (pc := 92) dX9_see_92 hh2 ?_
          refine ab_aload_n (pc := 93) (i := 0) dX9_see_93 rfl rfl ?_
          obtain ⟨t14, ht14, hk⟩ := ab_bnd hk
          refine ab_getR (pc := 94) dX9_see_94 fl_RX9_9 ht14 ?_
          refine ab_iconst (pc := 97) dX9_see_97 ab_k_1 ?_
          refine ab_dup2 (pc := 98) dX9_see_98 rfl rfl ?_
          obtain ⟨t15, ht15, hk⟩ := ab_bnd hk
          refine ab_lald (pc := 99) dX9_see_99 ht15 ?_
          refine ab_lconst (x := (1 : Int)) (pc := 100) dX9_see_100 rfl ab_kl_1 ?_
          refine ab_ladd (pc := 101) dX9_see_101 ?_
          obtain ⟨h3, hh3, hk⟩ := ab_bnd hk
          refine ab_last (pc := 102) dX9_see_102 hh3 ?_
          refine ab_aload_n (pc := 103) (i := 0) dX9_see_103 rfl rfl ?_
          obtain ⟨q16, hq16, hk⟩ := ab_bnd hk
          obtain ⟨hb, hq16⟩ := ab_on_some hq16
          refine ab_callVI (st := []) (as := []) (b := a0) (pc := 104) dX9_see_104 ml_RX9_317 my_X9_sees mv_X9_sees hb (ct_X9_sees hq16) ⟨Nat.le_of_ble_eq_true rfl, Nat.le_of_ble_eq_true rfl⟩ rfl (Nat.le_of_ble_eq_true rfl) rfl ?_
          obtain rfl := Option.some.inj hk
          exact ab_reti (pc := 107) dX9_see_107 (Or.inl rfl)
        · have hk := ab_ifp hk hc
          refine ab_bipush (pc := 44) dX9_see_44 ab_p8_m6 ab_k_m6 ?_
          obtain rfl := Option.some.inj hk
          exact ab_reti (pc := 46) dX9_see_46 (Or.inl rfl)
      · have hk := ab_ifp hk hc
        refine ab_bipush (pc := 36) dX9_see_36 ab_p8_m5 ab_k_m5 ?_
        obtain rfl := Option.some.inj hk
        exact ab_reti (pc := 38) dX9_see_38 (Or.inl rfl)
    · have hk := ab_ifp hk hc
      refine ab_bipush (pc := 24) dX9_see_24 ab_p8_m2 ab_k_m2 ?_
      obtain rfl := Option.some.inj hk
      exact ab_reti (pc := 26) dX9_see_26 (Or.inl rfl)
theorem dX9_forget_0 : decode cX9_forget 0 = .ok (.iload_n 1, 1) := by decide +kernel
theorem dX9_forget_1 : decode cX9_forget 1 = .ok (.ifCond .ge 6, 3) := by decide +kernel
theorem dX9_forget_4 : decode cX9_forget 4 = .ok (.bipush (-2), 2) := by decide +kernel
theorem dX9_forget_6 : decode cX9_forget 6 = .ok (.ireturn, 1) := by decide +kernel
theorem dX9_forget_7 : decode cX9_forget 7 = .ok (.iload_n 1, 1) := by decide +kernel
theorem dX9_forget_8 : decode cX9_forget 8 = .ok (.aload_n 0, 1) := by decide +kernel
theorem dX9_forget_9 : decode cX9_forget 9 = .ok (.invokevirtual 317, 3) := by decide +kernel
theorem dX9_forget_12 : decode cX9_forget 12 = .ok (.if_icmp .lt 5, 3) := by decide +kernel
theorem dX9_forget_15 : decode cX9_forget 15 = .ok (.iconst (-1), 1) := by decide +kernel
theorem dX9_forget_16 : decode cX9_forget 16 = .ok (.ireturn, 1) := by decide +kernel
theorem dX9_forget_17 : decode cX9_forget 17 = .ok (.aload_n 0, 1) := by decide +kernel
theorem dX9_forget_18 : decode cX9_forget 18 = .ok (.invokevirtual 249, 3) := by decide +kernel
theorem dX9_forget_21 : decode cX9_forget 21 = .ok (.bipush 8, 2) := by decide +kernel
theorem dX9_forget_23 : decode cX9_forget 23 = .ok (.iconst 2, 1) := by decide +kernel
theorem dX9_forget_24 : decode cX9_forget 24 = .ok (.iload_n 1, 1) := by decide +kernel
theorem dX9_forget_25 : decode cX9_forget 25 = .ok (.imul, 1) := by decide +kernel
theorem dX9_forget_26 : decode cX9_forget 26 = .ok (.iadd, 1) := by decide +kernel
theorem dX9_forget_27 : decode cX9_forget 27 = .ok (.istore_n 2, 1) := by decide +kernel
theorem dX9_forget_28 : decode cX9_forget 28 = .ok (.iload_n 2, 1) := by decide +kernel
theorem dX9_forget_29 : decode cX9_forget 29 = .ok (.bipush 30, 2) := by decide +kernel
theorem dX9_forget_31 : decode cX9_forget 31 = .ok (.if_icmp .ge 23, 3) := by decide +kernel
theorem dX9_forget_34 : decode cX9_forget 34 = .ok (.aload_n 0, 1) := by decide +kernel
theorem dX9_forget_35 : decode cX9_forget 35 = .ok (.getfield 9, 3) := by decide +kernel
theorem dX9_forget_38 : decode cX9_forget 38 = .ok (.iload_n 2, 1) := by decide +kernel
theorem dX9_forget_39 : decode cX9_forget 39 = .ok (.aload_n 0, 1) := by decide +kernel
theorem dX9_forget_40 : decode cX9_forget 40 = .ok (.getfield 9, 3) := by decide +kernel
theorem dX9_forget_43 : decode cX9_forget 43 = .ok (.iload_n 2, 1) := by decide +kernel
theorem dX9_forget_44 : decode cX9_forget 44 = .ok (.iconst 2, 1) := by decide +kernel
theorem dX9_forget_45 : decode cX9_forget 45 = .ok (.iadd, 1) := by decide +kernel
theorem dX9_forget_46 : decode cX9_forget 46 = .ok (.laload, 1) := by decide +kernel
theorem dX9_forget_47 : decode cX9_forget 47 = .ok (.lastore, 1) := by decide +kernel
theorem dX9_forget_48 : decode cX9_forget 48 = .ok (.iinc 2 1, 3) := by decide +kernel
theorem dX9_forget_51 : decode cX9_forget 51 = .ok (.goto (-23), 3) := by decide +kernel
theorem dX9_forget_54 : decode cX9_forget 54 = .ok (.aload_n 0, 1) := by decide +kernel
theorem dX9_forget_55 : decode cX9_forget 55 = .ok (.getfield 9, 3) := by decide +kernel
theorem dX9_forget_58 : decode cX9_forget 58 = .ok (.iconst 1, 1) := by decide +kernel
theorem dX9_forget_59 : decode cX9_forget 59 = .ok (.dup2, 1) := by decide +kernel
theorem dX9_forget_60 : decode cX9_forget 60 = .ok (.laload, 1) := by decide +kernel
theorem dX9_forget_61 : decode cX9_forget 61 = .ok (.lconst 1, 1) := by decide +kernel
theorem dX9_forget_62 : decode cX9_forget 62 = .ok (.lsub, 1) := by decide +kernel
theorem dX9_forget_63 : decode cX9_forget 63 = .ok (.lastore, 1) := by decide +kernel
theorem dX9_forget_64 : decode cX9_forget 64 = .ok (.aload_n 0, 1) := by decide +kernel
theorem dX9_forget_65 : decode cX9_forget 65 = .ok (.invokevirtual 317, 3) := by decide +kernel
theorem dX9_forget_68 : decode cX9_forget 68 = .ok (.ireturn, 1) := by decide +kernel
abbrev mm_X9_forget : ab_M := (RX9, 3, (some .int), false, 1, 21, none)
noncomputable def f_X9_forget_L28 (k54 : Int → ab_H → Option (Int × ab_H)) : Nat → Int → Int → ab_H → Option (Int × ab_H)
  | 0, _, _, _ => none
  | n + 1, v0, v2, h =>
    if (30 : Int) ≤ v2 then
      k54 v0 h
    else
    (ab_get h 10 1 v0).bind fun t1 =>
    (ab_get h 10 1 v0).bind fun t2 =>
    (ab_ald h 12 t2 (ab_w32 (v2 + (2 : Int)))).bind fun t3 =>
    (ab_ast h 12 t1 v2 t3).bind fun h1 =>
    f_X9_forget_L28 k54 n v0 (ab_w32 (v2 + (1 : Int))) h1
set_option maxRecDepth 20000 in
theorem e_X9_forget_L28 {k54 : Int → ab_H → Option (Int × ab_H)} (hk54 : ∀ (v0 : Int) (h : ab_H) (q : Int × ab_H), k54 v0 h = some q → ab_E mm_X9_forget cX9_forget 54 [some (ab_R v0), none, none] [] h (some (ab_I q.1)) q.2) : ∀ (n : Nat) (v0 : Int) (v2 : Int) (h : ab_H) (q : Int × ab_H), f_X9_forget_L28 k54 n v0 v2 h = some q → ab_E mm_X9_forget cX9_forget 28 [some (ab_R v0), none, some (ab_I v2)] [] h (some (ab_I q.1)) q.2 := by
  intro n
  induction n with
  | zero => intro v0 v2 h q hk; cases hk
  | succ n ih =>
    intro v0 v2 h q hk
    unfold f_X9_forget_L28 at hk
    refine ab_iload_n (pc := 28) (i := 2) dX9_forget_28 rfl rfl ?_
    refine ab_bipush (pc := 29) dX9_forget_29 ab_p8_30 ab_k_30 ?_
    refine ab_icmp_ge (pc := 31) (tgt := 54) dX9_forget_31 rfl (fun hc => ?_) (fun hc => ?_)
    · have hk := ab_ifp hk hc
      refine ab_sub_ (lv2 := [some (ab_R v0), none, none]) (ab_ss (ab_sn (ab_sn ab_s0))) ?_
      exact hk54 _ _ _ hk
    · have hk := ab_ifn hk hc
      refine ab_aload_n (pc := 34) (i := 0) dX9_forget_34 rfl rfl ?_
      obtain ⟨t1, ht1, hk⟩ := ab_bnd hk
      refine ab_getR (pc := 35) dX9_forget_35 fl_RX9_9 ht1 ?_
      refine ab_iload_n (pc := 38) (i := 2) dX9_forget_38 rfl rfl ?_
      refine ab_aload_n (pc := 39) (i := 0) dX9_forget_39 rfl rfl ?_
      obtain ⟨t2, ht2, hk⟩ := ab_bnd hk
      refine ab_getR (pc := 40) dX9_forget_40 fl_RX9_9 ht2 ?_
      refine ab_iload_n (pc := 43) (i := 2) dX9_forget_43 rfl rfl ?_
      refine ab_iconst (pc := 44) dX9_forget_44 ab_k_2 ?_
      refine ab_iadd (pc := 45) dX9_forget_45 ?_
      obtain ⟨t3, ht3, hk⟩ := ab_bnd hk
      refine ab_lald (pc := 46) dX9_forget_46 ht3 ?_
      obtain ⟨h1, hh1, hk⟩ := ab_bnd hk
      refine ab_last (pc := 47) dX9_forget_47 hh1 ?_
      refine ab_iinc (pc := 48) (i := 2) (lv2 := [some (ab_R v0), none, some (ab_I (ab_w32 (v2 + (1 : Int))))]) dX9_forget_48 rfl (Nat.le_of_ble_eq_true rfl) rfl rfl ?_
      refine ab_goto (pc := 51) (tgt := 28) dX9_forget_51 rfl ?_
      refine ab_sub_ (lv2 := [some (ab_R v0), none, some (ab_I (ab_w32 (v2 + (1 : Int))))]) (ab_ss (ab_sn (ab_ss ab_s0))) ?_
      exact ih _ _ _ _ hk
noncomputable def f_X9_forget (a0 : Int) (a1 : Int) (h : ab_H) : Option (Int × ab_H) :=
  if (0 : Int) ≤ a1 then
    (ab_on h 10 a0 (f_X9_sees a0 h)).bind fun q1 =>
    if a1 < q1.1 then
      (ab_on q1.2 10 a0 (f_X9_keeps a0 q1.2)).bind fun q2 =>
      f_X9_forget_L28 (fun w54_0 hx54 =>
        (ab_get hx54 10 1 w54_0).bind fun t3 =>
        (ab_ald hx54 12 t3 (1 : Int)).bind fun t4 =>
        (ab_ast hx54 12 t3 (1 : Int) (ab_w64 (t4 - (1 : Int)))).bind fun h1 =>
        (ab_on h1 10 w54_0 (f_X9_sees w54_0 h1)).bind fun q5 =>
        some (q5.1, q5.2)) ab_FU a0 (ab_w32 ((8 : Int) + (ab_w32 ((2 : Int) * a1)))) q2
    else
    some ((-1 : Int), q1.2)
  else
  some ((-2 : Int), h)
set_option maxRecDepth 20000 in
theorem ct_X9_forget {a0 a1 : Int} {h : ab_H} {q : Int × ab_H} (hk : f_X9_forget a0 a1 h = some q) : ab_CT yX9_forget cX9_forget 3 (some .int) 1 21 [ab_R a0, ab_I a1] h (some (ab_I q.1)) q.2 := by
  refine ab_CT.mk_ 1 (own := RX9) (ini := false) (lv := [some (ab_R a0), some (ab_I a1), none]) rfl (by decide +kernel) (fun q => by cases q) rfl rfl ?_
  unfold f_X9_forget at hk
  show ab_E mm_X9_forget cX9_forget 0 _ [] h _ _
  refine ab_iload_n (pc := 0) (i := 1) dX9_forget_0 rfl rfl ?_
  refine ab_if_ge (pc := 1) (tgt := 7) dX9_forget_1 rfl (fun hc => ?_) (fun hc => ?_)
  · have hk := ab_ifp hk hc
    refine ab_iload_n (pc := 7) (i := 1) dX9_forget_7 rfl rfl ?_
    refine ab_aload_n (pc := 8) (i := 0) dX9_forget_8 rfl rfl ?_
    obtain ⟨q1, hq1, hk⟩ := ab_bnd hk
    obtain ⟨hb, hq1⟩ := ab_on_some hq1
    refine ab_callVI (st := [ab_I a1]) (as := []) (b := a0) (pc := 9) dX9_forget_9 ml_RX9_317 my_X9_sees mv_X9_sees hb (ct_X9_sees hq1) ⟨Nat.le_of_ble_eq_true rfl, Nat.le_of_ble_eq_true rfl⟩ rfl (Nat.le_of_ble_eq_true rfl) rfl ?_
    refine ab_icmp_lt (pc := 12) (tgt := 17) dX9_forget_12 rfl (fun hc => ?_) (fun hc => ?_)
    · have hk := ab_ifp hk hc
      refine ab_aload_n (pc := 17) (i := 0) dX9_forget_17 rfl rfl ?_
      obtain ⟨q2, hq2, hk⟩ := ab_bnd hk
      obtain ⟨hb, hq2⟩ := ab_on_some hq2
      refine ab_callVV (st := []) (as := []) (b := a0) (pc := 18) dX9_forget_18 ml_RX9_249 my_X9_keeps mv_X9_keeps hb (ct_X9_keeps hq2) ⟨Nat.le_of_ble_eq_true rfl, Nat.le_of_ble_eq_true rfl⟩ rfl (Nat.le_of_ble_eq_true rfl) rfl ?_
      refine ab_bipush (pc := 21) dX9_forget_21 ab_p8_8 ab_k_8 ?_
      refine ab_iconst (pc := 23) dX9_forget_23 ab_k_2 ?_
      refine ab_iload_n (pc := 24) (i := 1) dX9_forget_24 rfl rfl ?_
      refine ab_imul (pc := 25) dX9_forget_25 ?_
      refine ab_iadd (pc := 26) dX9_forget_26 ?_
      refine ab_istore_n (pc := 27) (i := 2) (lv2 := [some (ab_R a0), some (ab_I a1), some (ab_I (ab_w32 ((8 : Int) + (ab_w32 ((2 : Int) * a1)))))]) dX9_forget_27 rfl (Nat.le_of_ble_eq_true rfl) rfl rfl ?_
      refine ab_sub_ (lv2 := [some (ab_R a0), none, some (ab_I (ab_w32 ((8 : Int) + (ab_w32 ((2 : Int) * a1)))))]) (ab_ss (ab_sn (ab_ss ab_s0))) ?_
      refine e_X9_forget_L28 (fun w54_0 hx54 q hk => ?_) _ _ _ _ _ hk
      · skip
        refine ab_aload_n (pc := 54) (i := 0) dX9_forget_54 rfl rfl ?_
        obtain ⟨t3, ht3, hk⟩ := ab_bnd hk
        refine ab_getR (pc := 55) dX9_forget_55 fl_RX9_9 ht3 ?_
        refine ab_iconst (pc := 58) dX9_forget_58 ab_k_1 ?_
        refine ab_dup2 (pc := 59) dX9_forget_59 rfl rfl ?_
        obtain ⟨t4, ht4, hk⟩ := ab_bnd hk
        refine ab_lald (pc := 60) dX9_forget_60 ht4 ?_
        refine ab_lconst (x := (1 : Int)) (pc := 61) dX9_forget_61 rfl ab_kl_1 ?_
        refine ab_lsub (pc := 62) dX9_forget_62 ?_
        obtain ⟨h1, hh1, hk⟩ := ab_bnd hk
        refine ab_last (pc := 63) dX9_forget_63 hh1 ?_
        refine ab_aload_n (pc := 64) (i := 0) dX9_forget_64 rfl rfl ?_
        obtain ⟨q5, hq5, hk⟩ := ab_bnd hk
        obtain ⟨hb, hq5⟩ := ab_on_some hq5
        refine ab_callVI (st := []) (as := []) (b := w54_0) (pc := 65) dX9_forget_65 ml_RX9_317 my_X9_sees mv_X9_sees hb (ct_X9_sees hq5) ⟨Nat.le_of_ble_eq_true rfl, Nat.le_of_ble_eq_true rfl⟩ rfl (Nat.le_of_ble_eq_true rfl) rfl ?_
        obtain rfl := Option.some.inj hk
        exact ab_reti (pc := 68) dX9_forget_68 (Or.inl rfl)
    · have hk := ab_ifn hk hc
      refine ab_iconst (pc := 15) dX9_forget_15 ab_k_m1 ?_
      obtain rfl := Option.some.inj hk
      exact ab_reti (pc := 16) dX9_forget_16 (Or.inl rfl)
  · have hk := ab_ifn hk hc
    refine ab_bipush (pc := 4) dX9_forget_4 ab_p8_m2 ab_k_m2 ?_
    obtain rfl := Option.some.inj hk
    exact ab_reti (pc := 6) dX9_forget_6 (Or.inl rfl)
theorem dX9_moves_0 : decode cX9_moves 0 = .ok (.aload_n 0, 1) := by decide +kernel
theorem dX9_moves_1 : decode cX9_moves 1 = .ok (.iload_n 1, 1) := by decide +kernel
theorem dX9_moves_2 : decode cX9_moves 2 = .ok (.invokevirtual 323, 3) := by decide +kernel
theorem dX9_moves_5 : decode cX9_moves 5 = .ok (.ifCond .eq 15, 3) := by decide +kernel
theorem dX9_moves_8 : decode cX9_moves 8 = .ok (.iload_n 2, 1) := by decide +kernel
theorem dX9_moves_9 : decode cX9_moves 9 = .ok (.i2l, 1) := by decide +kernel
theorem dX9_moves_10 : decode cX9_moves 10 = .ok (.lconst 0, 1) := by decide +kernel
theorem dX9_moves_11 : decode cX9_moves 11 = .ok (.ldc2_w 214, 3) := by decide +kernel
theorem dX9_moves_14 : decode cX9_moves 14 = .ok (.invokestatic 84, 3) := by decide +kernel
theorem dX9_moves_17 : decode cX9_moves 17 = .ok (.ifCond .ne 6, 3) := by decide +kernel
theorem dX9_moves_20 : decode cX9_moves 20 = .ok (.bipush (-2), 2) := by decide +kernel
theorem dX9_moves_22 : decode cX9_moves 22 = .ok (.ireturn, 1) := by decide +kernel
theorem dX9_moves_23 : decode cX9_moves 23 = .ok (.aload_n 0, 1) := by decide +kernel
theorem dX9_moves_24 : decode cX9_moves 24 = .ok (.iload_n 1, 1) := by decide +kernel
theorem dX9_moves_25 : decode cX9_moves 25 = .ok (.invokevirtual 284, 3) := by decide +kernel
theorem dX9_moves_28 : decode cX9_moves 28 = .ok (.istore_n 3, 1) := by decide +kernel
theorem dX9_moves_29 : decode cX9_moves 29 = .ok (.iload_n 3, 1) := by decide +kernel
theorem dX9_moves_30 : decode cX9_moves 30 = .ok (.iload_n 2, 1) := by decide +kernel
theorem dX9_moves_31 : decode cX9_moves 31 = .ok (.if_icmp .ne 5, 3) := by decide +kernel
theorem dX9_moves_34 : decode cX9_moves 34 = .ok (.iload_n 3, 1) := by decide +kernel
theorem dX9_moves_35 : decode cX9_moves 35 = .ok (.ireturn, 1) := by decide +kernel
theorem dX9_moves_36 : decode cX9_moves 36 = .ok (.iconst 0, 1) := by decide +kernel
theorem dX9_moves_37 : decode cX9_moves 37 = .ok (.istore 4, 2) := by decide +kernel
theorem dX9_moves_39 : decode cX9_moves 39 = .ok (.iload 4, 2) := by decide +kernel
theorem dX9_moves_41 : decode cX9_moves 41 = .ok (.aload_n 0, 1) := by decide +kernel
theorem dX9_moves_42 : decode cX9_moves 42 = .ok (.invokevirtual 246, 3) := by decide +kernel
theorem dX9_moves_45 : decode cX9_moves 45 = .ok (.if_icmp .ge 22, 3) := by decide +kernel
theorem dX9_moves_48 : decode cX9_moves 48 = .ok (.aload_n 0, 1) := by decide +kernel
theorem dX9_moves_49 : decode cX9_moves 49 = .ok (.iload 4, 2) := by decide +kernel
theorem dX9_moves_51 : decode cX9_moves 51 = .ok (.invokevirtual 284, 3) := by decide +kernel
theorem dX9_moves_54 : decode cX9_moves 54 = .ok (.iload_n 2, 1) := by decide +kernel
theorem dX9_moves_55 : decode cX9_moves 55 = .ok (.if_icmp .ne 6, 3) := by decide +kernel
theorem dX9_moves_58 : decode cX9_moves 58 = .ok (.bipush (-6), 2) := by decide +kernel
theorem dX9_moves_60 : decode cX9_moves 60 = .ok (.ireturn, 1) := by decide +kernel
theorem dX9_moves_61 : decode cX9_moves 61 = .ok (.iinc 4 1, 3) := by decide +kernel
theorem dX9_moves_64 : decode cX9_moves 64 = .ok (.goto (-25), 3) := by decide +kernel
theorem dX9_moves_67 : decode cX9_moves 67 = .ok (.aload_n 0, 1) := by decide +kernel
theorem dX9_moves_68 : decode cX9_moves 68 = .ok (.invokevirtual 249, 3) := by decide +kernel
theorem dX9_moves_71 : decode cX9_moves 71 = .ok (.aload_n 0, 1) := by decide +kernel
theorem dX9_moves_72 : decode cX9_moves 72 = .ok (.getfield 9, 3) := by decide +kernel
theorem dX9_moves_75 : decode cX9_moves 75 = .ok (.bipush 32, 2) := by decide +kernel
theorem dX9_moves_77 : decode cX9_moves 77 = .ok (.bipush 32, 2) := by decide +kernel
theorem dX9_moves_79 : decode cX9_moves 79 = .ok (.iload_n 1, 1) := by decide +kernel
theorem dX9_moves_80 : decode cX9_moves 80 = .ok (.imul, 1) := by decide +kernel
theorem dX9_moves_81 : decode cX9_moves 81 = .ok (.iadd, 1) := by decide +kernel
theorem dX9_moves_82 : decode cX9_moves 82 = .ok (.iload_n 2, 1) := by decide +kernel
theorem dX9_moves_83 : decode cX9_moves 83 = .ok (.i2l, 1) := by decide +kernel
theorem dX9_moves_84 : decode cX9_moves 84 = .ok (.lastore, 1) := by decide +kernel
theorem dX9_moves_85 : decode cX9_moves 85 = .ok (.iload_n 3, 1) := by decide +kernel
theorem dX9_moves_86 : decode cX9_moves 86 = .ok (.ireturn, 1) := by decide +kernel
abbrev mm_X9_moves : ab_M := (RX9, 5, (some .int), false, 2, 46, none)
noncomputable def f_X9_moves_L39 (k67 : Int → Int → Int → Int → ab_H → Option (Int × ab_H)) : Nat → Int → Int → Int → Int → Int → ab_H → Option (Int × ab_H)
  | 0, _, _, _, _, _, _ => none
  | n + 1, v0, v1, v2, v3, v4, h =>
    (ab_on h 10 v0 (f_X9_strings v0 h)).bind fun q1 =>
    if q1.1 ≤ v4 then
      k67 v0 v1 v2 v3 q1.2
    else
    (ab_on q1.2 10 v0 (f_X9_addressOf v0 v4 q1.2)).bind fun q2 =>
    if q2.1 = v2 then
      some ((-6 : Int), q2.2)
    else
    f_X9_moves_L39 k67 n v0 v1 v2 v3 (ab_w32 (v4 + (1 : Int))) q2.2
set_option maxRecDepth 20000 in
theorem e_X9_moves_L39 {k67 : Int → Int → Int → Int → ab_H → Option (Int × ab_H)} (hk67 : ∀ (v0 : Int) (v1 : Int) (v2 : Int) (v3 : Int) (h : ab_H) (q : Int × ab_H), k67 v0 v1 v2 v3 h = some q → ab_E mm_X9_moves cX9_moves 67 [some (ab_R v0), some (ab_I v1), some (ab_I v2), some (ab_I v3), none] [] h (some (ab_I q.1)) q.2) : ∀ (n : Nat) (v0 : Int) (v1 : Int) (v2 : Int) (v3 : Int) (v4 : Int) (h : ab_H) (q : Int × ab_H), f_X9_moves_L39 k67 n v0 v1 v2 v3 v4 h = some q → ab_E mm_X9_moves cX9_moves 39 [some (ab_R v0), some (ab_I v1), some (ab_I v2), some (ab_I v3), some (ab_I v4)] [] h (some (ab_I q.1)) q.2 := by
  intro n
  induction n with
  | zero => intro v0 v1 v2 v3 v4 h q hk; cases hk
  | succ n ih =>
    intro v0 v1 v2 v3 v4 h q hk
    unfold f_X9_moves_L39 at hk
    refine ab_iload (pc := 39) (i := 4) dX9_moves_39 rfl ?_
    refine ab_aload_n (pc := 41) (i := 0) dX9_moves_41 rfl rfl ?_
    obtain ⟨q1, hq1, hk⟩ := ab_bnd hk
    obtain ⟨hb, hq1⟩ := ab_on_some hq1
    refine ab_callVI (st := [ab_I v4]) (as := []) (b := v0) (pc := 42) dX9_moves_42 ml_RX9_246 my_X9_strings mv_X9_strings hb (ct_X9_strings hq1) ⟨Nat.le_of_ble_eq_true rfl, Nat.le_of_ble_eq_true rfl⟩ rfl (Nat.le_of_ble_eq_true rfl) rfl ?_
    refine ab_icmp_ge (pc := 45) (tgt := 67) dX9_moves_45 rfl (fun hc => ?_) (fun hc => ?_)
    · have hk := ab_ifp hk hc
      refine ab_sub_ (lv2 := [some (ab_R v0), some (ab_I v1), some (ab_I v2), some (ab_I v3), none]) (ab_ss (ab_ss (ab_ss (ab_ss (ab_sn ab_s0))))) ?_
      exact hk67 _ _ _ _ _ _ hk
    · have hk := ab_ifn hk hc
      refine ab_aload_n (pc := 48) (i := 0) dX9_moves_48 rfl rfl ?_
      refine ab_iload (pc := 49) (i := 4) dX9_moves_49 rfl ?_
      obtain ⟨q2, hq2, hk⟩ := ab_bnd hk
      obtain ⟨hb, hq2⟩ := ab_on_some hq2
      refine ab_callVI (st := []) (as := [ab_I v4]) (b := v0) (pc := 51) dX9_moves_51 ml_RX9_284 my_X9_addressOf mv_X9_addressOf hb (ct_X9_addressOf hq2) ⟨Nat.le_of_ble_eq_true rfl, Nat.le_of_ble_eq_true rfl⟩ rfl (Nat.le_of_ble_eq_true rfl) rfl ?_
      refine ab_iload_n (pc := 54) (i := 2) dX9_moves_54 rfl rfl ?_
      refine ab_icmp_ne (pc := 55) (tgt := 61) dX9_moves_55 rfl (fun hc => ?_) (fun hc => ?_)
      · have hk := ab_ifn hk hc
        refine ab_iinc (pc := 61) (i := 4) (lv2 := [some (ab_R v0), some (ab_I v1), some (ab_I v2), some (ab_I v3), some (ab_I (ab_w32 (v4 + (1 : Int))))]) dX9_moves_61 rfl (Nat.le_of_ble_eq_true rfl) rfl rfl ?_
        refine ab_goto (pc := 64) (tgt := 39) dX9_moves_64 rfl ?_
        refine ab_sub_ (lv2 := [some (ab_R v0), some (ab_I v1), some (ab_I v2), some (ab_I v3), some (ab_I (ab_w32 (v4 + (1 : Int))))]) (ab_ss (ab_ss (ab_ss (ab_ss (ab_ss ab_s0))))) ?_
        exact ih _ _ _ _ _ _ _ hk
      · have hk := ab_ifp hk hc
        refine ab_bipush (pc := 58) dX9_moves_58 ab_p8_m6 ab_k_m6 ?_
        obtain rfl := Option.some.inj hk
        exact ab_reti (pc := 60) dX9_moves_60 (Or.inl rfl)
noncomputable def f_X9_moves (a0 : Int) (a1 : Int) (a2 : Int) (h : ab_H) : Option (Int × ab_H) :=
  (ab_on h 10 a0 (f_X9_isString a0 a1 h)).bind fun q1 =>
  if q1.1 = (0 : Int) then
    some ((-2 : Int), q1.2)
  else
  (f_X9_in a2 (0 : Int) (999 : Int) q1.2).bind fun q2 =>
  if q2.1 = (0 : Int) then
    some ((-2 : Int), q2.2)
  else
  (ab_on q2.2 10 a0 (f_X9_addressOf a0 a1 q2.2)).bind fun q3 =>
  if q3.1 = a2 then
    some (q3.1, q3.2)
  else
  f_X9_moves_L39 (fun w67_0 w67_1 w67_2 w67_3 hx67 =>
    (ab_on hx67 10 w67_0 (f_X9_keeps w67_0 hx67)).bind fun q4 =>
    (ab_get q4 10 1 w67_0).bind fun t5 =>
    (ab_ast q4 12 t5 (ab_w32 ((32 : Int) + (ab_w32 ((32 : Int) * w67_1)))) w67_2).bind fun h1 =>
    some (w67_3, h1)) ab_FU a0 a1 a2 q3.1 (0 : Int) q3.2
set_option maxRecDepth 20000 in
theorem ct_X9_moves {a0 a1 a2 : Int} {h : ab_H} {q : Int × ab_H} (hk : f_X9_moves a0 a1 a2 h = some q) : ab_CT yX9_moves cX9_moves 5 (some .int) 2 46 [ab_R a0, ab_I a1, ab_I a2] h (some (ab_I q.1)) q.2 := by
  refine ab_CT.mk_ 2 (own := RX9) (ini := false) (lv := [some (ab_R a0), some (ab_I a1), some (ab_I a2), none, none]) rfl (by decide +kernel) (fun q => by cases q) rfl rfl ?_
  unfold f_X9_moves at hk
  show ab_E mm_X9_moves cX9_moves 0 _ [] h _ _
  refine ab_aload_n (pc := 0) (i := 0) dX9_moves_0 rfl rfl ?_
  refine ab_iload_n (pc := 1) (i := 1) dX9_moves_1 rfl rfl ?_
  obtain ⟨q1, hq1, hk⟩ := ab_bnd hk
  obtain ⟨hb, hq1⟩ := ab_on_some hq1
  refine ab_callVI (st := []) (as := [ab_I a1]) (b := a0) (pc := 2) dX9_moves_2 ml_RX9_323 my_X9_isString mv_X9_isString hb (ct_X9_isString hq1) ⟨Nat.le_of_ble_eq_true rfl, Nat.le_of_ble_eq_true rfl⟩ rfl (Nat.le_of_ble_eq_true rfl) rfl ?_
  refine ab_if_eq (pc := 5) (tgt := 20) dX9_moves_5 rfl (fun hc => ?_) (fun hc => ?_)
  · have hk := ab_ifp hk hc
    refine ab_bipush (pc := 20) dX9_moves_20 ab_p8_m2 ab_k_m2 ?_
    obtain rfl := Option.some.inj hk
    exact ab_reti (pc := 22) dX9_moves_22 (Or.inl rfl)
  · have hk := ab_ifn hk hc
    refine ab_iload_n (pc := 8) (i := 2) dX9_moves_8 rfl rfl ?_
    refine ab_i2l_ (pc := 9) dX9_moves_9 ?_
    refine ab_lconst (x := (0 : Int)) (pc := 10) dX9_moves_10 rfl ab_kl_0 ?_
    refine ab_ldc2 (x := (999 : Int)) (pc := 11) dX9_moves_11 ab_ld2_RX9_214 ab_kl_999 ?_
    obtain ⟨q2, hq2, hk⟩ := ab_bnd hk
    refine ab_callSI (st := []) (as := [ab_J a2, ab_J (0 : Int), ab_J (999 : Int)]) (pc := 14) dX9_moves_14 ml_RX9_84 my_X9_in ms_X9_in (ct_X9_in hq2) ⟨Nat.le_of_ble_eq_true rfl, Nat.le_of_ble_eq_true rfl⟩ rfl (Nat.le_of_ble_eq_true rfl) rfl ?_
    refine ab_if_ne (pc := 17) (tgt := 23) dX9_moves_17 rfl (fun hc => ?_) (fun hc => ?_)
    · have hk := ab_ifn hk hc
      refine ab_aload_n (pc := 23) (i := 0) dX9_moves_23 rfl rfl ?_
      refine ab_iload_n (pc := 24) (i := 1) dX9_moves_24 rfl rfl ?_
      obtain ⟨q3, hq3, hk⟩ := ab_bnd hk
      obtain ⟨hb, hq3⟩ := ab_on_some hq3
      refine ab_callVI (st := []) (as := [ab_I a1]) (b := a0) (pc := 25) dX9_moves_25 ml_RX9_284 my_X9_addressOf mv_X9_addressOf hb (ct_X9_addressOf hq3) ⟨Nat.le_of_ble_eq_true rfl, Nat.le_of_ble_eq_true rfl⟩ rfl (Nat.le_of_ble_eq_true rfl) rfl ?_
      refine ab_istore_n (pc := 28) (i := 3) (lv2 := [some (ab_R a0), some (ab_I a1), some (ab_I a2), some (ab_I q3.1), none]) dX9_moves_28 rfl (Nat.le_of_ble_eq_true rfl) rfl rfl ?_
      refine ab_iload_n (pc := 29) (i := 3) dX9_moves_29 rfl rfl ?_
      refine ab_iload_n (pc := 30) (i := 2) dX9_moves_30 rfl rfl ?_
      refine ab_icmp_ne (pc := 31) (tgt := 36) dX9_moves_31 rfl (fun hc => ?_) (fun hc => ?_)
      · have hk := ab_ifn hk hc
        refine ab_iconst (pc := 36) dX9_moves_36 ab_k_0 ?_
        refine ab_istore (pc := 37) (i := 4) (lv2 := [some (ab_R a0), some (ab_I a1), some (ab_I a2), some (ab_I q3.1), some (ab_I (0 : Int))]) dX9_moves_37 (Nat.le_of_ble_eq_true rfl) rfl rfl ?_
        refine ab_sub_ (lv2 := [some (ab_R a0), some (ab_I a1), some (ab_I a2), some (ab_I q3.1), some (ab_I (0 : Int))]) (ab_ss (ab_ss (ab_ss (ab_ss (ab_ss ab_s0))))) ?_
        refine e_X9_moves_L39 (fun w67_0 w67_1 w67_2 w67_3 hx67 q hk => ?_) _ _ _ _ _ _ _ _ hk
        · skip
          refine ab_aload_n (pc := 67) (i := 0) dX9_moves_67 rfl rfl ?_
          obtain ⟨q4, hq4, hk⟩ := ab_bnd hk
          obtain ⟨hb, hq4⟩ := ab_on_some hq4
          refine ab_callVV (st := []) (as := []) (b := w67_0) (pc := 68) dX9_moves_68 ml_RX9_249 my_X9_keeps mv_X9_keeps hb (ct_X9_keeps hq4) ⟨Nat.le_of_ble_eq_true rfl, Nat.le_of_ble_eq_true rfl⟩ rfl (Nat.le_of_ble_eq_true rfl) rfl ?_
          refine ab_aload_n (pc := 71) (i := 0) dX9_moves_71 rfl rfl ?_
          obtain ⟨t5, ht5, hk⟩ := ab_bnd hk
          refine ab_getR (pc := 72) dX9_moves_72 fl_RX9_9 ht5 ?_
          refine ab_bipush (pc := 75) dX9_moves_75 ab_p8_32 ab_k_32 ?_
          refine ab_bipush (pc := 77) dX9_moves_77 ab_p8_32 ab_k_32 ?_
          refine ab_iload_n (pc := 79) (i := 1) dX9_moves_79 rfl rfl ?_
          refine ab_imul (pc := 80) dX9_moves_80 ?_
          refine ab_iadd (pc := 81) dX9_moves_81 ?_
          refine ab_iload_n (pc := 82) (i := 2) dX9_moves_82 rfl rfl ?_
          refine ab_i2l_ (pc := 83) dX9_moves_83 ?_
          obtain ⟨h1, hh1, hk⟩ := ab_bnd hk
          refine ab_last (pc := 84) dX9_moves_84 hh1 ?_
          refine ab_iload_n (pc := 85) (i := 3) dX9_moves_85 rfl rfl ?_
          obtain rfl := Option.some.inj hk
          exact ab_reti (pc := 86) dX9_moves_86 (Or.inl rfl)
      · have hk := ab_ifp hk hc
        refine ab_iload_n (pc := 34) (i := 3) dX9_moves_34 rfl rfl ?_
        obtain rfl := Option.some.inj hk
        exact ab_reti (pc := 35) dX9_moves_35 (Or.inl rfl)
    · have hk := ab_ifp hk hc
      refine ab_bipush (pc := 20) dX9_moves_20 ab_p8_m2 ab_k_m2 ?_
      obtain rfl := Option.some.inj hk
      exact ab_reti (pc := 22) dX9_moves_22 (Or.inl rfl)
