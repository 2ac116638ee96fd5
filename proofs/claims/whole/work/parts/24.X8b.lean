theorem dX8_printedSize_0 : decode cX8_printedSize 0 = .ok (.aload_n 0, 1) := by decide +kernel
theorem dX8_printedSize_1 : decode cX8_printedSize 1 = .ok (.getfield 21, 3) := by decide +kernel
theorem dX8_printedSize_4 : decode cX8_printedSize 4 = .ok (.iconst 0, 1) := by decide +kernel
theorem dX8_printedSize_5 : decode cX8_printedSize 5 = .ok (.putfield 72, 3) := by decide +kernel
theorem dX8_printedSize_8 : decode cX8_printedSize 8 = .ok (.aload_n 0, 1) := by decide +kernel
theorem dX8_printedSize_9 : decode cX8_printedSize 9 = .ok (.getfield 65, 3) := by decide +kernel
theorem dX8_printedSize_12 : decode cX8_printedSize 12 = .ok (.iload_n 1, 1) := by decide +kernel
theorem dX8_printedSize_13 : decode cX8_printedSize 13 = .ok (.aload_n 0, 1) := by decide +kernel
theorem dX8_printedSize_14 : decode cX8_printedSize 14 = .ok (.getfield 51, 3) := by decide +kernel
theorem dX8_printedSize_17 : decode cX8_printedSize 17 = .ok (.aload_n 0, 1) := by decide +kernel
theorem dX8_printedSize_18 : decode cX8_printedSize 18 = .ok (.getfield 58, 3) := by decide +kernel
theorem dX8_printedSize_21 : decode cX8_printedSize 21 = .ok (.aload_n 0, 1) := by decide +kernel
theorem dX8_printedSize_22 : decode cX8_printedSize 22 = .ok (.getfield 21, 3) := by decide +kernel
theorem dX8_printedSize_25 : decode cX8_printedSize 25 = .ok (.invokevirtual 265, 3) := by decide +kernel
theorem dX8_printedSize_28 : decode cX8_printedSize 28 = .ok (.aload_n 0, 1) := by decide +kernel
theorem dX8_printedSize_29 : decode cX8_printedSize 29 = .ok (.getfield 21, 3) := by decide +kernel
theorem dX8_printedSize_32 : decode cX8_printedSize 32 = .ok (.getfield 72, 3) := by decide +kernel
theorem dX8_printedSize_35 : decode cX8_printedSize 35 = .ok (.ireturn, 1) := by decide +kernel
abbrev mm_X8_printedSize : ab_M := (RX8, 2, (some .int), false, 4, 100, none)
noncomputable def f_X8_printedSize (a0 : Int) (a1 : Int) (h : ab_H) : Option (Int × ab_H) :=
  (ab_get h 9 2 a0).bind fun t1 =>
  (ab_put h 2 1 t1 (0 : Int)).bind fun h1 =>
  (ab_get h1 9 9 a0).bind fun t2 =>
  (ab_get h1 9 7 a0).bind fun t3 =>
  (ab_get h1 9 8 a0).bind fun t4 =>
  (ab_get h1 9 2 a0).bind fun t5 =>
  (ab_on h1 7 t2 (f_X6_printLine t2 a1 t3 t4 t5 h1)).bind fun q6 =>
  (ab_get q6 9 2 a0).bind fun t7 =>
  (ab_get q6 2 1 t7).bind fun t8 =>
  some (t8, q6)
set_option maxRecDepth 20000 in
theorem ct_X8_printedSize {a0 a1 : Int} {h : ab_H} {q : Int × ab_H} (hk : f_X8_printedSize a0 a1 h = some q) : ab_CT yX8_printedSize cX8_printedSize 2 (some .int) 4 100 [ab_R a0, ab_I a1] h (some (ab_I q.1)) q.2 := by
  refine ab_CT.mk_ 0 (own := RX8) (ini := false) (lv := [some (ab_R a0), some (ab_I a1)]) rfl (by decide +kernel) (fun q => by cases q) rfl rfl ?_
  unfold f_X8_printedSize at hk
  show ab_E mm_X8_printedSize cX8_printedSize 0 _ [] h _ _
  refine ab_aload_n (pc := 0) (i := 0) dX8_printedSize_0 rfl rfl ?_
  obtain ⟨t1, ht1, hk⟩ := ab_bnd hk
  refine ab_getR (pc := 1) dX8_printedSize_1 fl_RX8_21 ht1 ?_
  refine ab_iconst (pc := 4) dX8_printedSize_4 ab_k_0 ?_
  obtain ⟨h1, hh1, hk⟩ := ab_bnd hk
  refine ab_putI_ (pc := 5) dX8_printedSize_5 fl_RX8_72 (fun q => by cases q) hh1 ?_
  refine ab_aload_n (pc := 8) (i := 0) dX8_printedSize_8 rfl rfl ?_
  obtain ⟨t2, ht2, hk⟩ := ab_bnd hk
  refine ab_getR (pc := 9) dX8_printedSize_9 fl_RX8_65 ht2 ?_
  refine ab_iload_n (pc := 12) (i := 1) dX8_printedSize_12 rfl rfl ?_
  refine ab_aload_n (pc := 13) (i := 0) dX8_printedSize_13 rfl rfl ?_
  obtain ⟨t3, ht3, hk⟩ := ab_bnd hk
  refine ab_getR (pc := 14) dX8_printedSize_14 fl_RX8_51 ht3 ?_
  refine ab_aload_n (pc := 17) (i := 0) dX8_printedSize_17 rfl rfl ?_
  obtain ⟨t4, ht4, hk⟩ := ab_bnd hk
  refine ab_getR (pc := 18) dX8_printedSize_18 fl_RX8_58 ht4 ?_
  refine ab_aload_n (pc := 21) (i := 0) dX8_printedSize_21 rfl rfl ?_
  obtain ⟨t5, ht5, hk⟩ := ab_bnd hk
  refine ab_getR (pc := 22) dX8_printedSize_22 fl_RX8_21 ht5 ?_
  obtain ⟨q6, hq6, hk⟩ := ab_bnd hk
  obtain ⟨hb, hq6⟩ := ab_on_some hq6
  refine ab_callVV (st := []) (as := [ab_I a1, ab_R t3, ab_R t4, ab_R t5]) (b := t2) (pc := 25) dX8_printedSize_25 ml_RX8_265 my_X6_printLine mv_X6_printLine hb (ct_X6_printLine hq6) ⟨Nat.le_of_ble_eq_true rfl, Nat.le_of_ble_eq_true rfl⟩ rfl (Nat.le_of_ble_eq_true rfl) rfl ?_
  refine ab_aload_n (pc := 28) (i := 0) dX8_printedSize_28 rfl rfl ?_
  obtain ⟨t7, ht7, hk⟩ := ab_bnd hk
  refine ab_getR (pc := 29) dX8_printedSize_29 fl_RX8_21 ht7 ?_
  obtain ⟨t8, ht8, hk⟩ := ab_bnd hk
  refine ab_getI (pc := 32) dX8_printedSize_32 fl_RX8_72 ht8 ?_
  obtain rfl := Option.some.inj hk
  exact ab_reti (pc := 35) dX8_printedSize_35 (Or.inl rfl)
theorem dX8_printAll_0 : decode cX8_printAll 0 = .ok (.aload_n 0, 1) := by decide +kernel
theorem dX8_printAll_1 : decode cX8_printAll 1 = .ok (.getfield 18, 3) := by decide +kernel
theorem dX8_printAll_4 : decode cX8_printAll 4 = .ok (.iconst 0, 1) := by decide +kernel
theorem dX8_printAll_5 : decode cX8_printAll 5 = .ok (.putfield 72, 3) := by decide +kernel
theorem dX8_printAll_8 : decode cX8_printAll 8 = .ok (.iconst 0, 1) := by decide +kernel
theorem dX8_printAll_9 : decode cX8_printAll 9 = .ok (.istore_n 1, 1) := by decide +kernel
theorem dX8_printAll_10 : decode cX8_printAll 10 = .ok (.iload_n 1, 1) := by decide +kernel
theorem dX8_printAll_11 : decode cX8_printAll 11 = .ok (.aload_n 0, 1) := by decide +kernel
theorem dX8_printAll_12 : decode cX8_printAll 12 = .ok (.getfield 65, 3) := by decide +kernel
theorem dX8_printAll_15 : decode cX8_printAll 15 = .ok (.getfield 112, 3) := by decide +kernel
theorem dX8_printAll_18 : decode cX8_printAll 18 = .ok (.if_icmp .ge 52, 3) := by decide +kernel
theorem dX8_printAll_21 : decode cX8_printAll 21 = .ok (.aload_n 0, 1) := by decide +kernel
theorem dX8_printAll_22 : decode cX8_printAll 22 = .ok (.getfield 18, 3) := by decide +kernel
theorem dX8_printAll_25 : decode cX8_printAll 25 = .ok (.getfield 72, 3) := by decide +kernel
theorem dX8_printAll_28 : decode cX8_printAll 28 = .ok (.aload_n 0, 1) := by decide +kernel
theorem dX8_printAll_29 : decode cX8_printAll 29 = .ok (.iload_n 1, 1) := by decide +kernel
theorem dX8_printAll_30 : decode cX8_printAll 30 = .ok (.invokevirtual 269, 3) := by decide +kernel
theorem dX8_printAll_33 : decode cX8_printAll 33 = .ok (.iadd, 1) := by decide +kernel
theorem dX8_printAll_34 : decode cX8_printAll 34 = .ok (.iconst 1, 1) := by decide +kernel
theorem dX8_printAll_35 : decode cX8_printAll 35 = .ok (.iadd, 1) := by decide +kernel
theorem dX8_printAll_36 : decode cX8_printAll 36 = .ok (.sipush 2000, 3) := by decide +kernel
theorem dX8_printAll_39 : decode cX8_printAll 39 = .ok (.if_icmp .le 5, 3) := by decide +kernel
theorem dX8_printAll_42 : decode cX8_printAll 42 = .ok (.iload_n 1, 1) := by decide +kernel
theorem dX8_printAll_43 : decode cX8_printAll 43 = .ok (.ireturn, 1) := by decide +kernel
theorem dX8_printAll_44 : decode cX8_printAll 44 = .ok (.aload_n 0, 1) := by decide +kernel
theorem dX8_printAll_45 : decode cX8_printAll 45 = .ok (.getfield 18, 3) := by decide +kernel
theorem dX8_printAll_48 : decode cX8_printAll 48 = .ok (.aload_n 0, 1) := by decide +kernel
theorem dX8_printAll_49 : decode cX8_printAll 49 = .ok (.getfield 21, 3) := by decide +kernel
theorem dX8_printAll_52 : decode cX8_printAll 52 = .ok (.invokevirtual 272, 3) := by decide +kernel
theorem dX8_printAll_55 : decode cX8_printAll 55 = .ok (.aload_n 0, 1) := by decide +kernel
theorem dX8_printAll_56 : decode cX8_printAll 56 = .ok (.getfield 18, 3) := by decide +kernel
theorem dX8_printAll_59 : decode cX8_printAll 59 = .ok (.bipush 10, 2) := by decide +kernel
theorem dX8_printAll_61 : decode cX8_printAll 61 = .ok (.invokevirtual 276, 3) := by decide +kernel
theorem dX8_printAll_64 : decode cX8_printAll 64 = .ok (.iinc 1 1, 3) := by decide +kernel
theorem dX8_printAll_67 : decode cX8_printAll 67 = .ok (.goto (-57), 3) := by decide +kernel
theorem dX8_printAll_70 : decode cX8_printAll 70 = .ok (.aload_n 0, 1) := by decide +kernel
theorem dX8_printAll_71 : decode cX8_printAll 71 = .ok (.getfield 65, 3) := by decide +kernel
theorem dX8_printAll_74 : decode cX8_printAll 74 = .ok (.getfield 112, 3) := by decide +kernel
theorem dX8_printAll_77 : decode cX8_printAll 77 = .ok (.ireturn, 1) := by decide +kernel
abbrev mm_X8_printAll : ab_M := (RX8, 2, (some .int), false, 5, 121, none)
noncomputable def f_X8_printAll_L10 : Nat → Int → Int → ab_H → Option (Int × ab_H)
  | 0, _, _, _ => none
  | n + 1, v0, v1, h =>
    (ab_get h 9 9 v0).bind fun t1 =>
    (ab_get h 7 3 t1).bind fun t2 =>
    if t2 ≤ v1 then
      (ab_get h 9 9 v0).bind fun t3 =>
      (ab_get h 7 3 t3).bind fun t4 =>
      some (t4, h)
    else
    (ab_get h 9 1 v0).bind fun t5 =>
    (ab_get h 2 1 t5).bind fun t6 =>
    (ab_on h 9 v0 (f_X8_printedSize v0 v1 h)).bind fun q7 =>
    if ab_w32 ((ab_w32 (t6 + q7.1)) + (1 : Int)) ≤ (2000 : Int) then
      (ab_get q7.2 9 1 v0).bind fun t8 =>
      (ab_get q7.2 9 2 v0).bind fun t9 =>
      (ab_on q7.2 2 t8 (f_X1_putAll t8 t9 q7.2)).bind fun q10 =>
      (ab_get q10 9 1 v0).bind fun t11 =>
      (ab_on q10 2 t11 (f_X1_put t11 (10 : Int) q10)).bind fun q12 =>
      f_X8_printAll_L10 n v0 (ab_w32 (v1 + (1 : Int))) q12
    else
    some (v1, q7.2)
set_option maxRecDepth 20000 in
theorem e_X8_printAll_L10 : ∀ (n : Nat) (v0 : Int) (v1 : Int) (h : ab_H) (q : Int × ab_H), f_X8_printAll_L10 n v0 v1 h = some q → ab_E mm_X8_printAll cX8_printAll 10 [some (ab_R v0), some (ab_I v1)] [] h (some (ab_I q.1)) q.2 := by
  intro n
  induction n with
  | zero => intro v0 v1 h q hk; cases hk
  | succ n ih =>
    intro v0 v1 h q hk
    unfold f_X8_printAll_L10 at hk
    refine ab_iload_n (pc := 10) (i := 1) dX8_printAll_10 rfl rfl ?_
    refine ab_aload_n (pc := 11) (i := 0) dX8_printAll_11 rfl rfl ?_
    obtain ⟨t1, ht1, hk⟩ := ab_bnd hk
    refine ab_getR (pc := 12) dX8_printAll_12 fl_RX8_65 ht1 ?_
    obtain ⟨t2, ht2, hk⟩ := ab_bnd hk
    refine ab_getI (pc := 15) dX8_printAll_15 fl_RX8_112 ht2 ?_
    refine ab_icmp_ge (pc := 18) (tgt := 70) dX8_printAll_18 rfl (fun hc => ?_) (fun hc => ?_)
    · have hk := ab_ifp hk hc
      refine ab_aload_n (pc := 70) (i := 0) dX8_printAll_70 rfl rfl ?_
      obtain ⟨t3, ht3, hk⟩ := ab_bnd hk
      refine ab_getR (pc := 71) dX8_printAll_71 fl_RX8_65 ht3 ?_
      obtain ⟨t4, ht4, hk⟩ := ab_bnd hk
      refine ab_getI (pc := 74) dX8_printAll_74 fl_RX8_112 ht4 ?_
      obtain rfl := Option.some.inj hk
      exact ab_reti (pc := 77) dX8_printAll_77 (Or.inl rfl)
    · have hk := ab_ifn hk hc
      refine ab_aload_n (pc := 21) (i := 0) dX8_printAll_21 rfl rfl ?_
      obtain ⟨t5, ht5, hk⟩ := ab_bnd hk
      refine ab_getR (pc := 22) dX8_printAll_22 fl_RX8_18 ht5 ?_
      obtain ⟨t6, ht6, hk⟩ := ab_bnd hk
      refine ab_getI (pc := 25) dX8_printAll_25 fl_RX8_72 ht6 ?_
      refine ab_aload_n (pc := 28) (i := 0) dX8_printAll_28 rfl rfl ?_
      refine ab_iload_n (pc := 29) (i := 1) dX8_printAll_29 rfl rfl ?_
      obtain ⟨q7, hq7, hk⟩ := ab_bnd hk
      obtain ⟨hb, hq7⟩ := ab_on_some hq7
      refine ab_callVI (st := [ab_I t6]) (as := [ab_I v1]) (b := v0) (pc := 30) dX8_printAll_30 ml_RX8_269 my_X8_printedSize mv_X8_printedSize hb (ct_X8_printedSize hq7) ⟨Nat.le_of_ble_eq_true rfl, Nat.le_of_ble_eq_true rfl⟩ rfl (Nat.le_of_ble_eq_true rfl) rfl ?_
      refine ab_iadd (pc := 33) dX8_printAll_33 ?_
      refine ab_iconst (pc := 34) dX8_printAll_34 ab_k_1 ?_
      refine ab_iadd (pc := 35) dX8_printAll_35 ?_
      refine ab_sipush (pc := 36) dX8_printAll_36 ab_p16_2000 ab_k_2000 ?_
      refine ab_icmp_le (pc := 39) (tgt := 44) dX8_printAll_39 rfl (fun hc => ?_) (fun hc => ?_)
      · have hk := ab_ifp hk hc
        refine ab_aload_n (pc := 44) (i := 0) dX8_printAll_44 rfl rfl ?_
        obtain ⟨t8, ht8, hk⟩ := ab_bnd hk
        refine ab_getR (pc := 45) dX8_printAll_45 fl_RX8_18 ht8 ?_
        refine ab_aload_n (pc := 48) (i := 0) dX8_printAll_48 rfl rfl ?_
        obtain ⟨t9, ht9, hk⟩ := ab_bnd hk
        refine ab_getR (pc := 49) dX8_printAll_49 fl_RX8_21 ht9 ?_
        obtain ⟨q10, hq10, hk⟩ := ab_bnd hk
        obtain ⟨hb, hq10⟩ := ab_on_some hq10
        refine ab_callVV (st := []) (as := [ab_R t9]) (b := t8) (pc := 52) dX8_printAll_52 ml_RX8_272 my_X1_putAll mv_X1_putAll hb (ct_X1_putAll hq10) ⟨Nat.le_of_ble_eq_true rfl, Nat.le_of_ble_eq_true rfl⟩ rfl (Nat.le_of_ble_eq_true rfl) rfl ?_
        refine ab_aload_n (pc := 55) (i := 0) dX8_printAll_55 rfl rfl ?_
        obtain ⟨t11, ht11, hk⟩ := ab_bnd hk
        refine ab_getR (pc := 56) dX8_printAll_56 fl_RX8_18 ht11 ?_
        refine ab_bipush (pc := 59) dX8_printAll_59 ab_p8_10 ab_k_10 ?_
        obtain ⟨q12, hq12, hk⟩ := ab_bnd hk
        obtain ⟨hb, hq12⟩ := ab_on_some hq12
        refine ab_callVV (st := []) (as := [ab_I (10 : Int)]) (b := t11) (pc := 61) dX8_printAll_61 ml_RX8_276 my_X1_put mv_X1_put hb (ct_X1_put hq12) ⟨Nat.le_of_ble_eq_true rfl, Nat.le_of_ble_eq_true rfl⟩ rfl (Nat.le_of_ble_eq_true rfl) rfl ?_
        refine ab_iinc (pc := 64) (i := 1) (lv2 := [some (ab_R v0), some (ab_I (ab_w32 (v1 + (1 : Int))))]) dX8_printAll_64 rfl (Nat.le_of_ble_eq_true rfl) rfl rfl ?_
        refine ab_goto (pc := 67) (tgt := 10) dX8_printAll_67 rfl ?_
        refine ab_sub_ (lv2 := [some (ab_R v0), some (ab_I (ab_w32 (v1 + (1 : Int))))]) (ab_ss (ab_ss ab_s0)) ?_
        exact ih _ _ _ _ hk
      · have hk := ab_ifn hk hc
        refine ab_iload_n (pc := 42) (i := 1) dX8_printAll_42 rfl rfl ?_
        obtain rfl := Option.some.inj hk
        exact ab_reti (pc := 43) dX8_printAll_43 (Or.inl rfl)
noncomputable def f_X8_printAll (a0 : Int) (h : ab_H) : Option (Int × ab_H) :=
  (ab_get h 9 1 a0).bind fun t1 =>
  (ab_put h 2 1 t1 (0 : Int)).bind fun h1 =>
  f_X8_printAll_L10 ab_FU a0 (0 : Int) h1
set_option maxRecDepth 20000 in
theorem ct_X8_printAll {a0 : Int} {h : ab_H} {q : Int × ab_H} (hk : f_X8_printAll a0 h = some q) : ab_CT yX8_printAll cX8_printAll 2 (some .int) 5 121 [ab_R a0] h (some (ab_I q.1)) q.2 := by
  refine ab_CT.mk_ 1 (own := RX8) (ini := false) (lv := [some (ab_R a0), none]) rfl (by decide +kernel) (fun q => by cases q) rfl rfl ?_
  unfold f_X8_printAll at hk
  show ab_E mm_X8_printAll cX8_printAll 0 _ [] h _ _
  refine ab_aload_n (pc := 0) (i := 0) dX8_printAll_0 rfl rfl ?_
  obtain ⟨t1, ht1, hk⟩ := ab_bnd hk
  refine ab_getR (pc := 1) dX8_printAll_1 fl_RX8_18 ht1 ?_
  refine ab_iconst (pc := 4) dX8_printAll_4 ab_k_0 ?_
  obtain ⟨h1, hh1, hk⟩ := ab_bnd hk
  refine ab_putI_ (pc := 5) dX8_printAll_5 fl_RX8_72 (fun q => by cases q) hh1 ?_
  refine ab_iconst (pc := 8) dX8_printAll_8 ab_k_0 ?_
  refine ab_istore_n (pc := 9) (i := 1) (lv2 := [some (ab_R a0), some (ab_I (0 : Int))]) dX8_printAll_9 rfl (Nat.le_of_ble_eq_true rfl) rfl rfl ?_
  refine ab_sub_ (lv2 := [some (ab_R a0), some (ab_I (0 : Int))]) (ab_ss (ab_ss ab_s0)) ?_
  refine e_X8_printAll_L10 _ _ _ _ _ hk
theorem dX8_octet_0 : decode cX8_octet 0 = .ok (.iload_n 1, 1) := by decide +kernel
theorem dX8_octet_1 : decode cX8_octet 1 = .ok (.ifCond .lt 26, 3) := by decide +kernel
theorem dX8_octet_4 : decode cX8_octet 4 = .ok (.iload_n 1, 1) := by decide +kernel
theorem dX8_octet_5 : decode cX8_octet 5 = .ok (.aload_n 0, 1) := by decide +kernel
theorem dX8_octet_6 : decode cX8_octet 6 = .ok (.getfield 18, 3) := by decide +kernel
theorem dX8_octet_9 : decode cX8_octet 9 = .ok (.getfield 72, 3) := by decide +kernel
theorem dX8_octet_12 : decode cX8_octet 12 = .ok (.if_icmp .ge 15, 3) := by decide +kernel
theorem dX8_octet_15 : decode cX8_octet 15 = .ok (.aload_n 0, 1) := by decide +kernel
theorem dX8_octet_16 : decode cX8_octet 16 = .ok (.getfield 18, 3) := by decide +kernel
theorem dX8_octet_19 : decode cX8_octet 19 = .ok (.getfield 279, 3) := by decide +kernel
theorem dX8_octet_22 : decode cX8_octet 22 = .ok (.iload_n 1, 1) := by decide +kernel
theorem dX8_octet_23 : decode cX8_octet 23 = .ok (.baload, 1) := by decide +kernel
theorem dX8_octet_24 : decode cX8_octet 24 = .ok (.goto 4, 3) := by decide +kernel
theorem dX8_octet_27 : decode cX8_octet 27 = .ok (.iconst (-1), 1) := by decide +kernel
theorem dX8_octet_28 : decode cX8_octet 28 = .ok (.ireturn, 1) := by decide +kernel
abbrev mm_X8_octet : ab_M := (RX8, 2, (some .int), false, 0, 0, none)
noncomputable def f_X8_octet_J27 (h : ab_H) : Option (Int × ab_H) :=
  some ((-1 : Int), h)
set_option maxRecDepth 20000 in
theorem e_X8_octet_J27 : ∀ (h : ab_H) (q : Int × ab_H), f_X8_octet_J27  h = some q → ab_E mm_X8_octet cX8_octet 27 [none, none] [] h (some (ab_I q.1)) q.2 := by
  intro  h q hk
  unfold f_X8_octet_J27 at hk
  refine ab_iconst (pc := 27) dX8_octet_27 ab_k_m1 ?_
  obtain rfl := Option.some.inj hk
  exact ab_reti (pc := 28) dX8_octet_28 (Or.inl rfl)
noncomputable def f_X8_octet (a0 : Int) (a1 : Int) (h : ab_H) : Option (Int × ab_H) :=
  if a1 < (0 : Int) then
    f_X8_octet_J27 h
  else
  (ab_get h 9 1 a0).bind fun t1 =>
  (ab_get h 2 1 t1).bind fun t2 =>
  if t2 ≤ a1 then
    f_X8_octet_J27 h
  else
  (ab_get h 9 1 a0).bind fun t3 =>
  (ab_get h 2 0 t3).bind fun t4 =>
  (ab_ald h 13 t4 a1).bind fun t5 =>
  some (t5, h)
set_option maxRecDepth 20000 in
theorem ct_X8_octet {a0 a1 : Int} {h : ab_H} {q : Int × ab_H} (hk : f_X8_octet a0 a1 h = some q) : ab_CT yX8_octet cX8_octet 2 (some .int) 0 0 [ab_R a0, ab_I a1] h (some (ab_I q.1)) q.2 := by
  refine ab_CT.mk_ 0 (own := RX8) (ini := false) (lv := [some (ab_R a0), some (ab_I a1)]) rfl (by decide +kernel) (fun q => by cases q) rfl rfl ?_
  unfold f_X8_octet at hk
  show ab_E mm_X8_octet cX8_octet 0 _ [] h _ _
  refine ab_iload_n (pc := 0) (i := 1) dX8_octet_0 rfl rfl ?_
  refine ab_if_lt (pc := 1) (tgt := 27) dX8_octet_1 rfl (fun hc => ?_) (fun hc => ?_)
  · have hk := ab_ifp hk hc
    refine ab_sub_ (lv2 := [none, none]) (ab_sn (ab_sn ab_s0)) ?_
    exact e_X8_octet_J27  _ _ hk
  · have hk := ab_ifn hk hc
    refine ab_iload_n (pc := 4) (i := 1) dX8_octet_4 rfl rfl ?_
    refine ab_aload_n (pc := 5) (i := 0) dX8_octet_5 rfl rfl ?_
    obtain ⟨t1, ht1, hk⟩ := ab_bnd hk
    refine ab_getR (pc := 6) dX8_octet_6 fl_RX8_18 ht1 ?_
    obtain ⟨t2, ht2, hk⟩ := ab_bnd hk
    refine ab_getI (pc := 9) dX8_octet_9 fl_RX8_72 ht2 ?_
    refine ab_icmp_ge (pc := 12) (tgt := 27) dX8_octet_12 rfl (fun hc => ?_) (fun hc => ?_)
    · have hk := ab_ifp hk hc
      refine ab_sub_ (lv2 := [none, none]) (ab_sn (ab_sn ab_s0)) ?_
      exact e_X8_octet_J27  _ _ hk
    · have hk := ab_ifn hk hc
      refine ab_aload_n (pc := 15) (i := 0) dX8_octet_15 rfl rfl ?_
      obtain ⟨t3, ht3, hk⟩ := ab_bnd hk
      refine ab_getR (pc := 16) dX8_octet_16 fl_RX8_18 ht3 ?_
      obtain ⟨t4, ht4, hk⟩ := ab_bnd hk
      refine ab_getR (pc := 19) dX8_octet_19 fl_RX8_279 ht4 ?_
      refine ab_iload_n (pc := 22) (i := 1) dX8_octet_22 rfl rfl ?_
      obtain ⟨t5, ht5, hk⟩ := ab_bnd hk
      refine ab_bald (pc := 23) dX8_octet_23 ht5 ?_
      refine ab_goto (pc := 24) (tgt := 28) dX8_octet_24 rfl ?_
      obtain rfl := Option.some.inj hk
      exact ab_reti (pc := 28) dX8_octet_28 (Or.inl rfl)
theorem dX8_longest_0 : decode cX8_longest 0 = .ok (.iconst (-1), 1) := by decide +kernel
theorem dX8_longest_1 : decode cX8_longest 1 = .ok (.istore_n 1, 1) := by decide +kernel
theorem dX8_longest_2 : decode cX8_longest 2 = .ok (.iconst 0, 1) := by decide +kernel
theorem dX8_longest_3 : decode cX8_longest 3 = .ok (.istore_n 2, 1) := by decide +kernel
theorem dX8_longest_4 : decode cX8_longest 4 = .ok (.iconst 0, 1) := by decide +kernel
theorem dX8_longest_5 : decode cX8_longest 5 = .ok (.istore_n 3, 1) := by decide +kernel
theorem dX8_longest_6 : decode cX8_longest 6 = .ok (.iload_n 3, 1) := by decide +kernel
theorem dX8_longest_7 : decode cX8_longest 7 = .ok (.aload_n 0, 1) := by decide +kernel
theorem dX8_longest_8 : decode cX8_longest 8 = .ok (.getfield 65, 3) := by decide +kernel
theorem dX8_longest_11 : decode cX8_longest 11 = .ok (.getfield 112, 3) := by decide +kernel
theorem dX8_longest_14 : decode cX8_longest 14 = .ok (.if_icmp .ge 27, 3) := by decide +kernel
theorem dX8_longest_17 : decode cX8_longest 17 = .ok (.aload_n 0, 1) := by decide +kernel
theorem dX8_longest_18 : decode cX8_longest 18 = .ok (.iload_n 3, 1) := by decide +kernel
theorem dX8_longest_19 : decode cX8_longest 19 = .ok (.invokevirtual 269, 3) := by decide +kernel
theorem dX8_longest_22 : decode cX8_longest 22 = .ok (.istore 4, 2) := by decide +kernel
theorem dX8_longest_24 : decode cX8_longest 24 = .ok (.iload 4, 2) := by decide +kernel
theorem dX8_longest_26 : decode cX8_longest 26 = .ok (.iload_n 2, 1) := by decide +kernel
theorem dX8_longest_27 : decode cX8_longest 27 = .ok (.if_icmp .le 8, 3) := by decide +kernel
theorem dX8_longest_30 : decode cX8_longest 30 = .ok (.iload 4, 2) := by decide +kernel
theorem dX8_longest_32 : decode cX8_longest 32 = .ok (.istore_n 2, 1) := by decide +kernel
theorem dX8_longest_33 : decode cX8_longest 33 = .ok (.iload_n 3, 1) := by decide +kernel
theorem dX8_longest_34 : decode cX8_longest 34 = .ok (.istore_n 1, 1) := by decide +kernel
theorem dX8_longest_35 : decode cX8_longest 35 = .ok (.iinc 3 1, 3) := by decide +kernel
theorem dX8_longest_38 : decode cX8_longest 38 = .ok (.goto (-32), 3) := by decide +kernel
theorem dX8_longest_41 : decode cX8_longest 41 = .ok (.iload_n 1, 1) := by decide +kernel
theorem dX8_longest_42 : decode cX8_longest 42 = .ok (.ireturn, 1) := by decide +kernel
abbrev mm_X8_longest : ab_M := (RX8, 5, (some .int), false, 5, 121, none)
noncomputable def f_X8_longest_J35 (rec : Int → Int → Int → Int → ab_H → Option (Int × ab_H)) (v0 : Int) (v1 : Int) (v2 : Int) (v3 : Int) (h : ab_H) : Option (Int × ab_H) :=
  rec v0 v1 v2 (ab_w32 (v3 + (1 : Int))) h
set_option maxRecDepth 20000 in
theorem e_X8_longest_J35 {rec : Int → Int → Int → Int → ab_H → Option (Int × ab_H)} (hrec : ∀ (v0 : Int) (v1 : Int) (v2 : Int) (v3 : Int) (h : ab_H) (q : Int × ab_H), rec v0 v1 v2 v3 h = some q → ab_E mm_X8_longest cX8_longest 6 [some (ab_R v0), some (ab_I v1), some (ab_I v2), some (ab_I v3), none] [] h (some (ab_I q.1)) q.2) : ∀ (v0 : Int) (v1 : Int) (v2 : Int) (v3 : Int) (h : ab_H) (q : Int × ab_H), f_X8_longest_J35 rec v0 v1 v2 v3 h = some q → ab_E mm_X8_longest cX8_longest 35 [some (ab_R v0), some (ab_I v1), some (ab_I v2), some (ab_I v3), none] [] h (some (ab_I q.1)) q.2 := by
  intro v0 v1 v2 v3 h q hk
  unfold f_X8_longest_J35 at hk
  refine ab_iinc (pc := 35) (i := 3) (lv2 := [some (ab_R v0), some (ab_I v1), some (ab_I v2), some (ab_I (ab_w32 (v3 + (1 : Int)))), none]) dX8_longest_35 rfl (Nat.le_of_ble_eq_true rfl) rfl rfl ?_
  refine ab_goto (pc := 38) (tgt := 6) dX8_longest_38 rfl ?_
  refine ab_sub_ (lv2 := [some (ab_R v0), some (ab_I v1), some (ab_I v2), some (ab_I (ab_w32 (v3 + (1 : Int)))), none]) (ab_ss (ab_ss (ab_ss (ab_ss (ab_sn ab_s0))))) ?_
  exact hrec _ _ _ _ _ _ hk
noncomputable def f_X8_longest_L6 : Nat → Int → Int → Int → Int → ab_H → Option (Int × ab_H)
  | 0, _, _, _, _, _ => none
  | n + 1, v0, v1, v2, v3, h =>
    (ab_get h 9 9 v0).bind fun t1 =>
    (ab_get h 7 3 t1).bind fun t2 =>
    if t2 ≤ v3 then
      some (v1, h)
    else
    (ab_on h 9 v0 (f_X8_printedSize v0 v3 h)).bind fun q3 =>
    if q3.1 ≤ v2 then
      f_X8_longest_J35 (f_X8_longest_L6 n) v0 v1 v2 v3 q3.2
    else
    f_X8_longest_J35 (f_X8_longest_L6 n) v0 v3 q3.1 v3 q3.2
set_option maxRecDepth 20000 in
theorem e_X8_longest_L6 : ∀ (n : Nat) (v0 : Int) (v1 : Int) (v2 : Int) (v3 : Int) (h : ab_H) (q : Int × ab_H), f_X8_longest_L6 n v0 v1 v2 v3 h = some q → ab_E mm_X8_longest cX8_longest 6 [some (ab_R v0), some (ab_I v1), some (ab_I v2), some (ab_I v3), none] [] h (some (ab_I q.1)) q.2 := by
  intro n
  induction n with
  | zero => intro v0 v1 v2 v3 h q hk; cases hk
  | succ n ih =>
    intro v0 v1 v2 v3 h q hk
    unfold f_X8_longest_L6 at hk
    refine ab_iload_n (pc := 6) (i := 3) dX8_longest_6 rfl rfl ?_
    refine ab_aload_n (pc := 7) (i := 0) dX8_longest_7 rfl rfl ?_
    obtain ⟨t1, ht1, hk⟩ := ab_bnd hk
    refine ab_getR (pc := 8) dX8_longest_8 fl_RX8_65 ht1 ?_
    obtain ⟨t2, ht2, hk⟩ := ab_bnd hk
    refine ab_getI (pc := 11) dX8_longest_11 fl_RX8_112 ht2 ?_
    refine ab_icmp_ge (pc := 14) (tgt := 41) dX8_longest_14 rfl (fun hc => ?_) (fun hc => ?_)
    · have hk := ab_ifp hk hc
      refine ab_iload_n (pc := 41) (i := 1) dX8_longest_41 rfl rfl ?_
      obtain rfl := Option.some.inj hk
      exact ab_reti (pc := 42) dX8_longest_42 (Or.inl rfl)
    · have hk := ab_ifn hk hc
      refine ab_aload_n (pc := 17) (i := 0) dX8_longest_17 rfl rfl ?_
      refine ab_iload_n (pc := 18) (i := 3) dX8_longest_18 rfl rfl ?_
      obtain ⟨q3, hq3, hk⟩ := ab_bnd hk
      obtain ⟨hb, hq3⟩ := ab_on_some hq3
      refine ab_callVI (st := []) (as := [ab_I v3]) (b := v0) (pc := 19) dX8_longest_19 ml_RX8_269 my_X8_printedSize mv_X8_printedSize hb (ct_X8_printedSize hq3) ⟨Nat.le_of_ble_eq_true rfl, Nat.le_of_ble_eq_true rfl⟩ rfl (Nat.le_of_ble_eq_true rfl) rfl ?_
      refine ab_istore (pc := 22) (i := 4) (lv2 := [some (ab_R v0), some (ab_I v1), some (ab_I v2), some (ab_I v3), some (ab_I q3.1)]) dX8_longest_22 (Nat.le_of_ble_eq_true rfl) rfl rfl ?_
      refine ab_iload (pc := 24) (i := 4) dX8_longest_24 rfl ?_
      refine ab_iload_n (pc := 26) (i := 2) dX8_longest_26 rfl rfl ?_
      refine ab_icmp_le (pc := 27) (tgt := 35) dX8_longest_27 rfl (fun hc => ?_) (fun hc => ?_)
      · have hk := ab_ifp hk hc
        refine ab_sub_ (lv2 := [some (ab_R v0), some (ab_I v1), some (ab_I v2), some (ab_I v3), none]) (ab_ss (ab_ss (ab_ss (ab_ss (ab_sn ab_s0))))) ?_
        exact e_X8_longest_J35 ih _ _ _ _ _ _ hk
      · have hk := ab_ifn hk hc
        refine ab_iload (pc := 30) (i := 4) dX8_longest_30 rfl ?_
        refine ab_istore_n (pc := 32) (i := 2) (lv2 := [some (ab_R v0), some (ab_I v1), some (ab_I q3.1), some (ab_I v3), some (ab_I q3.1)]) dX8_longest_32 rfl (Nat.le_of_ble_eq_true rfl) rfl rfl ?_
        refine ab_iload_n (pc := 33) (i := 3) dX8_longest_33 rfl rfl ?_
        refine ab_istore_n (pc := 34) (i := 1) (lv2 := [some (ab_R v0), some (ab_I v3), some (ab_I q3.1), some (ab_I v3), some (ab_I q3.1)]) dX8_longest_34 rfl (Nat.le_of_ble_eq_true rfl) rfl rfl ?_
        refine ab_sub_ (lv2 := [some (ab_R v0), some (ab_I v3), some (ab_I q3.1), some (ab_I v3), none]) (ab_ss (ab_ss (ab_ss (ab_ss (ab_sn ab_s0))))) ?_
        exact e_X8_longest_J35 ih _ _ _ _ _ _ hk
noncomputable def f_X8_longest (a0 : Int) (h : ab_H) : Option (Int × ab_H) :=
  f_X8_longest_L6 ab_FU a0 (-1 : Int) (0 : Int) (0 : Int) h
set_option maxRecDepth 20000 in
theorem ct_X8_longest {a0 : Int} {h : ab_H} {q : Int × ab_H} (hk : f_X8_longest a0 h = some q) : ab_CT yX8_longest cX8_longest 5 (some .int) 5 121 [ab_R a0] h (some (ab_I q.1)) q.2 := by
  refine ab_CT.mk_ 4 (own := RX8) (ini := false) (lv := [some (ab_R a0), none, none, none, none]) rfl (by decide +kernel) (fun q => by cases q) rfl rfl ?_
  unfold f_X8_longest at hk
  show ab_E mm_X8_longest cX8_longest 0 _ [] h _ _
  refine ab_iconst (pc := 0) dX8_longest_0 ab_k_m1 ?_
  refine ab_istore_n (pc := 1) (i := 1) (lv2 := [some (ab_R a0), some (ab_I (-1 : Int)), none, none, none]) dX8_longest_1 rfl (Nat.le_of_ble_eq_true rfl) rfl rfl ?_
  refine ab_iconst (pc := 2) dX8_longest_2 ab_k_0 ?_
  refine ab_istore_n (pc := 3) (i := 2) (lv2 := [some (ab_R a0), some (ab_I (-1 : Int)), some (ab_I (0 : Int)), none, none]) dX8_longest_3 rfl (Nat.le_of_ble_eq_true rfl) rfl rfl ?_
  refine ab_iconst (pc := 4) dX8_longest_4 ab_k_0 ?_
  refine ab_istore_n (pc := 5) (i := 3) (lv2 := [some (ab_R a0), some (ab_I (-1 : Int)), some (ab_I (0 : Int)), some (ab_I (0 : Int)), none]) dX8_longest_5 rfl (Nat.le_of_ble_eq_true rfl) rfl rfl ?_
  refine ab_sub_ (lv2 := [some (ab_R a0), some (ab_I (-1 : Int)), some (ab_I (0 : Int)), some (ab_I (0 : Int)), none]) (ab_ss (ab_ss (ab_ss (ab_ss (ab_sn ab_s0))))) ?_
  refine e_X8_longest_L6 _ _ _ _ _ _ _ hk
theorem dX8_begins_0 : decode cX8_begins 0 = .ok (.aload_n 0, 1) := by decide +kernel
theorem dX8_begins_1 : decode cX8_begins 1 = .ok (.getfield 14, 3) := by decide +kernel
theorem dX8_begins_4 : decode cX8_begins 4 = .ok (.invokevirtual 177, 3) := by decide +kernel
theorem dX8_begins_7 : decode cX8_begins 7 = .ok (.lstore_n 2, 1) := by decide +kernel
theorem dX8_begins_8 : decode cX8_begins 8 = .ok (.aload_n 0, 1) := by decide +kernel
theorem dX8_begins_9 : decode cX8_begins 9 = .ok (.getfield 14, 3) := by decide +kernel
theorem dX8_begins_12 : decode cX8_begins 12 = .ok (.getfield 72, 3) := by decide +kernel
theorem dX8_begins_15 : decode cX8_begins 15 = .ok (.istore 4, 2) := by decide +kernel
theorem dX8_begins_17 : decode cX8_begins 17 = .ok (.aload_n 0, 1) := by decide +kernel
theorem dX8_begins_18 : decode cX8_begins 18 = .ok (.getfield 14, 3) := by decide +kernel
theorem dX8_begins_21 : decode cX8_begins 21 = .ok (.iconst 0, 1) := by decide +kernel
theorem dX8_begins_22 : decode cX8_begins 22 = .ok (.putfield 72, 3) := by decide +kernel
theorem dX8_begins_25 : decode cX8_begins 25 = .ok (.iload_n 1, 1) := by decide +kernel
theorem dX8_begins_26 : decode cX8_begins 26 = .ok (.iconst (-1), 1) := by decide +kernel
theorem dX8_begins_27 : decode cX8_begins 27 = .ok (.if_icmp .lt 11, 3) := by decide +kernel
theorem dX8_begins_30 : decode cX8_begins 30 = .ok (.lload_n 2, 1) := by decide +kernel
theorem dX8_begins_31 : decode cX8_begins 31 = .ok (.ldc2_w 181, 3) := by decide +kernel
theorem dX8_begins_34 : decode cX8_begins 34 = .ok (.lcmp, 1) := by decide +kernel
theorem dX8_begins_35 : decode cX8_begins 35 = .ok (.ifCond .ne 6, 3) := by decide +kernel
theorem dX8_begins_38 : decode cX8_begins 38 = .ok (.bipush (-2), 2) := by decide +kernel
theorem dX8_begins_40 : decode cX8_begins 40 = .ok (.ireturn, 1) := by decide +kernel
theorem dX8_begins_41 : decode cX8_begins 41 = .ok (.iconst 0, 1) := by decide +kernel
theorem dX8_begins_42 : decode cX8_begins 42 = .ok (.istore 5, 2) := by decide +kernel
theorem dX8_begins_44 : decode cX8_begins 44 = .ok (.iconst 0, 1) := by decide +kernel
theorem dX8_begins_45 : decode cX8_begins 45 = .ok (.istore 6, 2) := by decide +kernel
theorem dX8_begins_47 : decode cX8_begins 47 = .ok (.iload 6, 2) := by decide +kernel
theorem dX8_begins_49 : decode cX8_begins 49 = .ok (.aload_n 0, 1) := by decide +kernel
theorem dX8_begins_50 : decode cX8_begins 50 = .ok (.getfield 65, 3) := by decide +kernel
theorem dX8_begins_53 : decode cX8_begins 53 = .ok (.getfield 113, 3) := by decide +kernel
theorem dX8_begins_56 : decode cX8_begins 56 = .ok (.if_icmp .ge 66, 3) := by decide +kernel
theorem dX8_begins_59 : decode cX8_begins 59 = .ok (.aload_n 0, 1) := by decide +kernel
theorem dX8_begins_60 : decode cX8_begins 60 = .ok (.getfield 51, 3) := by decide +kernel
theorem dX8_begins_63 : decode cX8_begins 63 = .ok (.getfield 164, 3) := by decide +kernel
theorem dX8_begins_66 : decode cX8_begins 66 = .ok (.aload_n 0, 1) := by decide +kernel
theorem dX8_begins_67 : decode cX8_begins 67 = .ok (.getfield 65, 3) := by decide +kernel
theorem dX8_begins_70 : decode cX8_begins 70 = .ok (.getfield 196, 3) := by decide +kernel
theorem dX8_begins_73 : decode cX8_begins 73 = .ok (.aload_n 0, 1) := by decide +kernel
theorem dX8_begins_74 : decode cX8_begins 74 = .ok (.getfield 65, 3) := by decide +kernel
theorem dX8_begins_77 : decode cX8_begins 77 = .ok (.getfield 240, 3) := by decide +kernel
theorem dX8_begins_80 : decode cX8_begins 80 = .ok (.iload 6, 2) := by decide +kernel
theorem dX8_begins_82 : decode cX8_begins 82 = .ok (.iaload, 1) := by decide +kernel
theorem dX8_begins_83 : decode cX8_begins 83 = .ok (.aaload, 1) := by decide +kernel
theorem dX8_begins_84 : decode cX8_begins 84 = .ok (.getfield 243, 3) := by decide +kernel
theorem dX8_begins_87 : decode cX8_begins 87 = .ok (.laload, 1) := by decide +kernel
theorem dX8_begins_88 : decode cX8_begins 88 = .ok (.lstore 7, 2) := by decide +kernel
theorem dX8_begins_90 : decode cX8_begins 90 = .ok (.lload 7, 2) := by decide +kernel
theorem dX8_begins_92 : decode cX8_begins 92 = .ok (.lload_n 2, 1) := by decide +kernel
theorem dX8_begins_93 : decode cX8_begins 93 = .ok (.iload 4, 2) := by decide +kernel
theorem dX8_begins_95 : decode cX8_begins 95 = .ok (.invokestatic 283, 3) := by decide +kernel
theorem dX8_begins_98 : decode cX8_begins 98 = .ok (.ifCond .ne 6, 3) := by decide +kernel
theorem dX8_begins_101 : decode cX8_begins 101 = .ok (.goto 15, 3) := by decide +kernel
theorem dX8_begins_104 : decode cX8_begins 104 = .ok (.iload 5, 2) := by decide +kernel
theorem dX8_begins_106 : decode cX8_begins 106 = .ok (.iload_n 1, 1) := by decide +kernel
theorem dX8_begins_107 : decode cX8_begins 107 = .ok (.if_icmp .ne 6, 3) := by decide +kernel
theorem dX8_begins_110 : decode cX8_begins 110 = .ok (.iload 6, 2) := by decide +kernel
theorem dX8_begins_112 : decode cX8_begins 112 = .ok (.ireturn, 1) := by decide +kernel
theorem dX8_begins_113 : decode cX8_begins 113 = .ok (.iinc 5 1, 3) := by decide +kernel
theorem dX8_begins_116 : decode cX8_begins 116 = .ok (.iinc 6 1, 3) := by decide +kernel
theorem dX8_begins_119 : decode cX8_begins 119 = .ok (.goto (-72), 3) := by decide +kernel
theorem dX8_begins_122 : decode cX8_begins 122 = .ok (.iload_n 1, 1) := by decide +kernel
theorem dX8_begins_123 : decode cX8_begins 123 = .ok (.iconst (-1), 1) := by decide +kernel
theorem dX8_begins_124 : decode cX8_begins 124 = .ok (.if_icmp .ne 8, 3) := by decide +kernel
theorem dX8_begins_127 : decode cX8_begins 127 = .ok (.iload 5, 2) := by decide +kernel
theorem dX8_begins_129 : decode cX8_begins 129 = .ok (.goto 4, 3) := by decide +kernel
theorem dX8_begins_132 : decode cX8_begins 132 = .ok (.iconst (-1), 1) := by decide +kernel
theorem dX8_begins_133 : decode cX8_begins 133 = .ok (.ireturn, 1) := by decide +kernel
abbrev mm_X8_begins : ab_M := (RX8, 9, (some .int), false, 2, 47, none)
noncomputable def f_X8_begins_J116 (rec : Int → Int → Int → Int → Int → Int → ab_H → Option (Int × ab_H)) (k122 : Int → Int → ab_H → Option (Int × ab_H)) (v0 : Int) (v1 : Int) (v2 : Int) (v4 : Int) (v5 : Int) (v6 : Int) (h : ab_H) : Option (Int × ab_H) :=
  rec v0 v1 v2 v4 v5 (ab_w32 (v6 + (1 : Int))) h
set_option maxRecDepth 20000 in
theorem e_X8_begins_J116 {rec : Int → Int → Int → Int → Int → Int → ab_H → Option (Int × ab_H)} {k122 : Int → Int → ab_H → Option (Int × ab_H)} (hrec : ∀ (v0 : Int) (v1 : Int) (v2 : Int) (v4 : Int) (v5 : Int) (v6 : Int) (h : ab_H) (q : Int × ab_H), rec v0 v1 v2 v4 v5 v6 h = some q → ab_E mm_X8_begins cX8_begins 47 [some (ab_R v0), some (ab_I v1), some (ab_J v2), none, some (ab_I v4), some (ab_I v5), some (ab_I v6), none, none] [] h (some (ab_I q.1)) q.2) (hk122 : ∀ (v1 : Int) (v5 : Int) (h : ab_H) (q : Int × ab_H), k122 v1 v5 h = some q → ab_E mm_X8_begins cX8_begins 122 [none, some (ab_I v1), none, none, none, some (ab_I v5), none, none, none] [] h (some (ab_I q.1)) q.2) : ∀ (v0 : Int) (v1 : Int) (v2 : Int) (v4 : Int) (v5 : Int) (v6 : Int) (h : ab_H) (q : Int × ab_H), f_X8_begins_J116 rec k122 v0 v1 v2 v4 v5 v6 h = some q → ab_E mm_X8_begins cX8_begins 116 [some (ab_R v0), some (ab_I v1), some (ab_J v2), none, some (ab_I v4), some (ab_I v5), some (ab_I v6), none, none] [] h (some (ab_I q.1)) q.2 := by
  intro v0 v1 v2 v4 v5 v6 h q hk
  unfold f_X8_begins_J116 at hk
  refine ab_iinc (pc := 116) (i := 6) (lv2 := [some (ab_R v0), some (ab_I v1), some (ab_J v2), none, some (ab_I v4), some (ab_I v5), some (ab_I (ab_w32 (v6 + (1 : Int)))), none, none]) dX8_begins_116 rfl (Nat.le_of_ble_eq_true rfl) rfl rfl ?_
  refine ab_goto (pc := 119) (tgt := 47) dX8_begins_119 rfl ?_
  refine ab_sub_ (lv2 := [some (ab_R v0), some (ab_I v1), some (ab_J v2), none, some (ab_I v4), some (ab_I v5), some (ab_I (ab_w32 (v6 + (1 : Int)))), none, none]) (ab_ss (ab_ss (ab_ss (ab_sn (ab_ss (ab_ss (ab_ss (ab_sn (ab_sn ab_s0))))))))) ?_
  exact hrec _ _ _ _ _ _ _ _ hk
noncomputable def f_X8_begins_L47 (k122 : Int → Int → ab_H → Option (Int × ab_H)) : Nat → Int → Int → Int → Int → Int → Int → ab_H → Option (Int × ab_H)
  | 0, _, _, _, _, _, _, _ => none
  | n + 1, v0, v1, v2, v4, v5, v6, h =>
    (ab_get h 9 9 v0).bind fun t1 =>
    (ab_get h 7 5 t1).bind fun t2 =>
    if t2 ≤ v6 then
      k122 v1 v5 h
    else
    (ab_get h 9 7 v0).bind fun t3 =>
    (ab_get h 8 1 t3).bind fun t4 =>
    (ab_get h 9 9 v0).bind fun t5 =>
    (ab_get h 7 0 t5).bind fun t6 =>
    (ab_get h 9 9 v0).bind fun t7 =>
    (ab_get h 7 4 t7).bind fun t8 =>
    (ab_ald h 11 t8 v6).bind fun t9 =>
    (ab_ald h 15 t6 t9).bind fun t10 =>
    (ab_get h 3 3 t10).bind fun t11 =>
    (ab_ald h 12 t4 t11).bind fun t12 =>
    (f_X8_beginsWith t12 v2 v4 h).bind fun q13 =>
    if q13.1 = (0 : Int) then
      f_X8_begins_J116 (f_X8_begins_L47 k122 n) k122 v0 v1 v2 v4 v5 v6 q13.2
    else
    if v5 = v1 then
      some (v6, q13.2)
    else
    f_X8_begins_J116 (f_X8_begins_L47 k122 n) k122 v0 v1 v2 v4 (ab_w32 (v5 + (1 : Int))) v6 q13.2
set_option maxRecDepth 20000 in
theorem e_X8_begins_L47 {k122 : Int → Int → ab_H → Option (Int × ab_H)} (hk122 : ∀ (v1 : Int) (v5 : Int) (h : ab_H) (q : Int × ab_H), k122 v1 v5 h = some q → ab_E mm_X8_begins cX8_begins 122 [none, some (ab_I v1), none, none, none, some (ab_I v5), none, none, none] [] h (some (ab_I q.1)) q.2) : ∀ (n : Nat) (v0 : Int) (v1 : Int) (v2 : Int) (v4 : Int) (v5 : Int) (v6 : Int) (h : ab_H) (q : Int × ab_H), f_X8_begins_L47 k122 n v0 v1 v2 v4 v5 v6 h = some q → ab_E mm_X8_begins cX8_begins 47 [some (ab_R v0), some (ab_I v1), some (ab_J v2), none, some (ab_I v4), some (ab_I v5), some (ab_I v6), none, none] [] h (some (ab_I q.1)) q.2 := by
  intro n
  induction n with
  | zero => intro v0 v1 v2 v4 v5 v6 h q hk; cases hk
  | succ n ih =>
    intro v0 v1 v2 v4 v5 v6 h q hk
    unfold f_X8_begins_L47 at hk
    refine ab_iload (pc := 47) (i := 6) dX8_begins_47 rfl ?_
    refine ab_aload_n (pc := 49) (i := 0) dX8_begins_49 rfl rfl ?_
    obtain ⟨t1, ht1, hk⟩ := ab_bnd hk
    refine ab_getR (pc := 50) dX8_begins_50 fl_RX8_65 ht1 ?_
    obtain ⟨t2, ht2, hk⟩ := ab_bnd hk
    refine ab_getI (pc := 53) dX8_begins_53 fl_RX8_113 ht2 ?_
    refine ab_icmp_ge (pc := 56) (tgt := 122) dX8_begins_56 rfl (fun hc => ?_) (fun hc => ?_)
    · have hk := ab_ifp hk hc
      refine ab_sub_ (lv2 := [none, some (ab_I v1), none, none, none, some (ab_I v5), none, none, none]) (ab_sn (ab_ss (ab_sn (ab_sn (ab_sn (ab_ss (ab_sn (ab_sn (ab_sn ab_s0))))))))) ?_
      exact hk122 _ _ _ _ hk
    · have hk := ab_ifn hk hc
      refine ab_aload_n (pc := 59) (i := 0) dX8_begins_59 rfl rfl ?_
      obtain ⟨t3, ht3, hk⟩ := ab_bnd hk
      refine ab_getR (pc := 60) dX8_begins_60 fl_RX8_51 ht3 ?_
      obtain ⟨t4, ht4, hk⟩ := ab_bnd hk
      refine ab_getR (pc := 63) dX8_begins_63 fl_RX8_164 ht4 ?_
      refine ab_aload_n (pc := 66) (i := 0) dX8_begins_66 rfl rfl ?_
      obtain ⟨t5, ht5, hk⟩ := ab_bnd hk
      refine ab_getR (pc := 67) dX8_begins_67 fl_RX8_65 ht5 ?_
      obtain ⟨t6, ht6, hk⟩ := ab_bnd hk
      refine ab_getR (pc := 70) dX8_begins_70 fl_RX8_196 ht6 ?_
      refine ab_aload_n (pc := 73) (i := 0) dX8_begins_73 rfl rfl ?_
      obtain ⟨t7, ht7, hk⟩ := ab_bnd hk
      refine ab_getR (pc := 74) dX8_begins_74 fl_RX8_65 ht7 ?_
      obtain ⟨t8, ht8, hk⟩ := ab_bnd hk
      refine ab_getR (pc := 77) dX8_begins_77 fl_RX8_240 ht8 ?_
      refine ab_iload (pc := 80) (i := 6) dX8_begins_80 rfl ?_
      obtain ⟨t9, ht9, hk⟩ := ab_bnd hk
      refine ab_iald (pc := 82) dX8_begins_82 ht9 ?_
      obtain ⟨t10, ht10, hk⟩ := ab_bnd hk
      refine ab_aald (pc := 83) dX8_begins_83 (by decide) ht10 ?_
      obtain ⟨t11, ht11, hk⟩ := ab_bnd hk
      refine ab_getI (pc := 84) dX8_begins_84 fl_RX8_243 ht11 ?_
      obtain ⟨t12, ht12, hk⟩ := ab_bnd hk
      refine ab_lald (pc := 87) dX8_begins_87 ht12 ?_
      refine ab_lstore (pc := 88) (i := 7) (lv2 := [some (ab_R v0), some (ab_I v1), some (ab_J v2), none, some (ab_I v4), some (ab_I v5), some (ab_I v6), some (ab_J t12), none]) dX8_begins_88 (Nat.le_of_ble_eq_true rfl) rfl rfl ?_
      refine ab_lload (pc := 90) (i := 7) dX8_begins_90 rfl ?_
      refine ab_lload_n (pc := 92) (i := 2) dX8_begins_92 rfl rfl ?_
      refine ab_iload (pc := 93) (i := 4) dX8_begins_93 rfl ?_
      obtain ⟨q13, hq13, hk⟩ := ab_bnd hk
      refine ab_callSI (st := []) (as := [ab_J t12, ab_J v2, ab_I v4]) (pc := 95) dX8_begins_95 ml_RX8_283 my_X8_beginsWith ms_X8_beginsWith (ct_X8_beginsWith hq13) ⟨Nat.le_of_ble_eq_true rfl, Nat.le_of_ble_eq_true rfl⟩ rfl (Nat.le_of_ble_eq_true rfl) rfl ?_
      refine ab_if_ne (pc := 98) (tgt := 104) dX8_begins_98 rfl (fun hc => ?_) (fun hc => ?_)
      · have hk := ab_ifn hk hc
        refine ab_iload (pc := 104) (i := 5) dX8_begins_104 rfl ?_
        refine ab_iload_n (pc := 106) (i := 1) dX8_begins_106 rfl rfl ?_
        refine ab_icmp_ne (pc := 107) (tgt := 113) dX8_begins_107 rfl (fun hc => ?_) (fun hc => ?_)
        · have hk := ab_ifn hk hc
          refine ab_iinc (pc := 113) (i := 5) (lv2 := [some (ab_R v0), some (ab_I v1), some (ab_J v2), none, some (ab_I v4), some (ab_I (ab_w32 (v5 + (1 : Int)))), some (ab_I v6), some (ab_J t12), none]) dX8_begins_113 rfl (Nat.le_of_ble_eq_true rfl) rfl rfl ?_
          refine ab_sub_ (lv2 := [some (ab_R v0), some (ab_I v1), some (ab_J v2), none, some (ab_I v4), some (ab_I (ab_w32 (v5 + (1 : Int)))), some (ab_I v6), none, none]) (ab_ss (ab_ss (ab_ss (ab_sn (ab_ss (ab_ss (ab_ss (ab_sn (ab_sn ab_s0))))))))) ?_
          exact e_X8_begins_J116 ih hk122 _ _ _ _ _ _ _ _ hk
        · have hk := ab_ifp hk hc
          refine ab_iload (pc := 110) (i := 6) dX8_begins_110 rfl ?_
          obtain rfl := Option.some.inj hk
          exact ab_reti (pc := 112) dX8_begins_112 (Or.inl rfl)
      · have hk := ab_ifp hk hc
        refine ab_goto (pc := 101) (tgt := 116) dX8_begins_101 rfl ?_
        refine ab_sub_ (lv2 := [some (ab_R v0), some (ab_I v1), some (ab_J v2), none, some (ab_I v4), some (ab_I v5), some (ab_I v6), none, none]) (ab_ss (ab_ss (ab_ss (ab_sn (ab_ss (ab_ss (ab_ss (ab_sn (ab_sn ab_s0))))))))) ?_
        exact e_X8_begins_J116 ih hk122 _ _ _ _ _ _ _ _ hk
noncomputable def f_X8_begins (a0 : Int) (a1 : Int) (h : ab_H) : Option (Int × ab_H) :=
  (ab_get h 9 0 a0).bind fun t1 =>
  (ab_on h 2 t1 (f_X1_asName t1 h)).bind fun q2 =>
  (ab_get q2.2 9 0 a0).bind fun t3 =>
  (ab_get q2.2 2 1 t3).bind fun t4 =>
  (ab_get q2.2 9 0 a0).bind fun t5 =>
  (ab_put q2.2 2 1 t5 (0 : Int)).bind fun h1 =>
  if a1 < (-1 : Int) then
    some ((-2 : Int), h1)
  else
  if ab_cmp q2.1 (-1 : Int) = (0 : Int) then
    some ((-2 : Int), h1)
  else
  f_X8_begins_L47 (fun w122_1 w122_5 hx122 =>
    if w122_1 = (-1 : Int) then
      some (w122_5, hx122)
    else
    some ((-1 : Int), hx122)) ab_FU a0 a1 q2.1 t4 (0 : Int) (0 : Int) h1
set_option maxRecDepth 20000 in
theorem ct_X8_begins {a0 a1 : Int} {h : ab_H} {q : Int × ab_H} (hk : f_X8_begins a0 a1 h = some q) : ab_CT yX8_begins cX8_begins 9 (some .int) 2 47 [ab_R a0, ab_I a1] h (some (ab_I q.1)) q.2 := by
  refine ab_CT.mk_ 7 (own := RX8) (ini := false) (lv := [some (ab_R a0), some (ab_I a1), none, none, none, none, none, none, none]) rfl (by decide +kernel) (fun q => by cases q) rfl rfl ?_
  unfold f_X8_begins at hk
  show ab_E mm_X8_begins cX8_begins 0 _ [] h _ _
  refine ab_aload_n (pc := 0) (i := 0) dX8_begins_0 rfl rfl ?_
  obtain ⟨t1, ht1, hk⟩ := ab_bnd hk
  refine ab_getR (pc := 1) dX8_begins_1 fl_RX8_14 ht1 ?_
  obtain ⟨q2, hq2, hk⟩ := ab_bnd hk
  obtain ⟨hb, hq2⟩ := ab_on_some hq2
  refine ab_callVJ (st := []) (as := []) (b := t1) (pc := 4) dX8_begins_4 ml_RX8_177 my_X1_asName mv_X1_asName hb (ct_X1_asName hq2) ⟨Nat.le_of_ble_eq_true rfl, Nat.le_of_ble_eq_true rfl⟩ rfl (Nat.le_of_ble_eq_true rfl) rfl ?_
  refine ab_lstore_n (pc := 7) (i := 2) (lv2 := [some (ab_R a0), some (ab_I a1), some (ab_J q2.1), none, none, none, none, none, none]) dX8_begins_7 rfl (Nat.le_of_ble_eq_true rfl) rfl rfl ?_
  refine ab_aload_n (pc := 8) (i := 0) dX8_begins_8 rfl rfl ?_
  obtain ⟨t3, ht3, hk⟩ := ab_bnd hk
  refine ab_getR (pc := 9) dX8_begins_9 fl_RX8_14 ht3 ?_
  obtain ⟨t4, ht4, hk⟩ := ab_bnd hk
  refine ab_getI (pc := 12) dX8_begins_12 fl_RX8_72 ht4 ?_
  refine ab_istore (pc := 15) (i := 4) (lv2 := [some (ab_R a0), some (ab_I a1), some (ab_J q2.1), none, some (ab_I t4), none, none, none, none]) dX8_begins_15 (Nat.le_of_ble_eq_true rfl) rfl rfl ?_
  refine ab_aload_n (pc := 17) (i := 0) dX8_begins_17 rfl rfl ?_
  obtain ⟨t5, ht5, hk⟩ := ab_bnd hk
  refine ab_getR (pc := 18) dX8_begins_18 fl_RX8_14 ht5 ?_
  refine ab_iconst (pc := 21) dX8_begins_21 ab_k_0 ?_
  obtain ⟨h1, hh1, hk⟩ := ab_bnd hk
  refine ab_putI_ (pc := 22) dX8_begins_22 fl_RX8_72 (fun q => by cases q) hh1 ?_
  refine ab_iload_n (pc := 25) (i := 1) dX8_begins_25 rfl rfl ?_
  refine ab_iconst (pc := 26) dX8_begins_26 ab_k_m1 ?_
  refine ab_icmp_lt (pc := 27) (tgt := 38) dX8_begins_27 rfl (fun hc => ?_) (fun hc => ?_)
  · have hk := ab_ifp hk hc
    refine ab_bipush (pc := 38) dX8_begins_38 ab_p8_m2 ab_k_m2 ?_
    obtain rfl := Option.some.inj hk
    exact ab_reti (pc := 40) dX8_begins_40 (Or.inl rfl)
  · have hk := ab_ifn hk hc
    refine ab_lload_n (pc := 30) (i := 2) dX8_begins_30 rfl rfl ?_
    refine ab_ldc2 (x := (-1 : Int)) (pc := 31) dX8_begins_31 ab_ld2_RX8_181 ab_kl_m1 ?_
    refine ab_lcmp_ (pc := 34) dX8_begins_34 ?_
    refine ab_if_ne (pc := 35) (tgt := 41) dX8_begins_35 rfl (fun hc => ?_) (fun hc => ?_)
    · have hk := ab_ifn hk hc
      refine ab_iconst (pc := 41) dX8_begins_41 ab_k_0 ?_
      refine ab_istore (pc := 42) (i := 5) (lv2 := [some (ab_R a0), some (ab_I a1), some (ab_J q2.1), none, some (ab_I t4), some (ab_I (0 : Int)), none, none, none]) dX8_begins_42 (Nat.le_of_ble_eq_true rfl) rfl rfl ?_
      refine ab_iconst (pc := 44) dX8_begins_44 ab_k_0 ?_
      refine ab_istore (pc := 45) (i := 6) (lv2 := [some (ab_R a0), some (ab_I a1), some (ab_J q2.1), none, some (ab_I t4), some (ab_I (0 : Int)), some (ab_I (0 : Int)), none, none]) dX8_begins_45 (Nat.le_of_ble_eq_true rfl) rfl rfl ?_
      refine ab_sub_ (lv2 := [some (ab_R a0), some (ab_I a1), some (ab_J q2.1), none, some (ab_I t4), some (ab_I (0 : Int)), some (ab_I (0 : Int)), none, none]) (ab_ss (ab_ss (ab_ss (ab_sn (ab_ss (ab_ss (ab_ss (ab_sn (ab_sn ab_s0))))))))) ?_
      refine e_X8_begins_L47 (fun w122_1 w122_5 hx122 q hk => ?_) _ _ _ _ _ _ _ _ _ hk
      · skip
        refine ab_iload_n (pc := 122) (i := 1) dX8_begins_122 rfl rfl ?_
        refine ab_iconst (pc := 123) dX8_begins_123 ab_k_m1 ?_
        refine ab_icmp_ne (pc := 124) (tgt := 132) dX8_begins_124 rfl (fun hc => ?_) (fun hc => ?_)
        · have hk := ab_ifn hk hc
          refine ab_iconst (pc := 132) dX8_begins_132 ab_k_m1 ?_
          obtain rfl := Option.some.inj hk
          exact ab_reti (pc := 133) dX8_begins_133 (Or.inl rfl)
        · have hk := ab_ifp hk hc
          refine ab_iload (pc := 127) (i := 5) dX8_begins_127 rfl ?_
          refine ab_goto (pc := 129) (tgt := 133) dX8_begins_129 rfl ?_
          obtain rfl := Option.some.inj hk
          exact ab_reti (pc := 133) dX8_begins_133 (Or.inl rfl)
    · have hk := ab_ifp hk hc
      refine ab_bipush (pc := 38) dX8_begins_38 ab_p8_m2 ab_k_m2 ?_
      obtain rfl := Option.some.inj hk
      exact ab_reti (pc := 40) dX8_begins_40 (Or.inl rfl)
theorem dX8_having_0 : decode cX8_having 0 = .ok (.aload_n 0, 1) := by decide +kernel
theorem dX8_having_1 : decode cX8_having 1 = .ok (.iload_n 1, 1) := by decide +kernel
theorem dX8_having_2 : decode cX8_having 2 = .ok (.invokevirtual 161, 3) := by decide +kernel
theorem dX8_having_5 : decode cX8_having 5 = .ok (.ifCond .eq 15, 3) := by decide +kernel
theorem dX8_having_8 : decode cX8_having 8 = .ok (.iload_n 2, 1) := by decide +kernel
theorem dX8_having_9 : decode cX8_having 9 = .ok (.iconst (-1), 1) := by decide +kernel
theorem dX8_having_10 : decode cX8_having 10 = .ok (.if_icmp .eq 13, 3) := by decide +kernel
theorem dX8_having_13 : decode cX8_having 13 = .ok (.iload_n 2, 1) := by decide +kernel
theorem dX8_having_14 : decode cX8_having 14 = .ok (.invokestatic 171, 3) := by decide +kernel
theorem dX8_having_17 : decode cX8_having 17 = .ok (.ifCond .ne 6, 3) := by decide +kernel
theorem dX8_having_20 : decode cX8_having 20 = .ok (.bipush (-2), 2) := by decide +kernel
theorem dX8_having_22 : decode cX8_having 22 = .ok (.ireturn, 1) := by decide +kernel
theorem dX8_having_23 : decode cX8_having 23 = .ok (.iload_n 2, 1) := by decide +kernel
theorem dX8_having_24 : decode cX8_having 24 = .ok (.iconst (-1), 1) := by decide +kernel
theorem dX8_having_25 : decode cX8_having 25 = .ok (.if_icmp .ne 15, 3) := by decide +kernel
theorem dX8_having_28 : decode cX8_having 28 = .ok (.aload_n 0, 1) := by decide +kernel
theorem dX8_having_29 : decode cX8_having 29 = .ok (.getfield 51, 3) := by decide +kernel
theorem dX8_having_32 : decode cX8_having 32 = .ok (.getfield 287, 3) := by decide +kernel
theorem dX8_having_35 : decode cX8_having 35 = .ok (.iload_n 1, 1) := by decide +kernel
theorem dX8_having_36 : decode cX8_having 36 = .ok (.iaload, 1) := by decide +kernel
theorem dX8_having_37 : decode cX8_having 37 = .ok (.goto 12, 3) := by decide +kernel
theorem dX8_having_40 : decode cX8_having 40 = .ok (.aload_n 0, 1) := by decide +kernel
theorem dX8_having_41 : decode cX8_having 41 = .ok (.getfield 58, 3) := by decide +kernel
theorem dX8_having_44 : decode cX8_having 44 = .ok (.iload_n 2, 1) := by decide +kernel
theorem dX8_having_45 : decode cX8_having 45 = .ok (.iload_n 1, 1) := by decide +kernel
theorem dX8_having_46 : decode cX8_having 46 = .ok (.invokevirtual 290, 3) := by decide +kernel
theorem dX8_having_49 : decode cX8_having 49 = .ok (.ireturn, 1) := by decide +kernel
abbrev mm_X8_having : ab_M := (RX8, 3, (some .int), false, 2, 49, none)
noncomputable def f_X8_having_J23 (v0 : Int) (v1 : Int) (v2 : Int) (h : ab_H) : Option (Int × ab_H) :=
  if v2 = (-1 : Int) then
    (ab_get h 9 7 v0).bind fun t3 =>
    (ab_get h 8 2 t3).bind fun t4 =>
    (ab_ald h 11 t4 v1).bind fun t5 =>
    some (t5, h)
  else
  (ab_get h 9 8 v0).bind fun t1 =>
  (ab_on h 6 t1 (f_X5_stringsWith t1 v2 v1 h)).bind fun q2 =>
  some (q2.1, q2.2)
set_option maxRecDepth 20000 in
theorem e_X8_having_J23 : ∀ (v0 : Int) (v1 : Int) (v2 : Int) (h : ab_H) (q : Int × ab_H), f_X8_having_J23 v0 v1 v2 h = some q → ab_E mm_X8_having cX8_having 23 [some (ab_R v0), some (ab_I v1), some (ab_I v2)] [] h (some (ab_I q.1)) q.2 := by
  intro v0 v1 v2 h q hk
  unfold f_X8_having_J23 at hk
  refine ab_iload_n (pc := 23) (i := 2) dX8_having_23 rfl rfl ?_
  refine ab_iconst (pc := 24) dX8_having_24 ab_k_m1 ?_
  refine ab_icmp_ne (pc := 25) (tgt := 40) dX8_having_25 rfl (fun hc => ?_) (fun hc => ?_)
  · have hk := ab_ifn hk hc
    refine ab_aload_n (pc := 40) (i := 0) dX8_having_40 rfl rfl ?_
    obtain ⟨t1, ht1, hk⟩ := ab_bnd hk
    refine ab_getR (pc := 41) dX8_having_41 fl_RX8_58 ht1 ?_
    refine ab_iload_n (pc := 44) (i := 2) dX8_having_44 rfl rfl ?_
    refine ab_iload_n (pc := 45) (i := 1) dX8_having_45 rfl rfl ?_
    obtain ⟨q2, hq2, hk⟩ := ab_bnd hk
    obtain ⟨hb, hq2⟩ := ab_on_some hq2
    refine ab_callVI (st := []) (as := [ab_I v2, ab_I v1]) (b := t1) (pc := 46) dX8_having_46 ml_RX8_290 my_X5_stringsWith mv_X5_stringsWith hb (ct_X5_stringsWith hq2) ⟨Nat.le_of_ble_eq_true rfl, Nat.le_of_ble_eq_true rfl⟩ rfl (Nat.le_of_ble_eq_true rfl) rfl ?_
    obtain rfl := Option.some.inj hk
    exact ab_reti (pc := 49) dX8_having_49 (Or.inl rfl)
  · have hk := ab_ifp hk hc
    refine ab_aload_n (pc := 28) (i := 0) dX8_having_28 rfl rfl ?_
    obtain ⟨t3, ht3, hk⟩ := ab_bnd hk
    refine ab_getR (pc := 29) dX8_having_29 fl_RX8_51 ht3 ?_
    obtain ⟨t4, ht4, hk⟩ := ab_bnd hk
    refine ab_getR (pc := 32) dX8_having_32 fl_RX8_287 ht4 ?_
    refine ab_iload_n (pc := 35) (i := 1) dX8_having_35 rfl rfl ?_
    obtain ⟨t5, ht5, hk⟩ := ab_bnd hk
    refine ab_iald (pc := 36) dX8_having_36 ht5 ?_
    refine ab_goto (pc := 37) (tgt := 49) dX8_having_37 rfl ?_
    obtain rfl := Option.some.inj hk
    exact ab_reti (pc := 49) dX8_having_49 (Or.inl rfl)
noncomputable def f_X8_having (a0 : Int) (a1 : Int) (a2 : Int) (h : ab_H) : Option (Int × ab_H) :=
  (ab_on h 9 a0 (f_X8_isWord a0 a1 h)).bind fun q1 =>
  if q1.1 = (0 : Int) then
    some ((-2 : Int), q1.2)
  else
  if a2 = (-1 : Int) then
    f_X8_having_J23 a0 a1 a2 q1.2
  else
  (f_X8_isRole a2 q1.2).bind fun q2 =>
  if q2.1 = (0 : Int) then
    some ((-2 : Int), q2.2)
  else
  f_X8_having_J23 a0 a1 a2 q2.2
set_option maxRecDepth 20000 in
theorem ct_X8_having {a0 a1 a2 : Int} {h : ab_H} {q : Int × ab_H} (hk : f_X8_having a0 a1 a2 h = some q) : ab_CT yX8_having cX8_having 3 (some .int) 2 49 [ab_R a0, ab_I a1, ab_I a2] h (some (ab_I q.1)) q.2 := by
  refine ab_CT.mk_ 0 (own := RX8) (ini := false) (lv := [some (ab_R a0), some (ab_I a1), some (ab_I a2)]) rfl (by decide +kernel) (fun q => by cases q) rfl rfl ?_
  unfold f_X8_having at hk
  show ab_E mm_X8_having cX8_having 0 _ [] h _ _
  refine ab_aload_n (pc := 0) (i := 0) dX8_having_0 rfl rfl ?_
  refine ab_iload_n (pc := 1) (i := 1) dX8_having_1 rfl rfl ?_
  obtain ⟨q1, hq1, hk⟩ := ab_bnd hk
  obtain ⟨hb, hq1⟩ := ab_on_some hq1
  refine ab_callVI (st := []) (as := [ab_I a1]) (b := a0) (pc := 2) dX8_having_2 ml_RX8_161 my_X8_isWord mv_X8_isWord hb (ct_X8_isWord hq1) ⟨Nat.le_of_ble_eq_true rfl, Nat.le_of_ble_eq_true rfl⟩ rfl (Nat.le_of_ble_eq_true rfl) rfl ?_
  refine ab_if_eq (pc := 5) (tgt := 20) dX8_having_5 rfl (fun hc => ?_) (fun hc => ?_)
  · have hk := ab_ifp hk hc
    refine ab_bipush (pc := 20) dX8_having_20 ab_p8_m2 ab_k_m2 ?_
    obtain rfl := Option.some.inj hk
    exact ab_reti (pc := 22) dX8_having_22 (Or.inl rfl)
  · have hk := ab_ifn hk hc
    refine ab_iload_n (pc := 8) (i := 2) dX8_having_8 rfl rfl ?_
    refine ab_iconst (pc := 9) dX8_having_9 ab_k_m1 ?_
    refine ab_icmp_eq (pc := 10) (tgt := 23) dX8_having_10 rfl (fun hc => ?_) (fun hc => ?_)
    · have hk := ab_ifp hk hc
      refine ab_sub_ (lv2 := [some (ab_R a0), some (ab_I a1), some (ab_I a2)]) (ab_ss (ab_ss (ab_ss ab_s0))) ?_
      exact e_X8_having_J23 _ _ _ _ _ hk
    · have hk := ab_ifn hk hc
      refine ab_iload_n (pc := 13) (i := 2) dX8_having_13 rfl rfl ?_
      obtain ⟨q2, hq2, hk⟩ := ab_bnd hk
      refine ab_callSI (st := []) (as := [ab_I a2]) (pc := 14) dX8_having_14 ml_RX8_171 my_X8_isRole ms_X8_isRole (ct_X8_isRole hq2) ⟨Nat.le_of_ble_eq_true rfl, Nat.le_of_ble_eq_true rfl⟩ rfl (Nat.le_of_ble_eq_true rfl) rfl ?_
      refine ab_if_ne (pc := 17) (tgt := 23) dX8_having_17 rfl (fun hc => ?_) (fun hc => ?_)
      · have hk := ab_ifn hk hc
        refine ab_sub_ (lv2 := [some (ab_R a0), some (ab_I a1), some (ab_I a2)]) (ab_ss (ab_ss (ab_ss ab_s0))) ?_
        exact e_X8_having_J23 _ _ _ _ _ hk
      · have hk := ab_ifp hk hc
        refine ab_bipush (pc := 20) dX8_having_20 ab_p8_m2 ab_k_m2 ?_
        obtain rfl := Option.some.inj hk
        exact ab_reti (pc := 22) dX8_having_22 (Or.inl rfl)
theorem dX8_stringsSharing_0 : decode cX8_stringsSharing 0 = .ok (.iconst 1, 1) := by decide +kernel
theorem dX8_stringsSharing_1 : decode cX8_stringsSharing 1 = .ok (.aload_n 0, 1) := by decide +kernel
theorem dX8_stringsSharing_2 : decode cX8_stringsSharing 2 = .ok (.getfield 34, 3) := by decide +kernel
theorem dX8_stringsSharing_5 : decode cX8_stringsSharing 5 = .ok (.getfield 102, 3) := by decide +kernel
theorem dX8_stringsSharing_8 : decode cX8_stringsSharing 8 = .ok (.ishl, 1) := by decide +kernel
theorem dX8_stringsSharing_9 : decode cX8_stringsSharing 9 = .ok (.iconst 1, 1) := by decide +kernel
theorem dX8_stringsSharing_10 : decode cX8_stringsSharing 10 = .ok (.isub, 1) := by decide +kernel
theorem dX8_stringsSharing_11 : decode cX8_stringsSharing 11 = .ok (.istore_n 3, 1) := by decide +kernel
theorem dX8_stringsSharing_12 : decode cX8_stringsSharing 12 = .ok (.iconst 0, 1) := by decide +kernel
theorem dX8_stringsSharing_13 : decode cX8_stringsSharing 13 = .ok (.istore 4, 2) := by decide +kernel
theorem dX8_stringsSharing_15 : decode cX8_stringsSharing 15 = .ok (.iload 4, 2) := by decide +kernel
theorem dX8_stringsSharing_17 : decode cX8_stringsSharing 17 = .ok (.aload_n 0, 1) := by decide +kernel
theorem dX8_stringsSharing_18 : decode cX8_stringsSharing 18 = .ok (.getfield 34, 3) := by decide +kernel
theorem dX8_stringsSharing_21 : decode cX8_stringsSharing 21 = .ok (.getfield 125, 3) := by decide +kernel
theorem dX8_stringsSharing_24 : decode cX8_stringsSharing 24 = .ok (.iload_n 1, 1) := by decide +kernel
theorem dX8_stringsSharing_25 : decode cX8_stringsSharing 25 = .ok (.iaload, 1) := by decide +kernel
theorem dX8_stringsSharing_26 : decode cX8_stringsSharing 26 = .ok (.if_icmp .ge 44, 3) := by decide +kernel
theorem dX8_stringsSharing_29 : decode cX8_stringsSharing 29 = .ok (.iload_n 2, 1) := by decide +kernel
theorem dX8_stringsSharing_30 : decode cX8_stringsSharing 30 = .ok (.iload 4, 2) := by decide +kernel
theorem dX8_stringsSharing_32 : decode cX8_stringsSharing 32 = .ok (.invokestatic 249, 3) := by decide +kernel
theorem dX8_stringsSharing_35 : decode cX8_stringsSharing 35 = .ok (.ifCond .eq 29, 3) := by decide +kernel
theorem dX8_stringsSharing_38 : decode cX8_stringsSharing 38 = .ok (.iload_n 3, 1) := by decide +kernel
theorem dX8_stringsSharing_39 : decode cX8_stringsSharing 39 = .ok (.aload_n 0, 1) := by decide +kernel
theorem dX8_stringsSharing_40 : decode cX8_stringsSharing 40 = .ok (.getfield 51, 3) := by decide +kernel
theorem dX8_stringsSharing_43 : decode cX8_stringsSharing 43 = .ok (.getfield 287, 3) := by decide +kernel
theorem dX8_stringsSharing_46 : decode cX8_stringsSharing 46 = .ok (.aload_n 0, 1) := by decide +kernel
theorem dX8_stringsSharing_47 : decode cX8_stringsSharing 47 = .ok (.getfield 58, 3) := by decide +kernel
theorem dX8_stringsSharing_50 : decode cX8_stringsSharing 50 = .ok (.getfield 148, 3) := by decide +kernel
theorem dX8_stringsSharing_53 : decode cX8_stringsSharing 53 = .ok (.iload_n 1, 1) := by decide +kernel
theorem dX8_stringsSharing_54 : decode cX8_stringsSharing 54 = .ok (.bipush 6, 2) := by decide +kernel
theorem dX8_stringsSharing_56 : decode cX8_stringsSharing 56 = .ok (.imul, 1) := by decide +kernel
theorem dX8_stringsSharing_57 : decode cX8_stringsSharing 57 = .ok (.iload 4, 2) := by decide +kernel
theorem dX8_stringsSharing_59 : decode cX8_stringsSharing 59 = .ok (.iadd, 1) := by decide +kernel
theorem dX8_stringsSharing_60 : decode cX8_stringsSharing 60 = .ok (.iaload, 1) := by decide +kernel
theorem dX8_stringsSharing_61 : decode cX8_stringsSharing 61 = .ok (.iaload, 1) := by decide +kernel
theorem dX8_stringsSharing_62 : decode cX8_stringsSharing 62 = .ok (.iand, 1) := by decide +kernel
theorem dX8_stringsSharing_63 : decode cX8_stringsSharing 63 = .ok (.istore_n 3, 1) := by decide +kernel
theorem dX8_stringsSharing_64 : decode cX8_stringsSharing 64 = .ok (.iinc 4 1, 3) := by decide +kernel
theorem dX8_stringsSharing_67 : decode cX8_stringsSharing 67 = .ok (.goto (-52), 3) := by decide +kernel
theorem dX8_stringsSharing_70 : decode cX8_stringsSharing 70 = .ok (.iload_n 3, 1) := by decide +kernel
theorem dX8_stringsSharing_71 : decode cX8_stringsSharing 71 = .ok (.ireturn, 1) := by decide +kernel
abbrev mm_X8_stringsSharing : ab_M := (RX8, 5, (some .int), false, 1, 21, none)
noncomputable def f_X8_stringsSharing_J64 (rec : Int → Int → Int → Int → Int → ab_H → Option (Int × ab_H)) (v0 : Int) (v1 : Int) (v2 : Int) (v3 : Int) (v4 : Int) (h : ab_H) : Option (Int × ab_H) :=
  rec v0 v1 v2 v3 (ab_w32 (v4 + (1 : Int))) h
set_option maxRecDepth 20000 in
theorem e_X8_stringsSharing_J64 {rec : Int → Int → Int → Int → Int → ab_H → Option (Int × ab_H)} (hrec : ∀ (v0 : Int) (v1 : Int) (v2 : Int) (v3 : Int) (v4 : Int) (h : ab_H) (q : Int × ab_H), rec v0 v1 v2 v3 v4 h = some q → ab_E mm_X8_stringsSharing cX8_stringsSharing 15 [some (ab_R v0), some (ab_I v1), some (ab_I v2), some (ab_I v3), some (ab_I v4)] [] h (some (ab_I q.1)) q.2) : ∀ (v0 : Int) (v1 : Int) (v2 : Int) (v3 : Int) (v4 : Int) (h : ab_H) (q : Int × ab_H), f_X8_stringsSharing_J64 rec v0 v1 v2 v3 v4 h = some q → ab_E mm_X8_stringsSharing cX8_stringsSharing 64 [some (ab_R v0), some (ab_I v1), some (ab_I v2), some (ab_I v3), some (ab_I v4)] [] h (some (ab_I q.1)) q.2 := by
  intro v0 v1 v2 v3 v4 h q hk
  unfold f_X8_stringsSharing_J64 at hk
  refine ab_iinc (pc := 64) (i := 4) (lv2 := [some (ab_R v0), some (ab_I v1), some (ab_I v2), some (ab_I v3), some (ab_I (ab_w32 (v4 + (1 : Int))))]) dX8_stringsSharing_64 rfl (Nat.le_of_ble_eq_true rfl) rfl rfl ?_
  refine ab_goto (pc := 67) (tgt := 15) dX8_stringsSharing_67 rfl ?_
  refine ab_sub_ (lv2 := [some (ab_R v0), some (ab_I v1), some (ab_I v2), some (ab_I v3), some (ab_I (ab_w32 (v4 + (1 : Int))))]) (ab_ss (ab_ss (ab_ss (ab_ss (ab_ss ab_s0))))) ?_
  exact hrec _ _ _ _ _ _ _ hk
noncomputable def f_X8_stringsSharing_L15 : Nat → Int → Int → Int → Int → Int → ab_H → Option (Int × ab_H)
  | 0, _, _, _, _, _, _ => none
  | n + 1, v0, v1, v2, v3, v4, h =>
    (ab_get h 9 4 v0).bind fun t1 =>
    (ab_get h 1 2 t1).bind fun t2 =>
    (ab_ald h 11 t2 v1).bind fun t3 =>
    if t3 ≤ v4 then
      some (v3, h)
    else
    (f_X8_hasBit v2 v4 h).bind fun q4 =>
    if q4.1 = (0 : Int) then
      f_X8_stringsSharing_J64 (f_X8_stringsSharing_L15 n) v0 v1 v2 v3 v4 q4.2
    else
    (ab_get q4.2 9 7 v0).bind fun t5 =>
    (ab_get q4.2 8 2 t5).bind fun t6 =>
    (ab_get q4.2 9 8 v0).bind fun t7 =>
    (ab_get q4.2 6 3 t7).bind fun t8 =>
    (ab_ald q4.2 11 t8 (ab_w32 ((ab_w32 (v1 * (6 : Int))) + v4))).bind fun t9 =>
    (ab_ald q4.2 11 t6 t9).bind fun t10 =>
    f_X8_stringsSharing_J64 (f_X8_stringsSharing_L15 n) v0 v1 v2 (ab_and v3 t10) v4 q4.2
set_option maxRecDepth 20000 in
theorem e_X8_stringsSharing_L15 : ∀ (n : Nat) (v0 : Int) (v1 : Int) (v2 : Int) (v3 : Int) (v4 : Int) (h : ab_H) (q : Int × ab_H), f_X8_stringsSharing_L15 n v0 v1 v2 v3 v4 h = some q → ab_E mm_X8_stringsSharing cX8_stringsSharing 15 [some (ab_R v0), some (ab_I v1), some (ab_I v2), some (ab_I v3), some (ab_I v4)] [] h (some (ab_I q.1)) q.2 := by
  intro n
  induction n with
  | zero => intro v0 v1 v2 v3 v4 h q hk; cases hk
  | succ n ih =>
    intro v0 v1 v2 v3 v4 h q hk
    unfold f_X8_stringsSharing_L15 at hk
    refine ab_iload (pc := 15) (i := 4) dX8_stringsSharing_15 rfl ?_
    refine ab_aload_n (pc := 17) (i := 0) dX8_stringsSharing_17 rfl rfl ?_
    obtain ⟨t1, ht1, hk⟩ := ab_bnd hk
    refine ab_getR (pc := 18) dX8_stringsSharing_18 fl_RX8_34 ht1 ?_
    obtain ⟨t2, ht2, hk⟩ := ab_bnd hk
    refine ab_getR (pc := 21) dX8_stringsSharing_21 fl_RX8_125 ht2 ?_
    refine ab_iload_n (pc := 24) (i := 1) dX8_stringsSharing_24 rfl rfl ?_
    obtain ⟨t3, ht3, hk⟩ := ab_bnd hk
    refine ab_iald (pc := 25) dX8_stringsSharing_25 ht3 ?_
    refine ab_icmp_ge (pc := 26) (tgt := 70) dX8_stringsSharing_26 rfl (fun hc => ?_) (fun hc => ?_)
    · have hk := ab_ifp hk hc
      refine ab_iload_n (pc := 70) (i := 3) dX8_stringsSharing_70 rfl rfl ?_
      obtain rfl := Option.some.inj hk
      exact ab_reti (pc := 71) dX8_stringsSharing_71 (Or.inl rfl)
    · have hk := ab_ifn hk hc
      refine ab_iload_n (pc := 29) (i := 2) dX8_stringsSharing_29 rfl rfl ?_
      refine ab_iload (pc := 30) (i := 4) dX8_stringsSharing_30 rfl ?_
      obtain ⟨q4, hq4, hk⟩ := ab_bnd hk
      refine ab_callSI (st := []) (as := [ab_I v2, ab_I v4]) (pc := 32) dX8_stringsSharing_32 ml_RX8_249 my_X8_hasBit ms_X8_hasBit (ct_X8_hasBit hq4) ⟨Nat.le_of_ble_eq_true rfl, Nat.le_of_ble_eq_true rfl⟩ rfl (Nat.le_of_ble_eq_true rfl) rfl ?_
      refine ab_if_eq (pc := 35) (tgt := 64) dX8_stringsSharing_35 rfl (fun hc => ?_) (fun hc => ?_)
      · have hk := ab_ifp hk hc
        refine ab_sub_ (lv2 := [some (ab_R v0), some (ab_I v1), some (ab_I v2), some (ab_I v3), some (ab_I v4)]) (ab_ss (ab_ss (ab_ss (ab_ss (ab_ss ab_s0))))) ?_
        exact e_X8_stringsSharing_J64 ih _ _ _ _ _ _ _ hk
      · have hk := ab_ifn hk hc
        refine ab_iload_n (pc := 38) (i := 3) dX8_stringsSharing_38 rfl rfl ?_
        refine ab_aload_n (pc := 39) (i := 0) dX8_stringsSharing_39 rfl rfl ?_
        obtain ⟨t5, ht5, hk⟩ := ab_bnd hk
        refine ab_getR (pc := 40) dX8_stringsSharing_40 fl_RX8_51 ht5 ?_
        obtain ⟨t6, ht6, hk⟩ := ab_bnd hk
        refine ab_getR (pc := 43) dX8_stringsSharing_43 fl_RX8_287 ht6 ?_
        refine ab_aload_n (pc := 46) (i := 0) dX8_stringsSharing_46 rfl rfl ?_
        obtain ⟨t7, ht7, hk⟩ := ab_bnd hk
        refine ab_getR (pc := 47) dX8_stringsSharing_47 fl_RX8_58 ht7 ?_
        obtain ⟨t8, ht8, hk⟩ := ab_bnd hk
        refine ab_getR (pc := 50) dX8_stringsSharing_50 fl_RX8_148 ht8 ?_
        refine ab_iload_n (pc := 53) (i := 1) dX8_stringsSharing_53 rfl rfl ?_
        refine ab_bipush (pc := 54) dX8_stringsSharing_54 ab_p8_6 ab_k_6 ?_
        refine ab_imul (pc := 56) dX8_stringsSharing_56 ?_
        refine ab_iload (pc := 57) (i := 4) dX8_stringsSharing_57 rfl ?_
        refine ab_iadd (pc := 59) dX8_stringsSharing_59 ?_
        obtain ⟨t9, ht9, hk⟩ := ab_bnd hk
        refine ab_iald (pc := 60) dX8_stringsSharing_60 ht9 ?_
        obtain ⟨t10, ht10, hk⟩ := ab_bnd hk
        refine ab_iald (pc := 61) dX8_stringsSharing_61 ht10 ?_
        refine ab_iand (pc := 62) dX8_stringsSharing_62 ?_
        refine ab_istore_n (pc := 63) (i := 3) (lv2 := [some (ab_R v0), some (ab_I v1), some (ab_I v2), some (ab_I (ab_and v3 t10)), some (ab_I v4)]) dX8_stringsSharing_63 rfl (Nat.le_of_ble_eq_true rfl) rfl rfl ?_
        refine ab_sub_ (lv2 := [some (ab_R v0), some (ab_I v1), some (ab_I v2), some (ab_I (ab_and v3 t10)), some (ab_I v4)]) (ab_ss (ab_ss (ab_ss (ab_ss (ab_ss ab_s0))))) ?_
        exact e_X8_stringsSharing_J64 ih _ _ _ _ _ _ _ hk
noncomputable def f_X8_stringsSharing (a0 : Int) (a1 : Int) (a2 : Int) (h : ab_H) : Option (Int × ab_H) :=
  (ab_get h 9 4 a0).bind fun t1 =>
  (ab_get h 1 0 t1).bind fun t2 =>
  f_X8_stringsSharing_L15 ab_FU a0 a1 a2 (ab_w32 ((ab_shl (1 : Int) t2) - (1 : Int))) (0 : Int) h
set_option maxRecDepth 20000 in
theorem ct_X8_stringsSharing {a0 a1 a2 : Int} {h : ab_H} {q : Int × ab_H} (hk : f_X8_stringsSharing a0 a1 a2 h = some q) : ab_CT yX8_stringsSharing cX8_stringsSharing 5 (some .int) 1 21 [ab_R a0, ab_I a1, ab_I a2] h (some (ab_I q.1)) q.2 := by
  refine ab_CT.mk_ 2 (own := RX8) (ini := false) (lv := [some (ab_R a0), some (ab_I a1), some (ab_I a2), none, none]) rfl (by decide +kernel) (fun q => by cases q) rfl rfl ?_
  unfold f_X8_stringsSharing at hk
  show ab_E mm_X8_stringsSharing cX8_stringsSharing 0 _ [] h _ _
  refine ab_iconst (pc := 0) dX8_stringsSharing_0 ab_k_1 ?_
  refine ab_aload_n (pc := 1) (i := 0) dX8_stringsSharing_1 rfl rfl ?_
  obtain ⟨t1, ht1, hk⟩ := ab_bnd hk
  refine ab_getR (pc := 2) dX8_stringsSharing_2 fl_RX8_34 ht1 ?_
  obtain ⟨t2, ht2, hk⟩ := ab_bnd hk
  refine ab_getI (pc := 5) dX8_stringsSharing_5 fl_RX8_102 ht2 ?_
  refine ab_ishl (pc := 8) dX8_stringsSharing_8 ?_
  refine ab_iconst (pc := 9) dX8_stringsSharing_9 ab_k_1 ?_
  refine ab_isub (pc := 10) dX8_stringsSharing_10 ?_
  refine ab_istore_n (pc := 11) (i := 3) (lv2 := [some (ab_R a0), some (ab_I a1), some (ab_I a2), some (ab_I (ab_w32 ((ab_shl (1 : Int) t2) - (1 : Int)))), none]) dX8_stringsSharing_11 rfl (Nat.le_of_ble_eq_true rfl) rfl rfl ?_
  refine ab_iconst (pc := 12) dX8_stringsSharing_12 ab_k_0 ?_
  refine ab_istore (pc := 13) (i := 4) (lv2 := [some (ab_R a0), some (ab_I a1), some (ab_I a2), some (ab_I (ab_w32 ((ab_shl (1 : Int) t2) - (1 : Int)))), some (ab_I (0 : Int))]) dX8_stringsSharing_13 (Nat.le_of_ble_eq_true rfl) rfl rfl ?_
  refine ab_sub_ (lv2 := [some (ab_R a0), some (ab_I a1), some (ab_I a2), some (ab_I (ab_w32 ((ab_shl (1 : Int) t2) - (1 : Int)))), some (ab_I (0 : Int))]) (ab_ss (ab_ss (ab_ss (ab_ss (ab_ss ab_s0))))) ?_
  refine e_X8_stringsSharing_L15 _ _ _ _ _ _ _ _ hk
theorem dX8_sharing_0 : decode cX8_sharing 0 = .ok (.aload_n 0, 1) := by decide +kernel
theorem dX8_sharing_1 : decode cX8_sharing 1 = .ok (.iload_n 1, 1) := by decide +kernel
theorem dX8_sharing_2 : decode cX8_sharing 2 = .ok (.invokevirtual 117, 3) := by decide +kernel
theorem dX8_sharing_5 : decode cX8_sharing 5 = .ok (.ifCond .eq 22, 3) := by decide +kernel
theorem dX8_sharing_8 : decode cX8_sharing 8 = .ok (.iload_n 2, 1) := by decide +kernel
theorem dX8_sharing_9 : decode cX8_sharing 9 = .ok (.ifCond .lt 18, 3) := by decide +kernel
theorem dX8_sharing_12 : decode cX8_sharing 12 = .ok (.iload_n 2, 1) := by decide +kernel
theorem dX8_sharing_13 : decode cX8_sharing 13 = .ok (.iconst 1, 1) := by decide +kernel
theorem dX8_sharing_14 : decode cX8_sharing 14 = .ok (.aload_n 0, 1) := by decide +kernel
theorem dX8_sharing_15 : decode cX8_sharing 15 = .ok (.getfield 34, 3) := by decide +kernel
theorem dX8_sharing_18 : decode cX8_sharing 18 = .ok (.getfield 125, 3) := by decide +kernel
theorem dX8_sharing_21 : decode cX8_sharing 21 = .ok (.iload_n 1, 1) := by decide +kernel
theorem dX8_sharing_22 : decode cX8_sharing 22 = .ok (.iaload, 1) := by decide +kernel
theorem dX8_sharing_23 : decode cX8_sharing 23 = .ok (.ishl, 1) := by decide +kernel
theorem dX8_sharing_24 : decode cX8_sharing 24 = .ok (.if_icmp .lt 6, 3) := by decide +kernel
theorem dX8_sharing_27 : decode cX8_sharing 27 = .ok (.bipush (-2), 2) := by decide +kernel
theorem dX8_sharing_29 : decode cX8_sharing 29 = .ok (.ireturn, 1) := by decide +kernel
theorem dX8_sharing_30 : decode cX8_sharing 30 = .ok (.aload_n 0, 1) := by decide +kernel
theorem dX8_sharing_31 : decode cX8_sharing 31 = .ok (.iload_n 1, 1) := by decide +kernel
theorem dX8_sharing_32 : decode cX8_sharing 32 = .ok (.iload_n 2, 1) := by decide +kernel
theorem dX8_sharing_33 : decode cX8_sharing 33 = .ok (.invokevirtual 294, 3) := by decide +kernel
theorem dX8_sharing_36 : decode cX8_sharing 36 = .ok (.ireturn, 1) := by decide +kernel
abbrev mm_X8_sharing : ab_M := (RX8, 3, (some .int), false, 2, 45, none)
noncomputable def f_X8_sharing (a0 : Int) (a1 : Int) (a2 : Int) (h : ab_H) : Option (Int × ab_H) :=
  (ab_on h 9 a0 (f_X8_isString a0 a1 h)).bind fun q1 =>
  if q1.1 = (0 : Int) then
    some ((-2 : Int), q1.2)
  else
  if a2 < (0 : Int) then
    some ((-2 : Int), q1.2)
  else
  (ab_get q1.2 9 4 a0).bind fun t2 =>
  (ab_get q1.2 1 2 t2).bind fun t3 =>
  (ab_ald q1.2 11 t3 a1).bind fun t4 =>
  if a2 < ab_shl (1 : Int) t4 then
    (ab_on q1.2 9 a0 (f_X8_stringsSharing a0 a1 a2 q1.2)).bind fun q5 =>
    some (q5.1, q5.2)
  else
  some ((-2 : Int), q1.2)
set_option maxRecDepth 20000 in
theorem ct_X8_sharing {a0 a1 a2 : Int} {h : ab_H} {q : Int × ab_H} (hk : f_X8_sharing a0 a1 a2 h = some q) : ab_CT yX8_sharing cX8_sharing 3 (some .int) 2 45 [ab_R a0, ab_I a1, ab_I a2] h (some (ab_I q.1)) q.2 := by
  refine ab_CT.mk_ 0 (own := RX8) (ini := false) (lv := [some (ab_R a0), some (ab_I a1), some (ab_I a2)]) rfl (by decide +kernel) (fun q => by cases q) rfl rfl ?_
  unfold f_X8_sharing at hk
  show ab_E mm_X8_sharing cX8_sharing 0 _ [] h _ _
  refine ab_aload_n (pc := 0) (i := 0) dX8_sharing_0 rfl rfl ?_
  refine ab_iload_n (pc := 1) (i := 1) dX8_sharing_1 rfl rfl ?_
  obtain ⟨q1, hq1, hk⟩ := ab_bnd hk
  obtain ⟨hb, hq1⟩ := ab_on_some hq1
  refine ab_callVI (st := []) (as := [ab_I a1]) (b := a0) (pc := 2) dX8_sharing_2 ml_RX8_117 my_X8_isString mv_X8_isString hb (ct_X8_isString hq1) ⟨Nat.le_of_ble_eq_true rfl, Nat.le_of_ble_eq_true rfl⟩ rfl (Nat.le_of_ble_eq_true rfl) rfl ?_
  refine ab_if_eq (pc := 5) (tgt := 27) dX8_sharing_5 rfl (fun hc => ?_) (fun hc => ?_)
  · have hk := ab_ifp hk hc
    refine ab_bipush (pc := 27) dX8_sharing_27 ab_p8_m2 ab_k_m2 ?_
    obtain rfl := Option.some.inj hk
    exact ab_reti (pc := 29) dX8_sharing_29 (Or.inl rfl)
  · have hk := ab_ifn hk hc
    refine ab_iload_n (pc := 8) (i := 2) dX8_sharing_8 rfl rfl ?_
    refine ab_if_lt (pc := 9) (tgt := 27) dX8_sharing_9 rfl (fun hc => ?_) (fun hc => ?_)
    · have hk := ab_ifp hk hc
      refine ab_bipush (pc := 27) dX8_sharing_27 ab_p8_m2 ab_k_m2 ?_
      obtain rfl := Option.some.inj hk
      exact ab_reti (pc := 29) dX8_sharing_29 (Or.inl rfl)
    · have hk := ab_ifn hk hc
      refine ab_iload_n (pc := 12) (i := 2) dX8_sharing_12 rfl rfl ?_
      refine ab_iconst (pc := 13) dX8_sharing_13 ab_k_1 ?_
      refine ab_aload_n (pc := 14) (i := 0) dX8_sharing_14 rfl rfl ?_
      obtain ⟨t2, ht2, hk⟩ := ab_bnd hk
      refine ab_getR (pc := 15) dX8_sharing_15 fl_RX8_34 ht2 ?_
      obtain ⟨t3, ht3, hk⟩ := ab_bnd hk
      refine ab_getR (pc := 18) dX8_sharing_18 fl_RX8_125 ht3 ?_
      refine ab_iload_n (pc := 21) (i := 1) dX8_sharing_21 rfl rfl ?_
      obtain ⟨t4, ht4, hk⟩ := ab_bnd hk
      refine ab_iald (pc := 22) dX8_sharing_22 ht4 ?_
      refine ab_ishl (pc := 23) dX8_sharing_23 ?_
      refine ab_icmp_lt (pc := 24) (tgt := 30) dX8_sharing_24 rfl (fun hc => ?_) (fun hc => ?_)
      · have hk := ab_ifp hk hc
        refine ab_aload_n (pc := 30) (i := 0) dX8_sharing_30 rfl rfl ?_
        refine ab_iload_n (pc := 31) (i := 1) dX8_sharing_31 rfl rfl ?_
        refine ab_iload_n (pc := 32) (i := 2) dX8_sharing_32 rfl rfl ?_
        obtain ⟨q5, hq5, hk⟩ := ab_bnd hk
        obtain ⟨hb, hq5⟩ := ab_on_some hq5
        refine ab_callVI (st := []) (as := [ab_I a1, ab_I a2]) (b := a0) (pc := 33) dX8_sharing_33 ml_RX8_294 my_X8_stringsSharing mv_X8_stringsSharing hb (ct_X8_stringsSharing hq5) ⟨Nat.le_of_ble_eq_true rfl, Nat.le_of_ble_eq_true rfl⟩ rfl (Nat.le_of_ble_eq_true rfl) rfl ?_
        obtain rfl := Option.some.inj hk
        exact ab_reti (pc := 36) dX8_sharing_36 (Or.inl rfl)
      · have hk := ab_ifn hk hc
        refine ab_bipush (pc := 27) dX8_sharing_27 ab_p8_m2 ab_k_m2 ?_
        obtain rfl := Option.some.inj hk
        exact ab_reti (pc := 29) dX8_sharing_29 (Or.inl rfl)
theorem dX8_often_0 : decode cX8_often 0 = .ok (.aload_n 0, 1) := by decide +kernel
theorem dX8_often_1 : decode cX8_often 1 = .ok (.iload_n 1, 1) := by decide +kernel
theorem dX8_often_2 : decode cX8_often 2 = .ok (.invokevirtual 161, 3) := by decide +kernel
theorem dX8_often_5 : decode cX8_often 5 = .ok (.ifCond .eq 14, 3) := by decide +kernel
theorem dX8_often_8 : decode cX8_often 8 = .ok (.aload_n 0, 1) := by decide +kernel
theorem dX8_often_9 : decode cX8_often 9 = .ok (.getfield 51, 3) := by decide +kernel
theorem dX8_often_12 : decode cX8_often 12 = .ok (.iload_n 1, 1) := by decide +kernel
theorem dX8_often_13 : decode cX8_often 13 = .ok (.invokevirtual 297, 3) := by decide +kernel
theorem dX8_often_16 : decode cX8_often 16 = .ok (.goto 5, 3) := by decide +kernel
theorem dX8_often_19 : decode cX8_often 19 = .ok (.bipush (-2), 2) := by decide +kernel
theorem dX8_often_21 : decode cX8_often 21 = .ok (.ireturn, 1) := by decide +kernel
abbrev mm_X8_often : ab_M := (RX8, 2, (some .int), false, 2, 41, none)
noncomputable def f_X8_often (a0 : Int) (a1 : Int) (h : ab_H) : Option (Int × ab_H) :=
  (ab_on h 9 a0 (f_X8_isWord a0 a1 h)).bind fun q1 =>
  if q1.1 = (0 : Int) then
    some ((-2 : Int), q1.2)
  else
  (ab_get q1.2 9 7 a0).bind fun t2 =>
  (ab_on q1.2 8 t2 (f_X7_stringCount t2 a1 q1.2)).bind fun q3 =>
  some (q3.1, q3.2)
set_option maxRecDepth 20000 in
theorem ct_X8_often {a0 a1 : Int} {h : ab_H} {q : Int × ab_H} (hk : f_X8_often a0 a1 h = some q) : ab_CT yX8_often cX8_often 2 (some .int) 2 41 [ab_R a0, ab_I a1] h (some (ab_I q.1)) q.2 := by
  refine ab_CT.mk_ 0 (own := RX8) (ini := false) (lv := [some (ab_R a0), some (ab_I a1)]) rfl (by decide +kernel) (fun q => by cases q) rfl rfl ?_
  unfold f_X8_often at hk
  show ab_E mm_X8_often cX8_often 0 _ [] h _ _
  refine ab_aload_n (pc := 0) (i := 0) dX8_often_0 rfl rfl ?_
  refine ab_iload_n (pc := 1) (i := 1) dX8_often_1 rfl rfl ?_
  obtain ⟨q1, hq1, hk⟩ := ab_bnd hk
  obtain ⟨hb, hq1⟩ := ab_on_some hq1
  refine ab_callVI (st := []) (as := [ab_I a1]) (b := a0) (pc := 2) dX8_often_2 ml_RX8_161 my_X8_isWord mv_X8_isWord hb (ct_X8_isWord hq1) ⟨Nat.le_of_ble_eq_true rfl, Nat.le_of_ble_eq_true rfl⟩ rfl (Nat.le_of_ble_eq_true rfl) rfl ?_
  refine ab_if_eq (pc := 5) (tgt := 19) dX8_often_5 rfl (fun hc => ?_) (fun hc => ?_)
  · have hk := ab_ifp hk hc
    refine ab_bipush (pc := 19) dX8_often_19 ab_p8_m2 ab_k_m2 ?_
    obtain rfl := Option.some.inj hk
    exact ab_reti (pc := 21) dX8_often_21 (Or.inl rfl)
  · have hk := ab_ifn hk hc
    refine ab_aload_n (pc := 8) (i := 0) dX8_often_8 rfl rfl ?_
    obtain ⟨t2, ht2, hk⟩ := ab_bnd hk
    refine ab_getR (pc := 9) dX8_often_9 fl_RX8_51 ht2 ?_
    refine ab_iload_n (pc := 12) (i := 1) dX8_often_12 rfl rfl ?_
    obtain ⟨q3, hq3, hk⟩ := ab_bnd hk
    obtain ⟨hb, hq3⟩ := ab_on_some hq3
    refine ab_callVI (st := []) (as := [ab_I a1]) (b := t2) (pc := 13) dX8_often_13 ml_RX8_297 my_X7_stringCount mv_X7_stringCount hb (ct_X7_stringCount hq3) ⟨Nat.le_of_ble_eq_true rfl, Nat.le_of_ble_eq_true rfl⟩ rfl (Nat.le_of_ble_eq_true rfl) rfl ?_
    refine ab_goto (pc := 16) (tgt := 21) dX8_often_16 rfl ?_
    obtain rfl := Option.some.inj hk
    exact ab_reti (pc := 21) dX8_often_21 (Or.inl rfl)
theorem dX8_most_0 : decode cX8_most 0 = .ok (.iload_n 1, 1) := by decide +kernel
theorem dX8_most_1 : decode cX8_most 1 = .ok (.ifCond .ge 6, 3) := by decide +kernel
theorem dX8_most_4 : decode cX8_most 4 = .ok (.bipush (-2), 2) := by decide +kernel
theorem dX8_most_6 : decode cX8_most 6 = .ok (.ireturn, 1) := by decide +kernel
theorem dX8_most_7 : decode cX8_most 7 = .ok (.iconst 0, 1) := by decide +kernel
theorem dX8_most_8 : decode cX8_most 8 = .ok (.istore_n 2, 1) := by decide +kernel
theorem dX8_most_9 : decode cX8_most 9 = .ok (.iload_n 2, 1) := by decide +kernel
theorem dX8_most_10 : decode cX8_most 10 = .ok (.aload_n 0, 1) := by decide +kernel
theorem dX8_most_11 : decode cX8_most 11 = .ok (.getfield 51, 3) := by decide +kernel
theorem dX8_most_14 : decode cX8_most 14 = .ok (.getfield 110, 3) := by decide +kernel
theorem dX8_most_17 : decode cX8_most 17 = .ok (.if_icmp .ge 23, 3) := by decide +kernel
theorem dX8_most_20 : decode cX8_most 20 = .ok (.aload_n 0, 1) := by decide +kernel
theorem dX8_most_21 : decode cX8_most 21 = .ok (.getfield 51, 3) := by decide +kernel
theorem dX8_most_24 : decode cX8_most 24 = .ok (.iload_n 2, 1) := by decide +kernel
theorem dX8_most_25 : decode cX8_most 25 = .ok (.invokevirtual 300, 3) := by decide +kernel
theorem dX8_most_28 : decode cX8_most 28 = .ok (.iload_n 1, 1) := by decide +kernel
theorem dX8_most_29 : decode cX8_most 29 = .ok (.if_icmp .ne 5, 3) := by decide +kernel
theorem dX8_most_32 : decode cX8_most 32 = .ok (.iload_n 2, 1) := by decide +kernel
theorem dX8_most_33 : decode cX8_most 33 = .ok (.ireturn, 1) := by decide +kernel
theorem dX8_most_34 : decode cX8_most 34 = .ok (.iinc 2 1, 3) := by decide +kernel
theorem dX8_most_37 : decode cX8_most 37 = .ok (.goto (-28), 3) := by decide +kernel
theorem dX8_most_40 : decode cX8_most 40 = .ok (.iconst (-1), 1) := by decide +kernel
theorem dX8_most_41 : decode cX8_most 41 = .ok (.ireturn, 1) := by decide +kernel
abbrev mm_X8_most : ab_M := (RX8, 3, (some .int), false, 3, 66, none)
noncomputable def f_X8_most_L9 : Nat → Int → Int → Int → ab_H → Option (Int × ab_H)
  | 0, _, _, _, _ => none
  | n + 1, v0, v1, v2, h =>
    (ab_get h 9 7 v0).bind fun t1 =>
    (ab_get h 8 0 t1).bind fun t2 =>
    if t2 ≤ v2 then
      some ((-1 : Int), h)
    else
    (ab_get h 9 7 v0).bind fun t3 =>
    (ab_on h 8 t3 (f_X7_rankOf t3 v2 h)).bind fun q4 =>
    if q4.1 = v1 then
      some (v2, q4.2)
    else
    f_X8_most_L9 n v0 v1 (ab_w32 (v2 + (1 : Int))) q4.2
set_option maxRecDepth 20000 in
theorem e_X8_most_L9 : ∀ (n : Nat) (v0 : Int) (v1 : Int) (v2 : Int) (h : ab_H) (q : Int × ab_H), f_X8_most_L9 n v0 v1 v2 h = some q → ab_E mm_X8_most cX8_most 9 [some (ab_R v0), some (ab_I v1), some (ab_I v2)] [] h (some (ab_I q.1)) q.2 := by
  intro n
  induction n with
  | zero => intro v0 v1 v2 h q hk; cases hk
  | succ n ih =>
    intro v0 v1 v2 h q hk
    unfold f_X8_most_L9 at hk
    refine ab_iload_n (pc := 9) (i := 2) dX8_most_9 rfl rfl ?_
    refine ab_aload_n (pc := 10) (i := 0) dX8_most_10 rfl rfl ?_
    obtain ⟨t1, ht1, hk⟩ := ab_bnd hk
    refine ab_getR (pc := 11) dX8_most_11 fl_RX8_51 ht1 ?_
    obtain ⟨t2, ht2, hk⟩ := ab_bnd hk
    refine ab_getI (pc := 14) dX8_most_14 fl_RX8_110 ht2 ?_
    refine ab_icmp_ge (pc := 17) (tgt := 40) dX8_most_17 rfl (fun hc => ?_) (fun hc => ?_)
    · have hk := ab_ifp hk hc
      refine ab_iconst (pc := 40) dX8_most_40 ab_k_m1 ?_
      obtain rfl := Option.some.inj hk
      exact ab_reti (pc := 41) dX8_most_41 (Or.inl rfl)
    · have hk := ab_ifn hk hc
      refine ab_aload_n (pc := 20) (i := 0) dX8_most_20 rfl rfl ?_
      obtain ⟨t3, ht3, hk⟩ := ab_bnd hk
      refine ab_getR (pc := 21) dX8_most_21 fl_RX8_51 ht3 ?_
      refine ab_iload_n (pc := 24) (i := 2) dX8_most_24 rfl rfl ?_
      obtain ⟨q4, hq4, hk⟩ := ab_bnd hk
      obtain ⟨hb, hq4⟩ := ab_on_some hq4
      refine ab_callVI (st := []) (as := [ab_I v2]) (b := t3) (pc := 25) dX8_most_25 ml_RX8_300 my_X7_rankOf mv_X7_rankOf hb (ct_X7_rankOf hq4) ⟨Nat.le_of_ble_eq_true rfl, Nat.le_of_ble_eq_true rfl⟩ rfl (Nat.le_of_ble_eq_true rfl) rfl ?_
      refine ab_iload_n (pc := 28) (i := 1) dX8_most_28 rfl rfl ?_
      refine ab_icmp_ne (pc := 29) (tgt := 34) dX8_most_29 rfl (fun hc => ?_) (fun hc => ?_)
      · have hk := ab_ifn hk hc
        refine ab_iinc (pc := 34) (i := 2) (lv2 := [some (ab_R v0), some (ab_I v1), some (ab_I (ab_w32 (v2 + (1 : Int))))]) dX8_most_34 rfl (Nat.le_of_ble_eq_true rfl) rfl rfl ?_
        refine ab_goto (pc := 37) (tgt := 9) dX8_most_37 rfl ?_
        refine ab_sub_ (lv2 := [some (ab_R v0), some (ab_I v1), some (ab_I (ab_w32 (v2 + (1 : Int))))]) (ab_ss (ab_ss (ab_ss ab_s0))) ?_
        exact ih _ _ _ _ _ hk
      · have hk := ab_ifp hk hc
        refine ab_iload_n (pc := 32) (i := 2) dX8_most_32 rfl rfl ?_
        obtain rfl := Option.some.inj hk
        exact ab_reti (pc := 33) dX8_most_33 (Or.inl rfl)
noncomputable def f_X8_most (a0 : Int) (a1 : Int) (h : ab_H) : Option (Int × ab_H) :=
  if (0 : Int) ≤ a1 then
    f_X8_most_L9 ab_FU a0 a1 (0 : Int) h
  else
  some ((-2 : Int), h)
set_option maxRecDepth 20000 in
theorem ct_X8_most {a0 a1 : Int} {h : ab_H} {q : Int × ab_H} (hk : f_X8_most a0 a1 h = some q) : ab_CT yX8_most cX8_most 3 (some .int) 3 66 [ab_R a0, ab_I a1] h (some (ab_I q.1)) q.2 := by
  refine ab_CT.mk_ 1 (own := RX8) (ini := false) (lv := [some (ab_R a0), some (ab_I a1), none]) rfl (by decide +kernel) (fun q => by cases q) rfl rfl ?_
  unfold f_X8_most at hk
  show ab_E mm_X8_most cX8_most 0 _ [] h _ _
  refine ab_iload_n (pc := 0) (i := 1) dX8_most_0 rfl rfl ?_
  refine ab_if_ge (pc := 1) (tgt := 7) dX8_most_1 rfl (fun hc => ?_) (fun hc => ?_)
  · have hk := ab_ifp hk hc
    refine ab_iconst (pc := 7) dX8_most_7 ab_k_0 ?_
    refine ab_istore_n (pc := 8) (i := 2) (lv2 := [some (ab_R a0), some (ab_I a1), some (ab_I (0 : Int))]) dX8_most_8 rfl (Nat.le_of_ble_eq_true rfl) rfl rfl ?_
    refine ab_sub_ (lv2 := [some (ab_R a0), some (ab_I a1), some (ab_I (0 : Int))]) (ab_ss (ab_ss (ab_ss ab_s0))) ?_
    refine e_X8_most_L9 _ _ _ _ _ _ hk
  · have hk := ab_ifn hk hc
    refine ab_bipush (pc := 4) dX8_most_4 ab_p8_m2 ab_k_m2 ?_
    obtain rfl := Option.some.inj hk
    exact ab_reti (pc := 6) dX8_most_6 (Or.inl rfl)
theorem dX8_rarest_0 : decode cX8_rarest 0 = .ok (.aload_n 0, 1) := by decide +kernel
theorem dX8_rarest_1 : decode cX8_rarest 1 = .ok (.iload_n 1, 1) := by decide +kernel
theorem dX8_rarest_2 : decode cX8_rarest 2 = .ok (.invokevirtual 117, 3) := by decide +kernel
theorem dX8_rarest_5 : decode cX8_rarest 5 = .ok (.ifCond .ne 6, 3) := by decide +kernel
theorem dX8_rarest_8 : decode cX8_rarest 8 = .ok (.bipush (-2), 2) := by decide +kernel
theorem dX8_rarest_10 : decode cX8_rarest 10 = .ok (.ireturn, 1) := by decide +kernel
theorem dX8_rarest_11 : decode cX8_rarest 11 = .ok (.iconst (-1), 1) := by decide +kernel
theorem dX8_rarest_12 : decode cX8_rarest 12 = .ok (.istore_n 2, 1) := by decide +kernel
theorem dX8_rarest_13 : decode cX8_rarest 13 = .ok (.bipush 13, 2) := by decide +kernel
theorem dX8_rarest_15 : decode cX8_rarest 15 = .ok (.istore_n 3, 1) := by decide +kernel
theorem dX8_rarest_16 : decode cX8_rarest 16 = .ok (.iconst 0, 1) := by decide +kernel
theorem dX8_rarest_17 : decode cX8_rarest 17 = .ok (.istore 4, 2) := by decide +kernel
theorem dX8_rarest_19 : decode cX8_rarest 19 = .ok (.iload 4, 2) := by decide +kernel
theorem dX8_rarest_21 : decode cX8_rarest 21 = .ok (.aload_n 0, 1) := by decide +kernel
theorem dX8_rarest_22 : decode cX8_rarest 22 = .ok (.getfield 34, 3) := by decide +kernel
theorem dX8_rarest_25 : decode cX8_rarest 25 = .ok (.getfield 125, 3) := by decide +kernel
theorem dX8_rarest_28 : decode cX8_rarest 28 = .ok (.iload_n 1, 1) := by decide +kernel
theorem dX8_rarest_29 : decode cX8_rarest 29 = .ok (.iaload, 1) := by decide +kernel
theorem dX8_rarest_30 : decode cX8_rarest 30 = .ok (.if_icmp .ge 45, 3) := by decide +kernel
theorem dX8_rarest_33 : decode cX8_rarest 33 = .ok (.aload_n 0, 1) := by decide +kernel
theorem dX8_rarest_34 : decode cX8_rarest 34 = .ok (.getfield 51, 3) := by decide +kernel
theorem dX8_rarest_37 : decode cX8_rarest 37 = .ok (.aload_n 0, 1) := by decide +kernel
theorem dX8_rarest_38 : decode cX8_rarest 38 = .ok (.getfield 58, 3) := by decide +kernel
theorem dX8_rarest_41 : decode cX8_rarest 41 = .ok (.getfield 148, 3) := by decide +kernel
theorem dX8_rarest_44 : decode cX8_rarest 44 = .ok (.iload_n 1, 1) := by decide +kernel
theorem dX8_rarest_45 : decode cX8_rarest 45 = .ok (.bipush 6, 2) := by decide +kernel
theorem dX8_rarest_47 : decode cX8_rarest 47 = .ok (.imul, 1) := by decide +kernel
theorem dX8_rarest_48 : decode cX8_rarest 48 = .ok (.iload 4, 2) := by decide +kernel
theorem dX8_rarest_50 : decode cX8_rarest 50 = .ok (.iadd, 1) := by decide +kernel
theorem dX8_rarest_51 : decode cX8_rarest 51 = .ok (.iaload, 1) := by decide +kernel
theorem dX8_rarest_52 : decode cX8_rarest 52 = .ok (.invokevirtual 297, 3) := by decide +kernel
theorem dX8_rarest_55 : decode cX8_rarest 55 = .ok (.istore 5, 2) := by decide +kernel
theorem dX8_rarest_57 : decode cX8_rarest 57 = .ok (.iload 5, 2) := by decide +kernel
theorem dX8_rarest_59 : decode cX8_rarest 59 = .ok (.iload_n 3, 1) := by decide +kernel
theorem dX8_rarest_60 : decode cX8_rarest 60 = .ok (.if_icmp .ge 9, 3) := by decide +kernel
theorem dX8_rarest_63 : decode cX8_rarest 63 = .ok (.iload 5, 2) := by decide +kernel
theorem dX8_rarest_65 : decode cX8_rarest 65 = .ok (.istore_n 3, 1) := by decide +kernel
theorem dX8_rarest_66 : decode cX8_rarest 66 = .ok (.iload 4, 2) := by decide +kernel
theorem dX8_rarest_68 : decode cX8_rarest 68 = .ok (.istore_n 2, 1) := by decide +kernel
theorem dX8_rarest_69 : decode cX8_rarest 69 = .ok (.iinc 4 1, 3) := by decide +kernel
theorem dX8_rarest_72 : decode cX8_rarest 72 = .ok (.goto (-53), 3) := by decide +kernel
theorem dX8_rarest_75 : decode cX8_rarest 75 = .ok (.iload_n 2, 1) := by decide +kernel
theorem dX8_rarest_76 : decode cX8_rarest 76 = .ok (.ireturn, 1) := by decide +kernel
abbrev mm_X8_rarest : ab_M := (RX8, 6, (some .int), false, 2, 41, none)
noncomputable def f_X8_rarest_J69 (rec : Int → Int → Int → Int → Int → ab_H → Option (Int × ab_H)) (v0 : Int) (v1 : Int) (v2 : Int) (v3 : Int) (v4 : Int) (h : ab_H) : Option (Int × ab_H) :=
  rec v0 v1 v2 v3 (ab_w32 (v4 + (1 : Int))) h
set_option maxRecDepth 20000 in
theorem e_X8_rarest_J69 {rec : Int → Int → Int → Int → Int → ab_H → Option (Int × ab_H)} (hrec : ∀ (v0 : Int) (v1 : Int) (v2 : Int) (v3 : Int) (v4 : Int) (h : ab_H) (q : Int × ab_H), rec v0 v1 v2 v3 v4 h = some q → ab_E mm_X8_rarest cX8_rarest 19 [some (ab_R v0), some (ab_I v1), some (ab_I v2), some (ab_I v3), some (ab_I v4), none] [] h (some (ab_I q.1)) q.2) : ∀ (v0 : Int) (v1 : Int) (v2 : Int) (v3 : Int) (v4 : Int) (h : ab_H) (q : Int × ab_H), f_X8_rarest_J69 rec v0 v1 v2 v3 v4 h = some q → ab_E mm_X8_rarest cX8_rarest 69 [some (ab_R v0), some (ab_I v1), some (ab_I v2), some (ab_I v3), some (ab_I v4), none] [] h (some (ab_I q.1)) q.2 := by
  intro v0 v1 v2 v3 v4 h q hk
  unfold f_X8_rarest_J69 at hk
  refine ab_iinc (pc := 69) (i := 4) (lv2 := [some (ab_R v0), some (ab_I v1), some (ab_I v2), some (ab_I v3), some (ab_I (ab_w32 (v4 + (1 : Int)))), none]) dX8_rarest_69 rfl (Nat.le_of_ble_eq_true rfl) rfl rfl ?_
  refine ab_goto (pc := 72) (tgt := 19) dX8_rarest_72 rfl ?_
  refine ab_sub_ (lv2 := [some (ab_R v0), some (ab_I v1), some (ab_I v2), some (ab_I v3), some (ab_I (ab_w32 (v4 + (1 : Int)))), none]) (ab_ss (ab_ss (ab_ss (ab_ss (ab_ss (ab_sn ab_s0)))))) ?_
  exact hrec _ _ _ _ _ _ _ hk
noncomputable def f_X8_rarest_L19 : Nat → Int → Int → Int → Int → Int → ab_H → Option (Int × ab_H)
  | 0, _, _, _, _, _, _ => none
  | n + 1, v0, v1, v2, v3, v4, h =>
    (ab_get h 9 4 v0).bind fun t1 =>
    (ab_get h 1 2 t1).bind fun t2 =>
    (ab_ald h 11 t2 v1).bind fun t3 =>
    if t3 ≤ v4 then
      some (v2, h)
    else
    (ab_get h 9 7 v0).bind fun t4 =>
    (ab_get h 9 8 v0).bind fun t5 =>
    (ab_get h 6 3 t5).bind fun t6 =>
    (ab_ald h 11 t6 (ab_w32 ((ab_w32 (v1 * (6 : Int))) + v4))).bind fun t7 =>
    (ab_on h 8 t4 (f_X7_stringCount t4 t7 h)).bind fun q8 =>
    if v3 ≤ q8.1 then
      f_X8_rarest_J69 (f_X8_rarest_L19 n) v0 v1 v2 v3 v4 q8.2
    else
    f_X8_rarest_J69 (f_X8_rarest_L19 n) v0 v1 v4 q8.1 v4 q8.2
set_option maxRecDepth 20000 in
theorem e_X8_rarest_L19 : ∀ (n : Nat) (v0 : Int) (v1 : Int) (v2 : Int) (v3 : Int) (v4 : Int) (h : ab_H) (q : Int × ab_H), f_X8_rarest_L19 n v0 v1 v2 v3 v4 h = some q → ab_E mm_X8_rarest cX8_rarest 19 [some (ab_R v0), some (ab_I v1), some (ab_I v2), some (ab_I v3), some (ab_I v4), none] [] h (some (ab_I q.1)) q.2 := by
  intro n
  induction n with
  | zero => intro v0 v1 v2 v3 v4 h q hk; cases hk
  | succ n ih =>
    intro v0 v1 v2 v3 v4 h q hk
    unfold f_X8_rarest_L19 at hk
    refine ab_iload (pc := 19) (i := 4) dX8_rarest_19 rfl ?_
    refine ab_aload_n (pc := 21) (i := 0) dX8_rarest_21 rfl rfl ?_
    obtain ⟨t1, ht1, hk⟩ := ab_bnd hk
    refine ab_getR (pc := 22) dX8_rarest_22 fl_RX8_34 ht1 ?_
    obtain ⟨t2, ht2, hk⟩ := ab_bnd hk
    refine ab_getR (pc := 25) dX8_rarest_25 fl_RX8_125 ht2 ?_
    refine ab_iload_n (pc := 28) (i := 1) dX8_rarest_28 rfl rfl ?_
    obtain ⟨t3, ht3, hk⟩ := ab_bnd hk
    refine ab_iald (pc := 29) dX8_rarest_29 ht3 ?_
    refine ab_icmp_ge (pc := 30) (tgt := 75) dX8_rarest_30 rfl (fun hc => ?_) (fun hc => ?_)
    · have hk := ab_ifp hk hc
      refine ab_iload_n (pc := 75) (i := 2) dX8_rarest_75 rfl rfl ?_
      obtain rfl := Option.some.inj hk
      exact ab_reti (pc := 76) dX8_rarest_76 (Or.inl rfl)
    · have hk := ab_ifn hk hc
      refine ab_aload_n (pc := 33) (i := 0) dX8_rarest_33 rfl rfl ?_
      obtain ⟨t4, ht4, hk⟩ := ab_bnd hk
      refine ab_getR (pc := 34) dX8_rarest_34 fl_RX8_51 ht4 ?_
      refine ab_aload_n (pc := 37) (i := 0) dX8_rarest_37 rfl rfl ?_
      obtain ⟨t5, ht5, hk⟩ := ab_bnd hk
      refine ab_getR (pc := 38) dX8_rarest_38 fl_RX8_58 ht5 ?_
      obtain ⟨t6, ht6, hk⟩ := ab_bnd hk
      refine ab_getR (pc := 41) dX8_rarest_41 fl_RX8_148 ht6 ?_
      refine ab_iload_n (pc := 44) (i := 1) dX8_rarest_44 rfl rfl ?_
      refine ab_bipush (pc := 45) dX8_rarest_45 ab_p8_6 ab_k_6 ?_
      refine ab_imul (pc := 47) dX8_rarest_47 ?_
      refine ab_iload (pc := 48) (i := 4) dX8_rarest_48 rfl ?_
      refine ab_iadd (pc := 50) dX8_rarest_50 ?_
      obtain ⟨t7, ht7, hk⟩ := ab_bnd hk
      refine ab_iald (pc := 51) dX8_rarest_51 ht7 ?_
      obtain ⟨q8, hq8, hk⟩ := ab_bnd hk
      obtain ⟨hb, hq8⟩ := ab_on_some hq8
      refine ab_callVI (st := []) (as := [ab_I t7]) (b := t4) (pc := 52) dX8_rarest_52 ml_RX8_297 my_X7_stringCount mv_X7_stringCount hb (ct_X7_stringCount hq8) ⟨Nat.le_of_ble_eq_true rfl, Nat.le_of_ble_eq_true rfl⟩ rfl (Nat.le_of_ble_eq_true rfl) rfl ?_
      refine ab_istore (pc := 55) (i := 5) (lv2 := [some (ab_R v0), some (ab_I v1), some (ab_I v2), some (ab_I v3), some (ab_I v4), some (ab_I q8.1)]) dX8_rarest_55 (Nat.le_of_ble_eq_true rfl) rfl rfl ?_
      refine ab_iload (pc := 57) (i := 5) dX8_rarest_57 rfl ?_
      refine ab_iload_n (pc := 59) (i := 3) dX8_rarest_59 rfl rfl ?_
      refine ab_icmp_ge (pc := 60) (tgt := 69) dX8_rarest_60 rfl (fun hc => ?_) (fun hc => ?_)
      · have hk := ab_ifp hk hc
        refine ab_sub_ (lv2 := [some (ab_R v0), some (ab_I v1), some (ab_I v2), some (ab_I v3), some (ab_I v4), none]) (ab_ss (ab_ss (ab_ss (ab_ss (ab_ss (ab_sn ab_s0)))))) ?_
        exact e_X8_rarest_J69 ih _ _ _ _ _ _ _ hk
      · have hk := ab_ifn hk hc
        refine ab_iload (pc := 63) (i := 5) dX8_rarest_63 rfl ?_
        refine ab_istore_n (pc := 65) (i := 3) (lv2 := [some (ab_R v0), some (ab_I v1), some (ab_I v2), some (ab_I q8.1), some (ab_I v4), some (ab_I q8.1)]) dX8_rarest_65 rfl (Nat.le_of_ble_eq_true rfl) rfl rfl ?_
        refine ab_iload (pc := 66) (i := 4) dX8_rarest_66 rfl ?_
        refine ab_istore_n (pc := 68) (i := 2) (lv2 := [some (ab_R v0), some (ab_I v1), some (ab_I v4), some (ab_I q8.1), some (ab_I v4), some (ab_I q8.1)]) dX8_rarest_68 rfl (Nat.le_of_ble_eq_true rfl) rfl rfl ?_
        refine ab_sub_ (lv2 := [some (ab_R v0), some (ab_I v1), some (ab_I v4), some (ab_I q8.1), some (ab_I v4), none]) (ab_ss (ab_ss (ab_ss (ab_ss (ab_ss (ab_sn ab_s0)))))) ?_
        exact e_X8_rarest_J69 ih _ _ _ _ _ _ _ hk
noncomputable def f_X8_rarest (a0 : Int) (a1 : Int) (h : ab_H) : Option (Int × ab_H) :=
  (ab_on h 9 a0 (f_X8_isString a0 a1 h)).bind fun q1 =>
  if q1.1 = (0 : Int) then
    some ((-2 : Int), q1.2)
  else
  f_X8_rarest_L19 ab_FU a0 a1 (-1 : Int) (13 : Int) (0 : Int) q1.2
set_option maxRecDepth 20000 in
theorem ct_X8_rarest {a0 a1 : Int} {h : ab_H} {q : Int × ab_H} (hk : f_X8_rarest a0 a1 h = some q) : ab_CT yX8_rarest cX8_rarest 6 (some .int) 2 41 [ab_R a0, ab_I a1] h (some (ab_I q.1)) q.2 := by
  refine ab_CT.mk_ 4 (own := RX8) (ini := false) (lv := [some (ab_R a0), some (ab_I a1), none, none, none, none]) rfl (by decide +kernel) (fun q => by cases q) rfl rfl ?_
  unfold f_X8_rarest at hk
  show ab_E mm_X8_rarest cX8_rarest 0 _ [] h _ _
  refine ab_aload_n (pc := 0) (i := 0) dX8_rarest_0 rfl rfl ?_
  refine ab_iload_n (pc := 1) (i := 1) dX8_rarest_1 rfl rfl ?_
  obtain ⟨q1, hq1, hk⟩ := ab_bnd hk
  obtain ⟨hb, hq1⟩ := ab_on_some hq1
  refine ab_callVI (st := []) (as := [ab_I a1]) (b := a0) (pc := 2) dX8_rarest_2 ml_RX8_117 my_X8_isString mv_X8_isString hb (ct_X8_isString hq1) ⟨Nat.le_of_ble_eq_true rfl, Nat.le_of_ble_eq_true rfl⟩ rfl (Nat.le_of_ble_eq_true rfl) rfl ?_
  refine ab_if_ne (pc := 5) (tgt := 11) dX8_rarest_5 rfl (fun hc => ?_) (fun hc => ?_)
  · have hk := ab_ifn hk hc
    refine ab_iconst (pc := 11) dX8_rarest_11 ab_k_m1 ?_
    refine ab_istore_n (pc := 12) (i := 2) (lv2 := [some (ab_R a0), some (ab_I a1), some (ab_I (-1 : Int)), none, none, none]) dX8_rarest_12 rfl (Nat.le_of_ble_eq_true rfl) rfl rfl ?_
    refine ab_bipush (pc := 13) dX8_rarest_13 ab_p8_13 ab_k_13 ?_
    refine ab_istore_n (pc := 15) (i := 3) (lv2 := [some (ab_R a0), some (ab_I a1), some (ab_I (-1 : Int)), some (ab_I (13 : Int)), none, none]) dX8_rarest_15 rfl (Nat.le_of_ble_eq_true rfl) rfl rfl ?_
    refine ab_iconst (pc := 16) dX8_rarest_16 ab_k_0 ?_
    refine ab_istore (pc := 17) (i := 4) (lv2 := [some (ab_R a0), some (ab_I a1), some (ab_I (-1 : Int)), some (ab_I (13 : Int)), some (ab_I (0 : Int)), none]) dX8_rarest_17 (Nat.le_of_ble_eq_true rfl) rfl rfl ?_
    refine ab_sub_ (lv2 := [some (ab_R a0), some (ab_I a1), some (ab_I (-1 : Int)), some (ab_I (13 : Int)), some (ab_I (0 : Int)), none]) (ab_ss (ab_ss (ab_ss (ab_ss (ab_ss (ab_sn ab_s0)))))) ?_
    refine e_X8_rarest_L19 _ _ _ _ _ _ _ _ hk
  · have hk := ab_ifp hk hc
    refine ab_bipush (pc := 8) dX8_rarest_8 ab_p8_m2 ab_k_m2 ?_
    obtain rfl := Option.some.inj hk
    exact ab_reti (pc := 10) dX8_rarest_10 (Or.inl rfl)
theorem dX8_gather_0 : decode cX8_gather 0 = .ok (.iload_n 1, 1) := by decide +kernel
theorem dX8_gather_1 : decode cX8_gather 1 = .ok (.invokestatic 171, 3) := by decide +kernel
theorem dX8_gather_4 : decode cX8_gather 4 = .ok (.ifCond .eq 8, 3) := by decide +kernel
theorem dX8_gather_7 : decode cX8_gather 7 = .ok (.iload_n 2, 1) := by decide +kernel
theorem dX8_gather_8 : decode cX8_gather 8 = .ok (.iconst (-1), 1) := by decide +kernel
theorem dX8_gather_9 : decode cX8_gather 9 = .ok (.if_icmp .ge 6, 3) := by decide +kernel
theorem dX8_gather_12 : decode cX8_gather 12 = .ok (.bipush (-2), 2) := by decide +kernel
theorem dX8_gather_14 : decode cX8_gather 14 = .ok (.ireturn, 1) := by decide +kernel
theorem dX8_gather_15 : decode cX8_gather 15 = .ok (.iconst 0, 1) := by decide +kernel
theorem dX8_gather_16 : decode cX8_gather 16 = .ok (.istore_n 3, 1) := by decide +kernel
theorem dX8_gather_17 : decode cX8_gather 17 = .ok (.iconst 0, 1) := by decide +kernel
theorem dX8_gather_18 : decode cX8_gather 18 = .ok (.istore 4, 2) := by decide +kernel
theorem dX8_gather_20 : decode cX8_gather 20 = .ok (.iload 4, 2) := by decide +kernel
theorem dX8_gather_22 : decode cX8_gather 22 = .ok (.aload_n 0, 1) := by decide +kernel
theorem dX8_gather_23 : decode cX8_gather 23 = .ok (.getfield 51, 3) := by decide +kernel
theorem dX8_gather_26 : decode cX8_gather 26 = .ok (.getfield 110, 3) := by decide +kernel
theorem dX8_gather_29 : decode cX8_gather 29 = .ok (.if_icmp .ge 36, 3) := by decide +kernel
theorem dX8_gather_32 : decode cX8_gather 32 = .ok (.aload_n 0, 1) := by decide +kernel
theorem dX8_gather_33 : decode cX8_gather 33 = .ok (.getfield 58, 3) := by decide +kernel
theorem dX8_gather_36 : decode cX8_gather 36 = .ok (.iload_n 1, 1) := by decide +kernel
theorem dX8_gather_37 : decode cX8_gather 37 = .ok (.iload 4, 2) := by decide +kernel
theorem dX8_gather_39 : decode cX8_gather 39 = .ok (.invokevirtual 290, 3) := by decide +kernel
theorem dX8_gather_42 : decode cX8_gather 42 = .ok (.ifCond .ne 6, 3) := by decide +kernel
theorem dX8_gather_45 : decode cX8_gather 45 = .ok (.goto 14, 3) := by decide +kernel
theorem dX8_gather_48 : decode cX8_gather 48 = .ok (.iload_n 3, 1) := by decide +kernel
theorem dX8_gather_49 : decode cX8_gather 49 = .ok (.iload_n 2, 1) := by decide +kernel
theorem dX8_gather_50 : decode cX8_gather 50 = .ok (.if_icmp .ne 6, 3) := by decide +kernel
theorem dX8_gather_53 : decode cX8_gather 53 = .ok (.iload 4, 2) := by decide +kernel
theorem dX8_gather_55 : decode cX8_gather 55 = .ok (.ireturn, 1) := by decide +kernel
theorem dX8_gather_56 : decode cX8_gather 56 = .ok (.iinc 3 1, 3) := by decide +kernel
theorem dX8_gather_59 : decode cX8_gather 59 = .ok (.iinc 4 1, 3) := by decide +kernel
theorem dX8_gather_62 : decode cX8_gather 62 = .ok (.goto (-42), 3) := by decide +kernel
theorem dX8_gather_65 : decode cX8_gather 65 = .ok (.iload_n 2, 1) := by decide +kernel
theorem dX8_gather_66 : decode cX8_gather 66 = .ok (.iconst (-1), 1) := by decide +kernel
theorem dX8_gather_67 : decode cX8_gather 67 = .ok (.if_icmp .ne 7, 3) := by decide +kernel
theorem dX8_gather_70 : decode cX8_gather 70 = .ok (.iload_n 3, 1) := by decide +kernel
theorem dX8_gather_71 : decode cX8_gather 71 = .ok (.goto 4, 3) := by decide +kernel
theorem dX8_gather_74 : decode cX8_gather 74 = .ok (.iconst (-1), 1) := by decide +kernel
theorem dX8_gather_75 : decode cX8_gather 75 = .ok (.ireturn, 1) := by decide +kernel
abbrev mm_X8_gather : ab_M := (RX8, 5, (some .int), false, 2, 49, none)
noncomputable def f_X8_gather_J59 (rec : Int → Int → Int → Int → Int → ab_H → Option (Int × ab_H)) (k65 : Int → Int → ab_H → Option (Int × ab_H)) (v0 : Int) (v1 : Int) (v2 : Int) (v3 : Int) (v4 : Int) (h : ab_H) : Option (Int × ab_H) :=
  rec v0 v1 v2 v3 (ab_w32 (v4 + (1 : Int))) h
set_option maxRecDepth 20000 in
theorem e_X8_gather_J59 {rec : Int → Int → Int → Int → Int → ab_H → Option (Int × ab_H)} {k65 : Int → Int → ab_H → Option (Int × ab_H)} (hrec : ∀ (v0 : Int) (v1 : Int) (v2 : Int) (v3 : Int) (v4 : Int) (h : ab_H) (q : Int × ab_H), rec v0 v1 v2 v3 v4 h = some q → ab_E mm_X8_gather cX8_gather 20 [some (ab_R v0), some (ab_I v1), some (ab_I v2), some (ab_I v3), some (ab_I v4)] [] h (some (ab_I q.1)) q.2) (hk65 : ∀ (v2 : Int) (v3 : Int) (h : ab_H) (q : Int × ab_H), k65 v2 v3 h = some q → ab_E mm_X8_gather cX8_gather 65 [none, none, some (ab_I v2), some (ab_I v3), none] [] h (some (ab_I q.1)) q.2) : ∀ (v0 : Int) (v1 : Int) (v2 : Int) (v3 : Int) (v4 : Int) (h : ab_H) (q : Int × ab_H), f_X8_gather_J59 rec k65 v0 v1 v2 v3 v4 h = some q → ab_E mm_X8_gather cX8_gather 59 [some (ab_R v0), some (ab_I v1), some (ab_I v2), some (ab_I v3), some (ab_I v4)] [] h (some (ab_I q.1)) q.2 := by
  intro v0 v1 v2 v3 v4 h q hk
  unfold f_X8_gather_J59 at hk
  refine ab_iinc (pc := 59) (i := 4) (lv2 := [some (ab_R v0), some (ab_I v1), some (ab_I v2), some (ab_I v3), some (ab_I (ab_w32 (v4 + (1 : Int))))]) dX8_gather_59 rfl (Nat.le_of_ble_eq_true rfl) rfl rfl ?_
  refine ab_goto (pc := 62) (tgt := 20) dX8_gather_62 rfl ?_
  refine ab_sub_ (lv2 := [some (ab_R v0), some (ab_I v1), some (ab_I v2), some (ab_I v3), some (ab_I (ab_w32 (v4 + (1 : Int))))]) (ab_ss (ab_ss (ab_ss (ab_ss (ab_ss ab_s0))))) ?_
  exact hrec _ _ _ _ _ _ _ hk
noncomputable def f_X8_gather_L20 (k65 : Int → Int → ab_H → Option (Int × ab_H)) : Nat → Int → Int → Int → Int → Int → ab_H → Option (Int × ab_H)
  | 0, _, _, _, _, _, _ => none
  | n + 1, v0, v1, v2, v3, v4, h =>
    (ab_get h 9 7 v0).bind fun t1 =>
    (ab_get h 8 0 t1).bind fun t2 =>
    if t2 ≤ v4 then
      k65 v2 v3 h
    else
    (ab_get h 9 8 v0).bind fun t3 =>
    (ab_on h 6 t3 (f_X5_stringsWith t3 v1 v4 h)).bind fun q4 =>
    if q4.1 = (0 : Int) then
      f_X8_gather_J59 (f_X8_gather_L20 k65 n) k65 v0 v1 v2 v3 v4 q4.2
    else
    if v3 = v2 then
      some (v4, q4.2)
    else
    f_X8_gather_J59 (f_X8_gather_L20 k65 n) k65 v0 v1 v2 (ab_w32 (v3 + (1 : Int))) v4 q4.2
set_option maxRecDepth 20000 in
theorem e_X8_gather_L20 {k65 : Int → Int → ab_H → Option (Int × ab_H)} (hk65 : ∀ (v2 : Int) (v3 : Int) (h : ab_H) (q : Int × ab_H), k65 v2 v3 h = some q → ab_E mm_X8_gather cX8_gather 65 [none, none, some (ab_I v2), some (ab_I v3), none] [] h (some (ab_I q.1)) q.2) : ∀ (n : Nat) (v0 : Int) (v1 : Int) (v2 : Int) (v3 : Int) (v4 : Int) (h : ab_H) (q : Int × ab_H), f_X8_gather_L20 k65 n v0 v1 v2 v3 v4 h = some q → ab_E mm_X8_gather cX8_gather 20 [some (ab_R v0), some (ab_I v1), some (ab_I v2), some (ab_I v3), some (ab_I v4)] [] h (some (ab_I q.1)) q.2 := by
  intro n
  induction n with
  | zero => intro v0 v1 v2 v3 v4 h q hk; cases hk
  | succ n ih =>
    intro v0 v1 v2 v3 v4 h q hk
    unfold f_X8_gather_L20 at hk
    refine ab_iload (pc := 20) (i := 4) dX8_gather_20 rfl ?_
    refine ab_aload_n (pc := 22) (i := 0) dX8_gather_22 rfl rfl ?_
    obtain ⟨t1, ht1, hk⟩ := ab_bnd hk
    refine ab_getR (pc := 23) dX8_gather_23 fl_RX8_51 ht1 ?_
    obtain ⟨t2, ht2, hk⟩ := ab_bnd hk
    refine ab_getI (pc := 26) dX8_gather_26 fl_RX8_110 ht2 ?_
    refine ab_icmp_ge (pc := 29) (tgt := 65) dX8_gather_29 rfl (fun hc => ?_) (fun hc => ?_)
    · have hk := ab_ifp hk hc
      refine ab_sub_ (lv2 := [none, none, some (ab_I v2), some (ab_I v3), none]) (ab_sn (ab_sn (ab_ss (ab_ss (ab_sn ab_s0))))) ?_
      exact hk65 _ _ _ _ hk
    · have hk := ab_ifn hk hc
      refine ab_aload_n (pc := 32) (i := 0) dX8_gather_32 rfl rfl ?_
      obtain ⟨t3, ht3, hk⟩ := ab_bnd hk
      refine ab_getR (pc := 33) dX8_gather_33 fl_RX8_58 ht3 ?_
      refine ab_iload_n (pc := 36) (i := 1) dX8_gather_36 rfl rfl ?_
      refine ab_iload (pc := 37) (i := 4) dX8_gather_37 rfl ?_
      obtain ⟨q4, hq4, hk⟩ := ab_bnd hk
      obtain ⟨hb, hq4⟩ := ab_on_some hq4
      refine ab_callVI (st := []) (as := [ab_I v1, ab_I v4]) (b := t3) (pc := 39) dX8_gather_39 ml_RX8_290 my_X5_stringsWith mv_X5_stringsWith hb (ct_X5_stringsWith hq4) ⟨Nat.le_of_ble_eq_true rfl, Nat.le_of_ble_eq_true rfl⟩ rfl (Nat.le_of_ble_eq_true rfl) rfl ?_
      refine ab_if_ne (pc := 42) (tgt := 48) dX8_gather_42 rfl (fun hc => ?_) (fun hc => ?_)
      · have hk := ab_ifn hk hc
        refine ab_iload_n (pc := 48) (i := 3) dX8_gather_48 rfl rfl ?_
        refine ab_iload_n (pc := 49) (i := 2) dX8_gather_49 rfl rfl ?_
        refine ab_icmp_ne (pc := 50) (tgt := 56) dX8_gather_50 rfl (fun hc => ?_) (fun hc => ?_)
        · have hk := ab_ifn hk hc
          refine ab_iinc (pc := 56) (i := 3) (lv2 := [some (ab_R v0), some (ab_I v1), some (ab_I v2), some (ab_I (ab_w32 (v3 + (1 : Int)))), some (ab_I v4)]) dX8_gather_56 rfl (Nat.le_of_ble_eq_true rfl) rfl rfl ?_
          refine ab_sub_ (lv2 := [some (ab_R v0), some (ab_I v1), some (ab_I v2), some (ab_I (ab_w32 (v3 + (1 : Int)))), some (ab_I v4)]) (ab_ss (ab_ss (ab_ss (ab_ss (ab_ss ab_s0))))) ?_
          exact e_X8_gather_J59 ih hk65 _ _ _ _ _ _ _ hk
        · have hk := ab_ifp hk hc
          refine ab_iload (pc := 53) (i := 4) dX8_gather_53 rfl ?_
          obtain rfl := Option.some.inj hk
          exact ab_reti (pc := 55) dX8_gather_55 (Or.inl rfl)
      · have hk := ab_ifp hk hc
        refine ab_goto (pc := 45) (tgt := 59) dX8_gather_45 rfl ?_
        refine ab_sub_ (lv2 := [some (ab_R v0), some (ab_I v1), some (ab_I v2), some (ab_I v3), some (ab_I v4)]) (ab_ss (ab_ss (ab_ss (ab_ss (ab_ss ab_s0))))) ?_
        exact e_X8_gather_J59 ih hk65 _ _ _ _ _ _ _ hk
noncomputable def f_X8_gather (a0 : Int) (a1 : Int) (a2 : Int) (h : ab_H) : Option (Int × ab_H) :=
  (f_X8_isRole a1 h).bind fun q1 =>
  if q1.1 = (0 : Int) then
    some ((-2 : Int), q1.2)
  else
  if (-1 : Int) ≤ a2 then
    f_X8_gather_L20 (fun w65_2 w65_3 hx65 =>
      if w65_2 = (-1 : Int) then
        some (w65_3, hx65)
      else
      some ((-1 : Int), hx65)) ab_FU a0 a1 a2 (0 : Int) (0 : Int) q1.2
  else
  some ((-2 : Int), q1.2)
set_option maxRecDepth 20000 in
theorem ct_X8_gather {a0 a1 a2 : Int} {h : ab_H} {q : Int × ab_H} (hk : f_X8_gather a0 a1 a2 h = some q) : ab_CT yX8_gather cX8_gather 5 (some .int) 2 49 [ab_R a0, ab_I a1, ab_I a2] h (some (ab_I q.1)) q.2 := by
  refine ab_CT.mk_ 2 (own := RX8) (ini := false) (lv := [some (ab_R a0), some (ab_I a1), some (ab_I a2), none, none]) rfl (by decide +kernel) (fun q => by cases q) rfl rfl ?_
  unfold f_X8_gather at hk
  show ab_E mm_X8_gather cX8_gather 0 _ [] h _ _
  refine ab_iload_n (pc := 0) (i := 1) dX8_gather_0 rfl rfl ?_
  obtain ⟨q1, hq1, hk⟩ := ab_bnd hk
  refine ab_callSI (st := []) (as := [ab_I a1]) (pc := 1) dX8_gather_1 ml_RX8_171 my_X8_isRole ms_X8_isRole (ct_X8_isRole hq1) ⟨Nat.le_of_ble_eq_true rfl, Nat.le_of_ble_eq_true rfl⟩ rfl (Nat.le_of_ble_eq_true rfl) rfl ?_
  refine ab_if_eq (pc := 4) (tgt := 12) dX8_gather_4 rfl (fun hc => ?_) (fun hc => ?_)
  · have hk := ab_ifp hk hc
    refine ab_bipush (pc := 12) dX8_gather_12 ab_p8_m2 ab_k_m2 ?_
    obtain rfl := Option.some.inj hk
    exact ab_reti (pc := 14) dX8_gather_14 (Or.inl rfl)
  · have hk := ab_ifn hk hc
    refine ab_iload_n (pc := 7) (i := 2) dX8_gather_7 rfl rfl ?_
    refine ab_iconst (pc := 8) dX8_gather_8 ab_k_m1 ?_
    refine ab_icmp_ge (pc := 9) (tgt := 15) dX8_gather_9 rfl (fun hc => ?_) (fun hc => ?_)
    · have hk := ab_ifp hk hc
      refine ab_iconst (pc := 15) dX8_gather_15 ab_k_0 ?_
      refine ab_istore_n (pc := 16) (i := 3) (lv2 := [some (ab_R a0), some (ab_I a1), some (ab_I a2), some (ab_I (0 : Int)), none]) dX8_gather_16 rfl (Nat.le_of_ble_eq_true rfl) rfl rfl ?_
      refine ab_iconst (pc := 17) dX8_gather_17 ab_k_0 ?_
      refine ab_istore (pc := 18) (i := 4) (lv2 := [some (ab_R a0), some (ab_I a1), some (ab_I a2), some (ab_I (0 : Int)), some (ab_I (0 : Int))]) dX8_gather_18 (Nat.le_of_ble_eq_true rfl) rfl rfl ?_
      refine ab_sub_ (lv2 := [some (ab_R a0), some (ab_I a1), some (ab_I a2), some (ab_I (0 : Int)), some (ab_I (0 : Int))]) (ab_ss (ab_ss (ab_ss (ab_ss (ab_ss ab_s0))))) ?_
      refine e_X8_gather_L20 (fun w65_2 w65_3 hx65 q hk => ?_) _ _ _ _ _ _ _ _ hk
      · skip
        refine ab_iload_n (pc := 65) (i := 2) dX8_gather_65 rfl rfl ?_
        refine ab_iconst (pc := 66) dX8_gather_66 ab_k_m1 ?_
        refine ab_icmp_ne (pc := 67) (tgt := 74) dX8_gather_67 rfl (fun hc => ?_) (fun hc => ?_)
        · have hk := ab_ifn hk hc
          refine ab_iconst (pc := 74) dX8_gather_74 ab_k_m1 ?_
          obtain rfl := Option.some.inj hk
          exact ab_reti (pc := 75) dX8_gather_75 (Or.inl rfl)
        · have hk := ab_ifp hk hc
          refine ab_iload_n (pc := 70) (i := 3) dX8_gather_70 rfl rfl ?_
          refine ab_goto (pc := 71) (tgt := 75) dX8_gather_71 rfl ?_
          obtain rfl := Option.some.inj hk
          exact ab_reti (pc := 75) dX8_gather_75 (Or.inl rfl)
    · have hk := ab_ifn hk hc
      refine ab_bipush (pc := 12) dX8_gather_12 ab_p8_m2 ab_k_m2 ?_
      obtain rfl := Option.some.inj hk
      exact ab_reti (pc := 14) dX8_gather_14 (Or.inl rfl)
theorem dX8_shared_0 : decode cX8_shared 0 = .ok (.iload_n 1, 1) := by decide +kernel
theorem dX8_shared_1 : decode cX8_shared 1 = .ok (.invokestatic 171, 3) := by decide +kernel
theorem dX8_shared_4 : decode cX8_shared 4 = .ok (.ifCond .ne 6, 3) := by decide +kernel
theorem dX8_shared_7 : decode cX8_shared 7 = .ok (.bipush (-2), 2) := by decide +kernel
theorem dX8_shared_9 : decode cX8_shared 9 = .ok (.ireturn, 1) := by decide +kernel
theorem dX8_shared_10 : decode cX8_shared 10 = .ok (.iconst 0, 1) := by decide +kernel
theorem dX8_shared_11 : decode cX8_shared 11 = .ok (.istore_n 2, 1) := by decide +kernel
theorem dX8_shared_12 : decode cX8_shared 12 = .ok (.iconst 0, 1) := by decide +kernel
theorem dX8_shared_13 : decode cX8_shared 13 = .ok (.istore_n 3, 1) := by decide +kernel
theorem dX8_shared_14 : decode cX8_shared 14 = .ok (.iload_n 3, 1) := by decide +kernel
theorem dX8_shared_15 : decode cX8_shared 15 = .ok (.aload_n 0, 1) := by decide +kernel
theorem dX8_shared_16 : decode cX8_shared 16 = .ok (.getfield 51, 3) := by decide +kernel
theorem dX8_shared_19 : decode cX8_shared 19 = .ok (.getfield 110, 3) := by decide +kernel
theorem dX8_shared_22 : decode cX8_shared 22 = .ok (.if_icmp .ge 36, 3) := by decide +kernel
theorem dX8_shared_25 : decode cX8_shared 25 = .ok (.aload_n 0, 1) := by decide +kernel
theorem dX8_shared_26 : decode cX8_shared 26 = .ok (.getfield 51, 3) := by decide +kernel
theorem dX8_shared_29 : decode cX8_shared 29 = .ok (.iload_n 3, 1) := by decide +kernel
theorem dX8_shared_30 : decode cX8_shared 30 = .ok (.invokevirtual 297, 3) := by decide +kernel
theorem dX8_shared_33 : decode cX8_shared 33 = .ok (.iconst 2, 1) := by decide +kernel
theorem dX8_shared_34 : decode cX8_shared 34 = .ok (.if_icmp .lt 18, 3) := by decide +kernel
theorem dX8_shared_37 : decode cX8_shared 37 = .ok (.aload_n 0, 1) := by decide +kernel
theorem dX8_shared_38 : decode cX8_shared 38 = .ok (.getfield 58, 3) := by decide +kernel
theorem dX8_shared_41 : decode cX8_shared 41 = .ok (.iload_n 1, 1) := by decide +kernel
theorem dX8_shared_42 : decode cX8_shared 42 = .ok (.iload_n 3, 1) := by decide +kernel
theorem dX8_shared_43 : decode cX8_shared 43 = .ok (.invokevirtual 290, 3) := by decide +kernel
theorem dX8_shared_46 : decode cX8_shared 46 = .ok (.ifCond .eq 6, 3) := by decide +kernel
theorem dX8_shared_49 : decode cX8_shared 49 = .ok (.iinc 2 1, 3) := by decide +kernel
theorem dX8_shared_52 : decode cX8_shared 52 = .ok (.iinc 3 1, 3) := by decide +kernel
theorem dX8_shared_55 : decode cX8_shared 55 = .ok (.goto (-41), 3) := by decide +kernel
theorem dX8_shared_58 : decode cX8_shared 58 = .ok (.iload_n 2, 1) := by decide +kernel
theorem dX8_shared_59 : decode cX8_shared 59 = .ok (.ireturn, 1) := by decide +kernel
abbrev mm_X8_shared : ab_M := (RX8, 4, (some .int), false, 2, 49, none)
noncomputable def f_X8_shared_J52 (rec : Int → Int → Int → Int → ab_H → Option (Int × ab_H)) (v0 : Int) (v1 : Int) (v2 : Int) (v3 : Int) (h : ab_H) : Option (Int × ab_H) :=
  rec v0 v1 v2 (ab_w32 (v3 + (1 : Int))) h
set_option maxRecDepth 20000 in
theorem e_X8_shared_J52 {rec : Int → Int → Int → Int → ab_H → Option (Int × ab_H)} (hrec : ∀ (v0 : Int) (v1 : Int) (v2 : Int) (v3 : Int) (h : ab_H) (q : Int × ab_H), rec v0 v1 v2 v3 h = some q → ab_E mm_X8_shared cX8_shared 14 [some (ab_R v0), some (ab_I v1), some (ab_I v2), some (ab_I v3)] [] h (some (ab_I q.1)) q.2) : ∀ (v0 : Int) (v1 : Int) (v2 : Int) (v3 : Int) (h : ab_H) (q : Int × ab_H), f_X8_shared_J52 rec v0 v1 v2 v3 h = some q → ab_E mm_X8_shared cX8_shared 52 [some (ab_R v0), some (ab_I v1), some (ab_I v2), some (ab_I v3)] [] h (some (ab_I q.1)) q.2 := by
  intro v0 v1 v2 v3 h q hk
  unfold f_X8_shared_J52 at hk
  refine ab_iinc (pc := 52) (i := 3) (lv2 := [some (ab_R v0), some (ab_I v1), some (ab_I v2), some (ab_I (ab_w32 (v3 + (1 : Int))))]) dX8_shared_52 rfl (Nat.le_of_ble_eq_true rfl) rfl rfl ?_
  refine ab_goto (pc := 55) (tgt := 14) dX8_shared_55 rfl ?_
  refine ab_sub_ (lv2 := [some (ab_R v0), some (ab_I v1), some (ab_I v2), some (ab_I (ab_w32 (v3 + (1 : Int))))]) (ab_ss (ab_ss (ab_ss (ab_ss ab_s0)))) ?_
  exact hrec _ _ _ _ _ _ hk
noncomputable def f_X8_shared_L14 : Nat → Int → Int → Int → Int → ab_H → Option (Int × ab_H)
  | 0, _, _, _, _, _ => none
  | n + 1, v0, v1, v2, v3, h =>
    (ab_get h 9 7 v0).bind fun t1 =>
    (ab_get h 8 0 t1).bind fun t2 =>
    if t2 ≤ v3 then
      some (v2, h)
    else
    (ab_get h 9 7 v0).bind fun t3 =>
    (ab_on h 8 t3 (f_X7_stringCount t3 v3 h)).bind fun q4 =>
    if q4.1 < (2 : Int) then
      f_X8_shared_J52 (f_X8_shared_L14 n) v0 v1 v2 v3 q4.2
    else
    (ab_get q4.2 9 8 v0).bind fun t5 =>
    (ab_on q4.2 6 t5 (f_X5_stringsWith t5 v1 v3 q4.2)).bind fun q6 =>
    if q6.1 = (0 : Int) then
      f_X8_shared_J52 (f_X8_shared_L14 n) v0 v1 v2 v3 q6.2
    else
    f_X8_shared_J52 (f_X8_shared_L14 n) v0 v1 (ab_w32 (v2 + (1 : Int))) v3 q6.2
set_option maxRecDepth 20000 in
theorem e_X8_shared_L14 : ∀ (n : Nat) (v0 : Int) (v1 : Int) (v2 : Int) (v3 : Int) (h : ab_H) (q : Int × ab_H), f_X8_shared_L14 n v0 v1 v2 v3 h = some q → ab_E mm_X8_shared cX8_shared 14 [some (ab_R v0), some (ab_I v1), some (ab_I v2), some (ab_I v3)] [] h (some (ab_I q.1)) q.2 := by
  intro n
  induction n with
  | zero => intro v0 v1 v2 v3 h q hk; cases hk
  | succ n ih =>
    intro v0 v1 v2 v3 h q hk
    unfold f_X8_shared_L14 at hk
    refine ab_iload_n (pc := 14) (i := 3) dX8_shared_14 rfl rfl ?_
    refine ab_aload_n (pc := 15) (i := 0) dX8_shared_15 rfl rfl ?_
    obtain ⟨t1, ht1, hk⟩ := ab_bnd hk
    refine ab_getR (pc := 16) dX8_shared_16 fl_RX8_51 ht1 ?_
    obtain ⟨t2, ht2, hk⟩ := ab_bnd hk
    refine ab_getI (pc := 19) dX8_shared_19 fl_RX8_110 ht2 ?_
    refine ab_icmp_ge (pc := 22) (tgt := 58) dX8_shared_22 rfl (fun hc => ?_) (fun hc => ?_)
    · have hk := ab_ifp hk hc
      refine ab_iload_n (pc := 58) (i := 2) dX8_shared_58 rfl rfl ?_
      obtain rfl := Option.some.inj hk
      exact ab_reti (pc := 59) dX8_shared_59 (Or.inl rfl)
    · have hk := ab_ifn hk hc
      refine ab_aload_n (pc := 25) (i := 0) dX8_shared_25 rfl rfl ?_
      obtain ⟨t3, ht3, hk⟩ := ab_bnd hk
      refine ab_getR (pc := 26) dX8_shared_26 fl_RX8_51 ht3 ?_
      refine ab_iload_n (pc := 29) (i := 3) dX8_shared_29 rfl rfl ?_
      obtain ⟨q4, hq4, hk⟩ := ab_bnd hk
      obtain ⟨hb, hq4⟩ := ab_on_some hq4
      refine ab_callVI (st := []) (as := [ab_I v3]) (b := t3) (pc := 30) dX8_shared_30 ml_RX8_297 my_X7_stringCount mv_X7_stringCount hb (ct_X7_stringCount hq4) ⟨Nat.le_of_ble_eq_true rfl, Nat.le_of_ble_eq_true rfl⟩ rfl (Nat.le_of_ble_eq_true rfl) rfl ?_
      refine ab_iconst (pc := 33) dX8_shared_33 ab_k_2 ?_
      refine ab_icmp_lt (pc := 34) (tgt := 52) dX8_shared_34 rfl (fun hc => ?_) (fun hc => ?_)
      · have hk := ab_ifp hk hc
        refine ab_sub_ (lv2 := [some (ab_R v0), some (ab_I v1), some (ab_I v2), some (ab_I v3)]) (ab_ss (ab_ss (ab_ss (ab_ss ab_s0)))) ?_
        exact e_X8_shared_J52 ih _ _ _ _ _ _ hk
      · have hk := ab_ifn hk hc
        refine ab_aload_n (pc := 37) (i := 0) dX8_shared_37 rfl rfl ?_
        obtain ⟨t5, ht5, hk⟩ := ab_bnd hk
        refine ab_getR (pc := 38) dX8_shared_38 fl_RX8_58 ht5 ?_
        refine ab_iload_n (pc := 41) (i := 1) dX8_shared_41 rfl rfl ?_
        refine ab_iload_n (pc := 42) (i := 3) dX8_shared_42 rfl rfl ?_
        obtain ⟨q6, hq6, hk⟩ := ab_bnd hk
        obtain ⟨hb, hq6⟩ := ab_on_some hq6
        refine ab_callVI (st := []) (as := [ab_I v1, ab_I v3]) (b := t5) (pc := 43) dX8_shared_43 ml_RX8_290 my_X5_stringsWith mv_X5_stringsWith hb (ct_X5_stringsWith hq6) ⟨Nat.le_of_ble_eq_true rfl, Nat.le_of_ble_eq_true rfl⟩ rfl (Nat.le_of_ble_eq_true rfl) rfl ?_
        refine ab_if_eq (pc := 46) (tgt := 52) dX8_shared_46 rfl (fun hc => ?_) (fun hc => ?_)
        · have hk := ab_ifp hk hc
          refine ab_sub_ (lv2 := [some (ab_R v0), some (ab_I v1), some (ab_I v2), some (ab_I v3)]) (ab_ss (ab_ss (ab_ss (ab_ss ab_s0)))) ?_
          exact e_X8_shared_J52 ih _ _ _ _ _ _ hk
        · have hk := ab_ifn hk hc
          refine ab_iinc (pc := 49) (i := 2) (lv2 := [some (ab_R v0), some (ab_I v1), some (ab_I (ab_w32 (v2 + (1 : Int)))), some (ab_I v3)]) dX8_shared_49 rfl (Nat.le_of_ble_eq_true rfl) rfl rfl ?_
          refine ab_sub_ (lv2 := [some (ab_R v0), some (ab_I v1), some (ab_I (ab_w32 (v2 + (1 : Int)))), some (ab_I v3)]) (ab_ss (ab_ss (ab_ss (ab_ss ab_s0)))) ?_
          exact e_X8_shared_J52 ih _ _ _ _ _ _ hk
noncomputable def f_X8_shared (a0 : Int) (a1 : Int) (h : ab_H) : Option (Int × ab_H) :=
  (f_X8_isRole a1 h).bind fun q1 =>
  if q1.1 = (0 : Int) then
    some ((-2 : Int), q1.2)
  else
  f_X8_shared_L14 ab_FU a0 a1 (0 : Int) (0 : Int) q1.2
set_option maxRecDepth 20000 in
theorem ct_X8_shared {a0 a1 : Int} {h : ab_H} {q : Int × ab_H} (hk : f_X8_shared a0 a1 h = some q) : ab_CT yX8_shared cX8_shared 4 (some .int) 2 49 [ab_R a0, ab_I a1] h (some (ab_I q.1)) q.2 := by
  refine ab_CT.mk_ 2 (own := RX8) (ini := false) (lv := [some (ab_R a0), some (ab_I a1), none, none]) rfl (by decide +kernel) (fun q => by cases q) rfl rfl ?_
  unfold f_X8_shared at hk
  show ab_E mm_X8_shared cX8_shared 0 _ [] h _ _
  refine ab_iload_n (pc := 0) (i := 1) dX8_shared_0 rfl rfl ?_
  obtain ⟨q1, hq1, hk⟩ := ab_bnd hk
  refine ab_callSI (st := []) (as := [ab_I a1]) (pc := 1) dX8_shared_1 ml_RX8_171 my_X8_isRole ms_X8_isRole (ct_X8_isRole hq1) ⟨Nat.le_of_ble_eq_true rfl, Nat.le_of_ble_eq_true rfl⟩ rfl (Nat.le_of_ble_eq_true rfl) rfl ?_
  refine ab_if_ne (pc := 4) (tgt := 10) dX8_shared_4 rfl (fun hc => ?_) (fun hc => ?_)
  · have hk := ab_ifn hk hc
    refine ab_iconst (pc := 10) dX8_shared_10 ab_k_0 ?_
    refine ab_istore_n (pc := 11) (i := 2) (lv2 := [some (ab_R a0), some (ab_I a1), some (ab_I (0 : Int)), none]) dX8_shared_11 rfl (Nat.le_of_ble_eq_true rfl) rfl rfl ?_
    refine ab_iconst (pc := 12) dX8_shared_12 ab_k_0 ?_
    refine ab_istore_n (pc := 13) (i := 3) (lv2 := [some (ab_R a0), some (ab_I a1), some (ab_I (0 : Int)), some (ab_I (0 : Int))]) dX8_shared_13 rfl (Nat.le_of_ble_eq_true rfl) rfl rfl ?_
    refine ab_sub_ (lv2 := [some (ab_R a0), some (ab_I a1), some (ab_I (0 : Int)), some (ab_I (0 : Int))]) (ab_ss (ab_ss (ab_ss (ab_ss ab_s0)))) ?_
    refine e_X8_shared_L14 _ _ _ _ _ _ _ hk
  · have hk := ab_ifp hk hc
    refine ab_bipush (pc := 7) dX8_shared_7 ab_p8_m2 ab_k_m2 ?_
    obtain rfl := Option.some.inj hk
    exact ab_reti (pc := 9) dX8_shared_9 (Or.inl rfl)
theorem dX8_beside_0 : decode cX8_beside 0 = .ok (.aload_n 0, 1) := by decide +kernel
theorem dX8_beside_1 : decode cX8_beside 1 = .ok (.iload_n 1, 1) := by decide +kernel
theorem dX8_beside_2 : decode cX8_beside 2 = .ok (.invokevirtual 161, 3) := by decide +kernel
theorem dX8_beside_5 : decode cX8_beside 5 = .ok (.ifCond .eq 17, 3) := by decide +kernel
theorem dX8_beside_8 : decode cX8_beside 8 = .ok (.iload_n 2, 1) := by decide +kernel
theorem dX8_beside_9 : decode cX8_beside 9 = .ok (.ifCond .lt 13, 3) := by decide +kernel
theorem dX8_beside_12 : decode cX8_beside 12 = .ok (.iload_n 2, 1) := by decide +kernel
theorem dX8_beside_13 : decode cX8_beside 13 = .ok (.iconst 1, 1) := by decide +kernel
theorem dX8_beside_14 : decode cX8_beside 14 = .ok (.if_icmp .gt 8, 3) := by decide +kernel
theorem dX8_beside_17 : decode cX8_beside 17 = .ok (.iload_n 3, 1) := by decide +kernel
theorem dX8_beside_18 : decode cX8_beside 18 = .ok (.iconst (-1), 1) := by decide +kernel
theorem dX8_beside_19 : decode cX8_beside 19 = .ok (.if_icmp .ge 6, 3) := by decide +kernel
theorem dX8_beside_22 : decode cX8_beside 22 = .ok (.bipush (-2), 2) := by decide +kernel
theorem dX8_beside_24 : decode cX8_beside 24 = .ok (.ireturn, 1) := by decide +kernel
theorem dX8_beside_25 : decode cX8_beside 25 = .ok (.iconst 0, 1) := by decide +kernel
theorem dX8_beside_26 : decode cX8_beside 26 = .ok (.istore 4, 2) := by decide +kernel
theorem dX8_beside_28 : decode cX8_beside 28 = .ok (.iconst 0, 1) := by decide +kernel
theorem dX8_beside_29 : decode cX8_beside 29 = .ok (.istore 5, 2) := by decide +kernel
theorem dX8_beside_31 : decode cX8_beside 31 = .ok (.iload 5, 2) := by decide +kernel
theorem dX8_beside_33 : decode cX8_beside 33 = .ok (.aload_n 0, 1) := by decide +kernel
theorem dX8_beside_34 : decode cX8_beside 34 = .ok (.getfield 51, 3) := by decide +kernel
theorem dX8_beside_37 : decode cX8_beside 37 = .ok (.getfield 110, 3) := by decide +kernel
theorem dX8_beside_40 : decode cX8_beside 40 = .ok (.if_icmp .ge 58, 3) := by decide +kernel
theorem dX8_beside_43 : decode cX8_beside 43 = .ok (.iload_n 2, 1) := by decide +kernel
theorem dX8_beside_44 : decode cX8_beside 44 = .ok (.ifCond .ne 16, 3) := by decide +kernel
theorem dX8_beside_47 : decode cX8_beside 47 = .ok (.aload_n 0, 1) := by decide +kernel
theorem dX8_beside_48 : decode cX8_beside 48 = .ok (.getfield 58, 3) := by decide +kernel
theorem dX8_beside_51 : decode cX8_beside 51 = .ok (.iload 5, 2) := by decide +kernel
theorem dX8_beside_53 : decode cX8_beside 53 = .ok (.iload_n 1, 1) := by decide +kernel
theorem dX8_beside_54 : decode cX8_beside 54 = .ok (.invokevirtual 303, 3) := by decide +kernel
theorem dX8_beside_57 : decode cX8_beside 57 = .ok (.goto 13, 3) := by decide +kernel
theorem dX8_beside_60 : decode cX8_beside 60 = .ok (.aload_n 0, 1) := by decide +kernel
theorem dX8_beside_61 : decode cX8_beside 61 = .ok (.getfield 58, 3) := by decide +kernel
theorem dX8_beside_64 : decode cX8_beside 64 = .ok (.iload_n 1, 1) := by decide +kernel
theorem dX8_beside_65 : decode cX8_beside 65 = .ok (.iload 5, 2) := by decide +kernel
theorem dX8_beside_67 : decode cX8_beside 67 = .ok (.invokevirtual 303, 3) := by decide +kernel
theorem dX8_beside_70 : decode cX8_beside 70 = .ok (.istore 6, 2) := by decide +kernel
theorem dX8_beside_72 : decode cX8_beside 72 = .ok (.iload 6, 2) := by decide +kernel
theorem dX8_beside_74 : decode cX8_beside 74 = .ok (.ifCond .ne 6, 3) := by decide +kernel
theorem dX8_beside_77 : decode cX8_beside 77 = .ok (.goto 15, 3) := by decide +kernel
theorem dX8_beside_80 : decode cX8_beside 80 = .ok (.iload 4, 2) := by decide +kernel
theorem dX8_beside_82 : decode cX8_beside 82 = .ok (.iload_n 3, 1) := by decide +kernel
theorem dX8_beside_83 : decode cX8_beside 83 = .ok (.if_icmp .ne 6, 3) := by decide +kernel
theorem dX8_beside_86 : decode cX8_beside 86 = .ok (.iload 5, 2) := by decide +kernel
theorem dX8_beside_88 : decode cX8_beside 88 = .ok (.ireturn, 1) := by decide +kernel
theorem dX8_beside_89 : decode cX8_beside 89 = .ok (.iinc 4 1, 3) := by decide +kernel
theorem dX8_beside_92 : decode cX8_beside 92 = .ok (.iinc 5 1, 3) := by decide +kernel
theorem dX8_beside_95 : decode cX8_beside 95 = .ok (.goto (-64), 3) := by decide +kernel
theorem dX8_beside_98 : decode cX8_beside 98 = .ok (.iload_n 3, 1) := by decide +kernel
theorem dX8_beside_99 : decode cX8_beside 99 = .ok (.iconst (-1), 1) := by decide +kernel
theorem dX8_beside_100 : decode cX8_beside 100 = .ok (.if_icmp .ne 8, 3) := by decide +kernel
theorem dX8_beside_103 : decode cX8_beside 103 = .ok (.iload 4, 2) := by decide +kernel
theorem dX8_beside_105 : decode cX8_beside 105 = .ok (.goto 4, 3) := by decide +kernel
theorem dX8_beside_108 : decode cX8_beside 108 = .ok (.iconst (-1), 1) := by decide +kernel
theorem dX8_beside_109 : decode cX8_beside 109 = .ok (.ireturn, 1) := by decide +kernel
abbrev mm_X8_beside : ab_M := (RX8, 7, (some .int), false, 1, 24, none)
noncomputable def f_X8_beside_J92 (rec : Int → Int → Int → Int → Int → Int → ab_H → Option (Int × ab_H)) (k98 : Int → Int → ab_H → Option (Int × ab_H)) (v0 : Int) (v1 : Int) (v2 : Int) (v3 : Int) (v4 : Int) (v5 : Int) (h : ab_H) : Option (Int × ab_H) :=
  rec v0 v1 v2 v3 v4 (ab_w32 (v5 + (1 : Int))) h
set_option maxRecDepth 20000 in
theorem e_X8_beside_J92 {rec : Int → Int → Int → Int → Int → Int → ab_H → Option (Int × ab_H)} {k98 : Int → Int → ab_H → Option (Int × ab_H)} (hrec : ∀ (v0 : Int) (v1 : Int) (v2 : Int) (v3 : Int) (v4 : Int) (v5 : Int) (h : ab_H) (q : Int × ab_H), rec v0 v1 v2 v3 v4 v5 h = some q → ab_E mm_X8_beside cX8_beside 31 [some (ab_R v0), some (ab_I v1), some (ab_I v2), some (ab_I v3), some (ab_I v4), some (ab_I v5), none] [] h (some (ab_I q.1)) q.2) (hk98 : ∀ (v3 : Int) (v4 : Int) (h : ab_H) (q : Int × ab_H), k98 v3 v4 h = some q → ab_E mm_X8_beside cX8_beside 98 [none, none, none, some (ab_I v3), some (ab_I v4), none, none] [] h (some (ab_I q.1)) q.2) : ∀ (v0 : Int) (v1 : Int) (v2 : Int) (v3 : Int) (v4 : Int) (v5 : Int) (h : ab_H) (q : Int × ab_H), f_X8_beside_J92 rec k98 v0 v1 v2 v3 v4 v5 h = some q → ab_E mm_X8_beside cX8_beside 92 [some (ab_R v0), some (ab_I v1), some (ab_I v2), some (ab_I v3), some (ab_I v4), some (ab_I v5), none] [] h (some (ab_I q.1)) q.2 := by
  intro v0 v1 v2 v3 v4 v5 h q hk
  unfold f_X8_beside_J92 at hk
  refine ab_iinc (pc := 92) (i := 5) (lv2 := [some (ab_R v0), some (ab_I v1), some (ab_I v2), some (ab_I v3), some (ab_I v4), some (ab_I (ab_w32 (v5 + (1 : Int)))), none]) dX8_beside_92 rfl (Nat.le_of_ble_eq_true rfl) rfl rfl ?_
  refine ab_goto (pc := 95) (tgt := 31) dX8_beside_95 rfl ?_
  refine ab_sub_ (lv2 := [some (ab_R v0), some (ab_I v1), some (ab_I v2), some (ab_I v3), some (ab_I v4), some (ab_I (ab_w32 (v5 + (1 : Int)))), none]) (ab_ss (ab_ss (ab_ss (ab_ss (ab_ss (ab_ss (ab_sn ab_s0))))))) ?_
  exact hrec _ _ _ _ _ _ _ _ hk
noncomputable def f_X8_beside_J70 (rec : Int → Int → Int → Int → Int → Int → ab_H → Option (Int × ab_H)) (k98 : Int → Int → ab_H → Option (Int × ab_H)) (v0 : Int) (v1 : Int) (v2 : Int) (v3 : Int) (v4 : Int) (v5 : Int) (s0 : Int) (h : ab_H) : Option (Int × ab_H) :=
  if s0 = (0 : Int) then
    f_X8_beside_J92 rec k98 v0 v1 v2 v3 v4 v5 h
  else
  if v4 = v3 then
    some (v5, h)
  else
  f_X8_beside_J92 rec k98 v0 v1 v2 v3 (ab_w32 (v4 + (1 : Int))) v5 h
set_option maxRecDepth 20000 in
theorem e_X8_beside_J70 {rec : Int → Int → Int → Int → Int → Int → ab_H → Option (Int × ab_H)} {k98 : Int → Int → ab_H → Option (Int × ab_H)} (hrec : ∀ (v0 : Int) (v1 : Int) (v2 : Int) (v3 : Int) (v4 : Int) (v5 : Int) (h : ab_H) (q : Int × ab_H), rec v0 v1 v2 v3 v4 v5 h = some q → ab_E mm_X8_beside cX8_beside 31 [some (ab_R v0), some (ab_I v1), some (ab_I v2), some (ab_I v3), some (ab_I v4), some (ab_I v5), none] [] h (some (ab_I q.1)) q.2) (hk98 : ∀ (v3 : Int) (v4 : Int) (h : ab_H) (q : Int × ab_H), k98 v3 v4 h = some q → ab_E mm_X8_beside cX8_beside 98 [none, none, none, some (ab_I v3), some (ab_I v4), none, none] [] h (some (ab_I q.1)) q.2) : ∀ (v0 : Int) (v1 : Int) (v2 : Int) (v3 : Int) (v4 : Int) (v5 : Int) (s0 : Int) (h : ab_H) (q : Int × ab_H), f_X8_beside_J70 rec k98 v0 v1 v2 v3 v4 v5 s0 h = some q → ab_E mm_X8_beside cX8_beside 70 [some (ab_R v0), some (ab_I v1), some (ab_I v2), some (ab_I v3), some (ab_I v4), some (ab_I v5), none] [ab_I s0] h (some (ab_I q.1)) q.2 := by
  intro v0 v1 v2 v3 v4 v5 s0 h q hk
  unfold f_X8_beside_J70 at hk
  refine ab_istore (pc := 70) (i := 6) (lv2 := [some (ab_R v0), some (ab_I v1), some (ab_I v2), some (ab_I v3), some (ab_I v4), some (ab_I v5), some (ab_I s0)]) dX8_beside_70 (Nat.le_of_ble_eq_true rfl) rfl rfl ?_
  refine ab_iload (pc := 72) (i := 6) dX8_beside_72 rfl ?_
  refine ab_if_ne (pc := 74) (tgt := 80) dX8_beside_74 rfl (fun hc => ?_) (fun hc => ?_)
  · have hk := ab_ifn hk hc
    refine ab_iload (pc := 80) (i := 4) dX8_beside_80 rfl ?_
    refine ab_iload_n (pc := 82) (i := 3) dX8_beside_82 rfl rfl ?_
    refine ab_icmp_ne (pc := 83) (tgt := 89) dX8_beside_83 rfl (fun hc => ?_) (fun hc => ?_)
    · have hk := ab_ifn hk hc
      refine ab_iinc (pc := 89) (i := 4) (lv2 := [some (ab_R v0), some (ab_I v1), some (ab_I v2), some (ab_I v3), some (ab_I (ab_w32 (v4 + (1 : Int)))), some (ab_I v5), some (ab_I s0)]) dX8_beside_89 rfl (Nat.le_of_ble_eq_true rfl) rfl rfl ?_
      refine ab_sub_ (lv2 := [some (ab_R v0), some (ab_I v1), some (ab_I v2), some (ab_I v3), some (ab_I (ab_w32 (v4 + (1 : Int)))), some (ab_I v5), none]) (ab_ss (ab_ss (ab_ss (ab_ss (ab_ss (ab_ss (ab_sn ab_s0))))))) ?_
      exact e_X8_beside_J92 hrec hk98 _ _ _ _ _ _ _ _ hk
    · have hk := ab_ifp hk hc
      refine ab_iload (pc := 86) (i := 5) dX8_beside_86 rfl ?_
      obtain rfl := Option.some.inj hk
      exact ab_reti (pc := 88) dX8_beside_88 (Or.inl rfl)
  · have hk := ab_ifp hk hc
    refine ab_goto (pc := 77) (tgt := 92) dX8_beside_77 rfl ?_
    refine ab_sub_ (lv2 := [some (ab_R v0), some (ab_I v1), some (ab_I v2), some (ab_I v3), some (ab_I v4), some (ab_I v5), none]) (ab_ss (ab_ss (ab_ss (ab_ss (ab_ss (ab_ss (ab_sn ab_s0))))))) ?_
    exact e_X8_beside_J92 hrec hk98 _ _ _ _ _ _ _ _ hk
noncomputable def f_X8_beside_L31 (k98 : Int → Int → ab_H → Option (Int × ab_H)) : Nat → Int → Int → Int → Int → Int → Int → ab_H → Option (Int × ab_H)
  | 0, _, _, _, _, _, _, _ => none
  | n + 1, v0, v1, v2, v3, v4, v5, h =>
    (ab_get h 9 7 v0).bind fun t1 =>
    (ab_get h 8 0 t1).bind fun t2 =>
    if t2 ≤ v5 then
      k98 v3 v4 h
    else
    if v2 = (0 : Int) then
      (ab_get h 9 8 v0).bind fun t5 =>
      (ab_on h 6 t5 (f_X5_follow t5 v5 v1 h)).bind fun q6 =>
      f_X8_beside_J70 (f_X8_beside_L31 k98 n) k98 v0 v1 v2 v3 v4 v5 q6.1 q6.2
    else
    (ab_get h 9 8 v0).bind fun t3 =>
    (ab_on h 6 t3 (f_X5_follow t3 v1 v5 h)).bind fun q4 =>
    f_X8_beside_J70 (f_X8_beside_L31 k98 n) k98 v0 v1 v2 v3 v4 v5 q4.1 q4.2
set_option maxRecDepth 20000 in
theorem e_X8_beside_L31 {k98 : Int → Int → ab_H → Option (Int × ab_H)} (hk98 : ∀ (v3 : Int) (v4 : Int) (h : ab_H) (q : Int × ab_H), k98 v3 v4 h = some q → ab_E mm_X8_beside cX8_beside 98 [none, none, none, some (ab_I v3), some (ab_I v4), none, none] [] h (some (ab_I q.1)) q.2) : ∀ (n : Nat) (v0 : Int) (v1 : Int) (v2 : Int) (v3 : Int) (v4 : Int) (v5 : Int) (h : ab_H) (q : Int × ab_H), f_X8_beside_L31 k98 n v0 v1 v2 v3 v4 v5 h = some q → ab_E mm_X8_beside cX8_beside 31 [some (ab_R v0), some (ab_I v1), some (ab_I v2), some (ab_I v3), some (ab_I v4), some (ab_I v5), none] [] h (some (ab_I q.1)) q.2 := by
  intro n
  induction n with
  | zero => intro v0 v1 v2 v3 v4 v5 h q hk; cases hk
  | succ n ih =>
    intro v0 v1 v2 v3 v4 v5 h q hk
    unfold f_X8_beside_L31 at hk
    refine ab_iload (pc := 31) (i := 5) dX8_beside_31 rfl ?_
    refine ab_aload_n (pc := 33) (i := 0) dX8_beside_33 rfl rfl ?_
    obtain ⟨t1, ht1, hk⟩ := ab_bnd hk
    refine ab_getR (pc := 34) dX8_beside_34 fl_RX8_51 ht1 ?_
    obtain ⟨t2, ht2, hk⟩ := ab_bnd hk
    refine ab_getI (pc := 37) dX8_beside_37 fl_RX8_110 ht2 ?_
    refine ab_icmp_ge (pc := 40) (tgt := 98) dX8_beside_40 rfl (fun hc => ?_) (fun hc => ?_)
    · have hk := ab_ifp hk hc
      refine ab_sub_ (lv2 := [none, none, none, some (ab_I v3), some (ab_I v4), none, none]) (ab_sn (ab_sn (ab_sn (ab_ss (ab_ss (ab_sn (ab_sn ab_s0))))))) ?_
      exact hk98 _ _ _ _ hk
    · have hk := ab_ifn hk hc
      refine ab_iload_n (pc := 43) (i := 2) dX8_beside_43 rfl rfl ?_
      refine ab_if_ne (pc := 44) (tgt := 60) dX8_beside_44 rfl (fun hc => ?_) (fun hc => ?_)
      · have hk := ab_ifn hk hc
        refine ab_aload_n (pc := 60) (i := 0) dX8_beside_60 rfl rfl ?_
        obtain ⟨t3, ht3, hk⟩ := ab_bnd hk
        refine ab_getR (pc := 61) dX8_beside_61 fl_RX8_58 ht3 ?_
        refine ab_iload_n (pc := 64) (i := 1) dX8_beside_64 rfl rfl ?_
        refine ab_iload (pc := 65) (i := 5) dX8_beside_65 rfl ?_
        obtain ⟨q4, hq4, hk⟩ := ab_bnd hk
        obtain ⟨hb, hq4⟩ := ab_on_some hq4
        refine ab_callVI (st := []) (as := [ab_I v1, ab_I v5]) (b := t3) (pc := 67) dX8_beside_67 ml_RX8_303 my_X5_follow mv_X5_follow hb (ct_X5_follow hq4) ⟨Nat.le_of_ble_eq_true rfl, Nat.le_of_ble_eq_true rfl⟩ rfl (Nat.le_of_ble_eq_true rfl) rfl ?_
        refine ab_sub_ (lv2 := [some (ab_R v0), some (ab_I v1), some (ab_I v2), some (ab_I v3), some (ab_I v4), some (ab_I v5), none]) (ab_ss (ab_ss (ab_ss (ab_ss (ab_ss (ab_ss (ab_sn ab_s0))))))) ?_
        exact e_X8_beside_J70 ih hk98 _ _ _ _ _ _ _ _ _ hk
      · have hk := ab_ifp hk hc
        refine ab_aload_n (pc := 47) (i := 0) dX8_beside_47 rfl rfl ?_
        obtain ⟨t5, ht5, hk⟩ := ab_bnd hk
        refine ab_getR (pc := 48) dX8_beside_48 fl_RX8_58 ht5 ?_
        refine ab_iload (pc := 51) (i := 5) dX8_beside_51 rfl ?_
        refine ab_iload_n (pc := 53) (i := 1) dX8_beside_53 rfl rfl ?_
        obtain ⟨q6, hq6, hk⟩ := ab_bnd hk
        obtain ⟨hb, hq6⟩ := ab_on_some hq6
        refine ab_callVI (st := []) (as := [ab_I v5, ab_I v1]) (b := t5) (pc := 54) dX8_beside_54 ml_RX8_303 my_X5_follow mv_X5_follow hb (ct_X5_follow hq6) ⟨Nat.le_of_ble_eq_true rfl, Nat.le_of_ble_eq_true rfl⟩ rfl (Nat.le_of_ble_eq_true rfl) rfl ?_
        refine ab_goto (pc := 57) (tgt := 70) dX8_beside_57 rfl ?_
        refine ab_sub_ (lv2 := [some (ab_R v0), some (ab_I v1), some (ab_I v2), some (ab_I v3), some (ab_I v4), some (ab_I v5), none]) (ab_ss (ab_ss (ab_ss (ab_ss (ab_ss (ab_ss (ab_sn ab_s0))))))) ?_
        exact e_X8_beside_J70 ih hk98 _ _ _ _ _ _ _ _ _ hk
noncomputable def f_X8_beside (a0 : Int) (a1 : Int) (a2 : Int) (a3 : Int) (h : ab_H) : Option (Int × ab_H) :=
  (ab_on h 9 a0 (f_X8_isWord a0 a1 h)).bind fun q1 =>
  if q1.1 = (0 : Int) then
    some ((-2 : Int), q1.2)
  else
  if a2 < (0 : Int) then
    some ((-2 : Int), q1.2)
  else
  if (1 : Int) < a2 then
    some ((-2 : Int), q1.2)
  else
  if (-1 : Int) ≤ a3 then
    f_X8_beside_L31 (fun w98_3 w98_4 hx98 =>
      if w98_3 = (-1 : Int) then
        some (w98_4, hx98)
      else
      some ((-1 : Int), hx98)) ab_FU a0 a1 a2 a3 (0 : Int) (0 : Int) q1.2
  else
  some ((-2 : Int), q1.2)
set_option maxRecDepth 20000 in
theorem ct_X8_beside {a0 a1 a2 a3 : Int} {h : ab_H} {q : Int × ab_H} (hk : f_X8_beside a0 a1 a2 a3 h = some q) : ab_CT yX8_beside cX8_beside 7 (some .int) 1 24 [ab_R a0, ab_I a1, ab_I a2, ab_I a3] h (some (ab_I q.1)) q.2 := by
  refine ab_CT.mk_ 3 (own := RX8) (ini := false) (lv := [some (ab_R a0), some (ab_I a1), some (ab_I a2), some (ab_I a3), none, none, none]) rfl (by decide +kernel) (fun q => by cases q) rfl rfl ?_
  unfold f_X8_beside at hk
  show ab_E mm_X8_beside cX8_beside 0 _ [] h _ _
  refine ab_aload_n (pc := 0) (i := 0) dX8_beside_0 rfl rfl ?_
  refine ab_iload_n (pc := 1) (i := 1) dX8_beside_1 rfl rfl ?_
  obtain ⟨q1, hq1, hk⟩ := ab_bnd hk
  obtain ⟨hb, hq1⟩ := ab_on_some hq1
  refine ab_callVI (st := []) (as := [ab_I a1]) (b := a0) (pc := 2) dX8_beside_2 ml_RX8_161 my_X8_isWord mv_X8_isWord hb (ct_X8_isWord hq1) ⟨Nat.le_of_ble_eq_true rfl, Nat.le_of_ble_eq_true rfl⟩ rfl (Nat.le_of_ble_eq_true rfl) rfl ?_
  refine ab_if_eq (pc := 5) (tgt := 22) dX8_beside_5 rfl (fun hc => ?_) (fun hc => ?_)
  · have hk := ab_ifp hk hc
    refine ab_bipush (pc := 22) dX8_beside_22 ab_p8_m2 ab_k_m2 ?_
    obtain rfl := Option.some.inj hk
    exact ab_reti (pc := 24) dX8_beside_24 (Or.inl rfl)
  · have hk := ab_ifn hk hc
    refine ab_iload_n (pc := 8) (i := 2) dX8_beside_8 rfl rfl ?_
    refine ab_if_lt (pc := 9) (tgt := 22) dX8_beside_9 rfl (fun hc => ?_) (fun hc => ?_)
    · have hk := ab_ifp hk hc
      refine ab_bipush (pc := 22) dX8_beside_22 ab_p8_m2 ab_k_m2 ?_
      obtain rfl := Option.some.inj hk
      exact ab_reti (pc := 24) dX8_beside_24 (Or.inl rfl)
    · have hk := ab_ifn hk hc
      refine ab_iload_n (pc := 12) (i := 2) dX8_beside_12 rfl rfl ?_
      refine ab_iconst (pc := 13) dX8_beside_13 ab_k_1 ?_
      refine ab_icmp_gt (pc := 14) (tgt := 22) dX8_beside_14 rfl (fun hc => ?_) (fun hc => ?_)
      · have hk := ab_ifp hk hc
        refine ab_bipush (pc := 22) dX8_beside_22 ab_p8_m2 ab_k_m2 ?_
        obtain rfl := Option.some.inj hk
        exact ab_reti (pc := 24) dX8_beside_24 (Or.inl rfl)
      · have hk := ab_ifn hk hc
        refine ab_iload_n (pc := 17) (i := 3) dX8_beside_17 rfl rfl ?_
        refine ab_iconst (pc := 18) dX8_beside_18 ab_k_m1 ?_
        refine ab_icmp_ge (pc := 19) (tgt := 25) dX8_beside_19 rfl (fun hc => ?_) (fun hc => ?_)
        · have hk := ab_ifp hk hc
          refine ab_iconst (pc := 25) dX8_beside_25 ab_k_0 ?_
          refine ab_istore (pc := 26) (i := 4) (lv2 := [some (ab_R a0), some (ab_I a1), some (ab_I a2), some (ab_I a3), some (ab_I (0 : Int)), none, none]) dX8_beside_26 (Nat.le_of_ble_eq_true rfl) rfl rfl ?_
          refine ab_iconst (pc := 28) dX8_beside_28 ab_k_0 ?_
          refine ab_istore (pc := 29) (i := 5) (lv2 := [some (ab_R a0), some (ab_I a1), some (ab_I a2), some (ab_I a3), some (ab_I (0 : Int)), some (ab_I (0 : Int)), none]) dX8_beside_29 (Nat.le_of_ble_eq_true rfl) rfl rfl ?_
          refine ab_sub_ (lv2 := [some (ab_R a0), some (ab_I a1), some (ab_I a2), some (ab_I a3), some (ab_I (0 : Int)), some (ab_I (0 : Int)), none]) (ab_ss (ab_ss (ab_ss (ab_ss (ab_ss (ab_ss (ab_sn ab_s0))))))) ?_
          refine e_X8_beside_L31 (fun w98_3 w98_4 hx98 q hk => ?_) _ _ _ _ _ _ _ _ _ hk
          · skip
            refine ab_iload_n (pc := 98) (i := 3) dX8_beside_98 rfl rfl ?_
            refine ab_iconst (pc := 99) dX8_beside_99 ab_k_m1 ?_
            refine ab_icmp_ne (pc := 100) (tgt := 108) dX8_beside_100 rfl (fun hc => ?_) (fun hc => ?_)
            · have hk := ab_ifn hk hc
              refine ab_iconst (pc := 108) dX8_beside_108 ab_k_m1 ?_
              obtain rfl := Option.some.inj hk
              exact ab_reti (pc := 109) dX8_beside_109 (Or.inl rfl)
            · have hk := ab_ifp hk hc
              refine ab_iload (pc := 103) (i := 4) dX8_beside_103 rfl ?_
              refine ab_goto (pc := 105) (tgt := 109) dX8_beside_105 rfl ?_
              obtain rfl := Option.some.inj hk
              exact ab_reti (pc := 109) dX8_beside_109 (Or.inl rfl)
        · have hk := ab_ifn hk hc
          refine ab_bipush (pc := 22) dX8_beside_22 ab_p8_m2 ab_k_m2 ?_
          obtain rfl := Option.some.inj hk
          exact ab_reti (pc := 24) dX8_beside_24 (Or.inl rfl)
theorem dX8_chain_0 : decode cX8_chain 0 = .ok (.aload_n 0, 1) := by decide +kernel
theorem dX8_chain_1 : decode cX8_chain 1 = .ok (.iload_n 1, 1) := by decide +kernel
theorem dX8_chain_2 : decode cX8_chain 2 = .ok (.invokevirtual 161, 3) := by decide +kernel
theorem dX8_chain_5 : decode cX8_chain 5 = .ok (.ifCond .eq 11, 3) := by decide +kernel
theorem dX8_chain_8 : decode cX8_chain 8 = .ok (.aload_n 0, 1) := by decide +kernel
theorem dX8_chain_9 : decode cX8_chain 9 = .ok (.iload_n 2, 1) := by decide +kernel
theorem dX8_chain_10 : decode cX8_chain 10 = .ok (.invokevirtual 161, 3) := by decide +kernel
theorem dX8_chain_13 : decode cX8_chain 13 = .ok (.ifCond .ne 6, 3) := by decide +kernel
theorem dX8_chain_16 : decode cX8_chain 16 = .ok (.bipush (-2), 2) := by decide +kernel
theorem dX8_chain_18 : decode cX8_chain 18 = .ok (.ireturn, 1) := by decide +kernel
theorem dX8_chain_19 : decode cX8_chain 19 = .ok (.iload_n 1, 1) := by decide +kernel
theorem dX8_chain_20 : decode cX8_chain 20 = .ok (.iload_n 2, 1) := by decide +kernel
theorem dX8_chain_21 : decode cX8_chain 21 = .ok (.if_icmp .ne 7, 3) := by decide +kernel
theorem dX8_chain_24 : decode cX8_chain 24 = .ok (.iconst 0, 1) := by decide +kernel
theorem dX8_chain_25 : decode cX8_chain 25 = .ok (.goto 12, 3) := by decide +kernel
theorem dX8_chain_28 : decode cX8_chain 28 = .ok (.aload_n 0, 1) := by decide +kernel
theorem dX8_chain_29 : decode cX8_chain 29 = .ok (.getfield 51, 3) := by decide +kernel
theorem dX8_chain_32 : decode cX8_chain 32 = .ok (.iload_n 1, 1) := by decide +kernel
theorem dX8_chain_33 : decode cX8_chain 33 = .ok (.iload_n 2, 1) := by decide +kernel
theorem dX8_chain_34 : decode cX8_chain 34 = .ok (.invokevirtual 306, 3) := by decide +kernel
theorem dX8_chain_37 : decode cX8_chain 37 = .ok (.ireturn, 1) := by decide +kernel
abbrev mm_X8_chain : ab_M := (RX8, 3, (some .int), false, 2, 47, none)
noncomputable def f_X8_chain (a0 : Int) (a1 : Int) (a2 : Int) (h : ab_H) : Option (Int × ab_H) :=
  (ab_on h 9 a0 (f_X8_isWord a0 a1 h)).bind fun q1 =>
  if q1.1 = (0 : Int) then
    some ((-2 : Int), q1.2)
  else
  (ab_on q1.2 9 a0 (f_X8_isWord a0 a2 q1.2)).bind fun q2 =>
  if q2.1 = (0 : Int) then
    some ((-2 : Int), q2.2)
  else
  if a1 = a2 then
    some ((0 : Int), q2.2)
  else
  (ab_get q2.2 9 7 a0).bind fun t3 =>
  (ab_on q2.2 8 t3 (f_X7_stepsBetween t3 a1 a2 q2.2)).bind fun q4 =>
  some (q4.1, q4.2)
set_option maxRecDepth 20000 in
theorem ct_X8_chain {a0 a1 a2 : Int} {h : ab_H} {q : Int × ab_H} (hk : f_X8_chain a0 a1 a2 h = some q) : ab_CT yX8_chain cX8_chain 3 (some .int) 2 47 [ab_R a0, ab_I a1, ab_I a2] h (some (ab_I q.1)) q.2 := by
  refine ab_CT.mk_ 0 (own := RX8) (ini := false) (lv := [some (ab_R a0), some (ab_I a1), some (ab_I a2)]) rfl (by decide +kernel) (fun q => by cases q) rfl rfl ?_
  unfold f_X8_chain at hk
  show ab_E mm_X8_chain cX8_chain 0 _ [] h _ _
  refine ab_aload_n (pc := 0) (i := 0) dX8_chain_0 rfl rfl ?_
  refine ab_iload_n (pc := 1) (i := 1) dX8_chain_1 rfl rfl ?_
  obtain ⟨q1, hq1, hk⟩ := ab_bnd hk
  obtain ⟨hb, hq1⟩ := ab_on_some hq1
  refine ab_callVI (st := []) (as := [ab_I a1]) (b := a0) (pc := 2) dX8_chain_2 ml_RX8_161 my_X8_isWord mv_X8_isWord hb (ct_X8_isWord hq1) ⟨Nat.le_of_ble_eq_true rfl, Nat.le_of_ble_eq_true rfl⟩ rfl (Nat.le_of_ble_eq_true rfl) rfl ?_
  refine ab_if_eq (pc := 5) (tgt := 16) dX8_chain_5 rfl (fun hc => ?_) (fun hc => ?_)
  · have hk := ab_ifp hk hc
    refine ab_bipush (pc := 16) dX8_chain_16 ab_p8_m2 ab_k_m2 ?_
    obtain rfl := Option.some.inj hk
    exact ab_reti (pc := 18) dX8_chain_18 (Or.inl rfl)
  · have hk := ab_ifn hk hc
    refine ab_aload_n (pc := 8) (i := 0) dX8_chain_8 rfl rfl ?_
    refine ab_iload_n (pc := 9) (i := 2) dX8_chain_9 rfl rfl ?_
    obtain ⟨q2, hq2, hk⟩ := ab_bnd hk
    obtain ⟨hb, hq2⟩ := ab_on_some hq2
    refine ab_callVI (st := []) (as := [ab_I a2]) (b := a0) (pc := 10) dX8_chain_10 ml_RX8_161 my_X8_isWord mv_X8_isWord hb (ct_X8_isWord hq2) ⟨Nat.le_of_ble_eq_true rfl, Nat.le_of_ble_eq_true rfl⟩ rfl (Nat.le_of_ble_eq_true rfl) rfl ?_
    refine ab_if_ne (pc := 13) (tgt := 19) dX8_chain_13 rfl (fun hc => ?_) (fun hc => ?_)
    · have hk := ab_ifn hk hc
      refine ab_iload_n (pc := 19) (i := 1) dX8_chain_19 rfl rfl ?_
      refine ab_iload_n (pc := 20) (i := 2) dX8_chain_20 rfl rfl ?_
      refine ab_icmp_ne (pc := 21) (tgt := 28) dX8_chain_21 rfl (fun hc => ?_) (fun hc => ?_)
      · have hk := ab_ifn hk hc
        refine ab_aload_n (pc := 28) (i := 0) dX8_chain_28 rfl rfl ?_
        obtain ⟨t3, ht3, hk⟩ := ab_bnd hk
        refine ab_getR (pc := 29) dX8_chain_29 fl_RX8_51 ht3 ?_
        refine ab_iload_n (pc := 32) (i := 1) dX8_chain_32 rfl rfl ?_
        refine ab_iload_n (pc := 33) (i := 2) dX8_chain_33 rfl rfl ?_
        obtain ⟨q4, hq4, hk⟩ := ab_bnd hk
        obtain ⟨hb, hq4⟩ := ab_on_some hq4
        refine ab_callVI (st := []) (as := [ab_I a1, ab_I a2]) (b := t3) (pc := 34) dX8_chain_34 ml_RX8_306 my_X7_stepsBetween mv_X7_stepsBetween hb (ct_X7_stepsBetween hq4) ⟨Nat.le_of_ble_eq_true rfl, Nat.le_of_ble_eq_true rfl⟩ rfl (Nat.le_of_ble_eq_true rfl) rfl ?_
        obtain rfl := Option.some.inj hk
        exact ab_reti (pc := 37) dX8_chain_37 (Or.inl rfl)
      · have hk := ab_ifp hk hc
        refine ab_iconst (pc := 24) dX8_chain_24 ab_k_0 ?_
        refine ab_goto (pc := 25) (tgt := 37) dX8_chain_25 rfl ?_
        obtain rfl := Option.some.inj hk
        exact ab_reti (pc := 37) dX8_chain_37 (Or.inl rfl)
    · have hk := ab_ifp hk hc
      refine ab_bipush (pc := 16) dX8_chain_16 ab_p8_m2 ab_k_m2 ?_
      obtain rfl := Option.some.inj hk
      exact ab_reti (pc := 18) dX8_chain_18 (Or.inl rfl)
theorem dX8_groups_0 : decode cX8_groups 0 = .ok (.iconst 0, 1) := by decide +kernel
theorem dX8_groups_1 : decode cX8_groups 1 = .ok (.istore_n 1, 1) := by decide +kernel
theorem dX8_groups_2 : decode cX8_groups 2 = .ok (.iconst 0, 1) := by decide +kernel
theorem dX8_groups_3 : decode cX8_groups 3 = .ok (.istore_n 2, 1) := by decide +kernel
theorem dX8_groups_4 : decode cX8_groups 4 = .ok (.iconst 0, 1) := by decide +kernel
theorem dX8_groups_5 : decode cX8_groups 5 = .ok (.istore_n 3, 1) := by decide +kernel
theorem dX8_groups_6 : decode cX8_groups 6 = .ok (.iload_n 3, 1) := by decide +kernel
theorem dX8_groups_7 : decode cX8_groups 7 = .ok (.aload_n 0, 1) := by decide +kernel
theorem dX8_groups_8 : decode cX8_groups 8 = .ok (.getfield 51, 3) := by decide +kernel
theorem dX8_groups_11 : decode cX8_groups 11 = .ok (.getfield 110, 3) := by decide +kernel
theorem dX8_groups_14 : decode cX8_groups 14 = .ok (.if_icmp .ge 40, 3) := by decide +kernel
theorem dX8_groups_17 : decode cX8_groups 17 = .ok (.aload_n 0, 1) := by decide +kernel
theorem dX8_groups_18 : decode cX8_groups 18 = .ok (.getfield 51, 3) := by decide +kernel
theorem dX8_groups_21 : decode cX8_groups 21 = .ok (.getfield 287, 3) := by decide +kernel
theorem dX8_groups_24 : decode cX8_groups 24 = .ok (.iload_n 3, 1) := by decide +kernel
theorem dX8_groups_25 : decode cX8_groups 25 = .ok (.iaload, 1) := by decide +kernel
theorem dX8_groups_26 : decode cX8_groups 26 = .ok (.iload_n 2, 1) := by decide +kernel
theorem dX8_groups_27 : decode cX8_groups 27 = .ok (.iand, 1) := by decide +kernel
theorem dX8_groups_28 : decode cX8_groups 28 = .ok (.ifCond .eq 6, 3) := by decide +kernel
theorem dX8_groups_31 : decode cX8_groups 31 = .ok (.goto 17, 3) := by decide +kernel
theorem dX8_groups_34 : decode cX8_groups 34 = .ok (.iload_n 2, 1) := by decide +kernel
theorem dX8_groups_35 : decode cX8_groups 35 = .ok (.aload_n 0, 1) := by decide +kernel
theorem dX8_groups_36 : decode cX8_groups 36 = .ok (.getfield 51, 3) := by decide +kernel
theorem dX8_groups_39 : decode cX8_groups 39 = .ok (.iload_n 3, 1) := by decide +kernel
theorem dX8_groups_40 : decode cX8_groups 40 = .ok (.invokevirtual 309, 3) := by decide +kernel
theorem dX8_groups_43 : decode cX8_groups 43 = .ok (.ior, 1) := by decide +kernel
theorem dX8_groups_44 : decode cX8_groups 44 = .ok (.istore_n 2, 1) := by decide +kernel
theorem dX8_groups_45 : decode cX8_groups 45 = .ok (.iinc 1 1, 3) := by decide +kernel
theorem dX8_groups_48 : decode cX8_groups 48 = .ok (.iinc 3 1, 3) := by decide +kernel
theorem dX8_groups_51 : decode cX8_groups 51 = .ok (.goto (-45), 3) := by decide +kernel
theorem dX8_groups_54 : decode cX8_groups 54 = .ok (.iload_n 1, 1) := by decide +kernel
theorem dX8_groups_55 : decode cX8_groups 55 = .ok (.ireturn, 1) := by decide +kernel
abbrev mm_X8_groups : ab_M := (RX8, 4, (some .int), false, 2, 46, none)
noncomputable def f_X8_groups_J48 (rec : Int → Int → Int → Int → ab_H → Option (Int × ab_H)) (v0 : Int) (v1 : Int) (v2 : Int) (v3 : Int) (h : ab_H) : Option (Int × ab_H) :=
  rec v0 v1 v2 (ab_w32 (v3 + (1 : Int))) h
set_option maxRecDepth 20000 in
theorem e_X8_groups_J48 {rec : Int → Int → Int → Int → ab_H → Option (Int × ab_H)} (hrec : ∀ (v0 : Int) (v1 : Int) (v2 : Int) (v3 : Int) (h : ab_H) (q : Int × ab_H), rec v0 v1 v2 v3 h = some q → ab_E mm_X8_groups cX8_groups 6 [some (ab_R v0), some (ab_I v1), some (ab_I v2), some (ab_I v3)] [] h (some (ab_I q.1)) q.2) : ∀ (v0 : Int) (v1 : Int) (v2 : Int) (v3 : Int) (h : ab_H) (q : Int × ab_H), f_X8_groups_J48 rec v0 v1 v2 v3 h = some q → ab_E mm_X8_groups cX8_groups 48 [some (ab_R v0), some (ab_I v1), some (ab_I v2), some (ab_I v3)] [] h (some (ab_I q.1)) q.2 := by
  intro v0 v1 v2 v3 h q hk
  unfold f_X8_groups_J48 at hk
  refine ab_iinc (pc := 48) (i := 3) (lv2 := [some (ab_R v0), some (ab_I v1), some (ab_I v2), some (ab_I (ab_w32 (v3 + (1 : Int))))]) dX8_groups_48 rfl (Nat.le_of_ble_eq_true rfl) rfl rfl ?_
  refine ab_goto (pc := 51) (tgt := 6) dX8_groups_51 rfl ?_
  refine ab_sub_ (lv2 := [some (ab_R v0), some (ab_I v1), some (ab_I v2), some (ab_I (ab_w32 (v3 + (1 : Int))))]) (ab_ss (ab_ss (ab_ss (ab_ss ab_s0)))) ?_
  exact hrec _ _ _ _ _ _ hk
noncomputable def f_X8_groups_L6 : Nat → Int → Int → Int → Int → ab_H → Option (Int × ab_H)
  | 0, _, _, _, _, _ => none
  | n + 1, v0, v1, v2, v3, h =>
    (ab_get h 9 7 v0).bind fun t1 =>
    (ab_get h 8 0 t1).bind fun t2 =>
    if t2 ≤ v3 then
      some (v1, h)
    else
    (ab_get h 9 7 v0).bind fun t3 =>
    (ab_get h 8 2 t3).bind fun t4 =>
    (ab_ald h 11 t4 v3).bind fun t5 =>
    if ab_and t5 v2 = (0 : Int) then
      (ab_get h 9 7 v0).bind fun t6 =>
      (ab_on h 8 t6 (f_X7_groupOf t6 v3 h)).bind fun q7 =>
      f_X8_groups_J48 (f_X8_groups_L6 n) v0 (ab_w32 (v1 + (1 : Int))) (ab_or v2 q7.1) v3 q7.2
    else
    f_X8_groups_J48 (f_X8_groups_L6 n) v0 v1 v2 v3 h
set_option maxRecDepth 20000 in
theorem e_X8_groups_L6 : ∀ (n : Nat) (v0 : Int) (v1 : Int) (v2 : Int) (v3 : Int) (h : ab_H) (q : Int × ab_H), f_X8_groups_L6 n v0 v1 v2 v3 h = some q → ab_E mm_X8_groups cX8_groups 6 [some (ab_R v0), some (ab_I v1), some (ab_I v2), some (ab_I v3)] [] h (some (ab_I q.1)) q.2 := by
  intro n
  induction n with
  | zero => intro v0 v1 v2 v3 h q hk; cases hk
  | succ n ih =>
    intro v0 v1 v2 v3 h q hk
    unfold f_X8_groups_L6 at hk
    refine ab_iload_n (pc := 6) (i := 3) dX8_groups_6 rfl rfl ?_
    refine ab_aload_n (pc := 7) (i := 0) dX8_groups_7 rfl rfl ?_
    obtain ⟨t1, ht1, hk⟩ := ab_bnd hk
    refine ab_getR (pc := 8) dX8_groups_8 fl_RX8_51 ht1 ?_
    obtain ⟨t2, ht2, hk⟩ := ab_bnd hk
    refine ab_getI (pc := 11) dX8_groups_11 fl_RX8_110 ht2 ?_
    refine ab_icmp_ge (pc := 14) (tgt := 54) dX8_groups_14 rfl (fun hc => ?_) (fun hc => ?_)
    · have hk := ab_ifp hk hc
      refine ab_iload_n (pc := 54) (i := 1) dX8_groups_54 rfl rfl ?_
      obtain rfl := Option.some.inj hk
      exact ab_reti (pc := 55) dX8_groups_55 (Or.inl rfl)
    · have hk := ab_ifn hk hc
      refine ab_aload_n (pc := 17) (i := 0) dX8_groups_17 rfl rfl ?_
      obtain ⟨t3, ht3, hk⟩ := ab_bnd hk
      refine ab_getR (pc := 18) dX8_groups_18 fl_RX8_51 ht3 ?_
      obtain ⟨t4, ht4, hk⟩ := ab_bnd hk
      refine ab_getR (pc := 21) dX8_groups_21 fl_RX8_287 ht4 ?_
      refine ab_iload_n (pc := 24) (i := 3) dX8_groups_24 rfl rfl ?_
      obtain ⟨t5, ht5, hk⟩ := ab_bnd hk
      refine ab_iald (pc := 25) dX8_groups_25 ht5 ?_
      refine ab_iload_n (pc := 26) (i := 2) dX8_groups_26 rfl rfl ?_
      refine ab_iand (pc := 27) dX8_groups_27 ?_
      refine ab_if_eq (pc := 28) (tgt := 34) dX8_groups_28 rfl (fun hc => ?_) (fun hc => ?_)
      · have hk := ab_ifp hk hc
        refine ab_iload_n (pc := 34) (i := 2) dX8_groups_34 rfl rfl ?_
        refine ab_aload_n (pc := 35) (i := 0) dX8_groups_35 rfl rfl ?_
        obtain ⟨t6, ht6, hk⟩ := ab_bnd hk
        refine ab_getR (pc := 36) dX8_groups_36 fl_RX8_51 ht6 ?_
        refine ab_iload_n (pc := 39) (i := 3) dX8_groups_39 rfl rfl ?_
        obtain ⟨q7, hq7, hk⟩ := ab_bnd hk
        obtain ⟨hb, hq7⟩ := ab_on_some hq7
        refine ab_callVI (st := [ab_I v2]) (as := [ab_I v3]) (b := t6) (pc := 40) dX8_groups_40 ml_RX8_309 my_X7_groupOf mv_X7_groupOf hb (ct_X7_groupOf hq7) ⟨Nat.le_of_ble_eq_true rfl, Nat.le_of_ble_eq_true rfl⟩ rfl (Nat.le_of_ble_eq_true rfl) rfl ?_
        refine ab_ior (pc := 43) dX8_groups_43 ?_
        refine ab_istore_n (pc := 44) (i := 2) (lv2 := [some (ab_R v0), some (ab_I v1), some (ab_I (ab_or v2 q7.1)), some (ab_I v3)]) dX8_groups_44 rfl (Nat.le_of_ble_eq_true rfl) rfl rfl ?_
        refine ab_iinc (pc := 45) (i := 1) (lv2 := [some (ab_R v0), some (ab_I (ab_w32 (v1 + (1 : Int)))), some (ab_I (ab_or v2 q7.1)), some (ab_I v3)]) dX8_groups_45 rfl (Nat.le_of_ble_eq_true rfl) rfl rfl ?_
        refine ab_sub_ (lv2 := [some (ab_R v0), some (ab_I (ab_w32 (v1 + (1 : Int)))), some (ab_I (ab_or v2 q7.1)), some (ab_I v3)]) (ab_ss (ab_ss (ab_ss (ab_ss ab_s0)))) ?_
        exact e_X8_groups_J48 ih _ _ _ _ _ _ hk
      · have hk := ab_ifn hk hc
        refine ab_goto (pc := 31) (tgt := 48) dX8_groups_31 rfl ?_
        refine ab_sub_ (lv2 := [some (ab_R v0), some (ab_I v1), some (ab_I v2), some (ab_I v3)]) (ab_ss (ab_ss (ab_ss (ab_ss ab_s0)))) ?_
        exact e_X8_groups_J48 ih _ _ _ _ _ _ hk
noncomputable def f_X8_groups (a0 : Int) (h : ab_H) : Option (Int × ab_H) :=
  f_X8_groups_L6 ab_FU a0 (0 : Int) (0 : Int) (0 : Int) h
set_option maxRecDepth 20000 in
theorem ct_X8_groups {a0 : Int} {h : ab_H} {q : Int × ab_H} (hk : f_X8_groups a0 h = some q) : ab_CT yX8_groups cX8_groups 4 (some .int) 2 46 [ab_R a0] h (some (ab_I q.1)) q.2 := by
  refine ab_CT.mk_ 3 (own := RX8) (ini := false) (lv := [some (ab_R a0), none, none, none]) rfl (by decide +kernel) (fun q => by cases q) rfl rfl ?_
  unfold f_X8_groups at hk
  show ab_E mm_X8_groups cX8_groups 0 _ [] h _ _
  refine ab_iconst (pc := 0) dX8_groups_0 ab_k_0 ?_
  refine ab_istore_n (pc := 1) (i := 1) (lv2 := [some (ab_R a0), some (ab_I (0 : Int)), none, none]) dX8_groups_1 rfl (Nat.le_of_ble_eq_true rfl) rfl rfl ?_
  refine ab_iconst (pc := 2) dX8_groups_2 ab_k_0 ?_
  refine ab_istore_n (pc := 3) (i := 2) (lv2 := [some (ab_R a0), some (ab_I (0 : Int)), some (ab_I (0 : Int)), none]) dX8_groups_3 rfl (Nat.le_of_ble_eq_true rfl) rfl rfl ?_
  refine ab_iconst (pc := 4) dX8_groups_4 ab_k_0 ?_
  refine ab_istore_n (pc := 5) (i := 3) (lv2 := [some (ab_R a0), some (ab_I (0 : Int)), some (ab_I (0 : Int)), some (ab_I (0 : Int))]) dX8_groups_5 rfl (Nat.le_of_ble_eq_true rfl) rfl rfl ?_
  refine ab_sub_ (lv2 := [some (ab_R a0), some (ab_I (0 : Int)), some (ab_I (0 : Int)), some (ab_I (0 : Int))]) (ab_ss (ab_ss (ab_ss (ab_ss ab_s0)))) ?_
  refine e_X8_groups_L6 _ _ _ _ _ _ _ hk
theorem dX8_cover_0 : decode cX8_cover 0 = .ok (.aload_n 0, 1) := by decide +kernel
theorem dX8_cover_1 : decode cX8_cover 1 = .ok (.getfield 51, 3) := by decide +kernel
theorem dX8_cover_4 : decode cX8_cover 4 = .ok (.getfield 110, 3) := by decide +kernel
theorem dX8_cover_7 : decode cX8_cover 7 = .ok (.ifCond .ne 5, 3) := by decide +kernel
theorem dX8_cover_10 : decode cX8_cover 10 = .ok (.iconst (-1), 1) := by decide +kernel
theorem dX8_cover_11 : decode cX8_cover 11 = .ok (.ireturn, 1) := by decide +kernel
theorem dX8_cover_12 : decode cX8_cover 12 = .ok (.iconst 1, 1) := by decide +kernel
theorem dX8_cover_13 : decode cX8_cover 13 = .ok (.aload_n 0, 1) := by decide +kernel
theorem dX8_cover_14 : decode cX8_cover 14 = .ok (.getfield 34, 3) := by decide +kernel
theorem dX8_cover_17 : decode cX8_cover 17 = .ok (.getfield 102, 3) := by decide +kernel
theorem dX8_cover_20 : decode cX8_cover 20 = .ok (.ishl, 1) := by decide +kernel
theorem dX8_cover_21 : decode cX8_cover 21 = .ok (.iconst 1, 1) := by decide +kernel
theorem dX8_cover_22 : decode cX8_cover 22 = .ok (.isub, 1) := by decide +kernel
theorem dX8_cover_23 : decode cX8_cover 23 = .ok (.istore_n 1, 1) := by decide +kernel
theorem dX8_cover_24 : decode cX8_cover 24 = .ok (.iconst 1, 1) := by decide +kernel
theorem dX8_cover_25 : decode cX8_cover 25 = .ok (.istore_n 2, 1) := by decide +kernel
theorem dX8_cover_26 : decode cX8_cover 26 = .ok (.iload_n 2, 1) := by decide +kernel
theorem dX8_cover_27 : decode cX8_cover 27 = .ok (.iconst 1, 1) := by decide +kernel
theorem dX8_cover_28 : decode cX8_cover 28 = .ok (.aload_n 0, 1) := by decide +kernel
theorem dX8_cover_29 : decode cX8_cover 29 = .ok (.getfield 34, 3) := by decide +kernel
theorem dX8_cover_32 : decode cX8_cover 32 = .ok (.getfield 102, 3) := by decide +kernel
theorem dX8_cover_35 : decode cX8_cover 35 = .ok (.ishl, 1) := by decide +kernel
theorem dX8_cover_36 : decode cX8_cover 36 = .ok (.if_icmp .ge 33, 3) := by decide +kernel
theorem dX8_cover_39 : decode cX8_cover 39 = .ok (.iload_n 2, 1) := by decide +kernel
theorem dX8_cover_40 : decode cX8_cover 40 = .ok (.invokestatic 216, 3) := by decide +kernel
theorem dX8_cover_43 : decode cX8_cover 43 = .ok (.iload_n 1, 1) := by decide +kernel
theorem dX8_cover_44 : decode cX8_cover 44 = .ok (.invokestatic 216, 3) := by decide +kernel
theorem dX8_cover_47 : decode cX8_cover 47 = .ok (.if_icmp .ge 16, 3) := by decide +kernel
theorem dX8_cover_50 : decode cX8_cover 50 = .ok (.aload_n 0, 1) := by decide +kernel
theorem dX8_cover_51 : decode cX8_cover 51 = .ok (.getfield 51, 3) := by decide +kernel
theorem dX8_cover_54 : decode cX8_cover 54 = .ok (.iload_n 2, 1) := by decide +kernel
theorem dX8_cover_55 : decode cX8_cover 55 = .ok (.invokevirtual 312, 3) := by decide +kernel
theorem dX8_cover_58 : decode cX8_cover 58 = .ok (.ifCond .eq 5, 3) := by decide +kernel
theorem dX8_cover_61 : decode cX8_cover 61 = .ok (.iload_n 2, 1) := by decide +kernel
theorem dX8_cover_62 : decode cX8_cover 62 = .ok (.istore_n 1, 1) := by decide +kernel
theorem dX8_cover_63 : decode cX8_cover 63 = .ok (.iinc 2 1, 3) := by decide +kernel
theorem dX8_cover_66 : decode cX8_cover 66 = .ok (.goto (-40), 3) := by decide +kernel
theorem dX8_cover_69 : decode cX8_cover 69 = .ok (.iload_n 1, 1) := by decide +kernel
theorem dX8_cover_70 : decode cX8_cover 70 = .ok (.ireturn, 1) := by decide +kernel
abbrev mm_X8_cover : ab_M := (RX8, 3, (some .int), false, 1, 22, none)
noncomputable def f_X8_cover_J63 (rec : Int → Int → Int → ab_H → Option (Int × ab_H)) (v0 : Int) (v1 : Int) (v2 : Int) (h : ab_H) : Option (Int × ab_H) :=
  rec v0 v1 (ab_w32 (v2 + (1 : Int))) h
set_option maxRecDepth 20000 in
theorem e_X8_cover_J63 {rec : Int → Int → Int → ab_H → Option (Int × ab_H)} (hrec : ∀ (v0 : Int) (v1 : Int) (v2 : Int) (h : ab_H) (q : Int × ab_H), rec v0 v1 v2 h = some q → ab_E mm_X8_cover cX8_cover 26 [some (ab_R v0), some (ab_I v1), some (ab_I v2)] [] h (some (ab_I q.1)) q.2) : ∀ (v0 : Int) (v1 : Int) (v2 : Int) (h : ab_H) (q : Int × ab_H), f_X8_cover_J63 rec v0 v1 v2 h = some q → ab_E mm_X8_cover cX8_cover 63 [some (ab_R v0), some (ab_I v1), some (ab_I v2)] [] h (some (ab_I q.1)) q.2 := by
  intro v0 v1 v2 h q hk
  unfold f_X8_cover_J63 at hk
  refine ab_iinc (pc := 63) (i := 2) (lv2 := [some (ab_R v0), some (ab_I v1), some (ab_I (ab_w32 (v2 + (1 : Int))))]) dX8_cover_63 rfl (Nat.le_of_ble_eq_true rfl) rfl rfl ?_
  refine ab_goto (pc := 66) (tgt := 26) dX8_cover_66 rfl ?_
  refine ab_sub_ (lv2 := [some (ab_R v0), some (ab_I v1), some (ab_I (ab_w32 (v2 + (1 : Int))))]) (ab_ss (ab_ss (ab_ss ab_s0))) ?_
  exact hrec _ _ _ _ _ hk
noncomputable def f_X8_cover_L26 : Nat → Int → Int → Int → ab_H → Option (Int × ab_H)
  | 0, _, _, _, _ => none
  | n + 1, v0, v1, v2, h =>
    (ab_get h 9 4 v0).bind fun t1 =>
    (ab_get h 1 0 t1).bind fun t2 =>
    if ab_shl (1 : Int) t2 ≤ v2 then
      some (v1, h)
    else
    (f_J6_bitCount_0f7a4 v2 h).bind fun q3 =>
    (f_J6_bitCount_0f7a4 v1 q3.2).bind fun q4 =>
    if q4.1 ≤ q3.1 then
      f_X8_cover_J63 (f_X8_cover_L26 n) v0 v1 v2 q4.2
    else
    (ab_get q4.2 9 7 v0).bind fun t5 =>
    (ab_on q4.2 8 t5 (f_X7_areAllIn t5 v2 q4.2)).bind fun q6 =>
    if q6.1 = (0 : Int) then
      f_X8_cover_J63 (f_X8_cover_L26 n) v0 v1 v2 q6.2
    else
    f_X8_cover_J63 (f_X8_cover_L26 n) v0 v2 v2 q6.2
set_option maxRecDepth 20000 in
theorem e_X8_cover_L26 : ∀ (n : Nat) (v0 : Int) (v1 : Int) (v2 : Int) (h : ab_H) (q : Int × ab_H), f_X8_cover_L26 n v0 v1 v2 h = some q → ab_E mm_X8_cover cX8_cover 26 [some (ab_R v0), some (ab_I v1), some (ab_I v2)] [] h (some (ab_I q.1)) q.2 := by
  intro n
  induction n with
  | zero => intro v0 v1 v2 h q hk; cases hk
  | succ n ih =>
    intro v0 v1 v2 h q hk
    unfold f_X8_cover_L26 at hk
    refine ab_iload_n (pc := 26) (i := 2) dX8_cover_26 rfl rfl ?_
    refine ab_iconst (pc := 27) dX8_cover_27 ab_k_1 ?_
    refine ab_aload_n (pc := 28) (i := 0) dX8_cover_28 rfl rfl ?_
    obtain ⟨t1, ht1, hk⟩ := ab_bnd hk
    refine ab_getR (pc := 29) dX8_cover_29 fl_RX8_34 ht1 ?_
    obtain ⟨t2, ht2, hk⟩ := ab_bnd hk
    refine ab_getI (pc := 32) dX8_cover_32 fl_RX8_102 ht2 ?_
    refine ab_ishl (pc := 35) dX8_cover_35 ?_
    refine ab_icmp_ge (pc := 36) (tgt := 69) dX8_cover_36 rfl (fun hc => ?_) (fun hc => ?_)
    · have hk := ab_ifp hk hc
      refine ab_iload_n (pc := 69) (i := 1) dX8_cover_69 rfl rfl ?_
      obtain rfl := Option.some.inj hk
      exact ab_reti (pc := 70) dX8_cover_70 (Or.inl rfl)
    · have hk := ab_ifn hk hc
      refine ab_iload_n (pc := 39) (i := 2) dX8_cover_39 rfl rfl ?_
      obtain ⟨q3, hq3, hk⟩ := ab_bnd hk
      refine ab_callSI (st := []) (as := [ab_I v2]) (pc := 40) dX8_cover_40 ml_RX8_216 my_J6_bitCount_0f7a4 ms_J6_bitCount_0f7a4 (ct_J6_bitCount_0f7a4 hq3) ⟨Nat.le_of_ble_eq_true rfl, Nat.le_of_ble_eq_true rfl⟩ rfl (Nat.le_of_ble_eq_true rfl) rfl ?_
      refine ab_iload_n (pc := 43) (i := 1) dX8_cover_43 rfl rfl ?_
      obtain ⟨q4, hq4, hk⟩ := ab_bnd hk
      refine ab_callSI (st := [ab_I q3.1]) (as := [ab_I v1]) (pc := 44) dX8_cover_44 ml_RX8_216 my_J6_bitCount_0f7a4 ms_J6_bitCount_0f7a4 (ct_J6_bitCount_0f7a4 hq4) ⟨Nat.le_of_ble_eq_true rfl, Nat.le_of_ble_eq_true rfl⟩ rfl (Nat.le_of_ble_eq_true rfl) rfl ?_
      refine ab_icmp_ge (pc := 47) (tgt := 63) dX8_cover_47 rfl (fun hc => ?_) (fun hc => ?_)
      · have hk := ab_ifp hk hc
        refine ab_sub_ (lv2 := [some (ab_R v0), some (ab_I v1), some (ab_I v2)]) (ab_ss (ab_ss (ab_ss ab_s0))) ?_
        exact e_X8_cover_J63 ih _ _ _ _ _ hk
      · have hk := ab_ifn hk hc
        refine ab_aload_n (pc := 50) (i := 0) dX8_cover_50 rfl rfl ?_
        obtain ⟨t5, ht5, hk⟩ := ab_bnd hk
        refine ab_getR (pc := 51) dX8_cover_51 fl_RX8_51 ht5 ?_
        refine ab_iload_n (pc := 54) (i := 2) dX8_cover_54 rfl rfl ?_
        obtain ⟨q6, hq6, hk⟩ := ab_bnd hk
        obtain ⟨hb, hq6⟩ := ab_on_some hq6
        refine ab_callVI (st := []) (as := [ab_I v2]) (b := t5) (pc := 55) dX8_cover_55 ml_RX8_312 my_X7_areAllIn mv_X7_areAllIn hb (ct_X7_areAllIn hq6) ⟨Nat.le_of_ble_eq_true rfl, Nat.le_of_ble_eq_true rfl⟩ rfl (Nat.le_of_ble_eq_true rfl) rfl ?_
        refine ab_if_eq (pc := 58) (tgt := 63) dX8_cover_58 rfl (fun hc => ?_) (fun hc => ?_)
        · have hk := ab_ifp hk hc
          refine ab_sub_ (lv2 := [some (ab_R v0), some (ab_I v1), some (ab_I v2)]) (ab_ss (ab_ss (ab_ss ab_s0))) ?_
          exact e_X8_cover_J63 ih _ _ _ _ _ hk
        · have hk := ab_ifn hk hc
          refine ab_iload_n (pc := 61) (i := 2) dX8_cover_61 rfl rfl ?_
          refine ab_istore_n (pc := 62) (i := 1) (lv2 := [some (ab_R v0), some (ab_I v2), some (ab_I v2)]) dX8_cover_62 rfl (Nat.le_of_ble_eq_true rfl) rfl rfl ?_
          refine ab_sub_ (lv2 := [some (ab_R v0), some (ab_I v2), some (ab_I v2)]) (ab_ss (ab_ss (ab_ss ab_s0))) ?_
          exact e_X8_cover_J63 ih _ _ _ _ _ hk
noncomputable def f_X8_cover (a0 : Int) (h : ab_H) : Option (Int × ab_H) :=
  (ab_get h 9 7 a0).bind fun t1 =>
  (ab_get h 8 0 t1).bind fun t2 =>
  if t2 = (0 : Int) then
    some ((-1 : Int), h)
  else
  (ab_get h 9 4 a0).bind fun t3 =>
  (ab_get h 1 0 t3).bind fun t4 =>
  f_X8_cover_L26 ab_FU a0 (ab_w32 ((ab_shl (1 : Int) t4) - (1 : Int))) (1 : Int) h
set_option maxRecDepth 20000 in
theorem ct_X8_cover {a0 : Int} {h : ab_H} {q : Int × ab_H} (hk : f_X8_cover a0 h = some q) : ab_CT yX8_cover cX8_cover 3 (some .int) 1 22 [ab_R a0] h (some (ab_I q.1)) q.2 := by
  refine ab_CT.mk_ 2 (own := RX8) (ini := false) (lv := [some (ab_R a0), none, none]) rfl (by decide +kernel) (fun q => by cases q) rfl rfl ?_
  unfold f_X8_cover at hk
  show ab_E mm_X8_cover cX8_cover 0 _ [] h _ _
  refine ab_aload_n (pc := 0) (i := 0) dX8_cover_0 rfl rfl ?_
  obtain ⟨t1, ht1, hk⟩ := ab_bnd hk
  refine ab_getR (pc := 1) dX8_cover_1 fl_RX8_51 ht1 ?_
  obtain ⟨t2, ht2, hk⟩ := ab_bnd hk
  refine ab_getI (pc := 4) dX8_cover_4 fl_RX8_110 ht2 ?_
  refine ab_if_ne (pc := 7) (tgt := 12) dX8_cover_7 rfl (fun hc => ?_) (fun hc => ?_)
  · have hk := ab_ifn hk hc
    refine ab_iconst (pc := 12) dX8_cover_12 ab_k_1 ?_
    refine ab_aload_n (pc := 13) (i := 0) dX8_cover_13 rfl rfl ?_
    obtain ⟨t3, ht3, hk⟩ := ab_bnd hk
    refine ab_getR (pc := 14) dX8_cover_14 fl_RX8_34 ht3 ?_
    obtain ⟨t4, ht4, hk⟩ := ab_bnd hk
    refine ab_getI (pc := 17) dX8_cover_17 fl_RX8_102 ht4 ?_
    refine ab_ishl (pc := 20) dX8_cover_20 ?_
    refine ab_iconst (pc := 21) dX8_cover_21 ab_k_1 ?_
    refine ab_isub (pc := 22) dX8_cover_22 ?_
    refine ab_istore_n (pc := 23) (i := 1) (lv2 := [some (ab_R a0), some (ab_I (ab_w32 ((ab_shl (1 : Int) t4) - (1 : Int)))), none]) dX8_cover_23 rfl (Nat.le_of_ble_eq_true rfl) rfl rfl ?_
    refine ab_iconst (pc := 24) dX8_cover_24 ab_k_1 ?_
    refine ab_istore_n (pc := 25) (i := 2) (lv2 := [some (ab_R a0), some (ab_I (ab_w32 ((ab_shl (1 : Int) t4) - (1 : Int)))), some (ab_I (1 : Int))]) dX8_cover_25 rfl (Nat.le_of_ble_eq_true rfl) rfl rfl ?_
    refine ab_sub_ (lv2 := [some (ab_R a0), some (ab_I (ab_w32 ((ab_shl (1 : Int) t4) - (1 : Int)))), some (ab_I (1 : Int))]) (ab_ss (ab_ss (ab_ss ab_s0))) ?_
    refine e_X8_cover_L26 _ _ _ _ _ _ hk
  · have hk := ab_ifp hk hc
    refine ab_iconst (pc := 10) dX8_cover_10 ab_k_m1 ?_
    obtain rfl := Option.some.inj hk
    exact ab_reti (pc := 11) dX8_cover_11 (Or.inl rfl)
theorem dX8_alike_0 : decode cX8_alike 0 = .ok (.aload_n 0, 1) := by decide +kernel
theorem dX8_alike_1 : decode cX8_alike 1 = .ok (.iload_n 1, 1) := by decide +kernel
theorem dX8_alike_2 : decode cX8_alike 2 = .ok (.invokevirtual 117, 3) := by decide +kernel
theorem dX8_alike_5 : decode cX8_alike 5 = .ok (.ifCond .eq 11, 3) := by decide +kernel
theorem dX8_alike_8 : decode cX8_alike 8 = .ok (.aload_n 0, 1) := by decide +kernel
theorem dX8_alike_9 : decode cX8_alike 9 = .ok (.iload_n 2, 1) := by decide +kernel
theorem dX8_alike_10 : decode cX8_alike 10 = .ok (.invokevirtual 117, 3) := by decide +kernel
theorem dX8_alike_13 : decode cX8_alike 13 = .ok (.ifCond .ne 6, 3) := by decide +kernel
theorem dX8_alike_16 : decode cX8_alike 16 = .ok (.bipush (-2), 2) := by decide +kernel
theorem dX8_alike_18 : decode cX8_alike 18 = .ok (.ireturn, 1) := by decide +kernel
theorem dX8_alike_19 : decode cX8_alike 19 = .ok (.aload_n 0, 1) := by decide +kernel
theorem dX8_alike_20 : decode cX8_alike 20 = .ok (.getfield 58, 3) := by decide +kernel
theorem dX8_alike_23 : decode cX8_alike 23 = .ok (.iload_n 1, 1) := by decide +kernel
theorem dX8_alike_24 : decode cX8_alike 24 = .ok (.iload_n 2, 1) := by decide +kernel
theorem dX8_alike_25 : decode cX8_alike 25 = .ok (.invokevirtual 315, 3) := by decide +kernel
theorem dX8_alike_28 : decode cX8_alike 28 = .ok (.ifCond .eq 5, 3) := by decide +kernel
theorem dX8_alike_31 : decode cX8_alike 31 = .ok (.iconst 2, 1) := by decide +kernel
theorem dX8_alike_32 : decode cX8_alike 32 = .ok (.ireturn, 1) := by decide +kernel
theorem dX8_alike_33 : decode cX8_alike 33 = .ok (.aload_n 0, 1) := by decide +kernel
theorem dX8_alike_34 : decode cX8_alike 34 = .ok (.getfield 58, 3) := by decide +kernel
theorem dX8_alike_37 : decode cX8_alike 37 = .ok (.iload_n 1, 1) := by decide +kernel
theorem dX8_alike_38 : decode cX8_alike 38 = .ok (.iload_n 2, 1) := by decide +kernel
theorem dX8_alike_39 : decode cX8_alike 39 = .ok (.invokevirtual 318, 3) := by decide +kernel
theorem dX8_alike_42 : decode cX8_alike 42 = .ok (.ifCond .eq 7, 3) := by decide +kernel
theorem dX8_alike_45 : decode cX8_alike 45 = .ok (.iconst 1, 1) := by decide +kernel
theorem dX8_alike_46 : decode cX8_alike 46 = .ok (.goto 4, 3) := by decide +kernel
theorem dX8_alike_49 : decode cX8_alike 49 = .ok (.iconst 0, 1) := by decide +kernel
theorem dX8_alike_50 : decode cX8_alike 50 = .ok (.ireturn, 1) := by decide +kernel
abbrev mm_X8_alike : ab_M := (RX8, 3, (some .int), false, 4, 95, none)
noncomputable def f_X8_alike (a0 : Int) (a1 : Int) (a2 : Int) (h : ab_H) : Option (Int × ab_H) :=
  (ab_on h 9 a0 (f_X8_isString a0 a1 h)).bind fun q1 =>
  if q1.1 = (0 : Int) then
    some ((-2 : Int), q1.2)
  else
  (ab_on q1.2 9 a0 (f_X8_isString a0 a2 q1.2)).bind fun q2 =>
  if q2.1 = (0 : Int) then
    some ((-2 : Int), q2.2)
  else
  (ab_get q2.2 9 8 a0).bind fun t3 =>
  (ab_on q2.2 6 t3 (f_X5_areSame t3 a1 a2 q2.2)).bind fun q4 =>
  if q4.1 = (0 : Int) then
    (ab_get q4.2 9 8 a0).bind fun t5 =>
    (ab_on q4.2 6 t5 (f_X5_areOfOneSense t5 a1 a2 q4.2)).bind fun q6 =>
    if q6.1 = (0 : Int) then
      some ((0 : Int), q6.2)
    else
    some ((1 : Int), q6.2)
  else
  some ((2 : Int), q4.2)
set_option maxRecDepth 20000 in
theorem ct_X8_alike {a0 a1 a2 : Int} {h : ab_H} {q : Int × ab_H} (hk : f_X8_alike a0 a1 a2 h = some q) : ab_CT yX8_alike cX8_alike 3 (some .int) 4 95 [ab_R a0, ab_I a1, ab_I a2] h (some (ab_I q.1)) q.2 := by
  refine ab_CT.mk_ 0 (own := RX8) (ini := false) (lv := [some (ab_R a0), some (ab_I a1), some (ab_I a2)]) rfl (by decide +kernel) (fun q => by cases q) rfl rfl ?_
  unfold f_X8_alike at hk
  show ab_E mm_X8_alike cX8_alike 0 _ [] h _ _
  refine ab_aload_n (pc := 0) (i := 0) dX8_alike_0 rfl rfl ?_
  refine ab_iload_n (pc := 1) (i := 1) dX8_alike_1 rfl rfl ?_
  obtain ⟨q1, hq1, hk⟩ := ab_bnd hk
  obtain ⟨hb, hq1⟩ := ab_on_some hq1
  refine ab_callVI (st := []) (as := [ab_I a1]) (b := a0) (pc := 2) dX8_alike_2 ml_RX8_117 my_X8_isString mv_X8_isString hb (ct_X8_isString hq1) ⟨Nat.le_of_ble_eq_true rfl, Nat.le_of_ble_eq_true rfl⟩ rfl (Nat.le_of_ble_eq_true rfl) rfl ?_
  refine ab_if_eq (pc := 5) (tgt := 16) dX8_alike_5 rfl (fun hc => ?_) (fun hc => ?_)
  · have hk := ab_ifp hk hc
    refine ab_bipush (pc := 16) dX8_alike_16 ab_p8_m2 ab_k_m2 ?_
    obtain rfl := Option.some.inj hk
    exact ab_reti (pc := 18) dX8_alike_18 (Or.inl rfl)
  · have hk := ab_ifn hk hc
    refine ab_aload_n (pc := 8) (i := 0) dX8_alike_8 rfl rfl ?_
    refine ab_iload_n (pc := 9) (i := 2) dX8_alike_9 rfl rfl ?_
    obtain ⟨q2, hq2, hk⟩ := ab_bnd hk
    obtain ⟨hb, hq2⟩ := ab_on_some hq2
    refine ab_callVI (st := []) (as := [ab_I a2]) (b := a0) (pc := 10) dX8_alike_10 ml_RX8_117 my_X8_isString mv_X8_isString hb (ct_X8_isString hq2) ⟨Nat.le_of_ble_eq_true rfl, Nat.le_of_ble_eq_true rfl⟩ rfl (Nat.le_of_ble_eq_true rfl) rfl ?_
    refine ab_if_ne (pc := 13) (tgt := 19) dX8_alike_13 rfl (fun hc => ?_) (fun hc => ?_)
    · have hk := ab_ifn hk hc
      refine ab_aload_n (pc := 19) (i := 0) dX8_alike_19 rfl rfl ?_
      obtain ⟨t3, ht3, hk⟩ := ab_bnd hk
      refine ab_getR (pc := 20) dX8_alike_20 fl_RX8_58 ht3 ?_
      refine ab_iload_n (pc := 23) (i := 1) dX8_alike_23 rfl rfl ?_
      refine ab_iload_n (pc := 24) (i := 2) dX8_alike_24 rfl rfl ?_
      obtain ⟨q4, hq4, hk⟩ := ab_bnd hk
      obtain ⟨hb, hq4⟩ := ab_on_some hq4
      refine ab_callVI (st := []) (as := [ab_I a1, ab_I a2]) (b := t3) (pc := 25) dX8_alike_25 ml_RX8_315 my_X5_areSame mv_X5_areSame hb (ct_X5_areSame hq4) ⟨Nat.le_of_ble_eq_true rfl, Nat.le_of_ble_eq_true rfl⟩ rfl (Nat.le_of_ble_eq_true rfl) rfl ?_
      refine ab_if_eq (pc := 28) (tgt := 33) dX8_alike_28 rfl (fun hc => ?_) (fun hc => ?_)
      · have hk := ab_ifp hk hc
        refine ab_aload_n (pc := 33) (i := 0) dX8_alike_33 rfl rfl ?_
        obtain ⟨t5, ht5, hk⟩ := ab_bnd hk
        refine ab_getR (pc := 34) dX8_alike_34 fl_RX8_58 ht5 ?_
        refine ab_iload_n (pc := 37) (i := 1) dX8_alike_37 rfl rfl ?_
        refine ab_iload_n (pc := 38) (i := 2) dX8_alike_38 rfl rfl ?_
        obtain ⟨q6, hq6, hk⟩ := ab_bnd hk
        obtain ⟨hb, hq6⟩ := ab_on_some hq6
        refine ab_callVI (st := []) (as := [ab_I a1, ab_I a2]) (b := t5) (pc := 39) dX8_alike_39 ml_RX8_318 my_X5_areOfOneSense mv_X5_areOfOneSense hb (ct_X5_areOfOneSense hq6) ⟨Nat.le_of_ble_eq_true rfl, Nat.le_of_ble_eq_true rfl⟩ rfl (Nat.le_of_ble_eq_true rfl) rfl ?_
        refine ab_if_eq (pc := 42) (tgt := 49) dX8_alike_42 rfl (fun hc => ?_) (fun hc => ?_)
        · have hk := ab_ifp hk hc
          refine ab_iconst (pc := 49) dX8_alike_49 ab_k_0 ?_
          obtain rfl := Option.some.inj hk
          exact ab_reti (pc := 50) dX8_alike_50 (Or.inl rfl)
        · have hk := ab_ifn hk hc
          refine ab_iconst (pc := 45) dX8_alike_45 ab_k_1 ?_
          refine ab_goto (pc := 46) (tgt := 50) dX8_alike_46 rfl ?_
          obtain rfl := Option.some.inj hk
          exact ab_reti (pc := 50) dX8_alike_50 (Or.inl rfl)
      · have hk := ab_ifn hk hc
        refine ab_iconst (pc := 31) dX8_alike_31 ab_k_2 ?_
        obtain rfl := Option.some.inj hk
        exact ab_reti (pc := 32) dX8_alike_32 (Or.inl rfl)
    · have hk := ab_ifp hk hc
      refine ab_bipush (pc := 16) dX8_alike_16 ab_p8_m2 ab_k_m2 ?_
      obtain rfl := Option.some.inj hk
      exact ab_reti (pc := 18) dX8_alike_18 (Or.inl rfl)
theorem dX8_common_0 : decode cX8_common 0 = .ok (.aload_n 0, 1) := by decide +kernel
theorem dX8_common_1 : decode cX8_common 1 = .ok (.iload_n 1, 1) := by decide +kernel
theorem dX8_common_2 : decode cX8_common 2 = .ok (.invokevirtual 117, 3) := by decide +kernel
theorem dX8_common_5 : decode cX8_common 5 = .ok (.ifCond .eq 20, 3) := by decide +kernel
theorem dX8_common_8 : decode cX8_common 8 = .ok (.aload_n 0, 1) := by decide +kernel
theorem dX8_common_9 : decode cX8_common 9 = .ok (.iload_n 2, 1) := by decide +kernel
theorem dX8_common_10 : decode cX8_common 10 = .ok (.invokevirtual 117, 3) := by decide +kernel
theorem dX8_common_13 : decode cX8_common 13 = .ok (.ifCond .eq 12, 3) := by decide +kernel
theorem dX8_common_16 : decode cX8_common 16 = .ok (.iload_n 3, 1) := by decide +kernel
theorem dX8_common_17 : decode cX8_common 17 = .ok (.ifCond .lt 8, 3) := by decide +kernel
theorem dX8_common_20 : decode cX8_common 20 = .ok (.iload_n 3, 1) := by decide +kernel
theorem dX8_common_21 : decode cX8_common 21 = .ok (.iconst 1, 1) := by decide +kernel
theorem dX8_common_22 : decode cX8_common 22 = .ok (.if_icmp .le 6, 3) := by decide +kernel
theorem dX8_common_25 : decode cX8_common 25 = .ok (.bipush (-2), 2) := by decide +kernel
theorem dX8_common_27 : decode cX8_common 27 = .ok (.ireturn, 1) := by decide +kernel
theorem dX8_common_28 : decode cX8_common 28 = .ok (.aload_n 0, 1) := by decide +kernel
theorem dX8_common_29 : decode cX8_common 29 = .ok (.getfield 58, 3) := by decide +kernel
theorem dX8_common_32 : decode cX8_common 32 = .ok (.iload_n 1, 1) := by decide +kernel
theorem dX8_common_33 : decode cX8_common 33 = .ok (.iload_n 2, 1) := by decide +kernel
theorem dX8_common_34 : decode cX8_common 34 = .ok (.invokevirtual 321, 3) := by decide +kernel
theorem dX8_common_37 : decode cX8_common 37 = .ok (.istore 4, 2) := by decide +kernel
theorem dX8_common_39 : decode cX8_common 39 = .ok (.iload_n 3, 1) := by decide +kernel
theorem dX8_common_40 : decode cX8_common 40 = .ok (.ifCond .ne 8, 3) := by decide +kernel
theorem dX8_common_43 : decode cX8_common 43 = .ok (.iload 4, 2) := by decide +kernel
theorem dX8_common_45 : decode cX8_common 45 = .ok (.goto 23, 3) := by decide +kernel
theorem dX8_common_48 : decode cX8_common 48 = .ok (.aload_n 0, 1) := by decide +kernel
theorem dX8_common_49 : decode cX8_common 49 = .ok (.getfield 58, 3) := by decide +kernel
theorem dX8_common_52 : decode cX8_common 52 = .ok (.iload_n 1, 1) := by decide +kernel
theorem dX8_common_53 : decode cX8_common 53 = .ok (.invokevirtual 324, 3) := by decide +kernel
theorem dX8_common_56 : decode cX8_common 56 = .ok (.aload_n 0, 1) := by decide +kernel
theorem dX8_common_57 : decode cX8_common 57 = .ok (.getfield 58, 3) := by decide +kernel
theorem dX8_common_60 : decode cX8_common 60 = .ok (.iload_n 2, 1) := by decide +kernel
theorem dX8_common_61 : decode cX8_common 61 = .ok (.invokevirtual 324, 3) := by decide +kernel
theorem dX8_common_64 : decode cX8_common 64 = .ok (.iadd, 1) := by decide +kernel
theorem dX8_common_65 : decode cX8_common 65 = .ok (.iload 4, 2) := by decide +kernel
theorem dX8_common_67 : decode cX8_common 67 = .ok (.isub, 1) := by decide +kernel
theorem dX8_common_68 : decode cX8_common 68 = .ok (.ireturn, 1) := by decide +kernel
abbrev mm_X8_common : ab_M := (RX8, 5, (some .int), false, 3, 72, none)
noncomputable def f_X8_common (a0 : Int) (a1 : Int) (a2 : Int) (a3 : Int) (h : ab_H) : Option (Int × ab_H) :=
  (ab_on h 9 a0 (f_X8_isString a0 a1 h)).bind fun q1 =>
  if q1.1 = (0 : Int) then
    some ((-2 : Int), q1.2)
  else
  (ab_on q1.2 9 a0 (f_X8_isString a0 a2 q1.2)).bind fun q2 =>
  if q2.1 = (0 : Int) then
    some ((-2 : Int), q2.2)
  else
  if a3 < (0 : Int) then
    some ((-2 : Int), q2.2)
  else
  if a3 ≤ (1 : Int) then
    (ab_get q2.2 9 8 a0).bind fun t3 =>
    (ab_on q2.2 6 t3 (f_X5_inBoth t3 a1 a2 q2.2)).bind fun q4 =>
    if a3 = (0 : Int) then
      some (q4.1, q4.2)
    else
    (ab_get q4.2 9 8 a0).bind fun t5 =>
    (ab_on q4.2 6 t5 (f_X5_senseSize t5 a1 q4.2)).bind fun q6 =>
    (ab_get q6.2 9 8 a0).bind fun t7 =>
    (ab_on q6.2 6 t7 (f_X5_senseSize t7 a2 q6.2)).bind fun q8 =>
    some (ab_w32 ((ab_w32 (q6.1 + q8.1)) - q4.1), q8.2)
  else
  some ((-2 : Int), q2.2)
set_option maxRecDepth 20000 in
theorem ct_X8_common {a0 a1 a2 a3 : Int} {h : ab_H} {q : Int × ab_H} (hk : f_X8_common a0 a1 a2 a3 h = some q) : ab_CT yX8_common cX8_common 5 (some .int) 3 72 [ab_R a0, ab_I a1, ab_I a2, ab_I a3] h (some (ab_I q.1)) q.2 := by
  refine ab_CT.mk_ 1 (own := RX8) (ini := false) (lv := [some (ab_R a0), some (ab_I a1), some (ab_I a2), some (ab_I a3), none]) rfl (by decide +kernel) (fun q => by cases q) rfl rfl ?_
  unfold f_X8_common at hk
  show ab_E mm_X8_common cX8_common 0 _ [] h _ _
  refine ab_aload_n (pc := 0) (i := 0) dX8_common_0 rfl rfl ?_
  refine ab_iload_n (pc := 1) (i := 1) dX8_common_1 rfl rfl ?_
  obtain ⟨q1, hq1, hk⟩ := ab_bnd hk
  obtain ⟨hb, hq1⟩ := ab_on_some hq1
  refine ab_callVI (st := []) (as := [ab_I a1]) (b := a0) (pc := 2) dX8_common_2 ml_RX8_117 my_X8_isString mv_X8_isString hb (ct_X8_isString hq1) ⟨Nat.le_of_ble_eq_true rfl, Nat.le_of_ble_eq_true rfl⟩ rfl (Nat.le_of_ble_eq_true rfl) rfl ?_
  refine ab_if_eq (pc := 5) (tgt := 25) dX8_common_5 rfl (fun hc => ?_) (fun hc => ?_)
  · have hk := ab_ifp hk hc
    refine ab_bipush (pc := 25) dX8_common_25 ab_p8_m2 ab_k_m2 ?_
    obtain rfl := Option.some.inj hk
    exact ab_reti (pc := 27) dX8_common_27 (Or.inl rfl)
  · have hk := ab_ifn hk hc
    refine ab_aload_n (pc := 8) (i := 0) dX8_common_8 rfl rfl ?_
    refine ab_iload_n (pc := 9) (i := 2) dX8_common_9 rfl rfl ?_
    obtain ⟨q2, hq2, hk⟩ := ab_bnd hk
    obtain ⟨hb, hq2⟩ := ab_on_some hq2
    refine ab_callVI (st := []) (as := [ab_I a2]) (b := a0) (pc := 10) dX8_common_10 ml_RX8_117 my_X8_isString mv_X8_isString hb (ct_X8_isString hq2) ⟨Nat.le_of_ble_eq_true rfl, Nat.le_of_ble_eq_true rfl⟩ rfl (Nat.le_of_ble_eq_true rfl) rfl ?_
    refine ab_if_eq (pc := 13) (tgt := 25) dX8_common_13 rfl (fun hc => ?_) (fun hc => ?_)
    · have hk := ab_ifp hk hc
      refine ab_bipush (pc := 25) dX8_common_25 ab_p8_m2 ab_k_m2 ?_
      obtain rfl := Option.some.inj hk
      exact ab_reti (pc := 27) dX8_common_27 (Or.inl rfl)
    · have hk := ab_ifn hk hc
      refine ab_iload_n (pc := 16) (i := 3) dX8_common_16 rfl rfl ?_
      refine ab_if_lt (pc := 17) (tgt := 25) dX8_common_17 rfl (fun hc => ?_) (fun hc => ?_)
      · have hk := ab_ifp hk hc
        refine ab_bipush (pc := 25) dX8_common_25 ab_p8_m2 ab_k_m2 ?_
        obtain rfl := Option.some.inj hk
        exact ab_reti (pc := 27) dX8_common_27 (Or.inl rfl)
      · have hk := ab_ifn hk hc
        refine ab_iload_n (pc := 20) (i := 3) dX8_common_20 rfl rfl ?_
        refine ab_iconst (pc := 21) dX8_common_21 ab_k_1 ?_
        refine ab_icmp_le (pc := 22) (tgt := 28) dX8_common_22 rfl (fun hc => ?_) (fun hc => ?_)
        · have hk := ab_ifp hk hc
          refine ab_aload_n (pc := 28) (i := 0) dX8_common_28 rfl rfl ?_
          obtain ⟨t3, ht3, hk⟩ := ab_bnd hk
          refine ab_getR (pc := 29) dX8_common_29 fl_RX8_58 ht3 ?_
          refine ab_iload_n (pc := 32) (i := 1) dX8_common_32 rfl rfl ?_
          refine ab_iload_n (pc := 33) (i := 2) dX8_common_33 rfl rfl ?_
          obtain ⟨q4, hq4, hk⟩ := ab_bnd hk
          obtain ⟨hb, hq4⟩ := ab_on_some hq4
          refine ab_callVI (st := []) (as := [ab_I a1, ab_I a2]) (b := t3) (pc := 34) dX8_common_34 ml_RX8_321 my_X5_inBoth mv_X5_inBoth hb (ct_X5_inBoth hq4) ⟨Nat.le_of_ble_eq_true rfl, Nat.le_of_ble_eq_true rfl⟩ rfl (Nat.le_of_ble_eq_true rfl) rfl ?_
          refine ab_istore (pc := 37) (i := 4) (lv2 := [some (ab_R a0), some (ab_I a1), some (ab_I a2), some (ab_I a3), some (ab_I q4.1)]) dX8_common_37 (Nat.le_of_ble_eq_true rfl) rfl rfl ?_
          refine ab_iload_n (pc := 39) (i := 3) dX8_common_39 rfl rfl ?_
          refine ab_if_ne (pc := 40) (tgt := 48) dX8_common_40 rfl (fun hc => ?_) (fun hc => ?_)
          · have hk := ab_ifn hk hc
            refine ab_aload_n (pc := 48) (i := 0) dX8_common_48 rfl rfl ?_
            obtain ⟨t5, ht5, hk⟩ := ab_bnd hk
            refine ab_getR (pc := 49) dX8_common_49 fl_RX8_58 ht5 ?_
            refine ab_iload_n (pc := 52) (i := 1) dX8_common_52 rfl rfl ?_
            obtain ⟨q6, hq6, hk⟩ := ab_bnd hk
            obtain ⟨hb, hq6⟩ := ab_on_some hq6
            refine ab_callVI (st := []) (as := [ab_I a1]) (b := t5) (pc := 53) dX8_common_53 ml_RX8_324 my_X5_senseSize mv_X5_senseSize hb (ct_X5_senseSize hq6) ⟨Nat.le_of_ble_eq_true rfl, Nat.le_of_ble_eq_true rfl⟩ rfl (Nat.le_of_ble_eq_true rfl) rfl ?_
            refine ab_aload_n (pc := 56) (i := 0) dX8_common_56 rfl rfl ?_
            obtain ⟨t7, ht7, hk⟩ := ab_bnd hk
            refine ab_getR (pc := 57) dX8_common_57 fl_RX8_58 ht7 ?_
            refine ab_iload_n (pc := 60) (i := 2) dX8_common_60 rfl rfl ?_
            obtain ⟨q8, hq8, hk⟩ := ab_bnd hk
            obtain ⟨hb, hq8⟩ := ab_on_some hq8
            refine ab_callVI (st := [ab_I q6.1]) (as := [ab_I a2]) (b := t7) (pc := 61) dX8_common_61 ml_RX8_324 my_X5_senseSize mv_X5_senseSize hb (ct_X5_senseSize hq8) ⟨Nat.le_of_ble_eq_true rfl, Nat.le_of_ble_eq_true rfl⟩ rfl (Nat.le_of_ble_eq_true rfl) rfl ?_
            refine ab_iadd (pc := 64) dX8_common_64 ?_
            refine ab_iload (pc := 65) (i := 4) dX8_common_65 rfl ?_
            refine ab_isub (pc := 67) dX8_common_67 ?_
            obtain rfl := Option.some.inj hk
            exact ab_reti (pc := 68) dX8_common_68 (Or.inl rfl)
          · have hk := ab_ifp hk hc
            refine ab_iload (pc := 43) (i := 4) dX8_common_43 rfl ?_
            refine ab_goto (pc := 45) (tgt := 68) dX8_common_45 rfl ?_
            obtain rfl := Option.some.inj hk
            exact ab_reti (pc := 68) dX8_common_68 (Or.inl rfl)
        · have hk := ab_ifn hk hc
          refine ab_bipush (pc := 25) dX8_common_25 ab_p8_m2 ab_k_m2 ?_
          obtain rfl := Option.some.inj hk
          exact ab_reti (pc := 27) dX8_common_27 (Or.inl rfl)
theorem dX8_nearest_0 : decode cX8_nearest 0 = .ok (.aload_n 0, 1) := by decide +kernel
theorem dX8_nearest_1 : decode cX8_nearest 1 = .ok (.iload_n 1, 1) := by decide +kernel
theorem dX8_nearest_2 : decode cX8_nearest 2 = .ok (.invokevirtual 117, 3) := by decide +kernel
theorem dX8_nearest_5 : decode cX8_nearest 5 = .ok (.ifCond .ne 6, 3) := by decide +kernel
theorem dX8_nearest_8 : decode cX8_nearest 8 = .ok (.bipush (-2), 2) := by decide +kernel
theorem dX8_nearest_10 : decode cX8_nearest 10 = .ok (.ireturn, 1) := by decide +kernel
theorem dX8_nearest_11 : decode cX8_nearest 11 = .ok (.iconst (-1), 1) := by decide +kernel
theorem dX8_nearest_12 : decode cX8_nearest 12 = .ok (.istore_n 2, 1) := by decide +kernel
theorem dX8_nearest_13 : decode cX8_nearest 13 = .ok (.iconst 0, 1) := by decide +kernel
theorem dX8_nearest_14 : decode cX8_nearest 14 = .ok (.istore_n 3, 1) := by decide +kernel
theorem dX8_nearest_15 : decode cX8_nearest 15 = .ok (.iconst 0, 1) := by decide +kernel
theorem dX8_nearest_16 : decode cX8_nearest 16 = .ok (.istore 4, 2) := by decide +kernel
theorem dX8_nearest_18 : decode cX8_nearest 18 = .ok (.iload 4, 2) := by decide +kernel
theorem dX8_nearest_20 : decode cX8_nearest 20 = .ok (.aload_n 0, 1) := by decide +kernel
theorem dX8_nearest_21 : decode cX8_nearest 21 = .ok (.getfield 34, 3) := by decide +kernel
theorem dX8_nearest_24 : decode cX8_nearest 24 = .ok (.getfield 102, 3) := by decide +kernel
theorem dX8_nearest_27 : decode cX8_nearest 27 = .ok (.if_icmp .ge 43, 3) := by decide +kernel
theorem dX8_nearest_30 : decode cX8_nearest 30 = .ok (.iload 4, 2) := by decide +kernel
theorem dX8_nearest_32 : decode cX8_nearest 32 = .ok (.iload_n 1, 1) := by decide +kernel
theorem dX8_nearest_33 : decode cX8_nearest 33 = .ok (.if_icmp .ne 7, 3) := by decide +kernel
theorem dX8_nearest_36 : decode cX8_nearest 36 = .ok (.iconst 0, 1) := by decide +kernel
theorem dX8_nearest_37 : decode cX8_nearest 37 = .ok (.goto 13, 3) := by decide +kernel
theorem dX8_nearest_40 : decode cX8_nearest 40 = .ok (.aload_n 0, 1) := by decide +kernel
theorem dX8_nearest_41 : decode cX8_nearest 41 = .ok (.getfield 58, 3) := by decide +kernel
theorem dX8_nearest_44 : decode cX8_nearest 44 = .ok (.iload_n 1, 1) := by decide +kernel
theorem dX8_nearest_45 : decode cX8_nearest 45 = .ok (.iload 4, 2) := by decide +kernel
theorem dX8_nearest_47 : decode cX8_nearest 47 = .ok (.invokevirtual 321, 3) := by decide +kernel
theorem dX8_nearest_50 : decode cX8_nearest 50 = .ok (.istore 5, 2) := by decide +kernel
theorem dX8_nearest_52 : decode cX8_nearest 52 = .ok (.iload 5, 2) := by decide +kernel
theorem dX8_nearest_54 : decode cX8_nearest 54 = .ok (.iload_n 3, 1) := by decide +kernel
theorem dX8_nearest_55 : decode cX8_nearest 55 = .ok (.if_icmp .le 9, 3) := by decide +kernel
theorem dX8_nearest_58 : decode cX8_nearest 58 = .ok (.iload 5, 2) := by decide +kernel
theorem dX8_nearest_60 : decode cX8_nearest 60 = .ok (.istore_n 3, 1) := by decide +kernel
theorem dX8_nearest_61 : decode cX8_nearest 61 = .ok (.iload 4, 2) := by decide +kernel
theorem dX8_nearest_63 : decode cX8_nearest 63 = .ok (.istore_n 2, 1) := by decide +kernel
theorem dX8_nearest_64 : decode cX8_nearest 64 = .ok (.iinc 4 1, 3) := by decide +kernel
theorem dX8_nearest_67 : decode cX8_nearest 67 = .ok (.goto (-49), 3) := by decide +kernel
theorem dX8_nearest_70 : decode cX8_nearest 70 = .ok (.iload_n 2, 1) := by decide +kernel
theorem dX8_nearest_71 : decode cX8_nearest 71 = .ok (.ireturn, 1) := by decide +kernel
abbrev mm_X8_nearest : ab_M := (RX8, 6, (some .int), false, 3, 72, none)
noncomputable def f_X8_nearest_J64 (rec : Int → Int → Int → Int → Int → ab_H → Option (Int × ab_H)) (v0 : Int) (v1 : Int) (v2 : Int) (v3 : Int) (v4 : Int) (h : ab_H) : Option (Int × ab_H) :=
  rec v0 v1 v2 v3 (ab_w32 (v4 + (1 : Int))) h
set_option maxRecDepth 20000 in
theorem e_X8_nearest_J64 {rec : Int → Int → Int → Int → Int → ab_H → Option (Int × ab_H)} (hrec : ∀ (v0 : Int) (v1 : Int) (v2 : Int) (v3 : Int) (v4 : Int) (h : ab_H) (q : Int × ab_H), rec v0 v1 v2 v3 v4 h = some q → ab_E mm_X8_nearest cX8_nearest 18 [some (ab_R v0), some (ab_I v1), some (ab_I v2), some (ab_I v3), some (ab_I v4), none] [] h (some (ab_I q.1)) q.2) : ∀ (v0 : Int) (v1 : Int) (v2 : Int) (v3 : Int) (v4 : Int) (h : ab_H) (q : Int × ab_H), f_X8_nearest_J64 rec v0 v1 v2 v3 v4 h = some q → ab_E mm_X8_nearest cX8_nearest 64 [some (ab_R v0), some (ab_I v1), some (ab_I v2), some (ab_I v3), some (ab_I v4), none] [] h (some (ab_I q.1)) q.2 := by
  intro v0 v1 v2 v3 v4 h q hk
  unfold f_X8_nearest_J64 at hk
  refine ab_iinc (pc := 64) (i := 4) (lv2 := [some (ab_R v0), some (ab_I v1), some (ab_I v2), some (ab_I v3), some (ab_I (ab_w32 (v4 + (1 : Int)))), none]) dX8_nearest_64 rfl (Nat.le_of_ble_eq_true rfl) rfl rfl ?_
  refine ab_goto (pc := 67) (tgt := 18) dX8_nearest_67 rfl ?_
  refine ab_sub_ (lv2 := [some (ab_R v0), some (ab_I v1), some (ab_I v2), some (ab_I v3), some (ab_I (ab_w32 (v4 + (1 : Int)))), none]) (ab_ss (ab_ss (ab_ss (ab_ss (ab_ss (ab_sn ab_s0)))))) ?_
  exact hrec _ _ _ _ _ _ _ hk
noncomputable def f_X8_nearest_J50 (rec : Int → Int → Int → Int → Int → ab_H → Option (Int × ab_H)) (v0 : Int) (v1 : Int) (v2 : Int) (v3 : Int) (v4 : Int) (s0 : Int) (h : ab_H) : Option (Int × ab_H) :=
  if s0 ≤ v3 then
    f_X8_nearest_J64 rec v0 v1 v2 v3 v4 h
  else
  f_X8_nearest_J64 rec v0 v1 v4 s0 v4 h
set_option maxRecDepth 20000 in
theorem e_X8_nearest_J50 {rec : Int → Int → Int → Int → Int → ab_H → Option (Int × ab_H)} (hrec : ∀ (v0 : Int) (v1 : Int) (v2 : Int) (v3 : Int) (v4 : Int) (h : ab_H) (q : Int × ab_H), rec v0 v1 v2 v3 v4 h = some q → ab_E mm_X8_nearest cX8_nearest 18 [some (ab_R v0), some (ab_I v1), some (ab_I v2), some (ab_I v3), some (ab_I v4), none] [] h (some (ab_I q.1)) q.2) : ∀ (v0 : Int) (v1 : Int) (v2 : Int) (v3 : Int) (v4 : Int) (s0 : Int) (h : ab_H) (q : Int × ab_H), f_X8_nearest_J50 rec v0 v1 v2 v3 v4 s0 h = some q → ab_E mm_X8_nearest cX8_nearest 50 [some (ab_R v0), some (ab_I v1), some (ab_I v2), some (ab_I v3), some (ab_I v4), none] [ab_I s0] h (some (ab_I q.1)) q.2 := by
  intro v0 v1 v2 v3 v4 s0 h q hk
  unfold f_X8_nearest_J50 at hk
  refine ab_istore (pc := 50) (i := 5) (lv2 := [some (ab_R v0), some (ab_I v1), some (ab_I v2), some (ab_I v3), some (ab_I v4), some (ab_I s0)]) dX8_nearest_50 (Nat.le_of_ble_eq_true rfl) rfl rfl ?_
  refine ab_iload (pc := 52) (i := 5) dX8_nearest_52 rfl ?_
  refine ab_iload_n (pc := 54) (i := 3) dX8_nearest_54 rfl rfl ?_
  refine ab_icmp_le (pc := 55) (tgt := 64) dX8_nearest_55 rfl (fun hc => ?_) (fun hc => ?_)
  · have hk := ab_ifp hk hc
    refine ab_sub_ (lv2 := [some (ab_R v0), some (ab_I v1), some (ab_I v2), some (ab_I v3), some (ab_I v4), none]) (ab_ss (ab_ss (ab_ss (ab_ss (ab_ss (ab_sn ab_s0)))))) ?_
    exact e_X8_nearest_J64 hrec _ _ _ _ _ _ _ hk
  · have hk := ab_ifn hk hc
    refine ab_iload (pc := 58) (i := 5) dX8_nearest_58 rfl ?_
    refine ab_istore_n (pc := 60) (i := 3) (lv2 := [some (ab_R v0), some (ab_I v1), some (ab_I v2), some (ab_I s0), some (ab_I v4), some (ab_I s0)]) dX8_nearest_60 rfl (Nat.le_of_ble_eq_true rfl) rfl rfl ?_
    refine ab_iload (pc := 61) (i := 4) dX8_nearest_61 rfl ?_
    refine ab_istore_n (pc := 63) (i := 2) (lv2 := [some (ab_R v0), some (ab_I v1), some (ab_I v4), some (ab_I s0), some (ab_I v4), some (ab_I s0)]) dX8_nearest_63 rfl (Nat.le_of_ble_eq_true rfl) rfl rfl ?_
    refine ab_sub_ (lv2 := [some (ab_R v0), some (ab_I v1), some (ab_I v4), some (ab_I s0), some (ab_I v4), none]) (ab_ss (ab_ss (ab_ss (ab_ss (ab_ss (ab_sn ab_s0)))))) ?_
    exact e_X8_nearest_J64 hrec _ _ _ _ _ _ _ hk
noncomputable def f_X8_nearest_L18 : Nat → Int → Int → Int → Int → Int → ab_H → Option (Int × ab_H)
  | 0, _, _, _, _, _, _ => none
  | n + 1, v0, v1, v2, v3, v4, h =>
    (ab_get h 9 4 v0).bind fun t1 =>
    (ab_get h 1 0 t1).bind fun t2 =>
    if t2 ≤ v4 then
      some (v2, h)
    else
    if v4 = v1 then
      f_X8_nearest_J50 (f_X8_nearest_L18 n) v0 v1 v2 v3 v4 (0 : Int) h
    else
    (ab_get h 9 8 v0).bind fun t3 =>
    (ab_on h 6 t3 (f_X5_inBoth t3 v1 v4 h)).bind fun q4 =>
    f_X8_nearest_J50 (f_X8_nearest_L18 n) v0 v1 v2 v3 v4 q4.1 q4.2
set_option maxRecDepth 20000 in
theorem e_X8_nearest_L18 : ∀ (n : Nat) (v0 : Int) (v1 : Int) (v2 : Int) (v3 : Int) (v4 : Int) (h : ab_H) (q : Int × ab_H), f_X8_nearest_L18 n v0 v1 v2 v3 v4 h = some q → ab_E mm_X8_nearest cX8_nearest 18 [some (ab_R v0), some (ab_I v1), some (ab_I v2), some (ab_I v3), some (ab_I v4), none] [] h (some (ab_I q.1)) q.2 := by
  intro n
  induction n with
  | zero => intro v0 v1 v2 v3 v4 h q hk; cases hk
  | succ n ih =>
    intro v0 v1 v2 v3 v4 h q hk
    unfold f_X8_nearest_L18 at hk
    refine ab_iload (pc := 18) (i := 4) dX8_nearest_18 rfl ?_
    refine ab_aload_n (pc := 20) (i := 0) dX8_nearest_20 rfl rfl ?_
    obtain ⟨t1, ht1, hk⟩ := ab_bnd hk
    refine ab_getR (pc := 21) dX8_nearest_21 fl_RX8_34 ht1 ?_
    obtain ⟨t2, ht2, hk⟩ := ab_bnd hk
    refine ab_getI (pc := 24) dX8_nearest_24 fl_RX8_102 ht2 ?_
    refine ab_icmp_ge (pc := 27) (tgt := 70) dX8_nearest_27 rfl (fun hc => ?_) (fun hc => ?_)
    · have hk := ab_ifp hk hc
      refine ab_iload_n (pc := 70) (i := 2) dX8_nearest_70 rfl rfl ?_
      obtain rfl := Option.some.inj hk
      exact ab_reti (pc := 71) dX8_nearest_71 (Or.inl rfl)
    · have hk := ab_ifn hk hc
      refine ab_iload (pc := 30) (i := 4) dX8_nearest_30 rfl ?_
      refine ab_iload_n (pc := 32) (i := 1) dX8_nearest_32 rfl rfl ?_
      refine ab_icmp_ne (pc := 33) (tgt := 40) dX8_nearest_33 rfl (fun hc => ?_) (fun hc => ?_)
      · have hk := ab_ifn hk hc
        refine ab_aload_n (pc := 40) (i := 0) dX8_nearest_40 rfl rfl ?_
        obtain ⟨t3, ht3, hk⟩ := ab_bnd hk
        refine ab_getR (pc := 41) dX8_nearest_41 fl_RX8_58 ht3 ?_
        refine ab_iload_n (pc := 44) (i := 1) dX8_nearest_44 rfl rfl ?_
        refine ab_iload (pc := 45) (i := 4) dX8_nearest_45 rfl ?_
        obtain ⟨q4, hq4, hk⟩ := ab_bnd hk
        obtain ⟨hb, hq4⟩ := ab_on_some hq4
        refine ab_callVI (st := []) (as := [ab_I v1, ab_I v4]) (b := t3) (pc := 47) dX8_nearest_47 ml_RX8_321 my_X5_inBoth mv_X5_inBoth hb (ct_X5_inBoth hq4) ⟨Nat.le_of_ble_eq_true rfl, Nat.le_of_ble_eq_true rfl⟩ rfl (Nat.le_of_ble_eq_true rfl) rfl ?_
        refine ab_sub_ (lv2 := [some (ab_R v0), some (ab_I v1), some (ab_I v2), some (ab_I v3), some (ab_I v4), none]) (ab_ss (ab_ss (ab_ss (ab_ss (ab_ss (ab_sn ab_s0)))))) ?_
        exact e_X8_nearest_J50 ih _ _ _ _ _ _ _ _ hk
      · have hk := ab_ifp hk hc
        refine ab_iconst (pc := 36) dX8_nearest_36 ab_k_0 ?_
        refine ab_goto (pc := 37) (tgt := 50) dX8_nearest_37 rfl ?_
        refine ab_sub_ (lv2 := [some (ab_R v0), some (ab_I v1), some (ab_I v2), some (ab_I v3), some (ab_I v4), none]) (ab_ss (ab_ss (ab_ss (ab_ss (ab_ss (ab_sn ab_s0)))))) ?_
        exact e_X8_nearest_J50 ih _ _ _ _ _ _ _ _ hk
noncomputable def f_X8_nearest (a0 : Int) (a1 : Int) (h : ab_H) : Option (Int × ab_H) :=
  (ab_on h 9 a0 (f_X8_isString a0 a1 h)).bind fun q1 =>
  if q1.1 = (0 : Int) then
    some ((-2 : Int), q1.2)
  else
  f_X8_nearest_L18 ab_FU a0 a1 (-1 : Int) (0 : Int) (0 : Int) q1.2
set_option maxRecDepth 20000 in
theorem ct_X8_nearest {a0 a1 : Int} {h : ab_H} {q : Int × ab_H} (hk : f_X8_nearest a0 a1 h = some q) : ab_CT yX8_nearest cX8_nearest 6 (some .int) 3 72 [ab_R a0, ab_I a1] h (some (ab_I q.1)) q.2 := by
  refine ab_CT.mk_ 4 (own := RX8) (ini := false) (lv := [some (ab_R a0), some (ab_I a1), none, none, none, none]) rfl (by decide +kernel) (fun q => by cases q) rfl rfl ?_
  unfold f_X8_nearest at hk
  show ab_E mm_X8_nearest cX8_nearest 0 _ [] h _ _
  refine ab_aload_n (pc := 0) (i := 0) dX8_nearest_0 rfl rfl ?_
  refine ab_iload_n (pc := 1) (i := 1) dX8_nearest_1 rfl rfl ?_
  obtain ⟨q1, hq1, hk⟩ := ab_bnd hk
  obtain ⟨hb, hq1⟩ := ab_on_some hq1
  refine ab_callVI (st := []) (as := [ab_I a1]) (b := a0) (pc := 2) dX8_nearest_2 ml_RX8_117 my_X8_isString mv_X8_isString hb (ct_X8_isString hq1) ⟨Nat.le_of_ble_eq_true rfl, Nat.le_of_ble_eq_true rfl⟩ rfl (Nat.le_of_ble_eq_true rfl) rfl ?_
  refine ab_if_ne (pc := 5) (tgt := 11) dX8_nearest_5 rfl (fun hc => ?_) (fun hc => ?_)
  · have hk := ab_ifn hk hc
    refine ab_iconst (pc := 11) dX8_nearest_11 ab_k_m1 ?_
    refine ab_istore_n (pc := 12) (i := 2) (lv2 := [some (ab_R a0), some (ab_I a1), some (ab_I (-1 : Int)), none, none, none]) dX8_nearest_12 rfl (Nat.le_of_ble_eq_true rfl) rfl rfl ?_
    refine ab_iconst (pc := 13) dX8_nearest_13 ab_k_0 ?_
    refine ab_istore_n (pc := 14) (i := 3) (lv2 := [some (ab_R a0), some (ab_I a1), some (ab_I (-1 : Int)), some (ab_I (0 : Int)), none, none]) dX8_nearest_14 rfl (Nat.le_of_ble_eq_true rfl) rfl rfl ?_
    refine ab_iconst (pc := 15) dX8_nearest_15 ab_k_0 ?_
    refine ab_istore (pc := 16) (i := 4) (lv2 := [some (ab_R a0), some (ab_I a1), some (ab_I (-1 : Int)), some (ab_I (0 : Int)), some (ab_I (0 : Int)), none]) dX8_nearest_16 (Nat.le_of_ble_eq_true rfl) rfl rfl ?_
    refine ab_sub_ (lv2 := [some (ab_R a0), some (ab_I a1), some (ab_I (-1 : Int)), some (ab_I (0 : Int)), some (ab_I (0 : Int)), none]) (ab_ss (ab_ss (ab_ss (ab_ss (ab_ss (ab_sn ab_s0)))))) ?_
    refine e_X8_nearest_L18 _ _ _ _ _ _ _ _ hk
  · have hk := ab_ifp hk hc
    refine ab_bipush (pc := 8) dX8_nearest_8 ab_p8_m2 ab_k_m2 ?_
    obtain rfl := Option.some.inj hk
    exact ab_reti (pc := 10) dX8_nearest_10 (Or.inl rfl)
theorem dX8_senses_0 : decode cX8_senses 0 = .ok (.iconst 0, 1) := by decide +kernel
theorem dX8_senses_1 : decode cX8_senses 1 = .ok (.istore_n 1, 1) := by decide +kernel
theorem dX8_senses_2 : decode cX8_senses 2 = .ok (.iconst 0, 1) := by decide +kernel
theorem dX8_senses_3 : decode cX8_senses 3 = .ok (.istore_n 2, 1) := by decide +kernel
theorem dX8_senses_4 : decode cX8_senses 4 = .ok (.iload_n 2, 1) := by decide +kernel
theorem dX8_senses_5 : decode cX8_senses 5 = .ok (.aload_n 0, 1) := by decide +kernel
theorem dX8_senses_6 : decode cX8_senses 6 = .ok (.getfield 34, 3) := by decide +kernel
theorem dX8_senses_9 : decode cX8_senses 9 = .ok (.getfield 102, 3) := by decide +kernel
theorem dX8_senses_12 : decode cX8_senses 12 = .ok (.if_icmp .ge 23, 3) := by decide +kernel
theorem dX8_senses_15 : decode cX8_senses 15 = .ok (.aload_n 0, 1) := by decide +kernel
theorem dX8_senses_16 : decode cX8_senses 16 = .ok (.getfield 58, 3) := by decide +kernel
theorem dX8_senses_19 : decode cX8_senses 19 = .ok (.iload_n 2, 1) := by decide +kernel
theorem dX8_senses_20 : decode cX8_senses 20 = .ok (.invokevirtual 327, 3) := by decide +kernel
theorem dX8_senses_23 : decode cX8_senses 23 = .ok (.ifCond .eq 6, 3) := by decide +kernel
theorem dX8_senses_26 : decode cX8_senses 26 = .ok (.iinc 1 1, 3) := by decide +kernel
theorem dX8_senses_29 : decode cX8_senses 29 = .ok (.iinc 2 1, 3) := by decide +kernel
theorem dX8_senses_32 : decode cX8_senses 32 = .ok (.goto (-28), 3) := by decide +kernel
theorem dX8_senses_35 : decode cX8_senses 35 = .ok (.iload_n 1, 1) := by decide +kernel
theorem dX8_senses_36 : decode cX8_senses 36 = .ok (.ireturn, 1) := by decide +kernel
abbrev mm_X8_senses : ab_M := (RX8, 3, (some .int), false, 5, 117, none)
noncomputable def f_X8_senses_J29 (rec : Int → Int → Int → ab_H → Option (Int × ab_H)) (v0 : Int) (v1 : Int) (v2 : Int) (h : ab_H) : Option (Int × ab_H) :=
  rec v0 v1 (ab_w32 (v2 + (1 : Int))) h
set_option maxRecDepth 20000 in
theorem e_X8_senses_J29 {rec : Int → Int → Int → ab_H → Option (Int × ab_H)} (hrec : ∀ (v0 : Int) (v1 : Int) (v2 : Int) (h : ab_H) (q : Int × ab_H), rec v0 v1 v2 h = some q → ab_E mm_X8_senses cX8_senses 4 [some (ab_R v0), some (ab_I v1), some (ab_I v2)] [] h (some (ab_I q.1)) q.2) : ∀ (v0 : Int) (v1 : Int) (v2 : Int) (h : ab_H) (q : Int × ab_H), f_X8_senses_J29 rec v0 v1 v2 h = some q → ab_E mm_X8_senses cX8_senses 29 [some (ab_R v0), some (ab_I v1), some (ab_I v2)] [] h (some (ab_I q.1)) q.2 := by
  intro v0 v1 v2 h q hk
  unfold f_X8_senses_J29 at hk
  refine ab_iinc (pc := 29) (i := 2) (lv2 := [some (ab_R v0), some (ab_I v1), some (ab_I (ab_w32 (v2 + (1 : Int))))]) dX8_senses_29 rfl (Nat.le_of_ble_eq_true rfl) rfl rfl ?_
  refine ab_goto (pc := 32) (tgt := 4) dX8_senses_32 rfl ?_
  refine ab_sub_ (lv2 := [some (ab_R v0), some (ab_I v1), some (ab_I (ab_w32 (v2 + (1 : Int))))]) (ab_ss (ab_ss (ab_ss ab_s0))) ?_
  exact hrec _ _ _ _ _ hk
noncomputable def f_X8_senses_L4 : Nat → Int → Int → Int → ab_H → Option (Int × ab_H)
  | 0, _, _, _, _ => none
  | n + 1, v0, v1, v2, h =>
    (ab_get h 9 4 v0).bind fun t1 =>
    (ab_get h 1 0 t1).bind fun t2 =>
    if t2 ≤ v2 then
      some (v1, h)
    else
    (ab_get h 9 8 v0).bind fun t3 =>
    (ab_on h 6 t3 (f_X5_isFirstOfSense t3 v2 h)).bind fun q4 =>
    if q4.1 = (0 : Int) then
      f_X8_senses_J29 (f_X8_senses_L4 n) v0 v1 v2 q4.2
    else
    f_X8_senses_J29 (f_X8_senses_L4 n) v0 (ab_w32 (v1 + (1 : Int))) v2 q4.2
set_option maxRecDepth 20000 in
theorem e_X8_senses_L4 : ∀ (n : Nat) (v0 : Int) (v1 : Int) (v2 : Int) (h : ab_H) (q : Int × ab_H), f_X8_senses_L4 n v0 v1 v2 h = some q → ab_E mm_X8_senses cX8_senses 4 [some (ab_R v0), some (ab_I v1), some (ab_I v2)] [] h (some (ab_I q.1)) q.2 := by
  intro n
  induction n with
  | zero => intro v0 v1 v2 h q hk; cases hk
  | succ n ih =>
    intro v0 v1 v2 h q hk
    unfold f_X8_senses_L4 at hk
    refine ab_iload_n (pc := 4) (i := 2) dX8_senses_4 rfl rfl ?_
    refine ab_aload_n (pc := 5) (i := 0) dX8_senses_5 rfl rfl ?_
    obtain ⟨t1, ht1, hk⟩ := ab_bnd hk
    refine ab_getR (pc := 6) dX8_senses_6 fl_RX8_34 ht1 ?_
    obtain ⟨t2, ht2, hk⟩ := ab_bnd hk
    refine ab_getI (pc := 9) dX8_senses_9 fl_RX8_102 ht2 ?_
    refine ab_icmp_ge (pc := 12) (tgt := 35) dX8_senses_12 rfl (fun hc => ?_) (fun hc => ?_)
    · have hk := ab_ifp hk hc
      refine ab_iload_n (pc := 35) (i := 1) dX8_senses_35 rfl rfl ?_
      obtain rfl := Option.some.inj hk
      exact ab_reti (pc := 36) dX8_senses_36 (Or.inl rfl)
    · have hk := ab_ifn hk hc
      refine ab_aload_n (pc := 15) (i := 0) dX8_senses_15 rfl rfl ?_
      obtain ⟨t3, ht3, hk⟩ := ab_bnd hk
      refine ab_getR (pc := 16) dX8_senses_16 fl_RX8_58 ht3 ?_
      refine ab_iload_n (pc := 19) (i := 2) dX8_senses_19 rfl rfl ?_
      obtain ⟨q4, hq4, hk⟩ := ab_bnd hk
      obtain ⟨hb, hq4⟩ := ab_on_some hq4
      refine ab_callVI (st := []) (as := [ab_I v2]) (b := t3) (pc := 20) dX8_senses_20 ml_RX8_327 my_X5_isFirstOfSense mv_X5_isFirstOfSense hb (ct_X5_isFirstOfSense hq4) ⟨Nat.le_of_ble_eq_true rfl, Nat.le_of_ble_eq_true rfl⟩ rfl (Nat.le_of_ble_eq_true rfl) rfl ?_
      refine ab_if_eq (pc := 23) (tgt := 29) dX8_senses_23 rfl (fun hc => ?_) (fun hc => ?_)
      · have hk := ab_ifp hk hc
        refine ab_sub_ (lv2 := [some (ab_R v0), some (ab_I v1), some (ab_I v2)]) (ab_ss (ab_ss (ab_ss ab_s0))) ?_
        exact e_X8_senses_J29 ih _ _ _ _ _ hk
      · have hk := ab_ifn hk hc
        refine ab_iinc (pc := 26) (i := 1) (lv2 := [some (ab_R v0), some (ab_I (ab_w32 (v1 + (1 : Int)))), some (ab_I v2)]) dX8_senses_26 rfl (Nat.le_of_ble_eq_true rfl) rfl rfl ?_
        refine ab_sub_ (lv2 := [some (ab_R v0), some (ab_I (ab_w32 (v1 + (1 : Int)))), some (ab_I v2)]) (ab_ss (ab_ss (ab_ss ab_s0))) ?_
        exact e_X8_senses_J29 ih _ _ _ _ _ hk
noncomputable def f_X8_senses (a0 : Int) (h : ab_H) : Option (Int × ab_H) :=
  f_X8_senses_L4 ab_FU a0 (0 : Int) (0 : Int) h
set_option maxRecDepth 20000 in
theorem ct_X8_senses {a0 : Int} {h : ab_H} {q : Int × ab_H} (hk : f_X8_senses a0 h = some q) : ab_CT yX8_senses cX8_senses 3 (some .int) 5 117 [ab_R a0] h (some (ab_I q.1)) q.2 := by
  refine ab_CT.mk_ 2 (own := RX8) (ini := false) (lv := [some (ab_R a0), none, none]) rfl (by decide +kernel) (fun q => by cases q) rfl rfl ?_
  unfold f_X8_senses at hk
  show ab_E mm_X8_senses cX8_senses 0 _ [] h _ _
  refine ab_iconst (pc := 0) dX8_senses_0 ab_k_0 ?_
  refine ab_istore_n (pc := 1) (i := 1) (lv2 := [some (ab_R a0), some (ab_I (0 : Int)), none]) dX8_senses_1 rfl (Nat.le_of_ble_eq_true rfl) rfl rfl ?_
  refine ab_iconst (pc := 2) dX8_senses_2 ab_k_0 ?_
  refine ab_istore_n (pc := 3) (i := 2) (lv2 := [some (ab_R a0), some (ab_I (0 : Int)), some (ab_I (0 : Int))]) dX8_senses_3 rfl (Nat.le_of_ble_eq_true rfl) rfl rfl ?_
  refine ab_sub_ (lv2 := [some (ab_R a0), some (ab_I (0 : Int)), some (ab_I (0 : Int))]) (ab_ss (ab_ss (ab_ss ab_s0))) ?_
  refine e_X8_senses_L4 _ _ _ _ _ _ hk
theorem dX8_apart_0 : decode cX8_apart 0 = .ok (.aload_n 0, 1) := by decide +kernel
theorem dX8_apart_1 : decode cX8_apart 1 = .ok (.iload_n 1, 1) := by decide +kernel
theorem dX8_apart_2 : decode cX8_apart 2 = .ok (.invokevirtual 117, 3) := by decide +kernel
theorem dX8_apart_5 : decode cX8_apart 5 = .ok (.ifCond .ne 6, 3) := by decide +kernel
theorem dX8_apart_8 : decode cX8_apart 8 = .ok (.bipush (-2), 2) := by decide +kernel
theorem dX8_apart_10 : decode cX8_apart 10 = .ok (.ireturn, 1) := by decide +kernel
theorem dX8_apart_11 : decode cX8_apart 11 = .ok (.iconst (-1), 1) := by decide +kernel
theorem dX8_apart_12 : decode cX8_apart 12 = .ok (.istore_n 2, 1) := by decide +kernel
theorem dX8_apart_13 : decode cX8_apart 13 = .ok (.iconst 0, 1) := by decide +kernel
theorem dX8_apart_14 : decode cX8_apart 14 = .ok (.istore_n 3, 1) := by decide +kernel
theorem dX8_apart_15 : decode cX8_apart 15 = .ok (.iload_n 3, 1) := by decide +kernel
theorem dX8_apart_16 : decode cX8_apart 16 = .ok (.iconst 1, 1) := by decide +kernel
theorem dX8_apart_17 : decode cX8_apart 17 = .ok (.aload_n 0, 1) := by decide +kernel
theorem dX8_apart_18 : decode cX8_apart 18 = .ok (.getfield 34, 3) := by decide +kernel
theorem dX8_apart_21 : decode cX8_apart 21 = .ok (.getfield 125, 3) := by decide +kernel
theorem dX8_apart_24 : decode cX8_apart 24 = .ok (.iload_n 1, 1) := by decide +kernel
theorem dX8_apart_25 : decode cX8_apart 25 = .ok (.iaload, 1) := by decide +kernel
theorem dX8_apart_26 : decode cX8_apart 26 = .ok (.ishl, 1) := by decide +kernel
theorem dX8_apart_27 : decode cX8_apart 27 = .ok (.if_icmp .ge 51, 3) := by decide +kernel
theorem dX8_apart_30 : decode cX8_apart 30 = .ok (.iload_n 2, 1) := by decide +kernel
theorem dX8_apart_31 : decode cX8_apart 31 = .ok (.iconst (-1), 1) := by decide +kernel
theorem dX8_apart_32 : decode cX8_apart 32 = .ok (.if_icmp .eq 14, 3) := by decide +kernel
theorem dX8_apart_35 : decode cX8_apart 35 = .ok (.iload_n 3, 1) := by decide +kernel
theorem dX8_apart_36 : decode cX8_apart 36 = .ok (.invokestatic 216, 3) := by decide +kernel
theorem dX8_apart_39 : decode cX8_apart 39 = .ok (.iload_n 2, 1) := by decide +kernel
theorem dX8_apart_40 : decode cX8_apart 40 = .ok (.invokestatic 216, 3) := by decide +kernel
theorem dX8_apart_43 : decode cX8_apart 43 = .ok (.if_icmp .ge 7, 3) := by decide +kernel
theorem dX8_apart_46 : decode cX8_apart 46 = .ok (.iconst 1, 1) := by decide +kernel
theorem dX8_apart_47 : decode cX8_apart 47 = .ok (.goto 4, 3) := by decide +kernel
theorem dX8_apart_50 : decode cX8_apart 50 = .ok (.iconst 0, 1) := by decide +kernel
theorem dX8_apart_51 : decode cX8_apart 51 = .ok (.istore 4, 2) := by decide +kernel
theorem dX8_apart_53 : decode cX8_apart 53 = .ok (.iload 4, 2) := by decide +kernel
theorem dX8_apart_55 : decode cX8_apart 55 = .ok (.ifCond .eq 17, 3) := by decide +kernel
theorem dX8_apart_58 : decode cX8_apart 58 = .ok (.aload_n 0, 1) := by decide +kernel
theorem dX8_apart_59 : decode cX8_apart 59 = .ok (.iload_n 1, 1) := by decide +kernel
theorem dX8_apart_60 : decode cX8_apart 60 = .ok (.iload_n 3, 1) := by decide +kernel
theorem dX8_apart_61 : decode cX8_apart 61 = .ok (.invokevirtual 294, 3) := by decide +kernel
theorem dX8_apart_64 : decode cX8_apart 64 = .ok (.iconst 1, 1) := by decide +kernel
theorem dX8_apart_65 : decode cX8_apart 65 = .ok (.iload_n 1, 1) := by decide +kernel
theorem dX8_apart_66 : decode cX8_apart 66 = .ok (.ishl, 1) := by decide +kernel
theorem dX8_apart_67 : decode cX8_apart 67 = .ok (.if_icmp .ne 5, 3) := by decide +kernel
theorem dX8_apart_70 : decode cX8_apart 70 = .ok (.iload_n 3, 1) := by decide +kernel
theorem dX8_apart_71 : decode cX8_apart 71 = .ok (.istore_n 2, 1) := by decide +kernel
theorem dX8_apart_72 : decode cX8_apart 72 = .ok (.iinc 3 1, 3) := by decide +kernel
theorem dX8_apart_75 : decode cX8_apart 75 = .ok (.goto (-60), 3) := by decide +kernel
theorem dX8_apart_78 : decode cX8_apart 78 = .ok (.iload_n 2, 1) := by decide +kernel
theorem dX8_apart_79 : decode cX8_apart 79 = .ok (.ireturn, 1) := by decide +kernel
abbrev mm_X8_apart : ab_M := (RX8, 5, (some .int), false, 2, 45, none)
noncomputable def f_X8_apart_J72 (rec : Int → Int → Int → Int → ab_H → Option (Int × ab_H)) (v0 : Int) (v1 : Int) (v2 : Int) (v3 : Int) (h : ab_H) : Option (Int × ab_H) :=
  rec v0 v1 v2 (ab_w32 (v3 + (1 : Int))) h
set_option maxRecDepth 20000 in
theorem e_X8_apart_J72 {rec : Int → Int → Int → Int → ab_H → Option (Int × ab_H)} (hrec : ∀ (v0 : Int) (v1 : Int) (v2 : Int) (v3 : Int) (h : ab_H) (q : Int × ab_H), rec v0 v1 v2 v3 h = some q → ab_E mm_X8_apart cX8_apart 15 [some (ab_R v0), some (ab_I v1), some (ab_I v2), some (ab_I v3), none] [] h (some (ab_I q.1)) q.2) : ∀ (v0 : Int) (v1 : Int) (v2 : Int) (v3 : Int) (h : ab_H) (q : Int × ab_H), f_X8_apart_J72 rec v0 v1 v2 v3 h = some q → ab_E mm_X8_apart cX8_apart 72 [some (ab_R v0), some (ab_I v1), some (ab_I v2), some (ab_I v3), none] [] h (some (ab_I q.1)) q.2 := by
  intro v0 v1 v2 v3 h q hk
  unfold f_X8_apart_J72 at hk
  refine ab_iinc (pc := 72) (i := 3) (lv2 := [some (ab_R v0), some (ab_I v1), some (ab_I v2), some (ab_I (ab_w32 (v3 + (1 : Int)))), none]) dX8_apart_72 rfl (Nat.le_of_ble_eq_true rfl) rfl rfl ?_
  refine ab_goto (pc := 75) (tgt := 15) dX8_apart_75 rfl ?_
  refine ab_sub_ (lv2 := [some (ab_R v0), some (ab_I v1), some (ab_I v2), some (ab_I (ab_w32 (v3 + (1 : Int)))), none]) (ab_ss (ab_ss (ab_ss (ab_ss (ab_sn ab_s0))))) ?_
  exact hrec _ _ _ _ _ _ hk
noncomputable def f_X8_apart_J51 (rec : Int → Int → Int → Int → ab_H → Option (Int × ab_H)) (v0 : Int) (v1 : Int) (v2 : Int) (v3 : Int) (s0 : Int) (h : ab_H) : Option (Int × ab_H) :=
  if s0 = (0 : Int) then
    f_X8_apart_J72 rec v0 v1 v2 v3 h
  else
  (ab_on h 9 v0 (f_X8_stringsSharing v0 v1 v3 h)).bind fun q1 =>
  if q1.1 = ab_shl (1 : Int) v1 then
    f_X8_apart_J72 rec v0 v1 v3 v3 q1.2
  else
  f_X8_apart_J72 rec v0 v1 v2 v3 q1.2
set_option maxRecDepth 20000 in
theorem e_X8_apart_J51 {rec : Int → Int → Int → Int → ab_H → Option (Int × ab_H)} (hrec : ∀ (v0 : Int) (v1 : Int) (v2 : Int) (v3 : Int) (h : ab_H) (q : Int × ab_H), rec v0 v1 v2 v3 h = some q → ab_E mm_X8_apart cX8_apart 15 [some (ab_R v0), some (ab_I v1), some (ab_I v2), some (ab_I v3), none] [] h (some (ab_I q.1)) q.2) : ∀ (v0 : Int) (v1 : Int) (v2 : Int) (v3 : Int) (s0 : Int) (h : ab_H) (q : Int × ab_H), f_X8_apart_J51 rec v0 v1 v2 v3 s0 h = some q → ab_E mm_X8_apart cX8_apart 51 [some (ab_R v0), some (ab_I v1), some (ab_I v2), some (ab_I v3), none] [ab_I s0] h (some (ab_I q.1)) q.2 := by
  intro v0 v1 v2 v3 s0 h q hk
  unfold f_X8_apart_J51 at hk
  refine ab_istore (pc := 51) (i := 4) (lv2 := [some (ab_R v0), some (ab_I v1), some (ab_I v2), some (ab_I v3), some (ab_I s0)]) dX8_apart_51 (Nat.le_of_ble_eq_true rfl) rfl rfl ?_
  refine ab_iload (pc := 53) (i := 4) dX8_apart_53 rfl ?_
  refine ab_if_eq (pc := 55) (tgt := 72) dX8_apart_55 rfl (fun hc => ?_) (fun hc => ?_)
  · have hk := ab_ifp hk hc
    refine ab_sub_ (lv2 := [some (ab_R v0), some (ab_I v1), some (ab_I v2), some (ab_I v3), none]) (ab_ss (ab_ss (ab_ss (ab_ss (ab_sn ab_s0))))) ?_
    exact e_X8_apart_J72 hrec _ _ _ _ _ _ hk
  · have hk := ab_ifn hk hc
    refine ab_aload_n (pc := 58) (i := 0) dX8_apart_58 rfl rfl ?_
    refine ab_iload_n (pc := 59) (i := 1) dX8_apart_59 rfl rfl ?_
    refine ab_iload_n (pc := 60) (i := 3) dX8_apart_60 rfl rfl ?_
    obtain ⟨q1, hq1, hk⟩ := ab_bnd hk
    obtain ⟨hb, hq1⟩ := ab_on_some hq1
    refine ab_callVI (st := []) (as := [ab_I v1, ab_I v3]) (b := v0) (pc := 61) dX8_apart_61 ml_RX8_294 my_X8_stringsSharing mv_X8_stringsSharing hb (ct_X8_stringsSharing hq1) ⟨Nat.le_of_ble_eq_true rfl, Nat.le_of_ble_eq_true rfl⟩ rfl (Nat.le_of_ble_eq_true rfl) rfl ?_
    refine ab_iconst (pc := 64) dX8_apart_64 ab_k_1 ?_
    refine ab_iload_n (pc := 65) (i := 1) dX8_apart_65 rfl rfl ?_
    refine ab_ishl (pc := 66) dX8_apart_66 ?_
    refine ab_icmp_ne (pc := 67) (tgt := 72) dX8_apart_67 rfl (fun hc => ?_) (fun hc => ?_)
    · have hk := ab_ifn hk hc
      refine ab_sub_ (lv2 := [some (ab_R v0), some (ab_I v1), some (ab_I v2), some (ab_I v3), none]) (ab_ss (ab_ss (ab_ss (ab_ss (ab_sn ab_s0))))) ?_
      exact e_X8_apart_J72 hrec _ _ _ _ _ _ hk
    · have hk := ab_ifp hk hc
      refine ab_iload_n (pc := 70) (i := 3) dX8_apart_70 rfl rfl ?_
      refine ab_istore_n (pc := 71) (i := 2) (lv2 := [some (ab_R v0), some (ab_I v1), some (ab_I v3), some (ab_I v3), some (ab_I s0)]) dX8_apart_71 rfl (Nat.le_of_ble_eq_true rfl) rfl rfl ?_
      refine ab_sub_ (lv2 := [some (ab_R v0), some (ab_I v1), some (ab_I v3), some (ab_I v3), none]) (ab_ss (ab_ss (ab_ss (ab_ss (ab_sn ab_s0))))) ?_
      exact e_X8_apart_J72 hrec _ _ _ _ _ _ hk
noncomputable def f_X8_apart_J46 (rec : Int → Int → Int → Int → ab_H → Option (Int × ab_H)) (v0 : Int) (v1 : Int) (v2 : Int) (v3 : Int) (h : ab_H) : Option (Int × ab_H) :=
  f_X8_apart_J51 rec v0 v1 v2 v3 (1 : Int) h
set_option maxRecDepth 20000 in
theorem e_X8_apart_J46 {rec : Int → Int → Int → Int → ab_H → Option (Int × ab_H)} (hrec : ∀ (v0 : Int) (v1 : Int) (v2 : Int) (v3 : Int) (h : ab_H) (q : Int × ab_H), rec v0 v1 v2 v3 h = some q → ab_E mm_X8_apart cX8_apart 15 [some (ab_R v0), some (ab_I v1), some (ab_I v2), some (ab_I v3), none] [] h (some (ab_I q.1)) q.2) : ∀ (v0 : Int) (v1 : Int) (v2 : Int) (v3 : Int) (h : ab_H) (q : Int × ab_H), f_X8_apart_J46 rec v0 v1 v2 v3 h = some q → ab_E mm_X8_apart cX8_apart 46 [some (ab_R v0), some (ab_I v1), some (ab_I v2), some (ab_I v3), none] [] h (some (ab_I q.1)) q.2 := by
  intro v0 v1 v2 v3 h q hk
  unfold f_X8_apart_J46 at hk
  refine ab_iconst (pc := 46) dX8_apart_46 ab_k_1 ?_
  refine ab_goto (pc := 47) (tgt := 51) dX8_apart_47 rfl ?_
  refine ab_sub_ (lv2 := [some (ab_R v0), some (ab_I v1), some (ab_I v2), some (ab_I v3), none]) (ab_ss (ab_ss (ab_ss (ab_ss (ab_sn ab_s0))))) ?_
  exact e_X8_apart_J51 hrec _ _ _ _ _ _ _ hk
noncomputable def f_X8_apart_L15 : Nat → Int → Int → Int → Int → ab_H → Option (Int × ab_H)
  | 0, _, _, _, _, _ => none
  | n + 1, v0, v1, v2, v3, h =>
    (ab_get h 9 4 v0).bind fun t1 =>
    (ab_get h 1 2 t1).bind fun t2 =>
    (ab_ald h 11 t2 v1).bind fun t3 =>
    if ab_shl (1 : Int) t3 ≤ v3 then
      some (v2, h)
    else
    if v2 = (-1 : Int) then
      f_X8_apart_J46 (f_X8_apart_L15 n) v0 v1 v2 v3 h
    else
    (f_J6_bitCount_0f7a4 v3 h).bind fun q4 =>
    (f_J6_bitCount_0f7a4 v2 q4.2).bind fun q5 =>
    if q5.1 ≤ q4.1 then
      f_X8_apart_J51 (f_X8_apart_L15 n) v0 v1 v2 v3 (0 : Int) q5.2
    else
    f_X8_apart_J46 (f_X8_apart_L15 n) v0 v1 v2 v3 q5.2
set_option maxRecDepth 20000 in
theorem e_X8_apart_L15 : ∀ (n : Nat) (v0 : Int) (v1 : Int) (v2 : Int) (v3 : Int) (h : ab_H) (q : Int × ab_H), f_X8_apart_L15 n v0 v1 v2 v3 h = some q → ab_E mm_X8_apart cX8_apart 15 [some (ab_R v0), some (ab_I v1), some (ab_I v2), some (ab_I v3), none] [] h (some (ab_I q.1)) q.2 := by
  intro n
  induction n with
  | zero => intro v0 v1 v2 v3 h q hk; cases hk
  | succ n ih =>
    intro v0 v1 v2 v3 h q hk
    unfold f_X8_apart_L15 at hk
    refine ab_iload_n (pc := 15) (i := 3) dX8_apart_15 rfl rfl ?_
    refine ab_iconst (pc := 16) dX8_apart_16 ab_k_1 ?_
    refine ab_aload_n (pc := 17) (i := 0) dX8_apart_17 rfl rfl ?_
    obtain ⟨t1, ht1, hk⟩ := ab_bnd hk
    refine ab_getR (pc := 18) dX8_apart_18 fl_RX8_34 ht1 ?_
    obtain ⟨t2, ht2, hk⟩ := ab_bnd hk
    refine ab_getR (pc := 21) dX8_apart_21 fl_RX8_125 ht2 ?_
    refine ab_iload_n (pc := 24) (i := 1) dX8_apart_24 rfl rfl ?_
    obtain ⟨t3, ht3, hk⟩ := ab_bnd hk
    refine ab_iald (pc := 25) dX8_apart_25 ht3 ?_
    refine ab_ishl (pc := 26) dX8_apart_26 ?_
    refine ab_icmp_ge (pc := 27) (tgt := 78) dX8_apart_27 rfl (fun hc => ?_) (fun hc => ?_)
    · have hk := ab_ifp hk hc
      refine ab_iload_n (pc := 78) (i := 2) dX8_apart_78 rfl rfl ?_
      obtain rfl := Option.some.inj hk
      exact ab_reti (pc := 79) dX8_apart_79 (Or.inl rfl)
    · have hk := ab_ifn hk hc
      refine ab_iload_n (pc := 30) (i := 2) dX8_apart_30 rfl rfl ?_
      refine ab_iconst (pc := 31) dX8_apart_31 ab_k_m1 ?_
      refine ab_icmp_eq (pc := 32) (tgt := 46) dX8_apart_32 rfl (fun hc => ?_) (fun hc => ?_)
      · have hk := ab_ifp hk hc
        refine ab_sub_ (lv2 := [some (ab_R v0), some (ab_I v1), some (ab_I v2), some (ab_I v3), none]) (ab_ss (ab_ss (ab_ss (ab_ss (ab_sn ab_s0))))) ?_
        exact e_X8_apart_J46 ih _ _ _ _ _ _ hk
      · have hk := ab_ifn hk hc
        refine ab_iload_n (pc := 35) (i := 3) dX8_apart_35 rfl rfl ?_
        obtain ⟨q4, hq4, hk⟩ := ab_bnd hk
        refine ab_callSI (st := []) (as := [ab_I v3]) (pc := 36) dX8_apart_36 ml_RX8_216 my_J6_bitCount_0f7a4 ms_J6_bitCount_0f7a4 (ct_J6_bitCount_0f7a4 hq4) ⟨Nat.le_of_ble_eq_true rfl, Nat.le_of_ble_eq_true rfl⟩ rfl (Nat.le_of_ble_eq_true rfl) rfl ?_
        refine ab_iload_n (pc := 39) (i := 2) dX8_apart_39 rfl rfl ?_
        obtain ⟨q5, hq5, hk⟩ := ab_bnd hk
        refine ab_callSI (st := [ab_I q4.1]) (as := [ab_I v2]) (pc := 40) dX8_apart_40 ml_RX8_216 my_J6_bitCount_0f7a4 ms_J6_bitCount_0f7a4 (ct_J6_bitCount_0f7a4 hq5) ⟨Nat.le_of_ble_eq_true rfl, Nat.le_of_ble_eq_true rfl⟩ rfl (Nat.le_of_ble_eq_true rfl) rfl ?_
        refine ab_icmp_ge (pc := 43) (tgt := 50) dX8_apart_43 rfl (fun hc => ?_) (fun hc => ?_)
        · have hk := ab_ifp hk hc
          refine ab_iconst (pc := 50) dX8_apart_50 ab_k_0 ?_
          refine ab_sub_ (lv2 := [some (ab_R v0), some (ab_I v1), some (ab_I v2), some (ab_I v3), none]) (ab_ss (ab_ss (ab_ss (ab_ss (ab_sn ab_s0))))) ?_
          exact e_X8_apart_J51 ih _ _ _ _ _ _ _ hk
        · have hk := ab_ifn hk hc
          refine ab_sub_ (lv2 := [some (ab_R v0), some (ab_I v1), some (ab_I v2), some (ab_I v3), none]) (ab_ss (ab_ss (ab_ss (ab_ss (ab_sn ab_s0))))) ?_
          exact e_X8_apart_J46 ih _ _ _ _ _ _ hk
noncomputable def f_X8_apart (a0 : Int) (a1 : Int) (h : ab_H) : Option (Int × ab_H) :=
  (ab_on h 9 a0 (f_X8_isString a0 a1 h)).bind fun q1 =>
  if q1.1 = (0 : Int) then
    some ((-2 : Int), q1.2)
  else
  f_X8_apart_L15 ab_FU a0 a1 (-1 : Int) (0 : Int) q1.2
set_option maxRecDepth 20000 in
theorem ct_X8_apart {a0 a1 : Int} {h : ab_H} {q : Int × ab_H} (hk : f_X8_apart a0 a1 h = some q) : ab_CT yX8_apart cX8_apart 5 (some .int) 2 45 [ab_R a0, ab_I a1] h (some (ab_I q.1)) q.2 := by
  refine ab_CT.mk_ 3 (own := RX8) (ini := false) (lv := [some (ab_R a0), some (ab_I a1), none, none, none]) rfl (by decide +kernel) (fun q => by cases q) rfl rfl ?_
  unfold f_X8_apart at hk
  show ab_E mm_X8_apart cX8_apart 0 _ [] h _ _
  refine ab_aload_n (pc := 0) (i := 0) dX8_apart_0 rfl rfl ?_
  refine ab_iload_n (pc := 1) (i := 1) dX8_apart_1 rfl rfl ?_
  obtain ⟨q1, hq1, hk⟩ := ab_bnd hk
  obtain ⟨hb, hq1⟩ := ab_on_some hq1
  refine ab_callVI (st := []) (as := [ab_I a1]) (b := a0) (pc := 2) dX8_apart_2 ml_RX8_117 my_X8_isString mv_X8_isString hb (ct_X8_isString hq1) ⟨Nat.le_of_ble_eq_true rfl, Nat.le_of_ble_eq_true rfl⟩ rfl (Nat.le_of_ble_eq_true rfl) rfl ?_
  refine ab_if_ne (pc := 5) (tgt := 11) dX8_apart_5 rfl (fun hc => ?_) (fun hc => ?_)
  · have hk := ab_ifn hk hc
    refine ab_iconst (pc := 11) dX8_apart_11 ab_k_m1 ?_
    refine ab_istore_n (pc := 12) (i := 2) (lv2 := [some (ab_R a0), some (ab_I a1), some (ab_I (-1 : Int)), none, none]) dX8_apart_12 rfl (Nat.le_of_ble_eq_true rfl) rfl rfl ?_
    refine ab_iconst (pc := 13) dX8_apart_13 ab_k_0 ?_
    refine ab_istore_n (pc := 14) (i := 3) (lv2 := [some (ab_R a0), some (ab_I a1), some (ab_I (-1 : Int)), some (ab_I (0 : Int)), none]) dX8_apart_14 rfl (Nat.le_of_ble_eq_true rfl) rfl rfl ?_
    refine ab_sub_ (lv2 := [some (ab_R a0), some (ab_I a1), some (ab_I (-1 : Int)), some (ab_I (0 : Int)), none]) (ab_ss (ab_ss (ab_ss (ab_ss (ab_sn ab_s0))))) ?_
    refine e_X8_apart_L15 _ _ _ _ _ _ _ hk
  · have hk := ab_ifp hk hc
    refine ab_bipush (pc := 8) dX8_apart_8 ab_p8_m2 ab_k_m2 ?_
    obtain rfl := Option.some.inj hk
    exact ab_reti (pc := 10) dX8_apart_10 (Or.inl rfl)
theorem dX8_adds_0 : decode cX8_adds 0 = .ok (.aload_n 0, 1) := by decide +kernel
theorem dX8_adds_1 : decode cX8_adds 1 = .ok (.getfield 34, 3) := by decide +kernel
theorem dX8_adds_4 : decode cX8_adds 4 = .ok (.getfield 102, 3) := by decide +kernel
theorem dX8_adds_7 : decode cX8_adds 7 = .ok (.bipush 12, 2) := by decide +kernel
theorem dX8_adds_9 : decode cX8_adds 9 = .ok (.if_icmp .lt 6, 3) := by decide +kernel
theorem dX8_adds_12 : decode cX8_adds 12 = .ok (.bipush (-5), 2) := by decide +kernel
theorem dX8_adds_14 : decode cX8_adds 14 = .ok (.ireturn, 1) := by decide +kernel
theorem dX8_adds_15 : decode cX8_adds 15 = .ok (.aload_n 0, 1) := by decide +kernel
theorem dX8_adds_16 : decode cX8_adds 16 = .ok (.getfield 38, 3) := by decide +kernel
theorem dX8_adds_19 : decode cX8_adds 19 = .ok (.aload_n 0, 1) := by decide +kernel
theorem dX8_adds_20 : decode cX8_adds 20 = .ok (.getfield 34, 3) := by decide +kernel
theorem dX8_adds_23 : decode cX8_adds 23 = .ok (.invokevirtual 86, 3) := by decide +kernel
theorem dX8_adds_26 : decode cX8_adds 26 = .ok (.aload_n 0, 1) := by decide +kernel
theorem dX8_adds_27 : decode cX8_adds 27 = .ok (.getfield 27, 3) := by decide +kernel
theorem dX8_adds_30 : decode cX8_adds 30 = .ok (.aload_n 0, 1) := by decide +kernel
theorem dX8_adds_31 : decode cX8_adds 31 = .ok (.getfield 14, 3) := by decide +kernel
theorem dX8_adds_34 : decode cX8_adds 34 = .ok (.aload_n 0, 1) := by decide +kernel
theorem dX8_adds_35 : decode cX8_adds 35 = .ok (.getfield 38, 3) := by decide +kernel
theorem dX8_adds_38 : decode cX8_adds 38 = .ok (.invokevirtual 330, 3) := by decide +kernel
theorem dX8_adds_41 : decode cX8_adds 41 = .ok (.istore_n 1, 1) := by decide +kernel
theorem dX8_adds_42 : decode cX8_adds 42 = .ok (.aload_n 0, 1) := by decide +kernel
theorem dX8_adds_43 : decode cX8_adds 43 = .ok (.getfield 14, 3) := by decide +kernel
theorem dX8_adds_46 : decode cX8_adds 46 = .ok (.iconst 0, 1) := by decide +kernel
theorem dX8_adds_47 : decode cX8_adds 47 = .ok (.putfield 72, 3) := by decide +kernel
theorem dX8_adds_50 : decode cX8_adds 50 = .ok (.iload_n 1, 1) := by decide +kernel
theorem dX8_adds_51 : decode cX8_adds 51 = .ok (.ifCond .ne 6, 3) := by decide +kernel
theorem dX8_adds_54 : decode cX8_adds 54 = .ok (.bipush (-4), 2) := by decide +kernel
theorem dX8_adds_56 : decode cX8_adds 56 = .ok (.ireturn, 1) := by decide +kernel
theorem dX8_adds_57 : decode cX8_adds 57 = .ok (.aload_n 0, 1) := by decide +kernel
theorem dX8_adds_58 : decode cX8_adds 58 = .ok (.getfield 44, 3) := by decide +kernel
theorem dX8_adds_61 : decode cX8_adds 61 = .ok (.aload_n 0, 1) := by decide +kernel
theorem dX8_adds_62 : decode cX8_adds 62 = .ok (.getfield 34, 3) := by decide +kernel
theorem dX8_adds_65 : decode cX8_adds 65 = .ok (.invokevirtual 333, 3) := by decide +kernel
theorem dX8_adds_68 : decode cX8_adds 68 = .ok (.aload_n 0, 1) := by decide +kernel
theorem dX8_adds_69 : decode cX8_adds 69 = .ok (.getfield 34, 3) := by decide +kernel
theorem dX8_adds_72 : decode cX8_adds 72 = .ok (.aload_n 0, 1) := by decide +kernel
theorem dX8_adds_73 : decode cX8_adds 73 = .ok (.getfield 38, 3) := by decide +kernel
theorem dX8_adds_76 : decode cX8_adds 76 = .ok (.invokevirtual 86, 3) := by decide +kernel
theorem dX8_adds_79 : decode cX8_adds 79 = .ok (.aload_n 0, 1) := by decide +kernel
theorem dX8_adds_80 : decode cX8_adds 80 = .ok (.invokevirtual 90, 3) := by decide +kernel
theorem dX8_adds_83 : decode cX8_adds 83 = .ok (.aload_n 0, 1) := by decide +kernel
theorem dX8_adds_84 : decode cX8_adds 84 = .ok (.getfield 34, 3) := by decide +kernel
theorem dX8_adds_87 : decode cX8_adds 87 = .ok (.getfield 102, 3) := by decide +kernel
theorem dX8_adds_90 : decode cX8_adds 90 = .ok (.iconst 1, 1) := by decide +kernel
theorem dX8_adds_91 : decode cX8_adds 91 = .ok (.isub, 1) := by decide +kernel
theorem dX8_adds_92 : decode cX8_adds 92 = .ok (.ireturn, 1) := by decide +kernel
abbrev mm_X8_adds : ab_M := (RX8, 2, (some .int), false, 6, 139, none)
noncomputable def f_X8_adds (a0 : Int) (h : ab_H) : Option (Int × ab_H) :=
  (ab_get h 9 4 a0).bind fun t1 =>
  (ab_get h 1 0 t1).bind fun t2 =>
  if t2 < (12 : Int) then
    (ab_get h 9 5 a0).bind fun t3 =>
    (ab_get h 9 4 a0).bind fun t4 =>
    (ab_on h 1 t3 (f_X0_copyFrom t3 t4 h)).bind fun q5 =>
    (ab_get q5 9 3 a0).bind fun t6 =>
    (ab_get q5 9 0 a0).bind fun t7 =>
    (ab_get q5 9 5 a0).bind fun t8 =>
    (ab_on q5 5 t6 (f_X4_readAdded t6 t7 t8 q5)).bind fun q9 =>
    (ab_get q9.2 9 0 a0).bind fun t10 =>
    (ab_put q9.2 2 1 t10 (0 : Int)).bind fun h1 =>
    if q9.1 = (0 : Int) then
      some ((-4 : Int), h1)
    else
    (ab_get h1 9 6 a0).bind fun t11 =>
    (ab_get h1 9 4 a0).bind fun t12 =>
    (ab_on h1 4 t11 (f_X3_keep t11 t12 h1)).bind fun q13 =>
    (ab_get q13 9 4 a0).bind fun t14 =>
    (ab_get q13 9 5 a0).bind fun t15 =>
    (ab_on q13 1 t14 (f_X0_copyFrom t14 t15 q13)).bind fun q16 =>
    (ab_on q16 9 a0 (f_X8_renew a0 q16)).bind fun q17 =>
    (ab_get q17 9 4 a0).bind fun t18 =>
    (ab_get q17 1 0 t18).bind fun t19 =>
    some (ab_w32 (t19 - (1 : Int)), q17)
  else
  some ((-5 : Int), h)
set_option maxRecDepth 20000 in
theorem ct_X8_adds {a0 : Int} {h : ab_H} {q : Int × ab_H} (hk : f_X8_adds a0 h = some q) : ab_CT yX8_adds cX8_adds 2 (some .int) 6 139 [ab_R a0] h (some (ab_I q.1)) q.2 := by
  refine ab_CT.mk_ 1 (own := RX8) (ini := false) (lv := [some (ab_R a0), none]) rfl (by decide +kernel) (fun q => by cases q) rfl rfl ?_
  unfold f_X8_adds at hk
  show ab_E mm_X8_adds cX8_adds 0 _ [] h _ _
  refine ab_aload_n (pc := 0) (i := 0) dX8_adds_0 rfl rfl ?_
  obtain ⟨t1, ht1, hk⟩ := ab_bnd hk
  refine ab_getR (pc := 1) dX8_adds_1 fl_RX8_34 ht1 ?_
  obtain ⟨t2, ht2, hk⟩ := ab_bnd hk
  refine ab_getI (pc := 4) dX8_adds_4 fl_RX8_102 ht2 ?_
  refine ab_bipush (pc := 7) dX8_adds_7 ab_p8_12 ab_k_12 ?_
  refine ab_icmp_lt (pc := 9) (tgt := 15) dX8_adds_9 rfl (fun hc => ?_) (fun hc => ?_)
  · have hk := ab_ifp hk hc
    refine ab_aload_n (pc := 15) (i := 0) dX8_adds_15 rfl rfl ?_
    obtain ⟨t3, ht3, hk⟩ := ab_bnd hk
    refine ab_getR (pc := 16) dX8_adds_16 fl_RX8_38 ht3 ?_
    refine ab_aload_n (pc := 19) (i := 0) dX8_adds_19 rfl rfl ?_
    obtain ⟨t4, ht4, hk⟩ := ab_bnd hk
    refine ab_getR (pc := 20) dX8_adds_20 fl_RX8_34 ht4 ?_
    obtain ⟨q5, hq5, hk⟩ := ab_bnd hk
    obtain ⟨hb, hq5⟩ := ab_on_some hq5
    refine ab_callVV (st := []) (as := [ab_R t4]) (b := t3) (pc := 23) dX8_adds_23 ml_RX8_86 my_X0_copyFrom mv_X0_copyFrom hb (ct_X0_copyFrom hq5) ⟨Nat.le_of_ble_eq_true rfl, Nat.le_of_ble_eq_true rfl⟩ rfl (Nat.le_of_ble_eq_true rfl) rfl ?_
    refine ab_aload_n (pc := 26) (i := 0) dX8_adds_26 rfl rfl ?_
    obtain ⟨t6, ht6, hk⟩ := ab_bnd hk
    refine ab_getR (pc := 27) dX8_adds_27 fl_RX8_27 ht6 ?_
    refine ab_aload_n (pc := 30) (i := 0) dX8_adds_30 rfl rfl ?_
    obtain ⟨t7, ht7, hk⟩ := ab_bnd hk
    refine ab_getR (pc := 31) dX8_adds_31 fl_RX8_14 ht7 ?_
    refine ab_aload_n (pc := 34) (i := 0) dX8_adds_34 rfl rfl ?_
    obtain ⟨t8, ht8, hk⟩ := ab_bnd hk
    refine ab_getR (pc := 35) dX8_adds_35 fl_RX8_38 ht8 ?_
    obtain ⟨q9, hq9, hk⟩ := ab_bnd hk
    obtain ⟨hb, hq9⟩ := ab_on_some hq9
    refine ab_callVI (st := []) (as := [ab_R t7, ab_R t8]) (b := t6) (pc := 38) dX8_adds_38 ml_RX8_330 my_X4_readAdded mv_X4_readAdded hb (ct_X4_readAdded hq9) ⟨Nat.le_of_ble_eq_true rfl, Nat.le_of_ble_eq_true rfl⟩ rfl (Nat.le_of_ble_eq_true rfl) rfl ?_
    refine ab_istore_n (pc := 41) (i := 1) (lv2 := [some (ab_R a0), some (ab_I q9.1)]) dX8_adds_41 rfl (Nat.le_of_ble_eq_true rfl) rfl rfl ?_
    refine ab_aload_n (pc := 42) (i := 0) dX8_adds_42 rfl rfl ?_
    obtain ⟨t10, ht10, hk⟩ := ab_bnd hk
    refine ab_getR (pc := 43) dX8_adds_43 fl_RX8_14 ht10 ?_
    refine ab_iconst (pc := 46) dX8_adds_46 ab_k_0 ?_
    obtain ⟨h1, hh1, hk⟩ := ab_bnd hk
    refine ab_putI_ (pc := 47) dX8_adds_47 fl_RX8_72 (fun q => by cases q) hh1 ?_
    refine ab_iload_n (pc := 50) (i := 1) dX8_adds_50 rfl rfl ?_
    refine ab_if_ne (pc := 51) (tgt := 57) dX8_adds_51 rfl (fun hc => ?_) (fun hc => ?_)
    · have hk := ab_ifn hk hc
      refine ab_aload_n (pc := 57) (i := 0) dX8_adds_57 rfl rfl ?_
      obtain ⟨t11, ht11, hk⟩ := ab_bnd hk
      refine ab_getR (pc := 58) dX8_adds_58 fl_RX8_44 ht11 ?_
      refine ab_aload_n (pc := 61) (i := 0) dX8_adds_61 rfl rfl ?_
      obtain ⟨t12, ht12, hk⟩ := ab_bnd hk
      refine ab_getR (pc := 62) dX8_adds_62 fl_RX8_34 ht12 ?_
      obtain ⟨q13, hq13, hk⟩ := ab_bnd hk
      obtain ⟨hb, hq13⟩ := ab_on_some hq13
      refine ab_callVV (st := []) (as := [ab_R t12]) (b := t11) (pc := 65) dX8_adds_65 ml_RX8_333 my_X3_keep mv_X3_keep hb (ct_X3_keep hq13) ⟨Nat.le_of_ble_eq_true rfl, Nat.le_of_ble_eq_true rfl⟩ rfl (Nat.le_of_ble_eq_true rfl) rfl ?_
      refine ab_aload_n (pc := 68) (i := 0) dX8_adds_68 rfl rfl ?_
      obtain ⟨t14, ht14, hk⟩ := ab_bnd hk
      refine ab_getR (pc := 69) dX8_adds_69 fl_RX8_34 ht14 ?_
      refine ab_aload_n (pc := 72) (i := 0) dX8_adds_72 rfl rfl ?_
      obtain ⟨t15, ht15, hk⟩ := ab_bnd hk
      refine ab_getR (pc := 73) dX8_adds_73 fl_RX8_38 ht15 ?_
      obtain ⟨q16, hq16, hk⟩ := ab_bnd hk
      obtain ⟨hb, hq16⟩ := ab_on_some hq16
      refine ab_callVV (st := []) (as := [ab_R t15]) (b := t14) (pc := 76) dX8_adds_76 ml_RX8_86 my_X0_copyFrom mv_X0_copyFrom hb (ct_X0_copyFrom hq16) ⟨Nat.le_of_ble_eq_true rfl, Nat.le_of_ble_eq_true rfl⟩ rfl (Nat.le_of_ble_eq_true rfl) rfl ?_
      refine ab_aload_n (pc := 79) (i := 0) dX8_adds_79 rfl rfl ?_
      obtain ⟨q17, hq17, hk⟩ := ab_bnd hk
      obtain ⟨hb, hq17⟩ := ab_on_some hq17
      refine ab_callVV (st := []) (as := []) (b := a0) (pc := 80) dX8_adds_80 ml_RX8_90 my_X8_renew mv_X8_renew hb (ct_X8_renew hq17) ⟨Nat.le_of_ble_eq_true rfl, Nat.le_of_ble_eq_true rfl⟩ rfl (Nat.le_of_ble_eq_true rfl) rfl ?_
      refine ab_aload_n (pc := 83) (i := 0) dX8_adds_83 rfl rfl ?_
      obtain ⟨t18, ht18, hk⟩ := ab_bnd hk
      refine ab_getR (pc := 84) dX8_adds_84 fl_RX8_34 ht18 ?_
      obtain ⟨t19, ht19, hk⟩ := ab_bnd hk
      refine ab_getI (pc := 87) dX8_adds_87 fl_RX8_102 ht19 ?_
      refine ab_iconst (pc := 90) dX8_adds_90 ab_k_1 ?_
      refine ab_isub (pc := 91) dX8_adds_91 ?_
      obtain rfl := Option.some.inj hk
      exact ab_reti (pc := 92) dX8_adds_92 (Or.inl rfl)
    · have hk := ab_ifp hk hc
      refine ab_bipush (pc := 54) dX8_adds_54 ab_p8_m4 ab_k_m4 ?_
      obtain rfl := Option.some.inj hk
      exact ab_reti (pc := 56) dX8_adds_56 (Or.inl rfl)
  · have hk := ab_ifn hk hc
    refine ab_bipush (pc := 12) dX8_adds_12 ab_p8_m5 ab_k_m5 ?_
    obtain rfl := Option.some.inj hk
    exact ab_reti (pc := 14) dX8_adds_14 (Or.inl rfl)
theorem dX8_drops_0 : decode cX8_drops 0 = .ok (.aload_n 0, 1) := by decide +kernel
theorem dX8_drops_1 : decode cX8_drops 1 = .ok (.iload_n 1, 1) := by decide +kernel
theorem dX8_drops_2 : decode cX8_drops 2 = .ok (.invokevirtual 117, 3) := by decide +kernel
theorem dX8_drops_5 : decode cX8_drops 5 = .ok (.ifCond .ne 6, 3) := by decide +kernel
theorem dX8_drops_8 : decode cX8_drops 8 = .ok (.bipush (-2), 2) := by decide +kernel
theorem dX8_drops_10 : decode cX8_drops 10 = .ok (.ireturn, 1) := by decide +kernel
theorem dX8_drops_11 : decode cX8_drops 11 = .ok (.aload_n 0, 1) := by decide +kernel
theorem dX8_drops_12 : decode cX8_drops 12 = .ok (.getfield 44, 3) := by decide +kernel
theorem dX8_drops_15 : decode cX8_drops 15 = .ok (.aload_n 0, 1) := by decide +kernel
theorem dX8_drops_16 : decode cX8_drops 16 = .ok (.getfield 34, 3) := by decide +kernel
theorem dX8_drops_19 : decode cX8_drops 19 = .ok (.invokevirtual 333, 3) := by decide +kernel
theorem dX8_drops_22 : decode cX8_drops 22 = .ok (.aload_n 0, 1) := by decide +kernel
theorem dX8_drops_23 : decode cX8_drops 23 = .ok (.getfield 34, 3) := by decide +kernel
theorem dX8_drops_26 : decode cX8_drops 26 = .ok (.iload_n 1, 1) := by decide +kernel
theorem dX8_drops_27 : decode cX8_drops 27 = .ok (.invokevirtual 336, 3) := by decide +kernel
theorem dX8_drops_30 : decode cX8_drops 30 = .ok (.aload_n 0, 1) := by decide +kernel
theorem dX8_drops_31 : decode cX8_drops 31 = .ok (.invokevirtual 90, 3) := by decide +kernel
theorem dX8_drops_34 : decode cX8_drops 34 = .ok (.aload_n 0, 1) := by decide +kernel
theorem dX8_drops_35 : decode cX8_drops 35 = .ok (.getfield 34, 3) := by decide +kernel
theorem dX8_drops_38 : decode cX8_drops 38 = .ok (.getfield 102, 3) := by decide +kernel
theorem dX8_drops_41 : decode cX8_drops 41 = .ok (.ireturn, 1) := by decide +kernel
abbrev mm_X8_drops : ab_M := (RX8, 2, (some .int), false, 6, 139, none)
noncomputable def f_X8_drops (a0 : Int) (a1 : Int) (h : ab_H) : Option (Int × ab_H) :=
  (ab_on h 9 a0 (f_X8_isString a0 a1 h)).bind fun q1 =>
  if q1.1 = (0 : Int) then
    some ((-2 : Int), q1.2)
  else
  (ab_get q1.2 9 6 a0).bind fun t2 =>
  (ab_get q1.2 9 4 a0).bind fun t3 =>
  (ab_on q1.2 4 t2 (f_X3_keep t2 t3 q1.2)).bind fun q4 =>
  (ab_get q4 9 4 a0).bind fun t5 =>
  (ab_on q4 1 t5 (f_X0_dropString t5 a1 q4)).bind fun q6 =>
  (ab_on q6 9 a0 (f_X8_renew a0 q6)).bind fun q7 =>
  (ab_get q7 9 4 a0).bind fun t8 =>
  (ab_get q7 1 0 t8).bind fun t9 =>
  some (t9, q7)
set_option maxRecDepth 20000 in
theorem ct_X8_drops {a0 a1 : Int} {h : ab_H} {q : Int × ab_H} (hk : f_X8_drops a0 a1 h = some q) : ab_CT yX8_drops cX8_drops 2 (some .int) 6 139 [ab_R a0, ab_I a1] h (some (ab_I q.1)) q.2 := by
  refine ab_CT.mk_ 0 (own := RX8) (ini := false) (lv := [some (ab_R a0), some (ab_I a1)]) rfl (by decide +kernel) (fun q => by cases q) rfl rfl ?_
  unfold f_X8_drops at hk
  show ab_E mm_X8_drops cX8_drops 0 _ [] h _ _
  refine ab_aload_n (pc := 0) (i := 0) dX8_drops_0 rfl rfl ?_
  refine ab_iload_n (pc := 1) (i := 1) dX8_drops_1 rfl rfl ?_
  obtain ⟨q1, hq1, hk⟩ := ab_bnd hk
  obtain ⟨hb, hq1⟩ := ab_on_some hq1
  refine ab_callVI (st := []) (as := [ab_I a1]) (b := a0) (pc := 2) dX8_drops_2 ml_RX8_117 my_X8_isString mv_X8_isString hb (ct_X8_isString hq1) ⟨Nat.le_of_ble_eq_true rfl, Nat.le_of_ble_eq_true rfl⟩ rfl (Nat.le_of_ble_eq_true rfl) rfl ?_
  refine ab_if_ne (pc := 5) (tgt := 11) dX8_drops_5 rfl (fun hc => ?_) (fun hc => ?_)
  · have hk := ab_ifn hk hc
    refine ab_aload_n (pc := 11) (i := 0) dX8_drops_11 rfl rfl ?_
    obtain ⟨t2, ht2, hk⟩ := ab_bnd hk
    refine ab_getR (pc := 12) dX8_drops_12 fl_RX8_44 ht2 ?_
    refine ab_aload_n (pc := 15) (i := 0) dX8_drops_15 rfl rfl ?_
    obtain ⟨t3, ht3, hk⟩ := ab_bnd hk
    refine ab_getR (pc := 16) dX8_drops_16 fl_RX8_34 ht3 ?_
    obtain ⟨q4, hq4, hk⟩ := ab_bnd hk
    obtain ⟨hb, hq4⟩ := ab_on_some hq4
    refine ab_callVV (st := []) (as := [ab_R t3]) (b := t2) (pc := 19) dX8_drops_19 ml_RX8_333 my_X3_keep mv_X3_keep hb (ct_X3_keep hq4) ⟨Nat.le_of_ble_eq_true rfl, Nat.le_of_ble_eq_true rfl⟩ rfl (Nat.le_of_ble_eq_true rfl) rfl ?_
    refine ab_aload_n (pc := 22) (i := 0) dX8_drops_22 rfl rfl ?_
    obtain ⟨t5, ht5, hk⟩ := ab_bnd hk
    refine ab_getR (pc := 23) dX8_drops_23 fl_RX8_34 ht5 ?_
    refine ab_iload_n (pc := 26) (i := 1) dX8_drops_26 rfl rfl ?_
    obtain ⟨q6, hq6, hk⟩ := ab_bnd hk
    obtain ⟨hb, hq6⟩ := ab_on_some hq6
    refine ab_callVV (st := []) (as := [ab_I a1]) (b := t5) (pc := 27) dX8_drops_27 ml_RX8_336 my_X0_dropString mv_X0_dropString hb (ct_X0_dropString hq6) ⟨Nat.le_of_ble_eq_true rfl, Nat.le_of_ble_eq_true rfl⟩ rfl (Nat.le_of_ble_eq_true rfl) rfl ?_
    refine ab_aload_n (pc := 30) (i := 0) dX8_drops_30 rfl rfl ?_
    obtain ⟨q7, hq7, hk⟩ := ab_bnd hk
    obtain ⟨hb, hq7⟩ := ab_on_some hq7
    refine ab_callVV (st := []) (as := []) (b := a0) (pc := 31) dX8_drops_31 ml_RX8_90 my_X8_renew mv_X8_renew hb (ct_X8_renew hq7) ⟨Nat.le_of_ble_eq_true rfl, Nat.le_of_ble_eq_true rfl⟩ rfl (Nat.le_of_ble_eq_true rfl) rfl ?_
    refine ab_aload_n (pc := 34) (i := 0) dX8_drops_34 rfl rfl ?_
    obtain ⟨t8, ht8, hk⟩ := ab_bnd hk
    refine ab_getR (pc := 35) dX8_drops_35 fl_RX8_34 ht8 ?_
    obtain ⟨t9, ht9, hk⟩ := ab_bnd hk
    refine ab_getI (pc := 38) dX8_drops_38 fl_RX8_102 ht9 ?_
    obtain rfl := Option.some.inj hk
    exact ab_reti (pc := 41) dX8_drops_41 (Or.inl rfl)
  · have hk := ab_ifp hk hc
    refine ab_bipush (pc := 8) dX8_drops_8 ab_p8_m2 ab_k_m2 ?_
    obtain rfl := Option.some.inj hk
    exact ab_reti (pc := 10) dX8_drops_10 (Or.inl rfl)
theorem dX8_law_0 : decode cX8_law 0 = .ok (.iload_n 1, 1) := by decide +kernel
theorem dX8_law_1 : decode cX8_law 1 = .ok (.invokestatic 171, 3) := by decide +kernel
theorem dX8_law_4 : decode cX8_law 4 = .ok (.ifCond .eq 10, 3) := by decide +kernel
theorem dX8_law_7 : decode cX8_law 7 = .ok (.iload_n 2, 1) := by decide +kernel
theorem dX8_law_8 : decode cX8_law 8 = .ok (.invokestatic 255, 3) := by decide +kernel
theorem dX8_law_11 : decode cX8_law 11 = .ok (.ifCond .ne 6, 3) := by decide +kernel
theorem dX8_law_14 : decode cX8_law 14 = .ok (.bipush (-2), 2) := by decide +kernel
theorem dX8_law_16 : decode cX8_law 16 = .ok (.ireturn, 1) := by decide +kernel
theorem dX8_law_17 : decode cX8_law 17 = .ok (.aload_n 0, 1) := by decide +kernel
theorem dX8_law_18 : decode cX8_law 18 = .ok (.getfield 34, 3) := by decide +kernel
theorem dX8_law_21 : decode cX8_law 21 = .ok (.getfield 174, 3) := by decide +kernel
theorem dX8_law_24 : decode cX8_law 24 = .ok (.iload_n 1, 1) := by decide +kernel
theorem dX8_law_25 : decode cX8_law 25 = .ok (.iaload, 1) := by decide +kernel
theorem dX8_law_26 : decode cX8_law 26 = .ok (.istore_n 3, 1) := by decide +kernel
theorem dX8_law_27 : decode cX8_law 27 = .ok (.iload_n 3, 1) := by decide +kernel
theorem dX8_law_28 : decode cX8_law 28 = .ok (.iload_n 2, 1) := by decide +kernel
theorem dX8_law_29 : decode cX8_law 29 = .ok (.if_icmp .ne 5, 3) := by decide +kernel
theorem dX8_law_32 : decode cX8_law 32 = .ok (.iload_n 3, 1) := by decide +kernel
theorem dX8_law_33 : decode cX8_law 33 = .ok (.ireturn, 1) := by decide +kernel
theorem dX8_law_34 : decode cX8_law 34 = .ok (.aload_n 0, 1) := by decide +kernel
theorem dX8_law_35 : decode cX8_law 35 = .ok (.getfield 44, 3) := by decide +kernel
theorem dX8_law_38 : decode cX8_law 38 = .ok (.aload_n 0, 1) := by decide +kernel
theorem dX8_law_39 : decode cX8_law 39 = .ok (.getfield 34, 3) := by decide +kernel
theorem dX8_law_42 : decode cX8_law 42 = .ok (.invokevirtual 333, 3) := by decide +kernel
theorem dX8_law_45 : decode cX8_law 45 = .ok (.aload_n 0, 1) := by decide +kernel
theorem dX8_law_46 : decode cX8_law 46 = .ok (.getfield 34, 3) := by decide +kernel
theorem dX8_law_49 : decode cX8_law 49 = .ok (.getfield 174, 3) := by decide +kernel
theorem dX8_law_52 : decode cX8_law 52 = .ok (.iload_n 1, 1) := by decide +kernel
theorem dX8_law_53 : decode cX8_law 53 = .ok (.iload_n 2, 1) := by decide +kernel
theorem dX8_law_54 : decode cX8_law 54 = .ok (.iastore, 1) := by decide +kernel
theorem dX8_law_55 : decode cX8_law 55 = .ok (.aload_n 0, 1) := by decide +kernel
theorem dX8_law_56 : decode cX8_law 56 = .ok (.invokevirtual 90, 3) := by decide +kernel
theorem dX8_law_59 : decode cX8_law 59 = .ok (.iload_n 3, 1) := by decide +kernel
theorem dX8_law_60 : decode cX8_law 60 = .ok (.ireturn, 1) := by decide +kernel
abbrev mm_X8_law : ab_M := (RX8, 4, (some .int), false, 6, 139, none)
noncomputable def f_X8_law (a0 : Int) (a1 : Int) (a2 : Int) (h : ab_H) : Option (Int × ab_H) :=
  (f_X8_isRole a1 h).bind fun q1 =>
  if q1.1 = (0 : Int) then
    some ((-2 : Int), q1.2)
  else
  (f_X8_isWay a2 q1.2).bind fun q2 =>
  if q2.1 = (0 : Int) then
    some ((-2 : Int), q2.2)
  else
  (ab_get q2.2 9 4 a0).bind fun t3 =>
  (ab_get q2.2 1 8 t3).bind fun t4 =>
  (ab_ald q2.2 11 t4 a1).bind fun t5 =>
  if t5 = a2 then
    some (t5, q2.2)
  else
  (ab_get q2.2 9 6 a0).bind fun t6 =>
  (ab_get q2.2 9 4 a0).bind fun t7 =>
  (ab_on q2.2 4 t6 (f_X3_keep t6 t7 q2.2)).bind fun q8 =>
  (ab_get q8 9 4 a0).bind fun t9 =>
  (ab_get q8 1 8 t9).bind fun t10 =>
  (ab_ast q8 11 t10 a1 a2).bind fun h1 =>
  (ab_on h1 9 a0 (f_X8_renew a0 h1)).bind fun q11 =>
  some (t5, q11)
set_option maxRecDepth 20000 in
theorem ct_X8_law {a0 a1 a2 : Int} {h : ab_H} {q : Int × ab_H} (hk : f_X8_law a0 a1 a2 h = some q) : ab_CT yX8_law cX8_law 4 (some .int) 6 139 [ab_R a0, ab_I a1, ab_I a2] h (some (ab_I q.1)) q.2 := by
  refine ab_CT.mk_ 1 (own := RX8) (ini := false) (lv := [some (ab_R a0), some (ab_I a1), some (ab_I a2), none]) rfl (by decide +kernel) (fun q => by cases q) rfl rfl ?_
  unfold f_X8_law at hk
  show ab_E mm_X8_law cX8_law 0 _ [] h _ _
  refine ab_iload_n (pc := 0) (i := 1) dX8_law_0 rfl rfl ?_
  obtain ⟨q1, hq1, hk⟩ := ab_bnd hk
  refine ab_callSI (st := []) (as := [ab_I a1]) (pc := 1) dX8_law_1 ml_RX8_171 my_X8_isRole ms_X8_isRole (ct_X8_isRole hq1) ⟨Nat.le_of_ble_eq_true rfl, Nat.le_of_ble_eq_true rfl⟩ rfl (Nat.le_of_ble_eq_true rfl) rfl ?_
  refine ab_if_eq (pc := 4) (tgt := 14) dX8_law_4 rfl (fun hc => ?_) (fun hc => ?_)
  · have hk := ab_ifp hk hc
    refine ab_bipush (pc := 14) dX8_law_14 ab_p8_m2 ab_k_m2 ?_
    obtain rfl := Option.some.inj hk
    exact ab_reti (pc := 16) dX8_law_16 (Or.inl rfl)
  · have hk := ab_ifn hk hc
    refine ab_iload_n (pc := 7) (i := 2) dX8_law_7 rfl rfl ?_
    obtain ⟨q2, hq2, hk⟩ := ab_bnd hk
    refine ab_callSI (st := []) (as := [ab_I a2]) (pc := 8) dX8_law_8 ml_RX8_255 my_X8_isWay ms_X8_isWay (ct_X8_isWay hq2) ⟨Nat.le_of_ble_eq_true rfl, Nat.le_of_ble_eq_true rfl⟩ rfl (Nat.le_of_ble_eq_true rfl) rfl ?_
    refine ab_if_ne (pc := 11) (tgt := 17) dX8_law_11 rfl (fun hc => ?_) (fun hc => ?_)
    · have hk := ab_ifn hk hc
      refine ab_aload_n (pc := 17) (i := 0) dX8_law_17 rfl rfl ?_
      obtain ⟨t3, ht3, hk⟩ := ab_bnd hk
      refine ab_getR (pc := 18) dX8_law_18 fl_RX8_34 ht3 ?_
      obtain ⟨t4, ht4, hk⟩ := ab_bnd hk
      refine ab_getR (pc := 21) dX8_law_21 fl_RX8_174 ht4 ?_
      refine ab_iload_n (pc := 24) (i := 1) dX8_law_24 rfl rfl ?_
      obtain ⟨t5, ht5, hk⟩ := ab_bnd hk
      refine ab_iald (pc := 25) dX8_law_25 ht5 ?_
      refine ab_istore_n (pc := 26) (i := 3) (lv2 := [some (ab_R a0), some (ab_I a1), some (ab_I a2), some (ab_I t5)]) dX8_law_26 rfl (Nat.le_of_ble_eq_true rfl) rfl rfl ?_
      refine ab_iload_n (pc := 27) (i := 3) dX8_law_27 rfl rfl ?_
      refine ab_iload_n (pc := 28) (i := 2) dX8_law_28 rfl rfl ?_
      refine ab_icmp_ne (pc := 29) (tgt := 34) dX8_law_29 rfl (fun hc => ?_) (fun hc => ?_)
      · have hk := ab_ifn hk hc
        refine ab_aload_n (pc := 34) (i := 0) dX8_law_34 rfl rfl ?_
        obtain ⟨t6, ht6, hk⟩ := ab_bnd hk
        refine ab_getR (pc := 35) dX8_law_35 fl_RX8_44 ht6 ?_
        refine ab_aload_n (pc := 38) (i := 0) dX8_law_38 rfl rfl ?_
        obtain ⟨t7, ht7, hk⟩ := ab_bnd hk
        refine ab_getR (pc := 39) dX8_law_39 fl_RX8_34 ht7 ?_
        obtain ⟨q8, hq8, hk⟩ := ab_bnd hk
        obtain ⟨hb, hq8⟩ := ab_on_some hq8
        refine ab_callVV (st := []) (as := [ab_R t7]) (b := t6) (pc := 42) dX8_law_42 ml_RX8_333 my_X3_keep mv_X3_keep hb (ct_X3_keep hq8) ⟨Nat.le_of_ble_eq_true rfl, Nat.le_of_ble_eq_true rfl⟩ rfl (Nat.le_of_ble_eq_true rfl) rfl ?_
        refine ab_aload_n (pc := 45) (i := 0) dX8_law_45 rfl rfl ?_
        obtain ⟨t9, ht9, hk⟩ := ab_bnd hk
        refine ab_getR (pc := 46) dX8_law_46 fl_RX8_34 ht9 ?_
        obtain ⟨t10, ht10, hk⟩ := ab_bnd hk
        refine ab_getR (pc := 49) dX8_law_49 fl_RX8_174 ht10 ?_
        refine ab_iload_n (pc := 52) (i := 1) dX8_law_52 rfl rfl ?_
        refine ab_iload_n (pc := 53) (i := 2) dX8_law_53 rfl rfl ?_
        obtain ⟨h1, hh1, hk⟩ := ab_bnd hk
        refine ab_iast (pc := 54) dX8_law_54 hh1 ?_
        refine ab_aload_n (pc := 55) (i := 0) dX8_law_55 rfl rfl ?_
        obtain ⟨q11, hq11, hk⟩ := ab_bnd hk
        obtain ⟨hb, hq11⟩ := ab_on_some hq11
        refine ab_callVV (st := []) (as := []) (b := a0) (pc := 56) dX8_law_56 ml_RX8_90 my_X8_renew mv_X8_renew hb (ct_X8_renew hq11) ⟨Nat.le_of_ble_eq_true rfl, Nat.le_of_ble_eq_true rfl⟩ rfl (Nat.le_of_ble_eq_true rfl) rfl ?_
        refine ab_iload_n (pc := 59) (i := 3) dX8_law_59 rfl rfl ?_
        obtain rfl := Option.some.inj hk
        exact ab_reti (pc := 60) dX8_law_60 (Or.inl rfl)
      · have hk := ab_ifp hk hc
        refine ab_iload_n (pc := 32) (i := 3) dX8_law_32 rfl rfl ?_
        obtain rfl := Option.some.inj hk
        exact ab_reti (pc := 33) dX8_law_33 (Or.inl rfl)
    · have hk := ab_ifp hk hc
      refine ab_bipush (pc := 14) dX8_law_14 ab_p8_m2 ab_k_m2 ?_
      obtain rfl := Option.some.inj hk
      exact ab_reti (pc := 16) dX8_law_16 (Or.inl rfl)
theorem dX8_lead_0 : decode cX8_lead 0 = .ok (.aload_n 0, 1) := by decide +kernel
theorem dX8_lead_1 : decode cX8_lead 1 = .ok (.iload_n 1, 1) := by decide +kernel
theorem dX8_lead_2 : decode cX8_lead 2 = .ok (.iload_n 2, 1) := by decide +kernel
theorem dX8_lead_3 : decode cX8_lead 3 = .ok (.invokevirtual 138, 3) := by decide +kernel
theorem dX8_lead_6 : decode cX8_lead 6 = .ok (.ifCond .eq 12, 3) := by decide +kernel
theorem dX8_lead_9 : decode cX8_lead 9 = .ok (.iload_n 3, 1) := by decide +kernel
theorem dX8_lead_10 : decode cX8_lead 10 = .ok (.ifCond .lt 8, 3) := by decide +kernel
theorem dX8_lead_13 : decode cX8_lead 13 = .ok (.iload_n 3, 1) := by decide +kernel
theorem dX8_lead_14 : decode cX8_lead 14 = .ok (.iconst 1, 1) := by decide +kernel
theorem dX8_lead_15 : decode cX8_lead 15 = .ok (.if_icmp .le 6, 3) := by decide +kernel
theorem dX8_lead_18 : decode cX8_lead 18 = .ok (.bipush (-2), 2) := by decide +kernel
theorem dX8_lead_20 : decode cX8_lead 20 = .ok (.ireturn, 1) := by decide +kernel
theorem dX8_lead_21 : decode cX8_lead 21 = .ok (.aload_n 0, 1) := by decide +kernel
theorem dX8_lead_22 : decode cX8_lead 22 = .ok (.getfield 34, 3) := by decide +kernel
theorem dX8_lead_25 : decode cX8_lead 25 = .ok (.getfield 145, 3) := by decide +kernel
theorem dX8_lead_28 : decode cX8_lead 28 = .ok (.iload_n 1, 1) := by decide +kernel
theorem dX8_lead_29 : decode cX8_lead 29 = .ok (.bipush 6, 2) := by decide +kernel
theorem dX8_lead_31 : decode cX8_lead 31 = .ok (.imul, 1) := by decide +kernel
theorem dX8_lead_32 : decode cX8_lead 32 = .ok (.iload_n 2, 1) := by decide +kernel
theorem dX8_lead_33 : decode cX8_lead 33 = .ok (.iadd, 1) := by decide +kernel
theorem dX8_lead_34 : decode cX8_lead 34 = .ok (.iaload, 1) := by decide +kernel
theorem dX8_lead_35 : decode cX8_lead 35 = .ok (.istore 4, 2) := by decide +kernel
theorem dX8_lead_37 : decode cX8_lead 37 = .ok (.iload 4, 2) := by decide +kernel
theorem dX8_lead_39 : decode cX8_lead 39 = .ok (.iload_n 3, 1) := by decide +kernel
theorem dX8_lead_40 : decode cX8_lead 40 = .ok (.if_icmp .ne 6, 3) := by decide +kernel
theorem dX8_lead_43 : decode cX8_lead 43 = .ok (.iload 4, 2) := by decide +kernel
theorem dX8_lead_45 : decode cX8_lead 45 = .ok (.ireturn, 1) := by decide +kernel
theorem dX8_lead_46 : decode cX8_lead 46 = .ok (.aload_n 0, 1) := by decide +kernel
theorem dX8_lead_47 : decode cX8_lead 47 = .ok (.getfield 44, 3) := by decide +kernel
theorem dX8_lead_50 : decode cX8_lead 50 = .ok (.aload_n 0, 1) := by decide +kernel
theorem dX8_lead_51 : decode cX8_lead 51 = .ok (.getfield 34, 3) := by decide +kernel
theorem dX8_lead_54 : decode cX8_lead 54 = .ok (.invokevirtual 333, 3) := by decide +kernel
theorem dX8_lead_57 : decode cX8_lead 57 = .ok (.aload_n 0, 1) := by decide +kernel
theorem dX8_lead_58 : decode cX8_lead 58 = .ok (.getfield 34, 3) := by decide +kernel
theorem dX8_lead_61 : decode cX8_lead 61 = .ok (.getfield 145, 3) := by decide +kernel
theorem dX8_lead_64 : decode cX8_lead 64 = .ok (.iload_n 1, 1) := by decide +kernel
theorem dX8_lead_65 : decode cX8_lead 65 = .ok (.bipush 6, 2) := by decide +kernel
theorem dX8_lead_67 : decode cX8_lead 67 = .ok (.imul, 1) := by decide +kernel
theorem dX8_lead_68 : decode cX8_lead 68 = .ok (.iload_n 2, 1) := by decide +kernel
theorem dX8_lead_69 : decode cX8_lead 69 = .ok (.iadd, 1) := by decide +kernel
theorem dX8_lead_70 : decode cX8_lead 70 = .ok (.iload_n 3, 1) := by decide +kernel
theorem dX8_lead_71 : decode cX8_lead 71 = .ok (.iastore, 1) := by decide +kernel
theorem dX8_lead_72 : decode cX8_lead 72 = .ok (.aload_n 0, 1) := by decide +kernel
theorem dX8_lead_73 : decode cX8_lead 73 = .ok (.invokevirtual 90, 3) := by decide +kernel
theorem dX8_lead_76 : decode cX8_lead 76 = .ok (.iload 4, 2) := by decide +kernel
theorem dX8_lead_78 : decode cX8_lead 78 = .ok (.ireturn, 1) := by decide +kernel
abbrev mm_X8_lead : ab_M := (RX8, 5, (some .int), false, 6, 139, none)
noncomputable def f_X8_lead (a0 : Int) (a1 : Int) (a2 : Int) (a3 : Int) (h : ab_H) : Option (Int × ab_H) :=
  (ab_on h 9 a0 (f_X8_isTerm a0 a1 a2 h)).bind fun q1 =>
  if q1.1 = (0 : Int) then
    some ((-2 : Int), q1.2)
  else
  if a3 < (0 : Int) then
    some ((-2 : Int), q1.2)
  else
  if a3 ≤ (1 : Int) then
    (ab_get q1.2 9 4 a0).bind fun t2 =>
    (ab_get q1.2 1 4 t2).bind fun t3 =>
    (ab_ald q1.2 11 t3 (ab_w32 ((ab_w32 (a1 * (6 : Int))) + a2))).bind fun t4 =>
    if t4 = a3 then
      some (t4, q1.2)
    else
    (ab_get q1.2 9 6 a0).bind fun t5 =>
    (ab_get q1.2 9 4 a0).bind fun t6 =>
    (ab_on q1.2 4 t5 (f_X3_keep t5 t6 q1.2)).bind fun q7 =>
    (ab_get q7 9 4 a0).bind fun t8 =>
    (ab_get q7 1 4 t8).bind fun t9 =>
    (ab_ast q7 11 t9 (ab_w32 ((ab_w32 (a1 * (6 : Int))) + a2)) a3).bind fun h1 =>
    (ab_on h1 9 a0 (f_X8_renew a0 h1)).bind fun q10 =>
    some (t4, q10)
  else
  some ((-2 : Int), q1.2)
set_option maxRecDepth 20000 in
theorem ct_X8_lead {a0 a1 a2 a3 : Int} {h : ab_H} {q : Int × ab_H} (hk : f_X8_lead a0 a1 a2 a3 h = some q) : ab_CT yX8_lead cX8_lead 5 (some .int) 6 139 [ab_R a0, ab_I a1, ab_I a2, ab_I a3] h (some (ab_I q.1)) q.2 := by
  refine ab_CT.mk_ 1 (own := RX8) (ini := false) (lv := [some (ab_R a0), some (ab_I a1), some (ab_I a2), some (ab_I a3), none]) rfl (by decide +kernel) (fun q => by cases q) rfl rfl ?_
  unfold f_X8_lead at hk
  show ab_E mm_X8_lead cX8_lead 0 _ [] h _ _
  refine ab_aload_n (pc := 0) (i := 0) dX8_lead_0 rfl rfl ?_
  refine ab_iload_n (pc := 1) (i := 1) dX8_lead_1 rfl rfl ?_
  refine ab_iload_n (pc := 2) (i := 2) dX8_lead_2 rfl rfl ?_
  obtain ⟨q1, hq1, hk⟩ := ab_bnd hk
  obtain ⟨hb, hq1⟩ := ab_on_some hq1
  refine ab_callVI (st := []) (as := [ab_I a1, ab_I a2]) (b := a0) (pc := 3) dX8_lead_3 ml_RX8_138 my_X8_isTerm mv_X8_isTerm hb (ct_X8_isTerm hq1) ⟨Nat.le_of_ble_eq_true rfl, Nat.le_of_ble_eq_true rfl⟩ rfl (Nat.le_of_ble_eq_true rfl) rfl ?_
  refine ab_if_eq (pc := 6) (tgt := 18) dX8_lead_6 rfl (fun hc => ?_) (fun hc => ?_)
  · have hk := ab_ifp hk hc
    refine ab_bipush (pc := 18) dX8_lead_18 ab_p8_m2 ab_k_m2 ?_
    obtain rfl := Option.some.inj hk
    exact ab_reti (pc := 20) dX8_lead_20 (Or.inl rfl)
  · have hk := ab_ifn hk hc
    refine ab_iload_n (pc := 9) (i := 3) dX8_lead_9 rfl rfl ?_
    refine ab_if_lt (pc := 10) (tgt := 18) dX8_lead_10 rfl (fun hc => ?_) (fun hc => ?_)
    · have hk := ab_ifp hk hc
      refine ab_bipush (pc := 18) dX8_lead_18 ab_p8_m2 ab_k_m2 ?_
      obtain rfl := Option.some.inj hk
      exact ab_reti (pc := 20) dX8_lead_20 (Or.inl rfl)
    · have hk := ab_ifn hk hc
      refine ab_iload_n (pc := 13) (i := 3) dX8_lead_13 rfl rfl ?_
      refine ab_iconst (pc := 14) dX8_lead_14 ab_k_1 ?_
      refine ab_icmp_le (pc := 15) (tgt := 21) dX8_lead_15 rfl (fun hc => ?_) (fun hc => ?_)
      · have hk := ab_ifp hk hc
        refine ab_aload_n (pc := 21) (i := 0) dX8_lead_21 rfl rfl ?_
        obtain ⟨t2, ht2, hk⟩ := ab_bnd hk
        refine ab_getR (pc := 22) dX8_lead_22 fl_RX8_34 ht2 ?_
        obtain ⟨t3, ht3, hk⟩ := ab_bnd hk
        refine ab_getR (pc := 25) dX8_lead_25 fl_RX8_145 ht3 ?_
        refine ab_iload_n (pc := 28) (i := 1) dX8_lead_28 rfl rfl ?_
        refine ab_bipush (pc := 29) dX8_lead_29 ab_p8_6 ab_k_6 ?_
        refine ab_imul (pc := 31) dX8_lead_31 ?_
        refine ab_iload_n (pc := 32) (i := 2) dX8_lead_32 rfl rfl ?_
        refine ab_iadd (pc := 33) dX8_lead_33 ?_
        obtain ⟨t4, ht4, hk⟩ := ab_bnd hk
        refine ab_iald (pc := 34) dX8_lead_34 ht4 ?_
        refine ab_istore (pc := 35) (i := 4) (lv2 := [some (ab_R a0), some (ab_I a1), some (ab_I a2), some (ab_I a3), some (ab_I t4)]) dX8_lead_35 (Nat.le_of_ble_eq_true rfl) rfl rfl ?_
        refine ab_iload (pc := 37) (i := 4) dX8_lead_37 rfl ?_
        refine ab_iload_n (pc := 39) (i := 3) dX8_lead_39 rfl rfl ?_
        refine ab_icmp_ne (pc := 40) (tgt := 46) dX8_lead_40 rfl (fun hc => ?_) (fun hc => ?_)
        · have hk := ab_ifn hk hc
          refine ab_aload_n (pc := 46) (i := 0) dX8_lead_46 rfl rfl ?_
          obtain ⟨t5, ht5, hk⟩ := ab_bnd hk
          refine ab_getR (pc := 47) dX8_lead_47 fl_RX8_44 ht5 ?_
          refine ab_aload_n (pc := 50) (i := 0) dX8_lead_50 rfl rfl ?_
          obtain ⟨t6, ht6, hk⟩ := ab_bnd hk
          refine ab_getR (pc := 51) dX8_lead_51 fl_RX8_34 ht6 ?_
          obtain ⟨q7, hq7, hk⟩ := ab_bnd hk
          obtain ⟨hb, hq7⟩ := ab_on_some hq7
          refine ab_callVV (st := []) (as := [ab_R t6]) (b := t5) (pc := 54) dX8_lead_54 ml_RX8_333 my_X3_keep mv_X3_keep hb (ct_X3_keep hq7) ⟨Nat.le_of_ble_eq_true rfl, Nat.le_of_ble_eq_true rfl⟩ rfl (Nat.le_of_ble_eq_true rfl) rfl ?_
          refine ab_aload_n (pc := 57) (i := 0) dX8_lead_57 rfl rfl ?_
          obtain ⟨t8, ht8, hk⟩ := ab_bnd hk
          refine ab_getR (pc := 58) dX8_lead_58 fl_RX8_34 ht8 ?_
          obtain ⟨t9, ht9, hk⟩ := ab_bnd hk
          refine ab_getR (pc := 61) dX8_lead_61 fl_RX8_145 ht9 ?_
          refine ab_iload_n (pc := 64) (i := 1) dX8_lead_64 rfl rfl ?_
          refine ab_bipush (pc := 65) dX8_lead_65 ab_p8_6 ab_k_6 ?_
          refine ab_imul (pc := 67) dX8_lead_67 ?_
          refine ab_iload_n (pc := 68) (i := 2) dX8_lead_68 rfl rfl ?_
          refine ab_iadd (pc := 69) dX8_lead_69 ?_
          refine ab_iload_n (pc := 70) (i := 3) dX8_lead_70 rfl rfl ?_
          obtain ⟨h1, hh1, hk⟩ := ab_bnd hk
          refine ab_iast (pc := 71) dX8_lead_71 hh1 ?_
          refine ab_aload_n (pc := 72) (i := 0) dX8_lead_72 rfl rfl ?_
          obtain ⟨q10, hq10, hk⟩ := ab_bnd hk
          obtain ⟨hb, hq10⟩ := ab_on_some hq10
          refine ab_callVV (st := []) (as := []) (b := a0) (pc := 73) dX8_lead_73 ml_RX8_90 my_X8_renew mv_X8_renew hb (ct_X8_renew hq10) ⟨Nat.le_of_ble_eq_true rfl, Nat.le_of_ble_eq_true rfl⟩ rfl (Nat.le_of_ble_eq_true rfl) rfl ?_
          refine ab_iload (pc := 76) (i := 4) dX8_lead_76 rfl ?_
          obtain rfl := Option.some.inj hk
          exact ab_reti (pc := 78) dX8_lead_78 (Or.inl rfl)
        · have hk := ab_ifp hk hc
          refine ab_iload (pc := 43) (i := 4) dX8_lead_43 rfl ?_
          obtain rfl := Option.some.inj hk
          exact ab_reti (pc := 45) dX8_lead_45 (Or.inl rfl)
      · have hk := ab_ifn hk hc
        refine ab_bipush (pc := 18) dX8_lead_18 ab_p8_m2 ab_k_m2 ?_
        obtain rfl := Option.some.inj hk
        exact ab_reti (pc := 20) dX8_lead_20 (Or.inl rfl)
theorem dX8_swaps_0 : decode cX8_swaps 0 = .ok (.aload_n 0, 1) := by decide +kernel
theorem dX8_swaps_1 : decode cX8_swaps 1 = .ok (.iload_n 1, 1) := by decide +kernel
theorem dX8_swaps_2 : decode cX8_swaps 2 = .ok (.iload_n 2, 1) := by decide +kernel
theorem dX8_swaps_3 : decode cX8_swaps 3 = .ok (.invokevirtual 138, 3) := by decide +kernel
theorem dX8_swaps_6 : decode cX8_swaps 6 = .ok (.ifCond .eq 17, 3) := by decide +kernel
theorem dX8_swaps_9 : decode cX8_swaps 9 = .ok (.aload_n 0, 1) := by decide +kernel
theorem dX8_swaps_10 : decode cX8_swaps 10 = .ok (.iload_n 1, 1) := by decide +kernel
theorem dX8_swaps_11 : decode cX8_swaps 11 = .ok (.iload_n 3, 1) := by decide +kernel
theorem dX8_swaps_12 : decode cX8_swaps 12 = .ok (.invokevirtual 138, 3) := by decide +kernel
theorem dX8_swaps_15 : decode cX8_swaps 15 = .ok (.ifCond .eq 8, 3) := by decide +kernel
theorem dX8_swaps_18 : decode cX8_swaps 18 = .ok (.iload_n 2, 1) := by decide +kernel
theorem dX8_swaps_19 : decode cX8_swaps 19 = .ok (.iload_n 3, 1) := by decide +kernel
theorem dX8_swaps_20 : decode cX8_swaps 20 = .ok (.if_icmp .ne 6, 3) := by decide +kernel
theorem dX8_swaps_23 : decode cX8_swaps 23 = .ok (.bipush (-2), 2) := by decide +kernel
theorem dX8_swaps_25 : decode cX8_swaps 25 = .ok (.ireturn, 1) := by decide +kernel
theorem dX8_swaps_26 : decode cX8_swaps 26 = .ok (.iload_n 1, 1) := by decide +kernel
theorem dX8_swaps_27 : decode cX8_swaps 27 = .ok (.bipush 6, 2) := by decide +kernel
theorem dX8_swaps_29 : decode cX8_swaps 29 = .ok (.imul, 1) := by decide +kernel
theorem dX8_swaps_30 : decode cX8_swaps 30 = .ok (.iload_n 2, 1) := by decide +kernel
theorem dX8_swaps_31 : decode cX8_swaps 31 = .ok (.iadd, 1) := by decide +kernel
theorem dX8_swaps_32 : decode cX8_swaps 32 = .ok (.istore 4, 2) := by decide +kernel
theorem dX8_swaps_34 : decode cX8_swaps 34 = .ok (.iload_n 1, 1) := by decide +kernel
theorem dX8_swaps_35 : decode cX8_swaps 35 = .ok (.bipush 6, 2) := by decide +kernel
theorem dX8_swaps_37 : decode cX8_swaps 37 = .ok (.imul, 1) := by decide +kernel
theorem dX8_swaps_38 : decode cX8_swaps 38 = .ok (.iload_n 3, 1) := by decide +kernel
theorem dX8_swaps_39 : decode cX8_swaps 39 = .ok (.iadd, 1) := by decide +kernel
theorem dX8_swaps_40 : decode cX8_swaps 40 = .ok (.istore 5, 2) := by decide +kernel
theorem dX8_swaps_42 : decode cX8_swaps 42 = .ok (.aload_n 0, 1) := by decide +kernel
theorem dX8_swaps_43 : decode cX8_swaps 43 = .ok (.getfield 34, 3) := by decide +kernel
theorem dX8_swaps_46 : decode cX8_swaps 46 = .ok (.getfield 142, 3) := by decide +kernel
theorem dX8_swaps_49 : decode cX8_swaps 49 = .ok (.iload 4, 2) := by decide +kernel
theorem dX8_swaps_51 : decode cX8_swaps 51 = .ok (.iaload, 1) := by decide +kernel
theorem dX8_swaps_52 : decode cX8_swaps 52 = .ok (.aload_n 0, 1) := by decide +kernel
theorem dX8_swaps_53 : decode cX8_swaps 53 = .ok (.getfield 34, 3) := by decide +kernel
theorem dX8_swaps_56 : decode cX8_swaps 56 = .ok (.getfield 142, 3) := by decide +kernel
theorem dX8_swaps_59 : decode cX8_swaps 59 = .ok (.iload 5, 2) := by decide +kernel
theorem dX8_swaps_61 : decode cX8_swaps 61 = .ok (.iaload, 1) := by decide +kernel
theorem dX8_swaps_62 : decode cX8_swaps 62 = .ok (.if_icmp .eq 6, 3) := by decide +kernel
theorem dX8_swaps_65 : decode cX8_swaps 65 = .ok (.bipush (-6), 2) := by decide +kernel
theorem dX8_swaps_67 : decode cX8_swaps 67 = .ok (.ireturn, 1) := by decide +kernel
theorem dX8_swaps_68 : decode cX8_swaps 68 = .ok (.aload_n 0, 1) := by decide +kernel
theorem dX8_swaps_69 : decode cX8_swaps 69 = .ok (.getfield 44, 3) := by decide +kernel
theorem dX8_swaps_72 : decode cX8_swaps 72 = .ok (.aload_n 0, 1) := by decide +kernel
theorem dX8_swaps_73 : decode cX8_swaps 73 = .ok (.getfield 34, 3) := by decide +kernel
theorem dX8_swaps_76 : decode cX8_swaps 76 = .ok (.invokevirtual 333, 3) := by decide +kernel
theorem dX8_swaps_79 : decode cX8_swaps 79 = .ok (.aload_n 0, 1) := by decide +kernel
theorem dX8_swaps_80 : decode cX8_swaps 80 = .ok (.getfield 34, 3) := by decide +kernel
theorem dX8_swaps_83 : decode cX8_swaps 83 = .ok (.iload 4, 2) := by decide +kernel
theorem dX8_swaps_85 : decode cX8_swaps 85 = .ok (.iload 5, 2) := by decide +kernel
theorem dX8_swaps_87 : decode cX8_swaps 87 = .ok (.invokevirtual 339, 3) := by decide +kernel
theorem dX8_swaps_90 : decode cX8_swaps 90 = .ok (.aload_n 0, 1) := by decide +kernel
theorem dX8_swaps_91 : decode cX8_swaps 91 = .ok (.invokevirtual 90, 3) := by decide +kernel
theorem dX8_swaps_94 : decode cX8_swaps 94 = .ok (.iconst 1, 1) := by decide +kernel
theorem dX8_swaps_95 : decode cX8_swaps 95 = .ok (.ireturn, 1) := by decide +kernel
abbrev mm_X8_swaps : ab_M := (RX8, 6, (some .int), false, 6, 139, none)
noncomputable def f_X8_swaps (a0 : Int) (a1 : Int) (a2 : Int) (a3 : Int) (h : ab_H) : Option (Int × ab_H) :=
  (ab_on h 9 a0 (f_X8_isTerm a0 a1 a2 h)).bind fun q1 =>
  if q1.1 = (0 : Int) then
    some ((-2 : Int), q1.2)
  else
  (ab_on q1.2 9 a0 (f_X8_isTerm a0 a1 a3 q1.2)).bind fun q2 =>
  if q2.1 = (0 : Int) then
    some ((-2 : Int), q2.2)
  else
  if a2 = a3 then
    some ((-2 : Int), q2.2)
  else
  (ab_get q2.2 9 4 a0).bind fun t3 =>
  (ab_get q2.2 1 3 t3).bind fun t4 =>
  (ab_ald q2.2 11 t4 (ab_w32 ((ab_w32 (a1 * (6 : Int))) + a2))).bind fun t5 =>
  (ab_get q2.2 9 4 a0).bind fun t6 =>
  (ab_get q2.2 1 3 t6).bind fun t7 =>
  (ab_ald q2.2 11 t7 (ab_w32 ((ab_w32 (a1 * (6 : Int))) + a3))).bind fun t8 =>
  if t5 = t8 then
    (ab_get q2.2 9 6 a0).bind fun t9 =>
    (ab_get q2.2 9 4 a0).bind fun t10 =>
    (ab_on q2.2 4 t9 (f_X3_keep t9 t10 q2.2)).bind fun q11 =>
    (ab_get q11 9 4 a0).bind fun t12 =>
    (ab_on q11 1 t12 (f_X0_exchange t12 (ab_w32 ((ab_w32 (a1 * (6 : Int))) + a2)) (ab_w32 ((ab_w32 (a1 * (6 : Int))) + a3)) q11)).bind fun q13 =>
    (ab_on q13 9 a0 (f_X8_renew a0 q13)).bind fun q14 =>
    some ((1 : Int), q14)
  else
  some ((-6 : Int), q2.2)
set_option maxRecDepth 20000 in
theorem ct_X8_swaps {a0 a1 a2 a3 : Int} {h : ab_H} {q : Int × ab_H} (hk : f_X8_swaps a0 a1 a2 a3 h = some q) : ab_CT yX8_swaps cX8_swaps 6 (some .int) 6 139 [ab_R a0, ab_I a1, ab_I a2, ab_I a3] h (some (ab_I q.1)) q.2 := by
  refine ab_CT.mk_ 2 (own := RX8) (ini := false) (lv := [some (ab_R a0), some (ab_I a1), some (ab_I a2), some (ab_I a3), none, none]) rfl (by decide +kernel) (fun q => by cases q) rfl rfl ?_
  unfold f_X8_swaps at hk
  show ab_E mm_X8_swaps cX8_swaps 0 _ [] h _ _
  refine ab_aload_n (pc := 0) (i := 0) dX8_swaps_0 rfl rfl ?_
  refine ab_iload_n (pc := 1) (i := 1) dX8_swaps_1 rfl rfl ?_
  refine ab_iload_n (pc := 2) (i := 2) dX8_swaps_2 rfl rfl ?_
  obtain ⟨q1, hq1, hk⟩ := ab_bnd hk
  obtain ⟨hb, hq1⟩ := ab_on_some hq1
  refine ab_callVI (st := []) (as := [ab_I a1, ab_I a2]) (b := a0) (pc := 3) dX8_swaps_3 ml_RX8_138 my_X8_isTerm mv_X8_isTerm hb (ct_X8_isTerm hq1) ⟨Nat.le_of_ble_eq_true rfl, Nat.le_of_ble_eq_true rfl⟩ rfl (Nat.le_of_ble_eq_true rfl) rfl ?_
  refine ab_if_eq (pc := 6) (tgt := 23) dX8_swaps_6 rfl (fun hc => ?_) (fun hc => ?_)
  · have hk := ab_ifp hk hc
    refine ab_bipush (pc := 23) dX8_swaps_23 ab_p8_m2 ab_k_m2 ?_
    obtain rfl := Option.some.inj hk
    exact ab_reti (pc := 25) dX8_swaps_25 (Or.inl rfl)
  · have hk := ab_ifn hk hc
    refine ab_aload_n (pc := 9) (i := 0) dX8_swaps_9 rfl rfl ?_
    refine ab_iload_n (pc := 10) (i := 1) dX8_swaps_10 rfl rfl ?_
    refine ab_iload_n (pc := 11) (i := 3) dX8_swaps_11 rfl rfl ?_
    obtain ⟨q2, hq2, hk⟩ := ab_bnd hk
    obtain ⟨hb, hq2⟩ := ab_on_some hq2
    refine ab_callVI (st := []) (as := [ab_I a1, ab_I a3]) (b := a0) (pc := 12) dX8_swaps_12 ml_RX8_138 my_X8_isTerm mv_X8_isTerm hb (ct_X8_isTerm hq2) ⟨Nat.le_of_ble_eq_true rfl, Nat.le_of_ble_eq_true rfl⟩ rfl (Nat.le_of_ble_eq_true rfl) rfl ?_
    refine ab_if_eq (pc := 15) (tgt := 23) dX8_swaps_15 rfl (fun hc => ?_) (fun hc => ?_)
    · have hk := ab_ifp hk hc
      refine ab_bipush (pc := 23) dX8_swaps_23 ab_p8_m2 ab_k_m2 ?_
      obtain rfl := Option.some.inj hk
      exact ab_reti (pc := 25) dX8_swaps_25 (Or.inl rfl)
    · have hk := ab_ifn hk hc
      refine ab_iload_n (pc := 18) (i := 2) dX8_swaps_18 rfl rfl ?_
      refine ab_iload_n (pc := 19) (i := 3) dX8_swaps_19 rfl rfl ?_
      refine ab_icmp_ne (pc := 20) (tgt := 26) dX8_swaps_20 rfl (fun hc => ?_) (fun hc => ?_)
      · have hk := ab_ifn hk hc
        refine ab_iload_n (pc := 26) (i := 1) dX8_swaps_26 rfl rfl ?_
        refine ab_bipush (pc := 27) dX8_swaps_27 ab_p8_6 ab_k_6 ?_
        refine ab_imul (pc := 29) dX8_swaps_29 ?_
        refine ab_iload_n (pc := 30) (i := 2) dX8_swaps_30 rfl rfl ?_
        refine ab_iadd (pc := 31) dX8_swaps_31 ?_
        refine ab_istore (pc := 32) (i := 4) (lv2 := [some (ab_R a0), some (ab_I a1), some (ab_I a2), some (ab_I a3), some (ab_I (ab_w32 ((ab_w32 (a1 * (6 : Int))) + a2))), none]) dX8_swaps_32 (Nat.le_of_ble_eq_true rfl) rfl rfl ?_
        refine ab_iload_n (pc := 34) (i := 1) dX8_swaps_34 rfl rfl ?_
        refine ab_bipush (pc := 35) dX8_swaps_35 ab_p8_6 ab_k_6 ?_
        refine ab_imul (pc := 37) dX8_swaps_37 ?_
        refine ab_iload_n (pc := 38) (i := 3) dX8_swaps_38 rfl rfl ?_
        refine ab_iadd (pc := 39) dX8_swaps_39 ?_
        refine ab_istore (pc := 40) (i := 5) (lv2 := [some (ab_R a0), some (ab_I a1), some (ab_I a2), some (ab_I a3), some (ab_I (ab_w32 ((ab_w32 (a1 * (6 : Int))) + a2))), some (ab_I (ab_w32 ((ab_w32 (a1 * (6 : Int))) + a3)))]) dX8_swaps_40 (Nat.le_of_ble_eq_true rfl) rfl rfl ?_
        refine ab_aload_n (pc := 42) (i := 0) dX8_swaps_42 rfl rfl ?_
        obtain ⟨t3, ht3, hk⟩ := ab_bnd hk
        refine ab_getR (pc := 43) dX8_swaps_43 fl_RX8_34 ht3 ?_
        obtain ⟨t4, ht4, hk⟩ := ab_bnd hk
        refine ab_getR (pc := 46) dX8_swaps_46 fl_RX8_142 ht4 ?_
        refine ab_iload (pc := 49) (i := 4) dX8_swaps_49 rfl ?_
        obtain ⟨t5, ht5, hk⟩ := ab_bnd hk
        refine ab_iald (pc := 51) dX8_swaps_51 ht5 ?_
        refine ab_aload_n (pc := 52) (i := 0) dX8_swaps_52 rfl rfl ?_
        obtain ⟨t6, ht6, hk⟩ := ab_bnd hk
        refine ab_getR (pc := 53) dX8_swaps_53 fl_RX8_34 ht6 ?_
        obtain ⟨t7, ht7, hk⟩ := ab_bnd hk
        refine ab_getR (pc := 56) dX8_swaps_56 fl_RX8_142 ht7 ?_
        refine ab_iload (pc := 59) (i := 5) dX8_swaps_59 rfl ?_
        obtain ⟨t8, ht8, hk⟩ := ab_bnd hk
        refine ab_iald (pc := 61) dX8_swaps_61 ht8 ?_
        refine ab_icmp_eq (pc := 62) (tgt := 68) dX8_swaps_62 rfl (fun hc => ?_) (fun hc => ?_)
        · have hk := ab_ifp hk hc
          refine ab_aload_n (pc := 68) (i := 0) dX8_swaps_68 rfl rfl ?_
          obtain ⟨t9, ht9, hk⟩ := ab_bnd hk
          refine ab_getR (pc := 69) dX8_swaps_69 fl_RX8_44 ht9 ?_
          refine ab_aload_n (pc := 72) (i := 0) dX8_swaps_72 rfl rfl ?_
          obtain ⟨t10, ht10, hk⟩ := ab_bnd hk
          refine ab_getR (pc := 73) dX8_swaps_73 fl_RX8_34 ht10 ?_
          obtain ⟨q11, hq11, hk⟩ := ab_bnd hk
          obtain ⟨hb, hq11⟩ := ab_on_some hq11
          refine ab_callVV (st := []) (as := [ab_R t10]) (b := t9) (pc := 76) dX8_swaps_76 ml_RX8_333 my_X3_keep mv_X3_keep hb (ct_X3_keep hq11) ⟨Nat.le_of_ble_eq_true rfl, Nat.le_of_ble_eq_true rfl⟩ rfl (Nat.le_of_ble_eq_true rfl) rfl ?_
          refine ab_aload_n (pc := 79) (i := 0) dX8_swaps_79 rfl rfl ?_
          obtain ⟨t12, ht12, hk⟩ := ab_bnd hk
          refine ab_getR (pc := 80) dX8_swaps_80 fl_RX8_34 ht12 ?_
          refine ab_iload (pc := 83) (i := 4) dX8_swaps_83 rfl ?_
          refine ab_iload (pc := 85) (i := 5) dX8_swaps_85 rfl ?_
          obtain ⟨q13, hq13, hk⟩ := ab_bnd hk
          obtain ⟨hb, hq13⟩ := ab_on_some hq13
          refine ab_callVV (st := []) (as := [ab_I (ab_w32 ((ab_w32 (a1 * (6 : Int))) + a2)), ab_I (ab_w32 ((ab_w32 (a1 * (6 : Int))) + a3))]) (b := t12) (pc := 87) dX8_swaps_87 ml_RX8_339 my_X0_exchange mv_X0_exchange hb (ct_X0_exchange hq13) ⟨Nat.le_of_ble_eq_true rfl, Nat.le_of_ble_eq_true rfl⟩ rfl (Nat.le_of_ble_eq_true rfl) rfl ?_
          refine ab_aload_n (pc := 90) (i := 0) dX8_swaps_90 rfl rfl ?_
          obtain ⟨q14, hq14, hk⟩ := ab_bnd hk
          obtain ⟨hb, hq14⟩ := ab_on_some hq14
          refine ab_callVV (st := []) (as := []) (b := a0) (pc := 91) dX8_swaps_91 ml_RX8_90 my_X8_renew mv_X8_renew hb (ct_X8_renew hq14) ⟨Nat.le_of_ble_eq_true rfl, Nat.le_of_ble_eq_true rfl⟩ rfl (Nat.le_of_ble_eq_true rfl) rfl ?_
          refine ab_iconst (pc := 94) dX8_swaps_94 ab_k_1 ?_
          obtain rfl := Option.some.inj hk
          exact ab_reti (pc := 95) dX8_swaps_95 (Or.inl rfl)
        · have hk := ab_ifn hk hc
          refine ab_bipush (pc := 65) dX8_swaps_65 ab_p8_m6 ab_k_m6 ?_
          obtain rfl := Option.some.inj hk
          exact ab_reti (pc := 67) dX8_swaps_67 (Or.inl rfl)
      · have hk := ab_ifp hk hc
        refine ab_bipush (pc := 23) dX8_swaps_23 ab_p8_m2 ab_k_m2 ?_
        obtain rfl := Option.some.inj hk
        exact ab_reti (pc := 25) dX8_swaps_25 (Or.inl rfl)
theorem dX8_see_0 : decode cX8_see 0 = .ok (.aload_n 0, 1) := by decide +kernel
theorem dX8_see_1 : decode cX8_see 1 = .ok (.iload_n 1, 1) := by decide +kernel
theorem dX8_see_2 : decode cX8_see 2 = .ok (.invokevirtual 161, 3) := by decide +kernel
theorem dX8_see_5 : decode cX8_see 5 = .ok (.ifCond .eq 11, 3) := by decide +kernel
theorem dX8_see_8 : decode cX8_see 8 = .ok (.aload_n 0, 1) := by decide +kernel
theorem dX8_see_9 : decode cX8_see 9 = .ok (.iload_n 2, 1) := by decide +kernel
theorem dX8_see_10 : decode cX8_see 10 = .ok (.invokevirtual 161, 3) := by decide +kernel
theorem dX8_see_13 : decode cX8_see 13 = .ok (.ifCond .ne 6, 3) := by decide +kernel
theorem dX8_see_16 : decode cX8_see 16 = .ok (.bipush (-2), 2) := by decide +kernel
theorem dX8_see_18 : decode cX8_see 18 = .ok (.ireturn, 1) := by decide +kernel
theorem dX8_see_19 : decode cX8_see 19 = .ok (.aload_n 0, 1) := by decide +kernel
theorem dX8_see_20 : decode cX8_see 20 = .ok (.getfield 34, 3) := by decide +kernel
theorem dX8_see_23 : decode cX8_see 23 = .ok (.getfield 107, 3) := by decide +kernel
theorem dX8_see_26 : decode cX8_see 26 = .ok (.bipush 12, 2) := by decide +kernel
theorem dX8_see_28 : decode cX8_see 28 = .ok (.if_icmp .lt 6, 3) := by decide +kernel
theorem dX8_see_31 : decode cX8_see 31 = .ok (.bipush (-5), 2) := by decide +kernel
theorem dX8_see_33 : decode cX8_see 33 = .ok (.ireturn, 1) := by decide +kernel
theorem dX8_see_34 : decode cX8_see 34 = .ok (.iload_n 1, 1) := by decide +kernel
theorem dX8_see_35 : decode cX8_see 35 = .ok (.iload_n 2, 1) := by decide +kernel
theorem dX8_see_36 : decode cX8_see 36 = .ok (.if_icmp .ne 6, 3) := by decide +kernel
theorem dX8_see_39 : decode cX8_see 39 = .ok (.bipush (-6), 2) := by decide +kernel
theorem dX8_see_41 : decode cX8_see 41 = .ok (.ireturn, 1) := by decide +kernel
theorem dX8_see_42 : decode cX8_see 42 = .ok (.aload_n 0, 1) := by decide +kernel
theorem dX8_see_43 : decode cX8_see 43 = .ok (.getfield 44, 3) := by decide +kernel
theorem dX8_see_46 : decode cX8_see 46 = .ok (.aload_n 0, 1) := by decide +kernel
theorem dX8_see_47 : decode cX8_see 47 = .ok (.getfield 34, 3) := by decide +kernel
theorem dX8_see_50 : decode cX8_see 50 = .ok (.invokevirtual 333, 3) := by decide +kernel
theorem dX8_see_53 : decode cX8_see 53 = .ok (.aload_n 0, 1) := by decide +kernel
theorem dX8_see_54 : decode cX8_see 54 = .ok (.getfield 34, 3) := by decide +kernel
theorem dX8_see_57 : decode cX8_see 57 = .ok (.aload_n 0, 1) := by decide +kernel
theorem dX8_see_58 : decode cX8_see 58 = .ok (.getfield 51, 3) := by decide +kernel
theorem dX8_see_61 : decode cX8_see 61 = .ok (.getfield 164, 3) := by decide +kernel
theorem dX8_see_64 : decode cX8_see 64 = .ok (.iload_n 1, 1) := by decide +kernel
theorem dX8_see_65 : decode cX8_see 65 = .ok (.laload, 1) := by decide +kernel
theorem dX8_see_66 : decode cX8_see 66 = .ok (.aload_n 0, 1) := by decide +kernel
theorem dX8_see_67 : decode cX8_see 67 = .ok (.getfield 51, 3) := by decide +kernel
theorem dX8_see_70 : decode cX8_see 70 = .ok (.getfield 164, 3) := by decide +kernel
theorem dX8_see_73 : decode cX8_see 73 = .ok (.iload_n 2, 1) := by decide +kernel
theorem dX8_see_74 : decode cX8_see 74 = .ok (.laload, 1) := by decide +kernel
theorem dX8_see_75 : decode cX8_see 75 = .ok (.invokevirtual 343, 3) := by decide +kernel
theorem dX8_see_78 : decode cX8_see 78 = .ok (.aload_n 0, 1) := by decide +kernel
theorem dX8_see_79 : decode cX8_see 79 = .ok (.invokevirtual 90, 3) := by decide +kernel
theorem dX8_see_82 : decode cX8_see 82 = .ok (.aload_n 0, 1) := by decide +kernel
theorem dX8_see_83 : decode cX8_see 83 = .ok (.getfield 34, 3) := by decide +kernel
theorem dX8_see_86 : decode cX8_see 86 = .ok (.getfield 107, 3) := by decide +kernel
theorem dX8_see_89 : decode cX8_see 89 = .ok (.ireturn, 1) := by decide +kernel
abbrev mm_X8_see : ab_M := (RX8, 3, (some .int), false, 6, 139, none)
noncomputable def f_X8_see (a0 : Int) (a1 : Int) (a2 : Int) (h : ab_H) : Option (Int × ab_H) :=
  (ab_on h 9 a0 (f_X8_isWord a0 a1 h)).bind fun q1 =>
  if q1.1 = (0 : Int) then
    some ((-2 : Int), q1.2)
  else
  (ab_on q1.2 9 a0 (f_X8_isWord a0 a2 q1.2)).bind fun q2 =>
  if q2.1 = (0 : Int) then
    some ((-2 : Int), q2.2)
  else
  (ab_get q2.2 9 4 a0).bind fun t3 =>
  (ab_get q2.2 1 9 t3).bind fun t4 =>
  if t4 < (12 : Int) then
    if a1 = a2 then
      some ((-6 : Int), q2.2)
    else
    (ab_get q2.2 9 6 a0).bind fun t5 =>
    (ab_get q2.2 9 4 a0).bind fun t6 =>
    (ab_on q2.2 4 t5 (f_X3_keep t5 t6 q2.2)).bind fun q7 =>
    (ab_get q7 9 4 a0).bind fun t8 =>
    (ab_get q7 9 7 a0).bind fun t9 =>
    (ab_get q7 8 1 t9).bind fun t10 =>
    (ab_ald q7 12 t10 a1).bind fun t11 =>
    (ab_get q7 9 7 a0).bind fun t12 =>
    (ab_get q7 8 1 t12).bind fun t13 =>
    (ab_ald q7 12 t13 a2).bind fun t14 =>
    (ab_on q7 1 t8 (f_X0_addSee t8 t11 t14 q7)).bind fun q15 =>
    (ab_on q15 9 a0 (f_X8_renew a0 q15)).bind fun q16 =>
    (ab_get q16 9 4 a0).bind fun t17 =>
    (ab_get q16 1 9 t17).bind fun t18 =>
    some (t18, q16)
  else
  some ((-5 : Int), q2.2)
set_option maxRecDepth 20000 in
theorem ct_X8_see {a0 a1 a2 : Int} {h : ab_H} {q : Int × ab_H} (hk : f_X8_see a0 a1 a2 h = some q) : ab_CT yX8_see cX8_see 3 (some .int) 6 139 [ab_R a0, ab_I a1, ab_I a2] h (some (ab_I q.1)) q.2 := by
  refine ab_CT.mk_ 0 (own := RX8) (ini := false) (lv := [some (ab_R a0), some (ab_I a1), some (ab_I a2)]) rfl (by decide +kernel) (fun q => by cases q) rfl rfl ?_
  unfold f_X8_see at hk
  show ab_E mm_X8_see cX8_see 0 _ [] h _ _
  refine ab_aload_n (pc := 0) (i := 0) dX8_see_0 rfl rfl ?_
  refine ab_iload_n (pc := 1) (i := 1) dX8_see_1 rfl rfl ?_
  obtain ⟨q1, hq1, hk⟩ := ab_bnd hk
  obtain ⟨hb, hq1⟩ := ab_on_some hq1
  refine ab_callVI (st := []) (as := [ab_I a1]) (b := a0) (pc := 2) dX8_see_2 ml_RX8_161 my_X8_isWord mv_X8_isWord hb (ct_X8_isWord hq1) ⟨Nat.le_of_ble_eq_true rfl, Nat.le_of_ble_eq_true rfl⟩ rfl (Nat.le_of_ble_eq_true rfl) rfl ?_
  refine ab_if_eq (pc := 5) (tgt := 16) dX8_see_5 rfl (fun hc => ?_) (fun hc => ?_)
  · have hk := ab_ifp hk hc
    refine ab_bipush (pc := 16) dX8_see_16 ab_p8_m2 ab_k_m2 ?_
    obtain rfl := Option.some.inj hk
    exact ab_reti (pc := 18) dX8_see_18 (Or.inl rfl)
  · have hk := ab_ifn hk hc
    refine ab_aload_n (pc := 8) (i := 0) dX8_see_8 rfl rfl ?_
    refine ab_iload_n (pc := 9) (i := 2) dX8_see_9 rfl rfl ?_
    obtain ⟨q2, hq2, hk⟩ := ab_bnd hk
    obtain ⟨hb, hq2⟩ := ab_on_some hq2
    refine ab_callVI (st := []) (as := [ab_I a2]) (b := a0) (pc := 10) dX8_see_10 ml_RX8_161 my_X8_isWord mv_X8_isWord hb (ct_X8_isWord hq2) ⟨Nat.le_of_ble_eq_true rfl, Nat.le_of_ble_eq_true rfl⟩ rfl (Nat.le_of_ble_eq_true rfl) rfl ?_
    refine ab_if_ne (pc := 13) (tgt := 19) dX8_see_13 rfl (fun hc => ?_) (fun hc => ?_)
    · have hk := ab_ifn hk hc
      refine ab_aload_n (pc := 19) (i := 0) dX8_see_19 rfl rfl ?_
      obtain ⟨t3, ht3, hk⟩ := ab_bnd hk
      refine ab_getR (pc := 20) dX8_see_20 fl_RX8_34 ht3 ?_
      obtain ⟨t4, ht4, hk⟩ := ab_bnd hk
      refine ab_getI (pc := 23) dX8_see_23 fl_RX8_107 ht4 ?_
      refine ab_bipush (pc := 26) dX8_see_26 ab_p8_12 ab_k_12 ?_
      refine ab_icmp_lt (pc := 28) (tgt := 34) dX8_see_28 rfl (fun hc => ?_) (fun hc => ?_)
      · have hk := ab_ifp hk hc
        refine ab_iload_n (pc := 34) (i := 1) dX8_see_34 rfl rfl ?_
        refine ab_iload_n (pc := 35) (i := 2) dX8_see_35 rfl rfl ?_
        refine ab_icmp_ne (pc := 36) (tgt := 42) dX8_see_36 rfl (fun hc => ?_) (fun hc => ?_)
        · have hk := ab_ifn hk hc
          refine ab_aload_n (pc := 42) (i := 0) dX8_see_42 rfl rfl ?_
          obtain ⟨t5, ht5, hk⟩ := ab_bnd hk
          refine ab_getR (pc := 43) dX8_see_43 fl_RX8_44 ht5 ?_
          refine ab_aload_n (pc := 46) (i := 0) dX8_see_46 rfl rfl ?_
          obtain ⟨t6, ht6, hk⟩ := ab_bnd hk
          refine ab_getR (pc := 47) dX8_see_47 fl_RX8_34 ht6 ?_
          obtain ⟨q7, hq7, hk⟩ := ab_bnd hk
          obtain ⟨hb, hq7⟩ := ab_on_some hq7
          refine ab_callVV (st := []) (as := [ab_R t6]) (b := t5) (pc := 50) dX8_see_50 ml_RX8_333 my_X3_keep mv_X3_keep hb (ct_X3_keep hq7) ⟨Nat.le_of_ble_eq_true rfl, Nat.le_of_ble_eq_true rfl⟩ rfl (Nat.le_of_ble_eq_true rfl) rfl ?_
          refine ab_aload_n (pc := 53) (i := 0) dX8_see_53 rfl rfl ?_
          obtain ⟨t8, ht8, hk⟩ := ab_bnd hk
          refine ab_getR (pc := 54) dX8_see_54 fl_RX8_34 ht8 ?_
          refine ab_aload_n (pc := 57) (i := 0) dX8_see_57 rfl rfl ?_
          obtain ⟨t9, ht9, hk⟩ := ab_bnd hk
          refine ab_getR (pc := 58) dX8_see_58 fl_RX8_51 ht9 ?_
          obtain ⟨t10, ht10, hk⟩ := ab_bnd hk
          refine ab_getR (pc := 61) dX8_see_61 fl_RX8_164 ht10 ?_
          refine ab_iload_n (pc := 64) (i := 1) dX8_see_64 rfl rfl ?_
          obtain ⟨t11, ht11, hk⟩ := ab_bnd hk
          refine ab_lald (pc := 65) dX8_see_65 ht11 ?_
          refine ab_aload_n (pc := 66) (i := 0) dX8_see_66 rfl rfl ?_
          obtain ⟨t12, ht12, hk⟩ := ab_bnd hk
          refine ab_getR (pc := 67) dX8_see_67 fl_RX8_51 ht12 ?_
          obtain ⟨t13, ht13, hk⟩ := ab_bnd hk
          refine ab_getR (pc := 70) dX8_see_70 fl_RX8_164 ht13 ?_
          refine ab_iload_n (pc := 73) (i := 2) dX8_see_73 rfl rfl ?_
          obtain ⟨t14, ht14, hk⟩ := ab_bnd hk
          refine ab_lald (pc := 74) dX8_see_74 ht14 ?_
          obtain ⟨q15, hq15, hk⟩ := ab_bnd hk
          obtain ⟨hb, hq15⟩ := ab_on_some hq15
          refine ab_callVV (st := []) (as := [ab_J t11, ab_J t14]) (b := t8) (pc := 75) dX8_see_75 ml_RX8_343 my_X0_addSee mv_X0_addSee hb (ct_X0_addSee hq15) ⟨Nat.le_of_ble_eq_true rfl, Nat.le_of_ble_eq_true rfl⟩ rfl (Nat.le_of_ble_eq_true rfl) rfl ?_
          refine ab_aload_n (pc := 78) (i := 0) dX8_see_78 rfl rfl ?_
          obtain ⟨q16, hq16, hk⟩ := ab_bnd hk
          obtain ⟨hb, hq16⟩ := ab_on_some hq16
          refine ab_callVV (st := []) (as := []) (b := a0) (pc := 79) dX8_see_79 ml_RX8_90 my_X8_renew mv_X8_renew hb (ct_X8_renew hq16) ⟨Nat.le_of_ble_eq_true rfl, Nat.le_of_ble_eq_true rfl⟩ rfl (Nat.le_of_ble_eq_true rfl) rfl ?_
          refine ab_aload_n (pc := 82) (i := 0) dX8_see_82 rfl rfl ?_
          obtain ⟨t17, ht17, hk⟩ := ab_bnd hk
          refine ab_getR (pc := 83) dX8_see_83 fl_RX8_34 ht17 ?_
          obtain ⟨t18, ht18, hk⟩ := ab_bnd hk
          refine ab_getI (pc := 86) dX8_see_86 fl_RX8_107 ht18 ?_
          obtain rfl := Option.some.inj hk
          exact ab_reti (pc := 89) dX8_see_89 (Or.inl rfl)
        · have hk := ab_ifp hk hc
          refine ab_bipush (pc := 39) dX8_see_39 ab_p8_m6 ab_k_m6 ?_
          obtain rfl := Option.some.inj hk
          exact ab_reti (pc := 41) dX8_see_41 (Or.inl rfl)
      · have hk := ab_ifn hk hc
        refine ab_bipush (pc := 31) dX8_see_31 ab_p8_m5 ab_k_m5 ?_
        obtain rfl := Option.some.inj hk
        exact ab_reti (pc := 33) dX8_see_33 (Or.inl rfl)
    · have hk := ab_ifp hk hc
      refine ab_bipush (pc := 16) dX8_see_16 ab_p8_m2 ab_k_m2 ?_
      obtain rfl := Option.some.inj hk
      exact ab_reti (pc := 18) dX8_see_18 (Or.inl rfl)
theorem dX8_forget_0 : decode cX8_forget 0 = .ok (.iload_n 1, 1) := by decide +kernel
theorem dX8_forget_1 : decode cX8_forget 1 = .ok (.ifCond .ge 6, 3) := by decide +kernel
theorem dX8_forget_4 : decode cX8_forget 4 = .ok (.bipush (-2), 2) := by decide +kernel
theorem dX8_forget_6 : decode cX8_forget 6 = .ok (.ireturn, 1) := by decide +kernel
theorem dX8_forget_7 : decode cX8_forget 7 = .ok (.iload_n 1, 1) := by decide +kernel
theorem dX8_forget_8 : decode cX8_forget 8 = .ok (.aload_n 0, 1) := by decide +kernel
theorem dX8_forget_9 : decode cX8_forget 9 = .ok (.getfield 34, 3) := by decide +kernel
theorem dX8_forget_12 : decode cX8_forget 12 = .ok (.getfield 107, 3) := by decide +kernel
theorem dX8_forget_15 : decode cX8_forget 15 = .ok (.if_icmp .lt 5, 3) := by decide +kernel
theorem dX8_forget_18 : decode cX8_forget 18 = .ok (.iconst (-1), 1) := by decide +kernel
theorem dX8_forget_19 : decode cX8_forget 19 = .ok (.ireturn, 1) := by decide +kernel
theorem dX8_forget_20 : decode cX8_forget 20 = .ok (.aload_n 0, 1) := by decide +kernel
theorem dX8_forget_21 : decode cX8_forget 21 = .ok (.getfield 44, 3) := by decide +kernel
theorem dX8_forget_24 : decode cX8_forget 24 = .ok (.aload_n 0, 1) := by decide +kernel
theorem dX8_forget_25 : decode cX8_forget 25 = .ok (.getfield 34, 3) := by decide +kernel
theorem dX8_forget_28 : decode cX8_forget 28 = .ok (.invokevirtual 333, 3) := by decide +kernel
theorem dX8_forget_31 : decode cX8_forget 31 = .ok (.aload_n 0, 1) := by decide +kernel
theorem dX8_forget_32 : decode cX8_forget 32 = .ok (.getfield 34, 3) := by decide +kernel
theorem dX8_forget_35 : decode cX8_forget 35 = .ok (.iload_n 1, 1) := by decide +kernel
theorem dX8_forget_36 : decode cX8_forget 36 = .ok (.invokevirtual 347, 3) := by decide +kernel
theorem dX8_forget_39 : decode cX8_forget 39 = .ok (.aload_n 0, 1) := by decide +kernel
theorem dX8_forget_40 : decode cX8_forget 40 = .ok (.invokevirtual 90, 3) := by decide +kernel
theorem dX8_forget_43 : decode cX8_forget 43 = .ok (.aload_n 0, 1) := by decide +kernel
theorem dX8_forget_44 : decode cX8_forget 44 = .ok (.getfield 34, 3) := by decide +kernel
theorem dX8_forget_47 : decode cX8_forget 47 = .ok (.getfield 107, 3) := by decide +kernel
theorem dX8_forget_50 : decode cX8_forget 50 = .ok (.ireturn, 1) := by decide +kernel
abbrev mm_X8_forget : ab_M := (RX8, 2, (some .int), false, 6, 139, none)
noncomputable def f_X8_forget (a0 : Int) (a1 : Int) (h : ab_H) : Option (Int × ab_H) :=
  if (0 : Int) ≤ a1 then
    (ab_get h 9 4 a0).bind fun t1 =>
    (ab_get h 1 9 t1).bind fun t2 =>
    if a1 < t2 then
      (ab_get h 9 6 a0).bind fun t3 =>
      (ab_get h 9 4 a0).bind fun t4 =>
      (ab_on h 4 t3 (f_X3_keep t3 t4 h)).bind fun q5 =>
      (ab_get q5 9 4 a0).bind fun t6 =>
      (ab_on q5 1 t6 (f_X0_dropSee t6 a1 q5)).bind fun q7 =>
      (ab_on q7 9 a0 (f_X8_renew a0 q7)).bind fun q8 =>
      (ab_get q8 9 4 a0).bind fun t9 =>
      (ab_get q8 1 9 t9).bind fun t10 =>
      some (t10, q8)
    else
    some ((-1 : Int), h)
  else
  some ((-2 : Int), h)
set_option maxRecDepth 20000 in
theorem ct_X8_forget {a0 a1 : Int} {h : ab_H} {q : Int × ab_H} (hk : f_X8_forget a0 a1 h = some q) : ab_CT yX8_forget cX8_forget 2 (some .int) 6 139 [ab_R a0, ab_I a1] h (some (ab_I q.1)) q.2 := by
  refine ab_CT.mk_ 0 (own := RX8) (ini := false) (lv := [some (ab_R a0), some (ab_I a1)]) rfl (by decide +kernel) (fun q => by cases q) rfl rfl ?_
  unfold f_X8_forget at hk
  show ab_E mm_X8_forget cX8_forget 0 _ [] h _ _
  refine ab_iload_n (pc := 0) (i := 1) dX8_forget_0 rfl rfl ?_
  refine ab_if_ge (pc := 1) (tgt := 7) dX8_forget_1 rfl (fun hc => ?_) (fun hc => ?_)
  · have hk := ab_ifp hk hc
    refine ab_iload_n (pc := 7) (i := 1) dX8_forget_7 rfl rfl ?_
    refine ab_aload_n (pc := 8) (i := 0) dX8_forget_8 rfl rfl ?_
    obtain ⟨t1, ht1, hk⟩ := ab_bnd hk
    refine ab_getR (pc := 9) dX8_forget_9 fl_RX8_34 ht1 ?_
    obtain ⟨t2, ht2, hk⟩ := ab_bnd hk
    refine ab_getI (pc := 12) dX8_forget_12 fl_RX8_107 ht2 ?_
    refine ab_icmp_lt (pc := 15) (tgt := 20) dX8_forget_15 rfl (fun hc => ?_) (fun hc => ?_)
    · have hk := ab_ifp hk hc
      refine ab_aload_n (pc := 20) (i := 0) dX8_forget_20 rfl rfl ?_
      obtain ⟨t3, ht3, hk⟩ := ab_bnd hk
      refine ab_getR (pc := 21) dX8_forget_21 fl_RX8_44 ht3 ?_
      refine ab_aload_n (pc := 24) (i := 0) dX8_forget_24 rfl rfl ?_
      obtain ⟨t4, ht4, hk⟩ := ab_bnd hk
      refine ab_getR (pc := 25) dX8_forget_25 fl_RX8_34 ht4 ?_
      obtain ⟨q5, hq5, hk⟩ := ab_bnd hk
      obtain ⟨hb, hq5⟩ := ab_on_some hq5
      refine ab_callVV (st := []) (as := [ab_R t4]) (b := t3) (pc := 28) dX8_forget_28 ml_RX8_333 my_X3_keep mv_X3_keep hb (ct_X3_keep hq5) ⟨Nat.le_of_ble_eq_true rfl, Nat.le_of_ble_eq_true rfl⟩ rfl (Nat.le_of_ble_eq_true rfl) rfl ?_
      refine ab_aload_n (pc := 31) (i := 0) dX8_forget_31 rfl rfl ?_
      obtain ⟨t6, ht6, hk⟩ := ab_bnd hk
      refine ab_getR (pc := 32) dX8_forget_32 fl_RX8_34 ht6 ?_
      refine ab_iload_n (pc := 35) (i := 1) dX8_forget_35 rfl rfl ?_
      obtain ⟨q7, hq7, hk⟩ := ab_bnd hk
      obtain ⟨hb, hq7⟩ := ab_on_some hq7
      refine ab_callVV (st := []) (as := [ab_I a1]) (b := t6) (pc := 36) dX8_forget_36 ml_RX8_347 my_X0_dropSee mv_X0_dropSee hb (ct_X0_dropSee hq7) ⟨Nat.le_of_ble_eq_true rfl, Nat.le_of_ble_eq_true rfl⟩ rfl (Nat.le_of_ble_eq_true rfl) rfl ?_
      refine ab_aload_n (pc := 39) (i := 0) dX8_forget_39 rfl rfl ?_
      obtain ⟨q8, hq8, hk⟩ := ab_bnd hk
      obtain ⟨hb, hq8⟩ := ab_on_some hq8
      refine ab_callVV (st := []) (as := []) (b := a0) (pc := 40) dX8_forget_40 ml_RX8_90 my_X8_renew mv_X8_renew hb (ct_X8_renew hq8) ⟨Nat.le_of_ble_eq_true rfl, Nat.le_of_ble_eq_true rfl⟩ rfl (Nat.le_of_ble_eq_true rfl) rfl ?_
      refine ab_aload_n (pc := 43) (i := 0) dX8_forget_43 rfl rfl ?_
      obtain ⟨t9, ht9, hk⟩ := ab_bnd hk
      refine ab_getR (pc := 44) dX8_forget_44 fl_RX8_34 ht9 ?_
      obtain ⟨t10, ht10, hk⟩ := ab_bnd hk
      refine ab_getI (pc := 47) dX8_forget_47 fl_RX8_107 ht10 ?_
      obtain rfl := Option.some.inj hk
      exact ab_reti (pc := 50) dX8_forget_50 (Or.inl rfl)
    · have hk := ab_ifn hk hc
      refine ab_iconst (pc := 18) dX8_forget_18 ab_k_m1 ?_
      obtain rfl := Option.some.inj hk
      exact ab_reti (pc := 19) dX8_forget_19 (Or.inl rfl)
  · have hk := ab_ifn hk hc
    refine ab_bipush (pc := 4) dX8_forget_4 ab_p8_m2 ab_k_m2 ?_
    obtain rfl := Option.some.inj hk
    exact ab_reti (pc := 6) dX8_forget_6 (Or.inl rfl)
theorem dX8_moves_0 : decode cX8_moves 0 = .ok (.aload_n 0, 1) := by decide +kernel
theorem dX8_moves_1 : decode cX8_moves 1 = .ok (.iload_n 1, 1) := by decide +kernel
theorem dX8_moves_2 : decode cX8_moves 2 = .ok (.invokevirtual 117, 3) := by decide +kernel
theorem dX8_moves_5 : decode cX8_moves 5 = .ok (.ifCond .eq 10, 3) := by decide +kernel
theorem dX8_moves_8 : decode cX8_moves 8 = .ok (.iload_n 2, 1) := by decide +kernel
theorem dX8_moves_9 : decode cX8_moves 9 = .ok (.invokestatic 190, 3) := by decide +kernel
theorem dX8_moves_12 : decode cX8_moves 12 = .ok (.ifCond .ne 6, 3) := by decide +kernel
theorem dX8_moves_15 : decode cX8_moves 15 = .ok (.bipush (-2), 2) := by decide +kernel
theorem dX8_moves_17 : decode cX8_moves 17 = .ok (.ireturn, 1) := by decide +kernel
theorem dX8_moves_18 : decode cX8_moves 18 = .ok (.aload_n 0, 1) := by decide +kernel
theorem dX8_moves_19 : decode cX8_moves 19 = .ok (.getfield 34, 3) := by decide +kernel
theorem dX8_moves_22 : decode cX8_moves 22 = .ok (.getfield 121, 3) := by decide +kernel
theorem dX8_moves_25 : decode cX8_moves 25 = .ok (.iload_n 1, 1) := by decide +kernel
theorem dX8_moves_26 : decode cX8_moves 26 = .ok (.iaload, 1) := by decide +kernel
theorem dX8_moves_27 : decode cX8_moves 27 = .ok (.istore_n 3, 1) := by decide +kernel
theorem dX8_moves_28 : decode cX8_moves 28 = .ok (.iload_n 3, 1) := by decide +kernel
theorem dX8_moves_29 : decode cX8_moves 29 = .ok (.iload_n 2, 1) := by decide +kernel
theorem dX8_moves_30 : decode cX8_moves 30 = .ok (.if_icmp .ne 5, 3) := by decide +kernel
theorem dX8_moves_33 : decode cX8_moves 33 = .ok (.iload_n 3, 1) := by decide +kernel
theorem dX8_moves_34 : decode cX8_moves 34 = .ok (.ireturn, 1) := by decide +kernel
theorem dX8_moves_35 : decode cX8_moves 35 = .ok (.aload_n 0, 1) := by decide +kernel
theorem dX8_moves_36 : decode cX8_moves 36 = .ok (.getfield 34, 3) := by decide +kernel
theorem dX8_moves_39 : decode cX8_moves 39 = .ok (.iload_n 2, 1) := by decide +kernel
theorem dX8_moves_40 : decode cX8_moves 40 = .ok (.invokevirtual 193, 3) := by decide +kernel
theorem dX8_moves_43 : decode cX8_moves 43 = .ok (.iconst (-1), 1) := by decide +kernel
theorem dX8_moves_44 : decode cX8_moves 44 = .ok (.if_icmp .eq 6, 3) := by decide +kernel
theorem dX8_moves_47 : decode cX8_moves 47 = .ok (.bipush (-6), 2) := by decide +kernel
theorem dX8_moves_49 : decode cX8_moves 49 = .ok (.ireturn, 1) := by decide +kernel
theorem dX8_moves_50 : decode cX8_moves 50 = .ok (.aload_n 0, 1) := by decide +kernel
theorem dX8_moves_51 : decode cX8_moves 51 = .ok (.getfield 44, 3) := by decide +kernel
theorem dX8_moves_54 : decode cX8_moves 54 = .ok (.aload_n 0, 1) := by decide +kernel
theorem dX8_moves_55 : decode cX8_moves 55 = .ok (.getfield 34, 3) := by decide +kernel
theorem dX8_moves_58 : decode cX8_moves 58 = .ok (.invokevirtual 333, 3) := by decide +kernel
theorem dX8_moves_61 : decode cX8_moves 61 = .ok (.aload_n 0, 1) := by decide +kernel
theorem dX8_moves_62 : decode cX8_moves 62 = .ok (.getfield 34, 3) := by decide +kernel
theorem dX8_moves_65 : decode cX8_moves 65 = .ok (.getfield 121, 3) := by decide +kernel
theorem dX8_moves_68 : decode cX8_moves 68 = .ok (.iload_n 1, 1) := by decide +kernel
theorem dX8_moves_69 : decode cX8_moves 69 = .ok (.iload_n 2, 1) := by decide +kernel
theorem dX8_moves_70 : decode cX8_moves 70 = .ok (.iastore, 1) := by decide +kernel
theorem dX8_moves_71 : decode cX8_moves 71 = .ok (.aload_n 0, 1) := by decide +kernel
theorem dX8_moves_72 : decode cX8_moves 72 = .ok (.invokevirtual 90, 3) := by decide +kernel
theorem dX8_moves_75 : decode cX8_moves 75 = .ok (.iload_n 3, 1) := by decide +kernel
theorem dX8_moves_76 : decode cX8_moves 76 = .ok (.ireturn, 1) := by decide +kernel
abbrev mm_X8_moves : ab_M := (RX8, 4, (some .int), false, 6, 139, none)
noncomputable def f_X8_moves (a0 : Int) (a1 : Int) (a2 : Int) (h : ab_H) : Option (Int × ab_H) :=
  (ab_on h 9 a0 (f_X8_isString a0 a1 h)).bind fun q1 =>
  if q1.1 = (0 : Int) then
    some ((-2 : Int), q1.2)
  else
  (f_X8_isAddress a2 q1.2).bind fun q2 =>
  if q2.1 = (0 : Int) then
    some ((-2 : Int), q2.2)
  else
  (ab_get q2.2 9 4 a0).bind fun t3 =>
  (ab_get q2.2 1 1 t3).bind fun t4 =>
  (ab_ald q2.2 11 t4 a1).bind fun t5 =>
  if t5 = a2 then
    some (t5, q2.2)
  else
  (ab_get q2.2 9 4 a0).bind fun t6 =>
  (ab_on q2.2 1 t6 (f_X0_stringAt t6 a2 q2.2)).bind fun q7 =>
  if q7.1 = (-1 : Int) then
    (ab_get q7.2 9 6 a0).bind fun t8 =>
    (ab_get q7.2 9 4 a0).bind fun t9 =>
    (ab_on q7.2 4 t8 (f_X3_keep t8 t9 q7.2)).bind fun q10 =>
    (ab_get q10 9 4 a0).bind fun t11 =>
    (ab_get q10 1 1 t11).bind fun t12 =>
    (ab_ast q10 11 t12 a1 a2).bind fun h1 =>
    (ab_on h1 9 a0 (f_X8_renew a0 h1)).bind fun q13 =>
    some (t5, q13)
  else
  some ((-6 : Int), q7.2)
set_option maxRecDepth 20000 in
theorem ct_X8_moves {a0 a1 a2 : Int} {h : ab_H} {q : Int × ab_H} (hk : f_X8_moves a0 a1 a2 h = some q) : ab_CT yX8_moves cX8_moves 4 (some .int) 6 139 [ab_R a0, ab_I a1, ab_I a2] h (some (ab_I q.1)) q.2 := by
  refine ab_CT.mk_ 1 (own := RX8) (ini := false) (lv := [some (ab_R a0), some (ab_I a1), some (ab_I a2), none]) rfl (by decide +kernel) (fun q => by cases q) rfl rfl ?_
  unfold f_X8_moves at hk
  show ab_E mm_X8_moves cX8_moves 0 _ [] h _ _
  refine ab_aload_n (pc := 0) (i := 0) dX8_moves_0 rfl rfl ?_
  refine ab_iload_n (pc := 1) (i := 1) dX8_moves_1 rfl rfl ?_
  obtain ⟨q1, hq1, hk⟩ := ab_bnd hk
  obtain ⟨hb, hq1⟩ := ab_on_some hq1
  refine ab_callVI (st := []) (as := [ab_I a1]) (b := a0) (pc := 2) dX8_moves_2 ml_RX8_117 my_X8_isString mv_X8_isString hb (ct_X8_isString hq1) ⟨Nat.le_of_ble_eq_true rfl, Nat.le_of_ble_eq_true rfl⟩ rfl (Nat.le_of_ble_eq_true rfl) rfl ?_
  refine ab_if_eq (pc := 5) (tgt := 15) dX8_moves_5 rfl (fun hc => ?_) (fun hc => ?_)
  · have hk := ab_ifp hk hc
    refine ab_bipush (pc := 15) dX8_moves_15 ab_p8_m2 ab_k_m2 ?_
    obtain rfl := Option.some.inj hk
    exact ab_reti (pc := 17) dX8_moves_17 (Or.inl rfl)
  · have hk := ab_ifn hk hc
    refine ab_iload_n (pc := 8) (i := 2) dX8_moves_8 rfl rfl ?_
    obtain ⟨q2, hq2, hk⟩ := ab_bnd hk
    refine ab_callSI (st := []) (as := [ab_I a2]) (pc := 9) dX8_moves_9 ml_RX8_190 my_X8_isAddress ms_X8_isAddress (ct_X8_isAddress hq2) ⟨Nat.le_of_ble_eq_true rfl, Nat.le_of_ble_eq_true rfl⟩ rfl (Nat.le_of_ble_eq_true rfl) rfl ?_
    refine ab_if_ne (pc := 12) (tgt := 18) dX8_moves_12 rfl (fun hc => ?_) (fun hc => ?_)
    · have hk := ab_ifn hk hc
      refine ab_aload_n (pc := 18) (i := 0) dX8_moves_18 rfl rfl ?_
      obtain ⟨t3, ht3, hk⟩ := ab_bnd hk
      refine ab_getR (pc := 19) dX8_moves_19 fl_RX8_34 ht3 ?_
      obtain ⟨t4, ht4, hk⟩ := ab_bnd hk
      refine ab_getR (pc := 22) dX8_moves_22 fl_RX8_121 ht4 ?_
      refine ab_iload_n (pc := 25) (i := 1) dX8_moves_25 rfl rfl ?_
      obtain ⟨t5, ht5, hk⟩ := ab_bnd hk
      refine ab_iald (pc := 26) dX8_moves_26 ht5 ?_
      refine ab_istore_n (pc := 27) (i := 3) (lv2 := [some (ab_R a0), some (ab_I a1), some (ab_I a2), some (ab_I t5)]) dX8_moves_27 rfl (Nat.le_of_ble_eq_true rfl) rfl rfl ?_
      refine ab_iload_n (pc := 28) (i := 3) dX8_moves_28 rfl rfl ?_
      refine ab_iload_n (pc := 29) (i := 2) dX8_moves_29 rfl rfl ?_
      refine ab_icmp_ne (pc := 30) (tgt := 35) dX8_moves_30 rfl (fun hc => ?_) (fun hc => ?_)
      · have hk := ab_ifn hk hc
        refine ab_aload_n (pc := 35) (i := 0) dX8_moves_35 rfl rfl ?_
        obtain ⟨t6, ht6, hk⟩ := ab_bnd hk
        refine ab_getR (pc := 36) dX8_moves_36 fl_RX8_34 ht6 ?_
        refine ab_iload_n (pc := 39) (i := 2) dX8_moves_39 rfl rfl ?_
        obtain ⟨q7, hq7, hk⟩ := ab_bnd hk
        obtain ⟨hb, hq7⟩ := ab_on_some hq7
        refine ab_callVI (st := []) (as := [ab_I a2]) (b := t6) (pc := 40) dX8_moves_40 ml_RX8_193 my_X0_stringAt mv_X0_stringAt hb (ct_X0_stringAt hq7) ⟨Nat.le_of_ble_eq_true rfl, Nat.le_of_ble_eq_true rfl⟩ rfl (Nat.le_of_ble_eq_true rfl) rfl ?_
        refine ab_iconst (pc := 43) dX8_moves_43 ab_k_m1 ?_
        refine ab_icmp_eq (pc := 44) (tgt := 50) dX8_moves_44 rfl (fun hc => ?_) (fun hc => ?_)
        · have hk := ab_ifp hk hc
          refine ab_aload_n (pc := 50) (i := 0) dX8_moves_50 rfl rfl ?_
          obtain ⟨t8, ht8, hk⟩ := ab_bnd hk
          refine ab_getR (pc := 51) dX8_moves_51 fl_RX8_44 ht8 ?_
          refine ab_aload_n (pc := 54) (i := 0) dX8_moves_54 rfl rfl ?_
          obtain ⟨t9, ht9, hk⟩ := ab_bnd hk
          refine ab_getR (pc := 55) dX8_moves_55 fl_RX8_34 ht9 ?_
          obtain ⟨q10, hq10, hk⟩ := ab_bnd hk
          obtain ⟨hb, hq10⟩ := ab_on_some hq10
          refine ab_callVV (st := []) (as := [ab_R t9]) (b := t8) (pc := 58) dX8_moves_58 ml_RX8_333 my_X3_keep mv_X3_keep hb (ct_X3_keep hq10) ⟨Nat.le_of_ble_eq_true rfl, Nat.le_of_ble_eq_true rfl⟩ rfl (Nat.le_of_ble_eq_true rfl) rfl ?_
          refine ab_aload_n (pc := 61) (i := 0) dX8_moves_61 rfl rfl ?_
          obtain ⟨t11, ht11, hk⟩ := ab_bnd hk
          refine ab_getR (pc := 62) dX8_moves_62 fl_RX8_34 ht11 ?_
          obtain ⟨t12, ht12, hk⟩ := ab_bnd hk
          refine ab_getR (pc := 65) dX8_moves_65 fl_RX8_121 ht12 ?_
          refine ab_iload_n (pc := 68) (i := 1) dX8_moves_68 rfl rfl ?_
          refine ab_iload_n (pc := 69) (i := 2) dX8_moves_69 rfl rfl ?_
          obtain ⟨h1, hh1, hk⟩ := ab_bnd hk
          refine ab_iast (pc := 70) dX8_moves_70 hh1 ?_
          refine ab_aload_n (pc := 71) (i := 0) dX8_moves_71 rfl rfl ?_
          obtain ⟨q13, hq13, hk⟩ := ab_bnd hk
          obtain ⟨hb, hq13⟩ := ab_on_some hq13
          refine ab_callVV (st := []) (as := []) (b := a0) (pc := 72) dX8_moves_72 ml_RX8_90 my_X8_renew mv_X8_renew hb (ct_X8_renew hq13) ⟨Nat.le_of_ble_eq_true rfl, Nat.le_of_ble_eq_true rfl⟩ rfl (Nat.le_of_ble_eq_true rfl) rfl ?_
          refine ab_iload_n (pc := 75) (i := 3) dX8_moves_75 rfl rfl ?_
          obtain rfl := Option.some.inj hk
          exact ab_reti (pc := 76) dX8_moves_76 (Or.inl rfl)
        · have hk := ab_ifn hk hc
          refine ab_bipush (pc := 47) dX8_moves_47 ab_p8_m6 ab_k_m6 ?_
          obtain rfl := Option.some.inj hk
          exact ab_reti (pc := 49) dX8_moves_49 (Or.inl rfl)
      · have hk := ab_ifp hk hc
        refine ab_iload_n (pc := 33) (i := 3) dX8_moves_33 rfl rfl ?_
        obtain rfl := Option.some.inj hk
        exact ab_reti (pc := 34) dX8_moves_34 (Or.inl rfl)
    · have hk := ab_ifp hk hc
      refine ab_bipush (pc := 15) dX8_moves_15 ab_p8_m2 ab_k_m2 ?_
      obtain rfl := Option.some.inj hk
      exact ab_reti (pc := 17) dX8_moves_17 (Or.inl rfl)
theorem dX8_undo_0 : decode cX8_undo 0 = .ok (.aload_n 0, 1) := by decide +kernel
theorem dX8_undo_1 : decode cX8_undo 1 = .ok (.getfield 44, 3) := by decide +kernel
theorem dX8_undo_4 : decode cX8_undo 4 = .ok (.getfield 116, 3) := by decide +kernel
theorem dX8_undo_7 : decode cX8_undo 7 = .ok (.ifCond .ne 5, 3) := by decide +kernel
theorem dX8_undo_10 : decode cX8_undo 10 = .ok (.iconst (-1), 1) := by decide +kernel
theorem dX8_undo_11 : decode cX8_undo 11 = .ok (.ireturn, 1) := by decide +kernel
theorem dX8_undo_12 : decode cX8_undo 12 = .ok (.aload_n 0, 1) := by decide +kernel
theorem dX8_undo_13 : decode cX8_undo 13 = .ok (.getfield 44, 3) := by decide +kernel
theorem dX8_undo_16 : decode cX8_undo 16 = .ok (.aload_n 0, 1) := by decide +kernel
theorem dX8_undo_17 : decode cX8_undo 17 = .ok (.getfield 34, 3) := by decide +kernel
theorem dX8_undo_20 : decode cX8_undo 20 = .ok (.invokevirtual 350, 3) := by decide +kernel
theorem dX8_undo_23 : decode cX8_undo 23 = .ok (.aload_n 0, 1) := by decide +kernel
theorem dX8_undo_24 : decode cX8_undo 24 = .ok (.invokevirtual 90, 3) := by decide +kernel
theorem dX8_undo_27 : decode cX8_undo 27 = .ok (.aload_n 0, 1) := by decide +kernel
theorem dX8_undo_28 : decode cX8_undo 28 = .ok (.getfield 44, 3) := by decide +kernel
theorem dX8_undo_31 : decode cX8_undo 31 = .ok (.getfield 116, 3) := by decide +kernel
theorem dX8_undo_34 : decode cX8_undo 34 = .ok (.ireturn, 1) := by decide +kernel
abbrev mm_X8_undo : ab_M := (RX8, 1, (some .int), false, 6, 139, none)
noncomputable def f_X8_undo (a0 : Int) (h : ab_H) : Option (Int × ab_H) :=
  (ab_get h 9 6 a0).bind fun t1 =>
  (ab_get h 4 2 t1).bind fun t2 =>
  if t2 = (0 : Int) then
    some ((-1 : Int), h)
  else
  (ab_get h 9 6 a0).bind fun t3 =>
  (ab_get h 9 4 a0).bind fun t4 =>
  (ab_on h 4 t3 (f_X3_takeBack t3 t4 h)).bind fun q5 =>
  (ab_on q5 9 a0 (f_X8_renew a0 q5)).bind fun q6 =>
  (ab_get q6 9 6 a0).bind fun t7 =>
  (ab_get q6 4 2 t7).bind fun t8 =>
  some (t8, q6)
set_option maxRecDepth 20000 in
theorem ct_X8_undo {a0 : Int} {h : ab_H} {q : Int × ab_H} (hk : f_X8_undo a0 h = some q) : ab_CT yX8_undo cX8_undo 1 (some .int) 6 139 [ab_R a0] h (some (ab_I q.1)) q.2 := by
  refine ab_CT.mk_ 0 (own := RX8) (ini := false) (lv := [some (ab_R a0)]) rfl (by decide +kernel) (fun q => by cases q) rfl rfl ?_
  unfold f_X8_undo at hk
  show ab_E mm_X8_undo cX8_undo 0 _ [] h _ _
  refine ab_aload_n (pc := 0) (i := 0) dX8_undo_0 rfl rfl ?_
  obtain ⟨t1, ht1, hk⟩ := ab_bnd hk
  refine ab_getR (pc := 1) dX8_undo_1 fl_RX8_44 ht1 ?_
  obtain ⟨t2, ht2, hk⟩ := ab_bnd hk
  refine ab_getI (pc := 4) dX8_undo_4 fl_RX8_116 ht2 ?_
  refine ab_if_ne (pc := 7) (tgt := 12) dX8_undo_7 rfl (fun hc => ?_) (fun hc => ?_)
  · have hk := ab_ifn hk hc
    refine ab_aload_n (pc := 12) (i := 0) dX8_undo_12 rfl rfl ?_
    obtain ⟨t3, ht3, hk⟩ := ab_bnd hk
    refine ab_getR (pc := 13) dX8_undo_13 fl_RX8_44 ht3 ?_
    refine ab_aload_n (pc := 16) (i := 0) dX8_undo_16 rfl rfl ?_
    obtain ⟨t4, ht4, hk⟩ := ab_bnd hk
    refine ab_getR (pc := 17) dX8_undo_17 fl_RX8_34 ht4 ?_
    obtain ⟨q5, hq5, hk⟩ := ab_bnd hk
    obtain ⟨hb, hq5⟩ := ab_on_some hq5
    refine ab_callVV (st := []) (as := [ab_R t4]) (b := t3) (pc := 20) dX8_undo_20 ml_RX8_350 my_X3_takeBack mv_X3_takeBack hb (ct_X3_takeBack hq5) ⟨Nat.le_of_ble_eq_true rfl, Nat.le_of_ble_eq_true rfl⟩ rfl (Nat.le_of_ble_eq_true rfl) rfl ?_
    refine ab_aload_n (pc := 23) (i := 0) dX8_undo_23 rfl rfl ?_
    obtain ⟨q6, hq6, hk⟩ := ab_bnd hk
    obtain ⟨hb, hq6⟩ := ab_on_some hq6
    refine ab_callVV (st := []) (as := []) (b := a0) (pc := 24) dX8_undo_24 ml_RX8_90 my_X8_renew mv_X8_renew hb (ct_X8_renew hq6) ⟨Nat.le_of_ble_eq_true rfl, Nat.le_of_ble_eq_true rfl⟩ rfl (Nat.le_of_ble_eq_true rfl) rfl ?_
    refine ab_aload_n (pc := 27) (i := 0) dX8_undo_27 rfl rfl ?_
    obtain ⟨t7, ht7, hk⟩ := ab_bnd hk
    refine ab_getR (pc := 28) dX8_undo_28 fl_RX8_44 ht7 ?_
    obtain ⟨t8, ht8, hk⟩ := ab_bnd hk
    refine ab_getI (pc := 31) dX8_undo_31 fl_RX8_116 ht8 ?_
    obtain rfl := Option.some.inj hk
    exact ab_reti (pc := 34) dX8_undo_34 (Or.inl rfl)
  · have hk := ab_ifp hk hc
    refine ab_iconst (pc := 10) dX8_undo_10 ab_k_m1 ?_
    obtain rfl := Option.some.inj hk
    exact ab_reti (pc := 11) dX8_undo_11 (Or.inl rfl)
