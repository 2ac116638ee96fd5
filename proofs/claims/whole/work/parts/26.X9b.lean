theorem dX9_beginsTape_0 : decode cX9_beginsTape 0 = .ok (.aload_n 0, 1) := by decide +kernel
theorem dX9_beginsTape_1 : decode cX9_beginsTape 1 = .ok (.aload_n 0, 1) := by decide +kernel
theorem dX9_beginsTape_2 : decode cX9_beginsTape 2 = .ok (.getfield 77, 3) := by decide +kernel
theorem dX9_beginsTape_5 : decode cX9_beginsTape 5 = .ok (.putfield 95, 3) := by decide +kernel
theorem dX9_beginsTape_8 : decode cX9_beginsTape 8 = .ok (.aload_n 0, 1) := by decide +kernel
theorem dX9_beginsTape_9 : decode cX9_beginsTape 9 = .ok (.iconst 0, 1) := by decide +kernel
theorem dX9_beginsTape_10 : decode cX9_beginsTape 10 = .ok (.putfield 77, 3) := by decide +kernel
theorem dX9_beginsTape_13 : decode cX9_beginsTape 13 = .ok (.aload_n 0, 1) := by decide +kernel
theorem dX9_beginsTape_14 : decode cX9_beginsTape 14 = .ok (.iconst 0, 1) := by decide +kernel
theorem dX9_beginsTape_15 : decode cX9_beginsTape 15 = .ok (.putfield 98, 3) := by decide +kernel
theorem dX9_beginsTape_18 : decode cX9_beginsTape 18 = .ok (.aload_n 0, 1) := by decide +kernel
theorem dX9_beginsTape_19 : decode cX9_beginsTape 19 = .ok (.iconst 0, 1) := by decide +kernel
theorem dX9_beginsTape_20 : decode cX9_beginsTape 20 = .ok (.putfield 88, 3) := by decide +kernel
theorem dX9_beginsTape_23 : decode cX9_beginsTape 23 = .ok (.aload_n 0, 1) := by decide +kernel
theorem dX9_beginsTape_24 : decode cX9_beginsTape 24 = .ok (.iconst (-1), 1) := by decide +kernel
theorem dX9_beginsTape_25 : decode cX9_beginsTape 25 = .ok (.putfield 20, 3) := by decide +kernel
theorem dX9_beginsTape_28 : decode cX9_beginsTape 28 = .ok (.aload_n 0, 1) := by decide +kernel
theorem dX9_beginsTape_29 : decode cX9_beginsTape 29 = .ok (.invokevirtual 142, 3) := by decide +kernel
theorem dX9_beginsTape_32 : decode cX9_beginsTape 32 = .ok (.return_, 1) := by decide +kernel
abbrev mm_X9_beginsTape : ab_M := (RX9, 1, none, false, 2, 46, none)
noncomputable def f_X9_beginsTape (a0 : Int) (h : ab_H) : Option ab_H :=
  (ab_get h 10 4 a0).bind fun t1 =>
  (ab_put h 10 5 a0 t1).bind fun h1 =>
  (ab_put h1 10 4 a0 (0 : Int)).bind fun h2 =>
  (ab_put h2 10 6 a0 (0 : Int)).bind fun h3 =>
  (ab_put h3 10 10 a0 (0 : Int)).bind fun h4 =>
  (ab_put h4 10 11 a0 (-1 : Int)).bind fun h5 =>
  (ab_on h5 10 a0 (f_X9_advance a0 h5)).bind fun q2 =>
  some q2
set_option maxRecDepth 20000 in
theorem ct_X9_beginsTape {a0 : Int} {h : ab_H} {q : ab_H} (hk : f_X9_beginsTape a0 h = some q) : ab_CT yX9_beginsTape cX9_beginsTape 1 none 2 46 [ab_R a0] h none q := by
  refine ab_CT.mk_ 0 (own := RX9) (ini := false) (lv := [some (ab_R a0)]) rfl (by decide +kernel) (fun q => by cases q) rfl rfl ?_
  unfold f_X9_beginsTape at hk
  show ab_E mm_X9_beginsTape cX9_beginsTape 0 _ [] h _ _
  refine ab_aload_n (pc := 0) (i := 0) dX9_beginsTape_0 rfl rfl ?_
  refine ab_aload_n (pc := 1) (i := 0) dX9_beginsTape_1 rfl rfl ?_
  obtain ⟨t1, ht1, hk⟩ := ab_bnd hk
  refine ab_getI (pc := 2) dX9_beginsTape_2 fl_RX9_77 ht1 ?_
  obtain ⟨h1, hh1, hk⟩ := ab_bnd hk
  refine ab_putI_ (pc := 5) dX9_beginsTape_5 fl_RX9_95 (fun q => by cases q) hh1 ?_
  refine ab_aload_n (pc := 8) (i := 0) dX9_beginsTape_8 rfl rfl ?_
  refine ab_iconst (pc := 9) dX9_beginsTape_9 ab_k_0 ?_
  obtain ⟨h2, hh2, hk⟩ := ab_bnd hk
  refine ab_putI_ (pc := 10) dX9_beginsTape_10 fl_RX9_77 (fun q => by cases q) hh2 ?_
  refine ab_aload_n (pc := 13) (i := 0) dX9_beginsTape_13 rfl rfl ?_
  refine ab_iconst (pc := 14) dX9_beginsTape_14 ab_k_0 ?_
  obtain ⟨h3, hh3, hk⟩ := ab_bnd hk
  refine ab_putI_ (pc := 15) dX9_beginsTape_15 fl_RX9_98 (fun q => by cases q) hh3 ?_
  refine ab_aload_n (pc := 18) (i := 0) dX9_beginsTape_18 rfl rfl ?_
  refine ab_iconst (pc := 19) dX9_beginsTape_19 ab_k_0 ?_
  obtain ⟨h4, hh4, hk⟩ := ab_bnd hk
  refine ab_putI_ (pc := 20) dX9_beginsTape_20 fl_RX9_88 (fun q => by cases q) hh4 ?_
  refine ab_aload_n (pc := 23) (i := 0) dX9_beginsTape_23 rfl rfl ?_
  refine ab_iconst (pc := 24) dX9_beginsTape_24 ab_k_m1 ?_
  obtain ⟨h5, hh5, hk⟩ := ab_bnd hk
  refine ab_putI_ (pc := 25) dX9_beginsTape_25 fl_RX9_20 (fun q => by cases q) hh5 ?_
  refine ab_aload_n (pc := 28) (i := 0) dX9_beginsTape_28 rfl rfl ?_
  obtain ⟨q2, hq2, hk⟩ := ab_bnd hk
  obtain ⟨hb, hq2⟩ := ab_on_some hq2
  refine ab_callVV (st := []) (as := []) (b := a0) (pc := 29) dX9_beginsTape_29 ml_RX9_142 my_X9_advance mv_X9_advance hb (ct_X9_advance hq2) ⟨Nat.le_of_ble_eq_true rfl, Nat.le_of_ble_eq_true rfl⟩ rfl (Nat.le_of_ble_eq_true rfl) rfl ?_
  obtain rfl := Option.some.inj hk
  exact ab_retv (pc := 32) dX9_beginsTape_32 rfl
theorem dX9_text_0 : decode cX9_text 0 = .ok (.aload_n 0, 1) := by decide +kernel
theorem dX9_text_1 : decode cX9_text 1 = .ok (.invokevirtual 237, 3) := by decide +kernel
theorem dX9_text_4 : decode cX9_text 4 = .ok (.aload_n 0, 1) := by decide +kernel
theorem dX9_text_5 : decode cX9_text 5 = .ok (.iconst 0, 1) := by decide +kernel
theorem dX9_text_6 : decode cX9_text 6 = .ok (.putfield 197, 3) := by decide +kernel
theorem dX9_text_9 : decode cX9_text 9 = .ok (.iconst 0, 1) := by decide +kernel
theorem dX9_text_10 : decode cX9_text 10 = .ok (.istore_n 1, 1) := by decide +kernel
theorem dX9_text_11 : decode cX9_text 11 = .ok (.iload_n 1, 1) := by decide +kernel
theorem dX9_text_12 : decode cX9_text 12 = .ok (.sipush 416, 3) := by decide +kernel
theorem dX9_text_15 : decode cX9_text 15 = .ok (.if_icmp .ge 16, 3) := by decide +kernel
theorem dX9_text_18 : decode cX9_text 18 = .ok (.aload_n 0, 1) := by decide +kernel
theorem dX9_text_19 : decode cX9_text 19 = .ok (.getfield 13, 3) := by decide +kernel
theorem dX9_text_22 : decode cX9_text 22 = .ok (.iload_n 1, 1) := by decide +kernel
theorem dX9_text_23 : decode cX9_text 23 = .ok (.lconst 0, 1) := by decide +kernel
theorem dX9_text_24 : decode cX9_text 24 = .ok (.lastore, 1) := by decide +kernel
theorem dX9_text_25 : decode cX9_text 25 = .ok (.iinc 1 1, 3) := by decide +kernel
theorem dX9_text_28 : decode cX9_text 28 = .ok (.goto (-17), 3) := by decide +kernel
theorem dX9_text_31 : decode cX9_text 31 = .ok (.iconst 0, 1) := by decide +kernel
theorem dX9_text_32 : decode cX9_text 32 = .ok (.istore_n 1, 1) := by decide +kernel
theorem dX9_text_33 : decode cX9_text 33 = .ok (.aload_n 0, 1) := by decide +kernel
theorem dX9_text_34 : decode cX9_text 34 = .ok (.invokevirtual 91, 3) := by decide +kernel
theorem dX9_text_37 : decode cX9_text 37 = .ok (.ifCond .eq 20, 3) := by decide +kernel
theorem dX9_text_40 : decode cX9_text 40 = .ok (.aload_n 0, 1) := by decide +kernel
theorem dX9_text_41 : decode cX9_text 41 = .ok (.getfield 108, 3) := by decide +kernel
theorem dX9_text_44 : decode cX9_text 44 = .ok (.ifCond .eq 13, 3) := by decide +kernel
theorem dX9_text_47 : decode cX9_text 47 = .ok (.aload_n 0, 1) := by decide +kernel
theorem dX9_text_48 : decode cX9_text 48 = .ok (.invokevirtual 240, 3) := by decide +kernel
theorem dX9_text_51 : decode cX9_text 51 = .ok (.iinc 1 1, 3) := by decide +kernel
theorem dX9_text_54 : decode cX9_text 54 = .ok (.goto (-21), 3) := by decide +kernel
theorem dX9_text_57 : decode cX9_text 57 = .ok (.aload_n 0, 1) := by decide +kernel
theorem dX9_text_58 : decode cX9_text 58 = .ok (.invokevirtual 91, 3) := by decide +kernel
theorem dX9_text_61 : decode cX9_text 61 = .ok (.ifCond .ne 6, 3) := by decide +kernel
theorem dX9_text_64 : decode cX9_text 64 = .ok (.bipush (-4), 2) := by decide +kernel
theorem dX9_text_66 : decode cX9_text 66 = .ok (.ireturn, 1) := by decide +kernel
theorem dX9_text_67 : decode cX9_text 67 = .ok (.iconst 0, 1) := by decide +kernel
theorem dX9_text_68 : decode cX9_text 68 = .ok (.istore_n 2, 1) := by decide +kernel
theorem dX9_text_69 : decode cX9_text 69 = .ok (.iload_n 2, 1) := by decide +kernel
theorem dX9_text_70 : decode cX9_text 70 = .ok (.sipush 416, 3) := by decide +kernel
theorem dX9_text_73 : decode cX9_text 73 = .ok (.if_icmp .ge 21, 3) := by decide +kernel
theorem dX9_text_76 : decode cX9_text 76 = .ok (.aload_n 0, 1) := by decide +kernel
theorem dX9_text_77 : decode cX9_text 77 = .ok (.getfield 9, 3) := by decide +kernel
theorem dX9_text_80 : decode cX9_text 80 = .ok (.iload_n 2, 1) := by decide +kernel
theorem dX9_text_81 : decode cX9_text 81 = .ok (.aload_n 0, 1) := by decide +kernel
theorem dX9_text_82 : decode cX9_text 82 = .ok (.getfield 13, 3) := by decide +kernel
theorem dX9_text_85 : decode cX9_text 85 = .ok (.iload_n 2, 1) := by decide +kernel
theorem dX9_text_86 : decode cX9_text 86 = .ok (.laload, 1) := by decide +kernel
theorem dX9_text_87 : decode cX9_text 87 = .ok (.lastore, 1) := by decide +kernel
theorem dX9_text_88 : decode cX9_text 88 = .ok (.iinc 2 1, 3) := by decide +kernel
theorem dX9_text_91 : decode cX9_text 91 = .ok (.goto (-22), 3) := by decide +kernel
theorem dX9_text_94 : decode cX9_text 94 = .ok (.aload_n 0, 1) := by decide +kernel
theorem dX9_text_95 : decode cX9_text 95 = .ok (.iconst 0, 1) := by decide +kernel
theorem dX9_text_96 : decode cX9_text 96 = .ok (.putfield 243, 3) := by decide +kernel
theorem dX9_text_99 : decode cX9_text 99 = .ok (.iload_n 1, 1) := by decide +kernel
theorem dX9_text_100 : decode cX9_text 100 = .ok (.ireturn, 1) := by decide +kernel
abbrev mm_X9_text : ab_M := (RX9, 3, (some .int), false, 13, 323, none)
noncomputable def f_X9_text_L69 (k94 : Int → Int → ab_H → Option (Int × ab_H)) : Nat → Int → Int → Int → ab_H → Option (Int × ab_H)
  | 0, _, _, _, _ => none
  | n + 1, v0, v1, v2, h =>
    if (416 : Int) ≤ v2 then
      k94 v0 v1 h
    else
    (ab_get h 10 1 v0).bind fun t1 =>
    (ab_get h 10 2 v0).bind fun t2 =>
    (ab_ald h 12 t2 v2).bind fun t3 =>
    (ab_ast h 12 t1 v2 t3).bind fun h1 =>
    f_X9_text_L69 k94 n v0 v1 (ab_w32 (v2 + (1 : Int))) h1
set_option maxRecDepth 20000 in
theorem e_X9_text_L69 {k94 : Int → Int → ab_H → Option (Int × ab_H)} (hk94 : ∀ (v0 : Int) (v1 : Int) (h : ab_H) (q : Int × ab_H), k94 v0 v1 h = some q → ab_E mm_X9_text cX9_text 94 [some (ab_R v0), some (ab_I v1), none] [] h (some (ab_I q.1)) q.2) : ∀ (n : Nat) (v0 : Int) (v1 : Int) (v2 : Int) (h : ab_H) (q : Int × ab_H), f_X9_text_L69 k94 n v0 v1 v2 h = some q → ab_E mm_X9_text cX9_text 69 [some (ab_R v0), some (ab_I v1), some (ab_I v2)] [] h (some (ab_I q.1)) q.2 := by
  intro n
  induction n with
  | zero => intro v0 v1 v2 h q hk; cases hk
  | succ n ih =>
    intro v0 v1 v2 h q hk
    unfold f_X9_text_L69 at hk
    refine ab_iload_n (pc := 69) (i := 2) dX9_text_69 rfl rfl ?_
    refine ab_sipush (pc := 70) dX9_text_70 ab_p16_416 ab_k_416 ?_
    refine ab_icmp_ge (pc := 73) (tgt := 94) dX9_text_73 rfl (fun hc => ?_) (fun hc => ?_)
    · have hk := ab_ifp hk hc
      refine ab_sub_ (lv2 := [some (ab_R v0), some (ab_I v1), none]) (ab_ss (ab_ss (ab_sn ab_s0))) ?_
      exact hk94 _ _ _ _ hk
    · have hk := ab_ifn hk hc
      refine ab_aload_n (pc := 76) (i := 0) dX9_text_76 rfl rfl ?_
      obtain ⟨t1, ht1, hk⟩ := ab_bnd hk
      refine ab_getR (pc := 77) dX9_text_77 fl_RX9_9 ht1 ?_
      refine ab_iload_n (pc := 80) (i := 2) dX9_text_80 rfl rfl ?_
      refine ab_aload_n (pc := 81) (i := 0) dX9_text_81 rfl rfl ?_
      obtain ⟨t2, ht2, hk⟩ := ab_bnd hk
      refine ab_getR (pc := 82) dX9_text_82 fl_RX9_13 ht2 ?_
      refine ab_iload_n (pc := 85) (i := 2) dX9_text_85 rfl rfl ?_
      obtain ⟨t3, ht3, hk⟩ := ab_bnd hk
      refine ab_lald (pc := 86) dX9_text_86 ht3 ?_
      obtain ⟨h1, hh1, hk⟩ := ab_bnd hk
      refine ab_last (pc := 87) dX9_text_87 hh1 ?_
      refine ab_iinc (pc := 88) (i := 2) (lv2 := [some (ab_R v0), some (ab_I v1), some (ab_I (ab_w32 (v2 + (1 : Int))))]) dX9_text_88 rfl (Nat.le_of_ble_eq_true rfl) rfl rfl ?_
      refine ab_goto (pc := 91) (tgt := 69) dX9_text_91 rfl ?_
      refine ab_sub_ (lv2 := [some (ab_R v0), some (ab_I v1), some (ab_I (ab_w32 (v2 + (1 : Int))))]) (ab_ss (ab_ss (ab_ss ab_s0))) ?_
      exact ih _ _ _ _ _ hk
noncomputable def f_X9_text_J57 (v0 : Int) (v1 : Int) (h : ab_H) : Option (Int × ab_H) :=
  (ab_on h 10 v0 (f_X9_good v0 h)).bind fun q1 =>
  if q1.1 = (0 : Int) then
    some ((-4 : Int), q1.2)
  else
  f_X9_text_L69 (fun w94_0 w94_1 hx94 =>
    (ab_put hx94 10 34 w94_0 (0 : Int)).bind fun h1 =>
    some (w94_1, h1)) ab_FU v0 v1 (0 : Int) q1.2
set_option maxRecDepth 20000 in
theorem e_X9_text_J57 : ∀ (v0 : Int) (v1 : Int) (h : ab_H) (q : Int × ab_H), f_X9_text_J57 v0 v1 h = some q → ab_E mm_X9_text cX9_text 57 [some (ab_R v0), some (ab_I v1), none] [] h (some (ab_I q.1)) q.2 := by
  intro v0 v1 h q hk
  unfold f_X9_text_J57 at hk
  refine ab_aload_n (pc := 57) (i := 0) dX9_text_57 rfl rfl ?_
  obtain ⟨q1, hq1, hk⟩ := ab_bnd hk
  obtain ⟨hb, hq1⟩ := ab_on_some hq1
  refine ab_callVI (st := []) (as := []) (b := v0) (pc := 58) dX9_text_58 ml_RX9_91 my_X9_good mv_X9_good hb (ct_X9_good hq1) ⟨Nat.le_of_ble_eq_true rfl, Nat.le_of_ble_eq_true rfl⟩ rfl (Nat.le_of_ble_eq_true rfl) rfl ?_
  refine ab_if_ne (pc := 61) (tgt := 67) dX9_text_61 rfl (fun hc => ?_) (fun hc => ?_)
  · have hk := ab_ifn hk hc
    refine ab_iconst (pc := 67) dX9_text_67 ab_k_0 ?_
    refine ab_istore_n (pc := 68) (i := 2) (lv2 := [some (ab_R v0), some (ab_I v1), some (ab_I (0 : Int))]) dX9_text_68 rfl (Nat.le_of_ble_eq_true rfl) rfl rfl ?_
    refine ab_sub_ (lv2 := [some (ab_R v0), some (ab_I v1), some (ab_I (0 : Int))]) (ab_ss (ab_ss (ab_ss ab_s0))) ?_
    refine e_X9_text_L69 (fun w94_0 w94_1 hx94 q hk => ?_) _ _ _ _ _ _ hk
    · skip
      refine ab_aload_n (pc := 94) (i := 0) dX9_text_94 rfl rfl ?_
      refine ab_iconst (pc := 95) dX9_text_95 ab_k_0 ?_
      obtain ⟨h1, hh1, hk⟩ := ab_bnd hk
      refine ab_putI_ (pc := 96) dX9_text_96 fl_RX9_243 (fun q => by cases q) hh1 ?_
      refine ab_iload_n (pc := 99) (i := 1) dX9_text_99 rfl rfl ?_
      obtain rfl := Option.some.inj hk
      exact ab_reti (pc := 100) dX9_text_100 (Or.inl rfl)
  · have hk := ab_ifp hk hc
    refine ab_bipush (pc := 64) dX9_text_64 ab_p8_m4 ab_k_m4 ?_
    obtain rfl := Option.some.inj hk
    exact ab_reti (pc := 66) dX9_text_66 (Or.inl rfl)
noncomputable def f_X9_text_L33 (k57 : Int → Int → ab_H → Option (Int × ab_H)) : Nat → Int → Int → ab_H → Option (Int × ab_H)
  | 0, _, _, _ => none
  | n + 1, v0, v1, h =>
    (ab_on h 10 v0 (f_X9_good v0 h)).bind fun q1 =>
    if q1.1 = (0 : Int) then
      k57 v0 v1 q1.2
    else
    (ab_get q1.2 10 8 v0).bind fun t2 =>
    if t2 = (0 : Int) then
      k57 v0 v1 q1.2
    else
    (ab_on q1.2 10 v0 (f_X9_readLine v0 q1.2)).bind fun q3 =>
    f_X9_text_L33 k57 n v0 (ab_w32 (v1 + (1 : Int))) q3
set_option maxRecDepth 20000 in
theorem e_X9_text_L33 {k57 : Int → Int → ab_H → Option (Int × ab_H)} (hk57 : ∀ (v0 : Int) (v1 : Int) (h : ab_H) (q : Int × ab_H), k57 v0 v1 h = some q → ab_E mm_X9_text cX9_text 57 [some (ab_R v0), some (ab_I v1), none] [] h (some (ab_I q.1)) q.2) : ∀ (n : Nat) (v0 : Int) (v1 : Int) (h : ab_H) (q : Int × ab_H), f_X9_text_L33 k57 n v0 v1 h = some q → ab_E mm_X9_text cX9_text 33 [some (ab_R v0), some (ab_I v1), none] [] h (some (ab_I q.1)) q.2 := by
  intro n
  induction n with
  | zero => intro v0 v1 h q hk; cases hk
  | succ n ih =>
    intro v0 v1 h q hk
    unfold f_X9_text_L33 at hk
    refine ab_aload_n (pc := 33) (i := 0) dX9_text_33 rfl rfl ?_
    obtain ⟨q1, hq1, hk⟩ := ab_bnd hk
    obtain ⟨hb, hq1⟩ := ab_on_some hq1
    refine ab_callVI (st := []) (as := []) (b := v0) (pc := 34) dX9_text_34 ml_RX9_91 my_X9_good mv_X9_good hb (ct_X9_good hq1) ⟨Nat.le_of_ble_eq_true rfl, Nat.le_of_ble_eq_true rfl⟩ rfl (Nat.le_of_ble_eq_true rfl) rfl ?_
    refine ab_if_eq (pc := 37) (tgt := 57) dX9_text_37 rfl (fun hc => ?_) (fun hc => ?_)
    · have hk := ab_ifp hk hc
      refine ab_sub_ (lv2 := [some (ab_R v0), some (ab_I v1), none]) (ab_ss (ab_ss (ab_sn ab_s0))) ?_
      exact hk57 _ _ _ _ hk
    · have hk := ab_ifn hk hc
      refine ab_aload_n (pc := 40) (i := 0) dX9_text_40 rfl rfl ?_
      obtain ⟨t2, ht2, hk⟩ := ab_bnd hk
      refine ab_getI (pc := 41) dX9_text_41 fl_RX9_108 ht2 ?_
      refine ab_if_eq (pc := 44) (tgt := 57) dX9_text_44 rfl (fun hc => ?_) (fun hc => ?_)
      · have hk := ab_ifp hk hc
        refine ab_sub_ (lv2 := [some (ab_R v0), some (ab_I v1), none]) (ab_ss (ab_ss (ab_sn ab_s0))) ?_
        exact hk57 _ _ _ _ hk
      · have hk := ab_ifn hk hc
        refine ab_aload_n (pc := 47) (i := 0) dX9_text_47 rfl rfl ?_
        obtain ⟨q3, hq3, hk⟩ := ab_bnd hk
        obtain ⟨hb, hq3⟩ := ab_on_some hq3
        refine ab_callVV (st := []) (as := []) (b := v0) (pc := 48) dX9_text_48 ml_RX9_240 my_X9_readLine mv_X9_readLine hb (ct_X9_readLine hq3) ⟨Nat.le_of_ble_eq_true rfl, Nat.le_of_ble_eq_true rfl⟩ rfl (Nat.le_of_ble_eq_true rfl) rfl ?_
        refine ab_iinc (pc := 51) (i := 1) (lv2 := [some (ab_R v0), some (ab_I (ab_w32 (v1 + (1 : Int)))), none]) dX9_text_51 rfl (Nat.le_of_ble_eq_true rfl) rfl rfl ?_
        refine ab_goto (pc := 54) (tgt := 33) dX9_text_54 rfl ?_
        refine ab_sub_ (lv2 := [some (ab_R v0), some (ab_I (ab_w32 (v1 + (1 : Int)))), none]) (ab_ss (ab_ss (ab_sn ab_s0))) ?_
        exact ih _ _ _ _ hk
noncomputable def f_X9_text_L11 (k31 : Int → ab_H → Option (Int × ab_H)) : Nat → Int → Int → ab_H → Option (Int × ab_H)
  | 0, _, _, _ => none
  | n + 1, v0, v1, h =>
    if (416 : Int) ≤ v1 then
      k31 v0 h
    else
    (ab_get h 10 2 v0).bind fun t1 =>
    (ab_ast h 12 t1 v1 (0 : Int)).bind fun h1 =>
    f_X9_text_L11 k31 n v0 (ab_w32 (v1 + (1 : Int))) h1
set_option maxRecDepth 20000 in
theorem e_X9_text_L11 {k31 : Int → ab_H → Option (Int × ab_H)} (hk31 : ∀ (v0 : Int) (h : ab_H) (q : Int × ab_H), k31 v0 h = some q → ab_E mm_X9_text cX9_text 31 [some (ab_R v0), none, none] [] h (some (ab_I q.1)) q.2) : ∀ (n : Nat) (v0 : Int) (v1 : Int) (h : ab_H) (q : Int × ab_H), f_X9_text_L11 k31 n v0 v1 h = some q → ab_E mm_X9_text cX9_text 11 [some (ab_R v0), some (ab_I v1), none] [] h (some (ab_I q.1)) q.2 := by
  intro n
  induction n with
  | zero => intro v0 v1 h q hk; cases hk
  | succ n ih =>
    intro v0 v1 h q hk
    unfold f_X9_text_L11 at hk
    refine ab_iload_n (pc := 11) (i := 1) dX9_text_11 rfl rfl ?_
    refine ab_sipush (pc := 12) dX9_text_12 ab_p16_416 ab_k_416 ?_
    refine ab_icmp_ge (pc := 15) (tgt := 31) dX9_text_15 rfl (fun hc => ?_) (fun hc => ?_)
    · have hk := ab_ifp hk hc
      refine ab_sub_ (lv2 := [some (ab_R v0), none, none]) (ab_ss (ab_sn (ab_sn ab_s0))) ?_
      exact hk31 _ _ _ hk
    · have hk := ab_ifn hk hc
      refine ab_aload_n (pc := 18) (i := 0) dX9_text_18 rfl rfl ?_
      obtain ⟨t1, ht1, hk⟩ := ab_bnd hk
      refine ab_getR (pc := 19) dX9_text_19 fl_RX9_13 ht1 ?_
      refine ab_iload_n (pc := 22) (i := 1) dX9_text_22 rfl rfl ?_
      refine ab_lconst (x := (0 : Int)) (pc := 23) dX9_text_23 rfl ab_kl_0 ?_
      obtain ⟨h1, hh1, hk⟩ := ab_bnd hk
      refine ab_last (pc := 24) dX9_text_24 hh1 ?_
      refine ab_iinc (pc := 25) (i := 1) (lv2 := [some (ab_R v0), some (ab_I (ab_w32 (v1 + (1 : Int)))), none]) dX9_text_25 rfl (Nat.le_of_ble_eq_true rfl) rfl rfl ?_
      refine ab_goto (pc := 28) (tgt := 11) dX9_text_28 rfl ?_
      refine ab_sub_ (lv2 := [some (ab_R v0), some (ab_I (ab_w32 (v1 + (1 : Int)))), none]) (ab_ss (ab_ss (ab_sn ab_s0))) ?_
      exact ih _ _ _ _ hk
noncomputable def f_X9_text (a0 : Int) (h : ab_H) : Option (Int × ab_H) :=
  (ab_on h 10 a0 (f_X9_beginsTape a0 h)).bind fun q1 =>
  (ab_put q1 10 12 a0 (0 : Int)).bind fun h1 =>
  f_X9_text_L11 (fun w31_0 hx31 =>
    f_X9_text_L33 (fun w57_0 w57_1 hx57 =>
      f_X9_text_J57 w57_0 w57_1 hx57) ab_FU w31_0 (0 : Int) hx31) ab_FU a0 (0 : Int) h1
set_option maxRecDepth 20000 in
theorem ct_X9_text {a0 : Int} {h : ab_H} {q : Int × ab_H} (hk : f_X9_text a0 h = some q) : ab_CT yX9_text cX9_text 3 (some .int) 13 323 [ab_R a0] h (some (ab_I q.1)) q.2 := by
  refine ab_CT.mk_ 2 (own := RX9) (ini := false) (lv := [some (ab_R a0), none, none]) rfl (by decide +kernel) (fun q => by cases q) rfl rfl ?_
  unfold f_X9_text at hk
  show ab_E mm_X9_text cX9_text 0 _ [] h _ _
  refine ab_aload_n (pc := 0) (i := 0) dX9_text_0 rfl rfl ?_
  obtain ⟨q1, hq1, hk⟩ := ab_bnd hk
  obtain ⟨hb, hq1⟩ := ab_on_some hq1
  refine ab_callVV (st := []) (as := []) (b := a0) (pc := 1) dX9_text_1 ml_RX9_237 my_X9_beginsTape mv_X9_beginsTape hb (ct_X9_beginsTape hq1) ⟨Nat.le_of_ble_eq_true rfl, Nat.le_of_ble_eq_true rfl⟩ rfl (Nat.le_of_ble_eq_true rfl) rfl ?_
  refine ab_aload_n (pc := 4) (i := 0) dX9_text_4 rfl rfl ?_
  refine ab_iconst (pc := 5) dX9_text_5 ab_k_0 ?_
  obtain ⟨h1, hh1, hk⟩ := ab_bnd hk
  refine ab_putI_ (pc := 6) dX9_text_6 fl_RX9_197 (fun q => by cases q) hh1 ?_
  refine ab_iconst (pc := 9) dX9_text_9 ab_k_0 ?_
  refine ab_istore_n (pc := 10) (i := 1) (lv2 := [some (ab_R a0), some (ab_I (0 : Int)), none]) dX9_text_10 rfl (Nat.le_of_ble_eq_true rfl) rfl rfl ?_
  refine ab_sub_ (lv2 := [some (ab_R a0), some (ab_I (0 : Int)), none]) (ab_ss (ab_ss (ab_sn ab_s0))) ?_
  refine e_X9_text_L11 (fun w31_0 hx31 q hk => ?_) _ _ _ _ _ hk
  · skip
    refine ab_iconst (pc := 31) dX9_text_31 ab_k_0 ?_
    refine ab_istore_n (pc := 32) (i := 1) (lv2 := [some (ab_R w31_0), some (ab_I (0 : Int)), none]) dX9_text_32 rfl (Nat.le_of_ble_eq_true rfl) rfl rfl ?_
    refine ab_sub_ (lv2 := [some (ab_R w31_0), some (ab_I (0 : Int)), none]) (ab_ss (ab_ss (ab_sn ab_s0))) ?_
    refine e_X9_text_L33 (fun w57_0 w57_1 hx57 q hk => ?_) _ _ _ _ _ hk
    · skip
      refine ab_sub_ (lv2 := [some (ab_R w57_0), some (ab_I w57_1), none]) (ab_ss (ab_ss (ab_sn ab_s0))) ?_
      exact e_X9_text_J57 _ _ _ _ hk
theorem dX9_keeps_0 : decode cX9_keeps 0 = .ok (.aload_n 0, 1) := by decide +kernel
theorem dX9_keeps_1 : decode cX9_keeps 1 = .ok (.getfield 243, 3) := by decide +kernel
theorem dX9_keeps_4 : decode cX9_keeps 4 = .ok (.bipush 10, 2) := by decide +kernel
theorem dX9_keeps_6 : decode cX9_keeps 6 = .ok (.if_icmp .ne 46, 3) := by decide +kernel
theorem dX9_keeps_9 : decode cX9_keeps 9 = .ok (.sipush 416, 3) := by decide +kernel
theorem dX9_keeps_12 : decode cX9_keeps 12 = .ok (.istore_n 1, 1) := by decide +kernel
theorem dX9_keeps_13 : decode cX9_keeps 13 = .ok (.iload_n 1, 1) := by decide +kernel
theorem dX9_keeps_14 : decode cX9_keeps 14 = .ok (.sipush 4160, 3) := by decide +kernel
theorem dX9_keeps_17 : decode cX9_keeps 17 = .ok (.if_icmp .ge 25, 3) := by decide +kernel
theorem dX9_keeps_20 : decode cX9_keeps 20 = .ok (.aload_n 0, 1) := by decide +kernel
theorem dX9_keeps_21 : decode cX9_keeps 21 = .ok (.getfield 67, 3) := by decide +kernel
theorem dX9_keeps_24 : decode cX9_keeps 24 = .ok (.iload_n 1, 1) := by decide +kernel
theorem dX9_keeps_25 : decode cX9_keeps 25 = .ok (.sipush 416, 3) := by decide +kernel
theorem dX9_keeps_28 : decode cX9_keeps 28 = .ok (.isub, 1) := by decide +kernel
theorem dX9_keeps_29 : decode cX9_keeps 29 = .ok (.aload_n 0, 1) := by decide +kernel
theorem dX9_keeps_30 : decode cX9_keeps 30 = .ok (.getfield 67, 3) := by decide +kernel
theorem dX9_keeps_33 : decode cX9_keeps 33 = .ok (.iload_n 1, 1) := by decide +kernel
theorem dX9_keeps_34 : decode cX9_keeps 34 = .ok (.laload, 1) := by decide +kernel
theorem dX9_keeps_35 : decode cX9_keeps 35 = .ok (.lastore, 1) := by decide +kernel
theorem dX9_keeps_36 : decode cX9_keeps 36 = .ok (.iinc 1 1, 3) := by decide +kernel
theorem dX9_keeps_39 : decode cX9_keeps 39 = .ok (.goto (-26), 3) := by decide +kernel
theorem dX9_keeps_42 : decode cX9_keeps 42 = .ok (.aload_n 0, 1) := by decide +kernel
theorem dX9_keeps_43 : decode cX9_keeps 43 = .ok (.dup, 1) := by decide +kernel
theorem dX9_keeps_44 : decode cX9_keeps 44 = .ok (.getfield 243, 3) := by decide +kernel
theorem dX9_keeps_47 : decode cX9_keeps 47 = .ok (.iconst 1, 1) := by decide +kernel
theorem dX9_keeps_48 : decode cX9_keeps 48 = .ok (.isub, 1) := by decide +kernel
theorem dX9_keeps_49 : decode cX9_keeps 49 = .ok (.putfield 243, 3) := by decide +kernel
theorem dX9_keeps_52 : decode cX9_keeps 52 = .ok (.iconst 0, 1) := by decide +kernel
theorem dX9_keeps_53 : decode cX9_keeps 53 = .ok (.istore_n 1, 1) := by decide +kernel
theorem dX9_keeps_54 : decode cX9_keeps 54 = .ok (.iload_n 1, 1) := by decide +kernel
theorem dX9_keeps_55 : decode cX9_keeps 55 = .ok (.sipush 416, 3) := by decide +kernel
theorem dX9_keeps_58 : decode cX9_keeps 58 = .ok (.if_icmp .ge 30, 3) := by decide +kernel
theorem dX9_keeps_61 : decode cX9_keeps 61 = .ok (.aload_n 0, 1) := by decide +kernel
theorem dX9_keeps_62 : decode cX9_keeps 62 = .ok (.getfield 67, 3) := by decide +kernel
theorem dX9_keeps_65 : decode cX9_keeps 65 = .ok (.sipush 416, 3) := by decide +kernel
theorem dX9_keeps_68 : decode cX9_keeps 68 = .ok (.aload_n 0, 1) := by decide +kernel
theorem dX9_keeps_69 : decode cX9_keeps 69 = .ok (.getfield 243, 3) := by decide +kernel
theorem dX9_keeps_72 : decode cX9_keeps 72 = .ok (.imul, 1) := by decide +kernel
theorem dX9_keeps_73 : decode cX9_keeps 73 = .ok (.iload_n 1, 1) := by decide +kernel
theorem dX9_keeps_74 : decode cX9_keeps 74 = .ok (.iadd, 1) := by decide +kernel
theorem dX9_keeps_75 : decode cX9_keeps 75 = .ok (.aload_n 0, 1) := by decide +kernel
theorem dX9_keeps_76 : decode cX9_keeps 76 = .ok (.getfield 9, 3) := by decide +kernel
theorem dX9_keeps_79 : decode cX9_keeps 79 = .ok (.iload_n 1, 1) := by decide +kernel
theorem dX9_keeps_80 : decode cX9_keeps 80 = .ok (.laload, 1) := by decide +kernel
theorem dX9_keeps_81 : decode cX9_keeps 81 = .ok (.lastore, 1) := by decide +kernel
theorem dX9_keeps_82 : decode cX9_keeps 82 = .ok (.iinc 1 1, 3) := by decide +kernel
theorem dX9_keeps_85 : decode cX9_keeps 85 = .ok (.goto (-31), 3) := by decide +kernel
theorem dX9_keeps_88 : decode cX9_keeps 88 = .ok (.aload_n 0, 1) := by decide +kernel
theorem dX9_keeps_89 : decode cX9_keeps 89 = .ok (.dup, 1) := by decide +kernel
theorem dX9_keeps_90 : decode cX9_keeps 90 = .ok (.getfield 243, 3) := by decide +kernel
theorem dX9_keeps_93 : decode cX9_keeps 93 = .ok (.iconst 1, 1) := by decide +kernel
theorem dX9_keeps_94 : decode cX9_keeps 94 = .ok (.iadd, 1) := by decide +kernel
theorem dX9_keeps_95 : decode cX9_keeps 95 = .ok (.putfield 243, 3) := by decide +kernel
theorem dX9_keeps_98 : decode cX9_keeps 98 = .ok (.return_, 1) := by decide +kernel
abbrev mm_X9_keeps : ab_M := (RX9, 2, none, false, 0, 0, none)
noncomputable def f_X9_keeps_L54 (k88 : Int → ab_H → Option ab_H) : Nat → Int → Int → ab_H → Option ab_H
  | 0, _, _, _ => none
  | n + 1, v0, v1, h =>
    if (416 : Int) ≤ v1 then
      k88 v0 h
    else
    (ab_get h 10 35 v0).bind fun t1 =>
    (ab_get h 10 34 v0).bind fun t2 =>
    (ab_get h 10 1 v0).bind fun t3 =>
    (ab_ald h 12 t3 v1).bind fun t4 =>
    (ab_ast h 12 t1 (ab_w32 ((ab_w32 ((416 : Int) * t2)) + v1)) t4).bind fun h1 =>
    f_X9_keeps_L54 k88 n v0 (ab_w32 (v1 + (1 : Int))) h1
set_option maxRecDepth 20000 in
theorem e_X9_keeps_L54 {k88 : Int → ab_H → Option ab_H} (hk88 : ∀ (v0 : Int) (h : ab_H) (q : ab_H), k88 v0 h = some q → ab_E mm_X9_keeps cX9_keeps 88 [some (ab_R v0), none] [] h none q) : ∀ (n : Nat) (v0 : Int) (v1 : Int) (h : ab_H) (q : ab_H), f_X9_keeps_L54 k88 n v0 v1 h = some q → ab_E mm_X9_keeps cX9_keeps 54 [some (ab_R v0), some (ab_I v1)] [] h none q := by
  intro n
  induction n with
  | zero => intro v0 v1 h q hk; cases hk
  | succ n ih =>
    intro v0 v1 h q hk
    unfold f_X9_keeps_L54 at hk
    refine ab_iload_n (pc := 54) (i := 1) dX9_keeps_54 rfl rfl ?_
    refine ab_sipush (pc := 55) dX9_keeps_55 ab_p16_416 ab_k_416 ?_
    refine ab_icmp_ge (pc := 58) (tgt := 88) dX9_keeps_58 rfl (fun hc => ?_) (fun hc => ?_)
    · have hk := ab_ifp hk hc
      refine ab_sub_ (lv2 := [some (ab_R v0), none]) (ab_ss (ab_sn ab_s0)) ?_
      exact hk88 _ _ _ hk
    · have hk := ab_ifn hk hc
      refine ab_aload_n (pc := 61) (i := 0) dX9_keeps_61 rfl rfl ?_
      obtain ⟨t1, ht1, hk⟩ := ab_bnd hk
      refine ab_getR (pc := 62) dX9_keeps_62 fl_RX9_67 ht1 ?_
      refine ab_sipush (pc := 65) dX9_keeps_65 ab_p16_416 ab_k_416 ?_
      refine ab_aload_n (pc := 68) (i := 0) dX9_keeps_68 rfl rfl ?_
      obtain ⟨t2, ht2, hk⟩ := ab_bnd hk
      refine ab_getI (pc := 69) dX9_keeps_69 fl_RX9_243 ht2 ?_
      refine ab_imul (pc := 72) dX9_keeps_72 ?_
      refine ab_iload_n (pc := 73) (i := 1) dX9_keeps_73 rfl rfl ?_
      refine ab_iadd (pc := 74) dX9_keeps_74 ?_
      refine ab_aload_n (pc := 75) (i := 0) dX9_keeps_75 rfl rfl ?_
      obtain ⟨t3, ht3, hk⟩ := ab_bnd hk
      refine ab_getR (pc := 76) dX9_keeps_76 fl_RX9_9 ht3 ?_
      refine ab_iload_n (pc := 79) (i := 1) dX9_keeps_79 rfl rfl ?_
      obtain ⟨t4, ht4, hk⟩ := ab_bnd hk
      refine ab_lald (pc := 80) dX9_keeps_80 ht4 ?_
      obtain ⟨h1, hh1, hk⟩ := ab_bnd hk
      refine ab_last (pc := 81) dX9_keeps_81 hh1 ?_
      refine ab_iinc (pc := 82) (i := 1) (lv2 := [some (ab_R v0), some (ab_I (ab_w32 (v1 + (1 : Int))))]) dX9_keeps_82 rfl (Nat.le_of_ble_eq_true rfl) rfl rfl ?_
      refine ab_goto (pc := 85) (tgt := 54) dX9_keeps_85 rfl ?_
      refine ab_sub_ (lv2 := [some (ab_R v0), some (ab_I (ab_w32 (v1 + (1 : Int))))]) (ab_ss (ab_ss ab_s0)) ?_
      exact ih _ _ _ _ hk
noncomputable def f_X9_keeps_J52 (v0 : Int) (h : ab_H) : Option ab_H :=
  f_X9_keeps_L54 (fun w88_0 hx88 =>
    (ab_get hx88 10 34 w88_0).bind fun t1 =>
    (ab_put hx88 10 34 w88_0 (ab_w32 (t1 + (1 : Int)))).bind fun h1 =>
    some h1) ab_FU v0 (0 : Int) h
set_option maxRecDepth 20000 in
theorem e_X9_keeps_J52 : ∀ (v0 : Int) (h : ab_H) (q : ab_H), f_X9_keeps_J52 v0 h = some q → ab_E mm_X9_keeps cX9_keeps 52 [some (ab_R v0), none] [] h none q := by
  intro v0 h q hk
  unfold f_X9_keeps_J52 at hk
  refine ab_iconst (pc := 52) dX9_keeps_52 ab_k_0 ?_
  refine ab_istore_n (pc := 53) (i := 1) (lv2 := [some (ab_R v0), some (ab_I (0 : Int))]) dX9_keeps_53 rfl (Nat.le_of_ble_eq_true rfl) rfl rfl ?_
  refine ab_sub_ (lv2 := [some (ab_R v0), some (ab_I (0 : Int))]) (ab_ss (ab_ss ab_s0)) ?_
  refine e_X9_keeps_L54 (fun w88_0 hx88 q hk => ?_) _ _ _ _ _ hk
  · skip
    refine ab_aload_n (pc := 88) (i := 0) dX9_keeps_88 rfl rfl ?_
    refine ab_dup (pc := 89) dX9_keeps_89 rfl ?_
    obtain ⟨t1, ht1, hk⟩ := ab_bnd hk
    refine ab_getI (pc := 90) dX9_keeps_90 fl_RX9_243 ht1 ?_
    refine ab_iconst (pc := 93) dX9_keeps_93 ab_k_1 ?_
    refine ab_iadd (pc := 94) dX9_keeps_94 ?_
    obtain ⟨h1, hh1, hk⟩ := ab_bnd hk
    refine ab_putI_ (pc := 95) dX9_keeps_95 fl_RX9_243 (fun q => by cases q) hh1 ?_
    obtain rfl := Option.some.inj hk
    exact ab_retv (pc := 98) dX9_keeps_98 rfl
noncomputable def f_X9_keeps_L13 (k42 : Int → ab_H → Option ab_H) : Nat → Int → Int → ab_H → Option ab_H
  | 0, _, _, _ => none
  | n + 1, v0, v1, h =>
    if (4160 : Int) ≤ v1 then
      k42 v0 h
    else
    (ab_get h 10 35 v0).bind fun t1 =>
    (ab_get h 10 35 v0).bind fun t2 =>
    (ab_ald h 12 t2 v1).bind fun t3 =>
    (ab_ast h 12 t1 (ab_w32 (v1 - (416 : Int))) t3).bind fun h1 =>
    f_X9_keeps_L13 k42 n v0 (ab_w32 (v1 + (1 : Int))) h1
set_option maxRecDepth 20000 in
theorem e_X9_keeps_L13 {k42 : Int → ab_H → Option ab_H} (hk42 : ∀ (v0 : Int) (h : ab_H) (q : ab_H), k42 v0 h = some q → ab_E mm_X9_keeps cX9_keeps 42 [some (ab_R v0), none] [] h none q) : ∀ (n : Nat) (v0 : Int) (v1 : Int) (h : ab_H) (q : ab_H), f_X9_keeps_L13 k42 n v0 v1 h = some q → ab_E mm_X9_keeps cX9_keeps 13 [some (ab_R v0), some (ab_I v1)] [] h none q := by
  intro n
  induction n with
  | zero => intro v0 v1 h q hk; cases hk
  | succ n ih =>
    intro v0 v1 h q hk
    unfold f_X9_keeps_L13 at hk
    refine ab_iload_n (pc := 13) (i := 1) dX9_keeps_13 rfl rfl ?_
    refine ab_sipush (pc := 14) dX9_keeps_14 ab_p16_4160 ab_k_4160 ?_
    refine ab_icmp_ge (pc := 17) (tgt := 42) dX9_keeps_17 rfl (fun hc => ?_) (fun hc => ?_)
    · have hk := ab_ifp hk hc
      refine ab_sub_ (lv2 := [some (ab_R v0), none]) (ab_ss (ab_sn ab_s0)) ?_
      exact hk42 _ _ _ hk
    · have hk := ab_ifn hk hc
      refine ab_aload_n (pc := 20) (i := 0) dX9_keeps_20 rfl rfl ?_
      obtain ⟨t1, ht1, hk⟩ := ab_bnd hk
      refine ab_getR (pc := 21) dX9_keeps_21 fl_RX9_67 ht1 ?_
      refine ab_iload_n (pc := 24) (i := 1) dX9_keeps_24 rfl rfl ?_
      refine ab_sipush (pc := 25) dX9_keeps_25 ab_p16_416 ab_k_416 ?_
      refine ab_isub (pc := 28) dX9_keeps_28 ?_
      refine ab_aload_n (pc := 29) (i := 0) dX9_keeps_29 rfl rfl ?_
      obtain ⟨t2, ht2, hk⟩ := ab_bnd hk
      refine ab_getR (pc := 30) dX9_keeps_30 fl_RX9_67 ht2 ?_
      refine ab_iload_n (pc := 33) (i := 1) dX9_keeps_33 rfl rfl ?_
      obtain ⟨t3, ht3, hk⟩ := ab_bnd hk
      refine ab_lald (pc := 34) dX9_keeps_34 ht3 ?_
      obtain ⟨h1, hh1, hk⟩ := ab_bnd hk
      refine ab_last (pc := 35) dX9_keeps_35 hh1 ?_
      refine ab_iinc (pc := 36) (i := 1) (lv2 := [some (ab_R v0), some (ab_I (ab_w32 (v1 + (1 : Int))))]) dX9_keeps_36 rfl (Nat.le_of_ble_eq_true rfl) rfl rfl ?_
      refine ab_goto (pc := 39) (tgt := 13) dX9_keeps_39 rfl ?_
      refine ab_sub_ (lv2 := [some (ab_R v0), some (ab_I (ab_w32 (v1 + (1 : Int))))]) (ab_ss (ab_ss ab_s0)) ?_
      exact ih _ _ _ _ hk
noncomputable def f_X9_keeps (a0 : Int) (h : ab_H) : Option ab_H :=
  (ab_get h 10 34 a0).bind fun t1 =>
  if t1 = (10 : Int) then
    f_X9_keeps_L13 (fun w42_0 hx42 =>
      (ab_get hx42 10 34 w42_0).bind fun t2 =>
      (ab_put hx42 10 34 w42_0 (ab_w32 (t2 - (1 : Int)))).bind fun h1 =>
      f_X9_keeps_J52 w42_0 h1) ab_FU a0 (416 : Int) h
  else
  f_X9_keeps_J52 a0 h
set_option maxRecDepth 20000 in
theorem ct_X9_keeps {a0 : Int} {h : ab_H} {q : ab_H} (hk : f_X9_keeps a0 h = some q) : ab_CT yX9_keeps cX9_keeps 2 none 0 0 [ab_R a0] h none q := by
  refine ab_CT.mk_ 1 (own := RX9) (ini := false) (lv := [some (ab_R a0), none]) rfl (by decide +kernel) (fun q => by cases q) rfl rfl ?_
  unfold f_X9_keeps at hk
  show ab_E mm_X9_keeps cX9_keeps 0 _ [] h _ _
  refine ab_aload_n (pc := 0) (i := 0) dX9_keeps_0 rfl rfl ?_
  obtain ⟨t1, ht1, hk⟩ := ab_bnd hk
  refine ab_getI (pc := 1) dX9_keeps_1 fl_RX9_243 ht1 ?_
  refine ab_bipush (pc := 4) dX9_keeps_4 ab_p8_10 ab_k_10 ?_
  refine ab_icmp_ne (pc := 6) (tgt := 52) dX9_keeps_6 rfl (fun hc => ?_) (fun hc => ?_)
  · have hk := ab_ifn hk hc
    refine ab_sub_ (lv2 := [some (ab_R a0), none]) (ab_ss (ab_sn ab_s0)) ?_
    exact e_X9_keeps_J52 _ _ _ hk
  · have hk := ab_ifp hk hc
    refine ab_sipush (pc := 9) dX9_keeps_9 ab_p16_416 ab_k_416 ?_
    refine ab_istore_n (pc := 12) (i := 1) (lv2 := [some (ab_R a0), some (ab_I (416 : Int))]) dX9_keeps_12 rfl (Nat.le_of_ble_eq_true rfl) rfl rfl ?_
    refine ab_sub_ (lv2 := [some (ab_R a0), some (ab_I (416 : Int))]) (ab_ss (ab_ss ab_s0)) ?_
    refine e_X9_keeps_L13 (fun w42_0 hx42 q hk => ?_) _ _ _ _ _ hk
    · skip
      refine ab_aload_n (pc := 42) (i := 0) dX9_keeps_42 rfl rfl ?_
      refine ab_dup (pc := 43) dX9_keeps_43 rfl ?_
      obtain ⟨t2, ht2, hk⟩ := ab_bnd hk
      refine ab_getI (pc := 44) dX9_keeps_44 fl_RX9_243 ht2 ?_
      refine ab_iconst (pc := 47) dX9_keeps_47 ab_k_1 ?_
      refine ab_isub (pc := 48) dX9_keeps_48 ?_
      obtain ⟨h1, hh1, hk⟩ := ab_bnd hk
      refine ab_putI_ (pc := 49) dX9_keeps_49 fl_RX9_243 (fun q => by cases q) hh1 ?_
      refine ab_sub_ (lv2 := [some (ab_R w42_0), none]) (ab_ss (ab_sn ab_s0)) ?_
      exact e_X9_keeps_J52 _ _ _ hk
theorem dX9_adds_0 : decode cX9_adds 0 = .ok (.aload_n 0, 1) := by decide +kernel
theorem dX9_adds_1 : decode cX9_adds 1 = .ok (.invokevirtual 246, 3) := by decide +kernel
theorem dX9_adds_4 : decode cX9_adds 4 = .ok (.bipush 12, 2) := by decide +kernel
theorem dX9_adds_6 : decode cX9_adds 6 = .ok (.if_icmp .ne 6, 3) := by decide +kernel
theorem dX9_adds_9 : decode cX9_adds 9 = .ok (.bipush (-5), 2) := by decide +kernel
theorem dX9_adds_11 : decode cX9_adds 11 = .ok (.ireturn, 1) := by decide +kernel
theorem dX9_adds_12 : decode cX9_adds 12 = .ok (.aload_n 0, 1) := by decide +kernel
theorem dX9_adds_13 : decode cX9_adds 13 = .ok (.invokevirtual 237, 3) := by decide +kernel
theorem dX9_adds_16 : decode cX9_adds 16 = .ok (.iconst 0, 1) := by decide +kernel
theorem dX9_adds_17 : decode cX9_adds 17 = .ok (.istore_n 1, 1) := by decide +kernel
theorem dX9_adds_18 : decode cX9_adds 18 = .ok (.iload_n 1, 1) := by decide +kernel
theorem dX9_adds_19 : decode cX9_adds 19 = .ok (.sipush 416, 3) := by decide +kernel
theorem dX9_adds_22 : decode cX9_adds 22 = .ok (.if_icmp .ge 21, 3) := by decide +kernel
theorem dX9_adds_25 : decode cX9_adds 25 = .ok (.aload_n 0, 1) := by decide +kernel
theorem dX9_adds_26 : decode cX9_adds 26 = .ok (.getfield 13, 3) := by decide +kernel
theorem dX9_adds_29 : decode cX9_adds 29 = .ok (.iload_n 1, 1) := by decide +kernel
theorem dX9_adds_30 : decode cX9_adds 30 = .ok (.aload_n 0, 1) := by decide +kernel
theorem dX9_adds_31 : decode cX9_adds 31 = .ok (.getfield 9, 3) := by decide +kernel
theorem dX9_adds_34 : decode cX9_adds 34 = .ok (.iload_n 1, 1) := by decide +kernel
theorem dX9_adds_35 : decode cX9_adds 35 = .ok (.laload, 1) := by decide +kernel
theorem dX9_adds_36 : decode cX9_adds 36 = .ok (.lastore, 1) := by decide +kernel
theorem dX9_adds_37 : decode cX9_adds 37 = .ok (.iinc 1 1, 3) := by decide +kernel
theorem dX9_adds_40 : decode cX9_adds 40 = .ok (.goto (-22), 3) := by decide +kernel
theorem dX9_adds_43 : decode cX9_adds 43 = .ok (.aload_n 0, 1) := by decide +kernel
theorem dX9_adds_44 : decode cX9_adds 44 = .ok (.invokevirtual 234, 3) := by decide +kernel
theorem dX9_adds_47 : decode cX9_adds 47 = .ok (.aload_n 0, 1) := by decide +kernel
theorem dX9_adds_48 : decode cX9_adds 48 = .ok (.bipush 59, 2) := by decide +kernel
theorem dX9_adds_50 : decode cX9_adds 50 = .ok (.invokevirtual 219, 3) := by decide +kernel
theorem dX9_adds_53 : decode cX9_adds 53 = .ok (.aload_n 0, 1) := by decide +kernel
theorem dX9_adds_54 : decode cX9_adds 54 = .ok (.invokevirtual 91, 3) := by decide +kernel
theorem dX9_adds_57 : decode cX9_adds 57 = .ok (.ifCond .eq 19, 3) := by decide +kernel
theorem dX9_adds_60 : decode cX9_adds 60 = .ok (.aload_n 0, 1) := by decide +kernel
theorem dX9_adds_61 : decode cX9_adds 61 = .ok (.getfield 108, 3) := by decide +kernel
theorem dX9_adds_64 : decode cX9_adds 64 = .ok (.ifCond .eq 12, 3) := by decide +kernel
theorem dX9_adds_67 : decode cX9_adds 67 = .ok (.aload_n 0, 1) := by decide +kernel
theorem dX9_adds_68 : decode cX9_adds 68 = .ok (.iconst 1, 1) := by decide +kernel
theorem dX9_adds_69 : decode cX9_adds 69 = .ok (.aload_n 0, 1) := by decide +kernel
theorem dX9_adds_70 : decode cX9_adds 70 = .ok (.getfield 105, 3) := by decide +kernel
theorem dX9_adds_73 : decode cX9_adds 73 = .ok (.invokevirtual 149, 3) := by decide +kernel
theorem dX9_adds_76 : decode cX9_adds 76 = .ok (.aload_n 0, 1) := by decide +kernel
theorem dX9_adds_77 : decode cX9_adds 77 = .ok (.invokevirtual 91, 3) := by decide +kernel
theorem dX9_adds_80 : decode cX9_adds 80 = .ok (.ifCond .ne 6, 3) := by decide +kernel
theorem dX9_adds_83 : decode cX9_adds 83 = .ok (.bipush (-4), 2) := by decide +kernel
theorem dX9_adds_85 : decode cX9_adds 85 = .ok (.ireturn, 1) := by decide +kernel
theorem dX9_adds_86 : decode cX9_adds 86 = .ok (.aload_n 0, 1) := by decide +kernel
theorem dX9_adds_87 : decode cX9_adds 87 = .ok (.invokevirtual 249, 3) := by decide +kernel
theorem dX9_adds_90 : decode cX9_adds 90 = .ok (.iconst 0, 1) := by decide +kernel
theorem dX9_adds_91 : decode cX9_adds 91 = .ok (.istore_n 1, 1) := by decide +kernel
theorem dX9_adds_92 : decode cX9_adds 92 = .ok (.iload_n 1, 1) := by decide +kernel
theorem dX9_adds_93 : decode cX9_adds 93 = .ok (.sipush 416, 3) := by decide +kernel
theorem dX9_adds_96 : decode cX9_adds 96 = .ok (.if_icmp .ge 21, 3) := by decide +kernel
theorem dX9_adds_99 : decode cX9_adds 99 = .ok (.aload_n 0, 1) := by decide +kernel
theorem dX9_adds_100 : decode cX9_adds 100 = .ok (.getfield 9, 3) := by decide +kernel
theorem dX9_adds_103 : decode cX9_adds 103 = .ok (.iload_n 1, 1) := by decide +kernel
theorem dX9_adds_104 : decode cX9_adds 104 = .ok (.aload_n 0, 1) := by decide +kernel
theorem dX9_adds_105 : decode cX9_adds 105 = .ok (.getfield 13, 3) := by decide +kernel
theorem dX9_adds_108 : decode cX9_adds 108 = .ok (.iload_n 1, 1) := by decide +kernel
theorem dX9_adds_109 : decode cX9_adds 109 = .ok (.laload, 1) := by decide +kernel
theorem dX9_adds_110 : decode cX9_adds 110 = .ok (.lastore, 1) := by decide +kernel
theorem dX9_adds_111 : decode cX9_adds 111 = .ok (.iinc 1 1, 3) := by decide +kernel
theorem dX9_adds_114 : decode cX9_adds 114 = .ok (.goto (-22), 3) := by decide +kernel
theorem dX9_adds_117 : decode cX9_adds 117 = .ok (.aload_n 0, 1) := by decide +kernel
theorem dX9_adds_118 : decode cX9_adds 118 = .ok (.getfield 9, 3) := by decide +kernel
theorem dX9_adds_121 : decode cX9_adds 121 = .ok (.iconst 0, 1) := by decide +kernel
theorem dX9_adds_122 : decode cX9_adds 122 = .ok (.dup2, 1) := by decide +kernel
theorem dX9_adds_123 : decode cX9_adds 123 = .ok (.laload, 1) := by decide +kernel
theorem dX9_adds_124 : decode cX9_adds 124 = .ok (.lconst 1, 1) := by decide +kernel
theorem dX9_adds_125 : decode cX9_adds 125 = .ok (.ladd, 1) := by decide +kernel
theorem dX9_adds_126 : decode cX9_adds 126 = .ok (.lastore, 1) := by decide +kernel
theorem dX9_adds_127 : decode cX9_adds 127 = .ok (.aload_n 0, 1) := by decide +kernel
theorem dX9_adds_128 : decode cX9_adds 128 = .ok (.invokevirtual 246, 3) := by decide +kernel
theorem dX9_adds_131 : decode cX9_adds 131 = .ok (.iconst 1, 1) := by decide +kernel
theorem dX9_adds_132 : decode cX9_adds 132 = .ok (.isub, 1) := by decide +kernel
theorem dX9_adds_133 : decode cX9_adds 133 = .ok (.ireturn, 1) := by decide +kernel
abbrev mm_X9_adds : ab_M := (RX9, 2, (some .int), false, 12, 303, none)
noncomputable def f_X9_adds_L92 (k117 : Int → ab_H → Option (Int × ab_H)) : Nat → Int → Int → ab_H → Option (Int × ab_H)
  | 0, _, _, _ => none
  | n + 1, v0, v1, h =>
    if (416 : Int) ≤ v1 then
      k117 v0 h
    else
    (ab_get h 10 1 v0).bind fun t1 =>
    (ab_get h 10 2 v0).bind fun t2 =>
    (ab_ald h 12 t2 v1).bind fun t3 =>
    (ab_ast h 12 t1 v1 t3).bind fun h1 =>
    f_X9_adds_L92 k117 n v0 (ab_w32 (v1 + (1 : Int))) h1
set_option maxRecDepth 20000 in
theorem e_X9_adds_L92 {k117 : Int → ab_H → Option (Int × ab_H)} (hk117 : ∀ (v0 : Int) (h : ab_H) (q : Int × ab_H), k117 v0 h = some q → ab_E mm_X9_adds cX9_adds 117 [some (ab_R v0), none] [] h (some (ab_I q.1)) q.2) : ∀ (n : Nat) (v0 : Int) (v1 : Int) (h : ab_H) (q : Int × ab_H), f_X9_adds_L92 k117 n v0 v1 h = some q → ab_E mm_X9_adds cX9_adds 92 [some (ab_R v0), some (ab_I v1)] [] h (some (ab_I q.1)) q.2 := by
  intro n
  induction n with
  | zero => intro v0 v1 h q hk; cases hk
  | succ n ih =>
    intro v0 v1 h q hk
    unfold f_X9_adds_L92 at hk
    refine ab_iload_n (pc := 92) (i := 1) dX9_adds_92 rfl rfl ?_
    refine ab_sipush (pc := 93) dX9_adds_93 ab_p16_416 ab_k_416 ?_
    refine ab_icmp_ge (pc := 96) (tgt := 117) dX9_adds_96 rfl (fun hc => ?_) (fun hc => ?_)
    · have hk := ab_ifp hk hc
      refine ab_sub_ (lv2 := [some (ab_R v0), none]) (ab_ss (ab_sn ab_s0)) ?_
      exact hk117 _ _ _ hk
    · have hk := ab_ifn hk hc
      refine ab_aload_n (pc := 99) (i := 0) dX9_adds_99 rfl rfl ?_
      obtain ⟨t1, ht1, hk⟩ := ab_bnd hk
      refine ab_getR (pc := 100) dX9_adds_100 fl_RX9_9 ht1 ?_
      refine ab_iload_n (pc := 103) (i := 1) dX9_adds_103 rfl rfl ?_
      refine ab_aload_n (pc := 104) (i := 0) dX9_adds_104 rfl rfl ?_
      obtain ⟨t2, ht2, hk⟩ := ab_bnd hk
      refine ab_getR (pc := 105) dX9_adds_105 fl_RX9_13 ht2 ?_
      refine ab_iload_n (pc := 108) (i := 1) dX9_adds_108 rfl rfl ?_
      obtain ⟨t3, ht3, hk⟩ := ab_bnd hk
      refine ab_lald (pc := 109) dX9_adds_109 ht3 ?_
      obtain ⟨h1, hh1, hk⟩ := ab_bnd hk
      refine ab_last (pc := 110) dX9_adds_110 hh1 ?_
      refine ab_iinc (pc := 111) (i := 1) (lv2 := [some (ab_R v0), some (ab_I (ab_w32 (v1 + (1 : Int))))]) dX9_adds_111 rfl (Nat.le_of_ble_eq_true rfl) rfl rfl ?_
      refine ab_goto (pc := 114) (tgt := 92) dX9_adds_114 rfl ?_
      refine ab_sub_ (lv2 := [some (ab_R v0), some (ab_I (ab_w32 (v1 + (1 : Int))))]) (ab_ss (ab_ss ab_s0)) ?_
      exact ih _ _ _ _ hk
noncomputable def f_X9_adds_J76 (v0 : Int) (h : ab_H) : Option (Int × ab_H) :=
  (ab_on h 10 v0 (f_X9_good v0 h)).bind fun q1 =>
  if q1.1 = (0 : Int) then
    some ((-4 : Int), q1.2)
  else
  (ab_on q1.2 10 v0 (f_X9_keeps v0 q1.2)).bind fun q2 =>
  f_X9_adds_L92 (fun w117_0 hx117 =>
    (ab_get hx117 10 1 w117_0).bind fun t3 =>
    (ab_ald hx117 12 t3 (0 : Int)).bind fun t4 =>
    (ab_ast hx117 12 t3 (0 : Int) (ab_w64 (t4 + (1 : Int)))).bind fun h1 =>
    (ab_on h1 10 w117_0 (f_X9_strings w117_0 h1)).bind fun q5 =>
    some (ab_w32 (q5.1 - (1 : Int)), q5.2)) ab_FU v0 (0 : Int) q2
set_option maxRecDepth 20000 in
theorem e_X9_adds_J76 : ∀ (v0 : Int) (h : ab_H) (q : Int × ab_H), f_X9_adds_J76 v0 h = some q → ab_E mm_X9_adds cX9_adds 76 [some (ab_R v0), none] [] h (some (ab_I q.1)) q.2 := by
  intro v0 h q hk
  unfold f_X9_adds_J76 at hk
  refine ab_aload_n (pc := 76) (i := 0) dX9_adds_76 rfl rfl ?_
  obtain ⟨q1, hq1, hk⟩ := ab_bnd hk
  obtain ⟨hb, hq1⟩ := ab_on_some hq1
  refine ab_callVI (st := []) (as := []) (b := v0) (pc := 77) dX9_adds_77 ml_RX9_91 my_X9_good mv_X9_good hb (ct_X9_good hq1) ⟨Nat.le_of_ble_eq_true rfl, Nat.le_of_ble_eq_true rfl⟩ rfl (Nat.le_of_ble_eq_true rfl) rfl ?_
  refine ab_if_ne (pc := 80) (tgt := 86) dX9_adds_80 rfl (fun hc => ?_) (fun hc => ?_)
  · have hk := ab_ifn hk hc
    refine ab_aload_n (pc := 86) (i := 0) dX9_adds_86 rfl rfl ?_
    obtain ⟨q2, hq2, hk⟩ := ab_bnd hk
    obtain ⟨hb, hq2⟩ := ab_on_some hq2
    refine ab_callVV (st := []) (as := []) (b := v0) (pc := 87) dX9_adds_87 ml_RX9_249 my_X9_keeps mv_X9_keeps hb (ct_X9_keeps hq2) ⟨Nat.le_of_ble_eq_true rfl, Nat.le_of_ble_eq_true rfl⟩ rfl (Nat.le_of_ble_eq_true rfl) rfl ?_
    refine ab_iconst (pc := 90) dX9_adds_90 ab_k_0 ?_
    refine ab_istore_n (pc := 91) (i := 1) (lv2 := [some (ab_R v0), some (ab_I (0 : Int))]) dX9_adds_91 rfl (Nat.le_of_ble_eq_true rfl) rfl rfl ?_
    refine ab_sub_ (lv2 := [some (ab_R v0), some (ab_I (0 : Int))]) (ab_ss (ab_ss ab_s0)) ?_
    refine e_X9_adds_L92 (fun w117_0 hx117 q hk => ?_) _ _ _ _ _ hk
    · skip
      refine ab_aload_n (pc := 117) (i := 0) dX9_adds_117 rfl rfl ?_
      obtain ⟨t3, ht3, hk⟩ := ab_bnd hk
      refine ab_getR (pc := 118) dX9_adds_118 fl_RX9_9 ht3 ?_
      refine ab_iconst (pc := 121) dX9_adds_121 ab_k_0 ?_
      refine ab_dup2 (pc := 122) dX9_adds_122 rfl rfl ?_
      obtain ⟨t4, ht4, hk⟩ := ab_bnd hk
      refine ab_lald (pc := 123) dX9_adds_123 ht4 ?_
      refine ab_lconst (x := (1 : Int)) (pc := 124) dX9_adds_124 rfl ab_kl_1 ?_
      refine ab_ladd (pc := 125) dX9_adds_125 ?_
      obtain ⟨h1, hh1, hk⟩ := ab_bnd hk
      refine ab_last (pc := 126) dX9_adds_126 hh1 ?_
      refine ab_aload_n (pc := 127) (i := 0) dX9_adds_127 rfl rfl ?_
      obtain ⟨q5, hq5, hk⟩ := ab_bnd hk
      obtain ⟨hb, hq5⟩ := ab_on_some hq5
      refine ab_callVI (st := []) (as := []) (b := w117_0) (pc := 128) dX9_adds_128 ml_RX9_246 my_X9_strings mv_X9_strings hb (ct_X9_strings hq5) ⟨Nat.le_of_ble_eq_true rfl, Nat.le_of_ble_eq_true rfl⟩ rfl (Nat.le_of_ble_eq_true rfl) rfl ?_
      refine ab_iconst (pc := 131) dX9_adds_131 ab_k_1 ?_
      refine ab_isub (pc := 132) dX9_adds_132 ?_
      obtain rfl := Option.some.inj hk
      exact ab_reti (pc := 133) dX9_adds_133 (Or.inl rfl)
  · have hk := ab_ifp hk hc
    refine ab_bipush (pc := 83) dX9_adds_83 ab_p8_m4 ab_k_m4 ?_
    obtain rfl := Option.some.inj hk
    exact ab_reti (pc := 85) dX9_adds_85 (Or.inl rfl)
noncomputable def f_X9_adds_L18 (k43 : Int → ab_H → Option (Int × ab_H)) : Nat → Int → Int → ab_H → Option (Int × ab_H)
  | 0, _, _, _ => none
  | n + 1, v0, v1, h =>
    if (416 : Int) ≤ v1 then
      k43 v0 h
    else
    (ab_get h 10 2 v0).bind fun t1 =>
    (ab_get h 10 1 v0).bind fun t2 =>
    (ab_ald h 12 t2 v1).bind fun t3 =>
    (ab_ast h 12 t1 v1 t3).bind fun h1 =>
    f_X9_adds_L18 k43 n v0 (ab_w32 (v1 + (1 : Int))) h1
set_option maxRecDepth 20000 in
theorem e_X9_adds_L18 {k43 : Int → ab_H → Option (Int × ab_H)} (hk43 : ∀ (v0 : Int) (h : ab_H) (q : Int × ab_H), k43 v0 h = some q → ab_E mm_X9_adds cX9_adds 43 [some (ab_R v0), none] [] h (some (ab_I q.1)) q.2) : ∀ (n : Nat) (v0 : Int) (v1 : Int) (h : ab_H) (q : Int × ab_H), f_X9_adds_L18 k43 n v0 v1 h = some q → ab_E mm_X9_adds cX9_adds 18 [some (ab_R v0), some (ab_I v1)] [] h (some (ab_I q.1)) q.2 := by
  intro n
  induction n with
  | zero => intro v0 v1 h q hk; cases hk
  | succ n ih =>
    intro v0 v1 h q hk
    unfold f_X9_adds_L18 at hk
    refine ab_iload_n (pc := 18) (i := 1) dX9_adds_18 rfl rfl ?_
    refine ab_sipush (pc := 19) dX9_adds_19 ab_p16_416 ab_k_416 ?_
    refine ab_icmp_ge (pc := 22) (tgt := 43) dX9_adds_22 rfl (fun hc => ?_) (fun hc => ?_)
    · have hk := ab_ifp hk hc
      refine ab_sub_ (lv2 := [some (ab_R v0), none]) (ab_ss (ab_sn ab_s0)) ?_
      exact hk43 _ _ _ hk
    · have hk := ab_ifn hk hc
      refine ab_aload_n (pc := 25) (i := 0) dX9_adds_25 rfl rfl ?_
      obtain ⟨t1, ht1, hk⟩ := ab_bnd hk
      refine ab_getR (pc := 26) dX9_adds_26 fl_RX9_13 ht1 ?_
      refine ab_iload_n (pc := 29) (i := 1) dX9_adds_29 rfl rfl ?_
      refine ab_aload_n (pc := 30) (i := 0) dX9_adds_30 rfl rfl ?_
      obtain ⟨t2, ht2, hk⟩ := ab_bnd hk
      refine ab_getR (pc := 31) dX9_adds_31 fl_RX9_9 ht2 ?_
      refine ab_iload_n (pc := 34) (i := 1) dX9_adds_34 rfl rfl ?_
      obtain ⟨t3, ht3, hk⟩ := ab_bnd hk
      refine ab_lald (pc := 35) dX9_adds_35 ht3 ?_
      obtain ⟨h1, hh1, hk⟩ := ab_bnd hk
      refine ab_last (pc := 36) dX9_adds_36 hh1 ?_
      refine ab_iinc (pc := 37) (i := 1) (lv2 := [some (ab_R v0), some (ab_I (ab_w32 (v1 + (1 : Int))))]) dX9_adds_37 rfl (Nat.le_of_ble_eq_true rfl) rfl rfl ?_
      refine ab_goto (pc := 40) (tgt := 18) dX9_adds_40 rfl ?_
      refine ab_sub_ (lv2 := [some (ab_R v0), some (ab_I (ab_w32 (v1 + (1 : Int))))]) (ab_ss (ab_ss ab_s0)) ?_
      exact ih _ _ _ _ hk
noncomputable def f_X9_adds (a0 : Int) (h : ab_H) : Option (Int × ab_H) :=
  (ab_on h 10 a0 (f_X9_strings a0 h)).bind fun q1 =>
  if q1.1 = (12 : Int) then
    some ((-5 : Int), q1.2)
  else
  (ab_on q1.2 10 a0 (f_X9_beginsTape a0 q1.2)).bind fun q2 =>
  f_X9_adds_L18 (fun w43_0 hx43 =>
    (ab_on hx43 10 w43_0 (f_X9_readString w43_0 hx43)).bind fun q3 =>
    (ab_on q3 10 w43_0 (f_X9_passesByte w43_0 (59 : Int) q3)).bind fun q4 =>
    (ab_on q4 10 w43_0 (f_X9_good w43_0 q4)).bind fun q5 =>
    if q5.1 = (0 : Int) then
      f_X9_adds_J76 w43_0 q5.2
    else
    (ab_get q5.2 10 8 w43_0).bind fun t6 =>
    if t6 = (0 : Int) then
      f_X9_adds_J76 w43_0 q5.2
    else
    (ab_get q5.2 10 7 w43_0).bind fun t7 =>
    (ab_on q5.2 10 w43_0 (f_X9_errs w43_0 (1 : Int) t7 q5.2)).bind fun q8 =>
    f_X9_adds_J76 w43_0 q8) ab_FU a0 (0 : Int) q2
set_option maxRecDepth 20000 in
theorem ct_X9_adds {a0 : Int} {h : ab_H} {q : Int × ab_H} (hk : f_X9_adds a0 h = some q) : ab_CT yX9_adds cX9_adds 2 (some .int) 12 303 [ab_R a0] h (some (ab_I q.1)) q.2 := by
  refine ab_CT.mk_ 1 (own := RX9) (ini := false) (lv := [some (ab_R a0), none]) rfl (by decide +kernel) (fun q => by cases q) rfl rfl ?_
  unfold f_X9_adds at hk
  show ab_E mm_X9_adds cX9_adds 0 _ [] h _ _
  refine ab_aload_n (pc := 0) (i := 0) dX9_adds_0 rfl rfl ?_
  obtain ⟨q1, hq1, hk⟩ := ab_bnd hk
  obtain ⟨hb, hq1⟩ := ab_on_some hq1
  refine ab_callVI (st := []) (as := []) (b := a0) (pc := 1) dX9_adds_1 ml_RX9_246 my_X9_strings mv_X9_strings hb (ct_X9_strings hq1) ⟨Nat.le_of_ble_eq_true rfl, Nat.le_of_ble_eq_true rfl⟩ rfl (Nat.le_of_ble_eq_true rfl) rfl ?_
  refine ab_bipush (pc := 4) dX9_adds_4 ab_p8_12 ab_k_12 ?_
  refine ab_icmp_ne (pc := 6) (tgt := 12) dX9_adds_6 rfl (fun hc => ?_) (fun hc => ?_)
  · have hk := ab_ifn hk hc
    refine ab_aload_n (pc := 12) (i := 0) dX9_adds_12 rfl rfl ?_
    obtain ⟨q2, hq2, hk⟩ := ab_bnd hk
    obtain ⟨hb, hq2⟩ := ab_on_some hq2
    refine ab_callVV (st := []) (as := []) (b := a0) (pc := 13) dX9_adds_13 ml_RX9_237 my_X9_beginsTape mv_X9_beginsTape hb (ct_X9_beginsTape hq2) ⟨Nat.le_of_ble_eq_true rfl, Nat.le_of_ble_eq_true rfl⟩ rfl (Nat.le_of_ble_eq_true rfl) rfl ?_
    refine ab_iconst (pc := 16) dX9_adds_16 ab_k_0 ?_
    refine ab_istore_n (pc := 17) (i := 1) (lv2 := [some (ab_R a0), some (ab_I (0 : Int))]) dX9_adds_17 rfl (Nat.le_of_ble_eq_true rfl) rfl rfl ?_
    refine ab_sub_ (lv2 := [some (ab_R a0), some (ab_I (0 : Int))]) (ab_ss (ab_ss ab_s0)) ?_
    refine e_X9_adds_L18 (fun w43_0 hx43 q hk => ?_) _ _ _ _ _ hk
    · skip
      refine ab_aload_n (pc := 43) (i := 0) dX9_adds_43 rfl rfl ?_
      obtain ⟨q3, hq3, hk⟩ := ab_bnd hk
      obtain ⟨hb, hq3⟩ := ab_on_some hq3
      refine ab_callVV (st := []) (as := []) (b := w43_0) (pc := 44) dX9_adds_44 ml_RX9_234 my_X9_readString mv_X9_readString hb (ct_X9_readString hq3) ⟨Nat.le_of_ble_eq_true rfl, Nat.le_of_ble_eq_true rfl⟩ rfl (Nat.le_of_ble_eq_true rfl) rfl ?_
      refine ab_aload_n (pc := 47) (i := 0) dX9_adds_47 rfl rfl ?_
      refine ab_bipush (pc := 48) dX9_adds_48 ab_p8_59 ab_k_59 ?_
      obtain ⟨q4, hq4, hk⟩ := ab_bnd hk
      obtain ⟨hb, hq4⟩ := ab_on_some hq4
      refine ab_callVV (st := []) (as := [ab_I (59 : Int)]) (b := w43_0) (pc := 50) dX9_adds_50 ml_RX9_219 my_X9_passesByte mv_X9_passesByte hb (ct_X9_passesByte hq4) ⟨Nat.le_of_ble_eq_true rfl, Nat.le_of_ble_eq_true rfl⟩ rfl (Nat.le_of_ble_eq_true rfl) rfl ?_
      refine ab_aload_n (pc := 53) (i := 0) dX9_adds_53 rfl rfl ?_
      obtain ⟨q5, hq5, hk⟩ := ab_bnd hk
      obtain ⟨hb, hq5⟩ := ab_on_some hq5
      refine ab_callVI (st := []) (as := []) (b := w43_0) (pc := 54) dX9_adds_54 ml_RX9_91 my_X9_good mv_X9_good hb (ct_X9_good hq5) ⟨Nat.le_of_ble_eq_true rfl, Nat.le_of_ble_eq_true rfl⟩ rfl (Nat.le_of_ble_eq_true rfl) rfl ?_
      refine ab_if_eq (pc := 57) (tgt := 76) dX9_adds_57 rfl (fun hc => ?_) (fun hc => ?_)
      · have hk := ab_ifp hk hc
        refine ab_sub_ (lv2 := [some (ab_R w43_0), none]) (ab_ss (ab_sn ab_s0)) ?_
        exact e_X9_adds_J76 _ _ _ hk
      · have hk := ab_ifn hk hc
        refine ab_aload_n (pc := 60) (i := 0) dX9_adds_60 rfl rfl ?_
        obtain ⟨t6, ht6, hk⟩ := ab_bnd hk
        refine ab_getI (pc := 61) dX9_adds_61 fl_RX9_108 ht6 ?_
        refine ab_if_eq (pc := 64) (tgt := 76) dX9_adds_64 rfl (fun hc => ?_) (fun hc => ?_)
        · have hk := ab_ifp hk hc
          refine ab_sub_ (lv2 := [some (ab_R w43_0), none]) (ab_ss (ab_sn ab_s0)) ?_
          exact e_X9_adds_J76 _ _ _ hk
        · have hk := ab_ifn hk hc
          refine ab_aload_n (pc := 67) (i := 0) dX9_adds_67 rfl rfl ?_
          refine ab_iconst (pc := 68) dX9_adds_68 ab_k_1 ?_
          refine ab_aload_n (pc := 69) (i := 0) dX9_adds_69 rfl rfl ?_
          obtain ⟨t7, ht7, hk⟩ := ab_bnd hk
          refine ab_getI (pc := 70) dX9_adds_70 fl_RX9_105 ht7 ?_
          obtain ⟨q8, hq8, hk⟩ := ab_bnd hk
          obtain ⟨hb, hq8⟩ := ab_on_some hq8
          refine ab_callVV (st := []) (as := [ab_I (1 : Int), ab_I t7]) (b := w43_0) (pc := 73) dX9_adds_73 ml_RX9_149 my_X9_errs mv_X9_errs hb (ct_X9_errs hq8) ⟨Nat.le_of_ble_eq_true rfl, Nat.le_of_ble_eq_true rfl⟩ rfl (Nat.le_of_ble_eq_true rfl) rfl ?_
          refine ab_sub_ (lv2 := [some (ab_R w43_0), none]) (ab_ss (ab_sn ab_s0)) ?_
          exact e_X9_adds_J76 _ _ _ hk
  · have hk := ab_ifp hk hc
    refine ab_bipush (pc := 9) dX9_adds_9 ab_p8_m5 ab_k_m5 ?_
    obtain rfl := Option.some.inj hk
    exact ab_reti (pc := 11) dX9_adds_11 (Or.inl rfl)
theorem dX9_fault_0 : decode cX9_fault 0 = .ok (.iload_n 1, 1) := by decide +kernel
theorem dX9_fault_1 : decode cX9_fault 1 = .ok (.ifCond .ne 10, 3) := by decide +kernel
theorem dX9_fault_4 : decode cX9_fault 4 = .ok (.aload_n 0, 1) := by decide +kernel
theorem dX9_fault_5 : decode cX9_fault 5 = .ok (.getfield 88, 3) := by decide +kernel
theorem dX9_fault_8 : decode cX9_fault 8 = .ok (.goto 16, 3) := by decide +kernel
theorem dX9_fault_11 : decode cX9_fault 11 = .ok (.iload_n 1, 1) := by decide +kernel
theorem dX9_fault_12 : decode cX9_fault 12 = .ok (.iconst 1, 1) := by decide +kernel
theorem dX9_fault_13 : decode cX9_fault 13 = .ok (.if_icmp .ne 10, 3) := by decide +kernel
theorem dX9_fault_16 : decode cX9_fault 16 = .ok (.aload_n 0, 1) := by decide +kernel
theorem dX9_fault_17 : decode cX9_fault 17 = .ok (.getfield 20, 3) := by decide +kernel
theorem dX9_fault_20 : decode cX9_fault 20 = .ok (.goto 4, 3) := by decide +kernel
theorem dX9_fault_23 : decode cX9_fault 23 = .ok (.iconst (-1), 1) := by decide +kernel
theorem dX9_fault_24 : decode cX9_fault 24 = .ok (.ireturn, 1) := by decide +kernel
abbrev mm_X9_fault : ab_M := (RX9, 2, (some .int), false, 0, 0, none)
noncomputable def f_X9_fault (a0 : Int) (a1 : Int) (h : ab_H) : Option (Int × ab_H) :=
  if a1 = (0 : Int) then
    (ab_get h 10 10 a0).bind fun t2 =>
    some (t2, h)
  else
  if a1 = (1 : Int) then
    (ab_get h 10 11 a0).bind fun t1 =>
    some (t1, h)
  else
  some ((-1 : Int), h)
set_option maxRecDepth 20000 in
theorem ct_X9_fault {a0 a1 : Int} {h : ab_H} {q : Int × ab_H} (hk : f_X9_fault a0 a1 h = some q) : ab_CT yX9_fault cX9_fault 2 (some .int) 0 0 [ab_R a0, ab_I a1] h (some (ab_I q.1)) q.2 := by
  refine ab_CT.mk_ 0 (own := RX9) (ini := false) (lv := [some (ab_R a0), some (ab_I a1)]) rfl (by decide +kernel) (fun q => by cases q) rfl rfl ?_
  unfold f_X9_fault at hk
  show ab_E mm_X9_fault cX9_fault 0 _ [] h _ _
  refine ab_iload_n (pc := 0) (i := 1) dX9_fault_0 rfl rfl ?_
  refine ab_if_ne (pc := 1) (tgt := 11) dX9_fault_1 rfl (fun hc => ?_) (fun hc => ?_)
  · have hk := ab_ifn hk hc
    refine ab_iload_n (pc := 11) (i := 1) dX9_fault_11 rfl rfl ?_
    refine ab_iconst (pc := 12) dX9_fault_12 ab_k_1 ?_
    refine ab_icmp_ne (pc := 13) (tgt := 23) dX9_fault_13 rfl (fun hc => ?_) (fun hc => ?_)
    · have hk := ab_ifn hk hc
      refine ab_iconst (pc := 23) dX9_fault_23 ab_k_m1 ?_
      obtain rfl := Option.some.inj hk
      exact ab_reti (pc := 24) dX9_fault_24 (Or.inl rfl)
    · have hk := ab_ifp hk hc
      refine ab_aload_n (pc := 16) (i := 0) dX9_fault_16 rfl rfl ?_
      obtain ⟨t1, ht1, hk⟩ := ab_bnd hk
      refine ab_getI (pc := 17) dX9_fault_17 fl_RX9_20 ht1 ?_
      refine ab_goto (pc := 20) (tgt := 24) dX9_fault_20 rfl ?_
      obtain rfl := Option.some.inj hk
      exact ab_reti (pc := 24) dX9_fault_24 (Or.inl rfl)
  · have hk := ab_ifp hk hc
    refine ab_aload_n (pc := 4) (i := 0) dX9_fault_4 rfl rfl ?_
    obtain ⟨t2, ht2, hk⟩ := ab_bnd hk
    refine ab_getI (pc := 5) dX9_fault_5 fl_RX9_88 ht2 ?_
    refine ab_goto (pc := 8) (tgt := 24) dX9_fault_8 rfl ?_
    obtain rfl := Option.some.inj hk
    exact ab_reti (pc := 24) dX9_fault_24 (Or.inl rfl)
theorem dX9_place_0 : decode cX9_place 0 = .ok (.bipush 6, 2) := by decide +kernel
theorem dX9_place_2 : decode cX9_place 2 = .ok (.iload_n 0, 1) := by decide +kernel
theorem dX9_place_3 : decode cX9_place 3 = .ok (.imul, 1) := by decide +kernel
theorem dX9_place_4 : decode cX9_place 4 = .ok (.iload_n 1, 1) := by decide +kernel
theorem dX9_place_5 : decode cX9_place 5 = .ok (.iadd, 1) := by decide +kernel
theorem dX9_place_6 : decode cX9_place 6 = .ok (.ireturn, 1) := by decide +kernel
abbrev mm_X9_place : ab_M := (RX9, 2, (some .int), false, 0, 0, none)
noncomputable def f_X9_place (a0 : Int) (a1 : Int) (h : ab_H) : Option (Int × ab_H) :=
  some (ab_w32 ((ab_w32 ((6 : Int) * a0)) + a1), h)
set_option maxRecDepth 20000 in
theorem ct_X9_place {a0 a1 : Int} {h : ab_H} {q : Int × ab_H} (hk : f_X9_place a0 a1 h = some q) : ab_CT yX9_place cX9_place 2 (some .int) 0 0 [ab_I a0, ab_I a1] h (some (ab_I q.1)) q.2 := by
  refine ab_CT.mk_ 0 (own := RX9) (ini := false) (lv := [some (ab_I a0), some (ab_I a1)]) rfl (by decide +kernel) (fun q => by cases q) rfl rfl ?_
  unfold f_X9_place at hk
  show ab_E mm_X9_place cX9_place 0 _ [] h _ _
  refine ab_bipush (pc := 0) dX9_place_0 ab_p8_6 ab_k_6 ?_
  refine ab_iload_n (pc := 2) (i := 0) dX9_place_2 rfl rfl ?_
  refine ab_imul (pc := 3) dX9_place_3 ?_
  refine ab_iload_n (pc := 4) (i := 1) dX9_place_4 rfl rfl ?_
  refine ab_iadd (pc := 5) dX9_place_5 ?_
  obtain rfl := Option.some.inj hk
  exact ab_reti (pc := 6) dX9_place_6 (Or.inl rfl)
theorem dX9_findWord_0 : decode cX9_findWord 0 = .ok (.iconst 0, 1) := by decide +kernel
theorem dX9_findWord_1 : decode cX9_findWord 1 = .ok (.istore_n 3, 1) := by decide +kernel
theorem dX9_findWord_2 : decode cX9_findWord 2 = .ok (.iload_n 3, 1) := by decide +kernel
theorem dX9_findWord_3 : decode cX9_findWord 3 = .ok (.aload_n 0, 1) := by decide +kernel
theorem dX9_findWord_4 : decode cX9_findWord 4 = .ok (.getfield 252, 3) := by decide +kernel
theorem dX9_findWord_7 : decode cX9_findWord 7 = .ok (.if_icmp .ge 22, 3) := by decide +kernel
theorem dX9_findWord_10 : decode cX9_findWord 10 = .ok (.aload_n 0, 1) := by decide +kernel
theorem dX9_findWord_11 : decode cX9_findWord 11 = .ok (.getfield 24, 3) := by decide +kernel
theorem dX9_findWord_14 : decode cX9_findWord 14 = .ok (.iload_n 3, 1) := by decide +kernel
theorem dX9_findWord_15 : decode cX9_findWord 15 = .ok (.laload, 1) := by decide +kernel
theorem dX9_findWord_16 : decode cX9_findWord 16 = .ok (.lload_n 1, 1) := by decide +kernel
theorem dX9_findWord_17 : decode cX9_findWord 17 = .ok (.lcmp, 1) := by decide +kernel
theorem dX9_findWord_18 : decode cX9_findWord 18 = .ok (.ifCond .ne 5, 3) := by decide +kernel
theorem dX9_findWord_21 : decode cX9_findWord 21 = .ok (.iload_n 3, 1) := by decide +kernel
theorem dX9_findWord_22 : decode cX9_findWord 22 = .ok (.ireturn, 1) := by decide +kernel
theorem dX9_findWord_23 : decode cX9_findWord 23 = .ok (.iinc 3 1, 3) := by decide +kernel
theorem dX9_findWord_26 : decode cX9_findWord 26 = .ok (.goto (-24), 3) := by decide +kernel
theorem dX9_findWord_29 : decode cX9_findWord 29 = .ok (.iconst (-1), 1) := by decide +kernel
theorem dX9_findWord_30 : decode cX9_findWord 30 = .ok (.ireturn, 1) := by decide +kernel
abbrev mm_X9_findWord : ab_M := (RX9, 4, (some .int), false, 0, 0, none)
noncomputable def f_X9_findWord_L2 : Nat → Int → Int → Int → ab_H → Option (Int × ab_H)
  | 0, _, _, _, _ => none
  | n + 1, v0, v1, v3, h =>
    (ab_get h 10 14 v0).bind fun t1 =>
    if t1 ≤ v3 then
      some ((-1 : Int), h)
    else
    (ab_get h 10 13 v0).bind fun t2 =>
    (ab_ald h 12 t2 v3).bind fun t3 =>
    if ab_cmp t3 v1 = (0 : Int) then
      some (v3, h)
    else
    f_X9_findWord_L2 n v0 v1 (ab_w32 (v3 + (1 : Int))) h
set_option maxRecDepth 20000 in
theorem e_X9_findWord_L2 : ∀ (n : Nat) (v0 : Int) (v1 : Int) (v3 : Int) (h : ab_H) (q : Int × ab_H), f_X9_findWord_L2 n v0 v1 v3 h = some q → ab_E mm_X9_findWord cX9_findWord 2 [some (ab_R v0), some (ab_J v1), none, some (ab_I v3)] [] h (some (ab_I q.1)) q.2 := by
  intro n
  induction n with
  | zero => intro v0 v1 v3 h q hk; cases hk
  | succ n ih =>
    intro v0 v1 v3 h q hk
    unfold f_X9_findWord_L2 at hk
    refine ab_iload_n (pc := 2) (i := 3) dX9_findWord_2 rfl rfl ?_
    refine ab_aload_n (pc := 3) (i := 0) dX9_findWord_3 rfl rfl ?_
    obtain ⟨t1, ht1, hk⟩ := ab_bnd hk
    refine ab_getI (pc := 4) dX9_findWord_4 fl_RX9_252 ht1 ?_
    refine ab_icmp_ge (pc := 7) (tgt := 29) dX9_findWord_7 rfl (fun hc => ?_) (fun hc => ?_)
    · have hk := ab_ifp hk hc
      refine ab_iconst (pc := 29) dX9_findWord_29 ab_k_m1 ?_
      obtain rfl := Option.some.inj hk
      exact ab_reti (pc := 30) dX9_findWord_30 (Or.inl rfl)
    · have hk := ab_ifn hk hc
      refine ab_aload_n (pc := 10) (i := 0) dX9_findWord_10 rfl rfl ?_
      obtain ⟨t2, ht2, hk⟩ := ab_bnd hk
      refine ab_getR (pc := 11) dX9_findWord_11 fl_RX9_24 ht2 ?_
      refine ab_iload_n (pc := 14) (i := 3) dX9_findWord_14 rfl rfl ?_
      obtain ⟨t3, ht3, hk⟩ := ab_bnd hk
      refine ab_lald (pc := 15) dX9_findWord_15 ht3 ?_
      refine ab_lload_n (pc := 16) (i := 1) dX9_findWord_16 rfl rfl ?_
      refine ab_lcmp_ (pc := 17) dX9_findWord_17 ?_
      refine ab_if_ne (pc := 18) (tgt := 23) dX9_findWord_18 rfl (fun hc => ?_) (fun hc => ?_)
      · have hk := ab_ifn hk hc
        refine ab_iinc (pc := 23) (i := 3) (lv2 := [some (ab_R v0), some (ab_J v1), none, some (ab_I (ab_w32 (v3 + (1 : Int))))]) dX9_findWord_23 rfl (Nat.le_of_ble_eq_true rfl) rfl rfl ?_
        refine ab_goto (pc := 26) (tgt := 2) dX9_findWord_26 rfl ?_
        refine ab_sub_ (lv2 := [some (ab_R v0), some (ab_J v1), none, some (ab_I (ab_w32 (v3 + (1 : Int))))]) (ab_ss (ab_ss (ab_sn (ab_ss ab_s0)))) ?_
        exact ih _ _ _ _ _ hk
      · have hk := ab_ifp hk hc
        refine ab_iload_n (pc := 21) (i := 3) dX9_findWord_21 rfl rfl ?_
        obtain rfl := Option.some.inj hk
        exact ab_reti (pc := 22) dX9_findWord_22 (Or.inl rfl)
noncomputable def f_X9_findWord (a0 : Int) (a1 : Int) (h : ab_H) : Option (Int × ab_H) :=
  f_X9_findWord_L2 ab_FU a0 a1 (0 : Int) h
set_option maxRecDepth 20000 in
theorem ct_X9_findWord {a0 a1 : Int} {h : ab_H} {q : Int × ab_H} (hk : f_X9_findWord a0 a1 h = some q) : ab_CT yX9_findWord cX9_findWord 4 (some .int) 0 0 [ab_R a0, ab_J a1] h (some (ab_I q.1)) q.2 := by
  refine ab_CT.mk_ 1 (own := RX9) (ini := false) (lv := [some (ab_R a0), some (ab_J a1), none, none]) rfl (by decide +kernel) (fun q => by cases q) rfl rfl ?_
  unfold f_X9_findWord at hk
  show ab_E mm_X9_findWord cX9_findWord 0 _ [] h _ _
  refine ab_iconst (pc := 0) dX9_findWord_0 ab_k_0 ?_
  refine ab_istore_n (pc := 1) (i := 3) (lv2 := [some (ab_R a0), some (ab_J a1), none, some (ab_I (0 : Int))]) dX9_findWord_1 rfl (Nat.le_of_ble_eq_true rfl) rfl rfl ?_
  refine ab_sub_ (lv2 := [some (ab_R a0), some (ab_J a1), none, some (ab_I (0 : Int))]) (ab_ss (ab_ss (ab_sn (ab_ss ab_s0)))) ?_
  refine e_X9_findWord_L2 _ _ _ _ _ _ hk
theorem dX9_laysWords_0 : decode cX9_laysWords 0 = .ok (.aload_n 0, 1) := by decide +kernel
theorem dX9_laysWords_1 : decode cX9_laysWords 1 = .ok (.iconst 0, 1) := by decide +kernel
theorem dX9_laysWords_2 : decode cX9_laysWords 2 = .ok (.putfield 252, 3) := by decide +kernel
theorem dX9_laysWords_5 : decode cX9_laysWords 5 = .ok (.iconst 0, 1) := by decide +kernel
theorem dX9_laysWords_6 : decode cX9_laysWords 6 = .ok (.istore_n 1, 1) := by decide +kernel
theorem dX9_laysWords_7 : decode cX9_laysWords 7 = .ok (.iload_n 1, 1) := by decide +kernel
theorem dX9_laysWords_8 : decode cX9_laysWords 8 = .ok (.aload_n 0, 1) := by decide +kernel
theorem dX9_laysWords_9 : decode cX9_laysWords 9 = .ok (.invokevirtual 246, 3) := by decide +kernel
theorem dX9_laysWords_12 : decode cX9_laysWords 12 = .ok (.if_icmp .ge 123, 3) := by decide +kernel
theorem dX9_laysWords_15 : decode cX9_laysWords 15 = .ok (.iconst 0, 1) := by decide +kernel
theorem dX9_laysWords_16 : decode cX9_laysWords 16 = .ok (.istore_n 2, 1) := by decide +kernel
theorem dX9_laysWords_17 : decode cX9_laysWords 17 = .ok (.iload_n 2, 1) := by decide +kernel
theorem dX9_laysWords_18 : decode cX9_laysWords 18 = .ok (.aload_n 0, 1) := by decide +kernel
theorem dX9_laysWords_19 : decode cX9_laysWords 19 = .ok (.iload_n 1, 1) := by decide +kernel
theorem dX9_laysWords_20 : decode cX9_laysWords 20 = .ok (.invokevirtual 255, 3) := by decide +kernel
theorem dX9_laysWords_23 : decode cX9_laysWords 23 = .ok (.if_icmp .ge 106, 3) := by decide +kernel
theorem dX9_laysWords_26 : decode cX9_laysWords 26 = .ok (.aload_n 0, 1) := by decide +kernel
theorem dX9_laysWords_27 : decode cX9_laysWords 27 = .ok (.getfield 9, 3) := by decide +kernel
theorem dX9_laysWords_30 : decode cX9_laysWords 30 = .ok (.aload_n 0, 1) := by decide +kernel
theorem dX9_laysWords_31 : decode cX9_laysWords 31 = .ok (.getfield 9, 3) := by decide +kernel
theorem dX9_laysWords_34 : decode cX9_laysWords 34 = .ok (.iload_n 1, 1) := by decide +kernel
theorem dX9_laysWords_35 : decode cX9_laysWords 35 = .ok (.iload_n 2, 1) := by decide +kernel
theorem dX9_laysWords_36 : decode cX9_laysWords 36 = .ok (.invokestatic 73, 3) := by decide +kernel
theorem dX9_laysWords_39 : decode cX9_laysWords 39 = .ok (.iconst 2, 1) := by decide +kernel
theorem dX9_laysWords_40 : decode cX9_laysWords 40 = .ok (.iadd, 1) := by decide +kernel
theorem dX9_laysWords_41 : decode cX9_laysWords 41 = .ok (.laload, 1) := by decide +kernel
theorem dX9_laysWords_42 : decode cX9_laysWords 42 = .ok (.invokestatic 204, 3) := by decide +kernel
theorem dX9_laysWords_45 : decode cX9_laysWords 45 = .ok (.lstore_n 3, 1) := by decide +kernel
theorem dX9_laysWords_46 : decode cX9_laysWords 46 = .ok (.aload_n 0, 1) := by decide +kernel
theorem dX9_laysWords_47 : decode cX9_laysWords 47 = .ok (.lload_n 3, 1) := by decide +kernel
theorem dX9_laysWords_48 : decode cX9_laysWords 48 = .ok (.invokevirtual 258, 3) := by decide +kernel
theorem dX9_laysWords_51 : decode cX9_laysWords 51 = .ok (.iconst (-1), 1) := by decide +kernel
theorem dX9_laysWords_52 : decode cX9_laysWords 52 = .ok (.if_icmp .eq 6, 3) := by decide +kernel
theorem dX9_laysWords_55 : decode cX9_laysWords 55 = .ok (.goto 68, 3) := by decide +kernel
theorem dX9_laysWords_58 : decode cX9_laysWords 58 = .ok (.aload_n 0, 1) := by decide +kernel
theorem dX9_laysWords_59 : decode cX9_laysWords 59 = .ok (.getfield 252, 3) := by decide +kernel
theorem dX9_laysWords_62 : decode cX9_laysWords 62 = .ok (.istore 5, 2) := by decide +kernel
theorem dX9_laysWords_64 : decode cX9_laysWords 64 = .ok (.iload 5, 2) := by decide +kernel
theorem dX9_laysWords_66 : decode cX9_laysWords 66 = .ok (.ifCond .le 39, 3) := by decide +kernel
theorem dX9_laysWords_69 : decode cX9_laysWords 69 = .ok (.aload_n 0, 1) := by decide +kernel
theorem dX9_laysWords_70 : decode cX9_laysWords 70 = .ok (.getfield 24, 3) := by decide +kernel
theorem dX9_laysWords_73 : decode cX9_laysWords 73 = .ok (.iload 5, 2) := by decide +kernel
theorem dX9_laysWords_75 : decode cX9_laysWords 75 = .ok (.iconst 1, 1) := by decide +kernel
theorem dX9_laysWords_76 : decode cX9_laysWords 76 = .ok (.isub, 1) := by decide +kernel
theorem dX9_laysWords_77 : decode cX9_laysWords 77 = .ok (.laload, 1) := by decide +kernel
theorem dX9_laysWords_78 : decode cX9_laysWords 78 = .ok (.lload_n 3, 1) := by decide +kernel
theorem dX9_laysWords_79 : decode cX9_laysWords 79 = .ok (.lcmp, 1) := by decide +kernel
theorem dX9_laysWords_80 : decode cX9_laysWords 80 = .ok (.ifCond .le 25, 3) := by decide +kernel
theorem dX9_laysWords_83 : decode cX9_laysWords 83 = .ok (.aload_n 0, 1) := by decide +kernel
theorem dX9_laysWords_84 : decode cX9_laysWords 84 = .ok (.getfield 24, 3) := by decide +kernel
theorem dX9_laysWords_87 : decode cX9_laysWords 87 = .ok (.iload 5, 2) := by decide +kernel
theorem dX9_laysWords_89 : decode cX9_laysWords 89 = .ok (.aload_n 0, 1) := by decide +kernel
theorem dX9_laysWords_90 : decode cX9_laysWords 90 = .ok (.getfield 24, 3) := by decide +kernel
theorem dX9_laysWords_93 : decode cX9_laysWords 93 = .ok (.iload 5, 2) := by decide +kernel
theorem dX9_laysWords_95 : decode cX9_laysWords 95 = .ok (.iconst 1, 1) := by decide +kernel
theorem dX9_laysWords_96 : decode cX9_laysWords 96 = .ok (.isub, 1) := by decide +kernel
theorem dX9_laysWords_97 : decode cX9_laysWords 97 = .ok (.laload, 1) := by decide +kernel
theorem dX9_laysWords_98 : decode cX9_laysWords 98 = .ok (.lastore, 1) := by decide +kernel
theorem dX9_laysWords_99 : decode cX9_laysWords 99 = .ok (.iinc 5 (-1), 3) := by decide +kernel
theorem dX9_laysWords_102 : decode cX9_laysWords 102 = .ok (.goto (-38), 3) := by decide +kernel
theorem dX9_laysWords_105 : decode cX9_laysWords 105 = .ok (.aload_n 0, 1) := by decide +kernel
theorem dX9_laysWords_106 : decode cX9_laysWords 106 = .ok (.getfield 24, 3) := by decide +kernel
theorem dX9_laysWords_109 : decode cX9_laysWords 109 = .ok (.iload 5, 2) := by decide +kernel
theorem dX9_laysWords_111 : decode cX9_laysWords 111 = .ok (.lload_n 3, 1) := by decide +kernel
theorem dX9_laysWords_112 : decode cX9_laysWords 112 = .ok (.lastore, 1) := by decide +kernel
theorem dX9_laysWords_113 : decode cX9_laysWords 113 = .ok (.aload_n 0, 1) := by decide +kernel
theorem dX9_laysWords_114 : decode cX9_laysWords 114 = .ok (.dup, 1) := by decide +kernel
theorem dX9_laysWords_115 : decode cX9_laysWords 115 = .ok (.getfield 252, 3) := by decide +kernel
theorem dX9_laysWords_118 : decode cX9_laysWords 118 = .ok (.iconst 1, 1) := by decide +kernel
theorem dX9_laysWords_119 : decode cX9_laysWords 119 = .ok (.iadd, 1) := by decide +kernel
theorem dX9_laysWords_120 : decode cX9_laysWords 120 = .ok (.putfield 252, 3) := by decide +kernel
theorem dX9_laysWords_123 : decode cX9_laysWords 123 = .ok (.iinc 2 1, 3) := by decide +kernel
theorem dX9_laysWords_126 : decode cX9_laysWords 126 = .ok (.goto (-109), 3) := by decide +kernel
theorem dX9_laysWords_129 : decode cX9_laysWords 129 = .ok (.iinc 1 1, 3) := by decide +kernel
theorem dX9_laysWords_132 : decode cX9_laysWords 132 = .ok (.goto (-125), 3) := by decide +kernel
theorem dX9_laysWords_135 : decode cX9_laysWords 135 = .ok (.iconst 0, 1) := by decide +kernel
theorem dX9_laysWords_136 : decode cX9_laysWords 136 = .ok (.istore_n 1, 1) := by decide +kernel
theorem dX9_laysWords_137 : decode cX9_laysWords 137 = .ok (.iload_n 1, 1) := by decide +kernel
theorem dX9_laysWords_138 : decode cX9_laysWords 138 = .ok (.aload_n 0, 1) := by decide +kernel
theorem dX9_laysWords_139 : decode cX9_laysWords 139 = .ok (.invokevirtual 246, 3) := by decide +kernel
theorem dX9_laysWords_142 : decode cX9_laysWords 142 = .ok (.if_icmp .ge 59, 3) := by decide +kernel
theorem dX9_laysWords_145 : decode cX9_laysWords 145 = .ok (.iconst 0, 1) := by decide +kernel
theorem dX9_laysWords_146 : decode cX9_laysWords 146 = .ok (.istore_n 2, 1) := by decide +kernel
theorem dX9_laysWords_147 : decode cX9_laysWords 147 = .ok (.iload_n 2, 1) := by decide +kernel
theorem dX9_laysWords_148 : decode cX9_laysWords 148 = .ok (.aload_n 0, 1) := by decide +kernel
theorem dX9_laysWords_149 : decode cX9_laysWords 149 = .ok (.iload_n 1, 1) := by decide +kernel
theorem dX9_laysWords_150 : decode cX9_laysWords 150 = .ok (.invokevirtual 255, 3) := by decide +kernel
theorem dX9_laysWords_153 : decode cX9_laysWords 153 = .ok (.if_icmp .ge 42, 3) := by decide +kernel
theorem dX9_laysWords_156 : decode cX9_laysWords 156 = .ok (.aload_n 0, 1) := by decide +kernel
theorem dX9_laysWords_157 : decode cX9_laysWords 157 = .ok (.getfield 27, 3) := by decide +kernel
theorem dX9_laysWords_160 : decode cX9_laysWords 160 = .ok (.iload_n 1, 1) := by decide +kernel
theorem dX9_laysWords_161 : decode cX9_laysWords 161 = .ok (.iload_n 2, 1) := by decide +kernel
theorem dX9_laysWords_162 : decode cX9_laysWords 162 = .ok (.invokestatic 262, 3) := by decide +kernel
theorem dX9_laysWords_165 : decode cX9_laysWords 165 = .ok (.aload_n 0, 1) := by decide +kernel
theorem dX9_laysWords_166 : decode cX9_laysWords 166 = .ok (.aload_n 0, 1) := by decide +kernel
theorem dX9_laysWords_167 : decode cX9_laysWords 167 = .ok (.getfield 9, 3) := by decide +kernel
theorem dX9_laysWords_170 : decode cX9_laysWords 170 = .ok (.aload_n 0, 1) := by decide +kernel
theorem dX9_laysWords_171 : decode cX9_laysWords 171 = .ok (.getfield 9, 3) := by decide +kernel
theorem dX9_laysWords_174 : decode cX9_laysWords 174 = .ok (.iload_n 1, 1) := by decide +kernel
theorem dX9_laysWords_175 : decode cX9_laysWords 175 = .ok (.iload_n 2, 1) := by decide +kernel
theorem dX9_laysWords_176 : decode cX9_laysWords 176 = .ok (.invokestatic 73, 3) := by decide +kernel
theorem dX9_laysWords_179 : decode cX9_laysWords 179 = .ok (.iconst 2, 1) := by decide +kernel
theorem dX9_laysWords_180 : decode cX9_laysWords 180 = .ok (.iadd, 1) := by decide +kernel
theorem dX9_laysWords_181 : decode cX9_laysWords 181 = .ok (.laload, 1) := by decide +kernel
theorem dX9_laysWords_182 : decode cX9_laysWords 182 = .ok (.invokestatic 204, 3) := by decide +kernel
theorem dX9_laysWords_185 : decode cX9_laysWords 185 = .ok (.invokevirtual 258, 3) := by decide +kernel
theorem dX9_laysWords_188 : decode cX9_laysWords 188 = .ok (.iastore, 1) := by decide +kernel
theorem dX9_laysWords_189 : decode cX9_laysWords 189 = .ok (.iinc 2 1, 3) := by decide +kernel
theorem dX9_laysWords_192 : decode cX9_laysWords 192 = .ok (.goto (-45), 3) := by decide +kernel
theorem dX9_laysWords_195 : decode cX9_laysWords 195 = .ok (.iinc 1 1, 3) := by decide +kernel
theorem dX9_laysWords_198 : decode cX9_laysWords 198 = .ok (.goto (-61), 3) := by decide +kernel
theorem dX9_laysWords_201 : decode cX9_laysWords 201 = .ok (.return_, 1) := by decide +kernel
abbrev mm_X9_laysWords : ab_M := (RX9, 6, none, false, 1, 26, none)
noncomputable def f_X9_laysWords_L147 (k195 : Int → Int → ab_H → Option ab_H) : Nat → Int → Int → Int → ab_H → Option ab_H
  | 0, _, _, _, _ => none
  | n + 1, v0, v1, v2, h =>
    (ab_on h 10 v0 (f_X9_terms v0 v1 h)).bind fun q1 =>
    if q1.1 ≤ v2 then
      k195 v0 v1 q1.2
    else
    (ab_get q1.2 10 15 v0).bind fun t2 =>
    (f_X9_place v1 v2 q1.2).bind fun q3 =>
    (ab_get q3.2 10 1 v0).bind fun t4 =>
    (ab_get q3.2 10 1 v0).bind fun t5 =>
    (f_X9_termAt v1 v2 q3.2).bind fun q6 =>
    (ab_ald q6.2 12 t5 (ab_w32 (q6.1 + (2 : Int)))).bind fun t7 =>
    (f_X9_usedOf t4 t7 q6.2).bind fun q8 =>
    (ab_on q8.2 10 v0 (f_X9_findWord v0 q8.1 q8.2)).bind fun q9 =>
    (ab_ast q9.2 11 t2 q3.1 q9.1).bind fun h1 =>
    f_X9_laysWords_L147 k195 n v0 v1 (ab_w32 (v2 + (1 : Int))) h1
set_option maxRecDepth 20000 in
theorem e_X9_laysWords_L147 {k195 : Int → Int → ab_H → Option ab_H} (hk195 : ∀ (v0 : Int) (v1 : Int) (h : ab_H) (q : ab_H), k195 v0 v1 h = some q → ab_E mm_X9_laysWords cX9_laysWords 195 [some (ab_R v0), some (ab_I v1), none, none, none, none] [] h none q) : ∀ (n : Nat) (v0 : Int) (v1 : Int) (v2 : Int) (h : ab_H) (q : ab_H), f_X9_laysWords_L147 k195 n v0 v1 v2 h = some q → ab_E mm_X9_laysWords cX9_laysWords 147 [some (ab_R v0), some (ab_I v1), some (ab_I v2), none, none, none] [] h none q := by
  intro n
  induction n with
  | zero => intro v0 v1 v2 h q hk; cases hk
  | succ n ih =>
    intro v0 v1 v2 h q hk
    unfold f_X9_laysWords_L147 at hk
    refine ab_iload_n (pc := 147) (i := 2) dX9_laysWords_147 rfl rfl ?_
    refine ab_aload_n (pc := 148) (i := 0) dX9_laysWords_148 rfl rfl ?_
    refine ab_iload_n (pc := 149) (i := 1) dX9_laysWords_149 rfl rfl ?_
    obtain ⟨q1, hq1, hk⟩ := ab_bnd hk
    obtain ⟨hb, hq1⟩ := ab_on_some hq1
    refine ab_callVI (st := [ab_I v2]) (as := [ab_I v1]) (b := v0) (pc := 150) dX9_laysWords_150 ml_RX9_255 my_X9_terms mv_X9_terms hb (ct_X9_terms hq1) ⟨Nat.le_of_ble_eq_true rfl, Nat.le_of_ble_eq_true rfl⟩ rfl (Nat.le_of_ble_eq_true rfl) rfl ?_
    refine ab_icmp_ge (pc := 153) (tgt := 195) dX9_laysWords_153 rfl (fun hc => ?_) (fun hc => ?_)
    · have hk := ab_ifp hk hc
      refine ab_sub_ (lv2 := [some (ab_R v0), some (ab_I v1), none, none, none, none]) (ab_ss (ab_ss (ab_sn (ab_sn (ab_sn (ab_sn ab_s0)))))) ?_
      exact hk195 _ _ _ _ hk
    · have hk := ab_ifn hk hc
      refine ab_aload_n (pc := 156) (i := 0) dX9_laysWords_156 rfl rfl ?_
      obtain ⟨t2, ht2, hk⟩ := ab_bnd hk
      refine ab_getR (pc := 157) dX9_laysWords_157 fl_RX9_27 ht2 ?_
      refine ab_iload_n (pc := 160) (i := 1) dX9_laysWords_160 rfl rfl ?_
      refine ab_iload_n (pc := 161) (i := 2) dX9_laysWords_161 rfl rfl ?_
      obtain ⟨q3, hq3, hk⟩ := ab_bnd hk
      refine ab_callSI (st := [ab_R t2]) (as := [ab_I v1, ab_I v2]) (pc := 162) dX9_laysWords_162 ml_RX9_262 my_X9_place ms_X9_place (ct_X9_place hq3) ⟨Nat.le_of_ble_eq_true rfl, Nat.le_of_ble_eq_true rfl⟩ rfl (Nat.le_of_ble_eq_true rfl) rfl ?_
      refine ab_aload_n (pc := 165) (i := 0) dX9_laysWords_165 rfl rfl ?_
      refine ab_aload_n (pc := 166) (i := 0) dX9_laysWords_166 rfl rfl ?_
      obtain ⟨t4, ht4, hk⟩ := ab_bnd hk
      refine ab_getR (pc := 167) dX9_laysWords_167 fl_RX9_9 ht4 ?_
      refine ab_aload_n (pc := 170) (i := 0) dX9_laysWords_170 rfl rfl ?_
      obtain ⟨t5, ht5, hk⟩ := ab_bnd hk
      refine ab_getR (pc := 171) dX9_laysWords_171 fl_RX9_9 ht5 ?_
      refine ab_iload_n (pc := 174) (i := 1) dX9_laysWords_174 rfl rfl ?_
      refine ab_iload_n (pc := 175) (i := 2) dX9_laysWords_175 rfl rfl ?_
      obtain ⟨q6, hq6, hk⟩ := ab_bnd hk
      refine ab_callSI (st := [ab_R t5, ab_R t4, ab_R v0, ab_I q3.1, ab_R t2]) (as := [ab_I v1, ab_I v2]) (pc := 176) dX9_laysWords_176 ml_RX9_73 my_X9_termAt ms_X9_termAt (ct_X9_termAt hq6) ⟨Nat.le_of_ble_eq_true rfl, Nat.le_of_ble_eq_true rfl⟩ rfl (Nat.le_of_ble_eq_true rfl) rfl ?_
      refine ab_iconst (pc := 179) dX9_laysWords_179 ab_k_2 ?_
      refine ab_iadd (pc := 180) dX9_laysWords_180 ?_
      obtain ⟨t7, ht7, hk⟩ := ab_bnd hk
      refine ab_lald (pc := 181) dX9_laysWords_181 ht7 ?_
      obtain ⟨q8, hq8, hk⟩ := ab_bnd hk
      refine ab_callSJ (st := [ab_R v0, ab_I q3.1, ab_R t2]) (as := [ab_R t4, ab_J t7]) (pc := 182) dX9_laysWords_182 ml_RX9_204 my_X9_usedOf ms_X9_usedOf (ct_X9_usedOf hq8) ⟨Nat.le_of_ble_eq_true rfl, Nat.le_of_ble_eq_true rfl⟩ rfl (Nat.le_of_ble_eq_true rfl) rfl ?_
      obtain ⟨q9, hq9, hk⟩ := ab_bnd hk
      obtain ⟨hb, hq9⟩ := ab_on_some hq9
      refine ab_callVI (st := [ab_I q3.1, ab_R t2]) (as := [ab_J q8.1]) (b := v0) (pc := 185) dX9_laysWords_185 ml_RX9_258 my_X9_findWord mv_X9_findWord hb (ct_X9_findWord hq9) ⟨Nat.le_of_ble_eq_true rfl, Nat.le_of_ble_eq_true rfl⟩ rfl (Nat.le_of_ble_eq_true rfl) rfl ?_
      obtain ⟨h1, hh1, hk⟩ := ab_bnd hk
      refine ab_iast (pc := 188) dX9_laysWords_188 hh1 ?_
      refine ab_iinc (pc := 189) (i := 2) (lv2 := [some (ab_R v0), some (ab_I v1), some (ab_I (ab_w32 (v2 + (1 : Int)))), none, none, none]) dX9_laysWords_189 rfl (Nat.le_of_ble_eq_true rfl) rfl rfl ?_
      refine ab_goto (pc := 192) (tgt := 147) dX9_laysWords_192 rfl ?_
      refine ab_sub_ (lv2 := [some (ab_R v0), some (ab_I v1), some (ab_I (ab_w32 (v2 + (1 : Int)))), none, none, none]) (ab_ss (ab_ss (ab_ss (ab_sn (ab_sn (ab_sn ab_s0)))))) ?_
      exact ih _ _ _ _ _ hk
noncomputable def f_X9_laysWords_L137 : Nat → Int → Int → ab_H → Option ab_H
  | 0, _, _, _ => none
  | n + 1, v0, v1, h =>
    (ab_on h 10 v0 (f_X9_strings v0 h)).bind fun q1 =>
    if q1.1 ≤ v1 then
      some q1.2
    else
    f_X9_laysWords_L147 (fun w195_0 w195_1 hx195 =>
      f_X9_laysWords_L137 n w195_0 (ab_w32 (w195_1 + (1 : Int))) hx195) ab_FU v0 v1 (0 : Int) q1.2
set_option maxRecDepth 20000 in
theorem e_X9_laysWords_L137 : ∀ (n : Nat) (v0 : Int) (v1 : Int) (h : ab_H) (q : ab_H), f_X9_laysWords_L137 n v0 v1 h = some q → ab_E mm_X9_laysWords cX9_laysWords 137 [some (ab_R v0), some (ab_I v1), none, none, none, none] [] h none q := by
  intro n
  induction n with
  | zero => intro v0 v1 h q hk; cases hk
  | succ n ih =>
    intro v0 v1 h q hk
    unfold f_X9_laysWords_L137 at hk
    refine ab_iload_n (pc := 137) (i := 1) dX9_laysWords_137 rfl rfl ?_
    refine ab_aload_n (pc := 138) (i := 0) dX9_laysWords_138 rfl rfl ?_
    obtain ⟨q1, hq1, hk⟩ := ab_bnd hk
    obtain ⟨hb, hq1⟩ := ab_on_some hq1
    refine ab_callVI (st := [ab_I v1]) (as := []) (b := v0) (pc := 139) dX9_laysWords_139 ml_RX9_246 my_X9_strings mv_X9_strings hb (ct_X9_strings hq1) ⟨Nat.le_of_ble_eq_true rfl, Nat.le_of_ble_eq_true rfl⟩ rfl (Nat.le_of_ble_eq_true rfl) rfl ?_
    refine ab_icmp_ge (pc := 142) (tgt := 201) dX9_laysWords_142 rfl (fun hc => ?_) (fun hc => ?_)
    · have hk := ab_ifp hk hc
      obtain rfl := Option.some.inj hk
      exact ab_retv (pc := 201) dX9_laysWords_201 rfl
    · have hk := ab_ifn hk hc
      refine ab_iconst (pc := 145) dX9_laysWords_145 ab_k_0 ?_
      refine ab_istore_n (pc := 146) (i := 2) (lv2 := [some (ab_R v0), some (ab_I v1), some (ab_I (0 : Int)), none, none, none]) dX9_laysWords_146 rfl (Nat.le_of_ble_eq_true rfl) rfl rfl ?_
      refine ab_sub_ (lv2 := [some (ab_R v0), some (ab_I v1), some (ab_I (0 : Int)), none, none, none]) (ab_ss (ab_ss (ab_ss (ab_sn (ab_sn (ab_sn ab_s0)))))) ?_
      refine e_X9_laysWords_L147 (fun w195_0 w195_1 hx195 q hk => ?_) _ _ _ _ _ _ hk
      · skip
        refine ab_iinc (pc := 195) (i := 1) (lv2 := [some (ab_R w195_0), some (ab_I (ab_w32 (w195_1 + (1 : Int)))), none, none, none, none]) dX9_laysWords_195 rfl (Nat.le_of_ble_eq_true rfl) rfl rfl ?_
        refine ab_goto (pc := 198) (tgt := 137) dX9_laysWords_198 rfl ?_
        refine ab_sub_ (lv2 := [some (ab_R w195_0), some (ab_I (ab_w32 (w195_1 + (1 : Int)))), none, none, none, none]) (ab_ss (ab_ss (ab_sn (ab_sn (ab_sn (ab_sn ab_s0)))))) ?_
        exact ih _ _ _ _ hk
noncomputable def f_X9_laysWords_J123 (rec : Int → Int → Int → ab_H → Option ab_H) (k129 : Int → Int → ab_H → Option ab_H) (v0 : Int) (v1 : Int) (v2 : Int) (h : ab_H) : Option ab_H :=
  rec v0 v1 (ab_w32 (v2 + (1 : Int))) h
set_option maxRecDepth 20000 in
theorem e_X9_laysWords_J123 {rec : Int → Int → Int → ab_H → Option ab_H} {k129 : Int → Int → ab_H → Option ab_H} (hrec : ∀ (v0 : Int) (v1 : Int) (v2 : Int) (h : ab_H) (q : ab_H), rec v0 v1 v2 h = some q → ab_E mm_X9_laysWords cX9_laysWords 17 [some (ab_R v0), some (ab_I v1), some (ab_I v2), none, none, none] [] h none q) (hk129 : ∀ (v0 : Int) (v1 : Int) (h : ab_H) (q : ab_H), k129 v0 v1 h = some q → ab_E mm_X9_laysWords cX9_laysWords 129 [some (ab_R v0), some (ab_I v1), none, none, none, none] [] h none q) : ∀ (v0 : Int) (v1 : Int) (v2 : Int) (h : ab_H) (q : ab_H), f_X9_laysWords_J123 rec k129 v0 v1 v2 h = some q → ab_E mm_X9_laysWords cX9_laysWords 123 [some (ab_R v0), some (ab_I v1), some (ab_I v2), none, none, none] [] h none q := by
  intro v0 v1 v2 h q hk
  unfold f_X9_laysWords_J123 at hk
  refine ab_iinc (pc := 123) (i := 2) (lv2 := [some (ab_R v0), some (ab_I v1), some (ab_I (ab_w32 (v2 + (1 : Int)))), none, none, none]) dX9_laysWords_123 rfl (Nat.le_of_ble_eq_true rfl) rfl rfl ?_
  refine ab_goto (pc := 126) (tgt := 17) dX9_laysWords_126 rfl ?_
  refine ab_sub_ (lv2 := [some (ab_R v0), some (ab_I v1), some (ab_I (ab_w32 (v2 + (1 : Int)))), none, none, none]) (ab_ss (ab_ss (ab_ss (ab_sn (ab_sn (ab_sn ab_s0)))))) ?_
  exact hrec _ _ _ _ _ hk
noncomputable def f_X9_laysWords_J105 (rec : Int → Int → Int → ab_H → Option ab_H) (k129 : Int → Int → ab_H → Option ab_H) (v0 : Int) (v1 : Int) (v2 : Int) (v3 : Int) (v5 : Int) (h : ab_H) : Option ab_H :=
  (ab_get h 10 13 v0).bind fun t1 =>
  (ab_ast h 12 t1 v5 v3).bind fun h1 =>
  (ab_get h1 10 14 v0).bind fun t2 =>
  (ab_put h1 10 14 v0 (ab_w32 (t2 + (1 : Int)))).bind fun h2 =>
  f_X9_laysWords_J123 rec k129 v0 v1 v2 h2
set_option maxRecDepth 20000 in
theorem e_X9_laysWords_J105 {rec : Int → Int → Int → ab_H → Option ab_H} {k129 : Int → Int → ab_H → Option ab_H} (hrec : ∀ (v0 : Int) (v1 : Int) (v2 : Int) (h : ab_H) (q : ab_H), rec v0 v1 v2 h = some q → ab_E mm_X9_laysWords cX9_laysWords 17 [some (ab_R v0), some (ab_I v1), some (ab_I v2), none, none, none] [] h none q) (hk129 : ∀ (v0 : Int) (v1 : Int) (h : ab_H) (q : ab_H), k129 v0 v1 h = some q → ab_E mm_X9_laysWords cX9_laysWords 129 [some (ab_R v0), some (ab_I v1), none, none, none, none] [] h none q) : ∀ (v0 : Int) (v1 : Int) (v2 : Int) (v3 : Int) (v5 : Int) (h : ab_H) (q : ab_H), f_X9_laysWords_J105 rec k129 v0 v1 v2 v3 v5 h = some q → ab_E mm_X9_laysWords cX9_laysWords 105 [some (ab_R v0), some (ab_I v1), some (ab_I v2), some (ab_J v3), none, some (ab_I v5)] [] h none q := by
  intro v0 v1 v2 v3 v5 h q hk
  unfold f_X9_laysWords_J105 at hk
  refine ab_aload_n (pc := 105) (i := 0) dX9_laysWords_105 rfl rfl ?_
  obtain ⟨t1, ht1, hk⟩ := ab_bnd hk
  refine ab_getR (pc := 106) dX9_laysWords_106 fl_RX9_24 ht1 ?_
  refine ab_iload (pc := 109) (i := 5) dX9_laysWords_109 rfl ?_
  refine ab_lload_n (pc := 111) (i := 3) dX9_laysWords_111 rfl rfl ?_
  obtain ⟨h1, hh1, hk⟩ := ab_bnd hk
  refine ab_last (pc := 112) dX9_laysWords_112 hh1 ?_
  refine ab_aload_n (pc := 113) (i := 0) dX9_laysWords_113 rfl rfl ?_
  refine ab_dup (pc := 114) dX9_laysWords_114 rfl ?_
  obtain ⟨t2, ht2, hk⟩ := ab_bnd hk
  refine ab_getI (pc := 115) dX9_laysWords_115 fl_RX9_252 ht2 ?_
  refine ab_iconst (pc := 118) dX9_laysWords_118 ab_k_1 ?_
  refine ab_iadd (pc := 119) dX9_laysWords_119 ?_
  obtain ⟨h2, hh2, hk⟩ := ab_bnd hk
  refine ab_putI_ (pc := 120) dX9_laysWords_120 fl_RX9_252 (fun q => by cases q) hh2 ?_
  refine ab_sub_ (lv2 := [some (ab_R v0), some (ab_I v1), some (ab_I v2), none, none, none]) (ab_ss (ab_ss (ab_ss (ab_sn (ab_sn (ab_sn ab_s0)))))) ?_
  exact e_X9_laysWords_J123 hrec hk129 _ _ _ _ _ hk
noncomputable def f_X9_laysWords_L64 (k105 : Int → Int → Int → Int → Int → ab_H → Option ab_H) : Nat → Int → Int → Int → Int → Int → ab_H → Option ab_H
  | 0, _, _, _, _, _, _ => none
  | n + 1, v0, v1, v2, v3, v5, h =>
    if v5 ≤ (0 : Int) then
      k105 v0 v1 v2 v3 v5 h
    else
    (ab_get h 10 13 v0).bind fun t1 =>
    (ab_ald h 12 t1 (ab_w32 (v5 - (1 : Int)))).bind fun t2 =>
    if ab_cmp t2 v3 ≤ (0 : Int) then
      k105 v0 v1 v2 v3 v5 h
    else
    (ab_get h 10 13 v0).bind fun t3 =>
    (ab_get h 10 13 v0).bind fun t4 =>
    (ab_ald h 12 t4 (ab_w32 (v5 - (1 : Int)))).bind fun t5 =>
    (ab_ast h 12 t3 v5 t5).bind fun h1 =>
    f_X9_laysWords_L64 k105 n v0 v1 v2 v3 (ab_w32 (v5 + (-1 : Int))) h1
set_option maxRecDepth 20000 in
theorem e_X9_laysWords_L64 {k105 : Int → Int → Int → Int → Int → ab_H → Option ab_H} (hk105 : ∀ (v0 : Int) (v1 : Int) (v2 : Int) (v3 : Int) (v5 : Int) (h : ab_H) (q : ab_H), k105 v0 v1 v2 v3 v5 h = some q → ab_E mm_X9_laysWords cX9_laysWords 105 [some (ab_R v0), some (ab_I v1), some (ab_I v2), some (ab_J v3), none, some (ab_I v5)] [] h none q) : ∀ (n : Nat) (v0 : Int) (v1 : Int) (v2 : Int) (v3 : Int) (v5 : Int) (h : ab_H) (q : ab_H), f_X9_laysWords_L64 k105 n v0 v1 v2 v3 v5 h = some q → ab_E mm_X9_laysWords cX9_laysWords 64 [some (ab_R v0), some (ab_I v1), some (ab_I v2), some (ab_J v3), none, some (ab_I v5)] [] h none q := by
  intro n
  induction n with
  | zero => intro v0 v1 v2 v3 v5 h q hk; cases hk
  | succ n ih =>
    intro v0 v1 v2 v3 v5 h q hk
    unfold f_X9_laysWords_L64 at hk
    refine ab_iload (pc := 64) (i := 5) dX9_laysWords_64 rfl ?_
    refine ab_if_le (pc := 66) (tgt := 105) dX9_laysWords_66 rfl (fun hc => ?_) (fun hc => ?_)
    · have hk := ab_ifp hk hc
      refine ab_sub_ (lv2 := [some (ab_R v0), some (ab_I v1), some (ab_I v2), some (ab_J v3), none, some (ab_I v5)]) (ab_ss (ab_ss (ab_ss (ab_ss (ab_sn (ab_ss ab_s0)))))) ?_
      exact hk105 _ _ _ _ _ _ _ hk
    · have hk := ab_ifn hk hc
      refine ab_aload_n (pc := 69) (i := 0) dX9_laysWords_69 rfl rfl ?_
      obtain ⟨t1, ht1, hk⟩ := ab_bnd hk
      refine ab_getR (pc := 70) dX9_laysWords_70 fl_RX9_24 ht1 ?_
      refine ab_iload (pc := 73) (i := 5) dX9_laysWords_73 rfl ?_
      refine ab_iconst (pc := 75) dX9_laysWords_75 ab_k_1 ?_
      refine ab_isub (pc := 76) dX9_laysWords_76 ?_
      obtain ⟨t2, ht2, hk⟩ := ab_bnd hk
      refine ab_lald (pc := 77) dX9_laysWords_77 ht2 ?_
      refine ab_lload_n (pc := 78) (i := 3) dX9_laysWords_78 rfl rfl ?_
      refine ab_lcmp_ (pc := 79) dX9_laysWords_79 ?_
      refine ab_if_le (pc := 80) (tgt := 105) dX9_laysWords_80 rfl (fun hc => ?_) (fun hc => ?_)
      · have hk := ab_ifp hk hc
        refine ab_sub_ (lv2 := [some (ab_R v0), some (ab_I v1), some (ab_I v2), some (ab_J v3), none, some (ab_I v5)]) (ab_ss (ab_ss (ab_ss (ab_ss (ab_sn (ab_ss ab_s0)))))) ?_
        exact hk105 _ _ _ _ _ _ _ hk
      · have hk := ab_ifn hk hc
        refine ab_aload_n (pc := 83) (i := 0) dX9_laysWords_83 rfl rfl ?_
        obtain ⟨t3, ht3, hk⟩ := ab_bnd hk
        refine ab_getR (pc := 84) dX9_laysWords_84 fl_RX9_24 ht3 ?_
        refine ab_iload (pc := 87) (i := 5) dX9_laysWords_87 rfl ?_
        refine ab_aload_n (pc := 89) (i := 0) dX9_laysWords_89 rfl rfl ?_
        obtain ⟨t4, ht4, hk⟩ := ab_bnd hk
        refine ab_getR (pc := 90) dX9_laysWords_90 fl_RX9_24 ht4 ?_
        refine ab_iload (pc := 93) (i := 5) dX9_laysWords_93 rfl ?_
        refine ab_iconst (pc := 95) dX9_laysWords_95 ab_k_1 ?_
        refine ab_isub (pc := 96) dX9_laysWords_96 ?_
        obtain ⟨t5, ht5, hk⟩ := ab_bnd hk
        refine ab_lald (pc := 97) dX9_laysWords_97 ht5 ?_
        obtain ⟨h1, hh1, hk⟩ := ab_bnd hk
        refine ab_last (pc := 98) dX9_laysWords_98 hh1 ?_
        refine ab_iinc (pc := 99) (i := 5) (lv2 := [some (ab_R v0), some (ab_I v1), some (ab_I v2), some (ab_J v3), none, some (ab_I (ab_w32 (v5 + (-1 : Int))))]) dX9_laysWords_99 rfl (Nat.le_of_ble_eq_true rfl) rfl rfl ?_
        refine ab_goto (pc := 102) (tgt := 64) dX9_laysWords_102 rfl ?_
        refine ab_sub_ (lv2 := [some (ab_R v0), some (ab_I v1), some (ab_I v2), some (ab_J v3), none, some (ab_I (ab_w32 (v5 + (-1 : Int))))]) (ab_ss (ab_ss (ab_ss (ab_ss (ab_sn (ab_ss ab_s0)))))) ?_
        exact ih _ _ _ _ _ _ _ hk
noncomputable def f_X9_laysWords_L17 (k129 : Int → Int → ab_H → Option ab_H) : Nat → Int → Int → Int → ab_H → Option ab_H
  | 0, _, _, _, _ => none
  | n + 1, v0, v1, v2, h =>
    (ab_on h 10 v0 (f_X9_terms v0 v1 h)).bind fun q1 =>
    if q1.1 ≤ v2 then
      k129 v0 v1 q1.2
    else
    (ab_get q1.2 10 1 v0).bind fun t2 =>
    (ab_get q1.2 10 1 v0).bind fun t3 =>
    (f_X9_termAt v1 v2 q1.2).bind fun q4 =>
    (ab_ald q4.2 12 t3 (ab_w32 (q4.1 + (2 : Int)))).bind fun t5 =>
    (f_X9_usedOf t2 t5 q4.2).bind fun q6 =>
    (ab_on q6.2 10 v0 (f_X9_findWord v0 q6.1 q6.2)).bind fun q7 =>
    if q7.1 = (-1 : Int) then
      (ab_get q7.2 10 14 v0).bind fun t8 =>
      f_X9_laysWords_L64 (fun w105_0 w105_1 w105_2 w105_3 w105_5 hx105 =>
        f_X9_laysWords_J105 (f_X9_laysWords_L17 k129 n) k129 w105_0 w105_1 w105_2 w105_3 w105_5 hx105) ab_FU v0 v1 v2 q6.1 t8 q7.2
    else
    f_X9_laysWords_J123 (f_X9_laysWords_L17 k129 n) k129 v0 v1 v2 q7.2
set_option maxRecDepth 20000 in
theorem e_X9_laysWords_L17 {k129 : Int → Int → ab_H → Option ab_H} (hk129 : ∀ (v0 : Int) (v1 : Int) (h : ab_H) (q : ab_H), k129 v0 v1 h = some q → ab_E mm_X9_laysWords cX9_laysWords 129 [some (ab_R v0), some (ab_I v1), none, none, none, none] [] h none q) : ∀ (n : Nat) (v0 : Int) (v1 : Int) (v2 : Int) (h : ab_H) (q : ab_H), f_X9_laysWords_L17 k129 n v0 v1 v2 h = some q → ab_E mm_X9_laysWords cX9_laysWords 17 [some (ab_R v0), some (ab_I v1), some (ab_I v2), none, none, none] [] h none q := by
  intro n
  induction n with
  | zero => intro v0 v1 v2 h q hk; cases hk
  | succ n ih =>
    intro v0 v1 v2 h q hk
    unfold f_X9_laysWords_L17 at hk
    refine ab_iload_n (pc := 17) (i := 2) dX9_laysWords_17 rfl rfl ?_
    refine ab_aload_n (pc := 18) (i := 0) dX9_laysWords_18 rfl rfl ?_
    refine ab_iload_n (pc := 19) (i := 1) dX9_laysWords_19 rfl rfl ?_
    obtain ⟨q1, hq1, hk⟩ := ab_bnd hk
    obtain ⟨hb, hq1⟩ := ab_on_some hq1
    refine ab_callVI (st := [ab_I v2]) (as := [ab_I v1]) (b := v0) (pc := 20) dX9_laysWords_20 ml_RX9_255 my_X9_terms mv_X9_terms hb (ct_X9_terms hq1) ⟨Nat.le_of_ble_eq_true rfl, Nat.le_of_ble_eq_true rfl⟩ rfl (Nat.le_of_ble_eq_true rfl) rfl ?_
    refine ab_icmp_ge (pc := 23) (tgt := 129) dX9_laysWords_23 rfl (fun hc => ?_) (fun hc => ?_)
    · have hk := ab_ifp hk hc
      refine ab_sub_ (lv2 := [some (ab_R v0), some (ab_I v1), none, none, none, none]) (ab_ss (ab_ss (ab_sn (ab_sn (ab_sn (ab_sn ab_s0)))))) ?_
      exact hk129 _ _ _ _ hk
    · have hk := ab_ifn hk hc
      refine ab_aload_n (pc := 26) (i := 0) dX9_laysWords_26 rfl rfl ?_
      obtain ⟨t2, ht2, hk⟩ := ab_bnd hk
      refine ab_getR (pc := 27) dX9_laysWords_27 fl_RX9_9 ht2 ?_
      refine ab_aload_n (pc := 30) (i := 0) dX9_laysWords_30 rfl rfl ?_
      obtain ⟨t3, ht3, hk⟩ := ab_bnd hk
      refine ab_getR (pc := 31) dX9_laysWords_31 fl_RX9_9 ht3 ?_
      refine ab_iload_n (pc := 34) (i := 1) dX9_laysWords_34 rfl rfl ?_
      refine ab_iload_n (pc := 35) (i := 2) dX9_laysWords_35 rfl rfl ?_
      obtain ⟨q4, hq4, hk⟩ := ab_bnd hk
      refine ab_callSI (st := [ab_R t3, ab_R t2]) (as := [ab_I v1, ab_I v2]) (pc := 36) dX9_laysWords_36 ml_RX9_73 my_X9_termAt ms_X9_termAt (ct_X9_termAt hq4) ⟨Nat.le_of_ble_eq_true rfl, Nat.le_of_ble_eq_true rfl⟩ rfl (Nat.le_of_ble_eq_true rfl) rfl ?_
      refine ab_iconst (pc := 39) dX9_laysWords_39 ab_k_2 ?_
      refine ab_iadd (pc := 40) dX9_laysWords_40 ?_
      obtain ⟨t5, ht5, hk⟩ := ab_bnd hk
      refine ab_lald (pc := 41) dX9_laysWords_41 ht5 ?_
      obtain ⟨q6, hq6, hk⟩ := ab_bnd hk
      refine ab_callSJ (st := []) (as := [ab_R t2, ab_J t5]) (pc := 42) dX9_laysWords_42 ml_RX9_204 my_X9_usedOf ms_X9_usedOf (ct_X9_usedOf hq6) ⟨Nat.le_of_ble_eq_true rfl, Nat.le_of_ble_eq_true rfl⟩ rfl (Nat.le_of_ble_eq_true rfl) rfl ?_
      refine ab_lstore_n (pc := 45) (i := 3) (lv2 := [some (ab_R v0), some (ab_I v1), some (ab_I v2), some (ab_J q6.1), none, none]) dX9_laysWords_45 rfl (Nat.le_of_ble_eq_true rfl) rfl rfl ?_
      refine ab_aload_n (pc := 46) (i := 0) dX9_laysWords_46 rfl rfl ?_
      refine ab_lload_n (pc := 47) (i := 3) dX9_laysWords_47 rfl rfl ?_
      obtain ⟨q7, hq7, hk⟩ := ab_bnd hk
      obtain ⟨hb, hq7⟩ := ab_on_some hq7
      refine ab_callVI (st := []) (as := [ab_J q6.1]) (b := v0) (pc := 48) dX9_laysWords_48 ml_RX9_258 my_X9_findWord mv_X9_findWord hb (ct_X9_findWord hq7) ⟨Nat.le_of_ble_eq_true rfl, Nat.le_of_ble_eq_true rfl⟩ rfl (Nat.le_of_ble_eq_true rfl) rfl ?_
      refine ab_iconst (pc := 51) dX9_laysWords_51 ab_k_m1 ?_
      refine ab_icmp_eq (pc := 52) (tgt := 58) dX9_laysWords_52 rfl (fun hc => ?_) (fun hc => ?_)
      · have hk := ab_ifp hk hc
        refine ab_aload_n (pc := 58) (i := 0) dX9_laysWords_58 rfl rfl ?_
        obtain ⟨t8, ht8, hk⟩ := ab_bnd hk
        refine ab_getI (pc := 59) dX9_laysWords_59 fl_RX9_252 ht8 ?_
        refine ab_istore (pc := 62) (i := 5) (lv2 := [some (ab_R v0), some (ab_I v1), some (ab_I v2), some (ab_J q6.1), none, some (ab_I t8)]) dX9_laysWords_62 (Nat.le_of_ble_eq_true rfl) rfl rfl ?_
        refine ab_sub_ (lv2 := [some (ab_R v0), some (ab_I v1), some (ab_I v2), some (ab_J q6.1), none, some (ab_I t8)]) (ab_ss (ab_ss (ab_ss (ab_ss (ab_sn (ab_ss ab_s0)))))) ?_
        refine e_X9_laysWords_L64 (fun w105_0 w105_1 w105_2 w105_3 w105_5 hx105 q hk => ?_) _ _ _ _ _ _ _ _ hk
        · skip
          refine ab_sub_ (lv2 := [some (ab_R w105_0), some (ab_I w105_1), some (ab_I w105_2), some (ab_J w105_3), none, some (ab_I w105_5)]) (ab_ss (ab_ss (ab_ss (ab_ss (ab_sn (ab_ss ab_s0)))))) ?_
          exact e_X9_laysWords_J105 ih hk129 _ _ _ _ _ _ _ hk
      · have hk := ab_ifn hk hc
        refine ab_goto (pc := 55) (tgt := 123) dX9_laysWords_55 rfl ?_
        refine ab_sub_ (lv2 := [some (ab_R v0), some (ab_I v1), some (ab_I v2), none, none, none]) (ab_ss (ab_ss (ab_ss (ab_sn (ab_sn (ab_sn ab_s0)))))) ?_
        exact e_X9_laysWords_J123 ih hk129 _ _ _ _ _ hk
noncomputable def f_X9_laysWords_L7 (k135 : Int → ab_H → Option ab_H) : Nat → Int → Int → ab_H → Option ab_H
  | 0, _, _, _ => none
  | n + 1, v0, v1, h =>
    (ab_on h 10 v0 (f_X9_strings v0 h)).bind fun q1 =>
    if q1.1 ≤ v1 then
      k135 v0 q1.2
    else
    f_X9_laysWords_L17 (fun w129_0 w129_1 hx129 =>
      f_X9_laysWords_L7 k135 n w129_0 (ab_w32 (w129_1 + (1 : Int))) hx129) ab_FU v0 v1 (0 : Int) q1.2
set_option maxRecDepth 20000 in
theorem e_X9_laysWords_L7 {k135 : Int → ab_H → Option ab_H} (hk135 : ∀ (v0 : Int) (h : ab_H) (q : ab_H), k135 v0 h = some q → ab_E mm_X9_laysWords cX9_laysWords 135 [some (ab_R v0), none, none, none, none, none] [] h none q) : ∀ (n : Nat) (v0 : Int) (v1 : Int) (h : ab_H) (q : ab_H), f_X9_laysWords_L7 k135 n v0 v1 h = some q → ab_E mm_X9_laysWords cX9_laysWords 7 [some (ab_R v0), some (ab_I v1), none, none, none, none] [] h none q := by
  intro n
  induction n with
  | zero => intro v0 v1 h q hk; cases hk
  | succ n ih =>
    intro v0 v1 h q hk
    unfold f_X9_laysWords_L7 at hk
    refine ab_iload_n (pc := 7) (i := 1) dX9_laysWords_7 rfl rfl ?_
    refine ab_aload_n (pc := 8) (i := 0) dX9_laysWords_8 rfl rfl ?_
    obtain ⟨q1, hq1, hk⟩ := ab_bnd hk
    obtain ⟨hb, hq1⟩ := ab_on_some hq1
    refine ab_callVI (st := [ab_I v1]) (as := []) (b := v0) (pc := 9) dX9_laysWords_9 ml_RX9_246 my_X9_strings mv_X9_strings hb (ct_X9_strings hq1) ⟨Nat.le_of_ble_eq_true rfl, Nat.le_of_ble_eq_true rfl⟩ rfl (Nat.le_of_ble_eq_true rfl) rfl ?_
    refine ab_icmp_ge (pc := 12) (tgt := 135) dX9_laysWords_12 rfl (fun hc => ?_) (fun hc => ?_)
    · have hk := ab_ifp hk hc
      refine ab_sub_ (lv2 := [some (ab_R v0), none, none, none, none, none]) (ab_ss (ab_sn (ab_sn (ab_sn (ab_sn (ab_sn ab_s0)))))) ?_
      exact hk135 _ _ _ hk
    · have hk := ab_ifn hk hc
      refine ab_iconst (pc := 15) dX9_laysWords_15 ab_k_0 ?_
      refine ab_istore_n (pc := 16) (i := 2) (lv2 := [some (ab_R v0), some (ab_I v1), some (ab_I (0 : Int)), none, none, none]) dX9_laysWords_16 rfl (Nat.le_of_ble_eq_true rfl) rfl rfl ?_
      refine ab_sub_ (lv2 := [some (ab_R v0), some (ab_I v1), some (ab_I (0 : Int)), none, none, none]) (ab_ss (ab_ss (ab_ss (ab_sn (ab_sn (ab_sn ab_s0)))))) ?_
      refine e_X9_laysWords_L17 (fun w129_0 w129_1 hx129 q hk => ?_) _ _ _ _ _ _ hk
      · skip
        refine ab_iinc (pc := 129) (i := 1) (lv2 := [some (ab_R w129_0), some (ab_I (ab_w32 (w129_1 + (1 : Int)))), none, none, none, none]) dX9_laysWords_129 rfl (Nat.le_of_ble_eq_true rfl) rfl rfl ?_
        refine ab_goto (pc := 132) (tgt := 7) dX9_laysWords_132 rfl ?_
        refine ab_sub_ (lv2 := [some (ab_R w129_0), some (ab_I (ab_w32 (w129_1 + (1 : Int)))), none, none, none, none]) (ab_ss (ab_ss (ab_sn (ab_sn (ab_sn (ab_sn ab_s0)))))) ?_
        exact ih _ _ _ _ hk
noncomputable def f_X9_laysWords (a0 : Int) (h : ab_H) : Option ab_H :=
  (ab_put h 10 14 a0 (0 : Int)).bind fun h1 =>
  f_X9_laysWords_L7 (fun w135_0 hx135 =>
    f_X9_laysWords_L137 ab_FU w135_0 (0 : Int) hx135) ab_FU a0 (0 : Int) h1
set_option maxRecDepth 20000 in
theorem ct_X9_laysWords {a0 : Int} {h : ab_H} {q : ab_H} (hk : f_X9_laysWords a0 h = some q) : ab_CT yX9_laysWords cX9_laysWords 6 none 1 26 [ab_R a0] h none q := by
  refine ab_CT.mk_ 5 (own := RX9) (ini := false) (lv := [some (ab_R a0), none, none, none, none, none]) rfl (by decide +kernel) (fun q => by cases q) rfl rfl ?_
  unfold f_X9_laysWords at hk
  show ab_E mm_X9_laysWords cX9_laysWords 0 _ [] h _ _
  refine ab_aload_n (pc := 0) (i := 0) dX9_laysWords_0 rfl rfl ?_
  refine ab_iconst (pc := 1) dX9_laysWords_1 ab_k_0 ?_
  obtain ⟨h1, hh1, hk⟩ := ab_bnd hk
  refine ab_putI_ (pc := 2) dX9_laysWords_2 fl_RX9_252 (fun q => by cases q) hh1 ?_
  refine ab_iconst (pc := 5) dX9_laysWords_5 ab_k_0 ?_
  refine ab_istore_n (pc := 6) (i := 1) (lv2 := [some (ab_R a0), some (ab_I (0 : Int)), none, none, none, none]) dX9_laysWords_6 rfl (Nat.le_of_ble_eq_true rfl) rfl rfl ?_
  refine ab_sub_ (lv2 := [some (ab_R a0), some (ab_I (0 : Int)), none, none, none, none]) (ab_ss (ab_ss (ab_sn (ab_sn (ab_sn (ab_sn ab_s0)))))) ?_
  refine e_X9_laysWords_L7 (fun w135_0 hx135 q hk => ?_) _ _ _ _ _ hk
  · skip
    refine ab_iconst (pc := 135) dX9_laysWords_135 ab_k_0 ?_
    refine ab_istore_n (pc := 136) (i := 1) (lv2 := [some (ab_R w135_0), some (ab_I (0 : Int)), none, none, none, none]) dX9_laysWords_136 rfl (Nat.le_of_ble_eq_true rfl) rfl rfl ?_
    refine ab_sub_ (lv2 := [some (ab_R w135_0), some (ab_I (0 : Int)), none, none, none, none]) (ab_ss (ab_ss (ab_sn (ab_sn (ab_sn (ab_sn ab_s0)))))) ?_
    refine e_X9_laysWords_L137 _ _ _ _ _ hk
theorem dX9_puts_0 : decode cX9_puts 0 = .ok (.bipush 12, 2) := by decide +kernel
theorem dX9_puts_2 : decode cX9_puts 2 = .ok (.iload_n 1, 1) := by decide +kernel
theorem dX9_puts_3 : decode cX9_puts 3 = .ok (.imul, 1) := by decide +kernel
theorem dX9_puts_4 : decode cX9_puts 4 = .ok (.bipush 6, 2) := by decide +kernel
theorem dX9_puts_6 : decode cX9_puts 6 = .ok (.iload_n 2, 1) := by decide +kernel
theorem dX9_puts_7 : decode cX9_puts 7 = .ok (.imul, 1) := by decide +kernel
theorem dX9_puts_8 : decode cX9_puts 8 = .ok (.iadd, 1) := by decide +kernel
theorem dX9_puts_9 : decode cX9_puts 9 = .ok (.istore 5, 2) := by decide +kernel
theorem dX9_puts_11 : decode cX9_puts 11 = .ok (.aload_n 0, 1) := by decide +kernel
theorem dX9_puts_12 : decode cX9_puts 12 = .ok (.getfield 46, 3) := by decide +kernel
theorem dX9_puts_15 : decode cX9_puts 15 = .ok (.iload 5, 2) := by decide +kernel
theorem dX9_puts_17 : decode cX9_puts 17 = .ok (.iaload, 1) := by decide +kernel
theorem dX9_puts_18 : decode cX9_puts 18 = .ok (.istore 6, 2) := by decide +kernel
theorem dX9_puts_20 : decode cX9_puts 20 = .ok (.iload 6, 2) := by decide +kernel
theorem dX9_puts_22 : decode cX9_puts 22 = .ok (.ifCond .ne 16, 3) := by decide +kernel
theorem dX9_puts_25 : decode cX9_puts 25 = .ok (.iload_n 3, 1) := by decide +kernel
theorem dX9_puts_26 : decode cX9_puts 26 = .ok (.aload_n 0, 1) := by decide +kernel
theorem dX9_puts_27 : decode cX9_puts 27 = .ok (.getfield 34, 3) := by decide +kernel
theorem dX9_puts_30 : decode cX9_puts 30 = .ok (.iload_n 1, 1) := by decide +kernel
theorem dX9_puts_31 : decode cX9_puts 31 = .ok (.iaload, 1) := by decide +kernel
theorem dX9_puts_32 : decode cX9_puts 32 = .ok (.invokestatic 262, 3) := by decide +kernel
theorem dX9_puts_35 : decode cX9_puts 35 = .ok (.goto 13, 3) := by decide +kernel
theorem dX9_puts_38 : decode cX9_puts 38 = .ok (.aload_n 0, 1) := by decide +kernel
theorem dX9_puts_39 : decode cX9_puts 39 = .ok (.getfield 46, 3) := by decide +kernel
theorem dX9_puts_42 : decode cX9_puts 42 = .ok (.iload 5, 2) := by decide +kernel
theorem dX9_puts_44 : decode cX9_puts 44 = .ok (.iload 6, 2) := by decide +kernel
theorem dX9_puts_46 : decode cX9_puts 46 = .ok (.iadd, 1) := by decide +kernel
theorem dX9_puts_47 : decode cX9_puts 47 = .ok (.iaload, 1) := by decide +kernel
theorem dX9_puts_48 : decode cX9_puts 48 = .ok (.istore 7, 2) := by decide +kernel
theorem dX9_puts_50 : decode cX9_puts 50 = .ok (.iload 7, 2) := by decide +kernel
theorem dX9_puts_52 : decode cX9_puts 52 = .ok (.ifCond .lt 35, 3) := by decide +kernel
theorem dX9_puts_55 : decode cX9_puts 55 = .ok (.aload_n 0, 1) := by decide +kernel
theorem dX9_puts_56 : decode cX9_puts 56 = .ok (.getfield 27, 3) := by decide +kernel
theorem dX9_puts_59 : decode cX9_puts 59 = .ok (.iload 7, 2) := by decide +kernel
theorem dX9_puts_61 : decode cX9_puts 61 = .ok (.iaload, 1) := by decide +kernel
theorem dX9_puts_62 : decode cX9_puts 62 = .ok (.aload_n 0, 1) := by decide +kernel
theorem dX9_puts_63 : decode cX9_puts 63 = .ok (.getfield 27, 3) := by decide +kernel
theorem dX9_puts_66 : decode cX9_puts 66 = .ok (.iload_n 3, 1) := by decide +kernel
theorem dX9_puts_67 : decode cX9_puts 67 = .ok (.iload 4, 2) := by decide +kernel
theorem dX9_puts_69 : decode cX9_puts 69 = .ok (.invokestatic 262, 3) := by decide +kernel
theorem dX9_puts_72 : decode cX9_puts 72 = .ok (.iaload, 1) := by decide +kernel
theorem dX9_puts_73 : decode cX9_puts 73 = .ok (.if_icmp .ne 14, 3) := by decide +kernel
theorem dX9_puts_76 : decode cX9_puts 76 = .ok (.aload_n 0, 1) := by decide +kernel
theorem dX9_puts_77 : decode cX9_puts 77 = .ok (.dup, 1) := by decide +kernel
theorem dX9_puts_78 : decode cX9_puts 78 = .ok (.getfield 264, 3) := by decide +kernel
theorem dX9_puts_81 : decode cX9_puts 81 = .ok (.iconst 1, 1) := by decide +kernel
theorem dX9_puts_82 : decode cX9_puts 82 = .ok (.iadd, 1) := by decide +kernel
theorem dX9_puts_83 : decode cX9_puts 83 = .ok (.putfield 264, 3) := by decide +kernel
theorem dX9_puts_86 : decode cX9_puts 86 = .ok (.return_, 1) := by decide +kernel
theorem dX9_puts_87 : decode cX9_puts 87 = .ok (.aload_n 0, 1) := by decide +kernel
theorem dX9_puts_88 : decode cX9_puts 88 = .ok (.getfield 46, 3) := by decide +kernel
theorem dX9_puts_91 : decode cX9_puts 91 = .ok (.iload 5, 2) := by decide +kernel
theorem dX9_puts_93 : decode cX9_puts 93 = .ok (.dup2, 1) := by decide +kernel
theorem dX9_puts_94 : decode cX9_puts 94 = .ok (.iaload, 1) := by decide +kernel
theorem dX9_puts_95 : decode cX9_puts 95 = .ok (.iconst 1, 1) := by decide +kernel
theorem dX9_puts_96 : decode cX9_puts 96 = .ok (.iadd, 1) := by decide +kernel
theorem dX9_puts_97 : decode cX9_puts 97 = .ok (.iastore, 1) := by decide +kernel
theorem dX9_puts_98 : decode cX9_puts 98 = .ok (.aload_n 0, 1) := by decide +kernel
theorem dX9_puts_99 : decode cX9_puts 99 = .ok (.getfield 46, 3) := by decide +kernel
theorem dX9_puts_102 : decode cX9_puts 102 = .ok (.iload 5, 2) := by decide +kernel
theorem dX9_puts_104 : decode cX9_puts 104 = .ok (.iload 6, 2) := by decide +kernel
theorem dX9_puts_106 : decode cX9_puts 106 = .ok (.iadd, 1) := by decide +kernel
theorem dX9_puts_107 : decode cX9_puts 107 = .ok (.iconst 1, 1) := by decide +kernel
theorem dX9_puts_108 : decode cX9_puts 108 = .ok (.iadd, 1) := by decide +kernel
theorem dX9_puts_109 : decode cX9_puts 109 = .ok (.iload_n 3, 1) := by decide +kernel
theorem dX9_puts_110 : decode cX9_puts 110 = .ok (.iload 4, 2) := by decide +kernel
theorem dX9_puts_112 : decode cX9_puts 112 = .ok (.invokestatic 262, 3) := by decide +kernel
theorem dX9_puts_115 : decode cX9_puts 115 = .ok (.iastore, 1) := by decide +kernel
theorem dX9_puts_116 : decode cX9_puts 116 = .ok (.return_, 1) := by decide +kernel
abbrev mm_X9_puts : ab_M := (RX9, 8, none, false, 1, 21, none)
noncomputable def f_X9_puts_J87 (v0 : Int) (v3 : Int) (v4 : Int) (v5 : Int) (v6 : Int) (h : ab_H) : Option ab_H :=
  (ab_get h 10 24 v0).bind fun t1 =>
  (ab_ald h 11 t1 v5).bind fun t2 =>
  (ab_ast h 11 t1 v5 (ab_w32 (t2 + (1 : Int)))).bind fun h1 =>
  (ab_get h1 10 24 v0).bind fun t3 =>
  (f_X9_place v3 v4 h1).bind fun q4 =>
  (ab_ast q4.2 11 t3 (ab_w32 ((ab_w32 (v5 + v6)) + (1 : Int))) q4.1).bind fun h2 =>
  some h2
set_option maxRecDepth 20000 in
theorem e_X9_puts_J87 : ∀ (v0 : Int) (v3 : Int) (v4 : Int) (v5 : Int) (v6 : Int) (h : ab_H) (q : ab_H), f_X9_puts_J87 v0 v3 v4 v5 v6 h = some q → ab_E mm_X9_puts cX9_puts 87 [some (ab_R v0), none, none, some (ab_I v3), some (ab_I v4), some (ab_I v5), some (ab_I v6), none] [] h none q := by
  intro v0 v3 v4 v5 v6 h q hk
  unfold f_X9_puts_J87 at hk
  refine ab_aload_n (pc := 87) (i := 0) dX9_puts_87 rfl rfl ?_
  obtain ⟨t1, ht1, hk⟩ := ab_bnd hk
  refine ab_getR (pc := 88) dX9_puts_88 fl_RX9_46 ht1 ?_
  refine ab_iload (pc := 91) (i := 5) dX9_puts_91 rfl ?_
  refine ab_dup2 (pc := 93) dX9_puts_93 rfl rfl ?_
  obtain ⟨t2, ht2, hk⟩ := ab_bnd hk
  refine ab_iald (pc := 94) dX9_puts_94 ht2 ?_
  refine ab_iconst (pc := 95) dX9_puts_95 ab_k_1 ?_
  refine ab_iadd (pc := 96) dX9_puts_96 ?_
  obtain ⟨h1, hh1, hk⟩ := ab_bnd hk
  refine ab_iast (pc := 97) dX9_puts_97 hh1 ?_
  refine ab_aload_n (pc := 98) (i := 0) dX9_puts_98 rfl rfl ?_
  obtain ⟨t3, ht3, hk⟩ := ab_bnd hk
  refine ab_getR (pc := 99) dX9_puts_99 fl_RX9_46 ht3 ?_
  refine ab_iload (pc := 102) (i := 5) dX9_puts_102 rfl ?_
  refine ab_iload (pc := 104) (i := 6) dX9_puts_104 rfl ?_
  refine ab_iadd (pc := 106) dX9_puts_106 ?_
  refine ab_iconst (pc := 107) dX9_puts_107 ab_k_1 ?_
  refine ab_iadd (pc := 108) dX9_puts_108 ?_
  refine ab_iload_n (pc := 109) (i := 3) dX9_puts_109 rfl rfl ?_
  refine ab_iload (pc := 110) (i := 4) dX9_puts_110 rfl ?_
  obtain ⟨q4, hq4, hk⟩ := ab_bnd hk
  refine ab_callSI (st := [ab_I (ab_w32 ((ab_w32 (v5 + v6)) + (1 : Int))), ab_R t3]) (as := [ab_I v3, ab_I v4]) (pc := 112) dX9_puts_112 ml_RX9_262 my_X9_place ms_X9_place (ct_X9_place hq4) ⟨Nat.le_of_ble_eq_true rfl, Nat.le_of_ble_eq_true rfl⟩ rfl (Nat.le_of_ble_eq_true rfl) rfl ?_
  obtain ⟨h2, hh2, hk⟩ := ab_bnd hk
  refine ab_iast (pc := 115) dX9_puts_115 hh2 ?_
  obtain rfl := Option.some.inj hk
  exact ab_retv (pc := 116) dX9_puts_116 rfl
noncomputable def f_X9_puts_J48 (v0 : Int) (v3 : Int) (v4 : Int) (v5 : Int) (v6 : Int) (s0 : Int) (h : ab_H) : Option ab_H :=
  if s0 < (0 : Int) then
    f_X9_puts_J87 v0 v3 v4 v5 v6 h
  else
  (ab_get h 10 15 v0).bind fun t1 =>
  (ab_ald h 11 t1 s0).bind fun t2 =>
  (ab_get h 10 15 v0).bind fun t3 =>
  (f_X9_place v3 v4 h).bind fun q4 =>
  (ab_ald q4.2 11 t3 q4.1).bind fun t5 =>
  if t2 = t5 then
    (ab_get q4.2 10 25 v0).bind fun t6 =>
    (ab_put q4.2 10 25 v0 (ab_w32 (t6 + (1 : Int)))).bind fun h1 =>
    some h1
  else
  f_X9_puts_J87 v0 v3 v4 v5 v6 q4.2
set_option maxRecDepth 20000 in
theorem e_X9_puts_J48 : ∀ (v0 : Int) (v3 : Int) (v4 : Int) (v5 : Int) (v6 : Int) (s0 : Int) (h : ab_H) (q : ab_H), f_X9_puts_J48 v0 v3 v4 v5 v6 s0 h = some q → ab_E mm_X9_puts cX9_puts 48 [some (ab_R v0), none, none, some (ab_I v3), some (ab_I v4), some (ab_I v5), some (ab_I v6), none] [ab_I s0] h none q := by
  intro v0 v3 v4 v5 v6 s0 h q hk
  unfold f_X9_puts_J48 at hk
  refine ab_istore (pc := 48) (i := 7) (lv2 := [some (ab_R v0), none, none, some (ab_I v3), some (ab_I v4), some (ab_I v5), some (ab_I v6), some (ab_I s0)]) dX9_puts_48 (Nat.le_of_ble_eq_true rfl) rfl rfl ?_
  refine ab_iload (pc := 50) (i := 7) dX9_puts_50 rfl ?_
  refine ab_if_lt (pc := 52) (tgt := 87) dX9_puts_52 rfl (fun hc => ?_) (fun hc => ?_)
  · have hk := ab_ifp hk hc
    refine ab_sub_ (lv2 := [some (ab_R v0), none, none, some (ab_I v3), some (ab_I v4), some (ab_I v5), some (ab_I v6), none]) (ab_ss (ab_sn (ab_sn (ab_ss (ab_ss (ab_ss (ab_ss (ab_sn ab_s0)))))))) ?_
    exact e_X9_puts_J87 _ _ _ _ _ _ _ hk
  · have hk := ab_ifn hk hc
    refine ab_aload_n (pc := 55) (i := 0) dX9_puts_55 rfl rfl ?_
    obtain ⟨t1, ht1, hk⟩ := ab_bnd hk
    refine ab_getR (pc := 56) dX9_puts_56 fl_RX9_27 ht1 ?_
    refine ab_iload (pc := 59) (i := 7) dX9_puts_59 rfl ?_
    obtain ⟨t2, ht2, hk⟩ := ab_bnd hk
    refine ab_iald (pc := 61) dX9_puts_61 ht2 ?_
    refine ab_aload_n (pc := 62) (i := 0) dX9_puts_62 rfl rfl ?_
    obtain ⟨t3, ht3, hk⟩ := ab_bnd hk
    refine ab_getR (pc := 63) dX9_puts_63 fl_RX9_27 ht3 ?_
    refine ab_iload_n (pc := 66) (i := 3) dX9_puts_66 rfl rfl ?_
    refine ab_iload (pc := 67) (i := 4) dX9_puts_67 rfl ?_
    obtain ⟨q4, hq4, hk⟩ := ab_bnd hk
    refine ab_callSI (st := [ab_R t3, ab_I t2]) (as := [ab_I v3, ab_I v4]) (pc := 69) dX9_puts_69 ml_RX9_262 my_X9_place ms_X9_place (ct_X9_place hq4) ⟨Nat.le_of_ble_eq_true rfl, Nat.le_of_ble_eq_true rfl⟩ rfl (Nat.le_of_ble_eq_true rfl) rfl ?_
    obtain ⟨t5, ht5, hk⟩ := ab_bnd hk
    refine ab_iald (pc := 72) dX9_puts_72 ht5 ?_
    refine ab_icmp_ne (pc := 73) (tgt := 87) dX9_puts_73 rfl (fun hc => ?_) (fun hc => ?_)
    · have hk := ab_ifn hk hc
      refine ab_sub_ (lv2 := [some (ab_R v0), none, none, some (ab_I v3), some (ab_I v4), some (ab_I v5), some (ab_I v6), none]) (ab_ss (ab_sn (ab_sn (ab_ss (ab_ss (ab_ss (ab_ss (ab_sn ab_s0)))))))) ?_
      exact e_X9_puts_J87 _ _ _ _ _ _ _ hk
    · have hk := ab_ifp hk hc
      refine ab_aload_n (pc := 76) (i := 0) dX9_puts_76 rfl rfl ?_
      refine ab_dup (pc := 77) dX9_puts_77 rfl ?_
      obtain ⟨t6, ht6, hk⟩ := ab_bnd hk
      refine ab_getI (pc := 78) dX9_puts_78 fl_RX9_264 ht6 ?_
      refine ab_iconst (pc := 81) dX9_puts_81 ab_k_1 ?_
      refine ab_iadd (pc := 82) dX9_puts_82 ?_
      obtain ⟨h1, hh1, hk⟩ := ab_bnd hk
      refine ab_putI_ (pc := 83) dX9_puts_83 fl_RX9_264 (fun q => by cases q) hh1 ?_
      obtain rfl := Option.some.inj hk
      exact ab_retv (pc := 86) dX9_puts_86 rfl
noncomputable def f_X9_puts (a0 : Int) (a1 : Int) (a2 : Int) (a3 : Int) (a4 : Int) (h : ab_H) : Option ab_H :=
  (ab_get h 10 24 a0).bind fun t1 =>
  (ab_ald h 11 t1 (ab_w32 ((ab_w32 ((12 : Int) * a1)) + (ab_w32 ((6 : Int) * a2))))).bind fun t2 =>
  if t2 = (0 : Int) then
    (ab_get h 10 20 a0).bind fun t5 =>
    (ab_ald h 11 t5 a1).bind fun t6 =>
    (f_X9_place a3 t6 h).bind fun q7 =>
    f_X9_puts_J48 a0 a3 a4 (ab_w32 ((ab_w32 ((12 : Int) * a1)) + (ab_w32 ((6 : Int) * a2)))) t2 q7.1 q7.2
  else
  (ab_get h 10 24 a0).bind fun t3 =>
  (ab_ald h 11 t3 (ab_w32 ((ab_w32 ((ab_w32 ((12 : Int) * a1)) + (ab_w32 ((6 : Int) * a2)))) + t2))).bind fun t4 =>
  f_X9_puts_J48 a0 a3 a4 (ab_w32 ((ab_w32 ((12 : Int) * a1)) + (ab_w32 ((6 : Int) * a2)))) t2 t4 h
set_option maxRecDepth 20000 in
theorem ct_X9_puts {a0 a1 a2 a3 a4 : Int} {h : ab_H} {q : ab_H} (hk : f_X9_puts a0 a1 a2 a3 a4 h = some q) : ab_CT yX9_puts cX9_puts 8 none 1 21 [ab_R a0, ab_I a1, ab_I a2, ab_I a3, ab_I a4] h none q := by
  refine ab_CT.mk_ 3 (own := RX9) (ini := false) (lv := [some (ab_R a0), some (ab_I a1), some (ab_I a2), some (ab_I a3), some (ab_I a4), none, none, none]) rfl (by decide +kernel) (fun q => by cases q) rfl rfl ?_
  unfold f_X9_puts at hk
  show ab_E mm_X9_puts cX9_puts 0 _ [] h _ _
  refine ab_bipush (pc := 0) dX9_puts_0 ab_p8_12 ab_k_12 ?_
  refine ab_iload_n (pc := 2) (i := 1) dX9_puts_2 rfl rfl ?_
  refine ab_imul (pc := 3) dX9_puts_3 ?_
  refine ab_bipush (pc := 4) dX9_puts_4 ab_p8_6 ab_k_6 ?_
  refine ab_iload_n (pc := 6) (i := 2) dX9_puts_6 rfl rfl ?_
  refine ab_imul (pc := 7) dX9_puts_7 ?_
  refine ab_iadd (pc := 8) dX9_puts_8 ?_
  refine ab_istore (pc := 9) (i := 5) (lv2 := [some (ab_R a0), some (ab_I a1), some (ab_I a2), some (ab_I a3), some (ab_I a4), some (ab_I (ab_w32 ((ab_w32 ((12 : Int) * a1)) + (ab_w32 ((6 : Int) * a2))))), none, none]) dX9_puts_9 (Nat.le_of_ble_eq_true rfl) rfl rfl ?_
  refine ab_aload_n (pc := 11) (i := 0) dX9_puts_11 rfl rfl ?_
  obtain ⟨t1, ht1, hk⟩ := ab_bnd hk
  refine ab_getR (pc := 12) dX9_puts_12 fl_RX9_46 ht1 ?_
  refine ab_iload (pc := 15) (i := 5) dX9_puts_15 rfl ?_
  obtain ⟨t2, ht2, hk⟩ := ab_bnd hk
  refine ab_iald (pc := 17) dX9_puts_17 ht2 ?_
  refine ab_istore (pc := 18) (i := 6) (lv2 := [some (ab_R a0), some (ab_I a1), some (ab_I a2), some (ab_I a3), some (ab_I a4), some (ab_I (ab_w32 ((ab_w32 ((12 : Int) * a1)) + (ab_w32 ((6 : Int) * a2))))), some (ab_I t2), none]) dX9_puts_18 (Nat.le_of_ble_eq_true rfl) rfl rfl ?_
  refine ab_iload (pc := 20) (i := 6) dX9_puts_20 rfl ?_
  refine ab_if_ne (pc := 22) (tgt := 38) dX9_puts_22 rfl (fun hc => ?_) (fun hc => ?_)
  · have hk := ab_ifn hk hc
    refine ab_aload_n (pc := 38) (i := 0) dX9_puts_38 rfl rfl ?_
    obtain ⟨t3, ht3, hk⟩ := ab_bnd hk
    refine ab_getR (pc := 39) dX9_puts_39 fl_RX9_46 ht3 ?_
    refine ab_iload (pc := 42) (i := 5) dX9_puts_42 rfl ?_
    refine ab_iload (pc := 44) (i := 6) dX9_puts_44 rfl ?_
    refine ab_iadd (pc := 46) dX9_puts_46 ?_
    obtain ⟨t4, ht4, hk⟩ := ab_bnd hk
    refine ab_iald (pc := 47) dX9_puts_47 ht4 ?_
    refine ab_sub_ (lv2 := [some (ab_R a0), none, none, some (ab_I a3), some (ab_I a4), some (ab_I (ab_w32 ((ab_w32 ((12 : Int) * a1)) + (ab_w32 ((6 : Int) * a2))))), some (ab_I t2), none]) (ab_ss (ab_sn (ab_sn (ab_ss (ab_ss (ab_ss (ab_ss (ab_sn ab_s0)))))))) ?_
    exact e_X9_puts_J48 _ _ _ _ _ _ _ _ hk
  · have hk := ab_ifp hk hc
    refine ab_iload_n (pc := 25) (i := 3) dX9_puts_25 rfl rfl ?_
    refine ab_aload_n (pc := 26) (i := 0) dX9_puts_26 rfl rfl ?_
    obtain ⟨t5, ht5, hk⟩ := ab_bnd hk
    refine ab_getR (pc := 27) dX9_puts_27 fl_RX9_34 ht5 ?_
    refine ab_iload_n (pc := 30) (i := 1) dX9_puts_30 rfl rfl ?_
    obtain ⟨t6, ht6, hk⟩ := ab_bnd hk
    refine ab_iald (pc := 31) dX9_puts_31 ht6 ?_
    obtain ⟨q7, hq7, hk⟩ := ab_bnd hk
    refine ab_callSI (st := []) (as := [ab_I a3, ab_I t6]) (pc := 32) dX9_puts_32 ml_RX9_262 my_X9_place ms_X9_place (ct_X9_place hq7) ⟨Nat.le_of_ble_eq_true rfl, Nat.le_of_ble_eq_true rfl⟩ rfl (Nat.le_of_ble_eq_true rfl) rfl ?_
    refine ab_goto (pc := 35) (tgt := 48) dX9_puts_35 rfl ?_
    refine ab_sub_ (lv2 := [some (ab_R a0), none, none, some (ab_I a3), some (ab_I a4), some (ab_I (ab_w32 ((ab_w32 ((12 : Int) * a1)) + (ab_w32 ((6 : Int) * a2))))), some (ab_I t2), none]) (ab_ss (ab_sn (ab_sn (ab_ss (ab_ss (ab_ss (ab_ss (ab_sn ab_s0)))))))) ?_
    exact e_X9_puts_J48 _ _ _ _ _ _ _ _ hk
theorem dX9_laysEntry_0 : decode cX9_laysEntry 0 = .ok (.aload_n 0, 1) := by decide +kernel
theorem dX9_laysEntry_1 : decode cX9_laysEntry 1 = .ok (.getfield 267, 3) := by decide +kernel
theorem dX9_laysEntry_4 : decode cX9_laysEntry 4 = .ok (.istore 4, 2) := by decide +kernel
theorem dX9_laysEntry_6 : decode cX9_laysEntry 6 = .ok (.aload_n 0, 1) := by decide +kernel
theorem dX9_laysEntry_7 : decode cX9_laysEntry 7 = .ok (.getfield 31, 3) := by decide +kernel
theorem dX9_laysEntry_10 : decode cX9_laysEntry 10 = .ok (.iload 4, 2) := by decide +kernel
theorem dX9_laysEntry_12 : decode cX9_laysEntry 12 = .ok (.iload_n 1, 1) := by decide +kernel
theorem dX9_laysEntry_13 : decode cX9_laysEntry 13 = .ok (.iastore, 1) := by decide +kernel
theorem dX9_laysEntry_14 : decode cX9_laysEntry 14 = .ok (.aload_n 0, 1) := by decide +kernel
theorem dX9_laysEntry_15 : decode cX9_laysEntry 15 = .ok (.getfield 34, 3) := by decide +kernel
theorem dX9_laysEntry_18 : decode cX9_laysEntry 18 = .ok (.iload 4, 2) := by decide +kernel
theorem dX9_laysEntry_20 : decode cX9_laysEntry 20 = .ok (.iload_n 2, 1) := by decide +kernel
theorem dX9_laysEntry_21 : decode cX9_laysEntry 21 = .ok (.iastore, 1) := by decide +kernel
theorem dX9_laysEntry_22 : decode cX9_laysEntry 22 = .ok (.aload_n 0, 1) := by decide +kernel
theorem dX9_laysEntry_23 : decode cX9_laysEntry 23 = .ok (.getfield 46, 3) := by decide +kernel
theorem dX9_laysEntry_26 : decode cX9_laysEntry 26 = .ok (.bipush 12, 2) := by decide +kernel
theorem dX9_laysEntry_28 : decode cX9_laysEntry 28 = .ok (.iload 4, 2) := by decide +kernel
theorem dX9_laysEntry_30 : decode cX9_laysEntry 30 = .ok (.imul, 1) := by decide +kernel
theorem dX9_laysEntry_31 : decode cX9_laysEntry 31 = .ok (.iconst 0, 1) := by decide +kernel
theorem dX9_laysEntry_32 : decode cX9_laysEntry 32 = .ok (.iastore, 1) := by decide +kernel
theorem dX9_laysEntry_33 : decode cX9_laysEntry 33 = .ok (.aload_n 0, 1) := by decide +kernel
theorem dX9_laysEntry_34 : decode cX9_laysEntry 34 = .ok (.getfield 46, 3) := by decide +kernel
theorem dX9_laysEntry_37 : decode cX9_laysEntry 37 = .ok (.bipush 12, 2) := by decide +kernel
theorem dX9_laysEntry_39 : decode cX9_laysEntry 39 = .ok (.iload 4, 2) := by decide +kernel
theorem dX9_laysEntry_41 : decode cX9_laysEntry 41 = .ok (.imul, 1) := by decide +kernel
theorem dX9_laysEntry_42 : decode cX9_laysEntry 42 = .ok (.bipush 6, 2) := by decide +kernel
theorem dX9_laysEntry_44 : decode cX9_laysEntry 44 = .ok (.iadd, 1) := by decide +kernel
theorem dX9_laysEntry_45 : decode cX9_laysEntry 45 = .ok (.iconst 0, 1) := by decide +kernel
theorem dX9_laysEntry_46 : decode cX9_laysEntry 46 = .ok (.iastore, 1) := by decide +kernel
theorem dX9_laysEntry_47 : decode cX9_laysEntry 47 = .ok (.aload_n 0, 1) := by decide +kernel
theorem dX9_laysEntry_48 : decode cX9_laysEntry 48 = .ok (.iconst 0, 1) := by decide +kernel
theorem dX9_laysEntry_49 : decode cX9_laysEntry 49 = .ok (.putfield 264, 3) := by decide +kernel
theorem dX9_laysEntry_52 : decode cX9_laysEntry 52 = .ok (.iload_n 3, 1) := by decide +kernel
theorem dX9_laysEntry_53 : decode cX9_laysEntry 53 = .ok (.iconst 1, 1) := by decide +kernel
theorem dX9_laysEntry_54 : decode cX9_laysEntry 54 = .ok (.if_icmp .eq 29, 3) := by decide +kernel
theorem dX9_laysEntry_57 : decode cX9_laysEntry 57 = .ok (.iload_n 2, 1) := by decide +kernel
theorem dX9_laysEntry_58 : decode cX9_laysEntry 58 = .ok (.iconst 1, 1) := by decide +kernel
theorem dX9_laysEntry_59 : decode cX9_laysEntry 59 = .ok (.isub, 1) := by decide +kernel
theorem dX9_laysEntry_60 : decode cX9_laysEntry 60 = .ok (.istore 5, 2) := by decide +kernel
theorem dX9_laysEntry_62 : decode cX9_laysEntry 62 = .ok (.iload 5, 2) := by decide +kernel
theorem dX9_laysEntry_64 : decode cX9_laysEntry 64 = .ok (.ifCond .lt 19, 3) := by decide +kernel
theorem dX9_laysEntry_67 : decode cX9_laysEntry 67 = .ok (.aload_n 0, 1) := by decide +kernel
theorem dX9_laysEntry_68 : decode cX9_laysEntry 68 = .ok (.iload 4, 2) := by decide +kernel
theorem dX9_laysEntry_70 : decode cX9_laysEntry 70 = .ok (.iconst 0, 1) := by decide +kernel
theorem dX9_laysEntry_71 : decode cX9_laysEntry 71 = .ok (.iload_n 1, 1) := by decide +kernel
theorem dX9_laysEntry_72 : decode cX9_laysEntry 72 = .ok (.iload 5, 2) := by decide +kernel
theorem dX9_laysEntry_74 : decode cX9_laysEntry 74 = .ok (.invokevirtual 270, 3) := by decide +kernel
theorem dX9_laysEntry_77 : decode cX9_laysEntry 77 = .ok (.iinc 5 (-1), 3) := by decide +kernel
theorem dX9_laysEntry_80 : decode cX9_laysEntry 80 = .ok (.goto (-18), 3) := by decide +kernel
theorem dX9_laysEntry_83 : decode cX9_laysEntry 83 = .ok (.iload_n 3, 1) := by decide +kernel
theorem dX9_laysEntry_84 : decode cX9_laysEntry 84 = .ok (.iconst 2, 1) := by decide +kernel
theorem dX9_laysEntry_85 : decode cX9_laysEntry 85 = .ok (.if_icmp .ne 34, 3) := by decide +kernel
theorem dX9_laysEntry_88 : decode cX9_laysEntry 88 = .ok (.iload_n 2, 1) := by decide +kernel
theorem dX9_laysEntry_89 : decode cX9_laysEntry 89 = .ok (.iconst 1, 1) := by decide +kernel
theorem dX9_laysEntry_90 : decode cX9_laysEntry 90 = .ok (.iadd, 1) := by decide +kernel
theorem dX9_laysEntry_91 : decode cX9_laysEntry 91 = .ok (.istore 5, 2) := by decide +kernel
theorem dX9_laysEntry_93 : decode cX9_laysEntry 93 = .ok (.iload 5, 2) := by decide +kernel
theorem dX9_laysEntry_95 : decode cX9_laysEntry 95 = .ok (.aload_n 0, 1) := by decide +kernel
theorem dX9_laysEntry_96 : decode cX9_laysEntry 96 = .ok (.iload_n 1, 1) := by decide +kernel
theorem dX9_laysEntry_97 : decode cX9_laysEntry 97 = .ok (.invokevirtual 255, 3) := by decide +kernel
theorem dX9_laysEntry_100 : decode cX9_laysEntry 100 = .ok (.if_icmp .ge 19, 3) := by decide +kernel
theorem dX9_laysEntry_103 : decode cX9_laysEntry 103 = .ok (.aload_n 0, 1) := by decide +kernel
theorem dX9_laysEntry_104 : decode cX9_laysEntry 104 = .ok (.iload 4, 2) := by decide +kernel
theorem dX9_laysEntry_106 : decode cX9_laysEntry 106 = .ok (.iconst 0, 1) := by decide +kernel
theorem dX9_laysEntry_107 : decode cX9_laysEntry 107 = .ok (.iload_n 1, 1) := by decide +kernel
theorem dX9_laysEntry_108 : decode cX9_laysEntry 108 = .ok (.iload 5, 2) := by decide +kernel
theorem dX9_laysEntry_110 : decode cX9_laysEntry 110 = .ok (.invokevirtual 270, 3) := by decide +kernel
theorem dX9_laysEntry_113 : decode cX9_laysEntry 113 = .ok (.iinc 5 1, 3) := by decide +kernel
theorem dX9_laysEntry_116 : decode cX9_laysEntry 116 = .ok (.goto (-23), 3) := by decide +kernel
theorem dX9_laysEntry_119 : decode cX9_laysEntry 119 = .ok (.iload_n 3, 1) := by decide +kernel
theorem dX9_laysEntry_120 : decode cX9_laysEntry 120 = .ok (.iconst 1, 1) := by decide +kernel
theorem dX9_laysEntry_121 : decode cX9_laysEntry 121 = .ok (.if_icmp .ne 28, 3) := by decide +kernel
theorem dX9_laysEntry_124 : decode cX9_laysEntry 124 = .ok (.iconst 0, 1) := by decide +kernel
theorem dX9_laysEntry_125 : decode cX9_laysEntry 125 = .ok (.istore 5, 2) := by decide +kernel
theorem dX9_laysEntry_127 : decode cX9_laysEntry 127 = .ok (.iload 5, 2) := by decide +kernel
theorem dX9_laysEntry_129 : decode cX9_laysEntry 129 = .ok (.iload_n 2, 1) := by decide +kernel
theorem dX9_laysEntry_130 : decode cX9_laysEntry 130 = .ok (.if_icmp .ge 19, 3) := by decide +kernel
theorem dX9_laysEntry_133 : decode cX9_laysEntry 133 = .ok (.aload_n 0, 1) := by decide +kernel
theorem dX9_laysEntry_134 : decode cX9_laysEntry 134 = .ok (.iload 4, 2) := by decide +kernel
theorem dX9_laysEntry_136 : decode cX9_laysEntry 136 = .ok (.iconst 1, 1) := by decide +kernel
theorem dX9_laysEntry_137 : decode cX9_laysEntry 137 = .ok (.iload_n 1, 1) := by decide +kernel
theorem dX9_laysEntry_138 : decode cX9_laysEntry 138 = .ok (.iload 5, 2) := by decide +kernel
theorem dX9_laysEntry_140 : decode cX9_laysEntry 140 = .ok (.invokevirtual 270, 3) := by decide +kernel
theorem dX9_laysEntry_143 : decode cX9_laysEntry 143 = .ok (.iinc 5 1, 3) := by decide +kernel
theorem dX9_laysEntry_146 : decode cX9_laysEntry 146 = .ok (.goto (-19), 3) := by decide +kernel
theorem dX9_laysEntry_149 : decode cX9_laysEntry 149 = .ok (.iload_n 3, 1) := by decide +kernel
theorem dX9_laysEntry_150 : decode cX9_laysEntry 150 = .ok (.iconst 2, 1) := by decide +kernel
theorem dX9_laysEntry_151 : decode cX9_laysEntry 151 = .ok (.if_icmp .eq 34, 3) := by decide +kernel
theorem dX9_laysEntry_154 : decode cX9_laysEntry 154 = .ok (.iload_n 2, 1) := by decide +kernel
theorem dX9_laysEntry_155 : decode cX9_laysEntry 155 = .ok (.iconst 1, 1) := by decide +kernel
theorem dX9_laysEntry_156 : decode cX9_laysEntry 156 = .ok (.iadd, 1) := by decide +kernel
theorem dX9_laysEntry_157 : decode cX9_laysEntry 157 = .ok (.istore 5, 2) := by decide +kernel
theorem dX9_laysEntry_159 : decode cX9_laysEntry 159 = .ok (.iload 5, 2) := by decide +kernel
theorem dX9_laysEntry_161 : decode cX9_laysEntry 161 = .ok (.aload_n 0, 1) := by decide +kernel
theorem dX9_laysEntry_162 : decode cX9_laysEntry 162 = .ok (.iload_n 1, 1) := by decide +kernel
theorem dX9_laysEntry_163 : decode cX9_laysEntry 163 = .ok (.invokevirtual 255, 3) := by decide +kernel
theorem dX9_laysEntry_166 : decode cX9_laysEntry 166 = .ok (.if_icmp .ge 19, 3) := by decide +kernel
theorem dX9_laysEntry_169 : decode cX9_laysEntry 169 = .ok (.aload_n 0, 1) := by decide +kernel
theorem dX9_laysEntry_170 : decode cX9_laysEntry 170 = .ok (.iload 4, 2) := by decide +kernel
theorem dX9_laysEntry_172 : decode cX9_laysEntry 172 = .ok (.iconst 1, 1) := by decide +kernel
theorem dX9_laysEntry_173 : decode cX9_laysEntry 173 = .ok (.iload_n 1, 1) := by decide +kernel
theorem dX9_laysEntry_174 : decode cX9_laysEntry 174 = .ok (.iload 5, 2) := by decide +kernel
theorem dX9_laysEntry_176 : decode cX9_laysEntry 176 = .ok (.invokevirtual 270, 3) := by decide +kernel
theorem dX9_laysEntry_179 : decode cX9_laysEntry 179 = .ok (.iinc 5 1, 3) := by decide +kernel
theorem dX9_laysEntry_182 : decode cX9_laysEntry 182 = .ok (.goto (-23), 3) := by decide +kernel
theorem dX9_laysEntry_185 : decode cX9_laysEntry 185 = .ok (.aload_n 0, 1) := by decide +kernel
theorem dX9_laysEntry_186 : decode cX9_laysEntry 186 = .ok (.getfield 37, 3) := by decide +kernel
theorem dX9_laysEntry_189 : decode cX9_laysEntry 189 = .ok (.iload 4, 2) := by decide +kernel
theorem dX9_laysEntry_191 : decode cX9_laysEntry 191 = .ok (.aload_n 0, 1) := by decide +kernel
theorem dX9_laysEntry_192 : decode cX9_laysEntry 192 = .ok (.getfield 264, 3) := by decide +kernel
theorem dX9_laysEntry_195 : decode cX9_laysEntry 195 = .ok (.iastore, 1) := by decide +kernel
theorem dX9_laysEntry_196 : decode cX9_laysEntry 196 = .ok (.aload_n 0, 1) := by decide +kernel
theorem dX9_laysEntry_197 : decode cX9_laysEntry 197 = .ok (.dup, 1) := by decide +kernel
theorem dX9_laysEntry_198 : decode cX9_laysEntry 198 = .ok (.getfield 267, 3) := by decide +kernel
theorem dX9_laysEntry_201 : decode cX9_laysEntry 201 = .ok (.iconst 1, 1) := by decide +kernel
theorem dX9_laysEntry_202 : decode cX9_laysEntry 202 = .ok (.iadd, 1) := by decide +kernel
theorem dX9_laysEntry_203 : decode cX9_laysEntry 203 = .ok (.putfield 267, 3) := by decide +kernel
theorem dX9_laysEntry_206 : decode cX9_laysEntry 206 = .ok (.return_, 1) := by decide +kernel
abbrev mm_X9_laysEntry : ab_M := (RX9, 6, none, false, 2, 48, none)
noncomputable def f_X9_laysEntry_J185 (v0 : Int) (v4 : Int) (h : ab_H) : Option ab_H :=
  (ab_get h 10 21 v0).bind fun t1 =>
  (ab_get h 10 25 v0).bind fun t2 =>
  (ab_ast h 11 t1 v4 t2).bind fun h1 =>
  (ab_get h1 10 16 v0).bind fun t3 =>
  (ab_put h1 10 16 v0 (ab_w32 (t3 + (1 : Int)))).bind fun h2 =>
  some h2
set_option maxRecDepth 20000 in
theorem e_X9_laysEntry_J185 : ∀ (v0 : Int) (v4 : Int) (h : ab_H) (q : ab_H), f_X9_laysEntry_J185 v0 v4 h = some q → ab_E mm_X9_laysEntry cX9_laysEntry 185 [some (ab_R v0), none, none, none, some (ab_I v4), none] [] h none q := by
  intro v0 v4 h q hk
  unfold f_X9_laysEntry_J185 at hk
  refine ab_aload_n (pc := 185) (i := 0) dX9_laysEntry_185 rfl rfl ?_
  obtain ⟨t1, ht1, hk⟩ := ab_bnd hk
  refine ab_getR (pc := 186) dX9_laysEntry_186 fl_RX9_37 ht1 ?_
  refine ab_iload (pc := 189) (i := 4) dX9_laysEntry_189 rfl ?_
  refine ab_aload_n (pc := 191) (i := 0) dX9_laysEntry_191 rfl rfl ?_
  obtain ⟨t2, ht2, hk⟩ := ab_bnd hk
  refine ab_getI (pc := 192) dX9_laysEntry_192 fl_RX9_264 ht2 ?_
  obtain ⟨h1, hh1, hk⟩ := ab_bnd hk
  refine ab_iast (pc := 195) dX9_laysEntry_195 hh1 ?_
  refine ab_aload_n (pc := 196) (i := 0) dX9_laysEntry_196 rfl rfl ?_
  refine ab_dup (pc := 197) dX9_laysEntry_197 rfl ?_
  obtain ⟨t3, ht3, hk⟩ := ab_bnd hk
  refine ab_getI (pc := 198) dX9_laysEntry_198 fl_RX9_267 ht3 ?_
  refine ab_iconst (pc := 201) dX9_laysEntry_201 ab_k_1 ?_
  refine ab_iadd (pc := 202) dX9_laysEntry_202 ?_
  obtain ⟨h2, hh2, hk⟩ := ab_bnd hk
  refine ab_putI_ (pc := 203) dX9_laysEntry_203 fl_RX9_267 (fun q => by cases q) hh2 ?_
  obtain rfl := Option.some.inj hk
  exact ab_retv (pc := 206) dX9_laysEntry_206 rfl
noncomputable def f_X9_laysEntry_L159 (k185 : Int → Int → ab_H → Option ab_H) : Nat → Int → Int → Int → Int → ab_H → Option ab_H
  | 0, _, _, _, _, _ => none
  | n + 1, v0, v1, v4, v5, h =>
    (ab_on h 10 v0 (f_X9_terms v0 v1 h)).bind fun q1 =>
    if q1.1 ≤ v5 then
      k185 v0 v4 q1.2
    else
    (ab_on q1.2 10 v0 (f_X9_puts v0 v4 (1 : Int) v1 v5 q1.2)).bind fun q2 =>
    f_X9_laysEntry_L159 k185 n v0 v1 v4 (ab_w32 (v5 + (1 : Int))) q2
set_option maxRecDepth 20000 in
theorem e_X9_laysEntry_L159 {k185 : Int → Int → ab_H → Option ab_H} (hk185 : ∀ (v0 : Int) (v4 : Int) (h : ab_H) (q : ab_H), k185 v0 v4 h = some q → ab_E mm_X9_laysEntry cX9_laysEntry 185 [some (ab_R v0), none, none, none, some (ab_I v4), none] [] h none q) : ∀ (n : Nat) (v0 : Int) (v1 : Int) (v4 : Int) (v5 : Int) (h : ab_H) (q : ab_H), f_X9_laysEntry_L159 k185 n v0 v1 v4 v5 h = some q → ab_E mm_X9_laysEntry cX9_laysEntry 159 [some (ab_R v0), some (ab_I v1), none, none, some (ab_I v4), some (ab_I v5)] [] h none q := by
  intro n
  induction n with
  | zero => intro v0 v1 v4 v5 h q hk; cases hk
  | succ n ih =>
    intro v0 v1 v4 v5 h q hk
    unfold f_X9_laysEntry_L159 at hk
    refine ab_iload (pc := 159) (i := 5) dX9_laysEntry_159 rfl ?_
    refine ab_aload_n (pc := 161) (i := 0) dX9_laysEntry_161 rfl rfl ?_
    refine ab_iload_n (pc := 162) (i := 1) dX9_laysEntry_162 rfl rfl ?_
    obtain ⟨q1, hq1, hk⟩ := ab_bnd hk
    obtain ⟨hb, hq1⟩ := ab_on_some hq1
    refine ab_callVI (st := [ab_I v5]) (as := [ab_I v1]) (b := v0) (pc := 163) dX9_laysEntry_163 ml_RX9_255 my_X9_terms mv_X9_terms hb (ct_X9_terms hq1) ⟨Nat.le_of_ble_eq_true rfl, Nat.le_of_ble_eq_true rfl⟩ rfl (Nat.le_of_ble_eq_true rfl) rfl ?_
    refine ab_icmp_ge (pc := 166) (tgt := 185) dX9_laysEntry_166 rfl (fun hc => ?_) (fun hc => ?_)
    · have hk := ab_ifp hk hc
      refine ab_sub_ (lv2 := [some (ab_R v0), none, none, none, some (ab_I v4), none]) (ab_ss (ab_sn (ab_sn (ab_sn (ab_ss (ab_sn ab_s0)))))) ?_
      exact hk185 _ _ _ _ hk
    · have hk := ab_ifn hk hc
      refine ab_aload_n (pc := 169) (i := 0) dX9_laysEntry_169 rfl rfl ?_
      refine ab_iload (pc := 170) (i := 4) dX9_laysEntry_170 rfl ?_
      refine ab_iconst (pc := 172) dX9_laysEntry_172 ab_k_1 ?_
      refine ab_iload_n (pc := 173) (i := 1) dX9_laysEntry_173 rfl rfl ?_
      refine ab_iload (pc := 174) (i := 5) dX9_laysEntry_174 rfl ?_
      obtain ⟨q2, hq2, hk⟩ := ab_bnd hk
      obtain ⟨hb, hq2⟩ := ab_on_some hq2
      refine ab_callVV (st := []) (as := [ab_I v4, ab_I (1 : Int), ab_I v1, ab_I v5]) (b := v0) (pc := 176) dX9_laysEntry_176 ml_RX9_270 my_X9_puts mv_X9_puts hb (ct_X9_puts hq2) ⟨Nat.le_of_ble_eq_true rfl, Nat.le_of_ble_eq_true rfl⟩ rfl (Nat.le_of_ble_eq_true rfl) rfl ?_
      refine ab_iinc (pc := 179) (i := 5) (lv2 := [some (ab_R v0), some (ab_I v1), none, none, some (ab_I v4), some (ab_I (ab_w32 (v5 + (1 : Int))))]) dX9_laysEntry_179 rfl (Nat.le_of_ble_eq_true rfl) rfl rfl ?_
      refine ab_goto (pc := 182) (tgt := 159) dX9_laysEntry_182 rfl ?_
      refine ab_sub_ (lv2 := [some (ab_R v0), some (ab_I v1), none, none, some (ab_I v4), some (ab_I (ab_w32 (v5 + (1 : Int))))]) (ab_ss (ab_ss (ab_sn (ab_sn (ab_ss (ab_ss ab_s0)))))) ?_
      exact ih _ _ _ _ _ _ hk
noncomputable def f_X9_laysEntry_J149 (v0 : Int) (v1 : Int) (v2 : Int) (v3 : Int) (v4 : Int) (h : ab_H) : Option ab_H :=
  if v3 = (2 : Int) then
    f_X9_laysEntry_J185 v0 v4 h
  else
  f_X9_laysEntry_L159 (fun w185_0 w185_4 hx185 =>
    f_X9_laysEntry_J185 w185_0 w185_4 hx185) ab_FU v0 v1 v4 (ab_w32 (v2 + (1 : Int))) h
set_option maxRecDepth 20000 in
theorem e_X9_laysEntry_J149 : ∀ (v0 : Int) (v1 : Int) (v2 : Int) (v3 : Int) (v4 : Int) (h : ab_H) (q : ab_H), f_X9_laysEntry_J149 v0 v1 v2 v3 v4 h = some q → ab_E mm_X9_laysEntry cX9_laysEntry 149 [some (ab_R v0), some (ab_I v1), some (ab_I v2), some (ab_I v3), some (ab_I v4), none] [] h none q := by
  intro v0 v1 v2 v3 v4 h q hk
  unfold f_X9_laysEntry_J149 at hk
  refine ab_iload_n (pc := 149) (i := 3) dX9_laysEntry_149 rfl rfl ?_
  refine ab_iconst (pc := 150) dX9_laysEntry_150 ab_k_2 ?_
  refine ab_icmp_eq (pc := 151) (tgt := 185) dX9_laysEntry_151 rfl (fun hc => ?_) (fun hc => ?_)
  · have hk := ab_ifp hk hc
    refine ab_sub_ (lv2 := [some (ab_R v0), none, none, none, some (ab_I v4), none]) (ab_ss (ab_sn (ab_sn (ab_sn (ab_ss (ab_sn ab_s0)))))) ?_
    exact e_X9_laysEntry_J185 _ _ _ _ hk
  · have hk := ab_ifn hk hc
    refine ab_iload_n (pc := 154) (i := 2) dX9_laysEntry_154 rfl rfl ?_
    refine ab_iconst (pc := 155) dX9_laysEntry_155 ab_k_1 ?_
    refine ab_iadd (pc := 156) dX9_laysEntry_156 ?_
    refine ab_istore (pc := 157) (i := 5) (lv2 := [some (ab_R v0), some (ab_I v1), some (ab_I v2), some (ab_I v3), some (ab_I v4), some (ab_I (ab_w32 (v2 + (1 : Int))))]) dX9_laysEntry_157 (Nat.le_of_ble_eq_true rfl) rfl rfl ?_
    refine ab_sub_ (lv2 := [some (ab_R v0), some (ab_I v1), none, none, some (ab_I v4), some (ab_I (ab_w32 (v2 + (1 : Int))))]) (ab_ss (ab_ss (ab_sn (ab_sn (ab_ss (ab_ss ab_s0)))))) ?_
    refine e_X9_laysEntry_L159 (fun w185_0 w185_4 hx185 q hk => ?_) _ _ _ _ _ _ _ hk
    · skip
      refine ab_sub_ (lv2 := [some (ab_R w185_0), none, none, none, some (ab_I w185_4), none]) (ab_ss (ab_sn (ab_sn (ab_sn (ab_ss (ab_sn ab_s0)))))) ?_
      exact e_X9_laysEntry_J185 _ _ _ _ hk
noncomputable def f_X9_laysEntry_L127 (k149 : Int → Int → Int → Int → Int → ab_H → Option ab_H) : Nat → Int → Int → Int → Int → Int → Int → ab_H → Option ab_H
  | 0, _, _, _, _, _, _, _ => none
  | n + 1, v0, v1, v2, v3, v4, v5, h =>
    if v2 ≤ v5 then
      k149 v0 v1 v2 v3 v4 h
    else
    (ab_on h 10 v0 (f_X9_puts v0 v4 (1 : Int) v1 v5 h)).bind fun q1 =>
    f_X9_laysEntry_L127 k149 n v0 v1 v2 v3 v4 (ab_w32 (v5 + (1 : Int))) q1
set_option maxRecDepth 20000 in
theorem e_X9_laysEntry_L127 {k149 : Int → Int → Int → Int → Int → ab_H → Option ab_H} (hk149 : ∀ (v0 : Int) (v1 : Int) (v2 : Int) (v3 : Int) (v4 : Int) (h : ab_H) (q : ab_H), k149 v0 v1 v2 v3 v4 h = some q → ab_E mm_X9_laysEntry cX9_laysEntry 149 [some (ab_R v0), some (ab_I v1), some (ab_I v2), some (ab_I v3), some (ab_I v4), none] [] h none q) : ∀ (n : Nat) (v0 : Int) (v1 : Int) (v2 : Int) (v3 : Int) (v4 : Int) (v5 : Int) (h : ab_H) (q : ab_H), f_X9_laysEntry_L127 k149 n v0 v1 v2 v3 v4 v5 h = some q → ab_E mm_X9_laysEntry cX9_laysEntry 127 [some (ab_R v0), some (ab_I v1), some (ab_I v2), some (ab_I v3), some (ab_I v4), some (ab_I v5)] [] h none q := by
  intro n
  induction n with
  | zero => intro v0 v1 v2 v3 v4 v5 h q hk; cases hk
  | succ n ih =>
    intro v0 v1 v2 v3 v4 v5 h q hk
    unfold f_X9_laysEntry_L127 at hk
    refine ab_iload (pc := 127) (i := 5) dX9_laysEntry_127 rfl ?_
    refine ab_iload_n (pc := 129) (i := 2) dX9_laysEntry_129 rfl rfl ?_
    refine ab_icmp_ge (pc := 130) (tgt := 149) dX9_laysEntry_130 rfl (fun hc => ?_) (fun hc => ?_)
    · have hk := ab_ifp hk hc
      refine ab_sub_ (lv2 := [some (ab_R v0), some (ab_I v1), some (ab_I v2), some (ab_I v3), some (ab_I v4), none]) (ab_ss (ab_ss (ab_ss (ab_ss (ab_ss (ab_sn ab_s0)))))) ?_
      exact hk149 _ _ _ _ _ _ _ hk
    · have hk := ab_ifn hk hc
      refine ab_aload_n (pc := 133) (i := 0) dX9_laysEntry_133 rfl rfl ?_
      refine ab_iload (pc := 134) (i := 4) dX9_laysEntry_134 rfl ?_
      refine ab_iconst (pc := 136) dX9_laysEntry_136 ab_k_1 ?_
      refine ab_iload_n (pc := 137) (i := 1) dX9_laysEntry_137 rfl rfl ?_
      refine ab_iload (pc := 138) (i := 5) dX9_laysEntry_138 rfl ?_
      obtain ⟨q1, hq1, hk⟩ := ab_bnd hk
      obtain ⟨hb, hq1⟩ := ab_on_some hq1
      refine ab_callVV (st := []) (as := [ab_I v4, ab_I (1 : Int), ab_I v1, ab_I v5]) (b := v0) (pc := 140) dX9_laysEntry_140 ml_RX9_270 my_X9_puts mv_X9_puts hb (ct_X9_puts hq1) ⟨Nat.le_of_ble_eq_true rfl, Nat.le_of_ble_eq_true rfl⟩ rfl (Nat.le_of_ble_eq_true rfl) rfl ?_
      refine ab_iinc (pc := 143) (i := 5) (lv2 := [some (ab_R v0), some (ab_I v1), some (ab_I v2), some (ab_I v3), some (ab_I v4), some (ab_I (ab_w32 (v5 + (1 : Int))))]) dX9_laysEntry_143 rfl (Nat.le_of_ble_eq_true rfl) rfl rfl ?_
      refine ab_goto (pc := 146) (tgt := 127) dX9_laysEntry_146 rfl ?_
      refine ab_sub_ (lv2 := [some (ab_R v0), some (ab_I v1), some (ab_I v2), some (ab_I v3), some (ab_I v4), some (ab_I (ab_w32 (v5 + (1 : Int))))]) (ab_ss (ab_ss (ab_ss (ab_ss (ab_ss (ab_ss ab_s0)))))) ?_
      exact ih _ _ _ _ _ _ _ _ hk
noncomputable def f_X9_laysEntry_J119 (v0 : Int) (v1 : Int) (v2 : Int) (v3 : Int) (v4 : Int) (h : ab_H) : Option ab_H :=
  if v3 = (1 : Int) then
    f_X9_laysEntry_L127 (fun w149_0 w149_1 w149_2 w149_3 w149_4 hx149 =>
      f_X9_laysEntry_J149 w149_0 w149_1 w149_2 w149_3 w149_4 hx149) ab_FU v0 v1 v2 v3 v4 (0 : Int) h
  else
  f_X9_laysEntry_J149 v0 v1 v2 v3 v4 h
set_option maxRecDepth 20000 in
theorem e_X9_laysEntry_J119 : ∀ (v0 : Int) (v1 : Int) (v2 : Int) (v3 : Int) (v4 : Int) (h : ab_H) (q : ab_H), f_X9_laysEntry_J119 v0 v1 v2 v3 v4 h = some q → ab_E mm_X9_laysEntry cX9_laysEntry 119 [some (ab_R v0), some (ab_I v1), some (ab_I v2), some (ab_I v3), some (ab_I v4), none] [] h none q := by
  intro v0 v1 v2 v3 v4 h q hk
  unfold f_X9_laysEntry_J119 at hk
  refine ab_iload_n (pc := 119) (i := 3) dX9_laysEntry_119 rfl rfl ?_
  refine ab_iconst (pc := 120) dX9_laysEntry_120 ab_k_1 ?_
  refine ab_icmp_ne (pc := 121) (tgt := 149) dX9_laysEntry_121 rfl (fun hc => ?_) (fun hc => ?_)
  · have hk := ab_ifn hk hc
    refine ab_sub_ (lv2 := [some (ab_R v0), some (ab_I v1), some (ab_I v2), some (ab_I v3), some (ab_I v4), none]) (ab_ss (ab_ss (ab_ss (ab_ss (ab_ss (ab_sn ab_s0)))))) ?_
    exact e_X9_laysEntry_J149 _ _ _ _ _ _ _ hk
  · have hk := ab_ifp hk hc
    refine ab_iconst (pc := 124) dX9_laysEntry_124 ab_k_0 ?_
    refine ab_istore (pc := 125) (i := 5) (lv2 := [some (ab_R v0), some (ab_I v1), some (ab_I v2), some (ab_I v3), some (ab_I v4), some (ab_I (0 : Int))]) dX9_laysEntry_125 (Nat.le_of_ble_eq_true rfl) rfl rfl ?_
    refine ab_sub_ (lv2 := [some (ab_R v0), some (ab_I v1), some (ab_I v2), some (ab_I v3), some (ab_I v4), some (ab_I (0 : Int))]) (ab_ss (ab_ss (ab_ss (ab_ss (ab_ss (ab_ss ab_s0)))))) ?_
    refine e_X9_laysEntry_L127 (fun w149_0 w149_1 w149_2 w149_3 w149_4 hx149 q hk => ?_) _ _ _ _ _ _ _ _ _ hk
    · skip
      refine ab_sub_ (lv2 := [some (ab_R w149_0), some (ab_I w149_1), some (ab_I w149_2), some (ab_I w149_3), some (ab_I w149_4), none]) (ab_ss (ab_ss (ab_ss (ab_ss (ab_ss (ab_sn ab_s0)))))) ?_
      exact e_X9_laysEntry_J149 _ _ _ _ _ _ _ hk
noncomputable def f_X9_laysEntry_L93 (k119 : Int → Int → Int → Int → Int → ab_H → Option ab_H) : Nat → Int → Int → Int → Int → Int → Int → ab_H → Option ab_H
  | 0, _, _, _, _, _, _, _ => none
  | n + 1, v0, v1, v2, v3, v4, v5, h =>
    (ab_on h 10 v0 (f_X9_terms v0 v1 h)).bind fun q1 =>
    if q1.1 ≤ v5 then
      k119 v0 v1 v2 v3 v4 q1.2
    else
    (ab_on q1.2 10 v0 (f_X9_puts v0 v4 (0 : Int) v1 v5 q1.2)).bind fun q2 =>
    f_X9_laysEntry_L93 k119 n v0 v1 v2 v3 v4 (ab_w32 (v5 + (1 : Int))) q2
set_option maxRecDepth 20000 in
theorem e_X9_laysEntry_L93 {k119 : Int → Int → Int → Int → Int → ab_H → Option ab_H} (hk119 : ∀ (v0 : Int) (v1 : Int) (v2 : Int) (v3 : Int) (v4 : Int) (h : ab_H) (q : ab_H), k119 v0 v1 v2 v3 v4 h = some q → ab_E mm_X9_laysEntry cX9_laysEntry 119 [some (ab_R v0), some (ab_I v1), some (ab_I v2), some (ab_I v3), some (ab_I v4), none] [] h none q) : ∀ (n : Nat) (v0 : Int) (v1 : Int) (v2 : Int) (v3 : Int) (v4 : Int) (v5 : Int) (h : ab_H) (q : ab_H), f_X9_laysEntry_L93 k119 n v0 v1 v2 v3 v4 v5 h = some q → ab_E mm_X9_laysEntry cX9_laysEntry 93 [some (ab_R v0), some (ab_I v1), some (ab_I v2), some (ab_I v3), some (ab_I v4), some (ab_I v5)] [] h none q := by
  intro n
  induction n with
  | zero => intro v0 v1 v2 v3 v4 v5 h q hk; cases hk
  | succ n ih =>
    intro v0 v1 v2 v3 v4 v5 h q hk
    unfold f_X9_laysEntry_L93 at hk
    refine ab_iload (pc := 93) (i := 5) dX9_laysEntry_93 rfl ?_
    refine ab_aload_n (pc := 95) (i := 0) dX9_laysEntry_95 rfl rfl ?_
    refine ab_iload_n (pc := 96) (i := 1) dX9_laysEntry_96 rfl rfl ?_
    obtain ⟨q1, hq1, hk⟩ := ab_bnd hk
    obtain ⟨hb, hq1⟩ := ab_on_some hq1
    refine ab_callVI (st := [ab_I v5]) (as := [ab_I v1]) (b := v0) (pc := 97) dX9_laysEntry_97 ml_RX9_255 my_X9_terms mv_X9_terms hb (ct_X9_terms hq1) ⟨Nat.le_of_ble_eq_true rfl, Nat.le_of_ble_eq_true rfl⟩ rfl (Nat.le_of_ble_eq_true rfl) rfl ?_
    refine ab_icmp_ge (pc := 100) (tgt := 119) dX9_laysEntry_100 rfl (fun hc => ?_) (fun hc => ?_)
    · have hk := ab_ifp hk hc
      refine ab_sub_ (lv2 := [some (ab_R v0), some (ab_I v1), some (ab_I v2), some (ab_I v3), some (ab_I v4), none]) (ab_ss (ab_ss (ab_ss (ab_ss (ab_ss (ab_sn ab_s0)))))) ?_
      exact hk119 _ _ _ _ _ _ _ hk
    · have hk := ab_ifn hk hc
      refine ab_aload_n (pc := 103) (i := 0) dX9_laysEntry_103 rfl rfl ?_
      refine ab_iload (pc := 104) (i := 4) dX9_laysEntry_104 rfl ?_
      refine ab_iconst (pc := 106) dX9_laysEntry_106 ab_k_0 ?_
      refine ab_iload_n (pc := 107) (i := 1) dX9_laysEntry_107 rfl rfl ?_
      refine ab_iload (pc := 108) (i := 5) dX9_laysEntry_108 rfl ?_
      obtain ⟨q2, hq2, hk⟩ := ab_bnd hk
      obtain ⟨hb, hq2⟩ := ab_on_some hq2
      refine ab_callVV (st := []) (as := [ab_I v4, ab_I (0 : Int), ab_I v1, ab_I v5]) (b := v0) (pc := 110) dX9_laysEntry_110 ml_RX9_270 my_X9_puts mv_X9_puts hb (ct_X9_puts hq2) ⟨Nat.le_of_ble_eq_true rfl, Nat.le_of_ble_eq_true rfl⟩ rfl (Nat.le_of_ble_eq_true rfl) rfl ?_
      refine ab_iinc (pc := 113) (i := 5) (lv2 := [some (ab_R v0), some (ab_I v1), some (ab_I v2), some (ab_I v3), some (ab_I v4), some (ab_I (ab_w32 (v5 + (1 : Int))))]) dX9_laysEntry_113 rfl (Nat.le_of_ble_eq_true rfl) rfl rfl ?_
      refine ab_goto (pc := 116) (tgt := 93) dX9_laysEntry_116 rfl ?_
      refine ab_sub_ (lv2 := [some (ab_R v0), some (ab_I v1), some (ab_I v2), some (ab_I v3), some (ab_I v4), some (ab_I (ab_w32 (v5 + (1 : Int))))]) (ab_ss (ab_ss (ab_ss (ab_ss (ab_ss (ab_ss ab_s0)))))) ?_
      exact ih _ _ _ _ _ _ _ _ hk
noncomputable def f_X9_laysEntry_J83 (v0 : Int) (v1 : Int) (v2 : Int) (v3 : Int) (v4 : Int) (h : ab_H) : Option ab_H :=
  if v3 = (2 : Int) then
    f_X9_laysEntry_L93 (fun w119_0 w119_1 w119_2 w119_3 w119_4 hx119 =>
      f_X9_laysEntry_J119 w119_0 w119_1 w119_2 w119_3 w119_4 hx119) ab_FU v0 v1 v2 v3 v4 (ab_w32 (v2 + (1 : Int))) h
  else
  f_X9_laysEntry_J119 v0 v1 v2 v3 v4 h
set_option maxRecDepth 20000 in
theorem e_X9_laysEntry_J83 : ∀ (v0 : Int) (v1 : Int) (v2 : Int) (v3 : Int) (v4 : Int) (h : ab_H) (q : ab_H), f_X9_laysEntry_J83 v0 v1 v2 v3 v4 h = some q → ab_E mm_X9_laysEntry cX9_laysEntry 83 [some (ab_R v0), some (ab_I v1), some (ab_I v2), some (ab_I v3), some (ab_I v4), none] [] h none q := by
  intro v0 v1 v2 v3 v4 h q hk
  unfold f_X9_laysEntry_J83 at hk
  refine ab_iload_n (pc := 83) (i := 3) dX9_laysEntry_83 rfl rfl ?_
  refine ab_iconst (pc := 84) dX9_laysEntry_84 ab_k_2 ?_
  refine ab_icmp_ne (pc := 85) (tgt := 119) dX9_laysEntry_85 rfl (fun hc => ?_) (fun hc => ?_)
  · have hk := ab_ifn hk hc
    refine ab_sub_ (lv2 := [some (ab_R v0), some (ab_I v1), some (ab_I v2), some (ab_I v3), some (ab_I v4), none]) (ab_ss (ab_ss (ab_ss (ab_ss (ab_ss (ab_sn ab_s0)))))) ?_
    exact e_X9_laysEntry_J119 _ _ _ _ _ _ _ hk
  · have hk := ab_ifp hk hc
    refine ab_iload_n (pc := 88) (i := 2) dX9_laysEntry_88 rfl rfl ?_
    refine ab_iconst (pc := 89) dX9_laysEntry_89 ab_k_1 ?_
    refine ab_iadd (pc := 90) dX9_laysEntry_90 ?_
    refine ab_istore (pc := 91) (i := 5) (lv2 := [some (ab_R v0), some (ab_I v1), some (ab_I v2), some (ab_I v3), some (ab_I v4), some (ab_I (ab_w32 (v2 + (1 : Int))))]) dX9_laysEntry_91 (Nat.le_of_ble_eq_true rfl) rfl rfl ?_
    refine ab_sub_ (lv2 := [some (ab_R v0), some (ab_I v1), some (ab_I v2), some (ab_I v3), some (ab_I v4), some (ab_I (ab_w32 (v2 + (1 : Int))))]) (ab_ss (ab_ss (ab_ss (ab_ss (ab_ss (ab_ss ab_s0)))))) ?_
    refine e_X9_laysEntry_L93 (fun w119_0 w119_1 w119_2 w119_3 w119_4 hx119 q hk => ?_) _ _ _ _ _ _ _ _ _ hk
    · skip
      refine ab_sub_ (lv2 := [some (ab_R w119_0), some (ab_I w119_1), some (ab_I w119_2), some (ab_I w119_3), some (ab_I w119_4), none]) (ab_ss (ab_ss (ab_ss (ab_ss (ab_ss (ab_sn ab_s0)))))) ?_
      exact e_X9_laysEntry_J119 _ _ _ _ _ _ _ hk
noncomputable def f_X9_laysEntry_L62 (k83 : Int → Int → Int → Int → Int → ab_H → Option ab_H) : Nat → Int → Int → Int → Int → Int → Int → ab_H → Option ab_H
  | 0, _, _, _, _, _, _, _ => none
  | n + 1, v0, v1, v2, v3, v4, v5, h =>
    if v5 < (0 : Int) then
      k83 v0 v1 v2 v3 v4 h
    else
    (ab_on h 10 v0 (f_X9_puts v0 v4 (0 : Int) v1 v5 h)).bind fun q1 =>
    f_X9_laysEntry_L62 k83 n v0 v1 v2 v3 v4 (ab_w32 (v5 + (-1 : Int))) q1
set_option maxRecDepth 20000 in
theorem e_X9_laysEntry_L62 {k83 : Int → Int → Int → Int → Int → ab_H → Option ab_H} (hk83 : ∀ (v0 : Int) (v1 : Int) (v2 : Int) (v3 : Int) (v4 : Int) (h : ab_H) (q : ab_H), k83 v0 v1 v2 v3 v4 h = some q → ab_E mm_X9_laysEntry cX9_laysEntry 83 [some (ab_R v0), some (ab_I v1), some (ab_I v2), some (ab_I v3), some (ab_I v4), none] [] h none q) : ∀ (n : Nat) (v0 : Int) (v1 : Int) (v2 : Int) (v3 : Int) (v4 : Int) (v5 : Int) (h : ab_H) (q : ab_H), f_X9_laysEntry_L62 k83 n v0 v1 v2 v3 v4 v5 h = some q → ab_E mm_X9_laysEntry cX9_laysEntry 62 [some (ab_R v0), some (ab_I v1), some (ab_I v2), some (ab_I v3), some (ab_I v4), some (ab_I v5)] [] h none q := by
  intro n
  induction n with
  | zero => intro v0 v1 v2 v3 v4 v5 h q hk; cases hk
  | succ n ih =>
    intro v0 v1 v2 v3 v4 v5 h q hk
    unfold f_X9_laysEntry_L62 at hk
    refine ab_iload (pc := 62) (i := 5) dX9_laysEntry_62 rfl ?_
    refine ab_if_lt (pc := 64) (tgt := 83) dX9_laysEntry_64 rfl (fun hc => ?_) (fun hc => ?_)
    · have hk := ab_ifp hk hc
      refine ab_sub_ (lv2 := [some (ab_R v0), some (ab_I v1), some (ab_I v2), some (ab_I v3), some (ab_I v4), none]) (ab_ss (ab_ss (ab_ss (ab_ss (ab_ss (ab_sn ab_s0)))))) ?_
      exact hk83 _ _ _ _ _ _ _ hk
    · have hk := ab_ifn hk hc
      refine ab_aload_n (pc := 67) (i := 0) dX9_laysEntry_67 rfl rfl ?_
      refine ab_iload (pc := 68) (i := 4) dX9_laysEntry_68 rfl ?_
      refine ab_iconst (pc := 70) dX9_laysEntry_70 ab_k_0 ?_
      refine ab_iload_n (pc := 71) (i := 1) dX9_laysEntry_71 rfl rfl ?_
      refine ab_iload (pc := 72) (i := 5) dX9_laysEntry_72 rfl ?_
      obtain ⟨q1, hq1, hk⟩ := ab_bnd hk
      obtain ⟨hb, hq1⟩ := ab_on_some hq1
      refine ab_callVV (st := []) (as := [ab_I v4, ab_I (0 : Int), ab_I v1, ab_I v5]) (b := v0) (pc := 74) dX9_laysEntry_74 ml_RX9_270 my_X9_puts mv_X9_puts hb (ct_X9_puts hq1) ⟨Nat.le_of_ble_eq_true rfl, Nat.le_of_ble_eq_true rfl⟩ rfl (Nat.le_of_ble_eq_true rfl) rfl ?_
      refine ab_iinc (pc := 77) (i := 5) (lv2 := [some (ab_R v0), some (ab_I v1), some (ab_I v2), some (ab_I v3), some (ab_I v4), some (ab_I (ab_w32 (v5 + (-1 : Int))))]) dX9_laysEntry_77 rfl (Nat.le_of_ble_eq_true rfl) rfl rfl ?_
      refine ab_goto (pc := 80) (tgt := 62) dX9_laysEntry_80 rfl ?_
      refine ab_sub_ (lv2 := [some (ab_R v0), some (ab_I v1), some (ab_I v2), some (ab_I v3), some (ab_I v4), some (ab_I (ab_w32 (v5 + (-1 : Int))))]) (ab_ss (ab_ss (ab_ss (ab_ss (ab_ss (ab_ss ab_s0)))))) ?_
      exact ih _ _ _ _ _ _ _ _ hk
noncomputable def f_X9_laysEntry (a0 : Int) (a1 : Int) (a2 : Int) (a3 : Int) (h : ab_H) : Option ab_H :=
  (ab_get h 10 16 a0).bind fun t1 =>
  (ab_get h 10 19 a0).bind fun t2 =>
  (ab_ast h 11 t2 t1 a1).bind fun h1 =>
  (ab_get h1 10 20 a0).bind fun t3 =>
  (ab_ast h1 11 t3 t1 a2).bind fun h2 =>
  (ab_get h2 10 24 a0).bind fun t4 =>
  (ab_ast h2 11 t4 (ab_w32 ((12 : Int) * t1)) (0 : Int)).bind fun h3 =>
  (ab_get h3 10 24 a0).bind fun t5 =>
  (ab_ast h3 11 t5 (ab_w32 ((ab_w32 ((12 : Int) * t1)) + (6 : Int))) (0 : Int)).bind fun h4 =>
  (ab_put h4 10 25 a0 (0 : Int)).bind fun h5 =>
  if a3 = (1 : Int) then
    f_X9_laysEntry_J83 a0 a1 a2 a3 t1 h5
  else
  f_X9_laysEntry_L62 (fun w83_0 w83_1 w83_2 w83_3 w83_4 hx83 =>
    f_X9_laysEntry_J83 w83_0 w83_1 w83_2 w83_3 w83_4 hx83) ab_FU a0 a1 a2 a3 t1 (ab_w32 (a2 - (1 : Int))) h5
set_option maxRecDepth 20000 in
theorem ct_X9_laysEntry {a0 a1 a2 a3 : Int} {h : ab_H} {q : ab_H} (hk : f_X9_laysEntry a0 a1 a2 a3 h = some q) : ab_CT yX9_laysEntry cX9_laysEntry 6 none 2 48 [ab_R a0, ab_I a1, ab_I a2, ab_I a3] h none q := by
  refine ab_CT.mk_ 2 (own := RX9) (ini := false) (lv := [some (ab_R a0), some (ab_I a1), some (ab_I a2), some (ab_I a3), none, none]) rfl (by decide +kernel) (fun q => by cases q) rfl rfl ?_
  unfold f_X9_laysEntry at hk
  show ab_E mm_X9_laysEntry cX9_laysEntry 0 _ [] h _ _
  refine ab_aload_n (pc := 0) (i := 0) dX9_laysEntry_0 rfl rfl ?_
  obtain ⟨t1, ht1, hk⟩ := ab_bnd hk
  refine ab_getI (pc := 1) dX9_laysEntry_1 fl_RX9_267 ht1 ?_
  refine ab_istore (pc := 4) (i := 4) (lv2 := [some (ab_R a0), some (ab_I a1), some (ab_I a2), some (ab_I a3), some (ab_I t1), none]) dX9_laysEntry_4 (Nat.le_of_ble_eq_true rfl) rfl rfl ?_
  refine ab_aload_n (pc := 6) (i := 0) dX9_laysEntry_6 rfl rfl ?_
  obtain ⟨t2, ht2, hk⟩ := ab_bnd hk
  refine ab_getR (pc := 7) dX9_laysEntry_7 fl_RX9_31 ht2 ?_
  refine ab_iload (pc := 10) (i := 4) dX9_laysEntry_10 rfl ?_
  refine ab_iload_n (pc := 12) (i := 1) dX9_laysEntry_12 rfl rfl ?_
  obtain ⟨h1, hh1, hk⟩ := ab_bnd hk
  refine ab_iast (pc := 13) dX9_laysEntry_13 hh1 ?_
  refine ab_aload_n (pc := 14) (i := 0) dX9_laysEntry_14 rfl rfl ?_
  obtain ⟨t3, ht3, hk⟩ := ab_bnd hk
  refine ab_getR (pc := 15) dX9_laysEntry_15 fl_RX9_34 ht3 ?_
  refine ab_iload (pc := 18) (i := 4) dX9_laysEntry_18 rfl ?_
  refine ab_iload_n (pc := 20) (i := 2) dX9_laysEntry_20 rfl rfl ?_
  obtain ⟨h2, hh2, hk⟩ := ab_bnd hk
  refine ab_iast (pc := 21) dX9_laysEntry_21 hh2 ?_
  refine ab_aload_n (pc := 22) (i := 0) dX9_laysEntry_22 rfl rfl ?_
  obtain ⟨t4, ht4, hk⟩ := ab_bnd hk
  refine ab_getR (pc := 23) dX9_laysEntry_23 fl_RX9_46 ht4 ?_
  refine ab_bipush (pc := 26) dX9_laysEntry_26 ab_p8_12 ab_k_12 ?_
  refine ab_iload (pc := 28) (i := 4) dX9_laysEntry_28 rfl ?_
  refine ab_imul (pc := 30) dX9_laysEntry_30 ?_
  refine ab_iconst (pc := 31) dX9_laysEntry_31 ab_k_0 ?_
  obtain ⟨h3, hh3, hk⟩ := ab_bnd hk
  refine ab_iast (pc := 32) dX9_laysEntry_32 hh3 ?_
  refine ab_aload_n (pc := 33) (i := 0) dX9_laysEntry_33 rfl rfl ?_
  obtain ⟨t5, ht5, hk⟩ := ab_bnd hk
  refine ab_getR (pc := 34) dX9_laysEntry_34 fl_RX9_46 ht5 ?_
  refine ab_bipush (pc := 37) dX9_laysEntry_37 ab_p8_12 ab_k_12 ?_
  refine ab_iload (pc := 39) (i := 4) dX9_laysEntry_39 rfl ?_
  refine ab_imul (pc := 41) dX9_laysEntry_41 ?_
  refine ab_bipush (pc := 42) dX9_laysEntry_42 ab_p8_6 ab_k_6 ?_
  refine ab_iadd (pc := 44) dX9_laysEntry_44 ?_
  refine ab_iconst (pc := 45) dX9_laysEntry_45 ab_k_0 ?_
  obtain ⟨h4, hh4, hk⟩ := ab_bnd hk
  refine ab_iast (pc := 46) dX9_laysEntry_46 hh4 ?_
  refine ab_aload_n (pc := 47) (i := 0) dX9_laysEntry_47 rfl rfl ?_
  refine ab_iconst (pc := 48) dX9_laysEntry_48 ab_k_0 ?_
  obtain ⟨h5, hh5, hk⟩ := ab_bnd hk
  refine ab_putI_ (pc := 49) dX9_laysEntry_49 fl_RX9_264 (fun q => by cases q) hh5 ?_
  refine ab_iload_n (pc := 52) (i := 3) dX9_laysEntry_52 rfl rfl ?_
  refine ab_iconst (pc := 53) dX9_laysEntry_53 ab_k_1 ?_
  refine ab_icmp_eq (pc := 54) (tgt := 83) dX9_laysEntry_54 rfl (fun hc => ?_) (fun hc => ?_)
  · have hk := ab_ifp hk hc
    refine ab_sub_ (lv2 := [some (ab_R a0), some (ab_I a1), some (ab_I a2), some (ab_I a3), some (ab_I t1), none]) (ab_ss (ab_ss (ab_ss (ab_ss (ab_ss (ab_sn ab_s0)))))) ?_
    exact e_X9_laysEntry_J83 _ _ _ _ _ _ _ hk
  · have hk := ab_ifn hk hc
    refine ab_iload_n (pc := 57) (i := 2) dX9_laysEntry_57 rfl rfl ?_
    refine ab_iconst (pc := 58) dX9_laysEntry_58 ab_k_1 ?_
    refine ab_isub (pc := 59) dX9_laysEntry_59 ?_
    refine ab_istore (pc := 60) (i := 5) (lv2 := [some (ab_R a0), some (ab_I a1), some (ab_I a2), some (ab_I a3), some (ab_I t1), some (ab_I (ab_w32 (a2 - (1 : Int))))]) dX9_laysEntry_60 (Nat.le_of_ble_eq_true rfl) rfl rfl ?_
    refine ab_sub_ (lv2 := [some (ab_R a0), some (ab_I a1), some (ab_I a2), some (ab_I a3), some (ab_I t1), some (ab_I (ab_w32 (a2 - (1 : Int))))]) (ab_ss (ab_ss (ab_ss (ab_ss (ab_ss (ab_ss ab_s0)))))) ?_
    refine e_X9_laysEntry_L62 (fun w83_0 w83_1 w83_2 w83_3 w83_4 hx83 q hk => ?_) _ _ _ _ _ _ _ _ _ hk
    · skip
      refine ab_sub_ (lv2 := [some (ab_R w83_0), some (ab_I w83_1), some (ab_I w83_2), some (ab_I w83_3), some (ab_I w83_4), none]) (ab_ss (ab_ss (ab_ss (ab_ss (ab_ss (ab_sn ab_s0)))))) ?_
      exact e_X9_laysEntry_J83 _ _ _ _ _ _ _ hk
theorem dX9_leadWord_0 : decode cX9_leadWord 0 = .ok (.aload_n 0, 1) := by decide +kernel
theorem dX9_leadWord_1 : decode cX9_leadWord 1 = .ok (.getfield 27, 3) := by decide +kernel
theorem dX9_leadWord_4 : decode cX9_leadWord 4 = .ok (.aload_n 0, 1) := by decide +kernel
theorem dX9_leadWord_5 : decode cX9_leadWord 5 = .ok (.getfield 31, 3) := by decide +kernel
theorem dX9_leadWord_8 : decode cX9_leadWord 8 = .ok (.iload_n 1, 1) := by decide +kernel
theorem dX9_leadWord_9 : decode cX9_leadWord 9 = .ok (.iaload, 1) := by decide +kernel
theorem dX9_leadWord_10 : decode cX9_leadWord 10 = .ok (.aload_n 0, 1) := by decide +kernel
theorem dX9_leadWord_11 : decode cX9_leadWord 11 = .ok (.getfield 34, 3) := by decide +kernel
theorem dX9_leadWord_14 : decode cX9_leadWord 14 = .ok (.iload_n 1, 1) := by decide +kernel
theorem dX9_leadWord_15 : decode cX9_leadWord 15 = .ok (.iaload, 1) := by decide +kernel
theorem dX9_leadWord_16 : decode cX9_leadWord 16 = .ok (.invokestatic 262, 3) := by decide +kernel
theorem dX9_leadWord_19 : decode cX9_leadWord 19 = .ok (.iaload, 1) := by decide +kernel
theorem dX9_leadWord_20 : decode cX9_leadWord 20 = .ok (.ireturn, 1) := by decide +kernel
abbrev mm_X9_leadWord : ab_M := (RX9, 2, (some .int), false, 1, 21, none)
noncomputable def f_X9_leadWord (a0 : Int) (a1 : Int) (h : ab_H) : Option (Int × ab_H) :=
  (ab_get h 10 15 a0).bind fun t1 =>
  (ab_get h 10 19 a0).bind fun t2 =>
  (ab_ald h 11 t2 a1).bind fun t3 =>
  (ab_get h 10 20 a0).bind fun t4 =>
  (ab_ald h 11 t4 a1).bind fun t5 =>
  (f_X9_place t3 t5 h).bind fun q6 =>
  (ab_ald q6.2 11 t1 q6.1).bind fun t7 =>
  some (t7, q6.2)
set_option maxRecDepth 20000 in
theorem ct_X9_leadWord {a0 a1 : Int} {h : ab_H} {q : Int × ab_H} (hk : f_X9_leadWord a0 a1 h = some q) : ab_CT yX9_leadWord cX9_leadWord 2 (some .int) 1 21 [ab_R a0, ab_I a1] h (some (ab_I q.1)) q.2 := by
  refine ab_CT.mk_ 0 (own := RX9) (ini := false) (lv := [some (ab_R a0), some (ab_I a1)]) rfl (by decide +kernel) (fun q => by cases q) rfl rfl ?_
  unfold f_X9_leadWord at hk
  show ab_E mm_X9_leadWord cX9_leadWord 0 _ [] h _ _
  refine ab_aload_n (pc := 0) (i := 0) dX9_leadWord_0 rfl rfl ?_
  obtain ⟨t1, ht1, hk⟩ := ab_bnd hk
  refine ab_getR (pc := 1) dX9_leadWord_1 fl_RX9_27 ht1 ?_
  refine ab_aload_n (pc := 4) (i := 0) dX9_leadWord_4 rfl rfl ?_
  obtain ⟨t2, ht2, hk⟩ := ab_bnd hk
  refine ab_getR (pc := 5) dX9_leadWord_5 fl_RX9_31 ht2 ?_
  refine ab_iload_n (pc := 8) (i := 1) dX9_leadWord_8 rfl rfl ?_
  obtain ⟨t3, ht3, hk⟩ := ab_bnd hk
  refine ab_iald (pc := 9) dX9_leadWord_9 ht3 ?_
  refine ab_aload_n (pc := 10) (i := 0) dX9_leadWord_10 rfl rfl ?_
  obtain ⟨t4, ht4, hk⟩ := ab_bnd hk
  refine ab_getR (pc := 11) dX9_leadWord_11 fl_RX9_34 ht4 ?_
  refine ab_iload_n (pc := 14) (i := 1) dX9_leadWord_14 rfl rfl ?_
  obtain ⟨t5, ht5, hk⟩ := ab_bnd hk
  refine ab_iald (pc := 15) dX9_leadWord_15 ht5 ?_
  obtain ⟨q6, hq6, hk⟩ := ab_bnd hk
  refine ab_callSI (st := [ab_R t1]) (as := [ab_I t3, ab_I t5]) (pc := 16) dX9_leadWord_16 ml_RX9_262 my_X9_place ms_X9_place (ct_X9_place hq6) ⟨Nat.le_of_ble_eq_true rfl, Nat.le_of_ble_eq_true rfl⟩ rfl (Nat.le_of_ble_eq_true rfl) rfl ?_
  obtain ⟨t7, ht7, hk⟩ := ab_bnd hk
  refine ab_iald (pc := 19) dX9_leadWord_19 ht7 ?_
  obtain rfl := Option.some.inj hk
  exact ab_reti (pc := 20) dX9_leadWord_20 (Or.inl rfl)
theorem dX9_comparesRows_0 : decode cX9_comparesRows 0 = .ok (.bipush 12, 2) := by decide +kernel
theorem dX9_comparesRows_2 : decode cX9_comparesRows 2 = .ok (.iload_n 1, 1) := by decide +kernel
theorem dX9_comparesRows_3 : decode cX9_comparesRows 3 = .ok (.imul, 1) := by decide +kernel
theorem dX9_comparesRows_4 : decode cX9_comparesRows 4 = .ok (.bipush 6, 2) := by decide +kernel
theorem dX9_comparesRows_6 : decode cX9_comparesRows 6 = .ok (.iload_n 3, 1) := by decide +kernel
theorem dX9_comparesRows_7 : decode cX9_comparesRows 7 = .ok (.imul, 1) := by decide +kernel
theorem dX9_comparesRows_8 : decode cX9_comparesRows 8 = .ok (.iadd, 1) := by decide +kernel
theorem dX9_comparesRows_9 : decode cX9_comparesRows 9 = .ok (.istore 4, 2) := by decide +kernel
theorem dX9_comparesRows_11 : decode cX9_comparesRows 11 = .ok (.bipush 12, 2) := by decide +kernel
theorem dX9_comparesRows_13 : decode cX9_comparesRows 13 = .ok (.iload_n 2, 1) := by decide +kernel
theorem dX9_comparesRows_14 : decode cX9_comparesRows 14 = .ok (.imul, 1) := by decide +kernel
theorem dX9_comparesRows_15 : decode cX9_comparesRows 15 = .ok (.bipush 6, 2) := by decide +kernel
theorem dX9_comparesRows_17 : decode cX9_comparesRows 17 = .ok (.iload_n 3, 1) := by decide +kernel
theorem dX9_comparesRows_18 : decode cX9_comparesRows 18 = .ok (.imul, 1) := by decide +kernel
theorem dX9_comparesRows_19 : decode cX9_comparesRows 19 = .ok (.iadd, 1) := by decide +kernel
theorem dX9_comparesRows_20 : decode cX9_comparesRows 20 = .ok (.istore 5, 2) := by decide +kernel
theorem dX9_comparesRows_22 : decode cX9_comparesRows 22 = .ok (.iconst 1, 1) := by decide +kernel
theorem dX9_comparesRows_23 : decode cX9_comparesRows 23 = .ok (.istore 6, 2) := by decide +kernel
theorem dX9_comparesRows_25 : decode cX9_comparesRows 25 = .ok (.iload 6, 2) := by decide +kernel
theorem dX9_comparesRows_27 : decode cX9_comparesRows 27 = .ok (.aload_n 0, 1) := by decide +kernel
theorem dX9_comparesRows_28 : decode cX9_comparesRows 28 = .ok (.getfield 46, 3) := by decide +kernel
theorem dX9_comparesRows_31 : decode cX9_comparesRows 31 = .ok (.iload 4, 2) := by decide +kernel
theorem dX9_comparesRows_33 : decode cX9_comparesRows 33 = .ok (.iaload, 1) := by decide +kernel
theorem dX9_comparesRows_34 : decode cX9_comparesRows 34 = .ok (.if_icmp .gt 62, 3) := by decide +kernel
theorem dX9_comparesRows_37 : decode cX9_comparesRows 37 = .ok (.iload 6, 2) := by decide +kernel
theorem dX9_comparesRows_39 : decode cX9_comparesRows 39 = .ok (.aload_n 0, 1) := by decide +kernel
theorem dX9_comparesRows_40 : decode cX9_comparesRows 40 = .ok (.getfield 46, 3) := by decide +kernel
theorem dX9_comparesRows_43 : decode cX9_comparesRows 43 = .ok (.iload 5, 2) := by decide +kernel
theorem dX9_comparesRows_45 : decode cX9_comparesRows 45 = .ok (.iaload, 1) := by decide +kernel
theorem dX9_comparesRows_46 : decode cX9_comparesRows 46 = .ok (.if_icmp .gt 50, 3) := by decide +kernel
theorem dX9_comparesRows_49 : decode cX9_comparesRows 49 = .ok (.aload_n 0, 1) := by decide +kernel
theorem dX9_comparesRows_50 : decode cX9_comparesRows 50 = .ok (.getfield 27, 3) := by decide +kernel
theorem dX9_comparesRows_53 : decode cX9_comparesRows 53 = .ok (.aload_n 0, 1) := by decide +kernel
theorem dX9_comparesRows_54 : decode cX9_comparesRows 54 = .ok (.getfield 46, 3) := by decide +kernel
theorem dX9_comparesRows_57 : decode cX9_comparesRows 57 = .ok (.iload 4, 2) := by decide +kernel
theorem dX9_comparesRows_59 : decode cX9_comparesRows 59 = .ok (.iload 6, 2) := by decide +kernel
theorem dX9_comparesRows_61 : decode cX9_comparesRows 61 = .ok (.iadd, 1) := by decide +kernel
theorem dX9_comparesRows_62 : decode cX9_comparesRows 62 = .ok (.iaload, 1) := by decide +kernel
theorem dX9_comparesRows_63 : decode cX9_comparesRows 63 = .ok (.iaload, 1) := by decide +kernel
theorem dX9_comparesRows_64 : decode cX9_comparesRows 64 = .ok (.aload_n 0, 1) := by decide +kernel
theorem dX9_comparesRows_65 : decode cX9_comparesRows 65 = .ok (.getfield 27, 3) := by decide +kernel
theorem dX9_comparesRows_68 : decode cX9_comparesRows 68 = .ok (.aload_n 0, 1) := by decide +kernel
theorem dX9_comparesRows_69 : decode cX9_comparesRows 69 = .ok (.getfield 46, 3) := by decide +kernel
theorem dX9_comparesRows_72 : decode cX9_comparesRows 72 = .ok (.iload 5, 2) := by decide +kernel
theorem dX9_comparesRows_74 : decode cX9_comparesRows 74 = .ok (.iload 6, 2) := by decide +kernel
theorem dX9_comparesRows_76 : decode cX9_comparesRows 76 = .ok (.iadd, 1) := by decide +kernel
theorem dX9_comparesRows_77 : decode cX9_comparesRows 77 = .ok (.iaload, 1) := by decide +kernel
theorem dX9_comparesRows_78 : decode cX9_comparesRows 78 = .ok (.iaload, 1) := by decide +kernel
theorem dX9_comparesRows_79 : decode cX9_comparesRows 79 = .ok (.isub, 1) := by decide +kernel
theorem dX9_comparesRows_80 : decode cX9_comparesRows 80 = .ok (.istore 7, 2) := by decide +kernel
theorem dX9_comparesRows_82 : decode cX9_comparesRows 82 = .ok (.iload 7, 2) := by decide +kernel
theorem dX9_comparesRows_84 : decode cX9_comparesRows 84 = .ok (.ifCond .eq 6, 3) := by decide +kernel
theorem dX9_comparesRows_87 : decode cX9_comparesRows 87 = .ok (.iload 7, 2) := by decide +kernel
theorem dX9_comparesRows_89 : decode cX9_comparesRows 89 = .ok (.ireturn, 1) := by decide +kernel
theorem dX9_comparesRows_90 : decode cX9_comparesRows 90 = .ok (.iinc 6 1, 3) := by decide +kernel
theorem dX9_comparesRows_93 : decode cX9_comparesRows 93 = .ok (.goto (-68), 3) := by decide +kernel
theorem dX9_comparesRows_96 : decode cX9_comparesRows 96 = .ok (.aload_n 0, 1) := by decide +kernel
theorem dX9_comparesRows_97 : decode cX9_comparesRows 97 = .ok (.getfield 46, 3) := by decide +kernel
theorem dX9_comparesRows_100 : decode cX9_comparesRows 100 = .ok (.iload 4, 2) := by decide +kernel
theorem dX9_comparesRows_102 : decode cX9_comparesRows 102 = .ok (.iaload, 1) := by decide +kernel
theorem dX9_comparesRows_103 : decode cX9_comparesRows 103 = .ok (.aload_n 0, 1) := by decide +kernel
theorem dX9_comparesRows_104 : decode cX9_comparesRows 104 = .ok (.getfield 46, 3) := by decide +kernel
theorem dX9_comparesRows_107 : decode cX9_comparesRows 107 = .ok (.iload 5, 2) := by decide +kernel
theorem dX9_comparesRows_109 : decode cX9_comparesRows 109 = .ok (.iaload, 1) := by decide +kernel
theorem dX9_comparesRows_110 : decode cX9_comparesRows 110 = .ok (.isub, 1) := by decide +kernel
theorem dX9_comparesRows_111 : decode cX9_comparesRows 111 = .ok (.ireturn, 1) := by decide +kernel
abbrev mm_X9_comparesRows : ab_M := (RX9, 8, (some .int), false, 0, 0, none)
noncomputable def f_X9_comparesRows_J96 (v0 : Int) (v4 : Int) (v5 : Int) (h : ab_H) : Option (Int × ab_H) :=
  (ab_get h 10 24 v0).bind fun t1 =>
  (ab_ald h 11 t1 v4).bind fun t2 =>
  (ab_get h 10 24 v0).bind fun t3 =>
  (ab_ald h 11 t3 v5).bind fun t4 =>
  some (ab_w32 (t2 - t4), h)
set_option maxRecDepth 20000 in
theorem e_X9_comparesRows_J96 : ∀ (v0 : Int) (v4 : Int) (v5 : Int) (h : ab_H) (q : Int × ab_H), f_X9_comparesRows_J96 v0 v4 v5 h = some q → ab_E mm_X9_comparesRows cX9_comparesRows 96 [some (ab_R v0), none, none, none, some (ab_I v4), some (ab_I v5), none, none] [] h (some (ab_I q.1)) q.2 := by
  intro v0 v4 v5 h q hk
  unfold f_X9_comparesRows_J96 at hk
  refine ab_aload_n (pc := 96) (i := 0) dX9_comparesRows_96 rfl rfl ?_
  obtain ⟨t1, ht1, hk⟩ := ab_bnd hk
  refine ab_getR (pc := 97) dX9_comparesRows_97 fl_RX9_46 ht1 ?_
  refine ab_iload (pc := 100) (i := 4) dX9_comparesRows_100 rfl ?_
  obtain ⟨t2, ht2, hk⟩ := ab_bnd hk
  refine ab_iald (pc := 102) dX9_comparesRows_102 ht2 ?_
  refine ab_aload_n (pc := 103) (i := 0) dX9_comparesRows_103 rfl rfl ?_
  obtain ⟨t3, ht3, hk⟩ := ab_bnd hk
  refine ab_getR (pc := 104) dX9_comparesRows_104 fl_RX9_46 ht3 ?_
  refine ab_iload (pc := 107) (i := 5) dX9_comparesRows_107 rfl ?_
  obtain ⟨t4, ht4, hk⟩ := ab_bnd hk
  refine ab_iald (pc := 109) dX9_comparesRows_109 ht4 ?_
  refine ab_isub (pc := 110) dX9_comparesRows_110 ?_
  obtain rfl := Option.some.inj hk
  exact ab_reti (pc := 111) dX9_comparesRows_111 (Or.inl rfl)
noncomputable def f_X9_comparesRows_L25 (k96 : Int → Int → Int → ab_H → Option (Int × ab_H)) : Nat → Int → Int → Int → Int → ab_H → Option (Int × ab_H)
  | 0, _, _, _, _, _ => none
  | n + 1, v0, v4, v5, v6, h =>
    (ab_get h 10 24 v0).bind fun t1 =>
    (ab_ald h 11 t1 v4).bind fun t2 =>
    if t2 < v6 then
      k96 v0 v4 v5 h
    else
    (ab_get h 10 24 v0).bind fun t3 =>
    (ab_ald h 11 t3 v5).bind fun t4 =>
    if t4 < v6 then
      k96 v0 v4 v5 h
    else
    (ab_get h 10 15 v0).bind fun t5 =>
    (ab_get h 10 24 v0).bind fun t6 =>
    (ab_ald h 11 t6 (ab_w32 (v4 + v6))).bind fun t7 =>
    (ab_ald h 11 t5 t7).bind fun t8 =>
    (ab_get h 10 15 v0).bind fun t9 =>
    (ab_get h 10 24 v0).bind fun t10 =>
    (ab_ald h 11 t10 (ab_w32 (v5 + v6))).bind fun t11 =>
    (ab_ald h 11 t9 t11).bind fun t12 =>
    if ab_w32 (t8 - t12) = (0 : Int) then
      f_X9_comparesRows_L25 k96 n v0 v4 v5 (ab_w32 (v6 + (1 : Int))) h
    else
    some (ab_w32 (t8 - t12), h)
set_option maxRecDepth 20000 in
theorem e_X9_comparesRows_L25 {k96 : Int → Int → Int → ab_H → Option (Int × ab_H)} (hk96 : ∀ (v0 : Int) (v4 : Int) (v5 : Int) (h : ab_H) (q : Int × ab_H), k96 v0 v4 v5 h = some q → ab_E mm_X9_comparesRows cX9_comparesRows 96 [some (ab_R v0), none, none, none, some (ab_I v4), some (ab_I v5), none, none] [] h (some (ab_I q.1)) q.2) : ∀ (n : Nat) (v0 : Int) (v4 : Int) (v5 : Int) (v6 : Int) (h : ab_H) (q : Int × ab_H), f_X9_comparesRows_L25 k96 n v0 v4 v5 v6 h = some q → ab_E mm_X9_comparesRows cX9_comparesRows 25 [some (ab_R v0), none, none, none, some (ab_I v4), some (ab_I v5), some (ab_I v6), none] [] h (some (ab_I q.1)) q.2 := by
  intro n
  induction n with
  | zero => intro v0 v4 v5 v6 h q hk; cases hk
  | succ n ih =>
    intro v0 v4 v5 v6 h q hk
    unfold f_X9_comparesRows_L25 at hk
    refine ab_iload (pc := 25) (i := 6) dX9_comparesRows_25 rfl ?_
    refine ab_aload_n (pc := 27) (i := 0) dX9_comparesRows_27 rfl rfl ?_
    obtain ⟨t1, ht1, hk⟩ := ab_bnd hk
    refine ab_getR (pc := 28) dX9_comparesRows_28 fl_RX9_46 ht1 ?_
    refine ab_iload (pc := 31) (i := 4) dX9_comparesRows_31 rfl ?_
    obtain ⟨t2, ht2, hk⟩ := ab_bnd hk
    refine ab_iald (pc := 33) dX9_comparesRows_33 ht2 ?_
    refine ab_icmp_gt (pc := 34) (tgt := 96) dX9_comparesRows_34 rfl (fun hc => ?_) (fun hc => ?_)
    · have hk := ab_ifp hk hc
      refine ab_sub_ (lv2 := [some (ab_R v0), none, none, none, some (ab_I v4), some (ab_I v5), none, none]) (ab_ss (ab_sn (ab_sn (ab_sn (ab_ss (ab_ss (ab_sn (ab_sn ab_s0)))))))) ?_
      exact hk96 _ _ _ _ _ hk
    · have hk := ab_ifn hk hc
      refine ab_iload (pc := 37) (i := 6) dX9_comparesRows_37 rfl ?_
      refine ab_aload_n (pc := 39) (i := 0) dX9_comparesRows_39 rfl rfl ?_
      obtain ⟨t3, ht3, hk⟩ := ab_bnd hk
      refine ab_getR (pc := 40) dX9_comparesRows_40 fl_RX9_46 ht3 ?_
      refine ab_iload (pc := 43) (i := 5) dX9_comparesRows_43 rfl ?_
      obtain ⟨t4, ht4, hk⟩ := ab_bnd hk
      refine ab_iald (pc := 45) dX9_comparesRows_45 ht4 ?_
      refine ab_icmp_gt (pc := 46) (tgt := 96) dX9_comparesRows_46 rfl (fun hc => ?_) (fun hc => ?_)
      · have hk := ab_ifp hk hc
        refine ab_sub_ (lv2 := [some (ab_R v0), none, none, none, some (ab_I v4), some (ab_I v5), none, none]) (ab_ss (ab_sn (ab_sn (ab_sn (ab_ss (ab_ss (ab_sn (ab_sn ab_s0)))))))) ?_
        exact hk96 _ _ _ _ _ hk
      · have hk := ab_ifn hk hc
        refine ab_aload_n (pc := 49) (i := 0) dX9_comparesRows_49 rfl rfl ?_
        obtain ⟨t5, ht5, hk⟩ := ab_bnd hk
        refine ab_getR (pc := 50) dX9_comparesRows_50 fl_RX9_27 ht5 ?_
        refine ab_aload_n (pc := 53) (i := 0) dX9_comparesRows_53 rfl rfl ?_
        obtain ⟨t6, ht6, hk⟩ := ab_bnd hk
        refine ab_getR (pc := 54) dX9_comparesRows_54 fl_RX9_46 ht6 ?_
        refine ab_iload (pc := 57) (i := 4) dX9_comparesRows_57 rfl ?_
        refine ab_iload (pc := 59) (i := 6) dX9_comparesRows_59 rfl ?_
        refine ab_iadd (pc := 61) dX9_comparesRows_61 ?_
        obtain ⟨t7, ht7, hk⟩ := ab_bnd hk
        refine ab_iald (pc := 62) dX9_comparesRows_62 ht7 ?_
        obtain ⟨t8, ht8, hk⟩ := ab_bnd hk
        refine ab_iald (pc := 63) dX9_comparesRows_63 ht8 ?_
        refine ab_aload_n (pc := 64) (i := 0) dX9_comparesRows_64 rfl rfl ?_
        obtain ⟨t9, ht9, hk⟩ := ab_bnd hk
        refine ab_getR (pc := 65) dX9_comparesRows_65 fl_RX9_27 ht9 ?_
        refine ab_aload_n (pc := 68) (i := 0) dX9_comparesRows_68 rfl rfl ?_
        obtain ⟨t10, ht10, hk⟩ := ab_bnd hk
        refine ab_getR (pc := 69) dX9_comparesRows_69 fl_RX9_46 ht10 ?_
        refine ab_iload (pc := 72) (i := 5) dX9_comparesRows_72 rfl ?_
        refine ab_iload (pc := 74) (i := 6) dX9_comparesRows_74 rfl ?_
        refine ab_iadd (pc := 76) dX9_comparesRows_76 ?_
        obtain ⟨t11, ht11, hk⟩ := ab_bnd hk
        refine ab_iald (pc := 77) dX9_comparesRows_77 ht11 ?_
        obtain ⟨t12, ht12, hk⟩ := ab_bnd hk
        refine ab_iald (pc := 78) dX9_comparesRows_78 ht12 ?_
        refine ab_isub (pc := 79) dX9_comparesRows_79 ?_
        refine ab_istore (pc := 80) (i := 7) (lv2 := [some (ab_R v0), none, none, none, some (ab_I v4), some (ab_I v5), some (ab_I v6), some (ab_I (ab_w32 (t8 - t12)))]) dX9_comparesRows_80 (Nat.le_of_ble_eq_true rfl) rfl rfl ?_
        refine ab_iload (pc := 82) (i := 7) dX9_comparesRows_82 rfl ?_
        refine ab_if_eq (pc := 84) (tgt := 90) dX9_comparesRows_84 rfl (fun hc => ?_) (fun hc => ?_)
        · have hk := ab_ifp hk hc
          refine ab_iinc (pc := 90) (i := 6) (lv2 := [some (ab_R v0), none, none, none, some (ab_I v4), some (ab_I v5), some (ab_I (ab_w32 (v6 + (1 : Int)))), some (ab_I (ab_w32 (t8 - t12)))]) dX9_comparesRows_90 rfl (Nat.le_of_ble_eq_true rfl) rfl rfl ?_
          refine ab_goto (pc := 93) (tgt := 25) dX9_comparesRows_93 rfl ?_
          refine ab_sub_ (lv2 := [some (ab_R v0), none, none, none, some (ab_I v4), some (ab_I v5), some (ab_I (ab_w32 (v6 + (1 : Int)))), none]) (ab_ss (ab_sn (ab_sn (ab_sn (ab_ss (ab_ss (ab_ss (ab_sn ab_s0)))))))) ?_
          exact ih _ _ _ _ _ _ hk
        · have hk := ab_ifn hk hc
          refine ab_iload (pc := 87) (i := 7) dX9_comparesRows_87 rfl ?_
          obtain rfl := Option.some.inj hk
          exact ab_reti (pc := 89) dX9_comparesRows_89 (Or.inl rfl)
noncomputable def f_X9_comparesRows (a0 : Int) (a1 : Int) (a2 : Int) (a3 : Int) (h : ab_H) : Option (Int × ab_H) :=
  f_X9_comparesRows_L25 (fun w96_0 w96_4 w96_5 hx96 =>
    f_X9_comparesRows_J96 w96_0 w96_4 w96_5 hx96) ab_FU a0 (ab_w32 ((ab_w32 ((12 : Int) * a1)) + (ab_w32 ((6 : Int) * a3)))) (ab_w32 ((ab_w32 ((12 : Int) * a2)) + (ab_w32 ((6 : Int) * a3)))) (1 : Int) h
set_option maxRecDepth 20000 in
theorem ct_X9_comparesRows {a0 a1 a2 a3 : Int} {h : ab_H} {q : Int × ab_H} (hk : f_X9_comparesRows a0 a1 a2 a3 h = some q) : ab_CT yX9_comparesRows cX9_comparesRows 8 (some .int) 0 0 [ab_R a0, ab_I a1, ab_I a2, ab_I a3] h (some (ab_I q.1)) q.2 := by
  refine ab_CT.mk_ 4 (own := RX9) (ini := false) (lv := [some (ab_R a0), some (ab_I a1), some (ab_I a2), some (ab_I a3), none, none, none, none]) rfl (by decide +kernel) (fun q => by cases q) rfl rfl ?_
  unfold f_X9_comparesRows at hk
  show ab_E mm_X9_comparesRows cX9_comparesRows 0 _ [] h _ _
  refine ab_bipush (pc := 0) dX9_comparesRows_0 ab_p8_12 ab_k_12 ?_
  refine ab_iload_n (pc := 2) (i := 1) dX9_comparesRows_2 rfl rfl ?_
  refine ab_imul (pc := 3) dX9_comparesRows_3 ?_
  refine ab_bipush (pc := 4) dX9_comparesRows_4 ab_p8_6 ab_k_6 ?_
  refine ab_iload_n (pc := 6) (i := 3) dX9_comparesRows_6 rfl rfl ?_
  refine ab_imul (pc := 7) dX9_comparesRows_7 ?_
  refine ab_iadd (pc := 8) dX9_comparesRows_8 ?_
  refine ab_istore (pc := 9) (i := 4) (lv2 := [some (ab_R a0), some (ab_I a1), some (ab_I a2), some (ab_I a3), some (ab_I (ab_w32 ((ab_w32 ((12 : Int) * a1)) + (ab_w32 ((6 : Int) * a3))))), none, none, none]) dX9_comparesRows_9 (Nat.le_of_ble_eq_true rfl) rfl rfl ?_
  refine ab_bipush (pc := 11) dX9_comparesRows_11 ab_p8_12 ab_k_12 ?_
  refine ab_iload_n (pc := 13) (i := 2) dX9_comparesRows_13 rfl rfl ?_
  refine ab_imul (pc := 14) dX9_comparesRows_14 ?_
  refine ab_bipush (pc := 15) dX9_comparesRows_15 ab_p8_6 ab_k_6 ?_
  refine ab_iload_n (pc := 17) (i := 3) dX9_comparesRows_17 rfl rfl ?_
  refine ab_imul (pc := 18) dX9_comparesRows_18 ?_
  refine ab_iadd (pc := 19) dX9_comparesRows_19 ?_
  refine ab_istore (pc := 20) (i := 5) (lv2 := [some (ab_R a0), some (ab_I a1), some (ab_I a2), some (ab_I a3), some (ab_I (ab_w32 ((ab_w32 ((12 : Int) * a1)) + (ab_w32 ((6 : Int) * a3))))), some (ab_I (ab_w32 ((ab_w32 ((12 : Int) * a2)) + (ab_w32 ((6 : Int) * a3))))), none, none]) dX9_comparesRows_20 (Nat.le_of_ble_eq_true rfl) rfl rfl ?_
  refine ab_iconst (pc := 22) dX9_comparesRows_22 ab_k_1 ?_
  refine ab_istore (pc := 23) (i := 6) (lv2 := [some (ab_R a0), some (ab_I a1), some (ab_I a2), some (ab_I a3), some (ab_I (ab_w32 ((ab_w32 ((12 : Int) * a1)) + (ab_w32 ((6 : Int) * a3))))), some (ab_I (ab_w32 ((ab_w32 ((12 : Int) * a2)) + (ab_w32 ((6 : Int) * a3))))), some (ab_I (1 : Int)), none]) dX9_comparesRows_23 (Nat.le_of_ble_eq_true rfl) rfl rfl ?_
  refine ab_sub_ (lv2 := [some (ab_R a0), none, none, none, some (ab_I (ab_w32 ((ab_w32 ((12 : Int) * a1)) + (ab_w32 ((6 : Int) * a3))))), some (ab_I (ab_w32 ((ab_w32 ((12 : Int) * a2)) + (ab_w32 ((6 : Int) * a3))))), some (ab_I (1 : Int)), none]) (ab_ss (ab_sn (ab_sn (ab_sn (ab_ss (ab_ss (ab_ss (ab_sn ab_s0)))))))) ?_
  refine e_X9_comparesRows_L25 (fun w96_0 w96_4 w96_5 hx96 q hk => ?_) _ _ _ _ _ _ _ hk
  · skip
    refine ab_sub_ (lv2 := [some (ab_R w96_0), none, none, none, some (ab_I w96_4), some (ab_I w96_5), none, none]) (ab_ss (ab_sn (ab_sn (ab_sn (ab_ss (ab_ss (ab_sn (ab_sn ab_s0)))))))) ?_
    exact e_X9_comparesRows_J96 _ _ _ _ _ hk
theorem dX9_comparesWords_0 : decode cX9_comparesWords 0 = .ok (.aload_n 0, 1) := by decide +kernel
theorem dX9_comparesWords_1 : decode cX9_comparesWords 1 = .ok (.iload_n 1, 1) := by decide +kernel
theorem dX9_comparesWords_2 : decode cX9_comparesWords 2 = .ok (.invokevirtual 274, 3) := by decide +kernel
theorem dX9_comparesWords_5 : decode cX9_comparesWords 5 = .ok (.aload_n 0, 1) := by decide +kernel
theorem dX9_comparesWords_6 : decode cX9_comparesWords 6 = .ok (.iload_n 2, 1) := by decide +kernel
theorem dX9_comparesWords_7 : decode cX9_comparesWords 7 = .ok (.invokevirtual 274, 3) := by decide +kernel
theorem dX9_comparesWords_10 : decode cX9_comparesWords 10 = .ok (.isub, 1) := by decide +kernel
theorem dX9_comparesWords_11 : decode cX9_comparesWords 11 = .ok (.istore_n 3, 1) := by decide +kernel
theorem dX9_comparesWords_12 : decode cX9_comparesWords 12 = .ok (.iload_n 3, 1) := by decide +kernel
theorem dX9_comparesWords_13 : decode cX9_comparesWords 13 = .ok (.ifCond .ne 11, 3) := by decide +kernel
theorem dX9_comparesWords_16 : decode cX9_comparesWords 16 = .ok (.aload_n 0, 1) := by decide +kernel
theorem dX9_comparesWords_17 : decode cX9_comparesWords 17 = .ok (.iload_n 1, 1) := by decide +kernel
theorem dX9_comparesWords_18 : decode cX9_comparesWords 18 = .ok (.iload_n 2, 1) := by decide +kernel
theorem dX9_comparesWords_19 : decode cX9_comparesWords 19 = .ok (.iconst 0, 1) := by decide +kernel
theorem dX9_comparesWords_20 : decode cX9_comparesWords 20 = .ok (.invokevirtual 277, 3) := by decide +kernel
theorem dX9_comparesWords_23 : decode cX9_comparesWords 23 = .ok (.istore_n 3, 1) := by decide +kernel
theorem dX9_comparesWords_24 : decode cX9_comparesWords 24 = .ok (.iload_n 3, 1) := by decide +kernel
theorem dX9_comparesWords_25 : decode cX9_comparesWords 25 = .ok (.ifCond .eq 7, 3) := by decide +kernel
theorem dX9_comparesWords_28 : decode cX9_comparesWords 28 = .ok (.iload_n 3, 1) := by decide +kernel
theorem dX9_comparesWords_29 : decode cX9_comparesWords 29 = .ok (.goto 10, 3) := by decide +kernel
theorem dX9_comparesWords_32 : decode cX9_comparesWords 32 = .ok (.aload_n 0, 1) := by decide +kernel
theorem dX9_comparesWords_33 : decode cX9_comparesWords 33 = .ok (.iload_n 1, 1) := by decide +kernel
theorem dX9_comparesWords_34 : decode cX9_comparesWords 34 = .ok (.iload_n 2, 1) := by decide +kernel
theorem dX9_comparesWords_35 : decode cX9_comparesWords 35 = .ok (.iconst 1, 1) := by decide +kernel
theorem dX9_comparesWords_36 : decode cX9_comparesWords 36 = .ok (.invokevirtual 277, 3) := by decide +kernel
theorem dX9_comparesWords_39 : decode cX9_comparesWords 39 = .ok (.ireturn, 1) := by decide +kernel
abbrev mm_X9_comparesWords : ab_M := (RX9, 4, (some .int), false, 2, 42, none)
noncomputable def f_X9_comparesWords_J24 (v0 : Int) (v1 : Int) (v2 : Int) (v3 : Int) (h : ab_H) : Option (Int × ab_H) :=
  if v3 = (0 : Int) then
    (ab_on h 10 v0 (f_X9_comparesRows v0 v1 v2 (1 : Int) h)).bind fun q1 =>
    some (q1.1, q1.2)
  else
  some (v3, h)
set_option maxRecDepth 20000 in
theorem e_X9_comparesWords_J24 : ∀ (v0 : Int) (v1 : Int) (v2 : Int) (v3 : Int) (h : ab_H) (q : Int × ab_H), f_X9_comparesWords_J24 v0 v1 v2 v3 h = some q → ab_E mm_X9_comparesWords cX9_comparesWords 24 [some (ab_R v0), some (ab_I v1), some (ab_I v2), some (ab_I v3)] [] h (some (ab_I q.1)) q.2 := by
  intro v0 v1 v2 v3 h q hk
  unfold f_X9_comparesWords_J24 at hk
  refine ab_iload_n (pc := 24) (i := 3) dX9_comparesWords_24 rfl rfl ?_
  refine ab_if_eq (pc := 25) (tgt := 32) dX9_comparesWords_25 rfl (fun hc => ?_) (fun hc => ?_)
  · have hk := ab_ifp hk hc
    refine ab_aload_n (pc := 32) (i := 0) dX9_comparesWords_32 rfl rfl ?_
    refine ab_iload_n (pc := 33) (i := 1) dX9_comparesWords_33 rfl rfl ?_
    refine ab_iload_n (pc := 34) (i := 2) dX9_comparesWords_34 rfl rfl ?_
    refine ab_iconst (pc := 35) dX9_comparesWords_35 ab_k_1 ?_
    obtain ⟨q1, hq1, hk⟩ := ab_bnd hk
    obtain ⟨hb, hq1⟩ := ab_on_some hq1
    refine ab_callVI (st := []) (as := [ab_I v1, ab_I v2, ab_I (1 : Int)]) (b := v0) (pc := 36) dX9_comparesWords_36 ml_RX9_277 my_X9_comparesRows mv_X9_comparesRows hb (ct_X9_comparesRows hq1) ⟨Nat.le_of_ble_eq_true rfl, Nat.le_of_ble_eq_true rfl⟩ rfl (Nat.le_of_ble_eq_true rfl) rfl ?_
    obtain rfl := Option.some.inj hk
    exact ab_reti (pc := 39) dX9_comparesWords_39 (Or.inl rfl)
  · have hk := ab_ifn hk hc
    refine ab_iload_n (pc := 28) (i := 3) dX9_comparesWords_28 rfl rfl ?_
    refine ab_goto (pc := 29) (tgt := 39) dX9_comparesWords_29 rfl ?_
    obtain rfl := Option.some.inj hk
    exact ab_reti (pc := 39) dX9_comparesWords_39 (Or.inl rfl)
noncomputable def f_X9_comparesWords (a0 : Int) (a1 : Int) (a2 : Int) (h : ab_H) : Option (Int × ab_H) :=
  (ab_on h 10 a0 (f_X9_leadWord a0 a1 h)).bind fun q1 =>
  (ab_on q1.2 10 a0 (f_X9_leadWord a0 a2 q1.2)).bind fun q2 =>
  if ab_w32 (q1.1 - q2.1) = (0 : Int) then
    (ab_on q2.2 10 a0 (f_X9_comparesRows a0 a1 a2 (0 : Int) q2.2)).bind fun q3 =>
    f_X9_comparesWords_J24 a0 a1 a2 q3.1 q3.2
  else
  f_X9_comparesWords_J24 a0 a1 a2 (ab_w32 (q1.1 - q2.1)) q2.2
set_option maxRecDepth 20000 in
theorem ct_X9_comparesWords {a0 a1 a2 : Int} {h : ab_H} {q : Int × ab_H} (hk : f_X9_comparesWords a0 a1 a2 h = some q) : ab_CT yX9_comparesWords cX9_comparesWords 4 (some .int) 2 42 [ab_R a0, ab_I a1, ab_I a2] h (some (ab_I q.1)) q.2 := by
  refine ab_CT.mk_ 1 (own := RX9) (ini := false) (lv := [some (ab_R a0), some (ab_I a1), some (ab_I a2), none]) rfl (by decide +kernel) (fun q => by cases q) rfl rfl ?_
  unfold f_X9_comparesWords at hk
  show ab_E mm_X9_comparesWords cX9_comparesWords 0 _ [] h _ _
  refine ab_aload_n (pc := 0) (i := 0) dX9_comparesWords_0 rfl rfl ?_
  refine ab_iload_n (pc := 1) (i := 1) dX9_comparesWords_1 rfl rfl ?_
  obtain ⟨q1, hq1, hk⟩ := ab_bnd hk
  obtain ⟨hb, hq1⟩ := ab_on_some hq1
  refine ab_callVI (st := []) (as := [ab_I a1]) (b := a0) (pc := 2) dX9_comparesWords_2 ml_RX9_274 my_X9_leadWord mv_X9_leadWord hb (ct_X9_leadWord hq1) ⟨Nat.le_of_ble_eq_true rfl, Nat.le_of_ble_eq_true rfl⟩ rfl (Nat.le_of_ble_eq_true rfl) rfl ?_
  refine ab_aload_n (pc := 5) (i := 0) dX9_comparesWords_5 rfl rfl ?_
  refine ab_iload_n (pc := 6) (i := 2) dX9_comparesWords_6 rfl rfl ?_
  obtain ⟨q2, hq2, hk⟩ := ab_bnd hk
  obtain ⟨hb, hq2⟩ := ab_on_some hq2
  refine ab_callVI (st := [ab_I q1.1]) (as := [ab_I a2]) (b := a0) (pc := 7) dX9_comparesWords_7 ml_RX9_274 my_X9_leadWord mv_X9_leadWord hb (ct_X9_leadWord hq2) ⟨Nat.le_of_ble_eq_true rfl, Nat.le_of_ble_eq_true rfl⟩ rfl (Nat.le_of_ble_eq_true rfl) rfl ?_
  refine ab_isub (pc := 10) dX9_comparesWords_10 ?_
  refine ab_istore_n (pc := 11) (i := 3) (lv2 := [some (ab_R a0), some (ab_I a1), some (ab_I a2), some (ab_I (ab_w32 (q1.1 - q2.1)))]) dX9_comparesWords_11 rfl (Nat.le_of_ble_eq_true rfl) rfl rfl ?_
  refine ab_iload_n (pc := 12) (i := 3) dX9_comparesWords_12 rfl rfl ?_
  refine ab_if_ne (pc := 13) (tgt := 24) dX9_comparesWords_13 rfl (fun hc => ?_) (fun hc => ?_)
  · have hk := ab_ifn hk hc
    refine ab_sub_ (lv2 := [some (ab_R a0), some (ab_I a1), some (ab_I a2), some (ab_I (ab_w32 (q1.1 - q2.1)))]) (ab_ss (ab_ss (ab_ss (ab_ss ab_s0)))) ?_
    exact e_X9_comparesWords_J24 _ _ _ _ _ _ hk
  · have hk := ab_ifp hk hc
    refine ab_aload_n (pc := 16) (i := 0) dX9_comparesWords_16 rfl rfl ?_
    refine ab_iload_n (pc := 17) (i := 1) dX9_comparesWords_17 rfl rfl ?_
    refine ab_iload_n (pc := 18) (i := 2) dX9_comparesWords_18 rfl rfl ?_
    refine ab_iconst (pc := 19) dX9_comparesWords_19 ab_k_0 ?_
    obtain ⟨q3, hq3, hk⟩ := ab_bnd hk
    obtain ⟨hb, hq3⟩ := ab_on_some hq3
    refine ab_callVI (st := []) (as := [ab_I a1, ab_I a2, ab_I (0 : Int)]) (b := a0) (pc := 20) dX9_comparesWords_20 ml_RX9_277 my_X9_comparesRows mv_X9_comparesRows hb (ct_X9_comparesRows hq3) ⟨Nat.le_of_ble_eq_true rfl, Nat.le_of_ble_eq_true rfl⟩ rfl (Nat.le_of_ble_eq_true rfl) rfl ?_
    refine ab_istore_n (pc := 23) (i := 3) (lv2 := [some (ab_R a0), some (ab_I a1), some (ab_I a2), some (ab_I q3.1)]) dX9_comparesWords_23 rfl (Nat.le_of_ble_eq_true rfl) rfl rfl ?_
    refine ab_sub_ (lv2 := [some (ab_R a0), some (ab_I a1), some (ab_I a2), some (ab_I q3.1)]) (ab_ss (ab_ss (ab_ss (ab_ss ab_s0)))) ?_
    exact e_X9_comparesWords_J24 _ _ _ _ _ _ hk
theorem dX9_compares_0 : decode cX9_compares 0 = .ok (.aload_n 0, 1) := by decide +kernel
theorem dX9_compares_1 : decode cX9_compares 1 = .ok (.iload_n 1, 1) := by decide +kernel
theorem dX9_compares_2 : decode cX9_compares 2 = .ok (.iload_n 2, 1) := by decide +kernel
theorem dX9_compares_3 : decode cX9_compares 3 = .ok (.invokevirtual 281, 3) := by decide +kernel
theorem dX9_compares_6 : decode cX9_compares 6 = .ok (.istore_n 3, 1) := by decide +kernel
theorem dX9_compares_7 : decode cX9_compares 7 = .ok (.iload_n 3, 1) := by decide +kernel
theorem dX9_compares_8 : decode cX9_compares 8 = .ok (.ifCond .ne 25, 3) := by decide +kernel
theorem dX9_compares_11 : decode cX9_compares 11 = .ok (.aload_n 0, 1) := by decide +kernel
theorem dX9_compares_12 : decode cX9_compares 12 = .ok (.aload_n 0, 1) := by decide +kernel
theorem dX9_compares_13 : decode cX9_compares 13 = .ok (.getfield 31, 3) := by decide +kernel
theorem dX9_compares_16 : decode cX9_compares 16 = .ok (.iload_n 1, 1) := by decide +kernel
theorem dX9_compares_17 : decode cX9_compares 17 = .ok (.iaload, 1) := by decide +kernel
theorem dX9_compares_18 : decode cX9_compares 18 = .ok (.invokevirtual 284, 3) := by decide +kernel
theorem dX9_compares_21 : decode cX9_compares 21 = .ok (.aload_n 0, 1) := by decide +kernel
theorem dX9_compares_22 : decode cX9_compares 22 = .ok (.aload_n 0, 1) := by decide +kernel
theorem dX9_compares_23 : decode cX9_compares 23 = .ok (.getfield 31, 3) := by decide +kernel
theorem dX9_compares_26 : decode cX9_compares 26 = .ok (.iload_n 2, 1) := by decide +kernel
theorem dX9_compares_27 : decode cX9_compares 27 = .ok (.iaload, 1) := by decide +kernel
theorem dX9_compares_28 : decode cX9_compares 28 = .ok (.invokevirtual 284, 3) := by decide +kernel
theorem dX9_compares_31 : decode cX9_compares 31 = .ok (.isub, 1) := by decide +kernel
theorem dX9_compares_32 : decode cX9_compares 32 = .ok (.istore_n 3, 1) := by decide +kernel
theorem dX9_compares_33 : decode cX9_compares 33 = .ok (.iload_n 3, 1) := by decide +kernel
theorem dX9_compares_34 : decode cX9_compares 34 = .ok (.ifCond .eq 7, 3) := by decide +kernel
theorem dX9_compares_37 : decode cX9_compares 37 = .ok (.iload_n 3, 1) := by decide +kernel
theorem dX9_compares_38 : decode cX9_compares 38 = .ok (.goto 16, 3) := by decide +kernel
theorem dX9_compares_41 : decode cX9_compares 41 = .ok (.aload_n 0, 1) := by decide +kernel
theorem dX9_compares_42 : decode cX9_compares 42 = .ok (.getfield 34, 3) := by decide +kernel
theorem dX9_compares_45 : decode cX9_compares 45 = .ok (.iload_n 1, 1) := by decide +kernel
theorem dX9_compares_46 : decode cX9_compares 46 = .ok (.iaload, 1) := by decide +kernel
theorem dX9_compares_47 : decode cX9_compares 47 = .ok (.aload_n 0, 1) := by decide +kernel
theorem dX9_compares_48 : decode cX9_compares 48 = .ok (.getfield 34, 3) := by decide +kernel
theorem dX9_compares_51 : decode cX9_compares 51 = .ok (.iload_n 2, 1) := by decide +kernel
theorem dX9_compares_52 : decode cX9_compares 52 = .ok (.iaload, 1) := by decide +kernel
theorem dX9_compares_53 : decode cX9_compares 53 = .ok (.isub, 1) := by decide +kernel
theorem dX9_compares_54 : decode cX9_compares 54 = .ok (.ireturn, 1) := by decide +kernel
abbrev mm_X9_compares : ab_M := (RX9, 4, (some .int), false, 3, 65, none)
noncomputable def f_X9_compares_J33 (v0 : Int) (v1 : Int) (v2 : Int) (v3 : Int) (h : ab_H) : Option (Int × ab_H) :=
  if v3 = (0 : Int) then
    (ab_get h 10 20 v0).bind fun t1 =>
    (ab_ald h 11 t1 v1).bind fun t2 =>
    (ab_get h 10 20 v0).bind fun t3 =>
    (ab_ald h 11 t3 v2).bind fun t4 =>
    some (ab_w32 (t2 - t4), h)
  else
  some (v3, h)
set_option maxRecDepth 20000 in
theorem e_X9_compares_J33 : ∀ (v0 : Int) (v1 : Int) (v2 : Int) (v3 : Int) (h : ab_H) (q : Int × ab_H), f_X9_compares_J33 v0 v1 v2 v3 h = some q → ab_E mm_X9_compares cX9_compares 33 [some (ab_R v0), some (ab_I v1), some (ab_I v2), some (ab_I v3)] [] h (some (ab_I q.1)) q.2 := by
  intro v0 v1 v2 v3 h q hk
  unfold f_X9_compares_J33 at hk
  refine ab_iload_n (pc := 33) (i := 3) dX9_compares_33 rfl rfl ?_
  refine ab_if_eq (pc := 34) (tgt := 41) dX9_compares_34 rfl (fun hc => ?_) (fun hc => ?_)
  · have hk := ab_ifp hk hc
    refine ab_aload_n (pc := 41) (i := 0) dX9_compares_41 rfl rfl ?_
    obtain ⟨t1, ht1, hk⟩ := ab_bnd hk
    refine ab_getR (pc := 42) dX9_compares_42 fl_RX9_34 ht1 ?_
    refine ab_iload_n (pc := 45) (i := 1) dX9_compares_45 rfl rfl ?_
    obtain ⟨t2, ht2, hk⟩ := ab_bnd hk
    refine ab_iald (pc := 46) dX9_compares_46 ht2 ?_
    refine ab_aload_n (pc := 47) (i := 0) dX9_compares_47 rfl rfl ?_
    obtain ⟨t3, ht3, hk⟩ := ab_bnd hk
    refine ab_getR (pc := 48) dX9_compares_48 fl_RX9_34 ht3 ?_
    refine ab_iload_n (pc := 51) (i := 2) dX9_compares_51 rfl rfl ?_
    obtain ⟨t4, ht4, hk⟩ := ab_bnd hk
    refine ab_iald (pc := 52) dX9_compares_52 ht4 ?_
    refine ab_isub (pc := 53) dX9_compares_53 ?_
    obtain rfl := Option.some.inj hk
    exact ab_reti (pc := 54) dX9_compares_54 (Or.inl rfl)
  · have hk := ab_ifn hk hc
    refine ab_iload_n (pc := 37) (i := 3) dX9_compares_37 rfl rfl ?_
    refine ab_goto (pc := 38) (tgt := 54) dX9_compares_38 rfl ?_
    obtain rfl := Option.some.inj hk
    exact ab_reti (pc := 54) dX9_compares_54 (Or.inl rfl)
noncomputable def f_X9_compares (a0 : Int) (a1 : Int) (a2 : Int) (h : ab_H) : Option (Int × ab_H) :=
  (ab_on h 10 a0 (f_X9_comparesWords a0 a1 a2 h)).bind fun q1 =>
  if q1.1 = (0 : Int) then
    (ab_get q1.2 10 19 a0).bind fun t2 =>
    (ab_ald q1.2 11 t2 a1).bind fun t3 =>
    (ab_on q1.2 10 a0 (f_X9_addressOf a0 t3 q1.2)).bind fun q4 =>
    (ab_get q4.2 10 19 a0).bind fun t5 =>
    (ab_ald q4.2 11 t5 a2).bind fun t6 =>
    (ab_on q4.2 10 a0 (f_X9_addressOf a0 t6 q4.2)).bind fun q7 =>
    f_X9_compares_J33 a0 a1 a2 (ab_w32 (q4.1 - q7.1)) q7.2
  else
  f_X9_compares_J33 a0 a1 a2 q1.1 q1.2
set_option maxRecDepth 20000 in
theorem ct_X9_compares {a0 a1 a2 : Int} {h : ab_H} {q : Int × ab_H} (hk : f_X9_compares a0 a1 a2 h = some q) : ab_CT yX9_compares cX9_compares 4 (some .int) 3 65 [ab_R a0, ab_I a1, ab_I a2] h (some (ab_I q.1)) q.2 := by
  refine ab_CT.mk_ 1 (own := RX9) (ini := false) (lv := [some (ab_R a0), some (ab_I a1), some (ab_I a2), none]) rfl (by decide +kernel) (fun q => by cases q) rfl rfl ?_
  unfold f_X9_compares at hk
  show ab_E mm_X9_compares cX9_compares 0 _ [] h _ _
  refine ab_aload_n (pc := 0) (i := 0) dX9_compares_0 rfl rfl ?_
  refine ab_iload_n (pc := 1) (i := 1) dX9_compares_1 rfl rfl ?_
  refine ab_iload_n (pc := 2) (i := 2) dX9_compares_2 rfl rfl ?_
  obtain ⟨q1, hq1, hk⟩ := ab_bnd hk
  obtain ⟨hb, hq1⟩ := ab_on_some hq1
  refine ab_callVI (st := []) (as := [ab_I a1, ab_I a2]) (b := a0) (pc := 3) dX9_compares_3 ml_RX9_281 my_X9_comparesWords mv_X9_comparesWords hb (ct_X9_comparesWords hq1) ⟨Nat.le_of_ble_eq_true rfl, Nat.le_of_ble_eq_true rfl⟩ rfl (Nat.le_of_ble_eq_true rfl) rfl ?_
  refine ab_istore_n (pc := 6) (i := 3) (lv2 := [some (ab_R a0), some (ab_I a1), some (ab_I a2), some (ab_I q1.1)]) dX9_compares_6 rfl (Nat.le_of_ble_eq_true rfl) rfl rfl ?_
  refine ab_iload_n (pc := 7) (i := 3) dX9_compares_7 rfl rfl ?_
  refine ab_if_ne (pc := 8) (tgt := 33) dX9_compares_8 rfl (fun hc => ?_) (fun hc => ?_)
  · have hk := ab_ifn hk hc
    refine ab_sub_ (lv2 := [some (ab_R a0), some (ab_I a1), some (ab_I a2), some (ab_I q1.1)]) (ab_ss (ab_ss (ab_ss (ab_ss ab_s0)))) ?_
    exact e_X9_compares_J33 _ _ _ _ _ _ hk
  · have hk := ab_ifp hk hc
    refine ab_aload_n (pc := 11) (i := 0) dX9_compares_11 rfl rfl ?_
    refine ab_aload_n (pc := 12) (i := 0) dX9_compares_12 rfl rfl ?_
    obtain ⟨t2, ht2, hk⟩ := ab_bnd hk
    refine ab_getR (pc := 13) dX9_compares_13 fl_RX9_31 ht2 ?_
    refine ab_iload_n (pc := 16) (i := 1) dX9_compares_16 rfl rfl ?_
    obtain ⟨t3, ht3, hk⟩ := ab_bnd hk
    refine ab_iald (pc := 17) dX9_compares_17 ht3 ?_
    obtain ⟨q4, hq4, hk⟩ := ab_bnd hk
    obtain ⟨hb, hq4⟩ := ab_on_some hq4
    refine ab_callVI (st := []) (as := [ab_I t3]) (b := a0) (pc := 18) dX9_compares_18 ml_RX9_284 my_X9_addressOf mv_X9_addressOf hb (ct_X9_addressOf hq4) ⟨Nat.le_of_ble_eq_true rfl, Nat.le_of_ble_eq_true rfl⟩ rfl (Nat.le_of_ble_eq_true rfl) rfl ?_
    refine ab_aload_n (pc := 21) (i := 0) dX9_compares_21 rfl rfl ?_
    refine ab_aload_n (pc := 22) (i := 0) dX9_compares_22 rfl rfl ?_
    obtain ⟨t5, ht5, hk⟩ := ab_bnd hk
    refine ab_getR (pc := 23) dX9_compares_23 fl_RX9_31 ht5 ?_
    refine ab_iload_n (pc := 26) (i := 2) dX9_compares_26 rfl rfl ?_
    obtain ⟨t6, ht6, hk⟩ := ab_bnd hk
    refine ab_iald (pc := 27) dX9_compares_27 ht6 ?_
    obtain ⟨q7, hq7, hk⟩ := ab_bnd hk
    obtain ⟨hb, hq7⟩ := ab_on_some hq7
    refine ab_callVI (st := [ab_I q4.1]) (as := [ab_I t6]) (b := a0) (pc := 28) dX9_compares_28 ml_RX9_284 my_X9_addressOf mv_X9_addressOf hb (ct_X9_addressOf hq7) ⟨Nat.le_of_ble_eq_true rfl, Nat.le_of_ble_eq_true rfl⟩ rfl (Nat.le_of_ble_eq_true rfl) rfl ?_
    refine ab_isub (pc := 31) dX9_compares_31 ?_
    refine ab_istore_n (pc := 32) (i := 3) (lv2 := [some (ab_R a0), some (ab_I a1), some (ab_I a2), some (ab_I (ab_w32 (q4.1 - q7.1)))]) dX9_compares_32 rfl (Nat.le_of_ble_eq_true rfl) rfl rfl ?_
    refine ab_sub_ (lv2 := [some (ab_R a0), some (ab_I a1), some (ab_I a2), some (ab_I (ab_w32 (q4.1 - q7.1)))]) (ab_ss (ab_ss (ab_ss (ab_ss ab_s0)))) ?_
    exact e_X9_compares_J33 _ _ _ _ _ _ hk
theorem dX9_laysBy_0 : decode cX9_laysBy 0 = .ok (.aload_n 0, 1) := by decide +kernel
theorem dX9_laysBy_1 : decode cX9_laysBy 1 = .ok (.invokevirtual 287, 3) := by decide +kernel
theorem dX9_laysBy_4 : decode cX9_laysBy 4 = .ok (.aload_n 0, 1) := by decide +kernel
theorem dX9_laysBy_5 : decode cX9_laysBy 5 = .ok (.iconst 0, 1) := by decide +kernel
theorem dX9_laysBy_6 : decode cX9_laysBy 6 = .ok (.putfield 267, 3) := by decide +kernel
theorem dX9_laysBy_9 : decode cX9_laysBy 9 = .ok (.iconst 0, 1) := by decide +kernel
theorem dX9_laysBy_10 : decode cX9_laysBy 10 = .ok (.istore_n 3, 1) := by decide +kernel
theorem dX9_laysBy_11 : decode cX9_laysBy 11 = .ok (.iload_n 3, 1) := by decide +kernel
theorem dX9_laysBy_12 : decode cX9_laysBy 12 = .ok (.aload_n 0, 1) := by decide +kernel
theorem dX9_laysBy_13 : decode cX9_laysBy 13 = .ok (.invokevirtual 246, 3) := by decide +kernel
theorem dX9_laysBy_16 : decode cX9_laysBy 16 = .ok (.if_icmp .ge 75, 3) := by decide +kernel
theorem dX9_laysBy_19 : decode cX9_laysBy 19 = .ok (.iconst 0, 1) := by decide +kernel
theorem dX9_laysBy_20 : decode cX9_laysBy 20 = .ok (.istore 4, 2) := by decide +kernel
theorem dX9_laysBy_22 : decode cX9_laysBy 22 = .ok (.iload 4, 2) := by decide +kernel
theorem dX9_laysBy_24 : decode cX9_laysBy 24 = .ok (.aload_n 0, 1) := by decide +kernel
theorem dX9_laysBy_25 : decode cX9_laysBy 25 = .ok (.iload_n 3, 1) := by decide +kernel
theorem dX9_laysBy_26 : decode cX9_laysBy 26 = .ok (.invokevirtual 255, 3) := by decide +kernel
theorem dX9_laysBy_29 : decode cX9_laysBy 29 = .ok (.if_icmp .ge 56, 3) := by decide +kernel
theorem dX9_laysBy_32 : decode cX9_laysBy 32 = .ok (.aload_n 0, 1) := by decide +kernel
theorem dX9_laysBy_33 : decode cX9_laysBy 33 = .ok (.iload_n 3, 1) := by decide +kernel
theorem dX9_laysBy_34 : decode cX9_laysBy 34 = .ok (.iload 4, 2) := by decide +kernel
theorem dX9_laysBy_36 : decode cX9_laysBy 36 = .ok (.invokevirtual 290, 3) := by decide +kernel
theorem dX9_laysBy_39 : decode cX9_laysBy 39 = .ok (.ifCond .eq 40, 3) := by decide +kernel
theorem dX9_laysBy_42 : decode cX9_laysBy 42 = .ok (.aload_n 0, 1) := by decide +kernel
theorem dX9_laysBy_43 : decode cX9_laysBy 43 = .ok (.iload_n 3, 1) := by decide +kernel
theorem dX9_laysBy_44 : decode cX9_laysBy 44 = .ok (.iload 4, 2) := by decide +kernel
theorem dX9_laysBy_46 : decode cX9_laysBy 46 = .ok (.aload_n 0, 1) := by decide +kernel
theorem dX9_laysBy_47 : decode cX9_laysBy 47 = .ok (.iload_n 3, 1) := by decide +kernel
theorem dX9_laysBy_48 : decode cX9_laysBy 48 = .ok (.iload 4, 2) := by decide +kernel
theorem dX9_laysBy_50 : decode cX9_laysBy 50 = .ok (.invokevirtual 294, 3) := by decide +kernel
theorem dX9_laysBy_53 : decode cX9_laysBy 53 = .ok (.iload_n 1, 1) := by decide +kernel
theorem dX9_laysBy_54 : decode cX9_laysBy 54 = .ok (.if_icmp .ne 7, 3) := by decide +kernel
theorem dX9_laysBy_57 : decode cX9_laysBy 57 = .ok (.iload_n 2, 1) := by decide +kernel
theorem dX9_laysBy_58 : decode cX9_laysBy 58 = .ok (.goto 18, 3) := by decide +kernel
theorem dX9_laysBy_61 : decode cX9_laysBy 61 = .ok (.aload_n 0, 1) := by decide +kernel
theorem dX9_laysBy_62 : decode cX9_laysBy 62 = .ok (.getfield 9, 3) := by decide +kernel
theorem dX9_laysBy_65 : decode cX9_laysBy 65 = .ok (.iconst 2, 1) := by decide +kernel
theorem dX9_laysBy_66 : decode cX9_laysBy 66 = .ok (.aload_n 0, 1) := by decide +kernel
theorem dX9_laysBy_67 : decode cX9_laysBy 67 = .ok (.iload_n 3, 1) := by decide +kernel
theorem dX9_laysBy_68 : decode cX9_laysBy 68 = .ok (.iload 4, 2) := by decide +kernel
theorem dX9_laysBy_70 : decode cX9_laysBy 70 = .ok (.invokevirtual 294, 3) := by decide +kernel
theorem dX9_laysBy_73 : decode cX9_laysBy 73 = .ok (.iadd, 1) := by decide +kernel
theorem dX9_laysBy_74 : decode cX9_laysBy 74 = .ok (.laload, 1) := by decide +kernel
theorem dX9_laysBy_75 : decode cX9_laysBy 75 = .ok (.l2i, 1) := by decide +kernel
theorem dX9_laysBy_76 : decode cX9_laysBy 76 = .ok (.invokevirtual 297, 3) := by decide +kernel
theorem dX9_laysBy_79 : decode cX9_laysBy 79 = .ok (.iinc 4 1, 3) := by decide +kernel
theorem dX9_laysBy_82 : decode cX9_laysBy 82 = .ok (.goto (-60), 3) := by decide +kernel
theorem dX9_laysBy_85 : decode cX9_laysBy 85 = .ok (.iinc 3 1, 3) := by decide +kernel
theorem dX9_laysBy_88 : decode cX9_laysBy 88 = .ok (.goto (-77), 3) := by decide +kernel
theorem dX9_laysBy_91 : decode cX9_laysBy 91 = .ok (.iconst 0, 1) := by decide +kernel
theorem dX9_laysBy_92 : decode cX9_laysBy 92 = .ok (.istore_n 3, 1) := by decide +kernel
theorem dX9_laysBy_93 : decode cX9_laysBy 93 = .ok (.iload_n 3, 1) := by decide +kernel
theorem dX9_laysBy_94 : decode cX9_laysBy 94 = .ok (.aload_n 0, 1) := by decide +kernel
theorem dX9_laysBy_95 : decode cX9_laysBy 95 = .ok (.getfield 267, 3) := by decide +kernel
theorem dX9_laysBy_98 : decode cX9_laysBy 98 = .ok (.if_icmp .ge 64, 3) := by decide +kernel
theorem dX9_laysBy_101 : decode cX9_laysBy 101 = .ok (.iload_n 3, 1) := by decide +kernel
theorem dX9_laysBy_102 : decode cX9_laysBy 102 = .ok (.istore 4, 2) := by decide +kernel
theorem dX9_laysBy_104 : decode cX9_laysBy 104 = .ok (.iload 4, 2) := by decide +kernel
theorem dX9_laysBy_106 : decode cX9_laysBy 106 = .ok (.ifCond .le 42, 3) := by decide +kernel
theorem dX9_laysBy_109 : decode cX9_laysBy 109 = .ok (.aload_n 0, 1) := by decide +kernel
theorem dX9_laysBy_110 : decode cX9_laysBy 110 = .ok (.aload_n 0, 1) := by decide +kernel
theorem dX9_laysBy_111 : decode cX9_laysBy 111 = .ok (.getfield 49, 3) := by decide +kernel
theorem dX9_laysBy_114 : decode cX9_laysBy 114 = .ok (.iload 4, 2) := by decide +kernel
theorem dX9_laysBy_116 : decode cX9_laysBy 116 = .ok (.iconst 1, 1) := by decide +kernel
theorem dX9_laysBy_117 : decode cX9_laysBy 117 = .ok (.isub, 1) := by decide +kernel
theorem dX9_laysBy_118 : decode cX9_laysBy 118 = .ok (.iaload, 1) := by decide +kernel
theorem dX9_laysBy_119 : decode cX9_laysBy 119 = .ok (.iload_n 3, 1) := by decide +kernel
theorem dX9_laysBy_120 : decode cX9_laysBy 120 = .ok (.invokevirtual 300, 3) := by decide +kernel
theorem dX9_laysBy_123 : decode cX9_laysBy 123 = .ok (.ifCond .le 25, 3) := by decide +kernel
theorem dX9_laysBy_126 : decode cX9_laysBy 126 = .ok (.aload_n 0, 1) := by decide +kernel
theorem dX9_laysBy_127 : decode cX9_laysBy 127 = .ok (.getfield 49, 3) := by decide +kernel
theorem dX9_laysBy_130 : decode cX9_laysBy 130 = .ok (.iload 4, 2) := by decide +kernel
theorem dX9_laysBy_132 : decode cX9_laysBy 132 = .ok (.aload_n 0, 1) := by decide +kernel
theorem dX9_laysBy_133 : decode cX9_laysBy 133 = .ok (.getfield 49, 3) := by decide +kernel
theorem dX9_laysBy_136 : decode cX9_laysBy 136 = .ok (.iload 4, 2) := by decide +kernel
theorem dX9_laysBy_138 : decode cX9_laysBy 138 = .ok (.iconst 1, 1) := by decide +kernel
theorem dX9_laysBy_139 : decode cX9_laysBy 139 = .ok (.isub, 1) := by decide +kernel
theorem dX9_laysBy_140 : decode cX9_laysBy 140 = .ok (.iaload, 1) := by decide +kernel
theorem dX9_laysBy_141 : decode cX9_laysBy 141 = .ok (.iastore, 1) := by decide +kernel
theorem dX9_laysBy_142 : decode cX9_laysBy 142 = .ok (.iinc 4 (-1), 3) := by decide +kernel
theorem dX9_laysBy_145 : decode cX9_laysBy 145 = .ok (.goto (-41), 3) := by decide +kernel
theorem dX9_laysBy_148 : decode cX9_laysBy 148 = .ok (.aload_n 0, 1) := by decide +kernel
theorem dX9_laysBy_149 : decode cX9_laysBy 149 = .ok (.getfield 49, 3) := by decide +kernel
theorem dX9_laysBy_152 : decode cX9_laysBy 152 = .ok (.iload 4, 2) := by decide +kernel
theorem dX9_laysBy_154 : decode cX9_laysBy 154 = .ok (.iload_n 3, 1) := by decide +kernel
theorem dX9_laysBy_155 : decode cX9_laysBy 155 = .ok (.iastore, 1) := by decide +kernel
theorem dX9_laysBy_156 : decode cX9_laysBy 156 = .ok (.iinc 3 1, 3) := by decide +kernel
theorem dX9_laysBy_159 : decode cX9_laysBy 159 = .ok (.goto (-66), 3) := by decide +kernel
theorem dX9_laysBy_162 : decode cX9_laysBy 162 = .ok (.aload_n 0, 1) := by decide +kernel
theorem dX9_laysBy_163 : decode cX9_laysBy 163 = .ok (.iconst 0, 1) := by decide +kernel
theorem dX9_laysBy_164 : decode cX9_laysBy 164 = .ok (.putfield 303, 3) := by decide +kernel
theorem dX9_laysBy_167 : decode cX9_laysBy 167 = .ok (.aload_n 0, 1) := by decide +kernel
theorem dX9_laysBy_168 : decode cX9_laysBy 168 = .ok (.iconst 0, 1) := by decide +kernel
theorem dX9_laysBy_169 : decode cX9_laysBy 169 = .ok (.putfield 306, 3) := by decide +kernel
theorem dX9_laysBy_172 : decode cX9_laysBy 172 = .ok (.iconst 0, 1) := by decide +kernel
theorem dX9_laysBy_173 : decode cX9_laysBy 173 = .ok (.istore_n 3, 1) := by decide +kernel
theorem dX9_laysBy_174 : decode cX9_laysBy 174 = .ok (.iload_n 3, 1) := by decide +kernel
theorem dX9_laysBy_175 : decode cX9_laysBy 175 = .ok (.aload_n 0, 1) := by decide +kernel
theorem dX9_laysBy_176 : decode cX9_laysBy 176 = .ok (.getfield 267, 3) := by decide +kernel
theorem dX9_laysBy_179 : decode cX9_laysBy 179 = .ok (.if_icmp .ge 139, 3) := by decide +kernel
theorem dX9_laysBy_182 : decode cX9_laysBy 182 = .ok (.iload_n 3, 1) := by decide +kernel
theorem dX9_laysBy_183 : decode cX9_laysBy 183 = .ok (.ifCond .eq 24, 3) := by decide +kernel
theorem dX9_laysBy_186 : decode cX9_laysBy 186 = .ok (.aload_n 0, 1) := by decide +kernel
theorem dX9_laysBy_187 : decode cX9_laysBy 187 = .ok (.aload_n 0, 1) := by decide +kernel
theorem dX9_laysBy_188 : decode cX9_laysBy 188 = .ok (.getfield 49, 3) := by decide +kernel
theorem dX9_laysBy_191 : decode cX9_laysBy 191 = .ok (.iload_n 3, 1) := by decide +kernel
theorem dX9_laysBy_192 : decode cX9_laysBy 192 = .ok (.iconst 1, 1) := by decide +kernel
theorem dX9_laysBy_193 : decode cX9_laysBy 193 = .ok (.isub, 1) := by decide +kernel
theorem dX9_laysBy_194 : decode cX9_laysBy 194 = .ok (.iaload, 1) := by decide +kernel
theorem dX9_laysBy_195 : decode cX9_laysBy 195 = .ok (.aload_n 0, 1) := by decide +kernel
theorem dX9_laysBy_196 : decode cX9_laysBy 196 = .ok (.getfield 49, 3) := by decide +kernel
theorem dX9_laysBy_199 : decode cX9_laysBy 199 = .ok (.iload_n 3, 1) := by decide +kernel
theorem dX9_laysBy_200 : decode cX9_laysBy 200 = .ok (.iaload, 1) := by decide +kernel
theorem dX9_laysBy_201 : decode cX9_laysBy 201 = .ok (.invokevirtual 281, 3) := by decide +kernel
theorem dX9_laysBy_204 : decode cX9_laysBy 204 = .ok (.ifCond .eq 7, 3) := by decide +kernel
theorem dX9_laysBy_207 : decode cX9_laysBy 207 = .ok (.iconst 1, 1) := by decide +kernel
theorem dX9_laysBy_208 : decode cX9_laysBy 208 = .ok (.goto 4, 3) := by decide +kernel
theorem dX9_laysBy_211 : decode cX9_laysBy 211 = .ok (.iconst 0, 1) := by decide +kernel
theorem dX9_laysBy_212 : decode cX9_laysBy 212 = .ok (.istore 4, 2) := by decide +kernel
theorem dX9_laysBy_214 : decode cX9_laysBy 214 = .ok (.iload_n 3, 1) := by decide +kernel
theorem dX9_laysBy_215 : decode cX9_laysBy 215 = .ok (.ifCond .eq 28, 3) := by decide +kernel
theorem dX9_laysBy_218 : decode cX9_laysBy 218 = .ok (.aload_n 0, 1) := by decide +kernel
theorem dX9_laysBy_219 : decode cX9_laysBy 219 = .ok (.aload_n 0, 1) := by decide +kernel
theorem dX9_laysBy_220 : decode cX9_laysBy 220 = .ok (.getfield 49, 3) := by decide +kernel
theorem dX9_laysBy_223 : decode cX9_laysBy 223 = .ok (.iload_n 3, 1) := by decide +kernel
theorem dX9_laysBy_224 : decode cX9_laysBy 224 = .ok (.iconst 1, 1) := by decide +kernel
theorem dX9_laysBy_225 : decode cX9_laysBy 225 = .ok (.isub, 1) := by decide +kernel
theorem dX9_laysBy_226 : decode cX9_laysBy 226 = .ok (.iaload, 1) := by decide +kernel
theorem dX9_laysBy_227 : decode cX9_laysBy 227 = .ok (.invokevirtual 274, 3) := by decide +kernel
theorem dX9_laysBy_230 : decode cX9_laysBy 230 = .ok (.aload_n 0, 1) := by decide +kernel
theorem dX9_laysBy_231 : decode cX9_laysBy 231 = .ok (.aload_n 0, 1) := by decide +kernel
theorem dX9_laysBy_232 : decode cX9_laysBy 232 = .ok (.getfield 49, 3) := by decide +kernel
theorem dX9_laysBy_235 : decode cX9_laysBy 235 = .ok (.iload_n 3, 1) := by decide +kernel
theorem dX9_laysBy_236 : decode cX9_laysBy 236 = .ok (.iaload, 1) := by decide +kernel
theorem dX9_laysBy_237 : decode cX9_laysBy 237 = .ok (.invokevirtual 274, 3) := by decide +kernel
theorem dX9_laysBy_240 : decode cX9_laysBy 240 = .ok (.if_icmp .eq 7, 3) := by decide +kernel
theorem dX9_laysBy_243 : decode cX9_laysBy 243 = .ok (.iconst 1, 1) := by decide +kernel
theorem dX9_laysBy_244 : decode cX9_laysBy 244 = .ok (.goto 4, 3) := by decide +kernel
theorem dX9_laysBy_247 : decode cX9_laysBy 247 = .ok (.iconst 0, 1) := by decide +kernel
theorem dX9_laysBy_248 : decode cX9_laysBy 248 = .ok (.istore 5, 2) := by decide +kernel
theorem dX9_laysBy_250 : decode cX9_laysBy 250 = .ok (.aload_n 0, 1) := by decide +kernel
theorem dX9_laysBy_251 : decode cX9_laysBy 251 = .ok (.dup, 1) := by decide +kernel
theorem dX9_laysBy_252 : decode cX9_laysBy 252 = .ok (.getfield 303, 3) := by decide +kernel
theorem dX9_laysBy_255 : decode cX9_laysBy 255 = .ok (.iload 4, 2) := by decide +kernel
theorem dX9_laysBy_257 : decode cX9_laysBy 257 = .ok (.ifCond .eq 7, 3) := by decide +kernel
theorem dX9_laysBy_260 : decode cX9_laysBy 260 = .ok (.iconst 1, 1) := by decide +kernel
theorem dX9_laysBy_261 : decode cX9_laysBy 261 = .ok (.goto 4, 3) := by decide +kernel
theorem dX9_laysBy_264 : decode cX9_laysBy 264 = .ok (.iconst 0, 1) := by decide +kernel
theorem dX9_laysBy_265 : decode cX9_laysBy 265 = .ok (.iadd, 1) := by decide +kernel
theorem dX9_laysBy_266 : decode cX9_laysBy 266 = .ok (.putfield 303, 3) := by decide +kernel
theorem dX9_laysBy_269 : decode cX9_laysBy 269 = .ok (.aload_n 0, 1) := by decide +kernel
theorem dX9_laysBy_270 : decode cX9_laysBy 270 = .ok (.dup, 1) := by decide +kernel
theorem dX9_laysBy_271 : decode cX9_laysBy 271 = .ok (.getfield 306, 3) := by decide +kernel
theorem dX9_laysBy_274 : decode cX9_laysBy 274 = .ok (.iload 5, 2) := by decide +kernel
theorem dX9_laysBy_276 : decode cX9_laysBy 276 = .ok (.ifCond .eq 7, 3) := by decide +kernel
theorem dX9_laysBy_279 : decode cX9_laysBy 279 = .ok (.iconst 1, 1) := by decide +kernel
theorem dX9_laysBy_280 : decode cX9_laysBy 280 = .ok (.goto 4, 3) := by decide +kernel
theorem dX9_laysBy_283 : decode cX9_laysBy 283 = .ok (.iconst 0, 1) := by decide +kernel
theorem dX9_laysBy_284 : decode cX9_laysBy 284 = .ok (.iadd, 1) := by decide +kernel
theorem dX9_laysBy_285 : decode cX9_laysBy 285 = .ok (.putfield 306, 3) := by decide +kernel
theorem dX9_laysBy_288 : decode cX9_laysBy 288 = .ok (.aload_n 0, 1) := by decide +kernel
theorem dX9_laysBy_289 : decode cX9_laysBy 289 = .ok (.getfield 40, 3) := by decide +kernel
theorem dX9_laysBy_292 : decode cX9_laysBy 292 = .ok (.iload_n 3, 1) := by decide +kernel
theorem dX9_laysBy_293 : decode cX9_laysBy 293 = .ok (.aload_n 0, 1) := by decide +kernel
theorem dX9_laysBy_294 : decode cX9_laysBy 294 = .ok (.getfield 303, 3) := by decide +kernel
theorem dX9_laysBy_297 : decode cX9_laysBy 297 = .ok (.iconst 1, 1) := by decide +kernel
theorem dX9_laysBy_298 : decode cX9_laysBy 298 = .ok (.isub, 1) := by decide +kernel
theorem dX9_laysBy_299 : decode cX9_laysBy 299 = .ok (.iastore, 1) := by decide +kernel
theorem dX9_laysBy_300 : decode cX9_laysBy 300 = .ok (.aload_n 0, 1) := by decide +kernel
theorem dX9_laysBy_301 : decode cX9_laysBy 301 = .ok (.getfield 43, 3) := by decide +kernel
theorem dX9_laysBy_304 : decode cX9_laysBy 304 = .ok (.iload_n 3, 1) := by decide +kernel
theorem dX9_laysBy_305 : decode cX9_laysBy 305 = .ok (.aload_n 0, 1) := by decide +kernel
theorem dX9_laysBy_306 : decode cX9_laysBy 306 = .ok (.getfield 306, 3) := by decide +kernel
theorem dX9_laysBy_309 : decode cX9_laysBy 309 = .ok (.iconst 1, 1) := by decide +kernel
theorem dX9_laysBy_310 : decode cX9_laysBy 310 = .ok (.isub, 1) := by decide +kernel
theorem dX9_laysBy_311 : decode cX9_laysBy 311 = .ok (.iastore, 1) := by decide +kernel
theorem dX9_laysBy_312 : decode cX9_laysBy 312 = .ok (.iinc 3 1, 3) := by decide +kernel
theorem dX9_laysBy_315 : decode cX9_laysBy 315 = .ok (.goto (-141), 3) := by decide +kernel
theorem dX9_laysBy_318 : decode cX9_laysBy 318 = .ok (.return_, 1) := by decide +kernel
abbrev mm_X9_laysBy : ab_M := (RX9, 6, none, false, 4, 88, none)
noncomputable def f_X9_laysBy_J284 (rec : Int → Int → ab_H → Option ab_H) (v0 : Int) (v3 : Int) (s2 : Int) (s1 : Int) (s0 : Int) (h : ab_H) : Option ab_H :=
  (ab_put h 10 18 s0 (ab_w32 (s1 + s2))).bind fun h1 =>
  (ab_get h1 10 22 v0).bind fun t1 =>
  (ab_get h1 10 17 v0).bind fun t2 =>
  (ab_ast h1 11 t1 v3 (ab_w32 (t2 - (1 : Int)))).bind fun h2 =>
  (ab_get h2 10 23 v0).bind fun t3 =>
  (ab_get h2 10 18 v0).bind fun t4 =>
  (ab_ast h2 11 t3 v3 (ab_w32 (t4 - (1 : Int)))).bind fun h3 =>
  rec v0 (ab_w32 (v3 + (1 : Int))) h3
set_option maxRecDepth 20000 in
theorem e_X9_laysBy_J284 {rec : Int → Int → ab_H → Option ab_H} (hrec : ∀ (v0 : Int) (v3 : Int) (h : ab_H) (q : ab_H), rec v0 v3 h = some q → ab_E mm_X9_laysBy cX9_laysBy 174 [some (ab_R v0), none, none, some (ab_I v3), none, none] [] h none q) : ∀ (v0 : Int) (v3 : Int) (s2 : Int) (s1 : Int) (s0 : Int) (h : ab_H) (q : ab_H), f_X9_laysBy_J284 rec v0 v3 s2 s1 s0 h = some q → ab_E mm_X9_laysBy cX9_laysBy 284 [some (ab_R v0), none, none, some (ab_I v3), none, none] [ab_I s2, ab_I s1, ab_R s0] h none q := by
  intro v0 v3 s2 s1 s0 h q hk
  unfold f_X9_laysBy_J284 at hk
  refine ab_iadd (pc := 284) dX9_laysBy_284 ?_
  obtain ⟨h1, hh1, hk⟩ := ab_bnd hk
  refine ab_putI_ (pc := 285) dX9_laysBy_285 fl_RX9_306 (fun q => by cases q) hh1 ?_
  refine ab_aload_n (pc := 288) (i := 0) dX9_laysBy_288 rfl rfl ?_
  obtain ⟨t1, ht1, hk⟩ := ab_bnd hk
  refine ab_getR (pc := 289) dX9_laysBy_289 fl_RX9_40 ht1 ?_
  refine ab_iload_n (pc := 292) (i := 3) dX9_laysBy_292 rfl rfl ?_
  refine ab_aload_n (pc := 293) (i := 0) dX9_laysBy_293 rfl rfl ?_
  obtain ⟨t2, ht2, hk⟩ := ab_bnd hk
  refine ab_getI (pc := 294) dX9_laysBy_294 fl_RX9_303 ht2 ?_
  refine ab_iconst (pc := 297) dX9_laysBy_297 ab_k_1 ?_
  refine ab_isub (pc := 298) dX9_laysBy_298 ?_
  obtain ⟨h2, hh2, hk⟩ := ab_bnd hk
  refine ab_iast (pc := 299) dX9_laysBy_299 hh2 ?_
  refine ab_aload_n (pc := 300) (i := 0) dX9_laysBy_300 rfl rfl ?_
  obtain ⟨t3, ht3, hk⟩ := ab_bnd hk
  refine ab_getR (pc := 301) dX9_laysBy_301 fl_RX9_43 ht3 ?_
  refine ab_iload_n (pc := 304) (i := 3) dX9_laysBy_304 rfl rfl ?_
  refine ab_aload_n (pc := 305) (i := 0) dX9_laysBy_305 rfl rfl ?_
  obtain ⟨t4, ht4, hk⟩ := ab_bnd hk
  refine ab_getI (pc := 306) dX9_laysBy_306 fl_RX9_306 ht4 ?_
  refine ab_iconst (pc := 309) dX9_laysBy_309 ab_k_1 ?_
  refine ab_isub (pc := 310) dX9_laysBy_310 ?_
  obtain ⟨h3, hh3, hk⟩ := ab_bnd hk
  refine ab_iast (pc := 311) dX9_laysBy_311 hh3 ?_
  refine ab_iinc (pc := 312) (i := 3) (lv2 := [some (ab_R v0), none, none, some (ab_I (ab_w32 (v3 + (1 : Int)))), none, none]) dX9_laysBy_312 rfl (Nat.le_of_ble_eq_true rfl) rfl rfl ?_
  refine ab_goto (pc := 315) (tgt := 174) dX9_laysBy_315 rfl ?_
  refine ab_sub_ (lv2 := [some (ab_R v0), none, none, some (ab_I (ab_w32 (v3 + (1 : Int)))), none, none]) (ab_ss (ab_sn (ab_sn (ab_ss (ab_sn (ab_sn ab_s0)))))) ?_
  exact hrec _ _ _ _ hk
noncomputable def f_X9_laysBy_J265 (rec : Int → Int → ab_H → Option ab_H) (v0 : Int) (v3 : Int) (v5 : Int) (s2 : Int) (s1 : Int) (s0 : Int) (h : ab_H) : Option ab_H :=
  (ab_put h 10 17 s0 (ab_w32 (s1 + s2))).bind fun h1 =>
  (ab_get h1 10 18 v0).bind fun t1 =>
  if v5 = (0 : Int) then
    f_X9_laysBy_J284 rec v0 v3 (0 : Int) t1 v0 h1
  else
  f_X9_laysBy_J284 rec v0 v3 (1 : Int) t1 v0 h1
set_option maxRecDepth 20000 in
theorem e_X9_laysBy_J265 {rec : Int → Int → ab_H → Option ab_H} (hrec : ∀ (v0 : Int) (v3 : Int) (h : ab_H) (q : ab_H), rec v0 v3 h = some q → ab_E mm_X9_laysBy cX9_laysBy 174 [some (ab_R v0), none, none, some (ab_I v3), none, none] [] h none q) : ∀ (v0 : Int) (v3 : Int) (v5 : Int) (s2 : Int) (s1 : Int) (s0 : Int) (h : ab_H) (q : ab_H), f_X9_laysBy_J265 rec v0 v3 v5 s2 s1 s0 h = some q → ab_E mm_X9_laysBy cX9_laysBy 265 [some (ab_R v0), none, none, some (ab_I v3), none, some (ab_I v5)] [ab_I s2, ab_I s1, ab_R s0] h none q := by
  intro v0 v3 v5 s2 s1 s0 h q hk
  unfold f_X9_laysBy_J265 at hk
  refine ab_iadd (pc := 265) dX9_laysBy_265 ?_
  obtain ⟨h1, hh1, hk⟩ := ab_bnd hk
  refine ab_putI_ (pc := 266) dX9_laysBy_266 fl_RX9_303 (fun q => by cases q) hh1 ?_
  refine ab_aload_n (pc := 269) (i := 0) dX9_laysBy_269 rfl rfl ?_
  refine ab_dup (pc := 270) dX9_laysBy_270 rfl ?_
  obtain ⟨t1, ht1, hk⟩ := ab_bnd hk
  refine ab_getI (pc := 271) dX9_laysBy_271 fl_RX9_306 ht1 ?_
  refine ab_iload (pc := 274) (i := 5) dX9_laysBy_274 rfl ?_
  refine ab_if_eq (pc := 276) (tgt := 283) dX9_laysBy_276 rfl (fun hc => ?_) (fun hc => ?_)
  · have hk := ab_ifp hk hc
    refine ab_iconst (pc := 283) dX9_laysBy_283 ab_k_0 ?_
    refine ab_sub_ (lv2 := [some (ab_R v0), none, none, some (ab_I v3), none, none]) (ab_ss (ab_sn (ab_sn (ab_ss (ab_sn (ab_sn ab_s0)))))) ?_
    exact e_X9_laysBy_J284 hrec _ _ _ _ _ _ _ hk
  · have hk := ab_ifn hk hc
    refine ab_iconst (pc := 279) dX9_laysBy_279 ab_k_1 ?_
    refine ab_goto (pc := 280) (tgt := 284) dX9_laysBy_280 rfl ?_
    refine ab_sub_ (lv2 := [some (ab_R v0), none, none, some (ab_I v3), none, none]) (ab_ss (ab_sn (ab_sn (ab_ss (ab_sn (ab_sn ab_s0)))))) ?_
    exact e_X9_laysBy_J284 hrec _ _ _ _ _ _ _ hk
noncomputable def f_X9_laysBy_J248 (rec : Int → Int → ab_H → Option ab_H) (v0 : Int) (v3 : Int) (v4 : Int) (s0 : Int) (h : ab_H) : Option ab_H :=
  (ab_get h 10 17 v0).bind fun t1 =>
  if v4 = (0 : Int) then
    f_X9_laysBy_J265 rec v0 v3 s0 (0 : Int) t1 v0 h
  else
  f_X9_laysBy_J265 rec v0 v3 s0 (1 : Int) t1 v0 h
set_option maxRecDepth 20000 in
theorem e_X9_laysBy_J248 {rec : Int → Int → ab_H → Option ab_H} (hrec : ∀ (v0 : Int) (v3 : Int) (h : ab_H) (q : ab_H), rec v0 v3 h = some q → ab_E mm_X9_laysBy cX9_laysBy 174 [some (ab_R v0), none, none, some (ab_I v3), none, none] [] h none q) : ∀ (v0 : Int) (v3 : Int) (v4 : Int) (s0 : Int) (h : ab_H) (q : ab_H), f_X9_laysBy_J248 rec v0 v3 v4 s0 h = some q → ab_E mm_X9_laysBy cX9_laysBy 248 [some (ab_R v0), none, none, some (ab_I v3), some (ab_I v4), none] [ab_I s0] h none q := by
  intro v0 v3 v4 s0 h q hk
  unfold f_X9_laysBy_J248 at hk
  refine ab_istore (pc := 248) (i := 5) (lv2 := [some (ab_R v0), none, none, some (ab_I v3), some (ab_I v4), some (ab_I s0)]) dX9_laysBy_248 (Nat.le_of_ble_eq_true rfl) rfl rfl ?_
  refine ab_aload_n (pc := 250) (i := 0) dX9_laysBy_250 rfl rfl ?_
  refine ab_dup (pc := 251) dX9_laysBy_251 rfl ?_
  obtain ⟨t1, ht1, hk⟩ := ab_bnd hk
  refine ab_getI (pc := 252) dX9_laysBy_252 fl_RX9_303 ht1 ?_
  refine ab_iload (pc := 255) (i := 4) dX9_laysBy_255 rfl ?_
  refine ab_if_eq (pc := 257) (tgt := 264) dX9_laysBy_257 rfl (fun hc => ?_) (fun hc => ?_)
  · have hk := ab_ifp hk hc
    refine ab_iconst (pc := 264) dX9_laysBy_264 ab_k_0 ?_
    refine ab_sub_ (lv2 := [some (ab_R v0), none, none, some (ab_I v3), none, some (ab_I s0)]) (ab_ss (ab_sn (ab_sn (ab_ss (ab_sn (ab_ss ab_s0)))))) ?_
    exact e_X9_laysBy_J265 hrec _ _ _ _ _ _ _ _ hk
  · have hk := ab_ifn hk hc
    refine ab_iconst (pc := 260) dX9_laysBy_260 ab_k_1 ?_
    refine ab_goto (pc := 261) (tgt := 265) dX9_laysBy_261 rfl ?_
    refine ab_sub_ (lv2 := [some (ab_R v0), none, none, some (ab_I v3), none, some (ab_I s0)]) (ab_ss (ab_sn (ab_sn (ab_ss (ab_sn (ab_ss ab_s0)))))) ?_
    exact e_X9_laysBy_J265 hrec _ _ _ _ _ _ _ _ hk
noncomputable def f_X9_laysBy_J243 (rec : Int → Int → ab_H → Option ab_H) (v0 : Int) (v3 : Int) (v4 : Int) (h : ab_H) : Option ab_H :=
  f_X9_laysBy_J248 rec v0 v3 v4 (1 : Int) h
set_option maxRecDepth 20000 in
theorem e_X9_laysBy_J243 {rec : Int → Int → ab_H → Option ab_H} (hrec : ∀ (v0 : Int) (v3 : Int) (h : ab_H) (q : ab_H), rec v0 v3 h = some q → ab_E mm_X9_laysBy cX9_laysBy 174 [some (ab_R v0), none, none, some (ab_I v3), none, none] [] h none q) : ∀ (v0 : Int) (v3 : Int) (v4 : Int) (h : ab_H) (q : ab_H), f_X9_laysBy_J243 rec v0 v3 v4 h = some q → ab_E mm_X9_laysBy cX9_laysBy 243 [some (ab_R v0), none, none, some (ab_I v3), some (ab_I v4), none] [] h none q := by
  intro v0 v3 v4 h q hk
  unfold f_X9_laysBy_J243 at hk
  refine ab_iconst (pc := 243) dX9_laysBy_243 ab_k_1 ?_
  refine ab_goto (pc := 244) (tgt := 248) dX9_laysBy_244 rfl ?_
  refine ab_sub_ (lv2 := [some (ab_R v0), none, none, some (ab_I v3), some (ab_I v4), none]) (ab_ss (ab_sn (ab_sn (ab_ss (ab_ss (ab_sn ab_s0)))))) ?_
  exact e_X9_laysBy_J248 hrec _ _ _ _ _ _ hk
noncomputable def f_X9_laysBy_J212 (rec : Int → Int → ab_H → Option ab_H) (v0 : Int) (v3 : Int) (s0 : Int) (h : ab_H) : Option ab_H :=
  if v3 = (0 : Int) then
    f_X9_laysBy_J243 rec v0 v3 s0 h
  else
  (ab_get h 10 26 v0).bind fun t1 =>
  (ab_ald h 11 t1 (ab_w32 (v3 - (1 : Int)))).bind fun t2 =>
  (ab_on h 10 v0 (f_X9_leadWord v0 t2 h)).bind fun q3 =>
  (ab_get q3.2 10 26 v0).bind fun t4 =>
  (ab_ald q3.2 11 t4 v3).bind fun t5 =>
  (ab_on q3.2 10 v0 (f_X9_leadWord v0 t5 q3.2)).bind fun q6 =>
  if q3.1 = q6.1 then
    f_X9_laysBy_J248 rec v0 v3 s0 (0 : Int) q6.2
  else
  f_X9_laysBy_J243 rec v0 v3 s0 q6.2
set_option maxRecDepth 20000 in
theorem e_X9_laysBy_J212 {rec : Int → Int → ab_H → Option ab_H} (hrec : ∀ (v0 : Int) (v3 : Int) (h : ab_H) (q : ab_H), rec v0 v3 h = some q → ab_E mm_X9_laysBy cX9_laysBy 174 [some (ab_R v0), none, none, some (ab_I v3), none, none] [] h none q) : ∀ (v0 : Int) (v3 : Int) (s0 : Int) (h : ab_H) (q : ab_H), f_X9_laysBy_J212 rec v0 v3 s0 h = some q → ab_E mm_X9_laysBy cX9_laysBy 212 [some (ab_R v0), none, none, some (ab_I v3), none, none] [ab_I s0] h none q := by
  intro v0 v3 s0 h q hk
  unfold f_X9_laysBy_J212 at hk
  refine ab_istore (pc := 212) (i := 4) (lv2 := [some (ab_R v0), none, none, some (ab_I v3), some (ab_I s0), none]) dX9_laysBy_212 (Nat.le_of_ble_eq_true rfl) rfl rfl ?_
  refine ab_iload_n (pc := 214) (i := 3) dX9_laysBy_214 rfl rfl ?_
  refine ab_if_eq (pc := 215) (tgt := 243) dX9_laysBy_215 rfl (fun hc => ?_) (fun hc => ?_)
  · have hk := ab_ifp hk hc
    refine ab_sub_ (lv2 := [some (ab_R v0), none, none, some (ab_I v3), some (ab_I s0), none]) (ab_ss (ab_sn (ab_sn (ab_ss (ab_ss (ab_sn ab_s0)))))) ?_
    exact e_X9_laysBy_J243 hrec _ _ _ _ _ hk
  · have hk := ab_ifn hk hc
    refine ab_aload_n (pc := 218) (i := 0) dX9_laysBy_218 rfl rfl ?_
    refine ab_aload_n (pc := 219) (i := 0) dX9_laysBy_219 rfl rfl ?_
    obtain ⟨t1, ht1, hk⟩ := ab_bnd hk
    refine ab_getR (pc := 220) dX9_laysBy_220 fl_RX9_49 ht1 ?_
    refine ab_iload_n (pc := 223) (i := 3) dX9_laysBy_223 rfl rfl ?_
    refine ab_iconst (pc := 224) dX9_laysBy_224 ab_k_1 ?_
    refine ab_isub (pc := 225) dX9_laysBy_225 ?_
    obtain ⟨t2, ht2, hk⟩ := ab_bnd hk
    refine ab_iald (pc := 226) dX9_laysBy_226 ht2 ?_
    obtain ⟨q3, hq3, hk⟩ := ab_bnd hk
    obtain ⟨hb, hq3⟩ := ab_on_some hq3
    refine ab_callVI (st := []) (as := [ab_I t2]) (b := v0) (pc := 227) dX9_laysBy_227 ml_RX9_274 my_X9_leadWord mv_X9_leadWord hb (ct_X9_leadWord hq3) ⟨Nat.le_of_ble_eq_true rfl, Nat.le_of_ble_eq_true rfl⟩ rfl (Nat.le_of_ble_eq_true rfl) rfl ?_
    refine ab_aload_n (pc := 230) (i := 0) dX9_laysBy_230 rfl rfl ?_
    refine ab_aload_n (pc := 231) (i := 0) dX9_laysBy_231 rfl rfl ?_
    obtain ⟨t4, ht4, hk⟩ := ab_bnd hk
    refine ab_getR (pc := 232) dX9_laysBy_232 fl_RX9_49 ht4 ?_
    refine ab_iload_n (pc := 235) (i := 3) dX9_laysBy_235 rfl rfl ?_
    obtain ⟨t5, ht5, hk⟩ := ab_bnd hk
    refine ab_iald (pc := 236) dX9_laysBy_236 ht5 ?_
    obtain ⟨q6, hq6, hk⟩ := ab_bnd hk
    obtain ⟨hb, hq6⟩ := ab_on_some hq6
    refine ab_callVI (st := [ab_I q3.1]) (as := [ab_I t5]) (b := v0) (pc := 237) dX9_laysBy_237 ml_RX9_274 my_X9_leadWord mv_X9_leadWord hb (ct_X9_leadWord hq6) ⟨Nat.le_of_ble_eq_true rfl, Nat.le_of_ble_eq_true rfl⟩ rfl (Nat.le_of_ble_eq_true rfl) rfl ?_
    refine ab_icmp_eq (pc := 240) (tgt := 247) dX9_laysBy_240 rfl (fun hc => ?_) (fun hc => ?_)
    · have hk := ab_ifp hk hc
      refine ab_iconst (pc := 247) dX9_laysBy_247 ab_k_0 ?_
      refine ab_sub_ (lv2 := [some (ab_R v0), none, none, some (ab_I v3), some (ab_I s0), none]) (ab_ss (ab_sn (ab_sn (ab_ss (ab_ss (ab_sn ab_s0)))))) ?_
      exact e_X9_laysBy_J248 hrec _ _ _ _ _ _ hk
    · have hk := ab_ifn hk hc
      refine ab_sub_ (lv2 := [some (ab_R v0), none, none, some (ab_I v3), some (ab_I s0), none]) (ab_ss (ab_sn (ab_sn (ab_ss (ab_ss (ab_sn ab_s0)))))) ?_
      exact e_X9_laysBy_J243 hrec _ _ _ _ _ hk
noncomputable def f_X9_laysBy_J207 (rec : Int → Int → ab_H → Option ab_H) (v0 : Int) (v3 : Int) (h : ab_H) : Option ab_H :=
  f_X9_laysBy_J212 rec v0 v3 (1 : Int) h
set_option maxRecDepth 20000 in
theorem e_X9_laysBy_J207 {rec : Int → Int → ab_H → Option ab_H} (hrec : ∀ (v0 : Int) (v3 : Int) (h : ab_H) (q : ab_H), rec v0 v3 h = some q → ab_E mm_X9_laysBy cX9_laysBy 174 [some (ab_R v0), none, none, some (ab_I v3), none, none] [] h none q) : ∀ (v0 : Int) (v3 : Int) (h : ab_H) (q : ab_H), f_X9_laysBy_J207 rec v0 v3 h = some q → ab_E mm_X9_laysBy cX9_laysBy 207 [some (ab_R v0), none, none, some (ab_I v3), none, none] [] h none q := by
  intro v0 v3 h q hk
  unfold f_X9_laysBy_J207 at hk
  refine ab_iconst (pc := 207) dX9_laysBy_207 ab_k_1 ?_
  refine ab_goto (pc := 208) (tgt := 212) dX9_laysBy_208 rfl ?_
  refine ab_sub_ (lv2 := [some (ab_R v0), none, none, some (ab_I v3), none, none]) (ab_ss (ab_sn (ab_sn (ab_ss (ab_sn (ab_sn ab_s0)))))) ?_
  exact e_X9_laysBy_J212 hrec _ _ _ _ _ hk
noncomputable def f_X9_laysBy_L174 : Nat → Int → Int → ab_H → Option ab_H
  | 0, _, _, _ => none
  | n + 1, v0, v3, h =>
    (ab_get h 10 16 v0).bind fun t1 =>
    if t1 ≤ v3 then
      some h
    else
    if v3 = (0 : Int) then
      f_X9_laysBy_J207 (f_X9_laysBy_L174 n) v0 v3 h
    else
    (ab_get h 10 26 v0).bind fun t2 =>
    (ab_ald h 11 t2 (ab_w32 (v3 - (1 : Int)))).bind fun t3 =>
    (ab_get h 10 26 v0).bind fun t4 =>
    (ab_ald h 11 t4 v3).bind fun t5 =>
    (ab_on h 10 v0 (f_X9_comparesWords v0 t3 t5 h)).bind fun q6 =>
    if q6.1 = (0 : Int) then
      f_X9_laysBy_J212 (f_X9_laysBy_L174 n) v0 v3 (0 : Int) q6.2
    else
    f_X9_laysBy_J207 (f_X9_laysBy_L174 n) v0 v3 q6.2
set_option maxRecDepth 20000 in
theorem e_X9_laysBy_L174 : ∀ (n : Nat) (v0 : Int) (v3 : Int) (h : ab_H) (q : ab_H), f_X9_laysBy_L174 n v0 v3 h = some q → ab_E mm_X9_laysBy cX9_laysBy 174 [some (ab_R v0), none, none, some (ab_I v3), none, none] [] h none q := by
  intro n
  induction n with
  | zero => intro v0 v3 h q hk; cases hk
  | succ n ih =>
    intro v0 v3 h q hk
    unfold f_X9_laysBy_L174 at hk
    refine ab_iload_n (pc := 174) (i := 3) dX9_laysBy_174 rfl rfl ?_
    refine ab_aload_n (pc := 175) (i := 0) dX9_laysBy_175 rfl rfl ?_
    obtain ⟨t1, ht1, hk⟩ := ab_bnd hk
    refine ab_getI (pc := 176) dX9_laysBy_176 fl_RX9_267 ht1 ?_
    refine ab_icmp_ge (pc := 179) (tgt := 318) dX9_laysBy_179 rfl (fun hc => ?_) (fun hc => ?_)
    · have hk := ab_ifp hk hc
      obtain rfl := Option.some.inj hk
      exact ab_retv (pc := 318) dX9_laysBy_318 rfl
    · have hk := ab_ifn hk hc
      refine ab_iload_n (pc := 182) (i := 3) dX9_laysBy_182 rfl rfl ?_
      refine ab_if_eq (pc := 183) (tgt := 207) dX9_laysBy_183 rfl (fun hc => ?_) (fun hc => ?_)
      · have hk := ab_ifp hk hc
        refine ab_sub_ (lv2 := [some (ab_R v0), none, none, some (ab_I v3), none, none]) (ab_ss (ab_sn (ab_sn (ab_ss (ab_sn (ab_sn ab_s0)))))) ?_
        exact e_X9_laysBy_J207 ih _ _ _ _ hk
      · have hk := ab_ifn hk hc
        refine ab_aload_n (pc := 186) (i := 0) dX9_laysBy_186 rfl rfl ?_
        refine ab_aload_n (pc := 187) (i := 0) dX9_laysBy_187 rfl rfl ?_
        obtain ⟨t2, ht2, hk⟩ := ab_bnd hk
        refine ab_getR (pc := 188) dX9_laysBy_188 fl_RX9_49 ht2 ?_
        refine ab_iload_n (pc := 191) (i := 3) dX9_laysBy_191 rfl rfl ?_
        refine ab_iconst (pc := 192) dX9_laysBy_192 ab_k_1 ?_
        refine ab_isub (pc := 193) dX9_laysBy_193 ?_
        obtain ⟨t3, ht3, hk⟩ := ab_bnd hk
        refine ab_iald (pc := 194) dX9_laysBy_194 ht3 ?_
        refine ab_aload_n (pc := 195) (i := 0) dX9_laysBy_195 rfl rfl ?_
        obtain ⟨t4, ht4, hk⟩ := ab_bnd hk
        refine ab_getR (pc := 196) dX9_laysBy_196 fl_RX9_49 ht4 ?_
        refine ab_iload_n (pc := 199) (i := 3) dX9_laysBy_199 rfl rfl ?_
        obtain ⟨t5, ht5, hk⟩ := ab_bnd hk
        refine ab_iald (pc := 200) dX9_laysBy_200 ht5 ?_
        obtain ⟨q6, hq6, hk⟩ := ab_bnd hk
        obtain ⟨hb, hq6⟩ := ab_on_some hq6
        refine ab_callVI (st := []) (as := [ab_I t3, ab_I t5]) (b := v0) (pc := 201) dX9_laysBy_201 ml_RX9_281 my_X9_comparesWords mv_X9_comparesWords hb (ct_X9_comparesWords hq6) ⟨Nat.le_of_ble_eq_true rfl, Nat.le_of_ble_eq_true rfl⟩ rfl (Nat.le_of_ble_eq_true rfl) rfl ?_
        refine ab_if_eq (pc := 204) (tgt := 211) dX9_laysBy_204 rfl (fun hc => ?_) (fun hc => ?_)
        · have hk := ab_ifp hk hc
          refine ab_iconst (pc := 211) dX9_laysBy_211 ab_k_0 ?_
          refine ab_sub_ (lv2 := [some (ab_R v0), none, none, some (ab_I v3), none, none]) (ab_ss (ab_sn (ab_sn (ab_ss (ab_sn (ab_sn ab_s0)))))) ?_
          exact e_X9_laysBy_J212 ih _ _ _ _ _ hk
        · have hk := ab_ifn hk hc
          refine ab_sub_ (lv2 := [some (ab_R v0), none, none, some (ab_I v3), none, none]) (ab_ss (ab_sn (ab_sn (ab_ss (ab_sn (ab_sn ab_s0)))))) ?_
          exact e_X9_laysBy_J207 ih _ _ _ _ hk
noncomputable def f_X9_laysBy_J148 (rec : Int → Int → ab_H → Option ab_H) (k162 : Int → ab_H → Option ab_H) (v0 : Int) (v3 : Int) (v4 : Int) (h : ab_H) : Option ab_H :=
  (ab_get h 10 26 v0).bind fun t1 =>
  (ab_ast h 11 t1 v4 v3).bind fun h1 =>
  rec v0 (ab_w32 (v3 + (1 : Int))) h1
set_option maxRecDepth 20000 in
theorem e_X9_laysBy_J148 {rec : Int → Int → ab_H → Option ab_H} {k162 : Int → ab_H → Option ab_H} (hrec : ∀ (v0 : Int) (v3 : Int) (h : ab_H) (q : ab_H), rec v0 v3 h = some q → ab_E mm_X9_laysBy cX9_laysBy 93 [some (ab_R v0), none, none, some (ab_I v3), none, none] [] h none q) (hk162 : ∀ (v0 : Int) (h : ab_H) (q : ab_H), k162 v0 h = some q → ab_E mm_X9_laysBy cX9_laysBy 162 [some (ab_R v0), none, none, none, none, none] [] h none q) : ∀ (v0 : Int) (v3 : Int) (v4 : Int) (h : ab_H) (q : ab_H), f_X9_laysBy_J148 rec k162 v0 v3 v4 h = some q → ab_E mm_X9_laysBy cX9_laysBy 148 [some (ab_R v0), none, none, some (ab_I v3), some (ab_I v4), none] [] h none q := by
  intro v0 v3 v4 h q hk
  unfold f_X9_laysBy_J148 at hk
  refine ab_aload_n (pc := 148) (i := 0) dX9_laysBy_148 rfl rfl ?_
  obtain ⟨t1, ht1, hk⟩ := ab_bnd hk
  refine ab_getR (pc := 149) dX9_laysBy_149 fl_RX9_49 ht1 ?_
  refine ab_iload (pc := 152) (i := 4) dX9_laysBy_152 rfl ?_
  refine ab_iload_n (pc := 154) (i := 3) dX9_laysBy_154 rfl rfl ?_
  obtain ⟨h1, hh1, hk⟩ := ab_bnd hk
  refine ab_iast (pc := 155) dX9_laysBy_155 hh1 ?_
  refine ab_iinc (pc := 156) (i := 3) (lv2 := [some (ab_R v0), none, none, some (ab_I (ab_w32 (v3 + (1 : Int)))), some (ab_I v4), none]) dX9_laysBy_156 rfl (Nat.le_of_ble_eq_true rfl) rfl rfl ?_
  refine ab_goto (pc := 159) (tgt := 93) dX9_laysBy_159 rfl ?_
  refine ab_sub_ (lv2 := [some (ab_R v0), none, none, some (ab_I (ab_w32 (v3 + (1 : Int)))), none, none]) (ab_ss (ab_sn (ab_sn (ab_ss (ab_sn (ab_sn ab_s0)))))) ?_
  exact hrec _ _ _ _ hk
noncomputable def f_X9_laysBy_L104 (k148 : Int → Int → Int → ab_H → Option ab_H) : Nat → Int → Int → Int → ab_H → Option ab_H
  | 0, _, _, _, _ => none
  | n + 1, v0, v3, v4, h =>
    if v4 ≤ (0 : Int) then
      k148 v0 v3 v4 h
    else
    (ab_get h 10 26 v0).bind fun t1 =>
    (ab_ald h 11 t1 (ab_w32 (v4 - (1 : Int)))).bind fun t2 =>
    (ab_on h 10 v0 (f_X9_compares v0 t2 v3 h)).bind fun q3 =>
    if q3.1 ≤ (0 : Int) then
      k148 v0 v3 v4 q3.2
    else
    (ab_get q3.2 10 26 v0).bind fun t4 =>
    (ab_get q3.2 10 26 v0).bind fun t5 =>
    (ab_ald q3.2 11 t5 (ab_w32 (v4 - (1 : Int)))).bind fun t6 =>
    (ab_ast q3.2 11 t4 v4 t6).bind fun h1 =>
    f_X9_laysBy_L104 k148 n v0 v3 (ab_w32 (v4 + (-1 : Int))) h1
set_option maxRecDepth 20000 in
theorem e_X9_laysBy_L104 {k148 : Int → Int → Int → ab_H → Option ab_H} (hk148 : ∀ (v0 : Int) (v3 : Int) (v4 : Int) (h : ab_H) (q : ab_H), k148 v0 v3 v4 h = some q → ab_E mm_X9_laysBy cX9_laysBy 148 [some (ab_R v0), none, none, some (ab_I v3), some (ab_I v4), none] [] h none q) : ∀ (n : Nat) (v0 : Int) (v3 : Int) (v4 : Int) (h : ab_H) (q : ab_H), f_X9_laysBy_L104 k148 n v0 v3 v4 h = some q → ab_E mm_X9_laysBy cX9_laysBy 104 [some (ab_R v0), none, none, some (ab_I v3), some (ab_I v4), none] [] h none q := by
  intro n
  induction n with
  | zero => intro v0 v3 v4 h q hk; cases hk
  | succ n ih =>
    intro v0 v3 v4 h q hk
    unfold f_X9_laysBy_L104 at hk
    refine ab_iload (pc := 104) (i := 4) dX9_laysBy_104 rfl ?_
    refine ab_if_le (pc := 106) (tgt := 148) dX9_laysBy_106 rfl (fun hc => ?_) (fun hc => ?_)
    · have hk := ab_ifp hk hc
      refine ab_sub_ (lv2 := [some (ab_R v0), none, none, some (ab_I v3), some (ab_I v4), none]) (ab_ss (ab_sn (ab_sn (ab_ss (ab_ss (ab_sn ab_s0)))))) ?_
      exact hk148 _ _ _ _ _ hk
    · have hk := ab_ifn hk hc
      refine ab_aload_n (pc := 109) (i := 0) dX9_laysBy_109 rfl rfl ?_
      refine ab_aload_n (pc := 110) (i := 0) dX9_laysBy_110 rfl rfl ?_
      obtain ⟨t1, ht1, hk⟩ := ab_bnd hk
      refine ab_getR (pc := 111) dX9_laysBy_111 fl_RX9_49 ht1 ?_
      refine ab_iload (pc := 114) (i := 4) dX9_laysBy_114 rfl ?_
      refine ab_iconst (pc := 116) dX9_laysBy_116 ab_k_1 ?_
      refine ab_isub (pc := 117) dX9_laysBy_117 ?_
      obtain ⟨t2, ht2, hk⟩ := ab_bnd hk
      refine ab_iald (pc := 118) dX9_laysBy_118 ht2 ?_
      refine ab_iload_n (pc := 119) (i := 3) dX9_laysBy_119 rfl rfl ?_
      obtain ⟨q3, hq3, hk⟩ := ab_bnd hk
      obtain ⟨hb, hq3⟩ := ab_on_some hq3
      refine ab_callVI (st := []) (as := [ab_I t2, ab_I v3]) (b := v0) (pc := 120) dX9_laysBy_120 ml_RX9_300 my_X9_compares mv_X9_compares hb (ct_X9_compares hq3) ⟨Nat.le_of_ble_eq_true rfl, Nat.le_of_ble_eq_true rfl⟩ rfl (Nat.le_of_ble_eq_true rfl) rfl ?_
      refine ab_if_le (pc := 123) (tgt := 148) dX9_laysBy_123 rfl (fun hc => ?_) (fun hc => ?_)
      · have hk := ab_ifp hk hc
        refine ab_sub_ (lv2 := [some (ab_R v0), none, none, some (ab_I v3), some (ab_I v4), none]) (ab_ss (ab_sn (ab_sn (ab_ss (ab_ss (ab_sn ab_s0)))))) ?_
        exact hk148 _ _ _ _ _ hk
      · have hk := ab_ifn hk hc
        refine ab_aload_n (pc := 126) (i := 0) dX9_laysBy_126 rfl rfl ?_
        obtain ⟨t4, ht4, hk⟩ := ab_bnd hk
        refine ab_getR (pc := 127) dX9_laysBy_127 fl_RX9_49 ht4 ?_
        refine ab_iload (pc := 130) (i := 4) dX9_laysBy_130 rfl ?_
        refine ab_aload_n (pc := 132) (i := 0) dX9_laysBy_132 rfl rfl ?_
        obtain ⟨t5, ht5, hk⟩ := ab_bnd hk
        refine ab_getR (pc := 133) dX9_laysBy_133 fl_RX9_49 ht5 ?_
        refine ab_iload (pc := 136) (i := 4) dX9_laysBy_136 rfl ?_
        refine ab_iconst (pc := 138) dX9_laysBy_138 ab_k_1 ?_
        refine ab_isub (pc := 139) dX9_laysBy_139 ?_
        obtain ⟨t6, ht6, hk⟩ := ab_bnd hk
        refine ab_iald (pc := 140) dX9_laysBy_140 ht6 ?_
        obtain ⟨h1, hh1, hk⟩ := ab_bnd hk
        refine ab_iast (pc := 141) dX9_laysBy_141 hh1 ?_
        refine ab_iinc (pc := 142) (i := 4) (lv2 := [some (ab_R v0), none, none, some (ab_I v3), some (ab_I (ab_w32 (v4 + (-1 : Int)))), none]) dX9_laysBy_142 rfl (Nat.le_of_ble_eq_true rfl) rfl rfl ?_
        refine ab_goto (pc := 145) (tgt := 104) dX9_laysBy_145 rfl ?_
        refine ab_sub_ (lv2 := [some (ab_R v0), none, none, some (ab_I v3), some (ab_I (ab_w32 (v4 + (-1 : Int)))), none]) (ab_ss (ab_sn (ab_sn (ab_ss (ab_ss (ab_sn ab_s0)))))) ?_
        exact ih _ _ _ _ _ hk
noncomputable def f_X9_laysBy_L93 (k162 : Int → ab_H → Option ab_H) : Nat → Int → Int → ab_H → Option ab_H
  | 0, _, _, _ => none
  | n + 1, v0, v3, h =>
    (ab_get h 10 16 v0).bind fun t1 =>
    if t1 ≤ v3 then
      k162 v0 h
    else
    f_X9_laysBy_L104 (fun w148_0 w148_3 w148_4 hx148 =>
      f_X9_laysBy_J148 (f_X9_laysBy_L93 k162 n) k162 w148_0 w148_3 w148_4 hx148) ab_FU v0 v3 v3 h
set_option maxRecDepth 20000 in
theorem e_X9_laysBy_L93 {k162 : Int → ab_H → Option ab_H} (hk162 : ∀ (v0 : Int) (h : ab_H) (q : ab_H), k162 v0 h = some q → ab_E mm_X9_laysBy cX9_laysBy 162 [some (ab_R v0), none, none, none, none, none] [] h none q) : ∀ (n : Nat) (v0 : Int) (v3 : Int) (h : ab_H) (q : ab_H), f_X9_laysBy_L93 k162 n v0 v3 h = some q → ab_E mm_X9_laysBy cX9_laysBy 93 [some (ab_R v0), none, none, some (ab_I v3), none, none] [] h none q := by
  intro n
  induction n with
  | zero => intro v0 v3 h q hk; cases hk
  | succ n ih =>
    intro v0 v3 h q hk
    unfold f_X9_laysBy_L93 at hk
    refine ab_iload_n (pc := 93) (i := 3) dX9_laysBy_93 rfl rfl ?_
    refine ab_aload_n (pc := 94) (i := 0) dX9_laysBy_94 rfl rfl ?_
    obtain ⟨t1, ht1, hk⟩ := ab_bnd hk
    refine ab_getI (pc := 95) dX9_laysBy_95 fl_RX9_267 ht1 ?_
    refine ab_icmp_ge (pc := 98) (tgt := 162) dX9_laysBy_98 rfl (fun hc => ?_) (fun hc => ?_)
    · have hk := ab_ifp hk hc
      refine ab_sub_ (lv2 := [some (ab_R v0), none, none, none, none, none]) (ab_ss (ab_sn (ab_sn (ab_sn (ab_sn (ab_sn ab_s0)))))) ?_
      exact hk162 _ _ _ hk
    · have hk := ab_ifn hk hc
      refine ab_iload_n (pc := 101) (i := 3) dX9_laysBy_101 rfl rfl ?_
      refine ab_istore (pc := 102) (i := 4) (lv2 := [some (ab_R v0), none, none, some (ab_I v3), some (ab_I v3), none]) dX9_laysBy_102 (Nat.le_of_ble_eq_true rfl) rfl rfl ?_
      refine ab_sub_ (lv2 := [some (ab_R v0), none, none, some (ab_I v3), some (ab_I v3), none]) (ab_ss (ab_sn (ab_sn (ab_ss (ab_ss (ab_sn ab_s0)))))) ?_
      refine e_X9_laysBy_L104 (fun w148_0 w148_3 w148_4 hx148 q hk => ?_) _ _ _ _ _ _ hk
      · skip
        refine ab_sub_ (lv2 := [some (ab_R w148_0), none, none, some (ab_I w148_3), some (ab_I w148_4), none]) (ab_ss (ab_sn (ab_sn (ab_ss (ab_ss (ab_sn ab_s0)))))) ?_
        exact e_X9_laysBy_J148 ih hk162 _ _ _ _ _ hk
noncomputable def f_X9_laysBy_J79 (rec : Int → Int → Int → Int → Int → ab_H → Option ab_H) (k85 : Int → Int → Int → Int → ab_H → Option ab_H) (v0 : Int) (v1 : Int) (v2 : Int) (v3 : Int) (v4 : Int) (h : ab_H) : Option ab_H :=
  rec v0 v1 v2 v3 (ab_w32 (v4 + (1 : Int))) h
set_option maxRecDepth 20000 in
theorem e_X9_laysBy_J79 {rec : Int → Int → Int → Int → Int → ab_H → Option ab_H} {k85 : Int → Int → Int → Int → ab_H → Option ab_H} (hrec : ∀ (v0 : Int) (v1 : Int) (v2 : Int) (v3 : Int) (v4 : Int) (h : ab_H) (q : ab_H), rec v0 v1 v2 v3 v4 h = some q → ab_E mm_X9_laysBy cX9_laysBy 22 [some (ab_R v0), some (ab_I v1), some (ab_I v2), some (ab_I v3), some (ab_I v4), none] [] h none q) (hk85 : ∀ (v0 : Int) (v1 : Int) (v2 : Int) (v3 : Int) (h : ab_H) (q : ab_H), k85 v0 v1 v2 v3 h = some q → ab_E mm_X9_laysBy cX9_laysBy 85 [some (ab_R v0), some (ab_I v1), some (ab_I v2), some (ab_I v3), none, none] [] h none q) : ∀ (v0 : Int) (v1 : Int) (v2 : Int) (v3 : Int) (v4 : Int) (h : ab_H) (q : ab_H), f_X9_laysBy_J79 rec k85 v0 v1 v2 v3 v4 h = some q → ab_E mm_X9_laysBy cX9_laysBy 79 [some (ab_R v0), some (ab_I v1), some (ab_I v2), some (ab_I v3), some (ab_I v4), none] [] h none q := by
  intro v0 v1 v2 v3 v4 h q hk
  unfold f_X9_laysBy_J79 at hk
  refine ab_iinc (pc := 79) (i := 4) (lv2 := [some (ab_R v0), some (ab_I v1), some (ab_I v2), some (ab_I v3), some (ab_I (ab_w32 (v4 + (1 : Int)))), none]) dX9_laysBy_79 rfl (Nat.le_of_ble_eq_true rfl) rfl rfl ?_
  refine ab_goto (pc := 82) (tgt := 22) dX9_laysBy_82 rfl ?_
  refine ab_sub_ (lv2 := [some (ab_R v0), some (ab_I v1), some (ab_I v2), some (ab_I v3), some (ab_I (ab_w32 (v4 + (1 : Int)))), none]) (ab_ss (ab_ss (ab_ss (ab_ss (ab_ss (ab_sn ab_s0)))))) ?_
  exact hrec _ _ _ _ _ _ _ hk
noncomputable def f_X9_laysBy_J76 (rec : Int → Int → Int → Int → Int → ab_H → Option ab_H) (k85 : Int → Int → Int → Int → ab_H → Option ab_H) (v0 : Int) (v1 : Int) (v2 : Int) (v3 : Int) (v4 : Int) (s3 : Int) (s2 : Int) (s1 : Int) (s0 : Int) (h : ab_H) : Option ab_H :=
  (ab_on h 10 s0 (f_X9_laysEntry s0 s1 s2 s3 h)).bind fun q1 =>
  f_X9_laysBy_J79 rec k85 v0 v1 v2 v3 v4 q1
set_option maxRecDepth 20000 in
theorem e_X9_laysBy_J76 {rec : Int → Int → Int → Int → Int → ab_H → Option ab_H} {k85 : Int → Int → Int → Int → ab_H → Option ab_H} (hrec : ∀ (v0 : Int) (v1 : Int) (v2 : Int) (v3 : Int) (v4 : Int) (h : ab_H) (q : ab_H), rec v0 v1 v2 v3 v4 h = some q → ab_E mm_X9_laysBy cX9_laysBy 22 [some (ab_R v0), some (ab_I v1), some (ab_I v2), some (ab_I v3), some (ab_I v4), none] [] h none q) (hk85 : ∀ (v0 : Int) (v1 : Int) (v2 : Int) (v3 : Int) (h : ab_H) (q : ab_H), k85 v0 v1 v2 v3 h = some q → ab_E mm_X9_laysBy cX9_laysBy 85 [some (ab_R v0), some (ab_I v1), some (ab_I v2), some (ab_I v3), none, none] [] h none q) : ∀ (v0 : Int) (v1 : Int) (v2 : Int) (v3 : Int) (v4 : Int) (s3 : Int) (s2 : Int) (s1 : Int) (s0 : Int) (h : ab_H) (q : ab_H), f_X9_laysBy_J76 rec k85 v0 v1 v2 v3 v4 s3 s2 s1 s0 h = some q → ab_E mm_X9_laysBy cX9_laysBy 76 [some (ab_R v0), some (ab_I v1), some (ab_I v2), some (ab_I v3), some (ab_I v4), none] [ab_I s3, ab_I s2, ab_I s1, ab_R s0] h none q := by
  intro v0 v1 v2 v3 v4 s3 s2 s1 s0 h q hk
  unfold f_X9_laysBy_J76 at hk
  obtain ⟨q1, hq1, hk⟩ := ab_bnd hk
  obtain ⟨hb, hq1⟩ := ab_on_some hq1
  refine ab_callVV (st := []) (as := [ab_I s1, ab_I s2, ab_I s3]) (b := s0) (pc := 76) dX9_laysBy_76 ml_RX9_297 my_X9_laysEntry mv_X9_laysEntry hb (ct_X9_laysEntry hq1) ⟨Nat.le_of_ble_eq_true rfl, Nat.le_of_ble_eq_true rfl⟩ rfl (Nat.le_of_ble_eq_true rfl) rfl ?_
  refine ab_sub_ (lv2 := [some (ab_R v0), some (ab_I v1), some (ab_I v2), some (ab_I v3), some (ab_I v4), none]) (ab_ss (ab_ss (ab_ss (ab_ss (ab_ss (ab_sn ab_s0)))))) ?_
  exact e_X9_laysBy_J79 hrec hk85 _ _ _ _ _ _ _ hk
noncomputable def f_X9_laysBy_L22 (k85 : Int → Int → Int → Int → ab_H → Option ab_H) : Nat → Int → Int → Int → Int → Int → ab_H → Option ab_H
  | 0, _, _, _, _, _, _ => none
  | n + 1, v0, v1, v2, v3, v4, h =>
    (ab_on h 10 v0 (f_X9_terms v0 v3 h)).bind fun q1 =>
    if q1.1 ≤ v4 then
      k85 v0 v1 v2 v3 q1.2
    else
    (ab_on q1.2 10 v0 (f_X9_doesLead v0 v3 v4 q1.2)).bind fun q2 =>
    if q2.1 = (0 : Int) then
      f_X9_laysBy_J79 (f_X9_laysBy_L22 k85 n) k85 v0 v1 v2 v3 v4 q2.2
    else
    (ab_on q2.2 10 v0 (f_X9_roleOf v0 v3 v4 q2.2)).bind fun q3 =>
    if q3.1 = v1 then
      f_X9_laysBy_J76 (f_X9_laysBy_L22 k85 n) k85 v0 v1 v2 v3 v4 v2 v4 v3 v0 q3.2
    else
    (ab_get q3.2 10 1 v0).bind fun t4 =>
    (ab_on q3.2 10 v0 (f_X9_roleOf v0 v3 v4 q3.2)).bind fun q5 =>
    (ab_ald q5.2 12 t4 (ab_w32 ((2 : Int) + q5.1))).bind fun t6 =>
    f_X9_laysBy_J76 (f_X9_laysBy_L22 k85 n) k85 v0 v1 v2 v3 v4 (ab_w32 t6) v4 v3 v0 q5.2
set_option maxRecDepth 20000 in
theorem e_X9_laysBy_L22 {k85 : Int → Int → Int → Int → ab_H → Option ab_H} (hk85 : ∀ (v0 : Int) (v1 : Int) (v2 : Int) (v3 : Int) (h : ab_H) (q : ab_H), k85 v0 v1 v2 v3 h = some q → ab_E mm_X9_laysBy cX9_laysBy 85 [some (ab_R v0), some (ab_I v1), some (ab_I v2), some (ab_I v3), none, none] [] h none q) : ∀ (n : Nat) (v0 : Int) (v1 : Int) (v2 : Int) (v3 : Int) (v4 : Int) (h : ab_H) (q : ab_H), f_X9_laysBy_L22 k85 n v0 v1 v2 v3 v4 h = some q → ab_E mm_X9_laysBy cX9_laysBy 22 [some (ab_R v0), some (ab_I v1), some (ab_I v2), some (ab_I v3), some (ab_I v4), none] [] h none q := by
  intro n
  induction n with
  | zero => intro v0 v1 v2 v3 v4 h q hk; cases hk
  | succ n ih =>
    intro v0 v1 v2 v3 v4 h q hk
    unfold f_X9_laysBy_L22 at hk
    refine ab_iload (pc := 22) (i := 4) dX9_laysBy_22 rfl ?_
    refine ab_aload_n (pc := 24) (i := 0) dX9_laysBy_24 rfl rfl ?_
    refine ab_iload_n (pc := 25) (i := 3) dX9_laysBy_25 rfl rfl ?_
    obtain ⟨q1, hq1, hk⟩ := ab_bnd hk
    obtain ⟨hb, hq1⟩ := ab_on_some hq1
    refine ab_callVI (st := [ab_I v4]) (as := [ab_I v3]) (b := v0) (pc := 26) dX9_laysBy_26 ml_RX9_255 my_X9_terms mv_X9_terms hb (ct_X9_terms hq1) ⟨Nat.le_of_ble_eq_true rfl, Nat.le_of_ble_eq_true rfl⟩ rfl (Nat.le_of_ble_eq_true rfl) rfl ?_
    refine ab_icmp_ge (pc := 29) (tgt := 85) dX9_laysBy_29 rfl (fun hc => ?_) (fun hc => ?_)
    · have hk := ab_ifp hk hc
      refine ab_sub_ (lv2 := [some (ab_R v0), some (ab_I v1), some (ab_I v2), some (ab_I v3), none, none]) (ab_ss (ab_ss (ab_ss (ab_ss (ab_sn (ab_sn ab_s0)))))) ?_
      exact hk85 _ _ _ _ _ _ hk
    · have hk := ab_ifn hk hc
      refine ab_aload_n (pc := 32) (i := 0) dX9_laysBy_32 rfl rfl ?_
      refine ab_iload_n (pc := 33) (i := 3) dX9_laysBy_33 rfl rfl ?_
      refine ab_iload (pc := 34) (i := 4) dX9_laysBy_34 rfl ?_
      obtain ⟨q2, hq2, hk⟩ := ab_bnd hk
      obtain ⟨hb, hq2⟩ := ab_on_some hq2
      refine ab_callVI (st := []) (as := [ab_I v3, ab_I v4]) (b := v0) (pc := 36) dX9_laysBy_36 ml_RX9_290 my_X9_doesLead mv_X9_doesLead hb (ct_X9_doesLead hq2) ⟨Nat.le_of_ble_eq_true rfl, Nat.le_of_ble_eq_true rfl⟩ rfl (Nat.le_of_ble_eq_true rfl) rfl ?_
      refine ab_if_eq (pc := 39) (tgt := 79) dX9_laysBy_39 rfl (fun hc => ?_) (fun hc => ?_)
      · have hk := ab_ifp hk hc
        refine ab_sub_ (lv2 := [some (ab_R v0), some (ab_I v1), some (ab_I v2), some (ab_I v3), some (ab_I v4), none]) (ab_ss (ab_ss (ab_ss (ab_ss (ab_ss (ab_sn ab_s0)))))) ?_
        exact e_X9_laysBy_J79 ih hk85 _ _ _ _ _ _ _ hk
      · have hk := ab_ifn hk hc
        refine ab_aload_n (pc := 42) (i := 0) dX9_laysBy_42 rfl rfl ?_
        refine ab_iload_n (pc := 43) (i := 3) dX9_laysBy_43 rfl rfl ?_
        refine ab_iload (pc := 44) (i := 4) dX9_laysBy_44 rfl ?_
        refine ab_aload_n (pc := 46) (i := 0) dX9_laysBy_46 rfl rfl ?_
        refine ab_iload_n (pc := 47) (i := 3) dX9_laysBy_47 rfl rfl ?_
        refine ab_iload (pc := 48) (i := 4) dX9_laysBy_48 rfl ?_
        obtain ⟨q3, hq3, hk⟩ := ab_bnd hk
        obtain ⟨hb, hq3⟩ := ab_on_some hq3
        refine ab_callVI (st := [ab_I v4, ab_I v3, ab_R v0]) (as := [ab_I v3, ab_I v4]) (b := v0) (pc := 50) dX9_laysBy_50 ml_RX9_294 my_X9_roleOf mv_X9_roleOf hb (ct_X9_roleOf hq3) ⟨Nat.le_of_ble_eq_true rfl, Nat.le_of_ble_eq_true rfl⟩ rfl (Nat.le_of_ble_eq_true rfl) rfl ?_
        refine ab_iload_n (pc := 53) (i := 1) dX9_laysBy_53 rfl rfl ?_
        refine ab_icmp_ne (pc := 54) (tgt := 61) dX9_laysBy_54 rfl (fun hc => ?_) (fun hc => ?_)
        · have hk := ab_ifn hk hc
          refine ab_aload_n (pc := 61) (i := 0) dX9_laysBy_61 rfl rfl ?_
          obtain ⟨t4, ht4, hk⟩ := ab_bnd hk
          refine ab_getR (pc := 62) dX9_laysBy_62 fl_RX9_9 ht4 ?_
          refine ab_iconst (pc := 65) dX9_laysBy_65 ab_k_2 ?_
          refine ab_aload_n (pc := 66) (i := 0) dX9_laysBy_66 rfl rfl ?_
          refine ab_iload_n (pc := 67) (i := 3) dX9_laysBy_67 rfl rfl ?_
          refine ab_iload (pc := 68) (i := 4) dX9_laysBy_68 rfl ?_
          obtain ⟨q5, hq5, hk⟩ := ab_bnd hk
          obtain ⟨hb, hq5⟩ := ab_on_some hq5
          refine ab_callVI (st := [ab_I (2 : Int), ab_R t4, ab_I v4, ab_I v3, ab_R v0]) (as := [ab_I v3, ab_I v4]) (b := v0) (pc := 70) dX9_laysBy_70 ml_RX9_294 my_X9_roleOf mv_X9_roleOf hb (ct_X9_roleOf hq5) ⟨Nat.le_of_ble_eq_true rfl, Nat.le_of_ble_eq_true rfl⟩ rfl (Nat.le_of_ble_eq_true rfl) rfl ?_
          refine ab_iadd (pc := 73) dX9_laysBy_73 ?_
          obtain ⟨t6, ht6, hk⟩ := ab_bnd hk
          refine ab_lald (pc := 74) dX9_laysBy_74 ht6 ?_
          refine ab_l2i_ (pc := 75) dX9_laysBy_75 ?_
          refine ab_sub_ (lv2 := [some (ab_R v0), some (ab_I v1), some (ab_I v2), some (ab_I v3), some (ab_I v4), none]) (ab_ss (ab_ss (ab_ss (ab_ss (ab_ss (ab_sn ab_s0)))))) ?_
          exact e_X9_laysBy_J76 ih hk85 _ _ _ _ _ _ _ _ _ _ _ hk
        · have hk := ab_ifp hk hc
          refine ab_iload_n (pc := 57) (i := 2) dX9_laysBy_57 rfl rfl ?_
          refine ab_goto (pc := 58) (tgt := 76) dX9_laysBy_58 rfl ?_
          refine ab_sub_ (lv2 := [some (ab_R v0), some (ab_I v1), some (ab_I v2), some (ab_I v3), some (ab_I v4), none]) (ab_ss (ab_ss (ab_ss (ab_ss (ab_ss (ab_sn ab_s0)))))) ?_
          exact e_X9_laysBy_J76 ih hk85 _ _ _ _ _ _ _ _ _ _ _ hk
noncomputable def f_X9_laysBy_L11 (k91 : Int → ab_H → Option ab_H) : Nat → Int → Int → Int → Int → ab_H → Option ab_H
  | 0, _, _, _, _, _ => none
  | n + 1, v0, v1, v2, v3, h =>
    (ab_on h 10 v0 (f_X9_strings v0 h)).bind fun q1 =>
    if q1.1 ≤ v3 then
      k91 v0 q1.2
    else
    f_X9_laysBy_L22 (fun w85_0 w85_1 w85_2 w85_3 hx85 =>
      f_X9_laysBy_L11 k91 n w85_0 w85_1 w85_2 (ab_w32 (w85_3 + (1 : Int))) hx85) ab_FU v0 v1 v2 v3 (0 : Int) q1.2
set_option maxRecDepth 20000 in
theorem e_X9_laysBy_L11 {k91 : Int → ab_H → Option ab_H} (hk91 : ∀ (v0 : Int) (h : ab_H) (q : ab_H), k91 v0 h = some q → ab_E mm_X9_laysBy cX9_laysBy 91 [some (ab_R v0), none, none, none, none, none] [] h none q) : ∀ (n : Nat) (v0 : Int) (v1 : Int) (v2 : Int) (v3 : Int) (h : ab_H) (q : ab_H), f_X9_laysBy_L11 k91 n v0 v1 v2 v3 h = some q → ab_E mm_X9_laysBy cX9_laysBy 11 [some (ab_R v0), some (ab_I v1), some (ab_I v2), some (ab_I v3), none, none] [] h none q := by
  intro n
  induction n with
  | zero => intro v0 v1 v2 v3 h q hk; cases hk
  | succ n ih =>
    intro v0 v1 v2 v3 h q hk
    unfold f_X9_laysBy_L11 at hk
    refine ab_iload_n (pc := 11) (i := 3) dX9_laysBy_11 rfl rfl ?_
    refine ab_aload_n (pc := 12) (i := 0) dX9_laysBy_12 rfl rfl ?_
    obtain ⟨q1, hq1, hk⟩ := ab_bnd hk
    obtain ⟨hb, hq1⟩ := ab_on_some hq1
    refine ab_callVI (st := [ab_I v3]) (as := []) (b := v0) (pc := 13) dX9_laysBy_13 ml_RX9_246 my_X9_strings mv_X9_strings hb (ct_X9_strings hq1) ⟨Nat.le_of_ble_eq_true rfl, Nat.le_of_ble_eq_true rfl⟩ rfl (Nat.le_of_ble_eq_true rfl) rfl ?_
    refine ab_icmp_ge (pc := 16) (tgt := 91) dX9_laysBy_16 rfl (fun hc => ?_) (fun hc => ?_)
    · have hk := ab_ifp hk hc
      refine ab_sub_ (lv2 := [some (ab_R v0), none, none, none, none, none]) (ab_ss (ab_sn (ab_sn (ab_sn (ab_sn (ab_sn ab_s0)))))) ?_
      exact hk91 _ _ _ hk
    · have hk := ab_ifn hk hc
      refine ab_iconst (pc := 19) dX9_laysBy_19 ab_k_0 ?_
      refine ab_istore (pc := 20) (i := 4) (lv2 := [some (ab_R v0), some (ab_I v1), some (ab_I v2), some (ab_I v3), some (ab_I (0 : Int)), none]) dX9_laysBy_20 (Nat.le_of_ble_eq_true rfl) rfl rfl ?_
      refine ab_sub_ (lv2 := [some (ab_R v0), some (ab_I v1), some (ab_I v2), some (ab_I v3), some (ab_I (0 : Int)), none]) (ab_ss (ab_ss (ab_ss (ab_ss (ab_ss (ab_sn ab_s0)))))) ?_
      refine e_X9_laysBy_L22 (fun w85_0 w85_1 w85_2 w85_3 hx85 q hk => ?_) _ _ _ _ _ _ _ _ hk
      · skip
        refine ab_iinc (pc := 85) (i := 3) (lv2 := [some (ab_R w85_0), some (ab_I w85_1), some (ab_I w85_2), some (ab_I (ab_w32 (w85_3 + (1 : Int)))), none, none]) dX9_laysBy_85 rfl (Nat.le_of_ble_eq_true rfl) rfl rfl ?_
        refine ab_goto (pc := 88) (tgt := 11) dX9_laysBy_88 rfl ?_
        refine ab_sub_ (lv2 := [some (ab_R w85_0), some (ab_I w85_1), some (ab_I w85_2), some (ab_I (ab_w32 (w85_3 + (1 : Int)))), none, none]) (ab_ss (ab_ss (ab_ss (ab_ss (ab_sn (ab_sn ab_s0)))))) ?_
        exact ih _ _ _ _ _ _ hk
noncomputable def f_X9_laysBy (a0 : Int) (a1 : Int) (a2 : Int) (h : ab_H) : Option ab_H :=
  (ab_on h 10 a0 (f_X9_laysWords a0 h)).bind fun q1 =>
  (ab_put q1 10 16 a0 (0 : Int)).bind fun h1 =>
  f_X9_laysBy_L11 (fun w91_0 hx91 =>
    f_X9_laysBy_L93 (fun w162_0 hx162 =>
      (ab_put hx162 10 17 w162_0 (0 : Int)).bind fun h2 =>
      (ab_put h2 10 18 w162_0 (0 : Int)).bind fun h3 =>
      f_X9_laysBy_L174 ab_FU w162_0 (0 : Int) h3) ab_FU w91_0 (0 : Int) hx91) ab_FU a0 a1 a2 (0 : Int) h1
set_option maxRecDepth 20000 in
theorem ct_X9_laysBy {a0 a1 a2 : Int} {h : ab_H} {q : ab_H} (hk : f_X9_laysBy a0 a1 a2 h = some q) : ab_CT yX9_laysBy cX9_laysBy 6 none 4 88 [ab_R a0, ab_I a1, ab_I a2] h none q := by
  refine ab_CT.mk_ 3 (own := RX9) (ini := false) (lv := [some (ab_R a0), some (ab_I a1), some (ab_I a2), none, none, none]) rfl (by decide +kernel) (fun q => by cases q) rfl rfl ?_
  unfold f_X9_laysBy at hk
  show ab_E mm_X9_laysBy cX9_laysBy 0 _ [] h _ _
  refine ab_aload_n (pc := 0) (i := 0) dX9_laysBy_0 rfl rfl ?_
  obtain ⟨q1, hq1, hk⟩ := ab_bnd hk
  obtain ⟨hb, hq1⟩ := ab_on_some hq1
  refine ab_callVV (st := []) (as := []) (b := a0) (pc := 1) dX9_laysBy_1 ml_RX9_287 my_X9_laysWords mv_X9_laysWords hb (ct_X9_laysWords hq1) ⟨Nat.le_of_ble_eq_true rfl, Nat.le_of_ble_eq_true rfl⟩ rfl (Nat.le_of_ble_eq_true rfl) rfl ?_
  refine ab_aload_n (pc := 4) (i := 0) dX9_laysBy_4 rfl rfl ?_
  refine ab_iconst (pc := 5) dX9_laysBy_5 ab_k_0 ?_
  obtain ⟨h1, hh1, hk⟩ := ab_bnd hk
  refine ab_putI_ (pc := 6) dX9_laysBy_6 fl_RX9_267 (fun q => by cases q) hh1 ?_
  refine ab_iconst (pc := 9) dX9_laysBy_9 ab_k_0 ?_
  refine ab_istore_n (pc := 10) (i := 3) (lv2 := [some (ab_R a0), some (ab_I a1), some (ab_I a2), some (ab_I (0 : Int)), none, none]) dX9_laysBy_10 rfl (Nat.le_of_ble_eq_true rfl) rfl rfl ?_
  refine ab_sub_ (lv2 := [some (ab_R a0), some (ab_I a1), some (ab_I a2), some (ab_I (0 : Int)), none, none]) (ab_ss (ab_ss (ab_ss (ab_ss (ab_sn (ab_sn ab_s0)))))) ?_
  refine e_X9_laysBy_L11 (fun w91_0 hx91 q hk => ?_) _ _ _ _ _ _ _ hk
  · skip
    refine ab_iconst (pc := 91) dX9_laysBy_91 ab_k_0 ?_
    refine ab_istore_n (pc := 92) (i := 3) (lv2 := [some (ab_R w91_0), none, none, some (ab_I (0 : Int)), none, none]) dX9_laysBy_92 rfl (Nat.le_of_ble_eq_true rfl) rfl rfl ?_
    refine ab_sub_ (lv2 := [some (ab_R w91_0), none, none, some (ab_I (0 : Int)), none, none]) (ab_ss (ab_sn (ab_sn (ab_ss (ab_sn (ab_sn ab_s0)))))) ?_
    refine e_X9_laysBy_L93 (fun w162_0 hx162 q hk => ?_) _ _ _ _ _ hk
    · skip
      refine ab_aload_n (pc := 162) (i := 0) dX9_laysBy_162 rfl rfl ?_
      refine ab_iconst (pc := 163) dX9_laysBy_163 ab_k_0 ?_
      obtain ⟨h2, hh2, hk⟩ := ab_bnd hk
      refine ab_putI_ (pc := 164) dX9_laysBy_164 fl_RX9_303 (fun q => by cases q) hh2 ?_
      refine ab_aload_n (pc := 167) (i := 0) dX9_laysBy_167 rfl rfl ?_
      refine ab_iconst (pc := 168) dX9_laysBy_168 ab_k_0 ?_
      obtain ⟨h3, hh3, hk⟩ := ab_bnd hk
      refine ab_putI_ (pc := 169) dX9_laysBy_169 fl_RX9_306 (fun q => by cases q) hh3 ?_
      refine ab_iconst (pc := 172) dX9_laysBy_172 ab_k_0 ?_
      refine ab_istore_n (pc := 173) (i := 3) (lv2 := [some (ab_R w162_0), none, none, some (ab_I (0 : Int)), none, none]) dX9_laysBy_173 rfl (Nat.le_of_ble_eq_true rfl) rfl rfl ?_
      refine ab_sub_ (lv2 := [some (ab_R w162_0), none, none, some (ab_I (0 : Int)), none, none]) (ab_ss (ab_sn (ab_sn (ab_ss (ab_sn (ab_sn ab_s0)))))) ?_
      refine e_X9_laysBy_L174 _ _ _ _ _ hk
theorem dX9_lays_0 : decode cX9_lays 0 = .ok (.aload_n 0, 1) := by decide +kernel
theorem dX9_lays_1 : decode cX9_lays 1 = .ok (.iconst (-1), 1) := by decide +kernel
theorem dX9_lays_2 : decode cX9_lays 2 = .ok (.iconst 0, 1) := by decide +kernel
theorem dX9_lays_3 : decode cX9_lays 3 = .ok (.invokevirtual 309, 3) := by decide +kernel
theorem dX9_lays_6 : decode cX9_lays 6 = .ok (.return_, 1) := by decide +kernel
abbrev mm_X9_lays : ab_M := (RX9, 1, none, false, 5, 113, none)
noncomputable def f_X9_lays (a0 : Int) (h : ab_H) : Option ab_H :=
  (ab_on h 10 a0 (f_X9_laysBy a0 (-1 : Int) (0 : Int) h)).bind fun q1 =>
  some q1
set_option maxRecDepth 20000 in
theorem ct_X9_lays {a0 : Int} {h : ab_H} {q : ab_H} (hk : f_X9_lays a0 h = some q) : ab_CT yX9_lays cX9_lays 1 none 5 113 [ab_R a0] h none q := by
  refine ab_CT.mk_ 0 (own := RX9) (ini := false) (lv := [some (ab_R a0)]) rfl (by decide +kernel) (fun q => by cases q) rfl rfl ?_
  unfold f_X9_lays at hk
  show ab_E mm_X9_lays cX9_lays 0 _ [] h _ _
  refine ab_aload_n (pc := 0) (i := 0) dX9_lays_0 rfl rfl ?_
  refine ab_iconst (pc := 1) dX9_lays_1 ab_k_m1 ?_
  refine ab_iconst (pc := 2) dX9_lays_2 ab_k_0 ?_
  obtain ⟨q1, hq1, hk⟩ := ab_bnd hk
  obtain ⟨hb, hq1⟩ := ab_on_some hq1
  refine ab_callVV (st := []) (as := [ab_I (-1 : Int), ab_I (0 : Int)]) (b := a0) (pc := 3) dX9_lays_3 ml_RX9_309 my_X9_laysBy mv_X9_laysBy hb (ct_X9_laysBy hq1) ⟨Nat.le_of_ble_eq_true rfl, Nat.le_of_ble_eq_true rfl⟩ rfl (Nat.le_of_ble_eq_true rfl) rfl ?_
  obtain rfl := Option.some.inj hk
  exact ab_retv (pc := 6) dX9_lays_6 rfl
theorem dX9_count_0 : decode cX9_count 0 = .ok (.iload_n 1, 1) := by decide +kernel
theorem dX9_count_1 : decode cX9_count 1 = .ok (.i2l, 1) := by decide +kernel
theorem dX9_count_2 : decode cX9_count 2 = .ok (.lconst 1, 1) := by decide +kernel
theorem dX9_count_3 : decode cX9_count 3 = .ok (.ldc2_w 312, 3) := by decide +kernel
theorem dX9_count_6 : decode cX9_count 6 = .ok (.invokestatic 84, 3) := by decide +kernel
theorem dX9_count_9 : decode cX9_count 9 = .ok (.ifCond .eq 7, 3) := by decide +kernel
theorem dX9_count_12 : decode cX9_count 12 = .ok (.aload_n 0, 1) := by decide +kernel
theorem dX9_count_13 : decode cX9_count 13 = .ok (.invokevirtual 314, 3) := by decide +kernel
theorem dX9_count_16 : decode cX9_count 16 = .ok (.iconst 0, 1) := by decide +kernel
theorem dX9_count_17 : decode cX9_count 17 = .ok (.istore_n 2, 1) := by decide +kernel
theorem dX9_count_18 : decode cX9_count 18 = .ok (.iconst 0, 1) := by decide +kernel
theorem dX9_count_19 : decode cX9_count 19 = .ok (.istore_n 3, 1) := by decide +kernel
theorem dX9_count_20 : decode cX9_count 20 = .ok (.iload_n 3, 1) := by decide +kernel
theorem dX9_count_21 : decode cX9_count 21 = .ok (.aload_n 0, 1) := by decide +kernel
theorem dX9_count_22 : decode cX9_count 22 = .ok (.invokevirtual 246, 3) := by decide +kernel
theorem dX9_count_25 : decode cX9_count 25 = .ok (.if_icmp .ge 22, 3) := by decide +kernel
theorem dX9_count_28 : decode cX9_count 28 = .ok (.iload_n 1, 1) := by decide +kernel
theorem dX9_count_29 : decode cX9_count 29 = .ok (.iconst 1, 1) := by decide +kernel
theorem dX9_count_30 : decode cX9_count 30 = .ok (.if_icmp .ne 17, 3) := by decide +kernel
theorem dX9_count_33 : decode cX9_count 33 = .ok (.iload_n 2, 1) := by decide +kernel
theorem dX9_count_34 : decode cX9_count 34 = .ok (.aload_n 0, 1) := by decide +kernel
theorem dX9_count_35 : decode cX9_count 35 = .ok (.iload_n 3, 1) := by decide +kernel
theorem dX9_count_36 : decode cX9_count 36 = .ok (.invokevirtual 255, 3) := by decide +kernel
theorem dX9_count_39 : decode cX9_count 39 = .ok (.iadd, 1) := by decide +kernel
theorem dX9_count_40 : decode cX9_count 40 = .ok (.istore_n 2, 1) := by decide +kernel
theorem dX9_count_41 : decode cX9_count 41 = .ok (.iinc 3 1, 3) := by decide +kernel
theorem dX9_count_44 : decode cX9_count 44 = .ok (.goto (-24), 3) := by decide +kernel
theorem dX9_count_47 : decode cX9_count 47 = .ok (.iload_n 1, 1) := by decide +kernel
theorem dX9_count_48 : decode cX9_count 48 = .ok (.tableswitch 103 0 9 #[56, 61, 63, 68, 73, 78, 83, 88, 93, 98], 56) := by decide +kernel
theorem dX9_count_104 : decode cX9_count 104 = .ok (.aload_n 0, 1) := by decide +kernel
theorem dX9_count_105 : decode cX9_count 105 = .ok (.invokevirtual 246, 3) := by decide +kernel
theorem dX9_count_108 : decode cX9_count 108 = .ok (.ireturn, 1) := by decide +kernel
theorem dX9_count_109 : decode cX9_count 109 = .ok (.iload_n 2, 1) := by decide +kernel
theorem dX9_count_110 : decode cX9_count 110 = .ok (.ireturn, 1) := by decide +kernel
theorem dX9_count_111 : decode cX9_count 111 = .ok (.aload_n 0, 1) := by decide +kernel
theorem dX9_count_112 : decode cX9_count 112 = .ok (.invokevirtual 317, 3) := by decide +kernel
theorem dX9_count_115 : decode cX9_count 115 = .ok (.ireturn, 1) := by decide +kernel
theorem dX9_count_116 : decode cX9_count 116 = .ok (.aload_n 0, 1) := by decide +kernel
theorem dX9_count_117 : decode cX9_count 117 = .ok (.getfield 252, 3) := by decide +kernel
theorem dX9_count_120 : decode cX9_count 120 = .ok (.ireturn, 1) := by decide +kernel
theorem dX9_count_121 : decode cX9_count 121 = .ok (.aload_n 0, 1) := by decide +kernel
theorem dX9_count_122 : decode cX9_count 122 = .ok (.getfield 267, 3) := by decide +kernel
theorem dX9_count_125 : decode cX9_count 125 = .ok (.ireturn, 1) := by decide +kernel
theorem dX9_count_126 : decode cX9_count 126 = .ok (.aload_n 0, 1) := by decide +kernel
theorem dX9_count_127 : decode cX9_count 127 = .ok (.getfield 303, 3) := by decide +kernel
theorem dX9_count_130 : decode cX9_count 130 = .ok (.ireturn, 1) := by decide +kernel
theorem dX9_count_131 : decode cX9_count 131 = .ok (.aload_n 0, 1) := by decide +kernel
theorem dX9_count_132 : decode cX9_count 132 = .ok (.getfield 306, 3) := by decide +kernel
theorem dX9_count_135 : decode cX9_count 135 = .ok (.ireturn, 1) := by decide +kernel
theorem dX9_count_136 : decode cX9_count 136 = .ok (.aload_n 0, 1) := by decide +kernel
theorem dX9_count_137 : decode cX9_count 137 = .ok (.getfield 243, 3) := by decide +kernel
theorem dX9_count_140 : decode cX9_count 140 = .ok (.ireturn, 1) := by decide +kernel
theorem dX9_count_141 : decode cX9_count 141 = .ok (.aload_n 0, 1) := by decide +kernel
theorem dX9_count_142 : decode cX9_count 142 = .ok (.getfield 77, 3) := by decide +kernel
theorem dX9_count_145 : decode cX9_count 145 = .ok (.ireturn, 1) := by decide +kernel
theorem dX9_count_146 : decode cX9_count 146 = .ok (.aload_n 0, 1) := by decide +kernel
theorem dX9_count_147 : decode cX9_count 147 = .ok (.getfield 320, 3) := by decide +kernel
theorem dX9_count_150 : decode cX9_count 150 = .ok (.ireturn, 1) := by decide +kernel
theorem dX9_count_151 : decode cX9_count 151 = .ok (.iconst (-1), 1) := by decide +kernel
theorem dX9_count_152 : decode cX9_count 152 = .ok (.ireturn, 1) := by decide +kernel
abbrev mm_X9_count : ab_M := (RX9, 4, (some .int), false, 6, 133, none)
noncomputable def f_X9_count_J47 (v0 : Int) (v1 : Int) (v2 : Int) (h : ab_H) : Option (Int × ab_H) :=
  if v1 = (0 : Int) then
    (ab_on h 10 v0 (f_X9_strings v0 h)).bind fun q1 =>
    some (q1.1, q1.2)
  else
  if v1 = (1 : Int) then
    some (v2, h)
  else
  if v1 = (2 : Int) then
    (ab_on h 10 v0 (f_X9_sees v0 h)).bind fun q2 =>
    some (q2.1, q2.2)
  else
  if v1 = (3 : Int) then
    (ab_get h 10 14 v0).bind fun t3 =>
    some (t3, h)
  else
  if v1 = (4 : Int) then
    (ab_get h 10 16 v0).bind fun t4 =>
    some (t4, h)
  else
  if v1 = (5 : Int) then
    (ab_get h 10 17 v0).bind fun t5 =>
    some (t5, h)
  else
  if v1 = (6 : Int) then
    (ab_get h 10 18 v0).bind fun t6 =>
    some (t6, h)
  else
  if v1 = (7 : Int) then
    (ab_get h 10 34 v0).bind fun t7 =>
    some (t7, h)
  else
  if v1 = (8 : Int) then
    (ab_get h 10 4 v0).bind fun t8 =>
    some (t8, h)
  else
  if v1 = (9 : Int) then
    (ab_get h 10 28 v0).bind fun t9 =>
    some (t9, h)
  else
  some ((-1 : Int), h)
set_option maxRecDepth 20000 in
theorem e_X9_count_J47 : ∀ (v0 : Int) (v1 : Int) (v2 : Int) (h : ab_H) (q : Int × ab_H), f_X9_count_J47 v0 v1 v2 h = some q → ab_E mm_X9_count cX9_count 47 [some (ab_R v0), some (ab_I v1), some (ab_I v2), none] [] h (some (ab_I q.1)) q.2 := by
  intro v0 v1 v2 h q hk
  unfold f_X9_count_J47 at hk
  refine ab_iload_n (pc := 47) (i := 1) dX9_count_47 rfl rfl ?_
  by_cases hc : v1 = (0 : Int)
  · have hk := ab_ifp hk hc
    refine ab_tswIn (pc := 48) (v := (0 : Int)) (off := 56) (tgt := 104) dX9_count_48 hc ⟨by decide, by decide⟩ rfl rfl ?_
    refine ab_aload_n (pc := 104) (i := 0) dX9_count_104 rfl rfl ?_
    obtain ⟨q1, hq1, hk⟩ := ab_bnd hk
    obtain ⟨hb, hq1⟩ := ab_on_some hq1
    refine ab_callVI (st := []) (as := []) (b := v0) (pc := 105) dX9_count_105 ml_RX9_246 my_X9_strings mv_X9_strings hb (ct_X9_strings hq1) ⟨Nat.le_of_ble_eq_true rfl, Nat.le_of_ble_eq_true rfl⟩ rfl (Nat.le_of_ble_eq_true rfl) rfl ?_
    obtain rfl := Option.some.inj hk
    exact ab_reti (pc := 108) dX9_count_108 (Or.inl rfl)
  have hk := ab_ifn hk hc
  have hz0 := hc
  clear hc
  by_cases hc : v1 = (1 : Int)
  · have hk := ab_ifp hk hc
    refine ab_tswIn (pc := 48) (v := (1 : Int)) (off := 61) (tgt := 109) dX9_count_48 hc ⟨by decide, by decide⟩ rfl rfl ?_
    refine ab_iload_n (pc := 109) (i := 2) dX9_count_109 rfl rfl ?_
    obtain rfl := Option.some.inj hk
    exact ab_reti (pc := 110) dX9_count_110 (Or.inl rfl)
  have hk := ab_ifn hk hc
  have hz1 := hc
  clear hc
  by_cases hc : v1 = (2 : Int)
  · have hk := ab_ifp hk hc
    refine ab_tswIn (pc := 48) (v := (2 : Int)) (off := 63) (tgt := 111) dX9_count_48 hc ⟨by decide, by decide⟩ rfl rfl ?_
    refine ab_aload_n (pc := 111) (i := 0) dX9_count_111 rfl rfl ?_
    obtain ⟨q2, hq2, hk⟩ := ab_bnd hk
    obtain ⟨hb, hq2⟩ := ab_on_some hq2
    refine ab_callVI (st := []) (as := []) (b := v0) (pc := 112) dX9_count_112 ml_RX9_317 my_X9_sees mv_X9_sees hb (ct_X9_sees hq2) ⟨Nat.le_of_ble_eq_true rfl, Nat.le_of_ble_eq_true rfl⟩ rfl (Nat.le_of_ble_eq_true rfl) rfl ?_
    obtain rfl := Option.some.inj hk
    exact ab_reti (pc := 115) dX9_count_115 (Or.inl rfl)
  have hk := ab_ifn hk hc
  have hz2 := hc
  clear hc
  by_cases hc : v1 = (3 : Int)
  · have hk := ab_ifp hk hc
    refine ab_tswIn (pc := 48) (v := (3 : Int)) (off := 68) (tgt := 116) dX9_count_48 hc ⟨by decide, by decide⟩ rfl rfl ?_
    refine ab_aload_n (pc := 116) (i := 0) dX9_count_116 rfl rfl ?_
    obtain ⟨t3, ht3, hk⟩ := ab_bnd hk
    refine ab_getI (pc := 117) dX9_count_117 fl_RX9_252 ht3 ?_
    obtain rfl := Option.some.inj hk
    exact ab_reti (pc := 120) dX9_count_120 (Or.inl rfl)
  have hk := ab_ifn hk hc
  have hz3 := hc
  clear hc
  by_cases hc : v1 = (4 : Int)
  · have hk := ab_ifp hk hc
    refine ab_tswIn (pc := 48) (v := (4 : Int)) (off := 73) (tgt := 121) dX9_count_48 hc ⟨by decide, by decide⟩ rfl rfl ?_
    refine ab_aload_n (pc := 121) (i := 0) dX9_count_121 rfl rfl ?_
    obtain ⟨t4, ht4, hk⟩ := ab_bnd hk
    refine ab_getI (pc := 122) dX9_count_122 fl_RX9_267 ht4 ?_
    obtain rfl := Option.some.inj hk
    exact ab_reti (pc := 125) dX9_count_125 (Or.inl rfl)
  have hk := ab_ifn hk hc
  have hz4 := hc
  clear hc
  by_cases hc : v1 = (5 : Int)
  · have hk := ab_ifp hk hc
    refine ab_tswIn (pc := 48) (v := (5 : Int)) (off := 78) (tgt := 126) dX9_count_48 hc ⟨by decide, by decide⟩ rfl rfl ?_
    refine ab_aload_n (pc := 126) (i := 0) dX9_count_126 rfl rfl ?_
    obtain ⟨t5, ht5, hk⟩ := ab_bnd hk
    refine ab_getI (pc := 127) dX9_count_127 fl_RX9_303 ht5 ?_
    obtain rfl := Option.some.inj hk
    exact ab_reti (pc := 130) dX9_count_130 (Or.inl rfl)
  have hk := ab_ifn hk hc
  have hz5 := hc
  clear hc
  by_cases hc : v1 = (6 : Int)
  · have hk := ab_ifp hk hc
    refine ab_tswIn (pc := 48) (v := (6 : Int)) (off := 83) (tgt := 131) dX9_count_48 hc ⟨by decide, by decide⟩ rfl rfl ?_
    refine ab_aload_n (pc := 131) (i := 0) dX9_count_131 rfl rfl ?_
    obtain ⟨t6, ht6, hk⟩ := ab_bnd hk
    refine ab_getI (pc := 132) dX9_count_132 fl_RX9_306 ht6 ?_
    obtain rfl := Option.some.inj hk
    exact ab_reti (pc := 135) dX9_count_135 (Or.inl rfl)
  have hk := ab_ifn hk hc
  have hz6 := hc
  clear hc
  by_cases hc : v1 = (7 : Int)
  · have hk := ab_ifp hk hc
    refine ab_tswIn (pc := 48) (v := (7 : Int)) (off := 88) (tgt := 136) dX9_count_48 hc ⟨by decide, by decide⟩ rfl rfl ?_
    refine ab_aload_n (pc := 136) (i := 0) dX9_count_136 rfl rfl ?_
    obtain ⟨t7, ht7, hk⟩ := ab_bnd hk
    refine ab_getI (pc := 137) dX9_count_137 fl_RX9_243 ht7 ?_
    obtain rfl := Option.some.inj hk
    exact ab_reti (pc := 140) dX9_count_140 (Or.inl rfl)
  have hk := ab_ifn hk hc
  have hz7 := hc
  clear hc
  by_cases hc : v1 = (8 : Int)
  · have hk := ab_ifp hk hc
    refine ab_tswIn (pc := 48) (v := (8 : Int)) (off := 93) (tgt := 141) dX9_count_48 hc ⟨by decide, by decide⟩ rfl rfl ?_
    refine ab_aload_n (pc := 141) (i := 0) dX9_count_141 rfl rfl ?_
    obtain ⟨t8, ht8, hk⟩ := ab_bnd hk
    refine ab_getI (pc := 142) dX9_count_142 fl_RX9_77 ht8 ?_
    obtain rfl := Option.some.inj hk
    exact ab_reti (pc := 145) dX9_count_145 (Or.inl rfl)
  have hk := ab_ifn hk hc
  have hz8 := hc
  clear hc
  by_cases hc : v1 = (9 : Int)
  · have hk := ab_ifp hk hc
    refine ab_tswIn (pc := 48) (v := (9 : Int)) (off := 98) (tgt := 146) dX9_count_48 hc ⟨by decide, by decide⟩ rfl rfl ?_
    refine ab_aload_n (pc := 146) (i := 0) dX9_count_146 rfl rfl ?_
    obtain ⟨t9, ht9, hk⟩ := ab_bnd hk
    refine ab_getI (pc := 147) dX9_count_147 fl_RX9_320 ht9 ?_
    obtain rfl := Option.some.inj hk
    exact ab_reti (pc := 150) dX9_count_150 (Or.inl rfl)
  have hk := ab_ifn hk hc
  have hz9 := hc
  clear hc
  refine ab_tswOut (pc := 48) (tgt := 151) dX9_count_48 (by omega) rfl ?_
  refine ab_iconst (pc := 151) dX9_count_151 ab_k_m1 ?_
  obtain rfl := Option.some.inj hk
  exact ab_reti (pc := 152) dX9_count_152 (Or.inl rfl)
noncomputable def f_X9_count_L20 (k47 : Int → Int → Int → ab_H → Option (Int × ab_H)) : Nat → Int → Int → Int → Int → ab_H → Option (Int × ab_H)
  | 0, _, _, _, _, _ => none
  | n + 1, v0, v1, v2, v3, h =>
    (ab_on h 10 v0 (f_X9_strings v0 h)).bind fun q1 =>
    if q1.1 ≤ v3 then
      k47 v0 v1 v2 q1.2
    else
    if v1 = (1 : Int) then
      (ab_on q1.2 10 v0 (f_X9_terms v0 v3 q1.2)).bind fun q2 =>
      f_X9_count_L20 k47 n v0 v1 (ab_w32 (v2 + q2.1)) (ab_w32 (v3 + (1 : Int))) q2.2
    else
    k47 v0 v1 v2 q1.2
set_option maxRecDepth 20000 in
theorem e_X9_count_L20 {k47 : Int → Int → Int → ab_H → Option (Int × ab_H)} (hk47 : ∀ (v0 : Int) (v1 : Int) (v2 : Int) (h : ab_H) (q : Int × ab_H), k47 v0 v1 v2 h = some q → ab_E mm_X9_count cX9_count 47 [some (ab_R v0), some (ab_I v1), some (ab_I v2), none] [] h (some (ab_I q.1)) q.2) : ∀ (n : Nat) (v0 : Int) (v1 : Int) (v2 : Int) (v3 : Int) (h : ab_H) (q : Int × ab_H), f_X9_count_L20 k47 n v0 v1 v2 v3 h = some q → ab_E mm_X9_count cX9_count 20 [some (ab_R v0), some (ab_I v1), some (ab_I v2), some (ab_I v3)] [] h (some (ab_I q.1)) q.2 := by
  intro n
  induction n with
  | zero => intro v0 v1 v2 v3 h q hk; cases hk
  | succ n ih =>
    intro v0 v1 v2 v3 h q hk
    unfold f_X9_count_L20 at hk
    refine ab_iload_n (pc := 20) (i := 3) dX9_count_20 rfl rfl ?_
    refine ab_aload_n (pc := 21) (i := 0) dX9_count_21 rfl rfl ?_
    obtain ⟨q1, hq1, hk⟩ := ab_bnd hk
    obtain ⟨hb, hq1⟩ := ab_on_some hq1
    refine ab_callVI (st := [ab_I v3]) (as := []) (b := v0) (pc := 22) dX9_count_22 ml_RX9_246 my_X9_strings mv_X9_strings hb (ct_X9_strings hq1) ⟨Nat.le_of_ble_eq_true rfl, Nat.le_of_ble_eq_true rfl⟩ rfl (Nat.le_of_ble_eq_true rfl) rfl ?_
    refine ab_icmp_ge (pc := 25) (tgt := 47) dX9_count_25 rfl (fun hc => ?_) (fun hc => ?_)
    · have hk := ab_ifp hk hc
      refine ab_sub_ (lv2 := [some (ab_R v0), some (ab_I v1), some (ab_I v2), none]) (ab_ss (ab_ss (ab_ss (ab_sn ab_s0)))) ?_
      exact hk47 _ _ _ _ _ hk
    · have hk := ab_ifn hk hc
      refine ab_iload_n (pc := 28) (i := 1) dX9_count_28 rfl rfl ?_
      refine ab_iconst (pc := 29) dX9_count_29 ab_k_1 ?_
      refine ab_icmp_ne (pc := 30) (tgt := 47) dX9_count_30 rfl (fun hc => ?_) (fun hc => ?_)
      · have hk := ab_ifn hk hc
        refine ab_sub_ (lv2 := [some (ab_R v0), some (ab_I v1), some (ab_I v2), none]) (ab_ss (ab_ss (ab_ss (ab_sn ab_s0)))) ?_
        exact hk47 _ _ _ _ _ hk
      · have hk := ab_ifp hk hc
        refine ab_iload_n (pc := 33) (i := 2) dX9_count_33 rfl rfl ?_
        refine ab_aload_n (pc := 34) (i := 0) dX9_count_34 rfl rfl ?_
        refine ab_iload_n (pc := 35) (i := 3) dX9_count_35 rfl rfl ?_
        obtain ⟨q2, hq2, hk⟩ := ab_bnd hk
        obtain ⟨hb, hq2⟩ := ab_on_some hq2
        refine ab_callVI (st := [ab_I v2]) (as := [ab_I v3]) (b := v0) (pc := 36) dX9_count_36 ml_RX9_255 my_X9_terms mv_X9_terms hb (ct_X9_terms hq2) ⟨Nat.le_of_ble_eq_true rfl, Nat.le_of_ble_eq_true rfl⟩ rfl (Nat.le_of_ble_eq_true rfl) rfl ?_
        refine ab_iadd (pc := 39) dX9_count_39 ?_
        refine ab_istore_n (pc := 40) (i := 2) (lv2 := [some (ab_R v0), some (ab_I v1), some (ab_I (ab_w32 (v2 + q2.1))), some (ab_I v3)]) dX9_count_40 rfl (Nat.le_of_ble_eq_true rfl) rfl rfl ?_
        refine ab_iinc (pc := 41) (i := 3) (lv2 := [some (ab_R v0), some (ab_I v1), some (ab_I (ab_w32 (v2 + q2.1))), some (ab_I (ab_w32 (v3 + (1 : Int))))]) dX9_count_41 rfl (Nat.le_of_ble_eq_true rfl) rfl rfl ?_
        refine ab_goto (pc := 44) (tgt := 20) dX9_count_44 rfl ?_
        refine ab_sub_ (lv2 := [some (ab_R v0), some (ab_I v1), some (ab_I (ab_w32 (v2 + q2.1))), some (ab_I (ab_w32 (v3 + (1 : Int))))]) (ab_ss (ab_ss (ab_ss (ab_ss ab_s0)))) ?_
        exact ih _ _ _ _ _ _ hk
noncomputable def f_X9_count_J16 (v0 : Int) (v1 : Int) (h : ab_H) : Option (Int × ab_H) :=
  f_X9_count_L20 (fun w47_0 w47_1 w47_2 hx47 =>
    f_X9_count_J47 w47_0 w47_1 w47_2 hx47) ab_FU v0 v1 (0 : Int) (0 : Int) h
set_option maxRecDepth 20000 in
theorem e_X9_count_J16 : ∀ (v0 : Int) (v1 : Int) (h : ab_H) (q : Int × ab_H), f_X9_count_J16 v0 v1 h = some q → ab_E mm_X9_count cX9_count 16 [some (ab_R v0), some (ab_I v1), none, none] [] h (some (ab_I q.1)) q.2 := by
  intro v0 v1 h q hk
  unfold f_X9_count_J16 at hk
  refine ab_iconst (pc := 16) dX9_count_16 ab_k_0 ?_
  refine ab_istore_n (pc := 17) (i := 2) (lv2 := [some (ab_R v0), some (ab_I v1), some (ab_I (0 : Int)), none]) dX9_count_17 rfl (Nat.le_of_ble_eq_true rfl) rfl rfl ?_
  refine ab_iconst (pc := 18) dX9_count_18 ab_k_0 ?_
  refine ab_istore_n (pc := 19) (i := 3) (lv2 := [some (ab_R v0), some (ab_I v1), some (ab_I (0 : Int)), some (ab_I (0 : Int))]) dX9_count_19 rfl (Nat.le_of_ble_eq_true rfl) rfl rfl ?_
  refine ab_sub_ (lv2 := [some (ab_R v0), some (ab_I v1), some (ab_I (0 : Int)), some (ab_I (0 : Int))]) (ab_ss (ab_ss (ab_ss (ab_ss ab_s0)))) ?_
  refine e_X9_count_L20 (fun w47_0 w47_1 w47_2 hx47 q hk => ?_) _ _ _ _ _ _ _ hk
  · skip
    refine ab_sub_ (lv2 := [some (ab_R w47_0), some (ab_I w47_1), some (ab_I w47_2), none]) (ab_ss (ab_ss (ab_ss (ab_sn ab_s0)))) ?_
    exact e_X9_count_J47 _ _ _ _ _ hk
noncomputable def f_X9_count (a0 : Int) (a1 : Int) (h : ab_H) : Option (Int × ab_H) :=
  (f_X9_in a1 (1 : Int) (6 : Int) h).bind fun q1 =>
  if q1.1 = (0 : Int) then
    f_X9_count_J16 a0 a1 q1.2
  else
  (ab_on q1.2 10 a0 (f_X9_lays a0 q1.2)).bind fun q2 =>
  f_X9_count_J16 a0 a1 q2
set_option maxRecDepth 20000 in
theorem ct_X9_count {a0 a1 : Int} {h : ab_H} {q : Int × ab_H} (hk : f_X9_count a0 a1 h = some q) : ab_CT yX9_count cX9_count 4 (some .int) 6 133 [ab_R a0, ab_I a1] h (some (ab_I q.1)) q.2 := by
  refine ab_CT.mk_ 2 (own := RX9) (ini := false) (lv := [some (ab_R a0), some (ab_I a1), none, none]) rfl (by decide +kernel) (fun q => by cases q) rfl rfl ?_
  unfold f_X9_count at hk
  show ab_E mm_X9_count cX9_count 0 _ [] h _ _
  refine ab_iload_n (pc := 0) (i := 1) dX9_count_0 rfl rfl ?_
  refine ab_i2l_ (pc := 1) dX9_count_1 ?_
  refine ab_lconst (x := (1 : Int)) (pc := 2) dX9_count_2 rfl ab_kl_1 ?_
  refine ab_ldc2 (x := (6 : Int)) (pc := 3) dX9_count_3 ab_ld2_RX9_312 ab_kl_6 ?_
  obtain ⟨q1, hq1, hk⟩ := ab_bnd hk
  refine ab_callSI (st := []) (as := [ab_J a1, ab_J (1 : Int), ab_J (6 : Int)]) (pc := 6) dX9_count_6 ml_RX9_84 my_X9_in ms_X9_in (ct_X9_in hq1) ⟨Nat.le_of_ble_eq_true rfl, Nat.le_of_ble_eq_true rfl⟩ rfl (Nat.le_of_ble_eq_true rfl) rfl ?_
  refine ab_if_eq (pc := 9) (tgt := 16) dX9_count_9 rfl (fun hc => ?_) (fun hc => ?_)
  · have hk := ab_ifp hk hc
    refine ab_sub_ (lv2 := [some (ab_R a0), some (ab_I a1), none, none]) (ab_ss (ab_ss (ab_sn (ab_sn ab_s0)))) ?_
    exact e_X9_count_J16 _ _ _ _ hk
  · have hk := ab_ifn hk hc
    refine ab_aload_n (pc := 12) (i := 0) dX9_count_12 rfl rfl ?_
    obtain ⟨q2, hq2, hk⟩ := ab_bnd hk
    obtain ⟨hb, hq2⟩ := ab_on_some hq2
    refine ab_callVV (st := []) (as := []) (b := a0) (pc := 13) dX9_count_13 ml_RX9_314 my_X9_lays mv_X9_lays hb (ct_X9_lays hq2) ⟨Nat.le_of_ble_eq_true rfl, Nat.le_of_ble_eq_true rfl⟩ rfl (Nat.le_of_ble_eq_true rfl) rfl ?_
    refine ab_sub_ (lv2 := [some (ab_R a0), some (ab_I a1), none, none]) (ab_ss (ab_ss (ab_sn (ab_sn ab_s0)))) ?_
    exact e_X9_count_J16 _ _ _ _ hk
theorem dX9_isString_0 : decode cX9_isString 0 = .ok (.iload_n 1, 1) := by decide +kernel
theorem dX9_isString_1 : decode cX9_isString 1 = .ok (.i2l, 1) := by decide +kernel
theorem dX9_isString_2 : decode cX9_isString 2 = .ok (.lconst 0, 1) := by decide +kernel
theorem dX9_isString_3 : decode cX9_isString 3 = .ok (.aload_n 0, 1) := by decide +kernel
theorem dX9_isString_4 : decode cX9_isString 4 = .ok (.invokevirtual 246, 3) := by decide +kernel
theorem dX9_isString_7 : decode cX9_isString 7 = .ok (.iconst 1, 1) := by decide +kernel
theorem dX9_isString_8 : decode cX9_isString 8 = .ok (.isub, 1) := by decide +kernel
theorem dX9_isString_9 : decode cX9_isString 9 = .ok (.i2l, 1) := by decide +kernel
theorem dX9_isString_10 : decode cX9_isString 10 = .ok (.invokestatic 84, 3) := by decide +kernel
theorem dX9_isString_13 : decode cX9_isString 13 = .ok (.ireturn, 1) := by decide +kernel
abbrev mm_X9_isString : ab_M := (RX9, 2, (some .boolean), false, 1, 25, none)
noncomputable def f_X9_isString (a0 : Int) (a1 : Int) (h : ab_H) : Option (Int × ab_H) :=
  (ab_on h 10 a0 (f_X9_strings a0 h)).bind fun q1 =>
  (f_X9_in a1 (0 : Int) (ab_w32 (q1.1 - (1 : Int))) q1.2).bind fun q2 =>
  ab_if (decide (q2.1 = 0 ∨ q2.1 = 1)) <|
  some (q2.1, q2.2)
set_option maxRecDepth 20000 in
theorem ct_X9_isString {a0 a1 : Int} {h : ab_H} {q : Int × ab_H} (hk : f_X9_isString a0 a1 h = some q) : ab_CT yX9_isString cX9_isString 2 (some .boolean) 1 25 [ab_R a0, ab_I a1] h (some (ab_I q.1)) q.2 := by
  refine ab_CT.mk_ 0 (own := RX9) (ini := false) (lv := [some (ab_R a0), some (ab_I a1)]) rfl (by decide +kernel) (fun q => by cases q) rfl rfl ?_
  unfold f_X9_isString at hk
  show ab_E mm_X9_isString cX9_isString 0 _ [] h _ _
  refine ab_iload_n (pc := 0) (i := 1) dX9_isString_0 rfl rfl ?_
  refine ab_i2l_ (pc := 1) dX9_isString_1 ?_
  refine ab_lconst (x := (0 : Int)) (pc := 2) dX9_isString_2 rfl ab_kl_0 ?_
  refine ab_aload_n (pc := 3) (i := 0) dX9_isString_3 rfl rfl ?_
  obtain ⟨q1, hq1, hk⟩ := ab_bnd hk
  obtain ⟨hb, hq1⟩ := ab_on_some hq1
  refine ab_callVI (st := [ab_J (0 : Int), ab_J a1]) (as := []) (b := a0) (pc := 4) dX9_isString_4 ml_RX9_246 my_X9_strings mv_X9_strings hb (ct_X9_strings hq1) ⟨Nat.le_of_ble_eq_true rfl, Nat.le_of_ble_eq_true rfl⟩ rfl (Nat.le_of_ble_eq_true rfl) rfl ?_
  refine ab_iconst (pc := 7) dX9_isString_7 ab_k_1 ?_
  refine ab_isub (pc := 8) dX9_isString_8 ?_
  refine ab_i2l_ (pc := 9) dX9_isString_9 ?_
  obtain ⟨q2, hq2, hk⟩ := ab_bnd hk
  refine ab_callSI (st := []) (as := [ab_J a1, ab_J (0 : Int), ab_J (ab_w32 (q1.1 - (1 : Int)))]) (pc := 10) dX9_isString_10 ml_RX9_84 my_X9_in ms_X9_in (ct_X9_in hq2) ⟨Nat.le_of_ble_eq_true rfl, Nat.le_of_ble_eq_true rfl⟩ rfl (Nat.le_of_ble_eq_true rfl) rfl ?_
  obtain ⟨hg, hk⟩ := ab_if_some hk
  obtain rfl := Option.some.inj hk
  exact ab_retz (pc := 13) dX9_isString_13 rfl hg
theorem dX9_isTerm_0 : decode cX9_isTerm 0 = .ok (.aload_n 0, 1) := by decide +kernel
theorem dX9_isTerm_1 : decode cX9_isTerm 1 = .ok (.iload_n 1, 1) := by decide +kernel
theorem dX9_isTerm_2 : decode cX9_isTerm 2 = .ok (.invokevirtual 323, 3) := by decide +kernel
theorem dX9_isTerm_5 : decode cX9_isTerm 5 = .ok (.ifCond .eq 24, 3) := by decide +kernel
theorem dX9_isTerm_8 : decode cX9_isTerm 8 = .ok (.iload_n 2, 1) := by decide +kernel
theorem dX9_isTerm_9 : decode cX9_isTerm 9 = .ok (.i2l, 1) := by decide +kernel
theorem dX9_isTerm_10 : decode cX9_isTerm 10 = .ok (.lconst 0, 1) := by decide +kernel
theorem dX9_isTerm_11 : decode cX9_isTerm 11 = .ok (.aload_n 0, 1) := by decide +kernel
theorem dX9_isTerm_12 : decode cX9_isTerm 12 = .ok (.iload_n 1, 1) := by decide +kernel
theorem dX9_isTerm_13 : decode cX9_isTerm 13 = .ok (.invokevirtual 255, 3) := by decide +kernel
theorem dX9_isTerm_16 : decode cX9_isTerm 16 = .ok (.iconst 1, 1) := by decide +kernel
theorem dX9_isTerm_17 : decode cX9_isTerm 17 = .ok (.isub, 1) := by decide +kernel
theorem dX9_isTerm_18 : decode cX9_isTerm 18 = .ok (.i2l, 1) := by decide +kernel
theorem dX9_isTerm_19 : decode cX9_isTerm 19 = .ok (.invokestatic 84, 3) := by decide +kernel
theorem dX9_isTerm_22 : decode cX9_isTerm 22 = .ok (.ifCond .eq 7, 3) := by decide +kernel
theorem dX9_isTerm_25 : decode cX9_isTerm 25 = .ok (.iconst 1, 1) := by decide +kernel
theorem dX9_isTerm_26 : decode cX9_isTerm 26 = .ok (.goto 4, 3) := by decide +kernel
theorem dX9_isTerm_29 : decode cX9_isTerm 29 = .ok (.iconst 0, 1) := by decide +kernel
theorem dX9_isTerm_30 : decode cX9_isTerm 30 = .ok (.ireturn, 1) := by decide +kernel
abbrev mm_X9_isTerm : ab_M := (RX9, 3, (some .boolean), false, 2, 46, none)
noncomputable def f_X9_isTerm_J29 (h : ab_H) : Option (Int × ab_H) :=
  some ((0 : Int), h)
set_option maxRecDepth 20000 in
theorem e_X9_isTerm_J29 : ∀ (h : ab_H) (q : Int × ab_H), f_X9_isTerm_J29  h = some q → ab_E mm_X9_isTerm cX9_isTerm 29 [none, none, none] [] h (some (ab_I q.1)) q.2 := by
  intro  h q hk
  unfold f_X9_isTerm_J29 at hk
  refine ab_iconst (pc := 29) dX9_isTerm_29 ab_k_0 ?_
  obtain rfl := Option.some.inj hk
  exact ab_retz (pc := 30) dX9_isTerm_30 rfl rfl
noncomputable def f_X9_isTerm (a0 : Int) (a1 : Int) (a2 : Int) (h : ab_H) : Option (Int × ab_H) :=
  (ab_on h 10 a0 (f_X9_isString a0 a1 h)).bind fun q1 =>
  if q1.1 = (0 : Int) then
    f_X9_isTerm_J29 q1.2
  else
  (ab_on q1.2 10 a0 (f_X9_terms a0 a1 q1.2)).bind fun q2 =>
  (f_X9_in a2 (0 : Int) (ab_w32 (q2.1 - (1 : Int))) q2.2).bind fun q3 =>
  if q3.1 = (0 : Int) then
    f_X9_isTerm_J29 q3.2
  else
  some ((1 : Int), q3.2)
set_option maxRecDepth 20000 in
theorem ct_X9_isTerm {a0 a1 a2 : Int} {h : ab_H} {q : Int × ab_H} (hk : f_X9_isTerm a0 a1 a2 h = some q) : ab_CT yX9_isTerm cX9_isTerm 3 (some .boolean) 2 46 [ab_R a0, ab_I a1, ab_I a2] h (some (ab_I q.1)) q.2 := by
  refine ab_CT.mk_ 0 (own := RX9) (ini := false) (lv := [some (ab_R a0), some (ab_I a1), some (ab_I a2)]) rfl (by decide +kernel) (fun q => by cases q) rfl rfl ?_
  unfold f_X9_isTerm at hk
  show ab_E mm_X9_isTerm cX9_isTerm 0 _ [] h _ _
  refine ab_aload_n (pc := 0) (i := 0) dX9_isTerm_0 rfl rfl ?_
  refine ab_iload_n (pc := 1) (i := 1) dX9_isTerm_1 rfl rfl ?_
  obtain ⟨q1, hq1, hk⟩ := ab_bnd hk
  obtain ⟨hb, hq1⟩ := ab_on_some hq1
  refine ab_callVI (st := []) (as := [ab_I a1]) (b := a0) (pc := 2) dX9_isTerm_2 ml_RX9_323 my_X9_isString mv_X9_isString hb (ct_X9_isString hq1) ⟨Nat.le_of_ble_eq_true rfl, Nat.le_of_ble_eq_true rfl⟩ rfl (Nat.le_of_ble_eq_true rfl) rfl ?_
  refine ab_if_eq (pc := 5) (tgt := 29) dX9_isTerm_5 rfl (fun hc => ?_) (fun hc => ?_)
  · have hk := ab_ifp hk hc
    refine ab_sub_ (lv2 := [none, none, none]) (ab_sn (ab_sn (ab_sn ab_s0))) ?_
    exact e_X9_isTerm_J29  _ _ hk
  · have hk := ab_ifn hk hc
    refine ab_iload_n (pc := 8) (i := 2) dX9_isTerm_8 rfl rfl ?_
    refine ab_i2l_ (pc := 9) dX9_isTerm_9 ?_
    refine ab_lconst (x := (0 : Int)) (pc := 10) dX9_isTerm_10 rfl ab_kl_0 ?_
    refine ab_aload_n (pc := 11) (i := 0) dX9_isTerm_11 rfl rfl ?_
    refine ab_iload_n (pc := 12) (i := 1) dX9_isTerm_12 rfl rfl ?_
    obtain ⟨q2, hq2, hk⟩ := ab_bnd hk
    obtain ⟨hb, hq2⟩ := ab_on_some hq2
    refine ab_callVI (st := [ab_J (0 : Int), ab_J a2]) (as := [ab_I a1]) (b := a0) (pc := 13) dX9_isTerm_13 ml_RX9_255 my_X9_terms mv_X9_terms hb (ct_X9_terms hq2) ⟨Nat.le_of_ble_eq_true rfl, Nat.le_of_ble_eq_true rfl⟩ rfl (Nat.le_of_ble_eq_true rfl) rfl ?_
    refine ab_iconst (pc := 16) dX9_isTerm_16 ab_k_1 ?_
    refine ab_isub (pc := 17) dX9_isTerm_17 ?_
    refine ab_i2l_ (pc := 18) dX9_isTerm_18 ?_
    obtain ⟨q3, hq3, hk⟩ := ab_bnd hk
    refine ab_callSI (st := []) (as := [ab_J a2, ab_J (0 : Int), ab_J (ab_w32 (q2.1 - (1 : Int)))]) (pc := 19) dX9_isTerm_19 ml_RX9_84 my_X9_in ms_X9_in (ct_X9_in hq3) ⟨Nat.le_of_ble_eq_true rfl, Nat.le_of_ble_eq_true rfl⟩ rfl (Nat.le_of_ble_eq_true rfl) rfl ?_
    refine ab_if_eq (pc := 22) (tgt := 29) dX9_isTerm_22 rfl (fun hc => ?_) (fun hc => ?_)
    · have hk := ab_ifp hk hc
      refine ab_sub_ (lv2 := [none, none, none]) (ab_sn (ab_sn (ab_sn ab_s0))) ?_
      exact e_X9_isTerm_J29  _ _ hk
    · have hk := ab_ifn hk hc
      refine ab_iconst (pc := 25) dX9_isTerm_25 ab_k_1 ?_
      refine ab_goto (pc := 26) (tgt := 30) dX9_isTerm_26 rfl ?_
      obtain rfl := Option.some.inj hk
      exact ab_retz (pc := 30) dX9_isTerm_30 rfl rfl
theorem dX9_doublesOf_0 : decode cX9_doublesOf 0 = .ok (.iconst 0, 1) := by decide +kernel
theorem dX9_doublesOf_1 : decode cX9_doublesOf 1 = .ok (.istore_n 2, 1) := by decide +kernel
theorem dX9_doublesOf_2 : decode cX9_doublesOf 2 = .ok (.iconst 0, 1) := by decide +kernel
theorem dX9_doublesOf_3 : decode cX9_doublesOf 3 = .ok (.istore_n 3, 1) := by decide +kernel
theorem dX9_doublesOf_4 : decode cX9_doublesOf 4 = .ok (.iload_n 3, 1) := by decide +kernel
theorem dX9_doublesOf_5 : decode cX9_doublesOf 5 = .ok (.aload_n 0, 1) := by decide +kernel
theorem dX9_doublesOf_6 : decode cX9_doublesOf 6 = .ok (.getfield 267, 3) := by decide +kernel
theorem dX9_doublesOf_9 : decode cX9_doublesOf 9 = .ok (.if_icmp .ge 32, 3) := by decide +kernel
theorem dX9_doublesOf_12 : decode cX9_doublesOf 12 = .ok (.iload_n 2, 1) := by decide +kernel
theorem dX9_doublesOf_13 : decode cX9_doublesOf 13 = .ok (.aload_n 0, 1) := by decide +kernel
theorem dX9_doublesOf_14 : decode cX9_doublesOf 14 = .ok (.getfield 31, 3) := by decide +kernel
theorem dX9_doublesOf_17 : decode cX9_doublesOf 17 = .ok (.iload_n 3, 1) := by decide +kernel
theorem dX9_doublesOf_18 : decode cX9_doublesOf 18 = .ok (.iaload, 1) := by decide +kernel
theorem dX9_doublesOf_19 : decode cX9_doublesOf 19 = .ok (.iload_n 1, 1) := by decide +kernel
theorem dX9_doublesOf_20 : decode cX9_doublesOf 20 = .ok (.if_icmp .ne 12, 3) := by decide +kernel
theorem dX9_doublesOf_23 : decode cX9_doublesOf 23 = .ok (.aload_n 0, 1) := by decide +kernel
theorem dX9_doublesOf_24 : decode cX9_doublesOf 24 = .ok (.getfield 37, 3) := by decide +kernel
theorem dX9_doublesOf_27 : decode cX9_doublesOf 27 = .ok (.iload_n 3, 1) := by decide +kernel
theorem dX9_doublesOf_28 : decode cX9_doublesOf 28 = .ok (.iaload, 1) := by decide +kernel
theorem dX9_doublesOf_29 : decode cX9_doublesOf 29 = .ok (.goto 4, 3) := by decide +kernel
theorem dX9_doublesOf_32 : decode cX9_doublesOf 32 = .ok (.iconst 0, 1) := by decide +kernel
theorem dX9_doublesOf_33 : decode cX9_doublesOf 33 = .ok (.iadd, 1) := by decide +kernel
theorem dX9_doublesOf_34 : decode cX9_doublesOf 34 = .ok (.istore_n 2, 1) := by decide +kernel
theorem dX9_doublesOf_35 : decode cX9_doublesOf 35 = .ok (.iinc 3 1, 3) := by decide +kernel
theorem dX9_doublesOf_38 : decode cX9_doublesOf 38 = .ok (.goto (-34), 3) := by decide +kernel
theorem dX9_doublesOf_41 : decode cX9_doublesOf 41 = .ok (.iload_n 2, 1) := by decide +kernel
theorem dX9_doublesOf_42 : decode cX9_doublesOf 42 = .ok (.ireturn, 1) := by decide +kernel
abbrev mm_X9_doublesOf : ab_M := (RX9, 4, (some .int), false, 0, 0, none)
noncomputable def f_X9_doublesOf_J33 (rec : Int → Int → Int → Int → ab_H → Option (Int × ab_H)) (v0 : Int) (v1 : Int) (v3 : Int) (s1 : Int) (s0 : Int) (h : ab_H) : Option (Int × ab_H) :=
  rec v0 v1 (ab_w32 (s0 + s1)) (ab_w32 (v3 + (1 : Int))) h
set_option maxRecDepth 20000 in
theorem e_X9_doublesOf_J33 {rec : Int → Int → Int → Int → ab_H → Option (Int × ab_H)} (hrec : ∀ (v0 : Int) (v1 : Int) (v2 : Int) (v3 : Int) (h : ab_H) (q : Int × ab_H), rec v0 v1 v2 v3 h = some q → ab_E mm_X9_doublesOf cX9_doublesOf 4 [some (ab_R v0), some (ab_I v1), some (ab_I v2), some (ab_I v3)] [] h (some (ab_I q.1)) q.2) : ∀ (v0 : Int) (v1 : Int) (v3 : Int) (s1 : Int) (s0 : Int) (h : ab_H) (q : Int × ab_H), f_X9_doublesOf_J33 rec v0 v1 v3 s1 s0 h = some q → ab_E mm_X9_doublesOf cX9_doublesOf 33 [some (ab_R v0), some (ab_I v1), none, some (ab_I v3)] [ab_I s1, ab_I s0] h (some (ab_I q.1)) q.2 := by
  intro v0 v1 v3 s1 s0 h q hk
  unfold f_X9_doublesOf_J33 at hk
  refine ab_iadd (pc := 33) dX9_doublesOf_33 ?_
  refine ab_istore_n (pc := 34) (i := 2) (lv2 := [some (ab_R v0), some (ab_I v1), some (ab_I (ab_w32 (s0 + s1))), some (ab_I v3)]) dX9_doublesOf_34 rfl (Nat.le_of_ble_eq_true rfl) rfl rfl ?_
  refine ab_iinc (pc := 35) (i := 3) (lv2 := [some (ab_R v0), some (ab_I v1), some (ab_I (ab_w32 (s0 + s1))), some (ab_I (ab_w32 (v3 + (1 : Int))))]) dX9_doublesOf_35 rfl (Nat.le_of_ble_eq_true rfl) rfl rfl ?_
  refine ab_goto (pc := 38) (tgt := 4) dX9_doublesOf_38 rfl ?_
  refine ab_sub_ (lv2 := [some (ab_R v0), some (ab_I v1), some (ab_I (ab_w32 (s0 + s1))), some (ab_I (ab_w32 (v3 + (1 : Int))))]) (ab_ss (ab_ss (ab_ss (ab_ss ab_s0)))) ?_
  exact hrec _ _ _ _ _ _ hk
noncomputable def f_X9_doublesOf_L4 : Nat → Int → Int → Int → Int → ab_H → Option (Int × ab_H)
  | 0, _, _, _, _, _ => none
  | n + 1, v0, v1, v2, v3, h =>
    (ab_get h 10 16 v0).bind fun t1 =>
    if t1 ≤ v3 then
      some (v2, h)
    else
    (ab_get h 10 19 v0).bind fun t2 =>
    (ab_ald h 11 t2 v3).bind fun t3 =>
    if t3 = v1 then
      (ab_get h 10 21 v0).bind fun t4 =>
      (ab_ald h 11 t4 v3).bind fun t5 =>
      f_X9_doublesOf_J33 (f_X9_doublesOf_L4 n) v0 v1 v3 t5 v2 h
    else
    f_X9_doublesOf_J33 (f_X9_doublesOf_L4 n) v0 v1 v3 (0 : Int) v2 h
set_option maxRecDepth 20000 in
theorem e_X9_doublesOf_L4 : ∀ (n : Nat) (v0 : Int) (v1 : Int) (v2 : Int) (v3 : Int) (h : ab_H) (q : Int × ab_H), f_X9_doublesOf_L4 n v0 v1 v2 v3 h = some q → ab_E mm_X9_doublesOf cX9_doublesOf 4 [some (ab_R v0), some (ab_I v1), some (ab_I v2), some (ab_I v3)] [] h (some (ab_I q.1)) q.2 := by
  intro n
  induction n with
  | zero => intro v0 v1 v2 v3 h q hk; cases hk
  | succ n ih =>
    intro v0 v1 v2 v3 h q hk
    unfold f_X9_doublesOf_L4 at hk
    refine ab_iload_n (pc := 4) (i := 3) dX9_doublesOf_4 rfl rfl ?_
    refine ab_aload_n (pc := 5) (i := 0) dX9_doublesOf_5 rfl rfl ?_
    obtain ⟨t1, ht1, hk⟩ := ab_bnd hk
    refine ab_getI (pc := 6) dX9_doublesOf_6 fl_RX9_267 ht1 ?_
    refine ab_icmp_ge (pc := 9) (tgt := 41) dX9_doublesOf_9 rfl (fun hc => ?_) (fun hc => ?_)
    · have hk := ab_ifp hk hc
      refine ab_iload_n (pc := 41) (i := 2) dX9_doublesOf_41 rfl rfl ?_
      obtain rfl := Option.some.inj hk
      exact ab_reti (pc := 42) dX9_doublesOf_42 (Or.inl rfl)
    · have hk := ab_ifn hk hc
      refine ab_iload_n (pc := 12) (i := 2) dX9_doublesOf_12 rfl rfl ?_
      refine ab_aload_n (pc := 13) (i := 0) dX9_doublesOf_13 rfl rfl ?_
      obtain ⟨t2, ht2, hk⟩ := ab_bnd hk
      refine ab_getR (pc := 14) dX9_doublesOf_14 fl_RX9_31 ht2 ?_
      refine ab_iload_n (pc := 17) (i := 3) dX9_doublesOf_17 rfl rfl ?_
      obtain ⟨t3, ht3, hk⟩ := ab_bnd hk
      refine ab_iald (pc := 18) dX9_doublesOf_18 ht3 ?_
      refine ab_iload_n (pc := 19) (i := 1) dX9_doublesOf_19 rfl rfl ?_
      refine ab_icmp_ne (pc := 20) (tgt := 32) dX9_doublesOf_20 rfl (fun hc => ?_) (fun hc => ?_)
      · have hk := ab_ifn hk hc
        refine ab_iconst (pc := 32) dX9_doublesOf_32 ab_k_0 ?_
        refine ab_sub_ (lv2 := [some (ab_R v0), some (ab_I v1), none, some (ab_I v3)]) (ab_ss (ab_ss (ab_sn (ab_ss ab_s0)))) ?_
        exact e_X9_doublesOf_J33 ih _ _ _ _ _ _ _ hk
      · have hk := ab_ifp hk hc
        refine ab_aload_n (pc := 23) (i := 0) dX9_doublesOf_23 rfl rfl ?_
        obtain ⟨t4, ht4, hk⟩ := ab_bnd hk
        refine ab_getR (pc := 24) dX9_doublesOf_24 fl_RX9_37 ht4 ?_
        refine ab_iload_n (pc := 27) (i := 3) dX9_doublesOf_27 rfl rfl ?_
        obtain ⟨t5, ht5, hk⟩ := ab_bnd hk
        refine ab_iald (pc := 28) dX9_doublesOf_28 ht5 ?_
        refine ab_goto (pc := 29) (tgt := 33) dX9_doublesOf_29 rfl ?_
        refine ab_sub_ (lv2 := [some (ab_R v0), some (ab_I v1), none, some (ab_I v3)]) (ab_ss (ab_ss (ab_sn (ab_ss ab_s0)))) ?_
        exact e_X9_doublesOf_J33 ih _ _ _ _ _ _ _ hk
noncomputable def f_X9_doublesOf (a0 : Int) (a1 : Int) (h : ab_H) : Option (Int × ab_H) :=
  f_X9_doublesOf_L4 ab_FU a0 a1 (0 : Int) (0 : Int) h
set_option maxRecDepth 20000 in
theorem ct_X9_doublesOf {a0 a1 : Int} {h : ab_H} {q : Int × ab_H} (hk : f_X9_doublesOf a0 a1 h = some q) : ab_CT yX9_doublesOf cX9_doublesOf 4 (some .int) 0 0 [ab_R a0, ab_I a1] h (some (ab_I q.1)) q.2 := by
  refine ab_CT.mk_ 2 (own := RX9) (ini := false) (lv := [some (ab_R a0), some (ab_I a1), none, none]) rfl (by decide +kernel) (fun q => by cases q) rfl rfl ?_
  unfold f_X9_doublesOf at hk
  show ab_E mm_X9_doublesOf cX9_doublesOf 0 _ [] h _ _
  refine ab_iconst (pc := 0) dX9_doublesOf_0 ab_k_0 ?_
  refine ab_istore_n (pc := 1) (i := 2) (lv2 := [some (ab_R a0), some (ab_I a1), some (ab_I (0 : Int)), none]) dX9_doublesOf_1 rfl (Nat.le_of_ble_eq_true rfl) rfl rfl ?_
  refine ab_iconst (pc := 2) dX9_doublesOf_2 ab_k_0 ?_
  refine ab_istore_n (pc := 3) (i := 3) (lv2 := [some (ab_R a0), some (ab_I a1), some (ab_I (0 : Int)), some (ab_I (0 : Int))]) dX9_doublesOf_3 rfl (Nat.le_of_ble_eq_true rfl) rfl rfl ?_
  refine ab_sub_ (lv2 := [some (ab_R a0), some (ab_I a1), some (ab_I (0 : Int)), some (ab_I (0 : Int))]) (ab_ss (ab_ss (ab_ss (ab_ss ab_s0)))) ?_
  refine e_X9_doublesOf_L4 _ _ _ _ _ _ _ hk
theorem dX9_twiceIn_0 : decode cX9_twiceIn 0 = .ok (.iconst 0, 1) := by decide +kernel
theorem dX9_twiceIn_1 : decode cX9_twiceIn 1 = .ok (.istore_n 2, 1) := by decide +kernel
theorem dX9_twiceIn_2 : decode cX9_twiceIn 2 = .ok (.iconst 0, 1) := by decide +kernel
theorem dX9_twiceIn_3 : decode cX9_twiceIn 3 = .ok (.istore_n 3, 1) := by decide +kernel
theorem dX9_twiceIn_4 : decode cX9_twiceIn 4 = .ok (.iload_n 3, 1) := by decide +kernel
theorem dX9_twiceIn_5 : decode cX9_twiceIn 5 = .ok (.aload_n 0, 1) := by decide +kernel
theorem dX9_twiceIn_6 : decode cX9_twiceIn 6 = .ok (.getfield 252, 3) := by decide +kernel
theorem dX9_twiceIn_9 : decode cX9_twiceIn 9 = .ok (.if_icmp .ge 70, 3) := by decide +kernel
theorem dX9_twiceIn_12 : decode cX9_twiceIn 12 = .ok (.iconst 0, 1) := by decide +kernel
theorem dX9_twiceIn_13 : decode cX9_twiceIn 13 = .ok (.istore 4, 2) := by decide +kernel
theorem dX9_twiceIn_15 : decode cX9_twiceIn 15 = .ok (.iconst 0, 1) := by decide +kernel
theorem dX9_twiceIn_16 : decode cX9_twiceIn 16 = .ok (.istore 5, 2) := by decide +kernel
theorem dX9_twiceIn_18 : decode cX9_twiceIn 18 = .ok (.iload 5, 2) := by decide +kernel
theorem dX9_twiceIn_20 : decode cX9_twiceIn 20 = .ok (.aload_n 0, 1) := by decide +kernel
theorem dX9_twiceIn_21 : decode cX9_twiceIn 21 = .ok (.iload_n 1, 1) := by decide +kernel
theorem dX9_twiceIn_22 : decode cX9_twiceIn 22 = .ok (.invokevirtual 255, 3) := by decide +kernel
theorem dX9_twiceIn_25 : decode cX9_twiceIn 25 = .ok (.if_icmp .ge 34, 3) := by decide +kernel
theorem dX9_twiceIn_28 : decode cX9_twiceIn 28 = .ok (.iload 4, 2) := by decide +kernel
theorem dX9_twiceIn_30 : decode cX9_twiceIn 30 = .ok (.aload_n 0, 1) := by decide +kernel
theorem dX9_twiceIn_31 : decode cX9_twiceIn 31 = .ok (.getfield 27, 3) := by decide +kernel
theorem dX9_twiceIn_34 : decode cX9_twiceIn 34 = .ok (.iload_n 1, 1) := by decide +kernel
theorem dX9_twiceIn_35 : decode cX9_twiceIn 35 = .ok (.iload 5, 2) := by decide +kernel
theorem dX9_twiceIn_37 : decode cX9_twiceIn 37 = .ok (.invokestatic 262, 3) := by decide +kernel
theorem dX9_twiceIn_40 : decode cX9_twiceIn 40 = .ok (.iaload, 1) := by decide +kernel
theorem dX9_twiceIn_41 : decode cX9_twiceIn 41 = .ok (.iload_n 3, 1) := by decide +kernel
theorem dX9_twiceIn_42 : decode cX9_twiceIn 42 = .ok (.if_icmp .ne 7, 3) := by decide +kernel
theorem dX9_twiceIn_45 : decode cX9_twiceIn 45 = .ok (.iconst 1, 1) := by decide +kernel
theorem dX9_twiceIn_46 : decode cX9_twiceIn 46 = .ok (.goto 4, 3) := by decide +kernel
theorem dX9_twiceIn_49 : decode cX9_twiceIn 49 = .ok (.iconst 0, 1) := by decide +kernel
theorem dX9_twiceIn_50 : decode cX9_twiceIn 50 = .ok (.iadd, 1) := by decide +kernel
theorem dX9_twiceIn_51 : decode cX9_twiceIn 51 = .ok (.istore 4, 2) := by decide +kernel
theorem dX9_twiceIn_53 : decode cX9_twiceIn 53 = .ok (.iinc 5 1, 3) := by decide +kernel
theorem dX9_twiceIn_56 : decode cX9_twiceIn 56 = .ok (.goto (-38), 3) := by decide +kernel
theorem dX9_twiceIn_59 : decode cX9_twiceIn 59 = .ok (.iload_n 2, 1) := by decide +kernel
theorem dX9_twiceIn_60 : decode cX9_twiceIn 60 = .ok (.iload 4, 2) := by decide +kernel
theorem dX9_twiceIn_62 : decode cX9_twiceIn 62 = .ok (.iconst 1, 1) := by decide +kernel
theorem dX9_twiceIn_63 : decode cX9_twiceIn 63 = .ok (.if_icmp .le 7, 3) := by decide +kernel
theorem dX9_twiceIn_66 : decode cX9_twiceIn 66 = .ok (.iconst 1, 1) := by decide +kernel
theorem dX9_twiceIn_67 : decode cX9_twiceIn 67 = .ok (.goto 4, 3) := by decide +kernel
theorem dX9_twiceIn_70 : decode cX9_twiceIn 70 = .ok (.iconst 0, 1) := by decide +kernel
theorem dX9_twiceIn_71 : decode cX9_twiceIn 71 = .ok (.iadd, 1) := by decide +kernel
theorem dX9_twiceIn_72 : decode cX9_twiceIn 72 = .ok (.istore_n 2, 1) := by decide +kernel
theorem dX9_twiceIn_73 : decode cX9_twiceIn 73 = .ok (.iinc 3 1, 3) := by decide +kernel
theorem dX9_twiceIn_76 : decode cX9_twiceIn 76 = .ok (.goto (-72), 3) := by decide +kernel
theorem dX9_twiceIn_79 : decode cX9_twiceIn 79 = .ok (.iload_n 2, 1) := by decide +kernel
theorem dX9_twiceIn_80 : decode cX9_twiceIn 80 = .ok (.ireturn, 1) := by decide +kernel
abbrev mm_X9_twiceIn : ab_M := (RX9, 6, (some .int), false, 1, 21, none)
noncomputable def f_X9_twiceIn_J71 (rec : Int → Int → Int → Int → ab_H → Option (Int × ab_H)) (v0 : Int) (v1 : Int) (v3 : Int) (s1 : Int) (s0 : Int) (h : ab_H) : Option (Int × ab_H) :=
  rec v0 v1 (ab_w32 (s0 + s1)) (ab_w32 (v3 + (1 : Int))) h
set_option maxRecDepth 20000 in
theorem e_X9_twiceIn_J71 {rec : Int → Int → Int → Int → ab_H → Option (Int × ab_H)} (hrec : ∀ (v0 : Int) (v1 : Int) (v2 : Int) (v3 : Int) (h : ab_H) (q : Int × ab_H), rec v0 v1 v2 v3 h = some q → ab_E mm_X9_twiceIn cX9_twiceIn 4 [some (ab_R v0), some (ab_I v1), some (ab_I v2), some (ab_I v3), none, none] [] h (some (ab_I q.1)) q.2) : ∀ (v0 : Int) (v1 : Int) (v3 : Int) (s1 : Int) (s0 : Int) (h : ab_H) (q : Int × ab_H), f_X9_twiceIn_J71 rec v0 v1 v3 s1 s0 h = some q → ab_E mm_X9_twiceIn cX9_twiceIn 71 [some (ab_R v0), some (ab_I v1), none, some (ab_I v3), none, none] [ab_I s1, ab_I s0] h (some (ab_I q.1)) q.2 := by
  intro v0 v1 v3 s1 s0 h q hk
  unfold f_X9_twiceIn_J71 at hk
  refine ab_iadd (pc := 71) dX9_twiceIn_71 ?_
  refine ab_istore_n (pc := 72) (i := 2) (lv2 := [some (ab_R v0), some (ab_I v1), some (ab_I (ab_w32 (s0 + s1))), some (ab_I v3), none, none]) dX9_twiceIn_72 rfl (Nat.le_of_ble_eq_true rfl) rfl rfl ?_
  refine ab_iinc (pc := 73) (i := 3) (lv2 := [some (ab_R v0), some (ab_I v1), some (ab_I (ab_w32 (s0 + s1))), some (ab_I (ab_w32 (v3 + (1 : Int)))), none, none]) dX9_twiceIn_73 rfl (Nat.le_of_ble_eq_true rfl) rfl rfl ?_
  refine ab_goto (pc := 76) (tgt := 4) dX9_twiceIn_76 rfl ?_
  refine ab_sub_ (lv2 := [some (ab_R v0), some (ab_I v1), some (ab_I (ab_w32 (s0 + s1))), some (ab_I (ab_w32 (v3 + (1 : Int)))), none, none]) (ab_ss (ab_ss (ab_ss (ab_ss (ab_sn (ab_sn ab_s0)))))) ?_
  exact hrec _ _ _ _ _ _ hk
noncomputable def f_X9_twiceIn_J50 (rec : Int → Int → Int → Int → Int → Int → ab_H → Option (Int × ab_H)) (k59 : Int → Int → Int → Int → Int → ab_H → Option (Int × ab_H)) (v0 : Int) (v1 : Int) (v2 : Int) (v3 : Int) (v5 : Int) (s1 : Int) (s0 : Int) (h : ab_H) : Option (Int × ab_H) :=
  rec v0 v1 v2 v3 (ab_w32 (s0 + s1)) (ab_w32 (v5 + (1 : Int))) h
set_option maxRecDepth 20000 in
theorem e_X9_twiceIn_J50 {rec : Int → Int → Int → Int → Int → Int → ab_H → Option (Int × ab_H)} {k59 : Int → Int → Int → Int → Int → ab_H → Option (Int × ab_H)} (hrec : ∀ (v0 : Int) (v1 : Int) (v2 : Int) (v3 : Int) (v4 : Int) (v5 : Int) (h : ab_H) (q : Int × ab_H), rec v0 v1 v2 v3 v4 v5 h = some q → ab_E mm_X9_twiceIn cX9_twiceIn 18 [some (ab_R v0), some (ab_I v1), some (ab_I v2), some (ab_I v3), some (ab_I v4), some (ab_I v5)] [] h (some (ab_I q.1)) q.2) (hk59 : ∀ (v0 : Int) (v1 : Int) (v2 : Int) (v3 : Int) (v4 : Int) (h : ab_H) (q : Int × ab_H), k59 v0 v1 v2 v3 v4 h = some q → ab_E mm_X9_twiceIn cX9_twiceIn 59 [some (ab_R v0), some (ab_I v1), some (ab_I v2), some (ab_I v3), some (ab_I v4), none] [] h (some (ab_I q.1)) q.2) : ∀ (v0 : Int) (v1 : Int) (v2 : Int) (v3 : Int) (v5 : Int) (s1 : Int) (s0 : Int) (h : ab_H) (q : Int × ab_H), f_X9_twiceIn_J50 rec k59 v0 v1 v2 v3 v5 s1 s0 h = some q → ab_E mm_X9_twiceIn cX9_twiceIn 50 [some (ab_R v0), some (ab_I v1), some (ab_I v2), some (ab_I v3), none, some (ab_I v5)] [ab_I s1, ab_I s0] h (some (ab_I q.1)) q.2 := by
  intro v0 v1 v2 v3 v5 s1 s0 h q hk
  unfold f_X9_twiceIn_J50 at hk
  refine ab_iadd (pc := 50) dX9_twiceIn_50 ?_
  refine ab_istore (pc := 51) (i := 4) (lv2 := [some (ab_R v0), some (ab_I v1), some (ab_I v2), some (ab_I v3), some (ab_I (ab_w32 (s0 + s1))), some (ab_I v5)]) dX9_twiceIn_51 (Nat.le_of_ble_eq_true rfl) rfl rfl ?_
  refine ab_iinc (pc := 53) (i := 5) (lv2 := [some (ab_R v0), some (ab_I v1), some (ab_I v2), some (ab_I v3), some (ab_I (ab_w32 (s0 + s1))), some (ab_I (ab_w32 (v5 + (1 : Int))))]) dX9_twiceIn_53 rfl (Nat.le_of_ble_eq_true rfl) rfl rfl ?_
  refine ab_goto (pc := 56) (tgt := 18) dX9_twiceIn_56 rfl ?_
  refine ab_sub_ (lv2 := [some (ab_R v0), some (ab_I v1), some (ab_I v2), some (ab_I v3), some (ab_I (ab_w32 (s0 + s1))), some (ab_I (ab_w32 (v5 + (1 : Int))))]) (ab_ss (ab_ss (ab_ss (ab_ss (ab_ss (ab_ss ab_s0)))))) ?_
  exact hrec _ _ _ _ _ _ _ _ hk
noncomputable def f_X9_twiceIn_L18 (k59 : Int → Int → Int → Int → Int → ab_H → Option (Int × ab_H)) : Nat → Int → Int → Int → Int → Int → Int → ab_H → Option (Int × ab_H)
  | 0, _, _, _, _, _, _, _ => none
  | n + 1, v0, v1, v2, v3, v4, v5, h =>
    (ab_on h 10 v0 (f_X9_terms v0 v1 h)).bind fun q1 =>
    if q1.1 ≤ v5 then
      k59 v0 v1 v2 v3 v4 q1.2
    else
    (ab_get q1.2 10 15 v0).bind fun t2 =>
    (f_X9_place v1 v5 q1.2).bind fun q3 =>
    (ab_ald q3.2 11 t2 q3.1).bind fun t4 =>
    if t4 = v3 then
      f_X9_twiceIn_J50 (f_X9_twiceIn_L18 k59 n) k59 v0 v1 v2 v3 v5 (1 : Int) v4 q3.2
    else
    f_X9_twiceIn_J50 (f_X9_twiceIn_L18 k59 n) k59 v0 v1 v2 v3 v5 (0 : Int) v4 q3.2
set_option maxRecDepth 20000 in
theorem e_X9_twiceIn_L18 {k59 : Int → Int → Int → Int → Int → ab_H → Option (Int × ab_H)} (hk59 : ∀ (v0 : Int) (v1 : Int) (v2 : Int) (v3 : Int) (v4 : Int) (h : ab_H) (q : Int × ab_H), k59 v0 v1 v2 v3 v4 h = some q → ab_E mm_X9_twiceIn cX9_twiceIn 59 [some (ab_R v0), some (ab_I v1), some (ab_I v2), some (ab_I v3), some (ab_I v4), none] [] h (some (ab_I q.1)) q.2) : ∀ (n : Nat) (v0 : Int) (v1 : Int) (v2 : Int) (v3 : Int) (v4 : Int) (v5 : Int) (h : ab_H) (q : Int × ab_H), f_X9_twiceIn_L18 k59 n v0 v1 v2 v3 v4 v5 h = some q → ab_E mm_X9_twiceIn cX9_twiceIn 18 [some (ab_R v0), some (ab_I v1), some (ab_I v2), some (ab_I v3), some (ab_I v4), some (ab_I v5)] [] h (some (ab_I q.1)) q.2 := by
  intro n
  induction n with
  | zero => intro v0 v1 v2 v3 v4 v5 h q hk; cases hk
  | succ n ih =>
    intro v0 v1 v2 v3 v4 v5 h q hk
    unfold f_X9_twiceIn_L18 at hk
    refine ab_iload (pc := 18) (i := 5) dX9_twiceIn_18 rfl ?_
    refine ab_aload_n (pc := 20) (i := 0) dX9_twiceIn_20 rfl rfl ?_
    refine ab_iload_n (pc := 21) (i := 1) dX9_twiceIn_21 rfl rfl ?_
    obtain ⟨q1, hq1, hk⟩ := ab_bnd hk
    obtain ⟨hb, hq1⟩ := ab_on_some hq1
    refine ab_callVI (st := [ab_I v5]) (as := [ab_I v1]) (b := v0) (pc := 22) dX9_twiceIn_22 ml_RX9_255 my_X9_terms mv_X9_terms hb (ct_X9_terms hq1) ⟨Nat.le_of_ble_eq_true rfl, Nat.le_of_ble_eq_true rfl⟩ rfl (Nat.le_of_ble_eq_true rfl) rfl ?_
    refine ab_icmp_ge (pc := 25) (tgt := 59) dX9_twiceIn_25 rfl (fun hc => ?_) (fun hc => ?_)
    · have hk := ab_ifp hk hc
      refine ab_sub_ (lv2 := [some (ab_R v0), some (ab_I v1), some (ab_I v2), some (ab_I v3), some (ab_I v4), none]) (ab_ss (ab_ss (ab_ss (ab_ss (ab_ss (ab_sn ab_s0)))))) ?_
      exact hk59 _ _ _ _ _ _ _ hk
    · have hk := ab_ifn hk hc
      refine ab_iload (pc := 28) (i := 4) dX9_twiceIn_28 rfl ?_
      refine ab_aload_n (pc := 30) (i := 0) dX9_twiceIn_30 rfl rfl ?_
      obtain ⟨t2, ht2, hk⟩ := ab_bnd hk
      refine ab_getR (pc := 31) dX9_twiceIn_31 fl_RX9_27 ht2 ?_
      refine ab_iload_n (pc := 34) (i := 1) dX9_twiceIn_34 rfl rfl ?_
      refine ab_iload (pc := 35) (i := 5) dX9_twiceIn_35 rfl ?_
      obtain ⟨q3, hq3, hk⟩ := ab_bnd hk
      refine ab_callSI (st := [ab_R t2, ab_I v4]) (as := [ab_I v1, ab_I v5]) (pc := 37) dX9_twiceIn_37 ml_RX9_262 my_X9_place ms_X9_place (ct_X9_place hq3) ⟨Nat.le_of_ble_eq_true rfl, Nat.le_of_ble_eq_true rfl⟩ rfl (Nat.le_of_ble_eq_true rfl) rfl ?_
      obtain ⟨t4, ht4, hk⟩ := ab_bnd hk
      refine ab_iald (pc := 40) dX9_twiceIn_40 ht4 ?_
      refine ab_iload_n (pc := 41) (i := 3) dX9_twiceIn_41 rfl rfl ?_
      refine ab_icmp_ne (pc := 42) (tgt := 49) dX9_twiceIn_42 rfl (fun hc => ?_) (fun hc => ?_)
      · have hk := ab_ifn hk hc
        refine ab_iconst (pc := 49) dX9_twiceIn_49 ab_k_0 ?_
        refine ab_sub_ (lv2 := [some (ab_R v0), some (ab_I v1), some (ab_I v2), some (ab_I v3), none, some (ab_I v5)]) (ab_ss (ab_ss (ab_ss (ab_ss (ab_sn (ab_ss ab_s0)))))) ?_
        exact e_X9_twiceIn_J50 ih hk59 _ _ _ _ _ _ _ _ _ hk
      · have hk := ab_ifp hk hc
        refine ab_iconst (pc := 45) dX9_twiceIn_45 ab_k_1 ?_
        refine ab_goto (pc := 46) (tgt := 50) dX9_twiceIn_46 rfl ?_
        refine ab_sub_ (lv2 := [some (ab_R v0), some (ab_I v1), some (ab_I v2), some (ab_I v3), none, some (ab_I v5)]) (ab_ss (ab_ss (ab_ss (ab_ss (ab_sn (ab_ss ab_s0)))))) ?_
        exact e_X9_twiceIn_J50 ih hk59 _ _ _ _ _ _ _ _ _ hk
noncomputable def f_X9_twiceIn_L4 : Nat → Int → Int → Int → Int → ab_H → Option (Int × ab_H)
  | 0, _, _, _, _, _ => none
  | n + 1, v0, v1, v2, v3, h =>
    (ab_get h 10 14 v0).bind fun t1 =>
    if t1 ≤ v3 then
      some (v2, h)
    else
    f_X9_twiceIn_L18 (fun w59_0 w59_1 w59_2 w59_3 w59_4 hx59 =>
      if w59_4 ≤ (1 : Int) then
        f_X9_twiceIn_J71 (f_X9_twiceIn_L4 n) w59_0 w59_1 w59_3 (0 : Int) w59_2 hx59
      else
      f_X9_twiceIn_J71 (f_X9_twiceIn_L4 n) w59_0 w59_1 w59_3 (1 : Int) w59_2 hx59) ab_FU v0 v1 v2 v3 (0 : Int) (0 : Int) h
set_option maxRecDepth 20000 in
theorem e_X9_twiceIn_L4 : ∀ (n : Nat) (v0 : Int) (v1 : Int) (v2 : Int) (v3 : Int) (h : ab_H) (q : Int × ab_H), f_X9_twiceIn_L4 n v0 v1 v2 v3 h = some q → ab_E mm_X9_twiceIn cX9_twiceIn 4 [some (ab_R v0), some (ab_I v1), some (ab_I v2), some (ab_I v3), none, none] [] h (some (ab_I q.1)) q.2 := by
  intro n
  induction n with
  | zero => intro v0 v1 v2 v3 h q hk; cases hk
  | succ n ih =>
    intro v0 v1 v2 v3 h q hk
    unfold f_X9_twiceIn_L4 at hk
    refine ab_iload_n (pc := 4) (i := 3) dX9_twiceIn_4 rfl rfl ?_
    refine ab_aload_n (pc := 5) (i := 0) dX9_twiceIn_5 rfl rfl ?_
    obtain ⟨t1, ht1, hk⟩ := ab_bnd hk
    refine ab_getI (pc := 6) dX9_twiceIn_6 fl_RX9_252 ht1 ?_
    refine ab_icmp_ge (pc := 9) (tgt := 79) dX9_twiceIn_9 rfl (fun hc => ?_) (fun hc => ?_)
    · have hk := ab_ifp hk hc
      refine ab_iload_n (pc := 79) (i := 2) dX9_twiceIn_79 rfl rfl ?_
      obtain rfl := Option.some.inj hk
      exact ab_reti (pc := 80) dX9_twiceIn_80 (Or.inl rfl)
    · have hk := ab_ifn hk hc
      refine ab_iconst (pc := 12) dX9_twiceIn_12 ab_k_0 ?_
      refine ab_istore (pc := 13) (i := 4) (lv2 := [some (ab_R v0), some (ab_I v1), some (ab_I v2), some (ab_I v3), some (ab_I (0 : Int)), none]) dX9_twiceIn_13 (Nat.le_of_ble_eq_true rfl) rfl rfl ?_
      refine ab_iconst (pc := 15) dX9_twiceIn_15 ab_k_0 ?_
      refine ab_istore (pc := 16) (i := 5) (lv2 := [some (ab_R v0), some (ab_I v1), some (ab_I v2), some (ab_I v3), some (ab_I (0 : Int)), some (ab_I (0 : Int))]) dX9_twiceIn_16 (Nat.le_of_ble_eq_true rfl) rfl rfl ?_
      refine ab_sub_ (lv2 := [some (ab_R v0), some (ab_I v1), some (ab_I v2), some (ab_I v3), some (ab_I (0 : Int)), some (ab_I (0 : Int))]) (ab_ss (ab_ss (ab_ss (ab_ss (ab_ss (ab_ss ab_s0)))))) ?_
      refine e_X9_twiceIn_L18 (fun w59_0 w59_1 w59_2 w59_3 w59_4 hx59 q hk => ?_) _ _ _ _ _ _ _ _ _ hk
      · skip
        refine ab_iload_n (pc := 59) (i := 2) dX9_twiceIn_59 rfl rfl ?_
        refine ab_iload (pc := 60) (i := 4) dX9_twiceIn_60 rfl ?_
        refine ab_iconst (pc := 62) dX9_twiceIn_62 ab_k_1 ?_
        refine ab_icmp_le (pc := 63) (tgt := 70) dX9_twiceIn_63 rfl (fun hc => ?_) (fun hc => ?_)
        · have hk := ab_ifp hk hc
          refine ab_iconst (pc := 70) dX9_twiceIn_70 ab_k_0 ?_
          refine ab_sub_ (lv2 := [some (ab_R w59_0), some (ab_I w59_1), none, some (ab_I w59_3), none, none]) (ab_ss (ab_ss (ab_sn (ab_ss (ab_sn (ab_sn ab_s0)))))) ?_
          exact e_X9_twiceIn_J71 ih _ _ _ _ _ _ _ hk
        · have hk := ab_ifn hk hc
          refine ab_iconst (pc := 66) dX9_twiceIn_66 ab_k_1 ?_
          refine ab_goto (pc := 67) (tgt := 71) dX9_twiceIn_67 rfl ?_
          refine ab_sub_ (lv2 := [some (ab_R w59_0), some (ab_I w59_1), none, some (ab_I w59_3), none, none]) (ab_ss (ab_ss (ab_sn (ab_ss (ab_sn (ab_sn ab_s0)))))) ?_
          exact e_X9_twiceIn_J71 ih _ _ _ _ _ _ _ hk
noncomputable def f_X9_twiceIn (a0 : Int) (a1 : Int) (h : ab_H) : Option (Int × ab_H) :=
  f_X9_twiceIn_L4 ab_FU a0 a1 (0 : Int) (0 : Int) h
set_option maxRecDepth 20000 in
theorem ct_X9_twiceIn {a0 a1 : Int} {h : ab_H} {q : Int × ab_H} (hk : f_X9_twiceIn a0 a1 h = some q) : ab_CT yX9_twiceIn cX9_twiceIn 6 (some .int) 1 21 [ab_R a0, ab_I a1] h (some (ab_I q.1)) q.2 := by
  refine ab_CT.mk_ 4 (own := RX9) (ini := false) (lv := [some (ab_R a0), some (ab_I a1), none, none, none, none]) rfl (by decide +kernel) (fun q => by cases q) rfl rfl ?_
  unfold f_X9_twiceIn at hk
  show ab_E mm_X9_twiceIn cX9_twiceIn 0 _ [] h _ _
  refine ab_iconst (pc := 0) dX9_twiceIn_0 ab_k_0 ?_
  refine ab_istore_n (pc := 1) (i := 2) (lv2 := [some (ab_R a0), some (ab_I a1), some (ab_I (0 : Int)), none, none, none]) dX9_twiceIn_1 rfl (Nat.le_of_ble_eq_true rfl) rfl rfl ?_
  refine ab_iconst (pc := 2) dX9_twiceIn_2 ab_k_0 ?_
  refine ab_istore_n (pc := 3) (i := 3) (lv2 := [some (ab_R a0), some (ab_I a1), some (ab_I (0 : Int)), some (ab_I (0 : Int)), none, none]) dX9_twiceIn_3 rfl (Nat.le_of_ble_eq_true rfl) rfl rfl ?_
  refine ab_sub_ (lv2 := [some (ab_R a0), some (ab_I a1), some (ab_I (0 : Int)), some (ab_I (0 : Int)), none, none]) (ab_ss (ab_ss (ab_ss (ab_ss (ab_sn (ab_sn ab_s0)))))) ?_
  refine e_X9_twiceIn_L4 _ _ _ _ _ _ _ hk
theorem dX9_string_0 : decode cX9_string 0 = .ok (.aload_n 0, 1) := by decide +kernel
theorem dX9_string_1 : decode cX9_string 1 = .ok (.iload_n 1, 1) := by decide +kernel
theorem dX9_string_2 : decode cX9_string 2 = .ok (.invokevirtual 323, 3) := by decide +kernel
theorem dX9_string_5 : decode cX9_string 5 = .ok (.ifCond .eq 15, 3) := by decide +kernel
theorem dX9_string_8 : decode cX9_string 8 = .ok (.iload_n 2, 1) := by decide +kernel
theorem dX9_string_9 : decode cX9_string 9 = .ok (.i2l, 1) := by decide +kernel
theorem dX9_string_10 : decode cX9_string 10 = .ok (.lconst 0, 1) := by decide +kernel
theorem dX9_string_11 : decode cX9_string 11 = .ok (.ldc2_w 326, 3) := by decide +kernel
theorem dX9_string_14 : decode cX9_string 14 = .ok (.invokestatic 84, 3) := by decide +kernel
theorem dX9_string_17 : decode cX9_string 17 = .ok (.ifCond .ne 6, 3) := by decide +kernel
theorem dX9_string_20 : decode cX9_string 20 = .ok (.bipush (-2), 2) := by decide +kernel
theorem dX9_string_22 : decode cX9_string 22 = .ok (.ireturn, 1) := by decide +kernel
theorem dX9_string_23 : decode cX9_string 23 = .ok (.aload_n 0, 1) := by decide +kernel
theorem dX9_string_24 : decode cX9_string 24 = .ok (.invokevirtual 314, 3) := by decide +kernel
theorem dX9_string_27 : decode cX9_string 27 = .ok (.iconst 0, 1) := by decide +kernel
theorem dX9_string_28 : decode cX9_string 28 = .ok (.istore_n 3, 1) := by decide +kernel
theorem dX9_string_29 : decode cX9_string 29 = .ok (.iconst 0, 1) := by decide +kernel
theorem dX9_string_30 : decode cX9_string 30 = .ok (.istore 4, 2) := by decide +kernel
theorem dX9_string_32 : decode cX9_string 32 = .ok (.iload 4, 2) := by decide +kernel
theorem dX9_string_34 : decode cX9_string 34 = .ok (.aload_n 0, 1) := by decide +kernel
theorem dX9_string_35 : decode cX9_string 35 = .ok (.iload_n 1, 1) := by decide +kernel
theorem dX9_string_36 : decode cX9_string 36 = .ok (.invokevirtual 255, 3) := by decide +kernel
theorem dX9_string_39 : decode cX9_string 39 = .ok (.if_icmp .ge 27, 3) := by decide +kernel
theorem dX9_string_42 : decode cX9_string 42 = .ok (.iload_n 3, 1) := by decide +kernel
theorem dX9_string_43 : decode cX9_string 43 = .ok (.aload_n 0, 1) := by decide +kernel
theorem dX9_string_44 : decode cX9_string 44 = .ok (.iload_n 1, 1) := by decide +kernel
theorem dX9_string_45 : decode cX9_string 45 = .ok (.iload 4, 2) := by decide +kernel
theorem dX9_string_47 : decode cX9_string 47 = .ok (.invokevirtual 290, 3) := by decide +kernel
theorem dX9_string_50 : decode cX9_string 50 = .ok (.ifCond .eq 7, 3) := by decide +kernel
theorem dX9_string_53 : decode cX9_string 53 = .ok (.iconst 1, 1) := by decide +kernel
theorem dX9_string_54 : decode cX9_string 54 = .ok (.goto 4, 3) := by decide +kernel
theorem dX9_string_57 : decode cX9_string 57 = .ok (.iconst 0, 1) := by decide +kernel
theorem dX9_string_58 : decode cX9_string 58 = .ok (.iadd, 1) := by decide +kernel
theorem dX9_string_59 : decode cX9_string 59 = .ok (.istore_n 3, 1) := by decide +kernel
theorem dX9_string_60 : decode cX9_string 60 = .ok (.iinc 4 1, 3) := by decide +kernel
theorem dX9_string_63 : decode cX9_string 63 = .ok (.goto (-31), 3) := by decide +kernel
theorem dX9_string_66 : decode cX9_string 66 = .ok (.iload_n 2, 1) := by decide +kernel
theorem dX9_string_67 : decode cX9_string 67 = .ok (.ifCond .ne 11, 3) := by decide +kernel
theorem dX9_string_70 : decode cX9_string 70 = .ok (.aload_n 0, 1) := by decide +kernel
theorem dX9_string_71 : decode cX9_string 71 = .ok (.iload_n 1, 1) := by decide +kernel
theorem dX9_string_72 : decode cX9_string 72 = .ok (.invokevirtual 284, 3) := by decide +kernel
theorem dX9_string_75 : decode cX9_string 75 = .ok (.goto 43, 3) := by decide +kernel
theorem dX9_string_78 : decode cX9_string 78 = .ok (.iload_n 2, 1) := by decide +kernel
theorem dX9_string_79 : decode cX9_string 79 = .ok (.iconst 1, 1) := by decide +kernel
theorem dX9_string_80 : decode cX9_string 80 = .ok (.if_icmp .ne 11, 3) := by decide +kernel
theorem dX9_string_83 : decode cX9_string 83 = .ok (.aload_n 0, 1) := by decide +kernel
theorem dX9_string_84 : decode cX9_string 84 = .ok (.iload_n 1, 1) := by decide +kernel
theorem dX9_string_85 : decode cX9_string 85 = .ok (.invokevirtual 255, 3) := by decide +kernel
theorem dX9_string_88 : decode cX9_string 88 = .ok (.goto 30, 3) := by decide +kernel
theorem dX9_string_91 : decode cX9_string 91 = .ok (.iload_n 2, 1) := by decide +kernel
theorem dX9_string_92 : decode cX9_string 92 = .ok (.iconst 2, 1) := by decide +kernel
theorem dX9_string_93 : decode cX9_string 93 = .ok (.if_icmp .ne 7, 3) := by decide +kernel
theorem dX9_string_96 : decode cX9_string 96 = .ok (.iload_n 3, 1) := by decide +kernel
theorem dX9_string_97 : decode cX9_string 97 = .ok (.goto 21, 3) := by decide +kernel
theorem dX9_string_100 : decode cX9_string 100 = .ok (.iload_n 2, 1) := by decide +kernel
theorem dX9_string_101 : decode cX9_string 101 = .ok (.iconst 3, 1) := by decide +kernel
theorem dX9_string_102 : decode cX9_string 102 = .ok (.if_icmp .ne 11, 3) := by decide +kernel
theorem dX9_string_105 : decode cX9_string 105 = .ok (.aload_n 0, 1) := by decide +kernel
theorem dX9_string_106 : decode cX9_string 106 = .ok (.iload_n 1, 1) := by decide +kernel
theorem dX9_string_107 : decode cX9_string 107 = .ok (.invokevirtual 328, 3) := by decide +kernel
theorem dX9_string_110 : decode cX9_string 110 = .ok (.goto 8, 3) := by decide +kernel
theorem dX9_string_113 : decode cX9_string 113 = .ok (.aload_n 0, 1) := by decide +kernel
theorem dX9_string_114 : decode cX9_string 114 = .ok (.iload_n 1, 1) := by decide +kernel
theorem dX9_string_115 : decode cX9_string 115 = .ok (.invokevirtual 331, 3) := by decide +kernel
theorem dX9_string_118 : decode cX9_string 118 = .ok (.ireturn, 1) := by decide +kernel
abbrev mm_X9_string : ab_M := (RX9, 5, (some .int), false, 6, 133, none)
noncomputable def f_X9_string_J58 (rec : Int → Int → Int → Int → Int → ab_H → Option (Int × ab_H)) (k66 : Int → Int → Int → Int → ab_H → Option (Int × ab_H)) (v0 : Int) (v1 : Int) (v2 : Int) (v4 : Int) (s1 : Int) (s0 : Int) (h : ab_H) : Option (Int × ab_H) :=
  rec v0 v1 v2 (ab_w32 (s0 + s1)) (ab_w32 (v4 + (1 : Int))) h
set_option maxRecDepth 20000 in
theorem e_X9_string_J58 {rec : Int → Int → Int → Int → Int → ab_H → Option (Int × ab_H)} {k66 : Int → Int → Int → Int → ab_H → Option (Int × ab_H)} (hrec : ∀ (v0 : Int) (v1 : Int) (v2 : Int) (v3 : Int) (v4 : Int) (h : ab_H) (q : Int × ab_H), rec v0 v1 v2 v3 v4 h = some q → ab_E mm_X9_string cX9_string 32 [some (ab_R v0), some (ab_I v1), some (ab_I v2), some (ab_I v3), some (ab_I v4)] [] h (some (ab_I q.1)) q.2) (hk66 : ∀ (v0 : Int) (v1 : Int) (v2 : Int) (v3 : Int) (h : ab_H) (q : Int × ab_H), k66 v0 v1 v2 v3 h = some q → ab_E mm_X9_string cX9_string 66 [some (ab_R v0), some (ab_I v1), some (ab_I v2), some (ab_I v3), none] [] h (some (ab_I q.1)) q.2) : ∀ (v0 : Int) (v1 : Int) (v2 : Int) (v4 : Int) (s1 : Int) (s0 : Int) (h : ab_H) (q : Int × ab_H), f_X9_string_J58 rec k66 v0 v1 v2 v4 s1 s0 h = some q → ab_E mm_X9_string cX9_string 58 [some (ab_R v0), some (ab_I v1), some (ab_I v2), none, some (ab_I v4)] [ab_I s1, ab_I s0] h (some (ab_I q.1)) q.2 := by
  intro v0 v1 v2 v4 s1 s0 h q hk
  unfold f_X9_string_J58 at hk
  refine ab_iadd (pc := 58) dX9_string_58 ?_
  refine ab_istore_n (pc := 59) (i := 3) (lv2 := [some (ab_R v0), some (ab_I v1), some (ab_I v2), some (ab_I (ab_w32 (s0 + s1))), some (ab_I v4)]) dX9_string_59 rfl (Nat.le_of_ble_eq_true rfl) rfl rfl ?_
  refine ab_iinc (pc := 60) (i := 4) (lv2 := [some (ab_R v0), some (ab_I v1), some (ab_I v2), some (ab_I (ab_w32 (s0 + s1))), some (ab_I (ab_w32 (v4 + (1 : Int))))]) dX9_string_60 rfl (Nat.le_of_ble_eq_true rfl) rfl rfl ?_
  refine ab_goto (pc := 63) (tgt := 32) dX9_string_63 rfl ?_
  refine ab_sub_ (lv2 := [some (ab_R v0), some (ab_I v1), some (ab_I v2), some (ab_I (ab_w32 (s0 + s1))), some (ab_I (ab_w32 (v4 + (1 : Int))))]) (ab_ss (ab_ss (ab_ss (ab_ss (ab_ss ab_s0))))) ?_
  exact hrec _ _ _ _ _ _ _ hk
noncomputable def f_X9_string_L32 (k66 : Int → Int → Int → Int → ab_H → Option (Int × ab_H)) : Nat → Int → Int → Int → Int → Int → ab_H → Option (Int × ab_H)
  | 0, _, _, _, _, _, _ => none
  | n + 1, v0, v1, v2, v3, v4, h =>
    (ab_on h 10 v0 (f_X9_terms v0 v1 h)).bind fun q1 =>
    if q1.1 ≤ v4 then
      k66 v0 v1 v2 v3 q1.2
    else
    (ab_on q1.2 10 v0 (f_X9_doesLead v0 v1 v4 q1.2)).bind fun q2 =>
    if q2.1 = (0 : Int) then
      f_X9_string_J58 (f_X9_string_L32 k66 n) k66 v0 v1 v2 v4 (0 : Int) v3 q2.2
    else
    f_X9_string_J58 (f_X9_string_L32 k66 n) k66 v0 v1 v2 v4 (1 : Int) v3 q2.2
set_option maxRecDepth 20000 in
theorem e_X9_string_L32 {k66 : Int → Int → Int → Int → ab_H → Option (Int × ab_H)} (hk66 : ∀ (v0 : Int) (v1 : Int) (v2 : Int) (v3 : Int) (h : ab_H) (q : Int × ab_H), k66 v0 v1 v2 v3 h = some q → ab_E mm_X9_string cX9_string 66 [some (ab_R v0), some (ab_I v1), some (ab_I v2), some (ab_I v3), none] [] h (some (ab_I q.1)) q.2) : ∀ (n : Nat) (v0 : Int) (v1 : Int) (v2 : Int) (v3 : Int) (v4 : Int) (h : ab_H) (q : Int × ab_H), f_X9_string_L32 k66 n v0 v1 v2 v3 v4 h = some q → ab_E mm_X9_string cX9_string 32 [some (ab_R v0), some (ab_I v1), some (ab_I v2), some (ab_I v3), some (ab_I v4)] [] h (some (ab_I q.1)) q.2 := by
  intro n
  induction n with
  | zero => intro v0 v1 v2 v3 v4 h q hk; cases hk
  | succ n ih =>
    intro v0 v1 v2 v3 v4 h q hk
    unfold f_X9_string_L32 at hk
    refine ab_iload (pc := 32) (i := 4) dX9_string_32 rfl ?_
    refine ab_aload_n (pc := 34) (i := 0) dX9_string_34 rfl rfl ?_
    refine ab_iload_n (pc := 35) (i := 1) dX9_string_35 rfl rfl ?_
    obtain ⟨q1, hq1, hk⟩ := ab_bnd hk
    obtain ⟨hb, hq1⟩ := ab_on_some hq1
    refine ab_callVI (st := [ab_I v4]) (as := [ab_I v1]) (b := v0) (pc := 36) dX9_string_36 ml_RX9_255 my_X9_terms mv_X9_terms hb (ct_X9_terms hq1) ⟨Nat.le_of_ble_eq_true rfl, Nat.le_of_ble_eq_true rfl⟩ rfl (Nat.le_of_ble_eq_true rfl) rfl ?_
    refine ab_icmp_ge (pc := 39) (tgt := 66) dX9_string_39 rfl (fun hc => ?_) (fun hc => ?_)
    · have hk := ab_ifp hk hc
      refine ab_sub_ (lv2 := [some (ab_R v0), some (ab_I v1), some (ab_I v2), some (ab_I v3), none]) (ab_ss (ab_ss (ab_ss (ab_ss (ab_sn ab_s0))))) ?_
      exact hk66 _ _ _ _ _ _ hk
    · have hk := ab_ifn hk hc
      refine ab_iload_n (pc := 42) (i := 3) dX9_string_42 rfl rfl ?_
      refine ab_aload_n (pc := 43) (i := 0) dX9_string_43 rfl rfl ?_
      refine ab_iload_n (pc := 44) (i := 1) dX9_string_44 rfl rfl ?_
      refine ab_iload (pc := 45) (i := 4) dX9_string_45 rfl ?_
      obtain ⟨q2, hq2, hk⟩ := ab_bnd hk
      obtain ⟨hb, hq2⟩ := ab_on_some hq2
      refine ab_callVI (st := [ab_I v3]) (as := [ab_I v1, ab_I v4]) (b := v0) (pc := 47) dX9_string_47 ml_RX9_290 my_X9_doesLead mv_X9_doesLead hb (ct_X9_doesLead hq2) ⟨Nat.le_of_ble_eq_true rfl, Nat.le_of_ble_eq_true rfl⟩ rfl (Nat.le_of_ble_eq_true rfl) rfl ?_
      refine ab_if_eq (pc := 50) (tgt := 57) dX9_string_50 rfl (fun hc => ?_) (fun hc => ?_)
      · have hk := ab_ifp hk hc
        refine ab_iconst (pc := 57) dX9_string_57 ab_k_0 ?_
        refine ab_sub_ (lv2 := [some (ab_R v0), some (ab_I v1), some (ab_I v2), none, some (ab_I v4)]) (ab_ss (ab_ss (ab_ss (ab_sn (ab_ss ab_s0))))) ?_
        exact e_X9_string_J58 ih hk66 _ _ _ _ _ _ _ _ hk
      · have hk := ab_ifn hk hc
        refine ab_iconst (pc := 53) dX9_string_53 ab_k_1 ?_
        refine ab_goto (pc := 54) (tgt := 58) dX9_string_54 rfl ?_
        refine ab_sub_ (lv2 := [some (ab_R v0), some (ab_I v1), some (ab_I v2), none, some (ab_I v4)]) (ab_ss (ab_ss (ab_ss (ab_sn (ab_ss ab_s0))))) ?_
        exact e_X9_string_J58 ih hk66 _ _ _ _ _ _ _ _ hk
noncomputable def f_X9_string (a0 : Int) (a1 : Int) (a2 : Int) (h : ab_H) : Option (Int × ab_H) :=
  (ab_on h 10 a0 (f_X9_isString a0 a1 h)).bind fun q1 =>
  if q1.1 = (0 : Int) then
    some ((-2 : Int), q1.2)
  else
  (f_X9_in a2 (0 : Int) (4 : Int) q1.2).bind fun q2 =>
  if q2.1 = (0 : Int) then
    some ((-2 : Int), q2.2)
  else
  (ab_on q2.2 10 a0 (f_X9_lays a0 q2.2)).bind fun q3 =>
  f_X9_string_L32 (fun w66_0 w66_1 w66_2 w66_3 hx66 =>
    if w66_2 = (0 : Int) then
      (ab_on hx66 10 w66_0 (f_X9_addressOf w66_0 w66_1 hx66)).bind fun q7 =>
      some (q7.1, q7.2)
    else
    if w66_2 = (1 : Int) then
      (ab_on hx66 10 w66_0 (f_X9_terms w66_0 w66_1 hx66)).bind fun q6 =>
      some (q6.1, q6.2)
    else
    if w66_2 = (2 : Int) then
      some (w66_3, hx66)
    else
    if w66_2 = (3 : Int) then
      (ab_on hx66 10 w66_0 (f_X9_doublesOf w66_0 w66_1 hx66)).bind fun q5 =>
      some (q5.1, q5.2)
    else
    (ab_on hx66 10 w66_0 (f_X9_twiceIn w66_0 w66_1 hx66)).bind fun q4 =>
    some (q4.1, q4.2)) ab_FU a0 a1 a2 (0 : Int) (0 : Int) q3
set_option maxRecDepth 20000 in
theorem ct_X9_string {a0 a1 a2 : Int} {h : ab_H} {q : Int × ab_H} (hk : f_X9_string a0 a1 a2 h = some q) : ab_CT yX9_string cX9_string 5 (some .int) 6 133 [ab_R a0, ab_I a1, ab_I a2] h (some (ab_I q.1)) q.2 := by
  refine ab_CT.mk_ 2 (own := RX9) (ini := false) (lv := [some (ab_R a0), some (ab_I a1), some (ab_I a2), none, none]) rfl (by decide +kernel) (fun q => by cases q) rfl rfl ?_
  unfold f_X9_string at hk
  show ab_E mm_X9_string cX9_string 0 _ [] h _ _
  refine ab_aload_n (pc := 0) (i := 0) dX9_string_0 rfl rfl ?_
  refine ab_iload_n (pc := 1) (i := 1) dX9_string_1 rfl rfl ?_
  obtain ⟨q1, hq1, hk⟩ := ab_bnd hk
  obtain ⟨hb, hq1⟩ := ab_on_some hq1
  refine ab_callVI (st := []) (as := [ab_I a1]) (b := a0) (pc := 2) dX9_string_2 ml_RX9_323 my_X9_isString mv_X9_isString hb (ct_X9_isString hq1) ⟨Nat.le_of_ble_eq_true rfl, Nat.le_of_ble_eq_true rfl⟩ rfl (Nat.le_of_ble_eq_true rfl) rfl ?_
  refine ab_if_eq (pc := 5) (tgt := 20) dX9_string_5 rfl (fun hc => ?_) (fun hc => ?_)
  · have hk := ab_ifp hk hc
    refine ab_bipush (pc := 20) dX9_string_20 ab_p8_m2 ab_k_m2 ?_
    obtain rfl := Option.some.inj hk
    exact ab_reti (pc := 22) dX9_string_22 (Or.inl rfl)
  · have hk := ab_ifn hk hc
    refine ab_iload_n (pc := 8) (i := 2) dX9_string_8 rfl rfl ?_
    refine ab_i2l_ (pc := 9) dX9_string_9 ?_
    refine ab_lconst (x := (0 : Int)) (pc := 10) dX9_string_10 rfl ab_kl_0 ?_
    refine ab_ldc2 (x := (4 : Int)) (pc := 11) dX9_string_11 ab_ld2_RX9_326 ab_kl_4 ?_
    obtain ⟨q2, hq2, hk⟩ := ab_bnd hk
    refine ab_callSI (st := []) (as := [ab_J a2, ab_J (0 : Int), ab_J (4 : Int)]) (pc := 14) dX9_string_14 ml_RX9_84 my_X9_in ms_X9_in (ct_X9_in hq2) ⟨Nat.le_of_ble_eq_true rfl, Nat.le_of_ble_eq_true rfl⟩ rfl (Nat.le_of_ble_eq_true rfl) rfl ?_
    refine ab_if_ne (pc := 17) (tgt := 23) dX9_string_17 rfl (fun hc => ?_) (fun hc => ?_)
    · have hk := ab_ifn hk hc
      refine ab_aload_n (pc := 23) (i := 0) dX9_string_23 rfl rfl ?_
      obtain ⟨q3, hq3, hk⟩ := ab_bnd hk
      obtain ⟨hb, hq3⟩ := ab_on_some hq3
      refine ab_callVV (st := []) (as := []) (b := a0) (pc := 24) dX9_string_24 ml_RX9_314 my_X9_lays mv_X9_lays hb (ct_X9_lays hq3) ⟨Nat.le_of_ble_eq_true rfl, Nat.le_of_ble_eq_true rfl⟩ rfl (Nat.le_of_ble_eq_true rfl) rfl ?_
      refine ab_iconst (pc := 27) dX9_string_27 ab_k_0 ?_
      refine ab_istore_n (pc := 28) (i := 3) (lv2 := [some (ab_R a0), some (ab_I a1), some (ab_I a2), some (ab_I (0 : Int)), none]) dX9_string_28 rfl (Nat.le_of_ble_eq_true rfl) rfl rfl ?_
      refine ab_iconst (pc := 29) dX9_string_29 ab_k_0 ?_
      refine ab_istore (pc := 30) (i := 4) (lv2 := [some (ab_R a0), some (ab_I a1), some (ab_I a2), some (ab_I (0 : Int)), some (ab_I (0 : Int))]) dX9_string_30 (Nat.le_of_ble_eq_true rfl) rfl rfl ?_
      refine ab_sub_ (lv2 := [some (ab_R a0), some (ab_I a1), some (ab_I a2), some (ab_I (0 : Int)), some (ab_I (0 : Int))]) (ab_ss (ab_ss (ab_ss (ab_ss (ab_ss ab_s0))))) ?_
      refine e_X9_string_L32 (fun w66_0 w66_1 w66_2 w66_3 hx66 q hk => ?_) _ _ _ _ _ _ _ _ hk
      · skip
        refine ab_iload_n (pc := 66) (i := 2) dX9_string_66 rfl rfl ?_
        refine ab_if_ne (pc := 67) (tgt := 78) dX9_string_67 rfl (fun hc => ?_) (fun hc => ?_)
        · have hk := ab_ifn hk hc
          refine ab_iload_n (pc := 78) (i := 2) dX9_string_78 rfl rfl ?_
          refine ab_iconst (pc := 79) dX9_string_79 ab_k_1 ?_
          refine ab_icmp_ne (pc := 80) (tgt := 91) dX9_string_80 rfl (fun hc => ?_) (fun hc => ?_)
          · have hk := ab_ifn hk hc
            refine ab_iload_n (pc := 91) (i := 2) dX9_string_91 rfl rfl ?_
            refine ab_iconst (pc := 92) dX9_string_92 ab_k_2 ?_
            refine ab_icmp_ne (pc := 93) (tgt := 100) dX9_string_93 rfl (fun hc => ?_) (fun hc => ?_)
            · have hk := ab_ifn hk hc
              refine ab_iload_n (pc := 100) (i := 2) dX9_string_100 rfl rfl ?_
              refine ab_iconst (pc := 101) dX9_string_101 ab_k_3 ?_
              refine ab_icmp_ne (pc := 102) (tgt := 113) dX9_string_102 rfl (fun hc => ?_) (fun hc => ?_)
              · have hk := ab_ifn hk hc
                refine ab_aload_n (pc := 113) (i := 0) dX9_string_113 rfl rfl ?_
                refine ab_iload_n (pc := 114) (i := 1) dX9_string_114 rfl rfl ?_
                obtain ⟨q4, hq4, hk⟩ := ab_bnd hk
                obtain ⟨hb, hq4⟩ := ab_on_some hq4
                refine ab_callVI (st := []) (as := [ab_I w66_1]) (b := w66_0) (pc := 115) dX9_string_115 ml_RX9_331 my_X9_twiceIn mv_X9_twiceIn hb (ct_X9_twiceIn hq4) ⟨Nat.le_of_ble_eq_true rfl, Nat.le_of_ble_eq_true rfl⟩ rfl (Nat.le_of_ble_eq_true rfl) rfl ?_
                obtain rfl := Option.some.inj hk
                exact ab_reti (pc := 118) dX9_string_118 (Or.inl rfl)
              · have hk := ab_ifp hk hc
                refine ab_aload_n (pc := 105) (i := 0) dX9_string_105 rfl rfl ?_
                refine ab_iload_n (pc := 106) (i := 1) dX9_string_106 rfl rfl ?_
                obtain ⟨q5, hq5, hk⟩ := ab_bnd hk
                obtain ⟨hb, hq5⟩ := ab_on_some hq5
                refine ab_callVI (st := []) (as := [ab_I w66_1]) (b := w66_0) (pc := 107) dX9_string_107 ml_RX9_328 my_X9_doublesOf mv_X9_doublesOf hb (ct_X9_doublesOf hq5) ⟨Nat.le_of_ble_eq_true rfl, Nat.le_of_ble_eq_true rfl⟩ rfl (Nat.le_of_ble_eq_true rfl) rfl ?_
                refine ab_goto (pc := 110) (tgt := 118) dX9_string_110 rfl ?_
                obtain rfl := Option.some.inj hk
                exact ab_reti (pc := 118) dX9_string_118 (Or.inl rfl)
            · have hk := ab_ifp hk hc
              refine ab_iload_n (pc := 96) (i := 3) dX9_string_96 rfl rfl ?_
              refine ab_goto (pc := 97) (tgt := 118) dX9_string_97 rfl ?_
              obtain rfl := Option.some.inj hk
              exact ab_reti (pc := 118) dX9_string_118 (Or.inl rfl)
          · have hk := ab_ifp hk hc
            refine ab_aload_n (pc := 83) (i := 0) dX9_string_83 rfl rfl ?_
            refine ab_iload_n (pc := 84) (i := 1) dX9_string_84 rfl rfl ?_
            obtain ⟨q6, hq6, hk⟩ := ab_bnd hk
            obtain ⟨hb, hq6⟩ := ab_on_some hq6
            refine ab_callVI (st := []) (as := [ab_I w66_1]) (b := w66_0) (pc := 85) dX9_string_85 ml_RX9_255 my_X9_terms mv_X9_terms hb (ct_X9_terms hq6) ⟨Nat.le_of_ble_eq_true rfl, Nat.le_of_ble_eq_true rfl⟩ rfl (Nat.le_of_ble_eq_true rfl) rfl ?_
            refine ab_goto (pc := 88) (tgt := 118) dX9_string_88 rfl ?_
            obtain rfl := Option.some.inj hk
            exact ab_reti (pc := 118) dX9_string_118 (Or.inl rfl)
        · have hk := ab_ifp hk hc
          refine ab_aload_n (pc := 70) (i := 0) dX9_string_70 rfl rfl ?_
          refine ab_iload_n (pc := 71) (i := 1) dX9_string_71 rfl rfl ?_
          obtain ⟨q7, hq7, hk⟩ := ab_bnd hk
          obtain ⟨hb, hq7⟩ := ab_on_some hq7
          refine ab_callVI (st := []) (as := [ab_I w66_1]) (b := w66_0) (pc := 72) dX9_string_72 ml_RX9_284 my_X9_addressOf mv_X9_addressOf hb (ct_X9_addressOf hq7) ⟨Nat.le_of_ble_eq_true rfl, Nat.le_of_ble_eq_true rfl⟩ rfl (Nat.le_of_ble_eq_true rfl) rfl ?_
          refine ab_goto (pc := 75) (tgt := 118) dX9_string_75 rfl ?_
          obtain rfl := Option.some.inj hk
          exact ab_reti (pc := 118) dX9_string_118 (Or.inl rfl)
    · have hk := ab_ifp hk hc
      refine ab_bipush (pc := 20) dX9_string_20 ab_p8_m2 ab_k_m2 ?_
      obtain rfl := Option.some.inj hk
      exact ab_reti (pc := 22) dX9_string_22 (Or.inl rfl)
theorem dX9_letterOf_0 : decode cX9_letterOf 0 = .ok (.lload_n 0, 1) := by decide +kernel
theorem dX9_letterOf_1 : decode cX9_letterOf 1 = .ok (.iconst 5, 1) := by decide +kernel
theorem dX9_letterOf_2 : decode cX9_letterOf 2 = .ok (.bipush 6, 2) := by decide +kernel
theorem dX9_letterOf_4 : decode cX9_letterOf 4 = .ok (.iload_n 2, 1) := by decide +kernel
theorem dX9_letterOf_5 : decode cX9_letterOf 5 = .ok (.isub, 1) := by decide +kernel
theorem dX9_letterOf_6 : decode cX9_letterOf 6 = .ok (.imul, 1) := by decide +kernel
theorem dX9_letterOf_7 : decode cX9_letterOf 7 = .ok (.lshr, 1) := by decide +kernel
theorem dX9_letterOf_8 : decode cX9_letterOf 8 = .ok (.ldc2_w 338, 3) := by decide +kernel
theorem dX9_letterOf_11 : decode cX9_letterOf 11 = .ok (.land, 1) := by decide +kernel
theorem dX9_letterOf_12 : decode cX9_letterOf 12 = .ok (.l2i, 1) := by decide +kernel
theorem dX9_letterOf_13 : decode cX9_letterOf 13 = .ok (.ireturn, 1) := by decide +kernel
abbrev mm_X9_letterOf : ab_M := (RX9, 3, (some .int), false, 0, 0, none)
noncomputable def f_X9_letterOf (a0 : Int) (a2 : Int) (h : ab_H) : Option (Int × ab_H) :=
  some (ab_w32 (ab_land (ab_lshr a0 (ab_w32 ((5 : Int) * (ab_w32 ((6 : Int) - a2))))) (31 : Int)), h)
set_option maxRecDepth 20000 in
theorem ct_X9_letterOf {a0 a2 : Int} {h : ab_H} {q : Int × ab_H} (hk : f_X9_letterOf a0 a2 h = some q) : ab_CT yX9_letterOf cX9_letterOf 3 (some .int) 0 0 [ab_J a0, ab_I a2] h (some (ab_I q.1)) q.2 := by
  refine ab_CT.mk_ 0 (own := RX9) (ini := false) (lv := [some (ab_J a0), none, some (ab_I a2)]) rfl (by decide +kernel) (fun q => by cases q) rfl rfl ?_
  unfold f_X9_letterOf at hk
  show ab_E mm_X9_letterOf cX9_letterOf 0 _ [] h _ _
  refine ab_lload_n (pc := 0) (i := 0) dX9_letterOf_0 rfl rfl ?_
  refine ab_iconst (pc := 1) dX9_letterOf_1 ab_k_5 ?_
  refine ab_bipush (pc := 2) dX9_letterOf_2 ab_p8_6 ab_k_6 ?_
  refine ab_iload_n (pc := 4) (i := 2) dX9_letterOf_4 rfl rfl ?_
  refine ab_isub (pc := 5) dX9_letterOf_5 ?_
  refine ab_imul (pc := 6) dX9_letterOf_6 ?_
  refine ab_lshr_ (pc := 7) dX9_letterOf_7 ?_
  refine ab_ldc2 (x := (31 : Int)) (pc := 8) dX9_letterOf_8 ab_ld2_RX9_338 ab_kl_31 ?_
  refine ab_land_ (pc := 11) dX9_letterOf_11 ?_
  refine ab_l2i_ (pc := 12) dX9_letterOf_12 ?_
  obtain rfl := Option.some.inj hk
  exact ab_reti (pc := 13) dX9_letterOf_13 (Or.inl rfl)
theorem dX9_lettersOf_0 : decode cX9_lettersOf 0 = .ok (.iconst 0, 1) := by decide +kernel
theorem dX9_lettersOf_1 : decode cX9_lettersOf 1 = .ok (.istore_n 2, 1) := by decide +kernel
theorem dX9_lettersOf_2 : decode cX9_lettersOf 2 = .ok (.iconst 0, 1) := by decide +kernel
theorem dX9_lettersOf_3 : decode cX9_lettersOf 3 = .ok (.istore_n 3, 1) := by decide +kernel
theorem dX9_lettersOf_4 : decode cX9_lettersOf 4 = .ok (.iload_n 3, 1) := by decide +kernel
theorem dX9_lettersOf_5 : decode cX9_lettersOf 5 = .ok (.bipush 7, 2) := by decide +kernel
theorem dX9_lettersOf_7 : decode cX9_lettersOf 7 = .ok (.if_icmp .ge 25, 3) := by decide +kernel
theorem dX9_lettersOf_10 : decode cX9_lettersOf 10 = .ok (.iload_n 2, 1) := by decide +kernel
theorem dX9_lettersOf_11 : decode cX9_lettersOf 11 = .ok (.lload_n 0, 1) := by decide +kernel
theorem dX9_lettersOf_12 : decode cX9_lettersOf 12 = .ok (.iload_n 3, 1) := by decide +kernel
theorem dX9_lettersOf_13 : decode cX9_lettersOf 13 = .ok (.invokestatic 334, 3) := by decide +kernel
theorem dX9_lettersOf_16 : decode cX9_lettersOf 16 = .ok (.ifCond .le 7, 3) := by decide +kernel
theorem dX9_lettersOf_19 : decode cX9_lettersOf 19 = .ok (.iconst 1, 1) := by decide +kernel
theorem dX9_lettersOf_20 : decode cX9_lettersOf 20 = .ok (.goto 4, 3) := by decide +kernel
theorem dX9_lettersOf_23 : decode cX9_lettersOf 23 = .ok (.iconst 0, 1) := by decide +kernel
theorem dX9_lettersOf_24 : decode cX9_lettersOf 24 = .ok (.iadd, 1) := by decide +kernel
theorem dX9_lettersOf_25 : decode cX9_lettersOf 25 = .ok (.istore_n 2, 1) := by decide +kernel
theorem dX9_lettersOf_26 : decode cX9_lettersOf 26 = .ok (.iinc 3 1, 3) := by decide +kernel
theorem dX9_lettersOf_29 : decode cX9_lettersOf 29 = .ok (.goto (-25), 3) := by decide +kernel
theorem dX9_lettersOf_32 : decode cX9_lettersOf 32 = .ok (.iload_n 2, 1) := by decide +kernel
theorem dX9_lettersOf_33 : decode cX9_lettersOf 33 = .ok (.ireturn, 1) := by decide +kernel
abbrev mm_X9_lettersOf : ab_M := (RX9, 4, (some .int), false, 1, 22, none)
noncomputable def f_X9_lettersOf_J24 (rec : Int → Int → Int → ab_H → Option (Int × ab_H)) (v0 : Int) (v3 : Int) (s1 : Int) (s0 : Int) (h : ab_H) : Option (Int × ab_H) :=
  rec v0 (ab_w32 (s0 + s1)) (ab_w32 (v3 + (1 : Int))) h
set_option maxRecDepth 20000 in
theorem e_X9_lettersOf_J24 {rec : Int → Int → Int → ab_H → Option (Int × ab_H)} (hrec : ∀ (v0 : Int) (v2 : Int) (v3 : Int) (h : ab_H) (q : Int × ab_H), rec v0 v2 v3 h = some q → ab_E mm_X9_lettersOf cX9_lettersOf 4 [some (ab_J v0), none, some (ab_I v2), some (ab_I v3)] [] h (some (ab_I q.1)) q.2) : ∀ (v0 : Int) (v3 : Int) (s1 : Int) (s0 : Int) (h : ab_H) (q : Int × ab_H), f_X9_lettersOf_J24 rec v0 v3 s1 s0 h = some q → ab_E mm_X9_lettersOf cX9_lettersOf 24 [some (ab_J v0), none, none, some (ab_I v3)] [ab_I s1, ab_I s0] h (some (ab_I q.1)) q.2 := by
  intro v0 v3 s1 s0 h q hk
  unfold f_X9_lettersOf_J24 at hk
  refine ab_iadd (pc := 24) dX9_lettersOf_24 ?_
  refine ab_istore_n (pc := 25) (i := 2) (lv2 := [some (ab_J v0), none, some (ab_I (ab_w32 (s0 + s1))), some (ab_I v3)]) dX9_lettersOf_25 rfl (Nat.le_of_ble_eq_true rfl) rfl rfl ?_
  refine ab_iinc (pc := 26) (i := 3) (lv2 := [some (ab_J v0), none, some (ab_I (ab_w32 (s0 + s1))), some (ab_I (ab_w32 (v3 + (1 : Int))))]) dX9_lettersOf_26 rfl (Nat.le_of_ble_eq_true rfl) rfl rfl ?_
  refine ab_goto (pc := 29) (tgt := 4) dX9_lettersOf_29 rfl ?_
  refine ab_sub_ (lv2 := [some (ab_J v0), none, some (ab_I (ab_w32 (s0 + s1))), some (ab_I (ab_w32 (v3 + (1 : Int))))]) (ab_ss (ab_sn (ab_ss (ab_ss ab_s0)))) ?_
  exact hrec _ _ _ _ _ hk
noncomputable def f_X9_lettersOf_L4 : Nat → Int → Int → Int → ab_H → Option (Int × ab_H)
  | 0, _, _, _, _ => none
  | n + 1, v0, v2, v3, h =>
    if (7 : Int) ≤ v3 then
      some (v2, h)
    else
    (f_X9_letterOf v0 v3 h).bind fun q1 =>
    if q1.1 ≤ (0 : Int) then
      f_X9_lettersOf_J24 (f_X9_lettersOf_L4 n) v0 v3 (0 : Int) v2 q1.2
    else
    f_X9_lettersOf_J24 (f_X9_lettersOf_L4 n) v0 v3 (1 : Int) v2 q1.2
set_option maxRecDepth 20000 in
theorem e_X9_lettersOf_L4 : ∀ (n : Nat) (v0 : Int) (v2 : Int) (v3 : Int) (h : ab_H) (q : Int × ab_H), f_X9_lettersOf_L4 n v0 v2 v3 h = some q → ab_E mm_X9_lettersOf cX9_lettersOf 4 [some (ab_J v0), none, some (ab_I v2), some (ab_I v3)] [] h (some (ab_I q.1)) q.2 := by
  intro n
  induction n with
  | zero => intro v0 v2 v3 h q hk; cases hk
  | succ n ih =>
    intro v0 v2 v3 h q hk
    unfold f_X9_lettersOf_L4 at hk
    refine ab_iload_n (pc := 4) (i := 3) dX9_lettersOf_4 rfl rfl ?_
    refine ab_bipush (pc := 5) dX9_lettersOf_5 ab_p8_7 ab_k_7 ?_
    refine ab_icmp_ge (pc := 7) (tgt := 32) dX9_lettersOf_7 rfl (fun hc => ?_) (fun hc => ?_)
    · have hk := ab_ifp hk hc
      refine ab_iload_n (pc := 32) (i := 2) dX9_lettersOf_32 rfl rfl ?_
      obtain rfl := Option.some.inj hk
      exact ab_reti (pc := 33) dX9_lettersOf_33 (Or.inl rfl)
    · have hk := ab_ifn hk hc
      refine ab_iload_n (pc := 10) (i := 2) dX9_lettersOf_10 rfl rfl ?_
      refine ab_lload_n (pc := 11) (i := 0) dX9_lettersOf_11 rfl rfl ?_
      refine ab_iload_n (pc := 12) (i := 3) dX9_lettersOf_12 rfl rfl ?_
      obtain ⟨q1, hq1, hk⟩ := ab_bnd hk
      refine ab_callSI (st := [ab_I v2]) (as := [ab_J v0, ab_I v3]) (pc := 13) dX9_lettersOf_13 ml_RX9_334 my_X9_letterOf ms_X9_letterOf (ct_X9_letterOf hq1) ⟨Nat.le_of_ble_eq_true rfl, Nat.le_of_ble_eq_true rfl⟩ rfl (Nat.le_of_ble_eq_true rfl) rfl ?_
      refine ab_if_le (pc := 16) (tgt := 23) dX9_lettersOf_16 rfl (fun hc => ?_) (fun hc => ?_)
      · have hk := ab_ifp hk hc
        refine ab_iconst (pc := 23) dX9_lettersOf_23 ab_k_0 ?_
        refine ab_sub_ (lv2 := [some (ab_J v0), none, none, some (ab_I v3)]) (ab_ss (ab_sn (ab_sn (ab_ss ab_s0)))) ?_
        exact e_X9_lettersOf_J24 ih _ _ _ _ _ _ hk
      · have hk := ab_ifn hk hc
        refine ab_iconst (pc := 19) dX9_lettersOf_19 ab_k_1 ?_
        refine ab_goto (pc := 20) (tgt := 24) dX9_lettersOf_20 rfl ?_
        refine ab_sub_ (lv2 := [some (ab_J v0), none, none, some (ab_I v3)]) (ab_ss (ab_sn (ab_sn (ab_ss ab_s0)))) ?_
        exact e_X9_lettersOf_J24 ih _ _ _ _ _ _ hk
noncomputable def f_X9_lettersOf (a0 : Int) (h : ab_H) : Option (Int × ab_H) :=
  f_X9_lettersOf_L4 ab_FU a0 (0 : Int) (0 : Int) h
set_option maxRecDepth 20000 in
theorem ct_X9_lettersOf {a0 : Int} {h : ab_H} {q : Int × ab_H} (hk : f_X9_lettersOf a0 h = some q) : ab_CT yX9_lettersOf cX9_lettersOf 4 (some .int) 1 22 [ab_J a0] h (some (ab_I q.1)) q.2 := by
  refine ab_CT.mk_ 2 (own := RX9) (ini := false) (lv := [some (ab_J a0), none, none, none]) rfl (by decide +kernel) (fun q => by cases q) rfl rfl ?_
  unfold f_X9_lettersOf at hk
  show ab_E mm_X9_lettersOf cX9_lettersOf 0 _ [] h _ _
  refine ab_iconst (pc := 0) dX9_lettersOf_0 ab_k_0 ?_
  refine ab_istore_n (pc := 1) (i := 2) (lv2 := [some (ab_J a0), none, some (ab_I (0 : Int)), none]) dX9_lettersOf_1 rfl (Nat.le_of_ble_eq_true rfl) rfl rfl ?_
  refine ab_iconst (pc := 2) dX9_lettersOf_2 ab_k_0 ?_
  refine ab_istore_n (pc := 3) (i := 3) (lv2 := [some (ab_J a0), none, some (ab_I (0 : Int)), some (ab_I (0 : Int))]) dX9_lettersOf_3 rfl (Nat.le_of_ble_eq_true rfl) rfl rfl ?_
  refine ab_sub_ (lv2 := [some (ab_J a0), none, some (ab_I (0 : Int)), some (ab_I (0 : Int))]) (ab_ss (ab_sn (ab_ss (ab_ss ab_s0)))) ?_
  refine e_X9_lettersOf_L4 _ _ _ _ _ _ hk
theorem dX9_term_0 : decode cX9_term 0 = .ok (.aload_n 0, 1) := by decide +kernel
theorem dX9_term_1 : decode cX9_term 1 = .ok (.iload_n 1, 1) := by decide +kernel
theorem dX9_term_2 : decode cX9_term 2 = .ok (.iload_n 2, 1) := by decide +kernel
theorem dX9_term_3 : decode cX9_term 3 = .ok (.invokevirtual 340, 3) := by decide +kernel
theorem dX9_term_6 : decode cX9_term 6 = .ok (.ifCond .eq 15, 3) := by decide +kernel
theorem dX9_term_9 : decode cX9_term 9 = .ok (.iload_n 3, 1) := by decide +kernel
theorem dX9_term_10 : decode cX9_term 10 = .ok (.i2l, 1) := by decide +kernel
theorem dX9_term_11 : decode cX9_term 11 = .ok (.lconst 0, 1) := by decide +kernel
theorem dX9_term_12 : decode cX9_term 12 = .ok (.ldc2_w 326, 3) := by decide +kernel
theorem dX9_term_15 : decode cX9_term 15 = .ok (.invokestatic 84, 3) := by decide +kernel
theorem dX9_term_18 : decode cX9_term 18 = .ok (.ifCond .ne 6, 3) := by decide +kernel
theorem dX9_term_21 : decode cX9_term 21 = .ok (.bipush (-2), 2) := by decide +kernel
theorem dX9_term_23 : decode cX9_term 23 = .ok (.ireturn, 1) := by decide +kernel
theorem dX9_term_24 : decode cX9_term 24 = .ok (.aload_n 0, 1) := by decide +kernel
theorem dX9_term_25 : decode cX9_term 25 = .ok (.invokevirtual 287, 3) := by decide +kernel
theorem dX9_term_28 : decode cX9_term 28 = .ok (.iload_n 1, 1) := by decide +kernel
theorem dX9_term_29 : decode cX9_term 29 = .ok (.iload_n 2, 1) := by decide +kernel
theorem dX9_term_30 : decode cX9_term 30 = .ok (.invokestatic 73, 3) := by decide +kernel
theorem dX9_term_33 : decode cX9_term 33 = .ok (.istore 4, 2) := by decide +kernel
theorem dX9_term_35 : decode cX9_term 35 = .ok (.iload_n 3, 1) := by decide +kernel
theorem dX9_term_36 : decode cX9_term 36 = .ok (.tableswitch 85 0 3 #[32, 39, 54, 65], 32) := by decide +kernel
theorem dX9_term_68 : decode cX9_term 68 = .ok (.aload_n 0, 1) := by decide +kernel
theorem dX9_term_69 : decode cX9_term 69 = .ok (.iload_n 1, 1) := by decide +kernel
theorem dX9_term_70 : decode cX9_term 70 = .ok (.iload_n 2, 1) := by decide +kernel
theorem dX9_term_71 : decode cX9_term 71 = .ok (.invokevirtual 294, 3) := by decide +kernel
theorem dX9_term_74 : decode cX9_term 74 = .ok (.ireturn, 1) := by decide +kernel
theorem dX9_term_75 : decode cX9_term 75 = .ok (.aload_n 0, 1) := by decide +kernel
theorem dX9_term_76 : decode cX9_term 76 = .ok (.iload_n 1, 1) := by decide +kernel
theorem dX9_term_77 : decode cX9_term 77 = .ok (.iload_n 2, 1) := by decide +kernel
theorem dX9_term_78 : decode cX9_term 78 = .ok (.invokevirtual 290, 3) := by decide +kernel
theorem dX9_term_81 : decode cX9_term 81 = .ok (.ifCond .eq 7, 3) := by decide +kernel
theorem dX9_term_84 : decode cX9_term 84 = .ok (.iconst 1, 1) := by decide +kernel
theorem dX9_term_85 : decode cX9_term 85 = .ok (.goto 4, 3) := by decide +kernel
theorem dX9_term_88 : decode cX9_term 88 = .ok (.iconst 0, 1) := by decide +kernel
theorem dX9_term_89 : decode cX9_term 89 = .ok (.ireturn, 1) := by decide +kernel
theorem dX9_term_90 : decode cX9_term 90 = .ok (.aload_n 0, 1) := by decide +kernel
theorem dX9_term_91 : decode cX9_term 91 = .ok (.getfield 27, 3) := by decide +kernel
theorem dX9_term_94 : decode cX9_term 94 = .ok (.iload_n 1, 1) := by decide +kernel
theorem dX9_term_95 : decode cX9_term 95 = .ok (.iload_n 2, 1) := by decide +kernel
theorem dX9_term_96 : decode cX9_term 96 = .ok (.invokestatic 262, 3) := by decide +kernel
theorem dX9_term_99 : decode cX9_term 99 = .ok (.iaload, 1) := by decide +kernel
theorem dX9_term_100 : decode cX9_term 100 = .ok (.ireturn, 1) := by decide +kernel
theorem dX9_term_101 : decode cX9_term 101 = .ok (.aload_n 0, 1) := by decide +kernel
theorem dX9_term_102 : decode cX9_term 102 = .ok (.getfield 9, 3) := by decide +kernel
theorem dX9_term_105 : decode cX9_term 105 = .ok (.aload_n 0, 1) := by decide +kernel
theorem dX9_term_106 : decode cX9_term 106 = .ok (.getfield 9, 3) := by decide +kernel
theorem dX9_term_109 : decode cX9_term 109 = .ok (.iload 4, 2) := by decide +kernel
theorem dX9_term_111 : decode cX9_term 111 = .ok (.iconst 3, 1) := by decide +kernel
theorem dX9_term_112 : decode cX9_term 112 = .ok (.iadd, 1) := by decide +kernel
theorem dX9_term_113 : decode cX9_term 113 = .ok (.laload, 1) := by decide +kernel
theorem dX9_term_114 : decode cX9_term 114 = .ok (.invokestatic 204, 3) := by decide +kernel
theorem dX9_term_117 : decode cX9_term 117 = .ok (.invokestatic 343, 3) := by decide +kernel
theorem dX9_term_120 : decode cX9_term 120 = .ok (.ireturn, 1) := by decide +kernel
theorem dX9_term_121 : decode cX9_term 121 = .ok (.aload_n 0, 1) := by decide +kernel
theorem dX9_term_122 : decode cX9_term 122 = .ok (.getfield 9, 3) := by decide +kernel
theorem dX9_term_125 : decode cX9_term 125 = .ok (.aload_n 0, 1) := by decide +kernel
theorem dX9_term_126 : decode cX9_term 126 = .ok (.getfield 9, 3) := by decide +kernel
theorem dX9_term_129 : decode cX9_term 129 = .ok (.iload 4, 2) := by decide +kernel
theorem dX9_term_131 : decode cX9_term 131 = .ok (.iconst 4, 1) := by decide +kernel
theorem dX9_term_132 : decode cX9_term 132 = .ok (.iadd, 1) := by decide +kernel
theorem dX9_term_133 : decode cX9_term 133 = .ok (.laload, 1) := by decide +kernel
theorem dX9_term_134 : decode cX9_term 134 = .ok (.invokestatic 204, 3) := by decide +kernel
theorem dX9_term_137 : decode cX9_term 137 = .ok (.invokestatic 343, 3) := by decide +kernel
theorem dX9_term_140 : decode cX9_term 140 = .ok (.ireturn, 1) := by decide +kernel
abbrev mm_X9_term : ab_M := (RX9, 5, (some .int), false, 3, 68, none)
noncomputable def f_X9_term (a0 : Int) (a1 : Int) (a2 : Int) (a3 : Int) (h : ab_H) : Option (Int × ab_H) :=
  (ab_on h 10 a0 (f_X9_isTerm a0 a1 a2 h)).bind fun q1 =>
  if q1.1 = (0 : Int) then
    some ((-2 : Int), q1.2)
  else
  (f_X9_in a3 (0 : Int) (4 : Int) q1.2).bind fun q2 =>
  if q2.1 = (0 : Int) then
    some ((-2 : Int), q2.2)
  else
  (ab_on q2.2 10 a0 (f_X9_laysWords a0 q2.2)).bind fun q3 =>
  (f_X9_termAt a1 a2 q3).bind fun q4 =>
  if a3 = (0 : Int) then
    (ab_on q4.2 10 a0 (f_X9_roleOf a0 a1 a2 q4.2)).bind fun q5 =>
    some (q5.1, q5.2)
  else
  if a3 = (1 : Int) then
    (ab_on q4.2 10 a0 (f_X9_doesLead a0 a1 a2 q4.2)).bind fun q6 =>
    if q6.1 = (0 : Int) then
      some ((0 : Int), q6.2)
    else
    some ((1 : Int), q6.2)
  else
  if a3 = (2 : Int) then
    (ab_get q4.2 10 15 a0).bind fun t7 =>
    (f_X9_place a1 a2 q4.2).bind fun q8 =>
    (ab_ald q8.2 11 t7 q8.1).bind fun t9 =>
    some (t9, q8.2)
  else
  if a3 = (3 : Int) then
    (ab_get q4.2 10 1 a0).bind fun t10 =>
    (ab_get q4.2 10 1 a0).bind fun t11 =>
    (ab_ald q4.2 12 t11 (ab_w32 (q4.1 + (3 : Int)))).bind fun t12 =>
    (f_X9_usedOf t10 t12 q4.2).bind fun q13 =>
    (f_X9_lettersOf q13.1 q13.2).bind fun q14 =>
    some (q14.1, q14.2)
  else
  (ab_get q4.2 10 1 a0).bind fun t15 =>
  (ab_get q4.2 10 1 a0).bind fun t16 =>
  (ab_ald q4.2 12 t16 (ab_w32 (q4.1 + (4 : Int)))).bind fun t17 =>
  (f_X9_usedOf t15 t17 q4.2).bind fun q18 =>
  (f_X9_lettersOf q18.1 q18.2).bind fun q19 =>
  some (q19.1, q19.2)
set_option maxRecDepth 20000 in
theorem ct_X9_term {a0 a1 a2 a3 : Int} {h : ab_H} {q : Int × ab_H} (hk : f_X9_term a0 a1 a2 a3 h = some q) : ab_CT yX9_term cX9_term 5 (some .int) 3 68 [ab_R a0, ab_I a1, ab_I a2, ab_I a3] h (some (ab_I q.1)) q.2 := by
  refine ab_CT.mk_ 1 (own := RX9) (ini := false) (lv := [some (ab_R a0), some (ab_I a1), some (ab_I a2), some (ab_I a3), none]) rfl (by decide +kernel) (fun q => by cases q) rfl rfl ?_
  unfold f_X9_term at hk
  show ab_E mm_X9_term cX9_term 0 _ [] h _ _
  refine ab_aload_n (pc := 0) (i := 0) dX9_term_0 rfl rfl ?_
  refine ab_iload_n (pc := 1) (i := 1) dX9_term_1 rfl rfl ?_
  refine ab_iload_n (pc := 2) (i := 2) dX9_term_2 rfl rfl ?_
  obtain ⟨q1, hq1, hk⟩ := ab_bnd hk
  obtain ⟨hb, hq1⟩ := ab_on_some hq1
  refine ab_callVI (st := []) (as := [ab_I a1, ab_I a2]) (b := a0) (pc := 3) dX9_term_3 ml_RX9_340 my_X9_isTerm mv_X9_isTerm hb (ct_X9_isTerm hq1) ⟨Nat.le_of_ble_eq_true rfl, Nat.le_of_ble_eq_true rfl⟩ rfl (Nat.le_of_ble_eq_true rfl) rfl ?_
  refine ab_if_eq (pc := 6) (tgt := 21) dX9_term_6 rfl (fun hc => ?_) (fun hc => ?_)
  · have hk := ab_ifp hk hc
    refine ab_bipush (pc := 21) dX9_term_21 ab_p8_m2 ab_k_m2 ?_
    obtain rfl := Option.some.inj hk
    exact ab_reti (pc := 23) dX9_term_23 (Or.inl rfl)
  · have hk := ab_ifn hk hc
    refine ab_iload_n (pc := 9) (i := 3) dX9_term_9 rfl rfl ?_
    refine ab_i2l_ (pc := 10) dX9_term_10 ?_
    refine ab_lconst (x := (0 : Int)) (pc := 11) dX9_term_11 rfl ab_kl_0 ?_
    refine ab_ldc2 (x := (4 : Int)) (pc := 12) dX9_term_12 ab_ld2_RX9_326 ab_kl_4 ?_
    obtain ⟨q2, hq2, hk⟩ := ab_bnd hk
    refine ab_callSI (st := []) (as := [ab_J a3, ab_J (0 : Int), ab_J (4 : Int)]) (pc := 15) dX9_term_15 ml_RX9_84 my_X9_in ms_X9_in (ct_X9_in hq2) ⟨Nat.le_of_ble_eq_true rfl, Nat.le_of_ble_eq_true rfl⟩ rfl (Nat.le_of_ble_eq_true rfl) rfl ?_
    refine ab_if_ne (pc := 18) (tgt := 24) dX9_term_18 rfl (fun hc => ?_) (fun hc => ?_)
    · have hk := ab_ifn hk hc
      refine ab_aload_n (pc := 24) (i := 0) dX9_term_24 rfl rfl ?_
      obtain ⟨q3, hq3, hk⟩ := ab_bnd hk
      obtain ⟨hb, hq3⟩ := ab_on_some hq3
      refine ab_callVV (st := []) (as := []) (b := a0) (pc := 25) dX9_term_25 ml_RX9_287 my_X9_laysWords mv_X9_laysWords hb (ct_X9_laysWords hq3) ⟨Nat.le_of_ble_eq_true rfl, Nat.le_of_ble_eq_true rfl⟩ rfl (Nat.le_of_ble_eq_true rfl) rfl ?_
      refine ab_iload_n (pc := 28) (i := 1) dX9_term_28 rfl rfl ?_
      refine ab_iload_n (pc := 29) (i := 2) dX9_term_29 rfl rfl ?_
      obtain ⟨q4, hq4, hk⟩ := ab_bnd hk
      refine ab_callSI (st := []) (as := [ab_I a1, ab_I a2]) (pc := 30) dX9_term_30 ml_RX9_73 my_X9_termAt ms_X9_termAt (ct_X9_termAt hq4) ⟨Nat.le_of_ble_eq_true rfl, Nat.le_of_ble_eq_true rfl⟩ rfl (Nat.le_of_ble_eq_true rfl) rfl ?_
      refine ab_istore (pc := 33) (i := 4) (lv2 := [some (ab_R a0), some (ab_I a1), some (ab_I a2), some (ab_I a3), some (ab_I q4.1)]) dX9_term_33 (Nat.le_of_ble_eq_true rfl) rfl rfl ?_
      refine ab_iload_n (pc := 35) (i := 3) dX9_term_35 rfl rfl ?_
      by_cases hc : a3 = (0 : Int)
      · have hk := ab_ifp hk hc
        refine ab_tswIn (pc := 36) (v := (0 : Int)) (off := 32) (tgt := 68) dX9_term_36 hc ⟨by decide, by decide⟩ rfl rfl ?_
        refine ab_aload_n (pc := 68) (i := 0) dX9_term_68 rfl rfl ?_
        refine ab_iload_n (pc := 69) (i := 1) dX9_term_69 rfl rfl ?_
        refine ab_iload_n (pc := 70) (i := 2) dX9_term_70 rfl rfl ?_
        obtain ⟨q5, hq5, hk⟩ := ab_bnd hk
        obtain ⟨hb, hq5⟩ := ab_on_some hq5
        refine ab_callVI (st := []) (as := [ab_I a1, ab_I a2]) (b := a0) (pc := 71) dX9_term_71 ml_RX9_294 my_X9_roleOf mv_X9_roleOf hb (ct_X9_roleOf hq5) ⟨Nat.le_of_ble_eq_true rfl, Nat.le_of_ble_eq_true rfl⟩ rfl (Nat.le_of_ble_eq_true rfl) rfl ?_
        obtain rfl := Option.some.inj hk
        exact ab_reti (pc := 74) dX9_term_74 (Or.inl rfl)
      have hk := ab_ifn hk hc
      have hz0 := hc
      clear hc
      by_cases hc : a3 = (1 : Int)
      · have hk := ab_ifp hk hc
        refine ab_tswIn (pc := 36) (v := (1 : Int)) (off := 39) (tgt := 75) dX9_term_36 hc ⟨by decide, by decide⟩ rfl rfl ?_
        refine ab_aload_n (pc := 75) (i := 0) dX9_term_75 rfl rfl ?_
        refine ab_iload_n (pc := 76) (i := 1) dX9_term_76 rfl rfl ?_
        refine ab_iload_n (pc := 77) (i := 2) dX9_term_77 rfl rfl ?_
        obtain ⟨q6, hq6, hk⟩ := ab_bnd hk
        obtain ⟨hb, hq6⟩ := ab_on_some hq6
        refine ab_callVI (st := []) (as := [ab_I a1, ab_I a2]) (b := a0) (pc := 78) dX9_term_78 ml_RX9_290 my_X9_doesLead mv_X9_doesLead hb (ct_X9_doesLead hq6) ⟨Nat.le_of_ble_eq_true rfl, Nat.le_of_ble_eq_true rfl⟩ rfl (Nat.le_of_ble_eq_true rfl) rfl ?_
        refine ab_if_eq (pc := 81) (tgt := 88) dX9_term_81 rfl (fun hc => ?_) (fun hc => ?_)
        · have hk := ab_ifp hk hc
          refine ab_iconst (pc := 88) dX9_term_88 ab_k_0 ?_
          obtain rfl := Option.some.inj hk
          exact ab_reti (pc := 89) dX9_term_89 (Or.inl rfl)
        · have hk := ab_ifn hk hc
          refine ab_iconst (pc := 84) dX9_term_84 ab_k_1 ?_
          refine ab_goto (pc := 85) (tgt := 89) dX9_term_85 rfl ?_
          obtain rfl := Option.some.inj hk
          exact ab_reti (pc := 89) dX9_term_89 (Or.inl rfl)
      have hk := ab_ifn hk hc
      have hz1 := hc
      clear hc
      by_cases hc : a3 = (2 : Int)
      · have hk := ab_ifp hk hc
        refine ab_tswIn (pc := 36) (v := (2 : Int)) (off := 54) (tgt := 90) dX9_term_36 hc ⟨by decide, by decide⟩ rfl rfl ?_
        refine ab_aload_n (pc := 90) (i := 0) dX9_term_90 rfl rfl ?_
        obtain ⟨t7, ht7, hk⟩ := ab_bnd hk
        refine ab_getR (pc := 91) dX9_term_91 fl_RX9_27 ht7 ?_
        refine ab_iload_n (pc := 94) (i := 1) dX9_term_94 rfl rfl ?_
        refine ab_iload_n (pc := 95) (i := 2) dX9_term_95 rfl rfl ?_
        obtain ⟨q8, hq8, hk⟩ := ab_bnd hk
        refine ab_callSI (st := [ab_R t7]) (as := [ab_I a1, ab_I a2]) (pc := 96) dX9_term_96 ml_RX9_262 my_X9_place ms_X9_place (ct_X9_place hq8) ⟨Nat.le_of_ble_eq_true rfl, Nat.le_of_ble_eq_true rfl⟩ rfl (Nat.le_of_ble_eq_true rfl) rfl ?_
        obtain ⟨t9, ht9, hk⟩ := ab_bnd hk
        refine ab_iald (pc := 99) dX9_term_99 ht9 ?_
        obtain rfl := Option.some.inj hk
        exact ab_reti (pc := 100) dX9_term_100 (Or.inl rfl)
      have hk := ab_ifn hk hc
      have hz2 := hc
      clear hc
      by_cases hc : a3 = (3 : Int)
      · have hk := ab_ifp hk hc
        refine ab_tswIn (pc := 36) (v := (3 : Int)) (off := 65) (tgt := 101) dX9_term_36 hc ⟨by decide, by decide⟩ rfl rfl ?_
        refine ab_aload_n (pc := 101) (i := 0) dX9_term_101 rfl rfl ?_
        obtain ⟨t10, ht10, hk⟩ := ab_bnd hk
        refine ab_getR (pc := 102) dX9_term_102 fl_RX9_9 ht10 ?_
        refine ab_aload_n (pc := 105) (i := 0) dX9_term_105 rfl rfl ?_
        obtain ⟨t11, ht11, hk⟩ := ab_bnd hk
        refine ab_getR (pc := 106) dX9_term_106 fl_RX9_9 ht11 ?_
        refine ab_iload (pc := 109) (i := 4) dX9_term_109 rfl ?_
        refine ab_iconst (pc := 111) dX9_term_111 ab_k_3 ?_
        refine ab_iadd (pc := 112) dX9_term_112 ?_
        obtain ⟨t12, ht12, hk⟩ := ab_bnd hk
        refine ab_lald (pc := 113) dX9_term_113 ht12 ?_
        obtain ⟨q13, hq13, hk⟩ := ab_bnd hk
        refine ab_callSJ (st := []) (as := [ab_R t10, ab_J t12]) (pc := 114) dX9_term_114 ml_RX9_204 my_X9_usedOf ms_X9_usedOf (ct_X9_usedOf hq13) ⟨Nat.le_of_ble_eq_true rfl, Nat.le_of_ble_eq_true rfl⟩ rfl (Nat.le_of_ble_eq_true rfl) rfl ?_
        obtain ⟨q14, hq14, hk⟩ := ab_bnd hk
        refine ab_callSI (st := []) (as := [ab_J q13.1]) (pc := 117) dX9_term_117 ml_RX9_343 my_X9_lettersOf ms_X9_lettersOf (ct_X9_lettersOf hq14) ⟨Nat.le_of_ble_eq_true rfl, Nat.le_of_ble_eq_true rfl⟩ rfl (Nat.le_of_ble_eq_true rfl) rfl ?_
        obtain rfl := Option.some.inj hk
        exact ab_reti (pc := 120) dX9_term_120 (Or.inl rfl)
      have hk := ab_ifn hk hc
      have hz3 := hc
      clear hc
      refine ab_tswOut (pc := 36) (tgt := 121) dX9_term_36 (by omega) rfl ?_
      refine ab_aload_n (pc := 121) (i := 0) dX9_term_121 rfl rfl ?_
      obtain ⟨t15, ht15, hk⟩ := ab_bnd hk
      refine ab_getR (pc := 122) dX9_term_122 fl_RX9_9 ht15 ?_
      refine ab_aload_n (pc := 125) (i := 0) dX9_term_125 rfl rfl ?_
      obtain ⟨t16, ht16, hk⟩ := ab_bnd hk
      refine ab_getR (pc := 126) dX9_term_126 fl_RX9_9 ht16 ?_
      refine ab_iload (pc := 129) (i := 4) dX9_term_129 rfl ?_
      refine ab_iconst (pc := 131) dX9_term_131 ab_k_4 ?_
      refine ab_iadd (pc := 132) dX9_term_132 ?_
      obtain ⟨t17, ht17, hk⟩ := ab_bnd hk
      refine ab_lald (pc := 133) dX9_term_133 ht17 ?_
      obtain ⟨q18, hq18, hk⟩ := ab_bnd hk
      refine ab_callSJ (st := []) (as := [ab_R t15, ab_J t17]) (pc := 134) dX9_term_134 ml_RX9_204 my_X9_usedOf ms_X9_usedOf (ct_X9_usedOf hq18) ⟨Nat.le_of_ble_eq_true rfl, Nat.le_of_ble_eq_true rfl⟩ rfl (Nat.le_of_ble_eq_true rfl) rfl ?_
      obtain ⟨q19, hq19, hk⟩ := ab_bnd hk
      refine ab_callSI (st := []) (as := [ab_J q18.1]) (pc := 137) dX9_term_137 ml_RX9_343 my_X9_lettersOf ms_X9_lettersOf (ct_X9_lettersOf hq19) ⟨Nat.le_of_ble_eq_true rfl, Nat.le_of_ble_eq_true rfl⟩ rfl (Nat.le_of_ble_eq_true rfl) rfl ?_
      obtain rfl := Option.some.inj hk
      exact ab_reti (pc := 140) dX9_term_140 (Or.inl rfl)
    · have hk := ab_ifp hk hc
      refine ab_bipush (pc := 21) dX9_term_21 ab_p8_m2 ab_k_m2 ?_
      obtain rfl := Option.some.inj hk
      exact ab_reti (pc := 23) dX9_term_23 (Or.inl rfl)
theorem dX9_isWordNow_0 : decode cX9_isWordNow 0 = .ok (.aload_n 0, 1) := by decide +kernel
theorem dX9_isWordNow_1 : decode cX9_isWordNow 1 = .ok (.invokevirtual 287, 3) := by decide +kernel
theorem dX9_isWordNow_4 : decode cX9_isWordNow 4 = .ok (.iload_n 1, 1) := by decide +kernel
theorem dX9_isWordNow_5 : decode cX9_isWordNow 5 = .ok (.i2l, 1) := by decide +kernel
theorem dX9_isWordNow_6 : decode cX9_isWordNow 6 = .ok (.lconst 0, 1) := by decide +kernel
theorem dX9_isWordNow_7 : decode cX9_isWordNow 7 = .ok (.aload_n 0, 1) := by decide +kernel
theorem dX9_isWordNow_8 : decode cX9_isWordNow 8 = .ok (.getfield 252, 3) := by decide +kernel
theorem dX9_isWordNow_11 : decode cX9_isWordNow 11 = .ok (.iconst 1, 1) := by decide +kernel
theorem dX9_isWordNow_12 : decode cX9_isWordNow 12 = .ok (.isub, 1) := by decide +kernel
theorem dX9_isWordNow_13 : decode cX9_isWordNow 13 = .ok (.i2l, 1) := by decide +kernel
theorem dX9_isWordNow_14 : decode cX9_isWordNow 14 = .ok (.invokestatic 84, 3) := by decide +kernel
theorem dX9_isWordNow_17 : decode cX9_isWordNow 17 = .ok (.ireturn, 1) := by decide +kernel
abbrev mm_X9_isWordNow : ab_M := (RX9, 2, (some .boolean), false, 2, 51, none)
noncomputable def f_X9_isWordNow (a0 : Int) (a1 : Int) (h : ab_H) : Option (Int × ab_H) :=
  (ab_on h 10 a0 (f_X9_laysWords a0 h)).bind fun q1 =>
  (ab_get q1 10 14 a0).bind fun t2 =>
  (f_X9_in a1 (0 : Int) (ab_w32 (t2 - (1 : Int))) q1).bind fun q3 =>
  ab_if (decide (q3.1 = 0 ∨ q3.1 = 1)) <|
  some (q3.1, q3.2)
set_option maxRecDepth 20000 in
theorem ct_X9_isWordNow {a0 a1 : Int} {h : ab_H} {q : Int × ab_H} (hk : f_X9_isWordNow a0 a1 h = some q) : ab_CT yX9_isWordNow cX9_isWordNow 2 (some .boolean) 2 51 [ab_R a0, ab_I a1] h (some (ab_I q.1)) q.2 := by
  refine ab_CT.mk_ 0 (own := RX9) (ini := false) (lv := [some (ab_R a0), some (ab_I a1)]) rfl (by decide +kernel) (fun q => by cases q) rfl rfl ?_
  unfold f_X9_isWordNow at hk
  show ab_E mm_X9_isWordNow cX9_isWordNow 0 _ [] h _ _
  refine ab_aload_n (pc := 0) (i := 0) dX9_isWordNow_0 rfl rfl ?_
  obtain ⟨q1, hq1, hk⟩ := ab_bnd hk
  obtain ⟨hb, hq1⟩ := ab_on_some hq1
  refine ab_callVV (st := []) (as := []) (b := a0) (pc := 1) dX9_isWordNow_1 ml_RX9_287 my_X9_laysWords mv_X9_laysWords hb (ct_X9_laysWords hq1) ⟨Nat.le_of_ble_eq_true rfl, Nat.le_of_ble_eq_true rfl⟩ rfl (Nat.le_of_ble_eq_true rfl) rfl ?_
  refine ab_iload_n (pc := 4) (i := 1) dX9_isWordNow_4 rfl rfl ?_
  refine ab_i2l_ (pc := 5) dX9_isWordNow_5 ?_
  refine ab_lconst (x := (0 : Int)) (pc := 6) dX9_isWordNow_6 rfl ab_kl_0 ?_
  refine ab_aload_n (pc := 7) (i := 0) dX9_isWordNow_7 rfl rfl ?_
  obtain ⟨t2, ht2, hk⟩ := ab_bnd hk
  refine ab_getI (pc := 8) dX9_isWordNow_8 fl_RX9_252 ht2 ?_
  refine ab_iconst (pc := 11) dX9_isWordNow_11 ab_k_1 ?_
  refine ab_isub (pc := 12) dX9_isWordNow_12 ?_
  refine ab_i2l_ (pc := 13) dX9_isWordNow_13 ?_
  obtain ⟨q3, hq3, hk⟩ := ab_bnd hk
  refine ab_callSI (st := []) (as := [ab_J a1, ab_J (0 : Int), ab_J (ab_w32 (t2 - (1 : Int)))]) (pc := 14) dX9_isWordNow_14 ml_RX9_84 my_X9_in ms_X9_in (ct_X9_in hq3) ⟨Nat.le_of_ble_eq_true rfl, Nat.le_of_ble_eq_true rfl⟩ rfl (Nat.le_of_ble_eq_true rfl) rfl ?_
  obtain ⟨hg, hk⟩ := ab_if_some hk
  obtain rfl := Option.some.inj hk
  exact ab_retz (pc := 17) dX9_isWordNow_17 rfl hg
theorem dX9_letter_0 : decode cX9_letter 0 = .ok (.aload_n 0, 1) := by decide +kernel
theorem dX9_letter_1 : decode cX9_letter 1 = .ok (.iload_n 1, 1) := by decide +kernel
theorem dX9_letter_2 : decode cX9_letter 2 = .ok (.invokevirtual 346, 3) := by decide +kernel
theorem dX9_letter_5 : decode cX9_letter 5 = .ok (.ifCond .eq 28, 3) := by decide +kernel
theorem dX9_letter_8 : decode cX9_letter 8 = .ok (.iload_n 2, 1) := by decide +kernel
theorem dX9_letter_9 : decode cX9_letter 9 = .ok (.i2l, 1) := by decide +kernel
theorem dX9_letter_10 : decode cX9_letter 10 = .ok (.lconst 0, 1) := by decide +kernel
theorem dX9_letter_11 : decode cX9_letter 11 = .ok (.ldc2_w 312, 3) := by decide +kernel
theorem dX9_letter_14 : decode cX9_letter 14 = .ok (.invokestatic 84, 3) := by decide +kernel
theorem dX9_letter_17 : decode cX9_letter 17 = .ok (.ifCond .eq 16, 3) := by decide +kernel
theorem dX9_letter_20 : decode cX9_letter 20 = .ok (.aload_n 0, 1) := by decide +kernel
theorem dX9_letter_21 : decode cX9_letter 21 = .ok (.getfield 24, 3) := by decide +kernel
theorem dX9_letter_24 : decode cX9_letter 24 = .ok (.iload_n 1, 1) := by decide +kernel
theorem dX9_letter_25 : decode cX9_letter 25 = .ok (.laload, 1) := by decide +kernel
theorem dX9_letter_26 : decode cX9_letter 26 = .ok (.iload_n 2, 1) := by decide +kernel
theorem dX9_letter_27 : decode cX9_letter 27 = .ok (.invokestatic 334, 3) := by decide +kernel
theorem dX9_letter_30 : decode cX9_letter 30 = .ok (.goto 5, 3) := by decide +kernel
theorem dX9_letter_33 : decode cX9_letter 33 = .ok (.bipush (-2), 2) := by decide +kernel
theorem dX9_letter_35 : decode cX9_letter 35 = .ok (.ireturn, 1) := by decide +kernel
abbrev mm_X9_letter : ab_M := (RX9, 3, (some .int), false, 3, 72, none)
noncomputable def f_X9_letter_J33 (h : ab_H) : Option (Int × ab_H) :=
  some ((-2 : Int), h)
set_option maxRecDepth 20000 in
theorem e_X9_letter_J33 : ∀ (h : ab_H) (q : Int × ab_H), f_X9_letter_J33  h = some q → ab_E mm_X9_letter cX9_letter 33 [none, none, none] [] h (some (ab_I q.1)) q.2 := by
  intro  h q hk
  unfold f_X9_letter_J33 at hk
  refine ab_bipush (pc := 33) dX9_letter_33 ab_p8_m2 ab_k_m2 ?_
  obtain rfl := Option.some.inj hk
  exact ab_reti (pc := 35) dX9_letter_35 (Or.inl rfl)
noncomputable def f_X9_letter (a0 : Int) (a1 : Int) (a2 : Int) (h : ab_H) : Option (Int × ab_H) :=
  (ab_on h 10 a0 (f_X9_isWordNow a0 a1 h)).bind fun q1 =>
  if q1.1 = (0 : Int) then
    f_X9_letter_J33 q1.2
  else
  (f_X9_in a2 (0 : Int) (6 : Int) q1.2).bind fun q2 =>
  if q2.1 = (0 : Int) then
    f_X9_letter_J33 q2.2
  else
  (ab_get q2.2 10 13 a0).bind fun t3 =>
  (ab_ald q2.2 12 t3 a1).bind fun t4 =>
  (f_X9_letterOf t4 a2 q2.2).bind fun q5 =>
  some (q5.1, q5.2)
set_option maxRecDepth 20000 in
theorem ct_X9_letter {a0 a1 a2 : Int} {h : ab_H} {q : Int × ab_H} (hk : f_X9_letter a0 a1 a2 h = some q) : ab_CT yX9_letter cX9_letter 3 (some .int) 3 72 [ab_R a0, ab_I a1, ab_I a2] h (some (ab_I q.1)) q.2 := by
  refine ab_CT.mk_ 0 (own := RX9) (ini := false) (lv := [some (ab_R a0), some (ab_I a1), some (ab_I a2)]) rfl (by decide +kernel) (fun q => by cases q) rfl rfl ?_
  unfold f_X9_letter at hk
  show ab_E mm_X9_letter cX9_letter 0 _ [] h _ _
  refine ab_aload_n (pc := 0) (i := 0) dX9_letter_0 rfl rfl ?_
  refine ab_iload_n (pc := 1) (i := 1) dX9_letter_1 rfl rfl ?_
  obtain ⟨q1, hq1, hk⟩ := ab_bnd hk
  obtain ⟨hb, hq1⟩ := ab_on_some hq1
  refine ab_callVI (st := []) (as := [ab_I a1]) (b := a0) (pc := 2) dX9_letter_2 ml_RX9_346 my_X9_isWordNow mv_X9_isWordNow hb (ct_X9_isWordNow hq1) ⟨Nat.le_of_ble_eq_true rfl, Nat.le_of_ble_eq_true rfl⟩ rfl (Nat.le_of_ble_eq_true rfl) rfl ?_
  refine ab_if_eq (pc := 5) (tgt := 33) dX9_letter_5 rfl (fun hc => ?_) (fun hc => ?_)
  · have hk := ab_ifp hk hc
    refine ab_sub_ (lv2 := [none, none, none]) (ab_sn (ab_sn (ab_sn ab_s0))) ?_
    exact e_X9_letter_J33  _ _ hk
  · have hk := ab_ifn hk hc
    refine ab_iload_n (pc := 8) (i := 2) dX9_letter_8 rfl rfl ?_
    refine ab_i2l_ (pc := 9) dX9_letter_9 ?_
    refine ab_lconst (x := (0 : Int)) (pc := 10) dX9_letter_10 rfl ab_kl_0 ?_
    refine ab_ldc2 (x := (6 : Int)) (pc := 11) dX9_letter_11 ab_ld2_RX9_312 ab_kl_6 ?_
    obtain ⟨q2, hq2, hk⟩ := ab_bnd hk
    refine ab_callSI (st := []) (as := [ab_J a2, ab_J (0 : Int), ab_J (6 : Int)]) (pc := 14) dX9_letter_14 ml_RX9_84 my_X9_in ms_X9_in (ct_X9_in hq2) ⟨Nat.le_of_ble_eq_true rfl, Nat.le_of_ble_eq_true rfl⟩ rfl (Nat.le_of_ble_eq_true rfl) rfl ?_
    refine ab_if_eq (pc := 17) (tgt := 33) dX9_letter_17 rfl (fun hc => ?_) (fun hc => ?_)
    · have hk := ab_ifp hk hc
      refine ab_sub_ (lv2 := [none, none, none]) (ab_sn (ab_sn (ab_sn ab_s0))) ?_
      exact e_X9_letter_J33  _ _ hk
    · have hk := ab_ifn hk hc
      refine ab_aload_n (pc := 20) (i := 0) dX9_letter_20 rfl rfl ?_
      obtain ⟨t3, ht3, hk⟩ := ab_bnd hk
      refine ab_getR (pc := 21) dX9_letter_21 fl_RX9_24 ht3 ?_
      refine ab_iload_n (pc := 24) (i := 1) dX9_letter_24 rfl rfl ?_
      obtain ⟨t4, ht4, hk⟩ := ab_bnd hk
      refine ab_lald (pc := 25) dX9_letter_25 ht4 ?_
      refine ab_iload_n (pc := 26) (i := 2) dX9_letter_26 rfl rfl ?_
      obtain ⟨q5, hq5, hk⟩ := ab_bnd hk
      refine ab_callSI (st := []) (as := [ab_J t4, ab_I a2]) (pc := 27) dX9_letter_27 ml_RX9_334 my_X9_letterOf ms_X9_letterOf (ct_X9_letterOf hq5) ⟨Nat.le_of_ble_eq_true rfl, Nat.le_of_ble_eq_true rfl⟩ rfl (Nat.le_of_ble_eq_true rfl) rfl ?_
      refine ab_goto (pc := 30) (tgt := 35) dX9_letter_30 rfl ?_
      obtain rfl := Option.some.inj hk
      exact ab_reti (pc := 35) dX9_letter_35 (Or.inl rfl)
theorem dX9_way_0 : decode cX9_way 0 = .ok (.iload_n 1, 1) := by decide +kernel
theorem dX9_way_1 : decode cX9_way 1 = .ok (.i2l, 1) := by decide +kernel
theorem dX9_way_2 : decode cX9_way 2 = .ok (.lconst 0, 1) := by decide +kernel
theorem dX9_way_3 : decode cX9_way 3 = .ok (.ldc2_w 349, 3) := by decide +kernel
theorem dX9_way_6 : decode cX9_way 6 = .ok (.invokestatic 84, 3) := by decide +kernel
theorem dX9_way_9 : decode cX9_way 9 = .ok (.ifCond .eq 15, 3) := by decide +kernel
theorem dX9_way_12 : decode cX9_way 12 = .ok (.aload_n 0, 1) := by decide +kernel
theorem dX9_way_13 : decode cX9_way 13 = .ok (.getfield 9, 3) := by decide +kernel
theorem dX9_way_16 : decode cX9_way 16 = .ok (.iconst 2, 1) := by decide +kernel
theorem dX9_way_17 : decode cX9_way 17 = .ok (.iload_n 1, 1) := by decide +kernel
theorem dX9_way_18 : decode cX9_way 18 = .ok (.iadd, 1) := by decide +kernel
theorem dX9_way_19 : decode cX9_way 19 = .ok (.laload, 1) := by decide +kernel
theorem dX9_way_20 : decode cX9_way 20 = .ok (.l2i, 1) := by decide +kernel
theorem dX9_way_21 : decode cX9_way 21 = .ok (.goto 5, 3) := by decide +kernel
theorem dX9_way_24 : decode cX9_way 24 = .ok (.bipush (-2), 2) := by decide +kernel
theorem dX9_way_26 : decode cX9_way 26 = .ok (.ireturn, 1) := by decide +kernel
abbrev mm_X9_way : ab_M := (RX9, 2, (some .int), false, 1, 25, none)
noncomputable def f_X9_way (a0 : Int) (a1 : Int) (h : ab_H) : Option (Int × ab_H) :=
  (f_X9_in a1 (0 : Int) (5 : Int) h).bind fun q1 =>
  if q1.1 = (0 : Int) then
    some ((-2 : Int), q1.2)
  else
  (ab_get q1.2 10 1 a0).bind fun t2 =>
  (ab_ald q1.2 12 t2 (ab_w32 ((2 : Int) + a1))).bind fun t3 =>
  some (ab_w32 t3, q1.2)
set_option maxRecDepth 20000 in
theorem ct_X9_way {a0 a1 : Int} {h : ab_H} {q : Int × ab_H} (hk : f_X9_way a0 a1 h = some q) : ab_CT yX9_way cX9_way 2 (some .int) 1 25 [ab_R a0, ab_I a1] h (some (ab_I q.1)) q.2 := by
  refine ab_CT.mk_ 0 (own := RX9) (ini := false) (lv := [some (ab_R a0), some (ab_I a1)]) rfl (by decide +kernel) (fun q => by cases q) rfl rfl ?_
  unfold f_X9_way at hk
  show ab_E mm_X9_way cX9_way 0 _ [] h _ _
  refine ab_iload_n (pc := 0) (i := 1) dX9_way_0 rfl rfl ?_
  refine ab_i2l_ (pc := 1) dX9_way_1 ?_
  refine ab_lconst (x := (0 : Int)) (pc := 2) dX9_way_2 rfl ab_kl_0 ?_
  refine ab_ldc2 (x := (5 : Int)) (pc := 3) dX9_way_3 ab_ld2_RX9_349 ab_kl_5 ?_
  obtain ⟨q1, hq1, hk⟩ := ab_bnd hk
  refine ab_callSI (st := []) (as := [ab_J a1, ab_J (0 : Int), ab_J (5 : Int)]) (pc := 6) dX9_way_6 ml_RX9_84 my_X9_in ms_X9_in (ct_X9_in hq1) ⟨Nat.le_of_ble_eq_true rfl, Nat.le_of_ble_eq_true rfl⟩ rfl (Nat.le_of_ble_eq_true rfl) rfl ?_
  refine ab_if_eq (pc := 9) (tgt := 24) dX9_way_9 rfl (fun hc => ?_) (fun hc => ?_)
  · have hk := ab_ifp hk hc
    refine ab_bipush (pc := 24) dX9_way_24 ab_p8_m2 ab_k_m2 ?_
    obtain rfl := Option.some.inj hk
    exact ab_reti (pc := 26) dX9_way_26 (Or.inl rfl)
  · have hk := ab_ifn hk hc
    refine ab_aload_n (pc := 12) (i := 0) dX9_way_12 rfl rfl ?_
    obtain ⟨t2, ht2, hk⟩ := ab_bnd hk
    refine ab_getR (pc := 13) dX9_way_13 fl_RX9_9 ht2 ?_
    refine ab_iconst (pc := 16) dX9_way_16 ab_k_2 ?_
    refine ab_iload_n (pc := 17) (i := 1) dX9_way_17 rfl rfl ?_
    refine ab_iadd (pc := 18) dX9_way_18 ?_
    obtain ⟨t3, ht3, hk⟩ := ab_bnd hk
    refine ab_lald (pc := 19) dX9_way_19 ht3 ?_
    refine ab_l2i_ (pc := 20) dX9_way_20 ?_
    refine ab_goto (pc := 21) (tgt := 26) dX9_way_21 rfl ?_
    obtain rfl := Option.some.inj hk
    exact ab_reti (pc := 26) dX9_way_26 (Or.inl rfl)
theorem dX9_lettersTold_0 : decode cX9_lettersTold 0 = .ok (.aload_n 0, 1) := by decide +kernel
theorem dX9_lettersTold_1 : decode cX9_lettersTold 1 = .ok (.getfield 77, 3) := by decide +kernel
theorem dX9_lettersTold_4 : decode cX9_lettersTold 4 = .ok (.istore_n 1, 1) := by decide +kernel
theorem dX9_lettersTold_5 : decode cX9_lettersTold 5 = .ok (.aload_n 0, 1) := by decide +kernel
theorem dX9_lettersTold_6 : decode cX9_lettersTold 6 = .ok (.iconst 0, 1) := by decide +kernel
theorem dX9_lettersTold_7 : decode cX9_lettersTold 7 = .ok (.putfield 77, 3) := by decide +kernel
theorem dX9_lettersTold_10 : decode cX9_lettersTold 10 = .ok (.iload_n 1, 1) := by decide +kernel
theorem dX9_lettersTold_11 : decode cX9_lettersTold 11 = .ok (.bipush 7, 2) := by decide +kernel
theorem dX9_lettersTold_13 : decode cX9_lettersTold 13 = .ok (.if_icmp .gt 7, 3) := by decide +kernel
theorem dX9_lettersTold_16 : decode cX9_lettersTold 16 = .ok (.iconst 1, 1) := by decide +kernel
theorem dX9_lettersTold_17 : decode cX9_lettersTold 17 = .ok (.goto 4, 3) := by decide +kernel
theorem dX9_lettersTold_20 : decode cX9_lettersTold 20 = .ok (.iconst 0, 1) := by decide +kernel
theorem dX9_lettersTold_21 : decode cX9_lettersTold 21 = .ok (.istore_n 2, 1) := by decide +kernel
theorem dX9_lettersTold_22 : decode cX9_lettersTold 22 = .ok (.iconst 0, 1) := by decide +kernel
theorem dX9_lettersTold_23 : decode cX9_lettersTold 23 = .ok (.istore_n 3, 1) := by decide +kernel
theorem dX9_lettersTold_24 : decode cX9_lettersTold 24 = .ok (.iload_n 3, 1) := by decide +kernel
theorem dX9_lettersTold_25 : decode cX9_lettersTold 25 = .ok (.iload_n 1, 1) := by decide +kernel
theorem dX9_lettersTold_26 : decode cX9_lettersTold 26 = .ok (.if_icmp .ge 30, 3) := by decide +kernel
theorem dX9_lettersTold_29 : decode cX9_lettersTold 29 = .ok (.iload_n 2, 1) := by decide +kernel
theorem dX9_lettersTold_30 : decode cX9_lettersTold 30 = .ok (.ifCond .eq 26, 3) := by decide +kernel
theorem dX9_lettersTold_33 : decode cX9_lettersTold 33 = .ok (.aload_n 0, 1) := by decide +kernel
theorem dX9_lettersTold_34 : decode cX9_lettersTold 34 = .ok (.getfield 16, 3) := by decide +kernel
theorem dX9_lettersTold_37 : decode cX9_lettersTold 37 = .ok (.iload_n 3, 1) := by decide +kernel
theorem dX9_lettersTold_38 : decode cX9_lettersTold 38 = .ok (.baload, 1) := by decide +kernel
theorem dX9_lettersTold_39 : decode cX9_lettersTold 39 = .ok (.i2l, 1) := by decide +kernel
theorem dX9_lettersTold_40 : decode cX9_lettersTold 40 = .ok (.ldc2_w 111, 3) := by decide +kernel
theorem dX9_lettersTold_43 : decode cX9_lettersTold 43 = .ok (.ldc2_w 113, 3) := by decide +kernel
theorem dX9_lettersTold_46 : decode cX9_lettersTold 46 = .ok (.invokestatic 84, 3) := by decide +kernel
theorem dX9_lettersTold_49 : decode cX9_lettersTold 49 = .ok (.istore_n 2, 1) := by decide +kernel
theorem dX9_lettersTold_50 : decode cX9_lettersTold 50 = .ok (.iinc 3 1, 3) := by decide +kernel
theorem dX9_lettersTold_53 : decode cX9_lettersTold 53 = .ok (.goto (-29), 3) := by decide +kernel
theorem dX9_lettersTold_56 : decode cX9_lettersTold 56 = .ok (.iload_n 2, 1) := by decide +kernel
theorem dX9_lettersTold_57 : decode cX9_lettersTold 57 = .ok (.ifCond .eq 7, 3) := by decide +kernel
theorem dX9_lettersTold_60 : decode cX9_lettersTold 60 = .ok (.iload_n 1, 1) := by decide +kernel
theorem dX9_lettersTold_61 : decode cX9_lettersTold 61 = .ok (.goto 4, 3) := by decide +kernel
theorem dX9_lettersTold_64 : decode cX9_lettersTold 64 = .ok (.iconst (-1), 1) := by decide +kernel
theorem dX9_lettersTold_65 : decode cX9_lettersTold 65 = .ok (.ireturn, 1) := by decide +kernel
abbrev mm_X9_lettersTold : ab_M := (RX9, 4, (some .int), false, 1, 25, none)
noncomputable def f_X9_lettersTold_J56 (v1 : Int) (v2 : Int) (h : ab_H) : Option (Int × ab_H) :=
  if v2 = (0 : Int) then
    some ((-1 : Int), h)
  else
  some (v1, h)
set_option maxRecDepth 20000 in
theorem e_X9_lettersTold_J56 : ∀ (v1 : Int) (v2 : Int) (h : ab_H) (q : Int × ab_H), f_X9_lettersTold_J56 v1 v2 h = some q → ab_E mm_X9_lettersTold cX9_lettersTold 56 [none, some (ab_I v1), some (ab_I v2), none] [] h (some (ab_I q.1)) q.2 := by
  intro v1 v2 h q hk
  unfold f_X9_lettersTold_J56 at hk
  refine ab_iload_n (pc := 56) (i := 2) dX9_lettersTold_56 rfl rfl ?_
  refine ab_if_eq (pc := 57) (tgt := 64) dX9_lettersTold_57 rfl (fun hc => ?_) (fun hc => ?_)
  · have hk := ab_ifp hk hc
    refine ab_iconst (pc := 64) dX9_lettersTold_64 ab_k_m1 ?_
    obtain rfl := Option.some.inj hk
    exact ab_reti (pc := 65) dX9_lettersTold_65 (Or.inl rfl)
  · have hk := ab_ifn hk hc
    refine ab_iload_n (pc := 60) (i := 1) dX9_lettersTold_60 rfl rfl ?_
    refine ab_goto (pc := 61) (tgt := 65) dX9_lettersTold_61 rfl ?_
    obtain rfl := Option.some.inj hk
    exact ab_reti (pc := 65) dX9_lettersTold_65 (Or.inl rfl)
noncomputable def f_X9_lettersTold_L24 (k56 : Int → Int → ab_H → Option (Int × ab_H)) : Nat → Int → Int → Int → Int → ab_H → Option (Int × ab_H)
  | 0, _, _, _, _, _ => none
  | n + 1, v0, v1, v2, v3, h =>
    if v1 ≤ v3 then
      k56 v1 v2 h
    else
    if v2 = (0 : Int) then
      k56 v1 v2 h
    else
    (ab_get h 10 3 v0).bind fun t1 =>
    (ab_ald h 13 t1 v3).bind fun t2 =>
    (f_X9_in t2 (97 : Int) (122 : Int) h).bind fun q3 =>
    f_X9_lettersTold_L24 k56 n v0 v1 q3.1 (ab_w32 (v3 + (1 : Int))) q3.2
set_option maxRecDepth 20000 in
theorem e_X9_lettersTold_L24 {k56 : Int → Int → ab_H → Option (Int × ab_H)} (hk56 : ∀ (v1 : Int) (v2 : Int) (h : ab_H) (q : Int × ab_H), k56 v1 v2 h = some q → ab_E mm_X9_lettersTold cX9_lettersTold 56 [none, some (ab_I v1), some (ab_I v2), none] [] h (some (ab_I q.1)) q.2) : ∀ (n : Nat) (v0 : Int) (v1 : Int) (v2 : Int) (v3 : Int) (h : ab_H) (q : Int × ab_H), f_X9_lettersTold_L24 k56 n v0 v1 v2 v3 h = some q → ab_E mm_X9_lettersTold cX9_lettersTold 24 [some (ab_R v0), some (ab_I v1), some (ab_I v2), some (ab_I v3)] [] h (some (ab_I q.1)) q.2 := by
  intro n
  induction n with
  | zero => intro v0 v1 v2 v3 h q hk; cases hk
  | succ n ih =>
    intro v0 v1 v2 v3 h q hk
    unfold f_X9_lettersTold_L24 at hk
    refine ab_iload_n (pc := 24) (i := 3) dX9_lettersTold_24 rfl rfl ?_
    refine ab_iload_n (pc := 25) (i := 1) dX9_lettersTold_25 rfl rfl ?_
    refine ab_icmp_ge (pc := 26) (tgt := 56) dX9_lettersTold_26 rfl (fun hc => ?_) (fun hc => ?_)
    · have hk := ab_ifp hk hc
      refine ab_sub_ (lv2 := [none, some (ab_I v1), some (ab_I v2), none]) (ab_sn (ab_ss (ab_ss (ab_sn ab_s0)))) ?_
      exact hk56 _ _ _ _ hk
    · have hk := ab_ifn hk hc
      refine ab_iload_n (pc := 29) (i := 2) dX9_lettersTold_29 rfl rfl ?_
      refine ab_if_eq (pc := 30) (tgt := 56) dX9_lettersTold_30 rfl (fun hc => ?_) (fun hc => ?_)
      · have hk := ab_ifp hk hc
        refine ab_sub_ (lv2 := [none, some (ab_I v1), some (ab_I v2), none]) (ab_sn (ab_ss (ab_ss (ab_sn ab_s0)))) ?_
        exact hk56 _ _ _ _ hk
      · have hk := ab_ifn hk hc
        refine ab_aload_n (pc := 33) (i := 0) dX9_lettersTold_33 rfl rfl ?_
        obtain ⟨t1, ht1, hk⟩ := ab_bnd hk
        refine ab_getR (pc := 34) dX9_lettersTold_34 fl_RX9_16 ht1 ?_
        refine ab_iload_n (pc := 37) (i := 3) dX9_lettersTold_37 rfl rfl ?_
        obtain ⟨t2, ht2, hk⟩ := ab_bnd hk
        refine ab_bald (pc := 38) dX9_lettersTold_38 ht2 ?_
        refine ab_i2l_ (pc := 39) dX9_lettersTold_39 ?_
        refine ab_ldc2 (x := (97 : Int)) (pc := 40) dX9_lettersTold_40 ab_ld2_RX9_111 ab_kl_97 ?_
        refine ab_ldc2 (x := (122 : Int)) (pc := 43) dX9_lettersTold_43 ab_ld2_RX9_113 ab_kl_122 ?_
        obtain ⟨q3, hq3, hk⟩ := ab_bnd hk
        refine ab_callSI (st := []) (as := [ab_J t2, ab_J (97 : Int), ab_J (122 : Int)]) (pc := 46) dX9_lettersTold_46 ml_RX9_84 my_X9_in ms_X9_in (ct_X9_in hq3) ⟨Nat.le_of_ble_eq_true rfl, Nat.le_of_ble_eq_true rfl⟩ rfl (Nat.le_of_ble_eq_true rfl) rfl ?_
        refine ab_istore_n (pc := 49) (i := 2) (lv2 := [some (ab_R v0), some (ab_I v1), some (ab_I q3.1), some (ab_I v3)]) dX9_lettersTold_49 rfl (Nat.le_of_ble_eq_true rfl) rfl rfl ?_
        refine ab_iinc (pc := 50) (i := 3) (lv2 := [some (ab_R v0), some (ab_I v1), some (ab_I q3.1), some (ab_I (ab_w32 (v3 + (1 : Int))))]) dX9_lettersTold_50 rfl (Nat.le_of_ble_eq_true rfl) rfl rfl ?_
        refine ab_goto (pc := 53) (tgt := 24) dX9_lettersTold_53 rfl ?_
        refine ab_sub_ (lv2 := [some (ab_R v0), some (ab_I v1), some (ab_I q3.1), some (ab_I (ab_w32 (v3 + (1 : Int))))]) (ab_ss (ab_ss (ab_ss (ab_ss ab_s0)))) ?_
        exact ih _ _ _ _ _ _ hk
noncomputable def f_X9_lettersTold_J21 (v0 : Int) (v1 : Int) (s0 : Int) (h : ab_H) : Option (Int × ab_H) :=
  f_X9_lettersTold_L24 (fun w56_1 w56_2 hx56 =>
    f_X9_lettersTold_J56 w56_1 w56_2 hx56) ab_FU v0 v1 s0 (0 : Int) h
set_option maxRecDepth 20000 in
theorem e_X9_lettersTold_J21 : ∀ (v0 : Int) (v1 : Int) (s0 : Int) (h : ab_H) (q : Int × ab_H), f_X9_lettersTold_J21 v0 v1 s0 h = some q → ab_E mm_X9_lettersTold cX9_lettersTold 21 [some (ab_R v0), some (ab_I v1), none, none] [ab_I s0] h (some (ab_I q.1)) q.2 := by
  intro v0 v1 s0 h q hk
  unfold f_X9_lettersTold_J21 at hk
  refine ab_istore_n (pc := 21) (i := 2) (lv2 := [some (ab_R v0), some (ab_I v1), some (ab_I s0), none]) dX9_lettersTold_21 rfl (Nat.le_of_ble_eq_true rfl) rfl rfl ?_
  refine ab_iconst (pc := 22) dX9_lettersTold_22 ab_k_0 ?_
  refine ab_istore_n (pc := 23) (i := 3) (lv2 := [some (ab_R v0), some (ab_I v1), some (ab_I s0), some (ab_I (0 : Int))]) dX9_lettersTold_23 rfl (Nat.le_of_ble_eq_true rfl) rfl rfl ?_
  refine ab_sub_ (lv2 := [some (ab_R v0), some (ab_I v1), some (ab_I s0), some (ab_I (0 : Int))]) (ab_ss (ab_ss (ab_ss (ab_ss ab_s0)))) ?_
  refine e_X9_lettersTold_L24 (fun w56_1 w56_2 hx56 q hk => ?_) _ _ _ _ _ _ _ hk
  · skip
    refine ab_sub_ (lv2 := [none, some (ab_I w56_1), some (ab_I w56_2), none]) (ab_sn (ab_ss (ab_ss (ab_sn ab_s0)))) ?_
    exact e_X9_lettersTold_J56 _ _ _ _ hk
noncomputable def f_X9_lettersTold (a0 : Int) (h : ab_H) : Option (Int × ab_H) :=
  (ab_get h 10 4 a0).bind fun t1 =>
  (ab_put h 10 4 a0 (0 : Int)).bind fun h1 =>
  if (7 : Int) < t1 then
    f_X9_lettersTold_J21 a0 t1 (0 : Int) h1
  else
  f_X9_lettersTold_J21 a0 t1 (1 : Int) h1
set_option maxRecDepth 20000 in
theorem ct_X9_lettersTold {a0 : Int} {h : ab_H} {q : Int × ab_H} (hk : f_X9_lettersTold a0 h = some q) : ab_CT yX9_lettersTold cX9_lettersTold 4 (some .int) 1 25 [ab_R a0] h (some (ab_I q.1)) q.2 := by
  refine ab_CT.mk_ 3 (own := RX9) (ini := false) (lv := [some (ab_R a0), none, none, none]) rfl (by decide +kernel) (fun q => by cases q) rfl rfl ?_
  unfold f_X9_lettersTold at hk
  show ab_E mm_X9_lettersTold cX9_lettersTold 0 _ [] h _ _
  refine ab_aload_n (pc := 0) (i := 0) dX9_lettersTold_0 rfl rfl ?_
  obtain ⟨t1, ht1, hk⟩ := ab_bnd hk
  refine ab_getI (pc := 1) dX9_lettersTold_1 fl_RX9_77 ht1 ?_
  refine ab_istore_n (pc := 4) (i := 1) (lv2 := [some (ab_R a0), some (ab_I t1), none, none]) dX9_lettersTold_4 rfl (Nat.le_of_ble_eq_true rfl) rfl rfl ?_
  refine ab_aload_n (pc := 5) (i := 0) dX9_lettersTold_5 rfl rfl ?_
  refine ab_iconst (pc := 6) dX9_lettersTold_6 ab_k_0 ?_
  obtain ⟨h1, hh1, hk⟩ := ab_bnd hk
  refine ab_putI_ (pc := 7) dX9_lettersTold_7 fl_RX9_77 (fun q => by cases q) hh1 ?_
  refine ab_iload_n (pc := 10) (i := 1) dX9_lettersTold_10 rfl rfl ?_
  refine ab_bipush (pc := 11) dX9_lettersTold_11 ab_p8_7 ab_k_7 ?_
  refine ab_icmp_gt (pc := 13) (tgt := 20) dX9_lettersTold_13 rfl (fun hc => ?_) (fun hc => ?_)
  · have hk := ab_ifp hk hc
    refine ab_iconst (pc := 20) dX9_lettersTold_20 ab_k_0 ?_
    refine ab_sub_ (lv2 := [some (ab_R a0), some (ab_I t1), none, none]) (ab_ss (ab_ss (ab_sn (ab_sn ab_s0)))) ?_
    exact e_X9_lettersTold_J21 _ _ _ _ _ hk
  · have hk := ab_ifn hk hc
    refine ab_iconst (pc := 16) dX9_lettersTold_16 ab_k_1 ?_
    refine ab_goto (pc := 17) (tgt := 21) dX9_lettersTold_17 rfl ?_
    refine ab_sub_ (lv2 := [some (ab_R a0), some (ab_I t1), none, none]) (ab_ss (ab_ss (ab_sn (ab_sn ab_s0)))) ?_
    exact e_X9_lettersTold_J21 _ _ _ _ _ hk
theorem dX9_find_0 : decode cX9_find 0 = .ok (.aload_n 0, 1) := by decide +kernel
theorem dX9_find_1 : decode cX9_find 1 = .ok (.invokevirtual 351, 3) := by decide +kernel
theorem dX9_find_4 : decode cX9_find 4 = .ok (.istore_n 1, 1) := by decide +kernel
theorem dX9_find_5 : decode cX9_find 5 = .ok (.iload_n 1, 1) := by decide +kernel
theorem dX9_find_6 : decode cX9_find 6 = .ok (.ifCond .gt 6, 3) := by decide +kernel
theorem dX9_find_9 : decode cX9_find 9 = .ok (.bipush (-2), 2) := by decide +kernel
theorem dX9_find_11 : decode cX9_find 11 = .ok (.ireturn, 1) := by decide +kernel
theorem dX9_find_12 : decode cX9_find 12 = .ok (.aload_n 0, 1) := by decide +kernel
theorem dX9_find_13 : decode cX9_find 13 = .ok (.invokevirtual 287, 3) := by decide +kernel
theorem dX9_find_16 : decode cX9_find 16 = .ok (.aload_n 0, 1) := by decide +kernel
theorem dX9_find_17 : decode cX9_find 17 = .ok (.aload_n 0, 1) := by decide +kernel
theorem dX9_find_18 : decode cX9_find 18 = .ok (.getfield 9, 3) := by decide +kernel
theorem dX9_find_21 : decode cX9_find 21 = .ok (.aload_n 0, 1) := by decide +kernel
theorem dX9_find_22 : decode cX9_find 22 = .ok (.iconst 0, 1) := by decide +kernel
theorem dX9_find_23 : decode cX9_find 23 = .ok (.iload_n 1, 1) := by decide +kernel
theorem dX9_find_24 : decode cX9_find 24 = .ok (.invokevirtual 189, 3) := by decide +kernel
theorem dX9_find_27 : decode cX9_find 27 = .ok (.invokestatic 204, 3) := by decide +kernel
theorem dX9_find_30 : decode cX9_find 30 = .ok (.invokevirtual 258, 3) := by decide +kernel
theorem dX9_find_33 : decode cX9_find 33 = .ok (.ireturn, 1) := by decide +kernel
abbrev mm_X9_find : ab_M := (RX9, 2, (some .int), false, 2, 51, none)
noncomputable def f_X9_find (a0 : Int) (h : ab_H) : Option (Int × ab_H) :=
  (ab_on h 10 a0 (f_X9_lettersTold a0 h)).bind fun q1 =>
  if (0 : Int) < q1.1 then
    (ab_on q1.2 10 a0 (f_X9_laysWords a0 q1.2)).bind fun q2 =>
    (ab_get q2 10 1 a0).bind fun t3 =>
    (ab_on q2 10 a0 (f_X9_packed a0 (0 : Int) q1.1 q2)).bind fun q4 =>
    (f_X9_usedOf t3 q4.1 q4.2).bind fun q5 =>
    (ab_on q5.2 10 a0 (f_X9_findWord a0 q5.1 q5.2)).bind fun q6 =>
    some (q6.1, q6.2)
  else
  some ((-2 : Int), q1.2)
set_option maxRecDepth 20000 in
theorem ct_X9_find {a0 : Int} {h : ab_H} {q : Int × ab_H} (hk : f_X9_find a0 h = some q) : ab_CT yX9_find cX9_find 2 (some .int) 2 51 [ab_R a0] h (some (ab_I q.1)) q.2 := by
  refine ab_CT.mk_ 1 (own := RX9) (ini := false) (lv := [some (ab_R a0), none]) rfl (by decide +kernel) (fun q => by cases q) rfl rfl ?_
  unfold f_X9_find at hk
  show ab_E mm_X9_find cX9_find 0 _ [] h _ _
  refine ab_aload_n (pc := 0) (i := 0) dX9_find_0 rfl rfl ?_
  obtain ⟨q1, hq1, hk⟩ := ab_bnd hk
  obtain ⟨hb, hq1⟩ := ab_on_some hq1
  refine ab_callVI (st := []) (as := []) (b := a0) (pc := 1) dX9_find_1 ml_RX9_351 my_X9_lettersTold mv_X9_lettersTold hb (ct_X9_lettersTold hq1) ⟨Nat.le_of_ble_eq_true rfl, Nat.le_of_ble_eq_true rfl⟩ rfl (Nat.le_of_ble_eq_true rfl) rfl ?_
  refine ab_istore_n (pc := 4) (i := 1) (lv2 := [some (ab_R a0), some (ab_I q1.1)]) dX9_find_4 rfl (Nat.le_of_ble_eq_true rfl) rfl rfl ?_
  refine ab_iload_n (pc := 5) (i := 1) dX9_find_5 rfl rfl ?_
  refine ab_if_gt (pc := 6) (tgt := 12) dX9_find_6 rfl (fun hc => ?_) (fun hc => ?_)
  · have hk := ab_ifp hk hc
    refine ab_aload_n (pc := 12) (i := 0) dX9_find_12 rfl rfl ?_
    obtain ⟨q2, hq2, hk⟩ := ab_bnd hk
    obtain ⟨hb, hq2⟩ := ab_on_some hq2
    refine ab_callVV (st := []) (as := []) (b := a0) (pc := 13) dX9_find_13 ml_RX9_287 my_X9_laysWords mv_X9_laysWords hb (ct_X9_laysWords hq2) ⟨Nat.le_of_ble_eq_true rfl, Nat.le_of_ble_eq_true rfl⟩ rfl (Nat.le_of_ble_eq_true rfl) rfl ?_
    refine ab_aload_n (pc := 16) (i := 0) dX9_find_16 rfl rfl ?_
    refine ab_aload_n (pc := 17) (i := 0) dX9_find_17 rfl rfl ?_
    obtain ⟨t3, ht3, hk⟩ := ab_bnd hk
    refine ab_getR (pc := 18) dX9_find_18 fl_RX9_9 ht3 ?_
    refine ab_aload_n (pc := 21) (i := 0) dX9_find_21 rfl rfl ?_
    refine ab_iconst (pc := 22) dX9_find_22 ab_k_0 ?_
    refine ab_iload_n (pc := 23) (i := 1) dX9_find_23 rfl rfl ?_
    obtain ⟨q4, hq4, hk⟩ := ab_bnd hk
    obtain ⟨hb, hq4⟩ := ab_on_some hq4
    refine ab_callVJ (st := [ab_R t3, ab_R a0]) (as := [ab_I (0 : Int), ab_I q1.1]) (b := a0) (pc := 24) dX9_find_24 ml_RX9_189 my_X9_packed mv_X9_packed hb (ct_X9_packed hq4) ⟨Nat.le_of_ble_eq_true rfl, Nat.le_of_ble_eq_true rfl⟩ rfl (Nat.le_of_ble_eq_true rfl) rfl ?_
    obtain ⟨q5, hq5, hk⟩ := ab_bnd hk
    refine ab_callSJ (st := [ab_R a0]) (as := [ab_R t3, ab_J q4.1]) (pc := 27) dX9_find_27 ml_RX9_204 my_X9_usedOf ms_X9_usedOf (ct_X9_usedOf hq5) ⟨Nat.le_of_ble_eq_true rfl, Nat.le_of_ble_eq_true rfl⟩ rfl (Nat.le_of_ble_eq_true rfl) rfl ?_
    obtain ⟨q6, hq6, hk⟩ := ab_bnd hk
    obtain ⟨hb, hq6⟩ := ab_on_some hq6
    refine ab_callVI (st := []) (as := [ab_J q5.1]) (b := a0) (pc := 30) dX9_find_30 ml_RX9_258 my_X9_findWord mv_X9_findWord hb (ct_X9_findWord hq6) ⟨Nat.le_of_ble_eq_true rfl, Nat.le_of_ble_eq_true rfl⟩ rfl (Nat.le_of_ble_eq_true rfl) rfl ?_
    obtain rfl := Option.some.inj hk
    exact ab_reti (pc := 33) dX9_find_33 (Or.inl rfl)
  · have hk := ab_ifn hk hc
    refine ab_bipush (pc := 9) dX9_find_9 ab_p8_m2 ab_k_m2 ?_
    obtain rfl := Option.some.inj hk
    exact ab_reti (pc := 11) dX9_find_11 (Or.inl rfl)
theorem dX9_at_0 : decode cX9_at 0 = .ok (.iload_n 1, 1) := by decide +kernel
theorem dX9_at_1 : decode cX9_at 1 = .ok (.i2l, 1) := by decide +kernel
theorem dX9_at_2 : decode cX9_at 2 = .ok (.lconst 0, 1) := by decide +kernel
theorem dX9_at_3 : decode cX9_at 3 = .ok (.ldc2_w 214, 3) := by decide +kernel
theorem dX9_at_6 : decode cX9_at 6 = .ok (.invokestatic 84, 3) := by decide +kernel
theorem dX9_at_9 : decode cX9_at 9 = .ok (.ifCond .ne 6, 3) := by decide +kernel
theorem dX9_at_12 : decode cX9_at 12 = .ok (.bipush (-2), 2) := by decide +kernel
theorem dX9_at_14 : decode cX9_at 14 = .ok (.ireturn, 1) := by decide +kernel
theorem dX9_at_15 : decode cX9_at 15 = .ok (.iconst 0, 1) := by decide +kernel
theorem dX9_at_16 : decode cX9_at 16 = .ok (.istore_n 2, 1) := by decide +kernel
theorem dX9_at_17 : decode cX9_at 17 = .ok (.iload_n 2, 1) := by decide +kernel
theorem dX9_at_18 : decode cX9_at 18 = .ok (.aload_n 0, 1) := by decide +kernel
theorem dX9_at_19 : decode cX9_at 19 = .ok (.invokevirtual 246, 3) := by decide +kernel
theorem dX9_at_22 : decode cX9_at 22 = .ok (.if_icmp .ge 20, 3) := by decide +kernel
theorem dX9_at_25 : decode cX9_at 25 = .ok (.aload_n 0, 1) := by decide +kernel
theorem dX9_at_26 : decode cX9_at 26 = .ok (.iload_n 2, 1) := by decide +kernel
theorem dX9_at_27 : decode cX9_at 27 = .ok (.invokevirtual 284, 3) := by decide +kernel
theorem dX9_at_30 : decode cX9_at 30 = .ok (.iload_n 1, 1) := by decide +kernel
theorem dX9_at_31 : decode cX9_at 31 = .ok (.if_icmp .ne 5, 3) := by decide +kernel
theorem dX9_at_34 : decode cX9_at 34 = .ok (.iload_n 2, 1) := by decide +kernel
theorem dX9_at_35 : decode cX9_at 35 = .ok (.ireturn, 1) := by decide +kernel
theorem dX9_at_36 : decode cX9_at 36 = .ok (.iinc 2 1, 3) := by decide +kernel
theorem dX9_at_39 : decode cX9_at 39 = .ok (.goto (-22), 3) := by decide +kernel
theorem dX9_at_42 : decode cX9_at 42 = .ok (.iconst (-1), 1) := by decide +kernel
theorem dX9_at_43 : decode cX9_at 43 = .ok (.ireturn, 1) := by decide +kernel
abbrev mm_X9_at : ab_M := (RX9, 3, (some .int), false, 1, 25, none)
noncomputable def f_X9_at_L17 : Nat → Int → Int → Int → ab_H → Option (Int × ab_H)
  | 0, _, _, _, _ => none
  | n + 1, v0, v1, v2, h =>
    (ab_on h 10 v0 (f_X9_strings v0 h)).bind fun q1 =>
    if q1.1 ≤ v2 then
      some ((-1 : Int), q1.2)
    else
    (ab_on q1.2 10 v0 (f_X9_addressOf v0 v2 q1.2)).bind fun q2 =>
    if q2.1 = v1 then
      some (v2, q2.2)
    else
    f_X9_at_L17 n v0 v1 (ab_w32 (v2 + (1 : Int))) q2.2
set_option maxRecDepth 20000 in
theorem e_X9_at_L17 : ∀ (n : Nat) (v0 : Int) (v1 : Int) (v2 : Int) (h : ab_H) (q : Int × ab_H), f_X9_at_L17 n v0 v1 v2 h = some q → ab_E mm_X9_at cX9_at 17 [some (ab_R v0), some (ab_I v1), some (ab_I v2)] [] h (some (ab_I q.1)) q.2 := by
  intro n
  induction n with
  | zero => intro v0 v1 v2 h q hk; cases hk
  | succ n ih =>
    intro v0 v1 v2 h q hk
    unfold f_X9_at_L17 at hk
    refine ab_iload_n (pc := 17) (i := 2) dX9_at_17 rfl rfl ?_
    refine ab_aload_n (pc := 18) (i := 0) dX9_at_18 rfl rfl ?_
    obtain ⟨q1, hq1, hk⟩ := ab_bnd hk
    obtain ⟨hb, hq1⟩ := ab_on_some hq1
    refine ab_callVI (st := [ab_I v2]) (as := []) (b := v0) (pc := 19) dX9_at_19 ml_RX9_246 my_X9_strings mv_X9_strings hb (ct_X9_strings hq1) ⟨Nat.le_of_ble_eq_true rfl, Nat.le_of_ble_eq_true rfl⟩ rfl (Nat.le_of_ble_eq_true rfl) rfl ?_
    refine ab_icmp_ge (pc := 22) (tgt := 42) dX9_at_22 rfl (fun hc => ?_) (fun hc => ?_)
    · have hk := ab_ifp hk hc
      refine ab_iconst (pc := 42) dX9_at_42 ab_k_m1 ?_
      obtain rfl := Option.some.inj hk
      exact ab_reti (pc := 43) dX9_at_43 (Or.inl rfl)
    · have hk := ab_ifn hk hc
      refine ab_aload_n (pc := 25) (i := 0) dX9_at_25 rfl rfl ?_
      refine ab_iload_n (pc := 26) (i := 2) dX9_at_26 rfl rfl ?_
      obtain ⟨q2, hq2, hk⟩ := ab_bnd hk
      obtain ⟨hb, hq2⟩ := ab_on_some hq2
      refine ab_callVI (st := []) (as := [ab_I v2]) (b := v0) (pc := 27) dX9_at_27 ml_RX9_284 my_X9_addressOf mv_X9_addressOf hb (ct_X9_addressOf hq2) ⟨Nat.le_of_ble_eq_true rfl, Nat.le_of_ble_eq_true rfl⟩ rfl (Nat.le_of_ble_eq_true rfl) rfl ?_
      refine ab_iload_n (pc := 30) (i := 1) dX9_at_30 rfl rfl ?_
      refine ab_icmp_ne (pc := 31) (tgt := 36) dX9_at_31 rfl (fun hc => ?_) (fun hc => ?_)
      · have hk := ab_ifn hk hc
        refine ab_iinc (pc := 36) (i := 2) (lv2 := [some (ab_R v0), some (ab_I v1), some (ab_I (ab_w32 (v2 + (1 : Int))))]) dX9_at_36 rfl (Nat.le_of_ble_eq_true rfl) rfl rfl ?_
        refine ab_goto (pc := 39) (tgt := 17) dX9_at_39 rfl ?_
        refine ab_sub_ (lv2 := [some (ab_R v0), some (ab_I v1), some (ab_I (ab_w32 (v2 + (1 : Int))))]) (ab_ss (ab_ss (ab_ss ab_s0))) ?_
        exact ih _ _ _ _ _ hk
      · have hk := ab_ifp hk hc
        refine ab_iload_n (pc := 34) (i := 2) dX9_at_34 rfl rfl ?_
        obtain rfl := Option.some.inj hk
        exact ab_reti (pc := 35) dX9_at_35 (Or.inl rfl)
noncomputable def f_X9_at (a0 : Int) (a1 : Int) (h : ab_H) : Option (Int × ab_H) :=
  (f_X9_in a1 (0 : Int) (999 : Int) h).bind fun q1 =>
  if q1.1 = (0 : Int) then
    some ((-2 : Int), q1.2)
  else
  f_X9_at_L17 ab_FU a0 a1 (0 : Int) q1.2
set_option maxRecDepth 20000 in
theorem ct_X9_at {a0 a1 : Int} {h : ab_H} {q : Int × ab_H} (hk : f_X9_at a0 a1 h = some q) : ab_CT yX9_at cX9_at 3 (some .int) 1 25 [ab_R a0, ab_I a1] h (some (ab_I q.1)) q.2 := by
  refine ab_CT.mk_ 1 (own := RX9) (ini := false) (lv := [some (ab_R a0), some (ab_I a1), none]) rfl (by decide +kernel) (fun q => by cases q) rfl rfl ?_
  unfold f_X9_at at hk
  show ab_E mm_X9_at cX9_at 0 _ [] h _ _
  refine ab_iload_n (pc := 0) (i := 1) dX9_at_0 rfl rfl ?_
  refine ab_i2l_ (pc := 1) dX9_at_1 ?_
  refine ab_lconst (x := (0 : Int)) (pc := 2) dX9_at_2 rfl ab_kl_0 ?_
  refine ab_ldc2 (x := (999 : Int)) (pc := 3) dX9_at_3 ab_ld2_RX9_214 ab_kl_999 ?_
  obtain ⟨q1, hq1, hk⟩ := ab_bnd hk
  refine ab_callSI (st := []) (as := [ab_J a1, ab_J (0 : Int), ab_J (999 : Int)]) (pc := 6) dX9_at_6 ml_RX9_84 my_X9_in ms_X9_in (ct_X9_in hq1) ⟨Nat.le_of_ble_eq_true rfl, Nat.le_of_ble_eq_true rfl⟩ rfl (Nat.le_of_ble_eq_true rfl) rfl ?_
  refine ab_if_ne (pc := 9) (tgt := 15) dX9_at_9 rfl (fun hc => ?_) (fun hc => ?_)
  · have hk := ab_ifn hk hc
    refine ab_iconst (pc := 15) dX9_at_15 ab_k_0 ?_
    refine ab_istore_n (pc := 16) (i := 2) (lv2 := [some (ab_R a0), some (ab_I a1), some (ab_I (0 : Int))]) dX9_at_16 rfl (Nat.le_of_ble_eq_true rfl) rfl rfl ?_
    refine ab_sub_ (lv2 := [some (ab_R a0), some (ab_I a1), some (ab_I (0 : Int))]) (ab_ss (ab_ss (ab_ss ab_s0))) ?_
    refine e_X9_at_L17 _ _ _ _ _ _ hk
  · have hk := ab_ifp hk hc
    refine ab_bipush (pc := 12) dX9_at_12 ab_p8_m2 ab_k_m2 ?_
    obtain rfl := Option.some.inj hk
    exact ab_reti (pc := 14) dX9_at_14 (Or.inl rfl)
theorem dX9_entry_0 : decode cX9_entry 0 = .ok (.iload_n 1, 1) := by decide +kernel
theorem dX9_entry_1 : decode cX9_entry 1 = .ok (.ifCond .lt 15, 3) := by decide +kernel
theorem dX9_entry_4 : decode cX9_entry 4 = .ok (.iload_n 2, 1) := by decide +kernel
theorem dX9_entry_5 : decode cX9_entry 5 = .ok (.i2l, 1) := by decide +kernel
theorem dX9_entry_6 : decode cX9_entry 6 = .ok (.lconst 0, 1) := by decide +kernel
theorem dX9_entry_7 : decode cX9_entry 7 = .ok (.ldc2_w 349, 3) := by decide +kernel
theorem dX9_entry_10 : decode cX9_entry 10 = .ok (.invokestatic 84, 3) := by decide +kernel
theorem dX9_entry_13 : decode cX9_entry 13 = .ok (.ifCond .ne 6, 3) := by decide +kernel
theorem dX9_entry_16 : decode cX9_entry 16 = .ok (.bipush (-2), 2) := by decide +kernel
theorem dX9_entry_18 : decode cX9_entry 18 = .ok (.ireturn, 1) := by decide +kernel
theorem dX9_entry_19 : decode cX9_entry 19 = .ok (.aload_n 0, 1) := by decide +kernel
theorem dX9_entry_20 : decode cX9_entry 20 = .ok (.invokevirtual 314, 3) := by decide +kernel
theorem dX9_entry_23 : decode cX9_entry 23 = .ok (.iload_n 1, 1) := by decide +kernel
theorem dX9_entry_24 : decode cX9_entry 24 = .ok (.aload_n 0, 1) := by decide +kernel
theorem dX9_entry_25 : decode cX9_entry 25 = .ok (.getfield 267, 3) := by decide +kernel
theorem dX9_entry_28 : decode cX9_entry 28 = .ok (.if_icmp .lt 5, 3) := by decide +kernel
theorem dX9_entry_31 : decode cX9_entry 31 = .ok (.iconst (-1), 1) := by decide +kernel
theorem dX9_entry_32 : decode cX9_entry 32 = .ok (.ireturn, 1) := by decide +kernel
theorem dX9_entry_33 : decode cX9_entry 33 = .ok (.aload_n 0, 1) := by decide +kernel
theorem dX9_entry_34 : decode cX9_entry 34 = .ok (.getfield 49, 3) := by decide +kernel
theorem dX9_entry_37 : decode cX9_entry 37 = .ok (.iload_n 1, 1) := by decide +kernel
theorem dX9_entry_38 : decode cX9_entry 38 = .ok (.iaload, 1) := by decide +kernel
theorem dX9_entry_39 : decode cX9_entry 39 = .ok (.istore_n 3, 1) := by decide +kernel
theorem dX9_entry_40 : decode cX9_entry 40 = .ok (.iload_n 2, 1) := by decide +kernel
theorem dX9_entry_41 : decode cX9_entry 41 = .ok (.tableswitch 79 0 4 #[35, 42, 49, 56, 66], 35) := by decide +kernel
theorem dX9_entry_76 : decode cX9_entry 76 = .ok (.aload_n 0, 1) := by decide +kernel
theorem dX9_entry_77 : decode cX9_entry 77 = .ok (.getfield 31, 3) := by decide +kernel
theorem dX9_entry_80 : decode cX9_entry 80 = .ok (.iload_n 3, 1) := by decide +kernel
theorem dX9_entry_81 : decode cX9_entry 81 = .ok (.iaload, 1) := by decide +kernel
theorem dX9_entry_82 : decode cX9_entry 82 = .ok (.ireturn, 1) := by decide +kernel
theorem dX9_entry_83 : decode cX9_entry 83 = .ok (.aload_n 0, 1) := by decide +kernel
theorem dX9_entry_84 : decode cX9_entry 84 = .ok (.getfield 34, 3) := by decide +kernel
theorem dX9_entry_87 : decode cX9_entry 87 = .ok (.iload_n 3, 1) := by decide +kernel
theorem dX9_entry_88 : decode cX9_entry 88 = .ok (.iaload, 1) := by decide +kernel
theorem dX9_entry_89 : decode cX9_entry 89 = .ok (.ireturn, 1) := by decide +kernel
theorem dX9_entry_90 : decode cX9_entry 90 = .ok (.aload_n 0, 1) := by decide +kernel
theorem dX9_entry_91 : decode cX9_entry 91 = .ok (.getfield 40, 3) := by decide +kernel
theorem dX9_entry_94 : decode cX9_entry 94 = .ok (.iload_n 1, 1) := by decide +kernel
theorem dX9_entry_95 : decode cX9_entry 95 = .ok (.iaload, 1) := by decide +kernel
theorem dX9_entry_96 : decode cX9_entry 96 = .ok (.ireturn, 1) := by decide +kernel
theorem dX9_entry_97 : decode cX9_entry 97 = .ok (.aload_n 0, 1) := by decide +kernel
theorem dX9_entry_98 : decode cX9_entry 98 = .ok (.getfield 46, 3) := by decide +kernel
theorem dX9_entry_101 : decode cX9_entry 101 = .ok (.bipush 12, 2) := by decide +kernel
theorem dX9_entry_103 : decode cX9_entry 103 = .ok (.iload_n 3, 1) := by decide +kernel
theorem dX9_entry_104 : decode cX9_entry 104 = .ok (.imul, 1) := by decide +kernel
theorem dX9_entry_105 : decode cX9_entry 105 = .ok (.iaload, 1) := by decide +kernel
theorem dX9_entry_106 : decode cX9_entry 106 = .ok (.ireturn, 1) := by decide +kernel
theorem dX9_entry_107 : decode cX9_entry 107 = .ok (.aload_n 0, 1) := by decide +kernel
theorem dX9_entry_108 : decode cX9_entry 108 = .ok (.getfield 46, 3) := by decide +kernel
theorem dX9_entry_111 : decode cX9_entry 111 = .ok (.bipush 12, 2) := by decide +kernel
theorem dX9_entry_113 : decode cX9_entry 113 = .ok (.iload_n 3, 1) := by decide +kernel
theorem dX9_entry_114 : decode cX9_entry 114 = .ok (.imul, 1) := by decide +kernel
theorem dX9_entry_115 : decode cX9_entry 115 = .ok (.bipush 6, 2) := by decide +kernel
theorem dX9_entry_117 : decode cX9_entry 117 = .ok (.iadd, 1) := by decide +kernel
theorem dX9_entry_118 : decode cX9_entry 118 = .ok (.iaload, 1) := by decide +kernel
theorem dX9_entry_119 : decode cX9_entry 119 = .ok (.ireturn, 1) := by decide +kernel
theorem dX9_entry_120 : decode cX9_entry 120 = .ok (.aload_n 0, 1) := by decide +kernel
theorem dX9_entry_121 : decode cX9_entry 121 = .ok (.getfield 37, 3) := by decide +kernel
theorem dX9_entry_124 : decode cX9_entry 124 = .ok (.iload_n 3, 1) := by decide +kernel
theorem dX9_entry_125 : decode cX9_entry 125 = .ok (.iaload, 1) := by decide +kernel
theorem dX9_entry_126 : decode cX9_entry 126 = .ok (.ireturn, 1) := by decide +kernel
abbrev mm_X9_entry : ab_M := (RX9, 4, (some .int), false, 6, 133, none)
noncomputable def f_X9_entry (a0 : Int) (a1 : Int) (a2 : Int) (h : ab_H) : Option (Int × ab_H) :=
  if a1 < (0 : Int) then
    some ((-2 : Int), h)
  else
  (f_X9_in a2 (0 : Int) (5 : Int) h).bind fun q1 =>
  if q1.1 = (0 : Int) then
    some ((-2 : Int), q1.2)
  else
  (ab_on q1.2 10 a0 (f_X9_lays a0 q1.2)).bind fun q2 =>
  (ab_get q2 10 16 a0).bind fun t3 =>
  if a1 < t3 then
    (ab_get q2 10 26 a0).bind fun t4 =>
    (ab_ald q2 11 t4 a1).bind fun t5 =>
    if a2 = (0 : Int) then
      (ab_get q2 10 19 a0).bind fun t6 =>
      (ab_ald q2 11 t6 t5).bind fun t7 =>
      some (t7, q2)
    else
    if a2 = (1 : Int) then
      (ab_get q2 10 20 a0).bind fun t8 =>
      (ab_ald q2 11 t8 t5).bind fun t9 =>
      some (t9, q2)
    else
    if a2 = (2 : Int) then
      (ab_get q2 10 22 a0).bind fun t10 =>
      (ab_ald q2 11 t10 a1).bind fun t11 =>
      some (t11, q2)
    else
    if a2 = (3 : Int) then
      (ab_get q2 10 24 a0).bind fun t12 =>
      (ab_ald q2 11 t12 (ab_w32 ((12 : Int) * t5))).bind fun t13 =>
      some (t13, q2)
    else
    if a2 = (4 : Int) then
      (ab_get q2 10 24 a0).bind fun t14 =>
      (ab_ald q2 11 t14 (ab_w32 ((ab_w32 ((12 : Int) * t5)) + (6 : Int)))).bind fun t15 =>
      some (t15, q2)
    else
    (ab_get q2 10 21 a0).bind fun t16 =>
    (ab_ald q2 11 t16 t5).bind fun t17 =>
    some (t17, q2)
  else
  some ((-1 : Int), q2)
set_option maxRecDepth 20000 in
theorem ct_X9_entry {a0 a1 a2 : Int} {h : ab_H} {q : Int × ab_H} (hk : f_X9_entry a0 a1 a2 h = some q) : ab_CT yX9_entry cX9_entry 4 (some .int) 6 133 [ab_R a0, ab_I a1, ab_I a2] h (some (ab_I q.1)) q.2 := by
  refine ab_CT.mk_ 1 (own := RX9) (ini := false) (lv := [some (ab_R a0), some (ab_I a1), some (ab_I a2), none]) rfl (by decide +kernel) (fun q => by cases q) rfl rfl ?_
  unfold f_X9_entry at hk
  show ab_E mm_X9_entry cX9_entry 0 _ [] h _ _
  refine ab_iload_n (pc := 0) (i := 1) dX9_entry_0 rfl rfl ?_
  refine ab_if_lt (pc := 1) (tgt := 16) dX9_entry_1 rfl (fun hc => ?_) (fun hc => ?_)
  · have hk := ab_ifp hk hc
    refine ab_bipush (pc := 16) dX9_entry_16 ab_p8_m2 ab_k_m2 ?_
    obtain rfl := Option.some.inj hk
    exact ab_reti (pc := 18) dX9_entry_18 (Or.inl rfl)
  · have hk := ab_ifn hk hc
    refine ab_iload_n (pc := 4) (i := 2) dX9_entry_4 rfl rfl ?_
    refine ab_i2l_ (pc := 5) dX9_entry_5 ?_
    refine ab_lconst (x := (0 : Int)) (pc := 6) dX9_entry_6 rfl ab_kl_0 ?_
    refine ab_ldc2 (x := (5 : Int)) (pc := 7) dX9_entry_7 ab_ld2_RX9_349 ab_kl_5 ?_
    obtain ⟨q1, hq1, hk⟩ := ab_bnd hk
    refine ab_callSI (st := []) (as := [ab_J a2, ab_J (0 : Int), ab_J (5 : Int)]) (pc := 10) dX9_entry_10 ml_RX9_84 my_X9_in ms_X9_in (ct_X9_in hq1) ⟨Nat.le_of_ble_eq_true rfl, Nat.le_of_ble_eq_true rfl⟩ rfl (Nat.le_of_ble_eq_true rfl) rfl ?_
    refine ab_if_ne (pc := 13) (tgt := 19) dX9_entry_13 rfl (fun hc => ?_) (fun hc => ?_)
    · have hk := ab_ifn hk hc
      refine ab_aload_n (pc := 19) (i := 0) dX9_entry_19 rfl rfl ?_
      obtain ⟨q2, hq2, hk⟩ := ab_bnd hk
      obtain ⟨hb, hq2⟩ := ab_on_some hq2
      refine ab_callVV (st := []) (as := []) (b := a0) (pc := 20) dX9_entry_20 ml_RX9_314 my_X9_lays mv_X9_lays hb (ct_X9_lays hq2) ⟨Nat.le_of_ble_eq_true rfl, Nat.le_of_ble_eq_true rfl⟩ rfl (Nat.le_of_ble_eq_true rfl) rfl ?_
      refine ab_iload_n (pc := 23) (i := 1) dX9_entry_23 rfl rfl ?_
      refine ab_aload_n (pc := 24) (i := 0) dX9_entry_24 rfl rfl ?_
      obtain ⟨t3, ht3, hk⟩ := ab_bnd hk
      refine ab_getI (pc := 25) dX9_entry_25 fl_RX9_267 ht3 ?_
      refine ab_icmp_lt (pc := 28) (tgt := 33) dX9_entry_28 rfl (fun hc => ?_) (fun hc => ?_)
      · have hk := ab_ifp hk hc
        refine ab_aload_n (pc := 33) (i := 0) dX9_entry_33 rfl rfl ?_
        obtain ⟨t4, ht4, hk⟩ := ab_bnd hk
        refine ab_getR (pc := 34) dX9_entry_34 fl_RX9_49 ht4 ?_
        refine ab_iload_n (pc := 37) (i := 1) dX9_entry_37 rfl rfl ?_
        obtain ⟨t5, ht5, hk⟩ := ab_bnd hk
        refine ab_iald (pc := 38) dX9_entry_38 ht5 ?_
        refine ab_istore_n (pc := 39) (i := 3) (lv2 := [some (ab_R a0), some (ab_I a1), some (ab_I a2), some (ab_I t5)]) dX9_entry_39 rfl (Nat.le_of_ble_eq_true rfl) rfl rfl ?_
        refine ab_iload_n (pc := 40) (i := 2) dX9_entry_40 rfl rfl ?_
        by_cases hc : a2 = (0 : Int)
        · have hk := ab_ifp hk hc
          refine ab_tswIn (pc := 41) (v := (0 : Int)) (off := 35) (tgt := 76) dX9_entry_41 hc ⟨by decide, by decide⟩ rfl rfl ?_
          refine ab_aload_n (pc := 76) (i := 0) dX9_entry_76 rfl rfl ?_
          obtain ⟨t6, ht6, hk⟩ := ab_bnd hk
          refine ab_getR (pc := 77) dX9_entry_77 fl_RX9_31 ht6 ?_
          refine ab_iload_n (pc := 80) (i := 3) dX9_entry_80 rfl rfl ?_
          obtain ⟨t7, ht7, hk⟩ := ab_bnd hk
          refine ab_iald (pc := 81) dX9_entry_81 ht7 ?_
          obtain rfl := Option.some.inj hk
          exact ab_reti (pc := 82) dX9_entry_82 (Or.inl rfl)
        have hk := ab_ifn hk hc
        have hz0 := hc
        clear hc
        by_cases hc : a2 = (1 : Int)
        · have hk := ab_ifp hk hc
          refine ab_tswIn (pc := 41) (v := (1 : Int)) (off := 42) (tgt := 83) dX9_entry_41 hc ⟨by decide, by decide⟩ rfl rfl ?_
          refine ab_aload_n (pc := 83) (i := 0) dX9_entry_83 rfl rfl ?_
          obtain ⟨t8, ht8, hk⟩ := ab_bnd hk
          refine ab_getR (pc := 84) dX9_entry_84 fl_RX9_34 ht8 ?_
          refine ab_iload_n (pc := 87) (i := 3) dX9_entry_87 rfl rfl ?_
          obtain ⟨t9, ht9, hk⟩ := ab_bnd hk
          refine ab_iald (pc := 88) dX9_entry_88 ht9 ?_
          obtain rfl := Option.some.inj hk
          exact ab_reti (pc := 89) dX9_entry_89 (Or.inl rfl)
        have hk := ab_ifn hk hc
        have hz1 := hc
        clear hc
        by_cases hc : a2 = (2 : Int)
        · have hk := ab_ifp hk hc
          refine ab_tswIn (pc := 41) (v := (2 : Int)) (off := 49) (tgt := 90) dX9_entry_41 hc ⟨by decide, by decide⟩ rfl rfl ?_
          refine ab_aload_n (pc := 90) (i := 0) dX9_entry_90 rfl rfl ?_
          obtain ⟨t10, ht10, hk⟩ := ab_bnd hk
          refine ab_getR (pc := 91) dX9_entry_91 fl_RX9_40 ht10 ?_
          refine ab_iload_n (pc := 94) (i := 1) dX9_entry_94 rfl rfl ?_
          obtain ⟨t11, ht11, hk⟩ := ab_bnd hk
          refine ab_iald (pc := 95) dX9_entry_95 ht11 ?_
          obtain rfl := Option.some.inj hk
          exact ab_reti (pc := 96) dX9_entry_96 (Or.inl rfl)
        have hk := ab_ifn hk hc
        have hz2 := hc
        clear hc
        by_cases hc : a2 = (3 : Int)
        · have hk := ab_ifp hk hc
          refine ab_tswIn (pc := 41) (v := (3 : Int)) (off := 56) (tgt := 97) dX9_entry_41 hc ⟨by decide, by decide⟩ rfl rfl ?_
          refine ab_aload_n (pc := 97) (i := 0) dX9_entry_97 rfl rfl ?_
          obtain ⟨t12, ht12, hk⟩ := ab_bnd hk
          refine ab_getR (pc := 98) dX9_entry_98 fl_RX9_46 ht12 ?_
          refine ab_bipush (pc := 101) dX9_entry_101 ab_p8_12 ab_k_12 ?_
          refine ab_iload_n (pc := 103) (i := 3) dX9_entry_103 rfl rfl ?_
          refine ab_imul (pc := 104) dX9_entry_104 ?_
          obtain ⟨t13, ht13, hk⟩ := ab_bnd hk
          refine ab_iald (pc := 105) dX9_entry_105 ht13 ?_
          obtain rfl := Option.some.inj hk
          exact ab_reti (pc := 106) dX9_entry_106 (Or.inl rfl)
        have hk := ab_ifn hk hc
        have hz3 := hc
        clear hc
        by_cases hc : a2 = (4 : Int)
        · have hk := ab_ifp hk hc
          refine ab_tswIn (pc := 41) (v := (4 : Int)) (off := 66) (tgt := 107) dX9_entry_41 hc ⟨by decide, by decide⟩ rfl rfl ?_
          refine ab_aload_n (pc := 107) (i := 0) dX9_entry_107 rfl rfl ?_
          obtain ⟨t14, ht14, hk⟩ := ab_bnd hk
          refine ab_getR (pc := 108) dX9_entry_108 fl_RX9_46 ht14 ?_
          refine ab_bipush (pc := 111) dX9_entry_111 ab_p8_12 ab_k_12 ?_
          refine ab_iload_n (pc := 113) (i := 3) dX9_entry_113 rfl rfl ?_
          refine ab_imul (pc := 114) dX9_entry_114 ?_
          refine ab_bipush (pc := 115) dX9_entry_115 ab_p8_6 ab_k_6 ?_
          refine ab_iadd (pc := 117) dX9_entry_117 ?_
          obtain ⟨t15, ht15, hk⟩ := ab_bnd hk
          refine ab_iald (pc := 118) dX9_entry_118 ht15 ?_
          obtain rfl := Option.some.inj hk
          exact ab_reti (pc := 119) dX9_entry_119 (Or.inl rfl)
        have hk := ab_ifn hk hc
        have hz4 := hc
        clear hc
        refine ab_tswOut (pc := 41) (tgt := 120) dX9_entry_41 (by omega) rfl ?_
        refine ab_aload_n (pc := 120) (i := 0) dX9_entry_120 rfl rfl ?_
        obtain ⟨t16, ht16, hk⟩ := ab_bnd hk
        refine ab_getR (pc := 121) dX9_entry_121 fl_RX9_37 ht16 ?_
        refine ab_iload_n (pc := 124) (i := 3) dX9_entry_124 rfl rfl ?_
        obtain ⟨t17, ht17, hk⟩ := ab_bnd hk
        refine ab_iald (pc := 125) dX9_entry_125 ht17 ?_
        obtain rfl := Option.some.inj hk
        exact ab_reti (pc := 126) dX9_entry_126 (Or.inl rfl)
      · have hk := ab_ifn hk hc
        refine ab_iconst (pc := 31) dX9_entry_31 ab_k_m1 ?_
        obtain rfl := Option.some.inj hk
        exact ab_reti (pc := 32) dX9_entry_32 (Or.inl rfl)
    · have hk := ab_ifp hk hc
      refine ab_bipush (pc := 16) dX9_entry_16 ab_p8_m2 ab_k_m2 ?_
      obtain rfl := Option.some.inj hk
      exact ab_reti (pc := 18) dX9_entry_18 (Or.inl rfl)
theorem dX9_row_0 : decode cX9_row 0 = .ok (.iload_n 1, 1) := by decide +kernel
theorem dX9_row_1 : decode cX9_row 1 = .ok (.ifCond .lt 17, 3) := by decide +kernel
theorem dX9_row_4 : decode cX9_row 4 = .ok (.iload_n 3, 1) := by decide +kernel
theorem dX9_row_5 : decode cX9_row 5 = .ok (.ifCond .lt 13, 3) := by decide +kernel
theorem dX9_row_8 : decode cX9_row 8 = .ok (.iload_n 2, 1) := by decide +kernel
theorem dX9_row_9 : decode cX9_row 9 = .ok (.i2l, 1) := by decide +kernel
theorem dX9_row_10 : decode cX9_row 10 = .ok (.lconst 0, 1) := by decide +kernel
theorem dX9_row_11 : decode cX9_row 11 = .ok (.lconst 1, 1) := by decide +kernel
theorem dX9_row_12 : decode cX9_row 12 = .ok (.invokestatic 84, 3) := by decide +kernel
theorem dX9_row_15 : decode cX9_row 15 = .ok (.ifCond .ne 6, 3) := by decide +kernel
theorem dX9_row_18 : decode cX9_row 18 = .ok (.bipush (-2), 2) := by decide +kernel
theorem dX9_row_20 : decode cX9_row 20 = .ok (.ireturn, 1) := by decide +kernel
theorem dX9_row_21 : decode cX9_row 21 = .ok (.aload_n 0, 1) := by decide +kernel
theorem dX9_row_22 : decode cX9_row 22 = .ok (.invokevirtual 314, 3) := by decide +kernel
theorem dX9_row_25 : decode cX9_row 25 = .ok (.iload_n 1, 1) := by decide +kernel
theorem dX9_row_26 : decode cX9_row 26 = .ok (.aload_n 0, 1) := by decide +kernel
theorem dX9_row_27 : decode cX9_row 27 = .ok (.getfield 267, 3) := by decide +kernel
theorem dX9_row_30 : decode cX9_row 30 = .ok (.if_icmp .lt 5, 3) := by decide +kernel
theorem dX9_row_33 : decode cX9_row 33 = .ok (.iconst (-1), 1) := by decide +kernel
theorem dX9_row_34 : decode cX9_row 34 = .ok (.ireturn, 1) := by decide +kernel
theorem dX9_row_35 : decode cX9_row 35 = .ok (.bipush 12, 2) := by decide +kernel
theorem dX9_row_37 : decode cX9_row 37 = .ok (.aload_n 0, 1) := by decide +kernel
theorem dX9_row_38 : decode cX9_row 38 = .ok (.getfield 49, 3) := by decide +kernel
theorem dX9_row_41 : decode cX9_row 41 = .ok (.iload_n 1, 1) := by decide +kernel
theorem dX9_row_42 : decode cX9_row 42 = .ok (.iaload, 1) := by decide +kernel
theorem dX9_row_43 : decode cX9_row 43 = .ok (.imul, 1) := by decide +kernel
theorem dX9_row_44 : decode cX9_row 44 = .ok (.bipush 6, 2) := by decide +kernel
theorem dX9_row_46 : decode cX9_row 46 = .ok (.iload_n 2, 1) := by decide +kernel
theorem dX9_row_47 : decode cX9_row 47 = .ok (.imul, 1) := by decide +kernel
theorem dX9_row_48 : decode cX9_row 48 = .ok (.iadd, 1) := by decide +kernel
theorem dX9_row_49 : decode cX9_row 49 = .ok (.istore 4, 2) := by decide +kernel
theorem dX9_row_51 : decode cX9_row 51 = .ok (.iload_n 3, 1) := by decide +kernel
theorem dX9_row_52 : decode cX9_row 52 = .ok (.aload_n 0, 1) := by decide +kernel
theorem dX9_row_53 : decode cX9_row 53 = .ok (.getfield 46, 3) := by decide +kernel
theorem dX9_row_56 : decode cX9_row 56 = .ok (.iload 4, 2) := by decide +kernel
theorem dX9_row_58 : decode cX9_row 58 = .ok (.iaload, 1) := by decide +kernel
theorem dX9_row_59 : decode cX9_row 59 = .ok (.if_icmp .ge 22, 3) := by decide +kernel
theorem dX9_row_62 : decode cX9_row 62 = .ok (.aload_n 0, 1) := by decide +kernel
theorem dX9_row_63 : decode cX9_row 63 = .ok (.getfield 27, 3) := by decide +kernel
theorem dX9_row_66 : decode cX9_row 66 = .ok (.aload_n 0, 1) := by decide +kernel
theorem dX9_row_67 : decode cX9_row 67 = .ok (.getfield 46, 3) := by decide +kernel
theorem dX9_row_70 : decode cX9_row 70 = .ok (.iload 4, 2) := by decide +kernel
theorem dX9_row_72 : decode cX9_row 72 = .ok (.iconst 1, 1) := by decide +kernel
theorem dX9_row_73 : decode cX9_row 73 = .ok (.iadd, 1) := by decide +kernel
theorem dX9_row_74 : decode cX9_row 74 = .ok (.iload_n 3, 1) := by decide +kernel
theorem dX9_row_75 : decode cX9_row 75 = .ok (.iadd, 1) := by decide +kernel
theorem dX9_row_76 : decode cX9_row 76 = .ok (.iaload, 1) := by decide +kernel
theorem dX9_row_77 : decode cX9_row 77 = .ok (.iaload, 1) := by decide +kernel
theorem dX9_row_78 : decode cX9_row 78 = .ok (.goto 4, 3) := by decide +kernel
theorem dX9_row_81 : decode cX9_row 81 = .ok (.iconst (-1), 1) := by decide +kernel
theorem dX9_row_82 : decode cX9_row 82 = .ok (.ireturn, 1) := by decide +kernel
abbrev mm_X9_row : ab_M := (RX9, 5, (some .int), false, 6, 133, none)
noncomputable def f_X9_row (a0 : Int) (a1 : Int) (a2 : Int) (a3 : Int) (h : ab_H) : Option (Int × ab_H) :=
  if a1 < (0 : Int) then
    some ((-2 : Int), h)
  else
  if a3 < (0 : Int) then
    some ((-2 : Int), h)
  else
  (f_X9_in a2 (0 : Int) (1 : Int) h).bind fun q1 =>
  if q1.1 = (0 : Int) then
    some ((-2 : Int), q1.2)
  else
  (ab_on q1.2 10 a0 (f_X9_lays a0 q1.2)).bind fun q2 =>
  (ab_get q2 10 16 a0).bind fun t3 =>
  if a1 < t3 then
    (ab_get q2 10 26 a0).bind fun t4 =>
    (ab_ald q2 11 t4 a1).bind fun t5 =>
    (ab_get q2 10 24 a0).bind fun t6 =>
    (ab_ald q2 11 t6 (ab_w32 ((ab_w32 ((12 : Int) * t5)) + (ab_w32 ((6 : Int) * a2))))).bind fun t7 =>
    if t7 ≤ a3 then
      some ((-1 : Int), q2)
    else
    (ab_get q2 10 15 a0).bind fun t8 =>
    (ab_get q2 10 24 a0).bind fun t9 =>
    (ab_ald q2 11 t9 (ab_w32 ((ab_w32 ((ab_w32 ((ab_w32 ((12 : Int) * t5)) + (ab_w32 ((6 : Int) * a2)))) + (1 : Int))) + a3))).bind fun t10 =>
    (ab_ald q2 11 t8 t10).bind fun t11 =>
    some (t11, q2)
  else
  some ((-1 : Int), q2)
set_option maxRecDepth 20000 in
theorem ct_X9_row {a0 a1 a2 a3 : Int} {h : ab_H} {q : Int × ab_H} (hk : f_X9_row a0 a1 a2 a3 h = some q) : ab_CT yX9_row cX9_row 5 (some .int) 6 133 [ab_R a0, ab_I a1, ab_I a2, ab_I a3] h (some (ab_I q.1)) q.2 := by
  refine ab_CT.mk_ 1 (own := RX9) (ini := false) (lv := [some (ab_R a0), some (ab_I a1), some (ab_I a2), some (ab_I a3), none]) rfl (by decide +kernel) (fun q => by cases q) rfl rfl ?_
  unfold f_X9_row at hk
  show ab_E mm_X9_row cX9_row 0 _ [] h _ _
  refine ab_iload_n (pc := 0) (i := 1) dX9_row_0 rfl rfl ?_
  refine ab_if_lt (pc := 1) (tgt := 18) dX9_row_1 rfl (fun hc => ?_) (fun hc => ?_)
  · have hk := ab_ifp hk hc
    refine ab_bipush (pc := 18) dX9_row_18 ab_p8_m2 ab_k_m2 ?_
    obtain rfl := Option.some.inj hk
    exact ab_reti (pc := 20) dX9_row_20 (Or.inl rfl)
  · have hk := ab_ifn hk hc
    refine ab_iload_n (pc := 4) (i := 3) dX9_row_4 rfl rfl ?_
    refine ab_if_lt (pc := 5) (tgt := 18) dX9_row_5 rfl (fun hc => ?_) (fun hc => ?_)
    · have hk := ab_ifp hk hc
      refine ab_bipush (pc := 18) dX9_row_18 ab_p8_m2 ab_k_m2 ?_
      obtain rfl := Option.some.inj hk
      exact ab_reti (pc := 20) dX9_row_20 (Or.inl rfl)
    · have hk := ab_ifn hk hc
      refine ab_iload_n (pc := 8) (i := 2) dX9_row_8 rfl rfl ?_
      refine ab_i2l_ (pc := 9) dX9_row_9 ?_
      refine ab_lconst (x := (0 : Int)) (pc := 10) dX9_row_10 rfl ab_kl_0 ?_
      refine ab_lconst (x := (1 : Int)) (pc := 11) dX9_row_11 rfl ab_kl_1 ?_
      obtain ⟨q1, hq1, hk⟩ := ab_bnd hk
      refine ab_callSI (st := []) (as := [ab_J a2, ab_J (0 : Int), ab_J (1 : Int)]) (pc := 12) dX9_row_12 ml_RX9_84 my_X9_in ms_X9_in (ct_X9_in hq1) ⟨Nat.le_of_ble_eq_true rfl, Nat.le_of_ble_eq_true rfl⟩ rfl (Nat.le_of_ble_eq_true rfl) rfl ?_
      refine ab_if_ne (pc := 15) (tgt := 21) dX9_row_15 rfl (fun hc => ?_) (fun hc => ?_)
      · have hk := ab_ifn hk hc
        refine ab_aload_n (pc := 21) (i := 0) dX9_row_21 rfl rfl ?_
        obtain ⟨q2, hq2, hk⟩ := ab_bnd hk
        obtain ⟨hb, hq2⟩ := ab_on_some hq2
        refine ab_callVV (st := []) (as := []) (b := a0) (pc := 22) dX9_row_22 ml_RX9_314 my_X9_lays mv_X9_lays hb (ct_X9_lays hq2) ⟨Nat.le_of_ble_eq_true rfl, Nat.le_of_ble_eq_true rfl⟩ rfl (Nat.le_of_ble_eq_true rfl) rfl ?_
        refine ab_iload_n (pc := 25) (i := 1) dX9_row_25 rfl rfl ?_
        refine ab_aload_n (pc := 26) (i := 0) dX9_row_26 rfl rfl ?_
        obtain ⟨t3, ht3, hk⟩ := ab_bnd hk
        refine ab_getI (pc := 27) dX9_row_27 fl_RX9_267 ht3 ?_
        refine ab_icmp_lt (pc := 30) (tgt := 35) dX9_row_30 rfl (fun hc => ?_) (fun hc => ?_)
        · have hk := ab_ifp hk hc
          refine ab_bipush (pc := 35) dX9_row_35 ab_p8_12 ab_k_12 ?_
          refine ab_aload_n (pc := 37) (i := 0) dX9_row_37 rfl rfl ?_
          obtain ⟨t4, ht4, hk⟩ := ab_bnd hk
          refine ab_getR (pc := 38) dX9_row_38 fl_RX9_49 ht4 ?_
          refine ab_iload_n (pc := 41) (i := 1) dX9_row_41 rfl rfl ?_
          obtain ⟨t5, ht5, hk⟩ := ab_bnd hk
          refine ab_iald (pc := 42) dX9_row_42 ht5 ?_
          refine ab_imul (pc := 43) dX9_row_43 ?_
          refine ab_bipush (pc := 44) dX9_row_44 ab_p8_6 ab_k_6 ?_
          refine ab_iload_n (pc := 46) (i := 2) dX9_row_46 rfl rfl ?_
          refine ab_imul (pc := 47) dX9_row_47 ?_
          refine ab_iadd (pc := 48) dX9_row_48 ?_
          refine ab_istore (pc := 49) (i := 4) (lv2 := [some (ab_R a0), some (ab_I a1), some (ab_I a2), some (ab_I a3), some (ab_I (ab_w32 ((ab_w32 ((12 : Int) * t5)) + (ab_w32 ((6 : Int) * a2)))))]) dX9_row_49 (Nat.le_of_ble_eq_true rfl) rfl rfl ?_
          refine ab_iload_n (pc := 51) (i := 3) dX9_row_51 rfl rfl ?_
          refine ab_aload_n (pc := 52) (i := 0) dX9_row_52 rfl rfl ?_
          obtain ⟨t6, ht6, hk⟩ := ab_bnd hk
          refine ab_getR (pc := 53) dX9_row_53 fl_RX9_46 ht6 ?_
          refine ab_iload (pc := 56) (i := 4) dX9_row_56 rfl ?_
          obtain ⟨t7, ht7, hk⟩ := ab_bnd hk
          refine ab_iald (pc := 58) dX9_row_58 ht7 ?_
          refine ab_icmp_ge (pc := 59) (tgt := 81) dX9_row_59 rfl (fun hc => ?_) (fun hc => ?_)
          · have hk := ab_ifp hk hc
            refine ab_iconst (pc := 81) dX9_row_81 ab_k_m1 ?_
            obtain rfl := Option.some.inj hk
            exact ab_reti (pc := 82) dX9_row_82 (Or.inl rfl)
          · have hk := ab_ifn hk hc
            refine ab_aload_n (pc := 62) (i := 0) dX9_row_62 rfl rfl ?_
            obtain ⟨t8, ht8, hk⟩ := ab_bnd hk
            refine ab_getR (pc := 63) dX9_row_63 fl_RX9_27 ht8 ?_
            refine ab_aload_n (pc := 66) (i := 0) dX9_row_66 rfl rfl ?_
            obtain ⟨t9, ht9, hk⟩ := ab_bnd hk
            refine ab_getR (pc := 67) dX9_row_67 fl_RX9_46 ht9 ?_
            refine ab_iload (pc := 70) (i := 4) dX9_row_70 rfl ?_
            refine ab_iconst (pc := 72) dX9_row_72 ab_k_1 ?_
            refine ab_iadd (pc := 73) dX9_row_73 ?_
            refine ab_iload_n (pc := 74) (i := 3) dX9_row_74 rfl rfl ?_
            refine ab_iadd (pc := 75) dX9_row_75 ?_
            obtain ⟨t10, ht10, hk⟩ := ab_bnd hk
            refine ab_iald (pc := 76) dX9_row_76 ht10 ?_
            obtain ⟨t11, ht11, hk⟩ := ab_bnd hk
            refine ab_iald (pc := 77) dX9_row_77 ht11 ?_
            refine ab_goto (pc := 78) (tgt := 82) dX9_row_78 rfl ?_
            obtain rfl := Option.some.inj hk
            exact ab_reti (pc := 82) dX9_row_82 (Or.inl rfl)
        · have hk := ab_ifn hk hc
          refine ab_iconst (pc := 33) dX9_row_33 ab_k_m1 ?_
          obtain rfl := Option.some.inj hk
          exact ab_reti (pc := 34) dX9_row_34 (Or.inl rfl)
      · have hk := ab_ifp hk hc
        refine ab_bipush (pc := 18) dX9_row_18 ab_p8_m2 ab_k_m2 ?_
        obtain rfl := Option.some.inj hk
        exact ab_reti (pc := 20) dX9_row_20 (Or.inl rfl)
