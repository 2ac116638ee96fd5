theorem dX7_numberOf_0 : decode cX7_numberOf 0 = .ok (.iconst 0, 1) := by decide +kernel
theorem dX7_numberOf_1 : decode cX7_numberOf 1 = .ok (.istore_n 3, 1) := by decide +kernel
theorem dX7_numberOf_2 : decode cX7_numberOf 2 = .ok (.iload_n 3, 1) := by decide +kernel
theorem dX7_numberOf_3 : decode cX7_numberOf 3 = .ok (.aload_n 0, 1) := by decide +kernel
theorem dX7_numberOf_4 : decode cX7_numberOf 4 = .ok (.getfield 19, 3) := by decide +kernel
theorem dX7_numberOf_7 : decode cX7_numberOf 7 = .ok (.if_icmp .ge 22, 3) := by decide +kernel
theorem dX7_numberOf_10 : decode cX7_numberOf 10 = .ok (.aload_n 0, 1) := by decide +kernel
theorem dX7_numberOf_11 : decode cX7_numberOf 11 = .ok (.getfield 9, 3) := by decide +kernel
theorem dX7_numberOf_14 : decode cX7_numberOf 14 = .ok (.iload_n 3, 1) := by decide +kernel
theorem dX7_numberOf_15 : decode cX7_numberOf 15 = .ok (.laload, 1) := by decide +kernel
theorem dX7_numberOf_16 : decode cX7_numberOf 16 = .ok (.lload_n 1, 1) := by decide +kernel
theorem dX7_numberOf_17 : decode cX7_numberOf 17 = .ok (.lcmp, 1) := by decide +kernel
theorem dX7_numberOf_18 : decode cX7_numberOf 18 = .ok (.ifCond .ne 5, 3) := by decide +kernel
theorem dX7_numberOf_21 : decode cX7_numberOf 21 = .ok (.iload_n 3, 1) := by decide +kernel
theorem dX7_numberOf_22 : decode cX7_numberOf 22 = .ok (.ireturn, 1) := by decide +kernel
theorem dX7_numberOf_23 : decode cX7_numberOf 23 = .ok (.iinc 3 1, 3) := by decide +kernel
theorem dX7_numberOf_26 : decode cX7_numberOf 26 = .ok (.goto (-24), 3) := by decide +kernel
theorem dX7_numberOf_29 : decode cX7_numberOf 29 = .ok (.iconst (-1), 1) := by decide +kernel
theorem dX7_numberOf_30 : decode cX7_numberOf 30 = .ok (.ireturn, 1) := by decide +kernel
abbrev mm_X7_numberOf : ab_M := (RX7, 4, (some .int), false, 0, 0, none)
noncomputable def f_X7_numberOf_L2 : Nat → Int → Int → Int → ab_H → Option (Int × ab_H)
  | 0, _, _, _, _ => none
  | n + 1, v0, v1, v3, h =>
    (ab_get h 8 0 v0).bind fun t1 =>
    if t1 ≤ v3 then
      some ((-1 : Int), h)
    else
    (ab_get h 8 1 v0).bind fun t2 =>
    (ab_ald h 12 t2 v3).bind fun t3 =>
    if ab_cmp t3 v1 = (0 : Int) then
      some (v3, h)
    else
    f_X7_numberOf_L2 n v0 v1 (ab_w32 (v3 + (1 : Int))) h
set_option maxRecDepth 20000 in
theorem e_X7_numberOf_L2 : ∀ (n : Nat) (v0 : Int) (v1 : Int) (v3 : Int) (h : ab_H) (q : Int × ab_H), f_X7_numberOf_L2 n v0 v1 v3 h = some q → ab_E mm_X7_numberOf cX7_numberOf 2 [some (ab_R v0), some (ab_J v1), none, some (ab_I v3)] [] h (some (ab_I q.1)) q.2 := by
  intro n
  induction n with
  | zero => intro v0 v1 v3 h q hk; cases hk
  | succ n ih =>
    intro v0 v1 v3 h q hk
    unfold f_X7_numberOf_L2 at hk
    refine ab_iload_n (pc := 2) (i := 3) dX7_numberOf_2 rfl rfl ?_
    refine ab_aload_n (pc := 3) (i := 0) dX7_numberOf_3 rfl rfl ?_
    obtain ⟨t1, ht1, hk⟩ := ab_bnd hk
    refine ab_getI (pc := 4) dX7_numberOf_4 fl_RX7_19 ht1 ?_
    refine ab_icmp_ge (pc := 7) (tgt := 29) dX7_numberOf_7 rfl (fun hc => ?_) (fun hc => ?_)
    · have hk := ab_ifp hk hc
      refine ab_iconst (pc := 29) dX7_numberOf_29 ab_k_m1 ?_
      obtain rfl := Option.some.inj hk
      exact ab_reti (pc := 30) dX7_numberOf_30 (Or.inl rfl)
    · have hk := ab_ifn hk hc
      refine ab_aload_n (pc := 10) (i := 0) dX7_numberOf_10 rfl rfl ?_
      obtain ⟨t2, ht2, hk⟩ := ab_bnd hk
      refine ab_getR (pc := 11) dX7_numberOf_11 fl_RX7_9 ht2 ?_
      refine ab_iload_n (pc := 14) (i := 3) dX7_numberOf_14 rfl rfl ?_
      obtain ⟨t3, ht3, hk⟩ := ab_bnd hk
      refine ab_lald (pc := 15) dX7_numberOf_15 ht3 ?_
      refine ab_lload_n (pc := 16) (i := 1) dX7_numberOf_16 rfl rfl ?_
      refine ab_lcmp_ (pc := 17) dX7_numberOf_17 ?_
      refine ab_if_ne (pc := 18) (tgt := 23) dX7_numberOf_18 rfl (fun hc => ?_) (fun hc => ?_)
      · have hk := ab_ifn hk hc
        refine ab_iinc (pc := 23) (i := 3) (lv2 := [some (ab_R v0), some (ab_J v1), none, some (ab_I (ab_w32 (v3 + (1 : Int))))]) dX7_numberOf_23 rfl (Nat.le_of_ble_eq_true rfl) rfl rfl ?_
        refine ab_goto (pc := 26) (tgt := 2) dX7_numberOf_26 rfl ?_
        refine ab_sub_ (lv2 := [some (ab_R v0), some (ab_J v1), none, some (ab_I (ab_w32 (v3 + (1 : Int))))]) (ab_ss (ab_ss (ab_sn (ab_ss ab_s0)))) ?_
        exact ih _ _ _ _ _ hk
      · have hk := ab_ifp hk hc
        refine ab_iload_n (pc := 21) (i := 3) dX7_numberOf_21 rfl rfl ?_
        obtain rfl := Option.some.inj hk
        exact ab_reti (pc := 22) dX7_numberOf_22 (Or.inl rfl)
noncomputable def f_X7_numberOf (a0 : Int) (a1 : Int) (h : ab_H) : Option (Int × ab_H) :=
  f_X7_numberOf_L2 ab_FU a0 a1 (0 : Int) h
set_option maxRecDepth 20000 in
theorem ct_X7_numberOf {a0 a1 : Int} {h : ab_H} {q : Int × ab_H} (hk : f_X7_numberOf a0 a1 h = some q) : ab_CT yX7_numberOf cX7_numberOf 4 (some .int) 0 0 [ab_R a0, ab_J a1] h (some (ab_I q.1)) q.2 := by
  refine ab_CT.mk_ 1 (own := RX7) (ini := false) (lv := [some (ab_R a0), some (ab_J a1), none, none]) rfl (by decide +kernel) (fun q => by cases q) rfl rfl ?_
  unfold f_X7_numberOf at hk
  show ab_E mm_X7_numberOf cX7_numberOf 0 _ [] h _ _
  refine ab_iconst (pc := 0) dX7_numberOf_0 ab_k_0 ?_
  refine ab_istore_n (pc := 1) (i := 3) (lv2 := [some (ab_R a0), some (ab_J a1), none, some (ab_I (0 : Int))]) dX7_numberOf_1 rfl (Nat.le_of_ble_eq_true rfl) rfl rfl ?_
  refine ab_sub_ (lv2 := [some (ab_R a0), some (ab_J a1), none, some (ab_I (0 : Int))]) (ab_ss (ab_ss (ab_sn (ab_ss ab_s0)))) ?_
  refine e_X7_numberOf_L2 _ _ _ _ _ _ hk
theorem dX7_init_0 : decode cX7_init 0 = .ok (.aload_n 0, 1) := by decide +kernel
theorem dX7_init_1 : decode cX7_init 1 = .ok (.invokespecial 3, 3) := by decide +kernel
theorem dX7_init_4 : decode cX7_init 4 = .ok (.aload_n 0, 1) := by decide +kernel
theorem dX7_init_5 : decode cX7_init 5 = .ok (.bipush 72, 2) := by decide +kernel
theorem dX7_init_7 : decode cX7_init 7 = .ok (.newarray .long, 2) := by decide +kernel
theorem dX7_init_9 : decode cX7_init 9 = .ok (.putfield 9, 3) := by decide +kernel
theorem dX7_init_12 : decode cX7_init 12 = .ok (.aload_n 0, 1) := by decide +kernel
theorem dX7_init_13 : decode cX7_init 13 = .ok (.bipush 72, 2) := by decide +kernel
theorem dX7_init_15 : decode cX7_init 15 = .ok (.newarray .int, 2) := by decide +kernel
theorem dX7_init_17 : decode cX7_init 17 = .ok (.putfield 15, 3) := by decide +kernel
theorem dX7_init_20 : decode cX7_init 20 = .ok (.return_, 1) := by decide +kernel
abbrev mm_X7_init : ab_M := (RX7, 1, none, true, 1, 20, none)
noncomputable def f_X7_init (a0 : Int) (h : ab_H) : Option ab_H :=
  ab_if (decide (0 < a0)) <|
  (ab_mkA h 12 (72 : Int)).bind fun h1 =>
  (ab_putR h1 8 1 a0 (ab_nx h)).bind fun h2 =>
  (ab_mkA h2 11 (72 : Int)).bind fun h3 =>
  (ab_putR h3 8 2 a0 (ab_nx h2)).bind fun h4 =>
  some h4
set_option maxRecDepth 20000 in
theorem ct_X7_init {a0 : Int} {h : ab_H} {q : ab_H} (hk : f_X7_init a0 h = some q) : ab_CT yX7_init cX7_init 1 none 1 20 [ab_R a0] h none q := by
  refine ab_CT.mk_ 0 (own := RX7) (ini := true) (lv := [some (ab_R a0)]) rfl (by decide +kernel) (fun _ => rfl) rfl rfl ?_
  unfold f_X7_init at hk
  show ab_E mm_X7_init cX7_init 0 _ [] h _ _
  refine ab_aload_n (pc := 0) (i := 0) dX7_init_0 rfl rfl ?_
  obtain ⟨hg, hk⟩ := ab_if_some hk
  refine ab_obj0_ (pc := 1) dX7_init_1 ob_RX7_3 hg (Nat.le_of_ble_eq_true rfl) (Nat.le_of_ble_eq_true rfl) (Nat.le_of_ble_eq_true rfl) ?_
  refine ab_aload_n (pc := 4) (i := 0) dX7_init_4 rfl rfl ?_
  refine ab_bipush (pc := 5) dX7_init_5 ab_p8_72 ab_k_72 ?_
  obtain ⟨h1, hh1, hk⟩ := ab_bnd hk
  refine ab_newA (pc := 7) dX7_init_7 (by decide) ab_ac_long hh1 ?_
  obtain ⟨h2, hh2, hk⟩ := ab_bnd hk
  refine ab_putR_ (pc := 9) dX7_init_9 fl_RX7_9 (fun _ => ⟨rfl, rfl⟩) hh2 ?_
  refine ab_aload_n (pc := 12) (i := 0) dX7_init_12 rfl rfl ?_
  refine ab_bipush (pc := 13) dX7_init_13 ab_p8_72 ab_k_72 ?_
  obtain ⟨h3, hh3, hk⟩ := ab_bnd hk
  refine ab_newA (pc := 15) dX7_init_15 (by decide) ab_ac_int hh3 ?_
  obtain ⟨h4, hh4, hk⟩ := ab_bnd hk
  refine ab_putR_ (pc := 17) dX7_init_17 fl_RX7_15 (fun _ => ⟨rfl, rfl⟩) hh4 ?_
  obtain rfl := Option.some.inj hk
  exact ab_retv (pc := 20) dX7_init_20 rfl
theorem dX7_sortIn_0 : decode cX7_sortIn 0 = .ok (.aload_n 0, 1) := by decide +kernel
theorem dX7_sortIn_1 : decode cX7_sortIn 1 = .ok (.lload_n 1, 1) := by decide +kernel
theorem dX7_sortIn_2 : decode cX7_sortIn 2 = .ok (.invokevirtual 38, 3) := by decide +kernel
theorem dX7_sortIn_5 : decode cX7_sortIn 5 = .ok (.istore 4, 2) := by decide +kernel
theorem dX7_sortIn_7 : decode cX7_sortIn 7 = .ok (.iload 4, 2) := by decide +kernel
theorem dX7_sortIn_9 : decode cX7_sortIn 9 = .ok (.iconst (-1), 1) := by decide +kernel
theorem dX7_sortIn_10 : decode cX7_sortIn 10 = .ok (.if_icmp .eq 17, 3) := by decide +kernel
theorem dX7_sortIn_13 : decode cX7_sortIn 13 = .ok (.aload_n 0, 1) := by decide +kernel
theorem dX7_sortIn_14 : decode cX7_sortIn 14 = .ok (.getfield 15, 3) := by decide +kernel
theorem dX7_sortIn_17 : decode cX7_sortIn 17 = .ok (.iload 4, 2) := by decide +kernel
theorem dX7_sortIn_19 : decode cX7_sortIn 19 = .ok (.dup2, 1) := by decide +kernel
theorem dX7_sortIn_20 : decode cX7_sortIn 20 = .ok (.iaload, 1) := by decide +kernel
theorem dX7_sortIn_21 : decode cX7_sortIn 21 = .ok (.iconst 1, 1) := by decide +kernel
theorem dX7_sortIn_22 : decode cX7_sortIn 22 = .ok (.iload_n 3, 1) := by decide +kernel
theorem dX7_sortIn_23 : decode cX7_sortIn 23 = .ok (.ishl, 1) := by decide +kernel
theorem dX7_sortIn_24 : decode cX7_sortIn 24 = .ok (.ior, 1) := by decide +kernel
theorem dX7_sortIn_25 : decode cX7_sortIn 25 = .ok (.iastore, 1) := by decide +kernel
theorem dX7_sortIn_26 : decode cX7_sortIn 26 = .ok (.return_, 1) := by decide +kernel
theorem dX7_sortIn_27 : decode cX7_sortIn 27 = .ok (.aload_n 0, 1) := by decide +kernel
theorem dX7_sortIn_28 : decode cX7_sortIn 28 = .ok (.getfield 19, 3) := by decide +kernel
theorem dX7_sortIn_31 : decode cX7_sortIn 31 = .ok (.bipush 72, 2) := by decide +kernel
theorem dX7_sortIn_33 : decode cX7_sortIn 33 = .ok (.if_icmp .lt 4, 3) := by decide +kernel
theorem dX7_sortIn_36 : decode cX7_sortIn 36 = .ok (.return_, 1) := by decide +kernel
theorem dX7_sortIn_37 : decode cX7_sortIn 37 = .ok (.aload_n 0, 1) := by decide +kernel
theorem dX7_sortIn_38 : decode cX7_sortIn 38 = .ok (.getfield 19, 3) := by decide +kernel
theorem dX7_sortIn_41 : decode cX7_sortIn 41 = .ok (.istore 5, 2) := by decide +kernel
theorem dX7_sortIn_43 : decode cX7_sortIn 43 = .ok (.iload 5, 2) := by decide +kernel
theorem dX7_sortIn_45 : decode cX7_sortIn 45 = .ok (.ifCond .le 55, 3) := by decide +kernel
theorem dX7_sortIn_48 : decode cX7_sortIn 48 = .ok (.aload_n 0, 1) := by decide +kernel
theorem dX7_sortIn_49 : decode cX7_sortIn 49 = .ok (.getfield 9, 3) := by decide +kernel
theorem dX7_sortIn_52 : decode cX7_sortIn 52 = .ok (.iload 5, 2) := by decide +kernel
theorem dX7_sortIn_54 : decode cX7_sortIn 54 = .ok (.iconst 1, 1) := by decide +kernel
theorem dX7_sortIn_55 : decode cX7_sortIn 55 = .ok (.isub, 1) := by decide +kernel
theorem dX7_sortIn_56 : decode cX7_sortIn 56 = .ok (.laload, 1) := by decide +kernel
theorem dX7_sortIn_57 : decode cX7_sortIn 57 = .ok (.lload_n 1, 1) := by decide +kernel
theorem dX7_sortIn_58 : decode cX7_sortIn 58 = .ok (.lcmp, 1) := by decide +kernel
theorem dX7_sortIn_59 : decode cX7_sortIn 59 = .ok (.ifCond .le 41, 3) := by decide +kernel
theorem dX7_sortIn_62 : decode cX7_sortIn 62 = .ok (.aload_n 0, 1) := by decide +kernel
theorem dX7_sortIn_63 : decode cX7_sortIn 63 = .ok (.getfield 9, 3) := by decide +kernel
theorem dX7_sortIn_66 : decode cX7_sortIn 66 = .ok (.iload 5, 2) := by decide +kernel
theorem dX7_sortIn_68 : decode cX7_sortIn 68 = .ok (.aload_n 0, 1) := by decide +kernel
theorem dX7_sortIn_69 : decode cX7_sortIn 69 = .ok (.getfield 9, 3) := by decide +kernel
theorem dX7_sortIn_72 : decode cX7_sortIn 72 = .ok (.iload 5, 2) := by decide +kernel
theorem dX7_sortIn_74 : decode cX7_sortIn 74 = .ok (.iconst 1, 1) := by decide +kernel
theorem dX7_sortIn_75 : decode cX7_sortIn 75 = .ok (.isub, 1) := by decide +kernel
theorem dX7_sortIn_76 : decode cX7_sortIn 76 = .ok (.laload, 1) := by decide +kernel
theorem dX7_sortIn_77 : decode cX7_sortIn 77 = .ok (.lastore, 1) := by decide +kernel
theorem dX7_sortIn_78 : decode cX7_sortIn 78 = .ok (.aload_n 0, 1) := by decide +kernel
theorem dX7_sortIn_79 : decode cX7_sortIn 79 = .ok (.getfield 15, 3) := by decide +kernel
theorem dX7_sortIn_82 : decode cX7_sortIn 82 = .ok (.iload 5, 2) := by decide +kernel
theorem dX7_sortIn_84 : decode cX7_sortIn 84 = .ok (.aload_n 0, 1) := by decide +kernel
theorem dX7_sortIn_85 : decode cX7_sortIn 85 = .ok (.getfield 15, 3) := by decide +kernel
theorem dX7_sortIn_88 : decode cX7_sortIn 88 = .ok (.iload 5, 2) := by decide +kernel
theorem dX7_sortIn_90 : decode cX7_sortIn 90 = .ok (.iconst 1, 1) := by decide +kernel
theorem dX7_sortIn_91 : decode cX7_sortIn 91 = .ok (.isub, 1) := by decide +kernel
theorem dX7_sortIn_92 : decode cX7_sortIn 92 = .ok (.iaload, 1) := by decide +kernel
theorem dX7_sortIn_93 : decode cX7_sortIn 93 = .ok (.iastore, 1) := by decide +kernel
theorem dX7_sortIn_94 : decode cX7_sortIn 94 = .ok (.iinc 5 (-1), 3) := by decide +kernel
theorem dX7_sortIn_97 : decode cX7_sortIn 97 = .ok (.goto (-54), 3) := by decide +kernel
theorem dX7_sortIn_100 : decode cX7_sortIn 100 = .ok (.aload_n 0, 1) := by decide +kernel
theorem dX7_sortIn_101 : decode cX7_sortIn 101 = .ok (.getfield 9, 3) := by decide +kernel
theorem dX7_sortIn_104 : decode cX7_sortIn 104 = .ok (.iload 5, 2) := by decide +kernel
theorem dX7_sortIn_106 : decode cX7_sortIn 106 = .ok (.lload_n 1, 1) := by decide +kernel
theorem dX7_sortIn_107 : decode cX7_sortIn 107 = .ok (.lastore, 1) := by decide +kernel
theorem dX7_sortIn_108 : decode cX7_sortIn 108 = .ok (.aload_n 0, 1) := by decide +kernel
theorem dX7_sortIn_109 : decode cX7_sortIn 109 = .ok (.getfield 15, 3) := by decide +kernel
theorem dX7_sortIn_112 : decode cX7_sortIn 112 = .ok (.iload 5, 2) := by decide +kernel
theorem dX7_sortIn_114 : decode cX7_sortIn 114 = .ok (.iconst 1, 1) := by decide +kernel
theorem dX7_sortIn_115 : decode cX7_sortIn 115 = .ok (.iload_n 3, 1) := by decide +kernel
theorem dX7_sortIn_116 : decode cX7_sortIn 116 = .ok (.ishl, 1) := by decide +kernel
theorem dX7_sortIn_117 : decode cX7_sortIn 117 = .ok (.iastore, 1) := by decide +kernel
theorem dX7_sortIn_118 : decode cX7_sortIn 118 = .ok (.aload_n 0, 1) := by decide +kernel
theorem dX7_sortIn_119 : decode cX7_sortIn 119 = .ok (.dup, 1) := by decide +kernel
theorem dX7_sortIn_120 : decode cX7_sortIn 120 = .ok (.getfield 19, 3) := by decide +kernel
theorem dX7_sortIn_123 : decode cX7_sortIn 123 = .ok (.iconst 1, 1) := by decide +kernel
theorem dX7_sortIn_124 : decode cX7_sortIn 124 = .ok (.iadd, 1) := by decide +kernel
theorem dX7_sortIn_125 : decode cX7_sortIn 125 = .ok (.putfield 19, 3) := by decide +kernel
theorem dX7_sortIn_128 : decode cX7_sortIn 128 = .ok (.return_, 1) := by decide +kernel
abbrev mm_X7_sortIn : ab_M := (RX7, 6, none, false, 1, 23, none)
noncomputable def f_X7_sortIn_J100 (v0 : Int) (v1 : Int) (v3 : Int) (v5 : Int) (h : ab_H) : Option ab_H :=
  (ab_get h 8 1 v0).bind fun t1 =>
  (ab_ast h 12 t1 v5 v1).bind fun h1 =>
  (ab_get h1 8 2 v0).bind fun t2 =>
  (ab_ast h1 11 t2 v5 (ab_shl (1 : Int) v3)).bind fun h2 =>
  (ab_get h2 8 0 v0).bind fun t3 =>
  (ab_put h2 8 0 v0 (ab_w32 (t3 + (1 : Int)))).bind fun h3 =>
  some h3
set_option maxRecDepth 20000 in
theorem e_X7_sortIn_J100 : ∀ (v0 : Int) (v1 : Int) (v3 : Int) (v5 : Int) (h : ab_H) (q : ab_H), f_X7_sortIn_J100 v0 v1 v3 v5 h = some q → ab_E mm_X7_sortIn cX7_sortIn 100 [some (ab_R v0), some (ab_J v1), none, some (ab_I v3), none, some (ab_I v5)] [] h none q := by
  intro v0 v1 v3 v5 h q hk
  unfold f_X7_sortIn_J100 at hk
  refine ab_aload_n (pc := 100) (i := 0) dX7_sortIn_100 rfl rfl ?_
  obtain ⟨t1, ht1, hk⟩ := ab_bnd hk
  refine ab_getR (pc := 101) dX7_sortIn_101 fl_RX7_9 ht1 ?_
  refine ab_iload (pc := 104) (i := 5) dX7_sortIn_104 rfl ?_
  refine ab_lload_n (pc := 106) (i := 1) dX7_sortIn_106 rfl rfl ?_
  obtain ⟨h1, hh1, hk⟩ := ab_bnd hk
  refine ab_last (pc := 107) dX7_sortIn_107 hh1 ?_
  refine ab_aload_n (pc := 108) (i := 0) dX7_sortIn_108 rfl rfl ?_
  obtain ⟨t2, ht2, hk⟩ := ab_bnd hk
  refine ab_getR (pc := 109) dX7_sortIn_109 fl_RX7_15 ht2 ?_
  refine ab_iload (pc := 112) (i := 5) dX7_sortIn_112 rfl ?_
  refine ab_iconst (pc := 114) dX7_sortIn_114 ab_k_1 ?_
  refine ab_iload_n (pc := 115) (i := 3) dX7_sortIn_115 rfl rfl ?_
  refine ab_ishl (pc := 116) dX7_sortIn_116 ?_
  obtain ⟨h2, hh2, hk⟩ := ab_bnd hk
  refine ab_iast (pc := 117) dX7_sortIn_117 hh2 ?_
  refine ab_aload_n (pc := 118) (i := 0) dX7_sortIn_118 rfl rfl ?_
  refine ab_dup (pc := 119) dX7_sortIn_119 rfl ?_
  obtain ⟨t3, ht3, hk⟩ := ab_bnd hk
  refine ab_getI (pc := 120) dX7_sortIn_120 fl_RX7_19 ht3 ?_
  refine ab_iconst (pc := 123) dX7_sortIn_123 ab_k_1 ?_
  refine ab_iadd (pc := 124) dX7_sortIn_124 ?_
  obtain ⟨h3, hh3, hk⟩ := ab_bnd hk
  refine ab_putI_ (pc := 125) dX7_sortIn_125 fl_RX7_19 (fun q => by cases q) hh3 ?_
  obtain rfl := Option.some.inj hk
  exact ab_retv (pc := 128) dX7_sortIn_128 rfl
noncomputable def f_X7_sortIn_L43 (k100 : Int → Int → Int → Int → ab_H → Option ab_H) : Nat → Int → Int → Int → Int → ab_H → Option ab_H
  | 0, _, _, _, _, _ => none
  | n + 1, v0, v1, v3, v5, h =>
    if v5 ≤ (0 : Int) then
      k100 v0 v1 v3 v5 h
    else
    (ab_get h 8 1 v0).bind fun t1 =>
    (ab_ald h 12 t1 (ab_w32 (v5 - (1 : Int)))).bind fun t2 =>
    if ab_cmp t2 v1 ≤ (0 : Int) then
      k100 v0 v1 v3 v5 h
    else
    (ab_get h 8 1 v0).bind fun t3 =>
    (ab_get h 8 1 v0).bind fun t4 =>
    (ab_ald h 12 t4 (ab_w32 (v5 - (1 : Int)))).bind fun t5 =>
    (ab_ast h 12 t3 v5 t5).bind fun h1 =>
    (ab_get h1 8 2 v0).bind fun t6 =>
    (ab_get h1 8 2 v0).bind fun t7 =>
    (ab_ald h1 11 t7 (ab_w32 (v5 - (1 : Int)))).bind fun t8 =>
    (ab_ast h1 11 t6 v5 t8).bind fun h2 =>
    f_X7_sortIn_L43 k100 n v0 v1 v3 (ab_w32 (v5 + (-1 : Int))) h2
set_option maxRecDepth 20000 in
theorem e_X7_sortIn_L43 {k100 : Int → Int → Int → Int → ab_H → Option ab_H} (hk100 : ∀ (v0 : Int) (v1 : Int) (v3 : Int) (v5 : Int) (h : ab_H) (q : ab_H), k100 v0 v1 v3 v5 h = some q → ab_E mm_X7_sortIn cX7_sortIn 100 [some (ab_R v0), some (ab_J v1), none, some (ab_I v3), none, some (ab_I v5)] [] h none q) : ∀ (n : Nat) (v0 : Int) (v1 : Int) (v3 : Int) (v5 : Int) (h : ab_H) (q : ab_H), f_X7_sortIn_L43 k100 n v0 v1 v3 v5 h = some q → ab_E mm_X7_sortIn cX7_sortIn 43 [some (ab_R v0), some (ab_J v1), none, some (ab_I v3), none, some (ab_I v5)] [] h none q := by
  intro n
  induction n with
  | zero => intro v0 v1 v3 v5 h q hk; cases hk
  | succ n ih =>
    intro v0 v1 v3 v5 h q hk
    unfold f_X7_sortIn_L43 at hk
    refine ab_iload (pc := 43) (i := 5) dX7_sortIn_43 rfl ?_
    refine ab_if_le (pc := 45) (tgt := 100) dX7_sortIn_45 rfl (fun hc => ?_) (fun hc => ?_)
    · have hk := ab_ifp hk hc
      refine ab_sub_ (lv2 := [some (ab_R v0), some (ab_J v1), none, some (ab_I v3), none, some (ab_I v5)]) (ab_ss (ab_ss (ab_sn (ab_ss (ab_sn (ab_ss ab_s0)))))) ?_
      exact hk100 _ _ _ _ _ _ hk
    · have hk := ab_ifn hk hc
      refine ab_aload_n (pc := 48) (i := 0) dX7_sortIn_48 rfl rfl ?_
      obtain ⟨t1, ht1, hk⟩ := ab_bnd hk
      refine ab_getR (pc := 49) dX7_sortIn_49 fl_RX7_9 ht1 ?_
      refine ab_iload (pc := 52) (i := 5) dX7_sortIn_52 rfl ?_
      refine ab_iconst (pc := 54) dX7_sortIn_54 ab_k_1 ?_
      refine ab_isub (pc := 55) dX7_sortIn_55 ?_
      obtain ⟨t2, ht2, hk⟩ := ab_bnd hk
      refine ab_lald (pc := 56) dX7_sortIn_56 ht2 ?_
      refine ab_lload_n (pc := 57) (i := 1) dX7_sortIn_57 rfl rfl ?_
      refine ab_lcmp_ (pc := 58) dX7_sortIn_58 ?_
      refine ab_if_le (pc := 59) (tgt := 100) dX7_sortIn_59 rfl (fun hc => ?_) (fun hc => ?_)
      · have hk := ab_ifp hk hc
        refine ab_sub_ (lv2 := [some (ab_R v0), some (ab_J v1), none, some (ab_I v3), none, some (ab_I v5)]) (ab_ss (ab_ss (ab_sn (ab_ss (ab_sn (ab_ss ab_s0)))))) ?_
        exact hk100 _ _ _ _ _ _ hk
      · have hk := ab_ifn hk hc
        refine ab_aload_n (pc := 62) (i := 0) dX7_sortIn_62 rfl rfl ?_
        obtain ⟨t3, ht3, hk⟩ := ab_bnd hk
        refine ab_getR (pc := 63) dX7_sortIn_63 fl_RX7_9 ht3 ?_
        refine ab_iload (pc := 66) (i := 5) dX7_sortIn_66 rfl ?_
        refine ab_aload_n (pc := 68) (i := 0) dX7_sortIn_68 rfl rfl ?_
        obtain ⟨t4, ht4, hk⟩ := ab_bnd hk
        refine ab_getR (pc := 69) dX7_sortIn_69 fl_RX7_9 ht4 ?_
        refine ab_iload (pc := 72) (i := 5) dX7_sortIn_72 rfl ?_
        refine ab_iconst (pc := 74) dX7_sortIn_74 ab_k_1 ?_
        refine ab_isub (pc := 75) dX7_sortIn_75 ?_
        obtain ⟨t5, ht5, hk⟩ := ab_bnd hk
        refine ab_lald (pc := 76) dX7_sortIn_76 ht5 ?_
        obtain ⟨h1, hh1, hk⟩ := ab_bnd hk
        refine ab_last (pc := 77) dX7_sortIn_77 hh1 ?_
        refine ab_aload_n (pc := 78) (i := 0) dX7_sortIn_78 rfl rfl ?_
        obtain ⟨t6, ht6, hk⟩ := ab_bnd hk
        refine ab_getR (pc := 79) dX7_sortIn_79 fl_RX7_15 ht6 ?_
        refine ab_iload (pc := 82) (i := 5) dX7_sortIn_82 rfl ?_
        refine ab_aload_n (pc := 84) (i := 0) dX7_sortIn_84 rfl rfl ?_
        obtain ⟨t7, ht7, hk⟩ := ab_bnd hk
        refine ab_getR (pc := 85) dX7_sortIn_85 fl_RX7_15 ht7 ?_
        refine ab_iload (pc := 88) (i := 5) dX7_sortIn_88 rfl ?_
        refine ab_iconst (pc := 90) dX7_sortIn_90 ab_k_1 ?_
        refine ab_isub (pc := 91) dX7_sortIn_91 ?_
        obtain ⟨t8, ht8, hk⟩ := ab_bnd hk
        refine ab_iald (pc := 92) dX7_sortIn_92 ht8 ?_
        obtain ⟨h2, hh2, hk⟩ := ab_bnd hk
        refine ab_iast (pc := 93) dX7_sortIn_93 hh2 ?_
        refine ab_iinc (pc := 94) (i := 5) (lv2 := [some (ab_R v0), some (ab_J v1), none, some (ab_I v3), none, some (ab_I (ab_w32 (v5 + (-1 : Int))))]) dX7_sortIn_94 rfl (Nat.le_of_ble_eq_true rfl) rfl rfl ?_
        refine ab_goto (pc := 97) (tgt := 43) dX7_sortIn_97 rfl ?_
        refine ab_sub_ (lv2 := [some (ab_R v0), some (ab_J v1), none, some (ab_I v3), none, some (ab_I (ab_w32 (v5 + (-1 : Int))))]) (ab_ss (ab_ss (ab_sn (ab_ss (ab_sn (ab_ss ab_s0)))))) ?_
        exact ih _ _ _ _ _ _ hk
noncomputable def f_X7_sortIn (a0 : Int) (a1 : Int) (a3 : Int) (h : ab_H) : Option ab_H :=
  (ab_on h 8 a0 (f_X7_numberOf a0 a1 h)).bind fun q1 =>
  if q1.1 = (-1 : Int) then
    (ab_get q1.2 8 0 a0).bind fun t2 =>
    if t2 < (72 : Int) then
      (ab_get q1.2 8 0 a0).bind fun t3 =>
      f_X7_sortIn_L43 (fun w100_0 w100_1 w100_3 w100_5 hx100 =>
        f_X7_sortIn_J100 w100_0 w100_1 w100_3 w100_5 hx100) ab_FU a0 a1 a3 t3 q1.2
    else
    some q1.2
  else
  (ab_get q1.2 8 2 a0).bind fun t4 =>
  (ab_ald q1.2 11 t4 q1.1).bind fun t5 =>
  (ab_ast q1.2 11 t4 q1.1 (ab_or t5 (ab_shl (1 : Int) a3))).bind fun h1 =>
  some h1
set_option maxRecDepth 20000 in
theorem ct_X7_sortIn {a0 a1 a3 : Int} {h : ab_H} {q : ab_H} (hk : f_X7_sortIn a0 a1 a3 h = some q) : ab_CT yX7_sortIn cX7_sortIn 6 none 1 23 [ab_R a0, ab_J a1, ab_I a3] h none q := by
  refine ab_CT.mk_ 2 (own := RX7) (ini := false) (lv := [some (ab_R a0), some (ab_J a1), none, some (ab_I a3), none, none]) rfl (by decide +kernel) (fun q => by cases q) rfl rfl ?_
  unfold f_X7_sortIn at hk
  show ab_E mm_X7_sortIn cX7_sortIn 0 _ [] h _ _
  refine ab_aload_n (pc := 0) (i := 0) dX7_sortIn_0 rfl rfl ?_
  refine ab_lload_n (pc := 1) (i := 1) dX7_sortIn_1 rfl rfl ?_
  obtain ⟨q1, hq1, hk⟩ := ab_bnd hk
  obtain ⟨hb, hq1⟩ := ab_on_some hq1
  refine ab_callVI (st := []) (as := [ab_J a1]) (b := a0) (pc := 2) dX7_sortIn_2 ml_RX7_38 my_X7_numberOf mv_X7_numberOf hb (ct_X7_numberOf hq1) ⟨Nat.le_of_ble_eq_true rfl, Nat.le_of_ble_eq_true rfl⟩ rfl (Nat.le_of_ble_eq_true rfl) rfl ?_
  refine ab_istore (pc := 5) (i := 4) (lv2 := [some (ab_R a0), some (ab_J a1), none, some (ab_I a3), some (ab_I q1.1), none]) dX7_sortIn_5 (Nat.le_of_ble_eq_true rfl) rfl rfl ?_
  refine ab_iload (pc := 7) (i := 4) dX7_sortIn_7 rfl ?_
  refine ab_iconst (pc := 9) dX7_sortIn_9 ab_k_m1 ?_
  refine ab_icmp_eq (pc := 10) (tgt := 27) dX7_sortIn_10 rfl (fun hc => ?_) (fun hc => ?_)
  · have hk := ab_ifp hk hc
    refine ab_aload_n (pc := 27) (i := 0) dX7_sortIn_27 rfl rfl ?_
    obtain ⟨t2, ht2, hk⟩ := ab_bnd hk
    refine ab_getI (pc := 28) dX7_sortIn_28 fl_RX7_19 ht2 ?_
    refine ab_bipush (pc := 31) dX7_sortIn_31 ab_p8_72 ab_k_72 ?_
    refine ab_icmp_lt (pc := 33) (tgt := 37) dX7_sortIn_33 rfl (fun hc => ?_) (fun hc => ?_)
    · have hk := ab_ifp hk hc
      refine ab_aload_n (pc := 37) (i := 0) dX7_sortIn_37 rfl rfl ?_
      obtain ⟨t3, ht3, hk⟩ := ab_bnd hk
      refine ab_getI (pc := 38) dX7_sortIn_38 fl_RX7_19 ht3 ?_
      refine ab_istore (pc := 41) (i := 5) (lv2 := [some (ab_R a0), some (ab_J a1), none, some (ab_I a3), some (ab_I q1.1), some (ab_I t3)]) dX7_sortIn_41 (Nat.le_of_ble_eq_true rfl) rfl rfl ?_
      refine ab_sub_ (lv2 := [some (ab_R a0), some (ab_J a1), none, some (ab_I a3), none, some (ab_I t3)]) (ab_ss (ab_ss (ab_sn (ab_ss (ab_sn (ab_ss ab_s0)))))) ?_
      refine e_X7_sortIn_L43 (fun w100_0 w100_1 w100_3 w100_5 hx100 q hk => ?_) _ _ _ _ _ _ _ hk
      · skip
        refine ab_sub_ (lv2 := [some (ab_R w100_0), some (ab_J w100_1), none, some (ab_I w100_3), none, some (ab_I w100_5)]) (ab_ss (ab_ss (ab_sn (ab_ss (ab_sn (ab_ss ab_s0)))))) ?_
        exact e_X7_sortIn_J100 _ _ _ _ _ _ hk
    · have hk := ab_ifn hk hc
      obtain rfl := Option.some.inj hk
      exact ab_retv (pc := 36) dX7_sortIn_36 rfl
  · have hk := ab_ifn hk hc
    refine ab_aload_n (pc := 13) (i := 0) dX7_sortIn_13 rfl rfl ?_
    obtain ⟨t4, ht4, hk⟩ := ab_bnd hk
    refine ab_getR (pc := 14) dX7_sortIn_14 fl_RX7_15 ht4 ?_
    refine ab_iload (pc := 17) (i := 4) dX7_sortIn_17 rfl ?_
    refine ab_dup2 (pc := 19) dX7_sortIn_19 rfl rfl ?_
    obtain ⟨t5, ht5, hk⟩ := ab_bnd hk
    refine ab_iald (pc := 20) dX7_sortIn_20 ht5 ?_
    refine ab_iconst (pc := 21) dX7_sortIn_21 ab_k_1 ?_
    refine ab_iload_n (pc := 22) (i := 3) dX7_sortIn_22 rfl rfl ?_
    refine ab_ishl (pc := 23) dX7_sortIn_23 ?_
    refine ab_ior (pc := 24) dX7_sortIn_24 ?_
    obtain ⟨h1, hh1, hk⟩ := ab_bnd hk
    refine ab_iast (pc := 25) dX7_sortIn_25 hh1 ?_
    obtain rfl := Option.some.inj hk
    exact ab_retv (pc := 26) dX7_sortIn_26 rfl
theorem dX7_gatherFrom_0 : decode cX7_gatherFrom 0 = .ok (.aload_n 0, 1) := by decide +kernel
theorem dX7_gatherFrom_1 : decode cX7_gatherFrom 1 = .ok (.iconst 0, 1) := by decide +kernel
theorem dX7_gatherFrom_2 : decode cX7_gatherFrom 2 = .ok (.putfield 19, 3) := by decide +kernel
theorem dX7_gatherFrom_5 : decode cX7_gatherFrom 5 = .ok (.iconst 0, 1) := by decide +kernel
theorem dX7_gatherFrom_6 : decode cX7_gatherFrom 6 = .ok (.istore_n 2, 1) := by decide +kernel
theorem dX7_gatherFrom_7 : decode cX7_gatherFrom 7 = .ok (.iload_n 2, 1) := by decide +kernel
theorem dX7_gatherFrom_8 : decode cX7_gatherFrom 8 = .ok (.aload_n 1, 1) := by decide +kernel
theorem dX7_gatherFrom_9 : decode cX7_gatherFrom 9 = .ok (.getfield 23, 3) := by decide +kernel
theorem dX7_gatherFrom_12 : decode cX7_gatherFrom 12 = .ok (.if_icmp .ge 47, 3) := by decide +kernel
theorem dX7_gatherFrom_15 : decode cX7_gatherFrom 15 = .ok (.iconst 0, 1) := by decide +kernel
theorem dX7_gatherFrom_16 : decode cX7_gatherFrom 16 = .ok (.istore_n 3, 1) := by decide +kernel
theorem dX7_gatherFrom_17 : decode cX7_gatherFrom 17 = .ok (.iload_n 3, 1) := by decide +kernel
theorem dX7_gatherFrom_18 : decode cX7_gatherFrom 18 = .ok (.aload_n 1, 1) := by decide +kernel
theorem dX7_gatherFrom_19 : decode cX7_gatherFrom 19 = .ok (.getfield 26, 3) := by decide +kernel
theorem dX7_gatherFrom_22 : decode cX7_gatherFrom 22 = .ok (.iload_n 2, 1) := by decide +kernel
theorem dX7_gatherFrom_23 : decode cX7_gatherFrom 23 = .ok (.iaload, 1) := by decide +kernel
theorem dX7_gatherFrom_24 : decode cX7_gatherFrom 24 = .ok (.if_icmp .ge 29, 3) := by decide +kernel
theorem dX7_gatherFrom_27 : decode cX7_gatherFrom 27 = .ok (.aload_n 0, 1) := by decide +kernel
theorem dX7_gatherFrom_28 : decode cX7_gatherFrom 28 = .ok (.aload_n 1, 1) := by decide +kernel
theorem dX7_gatherFrom_29 : decode cX7_gatherFrom 29 = .ok (.aload_n 1, 1) := by decide +kernel
theorem dX7_gatherFrom_30 : decode cX7_gatherFrom 30 = .ok (.getfield 29, 3) := by decide +kernel
theorem dX7_gatherFrom_33 : decode cX7_gatherFrom 33 = .ok (.iload_n 2, 1) := by decide +kernel
theorem dX7_gatherFrom_34 : decode cX7_gatherFrom 34 = .ok (.bipush 6, 2) := by decide +kernel
theorem dX7_gatherFrom_36 : decode cX7_gatherFrom 36 = .ok (.imul, 1) := by decide +kernel
theorem dX7_gatherFrom_37 : decode cX7_gatherFrom 37 = .ok (.iload_n 3, 1) := by decide +kernel
theorem dX7_gatherFrom_38 : decode cX7_gatherFrom 38 = .ok (.iadd, 1) := by decide +kernel
theorem dX7_gatherFrom_39 : decode cX7_gatherFrom 39 = .ok (.laload, 1) := by decide +kernel
theorem dX7_gatherFrom_40 : decode cX7_gatherFrom 40 = .ok (.invokevirtual 30, 3) := by decide +kernel
theorem dX7_gatherFrom_43 : decode cX7_gatherFrom 43 = .ok (.iload_n 2, 1) := by decide +kernel
theorem dX7_gatherFrom_44 : decode cX7_gatherFrom 44 = .ok (.invokevirtual 34, 3) := by decide +kernel
theorem dX7_gatherFrom_47 : decode cX7_gatherFrom 47 = .ok (.iinc 3 1, 3) := by decide +kernel
theorem dX7_gatherFrom_50 : decode cX7_gatherFrom 50 = .ok (.goto (-33), 3) := by decide +kernel
theorem dX7_gatherFrom_53 : decode cX7_gatherFrom 53 = .ok (.iinc 2 1, 3) := by decide +kernel
theorem dX7_gatherFrom_56 : decode cX7_gatherFrom 56 = .ok (.goto (-49), 3) := by decide +kernel
theorem dX7_gatherFrom_59 : decode cX7_gatherFrom 59 = .ok (.return_, 1) := by decide +kernel
abbrev mm_X7_gatherFrom : ab_M := (RX7, 4, none, false, 2, 49, none)
noncomputable def f_X7_gatherFrom_L17 (k53 : Int → Int → Int → ab_H → Option ab_H) : Nat → Int → Int → Int → Int → ab_H → Option ab_H
  | 0, _, _, _, _, _ => none
  | n + 1, v0, v1, v2, v3, h =>
    (ab_get h 1 2 v1).bind fun t1 =>
    (ab_ald h 11 t1 v2).bind fun t2 =>
    if t2 ≤ v3 then
      k53 v0 v1 v2 h
    else
    (ab_get h 1 5 v1).bind fun t3 =>
    (ab_ald h 12 t3 (ab_w32 ((ab_w32 (v2 * (6 : Int))) + v3))).bind fun t4 =>
    (ab_on h 1 v1 (f_X0_used v1 t4 h)).bind fun q5 =>
    (ab_on q5.2 8 v0 (f_X7_sortIn v0 q5.1 v2 q5.2)).bind fun q6 =>
    f_X7_gatherFrom_L17 k53 n v0 v1 v2 (ab_w32 (v3 + (1 : Int))) q6
set_option maxRecDepth 20000 in
theorem e_X7_gatherFrom_L17 {k53 : Int → Int → Int → ab_H → Option ab_H} (hk53 : ∀ (v0 : Int) (v1 : Int) (v2 : Int) (h : ab_H) (q : ab_H), k53 v0 v1 v2 h = some q → ab_E mm_X7_gatherFrom cX7_gatherFrom 53 [some (ab_R v0), some (ab_R v1), some (ab_I v2), none] [] h none q) : ∀ (n : Nat) (v0 : Int) (v1 : Int) (v2 : Int) (v3 : Int) (h : ab_H) (q : ab_H), f_X7_gatherFrom_L17 k53 n v0 v1 v2 v3 h = some q → ab_E mm_X7_gatherFrom cX7_gatherFrom 17 [some (ab_R v0), some (ab_R v1), some (ab_I v2), some (ab_I v3)] [] h none q := by
  intro n
  induction n with
  | zero => intro v0 v1 v2 v3 h q hk; cases hk
  | succ n ih =>
    intro v0 v1 v2 v3 h q hk
    unfold f_X7_gatherFrom_L17 at hk
    refine ab_iload_n (pc := 17) (i := 3) dX7_gatherFrom_17 rfl rfl ?_
    refine ab_aload_n (pc := 18) (i := 1) dX7_gatherFrom_18 rfl rfl ?_
    obtain ⟨t1, ht1, hk⟩ := ab_bnd hk
    refine ab_getR (pc := 19) dX7_gatherFrom_19 fl_RX7_26 ht1 ?_
    refine ab_iload_n (pc := 22) (i := 2) dX7_gatherFrom_22 rfl rfl ?_
    obtain ⟨t2, ht2, hk⟩ := ab_bnd hk
    refine ab_iald (pc := 23) dX7_gatherFrom_23 ht2 ?_
    refine ab_icmp_ge (pc := 24) (tgt := 53) dX7_gatherFrom_24 rfl (fun hc => ?_) (fun hc => ?_)
    · have hk := ab_ifp hk hc
      refine ab_sub_ (lv2 := [some (ab_R v0), some (ab_R v1), some (ab_I v2), none]) (ab_ss (ab_ss (ab_ss (ab_sn ab_s0)))) ?_
      exact hk53 _ _ _ _ _ hk
    · have hk := ab_ifn hk hc
      refine ab_aload_n (pc := 27) (i := 0) dX7_gatherFrom_27 rfl rfl ?_
      refine ab_aload_n (pc := 28) (i := 1) dX7_gatherFrom_28 rfl rfl ?_
      refine ab_aload_n (pc := 29) (i := 1) dX7_gatherFrom_29 rfl rfl ?_
      obtain ⟨t3, ht3, hk⟩ := ab_bnd hk
      refine ab_getR (pc := 30) dX7_gatherFrom_30 fl_RX7_29 ht3 ?_
      refine ab_iload_n (pc := 33) (i := 2) dX7_gatherFrom_33 rfl rfl ?_
      refine ab_bipush (pc := 34) dX7_gatherFrom_34 ab_p8_6 ab_k_6 ?_
      refine ab_imul (pc := 36) dX7_gatherFrom_36 ?_
      refine ab_iload_n (pc := 37) (i := 3) dX7_gatherFrom_37 rfl rfl ?_
      refine ab_iadd (pc := 38) dX7_gatherFrom_38 ?_
      obtain ⟨t4, ht4, hk⟩ := ab_bnd hk
      refine ab_lald (pc := 39) dX7_gatherFrom_39 ht4 ?_
      obtain ⟨q5, hq5, hk⟩ := ab_bnd hk
      obtain ⟨hb, hq5⟩ := ab_on_some hq5
      refine ab_callVJ (st := [ab_R v0]) (as := [ab_J t4]) (b := v1) (pc := 40) dX7_gatherFrom_40 ml_RX7_30 my_X0_used mv_X0_used hb (ct_X0_used hq5) ⟨Nat.le_of_ble_eq_true rfl, Nat.le_of_ble_eq_true rfl⟩ rfl (Nat.le_of_ble_eq_true rfl) rfl ?_
      refine ab_iload_n (pc := 43) (i := 2) dX7_gatherFrom_43 rfl rfl ?_
      obtain ⟨q6, hq6, hk⟩ := ab_bnd hk
      obtain ⟨hb, hq6⟩ := ab_on_some hq6
      refine ab_callVV (st := []) (as := [ab_J q5.1, ab_I v2]) (b := v0) (pc := 44) dX7_gatherFrom_44 ml_RX7_34 my_X7_sortIn mv_X7_sortIn hb (ct_X7_sortIn hq6) ⟨Nat.le_of_ble_eq_true rfl, Nat.le_of_ble_eq_true rfl⟩ rfl (Nat.le_of_ble_eq_true rfl) rfl ?_
      refine ab_iinc (pc := 47) (i := 3) (lv2 := [some (ab_R v0), some (ab_R v1), some (ab_I v2), some (ab_I (ab_w32 (v3 + (1 : Int))))]) dX7_gatherFrom_47 rfl (Nat.le_of_ble_eq_true rfl) rfl rfl ?_
      refine ab_goto (pc := 50) (tgt := 17) dX7_gatherFrom_50 rfl ?_
      refine ab_sub_ (lv2 := [some (ab_R v0), some (ab_R v1), some (ab_I v2), some (ab_I (ab_w32 (v3 + (1 : Int))))]) (ab_ss (ab_ss (ab_ss (ab_ss ab_s0)))) ?_
      exact ih _ _ _ _ _ _ hk
noncomputable def f_X7_gatherFrom_L7 : Nat → Int → Int → Int → ab_H → Option ab_H
  | 0, _, _, _, _ => none
  | n + 1, v0, v1, v2, h =>
    (ab_get h 1 0 v1).bind fun t1 =>
    if t1 ≤ v2 then
      some h
    else
    f_X7_gatherFrom_L17 (fun w53_0 w53_1 w53_2 hx53 =>
      f_X7_gatherFrom_L7 n w53_0 w53_1 (ab_w32 (w53_2 + (1 : Int))) hx53) ab_FU v0 v1 v2 (0 : Int) h
set_option maxRecDepth 20000 in
theorem e_X7_gatherFrom_L7 : ∀ (n : Nat) (v0 : Int) (v1 : Int) (v2 : Int) (h : ab_H) (q : ab_H), f_X7_gatherFrom_L7 n v0 v1 v2 h = some q → ab_E mm_X7_gatherFrom cX7_gatherFrom 7 [some (ab_R v0), some (ab_R v1), some (ab_I v2), none] [] h none q := by
  intro n
  induction n with
  | zero => intro v0 v1 v2 h q hk; cases hk
  | succ n ih =>
    intro v0 v1 v2 h q hk
    unfold f_X7_gatherFrom_L7 at hk
    refine ab_iload_n (pc := 7) (i := 2) dX7_gatherFrom_7 rfl rfl ?_
    refine ab_aload_n (pc := 8) (i := 1) dX7_gatherFrom_8 rfl rfl ?_
    obtain ⟨t1, ht1, hk⟩ := ab_bnd hk
    refine ab_getI (pc := 9) dX7_gatherFrom_9 fl_RX7_23 ht1 ?_
    refine ab_icmp_ge (pc := 12) (tgt := 59) dX7_gatherFrom_12 rfl (fun hc => ?_) (fun hc => ?_)
    · have hk := ab_ifp hk hc
      obtain rfl := Option.some.inj hk
      exact ab_retv (pc := 59) dX7_gatherFrom_59 rfl
    · have hk := ab_ifn hk hc
      refine ab_iconst (pc := 15) dX7_gatherFrom_15 ab_k_0 ?_
      refine ab_istore_n (pc := 16) (i := 3) (lv2 := [some (ab_R v0), some (ab_R v1), some (ab_I v2), some (ab_I (0 : Int))]) dX7_gatherFrom_16 rfl (Nat.le_of_ble_eq_true rfl) rfl rfl ?_
      refine ab_sub_ (lv2 := [some (ab_R v0), some (ab_R v1), some (ab_I v2), some (ab_I (0 : Int))]) (ab_ss (ab_ss (ab_ss (ab_ss ab_s0)))) ?_
      refine e_X7_gatherFrom_L17 (fun w53_0 w53_1 w53_2 hx53 q hk => ?_) _ _ _ _ _ _ _ hk
      · skip
        refine ab_iinc (pc := 53) (i := 2) (lv2 := [some (ab_R w53_0), some (ab_R w53_1), some (ab_I (ab_w32 (w53_2 + (1 : Int)))), none]) dX7_gatherFrom_53 rfl (Nat.le_of_ble_eq_true rfl) rfl rfl ?_
        refine ab_goto (pc := 56) (tgt := 7) dX7_gatherFrom_56 rfl ?_
        refine ab_sub_ (lv2 := [some (ab_R w53_0), some (ab_R w53_1), some (ab_I (ab_w32 (w53_2 + (1 : Int)))), none]) (ab_ss (ab_ss (ab_ss (ab_sn ab_s0)))) ?_
        exact ih _ _ _ _ _ hk
noncomputable def f_X7_gatherFrom (a0 : Int) (a1 : Int) (h : ab_H) : Option ab_H :=
  (ab_put h 8 0 a0 (0 : Int)).bind fun h1 =>
  f_X7_gatherFrom_L7 ab_FU a0 a1 (0 : Int) h1
set_option maxRecDepth 20000 in
theorem ct_X7_gatherFrom {a0 a1 : Int} {h : ab_H} {q : ab_H} (hk : f_X7_gatherFrom a0 a1 h = some q) : ab_CT yX7_gatherFrom cX7_gatherFrom 4 none 2 49 [ab_R a0, ab_R a1] h none q := by
  refine ab_CT.mk_ 2 (own := RX7) (ini := false) (lv := [some (ab_R a0), some (ab_R a1), none, none]) rfl (by decide +kernel) (fun q => by cases q) rfl rfl ?_
  unfold f_X7_gatherFrom at hk
  show ab_E mm_X7_gatherFrom cX7_gatherFrom 0 _ [] h _ _
  refine ab_aload_n (pc := 0) (i := 0) dX7_gatherFrom_0 rfl rfl ?_
  refine ab_iconst (pc := 1) dX7_gatherFrom_1 ab_k_0 ?_
  obtain ⟨h1, hh1, hk⟩ := ab_bnd hk
  refine ab_putI_ (pc := 2) dX7_gatherFrom_2 fl_RX7_19 (fun q => by cases q) hh1 ?_
  refine ab_iconst (pc := 5) dX7_gatherFrom_5 ab_k_0 ?_
  refine ab_istore_n (pc := 6) (i := 2) (lv2 := [some (ab_R a0), some (ab_R a1), some (ab_I (0 : Int)), none]) dX7_gatherFrom_6 rfl (Nat.le_of_ble_eq_true rfl) rfl rfl ?_
  refine ab_sub_ (lv2 := [some (ab_R a0), some (ab_R a1), some (ab_I (0 : Int)), none]) (ab_ss (ab_ss (ab_ss (ab_sn ab_s0)))) ?_
  refine e_X7_gatherFrom_L7 _ _ _ _ _ _ hk
theorem dX7_stringCount_0 : decode cX7_stringCount 0 = .ok (.aload_n 0, 1) := by decide +kernel
theorem dX7_stringCount_1 : decode cX7_stringCount 1 = .ok (.getfield 15, 3) := by decide +kernel
theorem dX7_stringCount_4 : decode cX7_stringCount 4 = .ok (.iload_n 1, 1) := by decide +kernel
theorem dX7_stringCount_5 : decode cX7_stringCount 5 = .ok (.iaload, 1) := by decide +kernel
theorem dX7_stringCount_6 : decode cX7_stringCount 6 = .ok (.invokestatic 42, 3) := by decide +kernel
theorem dX7_stringCount_9 : decode cX7_stringCount 9 = .ok (.ireturn, 1) := by decide +kernel
abbrev mm_X7_stringCount : ab_M := (RX7, 2, (some .int), false, 1, 20, none)
noncomputable def f_X7_stringCount (a0 : Int) (a1 : Int) (h : ab_H) : Option (Int × ab_H) :=
  (ab_get h 8 2 a0).bind fun t1 =>
  (ab_ald h 11 t1 a1).bind fun t2 =>
  (f_J6_bitCount_0f7a4 t2 h).bind fun q3 =>
  some (q3.1, q3.2)
set_option maxRecDepth 20000 in
theorem ct_X7_stringCount {a0 a1 : Int} {h : ab_H} {q : Int × ab_H} (hk : f_X7_stringCount a0 a1 h = some q) : ab_CT yX7_stringCount cX7_stringCount 2 (some .int) 1 20 [ab_R a0, ab_I a1] h (some (ab_I q.1)) q.2 := by
  refine ab_CT.mk_ 0 (own := RX7) (ini := false) (lv := [some (ab_R a0), some (ab_I a1)]) rfl (by decide +kernel) (fun q => by cases q) rfl rfl ?_
  unfold f_X7_stringCount at hk
  show ab_E mm_X7_stringCount cX7_stringCount 0 _ [] h _ _
  refine ab_aload_n (pc := 0) (i := 0) dX7_stringCount_0 rfl rfl ?_
  obtain ⟨t1, ht1, hk⟩ := ab_bnd hk
  refine ab_getR (pc := 1) dX7_stringCount_1 fl_RX7_15 ht1 ?_
  refine ab_iload_n (pc := 4) (i := 1) dX7_stringCount_4 rfl rfl ?_
  obtain ⟨t2, ht2, hk⟩ := ab_bnd hk
  refine ab_iald (pc := 5) dX7_stringCount_5 ht2 ?_
  obtain ⟨q3, hq3, hk⟩ := ab_bnd hk
  refine ab_callSI (st := []) (as := [ab_I t2]) (pc := 6) dX7_stringCount_6 ml_RX7_42 my_J6_bitCount_0f7a4 ms_J6_bitCount_0f7a4 (ct_J6_bitCount_0f7a4 hq3) ⟨Nat.le_of_ble_eq_true rfl, Nat.le_of_ble_eq_true rfl⟩ rfl (Nat.le_of_ble_eq_true rfl) rfl ?_
  obtain rfl := Option.some.inj hk
  exact ab_reti (pc := 9) dX7_stringCount_9 (Or.inl rfl)
theorem dX7_rankOf_0 : decode cX7_rankOf 0 = .ok (.iconst 0, 1) := by decide +kernel
theorem dX7_rankOf_1 : decode cX7_rankOf 1 = .ok (.istore_n 2, 1) := by decide +kernel
theorem dX7_rankOf_2 : decode cX7_rankOf 2 = .ok (.aload_n 0, 1) := by decide +kernel
theorem dX7_rankOf_3 : decode cX7_rankOf 3 = .ok (.iload_n 1, 1) := by decide +kernel
theorem dX7_rankOf_4 : decode cX7_rankOf 4 = .ok (.invokevirtual 48, 3) := by decide +kernel
theorem dX7_rankOf_7 : decode cX7_rankOf 7 = .ok (.istore_n 3, 1) := by decide +kernel
theorem dX7_rankOf_8 : decode cX7_rankOf 8 = .ok (.iconst 0, 1) := by decide +kernel
theorem dX7_rankOf_9 : decode cX7_rankOf 9 = .ok (.istore 4, 2) := by decide +kernel
theorem dX7_rankOf_11 : decode cX7_rankOf 11 = .ok (.iload 4, 2) := by decide +kernel
theorem dX7_rankOf_13 : decode cX7_rankOf 13 = .ok (.aload_n 0, 1) := by decide +kernel
theorem dX7_rankOf_14 : decode cX7_rankOf 14 = .ok (.getfield 19, 3) := by decide +kernel
theorem dX7_rankOf_17 : decode cX7_rankOf 17 = .ok (.if_icmp .ge 38, 3) := by decide +kernel
theorem dX7_rankOf_20 : decode cX7_rankOf 20 = .ok (.aload_n 0, 1) := by decide +kernel
theorem dX7_rankOf_21 : decode cX7_rankOf 21 = .ok (.iload 4, 2) := by decide +kernel
theorem dX7_rankOf_23 : decode cX7_rankOf 23 = .ok (.invokevirtual 48, 3) := by decide +kernel
theorem dX7_rankOf_26 : decode cX7_rankOf 26 = .ok (.istore 5, 2) := by decide +kernel
theorem dX7_rankOf_28 : decode cX7_rankOf 28 = .ok (.iload 5, 2) := by decide +kernel
theorem dX7_rankOf_30 : decode cX7_rankOf 30 = .ok (.iload_n 3, 1) := by decide +kernel
theorem dX7_rankOf_31 : decode cX7_rankOf 31 = .ok (.if_icmp .gt 15, 3) := by decide +kernel
theorem dX7_rankOf_34 : decode cX7_rankOf 34 = .ok (.iload 5, 2) := by decide +kernel
theorem dX7_rankOf_36 : decode cX7_rankOf 36 = .ok (.iload_n 3, 1) := by decide +kernel
theorem dX7_rankOf_37 : decode cX7_rankOf 37 = .ok (.if_icmp .ne 12, 3) := by decide +kernel
theorem dX7_rankOf_40 : decode cX7_rankOf 40 = .ok (.iload 4, 2) := by decide +kernel
theorem dX7_rankOf_42 : decode cX7_rankOf 42 = .ok (.iload_n 1, 1) := by decide +kernel
theorem dX7_rankOf_43 : decode cX7_rankOf 43 = .ok (.if_icmp .ge 6, 3) := by decide +kernel
theorem dX7_rankOf_46 : decode cX7_rankOf 46 = .ok (.iinc 2 1, 3) := by decide +kernel
theorem dX7_rankOf_49 : decode cX7_rankOf 49 = .ok (.iinc 4 1, 3) := by decide +kernel
theorem dX7_rankOf_52 : decode cX7_rankOf 52 = .ok (.goto (-41), 3) := by decide +kernel
theorem dX7_rankOf_55 : decode cX7_rankOf 55 = .ok (.iload_n 2, 1) := by decide +kernel
theorem dX7_rankOf_56 : decode cX7_rankOf 56 = .ok (.ireturn, 1) := by decide +kernel
abbrev mm_X7_rankOf : ab_M := (RX7, 6, (some .int), false, 2, 41, none)
noncomputable def f_X7_rankOf_J49 (rec : Int → Int → Int → Int → Int → ab_H → Option (Int × ab_H)) (v0 : Int) (v1 : Int) (v2 : Int) (v3 : Int) (v4 : Int) (h : ab_H) : Option (Int × ab_H) :=
  rec v0 v1 v2 v3 (ab_w32 (v4 + (1 : Int))) h
set_option maxRecDepth 20000 in
theorem e_X7_rankOf_J49 {rec : Int → Int → Int → Int → Int → ab_H → Option (Int × ab_H)} (hrec : ∀ (v0 : Int) (v1 : Int) (v2 : Int) (v3 : Int) (v4 : Int) (h : ab_H) (q : Int × ab_H), rec v0 v1 v2 v3 v4 h = some q → ab_E mm_X7_rankOf cX7_rankOf 11 [some (ab_R v0), some (ab_I v1), some (ab_I v2), some (ab_I v3), some (ab_I v4), none] [] h (some (ab_I q.1)) q.2) : ∀ (v0 : Int) (v1 : Int) (v2 : Int) (v3 : Int) (v4 : Int) (h : ab_H) (q : Int × ab_H), f_X7_rankOf_J49 rec v0 v1 v2 v3 v4 h = some q → ab_E mm_X7_rankOf cX7_rankOf 49 [some (ab_R v0), some (ab_I v1), some (ab_I v2), some (ab_I v3), some (ab_I v4), none] [] h (some (ab_I q.1)) q.2 := by
  intro v0 v1 v2 v3 v4 h q hk
  unfold f_X7_rankOf_J49 at hk
  refine ab_iinc (pc := 49) (i := 4) (lv2 := [some (ab_R v0), some (ab_I v1), some (ab_I v2), some (ab_I v3), some (ab_I (ab_w32 (v4 + (1 : Int)))), none]) dX7_rankOf_49 rfl (Nat.le_of_ble_eq_true rfl) rfl rfl ?_
  refine ab_goto (pc := 52) (tgt := 11) dX7_rankOf_52 rfl ?_
  refine ab_sub_ (lv2 := [some (ab_R v0), some (ab_I v1), some (ab_I v2), some (ab_I v3), some (ab_I (ab_w32 (v4 + (1 : Int)))), none]) (ab_ss (ab_ss (ab_ss (ab_ss (ab_ss (ab_sn ab_s0)))))) ?_
  exact hrec _ _ _ _ _ _ _ hk
noncomputable def f_X7_rankOf_J46 (rec : Int → Int → Int → Int → Int → ab_H → Option (Int × ab_H)) (v0 : Int) (v1 : Int) (v2 : Int) (v3 : Int) (v4 : Int) (h : ab_H) : Option (Int × ab_H) :=
  f_X7_rankOf_J49 rec v0 v1 (ab_w32 (v2 + (1 : Int))) v3 v4 h
set_option maxRecDepth 20000 in
theorem e_X7_rankOf_J46 {rec : Int → Int → Int → Int → Int → ab_H → Option (Int × ab_H)} (hrec : ∀ (v0 : Int) (v1 : Int) (v2 : Int) (v3 : Int) (v4 : Int) (h : ab_H) (q : Int × ab_H), rec v0 v1 v2 v3 v4 h = some q → ab_E mm_X7_rankOf cX7_rankOf 11 [some (ab_R v0), some (ab_I v1), some (ab_I v2), some (ab_I v3), some (ab_I v4), none] [] h (some (ab_I q.1)) q.2) : ∀ (v0 : Int) (v1 : Int) (v2 : Int) (v3 : Int) (v4 : Int) (h : ab_H) (q : Int × ab_H), f_X7_rankOf_J46 rec v0 v1 v2 v3 v4 h = some q → ab_E mm_X7_rankOf cX7_rankOf 46 [some (ab_R v0), some (ab_I v1), some (ab_I v2), some (ab_I v3), some (ab_I v4), none] [] h (some (ab_I q.1)) q.2 := by
  intro v0 v1 v2 v3 v4 h q hk
  unfold f_X7_rankOf_J46 at hk
  refine ab_iinc (pc := 46) (i := 2) (lv2 := [some (ab_R v0), some (ab_I v1), some (ab_I (ab_w32 (v2 + (1 : Int)))), some (ab_I v3), some (ab_I v4), none]) dX7_rankOf_46 rfl (Nat.le_of_ble_eq_true rfl) rfl rfl ?_
  refine ab_sub_ (lv2 := [some (ab_R v0), some (ab_I v1), some (ab_I (ab_w32 (v2 + (1 : Int)))), some (ab_I v3), some (ab_I v4), none]) (ab_ss (ab_ss (ab_ss (ab_ss (ab_ss (ab_sn ab_s0)))))) ?_
  exact e_X7_rankOf_J49 hrec _ _ _ _ _ _ _ hk
noncomputable def f_X7_rankOf_L11 : Nat → Int → Int → Int → Int → Int → ab_H → Option (Int × ab_H)
  | 0, _, _, _, _, _, _ => none
  | n + 1, v0, v1, v2, v3, v4, h =>
    (ab_get h 8 0 v0).bind fun t1 =>
    if t1 ≤ v4 then
      some (v2, h)
    else
    (ab_on h 8 v0 (f_X7_stringCount v0 v4 h)).bind fun q2 =>
    if v3 < q2.1 then
      f_X7_rankOf_J46 (f_X7_rankOf_L11 n) v0 v1 v2 v3 v4 q2.2
    else
    if q2.1 = v3 then
      if v1 ≤ v4 then
        f_X7_rankOf_J49 (f_X7_rankOf_L11 n) v0 v1 v2 v3 v4 q2.2
      else
      f_X7_rankOf_J46 (f_X7_rankOf_L11 n) v0 v1 v2 v3 v4 q2.2
    else
    f_X7_rankOf_J49 (f_X7_rankOf_L11 n) v0 v1 v2 v3 v4 q2.2
set_option maxRecDepth 20000 in
theorem e_X7_rankOf_L11 : ∀ (n : Nat) (v0 : Int) (v1 : Int) (v2 : Int) (v3 : Int) (v4 : Int) (h : ab_H) (q : Int × ab_H), f_X7_rankOf_L11 n v0 v1 v2 v3 v4 h = some q → ab_E mm_X7_rankOf cX7_rankOf 11 [some (ab_R v0), some (ab_I v1), some (ab_I v2), some (ab_I v3), some (ab_I v4), none] [] h (some (ab_I q.1)) q.2 := by
  intro n
  induction n with
  | zero => intro v0 v1 v2 v3 v4 h q hk; cases hk
  | succ n ih =>
    intro v0 v1 v2 v3 v4 h q hk
    unfold f_X7_rankOf_L11 at hk
    refine ab_iload (pc := 11) (i := 4) dX7_rankOf_11 rfl ?_
    refine ab_aload_n (pc := 13) (i := 0) dX7_rankOf_13 rfl rfl ?_
    obtain ⟨t1, ht1, hk⟩ := ab_bnd hk
    refine ab_getI (pc := 14) dX7_rankOf_14 fl_RX7_19 ht1 ?_
    refine ab_icmp_ge (pc := 17) (tgt := 55) dX7_rankOf_17 rfl (fun hc => ?_) (fun hc => ?_)
    · have hk := ab_ifp hk hc
      refine ab_iload_n (pc := 55) (i := 2) dX7_rankOf_55 rfl rfl ?_
      obtain rfl := Option.some.inj hk
      exact ab_reti (pc := 56) dX7_rankOf_56 (Or.inl rfl)
    · have hk := ab_ifn hk hc
      refine ab_aload_n (pc := 20) (i := 0) dX7_rankOf_20 rfl rfl ?_
      refine ab_iload (pc := 21) (i := 4) dX7_rankOf_21 rfl ?_
      obtain ⟨q2, hq2, hk⟩ := ab_bnd hk
      obtain ⟨hb, hq2⟩ := ab_on_some hq2
      refine ab_callVI (st := []) (as := [ab_I v4]) (b := v0) (pc := 23) dX7_rankOf_23 ml_RX7_48 my_X7_stringCount mv_X7_stringCount hb (ct_X7_stringCount hq2) ⟨Nat.le_of_ble_eq_true rfl, Nat.le_of_ble_eq_true rfl⟩ rfl (Nat.le_of_ble_eq_true rfl) rfl ?_
      refine ab_istore (pc := 26) (i := 5) (lv2 := [some (ab_R v0), some (ab_I v1), some (ab_I v2), some (ab_I v3), some (ab_I v4), some (ab_I q2.1)]) dX7_rankOf_26 (Nat.le_of_ble_eq_true rfl) rfl rfl ?_
      refine ab_iload (pc := 28) (i := 5) dX7_rankOf_28 rfl ?_
      refine ab_iload_n (pc := 30) (i := 3) dX7_rankOf_30 rfl rfl ?_
      refine ab_icmp_gt (pc := 31) (tgt := 46) dX7_rankOf_31 rfl (fun hc => ?_) (fun hc => ?_)
      · have hk := ab_ifp hk hc
        refine ab_sub_ (lv2 := [some (ab_R v0), some (ab_I v1), some (ab_I v2), some (ab_I v3), some (ab_I v4), none]) (ab_ss (ab_ss (ab_ss (ab_ss (ab_ss (ab_sn ab_s0)))))) ?_
        exact e_X7_rankOf_J46 ih _ _ _ _ _ _ _ hk
      · have hk := ab_ifn hk hc
        refine ab_iload (pc := 34) (i := 5) dX7_rankOf_34 rfl ?_
        refine ab_iload_n (pc := 36) (i := 3) dX7_rankOf_36 rfl rfl ?_
        refine ab_icmp_ne (pc := 37) (tgt := 49) dX7_rankOf_37 rfl (fun hc => ?_) (fun hc => ?_)
        · have hk := ab_ifn hk hc
          refine ab_sub_ (lv2 := [some (ab_R v0), some (ab_I v1), some (ab_I v2), some (ab_I v3), some (ab_I v4), none]) (ab_ss (ab_ss (ab_ss (ab_ss (ab_ss (ab_sn ab_s0)))))) ?_
          exact e_X7_rankOf_J49 ih _ _ _ _ _ _ _ hk
        · have hk := ab_ifp hk hc
          refine ab_iload (pc := 40) (i := 4) dX7_rankOf_40 rfl ?_
          refine ab_iload_n (pc := 42) (i := 1) dX7_rankOf_42 rfl rfl ?_
          refine ab_icmp_ge (pc := 43) (tgt := 49) dX7_rankOf_43 rfl (fun hc => ?_) (fun hc => ?_)
          · have hk := ab_ifp hk hc
            refine ab_sub_ (lv2 := [some (ab_R v0), some (ab_I v1), some (ab_I v2), some (ab_I v3), some (ab_I v4), none]) (ab_ss (ab_ss (ab_ss (ab_ss (ab_ss (ab_sn ab_s0)))))) ?_
            exact e_X7_rankOf_J49 ih _ _ _ _ _ _ _ hk
          · have hk := ab_ifn hk hc
            refine ab_sub_ (lv2 := [some (ab_R v0), some (ab_I v1), some (ab_I v2), some (ab_I v3), some (ab_I v4), none]) (ab_ss (ab_ss (ab_ss (ab_ss (ab_ss (ab_sn ab_s0)))))) ?_
            exact e_X7_rankOf_J46 ih _ _ _ _ _ _ _ hk
noncomputable def f_X7_rankOf (a0 : Int) (a1 : Int) (h : ab_H) : Option (Int × ab_H) :=
  (ab_on h 8 a0 (f_X7_stringCount a0 a1 h)).bind fun q1 =>
  f_X7_rankOf_L11 ab_FU a0 a1 (0 : Int) q1.1 (0 : Int) q1.2
set_option maxRecDepth 20000 in
theorem ct_X7_rankOf {a0 a1 : Int} {h : ab_H} {q : Int × ab_H} (hk : f_X7_rankOf a0 a1 h = some q) : ab_CT yX7_rankOf cX7_rankOf 6 (some .int) 2 41 [ab_R a0, ab_I a1] h (some (ab_I q.1)) q.2 := by
  refine ab_CT.mk_ 4 (own := RX7) (ini := false) (lv := [some (ab_R a0), some (ab_I a1), none, none, none, none]) rfl (by decide +kernel) (fun q => by cases q) rfl rfl ?_
  unfold f_X7_rankOf at hk
  show ab_E mm_X7_rankOf cX7_rankOf 0 _ [] h _ _
  refine ab_iconst (pc := 0) dX7_rankOf_0 ab_k_0 ?_
  refine ab_istore_n (pc := 1) (i := 2) (lv2 := [some (ab_R a0), some (ab_I a1), some (ab_I (0 : Int)), none, none, none]) dX7_rankOf_1 rfl (Nat.le_of_ble_eq_true rfl) rfl rfl ?_
  refine ab_aload_n (pc := 2) (i := 0) dX7_rankOf_2 rfl rfl ?_
  refine ab_iload_n (pc := 3) (i := 1) dX7_rankOf_3 rfl rfl ?_
  obtain ⟨q1, hq1, hk⟩ := ab_bnd hk
  obtain ⟨hb, hq1⟩ := ab_on_some hq1
  refine ab_callVI (st := []) (as := [ab_I a1]) (b := a0) (pc := 4) dX7_rankOf_4 ml_RX7_48 my_X7_stringCount mv_X7_stringCount hb (ct_X7_stringCount hq1) ⟨Nat.le_of_ble_eq_true rfl, Nat.le_of_ble_eq_true rfl⟩ rfl (Nat.le_of_ble_eq_true rfl) rfl ?_
  refine ab_istore_n (pc := 7) (i := 3) (lv2 := [some (ab_R a0), some (ab_I a1), some (ab_I (0 : Int)), some (ab_I q1.1), none, none]) dX7_rankOf_7 rfl (Nat.le_of_ble_eq_true rfl) rfl rfl ?_
  refine ab_iconst (pc := 8) dX7_rankOf_8 ab_k_0 ?_
  refine ab_istore (pc := 9) (i := 4) (lv2 := [some (ab_R a0), some (ab_I a1), some (ab_I (0 : Int)), some (ab_I q1.1), some (ab_I (0 : Int)), none]) dX7_rankOf_9 (Nat.le_of_ble_eq_true rfl) rfl rfl ?_
  refine ab_sub_ (lv2 := [some (ab_R a0), some (ab_I a1), some (ab_I (0 : Int)), some (ab_I q1.1), some (ab_I (0 : Int)), none]) (ab_ss (ab_ss (ab_ss (ab_ss (ab_ss (ab_sn ab_s0)))))) ?_
  refine e_X7_rankOf_L11 _ _ _ _ _ _ _ _ hk
theorem dX7_areAllIn_0 : decode cX7_areAllIn 0 = .ok (.iconst 0, 1) := by decide +kernel
theorem dX7_areAllIn_1 : decode cX7_areAllIn 1 = .ok (.istore_n 2, 1) := by decide +kernel
theorem dX7_areAllIn_2 : decode cX7_areAllIn 2 = .ok (.iload_n 2, 1) := by decide +kernel
theorem dX7_areAllIn_3 : decode cX7_areAllIn 3 = .ok (.aload_n 0, 1) := by decide +kernel
theorem dX7_areAllIn_4 : decode cX7_areAllIn 4 = .ok (.getfield 19, 3) := by decide +kernel
theorem dX7_areAllIn_7 : decode cX7_areAllIn 7 = .ok (.if_icmp .ge 22, 3) := by decide +kernel
theorem dX7_areAllIn_10 : decode cX7_areAllIn 10 = .ok (.aload_n 0, 1) := by decide +kernel
theorem dX7_areAllIn_11 : decode cX7_areAllIn 11 = .ok (.getfield 15, 3) := by decide +kernel
theorem dX7_areAllIn_14 : decode cX7_areAllIn 14 = .ok (.iload_n 2, 1) := by decide +kernel
theorem dX7_areAllIn_15 : decode cX7_areAllIn 15 = .ok (.iaload, 1) := by decide +kernel
theorem dX7_areAllIn_16 : decode cX7_areAllIn 16 = .ok (.iload_n 1, 1) := by decide +kernel
theorem dX7_areAllIn_17 : decode cX7_areAllIn 17 = .ok (.iand, 1) := by decide +kernel
theorem dX7_areAllIn_18 : decode cX7_areAllIn 18 = .ok (.ifCond .ne 5, 3) := by decide +kernel
theorem dX7_areAllIn_21 : decode cX7_areAllIn 21 = .ok (.iconst 0, 1) := by decide +kernel
theorem dX7_areAllIn_22 : decode cX7_areAllIn 22 = .ok (.ireturn, 1) := by decide +kernel
theorem dX7_areAllIn_23 : decode cX7_areAllIn 23 = .ok (.iinc 2 1, 3) := by decide +kernel
theorem dX7_areAllIn_26 : decode cX7_areAllIn 26 = .ok (.goto (-24), 3) := by decide +kernel
theorem dX7_areAllIn_29 : decode cX7_areAllIn 29 = .ok (.iconst 1, 1) := by decide +kernel
theorem dX7_areAllIn_30 : decode cX7_areAllIn 30 = .ok (.ireturn, 1) := by decide +kernel
abbrev mm_X7_areAllIn : ab_M := (RX7, 3, (some .boolean), false, 0, 0, none)
noncomputable def f_X7_areAllIn_L2 : Nat → Int → Int → Int → ab_H → Option (Int × ab_H)
  | 0, _, _, _, _ => none
  | n + 1, v0, v1, v2, h =>
    (ab_get h 8 0 v0).bind fun t1 =>
    if t1 ≤ v2 then
      some ((1 : Int), h)
    else
    (ab_get h 8 2 v0).bind fun t2 =>
    (ab_ald h 11 t2 v2).bind fun t3 =>
    if ab_and t3 v1 = (0 : Int) then
      some ((0 : Int), h)
    else
    f_X7_areAllIn_L2 n v0 v1 (ab_w32 (v2 + (1 : Int))) h
set_option maxRecDepth 20000 in
theorem e_X7_areAllIn_L2 : ∀ (n : Nat) (v0 : Int) (v1 : Int) (v2 : Int) (h : ab_H) (q : Int × ab_H), f_X7_areAllIn_L2 n v0 v1 v2 h = some q → ab_E mm_X7_areAllIn cX7_areAllIn 2 [some (ab_R v0), some (ab_I v1), some (ab_I v2)] [] h (some (ab_I q.1)) q.2 := by
  intro n
  induction n with
  | zero => intro v0 v1 v2 h q hk; cases hk
  | succ n ih =>
    intro v0 v1 v2 h q hk
    unfold f_X7_areAllIn_L2 at hk
    refine ab_iload_n (pc := 2) (i := 2) dX7_areAllIn_2 rfl rfl ?_
    refine ab_aload_n (pc := 3) (i := 0) dX7_areAllIn_3 rfl rfl ?_
    obtain ⟨t1, ht1, hk⟩ := ab_bnd hk
    refine ab_getI (pc := 4) dX7_areAllIn_4 fl_RX7_19 ht1 ?_
    refine ab_icmp_ge (pc := 7) (tgt := 29) dX7_areAllIn_7 rfl (fun hc => ?_) (fun hc => ?_)
    · have hk := ab_ifp hk hc
      refine ab_iconst (pc := 29) dX7_areAllIn_29 ab_k_1 ?_
      obtain rfl := Option.some.inj hk
      exact ab_retz (pc := 30) dX7_areAllIn_30 rfl rfl
    · have hk := ab_ifn hk hc
      refine ab_aload_n (pc := 10) (i := 0) dX7_areAllIn_10 rfl rfl ?_
      obtain ⟨t2, ht2, hk⟩ := ab_bnd hk
      refine ab_getR (pc := 11) dX7_areAllIn_11 fl_RX7_15 ht2 ?_
      refine ab_iload_n (pc := 14) (i := 2) dX7_areAllIn_14 rfl rfl ?_
      obtain ⟨t3, ht3, hk⟩ := ab_bnd hk
      refine ab_iald (pc := 15) dX7_areAllIn_15 ht3 ?_
      refine ab_iload_n (pc := 16) (i := 1) dX7_areAllIn_16 rfl rfl ?_
      refine ab_iand (pc := 17) dX7_areAllIn_17 ?_
      refine ab_if_ne (pc := 18) (tgt := 23) dX7_areAllIn_18 rfl (fun hc => ?_) (fun hc => ?_)
      · have hk := ab_ifn hk hc
        refine ab_iinc (pc := 23) (i := 2) (lv2 := [some (ab_R v0), some (ab_I v1), some (ab_I (ab_w32 (v2 + (1 : Int))))]) dX7_areAllIn_23 rfl (Nat.le_of_ble_eq_true rfl) rfl rfl ?_
        refine ab_goto (pc := 26) (tgt := 2) dX7_areAllIn_26 rfl ?_
        refine ab_sub_ (lv2 := [some (ab_R v0), some (ab_I v1), some (ab_I (ab_w32 (v2 + (1 : Int))))]) (ab_ss (ab_ss (ab_ss ab_s0))) ?_
        exact ih _ _ _ _ _ hk
      · have hk := ab_ifp hk hc
        refine ab_iconst (pc := 21) dX7_areAllIn_21 ab_k_0 ?_
        obtain rfl := Option.some.inj hk
        exact ab_retz (pc := 22) dX7_areAllIn_22 rfl rfl
noncomputable def f_X7_areAllIn (a0 : Int) (a1 : Int) (h : ab_H) : Option (Int × ab_H) :=
  f_X7_areAllIn_L2 ab_FU a0 a1 (0 : Int) h
set_option maxRecDepth 20000 in
theorem ct_X7_areAllIn {a0 a1 : Int} {h : ab_H} {q : Int × ab_H} (hk : f_X7_areAllIn a0 a1 h = some q) : ab_CT yX7_areAllIn cX7_areAllIn 3 (some .boolean) 0 0 [ab_R a0, ab_I a1] h (some (ab_I q.1)) q.2 := by
  refine ab_CT.mk_ 1 (own := RX7) (ini := false) (lv := [some (ab_R a0), some (ab_I a1), none]) rfl (by decide +kernel) (fun q => by cases q) rfl rfl ?_
  unfold f_X7_areAllIn at hk
  show ab_E mm_X7_areAllIn cX7_areAllIn 0 _ [] h _ _
  refine ab_iconst (pc := 0) dX7_areAllIn_0 ab_k_0 ?_
  refine ab_istore_n (pc := 1) (i := 2) (lv2 := [some (ab_R a0), some (ab_I a1), some (ab_I (0 : Int))]) dX7_areAllIn_1 rfl (Nat.le_of_ble_eq_true rfl) rfl rfl ?_
  refine ab_sub_ (lv2 := [some (ab_R a0), some (ab_I a1), some (ab_I (0 : Int))]) (ab_ss (ab_ss (ab_ss ab_s0))) ?_
  refine e_X7_areAllIn_L2 _ _ _ _ _ _ hk
theorem dX7_spread_0 : decode cX7_spread 0 = .ok (.iload_n 1, 1) := by decide +kernel
theorem dX7_spread_1 : decode cX7_spread 1 = .ok (.istore_n 2, 1) := by decide +kernel
theorem dX7_spread_2 : decode cX7_spread 2 = .ok (.iconst 0, 1) := by decide +kernel
theorem dX7_spread_3 : decode cX7_spread 3 = .ok (.istore_n 3, 1) := by decide +kernel
theorem dX7_spread_4 : decode cX7_spread 4 = .ok (.iload_n 3, 1) := by decide +kernel
theorem dX7_spread_5 : decode cX7_spread 5 = .ok (.aload_n 0, 1) := by decide +kernel
theorem dX7_spread_6 : decode cX7_spread 6 = .ok (.getfield 19, 3) := by decide +kernel
theorem dX7_spread_9 : decode cX7_spread 9 = .ok (.if_icmp .ge 29, 3) := by decide +kernel
theorem dX7_spread_12 : decode cX7_spread 12 = .ok (.aload_n 0, 1) := by decide +kernel
theorem dX7_spread_13 : decode cX7_spread 13 = .ok (.getfield 15, 3) := by decide +kernel
theorem dX7_spread_16 : decode cX7_spread 16 = .ok (.iload_n 3, 1) := by decide +kernel
theorem dX7_spread_17 : decode cX7_spread 17 = .ok (.iaload, 1) := by decide +kernel
theorem dX7_spread_18 : decode cX7_spread 18 = .ok (.iload_n 1, 1) := by decide +kernel
theorem dX7_spread_19 : decode cX7_spread 19 = .ok (.iand, 1) := by decide +kernel
theorem dX7_spread_20 : decode cX7_spread 20 = .ok (.ifCond .eq 12, 3) := by decide +kernel
theorem dX7_spread_23 : decode cX7_spread 23 = .ok (.iload_n 2, 1) := by decide +kernel
theorem dX7_spread_24 : decode cX7_spread 24 = .ok (.aload_n 0, 1) := by decide +kernel
theorem dX7_spread_25 : decode cX7_spread 25 = .ok (.getfield 15, 3) := by decide +kernel
theorem dX7_spread_28 : decode cX7_spread 28 = .ok (.iload_n 3, 1) := by decide +kernel
theorem dX7_spread_29 : decode cX7_spread 29 = .ok (.iaload, 1) := by decide +kernel
theorem dX7_spread_30 : decode cX7_spread 30 = .ok (.ior, 1) := by decide +kernel
theorem dX7_spread_31 : decode cX7_spread 31 = .ok (.istore_n 2, 1) := by decide +kernel
theorem dX7_spread_32 : decode cX7_spread 32 = .ok (.iinc 3 1, 3) := by decide +kernel
theorem dX7_spread_35 : decode cX7_spread 35 = .ok (.goto (-31), 3) := by decide +kernel
theorem dX7_spread_38 : decode cX7_spread 38 = .ok (.iload_n 2, 1) := by decide +kernel
theorem dX7_spread_39 : decode cX7_spread 39 = .ok (.ireturn, 1) := by decide +kernel
abbrev mm_X7_spread : ab_M := (RX7, 4, (some .int), false, 0, 0, none)
noncomputable def f_X7_spread_J32 (rec : Int → Int → Int → Int → ab_H → Option (Int × ab_H)) (v0 : Int) (v1 : Int) (v2 : Int) (v3 : Int) (h : ab_H) : Option (Int × ab_H) :=
  rec v0 v1 v2 (ab_w32 (v3 + (1 : Int))) h
set_option maxRecDepth 20000 in
theorem e_X7_spread_J32 {rec : Int → Int → Int → Int → ab_H → Option (Int × ab_H)} (hrec : ∀ (v0 : Int) (v1 : Int) (v2 : Int) (v3 : Int) (h : ab_H) (q : Int × ab_H), rec v0 v1 v2 v3 h = some q → ab_E mm_X7_spread cX7_spread 4 [some (ab_R v0), some (ab_I v1), some (ab_I v2), some (ab_I v3)] [] h (some (ab_I q.1)) q.2) : ∀ (v0 : Int) (v1 : Int) (v2 : Int) (v3 : Int) (h : ab_H) (q : Int × ab_H), f_X7_spread_J32 rec v0 v1 v2 v3 h = some q → ab_E mm_X7_spread cX7_spread 32 [some (ab_R v0), some (ab_I v1), some (ab_I v2), some (ab_I v3)] [] h (some (ab_I q.1)) q.2 := by
  intro v0 v1 v2 v3 h q hk
  unfold f_X7_spread_J32 at hk
  refine ab_iinc (pc := 32) (i := 3) (lv2 := [some (ab_R v0), some (ab_I v1), some (ab_I v2), some (ab_I (ab_w32 (v3 + (1 : Int))))]) dX7_spread_32 rfl (Nat.le_of_ble_eq_true rfl) rfl rfl ?_
  refine ab_goto (pc := 35) (tgt := 4) dX7_spread_35 rfl ?_
  refine ab_sub_ (lv2 := [some (ab_R v0), some (ab_I v1), some (ab_I v2), some (ab_I (ab_w32 (v3 + (1 : Int))))]) (ab_ss (ab_ss (ab_ss (ab_ss ab_s0)))) ?_
  exact hrec _ _ _ _ _ _ hk
noncomputable def f_X7_spread_L4 : Nat → Int → Int → Int → Int → ab_H → Option (Int × ab_H)
  | 0, _, _, _, _, _ => none
  | n + 1, v0, v1, v2, v3, h =>
    (ab_get h 8 0 v0).bind fun t1 =>
    if t1 ≤ v3 then
      some (v2, h)
    else
    (ab_get h 8 2 v0).bind fun t2 =>
    (ab_ald h 11 t2 v3).bind fun t3 =>
    if ab_and t3 v1 = (0 : Int) then
      f_X7_spread_J32 (f_X7_spread_L4 n) v0 v1 v2 v3 h
    else
    (ab_get h 8 2 v0).bind fun t4 =>
    (ab_ald h 11 t4 v3).bind fun t5 =>
    f_X7_spread_J32 (f_X7_spread_L4 n) v0 v1 (ab_or v2 t5) v3 h
set_option maxRecDepth 20000 in
theorem e_X7_spread_L4 : ∀ (n : Nat) (v0 : Int) (v1 : Int) (v2 : Int) (v3 : Int) (h : ab_H) (q : Int × ab_H), f_X7_spread_L4 n v0 v1 v2 v3 h = some q → ab_E mm_X7_spread cX7_spread 4 [some (ab_R v0), some (ab_I v1), some (ab_I v2), some (ab_I v3)] [] h (some (ab_I q.1)) q.2 := by
  intro n
  induction n with
  | zero => intro v0 v1 v2 v3 h q hk; cases hk
  | succ n ih =>
    intro v0 v1 v2 v3 h q hk
    unfold f_X7_spread_L4 at hk
    refine ab_iload_n (pc := 4) (i := 3) dX7_spread_4 rfl rfl ?_
    refine ab_aload_n (pc := 5) (i := 0) dX7_spread_5 rfl rfl ?_
    obtain ⟨t1, ht1, hk⟩ := ab_bnd hk
    refine ab_getI (pc := 6) dX7_spread_6 fl_RX7_19 ht1 ?_
    refine ab_icmp_ge (pc := 9) (tgt := 38) dX7_spread_9 rfl (fun hc => ?_) (fun hc => ?_)
    · have hk := ab_ifp hk hc
      refine ab_iload_n (pc := 38) (i := 2) dX7_spread_38 rfl rfl ?_
      obtain rfl := Option.some.inj hk
      exact ab_reti (pc := 39) dX7_spread_39 (Or.inl rfl)
    · have hk := ab_ifn hk hc
      refine ab_aload_n (pc := 12) (i := 0) dX7_spread_12 rfl rfl ?_
      obtain ⟨t2, ht2, hk⟩ := ab_bnd hk
      refine ab_getR (pc := 13) dX7_spread_13 fl_RX7_15 ht2 ?_
      refine ab_iload_n (pc := 16) (i := 3) dX7_spread_16 rfl rfl ?_
      obtain ⟨t3, ht3, hk⟩ := ab_bnd hk
      refine ab_iald (pc := 17) dX7_spread_17 ht3 ?_
      refine ab_iload_n (pc := 18) (i := 1) dX7_spread_18 rfl rfl ?_
      refine ab_iand (pc := 19) dX7_spread_19 ?_
      refine ab_if_eq (pc := 20) (tgt := 32) dX7_spread_20 rfl (fun hc => ?_) (fun hc => ?_)
      · have hk := ab_ifp hk hc
        refine ab_sub_ (lv2 := [some (ab_R v0), some (ab_I v1), some (ab_I v2), some (ab_I v3)]) (ab_ss (ab_ss (ab_ss (ab_ss ab_s0)))) ?_
        exact e_X7_spread_J32 ih _ _ _ _ _ _ hk
      · have hk := ab_ifn hk hc
        refine ab_iload_n (pc := 23) (i := 2) dX7_spread_23 rfl rfl ?_
        refine ab_aload_n (pc := 24) (i := 0) dX7_spread_24 rfl rfl ?_
        obtain ⟨t4, ht4, hk⟩ := ab_bnd hk
        refine ab_getR (pc := 25) dX7_spread_25 fl_RX7_15 ht4 ?_
        refine ab_iload_n (pc := 28) (i := 3) dX7_spread_28 rfl rfl ?_
        obtain ⟨t5, ht5, hk⟩ := ab_bnd hk
        refine ab_iald (pc := 29) dX7_spread_29 ht5 ?_
        refine ab_ior (pc := 30) dX7_spread_30 ?_
        refine ab_istore_n (pc := 31) (i := 2) (lv2 := [some (ab_R v0), some (ab_I v1), some (ab_I (ab_or v2 t5)), some (ab_I v3)]) dX7_spread_31 rfl (Nat.le_of_ble_eq_true rfl) rfl rfl ?_
        refine ab_sub_ (lv2 := [some (ab_R v0), some (ab_I v1), some (ab_I (ab_or v2 t5)), some (ab_I v3)]) (ab_ss (ab_ss (ab_ss (ab_ss ab_s0)))) ?_
        exact e_X7_spread_J32 ih _ _ _ _ _ _ hk
noncomputable def f_X7_spread (a0 : Int) (a1 : Int) (h : ab_H) : Option (Int × ab_H) :=
  f_X7_spread_L4 ab_FU a0 a1 a1 (0 : Int) h
set_option maxRecDepth 20000 in
theorem ct_X7_spread {a0 a1 : Int} {h : ab_H} {q : Int × ab_H} (hk : f_X7_spread a0 a1 h = some q) : ab_CT yX7_spread cX7_spread 4 (some .int) 0 0 [ab_R a0, ab_I a1] h (some (ab_I q.1)) q.2 := by
  refine ab_CT.mk_ 2 (own := RX7) (ini := false) (lv := [some (ab_R a0), some (ab_I a1), none, none]) rfl (by decide +kernel) (fun q => by cases q) rfl rfl ?_
  unfold f_X7_spread at hk
  show ab_E mm_X7_spread cX7_spread 0 _ [] h _ _
  refine ab_iload_n (pc := 0) (i := 1) dX7_spread_0 rfl rfl ?_
  refine ab_istore_n (pc := 1) (i := 2) (lv2 := [some (ab_R a0), some (ab_I a1), some (ab_I a1), none]) dX7_spread_1 rfl (Nat.le_of_ble_eq_true rfl) rfl rfl ?_
  refine ab_iconst (pc := 2) dX7_spread_2 ab_k_0 ?_
  refine ab_istore_n (pc := 3) (i := 3) (lv2 := [some (ab_R a0), some (ab_I a1), some (ab_I a1), some (ab_I (0 : Int))]) dX7_spread_3 rfl (Nat.le_of_ble_eq_true rfl) rfl rfl ?_
  refine ab_sub_ (lv2 := [some (ab_R a0), some (ab_I a1), some (ab_I a1), some (ab_I (0 : Int))]) (ab_ss (ab_ss (ab_ss (ab_ss ab_s0)))) ?_
  refine e_X7_spread_L4 _ _ _ _ _ _ _ hk
theorem dX7_stepsBetween_0 : decode cX7_stepsBetween 0 = .ok (.aload_n 0, 1) := by decide +kernel
theorem dX7_stepsBetween_1 : decode cX7_stepsBetween 1 = .ok (.getfield 15, 3) := by decide +kernel
theorem dX7_stepsBetween_4 : decode cX7_stepsBetween 4 = .ok (.iload_n 1, 1) := by decide +kernel
theorem dX7_stepsBetween_5 : decode cX7_stepsBetween 5 = .ok (.iaload, 1) := by decide +kernel
theorem dX7_stepsBetween_6 : decode cX7_stepsBetween 6 = .ok (.istore_n 3, 1) := by decide +kernel
theorem dX7_stepsBetween_7 : decode cX7_stepsBetween 7 = .ok (.iconst 1, 1) := by decide +kernel
theorem dX7_stepsBetween_8 : decode cX7_stepsBetween 8 = .ok (.istore 4, 2) := by decide +kernel
theorem dX7_stepsBetween_10 : decode cX7_stepsBetween 10 = .ok (.iload 4, 2) := by decide +kernel
theorem dX7_stepsBetween_12 : decode cX7_stepsBetween 12 = .ok (.bipush 12, 2) := by decide +kernel
theorem dX7_stepsBetween_14 : decode cX7_stepsBetween 14 = .ok (.if_icmp .gt 29, 3) := by decide +kernel
theorem dX7_stepsBetween_17 : decode cX7_stepsBetween 17 = .ok (.iload_n 3, 1) := by decide +kernel
theorem dX7_stepsBetween_18 : decode cX7_stepsBetween 18 = .ok (.aload_n 0, 1) := by decide +kernel
theorem dX7_stepsBetween_19 : decode cX7_stepsBetween 19 = .ok (.getfield 15, 3) := by decide +kernel
theorem dX7_stepsBetween_22 : decode cX7_stepsBetween 22 = .ok (.iload_n 2, 1) := by decide +kernel
theorem dX7_stepsBetween_23 : decode cX7_stepsBetween 23 = .ok (.iaload, 1) := by decide +kernel
theorem dX7_stepsBetween_24 : decode cX7_stepsBetween 24 = .ok (.iand, 1) := by decide +kernel
theorem dX7_stepsBetween_25 : decode cX7_stepsBetween 25 = .ok (.ifCond .eq 6, 3) := by decide +kernel
theorem dX7_stepsBetween_28 : decode cX7_stepsBetween 28 = .ok (.iload 4, 2) := by decide +kernel
theorem dX7_stepsBetween_30 : decode cX7_stepsBetween 30 = .ok (.ireturn, 1) := by decide +kernel
theorem dX7_stepsBetween_31 : decode cX7_stepsBetween 31 = .ok (.aload_n 0, 1) := by decide +kernel
theorem dX7_stepsBetween_32 : decode cX7_stepsBetween 32 = .ok (.iload_n 3, 1) := by decide +kernel
theorem dX7_stepsBetween_33 : decode cX7_stepsBetween 33 = .ok (.invokevirtual 51, 3) := by decide +kernel
theorem dX7_stepsBetween_36 : decode cX7_stepsBetween 36 = .ok (.istore_n 3, 1) := by decide +kernel
theorem dX7_stepsBetween_37 : decode cX7_stepsBetween 37 = .ok (.iinc 4 1, 3) := by decide +kernel
theorem dX7_stepsBetween_40 : decode cX7_stepsBetween 40 = .ok (.goto (-30), 3) := by decide +kernel
theorem dX7_stepsBetween_43 : decode cX7_stepsBetween 43 = .ok (.iconst (-1), 1) := by decide +kernel
theorem dX7_stepsBetween_44 : decode cX7_stepsBetween 44 = .ok (.ireturn, 1) := by decide +kernel
abbrev mm_X7_stepsBetween : ab_M := (RX7, 5, (some .int), false, 1, 23, none)
noncomputable def f_X7_stepsBetween_L10 : Nat → Int → Int → Int → Int → ab_H → Option (Int × ab_H)
  | 0, _, _, _, _, _ => none
  | n + 1, v0, v2, v3, v4, h =>
    if (12 : Int) < v4 then
      some ((-1 : Int), h)
    else
    (ab_get h 8 2 v0).bind fun t1 =>
    (ab_ald h 11 t1 v2).bind fun t2 =>
    if ab_and v3 t2 = (0 : Int) then
      (ab_on h 8 v0 (f_X7_spread v0 v3 h)).bind fun q3 =>
      f_X7_stepsBetween_L10 n v0 v2 q3.1 (ab_w32 (v4 + (1 : Int))) q3.2
    else
    some (v4, h)
set_option maxRecDepth 20000 in
theorem e_X7_stepsBetween_L10 : ∀ (n : Nat) (v0 : Int) (v2 : Int) (v3 : Int) (v4 : Int) (h : ab_H) (q : Int × ab_H), f_X7_stepsBetween_L10 n v0 v2 v3 v4 h = some q → ab_E mm_X7_stepsBetween cX7_stepsBetween 10 [some (ab_R v0), none, some (ab_I v2), some (ab_I v3), some (ab_I v4)] [] h (some (ab_I q.1)) q.2 := by
  intro n
  induction n with
  | zero => intro v0 v2 v3 v4 h q hk; cases hk
  | succ n ih =>
    intro v0 v2 v3 v4 h q hk
    unfold f_X7_stepsBetween_L10 at hk
    refine ab_iload (pc := 10) (i := 4) dX7_stepsBetween_10 rfl ?_
    refine ab_bipush (pc := 12) dX7_stepsBetween_12 ab_p8_12 ab_k_12 ?_
    refine ab_icmp_gt (pc := 14) (tgt := 43) dX7_stepsBetween_14 rfl (fun hc => ?_) (fun hc => ?_)
    · have hk := ab_ifp hk hc
      refine ab_iconst (pc := 43) dX7_stepsBetween_43 ab_k_m1 ?_
      obtain rfl := Option.some.inj hk
      exact ab_reti (pc := 44) dX7_stepsBetween_44 (Or.inl rfl)
    · have hk := ab_ifn hk hc
      refine ab_iload_n (pc := 17) (i := 3) dX7_stepsBetween_17 rfl rfl ?_
      refine ab_aload_n (pc := 18) (i := 0) dX7_stepsBetween_18 rfl rfl ?_
      obtain ⟨t1, ht1, hk⟩ := ab_bnd hk
      refine ab_getR (pc := 19) dX7_stepsBetween_19 fl_RX7_15 ht1 ?_
      refine ab_iload_n (pc := 22) (i := 2) dX7_stepsBetween_22 rfl rfl ?_
      obtain ⟨t2, ht2, hk⟩ := ab_bnd hk
      refine ab_iald (pc := 23) dX7_stepsBetween_23 ht2 ?_
      refine ab_iand (pc := 24) dX7_stepsBetween_24 ?_
      refine ab_if_eq (pc := 25) (tgt := 31) dX7_stepsBetween_25 rfl (fun hc => ?_) (fun hc => ?_)
      · have hk := ab_ifp hk hc
        refine ab_aload_n (pc := 31) (i := 0) dX7_stepsBetween_31 rfl rfl ?_
        refine ab_iload_n (pc := 32) (i := 3) dX7_stepsBetween_32 rfl rfl ?_
        obtain ⟨q3, hq3, hk⟩ := ab_bnd hk
        obtain ⟨hb, hq3⟩ := ab_on_some hq3
        refine ab_callVI (st := []) (as := [ab_I v3]) (b := v0) (pc := 33) dX7_stepsBetween_33 ml_RX7_51 my_X7_spread mv_X7_spread hb (ct_X7_spread hq3) ⟨Nat.le_of_ble_eq_true rfl, Nat.le_of_ble_eq_true rfl⟩ rfl (Nat.le_of_ble_eq_true rfl) rfl ?_
        refine ab_istore_n (pc := 36) (i := 3) (lv2 := [some (ab_R v0), none, some (ab_I v2), some (ab_I q3.1), some (ab_I v4)]) dX7_stepsBetween_36 rfl (Nat.le_of_ble_eq_true rfl) rfl rfl ?_
        refine ab_iinc (pc := 37) (i := 4) (lv2 := [some (ab_R v0), none, some (ab_I v2), some (ab_I q3.1), some (ab_I (ab_w32 (v4 + (1 : Int))))]) dX7_stepsBetween_37 rfl (Nat.le_of_ble_eq_true rfl) rfl rfl ?_
        refine ab_goto (pc := 40) (tgt := 10) dX7_stepsBetween_40 rfl ?_
        refine ab_sub_ (lv2 := [some (ab_R v0), none, some (ab_I v2), some (ab_I q3.1), some (ab_I (ab_w32 (v4 + (1 : Int))))]) (ab_ss (ab_sn (ab_ss (ab_ss (ab_ss ab_s0))))) ?_
        exact ih _ _ _ _ _ _ hk
      · have hk := ab_ifn hk hc
        refine ab_iload (pc := 28) (i := 4) dX7_stepsBetween_28 rfl ?_
        obtain rfl := Option.some.inj hk
        exact ab_reti (pc := 30) dX7_stepsBetween_30 (Or.inl rfl)
noncomputable def f_X7_stepsBetween (a0 : Int) (a1 : Int) (a2 : Int) (h : ab_H) : Option (Int × ab_H) :=
  (ab_get h 8 2 a0).bind fun t1 =>
  (ab_ald h 11 t1 a1).bind fun t2 =>
  f_X7_stepsBetween_L10 ab_FU a0 a2 t2 (1 : Int) h
set_option maxRecDepth 20000 in
theorem ct_X7_stepsBetween {a0 a1 a2 : Int} {h : ab_H} {q : Int × ab_H} (hk : f_X7_stepsBetween a0 a1 a2 h = some q) : ab_CT yX7_stepsBetween cX7_stepsBetween 5 (some .int) 1 23 [ab_R a0, ab_I a1, ab_I a2] h (some (ab_I q.1)) q.2 := by
  refine ab_CT.mk_ 2 (own := RX7) (ini := false) (lv := [some (ab_R a0), some (ab_I a1), some (ab_I a2), none, none]) rfl (by decide +kernel) (fun q => by cases q) rfl rfl ?_
  unfold f_X7_stepsBetween at hk
  show ab_E mm_X7_stepsBetween cX7_stepsBetween 0 _ [] h _ _
  refine ab_aload_n (pc := 0) (i := 0) dX7_stepsBetween_0 rfl rfl ?_
  obtain ⟨t1, ht1, hk⟩ := ab_bnd hk
  refine ab_getR (pc := 1) dX7_stepsBetween_1 fl_RX7_15 ht1 ?_
  refine ab_iload_n (pc := 4) (i := 1) dX7_stepsBetween_4 rfl rfl ?_
  obtain ⟨t2, ht2, hk⟩ := ab_bnd hk
  refine ab_iald (pc := 5) dX7_stepsBetween_5 ht2 ?_
  refine ab_istore_n (pc := 6) (i := 3) (lv2 := [some (ab_R a0), some (ab_I a1), some (ab_I a2), some (ab_I t2), none]) dX7_stepsBetween_6 rfl (Nat.le_of_ble_eq_true rfl) rfl rfl ?_
  refine ab_iconst (pc := 7) dX7_stepsBetween_7 ab_k_1 ?_
  refine ab_istore (pc := 8) (i := 4) (lv2 := [some (ab_R a0), some (ab_I a1), some (ab_I a2), some (ab_I t2), some (ab_I (1 : Int))]) dX7_stepsBetween_8 (Nat.le_of_ble_eq_true rfl) rfl rfl ?_
  refine ab_sub_ (lv2 := [some (ab_R a0), none, some (ab_I a2), some (ab_I t2), some (ab_I (1 : Int))]) (ab_ss (ab_sn (ab_ss (ab_ss (ab_ss ab_s0))))) ?_
  refine e_X7_stepsBetween_L10 _ _ _ _ _ _ _ hk
theorem dX7_groupOf_0 : decode cX7_groupOf 0 = .ok (.aload_n 0, 1) := by decide +kernel
theorem dX7_groupOf_1 : decode cX7_groupOf 1 = .ok (.getfield 15, 3) := by decide +kernel
theorem dX7_groupOf_4 : decode cX7_groupOf 4 = .ok (.iload_n 1, 1) := by decide +kernel
theorem dX7_groupOf_5 : decode cX7_groupOf 5 = .ok (.iaload, 1) := by decide +kernel
theorem dX7_groupOf_6 : decode cX7_groupOf 6 = .ok (.istore_n 2, 1) := by decide +kernel
theorem dX7_groupOf_7 : decode cX7_groupOf 7 = .ok (.iconst 0, 1) := by decide +kernel
theorem dX7_groupOf_8 : decode cX7_groupOf 8 = .ok (.istore_n 3, 1) := by decide +kernel
theorem dX7_groupOf_9 : decode cX7_groupOf 9 = .ok (.iload_n 3, 1) := by decide +kernel
theorem dX7_groupOf_10 : decode cX7_groupOf 10 = .ok (.bipush 12, 2) := by decide +kernel
theorem dX7_groupOf_12 : decode cX7_groupOf 12 = .ok (.if_icmp .ge 15, 3) := by decide +kernel
theorem dX7_groupOf_15 : decode cX7_groupOf 15 = .ok (.aload_n 0, 1) := by decide +kernel
theorem dX7_groupOf_16 : decode cX7_groupOf 16 = .ok (.iload_n 2, 1) := by decide +kernel
theorem dX7_groupOf_17 : decode cX7_groupOf 17 = .ok (.invokevirtual 51, 3) := by decide +kernel
theorem dX7_groupOf_20 : decode cX7_groupOf 20 = .ok (.istore_n 2, 1) := by decide +kernel
theorem dX7_groupOf_21 : decode cX7_groupOf 21 = .ok (.iinc 3 1, 3) := by decide +kernel
theorem dX7_groupOf_24 : decode cX7_groupOf 24 = .ok (.goto (-15), 3) := by decide +kernel
theorem dX7_groupOf_27 : decode cX7_groupOf 27 = .ok (.iload_n 2, 1) := by decide +kernel
theorem dX7_groupOf_28 : decode cX7_groupOf 28 = .ok (.ireturn, 1) := by decide +kernel
abbrev mm_X7_groupOf : ab_M := (RX7, 4, (some .int), false, 1, 23, none)
noncomputable def f_X7_groupOf_L9 : Nat → Int → Int → Int → ab_H → Option (Int × ab_H)
  | 0, _, _, _, _ => none
  | n + 1, v0, v2, v3, h =>
    if (12 : Int) ≤ v3 then
      some (v2, h)
    else
    (ab_on h 8 v0 (f_X7_spread v0 v2 h)).bind fun q1 =>
    f_X7_groupOf_L9 n v0 q1.1 (ab_w32 (v3 + (1 : Int))) q1.2
set_option maxRecDepth 20000 in
theorem e_X7_groupOf_L9 : ∀ (n : Nat) (v0 : Int) (v2 : Int) (v3 : Int) (h : ab_H) (q : Int × ab_H), f_X7_groupOf_L9 n v0 v2 v3 h = some q → ab_E mm_X7_groupOf cX7_groupOf 9 [some (ab_R v0), none, some (ab_I v2), some (ab_I v3)] [] h (some (ab_I q.1)) q.2 := by
  intro n
  induction n with
  | zero => intro v0 v2 v3 h q hk; cases hk
  | succ n ih =>
    intro v0 v2 v3 h q hk
    unfold f_X7_groupOf_L9 at hk
    refine ab_iload_n (pc := 9) (i := 3) dX7_groupOf_9 rfl rfl ?_
    refine ab_bipush (pc := 10) dX7_groupOf_10 ab_p8_12 ab_k_12 ?_
    refine ab_icmp_ge (pc := 12) (tgt := 27) dX7_groupOf_12 rfl (fun hc => ?_) (fun hc => ?_)
    · have hk := ab_ifp hk hc
      refine ab_iload_n (pc := 27) (i := 2) dX7_groupOf_27 rfl rfl ?_
      obtain rfl := Option.some.inj hk
      exact ab_reti (pc := 28) dX7_groupOf_28 (Or.inl rfl)
    · have hk := ab_ifn hk hc
      refine ab_aload_n (pc := 15) (i := 0) dX7_groupOf_15 rfl rfl ?_
      refine ab_iload_n (pc := 16) (i := 2) dX7_groupOf_16 rfl rfl ?_
      obtain ⟨q1, hq1, hk⟩ := ab_bnd hk
      obtain ⟨hb, hq1⟩ := ab_on_some hq1
      refine ab_callVI (st := []) (as := [ab_I v2]) (b := v0) (pc := 17) dX7_groupOf_17 ml_RX7_51 my_X7_spread mv_X7_spread hb (ct_X7_spread hq1) ⟨Nat.le_of_ble_eq_true rfl, Nat.le_of_ble_eq_true rfl⟩ rfl (Nat.le_of_ble_eq_true rfl) rfl ?_
      refine ab_istore_n (pc := 20) (i := 2) (lv2 := [some (ab_R v0), none, some (ab_I q1.1), some (ab_I v3)]) dX7_groupOf_20 rfl (Nat.le_of_ble_eq_true rfl) rfl rfl ?_
      refine ab_iinc (pc := 21) (i := 3) (lv2 := [some (ab_R v0), none, some (ab_I q1.1), some (ab_I (ab_w32 (v3 + (1 : Int))))]) dX7_groupOf_21 rfl (Nat.le_of_ble_eq_true rfl) rfl rfl ?_
      refine ab_goto (pc := 24) (tgt := 9) dX7_groupOf_24 rfl ?_
      refine ab_sub_ (lv2 := [some (ab_R v0), none, some (ab_I q1.1), some (ab_I (ab_w32 (v3 + (1 : Int))))]) (ab_ss (ab_sn (ab_ss (ab_ss ab_s0)))) ?_
      exact ih _ _ _ _ _ hk
noncomputable def f_X7_groupOf (a0 : Int) (a1 : Int) (h : ab_H) : Option (Int × ab_H) :=
  (ab_get h 8 2 a0).bind fun t1 =>
  (ab_ald h 11 t1 a1).bind fun t2 =>
  f_X7_groupOf_L9 ab_FU a0 t2 (0 : Int) h
set_option maxRecDepth 20000 in
theorem ct_X7_groupOf {a0 a1 : Int} {h : ab_H} {q : Int × ab_H} (hk : f_X7_groupOf a0 a1 h = some q) : ab_CT yX7_groupOf cX7_groupOf 4 (some .int) 1 23 [ab_R a0, ab_I a1] h (some (ab_I q.1)) q.2 := by
  refine ab_CT.mk_ 2 (own := RX7) (ini := false) (lv := [some (ab_R a0), some (ab_I a1), none, none]) rfl (by decide +kernel) (fun q => by cases q) rfl rfl ?_
  unfold f_X7_groupOf at hk
  show ab_E mm_X7_groupOf cX7_groupOf 0 _ [] h _ _
  refine ab_aload_n (pc := 0) (i := 0) dX7_groupOf_0 rfl rfl ?_
  obtain ⟨t1, ht1, hk⟩ := ab_bnd hk
  refine ab_getR (pc := 1) dX7_groupOf_1 fl_RX7_15 ht1 ?_
  refine ab_iload_n (pc := 4) (i := 1) dX7_groupOf_4 rfl rfl ?_
  obtain ⟨t2, ht2, hk⟩ := ab_bnd hk
  refine ab_iald (pc := 5) dX7_groupOf_5 ht2 ?_
  refine ab_istore_n (pc := 6) (i := 2) (lv2 := [some (ab_R a0), some (ab_I a1), some (ab_I t2), none]) dX7_groupOf_6 rfl (Nat.le_of_ble_eq_true rfl) rfl rfl ?_
  refine ab_iconst (pc := 7) dX7_groupOf_7 ab_k_0 ?_
  refine ab_istore_n (pc := 8) (i := 3) (lv2 := [some (ab_R a0), some (ab_I a1), some (ab_I t2), some (ab_I (0 : Int))]) dX7_groupOf_8 rfl (Nat.le_of_ble_eq_true rfl) rfl rfl ?_
  refine ab_sub_ (lv2 := [some (ab_R a0), none, some (ab_I t2), some (ab_I (0 : Int))]) (ab_ss (ab_sn (ab_ss (ab_ss ab_s0)))) ?_
  refine e_X7_groupOf_L9 _ _ _ _ _ _ hk
