theorem dX9_isLineNow_0 : decode cX9_isLineNow 0 = .ok (.aload_n 0, 1) := by decide +kernel
theorem dX9_isLineNow_1 : decode cX9_isLineNow 1 = .ok (.invokevirtual 314, 3) := by decide +kernel
theorem dX9_isLineNow_4 : decode cX9_isLineNow 4 = .ok (.iload_n 1, 1) := by decide +kernel
theorem dX9_isLineNow_5 : decode cX9_isLineNow 5 = .ok (.i2l, 1) := by decide +kernel
theorem dX9_isLineNow_6 : decode cX9_isLineNow 6 = .ok (.lconst 0, 1) := by decide +kernel
theorem dX9_isLineNow_7 : decode cX9_isLineNow 7 = .ok (.aload_n 0, 1) := by decide +kernel
theorem dX9_isLineNow_8 : decode cX9_isLineNow 8 = .ok (.getfield 303, 3) := by decide +kernel
theorem dX9_isLineNow_11 : decode cX9_isLineNow 11 = .ok (.iconst 1, 1) := by decide +kernel
theorem dX9_isLineNow_12 : decode cX9_isLineNow 12 = .ok (.isub, 1) := by decide +kernel
theorem dX9_isLineNow_13 : decode cX9_isLineNow 13 = .ok (.i2l, 1) := by decide +kernel
theorem dX9_isLineNow_14 : decode cX9_isLineNow 14 = .ok (.invokestatic 84, 3) := by decide +kernel
theorem dX9_isLineNow_17 : decode cX9_isLineNow 17 = .ok (.ireturn, 1) := by decide +kernel
abbrev mm_X9_isLineNow : ab_M := (RX9, 2, (some .boolean), false, 6, 133, none)
noncomputable def f_X9_isLineNow (a0 : Int) (a1 : Int) (h : ab_H) : Option (Int × ab_H) :=
  (ab_on h 10 a0 (f_X9_lays a0 h)).bind fun q1 =>
  (ab_get q1 10 17 a0).bind fun t2 =>
  (f_X9_in a1 (0 : Int) (ab_w32 (t2 - (1 : Int))) q1).bind fun q3 =>
  ab_if (decide (q3.1 = 0 ∨ q3.1 = 1)) <|
  some (q3.1, q3.2)
set_option maxRecDepth 20000 in
theorem ct_X9_isLineNow {a0 a1 : Int} {h : ab_H} {q : Int × ab_H} (hk : f_X9_isLineNow a0 a1 h = some q) : ab_CT yX9_isLineNow cX9_isLineNow 2 (some .boolean) 6 133 [ab_R a0, ab_I a1] h (some (ab_I q.1)) q.2 := by
  refine ab_CT.mk_ 0 (own := RX9) (ini := false) (lv := [some (ab_R a0), some (ab_I a1)]) rfl (by decide +kernel) (fun q => by cases q) rfl rfl ?_
  unfold f_X9_isLineNow at hk
  show ab_E mm_X9_isLineNow cX9_isLineNow 0 _ [] h _ _
  refine ab_aload_n (pc := 0) (i := 0) dX9_isLineNow_0 rfl rfl ?_
  obtain ⟨q1, hq1, hk⟩ := ab_bnd hk
  obtain ⟨hb, hq1⟩ := ab_on_some hq1
  refine ab_callVV (st := []) (as := []) (b := a0) (pc := 1) dX9_isLineNow_1 ml_RX9_314 my_X9_lays mv_X9_lays hb (ct_X9_lays hq1) ⟨Nat.le_of_ble_eq_true rfl, Nat.le_of_ble_eq_true rfl⟩ rfl (Nat.le_of_ble_eq_true rfl) rfl ?_
  refine ab_iload_n (pc := 4) (i := 1) dX9_isLineNow_4 rfl rfl ?_
  refine ab_i2l_ (pc := 5) dX9_isLineNow_5 ?_
  refine ab_lconst (x := (0 : Int)) (pc := 6) dX9_isLineNow_6 rfl ab_kl_0 ?_
  refine ab_aload_n (pc := 7) (i := 0) dX9_isLineNow_7 rfl rfl ?_
  obtain ⟨t2, ht2, hk⟩ := ab_bnd hk
  refine ab_getI (pc := 8) dX9_isLineNow_8 fl_RX9_303 ht2 ?_
  refine ab_iconst (pc := 11) dX9_isLineNow_11 ab_k_1 ?_
  refine ab_isub (pc := 12) dX9_isLineNow_12 ?_
  refine ab_i2l_ (pc := 13) dX9_isLineNow_13 ?_
  obtain ⟨q3, hq3, hk⟩ := ab_bnd hk
  refine ab_callSI (st := []) (as := [ab_J a1, ab_J (0 : Int), ab_J (ab_w32 (t2 - (1 : Int)))]) (pc := 14) dX9_isLineNow_14 ml_RX9_84 my_X9_in ms_X9_in (ct_X9_in hq3) ⟨Nat.le_of_ble_eq_true rfl, Nat.le_of_ble_eq_true rfl⟩ rfl (Nat.le_of_ble_eq_true rfl) rfl ?_
  obtain ⟨hg, hk⟩ := ab_if_some hk
  obtain rfl := Option.some.inj hk
  exact ab_retz (pc := 17) dX9_isLineNow_17 rfl hg
theorem dX9_firstOf_0 : decode cX9_firstOf 0 = .ok (.iconst 0, 1) := by decide +kernel
theorem dX9_firstOf_1 : decode cX9_firstOf 1 = .ok (.istore_n 2, 1) := by decide +kernel
theorem dX9_firstOf_2 : decode cX9_firstOf 2 = .ok (.aload_n 0, 1) := by decide +kernel
theorem dX9_firstOf_3 : decode cX9_firstOf 3 = .ok (.getfield 40, 3) := by decide +kernel
theorem dX9_firstOf_6 : decode cX9_firstOf 6 = .ok (.iload_n 2, 1) := by decide +kernel
theorem dX9_firstOf_7 : decode cX9_firstOf 7 = .ok (.iaload, 1) := by decide +kernel
theorem dX9_firstOf_8 : decode cX9_firstOf 8 = .ok (.iload_n 1, 1) := by decide +kernel
theorem dX9_firstOf_9 : decode cX9_firstOf 9 = .ok (.if_icmp .eq 9, 3) := by decide +kernel
theorem dX9_firstOf_12 : decode cX9_firstOf 12 = .ok (.iinc 2 1, 3) := by decide +kernel
theorem dX9_firstOf_15 : decode cX9_firstOf 15 = .ok (.goto (-13), 3) := by decide +kernel
theorem dX9_firstOf_18 : decode cX9_firstOf 18 = .ok (.iload_n 2, 1) := by decide +kernel
theorem dX9_firstOf_19 : decode cX9_firstOf 19 = .ok (.ireturn, 1) := by decide +kernel
abbrev mm_X9_firstOf : ab_M := (RX9, 3, (some .int), false, 0, 0, none)
noncomputable def f_X9_firstOf_L2 : Nat → Int → Int → Int → ab_H → Option (Int × ab_H)
  | 0, _, _, _, _ => none
  | n + 1, v0, v1, v2, h =>
    (ab_get h 10 22 v0).bind fun t1 =>
    (ab_ald h 11 t1 v2).bind fun t2 =>
    if t2 = v1 then
      some (v2, h)
    else
    f_X9_firstOf_L2 n v0 v1 (ab_w32 (v2 + (1 : Int))) h
set_option maxRecDepth 20000 in
theorem e_X9_firstOf_L2 : ∀ (n : Nat) (v0 : Int) (v1 : Int) (v2 : Int) (h : ab_H) (q : Int × ab_H), f_X9_firstOf_L2 n v0 v1 v2 h = some q → ab_E mm_X9_firstOf cX9_firstOf 2 [some (ab_R v0), some (ab_I v1), some (ab_I v2)] [] h (some (ab_I q.1)) q.2 := by
  intro n
  induction n with
  | zero => intro v0 v1 v2 h q hk; cases hk
  | succ n ih =>
    intro v0 v1 v2 h q hk
    unfold f_X9_firstOf_L2 at hk
    refine ab_aload_n (pc := 2) (i := 0) dX9_firstOf_2 rfl rfl ?_
    obtain ⟨t1, ht1, hk⟩ := ab_bnd hk
    refine ab_getR (pc := 3) dX9_firstOf_3 fl_RX9_40 ht1 ?_
    refine ab_iload_n (pc := 6) (i := 2) dX9_firstOf_6 rfl rfl ?_
    obtain ⟨t2, ht2, hk⟩ := ab_bnd hk
    refine ab_iald (pc := 7) dX9_firstOf_7 ht2 ?_
    refine ab_iload_n (pc := 8) (i := 1) dX9_firstOf_8 rfl rfl ?_
    refine ab_icmp_eq (pc := 9) (tgt := 18) dX9_firstOf_9 rfl (fun hc => ?_) (fun hc => ?_)
    · have hk := ab_ifp hk hc
      refine ab_iload_n (pc := 18) (i := 2) dX9_firstOf_18 rfl rfl ?_
      obtain rfl := Option.some.inj hk
      exact ab_reti (pc := 19) dX9_firstOf_19 (Or.inl rfl)
    · have hk := ab_ifn hk hc
      refine ab_iinc (pc := 12) (i := 2) (lv2 := [some (ab_R v0), some (ab_I v1), some (ab_I (ab_w32 (v2 + (1 : Int))))]) dX9_firstOf_12 rfl (Nat.le_of_ble_eq_true rfl) rfl rfl ?_
      refine ab_goto (pc := 15) (tgt := 2) dX9_firstOf_15 rfl ?_
      refine ab_sub_ (lv2 := [some (ab_R v0), some (ab_I v1), some (ab_I (ab_w32 (v2 + (1 : Int))))]) (ab_ss (ab_ss (ab_ss ab_s0))) ?_
      exact ih _ _ _ _ _ hk
noncomputable def f_X9_firstOf (a0 : Int) (a1 : Int) (h : ab_H) : Option (Int × ab_H) :=
  f_X9_firstOf_L2 ab_FU a0 a1 (0 : Int) h
set_option maxRecDepth 20000 in
theorem ct_X9_firstOf {a0 a1 : Int} {h : ab_H} {q : Int × ab_H} (hk : f_X9_firstOf a0 a1 h = some q) : ab_CT yX9_firstOf cX9_firstOf 3 (some .int) 0 0 [ab_R a0, ab_I a1] h (some (ab_I q.1)) q.2 := by
  refine ab_CT.mk_ 1 (own := RX9) (ini := false) (lv := [some (ab_R a0), some (ab_I a1), none]) rfl (by decide +kernel) (fun q => by cases q) rfl rfl ?_
  unfold f_X9_firstOf at hk
  show ab_E mm_X9_firstOf cX9_firstOf 0 _ [] h _ _
  refine ab_iconst (pc := 0) dX9_firstOf_0 ab_k_0 ?_
  refine ab_istore_n (pc := 1) (i := 2) (lv2 := [some (ab_R a0), some (ab_I a1), some (ab_I (0 : Int))]) dX9_firstOf_1 rfl (Nat.le_of_ble_eq_true rfl) rfl rfl ?_
  refine ab_sub_ (lv2 := [some (ab_R a0), some (ab_I a1), some (ab_I (0 : Int))]) (ab_ss (ab_ss (ab_ss ab_s0))) ?_
  refine e_X9_firstOf_L2 _ _ _ _ _ _ hk
theorem dX9_manyOf_0 : decode cX9_manyOf 0 = .ok (.iconst 0, 1) := by decide +kernel
theorem dX9_manyOf_1 : decode cX9_manyOf 1 = .ok (.istore_n 2, 1) := by decide +kernel
theorem dX9_manyOf_2 : decode cX9_manyOf 2 = .ok (.iconst 0, 1) := by decide +kernel
theorem dX9_manyOf_3 : decode cX9_manyOf 3 = .ok (.istore_n 3, 1) := by decide +kernel
theorem dX9_manyOf_4 : decode cX9_manyOf 4 = .ok (.iload_n 3, 1) := by decide +kernel
theorem dX9_manyOf_5 : decode cX9_manyOf 5 = .ok (.aload_n 0, 1) := by decide +kernel
theorem dX9_manyOf_6 : decode cX9_manyOf 6 = .ok (.getfield 267, 3) := by decide +kernel
theorem dX9_manyOf_9 : decode cX9_manyOf 9 = .ok (.if_icmp .ge 27, 3) := by decide +kernel
theorem dX9_manyOf_12 : decode cX9_manyOf 12 = .ok (.iload_n 2, 1) := by decide +kernel
theorem dX9_manyOf_13 : decode cX9_manyOf 13 = .ok (.aload_n 0, 1) := by decide +kernel
theorem dX9_manyOf_14 : decode cX9_manyOf 14 = .ok (.getfield 40, 3) := by decide +kernel
theorem dX9_manyOf_17 : decode cX9_manyOf 17 = .ok (.iload_n 3, 1) := by decide +kernel
theorem dX9_manyOf_18 : decode cX9_manyOf 18 = .ok (.iaload, 1) := by decide +kernel
theorem dX9_manyOf_19 : decode cX9_manyOf 19 = .ok (.iload_n 1, 1) := by decide +kernel
theorem dX9_manyOf_20 : decode cX9_manyOf 20 = .ok (.if_icmp .ne 7, 3) := by decide +kernel
theorem dX9_manyOf_23 : decode cX9_manyOf 23 = .ok (.iconst 1, 1) := by decide +kernel
theorem dX9_manyOf_24 : decode cX9_manyOf 24 = .ok (.goto 4, 3) := by decide +kernel
theorem dX9_manyOf_27 : decode cX9_manyOf 27 = .ok (.iconst 0, 1) := by decide +kernel
theorem dX9_manyOf_28 : decode cX9_manyOf 28 = .ok (.iadd, 1) := by decide +kernel
theorem dX9_manyOf_29 : decode cX9_manyOf 29 = .ok (.istore_n 2, 1) := by decide +kernel
theorem dX9_manyOf_30 : decode cX9_manyOf 30 = .ok (.iinc 3 1, 3) := by decide +kernel
theorem dX9_manyOf_33 : decode cX9_manyOf 33 = .ok (.goto (-29), 3) := by decide +kernel
theorem dX9_manyOf_36 : decode cX9_manyOf 36 = .ok (.iload_n 2, 1) := by decide +kernel
theorem dX9_manyOf_37 : decode cX9_manyOf 37 = .ok (.ireturn, 1) := by decide +kernel
abbrev mm_X9_manyOf : ab_M := (RX9, 4, (some .int), false, 0, 0, none)
noncomputable def f_X9_manyOf_J28 (rec : Int → Int → Int → Int → ab_H → Option (Int × ab_H)) (v0 : Int) (v1 : Int) (v3 : Int) (s1 : Int) (s0 : Int) (h : ab_H) : Option (Int × ab_H) :=
  rec v0 v1 (ab_w32 (s0 + s1)) (ab_w32 (v3 + (1 : Int))) h
set_option maxRecDepth 20000 in
theorem e_X9_manyOf_J28 {rec : Int → Int → Int → Int → ab_H → Option (Int × ab_H)} (hrec : ∀ (v0 : Int) (v1 : Int) (v2 : Int) (v3 : Int) (h : ab_H) (q : Int × ab_H), rec v0 v1 v2 v3 h = some q → ab_E mm_X9_manyOf cX9_manyOf 4 [some (ab_R v0), some (ab_I v1), some (ab_I v2), some (ab_I v3)] [] h (some (ab_I q.1)) q.2) : ∀ (v0 : Int) (v1 : Int) (v3 : Int) (s1 : Int) (s0 : Int) (h : ab_H) (q : Int × ab_H), f_X9_manyOf_J28 rec v0 v1 v3 s1 s0 h = some q → ab_E mm_X9_manyOf cX9_manyOf 28 [some (ab_R v0), some (ab_I v1), none, some (ab_I v3)] [ab_I s1, ab_I s0] h (some (ab_I q.1)) q.2 := by
  intro v0 v1 v3 s1 s0 h q hk
  unfold f_X9_manyOf_J28 at hk
  refine ab_iadd (pc := 28) dX9_manyOf_28 ?_
  refine ab_istore_n (pc := 29) (i := 2) (lv2 := [some (ab_R v0), some (ab_I v1), some (ab_I (ab_w32 (s0 + s1))), some (ab_I v3)]) dX9_manyOf_29 rfl (Nat.le_of_ble_eq_true rfl) rfl rfl ?_
  refine ab_iinc (pc := 30) (i := 3) (lv2 := [some (ab_R v0), some (ab_I v1), some (ab_I (ab_w32 (s0 + s1))), some (ab_I (ab_w32 (v3 + (1 : Int))))]) dX9_manyOf_30 rfl (Nat.le_of_ble_eq_true rfl) rfl rfl ?_
  refine ab_goto (pc := 33) (tgt := 4) dX9_manyOf_33 rfl ?_
  refine ab_sub_ (lv2 := [some (ab_R v0), some (ab_I v1), some (ab_I (ab_w32 (s0 + s1))), some (ab_I (ab_w32 (v3 + (1 : Int))))]) (ab_ss (ab_ss (ab_ss (ab_ss ab_s0)))) ?_
  exact hrec _ _ _ _ _ _ hk
noncomputable def f_X9_manyOf_L4 : Nat → Int → Int → Int → Int → ab_H → Option (Int × ab_H)
  | 0, _, _, _, _, _ => none
  | n + 1, v0, v1, v2, v3, h =>
    (ab_get h 10 16 v0).bind fun t1 =>
    if t1 ≤ v3 then
      some (v2, h)
    else
    (ab_get h 10 22 v0).bind fun t2 =>
    (ab_ald h 11 t2 v3).bind fun t3 =>
    if t3 = v1 then
      f_X9_manyOf_J28 (f_X9_manyOf_L4 n) v0 v1 v3 (1 : Int) v2 h
    else
    f_X9_manyOf_J28 (f_X9_manyOf_L4 n) v0 v1 v3 (0 : Int) v2 h
set_option maxRecDepth 20000 in
theorem e_X9_manyOf_L4 : ∀ (n : Nat) (v0 : Int) (v1 : Int) (v2 : Int) (v3 : Int) (h : ab_H) (q : Int × ab_H), f_X9_manyOf_L4 n v0 v1 v2 v3 h = some q → ab_E mm_X9_manyOf cX9_manyOf 4 [some (ab_R v0), some (ab_I v1), some (ab_I v2), some (ab_I v3)] [] h (some (ab_I q.1)) q.2 := by
  intro n
  induction n with
  | zero => intro v0 v1 v2 v3 h q hk; cases hk
  | succ n ih =>
    intro v0 v1 v2 v3 h q hk
    unfold f_X9_manyOf_L4 at hk
    refine ab_iload_n (pc := 4) (i := 3) dX9_manyOf_4 rfl rfl ?_
    refine ab_aload_n (pc := 5) (i := 0) dX9_manyOf_5 rfl rfl ?_
    obtain ⟨t1, ht1, hk⟩ := ab_bnd hk
    refine ab_getI (pc := 6) dX9_manyOf_6 fl_RX9_267 ht1 ?_
    refine ab_icmp_ge (pc := 9) (tgt := 36) dX9_manyOf_9 rfl (fun hc => ?_) (fun hc => ?_)
    · have hk := ab_ifp hk hc
      refine ab_iload_n (pc := 36) (i := 2) dX9_manyOf_36 rfl rfl ?_
      obtain rfl := Option.some.inj hk
      exact ab_reti (pc := 37) dX9_manyOf_37 (Or.inl rfl)
    · have hk := ab_ifn hk hc
      refine ab_iload_n (pc := 12) (i := 2) dX9_manyOf_12 rfl rfl ?_
      refine ab_aload_n (pc := 13) (i := 0) dX9_manyOf_13 rfl rfl ?_
      obtain ⟨t2, ht2, hk⟩ := ab_bnd hk
      refine ab_getR (pc := 14) dX9_manyOf_14 fl_RX9_40 ht2 ?_
      refine ab_iload_n (pc := 17) (i := 3) dX9_manyOf_17 rfl rfl ?_
      obtain ⟨t3, ht3, hk⟩ := ab_bnd hk
      refine ab_iald (pc := 18) dX9_manyOf_18 ht3 ?_
      refine ab_iload_n (pc := 19) (i := 1) dX9_manyOf_19 rfl rfl ?_
      refine ab_icmp_ne (pc := 20) (tgt := 27) dX9_manyOf_20 rfl (fun hc => ?_) (fun hc => ?_)
      · have hk := ab_ifn hk hc
        refine ab_iconst (pc := 27) dX9_manyOf_27 ab_k_0 ?_
        refine ab_sub_ (lv2 := [some (ab_R v0), some (ab_I v1), none, some (ab_I v3)]) (ab_ss (ab_ss (ab_sn (ab_ss ab_s0)))) ?_
        exact e_X9_manyOf_J28 ih _ _ _ _ _ _ _ hk
      · have hk := ab_ifp hk hc
        refine ab_iconst (pc := 23) dX9_manyOf_23 ab_k_1 ?_
        refine ab_goto (pc := 24) (tgt := 28) dX9_manyOf_24 rfl ?_
        refine ab_sub_ (lv2 := [some (ab_R v0), some (ab_I v1), none, some (ab_I v3)]) (ab_ss (ab_ss (ab_sn (ab_ss ab_s0)))) ?_
        exact e_X9_manyOf_J28 ih _ _ _ _ _ _ _ hk
noncomputable def f_X9_manyOf (a0 : Int) (a1 : Int) (h : ab_H) : Option (Int × ab_H) :=
  f_X9_manyOf_L4 ab_FU a0 a1 (0 : Int) (0 : Int) h
set_option maxRecDepth 20000 in
theorem ct_X9_manyOf {a0 a1 : Int} {h : ab_H} {q : Int × ab_H} (hk : f_X9_manyOf a0 a1 h = some q) : ab_CT yX9_manyOf cX9_manyOf 4 (some .int) 0 0 [ab_R a0, ab_I a1] h (some (ab_I q.1)) q.2 := by
  refine ab_CT.mk_ 2 (own := RX9) (ini := false) (lv := [some (ab_R a0), some (ab_I a1), none, none]) rfl (by decide +kernel) (fun q => by cases q) rfl rfl ?_
  unfold f_X9_manyOf at hk
  show ab_E mm_X9_manyOf cX9_manyOf 0 _ [] h _ _
  refine ab_iconst (pc := 0) dX9_manyOf_0 ab_k_0 ?_
  refine ab_istore_n (pc := 1) (i := 2) (lv2 := [some (ab_R a0), some (ab_I a1), some (ab_I (0 : Int)), none]) dX9_manyOf_1 rfl (Nat.le_of_ble_eq_true rfl) rfl rfl ?_
  refine ab_iconst (pc := 2) dX9_manyOf_2 ab_k_0 ?_
  refine ab_istore_n (pc := 3) (i := 3) (lv2 := [some (ab_R a0), some (ab_I a1), some (ab_I (0 : Int)), some (ab_I (0 : Int))]) dX9_manyOf_3 rfl (Nat.le_of_ble_eq_true rfl) rfl rfl ?_
  refine ab_sub_ (lv2 := [some (ab_R a0), some (ab_I a1), some (ab_I (0 : Int)), some (ab_I (0 : Int))]) (ab_ss (ab_ss (ab_ss (ab_ss ab_s0)))) ?_
  refine e_X9_manyOf_L4 _ _ _ _ _ _ _ hk
theorem dX9_addressAbove_0 : decode cX9_addressAbove 0 = .ok (.iconst (-1), 1) := by decide +kernel
theorem dX9_addressAbove_1 : decode cX9_addressAbove 1 = .ok (.istore_n 3, 1) := by decide +kernel
theorem dX9_addressAbove_2 : decode cX9_addressAbove 2 = .ok (.iconst 0, 1) := by decide +kernel
theorem dX9_addressAbove_3 : decode cX9_addressAbove 3 = .ok (.istore 4, 2) := by decide +kernel
theorem dX9_addressAbove_5 : decode cX9_addressAbove 5 = .ok (.iload 4, 2) := by decide +kernel
theorem dX9_addressAbove_7 : decode cX9_addressAbove 7 = .ok (.aload_n 0, 1) := by decide +kernel
theorem dX9_addressAbove_8 : decode cX9_addressAbove 8 = .ok (.getfield 267, 3) := by decide +kernel
theorem dX9_addressAbove_11 : decode cX9_addressAbove 11 = .ok (.if_icmp .ge 58, 3) := by decide +kernel
theorem dX9_addressAbove_14 : decode cX9_addressAbove 14 = .ok (.aload_n 0, 1) := by decide +kernel
theorem dX9_addressAbove_15 : decode cX9_addressAbove 15 = .ok (.aload_n 0, 1) := by decide +kernel
theorem dX9_addressAbove_16 : decode cX9_addressAbove 16 = .ok (.getfield 31, 3) := by decide +kernel
theorem dX9_addressAbove_19 : decode cX9_addressAbove 19 = .ok (.aload_n 0, 1) := by decide +kernel
theorem dX9_addressAbove_20 : decode cX9_addressAbove 20 = .ok (.getfield 49, 3) := by decide +kernel
theorem dX9_addressAbove_23 : decode cX9_addressAbove 23 = .ok (.iload 4, 2) := by decide +kernel
theorem dX9_addressAbove_25 : decode cX9_addressAbove 25 = .ok (.iaload, 1) := by decide +kernel
theorem dX9_addressAbove_26 : decode cX9_addressAbove 26 = .ok (.iaload, 1) := by decide +kernel
theorem dX9_addressAbove_27 : decode cX9_addressAbove 27 = .ok (.invokevirtual 284, 3) := by decide +kernel
theorem dX9_addressAbove_30 : decode cX9_addressAbove 30 = .ok (.istore 5, 2) := by decide +kernel
theorem dX9_addressAbove_32 : decode cX9_addressAbove 32 = .ok (.aload_n 0, 1) := by decide +kernel
theorem dX9_addressAbove_33 : decode cX9_addressAbove 33 = .ok (.getfield 40, 3) := by decide +kernel
theorem dX9_addressAbove_36 : decode cX9_addressAbove 36 = .ok (.iload 4, 2) := by decide +kernel
theorem dX9_addressAbove_38 : decode cX9_addressAbove 38 = .ok (.iaload, 1) := by decide +kernel
theorem dX9_addressAbove_39 : decode cX9_addressAbove 39 = .ok (.iload_n 1, 1) := by decide +kernel
theorem dX9_addressAbove_40 : decode cX9_addressAbove 40 = .ok (.if_icmp .ne 23, 3) := by decide +kernel
theorem dX9_addressAbove_43 : decode cX9_addressAbove 43 = .ok (.iload 5, 2) := by decide +kernel
theorem dX9_addressAbove_45 : decode cX9_addressAbove 45 = .ok (.iload_n 2, 1) := by decide +kernel
theorem dX9_addressAbove_46 : decode cX9_addressAbove 46 = .ok (.if_icmp .le 17, 3) := by decide +kernel
theorem dX9_addressAbove_49 : decode cX9_addressAbove 49 = .ok (.iload_n 3, 1) := by decide +kernel
theorem dX9_addressAbove_50 : decode cX9_addressAbove 50 = .ok (.iconst (-1), 1) := by decide +kernel
theorem dX9_addressAbove_51 : decode cX9_addressAbove 51 = .ok (.if_icmp .eq 9, 3) := by decide +kernel
theorem dX9_addressAbove_54 : decode cX9_addressAbove 54 = .ok (.iload 5, 2) := by decide +kernel
theorem dX9_addressAbove_56 : decode cX9_addressAbove 56 = .ok (.iload_n 3, 1) := by decide +kernel
theorem dX9_addressAbove_57 : decode cX9_addressAbove 57 = .ok (.if_icmp .ge 6, 3) := by decide +kernel
theorem dX9_addressAbove_60 : decode cX9_addressAbove 60 = .ok (.iload 5, 2) := by decide +kernel
theorem dX9_addressAbove_62 : decode cX9_addressAbove 62 = .ok (.istore_n 3, 1) := by decide +kernel
theorem dX9_addressAbove_63 : decode cX9_addressAbove 63 = .ok (.iinc 4 1, 3) := by decide +kernel
theorem dX9_addressAbove_66 : decode cX9_addressAbove 66 = .ok (.goto (-61), 3) := by decide +kernel
theorem dX9_addressAbove_69 : decode cX9_addressAbove 69 = .ok (.iload_n 3, 1) := by decide +kernel
theorem dX9_addressAbove_70 : decode cX9_addressAbove 70 = .ok (.ireturn, 1) := by decide +kernel
abbrev mm_X9_addressAbove : ab_M := (RX9, 6, (some .int), false, 1, 21, none)
noncomputable def f_X9_addressAbove_J63 (rec : Int → Int → Int → Int → Int → ab_H → Option (Int × ab_H)) (v0 : Int) (v1 : Int) (v2 : Int) (v3 : Int) (v4 : Int) (h : ab_H) : Option (Int × ab_H) :=
  rec v0 v1 v2 v3 (ab_w32 (v4 + (1 : Int))) h
set_option maxRecDepth 20000 in
theorem e_X9_addressAbove_J63 {rec : Int → Int → Int → Int → Int → ab_H → Option (Int × ab_H)} (hrec : ∀ (v0 : Int) (v1 : Int) (v2 : Int) (v3 : Int) (v4 : Int) (h : ab_H) (q : Int × ab_H), rec v0 v1 v2 v3 v4 h = some q → ab_E mm_X9_addressAbove cX9_addressAbove 5 [some (ab_R v0), some (ab_I v1), some (ab_I v2), some (ab_I v3), some (ab_I v4), none] [] h (some (ab_I q.1)) q.2) : ∀ (v0 : Int) (v1 : Int) (v2 : Int) (v3 : Int) (v4 : Int) (h : ab_H) (q : Int × ab_H), f_X9_addressAbove_J63 rec v0 v1 v2 v3 v4 h = some q → ab_E mm_X9_addressAbove cX9_addressAbove 63 [some (ab_R v0), some (ab_I v1), some (ab_I v2), some (ab_I v3), some (ab_I v4), none] [] h (some (ab_I q.1)) q.2 := by
  intro v0 v1 v2 v3 v4 h q hk
  unfold f_X9_addressAbove_J63 at hk
  refine ab_iinc (pc := 63) (i := 4) (lv2 := [some (ab_R v0), some (ab_I v1), some (ab_I v2), some (ab_I v3), some (ab_I (ab_w32 (v4 + (1 : Int)))), none]) dX9_addressAbove_63 rfl (Nat.le_of_ble_eq_true rfl) rfl rfl ?_
  refine ab_goto (pc := 66) (tgt := 5) dX9_addressAbove_66 rfl ?_
  refine ab_sub_ (lv2 := [some (ab_R v0), some (ab_I v1), some (ab_I v2), some (ab_I v3), some (ab_I (ab_w32 (v4 + (1 : Int)))), none]) (ab_ss (ab_ss (ab_ss (ab_ss (ab_ss (ab_sn ab_s0)))))) ?_
  exact hrec _ _ _ _ _ _ _ hk
noncomputable def f_X9_addressAbove_J60 (rec : Int → Int → Int → Int → Int → ab_H → Option (Int × ab_H)) (v0 : Int) (v1 : Int) (v2 : Int) (v4 : Int) (v5 : Int) (h : ab_H) : Option (Int × ab_H) :=
  f_X9_addressAbove_J63 rec v0 v1 v2 v5 v4 h
set_option maxRecDepth 20000 in
theorem e_X9_addressAbove_J60 {rec : Int → Int → Int → Int → Int → ab_H → Option (Int × ab_H)} (hrec : ∀ (v0 : Int) (v1 : Int) (v2 : Int) (v3 : Int) (v4 : Int) (h : ab_H) (q : Int × ab_H), rec v0 v1 v2 v3 v4 h = some q → ab_E mm_X9_addressAbove cX9_addressAbove 5 [some (ab_R v0), some (ab_I v1), some (ab_I v2), some (ab_I v3), some (ab_I v4), none] [] h (some (ab_I q.1)) q.2) : ∀ (v0 : Int) (v1 : Int) (v2 : Int) (v4 : Int) (v5 : Int) (h : ab_H) (q : Int × ab_H), f_X9_addressAbove_J60 rec v0 v1 v2 v4 v5 h = some q → ab_E mm_X9_addressAbove cX9_addressAbove 60 [some (ab_R v0), some (ab_I v1), some (ab_I v2), none, some (ab_I v4), some (ab_I v5)] [] h (some (ab_I q.1)) q.2 := by
  intro v0 v1 v2 v4 v5 h q hk
  unfold f_X9_addressAbove_J60 at hk
  refine ab_iload (pc := 60) (i := 5) dX9_addressAbove_60 rfl ?_
  refine ab_istore_n (pc := 62) (i := 3) (lv2 := [some (ab_R v0), some (ab_I v1), some (ab_I v2), some (ab_I v5), some (ab_I v4), some (ab_I v5)]) dX9_addressAbove_62 rfl (Nat.le_of_ble_eq_true rfl) rfl rfl ?_
  refine ab_sub_ (lv2 := [some (ab_R v0), some (ab_I v1), some (ab_I v2), some (ab_I v5), some (ab_I v4), none]) (ab_ss (ab_ss (ab_ss (ab_ss (ab_ss (ab_sn ab_s0)))))) ?_
  exact e_X9_addressAbove_J63 hrec _ _ _ _ _ _ _ hk
noncomputable def f_X9_addressAbove_L5 : Nat → Int → Int → Int → Int → Int → ab_H → Option (Int × ab_H)
  | 0, _, _, _, _, _, _ => none
  | n + 1, v0, v1, v2, v3, v4, h =>
    (ab_get h 10 16 v0).bind fun t1 =>
    if t1 ≤ v4 then
      some (v3, h)
    else
    (ab_get h 10 19 v0).bind fun t2 =>
    (ab_get h 10 26 v0).bind fun t3 =>
    (ab_ald h 11 t3 v4).bind fun t4 =>
    (ab_ald h 11 t2 t4).bind fun t5 =>
    (ab_on h 10 v0 (f_X9_addressOf v0 t5 h)).bind fun q6 =>
    (ab_get q6.2 10 22 v0).bind fun t7 =>
    (ab_ald q6.2 11 t7 v4).bind fun t8 =>
    if t8 = v1 then
      if q6.1 ≤ v2 then
        f_X9_addressAbove_J63 (f_X9_addressAbove_L5 n) v0 v1 v2 v3 v4 q6.2
      else
      if v3 = (-1 : Int) then
        f_X9_addressAbove_J60 (f_X9_addressAbove_L5 n) v0 v1 v2 v4 q6.1 q6.2
      else
      if v3 ≤ q6.1 then
        f_X9_addressAbove_J63 (f_X9_addressAbove_L5 n) v0 v1 v2 v3 v4 q6.2
      else
      f_X9_addressAbove_J60 (f_X9_addressAbove_L5 n) v0 v1 v2 v4 q6.1 q6.2
    else
    f_X9_addressAbove_J63 (f_X9_addressAbove_L5 n) v0 v1 v2 v3 v4 q6.2
set_option maxRecDepth 20000 in
theorem e_X9_addressAbove_L5 : ∀ (n : Nat) (v0 : Int) (v1 : Int) (v2 : Int) (v3 : Int) (v4 : Int) (h : ab_H) (q : Int × ab_H), f_X9_addressAbove_L5 n v0 v1 v2 v3 v4 h = some q → ab_E mm_X9_addressAbove cX9_addressAbove 5 [some (ab_R v0), some (ab_I v1), some (ab_I v2), some (ab_I v3), some (ab_I v4), none] [] h (some (ab_I q.1)) q.2 := by
  intro n
  induction n with
  | zero => intro v0 v1 v2 v3 v4 h q hk; cases hk
  | succ n ih =>
    intro v0 v1 v2 v3 v4 h q hk
    unfold f_X9_addressAbove_L5 at hk
    refine ab_iload (pc := 5) (i := 4) dX9_addressAbove_5 rfl ?_
    refine ab_aload_n (pc := 7) (i := 0) dX9_addressAbove_7 rfl rfl ?_
    obtain ⟨t1, ht1, hk⟩ := ab_bnd hk
    refine ab_getI (pc := 8) dX9_addressAbove_8 fl_RX9_267 ht1 ?_
    refine ab_icmp_ge (pc := 11) (tgt := 69) dX9_addressAbove_11 rfl (fun hc => ?_) (fun hc => ?_)
    · have hk := ab_ifp hk hc
      refine ab_iload_n (pc := 69) (i := 3) dX9_addressAbove_69 rfl rfl ?_
      obtain rfl := Option.some.inj hk
      exact ab_reti (pc := 70) dX9_addressAbove_70 (Or.inl rfl)
    · have hk := ab_ifn hk hc
      refine ab_aload_n (pc := 14) (i := 0) dX9_addressAbove_14 rfl rfl ?_
      refine ab_aload_n (pc := 15) (i := 0) dX9_addressAbove_15 rfl rfl ?_
      obtain ⟨t2, ht2, hk⟩ := ab_bnd hk
      refine ab_getR (pc := 16) dX9_addressAbove_16 fl_RX9_31 ht2 ?_
      refine ab_aload_n (pc := 19) (i := 0) dX9_addressAbove_19 rfl rfl ?_
      obtain ⟨t3, ht3, hk⟩ := ab_bnd hk
      refine ab_getR (pc := 20) dX9_addressAbove_20 fl_RX9_49 ht3 ?_
      refine ab_iload (pc := 23) (i := 4) dX9_addressAbove_23 rfl ?_
      obtain ⟨t4, ht4, hk⟩ := ab_bnd hk
      refine ab_iald (pc := 25) dX9_addressAbove_25 ht4 ?_
      obtain ⟨t5, ht5, hk⟩ := ab_bnd hk
      refine ab_iald (pc := 26) dX9_addressAbove_26 ht5 ?_
      obtain ⟨q6, hq6, hk⟩ := ab_bnd hk
      obtain ⟨hb, hq6⟩ := ab_on_some hq6
      refine ab_callVI (st := []) (as := [ab_I t5]) (b := v0) (pc := 27) dX9_addressAbove_27 ml_RX9_284 my_X9_addressOf mv_X9_addressOf hb (ct_X9_addressOf hq6) ⟨Nat.le_of_ble_eq_true rfl, Nat.le_of_ble_eq_true rfl⟩ rfl (Nat.le_of_ble_eq_true rfl) rfl ?_
      refine ab_istore (pc := 30) (i := 5) (lv2 := [some (ab_R v0), some (ab_I v1), some (ab_I v2), some (ab_I v3), some (ab_I v4), some (ab_I q6.1)]) dX9_addressAbove_30 (Nat.le_of_ble_eq_true rfl) rfl rfl ?_
      refine ab_aload_n (pc := 32) (i := 0) dX9_addressAbove_32 rfl rfl ?_
      obtain ⟨t7, ht7, hk⟩ := ab_bnd hk
      refine ab_getR (pc := 33) dX9_addressAbove_33 fl_RX9_40 ht7 ?_
      refine ab_iload (pc := 36) (i := 4) dX9_addressAbove_36 rfl ?_
      obtain ⟨t8, ht8, hk⟩ := ab_bnd hk
      refine ab_iald (pc := 38) dX9_addressAbove_38 ht8 ?_
      refine ab_iload_n (pc := 39) (i := 1) dX9_addressAbove_39 rfl rfl ?_
      refine ab_icmp_ne (pc := 40) (tgt := 63) dX9_addressAbove_40 rfl (fun hc => ?_) (fun hc => ?_)
      · have hk := ab_ifn hk hc
        refine ab_sub_ (lv2 := [some (ab_R v0), some (ab_I v1), some (ab_I v2), some (ab_I v3), some (ab_I v4), none]) (ab_ss (ab_ss (ab_ss (ab_ss (ab_ss (ab_sn ab_s0)))))) ?_
        exact e_X9_addressAbove_J63 ih _ _ _ _ _ _ _ hk
      · have hk := ab_ifp hk hc
        refine ab_iload (pc := 43) (i := 5) dX9_addressAbove_43 rfl ?_
        refine ab_iload_n (pc := 45) (i := 2) dX9_addressAbove_45 rfl rfl ?_
        refine ab_icmp_le (pc := 46) (tgt := 63) dX9_addressAbove_46 rfl (fun hc => ?_) (fun hc => ?_)
        · have hk := ab_ifp hk hc
          refine ab_sub_ (lv2 := [some (ab_R v0), some (ab_I v1), some (ab_I v2), some (ab_I v3), some (ab_I v4), none]) (ab_ss (ab_ss (ab_ss (ab_ss (ab_ss (ab_sn ab_s0)))))) ?_
          exact e_X9_addressAbove_J63 ih _ _ _ _ _ _ _ hk
        · have hk := ab_ifn hk hc
          refine ab_iload_n (pc := 49) (i := 3) dX9_addressAbove_49 rfl rfl ?_
          refine ab_iconst (pc := 50) dX9_addressAbove_50 ab_k_m1 ?_
          refine ab_icmp_eq (pc := 51) (tgt := 60) dX9_addressAbove_51 rfl (fun hc => ?_) (fun hc => ?_)
          · have hk := ab_ifp hk hc
            refine ab_sub_ (lv2 := [some (ab_R v0), some (ab_I v1), some (ab_I v2), none, some (ab_I v4), some (ab_I q6.1)]) (ab_ss (ab_ss (ab_ss (ab_sn (ab_ss (ab_ss ab_s0)))))) ?_
            exact e_X9_addressAbove_J60 ih _ _ _ _ _ _ _ hk
          · have hk := ab_ifn hk hc
            refine ab_iload (pc := 54) (i := 5) dX9_addressAbove_54 rfl ?_
            refine ab_iload_n (pc := 56) (i := 3) dX9_addressAbove_56 rfl rfl ?_
            refine ab_icmp_ge (pc := 57) (tgt := 63) dX9_addressAbove_57 rfl (fun hc => ?_) (fun hc => ?_)
            · have hk := ab_ifp hk hc
              refine ab_sub_ (lv2 := [some (ab_R v0), some (ab_I v1), some (ab_I v2), some (ab_I v3), some (ab_I v4), none]) (ab_ss (ab_ss (ab_ss (ab_ss (ab_ss (ab_sn ab_s0)))))) ?_
              exact e_X9_addressAbove_J63 ih _ _ _ _ _ _ _ hk
            · have hk := ab_ifn hk hc
              refine ab_sub_ (lv2 := [some (ab_R v0), some (ab_I v1), some (ab_I v2), none, some (ab_I v4), some (ab_I q6.1)]) (ab_ss (ab_ss (ab_ss (ab_sn (ab_ss (ab_ss ab_s0)))))) ?_
              exact e_X9_addressAbove_J60 ih _ _ _ _ _ _ _ hk
noncomputable def f_X9_addressAbove (a0 : Int) (a1 : Int) (a2 : Int) (h : ab_H) : Option (Int × ab_H) :=
  f_X9_addressAbove_L5 ab_FU a0 a1 a2 (-1 : Int) (0 : Int) h
set_option maxRecDepth 20000 in
theorem ct_X9_addressAbove {a0 a1 a2 : Int} {h : ab_H} {q : Int × ab_H} (hk : f_X9_addressAbove a0 a1 a2 h = some q) : ab_CT yX9_addressAbove cX9_addressAbove 6 (some .int) 1 21 [ab_R a0, ab_I a1, ab_I a2] h (some (ab_I q.1)) q.2 := by
  refine ab_CT.mk_ 3 (own := RX9) (ini := false) (lv := [some (ab_R a0), some (ab_I a1), some (ab_I a2), none, none, none]) rfl (by decide +kernel) (fun q => by cases q) rfl rfl ?_
  unfold f_X9_addressAbove at hk
  show ab_E mm_X9_addressAbove cX9_addressAbove 0 _ [] h _ _
  refine ab_iconst (pc := 0) dX9_addressAbove_0 ab_k_m1 ?_
  refine ab_istore_n (pc := 1) (i := 3) (lv2 := [some (ab_R a0), some (ab_I a1), some (ab_I a2), some (ab_I (-1 : Int)), none, none]) dX9_addressAbove_1 rfl (Nat.le_of_ble_eq_true rfl) rfl rfl ?_
  refine ab_iconst (pc := 2) dX9_addressAbove_2 ab_k_0 ?_
  refine ab_istore (pc := 3) (i := 4) (lv2 := [some (ab_R a0), some (ab_I a1), some (ab_I a2), some (ab_I (-1 : Int)), some (ab_I (0 : Int)), none]) dX9_addressAbove_3 (Nat.le_of_ble_eq_true rfl) rfl rfl ?_
  refine ab_sub_ (lv2 := [some (ab_R a0), some (ab_I a1), some (ab_I a2), some (ab_I (-1 : Int)), some (ab_I (0 : Int)), none]) (ab_ss (ab_ss (ab_ss (ab_ss (ab_ss (ab_sn ab_s0)))))) ?_
  refine e_X9_addressAbove_L5 _ _ _ _ _ _ _ _ hk
theorem dX9_addressesOf_0 : decode cX9_addressesOf 0 = .ok (.iconst 0, 1) := by decide +kernel
theorem dX9_addressesOf_1 : decode cX9_addressesOf 1 = .ok (.istore_n 2, 1) := by decide +kernel
theorem dX9_addressesOf_2 : decode cX9_addressesOf 2 = .ok (.aload_n 0, 1) := by decide +kernel
theorem dX9_addressesOf_3 : decode cX9_addressesOf 3 = .ok (.iload_n 1, 1) := by decide +kernel
theorem dX9_addressesOf_4 : decode cX9_addressesOf 4 = .ok (.iconst (-1), 1) := by decide +kernel
theorem dX9_addressesOf_5 : decode cX9_addressesOf 5 = .ok (.invokevirtual 354, 3) := by decide +kernel
theorem dX9_addressesOf_8 : decode cX9_addressesOf 8 = .ok (.istore_n 3, 1) := by decide +kernel
theorem dX9_addressesOf_9 : decode cX9_addressesOf 9 = .ok (.iload_n 3, 1) := by decide +kernel
theorem dX9_addressesOf_10 : decode cX9_addressesOf 10 = .ok (.iconst (-1), 1) := by decide +kernel
theorem dX9_addressesOf_11 : decode cX9_addressesOf 11 = .ok (.if_icmp .eq 16, 3) := by decide +kernel
theorem dX9_addressesOf_14 : decode cX9_addressesOf 14 = .ok (.iinc 2 1, 3) := by decide +kernel
theorem dX9_addressesOf_17 : decode cX9_addressesOf 17 = .ok (.aload_n 0, 1) := by decide +kernel
theorem dX9_addressesOf_18 : decode cX9_addressesOf 18 = .ok (.iload_n 1, 1) := by decide +kernel
theorem dX9_addressesOf_19 : decode cX9_addressesOf 19 = .ok (.iload_n 3, 1) := by decide +kernel
theorem dX9_addressesOf_20 : decode cX9_addressesOf 20 = .ok (.invokevirtual 354, 3) := by decide +kernel
theorem dX9_addressesOf_23 : decode cX9_addressesOf 23 = .ok (.istore_n 3, 1) := by decide +kernel
theorem dX9_addressesOf_24 : decode cX9_addressesOf 24 = .ok (.goto (-15), 3) := by decide +kernel
theorem dX9_addressesOf_27 : decode cX9_addressesOf 27 = .ok (.iload_n 2, 1) := by decide +kernel
theorem dX9_addressesOf_28 : decode cX9_addressesOf 28 = .ok (.ireturn, 1) := by decide +kernel
abbrev mm_X9_addressesOf : ab_M := (RX9, 4, (some .int), false, 2, 46, none)
noncomputable def f_X9_addressesOf_L9 : Nat → Int → Int → Int → Int → ab_H → Option (Int × ab_H)
  | 0, _, _, _, _, _ => none
  | n + 1, v0, v1, v2, v3, h =>
    if v3 = (-1 : Int) then
      some (v2, h)
    else
    (ab_on h 10 v0 (f_X9_addressAbove v0 v1 v3 h)).bind fun q1 =>
    f_X9_addressesOf_L9 n v0 v1 (ab_w32 (v2 + (1 : Int))) q1.1 q1.2
set_option maxRecDepth 20000 in
theorem e_X9_addressesOf_L9 : ∀ (n : Nat) (v0 : Int) (v1 : Int) (v2 : Int) (v3 : Int) (h : ab_H) (q : Int × ab_H), f_X9_addressesOf_L9 n v0 v1 v2 v3 h = some q → ab_E mm_X9_addressesOf cX9_addressesOf 9 [some (ab_R v0), some (ab_I v1), some (ab_I v2), some (ab_I v3)] [] h (some (ab_I q.1)) q.2 := by
  intro n
  induction n with
  | zero => intro v0 v1 v2 v3 h q hk; cases hk
  | succ n ih =>
    intro v0 v1 v2 v3 h q hk
    unfold f_X9_addressesOf_L9 at hk
    refine ab_iload_n (pc := 9) (i := 3) dX9_addressesOf_9 rfl rfl ?_
    refine ab_iconst (pc := 10) dX9_addressesOf_10 ab_k_m1 ?_
    refine ab_icmp_eq (pc := 11) (tgt := 27) dX9_addressesOf_11 rfl (fun hc => ?_) (fun hc => ?_)
    · have hk := ab_ifp hk hc
      refine ab_iload_n (pc := 27) (i := 2) dX9_addressesOf_27 rfl rfl ?_
      obtain rfl := Option.some.inj hk
      exact ab_reti (pc := 28) dX9_addressesOf_28 (Or.inl rfl)
    · have hk := ab_ifn hk hc
      refine ab_iinc (pc := 14) (i := 2) (lv2 := [some (ab_R v0), some (ab_I v1), some (ab_I (ab_w32 (v2 + (1 : Int)))), some (ab_I v3)]) dX9_addressesOf_14 rfl (Nat.le_of_ble_eq_true rfl) rfl rfl ?_
      refine ab_aload_n (pc := 17) (i := 0) dX9_addressesOf_17 rfl rfl ?_
      refine ab_iload_n (pc := 18) (i := 1) dX9_addressesOf_18 rfl rfl ?_
      refine ab_iload_n (pc := 19) (i := 3) dX9_addressesOf_19 rfl rfl ?_
      obtain ⟨q1, hq1, hk⟩ := ab_bnd hk
      obtain ⟨hb, hq1⟩ := ab_on_some hq1
      refine ab_callVI (st := []) (as := [ab_I v1, ab_I v3]) (b := v0) (pc := 20) dX9_addressesOf_20 ml_RX9_354 my_X9_addressAbove mv_X9_addressAbove hb (ct_X9_addressAbove hq1) ⟨Nat.le_of_ble_eq_true rfl, Nat.le_of_ble_eq_true rfl⟩ rfl (Nat.le_of_ble_eq_true rfl) rfl ?_
      refine ab_istore_n (pc := 23) (i := 3) (lv2 := [some (ab_R v0), some (ab_I v1), some (ab_I (ab_w32 (v2 + (1 : Int)))), some (ab_I q1.1)]) dX9_addressesOf_23 rfl (Nat.le_of_ble_eq_true rfl) rfl rfl ?_
      refine ab_goto (pc := 24) (tgt := 9) dX9_addressesOf_24 rfl ?_
      refine ab_sub_ (lv2 := [some (ab_R v0), some (ab_I v1), some (ab_I (ab_w32 (v2 + (1 : Int)))), some (ab_I q1.1)]) (ab_ss (ab_ss (ab_ss (ab_ss ab_s0)))) ?_
      exact ih _ _ _ _ _ _ hk
noncomputable def f_X9_addressesOf (a0 : Int) (a1 : Int) (h : ab_H) : Option (Int × ab_H) :=
  (ab_on h 10 a0 (f_X9_addressAbove a0 a1 (-1 : Int) h)).bind fun q1 =>
  f_X9_addressesOf_L9 ab_FU a0 a1 (0 : Int) q1.1 q1.2
set_option maxRecDepth 20000 in
theorem ct_X9_addressesOf {a0 a1 : Int} {h : ab_H} {q : Int × ab_H} (hk : f_X9_addressesOf a0 a1 h = some q) : ab_CT yX9_addressesOf cX9_addressesOf 4 (some .int) 2 46 [ab_R a0, ab_I a1] h (some (ab_I q.1)) q.2 := by
  refine ab_CT.mk_ 2 (own := RX9) (ini := false) (lv := [some (ab_R a0), some (ab_I a1), none, none]) rfl (by decide +kernel) (fun q => by cases q) rfl rfl ?_
  unfold f_X9_addressesOf at hk
  show ab_E mm_X9_addressesOf cX9_addressesOf 0 _ [] h _ _
  refine ab_iconst (pc := 0) dX9_addressesOf_0 ab_k_0 ?_
  refine ab_istore_n (pc := 1) (i := 2) (lv2 := [some (ab_R a0), some (ab_I a1), some (ab_I (0 : Int)), none]) dX9_addressesOf_1 rfl (Nat.le_of_ble_eq_true rfl) rfl rfl ?_
  refine ab_aload_n (pc := 2) (i := 0) dX9_addressesOf_2 rfl rfl ?_
  refine ab_iload_n (pc := 3) (i := 1) dX9_addressesOf_3 rfl rfl ?_
  refine ab_iconst (pc := 4) dX9_addressesOf_4 ab_k_m1 ?_
  obtain ⟨q1, hq1, hk⟩ := ab_bnd hk
  obtain ⟨hb, hq1⟩ := ab_on_some hq1
  refine ab_callVI (st := []) (as := [ab_I a1, ab_I (-1 : Int)]) (b := a0) (pc := 5) dX9_addressesOf_5 ml_RX9_354 my_X9_addressAbove mv_X9_addressAbove hb (ct_X9_addressAbove hq1) ⟨Nat.le_of_ble_eq_true rfl, Nat.le_of_ble_eq_true rfl⟩ rfl (Nat.le_of_ble_eq_true rfl) rfl ?_
  refine ab_istore_n (pc := 8) (i := 3) (lv2 := [some (ab_R a0), some (ab_I a1), some (ab_I (0 : Int)), some (ab_I q1.1)]) dX9_addressesOf_8 rfl (Nat.le_of_ble_eq_true rfl) rfl rfl ?_
  refine ab_sub_ (lv2 := [some (ab_R a0), some (ab_I a1), some (ab_I (0 : Int)), some (ab_I q1.1)]) (ab_ss (ab_ss (ab_ss (ab_ss ab_s0)))) ?_
  refine e_X9_addressesOf_L9 _ _ _ _ _ _ _ hk
theorem dX9_line_0 : decode cX9_line 0 = .ok (.aload_n 0, 1) := by decide +kernel
theorem dX9_line_1 : decode cX9_line 1 = .ok (.iload_n 1, 1) := by decide +kernel
theorem dX9_line_2 : decode cX9_line 2 = .ok (.invokevirtual 357, 3) := by decide +kernel
theorem dX9_line_5 : decode cX9_line 5 = .ok (.ifCond .eq 15, 3) := by decide +kernel
theorem dX9_line_8 : decode cX9_line 8 = .ok (.iload_n 2, 1) := by decide +kernel
theorem dX9_line_9 : decode cX9_line 9 = .ok (.i2l, 1) := by decide +kernel
theorem dX9_line_10 : decode cX9_line 10 = .ok (.lconst 0, 1) := by decide +kernel
theorem dX9_line_11 : decode cX9_line 11 = .ok (.ldc2_w 360, 3) := by decide +kernel
theorem dX9_line_14 : decode cX9_line 14 = .ok (.invokestatic 84, 3) := by decide +kernel
theorem dX9_line_17 : decode cX9_line 17 = .ok (.ifCond .ne 6, 3) := by decide +kernel
theorem dX9_line_20 : decode cX9_line 20 = .ok (.bipush (-2), 2) := by decide +kernel
theorem dX9_line_22 : decode cX9_line 22 = .ok (.ireturn, 1) := by decide +kernel
theorem dX9_line_23 : decode cX9_line 23 = .ok (.iload_n 2, 1) := by decide +kernel
theorem dX9_line_24 : decode cX9_line 24 = .ok (.ifCond .ne 11, 3) := by decide +kernel
theorem dX9_line_27 : decode cX9_line 27 = .ok (.aload_n 0, 1) := by decide +kernel
theorem dX9_line_28 : decode cX9_line 28 = .ok (.iload_n 1, 1) := by decide +kernel
theorem dX9_line_29 : decode cX9_line 29 = .ok (.invokevirtual 362, 3) := by decide +kernel
theorem dX9_line_32 : decode cX9_line 32 = .ok (.goto 39, 3) := by decide +kernel
theorem dX9_line_35 : decode cX9_line 35 = .ok (.iload_n 2, 1) := by decide +kernel
theorem dX9_line_36 : decode cX9_line 36 = .ok (.iconst 1, 1) := by decide +kernel
theorem dX9_line_37 : decode cX9_line 37 = .ok (.if_icmp .ne 11, 3) := by decide +kernel
theorem dX9_line_40 : decode cX9_line 40 = .ok (.aload_n 0, 1) := by decide +kernel
theorem dX9_line_41 : decode cX9_line 41 = .ok (.iload_n 1, 1) := by decide +kernel
theorem dX9_line_42 : decode cX9_line 42 = .ok (.invokevirtual 365, 3) := by decide +kernel
theorem dX9_line_45 : decode cX9_line 45 = .ok (.goto 26, 3) := by decide +kernel
theorem dX9_line_48 : decode cX9_line 48 = .ok (.iload_n 2, 1) := by decide +kernel
theorem dX9_line_49 : decode cX9_line 49 = .ok (.iconst 2, 1) := by decide +kernel
theorem dX9_line_50 : decode cX9_line 50 = .ok (.if_icmp .ne 11, 3) := by decide +kernel
theorem dX9_line_53 : decode cX9_line 53 = .ok (.aload_n 0, 1) := by decide +kernel
theorem dX9_line_54 : decode cX9_line 54 = .ok (.iload_n 1, 1) := by decide +kernel
theorem dX9_line_55 : decode cX9_line 55 = .ok (.invokevirtual 368, 3) := by decide +kernel
theorem dX9_line_58 : decode cX9_line 58 = .ok (.goto 13, 3) := by decide +kernel
theorem dX9_line_61 : decode cX9_line 61 = .ok (.aload_n 0, 1) := by decide +kernel
theorem dX9_line_62 : decode cX9_line 62 = .ok (.getfield 43, 3) := by decide +kernel
theorem dX9_line_65 : decode cX9_line 65 = .ok (.aload_n 0, 1) := by decide +kernel
theorem dX9_line_66 : decode cX9_line 66 = .ok (.iload_n 1, 1) := by decide +kernel
theorem dX9_line_67 : decode cX9_line 67 = .ok (.invokevirtual 362, 3) := by decide +kernel
theorem dX9_line_70 : decode cX9_line 70 = .ok (.iaload, 1) := by decide +kernel
theorem dX9_line_71 : decode cX9_line 71 = .ok (.ireturn, 1) := by decide +kernel
abbrev mm_X9_line : ab_M := (RX9, 3, (some .int), false, 7, 154, none)
noncomputable def f_X9_line (a0 : Int) (a1 : Int) (a2 : Int) (h : ab_H) : Option (Int × ab_H) :=
  (ab_on h 10 a0 (f_X9_isLineNow a0 a1 h)).bind fun q1 =>
  if q1.1 = (0 : Int) then
    some ((-2 : Int), q1.2)
  else
  (f_X9_in a2 (0 : Int) (3 : Int) q1.2).bind fun q2 =>
  if q2.1 = (0 : Int) then
    some ((-2 : Int), q2.2)
  else
  if a2 = (0 : Int) then
    (ab_on q2.2 10 a0 (f_X9_firstOf a0 a1 q2.2)).bind fun q8 =>
    some (q8.1, q8.2)
  else
  if a2 = (1 : Int) then
    (ab_on q2.2 10 a0 (f_X9_manyOf a0 a1 q2.2)).bind fun q7 =>
    some (q7.1, q7.2)
  else
  if a2 = (2 : Int) then
    (ab_on q2.2 10 a0 (f_X9_addressesOf a0 a1 q2.2)).bind fun q6 =>
    some (q6.1, q6.2)
  else
  (ab_get q2.2 10 23 a0).bind fun t3 =>
  (ab_on q2.2 10 a0 (f_X9_firstOf a0 a1 q2.2)).bind fun q4 =>
  (ab_ald q4.2 11 t3 q4.1).bind fun t5 =>
  some (t5, q4.2)
set_option maxRecDepth 20000 in
theorem ct_X9_line {a0 a1 a2 : Int} {h : ab_H} {q : Int × ab_H} (hk : f_X9_line a0 a1 a2 h = some q) : ab_CT yX9_line cX9_line 3 (some .int) 7 154 [ab_R a0, ab_I a1, ab_I a2] h (some (ab_I q.1)) q.2 := by
  refine ab_CT.mk_ 0 (own := RX9) (ini := false) (lv := [some (ab_R a0), some (ab_I a1), some (ab_I a2)]) rfl (by decide +kernel) (fun q => by cases q) rfl rfl ?_
  unfold f_X9_line at hk
  show ab_E mm_X9_line cX9_line 0 _ [] h _ _
  refine ab_aload_n (pc := 0) (i := 0) dX9_line_0 rfl rfl ?_
  refine ab_iload_n (pc := 1) (i := 1) dX9_line_1 rfl rfl ?_
  obtain ⟨q1, hq1, hk⟩ := ab_bnd hk
  obtain ⟨hb, hq1⟩ := ab_on_some hq1
  refine ab_callVI (st := []) (as := [ab_I a1]) (b := a0) (pc := 2) dX9_line_2 ml_RX9_357 my_X9_isLineNow mv_X9_isLineNow hb (ct_X9_isLineNow hq1) ⟨Nat.le_of_ble_eq_true rfl, Nat.le_of_ble_eq_true rfl⟩ rfl (Nat.le_of_ble_eq_true rfl) rfl ?_
  refine ab_if_eq (pc := 5) (tgt := 20) dX9_line_5 rfl (fun hc => ?_) (fun hc => ?_)
  · have hk := ab_ifp hk hc
    refine ab_bipush (pc := 20) dX9_line_20 ab_p8_m2 ab_k_m2 ?_
    obtain rfl := Option.some.inj hk
    exact ab_reti (pc := 22) dX9_line_22 (Or.inl rfl)
  · have hk := ab_ifn hk hc
    refine ab_iload_n (pc := 8) (i := 2) dX9_line_8 rfl rfl ?_
    refine ab_i2l_ (pc := 9) dX9_line_9 ?_
    refine ab_lconst (x := (0 : Int)) (pc := 10) dX9_line_10 rfl ab_kl_0 ?_
    refine ab_ldc2 (x := (3 : Int)) (pc := 11) dX9_line_11 ab_ld2_RX9_360 ab_kl_3 ?_
    obtain ⟨q2, hq2, hk⟩ := ab_bnd hk
    refine ab_callSI (st := []) (as := [ab_J a2, ab_J (0 : Int), ab_J (3 : Int)]) (pc := 14) dX9_line_14 ml_RX9_84 my_X9_in ms_X9_in (ct_X9_in hq2) ⟨Nat.le_of_ble_eq_true rfl, Nat.le_of_ble_eq_true rfl⟩ rfl (Nat.le_of_ble_eq_true rfl) rfl ?_
    refine ab_if_ne (pc := 17) (tgt := 23) dX9_line_17 rfl (fun hc => ?_) (fun hc => ?_)
    · have hk := ab_ifn hk hc
      refine ab_iload_n (pc := 23) (i := 2) dX9_line_23 rfl rfl ?_
      refine ab_if_ne (pc := 24) (tgt := 35) dX9_line_24 rfl (fun hc => ?_) (fun hc => ?_)
      · have hk := ab_ifn hk hc
        refine ab_iload_n (pc := 35) (i := 2) dX9_line_35 rfl rfl ?_
        refine ab_iconst (pc := 36) dX9_line_36 ab_k_1 ?_
        refine ab_icmp_ne (pc := 37) (tgt := 48) dX9_line_37 rfl (fun hc => ?_) (fun hc => ?_)
        · have hk := ab_ifn hk hc
          refine ab_iload_n (pc := 48) (i := 2) dX9_line_48 rfl rfl ?_
          refine ab_iconst (pc := 49) dX9_line_49 ab_k_2 ?_
          refine ab_icmp_ne (pc := 50) (tgt := 61) dX9_line_50 rfl (fun hc => ?_) (fun hc => ?_)
          · have hk := ab_ifn hk hc
            refine ab_aload_n (pc := 61) (i := 0) dX9_line_61 rfl rfl ?_
            obtain ⟨t3, ht3, hk⟩ := ab_bnd hk
            refine ab_getR (pc := 62) dX9_line_62 fl_RX9_43 ht3 ?_
            refine ab_aload_n (pc := 65) (i := 0) dX9_line_65 rfl rfl ?_
            refine ab_iload_n (pc := 66) (i := 1) dX9_line_66 rfl rfl ?_
            obtain ⟨q4, hq4, hk⟩ := ab_bnd hk
            obtain ⟨hb, hq4⟩ := ab_on_some hq4
            refine ab_callVI (st := [ab_R t3]) (as := [ab_I a1]) (b := a0) (pc := 67) dX9_line_67 ml_RX9_362 my_X9_firstOf mv_X9_firstOf hb (ct_X9_firstOf hq4) ⟨Nat.le_of_ble_eq_true rfl, Nat.le_of_ble_eq_true rfl⟩ rfl (Nat.le_of_ble_eq_true rfl) rfl ?_
            obtain ⟨t5, ht5, hk⟩ := ab_bnd hk
            refine ab_iald (pc := 70) dX9_line_70 ht5 ?_
            obtain rfl := Option.some.inj hk
            exact ab_reti (pc := 71) dX9_line_71 (Or.inl rfl)
          · have hk := ab_ifp hk hc
            refine ab_aload_n (pc := 53) (i := 0) dX9_line_53 rfl rfl ?_
            refine ab_iload_n (pc := 54) (i := 1) dX9_line_54 rfl rfl ?_
            obtain ⟨q6, hq6, hk⟩ := ab_bnd hk
            obtain ⟨hb, hq6⟩ := ab_on_some hq6
            refine ab_callVI (st := []) (as := [ab_I a1]) (b := a0) (pc := 55) dX9_line_55 ml_RX9_368 my_X9_addressesOf mv_X9_addressesOf hb (ct_X9_addressesOf hq6) ⟨Nat.le_of_ble_eq_true rfl, Nat.le_of_ble_eq_true rfl⟩ rfl (Nat.le_of_ble_eq_true rfl) rfl ?_
            refine ab_goto (pc := 58) (tgt := 71) dX9_line_58 rfl ?_
            obtain rfl := Option.some.inj hk
            exact ab_reti (pc := 71) dX9_line_71 (Or.inl rfl)
        · have hk := ab_ifp hk hc
          refine ab_aload_n (pc := 40) (i := 0) dX9_line_40 rfl rfl ?_
          refine ab_iload_n (pc := 41) (i := 1) dX9_line_41 rfl rfl ?_
          obtain ⟨q7, hq7, hk⟩ := ab_bnd hk
          obtain ⟨hb, hq7⟩ := ab_on_some hq7
          refine ab_callVI (st := []) (as := [ab_I a1]) (b := a0) (pc := 42) dX9_line_42 ml_RX9_365 my_X9_manyOf mv_X9_manyOf hb (ct_X9_manyOf hq7) ⟨Nat.le_of_ble_eq_true rfl, Nat.le_of_ble_eq_true rfl⟩ rfl (Nat.le_of_ble_eq_true rfl) rfl ?_
          refine ab_goto (pc := 45) (tgt := 71) dX9_line_45 rfl ?_
          obtain rfl := Option.some.inj hk
          exact ab_reti (pc := 71) dX9_line_71 (Or.inl rfl)
      · have hk := ab_ifp hk hc
        refine ab_aload_n (pc := 27) (i := 0) dX9_line_27 rfl rfl ?_
        refine ab_iload_n (pc := 28) (i := 1) dX9_line_28 rfl rfl ?_
        obtain ⟨q8, hq8, hk⟩ := ab_bnd hk
        obtain ⟨hb, hq8⟩ := ab_on_some hq8
        refine ab_callVI (st := []) (as := [ab_I a1]) (b := a0) (pc := 29) dX9_line_29 ml_RX9_362 my_X9_firstOf mv_X9_firstOf hb (ct_X9_firstOf hq8) ⟨Nat.le_of_ble_eq_true rfl, Nat.le_of_ble_eq_true rfl⟩ rfl (Nat.le_of_ble_eq_true rfl) rfl ?_
        refine ab_goto (pc := 32) (tgt := 71) dX9_line_32 rfl ?_
        obtain rfl := Option.some.inj hk
        exact ab_reti (pc := 71) dX9_line_71 (Or.inl rfl)
    · have hk := ab_ifp hk hc
      refine ab_bipush (pc := 20) dX9_line_20 ab_p8_m2 ab_k_m2 ?_
      obtain rfl := Option.some.inj hk
      exact ab_reti (pc := 22) dX9_line_22 (Or.inl rfl)
theorem dX9_address_0 : decode cX9_address 0 = .ok (.aload_n 0, 1) := by decide +kernel
theorem dX9_address_1 : decode cX9_address 1 = .ok (.iload_n 1, 1) := by decide +kernel
theorem dX9_address_2 : decode cX9_address 2 = .ok (.invokevirtual 357, 3) := by decide +kernel
theorem dX9_address_5 : decode cX9_address 5 = .ok (.ifCond .eq 7, 3) := by decide +kernel
theorem dX9_address_8 : decode cX9_address 8 = .ok (.iload_n 2, 1) := by decide +kernel
theorem dX9_address_9 : decode cX9_address 9 = .ok (.ifCond .ge 6, 3) := by decide +kernel
theorem dX9_address_12 : decode cX9_address 12 = .ok (.bipush (-2), 2) := by decide +kernel
theorem dX9_address_14 : decode cX9_address 14 = .ok (.ireturn, 1) := by decide +kernel
theorem dX9_address_15 : decode cX9_address 15 = .ok (.aload_n 0, 1) := by decide +kernel
theorem dX9_address_16 : decode cX9_address 16 = .ok (.iload_n 1, 1) := by decide +kernel
theorem dX9_address_17 : decode cX9_address 17 = .ok (.iconst (-1), 1) := by decide +kernel
theorem dX9_address_18 : decode cX9_address 18 = .ok (.invokevirtual 354, 3) := by decide +kernel
theorem dX9_address_21 : decode cX9_address 21 = .ok (.istore_n 3, 1) := by decide +kernel
theorem dX9_address_22 : decode cX9_address 22 = .ok (.iconst 0, 1) := by decide +kernel
theorem dX9_address_23 : decode cX9_address 23 = .ok (.istore 4, 2) := by decide +kernel
theorem dX9_address_25 : decode cX9_address 25 = .ok (.iload 4, 2) := by decide +kernel
theorem dX9_address_27 : decode cX9_address 27 = .ok (.iload_n 2, 1) := by decide +kernel
theorem dX9_address_28 : decode cX9_address 28 = .ok (.if_icmp .ge 21, 3) := by decide +kernel
theorem dX9_address_31 : decode cX9_address 31 = .ok (.iload_n 3, 1) := by decide +kernel
theorem dX9_address_32 : decode cX9_address 32 = .ok (.iconst (-1), 1) := by decide +kernel
theorem dX9_address_33 : decode cX9_address 33 = .ok (.if_icmp .eq 16, 3) := by decide +kernel
theorem dX9_address_36 : decode cX9_address 36 = .ok (.aload_n 0, 1) := by decide +kernel
theorem dX9_address_37 : decode cX9_address 37 = .ok (.iload_n 1, 1) := by decide +kernel
theorem dX9_address_38 : decode cX9_address 38 = .ok (.iload_n 3, 1) := by decide +kernel
theorem dX9_address_39 : decode cX9_address 39 = .ok (.invokevirtual 354, 3) := by decide +kernel
theorem dX9_address_42 : decode cX9_address 42 = .ok (.istore_n 3, 1) := by decide +kernel
theorem dX9_address_43 : decode cX9_address 43 = .ok (.iinc 4 1, 3) := by decide +kernel
theorem dX9_address_46 : decode cX9_address 46 = .ok (.goto (-21), 3) := by decide +kernel
theorem dX9_address_49 : decode cX9_address 49 = .ok (.iload_n 3, 1) := by decide +kernel
theorem dX9_address_50 : decode cX9_address 50 = .ok (.ireturn, 1) := by decide +kernel
abbrev mm_X9_address : ab_M := (RX9, 5, (some .int), false, 7, 154, none)
noncomputable def f_X9_address_L25 : Nat → Int → Int → Int → Int → Int → ab_H → Option (Int × ab_H)
  | 0, _, _, _, _, _, _ => none
  | n + 1, v0, v1, v2, v3, v4, h =>
    if v2 ≤ v4 then
      some (v3, h)
    else
    if v3 = (-1 : Int) then
      some (v3, h)
    else
    (ab_on h 10 v0 (f_X9_addressAbove v0 v1 v3 h)).bind fun q1 =>
    f_X9_address_L25 n v0 v1 v2 q1.1 (ab_w32 (v4 + (1 : Int))) q1.2
set_option maxRecDepth 20000 in
theorem e_X9_address_L25 : ∀ (n : Nat) (v0 : Int) (v1 : Int) (v2 : Int) (v3 : Int) (v4 : Int) (h : ab_H) (q : Int × ab_H), f_X9_address_L25 n v0 v1 v2 v3 v4 h = some q → ab_E mm_X9_address cX9_address 25 [some (ab_R v0), some (ab_I v1), some (ab_I v2), some (ab_I v3), some (ab_I v4)] [] h (some (ab_I q.1)) q.2 := by
  intro n
  induction n with
  | zero => intro v0 v1 v2 v3 v4 h q hk; cases hk
  | succ n ih =>
    intro v0 v1 v2 v3 v4 h q hk
    unfold f_X9_address_L25 at hk
    refine ab_iload (pc := 25) (i := 4) dX9_address_25 rfl ?_
    refine ab_iload_n (pc := 27) (i := 2) dX9_address_27 rfl rfl ?_
    refine ab_icmp_ge (pc := 28) (tgt := 49) dX9_address_28 rfl (fun hc => ?_) (fun hc => ?_)
    · have hk := ab_ifp hk hc
      refine ab_iload_n (pc := 49) (i := 3) dX9_address_49 rfl rfl ?_
      obtain rfl := Option.some.inj hk
      exact ab_reti (pc := 50) dX9_address_50 (Or.inl rfl)
    · have hk := ab_ifn hk hc
      refine ab_iload_n (pc := 31) (i := 3) dX9_address_31 rfl rfl ?_
      refine ab_iconst (pc := 32) dX9_address_32 ab_k_m1 ?_
      refine ab_icmp_eq (pc := 33) (tgt := 49) dX9_address_33 rfl (fun hc => ?_) (fun hc => ?_)
      · have hk := ab_ifp hk hc
        refine ab_iload_n (pc := 49) (i := 3) dX9_address_49 rfl rfl ?_
        obtain rfl := Option.some.inj hk
        exact ab_reti (pc := 50) dX9_address_50 (Or.inl rfl)
      · have hk := ab_ifn hk hc
        refine ab_aload_n (pc := 36) (i := 0) dX9_address_36 rfl rfl ?_
        refine ab_iload_n (pc := 37) (i := 1) dX9_address_37 rfl rfl ?_
        refine ab_iload_n (pc := 38) (i := 3) dX9_address_38 rfl rfl ?_
        obtain ⟨q1, hq1, hk⟩ := ab_bnd hk
        obtain ⟨hb, hq1⟩ := ab_on_some hq1
        refine ab_callVI (st := []) (as := [ab_I v1, ab_I v3]) (b := v0) (pc := 39) dX9_address_39 ml_RX9_354 my_X9_addressAbove mv_X9_addressAbove hb (ct_X9_addressAbove hq1) ⟨Nat.le_of_ble_eq_true rfl, Nat.le_of_ble_eq_true rfl⟩ rfl (Nat.le_of_ble_eq_true rfl) rfl ?_
        refine ab_istore_n (pc := 42) (i := 3) (lv2 := [some (ab_R v0), some (ab_I v1), some (ab_I v2), some (ab_I q1.1), some (ab_I v4)]) dX9_address_42 rfl (Nat.le_of_ble_eq_true rfl) rfl rfl ?_
        refine ab_iinc (pc := 43) (i := 4) (lv2 := [some (ab_R v0), some (ab_I v1), some (ab_I v2), some (ab_I q1.1), some (ab_I (ab_w32 (v4 + (1 : Int))))]) dX9_address_43 rfl (Nat.le_of_ble_eq_true rfl) rfl rfl ?_
        refine ab_goto (pc := 46) (tgt := 25) dX9_address_46 rfl ?_
        refine ab_sub_ (lv2 := [some (ab_R v0), some (ab_I v1), some (ab_I v2), some (ab_I q1.1), some (ab_I (ab_w32 (v4 + (1 : Int))))]) (ab_ss (ab_ss (ab_ss (ab_ss (ab_ss ab_s0))))) ?_
        exact ih _ _ _ _ _ _ _ hk
noncomputable def f_X9_address (a0 : Int) (a1 : Int) (a2 : Int) (h : ab_H) : Option (Int × ab_H) :=
  (ab_on h 10 a0 (f_X9_isLineNow a0 a1 h)).bind fun q1 =>
  if q1.1 = (0 : Int) then
    some ((-2 : Int), q1.2)
  else
  if (0 : Int) ≤ a2 then
    (ab_on q1.2 10 a0 (f_X9_addressAbove a0 a1 (-1 : Int) q1.2)).bind fun q2 =>
    f_X9_address_L25 ab_FU a0 a1 a2 q2.1 (0 : Int) q2.2
  else
  some ((-2 : Int), q1.2)
set_option maxRecDepth 20000 in
theorem ct_X9_address {a0 a1 a2 : Int} {h : ab_H} {q : Int × ab_H} (hk : f_X9_address a0 a1 a2 h = some q) : ab_CT yX9_address cX9_address 5 (some .int) 7 154 [ab_R a0, ab_I a1, ab_I a2] h (some (ab_I q.1)) q.2 := by
  refine ab_CT.mk_ 2 (own := RX9) (ini := false) (lv := [some (ab_R a0), some (ab_I a1), some (ab_I a2), none, none]) rfl (by decide +kernel) (fun q => by cases q) rfl rfl ?_
  unfold f_X9_address at hk
  show ab_E mm_X9_address cX9_address 0 _ [] h _ _
  refine ab_aload_n (pc := 0) (i := 0) dX9_address_0 rfl rfl ?_
  refine ab_iload_n (pc := 1) (i := 1) dX9_address_1 rfl rfl ?_
  obtain ⟨q1, hq1, hk⟩ := ab_bnd hk
  obtain ⟨hb, hq1⟩ := ab_on_some hq1
  refine ab_callVI (st := []) (as := [ab_I a1]) (b := a0) (pc := 2) dX9_address_2 ml_RX9_357 my_X9_isLineNow mv_X9_isLineNow hb (ct_X9_isLineNow hq1) ⟨Nat.le_of_ble_eq_true rfl, Nat.le_of_ble_eq_true rfl⟩ rfl (Nat.le_of_ble_eq_true rfl) rfl ?_
  refine ab_if_eq (pc := 5) (tgt := 12) dX9_address_5 rfl (fun hc => ?_) (fun hc => ?_)
  · have hk := ab_ifp hk hc
    refine ab_bipush (pc := 12) dX9_address_12 ab_p8_m2 ab_k_m2 ?_
    obtain rfl := Option.some.inj hk
    exact ab_reti (pc := 14) dX9_address_14 (Or.inl rfl)
  · have hk := ab_ifn hk hc
    refine ab_iload_n (pc := 8) (i := 2) dX9_address_8 rfl rfl ?_
    refine ab_if_ge (pc := 9) (tgt := 15) dX9_address_9 rfl (fun hc => ?_) (fun hc => ?_)
    · have hk := ab_ifp hk hc
      refine ab_aload_n (pc := 15) (i := 0) dX9_address_15 rfl rfl ?_
      refine ab_iload_n (pc := 16) (i := 1) dX9_address_16 rfl rfl ?_
      refine ab_iconst (pc := 17) dX9_address_17 ab_k_m1 ?_
      obtain ⟨q2, hq2, hk⟩ := ab_bnd hk
      obtain ⟨hb, hq2⟩ := ab_on_some hq2
      refine ab_callVI (st := []) (as := [ab_I a1, ab_I (-1 : Int)]) (b := a0) (pc := 18) dX9_address_18 ml_RX9_354 my_X9_addressAbove mv_X9_addressAbove hb (ct_X9_addressAbove hq2) ⟨Nat.le_of_ble_eq_true rfl, Nat.le_of_ble_eq_true rfl⟩ rfl (Nat.le_of_ble_eq_true rfl) rfl ?_
      refine ab_istore_n (pc := 21) (i := 3) (lv2 := [some (ab_R a0), some (ab_I a1), some (ab_I a2), some (ab_I q2.1), none]) dX9_address_21 rfl (Nat.le_of_ble_eq_true rfl) rfl rfl ?_
      refine ab_iconst (pc := 22) dX9_address_22 ab_k_0 ?_
      refine ab_istore (pc := 23) (i := 4) (lv2 := [some (ab_R a0), some (ab_I a1), some (ab_I a2), some (ab_I q2.1), some (ab_I (0 : Int))]) dX9_address_23 (Nat.le_of_ble_eq_true rfl) rfl rfl ?_
      refine ab_sub_ (lv2 := [some (ab_R a0), some (ab_I a1), some (ab_I a2), some (ab_I q2.1), some (ab_I (0 : Int))]) (ab_ss (ab_ss (ab_ss (ab_ss (ab_ss ab_s0))))) ?_
      refine e_X9_address_L25 _ _ _ _ _ _ _ _ hk
    · have hk := ab_ifn hk hc
      refine ab_bipush (pc := 12) dX9_address_12 ab_p8_m2 ab_k_m2 ?_
      obtain rfl := Option.some.inj hk
      exact ab_reti (pc := 14) dX9_address_14 (Or.inl rfl)
theorem dX9_stringsUnder_0 : decode cX9_stringsUnder 0 = .ok (.iconst 0, 1) := by decide +kernel
theorem dX9_stringsUnder_1 : decode cX9_stringsUnder 1 = .ok (.istore_n 2, 1) := by decide +kernel
theorem dX9_stringsUnder_2 : decode cX9_stringsUnder 2 = .ok (.iconst 0, 1) := by decide +kernel
theorem dX9_stringsUnder_3 : decode cX9_stringsUnder 3 = .ok (.istore_n 3, 1) := by decide +kernel
theorem dX9_stringsUnder_4 : decode cX9_stringsUnder 4 = .ok (.iload_n 3, 1) := by decide +kernel
theorem dX9_stringsUnder_5 : decode cX9_stringsUnder 5 = .ok (.aload_n 0, 1) := by decide +kernel
theorem dX9_stringsUnder_6 : decode cX9_stringsUnder 6 = .ok (.getfield 267, 3) := by decide +kernel
theorem dX9_stringsUnder_9 : decode cX9_stringsUnder 9 = .ok (.if_icmp .ge 39, 3) := by decide +kernel
theorem dX9_stringsUnder_12 : decode cX9_stringsUnder 12 = .ok (.iload_n 2, 1) := by decide +kernel
theorem dX9_stringsUnder_13 : decode cX9_stringsUnder 13 = .ok (.aload_n 0, 1) := by decide +kernel
theorem dX9_stringsUnder_14 : decode cX9_stringsUnder 14 = .ok (.getfield 43, 3) := by decide +kernel
theorem dX9_stringsUnder_17 : decode cX9_stringsUnder 17 = .ok (.iload_n 3, 1) := by decide +kernel
theorem dX9_stringsUnder_18 : decode cX9_stringsUnder 18 = .ok (.iaload, 1) := by decide +kernel
theorem dX9_stringsUnder_19 : decode cX9_stringsUnder 19 = .ok (.iload_n 1, 1) := by decide +kernel
theorem dX9_stringsUnder_20 : decode cX9_stringsUnder 20 = .ok (.if_icmp .ne 19, 3) := by decide +kernel
theorem dX9_stringsUnder_23 : decode cX9_stringsUnder 23 = .ok (.iconst 1, 1) := by decide +kernel
theorem dX9_stringsUnder_24 : decode cX9_stringsUnder 24 = .ok (.aload_n 0, 1) := by decide +kernel
theorem dX9_stringsUnder_25 : decode cX9_stringsUnder 25 = .ok (.getfield 31, 3) := by decide +kernel
theorem dX9_stringsUnder_28 : decode cX9_stringsUnder 28 = .ok (.aload_n 0, 1) := by decide +kernel
theorem dX9_stringsUnder_29 : decode cX9_stringsUnder 29 = .ok (.getfield 49, 3) := by decide +kernel
theorem dX9_stringsUnder_32 : decode cX9_stringsUnder 32 = .ok (.iload_n 3, 1) := by decide +kernel
theorem dX9_stringsUnder_33 : decode cX9_stringsUnder 33 = .ok (.iaload, 1) := by decide +kernel
theorem dX9_stringsUnder_34 : decode cX9_stringsUnder 34 = .ok (.iaload, 1) := by decide +kernel
theorem dX9_stringsUnder_35 : decode cX9_stringsUnder 35 = .ok (.ishl, 1) := by decide +kernel
theorem dX9_stringsUnder_36 : decode cX9_stringsUnder 36 = .ok (.goto 4, 3) := by decide +kernel
theorem dX9_stringsUnder_39 : decode cX9_stringsUnder 39 = .ok (.iconst 0, 1) := by decide +kernel
theorem dX9_stringsUnder_40 : decode cX9_stringsUnder 40 = .ok (.ior, 1) := by decide +kernel
theorem dX9_stringsUnder_41 : decode cX9_stringsUnder 41 = .ok (.istore_n 2, 1) := by decide +kernel
theorem dX9_stringsUnder_42 : decode cX9_stringsUnder 42 = .ok (.iinc 3 1, 3) := by decide +kernel
theorem dX9_stringsUnder_45 : decode cX9_stringsUnder 45 = .ok (.goto (-41), 3) := by decide +kernel
theorem dX9_stringsUnder_48 : decode cX9_stringsUnder 48 = .ok (.iload_n 2, 1) := by decide +kernel
theorem dX9_stringsUnder_49 : decode cX9_stringsUnder 49 = .ok (.ireturn, 1) := by decide +kernel
abbrev mm_X9_stringsUnder : ab_M := (RX9, 4, (some .int), false, 0, 0, none)
noncomputable def f_X9_stringsUnder_J40 (rec : Int → Int → Int → Int → ab_H → Option (Int × ab_H)) (v0 : Int) (v1 : Int) (v3 : Int) (s1 : Int) (s0 : Int) (h : ab_H) : Option (Int × ab_H) :=
  rec v0 v1 (ab_or s0 s1) (ab_w32 (v3 + (1 : Int))) h
set_option maxRecDepth 20000 in
theorem e_X9_stringsUnder_J40 {rec : Int → Int → Int → Int → ab_H → Option (Int × ab_H)} (hrec : ∀ (v0 : Int) (v1 : Int) (v2 : Int) (v3 : Int) (h : ab_H) (q : Int × ab_H), rec v0 v1 v2 v3 h = some q → ab_E mm_X9_stringsUnder cX9_stringsUnder 4 [some (ab_R v0), some (ab_I v1), some (ab_I v2), some (ab_I v3)] [] h (some (ab_I q.1)) q.2) : ∀ (v0 : Int) (v1 : Int) (v3 : Int) (s1 : Int) (s0 : Int) (h : ab_H) (q : Int × ab_H), f_X9_stringsUnder_J40 rec v0 v1 v3 s1 s0 h = some q → ab_E mm_X9_stringsUnder cX9_stringsUnder 40 [some (ab_R v0), some (ab_I v1), none, some (ab_I v3)] [ab_I s1, ab_I s0] h (some (ab_I q.1)) q.2 := by
  intro v0 v1 v3 s1 s0 h q hk
  unfold f_X9_stringsUnder_J40 at hk
  refine ab_ior (pc := 40) dX9_stringsUnder_40 ?_
  refine ab_istore_n (pc := 41) (i := 2) (lv2 := [some (ab_R v0), some (ab_I v1), some (ab_I (ab_or s0 s1)), some (ab_I v3)]) dX9_stringsUnder_41 rfl (Nat.le_of_ble_eq_true rfl) rfl rfl ?_
  refine ab_iinc (pc := 42) (i := 3) (lv2 := [some (ab_R v0), some (ab_I v1), some (ab_I (ab_or s0 s1)), some (ab_I (ab_w32 (v3 + (1 : Int))))]) dX9_stringsUnder_42 rfl (Nat.le_of_ble_eq_true rfl) rfl rfl ?_
  refine ab_goto (pc := 45) (tgt := 4) dX9_stringsUnder_45 rfl ?_
  refine ab_sub_ (lv2 := [some (ab_R v0), some (ab_I v1), some (ab_I (ab_or s0 s1)), some (ab_I (ab_w32 (v3 + (1 : Int))))]) (ab_ss (ab_ss (ab_ss (ab_ss ab_s0)))) ?_
  exact hrec _ _ _ _ _ _ hk
noncomputable def f_X9_stringsUnder_L4 : Nat → Int → Int → Int → Int → ab_H → Option (Int × ab_H)
  | 0, _, _, _, _, _ => none
  | n + 1, v0, v1, v2, v3, h =>
    (ab_get h 10 16 v0).bind fun t1 =>
    if t1 ≤ v3 then
      some (v2, h)
    else
    (ab_get h 10 23 v0).bind fun t2 =>
    (ab_ald h 11 t2 v3).bind fun t3 =>
    if t3 = v1 then
      (ab_get h 10 19 v0).bind fun t4 =>
      (ab_get h 10 26 v0).bind fun t5 =>
      (ab_ald h 11 t5 v3).bind fun t6 =>
      (ab_ald h 11 t4 t6).bind fun t7 =>
      f_X9_stringsUnder_J40 (f_X9_stringsUnder_L4 n) v0 v1 v3 (ab_shl (1 : Int) t7) v2 h
    else
    f_X9_stringsUnder_J40 (f_X9_stringsUnder_L4 n) v0 v1 v3 (0 : Int) v2 h
set_option maxRecDepth 20000 in
theorem e_X9_stringsUnder_L4 : ∀ (n : Nat) (v0 : Int) (v1 : Int) (v2 : Int) (v3 : Int) (h : ab_H) (q : Int × ab_H), f_X9_stringsUnder_L4 n v0 v1 v2 v3 h = some q → ab_E mm_X9_stringsUnder cX9_stringsUnder 4 [some (ab_R v0), some (ab_I v1), some (ab_I v2), some (ab_I v3)] [] h (some (ab_I q.1)) q.2 := by
  intro n
  induction n with
  | zero => intro v0 v1 v2 v3 h q hk; cases hk
  | succ n ih =>
    intro v0 v1 v2 v3 h q hk
    unfold f_X9_stringsUnder_L4 at hk
    refine ab_iload_n (pc := 4) (i := 3) dX9_stringsUnder_4 rfl rfl ?_
    refine ab_aload_n (pc := 5) (i := 0) dX9_stringsUnder_5 rfl rfl ?_
    obtain ⟨t1, ht1, hk⟩ := ab_bnd hk
    refine ab_getI (pc := 6) dX9_stringsUnder_6 fl_RX9_267 ht1 ?_
    refine ab_icmp_ge (pc := 9) (tgt := 48) dX9_stringsUnder_9 rfl (fun hc => ?_) (fun hc => ?_)
    · have hk := ab_ifp hk hc
      refine ab_iload_n (pc := 48) (i := 2) dX9_stringsUnder_48 rfl rfl ?_
      obtain rfl := Option.some.inj hk
      exact ab_reti (pc := 49) dX9_stringsUnder_49 (Or.inl rfl)
    · have hk := ab_ifn hk hc
      refine ab_iload_n (pc := 12) (i := 2) dX9_stringsUnder_12 rfl rfl ?_
      refine ab_aload_n (pc := 13) (i := 0) dX9_stringsUnder_13 rfl rfl ?_
      obtain ⟨t2, ht2, hk⟩ := ab_bnd hk
      refine ab_getR (pc := 14) dX9_stringsUnder_14 fl_RX9_43 ht2 ?_
      refine ab_iload_n (pc := 17) (i := 3) dX9_stringsUnder_17 rfl rfl ?_
      obtain ⟨t3, ht3, hk⟩ := ab_bnd hk
      refine ab_iald (pc := 18) dX9_stringsUnder_18 ht3 ?_
      refine ab_iload_n (pc := 19) (i := 1) dX9_stringsUnder_19 rfl rfl ?_
      refine ab_icmp_ne (pc := 20) (tgt := 39) dX9_stringsUnder_20 rfl (fun hc => ?_) (fun hc => ?_)
      · have hk := ab_ifn hk hc
        refine ab_iconst (pc := 39) dX9_stringsUnder_39 ab_k_0 ?_
        refine ab_sub_ (lv2 := [some (ab_R v0), some (ab_I v1), none, some (ab_I v3)]) (ab_ss (ab_ss (ab_sn (ab_ss ab_s0)))) ?_
        exact e_X9_stringsUnder_J40 ih _ _ _ _ _ _ _ hk
      · have hk := ab_ifp hk hc
        refine ab_iconst (pc := 23) dX9_stringsUnder_23 ab_k_1 ?_
        refine ab_aload_n (pc := 24) (i := 0) dX9_stringsUnder_24 rfl rfl ?_
        obtain ⟨t4, ht4, hk⟩ := ab_bnd hk
        refine ab_getR (pc := 25) dX9_stringsUnder_25 fl_RX9_31 ht4 ?_
        refine ab_aload_n (pc := 28) (i := 0) dX9_stringsUnder_28 rfl rfl ?_
        obtain ⟨t5, ht5, hk⟩ := ab_bnd hk
        refine ab_getR (pc := 29) dX9_stringsUnder_29 fl_RX9_49 ht5 ?_
        refine ab_iload_n (pc := 32) (i := 3) dX9_stringsUnder_32 rfl rfl ?_
        obtain ⟨t6, ht6, hk⟩ := ab_bnd hk
        refine ab_iald (pc := 33) dX9_stringsUnder_33 ht6 ?_
        obtain ⟨t7, ht7, hk⟩ := ab_bnd hk
        refine ab_iald (pc := 34) dX9_stringsUnder_34 ht7 ?_
        refine ab_ishl (pc := 35) dX9_stringsUnder_35 ?_
        refine ab_goto (pc := 36) (tgt := 40) dX9_stringsUnder_36 rfl ?_
        refine ab_sub_ (lv2 := [some (ab_R v0), some (ab_I v1), none, some (ab_I v3)]) (ab_ss (ab_ss (ab_sn (ab_ss ab_s0)))) ?_
        exact e_X9_stringsUnder_J40 ih _ _ _ _ _ _ _ hk
noncomputable def f_X9_stringsUnder (a0 : Int) (a1 : Int) (h : ab_H) : Option (Int × ab_H) :=
  f_X9_stringsUnder_L4 ab_FU a0 a1 (0 : Int) (0 : Int) h
set_option maxRecDepth 20000 in
theorem ct_X9_stringsUnder {a0 a1 : Int} {h : ab_H} {q : Int × ab_H} (hk : f_X9_stringsUnder a0 a1 h = some q) : ab_CT yX9_stringsUnder cX9_stringsUnder 4 (some .int) 0 0 [ab_R a0, ab_I a1] h (some (ab_I q.1)) q.2 := by
  refine ab_CT.mk_ 2 (own := RX9) (ini := false) (lv := [some (ab_R a0), some (ab_I a1), none, none]) rfl (by decide +kernel) (fun q => by cases q) rfl rfl ?_
  unfold f_X9_stringsUnder at hk
  show ab_E mm_X9_stringsUnder cX9_stringsUnder 0 _ [] h _ _
  refine ab_iconst (pc := 0) dX9_stringsUnder_0 ab_k_0 ?_
  refine ab_istore_n (pc := 1) (i := 2) (lv2 := [some (ab_R a0), some (ab_I a1), some (ab_I (0 : Int)), none]) dX9_stringsUnder_1 rfl (Nat.le_of_ble_eq_true rfl) rfl rfl ?_
  refine ab_iconst (pc := 2) dX9_stringsUnder_2 ab_k_0 ?_
  refine ab_istore_n (pc := 3) (i := 3) (lv2 := [some (ab_R a0), some (ab_I a1), some (ab_I (0 : Int)), some (ab_I (0 : Int))]) dX9_stringsUnder_3 rfl (Nat.le_of_ble_eq_true rfl) rfl rfl ?_
  refine ab_sub_ (lv2 := [some (ab_R a0), some (ab_I a1), some (ab_I (0 : Int)), some (ab_I (0 : Int))]) (ab_ss (ab_ss (ab_ss (ab_ss ab_s0)))) ?_
  refine e_X9_stringsUnder_L4 _ _ _ _ _ _ _ hk
theorem dX9_bits_0 : decode cX9_bits 0 = .ok (.iconst 0, 1) := by decide +kernel
theorem dX9_bits_1 : decode cX9_bits 1 = .ok (.istore_n 1, 1) := by decide +kernel
theorem dX9_bits_2 : decode cX9_bits 2 = .ok (.iload_n 0, 1) := by decide +kernel
theorem dX9_bits_3 : decode cX9_bits 3 = .ok (.istore_n 2, 1) := by decide +kernel
theorem dX9_bits_4 : decode cX9_bits 4 = .ok (.iload_n 2, 1) := by decide +kernel
theorem dX9_bits_5 : decode cX9_bits 5 = .ok (.ifCond .eq 15, 3) := by decide +kernel
theorem dX9_bits_8 : decode cX9_bits 8 = .ok (.iinc 1 1, 3) := by decide +kernel
theorem dX9_bits_11 : decode cX9_bits 11 = .ok (.iload_n 2, 1) := by decide +kernel
theorem dX9_bits_12 : decode cX9_bits 12 = .ok (.iload_n 2, 1) := by decide +kernel
theorem dX9_bits_13 : decode cX9_bits 13 = .ok (.iconst 1, 1) := by decide +kernel
theorem dX9_bits_14 : decode cX9_bits 14 = .ok (.isub, 1) := by decide +kernel
theorem dX9_bits_15 : decode cX9_bits 15 = .ok (.iand, 1) := by decide +kernel
theorem dX9_bits_16 : decode cX9_bits 16 = .ok (.istore_n 2, 1) := by decide +kernel
theorem dX9_bits_17 : decode cX9_bits 17 = .ok (.goto (-13), 3) := by decide +kernel
theorem dX9_bits_20 : decode cX9_bits 20 = .ok (.iload_n 1, 1) := by decide +kernel
theorem dX9_bits_21 : decode cX9_bits 21 = .ok (.ireturn, 1) := by decide +kernel
abbrev mm_X9_bits : ab_M := (RX9, 3, (some .int), false, 0, 0, none)
noncomputable def f_X9_bits_L4 : Nat → Int → Int → ab_H → Option (Int × ab_H)
  | 0, _, _, _ => none
  | n + 1, v1, v2, h =>
    if v2 = (0 : Int) then
      some (v1, h)
    else
    f_X9_bits_L4 n (ab_w32 (v1 + (1 : Int))) (ab_and v2 (ab_w32 (v2 - (1 : Int)))) h
set_option maxRecDepth 20000 in
theorem e_X9_bits_L4 : ∀ (n : Nat) (v1 : Int) (v2 : Int) (h : ab_H) (q : Int × ab_H), f_X9_bits_L4 n v1 v2 h = some q → ab_E mm_X9_bits cX9_bits 4 [none, some (ab_I v1), some (ab_I v2)] [] h (some (ab_I q.1)) q.2 := by
  intro n
  induction n with
  | zero => intro v1 v2 h q hk; cases hk
  | succ n ih =>
    intro v1 v2 h q hk
    unfold f_X9_bits_L4 at hk
    refine ab_iload_n (pc := 4) (i := 2) dX9_bits_4 rfl rfl ?_
    refine ab_if_eq (pc := 5) (tgt := 20) dX9_bits_5 rfl (fun hc => ?_) (fun hc => ?_)
    · have hk := ab_ifp hk hc
      refine ab_iload_n (pc := 20) (i := 1) dX9_bits_20 rfl rfl ?_
      obtain rfl := Option.some.inj hk
      exact ab_reti (pc := 21) dX9_bits_21 (Or.inl rfl)
    · have hk := ab_ifn hk hc
      refine ab_iinc (pc := 8) (i := 1) (lv2 := [none, some (ab_I (ab_w32 (v1 + (1 : Int)))), some (ab_I v2)]) dX9_bits_8 rfl (Nat.le_of_ble_eq_true rfl) rfl rfl ?_
      refine ab_iload_n (pc := 11) (i := 2) dX9_bits_11 rfl rfl ?_
      refine ab_iload_n (pc := 12) (i := 2) dX9_bits_12 rfl rfl ?_
      refine ab_iconst (pc := 13) dX9_bits_13 ab_k_1 ?_
      refine ab_isub (pc := 14) dX9_bits_14 ?_
      refine ab_iand (pc := 15) dX9_bits_15 ?_
      refine ab_istore_n (pc := 16) (i := 2) (lv2 := [none, some (ab_I (ab_w32 (v1 + (1 : Int)))), some (ab_I (ab_and v2 (ab_w32 (v2 - (1 : Int)))))]) dX9_bits_16 rfl (Nat.le_of_ble_eq_true rfl) rfl rfl ?_
      refine ab_goto (pc := 17) (tgt := 4) dX9_bits_17 rfl ?_
      refine ab_sub_ (lv2 := [none, some (ab_I (ab_w32 (v1 + (1 : Int)))), some (ab_I (ab_and v2 (ab_w32 (v2 - (1 : Int)))))]) (ab_sn (ab_ss (ab_ss ab_s0))) ?_
      exact ih _ _ _ _ hk
noncomputable def f_X9_bits (a0 : Int) (h : ab_H) : Option (Int × ab_H) :=
  f_X9_bits_L4 ab_FU (0 : Int) a0 h
set_option maxRecDepth 20000 in
theorem ct_X9_bits {a0 : Int} {h : ab_H} {q : Int × ab_H} (hk : f_X9_bits a0 h = some q) : ab_CT yX9_bits cX9_bits 3 (some .int) 0 0 [ab_I a0] h (some (ab_I q.1)) q.2 := by
  refine ab_CT.mk_ 2 (own := RX9) (ini := false) (lv := [some (ab_I a0), none, none]) rfl (by decide +kernel) (fun q => by cases q) rfl rfl ?_
  unfold f_X9_bits at hk
  show ab_E mm_X9_bits cX9_bits 0 _ [] h _ _
  refine ab_iconst (pc := 0) dX9_bits_0 ab_k_0 ?_
  refine ab_istore_n (pc := 1) (i := 1) (lv2 := [some (ab_I a0), some (ab_I (0 : Int)), none]) dX9_bits_1 rfl (Nat.le_of_ble_eq_true rfl) rfl rfl ?_
  refine ab_iload_n (pc := 2) (i := 0) dX9_bits_2 rfl rfl ?_
  refine ab_istore_n (pc := 3) (i := 2) (lv2 := [some (ab_I a0), some (ab_I (0 : Int)), some (ab_I a0)]) dX9_bits_3 rfl (Nat.le_of_ble_eq_true rfl) rfl rfl ?_
  refine ab_sub_ (lv2 := [none, some (ab_I (0 : Int)), some (ab_I a0)]) (ab_sn (ab_ss (ab_ss ab_s0))) ?_
  refine e_X9_bits_L4 _ _ _ _ _ hk
theorem dX9_headWord_0 : decode cX9_headWord 0 = .ok (.iconst 0, 1) := by decide +kernel
theorem dX9_headWord_1 : decode cX9_headWord 1 = .ok (.istore_n 2, 1) := by decide +kernel
theorem dX9_headWord_2 : decode cX9_headWord 2 = .ok (.aload_n 0, 1) := by decide +kernel
theorem dX9_headWord_3 : decode cX9_headWord 3 = .ok (.getfield 43, 3) := by decide +kernel
theorem dX9_headWord_6 : decode cX9_headWord 6 = .ok (.iload_n 2, 1) := by decide +kernel
theorem dX9_headWord_7 : decode cX9_headWord 7 = .ok (.iaload, 1) := by decide +kernel
theorem dX9_headWord_8 : decode cX9_headWord 8 = .ok (.iload_n 1, 1) := by decide +kernel
theorem dX9_headWord_9 : decode cX9_headWord 9 = .ok (.if_icmp .eq 9, 3) := by decide +kernel
theorem dX9_headWord_12 : decode cX9_headWord 12 = .ok (.iinc 2 1, 3) := by decide +kernel
theorem dX9_headWord_15 : decode cX9_headWord 15 = .ok (.goto (-13), 3) := by decide +kernel
theorem dX9_headWord_18 : decode cX9_headWord 18 = .ok (.aload_n 0, 1) := by decide +kernel
theorem dX9_headWord_19 : decode cX9_headWord 19 = .ok (.aload_n 0, 1) := by decide +kernel
theorem dX9_headWord_20 : decode cX9_headWord 20 = .ok (.getfield 49, 3) := by decide +kernel
theorem dX9_headWord_23 : decode cX9_headWord 23 = .ok (.iload_n 2, 1) := by decide +kernel
theorem dX9_headWord_24 : decode cX9_headWord 24 = .ok (.iaload, 1) := by decide +kernel
theorem dX9_headWord_25 : decode cX9_headWord 25 = .ok (.invokevirtual 274, 3) := by decide +kernel
theorem dX9_headWord_28 : decode cX9_headWord 28 = .ok (.ireturn, 1) := by decide +kernel
abbrev mm_X9_headWord : ab_M := (RX9, 3, (some .int), false, 2, 42, none)
noncomputable def f_X9_headWord_L2 (k18 : Int → Int → ab_H → Option (Int × ab_H)) : Nat → Int → Int → Int → ab_H → Option (Int × ab_H)
  | 0, _, _, _, _ => none
  | n + 1, v0, v1, v2, h =>
    (ab_get h 10 23 v0).bind fun t1 =>
    (ab_ald h 11 t1 v2).bind fun t2 =>
    if t2 = v1 then
      k18 v0 v2 h
    else
    f_X9_headWord_L2 k18 n v0 v1 (ab_w32 (v2 + (1 : Int))) h
set_option maxRecDepth 20000 in
theorem e_X9_headWord_L2 {k18 : Int → Int → ab_H → Option (Int × ab_H)} (hk18 : ∀ (v0 : Int) (v2 : Int) (h : ab_H) (q : Int × ab_H), k18 v0 v2 h = some q → ab_E mm_X9_headWord cX9_headWord 18 [some (ab_R v0), none, some (ab_I v2)] [] h (some (ab_I q.1)) q.2) : ∀ (n : Nat) (v0 : Int) (v1 : Int) (v2 : Int) (h : ab_H) (q : Int × ab_H), f_X9_headWord_L2 k18 n v0 v1 v2 h = some q → ab_E mm_X9_headWord cX9_headWord 2 [some (ab_R v0), some (ab_I v1), some (ab_I v2)] [] h (some (ab_I q.1)) q.2 := by
  intro n
  induction n with
  | zero => intro v0 v1 v2 h q hk; cases hk
  | succ n ih =>
    intro v0 v1 v2 h q hk
    unfold f_X9_headWord_L2 at hk
    refine ab_aload_n (pc := 2) (i := 0) dX9_headWord_2 rfl rfl ?_
    obtain ⟨t1, ht1, hk⟩ := ab_bnd hk
    refine ab_getR (pc := 3) dX9_headWord_3 fl_RX9_43 ht1 ?_
    refine ab_iload_n (pc := 6) (i := 2) dX9_headWord_6 rfl rfl ?_
    obtain ⟨t2, ht2, hk⟩ := ab_bnd hk
    refine ab_iald (pc := 7) dX9_headWord_7 ht2 ?_
    refine ab_iload_n (pc := 8) (i := 1) dX9_headWord_8 rfl rfl ?_
    refine ab_icmp_eq (pc := 9) (tgt := 18) dX9_headWord_9 rfl (fun hc => ?_) (fun hc => ?_)
    · have hk := ab_ifp hk hc
      refine ab_sub_ (lv2 := [some (ab_R v0), none, some (ab_I v2)]) (ab_ss (ab_sn (ab_ss ab_s0))) ?_
      exact hk18 _ _ _ _ hk
    · have hk := ab_ifn hk hc
      refine ab_iinc (pc := 12) (i := 2) (lv2 := [some (ab_R v0), some (ab_I v1), some (ab_I (ab_w32 (v2 + (1 : Int))))]) dX9_headWord_12 rfl (Nat.le_of_ble_eq_true rfl) rfl rfl ?_
      refine ab_goto (pc := 15) (tgt := 2) dX9_headWord_15 rfl ?_
      refine ab_sub_ (lv2 := [some (ab_R v0), some (ab_I v1), some (ab_I (ab_w32 (v2 + (1 : Int))))]) (ab_ss (ab_ss (ab_ss ab_s0))) ?_
      exact ih _ _ _ _ _ hk
noncomputable def f_X9_headWord (a0 : Int) (a1 : Int) (h : ab_H) : Option (Int × ab_H) :=
  f_X9_headWord_L2 (fun w18_0 w18_2 hx18 =>
    (ab_get hx18 10 26 w18_0).bind fun t1 =>
    (ab_ald hx18 11 t1 w18_2).bind fun t2 =>
    (ab_on hx18 10 w18_0 (f_X9_leadWord w18_0 t2 hx18)).bind fun q3 =>
    some (q3.1, q3.2)) ab_FU a0 a1 (0 : Int) h
set_option maxRecDepth 20000 in
theorem ct_X9_headWord {a0 a1 : Int} {h : ab_H} {q : Int × ab_H} (hk : f_X9_headWord a0 a1 h = some q) : ab_CT yX9_headWord cX9_headWord 3 (some .int) 2 42 [ab_R a0, ab_I a1] h (some (ab_I q.1)) q.2 := by
  refine ab_CT.mk_ 1 (own := RX9) (ini := false) (lv := [some (ab_R a0), some (ab_I a1), none]) rfl (by decide +kernel) (fun q => by cases q) rfl rfl ?_
  unfold f_X9_headWord at hk
  show ab_E mm_X9_headWord cX9_headWord 0 _ [] h _ _
  refine ab_iconst (pc := 0) dX9_headWord_0 ab_k_0 ?_
  refine ab_istore_n (pc := 1) (i := 2) (lv2 := [some (ab_R a0), some (ab_I a1), some (ab_I (0 : Int))]) dX9_headWord_1 rfl (Nat.le_of_ble_eq_true rfl) rfl rfl ?_
  refine ab_sub_ (lv2 := [some (ab_R a0), some (ab_I a1), some (ab_I (0 : Int))]) (ab_ss (ab_ss (ab_ss ab_s0))) ?_
  refine e_X9_headWord_L2 (fun w18_0 w18_2 hx18 q hk => ?_) _ _ _ _ _ _ hk
  · skip
    refine ab_aload_n (pc := 18) (i := 0) dX9_headWord_18 rfl rfl ?_
    refine ab_aload_n (pc := 19) (i := 0) dX9_headWord_19 rfl rfl ?_
    obtain ⟨t1, ht1, hk⟩ := ab_bnd hk
    refine ab_getR (pc := 20) dX9_headWord_20 fl_RX9_49 ht1 ?_
    refine ab_iload_n (pc := 23) (i := 2) dX9_headWord_23 rfl rfl ?_
    obtain ⟨t2, ht2, hk⟩ := ab_bnd hk
    refine ab_iald (pc := 24) dX9_headWord_24 ht2 ?_
    obtain ⟨q3, hq3, hk⟩ := ab_bnd hk
    obtain ⟨hb, hq3⟩ := ab_on_some hq3
    refine ab_callVI (st := []) (as := [ab_I t2]) (b := w18_0) (pc := 25) dX9_headWord_25 ml_RX9_274 my_X9_leadWord mv_X9_leadWord hb (ct_X9_leadWord hq3) ⟨Nat.le_of_ble_eq_true rfl, Nat.le_of_ble_eq_true rfl⟩ rfl (Nat.le_of_ble_eq_true rfl) rfl ?_
    obtain rfl := Option.some.inj hk
    exact ab_reti (pc := 28) dX9_headWord_28 (Or.inl rfl)
theorem dX9_head_0 : decode cX9_head 0 = .ok (.aload_n 0, 1) := by decide +kernel
theorem dX9_head_1 : decode cX9_head 1 = .ok (.invokevirtual 314, 3) := by decide +kernel
theorem dX9_head_4 : decode cX9_head 4 = .ok (.iload_n 1, 1) := by decide +kernel
theorem dX9_head_5 : decode cX9_head 5 = .ok (.i2l, 1) := by decide +kernel
theorem dX9_head_6 : decode cX9_head 6 = .ok (.lconst 0, 1) := by decide +kernel
theorem dX9_head_7 : decode cX9_head 7 = .ok (.aload_n 0, 1) := by decide +kernel
theorem dX9_head_8 : decode cX9_head 8 = .ok (.getfield 306, 3) := by decide +kernel
theorem dX9_head_11 : decode cX9_head 11 = .ok (.iconst 1, 1) := by decide +kernel
theorem dX9_head_12 : decode cX9_head 12 = .ok (.isub, 1) := by decide +kernel
theorem dX9_head_13 : decode cX9_head 13 = .ok (.i2l, 1) := by decide +kernel
theorem dX9_head_14 : decode cX9_head 14 = .ok (.invokestatic 84, 3) := by decide +kernel
theorem dX9_head_17 : decode cX9_head 17 = .ok (.ifCond .eq 15, 3) := by decide +kernel
theorem dX9_head_20 : decode cX9_head 20 = .ok (.iload_n 2, 1) := by decide +kernel
theorem dX9_head_21 : decode cX9_head 21 = .ok (.i2l, 1) := by decide +kernel
theorem dX9_head_22 : decode cX9_head 22 = .ok (.lconst 0, 1) := by decide +kernel
theorem dX9_head_23 : decode cX9_head 23 = .ok (.ldc2_w 360, 3) := by decide +kernel
theorem dX9_head_26 : decode cX9_head 26 = .ok (.invokestatic 84, 3) := by decide +kernel
theorem dX9_head_29 : decode cX9_head 29 = .ok (.ifCond .ne 6, 3) := by decide +kernel
theorem dX9_head_32 : decode cX9_head 32 = .ok (.bipush (-2), 2) := by decide +kernel
theorem dX9_head_34 : decode cX9_head 34 = .ok (.ireturn, 1) := by decide +kernel
theorem dX9_head_35 : decode cX9_head 35 = .ok (.iconst 0, 1) := by decide +kernel
theorem dX9_head_36 : decode cX9_head 36 = .ok (.istore_n 3, 1) := by decide +kernel
theorem dX9_head_37 : decode cX9_head 37 = .ok (.iconst 0, 1) := by decide +kernel
theorem dX9_head_38 : decode cX9_head 38 = .ok (.istore 4, 2) := by decide +kernel
theorem dX9_head_40 : decode cX9_head 40 = .ok (.iconst 0, 1) := by decide +kernel
theorem dX9_head_41 : decode cX9_head 41 = .ok (.istore 5, 2) := by decide +kernel
theorem dX9_head_43 : decode cX9_head 43 = .ok (.iload 5, 2) := by decide +kernel
theorem dX9_head_45 : decode cX9_head 45 = .ok (.aload_n 0, 1) := by decide +kernel
theorem dX9_head_46 : decode cX9_head 46 = .ok (.getfield 267, 3) := by decide +kernel
theorem dX9_head_49 : decode cX9_head 49 = .ok (.if_icmp .ge 60, 3) := by decide +kernel
theorem dX9_head_52 : decode cX9_head 52 = .ok (.aload_n 0, 1) := by decide +kernel
theorem dX9_head_53 : decode cX9_head 53 = .ok (.getfield 43, 3) := by decide +kernel
theorem dX9_head_56 : decode cX9_head 56 = .ok (.iload 5, 2) := by decide +kernel
theorem dX9_head_58 : decode cX9_head 58 = .ok (.iaload, 1) := by decide +kernel
theorem dX9_head_59 : decode cX9_head 59 = .ok (.iload_n 1, 1) := by decide +kernel
theorem dX9_head_60 : decode cX9_head 60 = .ok (.if_icmp .eq 6, 3) := by decide +kernel
theorem dX9_head_63 : decode cX9_head 63 = .ok (.goto 40, 3) := by decide +kernel
theorem dX9_head_66 : decode cX9_head 66 = .ok (.iinc 3 1, 3) := by decide +kernel
theorem dX9_head_69 : decode cX9_head 69 = .ok (.iload 4, 2) := by decide +kernel
theorem dX9_head_71 : decode cX9_head 71 = .ok (.iload 5, 2) := by decide +kernel
theorem dX9_head_73 : decode cX9_head 73 = .ok (.ifCond .eq 22, 3) := by decide +kernel
theorem dX9_head_76 : decode cX9_head 76 = .ok (.aload_n 0, 1) := by decide +kernel
theorem dX9_head_77 : decode cX9_head 77 = .ok (.getfield 40, 3) := by decide +kernel
theorem dX9_head_80 : decode cX9_head 80 = .ok (.iload 5, 2) := by decide +kernel
theorem dX9_head_82 : decode cX9_head 82 = .ok (.iconst 1, 1) := by decide +kernel
theorem dX9_head_83 : decode cX9_head 83 = .ok (.isub, 1) := by decide +kernel
theorem dX9_head_84 : decode cX9_head 84 = .ok (.iaload, 1) := by decide +kernel
theorem dX9_head_85 : decode cX9_head 85 = .ok (.aload_n 0, 1) := by decide +kernel
theorem dX9_head_86 : decode cX9_head 86 = .ok (.getfield 40, 3) := by decide +kernel
theorem dX9_head_89 : decode cX9_head 89 = .ok (.iload 5, 2) := by decide +kernel
theorem dX9_head_91 : decode cX9_head 91 = .ok (.iaload, 1) := by decide +kernel
theorem dX9_head_92 : decode cX9_head 92 = .ok (.if_icmp .eq 7, 3) := by decide +kernel
theorem dX9_head_95 : decode cX9_head 95 = .ok (.iconst 1, 1) := by decide +kernel
theorem dX9_head_96 : decode cX9_head 96 = .ok (.goto 4, 3) := by decide +kernel
theorem dX9_head_99 : decode cX9_head 99 = .ok (.iconst 0, 1) := by decide +kernel
theorem dX9_head_100 : decode cX9_head 100 = .ok (.iadd, 1) := by decide +kernel
theorem dX9_head_101 : decode cX9_head 101 = .ok (.istore 4, 2) := by decide +kernel
theorem dX9_head_103 : decode cX9_head 103 = .ok (.iinc 5 1, 3) := by decide +kernel
theorem dX9_head_106 : decode cX9_head 106 = .ok (.goto (-63), 3) := by decide +kernel
theorem dX9_head_109 : decode cX9_head 109 = .ok (.iload_n 2, 1) := by decide +kernel
theorem dX9_head_110 : decode cX9_head 110 = .ok (.ifCond .ne 11, 3) := by decide +kernel
theorem dX9_head_113 : decode cX9_head 113 = .ok (.aload_n 0, 1) := by decide +kernel
theorem dX9_head_114 : decode cX9_head 114 = .ok (.iload_n 1, 1) := by decide +kernel
theorem dX9_head_115 : decode cX9_head 115 = .ok (.invokevirtual 371, 3) := by decide +kernel
theorem dX9_head_118 : decode cX9_head 118 = .ok (.goto 30, 3) := by decide +kernel
theorem dX9_head_121 : decode cX9_head 121 = .ok (.iload_n 2, 1) := by decide +kernel
theorem dX9_head_122 : decode cX9_head 122 = .ok (.iconst 1, 1) := by decide +kernel
theorem dX9_head_123 : decode cX9_head 123 = .ok (.if_icmp .ne 8, 3) := by decide +kernel
theorem dX9_head_126 : decode cX9_head 126 = .ok (.iload 4, 2) := by decide +kernel
theorem dX9_head_128 : decode cX9_head 128 = .ok (.goto 20, 3) := by decide +kernel
theorem dX9_head_131 : decode cX9_head 131 = .ok (.iload_n 2, 1) := by decide +kernel
theorem dX9_head_132 : decode cX9_head 132 = .ok (.iconst 2, 1) := by decide +kernel
theorem dX9_head_133 : decode cX9_head 133 = .ok (.if_icmp .ne 7, 3) := by decide +kernel
theorem dX9_head_136 : decode cX9_head 136 = .ok (.iload_n 3, 1) := by decide +kernel
theorem dX9_head_137 : decode cX9_head 137 = .ok (.goto 11, 3) := by decide +kernel
theorem dX9_head_140 : decode cX9_head 140 = .ok (.aload_n 0, 1) := by decide +kernel
theorem dX9_head_141 : decode cX9_head 141 = .ok (.iload_n 1, 1) := by decide +kernel
theorem dX9_head_142 : decode cX9_head 142 = .ok (.invokevirtual 374, 3) := by decide +kernel
theorem dX9_head_145 : decode cX9_head 145 = .ok (.invokestatic 377, 3) := by decide +kernel
theorem dX9_head_148 : decode cX9_head 148 = .ok (.ireturn, 1) := by decide +kernel
abbrev mm_X9_head : ab_M := (RX9, 6, (some .int), false, 6, 133, none)
noncomputable def f_X9_head_J103 (rec : Int → Int → Int → Int → Int → Int → ab_H → Option (Int × ab_H)) (k109 : Int → Int → Int → Int → Int → ab_H → Option (Int × ab_H)) (v0 : Int) (v1 : Int) (v2 : Int) (v3 : Int) (v4 : Int) (v5 : Int) (h : ab_H) : Option (Int × ab_H) :=
  rec v0 v1 v2 v3 v4 (ab_w32 (v5 + (1 : Int))) h
set_option maxRecDepth 20000 in
theorem e_X9_head_J103 {rec : Int → Int → Int → Int → Int → Int → ab_H → Option (Int × ab_H)} {k109 : Int → Int → Int → Int → Int → ab_H → Option (Int × ab_H)} (hrec : ∀ (v0 : Int) (v1 : Int) (v2 : Int) (v3 : Int) (v4 : Int) (v5 : Int) (h : ab_H) (q : Int × ab_H), rec v0 v1 v2 v3 v4 v5 h = some q → ab_E mm_X9_head cX9_head 43 [some (ab_R v0), some (ab_I v1), some (ab_I v2), some (ab_I v3), some (ab_I v4), some (ab_I v5)] [] h (some (ab_I q.1)) q.2) (hk109 : ∀ (v0 : Int) (v1 : Int) (v2 : Int) (v3 : Int) (v4 : Int) (h : ab_H) (q : Int × ab_H), k109 v0 v1 v2 v3 v4 h = some q → ab_E mm_X9_head cX9_head 109 [some (ab_R v0), some (ab_I v1), some (ab_I v2), some (ab_I v3), some (ab_I v4), none] [] h (some (ab_I q.1)) q.2) : ∀ (v0 : Int) (v1 : Int) (v2 : Int) (v3 : Int) (v4 : Int) (v5 : Int) (h : ab_H) (q : Int × ab_H), f_X9_head_J103 rec k109 v0 v1 v2 v3 v4 v5 h = some q → ab_E mm_X9_head cX9_head 103 [some (ab_R v0), some (ab_I v1), some (ab_I v2), some (ab_I v3), some (ab_I v4), some (ab_I v5)] [] h (some (ab_I q.1)) q.2 := by
  intro v0 v1 v2 v3 v4 v5 h q hk
  unfold f_X9_head_J103 at hk
  refine ab_iinc (pc := 103) (i := 5) (lv2 := [some (ab_R v0), some (ab_I v1), some (ab_I v2), some (ab_I v3), some (ab_I v4), some (ab_I (ab_w32 (v5 + (1 : Int))))]) dX9_head_103 rfl (Nat.le_of_ble_eq_true rfl) rfl rfl ?_
  refine ab_goto (pc := 106) (tgt := 43) dX9_head_106 rfl ?_
  refine ab_sub_ (lv2 := [some (ab_R v0), some (ab_I v1), some (ab_I v2), some (ab_I v3), some (ab_I v4), some (ab_I (ab_w32 (v5 + (1 : Int))))]) (ab_ss (ab_ss (ab_ss (ab_ss (ab_ss (ab_ss ab_s0)))))) ?_
  exact hrec _ _ _ _ _ _ _ _ hk
noncomputable def f_X9_head_J100 (rec : Int → Int → Int → Int → Int → Int → ab_H → Option (Int × ab_H)) (k109 : Int → Int → Int → Int → Int → ab_H → Option (Int × ab_H)) (v0 : Int) (v1 : Int) (v2 : Int) (v3 : Int) (v5 : Int) (s1 : Int) (s0 : Int) (h : ab_H) : Option (Int × ab_H) :=
  f_X9_head_J103 rec k109 v0 v1 v2 v3 (ab_w32 (s0 + s1)) v5 h
set_option maxRecDepth 20000 in
theorem e_X9_head_J100 {rec : Int → Int → Int → Int → Int → Int → ab_H → Option (Int × ab_H)} {k109 : Int → Int → Int → Int → Int → ab_H → Option (Int × ab_H)} (hrec : ∀ (v0 : Int) (v1 : Int) (v2 : Int) (v3 : Int) (v4 : Int) (v5 : Int) (h : ab_H) (q : Int × ab_H), rec v0 v1 v2 v3 v4 v5 h = some q → ab_E mm_X9_head cX9_head 43 [some (ab_R v0), some (ab_I v1), some (ab_I v2), some (ab_I v3), some (ab_I v4), some (ab_I v5)] [] h (some (ab_I q.1)) q.2) (hk109 : ∀ (v0 : Int) (v1 : Int) (v2 : Int) (v3 : Int) (v4 : Int) (h : ab_H) (q : Int × ab_H), k109 v0 v1 v2 v3 v4 h = some q → ab_E mm_X9_head cX9_head 109 [some (ab_R v0), some (ab_I v1), some (ab_I v2), some (ab_I v3), some (ab_I v4), none] [] h (some (ab_I q.1)) q.2) : ∀ (v0 : Int) (v1 : Int) (v2 : Int) (v3 : Int) (v5 : Int) (s1 : Int) (s0 : Int) (h : ab_H) (q : Int × ab_H), f_X9_head_J100 rec k109 v0 v1 v2 v3 v5 s1 s0 h = some q → ab_E mm_X9_head cX9_head 100 [some (ab_R v0), some (ab_I v1), some (ab_I v2), some (ab_I v3), none, some (ab_I v5)] [ab_I s1, ab_I s0] h (some (ab_I q.1)) q.2 := by
  intro v0 v1 v2 v3 v5 s1 s0 h q hk
  unfold f_X9_head_J100 at hk
  refine ab_iadd (pc := 100) dX9_head_100 ?_
  refine ab_istore (pc := 101) (i := 4) (lv2 := [some (ab_R v0), some (ab_I v1), some (ab_I v2), some (ab_I v3), some (ab_I (ab_w32 (s0 + s1))), some (ab_I v5)]) dX9_head_101 (Nat.le_of_ble_eq_true rfl) rfl rfl ?_
  refine ab_sub_ (lv2 := [some (ab_R v0), some (ab_I v1), some (ab_I v2), some (ab_I v3), some (ab_I (ab_w32 (s0 + s1))), some (ab_I v5)]) (ab_ss (ab_ss (ab_ss (ab_ss (ab_ss (ab_ss ab_s0)))))) ?_
  exact e_X9_head_J103 hrec hk109 _ _ _ _ _ _ _ _ hk
noncomputable def f_X9_head_J95 (rec : Int → Int → Int → Int → Int → Int → ab_H → Option (Int × ab_H)) (k109 : Int → Int → Int → Int → Int → ab_H → Option (Int × ab_H)) (v0 : Int) (v1 : Int) (v2 : Int) (v3 : Int) (v5 : Int) (s0 : Int) (h : ab_H) : Option (Int × ab_H) :=
  f_X9_head_J100 rec k109 v0 v1 v2 v3 v5 (1 : Int) s0 h
set_option maxRecDepth 20000 in
theorem e_X9_head_J95 {rec : Int → Int → Int → Int → Int → Int → ab_H → Option (Int × ab_H)} {k109 : Int → Int → Int → Int → Int → ab_H → Option (Int × ab_H)} (hrec : ∀ (v0 : Int) (v1 : Int) (v2 : Int) (v3 : Int) (v4 : Int) (v5 : Int) (h : ab_H) (q : Int × ab_H), rec v0 v1 v2 v3 v4 v5 h = some q → ab_E mm_X9_head cX9_head 43 [some (ab_R v0), some (ab_I v1), some (ab_I v2), some (ab_I v3), some (ab_I v4), some (ab_I v5)] [] h (some (ab_I q.1)) q.2) (hk109 : ∀ (v0 : Int) (v1 : Int) (v2 : Int) (v3 : Int) (v4 : Int) (h : ab_H) (q : Int × ab_H), k109 v0 v1 v2 v3 v4 h = some q → ab_E mm_X9_head cX9_head 109 [some (ab_R v0), some (ab_I v1), some (ab_I v2), some (ab_I v3), some (ab_I v4), none] [] h (some (ab_I q.1)) q.2) : ∀ (v0 : Int) (v1 : Int) (v2 : Int) (v3 : Int) (v5 : Int) (s0 : Int) (h : ab_H) (q : Int × ab_H), f_X9_head_J95 rec k109 v0 v1 v2 v3 v5 s0 h = some q → ab_E mm_X9_head cX9_head 95 [some (ab_R v0), some (ab_I v1), some (ab_I v2), some (ab_I v3), none, some (ab_I v5)] [ab_I s0] h (some (ab_I q.1)) q.2 := by
  intro v0 v1 v2 v3 v5 s0 h q hk
  unfold f_X9_head_J95 at hk
  refine ab_iconst (pc := 95) dX9_head_95 ab_k_1 ?_
  refine ab_goto (pc := 96) (tgt := 100) dX9_head_96 rfl ?_
  refine ab_sub_ (lv2 := [some (ab_R v0), some (ab_I v1), some (ab_I v2), some (ab_I v3), none, some (ab_I v5)]) (ab_ss (ab_ss (ab_ss (ab_ss (ab_sn (ab_ss ab_s0)))))) ?_
  exact e_X9_head_J100 hrec hk109 _ _ _ _ _ _ _ _ _ hk
noncomputable def f_X9_head_L43 (k109 : Int → Int → Int → Int → Int → ab_H → Option (Int × ab_H)) : Nat → Int → Int → Int → Int → Int → Int → ab_H → Option (Int × ab_H)
  | 0, _, _, _, _, _, _, _ => none
  | n + 1, v0, v1, v2, v3, v4, v5, h =>
    (ab_get h 10 16 v0).bind fun t1 =>
    if t1 ≤ v5 then
      k109 v0 v1 v2 v3 v4 h
    else
    (ab_get h 10 23 v0).bind fun t2 =>
    (ab_ald h 11 t2 v5).bind fun t3 =>
    if t3 = v1 then
      if v5 = (0 : Int) then
        f_X9_head_J95 (f_X9_head_L43 k109 n) k109 v0 v1 v2 (ab_w32 (v3 + (1 : Int))) v5 v4 h
      else
      (ab_get h 10 22 v0).bind fun t4 =>
      (ab_ald h 11 t4 (ab_w32 (v5 - (1 : Int)))).bind fun t5 =>
      (ab_get h 10 22 v0).bind fun t6 =>
      (ab_ald h 11 t6 v5).bind fun t7 =>
      if t5 = t7 then
        f_X9_head_J100 (f_X9_head_L43 k109 n) k109 v0 v1 v2 (ab_w32 (v3 + (1 : Int))) v5 (0 : Int) v4 h
      else
      f_X9_head_J95 (f_X9_head_L43 k109 n) k109 v0 v1 v2 (ab_w32 (v3 + (1 : Int))) v5 v4 h
    else
    f_X9_head_J103 (f_X9_head_L43 k109 n) k109 v0 v1 v2 v3 v4 v5 h
set_option maxRecDepth 20000 in
theorem e_X9_head_L43 {k109 : Int → Int → Int → Int → Int → ab_H → Option (Int × ab_H)} (hk109 : ∀ (v0 : Int) (v1 : Int) (v2 : Int) (v3 : Int) (v4 : Int) (h : ab_H) (q : Int × ab_H), k109 v0 v1 v2 v3 v4 h = some q → ab_E mm_X9_head cX9_head 109 [some (ab_R v0), some (ab_I v1), some (ab_I v2), some (ab_I v3), some (ab_I v4), none] [] h (some (ab_I q.1)) q.2) : ∀ (n : Nat) (v0 : Int) (v1 : Int) (v2 : Int) (v3 : Int) (v4 : Int) (v5 : Int) (h : ab_H) (q : Int × ab_H), f_X9_head_L43 k109 n v0 v1 v2 v3 v4 v5 h = some q → ab_E mm_X9_head cX9_head 43 [some (ab_R v0), some (ab_I v1), some (ab_I v2), some (ab_I v3), some (ab_I v4), some (ab_I v5)] [] h (some (ab_I q.1)) q.2 := by
  intro n
  induction n with
  | zero => intro v0 v1 v2 v3 v4 v5 h q hk; cases hk
  | succ n ih =>
    intro v0 v1 v2 v3 v4 v5 h q hk
    unfold f_X9_head_L43 at hk
    refine ab_iload (pc := 43) (i := 5) dX9_head_43 rfl ?_
    refine ab_aload_n (pc := 45) (i := 0) dX9_head_45 rfl rfl ?_
    obtain ⟨t1, ht1, hk⟩ := ab_bnd hk
    refine ab_getI (pc := 46) dX9_head_46 fl_RX9_267 ht1 ?_
    refine ab_icmp_ge (pc := 49) (tgt := 109) dX9_head_49 rfl (fun hc => ?_) (fun hc => ?_)
    · have hk := ab_ifp hk hc
      refine ab_sub_ (lv2 := [some (ab_R v0), some (ab_I v1), some (ab_I v2), some (ab_I v3), some (ab_I v4), none]) (ab_ss (ab_ss (ab_ss (ab_ss (ab_ss (ab_sn ab_s0)))))) ?_
      exact hk109 _ _ _ _ _ _ _ hk
    · have hk := ab_ifn hk hc
      refine ab_aload_n (pc := 52) (i := 0) dX9_head_52 rfl rfl ?_
      obtain ⟨t2, ht2, hk⟩ := ab_bnd hk
      refine ab_getR (pc := 53) dX9_head_53 fl_RX9_43 ht2 ?_
      refine ab_iload (pc := 56) (i := 5) dX9_head_56 rfl ?_
      obtain ⟨t3, ht3, hk⟩ := ab_bnd hk
      refine ab_iald (pc := 58) dX9_head_58 ht3 ?_
      refine ab_iload_n (pc := 59) (i := 1) dX9_head_59 rfl rfl ?_
      refine ab_icmp_eq (pc := 60) (tgt := 66) dX9_head_60 rfl (fun hc => ?_) (fun hc => ?_)
      · have hk := ab_ifp hk hc
        refine ab_iinc (pc := 66) (i := 3) (lv2 := [some (ab_R v0), some (ab_I v1), some (ab_I v2), some (ab_I (ab_w32 (v3 + (1 : Int)))), some (ab_I v4), some (ab_I v5)]) dX9_head_66 rfl (Nat.le_of_ble_eq_true rfl) rfl rfl ?_
        refine ab_iload (pc := 69) (i := 4) dX9_head_69 rfl ?_
        refine ab_iload (pc := 71) (i := 5) dX9_head_71 rfl ?_
        refine ab_if_eq (pc := 73) (tgt := 95) dX9_head_73 rfl (fun hc => ?_) (fun hc => ?_)
        · have hk := ab_ifp hk hc
          refine ab_sub_ (lv2 := [some (ab_R v0), some (ab_I v1), some (ab_I v2), some (ab_I (ab_w32 (v3 + (1 : Int)))), none, some (ab_I v5)]) (ab_ss (ab_ss (ab_ss (ab_ss (ab_sn (ab_ss ab_s0)))))) ?_
          exact e_X9_head_J95 ih hk109 _ _ _ _ _ _ _ _ hk
        · have hk := ab_ifn hk hc
          refine ab_aload_n (pc := 76) (i := 0) dX9_head_76 rfl rfl ?_
          obtain ⟨t4, ht4, hk⟩ := ab_bnd hk
          refine ab_getR (pc := 77) dX9_head_77 fl_RX9_40 ht4 ?_
          refine ab_iload (pc := 80) (i := 5) dX9_head_80 rfl ?_
          refine ab_iconst (pc := 82) dX9_head_82 ab_k_1 ?_
          refine ab_isub (pc := 83) dX9_head_83 ?_
          obtain ⟨t5, ht5, hk⟩ := ab_bnd hk
          refine ab_iald (pc := 84) dX9_head_84 ht5 ?_
          refine ab_aload_n (pc := 85) (i := 0) dX9_head_85 rfl rfl ?_
          obtain ⟨t6, ht6, hk⟩ := ab_bnd hk
          refine ab_getR (pc := 86) dX9_head_86 fl_RX9_40 ht6 ?_
          refine ab_iload (pc := 89) (i := 5) dX9_head_89 rfl ?_
          obtain ⟨t7, ht7, hk⟩ := ab_bnd hk
          refine ab_iald (pc := 91) dX9_head_91 ht7 ?_
          refine ab_icmp_eq (pc := 92) (tgt := 99) dX9_head_92 rfl (fun hc => ?_) (fun hc => ?_)
          · have hk := ab_ifp hk hc
            refine ab_iconst (pc := 99) dX9_head_99 ab_k_0 ?_
            refine ab_sub_ (lv2 := [some (ab_R v0), some (ab_I v1), some (ab_I v2), some (ab_I (ab_w32 (v3 + (1 : Int)))), none, some (ab_I v5)]) (ab_ss (ab_ss (ab_ss (ab_ss (ab_sn (ab_ss ab_s0)))))) ?_
            exact e_X9_head_J100 ih hk109 _ _ _ _ _ _ _ _ _ hk
          · have hk := ab_ifn hk hc
            refine ab_sub_ (lv2 := [some (ab_R v0), some (ab_I v1), some (ab_I v2), some (ab_I (ab_w32 (v3 + (1 : Int)))), none, some (ab_I v5)]) (ab_ss (ab_ss (ab_ss (ab_ss (ab_sn (ab_ss ab_s0)))))) ?_
            exact e_X9_head_J95 ih hk109 _ _ _ _ _ _ _ _ hk
      · have hk := ab_ifn hk hc
        refine ab_goto (pc := 63) (tgt := 103) dX9_head_63 rfl ?_
        refine ab_sub_ (lv2 := [some (ab_R v0), some (ab_I v1), some (ab_I v2), some (ab_I v3), some (ab_I v4), some (ab_I v5)]) (ab_ss (ab_ss (ab_ss (ab_ss (ab_ss (ab_ss ab_s0)))))) ?_
        exact e_X9_head_J103 ih hk109 _ _ _ _ _ _ _ _ hk
noncomputable def f_X9_head (a0 : Int) (a1 : Int) (a2 : Int) (h : ab_H) : Option (Int × ab_H) :=
  (ab_on h 10 a0 (f_X9_lays a0 h)).bind fun q1 =>
  (ab_get q1 10 18 a0).bind fun t2 =>
  (f_X9_in a1 (0 : Int) (ab_w32 (t2 - (1 : Int))) q1).bind fun q3 =>
  if q3.1 = (0 : Int) then
    some ((-2 : Int), q3.2)
  else
  (f_X9_in a2 (0 : Int) (3 : Int) q3.2).bind fun q4 =>
  if q4.1 = (0 : Int) then
    some ((-2 : Int), q4.2)
  else
  f_X9_head_L43 (fun w109_0 w109_1 w109_2 w109_3 w109_4 hx109 =>
    if w109_2 = (0 : Int) then
      (ab_on hx109 10 w109_0 (f_X9_headWord w109_0 w109_1 hx109)).bind fun q7 =>
      some (q7.1, q7.2)
    else
    if w109_2 = (1 : Int) then
      some (w109_4, hx109)
    else
    if w109_2 = (2 : Int) then
      some (w109_3, hx109)
    else
    (ab_on hx109 10 w109_0 (f_X9_stringsUnder w109_0 w109_1 hx109)).bind fun q5 =>
    (f_X9_bits q5.1 q5.2).bind fun q6 =>
    some (q6.1, q6.2)) ab_FU a0 a1 a2 (0 : Int) (0 : Int) (0 : Int) q4.2
set_option maxRecDepth 20000 in
theorem ct_X9_head {a0 a1 a2 : Int} {h : ab_H} {q : Int × ab_H} (hk : f_X9_head a0 a1 a2 h = some q) : ab_CT yX9_head cX9_head 6 (some .int) 6 133 [ab_R a0, ab_I a1, ab_I a2] h (some (ab_I q.1)) q.2 := by
  refine ab_CT.mk_ 3 (own := RX9) (ini := false) (lv := [some (ab_R a0), some (ab_I a1), some (ab_I a2), none, none, none]) rfl (by decide +kernel) (fun q => by cases q) rfl rfl ?_
  unfold f_X9_head at hk
  show ab_E mm_X9_head cX9_head 0 _ [] h _ _
  refine ab_aload_n (pc := 0) (i := 0) dX9_head_0 rfl rfl ?_
  obtain ⟨q1, hq1, hk⟩ := ab_bnd hk
  obtain ⟨hb, hq1⟩ := ab_on_some hq1
  refine ab_callVV (st := []) (as := []) (b := a0) (pc := 1) dX9_head_1 ml_RX9_314 my_X9_lays mv_X9_lays hb (ct_X9_lays hq1) ⟨Nat.le_of_ble_eq_true rfl, Nat.le_of_ble_eq_true rfl⟩ rfl (Nat.le_of_ble_eq_true rfl) rfl ?_
  refine ab_iload_n (pc := 4) (i := 1) dX9_head_4 rfl rfl ?_
  refine ab_i2l_ (pc := 5) dX9_head_5 ?_
  refine ab_lconst (x := (0 : Int)) (pc := 6) dX9_head_6 rfl ab_kl_0 ?_
  refine ab_aload_n (pc := 7) (i := 0) dX9_head_7 rfl rfl ?_
  obtain ⟨t2, ht2, hk⟩ := ab_bnd hk
  refine ab_getI (pc := 8) dX9_head_8 fl_RX9_306 ht2 ?_
  refine ab_iconst (pc := 11) dX9_head_11 ab_k_1 ?_
  refine ab_isub (pc := 12) dX9_head_12 ?_
  refine ab_i2l_ (pc := 13) dX9_head_13 ?_
  obtain ⟨q3, hq3, hk⟩ := ab_bnd hk
  refine ab_callSI (st := []) (as := [ab_J a1, ab_J (0 : Int), ab_J (ab_w32 (t2 - (1 : Int)))]) (pc := 14) dX9_head_14 ml_RX9_84 my_X9_in ms_X9_in (ct_X9_in hq3) ⟨Nat.le_of_ble_eq_true rfl, Nat.le_of_ble_eq_true rfl⟩ rfl (Nat.le_of_ble_eq_true rfl) rfl ?_
  refine ab_if_eq (pc := 17) (tgt := 32) dX9_head_17 rfl (fun hc => ?_) (fun hc => ?_)
  · have hk := ab_ifp hk hc
    refine ab_bipush (pc := 32) dX9_head_32 ab_p8_m2 ab_k_m2 ?_
    obtain rfl := Option.some.inj hk
    exact ab_reti (pc := 34) dX9_head_34 (Or.inl rfl)
  · have hk := ab_ifn hk hc
    refine ab_iload_n (pc := 20) (i := 2) dX9_head_20 rfl rfl ?_
    refine ab_i2l_ (pc := 21) dX9_head_21 ?_
    refine ab_lconst (x := (0 : Int)) (pc := 22) dX9_head_22 rfl ab_kl_0 ?_
    refine ab_ldc2 (x := (3 : Int)) (pc := 23) dX9_head_23 ab_ld2_RX9_360 ab_kl_3 ?_
    obtain ⟨q4, hq4, hk⟩ := ab_bnd hk
    refine ab_callSI (st := []) (as := [ab_J a2, ab_J (0 : Int), ab_J (3 : Int)]) (pc := 26) dX9_head_26 ml_RX9_84 my_X9_in ms_X9_in (ct_X9_in hq4) ⟨Nat.le_of_ble_eq_true rfl, Nat.le_of_ble_eq_true rfl⟩ rfl (Nat.le_of_ble_eq_true rfl) rfl ?_
    refine ab_if_ne (pc := 29) (tgt := 35) dX9_head_29 rfl (fun hc => ?_) (fun hc => ?_)
    · have hk := ab_ifn hk hc
      refine ab_iconst (pc := 35) dX9_head_35 ab_k_0 ?_
      refine ab_istore_n (pc := 36) (i := 3) (lv2 := [some (ab_R a0), some (ab_I a1), some (ab_I a2), some (ab_I (0 : Int)), none, none]) dX9_head_36 rfl (Nat.le_of_ble_eq_true rfl) rfl rfl ?_
      refine ab_iconst (pc := 37) dX9_head_37 ab_k_0 ?_
      refine ab_istore (pc := 38) (i := 4) (lv2 := [some (ab_R a0), some (ab_I a1), some (ab_I a2), some (ab_I (0 : Int)), some (ab_I (0 : Int)), none]) dX9_head_38 (Nat.le_of_ble_eq_true rfl) rfl rfl ?_
      refine ab_iconst (pc := 40) dX9_head_40 ab_k_0 ?_
      refine ab_istore (pc := 41) (i := 5) (lv2 := [some (ab_R a0), some (ab_I a1), some (ab_I a2), some (ab_I (0 : Int)), some (ab_I (0 : Int)), some (ab_I (0 : Int))]) dX9_head_41 (Nat.le_of_ble_eq_true rfl) rfl rfl ?_
      refine ab_sub_ (lv2 := [some (ab_R a0), some (ab_I a1), some (ab_I a2), some (ab_I (0 : Int)), some (ab_I (0 : Int)), some (ab_I (0 : Int))]) (ab_ss (ab_ss (ab_ss (ab_ss (ab_ss (ab_ss ab_s0)))))) ?_
      refine e_X9_head_L43 (fun w109_0 w109_1 w109_2 w109_3 w109_4 hx109 q hk => ?_) _ _ _ _ _ _ _ _ _ hk
      · skip
        refine ab_iload_n (pc := 109) (i := 2) dX9_head_109 rfl rfl ?_
        refine ab_if_ne (pc := 110) (tgt := 121) dX9_head_110 rfl (fun hc => ?_) (fun hc => ?_)
        · have hk := ab_ifn hk hc
          refine ab_iload_n (pc := 121) (i := 2) dX9_head_121 rfl rfl ?_
          refine ab_iconst (pc := 122) dX9_head_122 ab_k_1 ?_
          refine ab_icmp_ne (pc := 123) (tgt := 131) dX9_head_123 rfl (fun hc => ?_) (fun hc => ?_)
          · have hk := ab_ifn hk hc
            refine ab_iload_n (pc := 131) (i := 2) dX9_head_131 rfl rfl ?_
            refine ab_iconst (pc := 132) dX9_head_132 ab_k_2 ?_
            refine ab_icmp_ne (pc := 133) (tgt := 140) dX9_head_133 rfl (fun hc => ?_) (fun hc => ?_)
            · have hk := ab_ifn hk hc
              refine ab_aload_n (pc := 140) (i := 0) dX9_head_140 rfl rfl ?_
              refine ab_iload_n (pc := 141) (i := 1) dX9_head_141 rfl rfl ?_
              obtain ⟨q5, hq5, hk⟩ := ab_bnd hk
              obtain ⟨hb, hq5⟩ := ab_on_some hq5
              refine ab_callVI (st := []) (as := [ab_I w109_1]) (b := w109_0) (pc := 142) dX9_head_142 ml_RX9_374 my_X9_stringsUnder mv_X9_stringsUnder hb (ct_X9_stringsUnder hq5) ⟨Nat.le_of_ble_eq_true rfl, Nat.le_of_ble_eq_true rfl⟩ rfl (Nat.le_of_ble_eq_true rfl) rfl ?_
              obtain ⟨q6, hq6, hk⟩ := ab_bnd hk
              refine ab_callSI (st := []) (as := [ab_I q5.1]) (pc := 145) dX9_head_145 ml_RX9_377 my_X9_bits ms_X9_bits (ct_X9_bits hq6) ⟨Nat.le_of_ble_eq_true rfl, Nat.le_of_ble_eq_true rfl⟩ rfl (Nat.le_of_ble_eq_true rfl) rfl ?_
              obtain rfl := Option.some.inj hk
              exact ab_reti (pc := 148) dX9_head_148 (Or.inl rfl)
            · have hk := ab_ifp hk hc
              refine ab_iload_n (pc := 136) (i := 3) dX9_head_136 rfl rfl ?_
              refine ab_goto (pc := 137) (tgt := 148) dX9_head_137 rfl ?_
              obtain rfl := Option.some.inj hk
              exact ab_reti (pc := 148) dX9_head_148 (Or.inl rfl)
          · have hk := ab_ifp hk hc
            refine ab_iload (pc := 126) (i := 4) dX9_head_126 rfl ?_
            refine ab_goto (pc := 128) (tgt := 148) dX9_head_128 rfl ?_
            obtain rfl := Option.some.inj hk
            exact ab_reti (pc := 148) dX9_head_148 (Or.inl rfl)
        · have hk := ab_ifp hk hc
          refine ab_aload_n (pc := 113) (i := 0) dX9_head_113 rfl rfl ?_
          refine ab_iload_n (pc := 114) (i := 1) dX9_head_114 rfl rfl ?_
          obtain ⟨q7, hq7, hk⟩ := ab_bnd hk
          obtain ⟨hb, hq7⟩ := ab_on_some hq7
          refine ab_callVI (st := []) (as := [ab_I w109_1]) (b := w109_0) (pc := 115) dX9_head_115 ml_RX9_371 my_X9_headWord mv_X9_headWord hb (ct_X9_headWord hq7) ⟨Nat.le_of_ble_eq_true rfl, Nat.le_of_ble_eq_true rfl⟩ rfl (Nat.le_of_ble_eq_true rfl) rfl ?_
          refine ab_goto (pc := 118) (tgt := 148) dX9_head_118 rfl ?_
          obtain rfl := Option.some.inj hk
          exact ab_reti (pc := 148) dX9_head_148 (Or.inl rfl)
    · have hk := ab_ifp hk hc
      refine ab_bipush (pc := 32) dX9_head_32 ab_p8_m2 ab_k_m2 ?_
      obtain rfl := Option.some.inj hk
      exact ab_reti (pc := 34) dX9_head_34 (Or.inl rfl)
theorem dX9_says_0 : decode cX9_says 0 = .ok (.aload_n 0, 1) := by decide +kernel
theorem dX9_says_1 : decode cX9_says 1 = .ok (.getfield 55, 3) := by decide +kernel
theorem dX9_says_4 : decode cX9_says 4 = .ok (.aload_n 0, 1) := by decide +kernel
theorem dX9_says_5 : decode cX9_says 5 = .ok (.getfield 380, 3) := by decide +kernel
theorem dX9_says_8 : decode cX9_says 8 = .ok (.iload_n 1, 1) := by decide +kernel
theorem dX9_says_9 : decode cX9_says 9 = .ok (.i2b, 1) := by decide +kernel
theorem dX9_says_10 : decode cX9_says 10 = .ok (.bastore, 1) := by decide +kernel
theorem dX9_says_11 : decode cX9_says 11 = .ok (.aload_n 0, 1) := by decide +kernel
theorem dX9_says_12 : decode cX9_says 12 = .ok (.dup, 1) := by decide +kernel
theorem dX9_says_13 : decode cX9_says 13 = .ok (.getfield 380, 3) := by decide +kernel
theorem dX9_says_16 : decode cX9_says 16 = .ok (.iconst 1, 1) := by decide +kernel
theorem dX9_says_17 : decode cX9_says 17 = .ok (.iadd, 1) := by decide +kernel
theorem dX9_says_18 : decode cX9_says 18 = .ok (.putfield 380, 3) := by decide +kernel
theorem dX9_says_21 : decode cX9_says 21 = .ok (.return_, 1) := by decide +kernel
abbrev mm_X9_says : ab_M := (RX9, 2, none, false, 0, 0, none)
noncomputable def f_X9_says (a0 : Int) (a1 : Int) (h : ab_H) : Option ab_H :=
  (ab_get h 10 29 a0).bind fun t1 =>
  (ab_get h 10 30 a0).bind fun t2 =>
  (ab_ast h 13 t1 t2 (ab_w8 (ab_w8 a1))).bind fun h1 =>
  (ab_get h1 10 30 a0).bind fun t3 =>
  (ab_put h1 10 30 a0 (ab_w32 (t3 + (1 : Int)))).bind fun h2 =>
  some h2
set_option maxRecDepth 20000 in
theorem ct_X9_says {a0 a1 : Int} {h : ab_H} {q : ab_H} (hk : f_X9_says a0 a1 h = some q) : ab_CT yX9_says cX9_says 2 none 0 0 [ab_R a0, ab_I a1] h none q := by
  refine ab_CT.mk_ 0 (own := RX9) (ini := false) (lv := [some (ab_R a0), some (ab_I a1)]) rfl (by decide +kernel) (fun q => by cases q) rfl rfl ?_
  unfold f_X9_says at hk
  show ab_E mm_X9_says cX9_says 0 _ [] h _ _
  refine ab_aload_n (pc := 0) (i := 0) dX9_says_0 rfl rfl ?_
  obtain ⟨t1, ht1, hk⟩ := ab_bnd hk
  refine ab_getR (pc := 1) dX9_says_1 fl_RX9_55 ht1 ?_
  refine ab_aload_n (pc := 4) (i := 0) dX9_says_4 rfl rfl ?_
  obtain ⟨t2, ht2, hk⟩ := ab_bnd hk
  refine ab_getI (pc := 5) dX9_says_5 fl_RX9_380 ht2 ?_
  refine ab_iload_n (pc := 8) (i := 1) dX9_says_8 rfl rfl ?_
  refine ab_i2b_ (pc := 9) dX9_says_9 ?_
  obtain ⟨h1, hh1, hk⟩ := ab_bnd hk
  refine ab_bast (pc := 10) dX9_says_10 hh1 ?_
  refine ab_aload_n (pc := 11) (i := 0) dX9_says_11 rfl rfl ?_
  refine ab_dup (pc := 12) dX9_says_12 rfl ?_
  obtain ⟨t3, ht3, hk⟩ := ab_bnd hk
  refine ab_getI (pc := 13) dX9_says_13 fl_RX9_380 ht3 ?_
  refine ab_iconst (pc := 16) dX9_says_16 ab_k_1 ?_
  refine ab_iadd (pc := 17) dX9_says_17 ?_
  obtain ⟨h2, hh2, hk⟩ := ab_bnd hk
  refine ab_putI_ (pc := 18) dX9_says_18 fl_RX9_380 (fun q => by cases q) hh2 ?_
  obtain rfl := Option.some.inj hk
  exact ab_retv (pc := 21) dX9_says_21 rfl
theorem dX9_saysWord_0 : decode cX9_saysWord 0 = .ok (.iconst 0, 1) := by decide +kernel
theorem dX9_saysWord_1 : decode cX9_saysWord 1 = .ok (.istore_n 3, 1) := by decide +kernel
theorem dX9_saysWord_2 : decode cX9_saysWord 2 = .ok (.iload_n 3, 1) := by decide +kernel
theorem dX9_saysWord_3 : decode cX9_saysWord 3 = .ok (.bipush 7, 2) := by decide +kernel
theorem dX9_saysWord_5 : decode cX9_saysWord 5 = .ok (.if_icmp .ge 31, 3) := by decide +kernel
theorem dX9_saysWord_8 : decode cX9_saysWord 8 = .ok (.lload_n 1, 1) := by decide +kernel
theorem dX9_saysWord_9 : decode cX9_saysWord 9 = .ok (.iload_n 3, 1) := by decide +kernel
theorem dX9_saysWord_10 : decode cX9_saysWord 10 = .ok (.invokestatic 334, 3) := by decide +kernel
theorem dX9_saysWord_13 : decode cX9_saysWord 13 = .ok (.ifCond .le 17, 3) := by decide +kernel
theorem dX9_saysWord_16 : decode cX9_saysWord 16 = .ok (.aload_n 0, 1) := by decide +kernel
theorem dX9_saysWord_17 : decode cX9_saysWord 17 = .ok (.bipush 97, 2) := by decide +kernel
theorem dX9_saysWord_19 : decode cX9_saysWord 19 = .ok (.lload_n 1, 1) := by decide +kernel
theorem dX9_saysWord_20 : decode cX9_saysWord 20 = .ok (.iload_n 3, 1) := by decide +kernel
theorem dX9_saysWord_21 : decode cX9_saysWord 21 = .ok (.invokestatic 334, 3) := by decide +kernel
theorem dX9_saysWord_24 : decode cX9_saysWord 24 = .ok (.iadd, 1) := by decide +kernel
theorem dX9_saysWord_25 : decode cX9_saysWord 25 = .ok (.iconst 1, 1) := by decide +kernel
theorem dX9_saysWord_26 : decode cX9_saysWord 26 = .ok (.isub, 1) := by decide +kernel
theorem dX9_saysWord_27 : decode cX9_saysWord 27 = .ok (.invokevirtual 383, 3) := by decide +kernel
theorem dX9_saysWord_30 : decode cX9_saysWord 30 = .ok (.iinc 3 1, 3) := by decide +kernel
theorem dX9_saysWord_33 : decode cX9_saysWord 33 = .ok (.goto (-31), 3) := by decide +kernel
theorem dX9_saysWord_36 : decode cX9_saysWord 36 = .ok (.return_, 1) := by decide +kernel
abbrev mm_X9_saysWord : ab_M := (RX9, 4, none, false, 1, 22, none)
noncomputable def f_X9_saysWord_J30 (rec : Int → Int → Int → ab_H → Option ab_H) (v0 : Int) (v1 : Int) (v3 : Int) (h : ab_H) : Option ab_H :=
  rec v0 v1 (ab_w32 (v3 + (1 : Int))) h
set_option maxRecDepth 20000 in
theorem e_X9_saysWord_J30 {rec : Int → Int → Int → ab_H → Option ab_H} (hrec : ∀ (v0 : Int) (v1 : Int) (v3 : Int) (h : ab_H) (q : ab_H), rec v0 v1 v3 h = some q → ab_E mm_X9_saysWord cX9_saysWord 2 [some (ab_R v0), some (ab_J v1), none, some (ab_I v3)] [] h none q) : ∀ (v0 : Int) (v1 : Int) (v3 : Int) (h : ab_H) (q : ab_H), f_X9_saysWord_J30 rec v0 v1 v3 h = some q → ab_E mm_X9_saysWord cX9_saysWord 30 [some (ab_R v0), some (ab_J v1), none, some (ab_I v3)] [] h none q := by
  intro v0 v1 v3 h q hk
  unfold f_X9_saysWord_J30 at hk
  refine ab_iinc (pc := 30) (i := 3) (lv2 := [some (ab_R v0), some (ab_J v1), none, some (ab_I (ab_w32 (v3 + (1 : Int))))]) dX9_saysWord_30 rfl (Nat.le_of_ble_eq_true rfl) rfl rfl ?_
  refine ab_goto (pc := 33) (tgt := 2) dX9_saysWord_33 rfl ?_
  refine ab_sub_ (lv2 := [some (ab_R v0), some (ab_J v1), none, some (ab_I (ab_w32 (v3 + (1 : Int))))]) (ab_ss (ab_ss (ab_sn (ab_ss ab_s0)))) ?_
  exact hrec _ _ _ _ _ hk
noncomputable def f_X9_saysWord_L2 : Nat → Int → Int → Int → ab_H → Option ab_H
  | 0, _, _, _, _ => none
  | n + 1, v0, v1, v3, h =>
    if (7 : Int) ≤ v3 then
      some h
    else
    (f_X9_letterOf v1 v3 h).bind fun q1 =>
    if q1.1 ≤ (0 : Int) then
      f_X9_saysWord_J30 (f_X9_saysWord_L2 n) v0 v1 v3 q1.2
    else
    (f_X9_letterOf v1 v3 q1.2).bind fun q2 =>
    (ab_on q2.2 10 v0 (f_X9_says v0 (ab_w32 ((ab_w32 ((97 : Int) + q2.1)) - (1 : Int))) q2.2)).bind fun q3 =>
    f_X9_saysWord_J30 (f_X9_saysWord_L2 n) v0 v1 v3 q3
set_option maxRecDepth 20000 in
theorem e_X9_saysWord_L2 : ∀ (n : Nat) (v0 : Int) (v1 : Int) (v3 : Int) (h : ab_H) (q : ab_H), f_X9_saysWord_L2 n v0 v1 v3 h = some q → ab_E mm_X9_saysWord cX9_saysWord 2 [some (ab_R v0), some (ab_J v1), none, some (ab_I v3)] [] h none q := by
  intro n
  induction n with
  | zero => intro v0 v1 v3 h q hk; cases hk
  | succ n ih =>
    intro v0 v1 v3 h q hk
    unfold f_X9_saysWord_L2 at hk
    refine ab_iload_n (pc := 2) (i := 3) dX9_saysWord_2 rfl rfl ?_
    refine ab_bipush (pc := 3) dX9_saysWord_3 ab_p8_7 ab_k_7 ?_
    refine ab_icmp_ge (pc := 5) (tgt := 36) dX9_saysWord_5 rfl (fun hc => ?_) (fun hc => ?_)
    · have hk := ab_ifp hk hc
      obtain rfl := Option.some.inj hk
      exact ab_retv (pc := 36) dX9_saysWord_36 rfl
    · have hk := ab_ifn hk hc
      refine ab_lload_n (pc := 8) (i := 1) dX9_saysWord_8 rfl rfl ?_
      refine ab_iload_n (pc := 9) (i := 3) dX9_saysWord_9 rfl rfl ?_
      obtain ⟨q1, hq1, hk⟩ := ab_bnd hk
      refine ab_callSI (st := []) (as := [ab_J v1, ab_I v3]) (pc := 10) dX9_saysWord_10 ml_RX9_334 my_X9_letterOf ms_X9_letterOf (ct_X9_letterOf hq1) ⟨Nat.le_of_ble_eq_true rfl, Nat.le_of_ble_eq_true rfl⟩ rfl (Nat.le_of_ble_eq_true rfl) rfl ?_
      refine ab_if_le (pc := 13) (tgt := 30) dX9_saysWord_13 rfl (fun hc => ?_) (fun hc => ?_)
      · have hk := ab_ifp hk hc
        refine ab_sub_ (lv2 := [some (ab_R v0), some (ab_J v1), none, some (ab_I v3)]) (ab_ss (ab_ss (ab_sn (ab_ss ab_s0)))) ?_
        exact e_X9_saysWord_J30 ih _ _ _ _ _ hk
      · have hk := ab_ifn hk hc
        refine ab_aload_n (pc := 16) (i := 0) dX9_saysWord_16 rfl rfl ?_
        refine ab_bipush (pc := 17) dX9_saysWord_17 ab_p8_97 ab_k_97 ?_
        refine ab_lload_n (pc := 19) (i := 1) dX9_saysWord_19 rfl rfl ?_
        refine ab_iload_n (pc := 20) (i := 3) dX9_saysWord_20 rfl rfl ?_
        obtain ⟨q2, hq2, hk⟩ := ab_bnd hk
        refine ab_callSI (st := [ab_I (97 : Int), ab_R v0]) (as := [ab_J v1, ab_I v3]) (pc := 21) dX9_saysWord_21 ml_RX9_334 my_X9_letterOf ms_X9_letterOf (ct_X9_letterOf hq2) ⟨Nat.le_of_ble_eq_true rfl, Nat.le_of_ble_eq_true rfl⟩ rfl (Nat.le_of_ble_eq_true rfl) rfl ?_
        refine ab_iadd (pc := 24) dX9_saysWord_24 ?_
        refine ab_iconst (pc := 25) dX9_saysWord_25 ab_k_1 ?_
        refine ab_isub (pc := 26) dX9_saysWord_26 ?_
        obtain ⟨q3, hq3, hk⟩ := ab_bnd hk
        obtain ⟨hb, hq3⟩ := ab_on_some hq3
        refine ab_callVV (st := []) (as := [ab_I (ab_w32 ((ab_w32 ((97 : Int) + q2.1)) - (1 : Int)))]) (b := v0) (pc := 27) dX9_saysWord_27 ml_RX9_383 my_X9_says mv_X9_says hb (ct_X9_says hq3) ⟨Nat.le_of_ble_eq_true rfl, Nat.le_of_ble_eq_true rfl⟩ rfl (Nat.le_of_ble_eq_true rfl) rfl ?_
        refine ab_sub_ (lv2 := [some (ab_R v0), some (ab_J v1), none, some (ab_I v3)]) (ab_ss (ab_ss (ab_sn (ab_ss ab_s0)))) ?_
        exact e_X9_saysWord_J30 ih _ _ _ _ _ hk
noncomputable def f_X9_saysWord (a0 : Int) (a1 : Int) (h : ab_H) : Option ab_H :=
  f_X9_saysWord_L2 ab_FU a0 a1 (0 : Int) h
set_option maxRecDepth 20000 in
theorem ct_X9_saysWord {a0 a1 : Int} {h : ab_H} {q : ab_H} (hk : f_X9_saysWord a0 a1 h = some q) : ab_CT yX9_saysWord cX9_saysWord 4 none 1 22 [ab_R a0, ab_J a1] h none q := by
  refine ab_CT.mk_ 1 (own := RX9) (ini := false) (lv := [some (ab_R a0), some (ab_J a1), none, none]) rfl (by decide +kernel) (fun q => by cases q) rfl rfl ?_
  unfold f_X9_saysWord at hk
  show ab_E mm_X9_saysWord cX9_saysWord 0 _ [] h _ _
  refine ab_iconst (pc := 0) dX9_saysWord_0 ab_k_0 ?_
  refine ab_istore_n (pc := 1) (i := 3) (lv2 := [some (ab_R a0), some (ab_J a1), none, some (ab_I (0 : Int))]) dX9_saysWord_1 rfl (Nat.le_of_ble_eq_true rfl) rfl rfl ?_
  refine ab_sub_ (lv2 := [some (ab_R a0), some (ab_J a1), none, some (ab_I (0 : Int))]) (ab_ss (ab_ss (ab_sn (ab_ss ab_s0)))) ?_
  refine e_X9_saysWord_L2 _ _ _ _ _ _ hk
theorem dX9_saysNumber_0 : decode cX9_saysNumber 0 = .ok (.iconst 1, 1) := by decide +kernel
theorem dX9_saysNumber_1 : decode cX9_saysNumber 1 = .ok (.istore_n 2, 1) := by decide +kernel
theorem dX9_saysNumber_2 : decode cX9_saysNumber 2 = .ok (.iload_n 1, 1) := by decide +kernel
theorem dX9_saysNumber_3 : decode cX9_saysNumber 3 = .ok (.iload_n 2, 1) := by decide +kernel
theorem dX9_saysNumber_4 : decode cX9_saysNumber 4 = .ok (.idiv, 1) := by decide +kernel
theorem dX9_saysNumber_5 : decode cX9_saysNumber 5 = .ok (.bipush 10, 2) := by decide +kernel
theorem dX9_saysNumber_7 : decode cX9_saysNumber 7 = .ok (.if_icmp .lt 11, 3) := by decide +kernel
theorem dX9_saysNumber_10 : decode cX9_saysNumber 10 = .ok (.iload_n 2, 1) := by decide +kernel
theorem dX9_saysNumber_11 : decode cX9_saysNumber 11 = .ok (.bipush 10, 2) := by decide +kernel
theorem dX9_saysNumber_13 : decode cX9_saysNumber 13 = .ok (.imul, 1) := by decide +kernel
theorem dX9_saysNumber_14 : decode cX9_saysNumber 14 = .ok (.istore_n 2, 1) := by decide +kernel
theorem dX9_saysNumber_15 : decode cX9_saysNumber 15 = .ok (.goto (-13), 3) := by decide +kernel
theorem dX9_saysNumber_18 : decode cX9_saysNumber 18 = .ok (.iload_n 2, 1) := by decide +kernel
theorem dX9_saysNumber_19 : decode cX9_saysNumber 19 = .ok (.ifCond .le 24, 3) := by decide +kernel
theorem dX9_saysNumber_22 : decode cX9_saysNumber 22 = .ok (.aload_n 0, 1) := by decide +kernel
theorem dX9_saysNumber_23 : decode cX9_saysNumber 23 = .ok (.bipush 48, 2) := by decide +kernel
theorem dX9_saysNumber_25 : decode cX9_saysNumber 25 = .ok (.iload_n 1, 1) := by decide +kernel
theorem dX9_saysNumber_26 : decode cX9_saysNumber 26 = .ok (.iload_n 2, 1) := by decide +kernel
theorem dX9_saysNumber_27 : decode cX9_saysNumber 27 = .ok (.idiv, 1) := by decide +kernel
theorem dX9_saysNumber_28 : decode cX9_saysNumber 28 = .ok (.bipush 10, 2) := by decide +kernel
theorem dX9_saysNumber_30 : decode cX9_saysNumber 30 = .ok (.irem, 1) := by decide +kernel
theorem dX9_saysNumber_31 : decode cX9_saysNumber 31 = .ok (.iadd, 1) := by decide +kernel
theorem dX9_saysNumber_32 : decode cX9_saysNumber 32 = .ok (.invokevirtual 383, 3) := by decide +kernel
theorem dX9_saysNumber_35 : decode cX9_saysNumber 35 = .ok (.iload_n 2, 1) := by decide +kernel
theorem dX9_saysNumber_36 : decode cX9_saysNumber 36 = .ok (.bipush 10, 2) := by decide +kernel
theorem dX9_saysNumber_38 : decode cX9_saysNumber 38 = .ok (.idiv, 1) := by decide +kernel
theorem dX9_saysNumber_39 : decode cX9_saysNumber 39 = .ok (.istore_n 2, 1) := by decide +kernel
theorem dX9_saysNumber_40 : decode cX9_saysNumber 40 = .ok (.goto (-22), 3) := by decide +kernel
theorem dX9_saysNumber_43 : decode cX9_saysNumber 43 = .ok (.return_, 1) := by decide +kernel
abbrev mm_X9_saysNumber : ab_M := (RX9, 3, none, false, 1, 21, none)
noncomputable def f_X9_saysNumber_L18 : Nat → Int → Int → Int → ab_H → Option ab_H
  | 0, _, _, _, _ => none
  | n + 1, v0, v1, v2, h =>
    if v2 ≤ (0 : Int) then
      some h
    else
    (ab_dv v1 v2).bind fun t1 =>
    (ab_rm_ t1 (10 : Int)).bind fun t2 =>
    (ab_on h 10 v0 (f_X9_says v0 (ab_w32 ((48 : Int) + t2)) h)).bind fun q3 =>
    (ab_dv v2 (10 : Int)).bind fun t4 =>
    f_X9_saysNumber_L18 n v0 v1 t4 q3
set_option maxRecDepth 20000 in
theorem e_X9_saysNumber_L18 : ∀ (n : Nat) (v0 : Int) (v1 : Int) (v2 : Int) (h : ab_H) (q : ab_H), f_X9_saysNumber_L18 n v0 v1 v2 h = some q → ab_E mm_X9_saysNumber cX9_saysNumber 18 [some (ab_R v0), some (ab_I v1), some (ab_I v2)] [] h none q := by
  intro n
  induction n with
  | zero => intro v0 v1 v2 h q hk; cases hk
  | succ n ih =>
    intro v0 v1 v2 h q hk
    unfold f_X9_saysNumber_L18 at hk
    refine ab_iload_n (pc := 18) (i := 2) dX9_saysNumber_18 rfl rfl ?_
    refine ab_if_le (pc := 19) (tgt := 43) dX9_saysNumber_19 rfl (fun hc => ?_) (fun hc => ?_)
    · have hk := ab_ifp hk hc
      obtain rfl := Option.some.inj hk
      exact ab_retv (pc := 43) dX9_saysNumber_43 rfl
    · have hk := ab_ifn hk hc
      refine ab_aload_n (pc := 22) (i := 0) dX9_saysNumber_22 rfl rfl ?_
      refine ab_bipush (pc := 23) dX9_saysNumber_23 ab_p8_48 ab_k_48 ?_
      refine ab_iload_n (pc := 25) (i := 1) dX9_saysNumber_25 rfl rfl ?_
      refine ab_iload_n (pc := 26) (i := 2) dX9_saysNumber_26 rfl rfl ?_
      obtain ⟨t1, ht1, hk⟩ := ab_bnd hk
      refine ab_idiv_ (pc := 27) dX9_saysNumber_27 ht1 ?_
      refine ab_bipush (pc := 28) dX9_saysNumber_28 ab_p8_10 ab_k_10 ?_
      obtain ⟨t2, ht2, hk⟩ := ab_bnd hk
      refine ab_irem_ (pc := 30) dX9_saysNumber_30 ht2 ?_
      refine ab_iadd (pc := 31) dX9_saysNumber_31 ?_
      obtain ⟨q3, hq3, hk⟩ := ab_bnd hk
      obtain ⟨hb, hq3⟩ := ab_on_some hq3
      refine ab_callVV (st := []) (as := [ab_I (ab_w32 ((48 : Int) + t2))]) (b := v0) (pc := 32) dX9_saysNumber_32 ml_RX9_383 my_X9_says mv_X9_says hb (ct_X9_says hq3) ⟨Nat.le_of_ble_eq_true rfl, Nat.le_of_ble_eq_true rfl⟩ rfl (Nat.le_of_ble_eq_true rfl) rfl ?_
      refine ab_iload_n (pc := 35) (i := 2) dX9_saysNumber_35 rfl rfl ?_
      refine ab_bipush (pc := 36) dX9_saysNumber_36 ab_p8_10 ab_k_10 ?_
      obtain ⟨t4, ht4, hk⟩ := ab_bnd hk
      refine ab_idiv_ (pc := 38) dX9_saysNumber_38 ht4 ?_
      refine ab_istore_n (pc := 39) (i := 2) (lv2 := [some (ab_R v0), some (ab_I v1), some (ab_I t4)]) dX9_saysNumber_39 rfl (Nat.le_of_ble_eq_true rfl) rfl rfl ?_
      refine ab_goto (pc := 40) (tgt := 18) dX9_saysNumber_40 rfl ?_
      refine ab_sub_ (lv2 := [some (ab_R v0), some (ab_I v1), some (ab_I t4)]) (ab_ss (ab_ss (ab_ss ab_s0))) ?_
      exact ih _ _ _ _ _ hk
noncomputable def f_X9_saysNumber_L2 (k18 : Int → Int → Int → ab_H → Option ab_H) : Nat → Int → Int → Int → ab_H → Option ab_H
  | 0, _, _, _, _ => none
  | n + 1, v0, v1, v2, h =>
    (ab_dv v1 v2).bind fun t1 =>
    if t1 < (10 : Int) then
      k18 v0 v1 v2 h
    else
    f_X9_saysNumber_L2 k18 n v0 v1 (ab_w32 (v2 * (10 : Int))) h
set_option maxRecDepth 20000 in
theorem e_X9_saysNumber_L2 {k18 : Int → Int → Int → ab_H → Option ab_H} (hk18 : ∀ (v0 : Int) (v1 : Int) (v2 : Int) (h : ab_H) (q : ab_H), k18 v0 v1 v2 h = some q → ab_E mm_X9_saysNumber cX9_saysNumber 18 [some (ab_R v0), some (ab_I v1), some (ab_I v2)] [] h none q) : ∀ (n : Nat) (v0 : Int) (v1 : Int) (v2 : Int) (h : ab_H) (q : ab_H), f_X9_saysNumber_L2 k18 n v0 v1 v2 h = some q → ab_E mm_X9_saysNumber cX9_saysNumber 2 [some (ab_R v0), some (ab_I v1), some (ab_I v2)] [] h none q := by
  intro n
  induction n with
  | zero => intro v0 v1 v2 h q hk; cases hk
  | succ n ih =>
    intro v0 v1 v2 h q hk
    unfold f_X9_saysNumber_L2 at hk
    refine ab_iload_n (pc := 2) (i := 1) dX9_saysNumber_2 rfl rfl ?_
    refine ab_iload_n (pc := 3) (i := 2) dX9_saysNumber_3 rfl rfl ?_
    obtain ⟨t1, ht1, hk⟩ := ab_bnd hk
    refine ab_idiv_ (pc := 4) dX9_saysNumber_4 ht1 ?_
    refine ab_bipush (pc := 5) dX9_saysNumber_5 ab_p8_10 ab_k_10 ?_
    refine ab_icmp_lt (pc := 7) (tgt := 18) dX9_saysNumber_7 rfl (fun hc => ?_) (fun hc => ?_)
    · have hk := ab_ifp hk hc
      refine ab_sub_ (lv2 := [some (ab_R v0), some (ab_I v1), some (ab_I v2)]) (ab_ss (ab_ss (ab_ss ab_s0))) ?_
      exact hk18 _ _ _ _ _ hk
    · have hk := ab_ifn hk hc
      refine ab_iload_n (pc := 10) (i := 2) dX9_saysNumber_10 rfl rfl ?_
      refine ab_bipush (pc := 11) dX9_saysNumber_11 ab_p8_10 ab_k_10 ?_
      refine ab_imul (pc := 13) dX9_saysNumber_13 ?_
      refine ab_istore_n (pc := 14) (i := 2) (lv2 := [some (ab_R v0), some (ab_I v1), some (ab_I (ab_w32 (v2 * (10 : Int))))]) dX9_saysNumber_14 rfl (Nat.le_of_ble_eq_true rfl) rfl rfl ?_
      refine ab_goto (pc := 15) (tgt := 2) dX9_saysNumber_15 rfl ?_
      refine ab_sub_ (lv2 := [some (ab_R v0), some (ab_I v1), some (ab_I (ab_w32 (v2 * (10 : Int))))]) (ab_ss (ab_ss (ab_ss ab_s0))) ?_
      exact ih _ _ _ _ _ hk
noncomputable def f_X9_saysNumber (a0 : Int) (a1 : Int) (h : ab_H) : Option ab_H :=
  f_X9_saysNumber_L2 (fun w18_0 w18_1 w18_2 hx18 =>
    f_X9_saysNumber_L18 ab_FU w18_0 w18_1 w18_2 hx18) ab_FU a0 a1 (1 : Int) h
set_option maxRecDepth 20000 in
theorem ct_X9_saysNumber {a0 a1 : Int} {h : ab_H} {q : ab_H} (hk : f_X9_saysNumber a0 a1 h = some q) : ab_CT yX9_saysNumber cX9_saysNumber 3 none 1 21 [ab_R a0, ab_I a1] h none q := by
  refine ab_CT.mk_ 1 (own := RX9) (ini := false) (lv := [some (ab_R a0), some (ab_I a1), none]) rfl (by decide +kernel) (fun q => by cases q) rfl rfl ?_
  unfold f_X9_saysNumber at hk
  show ab_E mm_X9_saysNumber cX9_saysNumber 0 _ [] h _ _
  refine ab_iconst (pc := 0) dX9_saysNumber_0 ab_k_1 ?_
  refine ab_istore_n (pc := 1) (i := 2) (lv2 := [some (ab_R a0), some (ab_I a1), some (ab_I (1 : Int))]) dX9_saysNumber_1 rfl (Nat.le_of_ble_eq_true rfl) rfl rfl ?_
  refine ab_sub_ (lv2 := [some (ab_R a0), some (ab_I a1), some (ab_I (1 : Int))]) (ab_ss (ab_ss (ab_ss ab_s0))) ?_
  refine e_X9_saysNumber_L2 (fun w18_0 w18_1 w18_2 hx18 q hk => ?_) _ _ _ _ _ _ hk
  · skip
    refine ab_sub_ (lv2 := [some (ab_R w18_0), some (ab_I w18_1), some (ab_I w18_2)]) (ab_ss (ab_ss (ab_ss ab_s0))) ?_
    refine e_X9_saysNumber_L18 _ _ _ _ _ _ hk
theorem dX9_joinOf_0 : decode cX9_joinOf 0 = .ok (.aload_n 0, 1) := by decide +kernel
theorem dX9_joinOf_1 : decode cX9_joinOf 1 = .ok (.getfield 9, 3) := by decide +kernel
theorem dX9_joinOf_4 : decode cX9_joinOf 4 = .ok (.aload_n 0, 1) := by decide +kernel
theorem dX9_joinOf_5 : decode cX9_joinOf 5 = .ok (.getfield 9, 3) := by decide +kernel
theorem dX9_joinOf_8 : decode cX9_joinOf 8 = .ok (.iload_n 1, 1) := by decide +kernel
theorem dX9_joinOf_9 : decode cX9_joinOf 9 = .ok (.bipush 6, 2) := by decide +kernel
theorem dX9_joinOf_11 : decode cX9_joinOf 11 = .ok (.idiv, 1) := by decide +kernel
theorem dX9_joinOf_12 : decode cX9_joinOf 12 = .ok (.iload_n 1, 1) := by decide +kernel
theorem dX9_joinOf_13 : decode cX9_joinOf 13 = .ok (.bipush 6, 2) := by decide +kernel
theorem dX9_joinOf_15 : decode cX9_joinOf 15 = .ok (.irem, 1) := by decide +kernel
theorem dX9_joinOf_16 : decode cX9_joinOf 16 = .ok (.invokestatic 73, 3) := by decide +kernel
theorem dX9_joinOf_19 : decode cX9_joinOf 19 = .ok (.iload_n 2, 1) := by decide +kernel
theorem dX9_joinOf_20 : decode cX9_joinOf 20 = .ok (.iadd, 1) := by decide +kernel
theorem dX9_joinOf_21 : decode cX9_joinOf 21 = .ok (.laload, 1) := by decide +kernel
theorem dX9_joinOf_22 : decode cX9_joinOf 22 = .ok (.invokestatic 204, 3) := by decide +kernel
theorem dX9_joinOf_25 : decode cX9_joinOf 25 = .ok (.lreturn, 1) := by decide +kernel
abbrev mm_X9_joinOf : ab_M := (RX9, 3, (some .long), false, 1, 26, none)
noncomputable def f_X9_joinOf (a0 : Int) (a1 : Int) (a2 : Int) (h : ab_H) : Option (Int × ab_H) :=
  (ab_get h 10 1 a0).bind fun t1 =>
  (ab_get h 10 1 a0).bind fun t2 =>
  (ab_dv a1 (6 : Int)).bind fun t3 =>
  (ab_rm_ a1 (6 : Int)).bind fun t4 =>
  (f_X9_termAt t3 t4 h).bind fun q5 =>
  (ab_ald q5.2 12 t2 (ab_w32 (q5.1 + a2))).bind fun t6 =>
  (f_X9_usedOf t1 t6 q5.2).bind fun q7 =>
  some (q7.1, q7.2)
set_option maxRecDepth 20000 in
theorem ct_X9_joinOf {a0 a1 a2 : Int} {h : ab_H} {q : Int × ab_H} (hk : f_X9_joinOf a0 a1 a2 h = some q) : ab_CT yX9_joinOf cX9_joinOf 3 (some .long) 1 26 [ab_R a0, ab_I a1, ab_I a2] h (some (ab_J q.1)) q.2 := by
  refine ab_CT.mk_ 0 (own := RX9) (ini := false) (lv := [some (ab_R a0), some (ab_I a1), some (ab_I a2)]) rfl (by decide +kernel) (fun q => by cases q) rfl rfl ?_
  unfold f_X9_joinOf at hk
  show ab_E mm_X9_joinOf cX9_joinOf 0 _ [] h _ _
  refine ab_aload_n (pc := 0) (i := 0) dX9_joinOf_0 rfl rfl ?_
  obtain ⟨t1, ht1, hk⟩ := ab_bnd hk
  refine ab_getR (pc := 1) dX9_joinOf_1 fl_RX9_9 ht1 ?_
  refine ab_aload_n (pc := 4) (i := 0) dX9_joinOf_4 rfl rfl ?_
  obtain ⟨t2, ht2, hk⟩ := ab_bnd hk
  refine ab_getR (pc := 5) dX9_joinOf_5 fl_RX9_9 ht2 ?_
  refine ab_iload_n (pc := 8) (i := 1) dX9_joinOf_8 rfl rfl ?_
  refine ab_bipush (pc := 9) dX9_joinOf_9 ab_p8_6 ab_k_6 ?_
  obtain ⟨t3, ht3, hk⟩ := ab_bnd hk
  refine ab_idiv_ (pc := 11) dX9_joinOf_11 ht3 ?_
  refine ab_iload_n (pc := 12) (i := 1) dX9_joinOf_12 rfl rfl ?_
  refine ab_bipush (pc := 13) dX9_joinOf_13 ab_p8_6 ab_k_6 ?_
  obtain ⟨t4, ht4, hk⟩ := ab_bnd hk
  refine ab_irem_ (pc := 15) dX9_joinOf_15 ht4 ?_
  obtain ⟨q5, hq5, hk⟩ := ab_bnd hk
  refine ab_callSI (st := [ab_R t2, ab_R t1]) (as := [ab_I t3, ab_I t4]) (pc := 16) dX9_joinOf_16 ml_RX9_73 my_X9_termAt ms_X9_termAt (ct_X9_termAt hq5) ⟨Nat.le_of_ble_eq_true rfl, Nat.le_of_ble_eq_true rfl⟩ rfl (Nat.le_of_ble_eq_true rfl) rfl ?_
  refine ab_iload_n (pc := 19) (i := 2) dX9_joinOf_19 rfl rfl ?_
  refine ab_iadd (pc := 20) dX9_joinOf_20 ?_
  obtain ⟨t6, ht6, hk⟩ := ab_bnd hk
  refine ab_lald (pc := 21) dX9_joinOf_21 ht6 ?_
  obtain ⟨q7, hq7, hk⟩ := ab_bnd hk
  refine ab_callSJ (st := []) (as := [ab_R t1, ab_J t6]) (pc := 22) dX9_joinOf_22 ml_RX9_204 my_X9_usedOf ms_X9_usedOf (ct_X9_usedOf hq7) ⟨Nat.le_of_ble_eq_true rfl, Nat.le_of_ble_eq_true rfl⟩ rfl (Nat.le_of_ble_eq_true rfl) rfl ?_
  obtain rfl := Option.some.inj hk
  exact ab_retl (pc := 25) dX9_joinOf_25 rfl
theorem dX9_prints_0 : decode cX9_prints 0 = .ok (.aload_n 0, 1) := by decide +kernel
theorem dX9_prints_1 : decode cX9_prints 1 = .ok (.getfield 49, 3) := by decide +kernel
theorem dX9_prints_4 : decode cX9_prints 4 = .ok (.aload_n 0, 1) := by decide +kernel
theorem dX9_prints_5 : decode cX9_prints 5 = .ok (.iload_n 1, 1) := by decide +kernel
theorem dX9_prints_6 : decode cX9_prints 6 = .ok (.invokevirtual 362, 3) := by decide +kernel
theorem dX9_prints_9 : decode cX9_prints 9 = .ok (.iaload, 1) := by decide +kernel
theorem dX9_prints_10 : decode cX9_prints 10 = .ok (.istore_n 2, 1) := by decide +kernel
theorem dX9_prints_11 : decode cX9_prints 11 = .ok (.aload_n 0, 1) := by decide +kernel
theorem dX9_prints_12 : decode cX9_prints 12 = .ok (.iconst 0, 1) := by decide +kernel
theorem dX9_prints_13 : decode cX9_prints 13 = .ok (.putfield 380, 3) := by decide +kernel
theorem dX9_prints_16 : decode cX9_prints 16 = .ok (.aload_n 0, 1) := by decide +kernel
theorem dX9_prints_17 : decode cX9_prints 17 = .ok (.aload_n 0, 1) := by decide +kernel
theorem dX9_prints_18 : decode cX9_prints 18 = .ok (.getfield 24, 3) := by decide +kernel
theorem dX9_prints_21 : decode cX9_prints 21 = .ok (.aload_n 0, 1) := by decide +kernel
theorem dX9_prints_22 : decode cX9_prints 22 = .ok (.iload_n 2, 1) := by decide +kernel
theorem dX9_prints_23 : decode cX9_prints 23 = .ok (.invokevirtual 274, 3) := by decide +kernel
theorem dX9_prints_26 : decode cX9_prints 26 = .ok (.laload, 1) := by decide +kernel
theorem dX9_prints_27 : decode cX9_prints 27 = .ok (.invokevirtual 386, 3) := by decide +kernel
theorem dX9_prints_30 : decode cX9_prints 30 = .ok (.iconst 1, 1) := by decide +kernel
theorem dX9_prints_31 : decode cX9_prints 31 = .ok (.istore_n 3, 1) := by decide +kernel
theorem dX9_prints_32 : decode cX9_prints 32 = .ok (.iload_n 3, 1) := by decide +kernel
theorem dX9_prints_33 : decode cX9_prints 33 = .ok (.aload_n 0, 1) := by decide +kernel
theorem dX9_prints_34 : decode cX9_prints 34 = .ok (.getfield 46, 3) := by decide +kernel
theorem dX9_prints_37 : decode cX9_prints 37 = .ok (.bipush 12, 2) := by decide +kernel
theorem dX9_prints_39 : decode cX9_prints 39 = .ok (.iload_n 2, 1) := by decide +kernel
theorem dX9_prints_40 : decode cX9_prints 40 = .ok (.imul, 1) := by decide +kernel
theorem dX9_prints_41 : decode cX9_prints 41 = .ok (.iaload, 1) := by decide +kernel
theorem dX9_prints_42 : decode cX9_prints 42 = .ok (.if_icmp .gt 79, 3) := by decide +kernel
theorem dX9_prints_45 : decode cX9_prints 45 = .ok (.aload_n 0, 1) := by decide +kernel
theorem dX9_prints_46 : decode cX9_prints 46 = .ok (.getfield 46, 3) := by decide +kernel
theorem dX9_prints_49 : decode cX9_prints 49 = .ok (.bipush 12, 2) := by decide +kernel
theorem dX9_prints_51 : decode cX9_prints 51 = .ok (.iload_n 2, 1) := by decide +kernel
theorem dX9_prints_52 : decode cX9_prints 52 = .ok (.imul, 1) := by decide +kernel
theorem dX9_prints_53 : decode cX9_prints 53 = .ok (.iload_n 3, 1) := by decide +kernel
theorem dX9_prints_54 : decode cX9_prints 54 = .ok (.iadd, 1) := by decide +kernel
theorem dX9_prints_55 : decode cX9_prints 55 = .ok (.iaload, 1) := by decide +kernel
theorem dX9_prints_56 : decode cX9_prints 56 = .ok (.istore 4, 2) := by decide +kernel
theorem dX9_prints_58 : decode cX9_prints 58 = .ok (.aload_n 0, 1) := by decide +kernel
theorem dX9_prints_59 : decode cX9_prints 59 = .ok (.bipush 44, 2) := by decide +kernel
theorem dX9_prints_61 : decode cX9_prints 61 = .ok (.invokevirtual 383, 3) := by decide +kernel
theorem dX9_prints_64 : decode cX9_prints 64 = .ok (.aload_n 0, 1) := by decide +kernel
theorem dX9_prints_65 : decode cX9_prints 65 = .ok (.bipush 32, 2) := by decide +kernel
theorem dX9_prints_67 : decode cX9_prints 67 = .ok (.invokevirtual 383, 3) := by decide +kernel
theorem dX9_prints_70 : decode cX9_prints 70 = .ok (.aload_n 0, 1) := by decide +kernel
theorem dX9_prints_71 : decode cX9_prints 71 = .ok (.aload_n 0, 1) := by decide +kernel
theorem dX9_prints_72 : decode cX9_prints 72 = .ok (.getfield 24, 3) := by decide +kernel
theorem dX9_prints_75 : decode cX9_prints 75 = .ok (.aload_n 0, 1) := by decide +kernel
theorem dX9_prints_76 : decode cX9_prints 76 = .ok (.getfield 27, 3) := by decide +kernel
theorem dX9_prints_79 : decode cX9_prints 79 = .ok (.iload 4, 2) := by decide +kernel
theorem dX9_prints_81 : decode cX9_prints 81 = .ok (.iaload, 1) := by decide +kernel
theorem dX9_prints_82 : decode cX9_prints 82 = .ok (.laload, 1) := by decide +kernel
theorem dX9_prints_83 : decode cX9_prints 83 = .ok (.invokevirtual 386, 3) := by decide +kernel
theorem dX9_prints_86 : decode cX9_prints 86 = .ok (.aload_n 0, 1) := by decide +kernel
theorem dX9_prints_87 : decode cX9_prints 87 = .ok (.iload 4, 2) := by decide +kernel
theorem dX9_prints_89 : decode cX9_prints 89 = .ok (.iconst 4, 1) := by decide +kernel
theorem dX9_prints_90 : decode cX9_prints 90 = .ok (.invokevirtual 390, 3) := by decide +kernel
theorem dX9_prints_93 : decode cX9_prints 93 = .ok (.lconst 0, 1) := by decide +kernel
theorem dX9_prints_94 : decode cX9_prints 94 = .ok (.lcmp, 1) := by decide +kernel
theorem dX9_prints_95 : decode cX9_prints 95 = .ok (.ifCond .eq 9, 3) := by decide +kernel
theorem dX9_prints_98 : decode cX9_prints 98 = .ok (.aload_n 0, 1) := by decide +kernel
theorem dX9_prints_99 : decode cX9_prints 99 = .ok (.bipush 32, 2) := by decide +kernel
theorem dX9_prints_101 : decode cX9_prints 101 = .ok (.invokevirtual 383, 3) := by decide +kernel
theorem dX9_prints_104 : decode cX9_prints 104 = .ok (.aload_n 0, 1) := by decide +kernel
theorem dX9_prints_105 : decode cX9_prints 105 = .ok (.aload_n 0, 1) := by decide +kernel
theorem dX9_prints_106 : decode cX9_prints 106 = .ok (.iload 4, 2) := by decide +kernel
theorem dX9_prints_108 : decode cX9_prints 108 = .ok (.iconst 4, 1) := by decide +kernel
theorem dX9_prints_109 : decode cX9_prints 109 = .ok (.invokevirtual 390, 3) := by decide +kernel
theorem dX9_prints_112 : decode cX9_prints 112 = .ok (.invokevirtual 386, 3) := by decide +kernel
theorem dX9_prints_115 : decode cX9_prints 115 = .ok (.iinc 3 1, 3) := by decide +kernel
theorem dX9_prints_118 : decode cX9_prints 118 = .ok (.goto (-86), 3) := by decide +kernel
theorem dX9_prints_121 : decode cX9_prints 121 = .ok (.iconst 1, 1) := by decide +kernel
theorem dX9_prints_122 : decode cX9_prints 122 = .ok (.istore_n 3, 1) := by decide +kernel
theorem dX9_prints_123 : decode cX9_prints 123 = .ok (.iload_n 3, 1) := by decide +kernel
theorem dX9_prints_124 : decode cX9_prints 124 = .ok (.aload_n 0, 1) := by decide +kernel
theorem dX9_prints_125 : decode cX9_prints 125 = .ok (.getfield 46, 3) := by decide +kernel
theorem dX9_prints_128 : decode cX9_prints 128 = .ok (.bipush 12, 2) := by decide +kernel
theorem dX9_prints_130 : decode cX9_prints 130 = .ok (.iload_n 2, 1) := by decide +kernel
theorem dX9_prints_131 : decode cX9_prints 131 = .ok (.imul, 1) := by decide +kernel
theorem dX9_prints_132 : decode cX9_prints 132 = .ok (.bipush 6, 2) := by decide +kernel
theorem dX9_prints_134 : decode cX9_prints 134 = .ok (.iadd, 1) := by decide +kernel
theorem dX9_prints_135 : decode cX9_prints 135 = .ok (.iaload, 1) := by decide +kernel
theorem dX9_prints_136 : decode cX9_prints 136 = .ok (.if_icmp .gt 92, 3) := by decide +kernel
theorem dX9_prints_139 : decode cX9_prints 139 = .ok (.aload_n 0, 1) := by decide +kernel
theorem dX9_prints_140 : decode cX9_prints 140 = .ok (.getfield 46, 3) := by decide +kernel
theorem dX9_prints_143 : decode cX9_prints 143 = .ok (.bipush 12, 2) := by decide +kernel
theorem dX9_prints_145 : decode cX9_prints 145 = .ok (.iload_n 2, 1) := by decide +kernel
theorem dX9_prints_146 : decode cX9_prints 146 = .ok (.imul, 1) := by decide +kernel
theorem dX9_prints_147 : decode cX9_prints 147 = .ok (.bipush 6, 2) := by decide +kernel
theorem dX9_prints_149 : decode cX9_prints 149 = .ok (.iadd, 1) := by decide +kernel
theorem dX9_prints_150 : decode cX9_prints 150 = .ok (.iload_n 3, 1) := by decide +kernel
theorem dX9_prints_151 : decode cX9_prints 151 = .ok (.iadd, 1) := by decide +kernel
theorem dX9_prints_152 : decode cX9_prints 152 = .ok (.iaload, 1) := by decide +kernel
theorem dX9_prints_153 : decode cX9_prints 153 = .ok (.istore 4, 2) := by decide +kernel
theorem dX9_prints_155 : decode cX9_prints 155 = .ok (.aload_n 0, 1) := by decide +kernel
theorem dX9_prints_156 : decode cX9_prints 156 = .ok (.iload_n 3, 1) := by decide +kernel
theorem dX9_prints_157 : decode cX9_prints 157 = .ok (.iconst 1, 1) := by decide +kernel
theorem dX9_prints_158 : decode cX9_prints 158 = .ok (.if_icmp .ne 8, 3) := by decide +kernel
theorem dX9_prints_161 : decode cX9_prints 161 = .ok (.bipush 58, 2) := by decide +kernel
theorem dX9_prints_163 : decode cX9_prints 163 = .ok (.goto 5, 3) := by decide +kernel
theorem dX9_prints_166 : decode cX9_prints 166 = .ok (.bipush 46, 2) := by decide +kernel
theorem dX9_prints_168 : decode cX9_prints 168 = .ok (.invokevirtual 383, 3) := by decide +kernel
theorem dX9_prints_171 : decode cX9_prints 171 = .ok (.aload_n 0, 1) := by decide +kernel
theorem dX9_prints_172 : decode cX9_prints 172 = .ok (.bipush 32, 2) := by decide +kernel
theorem dX9_prints_174 : decode cX9_prints 174 = .ok (.invokevirtual 383, 3) := by decide +kernel
theorem dX9_prints_177 : decode cX9_prints 177 = .ok (.aload_n 0, 1) := by decide +kernel
theorem dX9_prints_178 : decode cX9_prints 178 = .ok (.aload_n 0, 1) := by decide +kernel
theorem dX9_prints_179 : decode cX9_prints 179 = .ok (.iload 4, 2) := by decide +kernel
theorem dX9_prints_181 : decode cX9_prints 181 = .ok (.iconst 3, 1) := by decide +kernel
theorem dX9_prints_182 : decode cX9_prints 182 = .ok (.invokevirtual 390, 3) := by decide +kernel
theorem dX9_prints_185 : decode cX9_prints 185 = .ok (.invokevirtual 386, 3) := by decide +kernel
theorem dX9_prints_188 : decode cX9_prints 188 = .ok (.aload_n 0, 1) := by decide +kernel
theorem dX9_prints_189 : decode cX9_prints 189 = .ok (.iload 4, 2) := by decide +kernel
theorem dX9_prints_191 : decode cX9_prints 191 = .ok (.iconst 3, 1) := by decide +kernel
theorem dX9_prints_192 : decode cX9_prints 192 = .ok (.invokevirtual 390, 3) := by decide +kernel
theorem dX9_prints_195 : decode cX9_prints 195 = .ok (.lconst 0, 1) := by decide +kernel
theorem dX9_prints_196 : decode cX9_prints 196 = .ok (.lcmp, 1) := by decide +kernel
theorem dX9_prints_197 : decode cX9_prints 197 = .ok (.ifCond .eq 9, 3) := by decide +kernel
theorem dX9_prints_200 : decode cX9_prints 200 = .ok (.aload_n 0, 1) := by decide +kernel
theorem dX9_prints_201 : decode cX9_prints 201 = .ok (.bipush 32, 2) := by decide +kernel
theorem dX9_prints_203 : decode cX9_prints 203 = .ok (.invokevirtual 383, 3) := by decide +kernel
theorem dX9_prints_206 : decode cX9_prints 206 = .ok (.aload_n 0, 1) := by decide +kernel
theorem dX9_prints_207 : decode cX9_prints 207 = .ok (.aload_n 0, 1) := by decide +kernel
theorem dX9_prints_208 : decode cX9_prints 208 = .ok (.getfield 24, 3) := by decide +kernel
theorem dX9_prints_211 : decode cX9_prints 211 = .ok (.aload_n 0, 1) := by decide +kernel
theorem dX9_prints_212 : decode cX9_prints 212 = .ok (.getfield 27, 3) := by decide +kernel
theorem dX9_prints_215 : decode cX9_prints 215 = .ok (.iload 4, 2) := by decide +kernel
theorem dX9_prints_217 : decode cX9_prints 217 = .ok (.iaload, 1) := by decide +kernel
theorem dX9_prints_218 : decode cX9_prints 218 = .ok (.laload, 1) := by decide +kernel
theorem dX9_prints_219 : decode cX9_prints 219 = .ok (.invokevirtual 386, 3) := by decide +kernel
theorem dX9_prints_222 : decode cX9_prints 222 = .ok (.iinc 3 1, 3) := by decide +kernel
theorem dX9_prints_225 : decode cX9_prints 225 = .ok (.goto (-102), 3) := by decide +kernel
theorem dX9_prints_228 : decode cX9_prints 228 = .ok (.bipush 32, 2) := by decide +kernel
theorem dX9_prints_230 : decode cX9_prints 230 = .ok (.istore_n 3, 1) := by decide +kernel
theorem dX9_prints_231 : decode cX9_prints 231 = .ok (.aload_n 0, 1) := by decide +kernel
theorem dX9_prints_232 : decode cX9_prints 232 = .ok (.iload_n 1, 1) := by decide +kernel
theorem dX9_prints_233 : decode cX9_prints 233 = .ok (.iconst (-1), 1) := by decide +kernel
theorem dX9_prints_234 : decode cX9_prints 234 = .ok (.invokevirtual 354, 3) := by decide +kernel
theorem dX9_prints_237 : decode cX9_prints 237 = .ok (.istore 4, 2) := by decide +kernel
theorem dX9_prints_239 : decode cX9_prints 239 = .ok (.iload 4, 2) := by decide +kernel
theorem dX9_prints_241 : decode cX9_prints 241 = .ok (.iconst (-1), 1) := by decide +kernel
theorem dX9_prints_242 : decode cX9_prints 242 = .ok (.if_icmp .eq 29, 3) := by decide +kernel
theorem dX9_prints_245 : decode cX9_prints 245 = .ok (.aload_n 0, 1) := by decide +kernel
theorem dX9_prints_246 : decode cX9_prints 246 = .ok (.iload_n 3, 1) := by decide +kernel
theorem dX9_prints_247 : decode cX9_prints 247 = .ok (.invokevirtual 383, 3) := by decide +kernel
theorem dX9_prints_250 : decode cX9_prints 250 = .ok (.aload_n 0, 1) := by decide +kernel
theorem dX9_prints_251 : decode cX9_prints 251 = .ok (.iload 4, 2) := by decide +kernel
theorem dX9_prints_253 : decode cX9_prints 253 = .ok (.invokevirtual 393, 3) := by decide +kernel
theorem dX9_prints_256 : decode cX9_prints 256 = .ok (.bipush 44, 2) := by decide +kernel
theorem dX9_prints_258 : decode cX9_prints 258 = .ok (.istore_n 3, 1) := by decide +kernel
theorem dX9_prints_259 : decode cX9_prints 259 = .ok (.aload_n 0, 1) := by decide +kernel
theorem dX9_prints_260 : decode cX9_prints 260 = .ok (.iload_n 1, 1) := by decide +kernel
theorem dX9_prints_261 : decode cX9_prints 261 = .ok (.iload 4, 2) := by decide +kernel
theorem dX9_prints_263 : decode cX9_prints 263 = .ok (.invokevirtual 354, 3) := by decide +kernel
theorem dX9_prints_266 : decode cX9_prints 266 = .ok (.istore 4, 2) := by decide +kernel
theorem dX9_prints_268 : decode cX9_prints 268 = .ok (.goto (-29), 3) := by decide +kernel
theorem dX9_prints_271 : decode cX9_prints 271 = .ok (.return_, 1) := by decide +kernel
abbrev mm_X9_prints : ab_M := (RX9, 5, none, false, 2, 48, none)
noncomputable def f_X9_prints_L239 : Nat → Int → Int → Int → Int → ab_H → Option ab_H
  | 0, _, _, _, _, _ => none
  | n + 1, v0, v1, v3, v4, h =>
    if v4 = (-1 : Int) then
      some h
    else
    (ab_on h 10 v0 (f_X9_says v0 v3 h)).bind fun q1 =>
    (ab_on q1 10 v0 (f_X9_saysNumber v0 v4 q1)).bind fun q2 =>
    (ab_on q2 10 v0 (f_X9_addressAbove v0 v1 v4 q2)).bind fun q3 =>
    f_X9_prints_L239 n v0 v1 (44 : Int) q3.1 q3.2
set_option maxRecDepth 20000 in
theorem e_X9_prints_L239 : ∀ (n : Nat) (v0 : Int) (v1 : Int) (v3 : Int) (v4 : Int) (h : ab_H) (q : ab_H), f_X9_prints_L239 n v0 v1 v3 v4 h = some q → ab_E mm_X9_prints cX9_prints 239 [some (ab_R v0), some (ab_I v1), none, some (ab_I v3), some (ab_I v4)] [] h none q := by
  intro n
  induction n with
  | zero => intro v0 v1 v3 v4 h q hk; cases hk
  | succ n ih =>
    intro v0 v1 v3 v4 h q hk
    unfold f_X9_prints_L239 at hk
    refine ab_iload (pc := 239) (i := 4) dX9_prints_239 rfl ?_
    refine ab_iconst (pc := 241) dX9_prints_241 ab_k_m1 ?_
    refine ab_icmp_eq (pc := 242) (tgt := 271) dX9_prints_242 rfl (fun hc => ?_) (fun hc => ?_)
    · have hk := ab_ifp hk hc
      obtain rfl := Option.some.inj hk
      exact ab_retv (pc := 271) dX9_prints_271 rfl
    · have hk := ab_ifn hk hc
      refine ab_aload_n (pc := 245) (i := 0) dX9_prints_245 rfl rfl ?_
      refine ab_iload_n (pc := 246) (i := 3) dX9_prints_246 rfl rfl ?_
      obtain ⟨q1, hq1, hk⟩ := ab_bnd hk
      obtain ⟨hb, hq1⟩ := ab_on_some hq1
      refine ab_callVV (st := []) (as := [ab_I v3]) (b := v0) (pc := 247) dX9_prints_247 ml_RX9_383 my_X9_says mv_X9_says hb (ct_X9_says hq1) ⟨Nat.le_of_ble_eq_true rfl, Nat.le_of_ble_eq_true rfl⟩ rfl (Nat.le_of_ble_eq_true rfl) rfl ?_
      refine ab_aload_n (pc := 250) (i := 0) dX9_prints_250 rfl rfl ?_
      refine ab_iload (pc := 251) (i := 4) dX9_prints_251 rfl ?_
      obtain ⟨q2, hq2, hk⟩ := ab_bnd hk
      obtain ⟨hb, hq2⟩ := ab_on_some hq2
      refine ab_callVV (st := []) (as := [ab_I v4]) (b := v0) (pc := 253) dX9_prints_253 ml_RX9_393 my_X9_saysNumber mv_X9_saysNumber hb (ct_X9_saysNumber hq2) ⟨Nat.le_of_ble_eq_true rfl, Nat.le_of_ble_eq_true rfl⟩ rfl (Nat.le_of_ble_eq_true rfl) rfl ?_
      refine ab_bipush (pc := 256) dX9_prints_256 ab_p8_44 ab_k_44 ?_
      refine ab_istore_n (pc := 258) (i := 3) (lv2 := [some (ab_R v0), some (ab_I v1), none, some (ab_I (44 : Int)), some (ab_I v4)]) dX9_prints_258 rfl (Nat.le_of_ble_eq_true rfl) rfl rfl ?_
      refine ab_aload_n (pc := 259) (i := 0) dX9_prints_259 rfl rfl ?_
      refine ab_iload_n (pc := 260) (i := 1) dX9_prints_260 rfl rfl ?_
      refine ab_iload (pc := 261) (i := 4) dX9_prints_261 rfl ?_
      obtain ⟨q3, hq3, hk⟩ := ab_bnd hk
      obtain ⟨hb, hq3⟩ := ab_on_some hq3
      refine ab_callVI (st := []) (as := [ab_I v1, ab_I v4]) (b := v0) (pc := 263) dX9_prints_263 ml_RX9_354 my_X9_addressAbove mv_X9_addressAbove hb (ct_X9_addressAbove hq3) ⟨Nat.le_of_ble_eq_true rfl, Nat.le_of_ble_eq_true rfl⟩ rfl (Nat.le_of_ble_eq_true rfl) rfl ?_
      refine ab_istore (pc := 266) (i := 4) (lv2 := [some (ab_R v0), some (ab_I v1), none, some (ab_I (44 : Int)), some (ab_I q3.1)]) dX9_prints_266 (Nat.le_of_ble_eq_true rfl) rfl rfl ?_
      refine ab_goto (pc := 268) (tgt := 239) dX9_prints_268 rfl ?_
      refine ab_sub_ (lv2 := [some (ab_R v0), some (ab_I v1), none, some (ab_I (44 : Int)), some (ab_I q3.1)]) (ab_ss (ab_ss (ab_sn (ab_ss (ab_ss ab_s0))))) ?_
      exact ih _ _ _ _ _ _ hk
noncomputable def f_X9_prints_J206 (rec : Int → Int → Int → Int → ab_H → Option ab_H) (k228 : Int → Int → ab_H → Option ab_H) (v0 : Int) (v1 : Int) (v2 : Int) (v3 : Int) (v4 : Int) (h : ab_H) : Option ab_H :=
  (ab_get h 10 13 v0).bind fun t1 =>
  (ab_get h 10 15 v0).bind fun t2 =>
  (ab_ald h 11 t2 v4).bind fun t3 =>
  (ab_ald h 12 t1 t3).bind fun t4 =>
  (ab_on h 10 v0 (f_X9_saysWord v0 t4 h)).bind fun q5 =>
  rec v0 v1 v2 (ab_w32 (v3 + (1 : Int))) q5
set_option maxRecDepth 20000 in
theorem e_X9_prints_J206 {rec : Int → Int → Int → Int → ab_H → Option ab_H} {k228 : Int → Int → ab_H → Option ab_H} (hrec : ∀ (v0 : Int) (v1 : Int) (v2 : Int) (v3 : Int) (h : ab_H) (q : ab_H), rec v0 v1 v2 v3 h = some q → ab_E mm_X9_prints cX9_prints 123 [some (ab_R v0), some (ab_I v1), some (ab_I v2), some (ab_I v3), none] [] h none q) (hk228 : ∀ (v0 : Int) (v1 : Int) (h : ab_H) (q : ab_H), k228 v0 v1 h = some q → ab_E mm_X9_prints cX9_prints 228 [some (ab_R v0), some (ab_I v1), none, none, none] [] h none q) : ∀ (v0 : Int) (v1 : Int) (v2 : Int) (v3 : Int) (v4 : Int) (h : ab_H) (q : ab_H), f_X9_prints_J206 rec k228 v0 v1 v2 v3 v4 h = some q → ab_E mm_X9_prints cX9_prints 206 [some (ab_R v0), some (ab_I v1), some (ab_I v2), some (ab_I v3), some (ab_I v4)] [] h none q := by
  intro v0 v1 v2 v3 v4 h q hk
  unfold f_X9_prints_J206 at hk
  refine ab_aload_n (pc := 206) (i := 0) dX9_prints_206 rfl rfl ?_
  refine ab_aload_n (pc := 207) (i := 0) dX9_prints_207 rfl rfl ?_
  obtain ⟨t1, ht1, hk⟩ := ab_bnd hk
  refine ab_getR (pc := 208) dX9_prints_208 fl_RX9_24 ht1 ?_
  refine ab_aload_n (pc := 211) (i := 0) dX9_prints_211 rfl rfl ?_
  obtain ⟨t2, ht2, hk⟩ := ab_bnd hk
  refine ab_getR (pc := 212) dX9_prints_212 fl_RX9_27 ht2 ?_
  refine ab_iload (pc := 215) (i := 4) dX9_prints_215 rfl ?_
  obtain ⟨t3, ht3, hk⟩ := ab_bnd hk
  refine ab_iald (pc := 217) dX9_prints_217 ht3 ?_
  obtain ⟨t4, ht4, hk⟩ := ab_bnd hk
  refine ab_lald (pc := 218) dX9_prints_218 ht4 ?_
  obtain ⟨q5, hq5, hk⟩ := ab_bnd hk
  obtain ⟨hb, hq5⟩ := ab_on_some hq5
  refine ab_callVV (st := []) (as := [ab_J t4]) (b := v0) (pc := 219) dX9_prints_219 ml_RX9_386 my_X9_saysWord mv_X9_saysWord hb (ct_X9_saysWord hq5) ⟨Nat.le_of_ble_eq_true rfl, Nat.le_of_ble_eq_true rfl⟩ rfl (Nat.le_of_ble_eq_true rfl) rfl ?_
  refine ab_iinc (pc := 222) (i := 3) (lv2 := [some (ab_R v0), some (ab_I v1), some (ab_I v2), some (ab_I (ab_w32 (v3 + (1 : Int)))), some (ab_I v4)]) dX9_prints_222 rfl (Nat.le_of_ble_eq_true rfl) rfl rfl ?_
  refine ab_goto (pc := 225) (tgt := 123) dX9_prints_225 rfl ?_
  refine ab_sub_ (lv2 := [some (ab_R v0), some (ab_I v1), some (ab_I v2), some (ab_I (ab_w32 (v3 + (1 : Int)))), none]) (ab_ss (ab_ss (ab_ss (ab_ss (ab_sn ab_s0))))) ?_
  exact hrec _ _ _ _ _ _ hk
noncomputable def f_X9_prints_J168 (rec : Int → Int → Int → Int → ab_H → Option ab_H) (k228 : Int → Int → ab_H → Option ab_H) (v0 : Int) (v1 : Int) (v2 : Int) (v3 : Int) (v4 : Int) (s1 : Int) (s0 : Int) (h : ab_H) : Option ab_H :=
  (ab_on h 10 s0 (f_X9_says s0 s1 h)).bind fun q1 =>
  (ab_on q1 10 v0 (f_X9_says v0 (32 : Int) q1)).bind fun q2 =>
  (ab_on q2 10 v0 (f_X9_joinOf v0 v4 (3 : Int) q2)).bind fun q3 =>
  (ab_on q3.2 10 v0 (f_X9_saysWord v0 q3.1 q3.2)).bind fun q4 =>
  (ab_on q4 10 v0 (f_X9_joinOf v0 v4 (3 : Int) q4)).bind fun q5 =>
  if ab_cmp q5.1 (0 : Int) = (0 : Int) then
    f_X9_prints_J206 rec k228 v0 v1 v2 v3 v4 q5.2
  else
  (ab_on q5.2 10 v0 (f_X9_says v0 (32 : Int) q5.2)).bind fun q6 =>
  f_X9_prints_J206 rec k228 v0 v1 v2 v3 v4 q6
set_option maxRecDepth 20000 in
theorem e_X9_prints_J168 {rec : Int → Int → Int → Int → ab_H → Option ab_H} {k228 : Int → Int → ab_H → Option ab_H} (hrec : ∀ (v0 : Int) (v1 : Int) (v2 : Int) (v3 : Int) (h : ab_H) (q : ab_H), rec v0 v1 v2 v3 h = some q → ab_E mm_X9_prints cX9_prints 123 [some (ab_R v0), some (ab_I v1), some (ab_I v2), some (ab_I v3), none] [] h none q) (hk228 : ∀ (v0 : Int) (v1 : Int) (h : ab_H) (q : ab_H), k228 v0 v1 h = some q → ab_E mm_X9_prints cX9_prints 228 [some (ab_R v0), some (ab_I v1), none, none, none] [] h none q) : ∀ (v0 : Int) (v1 : Int) (v2 : Int) (v3 : Int) (v4 : Int) (s1 : Int) (s0 : Int) (h : ab_H) (q : ab_H), f_X9_prints_J168 rec k228 v0 v1 v2 v3 v4 s1 s0 h = some q → ab_E mm_X9_prints cX9_prints 168 [some (ab_R v0), some (ab_I v1), some (ab_I v2), some (ab_I v3), some (ab_I v4)] [ab_I s1, ab_R s0] h none q := by
  intro v0 v1 v2 v3 v4 s1 s0 h q hk
  unfold f_X9_prints_J168 at hk
  obtain ⟨q1, hq1, hk⟩ := ab_bnd hk
  obtain ⟨hb, hq1⟩ := ab_on_some hq1
  refine ab_callVV (st := []) (as := [ab_I s1]) (b := s0) (pc := 168) dX9_prints_168 ml_RX9_383 my_X9_says mv_X9_says hb (ct_X9_says hq1) ⟨Nat.le_of_ble_eq_true rfl, Nat.le_of_ble_eq_true rfl⟩ rfl (Nat.le_of_ble_eq_true rfl) rfl ?_
  refine ab_aload_n (pc := 171) (i := 0) dX9_prints_171 rfl rfl ?_
  refine ab_bipush (pc := 172) dX9_prints_172 ab_p8_32 ab_k_32 ?_
  obtain ⟨q2, hq2, hk⟩ := ab_bnd hk
  obtain ⟨hb, hq2⟩ := ab_on_some hq2
  refine ab_callVV (st := []) (as := [ab_I (32 : Int)]) (b := v0) (pc := 174) dX9_prints_174 ml_RX9_383 my_X9_says mv_X9_says hb (ct_X9_says hq2) ⟨Nat.le_of_ble_eq_true rfl, Nat.le_of_ble_eq_true rfl⟩ rfl (Nat.le_of_ble_eq_true rfl) rfl ?_
  refine ab_aload_n (pc := 177) (i := 0) dX9_prints_177 rfl rfl ?_
  refine ab_aload_n (pc := 178) (i := 0) dX9_prints_178 rfl rfl ?_
  refine ab_iload (pc := 179) (i := 4) dX9_prints_179 rfl ?_
  refine ab_iconst (pc := 181) dX9_prints_181 ab_k_3 ?_
  obtain ⟨q3, hq3, hk⟩ := ab_bnd hk
  obtain ⟨hb, hq3⟩ := ab_on_some hq3
  refine ab_callVJ (st := [ab_R v0]) (as := [ab_I v4, ab_I (3 : Int)]) (b := v0) (pc := 182) dX9_prints_182 ml_RX9_390 my_X9_joinOf mv_X9_joinOf hb (ct_X9_joinOf hq3) ⟨Nat.le_of_ble_eq_true rfl, Nat.le_of_ble_eq_true rfl⟩ rfl (Nat.le_of_ble_eq_true rfl) rfl ?_
  obtain ⟨q4, hq4, hk⟩ := ab_bnd hk
  obtain ⟨hb, hq4⟩ := ab_on_some hq4
  refine ab_callVV (st := []) (as := [ab_J q3.1]) (b := v0) (pc := 185) dX9_prints_185 ml_RX9_386 my_X9_saysWord mv_X9_saysWord hb (ct_X9_saysWord hq4) ⟨Nat.le_of_ble_eq_true rfl, Nat.le_of_ble_eq_true rfl⟩ rfl (Nat.le_of_ble_eq_true rfl) rfl ?_
  refine ab_aload_n (pc := 188) (i := 0) dX9_prints_188 rfl rfl ?_
  refine ab_iload (pc := 189) (i := 4) dX9_prints_189 rfl ?_
  refine ab_iconst (pc := 191) dX9_prints_191 ab_k_3 ?_
  obtain ⟨q5, hq5, hk⟩ := ab_bnd hk
  obtain ⟨hb, hq5⟩ := ab_on_some hq5
  refine ab_callVJ (st := []) (as := [ab_I v4, ab_I (3 : Int)]) (b := v0) (pc := 192) dX9_prints_192 ml_RX9_390 my_X9_joinOf mv_X9_joinOf hb (ct_X9_joinOf hq5) ⟨Nat.le_of_ble_eq_true rfl, Nat.le_of_ble_eq_true rfl⟩ rfl (Nat.le_of_ble_eq_true rfl) rfl ?_
  refine ab_lconst (x := (0 : Int)) (pc := 195) dX9_prints_195 rfl ab_kl_0 ?_
  refine ab_lcmp_ (pc := 196) dX9_prints_196 ?_
  refine ab_if_eq (pc := 197) (tgt := 206) dX9_prints_197 rfl (fun hc => ?_) (fun hc => ?_)
  · have hk := ab_ifp hk hc
    refine ab_sub_ (lv2 := [some (ab_R v0), some (ab_I v1), some (ab_I v2), some (ab_I v3), some (ab_I v4)]) (ab_ss (ab_ss (ab_ss (ab_ss (ab_ss ab_s0))))) ?_
    exact e_X9_prints_J206 hrec hk228 _ _ _ _ _ _ _ hk
  · have hk := ab_ifn hk hc
    refine ab_aload_n (pc := 200) (i := 0) dX9_prints_200 rfl rfl ?_
    refine ab_bipush (pc := 201) dX9_prints_201 ab_p8_32 ab_k_32 ?_
    obtain ⟨q6, hq6, hk⟩ := ab_bnd hk
    obtain ⟨hb, hq6⟩ := ab_on_some hq6
    refine ab_callVV (st := []) (as := [ab_I (32 : Int)]) (b := v0) (pc := 203) dX9_prints_203 ml_RX9_383 my_X9_says mv_X9_says hb (ct_X9_says hq6) ⟨Nat.le_of_ble_eq_true rfl, Nat.le_of_ble_eq_true rfl⟩ rfl (Nat.le_of_ble_eq_true rfl) rfl ?_
    refine ab_sub_ (lv2 := [some (ab_R v0), some (ab_I v1), some (ab_I v2), some (ab_I v3), some (ab_I v4)]) (ab_ss (ab_ss (ab_ss (ab_ss (ab_ss ab_s0))))) ?_
    exact e_X9_prints_J206 hrec hk228 _ _ _ _ _ _ _ hk
noncomputable def f_X9_prints_L123 (k228 : Int → Int → ab_H → Option ab_H) : Nat → Int → Int → Int → Int → ab_H → Option ab_H
  | 0, _, _, _, _, _ => none
  | n + 1, v0, v1, v2, v3, h =>
    (ab_get h 10 24 v0).bind fun t1 =>
    (ab_ald h 11 t1 (ab_w32 ((ab_w32 ((12 : Int) * v2)) + (6 : Int)))).bind fun t2 =>
    if t2 < v3 then
      k228 v0 v1 h
    else
    (ab_get h 10 24 v0).bind fun t3 =>
    (ab_ald h 11 t3 (ab_w32 ((ab_w32 ((ab_w32 ((12 : Int) * v2)) + (6 : Int))) + v3))).bind fun t4 =>
    if v3 = (1 : Int) then
      f_X9_prints_J168 (f_X9_prints_L123 k228 n) k228 v0 v1 v2 v3 t4 (58 : Int) v0 h
    else
    f_X9_prints_J168 (f_X9_prints_L123 k228 n) k228 v0 v1 v2 v3 t4 (46 : Int) v0 h
set_option maxRecDepth 20000 in
theorem e_X9_prints_L123 {k228 : Int → Int → ab_H → Option ab_H} (hk228 : ∀ (v0 : Int) (v1 : Int) (h : ab_H) (q : ab_H), k228 v0 v1 h = some q → ab_E mm_X9_prints cX9_prints 228 [some (ab_R v0), some (ab_I v1), none, none, none] [] h none q) : ∀ (n : Nat) (v0 : Int) (v1 : Int) (v2 : Int) (v3 : Int) (h : ab_H) (q : ab_H), f_X9_prints_L123 k228 n v0 v1 v2 v3 h = some q → ab_E mm_X9_prints cX9_prints 123 [some (ab_R v0), some (ab_I v1), some (ab_I v2), some (ab_I v3), none] [] h none q := by
  intro n
  induction n with
  | zero => intro v0 v1 v2 v3 h q hk; cases hk
  | succ n ih =>
    intro v0 v1 v2 v3 h q hk
    unfold f_X9_prints_L123 at hk
    refine ab_iload_n (pc := 123) (i := 3) dX9_prints_123 rfl rfl ?_
    refine ab_aload_n (pc := 124) (i := 0) dX9_prints_124 rfl rfl ?_
    obtain ⟨t1, ht1, hk⟩ := ab_bnd hk
    refine ab_getR (pc := 125) dX9_prints_125 fl_RX9_46 ht1 ?_
    refine ab_bipush (pc := 128) dX9_prints_128 ab_p8_12 ab_k_12 ?_
    refine ab_iload_n (pc := 130) (i := 2) dX9_prints_130 rfl rfl ?_
    refine ab_imul (pc := 131) dX9_prints_131 ?_
    refine ab_bipush (pc := 132) dX9_prints_132 ab_p8_6 ab_k_6 ?_
    refine ab_iadd (pc := 134) dX9_prints_134 ?_
    obtain ⟨t2, ht2, hk⟩ := ab_bnd hk
    refine ab_iald (pc := 135) dX9_prints_135 ht2 ?_
    refine ab_icmp_gt (pc := 136) (tgt := 228) dX9_prints_136 rfl (fun hc => ?_) (fun hc => ?_)
    · have hk := ab_ifp hk hc
      refine ab_sub_ (lv2 := [some (ab_R v0), some (ab_I v1), none, none, none]) (ab_ss (ab_ss (ab_sn (ab_sn (ab_sn ab_s0))))) ?_
      exact hk228 _ _ _ _ hk
    · have hk := ab_ifn hk hc
      refine ab_aload_n (pc := 139) (i := 0) dX9_prints_139 rfl rfl ?_
      obtain ⟨t3, ht3, hk⟩ := ab_bnd hk
      refine ab_getR (pc := 140) dX9_prints_140 fl_RX9_46 ht3 ?_
      refine ab_bipush (pc := 143) dX9_prints_143 ab_p8_12 ab_k_12 ?_
      refine ab_iload_n (pc := 145) (i := 2) dX9_prints_145 rfl rfl ?_
      refine ab_imul (pc := 146) dX9_prints_146 ?_
      refine ab_bipush (pc := 147) dX9_prints_147 ab_p8_6 ab_k_6 ?_
      refine ab_iadd (pc := 149) dX9_prints_149 ?_
      refine ab_iload_n (pc := 150) (i := 3) dX9_prints_150 rfl rfl ?_
      refine ab_iadd (pc := 151) dX9_prints_151 ?_
      obtain ⟨t4, ht4, hk⟩ := ab_bnd hk
      refine ab_iald (pc := 152) dX9_prints_152 ht4 ?_
      refine ab_istore (pc := 153) (i := 4) (lv2 := [some (ab_R v0), some (ab_I v1), some (ab_I v2), some (ab_I v3), some (ab_I t4)]) dX9_prints_153 (Nat.le_of_ble_eq_true rfl) rfl rfl ?_
      refine ab_aload_n (pc := 155) (i := 0) dX9_prints_155 rfl rfl ?_
      refine ab_iload_n (pc := 156) (i := 3) dX9_prints_156 rfl rfl ?_
      refine ab_iconst (pc := 157) dX9_prints_157 ab_k_1 ?_
      refine ab_icmp_ne (pc := 158) (tgt := 166) dX9_prints_158 rfl (fun hc => ?_) (fun hc => ?_)
      · have hk := ab_ifn hk hc
        refine ab_bipush (pc := 166) dX9_prints_166 ab_p8_46 ab_k_46 ?_
        refine ab_sub_ (lv2 := [some (ab_R v0), some (ab_I v1), some (ab_I v2), some (ab_I v3), some (ab_I t4)]) (ab_ss (ab_ss (ab_ss (ab_ss (ab_ss ab_s0))))) ?_
        exact e_X9_prints_J168 ih hk228 _ _ _ _ _ _ _ _ _ hk
      · have hk := ab_ifp hk hc
        refine ab_bipush (pc := 161) dX9_prints_161 ab_p8_58 ab_k_58 ?_
        refine ab_goto (pc := 163) (tgt := 168) dX9_prints_163 rfl ?_
        refine ab_sub_ (lv2 := [some (ab_R v0), some (ab_I v1), some (ab_I v2), some (ab_I v3), some (ab_I t4)]) (ab_ss (ab_ss (ab_ss (ab_ss (ab_ss ab_s0))))) ?_
        exact e_X9_prints_J168 ih hk228 _ _ _ _ _ _ _ _ _ hk
noncomputable def f_X9_prints_J104 (rec : Int → Int → Int → Int → ab_H → Option ab_H) (k121 : Int → Int → Int → ab_H → Option ab_H) (v0 : Int) (v1 : Int) (v2 : Int) (v3 : Int) (v4 : Int) (h : ab_H) : Option ab_H :=
  (ab_on h 10 v0 (f_X9_joinOf v0 v4 (4 : Int) h)).bind fun q1 =>
  (ab_on q1.2 10 v0 (f_X9_saysWord v0 q1.1 q1.2)).bind fun q2 =>
  rec v0 v1 v2 (ab_w32 (v3 + (1 : Int))) q2
set_option maxRecDepth 20000 in
theorem e_X9_prints_J104 {rec : Int → Int → Int → Int → ab_H → Option ab_H} {k121 : Int → Int → Int → ab_H → Option ab_H} (hrec : ∀ (v0 : Int) (v1 : Int) (v2 : Int) (v3 : Int) (h : ab_H) (q : ab_H), rec v0 v1 v2 v3 h = some q → ab_E mm_X9_prints cX9_prints 32 [some (ab_R v0), some (ab_I v1), some (ab_I v2), some (ab_I v3), none] [] h none q) (hk121 : ∀ (v0 : Int) (v1 : Int) (v2 : Int) (h : ab_H) (q : ab_H), k121 v0 v1 v2 h = some q → ab_E mm_X9_prints cX9_prints 121 [some (ab_R v0), some (ab_I v1), some (ab_I v2), none, none] [] h none q) : ∀ (v0 : Int) (v1 : Int) (v2 : Int) (v3 : Int) (v4 : Int) (h : ab_H) (q : ab_H), f_X9_prints_J104 rec k121 v0 v1 v2 v3 v4 h = some q → ab_E mm_X9_prints cX9_prints 104 [some (ab_R v0), some (ab_I v1), some (ab_I v2), some (ab_I v3), some (ab_I v4)] [] h none q := by
  intro v0 v1 v2 v3 v4 h q hk
  unfold f_X9_prints_J104 at hk
  refine ab_aload_n (pc := 104) (i := 0) dX9_prints_104 rfl rfl ?_
  refine ab_aload_n (pc := 105) (i := 0) dX9_prints_105 rfl rfl ?_
  refine ab_iload (pc := 106) (i := 4) dX9_prints_106 rfl ?_
  refine ab_iconst (pc := 108) dX9_prints_108 ab_k_4 ?_
  obtain ⟨q1, hq1, hk⟩ := ab_bnd hk
  obtain ⟨hb, hq1⟩ := ab_on_some hq1
  refine ab_callVJ (st := [ab_R v0]) (as := [ab_I v4, ab_I (4 : Int)]) (b := v0) (pc := 109) dX9_prints_109 ml_RX9_390 my_X9_joinOf mv_X9_joinOf hb (ct_X9_joinOf hq1) ⟨Nat.le_of_ble_eq_true rfl, Nat.le_of_ble_eq_true rfl⟩ rfl (Nat.le_of_ble_eq_true rfl) rfl ?_
  obtain ⟨q2, hq2, hk⟩ := ab_bnd hk
  obtain ⟨hb, hq2⟩ := ab_on_some hq2
  refine ab_callVV (st := []) (as := [ab_J q1.1]) (b := v0) (pc := 112) dX9_prints_112 ml_RX9_386 my_X9_saysWord mv_X9_saysWord hb (ct_X9_saysWord hq2) ⟨Nat.le_of_ble_eq_true rfl, Nat.le_of_ble_eq_true rfl⟩ rfl (Nat.le_of_ble_eq_true rfl) rfl ?_
  refine ab_iinc (pc := 115) (i := 3) (lv2 := [some (ab_R v0), some (ab_I v1), some (ab_I v2), some (ab_I (ab_w32 (v3 + (1 : Int)))), some (ab_I v4)]) dX9_prints_115 rfl (Nat.le_of_ble_eq_true rfl) rfl rfl ?_
  refine ab_goto (pc := 118) (tgt := 32) dX9_prints_118 rfl ?_
  refine ab_sub_ (lv2 := [some (ab_R v0), some (ab_I v1), some (ab_I v2), some (ab_I (ab_w32 (v3 + (1 : Int)))), none]) (ab_ss (ab_ss (ab_ss (ab_ss (ab_sn ab_s0))))) ?_
  exact hrec _ _ _ _ _ _ hk
noncomputable def f_X9_prints_L32 (k121 : Int → Int → Int → ab_H → Option ab_H) : Nat → Int → Int → Int → Int → ab_H → Option ab_H
  | 0, _, _, _, _, _ => none
  | n + 1, v0, v1, v2, v3, h =>
    (ab_get h 10 24 v0).bind fun t1 =>
    (ab_ald h 11 t1 (ab_w32 ((12 : Int) * v2))).bind fun t2 =>
    if t2 < v3 then
      k121 v0 v1 v2 h
    else
    (ab_get h 10 24 v0).bind fun t3 =>
    (ab_ald h 11 t3 (ab_w32 ((ab_w32 ((12 : Int) * v2)) + v3))).bind fun t4 =>
    (ab_on h 10 v0 (f_X9_says v0 (44 : Int) h)).bind fun q5 =>
    (ab_on q5 10 v0 (f_X9_says v0 (32 : Int) q5)).bind fun q6 =>
    (ab_get q6 10 13 v0).bind fun t7 =>
    (ab_get q6 10 15 v0).bind fun t8 =>
    (ab_ald q6 11 t8 t4).bind fun t9 =>
    (ab_ald q6 12 t7 t9).bind fun t10 =>
    (ab_on q6 10 v0 (f_X9_saysWord v0 t10 q6)).bind fun q11 =>
    (ab_on q11 10 v0 (f_X9_joinOf v0 t4 (4 : Int) q11)).bind fun q12 =>
    if ab_cmp q12.1 (0 : Int) = (0 : Int) then
      f_X9_prints_J104 (f_X9_prints_L32 k121 n) k121 v0 v1 v2 v3 t4 q12.2
    else
    (ab_on q12.2 10 v0 (f_X9_says v0 (32 : Int) q12.2)).bind fun q13 =>
    f_X9_prints_J104 (f_X9_prints_L32 k121 n) k121 v0 v1 v2 v3 t4 q13
set_option maxRecDepth 20000 in
theorem e_X9_prints_L32 {k121 : Int → Int → Int → ab_H → Option ab_H} (hk121 : ∀ (v0 : Int) (v1 : Int) (v2 : Int) (h : ab_H) (q : ab_H), k121 v0 v1 v2 h = some q → ab_E mm_X9_prints cX9_prints 121 [some (ab_R v0), some (ab_I v1), some (ab_I v2), none, none] [] h none q) : ∀ (n : Nat) (v0 : Int) (v1 : Int) (v2 : Int) (v3 : Int) (h : ab_H) (q : ab_H), f_X9_prints_L32 k121 n v0 v1 v2 v3 h = some q → ab_E mm_X9_prints cX9_prints 32 [some (ab_R v0), some (ab_I v1), some (ab_I v2), some (ab_I v3), none] [] h none q := by
  intro n
  induction n with
  | zero => intro v0 v1 v2 v3 h q hk; cases hk
  | succ n ih =>
    intro v0 v1 v2 v3 h q hk
    unfold f_X9_prints_L32 at hk
    refine ab_iload_n (pc := 32) (i := 3) dX9_prints_32 rfl rfl ?_
    refine ab_aload_n (pc := 33) (i := 0) dX9_prints_33 rfl rfl ?_
    obtain ⟨t1, ht1, hk⟩ := ab_bnd hk
    refine ab_getR (pc := 34) dX9_prints_34 fl_RX9_46 ht1 ?_
    refine ab_bipush (pc := 37) dX9_prints_37 ab_p8_12 ab_k_12 ?_
    refine ab_iload_n (pc := 39) (i := 2) dX9_prints_39 rfl rfl ?_
    refine ab_imul (pc := 40) dX9_prints_40 ?_
    obtain ⟨t2, ht2, hk⟩ := ab_bnd hk
    refine ab_iald (pc := 41) dX9_prints_41 ht2 ?_
    refine ab_icmp_gt (pc := 42) (tgt := 121) dX9_prints_42 rfl (fun hc => ?_) (fun hc => ?_)
    · have hk := ab_ifp hk hc
      refine ab_sub_ (lv2 := [some (ab_R v0), some (ab_I v1), some (ab_I v2), none, none]) (ab_ss (ab_ss (ab_ss (ab_sn (ab_sn ab_s0))))) ?_
      exact hk121 _ _ _ _ _ hk
    · have hk := ab_ifn hk hc
      refine ab_aload_n (pc := 45) (i := 0) dX9_prints_45 rfl rfl ?_
      obtain ⟨t3, ht3, hk⟩ := ab_bnd hk
      refine ab_getR (pc := 46) dX9_prints_46 fl_RX9_46 ht3 ?_
      refine ab_bipush (pc := 49) dX9_prints_49 ab_p8_12 ab_k_12 ?_
      refine ab_iload_n (pc := 51) (i := 2) dX9_prints_51 rfl rfl ?_
      refine ab_imul (pc := 52) dX9_prints_52 ?_
      refine ab_iload_n (pc := 53) (i := 3) dX9_prints_53 rfl rfl ?_
      refine ab_iadd (pc := 54) dX9_prints_54 ?_
      obtain ⟨t4, ht4, hk⟩ := ab_bnd hk
      refine ab_iald (pc := 55) dX9_prints_55 ht4 ?_
      refine ab_istore (pc := 56) (i := 4) (lv2 := [some (ab_R v0), some (ab_I v1), some (ab_I v2), some (ab_I v3), some (ab_I t4)]) dX9_prints_56 (Nat.le_of_ble_eq_true rfl) rfl rfl ?_
      refine ab_aload_n (pc := 58) (i := 0) dX9_prints_58 rfl rfl ?_
      refine ab_bipush (pc := 59) dX9_prints_59 ab_p8_44 ab_k_44 ?_
      obtain ⟨q5, hq5, hk⟩ := ab_bnd hk
      obtain ⟨hb, hq5⟩ := ab_on_some hq5
      refine ab_callVV (st := []) (as := [ab_I (44 : Int)]) (b := v0) (pc := 61) dX9_prints_61 ml_RX9_383 my_X9_says mv_X9_says hb (ct_X9_says hq5) ⟨Nat.le_of_ble_eq_true rfl, Nat.le_of_ble_eq_true rfl⟩ rfl (Nat.le_of_ble_eq_true rfl) rfl ?_
      refine ab_aload_n (pc := 64) (i := 0) dX9_prints_64 rfl rfl ?_
      refine ab_bipush (pc := 65) dX9_prints_65 ab_p8_32 ab_k_32 ?_
      obtain ⟨q6, hq6, hk⟩ := ab_bnd hk
      obtain ⟨hb, hq6⟩ := ab_on_some hq6
      refine ab_callVV (st := []) (as := [ab_I (32 : Int)]) (b := v0) (pc := 67) dX9_prints_67 ml_RX9_383 my_X9_says mv_X9_says hb (ct_X9_says hq6) ⟨Nat.le_of_ble_eq_true rfl, Nat.le_of_ble_eq_true rfl⟩ rfl (Nat.le_of_ble_eq_true rfl) rfl ?_
      refine ab_aload_n (pc := 70) (i := 0) dX9_prints_70 rfl rfl ?_
      refine ab_aload_n (pc := 71) (i := 0) dX9_prints_71 rfl rfl ?_
      obtain ⟨t7, ht7, hk⟩ := ab_bnd hk
      refine ab_getR (pc := 72) dX9_prints_72 fl_RX9_24 ht7 ?_
      refine ab_aload_n (pc := 75) (i := 0) dX9_prints_75 rfl rfl ?_
      obtain ⟨t8, ht8, hk⟩ := ab_bnd hk
      refine ab_getR (pc := 76) dX9_prints_76 fl_RX9_27 ht8 ?_
      refine ab_iload (pc := 79) (i := 4) dX9_prints_79 rfl ?_
      obtain ⟨t9, ht9, hk⟩ := ab_bnd hk
      refine ab_iald (pc := 81) dX9_prints_81 ht9 ?_
      obtain ⟨t10, ht10, hk⟩ := ab_bnd hk
      refine ab_lald (pc := 82) dX9_prints_82 ht10 ?_
      obtain ⟨q11, hq11, hk⟩ := ab_bnd hk
      obtain ⟨hb, hq11⟩ := ab_on_some hq11
      refine ab_callVV (st := []) (as := [ab_J t10]) (b := v0) (pc := 83) dX9_prints_83 ml_RX9_386 my_X9_saysWord mv_X9_saysWord hb (ct_X9_saysWord hq11) ⟨Nat.le_of_ble_eq_true rfl, Nat.le_of_ble_eq_true rfl⟩ rfl (Nat.le_of_ble_eq_true rfl) rfl ?_
      refine ab_aload_n (pc := 86) (i := 0) dX9_prints_86 rfl rfl ?_
      refine ab_iload (pc := 87) (i := 4) dX9_prints_87 rfl ?_
      refine ab_iconst (pc := 89) dX9_prints_89 ab_k_4 ?_
      obtain ⟨q12, hq12, hk⟩ := ab_bnd hk
      obtain ⟨hb, hq12⟩ := ab_on_some hq12
      refine ab_callVJ (st := []) (as := [ab_I t4, ab_I (4 : Int)]) (b := v0) (pc := 90) dX9_prints_90 ml_RX9_390 my_X9_joinOf mv_X9_joinOf hb (ct_X9_joinOf hq12) ⟨Nat.le_of_ble_eq_true rfl, Nat.le_of_ble_eq_true rfl⟩ rfl (Nat.le_of_ble_eq_true rfl) rfl ?_
      refine ab_lconst (x := (0 : Int)) (pc := 93) dX9_prints_93 rfl ab_kl_0 ?_
      refine ab_lcmp_ (pc := 94) dX9_prints_94 ?_
      refine ab_if_eq (pc := 95) (tgt := 104) dX9_prints_95 rfl (fun hc => ?_) (fun hc => ?_)
      · have hk := ab_ifp hk hc
        refine ab_sub_ (lv2 := [some (ab_R v0), some (ab_I v1), some (ab_I v2), some (ab_I v3), some (ab_I t4)]) (ab_ss (ab_ss (ab_ss (ab_ss (ab_ss ab_s0))))) ?_
        exact e_X9_prints_J104 ih hk121 _ _ _ _ _ _ _ hk
      · have hk := ab_ifn hk hc
        refine ab_aload_n (pc := 98) (i := 0) dX9_prints_98 rfl rfl ?_
        refine ab_bipush (pc := 99) dX9_prints_99 ab_p8_32 ab_k_32 ?_
        obtain ⟨q13, hq13, hk⟩ := ab_bnd hk
        obtain ⟨hb, hq13⟩ := ab_on_some hq13
        refine ab_callVV (st := []) (as := [ab_I (32 : Int)]) (b := v0) (pc := 101) dX9_prints_101 ml_RX9_383 my_X9_says mv_X9_says hb (ct_X9_says hq13) ⟨Nat.le_of_ble_eq_true rfl, Nat.le_of_ble_eq_true rfl⟩ rfl (Nat.le_of_ble_eq_true rfl) rfl ?_
        refine ab_sub_ (lv2 := [some (ab_R v0), some (ab_I v1), some (ab_I v2), some (ab_I v3), some (ab_I t4)]) (ab_ss (ab_ss (ab_ss (ab_ss (ab_ss ab_s0))))) ?_
        exact e_X9_prints_J104 ih hk121 _ _ _ _ _ _ _ hk
noncomputable def f_X9_prints (a0 : Int) (a1 : Int) (h : ab_H) : Option ab_H :=
  (ab_get h 10 26 a0).bind fun t1 =>
  (ab_on h 10 a0 (f_X9_firstOf a0 a1 h)).bind fun q2 =>
  (ab_ald q2.2 11 t1 q2.1).bind fun t3 =>
  (ab_put q2.2 10 30 a0 (0 : Int)).bind fun h1 =>
  (ab_get h1 10 13 a0).bind fun t4 =>
  (ab_on h1 10 a0 (f_X9_leadWord a0 t3 h1)).bind fun q5 =>
  (ab_ald q5.2 12 t4 q5.1).bind fun t6 =>
  (ab_on q5.2 10 a0 (f_X9_saysWord a0 t6 q5.2)).bind fun q7 =>
  f_X9_prints_L32 (fun w121_0 w121_1 w121_2 hx121 =>
    f_X9_prints_L123 (fun w228_0 w228_1 hx228 =>
      (ab_on hx228 10 w228_0 (f_X9_addressAbove w228_0 w228_1 (-1 : Int) hx228)).bind fun q8 =>
      f_X9_prints_L239 ab_FU w228_0 w228_1 (32 : Int) q8.1 q8.2) ab_FU w121_0 w121_1 w121_2 (1 : Int) hx121) ab_FU a0 a1 t3 (1 : Int) q7
set_option maxRecDepth 20000 in
theorem ct_X9_prints {a0 a1 : Int} {h : ab_H} {q : ab_H} (hk : f_X9_prints a0 a1 h = some q) : ab_CT yX9_prints cX9_prints 5 none 2 48 [ab_R a0, ab_I a1] h none q := by
  refine ab_CT.mk_ 3 (own := RX9) (ini := false) (lv := [some (ab_R a0), some (ab_I a1), none, none, none]) rfl (by decide +kernel) (fun q => by cases q) rfl rfl ?_
  unfold f_X9_prints at hk
  show ab_E mm_X9_prints cX9_prints 0 _ [] h _ _
  refine ab_aload_n (pc := 0) (i := 0) dX9_prints_0 rfl rfl ?_
  obtain ⟨t1, ht1, hk⟩ := ab_bnd hk
  refine ab_getR (pc := 1) dX9_prints_1 fl_RX9_49 ht1 ?_
  refine ab_aload_n (pc := 4) (i := 0) dX9_prints_4 rfl rfl ?_
  refine ab_iload_n (pc := 5) (i := 1) dX9_prints_5 rfl rfl ?_
  obtain ⟨q2, hq2, hk⟩ := ab_bnd hk
  obtain ⟨hb, hq2⟩ := ab_on_some hq2
  refine ab_callVI (st := [ab_R t1]) (as := [ab_I a1]) (b := a0) (pc := 6) dX9_prints_6 ml_RX9_362 my_X9_firstOf mv_X9_firstOf hb (ct_X9_firstOf hq2) ⟨Nat.le_of_ble_eq_true rfl, Nat.le_of_ble_eq_true rfl⟩ rfl (Nat.le_of_ble_eq_true rfl) rfl ?_
  obtain ⟨t3, ht3, hk⟩ := ab_bnd hk
  refine ab_iald (pc := 9) dX9_prints_9 ht3 ?_
  refine ab_istore_n (pc := 10) (i := 2) (lv2 := [some (ab_R a0), some (ab_I a1), some (ab_I t3), none, none]) dX9_prints_10 rfl (Nat.le_of_ble_eq_true rfl) rfl rfl ?_
  refine ab_aload_n (pc := 11) (i := 0) dX9_prints_11 rfl rfl ?_
  refine ab_iconst (pc := 12) dX9_prints_12 ab_k_0 ?_
  obtain ⟨h1, hh1, hk⟩ := ab_bnd hk
  refine ab_putI_ (pc := 13) dX9_prints_13 fl_RX9_380 (fun q => by cases q) hh1 ?_
  refine ab_aload_n (pc := 16) (i := 0) dX9_prints_16 rfl rfl ?_
  refine ab_aload_n (pc := 17) (i := 0) dX9_prints_17 rfl rfl ?_
  obtain ⟨t4, ht4, hk⟩ := ab_bnd hk
  refine ab_getR (pc := 18) dX9_prints_18 fl_RX9_24 ht4 ?_
  refine ab_aload_n (pc := 21) (i := 0) dX9_prints_21 rfl rfl ?_
  refine ab_iload_n (pc := 22) (i := 2) dX9_prints_22 rfl rfl ?_
  obtain ⟨q5, hq5, hk⟩ := ab_bnd hk
  obtain ⟨hb, hq5⟩ := ab_on_some hq5
  refine ab_callVI (st := [ab_R t4, ab_R a0]) (as := [ab_I t3]) (b := a0) (pc := 23) dX9_prints_23 ml_RX9_274 my_X9_leadWord mv_X9_leadWord hb (ct_X9_leadWord hq5) ⟨Nat.le_of_ble_eq_true rfl, Nat.le_of_ble_eq_true rfl⟩ rfl (Nat.le_of_ble_eq_true rfl) rfl ?_
  obtain ⟨t6, ht6, hk⟩ := ab_bnd hk
  refine ab_lald (pc := 26) dX9_prints_26 ht6 ?_
  obtain ⟨q7, hq7, hk⟩ := ab_bnd hk
  obtain ⟨hb, hq7⟩ := ab_on_some hq7
  refine ab_callVV (st := []) (as := [ab_J t6]) (b := a0) (pc := 27) dX9_prints_27 ml_RX9_386 my_X9_saysWord mv_X9_saysWord hb (ct_X9_saysWord hq7) ⟨Nat.le_of_ble_eq_true rfl, Nat.le_of_ble_eq_true rfl⟩ rfl (Nat.le_of_ble_eq_true rfl) rfl ?_
  refine ab_iconst (pc := 30) dX9_prints_30 ab_k_1 ?_
  refine ab_istore_n (pc := 31) (i := 3) (lv2 := [some (ab_R a0), some (ab_I a1), some (ab_I t3), some (ab_I (1 : Int)), none]) dX9_prints_31 rfl (Nat.le_of_ble_eq_true rfl) rfl rfl ?_
  refine ab_sub_ (lv2 := [some (ab_R a0), some (ab_I a1), some (ab_I t3), some (ab_I (1 : Int)), none]) (ab_ss (ab_ss (ab_ss (ab_ss (ab_sn ab_s0))))) ?_
  refine e_X9_prints_L32 (fun w121_0 w121_1 w121_2 hx121 q hk => ?_) _ _ _ _ _ _ _ hk
  · skip
    refine ab_iconst (pc := 121) dX9_prints_121 ab_k_1 ?_
    refine ab_istore_n (pc := 122) (i := 3) (lv2 := [some (ab_R w121_0), some (ab_I w121_1), some (ab_I w121_2), some (ab_I (1 : Int)), none]) dX9_prints_122 rfl (Nat.le_of_ble_eq_true rfl) rfl rfl ?_
    refine ab_sub_ (lv2 := [some (ab_R w121_0), some (ab_I w121_1), some (ab_I w121_2), some (ab_I (1 : Int)), none]) (ab_ss (ab_ss (ab_ss (ab_ss (ab_sn ab_s0))))) ?_
    refine e_X9_prints_L123 (fun w228_0 w228_1 hx228 q hk => ?_) _ _ _ _ _ _ _ hk
    · skip
      refine ab_bipush (pc := 228) dX9_prints_228 ab_p8_32 ab_k_32 ?_
      refine ab_istore_n (pc := 230) (i := 3) (lv2 := [some (ab_R w228_0), some (ab_I w228_1), none, some (ab_I (32 : Int)), none]) dX9_prints_230 rfl (Nat.le_of_ble_eq_true rfl) rfl rfl ?_
      refine ab_aload_n (pc := 231) (i := 0) dX9_prints_231 rfl rfl ?_
      refine ab_iload_n (pc := 232) (i := 1) dX9_prints_232 rfl rfl ?_
      refine ab_iconst (pc := 233) dX9_prints_233 ab_k_m1 ?_
      obtain ⟨q8, hq8, hk⟩ := ab_bnd hk
      obtain ⟨hb, hq8⟩ := ab_on_some hq8
      refine ab_callVI (st := []) (as := [ab_I w228_1, ab_I (-1 : Int)]) (b := w228_0) (pc := 234) dX9_prints_234 ml_RX9_354 my_X9_addressAbove mv_X9_addressAbove hb (ct_X9_addressAbove hq8) ⟨Nat.le_of_ble_eq_true rfl, Nat.le_of_ble_eq_true rfl⟩ rfl (Nat.le_of_ble_eq_true rfl) rfl ?_
      refine ab_istore (pc := 237) (i := 4) (lv2 := [some (ab_R w228_0), some (ab_I w228_1), none, some (ab_I (32 : Int)), some (ab_I q8.1)]) dX9_prints_237 (Nat.le_of_ble_eq_true rfl) rfl rfl ?_
      refine ab_sub_ (lv2 := [some (ab_R w228_0), some (ab_I w228_1), none, some (ab_I (32 : Int)), some (ab_I q8.1)]) (ab_ss (ab_ss (ab_sn (ab_ss (ab_ss ab_s0))))) ?_
      refine e_X9_prints_L239 _ _ _ _ _ _ _ hk
theorem dX9_comesOut_0 : decode cX9_comesOut 0 = .ok (.iconst 0, 1) := by decide +kernel
theorem dX9_comesOut_1 : decode cX9_comesOut 1 = .ok (.istore_n 1, 1) := by decide +kernel
theorem dX9_comesOut_2 : decode cX9_comesOut 2 = .ok (.iload_n 1, 1) := by decide +kernel
theorem dX9_comesOut_3 : decode cX9_comesOut 3 = .ok (.aload_n 0, 1) := by decide +kernel
theorem dX9_comesOut_4 : decode cX9_comesOut 4 = .ok (.getfield 380, 3) := by decide +kernel
theorem dX9_comesOut_7 : decode cX9_comesOut 7 = .ok (.if_icmp .ge 26, 3) := by decide +kernel
theorem dX9_comesOut_10 : decode cX9_comesOut 10 = .ok (.aload_n 0, 1) := by decide +kernel
theorem dX9_comesOut_11 : decode cX9_comesOut 11 = .ok (.getfield 52, 3) := by decide +kernel
theorem dX9_comesOut_14 : decode cX9_comesOut 14 = .ok (.aload_n 0, 1) := by decide +kernel
theorem dX9_comesOut_15 : decode cX9_comesOut 15 = .ok (.getfield 320, 3) := by decide +kernel
theorem dX9_comesOut_18 : decode cX9_comesOut 18 = .ok (.iload_n 1, 1) := by decide +kernel
theorem dX9_comesOut_19 : decode cX9_comesOut 19 = .ok (.iadd, 1) := by decide +kernel
theorem dX9_comesOut_20 : decode cX9_comesOut 20 = .ok (.aload_n 0, 1) := by decide +kernel
theorem dX9_comesOut_21 : decode cX9_comesOut 21 = .ok (.getfield 55, 3) := by decide +kernel
theorem dX9_comesOut_24 : decode cX9_comesOut 24 = .ok (.iload_n 1, 1) := by decide +kernel
theorem dX9_comesOut_25 : decode cX9_comesOut 25 = .ok (.baload, 1) := by decide +kernel
theorem dX9_comesOut_26 : decode cX9_comesOut 26 = .ok (.bastore, 1) := by decide +kernel
theorem dX9_comesOut_27 : decode cX9_comesOut 27 = .ok (.iinc 1 1, 3) := by decide +kernel
theorem dX9_comesOut_30 : decode cX9_comesOut 30 = .ok (.goto (-28), 3) := by decide +kernel
theorem dX9_comesOut_33 : decode cX9_comesOut 33 = .ok (.aload_n 0, 1) := by decide +kernel
theorem dX9_comesOut_34 : decode cX9_comesOut 34 = .ok (.dup, 1) := by decide +kernel
theorem dX9_comesOut_35 : decode cX9_comesOut 35 = .ok (.getfield 320, 3) := by decide +kernel
theorem dX9_comesOut_38 : decode cX9_comesOut 38 = .ok (.aload_n 0, 1) := by decide +kernel
theorem dX9_comesOut_39 : decode cX9_comesOut 39 = .ok (.getfield 380, 3) := by decide +kernel
theorem dX9_comesOut_42 : decode cX9_comesOut 42 = .ok (.iadd, 1) := by decide +kernel
theorem dX9_comesOut_43 : decode cX9_comesOut 43 = .ok (.putfield 320, 3) := by decide +kernel
theorem dX9_comesOut_46 : decode cX9_comesOut 46 = .ok (.return_, 1) := by decide +kernel
abbrev mm_X9_comesOut : ab_M := (RX9, 2, none, false, 0, 0, none)
noncomputable def f_X9_comesOut_L2 (k33 : Int → ab_H → Option ab_H) : Nat → Int → Int → ab_H → Option ab_H
  | 0, _, _, _ => none
  | n + 1, v0, v1, h =>
    (ab_get h 10 30 v0).bind fun t1 =>
    if t1 ≤ v1 then
      k33 v0 h
    else
    (ab_get h 10 27 v0).bind fun t2 =>
    (ab_get h 10 28 v0).bind fun t3 =>
    (ab_get h 10 29 v0).bind fun t4 =>
    (ab_ald h 13 t4 v1).bind fun t5 =>
    (ab_ast h 13 t2 (ab_w32 (t3 + v1)) (ab_w8 t5)).bind fun h1 =>
    f_X9_comesOut_L2 k33 n v0 (ab_w32 (v1 + (1 : Int))) h1
set_option maxRecDepth 20000 in
theorem e_X9_comesOut_L2 {k33 : Int → ab_H → Option ab_H} (hk33 : ∀ (v0 : Int) (h : ab_H) (q : ab_H), k33 v0 h = some q → ab_E mm_X9_comesOut cX9_comesOut 33 [some (ab_R v0), none] [] h none q) : ∀ (n : Nat) (v0 : Int) (v1 : Int) (h : ab_H) (q : ab_H), f_X9_comesOut_L2 k33 n v0 v1 h = some q → ab_E mm_X9_comesOut cX9_comesOut 2 [some (ab_R v0), some (ab_I v1)] [] h none q := by
  intro n
  induction n with
  | zero => intro v0 v1 h q hk; cases hk
  | succ n ih =>
    intro v0 v1 h q hk
    unfold f_X9_comesOut_L2 at hk
    refine ab_iload_n (pc := 2) (i := 1) dX9_comesOut_2 rfl rfl ?_
    refine ab_aload_n (pc := 3) (i := 0) dX9_comesOut_3 rfl rfl ?_
    obtain ⟨t1, ht1, hk⟩ := ab_bnd hk
    refine ab_getI (pc := 4) dX9_comesOut_4 fl_RX9_380 ht1 ?_
    refine ab_icmp_ge (pc := 7) (tgt := 33) dX9_comesOut_7 rfl (fun hc => ?_) (fun hc => ?_)
    · have hk := ab_ifp hk hc
      refine ab_sub_ (lv2 := [some (ab_R v0), none]) (ab_ss (ab_sn ab_s0)) ?_
      exact hk33 _ _ _ hk
    · have hk := ab_ifn hk hc
      refine ab_aload_n (pc := 10) (i := 0) dX9_comesOut_10 rfl rfl ?_
      obtain ⟨t2, ht2, hk⟩ := ab_bnd hk
      refine ab_getR (pc := 11) dX9_comesOut_11 fl_RX9_52 ht2 ?_
      refine ab_aload_n (pc := 14) (i := 0) dX9_comesOut_14 rfl rfl ?_
      obtain ⟨t3, ht3, hk⟩ := ab_bnd hk
      refine ab_getI (pc := 15) dX9_comesOut_15 fl_RX9_320 ht3 ?_
      refine ab_iload_n (pc := 18) (i := 1) dX9_comesOut_18 rfl rfl ?_
      refine ab_iadd (pc := 19) dX9_comesOut_19 ?_
      refine ab_aload_n (pc := 20) (i := 0) dX9_comesOut_20 rfl rfl ?_
      obtain ⟨t4, ht4, hk⟩ := ab_bnd hk
      refine ab_getR (pc := 21) dX9_comesOut_21 fl_RX9_55 ht4 ?_
      refine ab_iload_n (pc := 24) (i := 1) dX9_comesOut_24 rfl rfl ?_
      obtain ⟨t5, ht5, hk⟩ := ab_bnd hk
      refine ab_bald (pc := 25) dX9_comesOut_25 ht5 ?_
      obtain ⟨h1, hh1, hk⟩ := ab_bnd hk
      refine ab_bast (pc := 26) dX9_comesOut_26 hh1 ?_
      refine ab_iinc (pc := 27) (i := 1) (lv2 := [some (ab_R v0), some (ab_I (ab_w32 (v1 + (1 : Int))))]) dX9_comesOut_27 rfl (Nat.le_of_ble_eq_true rfl) rfl rfl ?_
      refine ab_goto (pc := 30) (tgt := 2) dX9_comesOut_30 rfl ?_
      refine ab_sub_ (lv2 := [some (ab_R v0), some (ab_I (ab_w32 (v1 + (1 : Int))))]) (ab_ss (ab_ss ab_s0)) ?_
      exact ih _ _ _ _ hk
noncomputable def f_X9_comesOut (a0 : Int) (h : ab_H) : Option ab_H :=
  f_X9_comesOut_L2 (fun w33_0 hx33 =>
    (ab_get hx33 10 28 w33_0).bind fun t1 =>
    (ab_get hx33 10 30 w33_0).bind fun t2 =>
    (ab_put hx33 10 28 w33_0 (ab_w32 (t1 + t2))).bind fun h1 =>
    some h1) ab_FU a0 (0 : Int) h
set_option maxRecDepth 20000 in
theorem ct_X9_comesOut {a0 : Int} {h : ab_H} {q : ab_H} (hk : f_X9_comesOut a0 h = some q) : ab_CT yX9_comesOut cX9_comesOut 2 none 0 0 [ab_R a0] h none q := by
  refine ab_CT.mk_ 1 (own := RX9) (ini := false) (lv := [some (ab_R a0), none]) rfl (by decide +kernel) (fun q => by cases q) rfl rfl ?_
  unfold f_X9_comesOut at hk
  show ab_E mm_X9_comesOut cX9_comesOut 0 _ [] h _ _
  refine ab_iconst (pc := 0) dX9_comesOut_0 ab_k_0 ?_
  refine ab_istore_n (pc := 1) (i := 1) (lv2 := [some (ab_R a0), some (ab_I (0 : Int))]) dX9_comesOut_1 rfl (Nat.le_of_ble_eq_true rfl) rfl rfl ?_
  refine ab_sub_ (lv2 := [some (ab_R a0), some (ab_I (0 : Int))]) (ab_ss (ab_ss ab_s0)) ?_
  refine e_X9_comesOut_L2 (fun w33_0 hx33 q hk => ?_) _ _ _ _ _ hk
  · skip
    refine ab_aload_n (pc := 33) (i := 0) dX9_comesOut_33 rfl rfl ?_
    refine ab_dup (pc := 34) dX9_comesOut_34 rfl ?_
    obtain ⟨t1, ht1, hk⟩ := ab_bnd hk
    refine ab_getI (pc := 35) dX9_comesOut_35 fl_RX9_320 ht1 ?_
    refine ab_aload_n (pc := 38) (i := 0) dX9_comesOut_38 rfl rfl ?_
    obtain ⟨t2, ht2, hk⟩ := ab_bnd hk
    refine ab_getI (pc := 39) dX9_comesOut_39 fl_RX9_380 ht2 ?_
    refine ab_iadd (pc := 42) dX9_comesOut_42 ?_
    obtain ⟨h1, hh1, hk⟩ := ab_bnd hk
    refine ab_putI_ (pc := 43) dX9_comesOut_43 fl_RX9_320 (fun q => by cases q) hh1 ?_
    obtain rfl := Option.some.inj hk
    exact ab_retv (pc := 46) dX9_comesOut_46 rfl
theorem dX9_print_0 : decode cX9_print 0 = .ok (.aload_n 0, 1) := by decide +kernel
theorem dX9_print_1 : decode cX9_print 1 = .ok (.iload_n 1, 1) := by decide +kernel
theorem dX9_print_2 : decode cX9_print 2 = .ok (.invokevirtual 357, 3) := by decide +kernel
theorem dX9_print_5 : decode cX9_print 5 = .ok (.ifCond .ne 6, 3) := by decide +kernel
theorem dX9_print_8 : decode cX9_print 8 = .ok (.bipush (-2), 2) := by decide +kernel
theorem dX9_print_10 : decode cX9_print 10 = .ok (.ireturn, 1) := by decide +kernel
theorem dX9_print_11 : decode cX9_print 11 = .ok (.aload_n 0, 1) := by decide +kernel
theorem dX9_print_12 : decode cX9_print 12 = .ok (.iload_n 1, 1) := by decide +kernel
theorem dX9_print_13 : decode cX9_print 13 = .ok (.invokevirtual 396, 3) := by decide +kernel
theorem dX9_print_16 : decode cX9_print 16 = .ok (.aload_n 0, 1) := by decide +kernel
theorem dX9_print_17 : decode cX9_print 17 = .ok (.iconst 0, 1) := by decide +kernel
theorem dX9_print_18 : decode cX9_print 18 = .ok (.putfield 320, 3) := by decide +kernel
theorem dX9_print_21 : decode cX9_print 21 = .ok (.aload_n 0, 1) := by decide +kernel
theorem dX9_print_22 : decode cX9_print 22 = .ok (.invokevirtual 399, 3) := by decide +kernel
theorem dX9_print_25 : decode cX9_print 25 = .ok (.aload_n 0, 1) := by decide +kernel
theorem dX9_print_26 : decode cX9_print 26 = .ok (.getfield 320, 3) := by decide +kernel
theorem dX9_print_29 : decode cX9_print 29 = .ok (.ireturn, 1) := by decide +kernel
abbrev mm_X9_print : ab_M := (RX9, 2, (some .int), false, 7, 154, none)
noncomputable def f_X9_print (a0 : Int) (a1 : Int) (h : ab_H) : Option (Int × ab_H) :=
  (ab_on h 10 a0 (f_X9_isLineNow a0 a1 h)).bind fun q1 =>
  if q1.1 = (0 : Int) then
    some ((-2 : Int), q1.2)
  else
  (ab_on q1.2 10 a0 (f_X9_prints a0 a1 q1.2)).bind fun q2 =>
  (ab_put q2 10 28 a0 (0 : Int)).bind fun h1 =>
  (ab_on h1 10 a0 (f_X9_comesOut a0 h1)).bind fun q3 =>
  (ab_get q3 10 28 a0).bind fun t4 =>
  some (t4, q3)
set_option maxRecDepth 20000 in
theorem ct_X9_print {a0 a1 : Int} {h : ab_H} {q : Int × ab_H} (hk : f_X9_print a0 a1 h = some q) : ab_CT yX9_print cX9_print 2 (some .int) 7 154 [ab_R a0, ab_I a1] h (some (ab_I q.1)) q.2 := by
  refine ab_CT.mk_ 0 (own := RX9) (ini := false) (lv := [some (ab_R a0), some (ab_I a1)]) rfl (by decide +kernel) (fun q => by cases q) rfl rfl ?_
  unfold f_X9_print at hk
  show ab_E mm_X9_print cX9_print 0 _ [] h _ _
  refine ab_aload_n (pc := 0) (i := 0) dX9_print_0 rfl rfl ?_
  refine ab_iload_n (pc := 1) (i := 1) dX9_print_1 rfl rfl ?_
  obtain ⟨q1, hq1, hk⟩ := ab_bnd hk
  obtain ⟨hb, hq1⟩ := ab_on_some hq1
  refine ab_callVI (st := []) (as := [ab_I a1]) (b := a0) (pc := 2) dX9_print_2 ml_RX9_357 my_X9_isLineNow mv_X9_isLineNow hb (ct_X9_isLineNow hq1) ⟨Nat.le_of_ble_eq_true rfl, Nat.le_of_ble_eq_true rfl⟩ rfl (Nat.le_of_ble_eq_true rfl) rfl ?_
  refine ab_if_ne (pc := 5) (tgt := 11) dX9_print_5 rfl (fun hc => ?_) (fun hc => ?_)
  · have hk := ab_ifn hk hc
    refine ab_aload_n (pc := 11) (i := 0) dX9_print_11 rfl rfl ?_
    refine ab_iload_n (pc := 12) (i := 1) dX9_print_12 rfl rfl ?_
    obtain ⟨q2, hq2, hk⟩ := ab_bnd hk
    obtain ⟨hb, hq2⟩ := ab_on_some hq2
    refine ab_callVV (st := []) (as := [ab_I a1]) (b := a0) (pc := 13) dX9_print_13 ml_RX9_396 my_X9_prints mv_X9_prints hb (ct_X9_prints hq2) ⟨Nat.le_of_ble_eq_true rfl, Nat.le_of_ble_eq_true rfl⟩ rfl (Nat.le_of_ble_eq_true rfl) rfl ?_
    refine ab_aload_n (pc := 16) (i := 0) dX9_print_16 rfl rfl ?_
    refine ab_iconst (pc := 17) dX9_print_17 ab_k_0 ?_
    obtain ⟨h1, hh1, hk⟩ := ab_bnd hk
    refine ab_putI_ (pc := 18) dX9_print_18 fl_RX9_320 (fun q => by cases q) hh1 ?_
    refine ab_aload_n (pc := 21) (i := 0) dX9_print_21 rfl rfl ?_
    obtain ⟨q3, hq3, hk⟩ := ab_bnd hk
    obtain ⟨hb, hq3⟩ := ab_on_some hq3
    refine ab_callVV (st := []) (as := []) (b := a0) (pc := 22) dX9_print_22 ml_RX9_399 my_X9_comesOut mv_X9_comesOut hb (ct_X9_comesOut hq3) ⟨Nat.le_of_ble_eq_true rfl, Nat.le_of_ble_eq_true rfl⟩ rfl (Nat.le_of_ble_eq_true rfl) rfl ?_
    refine ab_aload_n (pc := 25) (i := 0) dX9_print_25 rfl rfl ?_
    obtain ⟨t4, ht4, hk⟩ := ab_bnd hk
    refine ab_getI (pc := 26) dX9_print_26 fl_RX9_320 ht4 ?_
    obtain rfl := Option.some.inj hk
    exact ab_reti (pc := 29) dX9_print_29 (Or.inl rfl)
  · have hk := ab_ifp hk hc
    refine ab_bipush (pc := 8) dX9_print_8 ab_p8_m2 ab_k_m2 ?_
    obtain rfl := Option.some.inj hk
    exact ab_reti (pc := 10) dX9_print_10 (Or.inl rfl)
theorem dX9_printAll_0 : decode cX9_printAll 0 = .ok (.aload_n 0, 1) := by decide +kernel
theorem dX9_printAll_1 : decode cX9_printAll 1 = .ok (.invokevirtual 314, 3) := by decide +kernel
theorem dX9_printAll_4 : decode cX9_printAll 4 = .ok (.aload_n 0, 1) := by decide +kernel
theorem dX9_printAll_5 : decode cX9_printAll 5 = .ok (.iconst 0, 1) := by decide +kernel
theorem dX9_printAll_6 : decode cX9_printAll 6 = .ok (.putfield 320, 3) := by decide +kernel
theorem dX9_printAll_9 : decode cX9_printAll 9 = .ok (.iconst 0, 1) := by decide +kernel
theorem dX9_printAll_10 : decode cX9_printAll 10 = .ok (.istore_n 1, 1) := by decide +kernel
theorem dX9_printAll_11 : decode cX9_printAll 11 = .ok (.iload_n 1, 1) := by decide +kernel
theorem dX9_printAll_12 : decode cX9_printAll 12 = .ok (.aload_n 0, 1) := by decide +kernel
theorem dX9_printAll_13 : decode cX9_printAll 13 = .ok (.getfield 303, 3) := by decide +kernel
theorem dX9_printAll_16 : decode cX9_printAll 16 = .ok (.if_icmp .ge 41, 3) := by decide +kernel
theorem dX9_printAll_19 : decode cX9_printAll 19 = .ok (.aload_n 0, 1) := by decide +kernel
theorem dX9_printAll_20 : decode cX9_printAll 20 = .ok (.iload_n 1, 1) := by decide +kernel
theorem dX9_printAll_21 : decode cX9_printAll 21 = .ok (.invokevirtual 396, 3) := by decide +kernel
theorem dX9_printAll_24 : decode cX9_printAll 24 = .ok (.aload_n 0, 1) := by decide +kernel
theorem dX9_printAll_25 : decode cX9_printAll 25 = .ok (.bipush 10, 2) := by decide +kernel
theorem dX9_printAll_27 : decode cX9_printAll 27 = .ok (.invokevirtual 383, 3) := by decide +kernel
theorem dX9_printAll_30 : decode cX9_printAll 30 = .ok (.aload_n 0, 1) := by decide +kernel
theorem dX9_printAll_31 : decode cX9_printAll 31 = .ok (.getfield 320, 3) := by decide +kernel
theorem dX9_printAll_34 : decode cX9_printAll 34 = .ok (.aload_n 0, 1) := by decide +kernel
theorem dX9_printAll_35 : decode cX9_printAll 35 = .ok (.getfield 380, 3) := by decide +kernel
theorem dX9_printAll_38 : decode cX9_printAll 38 = .ok (.iadd, 1) := by decide +kernel
theorem dX9_printAll_39 : decode cX9_printAll 39 = .ok (.sipush 2000, 3) := by decide +kernel
theorem dX9_printAll_42 : decode cX9_printAll 42 = .ok (.if_icmp .le 5, 3) := by decide +kernel
theorem dX9_printAll_45 : decode cX9_printAll 45 = .ok (.iload_n 1, 1) := by decide +kernel
theorem dX9_printAll_46 : decode cX9_printAll 46 = .ok (.ireturn, 1) := by decide +kernel
theorem dX9_printAll_47 : decode cX9_printAll 47 = .ok (.aload_n 0, 1) := by decide +kernel
theorem dX9_printAll_48 : decode cX9_printAll 48 = .ok (.invokevirtual 399, 3) := by decide +kernel
theorem dX9_printAll_51 : decode cX9_printAll 51 = .ok (.iinc 1 1, 3) := by decide +kernel
theorem dX9_printAll_54 : decode cX9_printAll 54 = .ok (.goto (-43), 3) := by decide +kernel
theorem dX9_printAll_57 : decode cX9_printAll 57 = .ok (.aload_n 0, 1) := by decide +kernel
theorem dX9_printAll_58 : decode cX9_printAll 58 = .ok (.getfield 303, 3) := by decide +kernel
theorem dX9_printAll_61 : decode cX9_printAll 61 = .ok (.ireturn, 1) := by decide +kernel
abbrev mm_X9_printAll : ab_M := (RX9, 2, (some .int), false, 6, 133, none)
noncomputable def f_X9_printAll_L11 : Nat → Int → Int → ab_H → Option (Int × ab_H)
  | 0, _, _, _ => none
  | n + 1, v0, v1, h =>
    (ab_get h 10 17 v0).bind fun t1 =>
    if t1 ≤ v1 then
      (ab_get h 10 17 v0).bind fun t2 =>
      some (t2, h)
    else
    (ab_on h 10 v0 (f_X9_prints v0 v1 h)).bind fun q3 =>
    (ab_on q3 10 v0 (f_X9_says v0 (10 : Int) q3)).bind fun q4 =>
    (ab_get q4 10 28 v0).bind fun t5 =>
    (ab_get q4 10 30 v0).bind fun t6 =>
    if ab_w32 (t5 + t6) ≤ (2000 : Int) then
      (ab_on q4 10 v0 (f_X9_comesOut v0 q4)).bind fun q7 =>
      f_X9_printAll_L11 n v0 (ab_w32 (v1 + (1 : Int))) q7
    else
    some (v1, q4)
set_option maxRecDepth 20000 in
theorem e_X9_printAll_L11 : ∀ (n : Nat) (v0 : Int) (v1 : Int) (h : ab_H) (q : Int × ab_H), f_X9_printAll_L11 n v0 v1 h = some q → ab_E mm_X9_printAll cX9_printAll 11 [some (ab_R v0), some (ab_I v1)] [] h (some (ab_I q.1)) q.2 := by
  intro n
  induction n with
  | zero => intro v0 v1 h q hk; cases hk
  | succ n ih =>
    intro v0 v1 h q hk
    unfold f_X9_printAll_L11 at hk
    refine ab_iload_n (pc := 11) (i := 1) dX9_printAll_11 rfl rfl ?_
    refine ab_aload_n (pc := 12) (i := 0) dX9_printAll_12 rfl rfl ?_
    obtain ⟨t1, ht1, hk⟩ := ab_bnd hk
    refine ab_getI (pc := 13) dX9_printAll_13 fl_RX9_303 ht1 ?_
    refine ab_icmp_ge (pc := 16) (tgt := 57) dX9_printAll_16 rfl (fun hc => ?_) (fun hc => ?_)
    · have hk := ab_ifp hk hc
      refine ab_aload_n (pc := 57) (i := 0) dX9_printAll_57 rfl rfl ?_
      obtain ⟨t2, ht2, hk⟩ := ab_bnd hk
      refine ab_getI (pc := 58) dX9_printAll_58 fl_RX9_303 ht2 ?_
      obtain rfl := Option.some.inj hk
      exact ab_reti (pc := 61) dX9_printAll_61 (Or.inl rfl)
    · have hk := ab_ifn hk hc
      refine ab_aload_n (pc := 19) (i := 0) dX9_printAll_19 rfl rfl ?_
      refine ab_iload_n (pc := 20) (i := 1) dX9_printAll_20 rfl rfl ?_
      obtain ⟨q3, hq3, hk⟩ := ab_bnd hk
      obtain ⟨hb, hq3⟩ := ab_on_some hq3
      refine ab_callVV (st := []) (as := [ab_I v1]) (b := v0) (pc := 21) dX9_printAll_21 ml_RX9_396 my_X9_prints mv_X9_prints hb (ct_X9_prints hq3) ⟨Nat.le_of_ble_eq_true rfl, Nat.le_of_ble_eq_true rfl⟩ rfl (Nat.le_of_ble_eq_true rfl) rfl ?_
      refine ab_aload_n (pc := 24) (i := 0) dX9_printAll_24 rfl rfl ?_
      refine ab_bipush (pc := 25) dX9_printAll_25 ab_p8_10 ab_k_10 ?_
      obtain ⟨q4, hq4, hk⟩ := ab_bnd hk
      obtain ⟨hb, hq4⟩ := ab_on_some hq4
      refine ab_callVV (st := []) (as := [ab_I (10 : Int)]) (b := v0) (pc := 27) dX9_printAll_27 ml_RX9_383 my_X9_says mv_X9_says hb (ct_X9_says hq4) ⟨Nat.le_of_ble_eq_true rfl, Nat.le_of_ble_eq_true rfl⟩ rfl (Nat.le_of_ble_eq_true rfl) rfl ?_
      refine ab_aload_n (pc := 30) (i := 0) dX9_printAll_30 rfl rfl ?_
      obtain ⟨t5, ht5, hk⟩ := ab_bnd hk
      refine ab_getI (pc := 31) dX9_printAll_31 fl_RX9_320 ht5 ?_
      refine ab_aload_n (pc := 34) (i := 0) dX9_printAll_34 rfl rfl ?_
      obtain ⟨t6, ht6, hk⟩ := ab_bnd hk
      refine ab_getI (pc := 35) dX9_printAll_35 fl_RX9_380 ht6 ?_
      refine ab_iadd (pc := 38) dX9_printAll_38 ?_
      refine ab_sipush (pc := 39) dX9_printAll_39 ab_p16_2000 ab_k_2000 ?_
      refine ab_icmp_le (pc := 42) (tgt := 47) dX9_printAll_42 rfl (fun hc => ?_) (fun hc => ?_)
      · have hk := ab_ifp hk hc
        refine ab_aload_n (pc := 47) (i := 0) dX9_printAll_47 rfl rfl ?_
        obtain ⟨q7, hq7, hk⟩ := ab_bnd hk
        obtain ⟨hb, hq7⟩ := ab_on_some hq7
        refine ab_callVV (st := []) (as := []) (b := v0) (pc := 48) dX9_printAll_48 ml_RX9_399 my_X9_comesOut mv_X9_comesOut hb (ct_X9_comesOut hq7) ⟨Nat.le_of_ble_eq_true rfl, Nat.le_of_ble_eq_true rfl⟩ rfl (Nat.le_of_ble_eq_true rfl) rfl ?_
        refine ab_iinc (pc := 51) (i := 1) (lv2 := [some (ab_R v0), some (ab_I (ab_w32 (v1 + (1 : Int))))]) dX9_printAll_51 rfl (Nat.le_of_ble_eq_true rfl) rfl rfl ?_
        refine ab_goto (pc := 54) (tgt := 11) dX9_printAll_54 rfl ?_
        refine ab_sub_ (lv2 := [some (ab_R v0), some (ab_I (ab_w32 (v1 + (1 : Int))))]) (ab_ss (ab_ss ab_s0)) ?_
        exact ih _ _ _ _ hk
      · have hk := ab_ifn hk hc
        refine ab_iload_n (pc := 45) (i := 1) dX9_printAll_45 rfl rfl ?_
        obtain rfl := Option.some.inj hk
        exact ab_reti (pc := 46) dX9_printAll_46 (Or.inl rfl)
noncomputable def f_X9_printAll (a0 : Int) (h : ab_H) : Option (Int × ab_H) :=
  (ab_on h 10 a0 (f_X9_lays a0 h)).bind fun q1 =>
  (ab_put q1 10 28 a0 (0 : Int)).bind fun h1 =>
  f_X9_printAll_L11 ab_FU a0 (0 : Int) h1
set_option maxRecDepth 20000 in
theorem ct_X9_printAll {a0 : Int} {h : ab_H} {q : Int × ab_H} (hk : f_X9_printAll a0 h = some q) : ab_CT yX9_printAll cX9_printAll 2 (some .int) 6 133 [ab_R a0] h (some (ab_I q.1)) q.2 := by
  refine ab_CT.mk_ 1 (own := RX9) (ini := false) (lv := [some (ab_R a0), none]) rfl (by decide +kernel) (fun q => by cases q) rfl rfl ?_
  unfold f_X9_printAll at hk
  show ab_E mm_X9_printAll cX9_printAll 0 _ [] h _ _
  refine ab_aload_n (pc := 0) (i := 0) dX9_printAll_0 rfl rfl ?_
  obtain ⟨q1, hq1, hk⟩ := ab_bnd hk
  obtain ⟨hb, hq1⟩ := ab_on_some hq1
  refine ab_callVV (st := []) (as := []) (b := a0) (pc := 1) dX9_printAll_1 ml_RX9_314 my_X9_lays mv_X9_lays hb (ct_X9_lays hq1) ⟨Nat.le_of_ble_eq_true rfl, Nat.le_of_ble_eq_true rfl⟩ rfl (Nat.le_of_ble_eq_true rfl) rfl ?_
  refine ab_aload_n (pc := 4) (i := 0) dX9_printAll_4 rfl rfl ?_
  refine ab_iconst (pc := 5) dX9_printAll_5 ab_k_0 ?_
  obtain ⟨h1, hh1, hk⟩ := ab_bnd hk
  refine ab_putI_ (pc := 6) dX9_printAll_6 fl_RX9_320 (fun q => by cases q) hh1 ?_
  refine ab_iconst (pc := 9) dX9_printAll_9 ab_k_0 ?_
  refine ab_istore_n (pc := 10) (i := 1) (lv2 := [some (ab_R a0), some (ab_I (0 : Int))]) dX9_printAll_10 rfl (Nat.le_of_ble_eq_true rfl) rfl rfl ?_
  refine ab_sub_ (lv2 := [some (ab_R a0), some (ab_I (0 : Int))]) (ab_ss (ab_ss ab_s0)) ?_
  refine e_X9_printAll_L11 _ _ _ _ _ hk
theorem dX9_octet_0 : decode cX9_octet 0 = .ok (.iload_n 1, 1) := by decide +kernel
theorem dX9_octet_1 : decode cX9_octet 1 = .ok (.i2l, 1) := by decide +kernel
theorem dX9_octet_2 : decode cX9_octet 2 = .ok (.lconst 0, 1) := by decide +kernel
theorem dX9_octet_3 : decode cX9_octet 3 = .ok (.aload_n 0, 1) := by decide +kernel
theorem dX9_octet_4 : decode cX9_octet 4 = .ok (.getfield 320, 3) := by decide +kernel
theorem dX9_octet_7 : decode cX9_octet 7 = .ok (.iconst 1, 1) := by decide +kernel
theorem dX9_octet_8 : decode cX9_octet 8 = .ok (.isub, 1) := by decide +kernel
theorem dX9_octet_9 : decode cX9_octet 9 = .ok (.i2l, 1) := by decide +kernel
theorem dX9_octet_10 : decode cX9_octet 10 = .ok (.invokestatic 84, 3) := by decide +kernel
theorem dX9_octet_13 : decode cX9_octet 13 = .ok (.ifCond .eq 12, 3) := by decide +kernel
theorem dX9_octet_16 : decode cX9_octet 16 = .ok (.aload_n 0, 1) := by decide +kernel
theorem dX9_octet_17 : decode cX9_octet 17 = .ok (.getfield 52, 3) := by decide +kernel
theorem dX9_octet_20 : decode cX9_octet 20 = .ok (.iload_n 1, 1) := by decide +kernel
theorem dX9_octet_21 : decode cX9_octet 21 = .ok (.baload, 1) := by decide +kernel
theorem dX9_octet_22 : decode cX9_octet 22 = .ok (.goto 4, 3) := by decide +kernel
theorem dX9_octet_25 : decode cX9_octet 25 = .ok (.iconst (-1), 1) := by decide +kernel
theorem dX9_octet_26 : decode cX9_octet 26 = .ok (.ireturn, 1) := by decide +kernel
abbrev mm_X9_octet : ab_M := (RX9, 2, (some .int), false, 1, 25, none)
noncomputable def f_X9_octet (a0 : Int) (a1 : Int) (h : ab_H) : Option (Int × ab_H) :=
  (ab_get h 10 28 a0).bind fun t1 =>
  (f_X9_in a1 (0 : Int) (ab_w32 (t1 - (1 : Int))) h).bind fun q2 =>
  if q2.1 = (0 : Int) then
    some ((-1 : Int), q2.2)
  else
  (ab_get q2.2 10 27 a0).bind fun t3 =>
  (ab_ald q2.2 13 t3 a1).bind fun t4 =>
  some (t4, q2.2)
set_option maxRecDepth 20000 in
theorem ct_X9_octet {a0 a1 : Int} {h : ab_H} {q : Int × ab_H} (hk : f_X9_octet a0 a1 h = some q) : ab_CT yX9_octet cX9_octet 2 (some .int) 1 25 [ab_R a0, ab_I a1] h (some (ab_I q.1)) q.2 := by
  refine ab_CT.mk_ 0 (own := RX9) (ini := false) (lv := [some (ab_R a0), some (ab_I a1)]) rfl (by decide +kernel) (fun q => by cases q) rfl rfl ?_
  unfold f_X9_octet at hk
  show ab_E mm_X9_octet cX9_octet 0 _ [] h _ _
  refine ab_iload_n (pc := 0) (i := 1) dX9_octet_0 rfl rfl ?_
  refine ab_i2l_ (pc := 1) dX9_octet_1 ?_
  refine ab_lconst (x := (0 : Int)) (pc := 2) dX9_octet_2 rfl ab_kl_0 ?_
  refine ab_aload_n (pc := 3) (i := 0) dX9_octet_3 rfl rfl ?_
  obtain ⟨t1, ht1, hk⟩ := ab_bnd hk
  refine ab_getI (pc := 4) dX9_octet_4 fl_RX9_320 ht1 ?_
  refine ab_iconst (pc := 7) dX9_octet_7 ab_k_1 ?_
  refine ab_isub (pc := 8) dX9_octet_8 ?_
  refine ab_i2l_ (pc := 9) dX9_octet_9 ?_
  obtain ⟨q2, hq2, hk⟩ := ab_bnd hk
  refine ab_callSI (st := []) (as := [ab_J a1, ab_J (0 : Int), ab_J (ab_w32 (t1 - (1 : Int)))]) (pc := 10) dX9_octet_10 ml_RX9_84 my_X9_in ms_X9_in (ct_X9_in hq2) ⟨Nat.le_of_ble_eq_true rfl, Nat.le_of_ble_eq_true rfl⟩ rfl (Nat.le_of_ble_eq_true rfl) rfl ?_
  refine ab_if_eq (pc := 13) (tgt := 25) dX9_octet_13 rfl (fun hc => ?_) (fun hc => ?_)
  · have hk := ab_ifp hk hc
    refine ab_iconst (pc := 25) dX9_octet_25 ab_k_m1 ?_
    obtain rfl := Option.some.inj hk
    exact ab_reti (pc := 26) dX9_octet_26 (Or.inl rfl)
  · have hk := ab_ifn hk hc
    refine ab_aload_n (pc := 16) (i := 0) dX9_octet_16 rfl rfl ?_
    obtain ⟨t3, ht3, hk⟩ := ab_bnd hk
    refine ab_getR (pc := 17) dX9_octet_17 fl_RX9_52 ht3 ?_
    refine ab_iload_n (pc := 20) (i := 1) dX9_octet_20 rfl rfl ?_
    obtain ⟨t4, ht4, hk⟩ := ab_bnd hk
    refine ab_bald (pc := 21) dX9_octet_21 ht4 ?_
    refine ab_goto (pc := 22) (tgt := 26) dX9_octet_22 rfl ?_
    obtain rfl := Option.some.inj hk
    exact ab_reti (pc := 26) dX9_octet_26 (Or.inl rfl)
theorem dX9_longest_0 : decode cX9_longest 0 = .ok (.aload_n 0, 1) := by decide +kernel
theorem dX9_longest_1 : decode cX9_longest 1 = .ok (.invokevirtual 314, 3) := by decide +kernel
theorem dX9_longest_4 : decode cX9_longest 4 = .ok (.iconst (-1), 1) := by decide +kernel
theorem dX9_longest_5 : decode cX9_longest 5 = .ok (.istore_n 1, 1) := by decide +kernel
theorem dX9_longest_6 : decode cX9_longest 6 = .ok (.iconst 0, 1) := by decide +kernel
theorem dX9_longest_7 : decode cX9_longest 7 = .ok (.istore_n 2, 1) := by decide +kernel
theorem dX9_longest_8 : decode cX9_longest 8 = .ok (.iconst 0, 1) := by decide +kernel
theorem dX9_longest_9 : decode cX9_longest 9 = .ok (.istore_n 3, 1) := by decide +kernel
theorem dX9_longest_10 : decode cX9_longest 10 = .ok (.iload_n 3, 1) := by decide +kernel
theorem dX9_longest_11 : decode cX9_longest 11 = .ok (.aload_n 0, 1) := by decide +kernel
theorem dX9_longest_12 : decode cX9_longest 12 = .ok (.getfield 303, 3) := by decide +kernel
theorem dX9_longest_15 : decode cX9_longest 15 = .ok (.if_icmp .ge 32, 3) := by decide +kernel
theorem dX9_longest_18 : decode cX9_longest 18 = .ok (.aload_n 0, 1) := by decide +kernel
theorem dX9_longest_19 : decode cX9_longest 19 = .ok (.iload_n 3, 1) := by decide +kernel
theorem dX9_longest_20 : decode cX9_longest 20 = .ok (.invokevirtual 396, 3) := by decide +kernel
theorem dX9_longest_23 : decode cX9_longest 23 = .ok (.aload_n 0, 1) := by decide +kernel
theorem dX9_longest_24 : decode cX9_longest 24 = .ok (.getfield 380, 3) := by decide +kernel
theorem dX9_longest_27 : decode cX9_longest 27 = .ok (.iload_n 2, 1) := by decide +kernel
theorem dX9_longest_28 : decode cX9_longest 28 = .ok (.if_icmp .gt 6, 3) := by decide +kernel
theorem dX9_longest_31 : decode cX9_longest 31 = .ok (.goto 10, 3) := by decide +kernel
theorem dX9_longest_34 : decode cX9_longest 34 = .ok (.iload_n 3, 1) := by decide +kernel
theorem dX9_longest_35 : decode cX9_longest 35 = .ok (.istore_n 1, 1) := by decide +kernel
theorem dX9_longest_36 : decode cX9_longest 36 = .ok (.aload_n 0, 1) := by decide +kernel
theorem dX9_longest_37 : decode cX9_longest 37 = .ok (.getfield 380, 3) := by decide +kernel
theorem dX9_longest_40 : decode cX9_longest 40 = .ok (.istore_n 2, 1) := by decide +kernel
theorem dX9_longest_41 : decode cX9_longest 41 = .ok (.iinc 3 1, 3) := by decide +kernel
theorem dX9_longest_44 : decode cX9_longest 44 = .ok (.goto (-34), 3) := by decide +kernel
theorem dX9_longest_47 : decode cX9_longest 47 = .ok (.iload_n 1, 1) := by decide +kernel
theorem dX9_longest_48 : decode cX9_longest 48 = .ok (.ireturn, 1) := by decide +kernel
abbrev mm_X9_longest : ab_M := (RX9, 4, (some .int), false, 6, 133, none)
noncomputable def f_X9_longest_J41 (rec : Int → Int → Int → Int → ab_H → Option (Int × ab_H)) (v0 : Int) (v1 : Int) (v2 : Int) (v3 : Int) (h : ab_H) : Option (Int × ab_H) :=
  rec v0 v1 v2 (ab_w32 (v3 + (1 : Int))) h
set_option maxRecDepth 20000 in
theorem e_X9_longest_J41 {rec : Int → Int → Int → Int → ab_H → Option (Int × ab_H)} (hrec : ∀ (v0 : Int) (v1 : Int) (v2 : Int) (v3 : Int) (h : ab_H) (q : Int × ab_H), rec v0 v1 v2 v3 h = some q → ab_E mm_X9_longest cX9_longest 10 [some (ab_R v0), some (ab_I v1), some (ab_I v2), some (ab_I v3)] [] h (some (ab_I q.1)) q.2) : ∀ (v0 : Int) (v1 : Int) (v2 : Int) (v3 : Int) (h : ab_H) (q : Int × ab_H), f_X9_longest_J41 rec v0 v1 v2 v3 h = some q → ab_E mm_X9_longest cX9_longest 41 [some (ab_R v0), some (ab_I v1), some (ab_I v2), some (ab_I v3)] [] h (some (ab_I q.1)) q.2 := by
  intro v0 v1 v2 v3 h q hk
  unfold f_X9_longest_J41 at hk
  refine ab_iinc (pc := 41) (i := 3) (lv2 := [some (ab_R v0), some (ab_I v1), some (ab_I v2), some (ab_I (ab_w32 (v3 + (1 : Int))))]) dX9_longest_41 rfl (Nat.le_of_ble_eq_true rfl) rfl rfl ?_
  refine ab_goto (pc := 44) (tgt := 10) dX9_longest_44 rfl ?_
  refine ab_sub_ (lv2 := [some (ab_R v0), some (ab_I v1), some (ab_I v2), some (ab_I (ab_w32 (v3 + (1 : Int))))]) (ab_ss (ab_ss (ab_ss (ab_ss ab_s0)))) ?_
  exact hrec _ _ _ _ _ _ hk
noncomputable def f_X9_longest_L10 : Nat → Int → Int → Int → Int → ab_H → Option (Int × ab_H)
  | 0, _, _, _, _, _ => none
  | n + 1, v0, v1, v2, v3, h =>
    (ab_get h 10 17 v0).bind fun t1 =>
    if t1 ≤ v3 then
      some (v1, h)
    else
    (ab_on h 10 v0 (f_X9_prints v0 v3 h)).bind fun q2 =>
    (ab_get q2 10 30 v0).bind fun t3 =>
    if v2 < t3 then
      (ab_get q2 10 30 v0).bind fun t4 =>
      f_X9_longest_J41 (f_X9_longest_L10 n) v0 v3 t4 v3 q2
    else
    f_X9_longest_J41 (f_X9_longest_L10 n) v0 v1 v2 v3 q2
set_option maxRecDepth 20000 in
theorem e_X9_longest_L10 : ∀ (n : Nat) (v0 : Int) (v1 : Int) (v2 : Int) (v3 : Int) (h : ab_H) (q : Int × ab_H), f_X9_longest_L10 n v0 v1 v2 v3 h = some q → ab_E mm_X9_longest cX9_longest 10 [some (ab_R v0), some (ab_I v1), some (ab_I v2), some (ab_I v3)] [] h (some (ab_I q.1)) q.2 := by
  intro n
  induction n with
  | zero => intro v0 v1 v2 v3 h q hk; cases hk
  | succ n ih =>
    intro v0 v1 v2 v3 h q hk
    unfold f_X9_longest_L10 at hk
    refine ab_iload_n (pc := 10) (i := 3) dX9_longest_10 rfl rfl ?_
    refine ab_aload_n (pc := 11) (i := 0) dX9_longest_11 rfl rfl ?_
    obtain ⟨t1, ht1, hk⟩ := ab_bnd hk
    refine ab_getI (pc := 12) dX9_longest_12 fl_RX9_303 ht1 ?_
    refine ab_icmp_ge (pc := 15) (tgt := 47) dX9_longest_15 rfl (fun hc => ?_) (fun hc => ?_)
    · have hk := ab_ifp hk hc
      refine ab_iload_n (pc := 47) (i := 1) dX9_longest_47 rfl rfl ?_
      obtain rfl := Option.some.inj hk
      exact ab_reti (pc := 48) dX9_longest_48 (Or.inl rfl)
    · have hk := ab_ifn hk hc
      refine ab_aload_n (pc := 18) (i := 0) dX9_longest_18 rfl rfl ?_
      refine ab_iload_n (pc := 19) (i := 3) dX9_longest_19 rfl rfl ?_
      obtain ⟨q2, hq2, hk⟩ := ab_bnd hk
      obtain ⟨hb, hq2⟩ := ab_on_some hq2
      refine ab_callVV (st := []) (as := [ab_I v3]) (b := v0) (pc := 20) dX9_longest_20 ml_RX9_396 my_X9_prints mv_X9_prints hb (ct_X9_prints hq2) ⟨Nat.le_of_ble_eq_true rfl, Nat.le_of_ble_eq_true rfl⟩ rfl (Nat.le_of_ble_eq_true rfl) rfl ?_
      refine ab_aload_n (pc := 23) (i := 0) dX9_longest_23 rfl rfl ?_
      obtain ⟨t3, ht3, hk⟩ := ab_bnd hk
      refine ab_getI (pc := 24) dX9_longest_24 fl_RX9_380 ht3 ?_
      refine ab_iload_n (pc := 27) (i := 2) dX9_longest_27 rfl rfl ?_
      refine ab_icmp_gt (pc := 28) (tgt := 34) dX9_longest_28 rfl (fun hc => ?_) (fun hc => ?_)
      · have hk := ab_ifp hk hc
        refine ab_iload_n (pc := 34) (i := 3) dX9_longest_34 rfl rfl ?_
        refine ab_istore_n (pc := 35) (i := 1) (lv2 := [some (ab_R v0), some (ab_I v3), some (ab_I v2), some (ab_I v3)]) dX9_longest_35 rfl (Nat.le_of_ble_eq_true rfl) rfl rfl ?_
        refine ab_aload_n (pc := 36) (i := 0) dX9_longest_36 rfl rfl ?_
        obtain ⟨t4, ht4, hk⟩ := ab_bnd hk
        refine ab_getI (pc := 37) dX9_longest_37 fl_RX9_380 ht4 ?_
        refine ab_istore_n (pc := 40) (i := 2) (lv2 := [some (ab_R v0), some (ab_I v3), some (ab_I t4), some (ab_I v3)]) dX9_longest_40 rfl (Nat.le_of_ble_eq_true rfl) rfl rfl ?_
        refine ab_sub_ (lv2 := [some (ab_R v0), some (ab_I v3), some (ab_I t4), some (ab_I v3)]) (ab_ss (ab_ss (ab_ss (ab_ss ab_s0)))) ?_
        exact e_X9_longest_J41 ih _ _ _ _ _ _ hk
      · have hk := ab_ifn hk hc
        refine ab_goto (pc := 31) (tgt := 41) dX9_longest_31 rfl ?_
        refine ab_sub_ (lv2 := [some (ab_R v0), some (ab_I v1), some (ab_I v2), some (ab_I v3)]) (ab_ss (ab_ss (ab_ss (ab_ss ab_s0)))) ?_
        exact e_X9_longest_J41 ih _ _ _ _ _ _ hk
noncomputable def f_X9_longest (a0 : Int) (h : ab_H) : Option (Int × ab_H) :=
  (ab_on h 10 a0 (f_X9_lays a0 h)).bind fun q1 =>
  f_X9_longest_L10 ab_FU a0 (-1 : Int) (0 : Int) (0 : Int) q1
set_option maxRecDepth 20000 in
theorem ct_X9_longest {a0 : Int} {h : ab_H} {q : Int × ab_H} (hk : f_X9_longest a0 h = some q) : ab_CT yX9_longest cX9_longest 4 (some .int) 6 133 [ab_R a0] h (some (ab_I q.1)) q.2 := by
  refine ab_CT.mk_ 3 (own := RX9) (ini := false) (lv := [some (ab_R a0), none, none, none]) rfl (by decide +kernel) (fun q => by cases q) rfl rfl ?_
  unfold f_X9_longest at hk
  show ab_E mm_X9_longest cX9_longest 0 _ [] h _ _
  refine ab_aload_n (pc := 0) (i := 0) dX9_longest_0 rfl rfl ?_
  obtain ⟨q1, hq1, hk⟩ := ab_bnd hk
  obtain ⟨hb, hq1⟩ := ab_on_some hq1
  refine ab_callVV (st := []) (as := []) (b := a0) (pc := 1) dX9_longest_1 ml_RX9_314 my_X9_lays mv_X9_lays hb (ct_X9_lays hq1) ⟨Nat.le_of_ble_eq_true rfl, Nat.le_of_ble_eq_true rfl⟩ rfl (Nat.le_of_ble_eq_true rfl) rfl ?_
  refine ab_iconst (pc := 4) dX9_longest_4 ab_k_m1 ?_
  refine ab_istore_n (pc := 5) (i := 1) (lv2 := [some (ab_R a0), some (ab_I (-1 : Int)), none, none]) dX9_longest_5 rfl (Nat.le_of_ble_eq_true rfl) rfl rfl ?_
  refine ab_iconst (pc := 6) dX9_longest_6 ab_k_0 ?_
  refine ab_istore_n (pc := 7) (i := 2) (lv2 := [some (ab_R a0), some (ab_I (-1 : Int)), some (ab_I (0 : Int)), none]) dX9_longest_7 rfl (Nat.le_of_ble_eq_true rfl) rfl rfl ?_
  refine ab_iconst (pc := 8) dX9_longest_8 ab_k_0 ?_
  refine ab_istore_n (pc := 9) (i := 3) (lv2 := [some (ab_R a0), some (ab_I (-1 : Int)), some (ab_I (0 : Int)), some (ab_I (0 : Int))]) dX9_longest_9 rfl (Nat.le_of_ble_eq_true rfl) rfl rfl ?_
  refine ab_sub_ (lv2 := [some (ab_R a0), some (ab_I (-1 : Int)), some (ab_I (0 : Int)), some (ab_I (0 : Int))]) (ab_ss (ab_ss (ab_ss (ab_ss ab_s0)))) ?_
  refine e_X9_longest_L10 _ _ _ _ _ _ _ hk
theorem dX9_rebuilt_0 : decode cX9_rebuilt 0 = .ok (.iload_n 1, 1) := by decide +kernel
theorem dX9_rebuilt_1 : decode cX9_rebuilt 1 = .ok (.ifCond .ge 6, 3) := by decide +kernel
theorem dX9_rebuilt_4 : decode cX9_rebuilt 4 = .ok (.bipush (-2), 2) := by decide +kernel
theorem dX9_rebuilt_6 : decode cX9_rebuilt 6 = .ok (.ireturn, 1) := by decide +kernel
theorem dX9_rebuilt_7 : decode cX9_rebuilt 7 = .ok (.aload_n 0, 1) := by decide +kernel
theorem dX9_rebuilt_8 : decode cX9_rebuilt 8 = .ok (.invokevirtual 314, 3) := by decide +kernel
theorem dX9_rebuilt_11 : decode cX9_rebuilt 11 = .ok (.iload_n 1, 1) := by decide +kernel
theorem dX9_rebuilt_12 : decode cX9_rebuilt 12 = .ok (.aload_n 0, 1) := by decide +kernel
theorem dX9_rebuilt_13 : decode cX9_rebuilt 13 = .ok (.getfield 267, 3) := by decide +kernel
theorem dX9_rebuilt_16 : decode cX9_rebuilt 16 = .ok (.if_icmp .lt 5, 3) := by decide +kernel
theorem dX9_rebuilt_19 : decode cX9_rebuilt 19 = .ok (.iconst (-1), 1) := by decide +kernel
theorem dX9_rebuilt_20 : decode cX9_rebuilt 20 = .ok (.ireturn, 1) := by decide +kernel
theorem dX9_rebuilt_21 : decode cX9_rebuilt 21 = .ok (.bipush 12, 2) := by decide +kernel
theorem dX9_rebuilt_23 : decode cX9_rebuilt 23 = .ok (.istore_n 2, 1) := by decide +kernel
theorem dX9_rebuilt_24 : decode cX9_rebuilt 24 = .ok (.iconst 0, 1) := by decide +kernel
theorem dX9_rebuilt_25 : decode cX9_rebuilt 25 = .ok (.istore_n 3, 1) := by decide +kernel
theorem dX9_rebuilt_26 : decode cX9_rebuilt 26 = .ok (.iload_n 3, 1) := by decide +kernel
theorem dX9_rebuilt_27 : decode cX9_rebuilt 27 = .ok (.aload_n 0, 1) := by decide +kernel
theorem dX9_rebuilt_28 : decode cX9_rebuilt 28 = .ok (.getfield 267, 3) := by decide +kernel
theorem dX9_rebuilt_31 : decode cX9_rebuilt 31 = .ok (.if_icmp .ge 40, 3) := by decide +kernel
theorem dX9_rebuilt_34 : decode cX9_rebuilt 34 = .ok (.aload_n 0, 1) := by decide +kernel
theorem dX9_rebuilt_35 : decode cX9_rebuilt 35 = .ok (.getfield 40, 3) := by decide +kernel
theorem dX9_rebuilt_38 : decode cX9_rebuilt 38 = .ok (.iload_n 3, 1) := by decide +kernel
theorem dX9_rebuilt_39 : decode cX9_rebuilt 39 = .ok (.iaload, 1) := by decide +kernel
theorem dX9_rebuilt_40 : decode cX9_rebuilt 40 = .ok (.aload_n 0, 1) := by decide +kernel
theorem dX9_rebuilt_41 : decode cX9_rebuilt 41 = .ok (.getfield 40, 3) := by decide +kernel
theorem dX9_rebuilt_44 : decode cX9_rebuilt 44 = .ok (.iload_n 1, 1) := by decide +kernel
theorem dX9_rebuilt_45 : decode cX9_rebuilt 45 = .ok (.iaload, 1) := by decide +kernel
theorem dX9_rebuilt_46 : decode cX9_rebuilt 46 = .ok (.if_icmp .ne 19, 3) := by decide +kernel
theorem dX9_rebuilt_49 : decode cX9_rebuilt 49 = .ok (.iload_n 2, 1) := by decide +kernel
theorem dX9_rebuilt_50 : decode cX9_rebuilt 50 = .ok (.aload_n 0, 1) := by decide +kernel
theorem dX9_rebuilt_51 : decode cX9_rebuilt 51 = .ok (.getfield 31, 3) := by decide +kernel
theorem dX9_rebuilt_54 : decode cX9_rebuilt 54 = .ok (.aload_n 0, 1) := by decide +kernel
theorem dX9_rebuilt_55 : decode cX9_rebuilt 55 = .ok (.getfield 49, 3) := by decide +kernel
theorem dX9_rebuilt_58 : decode cX9_rebuilt 58 = .ok (.iload_n 3, 1) := by decide +kernel
theorem dX9_rebuilt_59 : decode cX9_rebuilt 59 = .ok (.iaload, 1) := by decide +kernel
theorem dX9_rebuilt_60 : decode cX9_rebuilt 60 = .ok (.iaload, 1) := by decide +kernel
theorem dX9_rebuilt_61 : decode cX9_rebuilt 61 = .ok (.invokestatic 123, 3) := by decide +kernel
theorem dX9_rebuilt_64 : decode cX9_rebuilt 64 = .ok (.istore_n 2, 1) := by decide +kernel
theorem dX9_rebuilt_65 : decode cX9_rebuilt 65 = .ok (.iinc 3 1, 3) := by decide +kernel
theorem dX9_rebuilt_68 : decode cX9_rebuilt 68 = .ok (.goto (-42), 3) := by decide +kernel
theorem dX9_rebuilt_71 : decode cX9_rebuilt 71 = .ok (.iload_n 2, 1) := by decide +kernel
theorem dX9_rebuilt_72 : decode cX9_rebuilt 72 = .ok (.ireturn, 1) := by decide +kernel
abbrev mm_X9_rebuilt : ab_M := (RX9, 4, (some .int), false, 6, 133, none)
noncomputable def f_X9_rebuilt_J65 (rec : Int → Int → Int → Int → ab_H → Option (Int × ab_H)) (v0 : Int) (v1 : Int) (v2 : Int) (v3 : Int) (h : ab_H) : Option (Int × ab_H) :=
  rec v0 v1 v2 (ab_w32 (v3 + (1 : Int))) h
set_option maxRecDepth 20000 in
theorem e_X9_rebuilt_J65 {rec : Int → Int → Int → Int → ab_H → Option (Int × ab_H)} (hrec : ∀ (v0 : Int) (v1 : Int) (v2 : Int) (v3 : Int) (h : ab_H) (q : Int × ab_H), rec v0 v1 v2 v3 h = some q → ab_E mm_X9_rebuilt cX9_rebuilt 26 [some (ab_R v0), some (ab_I v1), some (ab_I v2), some (ab_I v3)] [] h (some (ab_I q.1)) q.2) : ∀ (v0 : Int) (v1 : Int) (v2 : Int) (v3 : Int) (h : ab_H) (q : Int × ab_H), f_X9_rebuilt_J65 rec v0 v1 v2 v3 h = some q → ab_E mm_X9_rebuilt cX9_rebuilt 65 [some (ab_R v0), some (ab_I v1), some (ab_I v2), some (ab_I v3)] [] h (some (ab_I q.1)) q.2 := by
  intro v0 v1 v2 v3 h q hk
  unfold f_X9_rebuilt_J65 at hk
  refine ab_iinc (pc := 65) (i := 3) (lv2 := [some (ab_R v0), some (ab_I v1), some (ab_I v2), some (ab_I (ab_w32 (v3 + (1 : Int))))]) dX9_rebuilt_65 rfl (Nat.le_of_ble_eq_true rfl) rfl rfl ?_
  refine ab_goto (pc := 68) (tgt := 26) dX9_rebuilt_68 rfl ?_
  refine ab_sub_ (lv2 := [some (ab_R v0), some (ab_I v1), some (ab_I v2), some (ab_I (ab_w32 (v3 + (1 : Int))))]) (ab_ss (ab_ss (ab_ss (ab_ss ab_s0)))) ?_
  exact hrec _ _ _ _ _ _ hk
noncomputable def f_X9_rebuilt_L26 : Nat → Int → Int → Int → Int → ab_H → Option (Int × ab_H)
  | 0, _, _, _, _, _ => none
  | n + 1, v0, v1, v2, v3, h =>
    (ab_get h 10 16 v0).bind fun t1 =>
    if t1 ≤ v3 then
      some (v2, h)
    else
    (ab_get h 10 22 v0).bind fun t2 =>
    (ab_ald h 11 t2 v3).bind fun t3 =>
    (ab_get h 10 22 v0).bind fun t4 =>
    (ab_ald h 11 t4 v1).bind fun t5 =>
    if t3 = t5 then
      (ab_get h 10 19 v0).bind fun t6 =>
      (ab_get h 10 26 v0).bind fun t7 =>
      (ab_ald h 11 t7 v3).bind fun t8 =>
      (ab_ald h 11 t6 t8).bind fun t9 =>
      f_X9_rebuilt_J65 (f_X9_rebuilt_L26 n) v0 v1 (ab_mn v2 t9) v3 h
    else
    f_X9_rebuilt_J65 (f_X9_rebuilt_L26 n) v0 v1 v2 v3 h
set_option maxRecDepth 20000 in
theorem e_X9_rebuilt_L26 : ∀ (n : Nat) (v0 : Int) (v1 : Int) (v2 : Int) (v3 : Int) (h : ab_H) (q : Int × ab_H), f_X9_rebuilt_L26 n v0 v1 v2 v3 h = some q → ab_E mm_X9_rebuilt cX9_rebuilt 26 [some (ab_R v0), some (ab_I v1), some (ab_I v2), some (ab_I v3)] [] h (some (ab_I q.1)) q.2 := by
  intro n
  induction n with
  | zero => intro v0 v1 v2 v3 h q hk; cases hk
  | succ n ih =>
    intro v0 v1 v2 v3 h q hk
    unfold f_X9_rebuilt_L26 at hk
    refine ab_iload_n (pc := 26) (i := 3) dX9_rebuilt_26 rfl rfl ?_
    refine ab_aload_n (pc := 27) (i := 0) dX9_rebuilt_27 rfl rfl ?_
    obtain ⟨t1, ht1, hk⟩ := ab_bnd hk
    refine ab_getI (pc := 28) dX9_rebuilt_28 fl_RX9_267 ht1 ?_
    refine ab_icmp_ge (pc := 31) (tgt := 71) dX9_rebuilt_31 rfl (fun hc => ?_) (fun hc => ?_)
    · have hk := ab_ifp hk hc
      refine ab_iload_n (pc := 71) (i := 2) dX9_rebuilt_71 rfl rfl ?_
      obtain rfl := Option.some.inj hk
      exact ab_reti (pc := 72) dX9_rebuilt_72 (Or.inl rfl)
    · have hk := ab_ifn hk hc
      refine ab_aload_n (pc := 34) (i := 0) dX9_rebuilt_34 rfl rfl ?_
      obtain ⟨t2, ht2, hk⟩ := ab_bnd hk
      refine ab_getR (pc := 35) dX9_rebuilt_35 fl_RX9_40 ht2 ?_
      refine ab_iload_n (pc := 38) (i := 3) dX9_rebuilt_38 rfl rfl ?_
      obtain ⟨t3, ht3, hk⟩ := ab_bnd hk
      refine ab_iald (pc := 39) dX9_rebuilt_39 ht3 ?_
      refine ab_aload_n (pc := 40) (i := 0) dX9_rebuilt_40 rfl rfl ?_
      obtain ⟨t4, ht4, hk⟩ := ab_bnd hk
      refine ab_getR (pc := 41) dX9_rebuilt_41 fl_RX9_40 ht4 ?_
      refine ab_iload_n (pc := 44) (i := 1) dX9_rebuilt_44 rfl rfl ?_
      obtain ⟨t5, ht5, hk⟩ := ab_bnd hk
      refine ab_iald (pc := 45) dX9_rebuilt_45 ht5 ?_
      refine ab_icmp_ne (pc := 46) (tgt := 65) dX9_rebuilt_46 rfl (fun hc => ?_) (fun hc => ?_)
      · have hk := ab_ifn hk hc
        refine ab_sub_ (lv2 := [some (ab_R v0), some (ab_I v1), some (ab_I v2), some (ab_I v3)]) (ab_ss (ab_ss (ab_ss (ab_ss ab_s0)))) ?_
        exact e_X9_rebuilt_J65 ih _ _ _ _ _ _ hk
      · have hk := ab_ifp hk hc
        refine ab_iload_n (pc := 49) (i := 2) dX9_rebuilt_49 rfl rfl ?_
        refine ab_aload_n (pc := 50) (i := 0) dX9_rebuilt_50 rfl rfl ?_
        obtain ⟨t6, ht6, hk⟩ := ab_bnd hk
        refine ab_getR (pc := 51) dX9_rebuilt_51 fl_RX9_31 ht6 ?_
        refine ab_aload_n (pc := 54) (i := 0) dX9_rebuilt_54 rfl rfl ?_
        obtain ⟨t7, ht7, hk⟩ := ab_bnd hk
        refine ab_getR (pc := 55) dX9_rebuilt_55 fl_RX9_49 ht7 ?_
        refine ab_iload_n (pc := 58) (i := 3) dX9_rebuilt_58 rfl rfl ?_
        obtain ⟨t8, ht8, hk⟩ := ab_bnd hk
        refine ab_iald (pc := 59) dX9_rebuilt_59 ht8 ?_
        obtain ⟨t9, ht9, hk⟩ := ab_bnd hk
        refine ab_iald (pc := 60) dX9_rebuilt_60 ht9 ?_
        refine ab_mmin_ (st := []) (pc := 61) dX9_rebuilt_61 mt_RX9_123 (Nat.le_of_ble_eq_true rfl) (Nat.le_of_ble_eq_true rfl) (Nat.le_of_ble_eq_true rfl) ?_
        refine ab_istore_n (pc := 64) (i := 2) (lv2 := [some (ab_R v0), some (ab_I v1), some (ab_I (ab_mn v2 t9)), some (ab_I v3)]) dX9_rebuilt_64 rfl (Nat.le_of_ble_eq_true rfl) rfl rfl ?_
        refine ab_sub_ (lv2 := [some (ab_R v0), some (ab_I v1), some (ab_I (ab_mn v2 t9)), some (ab_I v3)]) (ab_ss (ab_ss (ab_ss (ab_ss ab_s0)))) ?_
        exact e_X9_rebuilt_J65 ih _ _ _ _ _ _ hk
noncomputable def f_X9_rebuilt (a0 : Int) (a1 : Int) (h : ab_H) : Option (Int × ab_H) :=
  if (0 : Int) ≤ a1 then
    (ab_on h 10 a0 (f_X9_lays a0 h)).bind fun q1 =>
    (ab_get q1 10 16 a0).bind fun t2 =>
    if a1 < t2 then
      f_X9_rebuilt_L26 ab_FU a0 a1 (12 : Int) (0 : Int) q1
    else
    some ((-1 : Int), q1)
  else
  some ((-2 : Int), h)
set_option maxRecDepth 20000 in
theorem ct_X9_rebuilt {a0 a1 : Int} {h : ab_H} {q : Int × ab_H} (hk : f_X9_rebuilt a0 a1 h = some q) : ab_CT yX9_rebuilt cX9_rebuilt 4 (some .int) 6 133 [ab_R a0, ab_I a1] h (some (ab_I q.1)) q.2 := by
  refine ab_CT.mk_ 2 (own := RX9) (ini := false) (lv := [some (ab_R a0), some (ab_I a1), none, none]) rfl (by decide +kernel) (fun q => by cases q) rfl rfl ?_
  unfold f_X9_rebuilt at hk
  show ab_E mm_X9_rebuilt cX9_rebuilt 0 _ [] h _ _
  refine ab_iload_n (pc := 0) (i := 1) dX9_rebuilt_0 rfl rfl ?_
  refine ab_if_ge (pc := 1) (tgt := 7) dX9_rebuilt_1 rfl (fun hc => ?_) (fun hc => ?_)
  · have hk := ab_ifp hk hc
    refine ab_aload_n (pc := 7) (i := 0) dX9_rebuilt_7 rfl rfl ?_
    obtain ⟨q1, hq1, hk⟩ := ab_bnd hk
    obtain ⟨hb, hq1⟩ := ab_on_some hq1
    refine ab_callVV (st := []) (as := []) (b := a0) (pc := 8) dX9_rebuilt_8 ml_RX9_314 my_X9_lays mv_X9_lays hb (ct_X9_lays hq1) ⟨Nat.le_of_ble_eq_true rfl, Nat.le_of_ble_eq_true rfl⟩ rfl (Nat.le_of_ble_eq_true rfl) rfl ?_
    refine ab_iload_n (pc := 11) (i := 1) dX9_rebuilt_11 rfl rfl ?_
    refine ab_aload_n (pc := 12) (i := 0) dX9_rebuilt_12 rfl rfl ?_
    obtain ⟨t2, ht2, hk⟩ := ab_bnd hk
    refine ab_getI (pc := 13) dX9_rebuilt_13 fl_RX9_267 ht2 ?_
    refine ab_icmp_lt (pc := 16) (tgt := 21) dX9_rebuilt_16 rfl (fun hc => ?_) (fun hc => ?_)
    · have hk := ab_ifp hk hc
      refine ab_bipush (pc := 21) dX9_rebuilt_21 ab_p8_12 ab_k_12 ?_
      refine ab_istore_n (pc := 23) (i := 2) (lv2 := [some (ab_R a0), some (ab_I a1), some (ab_I (12 : Int)), none]) dX9_rebuilt_23 rfl (Nat.le_of_ble_eq_true rfl) rfl rfl ?_
      refine ab_iconst (pc := 24) dX9_rebuilt_24 ab_k_0 ?_
      refine ab_istore_n (pc := 25) (i := 3) (lv2 := [some (ab_R a0), some (ab_I a1), some (ab_I (12 : Int)), some (ab_I (0 : Int))]) dX9_rebuilt_25 rfl (Nat.le_of_ble_eq_true rfl) rfl rfl ?_
      refine ab_sub_ (lv2 := [some (ab_R a0), some (ab_I a1), some (ab_I (12 : Int)), some (ab_I (0 : Int))]) (ab_ss (ab_ss (ab_ss (ab_ss ab_s0)))) ?_
      refine e_X9_rebuilt_L26 _ _ _ _ _ _ _ hk
    · have hk := ab_ifn hk hc
      refine ab_iconst (pc := 19) dX9_rebuilt_19 ab_k_m1 ?_
      obtain rfl := Option.some.inj hk
      exact ab_reti (pc := 20) dX9_rebuilt_20 (Or.inl rfl)
  · have hk := ab_ifn hk hc
    refine ab_bipush (pc := 4) dX9_rebuilt_4 ab_p8_m2 ab_k_m2 ?_
    obtain rfl := Option.some.inj hk
    exact ab_reti (pc := 6) dX9_rebuilt_6 (Or.inl rfl)
theorem dX9_begins_0 : decode cX9_begins 0 = .ok (.aload_n 0, 1) := by decide +kernel
theorem dX9_begins_1 : decode cX9_begins 1 = .ok (.invokevirtual 351, 3) := by decide +kernel
theorem dX9_begins_4 : decode cX9_begins 4 = .ok (.istore_n 2, 1) := by decide +kernel
theorem dX9_begins_5 : decode cX9_begins 5 = .ok (.iload_n 2, 1) := by decide +kernel
theorem dX9_begins_6 : decode cX9_begins 6 = .ok (.iconst (-1), 1) := by decide +kernel
theorem dX9_begins_7 : decode cX9_begins 7 = .ok (.if_icmp .eq 8, 3) := by decide +kernel
theorem dX9_begins_10 : decode cX9_begins 10 = .ok (.iload_n 1, 1) := by decide +kernel
theorem dX9_begins_11 : decode cX9_begins 11 = .ok (.iconst (-1), 1) := by decide +kernel
theorem dX9_begins_12 : decode cX9_begins 12 = .ok (.if_icmp .ge 6, 3) := by decide +kernel
theorem dX9_begins_15 : decode cX9_begins 15 = .ok (.bipush (-2), 2) := by decide +kernel
theorem dX9_begins_17 : decode cX9_begins 17 = .ok (.ireturn, 1) := by decide +kernel
theorem dX9_begins_18 : decode cX9_begins 18 = .ok (.aload_n 0, 1) := by decide +kernel
theorem dX9_begins_19 : decode cX9_begins 19 = .ok (.invokevirtual 314, 3) := by decide +kernel
theorem dX9_begins_22 : decode cX9_begins 22 = .ok (.iconst 0, 1) := by decide +kernel
theorem dX9_begins_23 : decode cX9_begins 23 = .ok (.istore_n 3, 1) := by decide +kernel
theorem dX9_begins_24 : decode cX9_begins 24 = .ok (.aload_n 0, 1) := by decide +kernel
theorem dX9_begins_25 : decode cX9_begins 25 = .ok (.iconst 0, 1) := by decide +kernel
theorem dX9_begins_26 : decode cX9_begins 26 = .ok (.iload_n 2, 1) := by decide +kernel
theorem dX9_begins_27 : decode cX9_begins 27 = .ok (.invokevirtual 189, 3) := by decide +kernel
theorem dX9_begins_30 : decode cX9_begins 30 = .ok (.lstore 4, 2) := by decide +kernel
theorem dX9_begins_32 : decode cX9_begins 32 = .ok (.iconst 5, 1) := by decide +kernel
theorem dX9_begins_33 : decode cX9_begins 33 = .ok (.bipush 7, 2) := by decide +kernel
theorem dX9_begins_35 : decode cX9_begins 35 = .ok (.iload_n 2, 1) := by decide +kernel
theorem dX9_begins_36 : decode cX9_begins 36 = .ok (.isub, 1) := by decide +kernel
theorem dX9_begins_37 : decode cX9_begins 37 = .ok (.imul, 1) := by decide +kernel
theorem dX9_begins_38 : decode cX9_begins 38 = .ok (.istore 6, 2) := by decide +kernel
theorem dX9_begins_40 : decode cX9_begins 40 = .ok (.iconst 0, 1) := by decide +kernel
theorem dX9_begins_41 : decode cX9_begins 41 = .ok (.istore 7, 2) := by decide +kernel
theorem dX9_begins_43 : decode cX9_begins 43 = .ok (.iload 7, 2) := by decide +kernel
theorem dX9_begins_45 : decode cX9_begins 45 = .ok (.aload_n 0, 1) := by decide +kernel
theorem dX9_begins_46 : decode cX9_begins 46 = .ok (.getfield 306, 3) := by decide +kernel
theorem dX9_begins_49 : decode cX9_begins 49 = .ok (.if_icmp .ge 46, 3) := by decide +kernel
theorem dX9_begins_52 : decode cX9_begins 52 = .ok (.aload_n 0, 1) := by decide +kernel
theorem dX9_begins_53 : decode cX9_begins 53 = .ok (.getfield 24, 3) := by decide +kernel
theorem dX9_begins_56 : decode cX9_begins 56 = .ok (.aload_n 0, 1) := by decide +kernel
theorem dX9_begins_57 : decode cX9_begins 57 = .ok (.iload 7, 2) := by decide +kernel
theorem dX9_begins_59 : decode cX9_begins 59 = .ok (.invokevirtual 371, 3) := by decide +kernel
theorem dX9_begins_62 : decode cX9_begins 62 = .ok (.laload, 1) := by decide +kernel
theorem dX9_begins_63 : decode cX9_begins 63 = .ok (.iload 6, 2) := by decide +kernel
theorem dX9_begins_65 : decode cX9_begins 65 = .ok (.lshr, 1) := by decide +kernel
theorem dX9_begins_66 : decode cX9_begins 66 = .ok (.lload 4, 2) := by decide +kernel
theorem dX9_begins_68 : decode cX9_begins 68 = .ok (.iload 6, 2) := by decide +kernel
theorem dX9_begins_70 : decode cX9_begins 70 = .ok (.lshr, 1) := by decide +kernel
theorem dX9_begins_71 : decode cX9_begins 71 = .ok (.lcmp, 1) := by decide +kernel
theorem dX9_begins_72 : decode cX9_begins 72 = .ok (.ifCond .eq 6, 3) := by decide +kernel
theorem dX9_begins_75 : decode cX9_begins 75 = .ok (.goto 14, 3) := by decide +kernel
theorem dX9_begins_78 : decode cX9_begins 78 = .ok (.iload_n 3, 1) := by decide +kernel
theorem dX9_begins_79 : decode cX9_begins 79 = .ok (.iload_n 1, 1) := by decide +kernel
theorem dX9_begins_80 : decode cX9_begins 80 = .ok (.if_icmp .ne 6, 3) := by decide +kernel
theorem dX9_begins_83 : decode cX9_begins 83 = .ok (.iload 7, 2) := by decide +kernel
theorem dX9_begins_85 : decode cX9_begins 85 = .ok (.ireturn, 1) := by decide +kernel
theorem dX9_begins_86 : decode cX9_begins 86 = .ok (.iinc 3 1, 3) := by decide +kernel
theorem dX9_begins_89 : decode cX9_begins 89 = .ok (.iinc 7 1, 3) := by decide +kernel
theorem dX9_begins_92 : decode cX9_begins 92 = .ok (.goto (-49), 3) := by decide +kernel
theorem dX9_begins_95 : decode cX9_begins 95 = .ok (.iload_n 1, 1) := by decide +kernel
theorem dX9_begins_96 : decode cX9_begins 96 = .ok (.iconst (-1), 1) := by decide +kernel
theorem dX9_begins_97 : decode cX9_begins 97 = .ok (.if_icmp .ne 7, 3) := by decide +kernel
theorem dX9_begins_100 : decode cX9_begins 100 = .ok (.iload_n 3, 1) := by decide +kernel
theorem dX9_begins_101 : decode cX9_begins 101 = .ok (.goto 4, 3) := by decide +kernel
theorem dX9_begins_104 : decode cX9_begins 104 = .ok (.iconst (-1), 1) := by decide +kernel
theorem dX9_begins_105 : decode cX9_begins 105 = .ok (.ireturn, 1) := by decide +kernel
abbrev mm_X9_begins : ab_M := (RX9, 8, (some .int), false, 6, 133, none)
noncomputable def f_X9_begins_J89 (rec : Int → Int → Int → Int → Int → Int → ab_H → Option (Int × ab_H)) (k95 : Int → Int → ab_H → Option (Int × ab_H)) (v0 : Int) (v1 : Int) (v3 : Int) (v4 : Int) (v6 : Int) (v7 : Int) (h : ab_H) : Option (Int × ab_H) :=
  rec v0 v1 v3 v4 v6 (ab_w32 (v7 + (1 : Int))) h
set_option maxRecDepth 20000 in
theorem e_X9_begins_J89 {rec : Int → Int → Int → Int → Int → Int → ab_H → Option (Int × ab_H)} {k95 : Int → Int → ab_H → Option (Int × ab_H)} (hrec : ∀ (v0 : Int) (v1 : Int) (v3 : Int) (v4 : Int) (v6 : Int) (v7 : Int) (h : ab_H) (q : Int × ab_H), rec v0 v1 v3 v4 v6 v7 h = some q → ab_E mm_X9_begins cX9_begins 43 [some (ab_R v0), some (ab_I v1), none, some (ab_I v3), some (ab_J v4), none, some (ab_I v6), some (ab_I v7)] [] h (some (ab_I q.1)) q.2) (hk95 : ∀ (v1 : Int) (v3 : Int) (h : ab_H) (q : Int × ab_H), k95 v1 v3 h = some q → ab_E mm_X9_begins cX9_begins 95 [none, some (ab_I v1), none, some (ab_I v3), none, none, none, none] [] h (some (ab_I q.1)) q.2) : ∀ (v0 : Int) (v1 : Int) (v3 : Int) (v4 : Int) (v6 : Int) (v7 : Int) (h : ab_H) (q : Int × ab_H), f_X9_begins_J89 rec k95 v0 v1 v3 v4 v6 v7 h = some q → ab_E mm_X9_begins cX9_begins 89 [some (ab_R v0), some (ab_I v1), none, some (ab_I v3), some (ab_J v4), none, some (ab_I v6), some (ab_I v7)] [] h (some (ab_I q.1)) q.2 := by
  intro v0 v1 v3 v4 v6 v7 h q hk
  unfold f_X9_begins_J89 at hk
  refine ab_iinc (pc := 89) (i := 7) (lv2 := [some (ab_R v0), some (ab_I v1), none, some (ab_I v3), some (ab_J v4), none, some (ab_I v6), some (ab_I (ab_w32 (v7 + (1 : Int))))]) dX9_begins_89 rfl (Nat.le_of_ble_eq_true rfl) rfl rfl ?_
  refine ab_goto (pc := 92) (tgt := 43) dX9_begins_92 rfl ?_
  refine ab_sub_ (lv2 := [some (ab_R v0), some (ab_I v1), none, some (ab_I v3), some (ab_J v4), none, some (ab_I v6), some (ab_I (ab_w32 (v7 + (1 : Int))))]) (ab_ss (ab_ss (ab_sn (ab_ss (ab_ss (ab_sn (ab_ss (ab_ss ab_s0)))))))) ?_
  exact hrec _ _ _ _ _ _ _ _ hk
noncomputable def f_X9_begins_L43 (k95 : Int → Int → ab_H → Option (Int × ab_H)) : Nat → Int → Int → Int → Int → Int → Int → ab_H → Option (Int × ab_H)
  | 0, _, _, _, _, _, _, _ => none
  | n + 1, v0, v1, v3, v4, v6, v7, h =>
    (ab_get h 10 18 v0).bind fun t1 =>
    if t1 ≤ v7 then
      k95 v1 v3 h
    else
    (ab_get h 10 13 v0).bind fun t2 =>
    (ab_on h 10 v0 (f_X9_headWord v0 v7 h)).bind fun q3 =>
    (ab_ald q3.2 12 t2 q3.1).bind fun t4 =>
    if ab_cmp (ab_lshr t4 v6) (ab_lshr v4 v6) = (0 : Int) then
      if v3 = v1 then
        some (v7, q3.2)
      else
      f_X9_begins_J89 (f_X9_begins_L43 k95 n) k95 v0 v1 (ab_w32 (v3 + (1 : Int))) v4 v6 v7 q3.2
    else
    f_X9_begins_J89 (f_X9_begins_L43 k95 n) k95 v0 v1 v3 v4 v6 v7 q3.2
set_option maxRecDepth 20000 in
theorem e_X9_begins_L43 {k95 : Int → Int → ab_H → Option (Int × ab_H)} (hk95 : ∀ (v1 : Int) (v3 : Int) (h : ab_H) (q : Int × ab_H), k95 v1 v3 h = some q → ab_E mm_X9_begins cX9_begins 95 [none, some (ab_I v1), none, some (ab_I v3), none, none, none, none] [] h (some (ab_I q.1)) q.2) : ∀ (n : Nat) (v0 : Int) (v1 : Int) (v3 : Int) (v4 : Int) (v6 : Int) (v7 : Int) (h : ab_H) (q : Int × ab_H), f_X9_begins_L43 k95 n v0 v1 v3 v4 v6 v7 h = some q → ab_E mm_X9_begins cX9_begins 43 [some (ab_R v0), some (ab_I v1), none, some (ab_I v3), some (ab_J v4), none, some (ab_I v6), some (ab_I v7)] [] h (some (ab_I q.1)) q.2 := by
  intro n
  induction n with
  | zero => intro v0 v1 v3 v4 v6 v7 h q hk; cases hk
  | succ n ih =>
    intro v0 v1 v3 v4 v6 v7 h q hk
    unfold f_X9_begins_L43 at hk
    refine ab_iload (pc := 43) (i := 7) dX9_begins_43 rfl ?_
    refine ab_aload_n (pc := 45) (i := 0) dX9_begins_45 rfl rfl ?_
    obtain ⟨t1, ht1, hk⟩ := ab_bnd hk
    refine ab_getI (pc := 46) dX9_begins_46 fl_RX9_306 ht1 ?_
    refine ab_icmp_ge (pc := 49) (tgt := 95) dX9_begins_49 rfl (fun hc => ?_) (fun hc => ?_)
    · have hk := ab_ifp hk hc
      refine ab_sub_ (lv2 := [none, some (ab_I v1), none, some (ab_I v3), none, none, none, none]) (ab_sn (ab_ss (ab_sn (ab_ss (ab_sn (ab_sn (ab_sn (ab_sn ab_s0)))))))) ?_
      exact hk95 _ _ _ _ hk
    · have hk := ab_ifn hk hc
      refine ab_aload_n (pc := 52) (i := 0) dX9_begins_52 rfl rfl ?_
      obtain ⟨t2, ht2, hk⟩ := ab_bnd hk
      refine ab_getR (pc := 53) dX9_begins_53 fl_RX9_24 ht2 ?_
      refine ab_aload_n (pc := 56) (i := 0) dX9_begins_56 rfl rfl ?_
      refine ab_iload (pc := 57) (i := 7) dX9_begins_57 rfl ?_
      obtain ⟨q3, hq3, hk⟩ := ab_bnd hk
      obtain ⟨hb, hq3⟩ := ab_on_some hq3
      refine ab_callVI (st := [ab_R t2]) (as := [ab_I v7]) (b := v0) (pc := 59) dX9_begins_59 ml_RX9_371 my_X9_headWord mv_X9_headWord hb (ct_X9_headWord hq3) ⟨Nat.le_of_ble_eq_true rfl, Nat.le_of_ble_eq_true rfl⟩ rfl (Nat.le_of_ble_eq_true rfl) rfl ?_
      obtain ⟨t4, ht4, hk⟩ := ab_bnd hk
      refine ab_lald (pc := 62) dX9_begins_62 ht4 ?_
      refine ab_iload (pc := 63) (i := 6) dX9_begins_63 rfl ?_
      refine ab_lshr_ (pc := 65) dX9_begins_65 ?_
      refine ab_lload (pc := 66) (i := 4) dX9_begins_66 rfl ?_
      refine ab_iload (pc := 68) (i := 6) dX9_begins_68 rfl ?_
      refine ab_lshr_ (pc := 70) dX9_begins_70 ?_
      refine ab_lcmp_ (pc := 71) dX9_begins_71 ?_
      refine ab_if_eq (pc := 72) (tgt := 78) dX9_begins_72 rfl (fun hc => ?_) (fun hc => ?_)
      · have hk := ab_ifp hk hc
        refine ab_iload_n (pc := 78) (i := 3) dX9_begins_78 rfl rfl ?_
        refine ab_iload_n (pc := 79) (i := 1) dX9_begins_79 rfl rfl ?_
        refine ab_icmp_ne (pc := 80) (tgt := 86) dX9_begins_80 rfl (fun hc => ?_) (fun hc => ?_)
        · have hk := ab_ifn hk hc
          refine ab_iinc (pc := 86) (i := 3) (lv2 := [some (ab_R v0), some (ab_I v1), none, some (ab_I (ab_w32 (v3 + (1 : Int)))), some (ab_J v4), none, some (ab_I v6), some (ab_I v7)]) dX9_begins_86 rfl (Nat.le_of_ble_eq_true rfl) rfl rfl ?_
          refine ab_sub_ (lv2 := [some (ab_R v0), some (ab_I v1), none, some (ab_I (ab_w32 (v3 + (1 : Int)))), some (ab_J v4), none, some (ab_I v6), some (ab_I v7)]) (ab_ss (ab_ss (ab_sn (ab_ss (ab_ss (ab_sn (ab_ss (ab_ss ab_s0)))))))) ?_
          exact e_X9_begins_J89 ih hk95 _ _ _ _ _ _ _ _ hk
        · have hk := ab_ifp hk hc
          refine ab_iload (pc := 83) (i := 7) dX9_begins_83 rfl ?_
          obtain rfl := Option.some.inj hk
          exact ab_reti (pc := 85) dX9_begins_85 (Or.inl rfl)
      · have hk := ab_ifn hk hc
        refine ab_goto (pc := 75) (tgt := 89) dX9_begins_75 rfl ?_
        refine ab_sub_ (lv2 := [some (ab_R v0), some (ab_I v1), none, some (ab_I v3), some (ab_J v4), none, some (ab_I v6), some (ab_I v7)]) (ab_ss (ab_ss (ab_sn (ab_ss (ab_ss (ab_sn (ab_ss (ab_ss ab_s0)))))))) ?_
        exact e_X9_begins_J89 ih hk95 _ _ _ _ _ _ _ _ hk
noncomputable def f_X9_begins (a0 : Int) (a1 : Int) (h : ab_H) : Option (Int × ab_H) :=
  (ab_on h 10 a0 (f_X9_lettersTold a0 h)).bind fun q1 =>
  if q1.1 = (-1 : Int) then
    some ((-2 : Int), q1.2)
  else
  if (-1 : Int) ≤ a1 then
    (ab_on q1.2 10 a0 (f_X9_lays a0 q1.2)).bind fun q2 =>
    (ab_on q2 10 a0 (f_X9_packed a0 (0 : Int) q1.1 q2)).bind fun q3 =>
    f_X9_begins_L43 (fun w95_1 w95_3 hx95 =>
      if w95_1 = (-1 : Int) then
        some (w95_3, hx95)
      else
      some ((-1 : Int), hx95)) ab_FU a0 a1 (0 : Int) q3.1 (ab_w32 ((5 : Int) * (ab_w32 ((7 : Int) - q1.1)))) (0 : Int) q3.2
  else
  some ((-2 : Int), q1.2)
set_option maxRecDepth 20000 in
theorem ct_X9_begins {a0 a1 : Int} {h : ab_H} {q : Int × ab_H} (hk : f_X9_begins a0 a1 h = some q) : ab_CT yX9_begins cX9_begins 8 (some .int) 6 133 [ab_R a0, ab_I a1] h (some (ab_I q.1)) q.2 := by
  refine ab_CT.mk_ 6 (own := RX9) (ini := false) (lv := [some (ab_R a0), some (ab_I a1), none, none, none, none, none, none]) rfl (by decide +kernel) (fun q => by cases q) rfl rfl ?_
  unfold f_X9_begins at hk
  show ab_E mm_X9_begins cX9_begins 0 _ [] h _ _
  refine ab_aload_n (pc := 0) (i := 0) dX9_begins_0 rfl rfl ?_
  obtain ⟨q1, hq1, hk⟩ := ab_bnd hk
  obtain ⟨hb, hq1⟩ := ab_on_some hq1
  refine ab_callVI (st := []) (as := []) (b := a0) (pc := 1) dX9_begins_1 ml_RX9_351 my_X9_lettersTold mv_X9_lettersTold hb (ct_X9_lettersTold hq1) ⟨Nat.le_of_ble_eq_true rfl, Nat.le_of_ble_eq_true rfl⟩ rfl (Nat.le_of_ble_eq_true rfl) rfl ?_
  refine ab_istore_n (pc := 4) (i := 2) (lv2 := [some (ab_R a0), some (ab_I a1), some (ab_I q1.1), none, none, none, none, none]) dX9_begins_4 rfl (Nat.le_of_ble_eq_true rfl) rfl rfl ?_
  refine ab_iload_n (pc := 5) (i := 2) dX9_begins_5 rfl rfl ?_
  refine ab_iconst (pc := 6) dX9_begins_6 ab_k_m1 ?_
  refine ab_icmp_eq (pc := 7) (tgt := 15) dX9_begins_7 rfl (fun hc => ?_) (fun hc => ?_)
  · have hk := ab_ifp hk hc
    refine ab_bipush (pc := 15) dX9_begins_15 ab_p8_m2 ab_k_m2 ?_
    obtain rfl := Option.some.inj hk
    exact ab_reti (pc := 17) dX9_begins_17 (Or.inl rfl)
  · have hk := ab_ifn hk hc
    refine ab_iload_n (pc := 10) (i := 1) dX9_begins_10 rfl rfl ?_
    refine ab_iconst (pc := 11) dX9_begins_11 ab_k_m1 ?_
    refine ab_icmp_ge (pc := 12) (tgt := 18) dX9_begins_12 rfl (fun hc => ?_) (fun hc => ?_)
    · have hk := ab_ifp hk hc
      refine ab_aload_n (pc := 18) (i := 0) dX9_begins_18 rfl rfl ?_
      obtain ⟨q2, hq2, hk⟩ := ab_bnd hk
      obtain ⟨hb, hq2⟩ := ab_on_some hq2
      refine ab_callVV (st := []) (as := []) (b := a0) (pc := 19) dX9_begins_19 ml_RX9_314 my_X9_lays mv_X9_lays hb (ct_X9_lays hq2) ⟨Nat.le_of_ble_eq_true rfl, Nat.le_of_ble_eq_true rfl⟩ rfl (Nat.le_of_ble_eq_true rfl) rfl ?_
      refine ab_iconst (pc := 22) dX9_begins_22 ab_k_0 ?_
      refine ab_istore_n (pc := 23) (i := 3) (lv2 := [some (ab_R a0), some (ab_I a1), some (ab_I q1.1), some (ab_I (0 : Int)), none, none, none, none]) dX9_begins_23 rfl (Nat.le_of_ble_eq_true rfl) rfl rfl ?_
      refine ab_aload_n (pc := 24) (i := 0) dX9_begins_24 rfl rfl ?_
      refine ab_iconst (pc := 25) dX9_begins_25 ab_k_0 ?_
      refine ab_iload_n (pc := 26) (i := 2) dX9_begins_26 rfl rfl ?_
      obtain ⟨q3, hq3, hk⟩ := ab_bnd hk
      obtain ⟨hb, hq3⟩ := ab_on_some hq3
      refine ab_callVJ (st := []) (as := [ab_I (0 : Int), ab_I q1.1]) (b := a0) (pc := 27) dX9_begins_27 ml_RX9_189 my_X9_packed mv_X9_packed hb (ct_X9_packed hq3) ⟨Nat.le_of_ble_eq_true rfl, Nat.le_of_ble_eq_true rfl⟩ rfl (Nat.le_of_ble_eq_true rfl) rfl ?_
      refine ab_lstore (pc := 30) (i := 4) (lv2 := [some (ab_R a0), some (ab_I a1), some (ab_I q1.1), some (ab_I (0 : Int)), some (ab_J q3.1), none, none, none]) dX9_begins_30 (Nat.le_of_ble_eq_true rfl) rfl rfl ?_
      refine ab_iconst (pc := 32) dX9_begins_32 ab_k_5 ?_
      refine ab_bipush (pc := 33) dX9_begins_33 ab_p8_7 ab_k_7 ?_
      refine ab_iload_n (pc := 35) (i := 2) dX9_begins_35 rfl rfl ?_
      refine ab_isub (pc := 36) dX9_begins_36 ?_
      refine ab_imul (pc := 37) dX9_begins_37 ?_
      refine ab_istore (pc := 38) (i := 6) (lv2 := [some (ab_R a0), some (ab_I a1), some (ab_I q1.1), some (ab_I (0 : Int)), some (ab_J q3.1), none, some (ab_I (ab_w32 ((5 : Int) * (ab_w32 ((7 : Int) - q1.1))))), none]) dX9_begins_38 (Nat.le_of_ble_eq_true rfl) rfl rfl ?_
      refine ab_iconst (pc := 40) dX9_begins_40 ab_k_0 ?_
      refine ab_istore (pc := 41) (i := 7) (lv2 := [some (ab_R a0), some (ab_I a1), some (ab_I q1.1), some (ab_I (0 : Int)), some (ab_J q3.1), none, some (ab_I (ab_w32 ((5 : Int) * (ab_w32 ((7 : Int) - q1.1))))), some (ab_I (0 : Int))]) dX9_begins_41 (Nat.le_of_ble_eq_true rfl) rfl rfl ?_
      refine ab_sub_ (lv2 := [some (ab_R a0), some (ab_I a1), none, some (ab_I (0 : Int)), some (ab_J q3.1), none, some (ab_I (ab_w32 ((5 : Int) * (ab_w32 ((7 : Int) - q1.1))))), some (ab_I (0 : Int))]) (ab_ss (ab_ss (ab_sn (ab_ss (ab_ss (ab_sn (ab_ss (ab_ss ab_s0)))))))) ?_
      refine e_X9_begins_L43 (fun w95_1 w95_3 hx95 q hk => ?_) _ _ _ _ _ _ _ _ _ hk
      · skip
        refine ab_iload_n (pc := 95) (i := 1) dX9_begins_95 rfl rfl ?_
        refine ab_iconst (pc := 96) dX9_begins_96 ab_k_m1 ?_
        refine ab_icmp_ne (pc := 97) (tgt := 104) dX9_begins_97 rfl (fun hc => ?_) (fun hc => ?_)
        · have hk := ab_ifn hk hc
          refine ab_iconst (pc := 104) dX9_begins_104 ab_k_m1 ?_
          obtain rfl := Option.some.inj hk
          exact ab_reti (pc := 105) dX9_begins_105 (Or.inl rfl)
        · have hk := ab_ifp hk hc
          refine ab_iload_n (pc := 100) (i := 3) dX9_begins_100 rfl rfl ?_
          refine ab_goto (pc := 101) (tgt := 105) dX9_begins_101 rfl ?_
          obtain rfl := Option.some.inj hk
          exact ab_reti (pc := 105) dX9_begins_105 (Or.inl rfl)
    · have hk := ab_ifn hk hc
      refine ab_bipush (pc := 15) dX9_begins_15 ab_p8_m2 ab_k_m2 ?_
      obtain rfl := Option.some.inj hk
      exact ab_reti (pc := 17) dX9_begins_17 (Or.inl rfl)
theorem dX9_hasWord_0 : decode cX9_hasWord 0 = .ok (.iconst 0, 1) := by decide +kernel
theorem dX9_hasWord_1 : decode cX9_hasWord 1 = .ok (.istore 4, 2) := by decide +kernel
theorem dX9_hasWord_3 : decode cX9_hasWord 3 = .ok (.iload 4, 2) := by decide +kernel
theorem dX9_hasWord_5 : decode cX9_hasWord 5 = .ok (.aload_n 0, 1) := by decide +kernel
theorem dX9_hasWord_6 : decode cX9_hasWord 6 = .ok (.iload_n 1, 1) := by decide +kernel
theorem dX9_hasWord_7 : decode cX9_hasWord 7 = .ok (.invokevirtual 255, 3) := by decide +kernel
theorem dX9_hasWord_10 : decode cX9_hasWord 10 = .ok (.if_icmp .ge 42, 3) := by decide +kernel
theorem dX9_hasWord_13 : decode cX9_hasWord 13 = .ok (.aload_n 0, 1) := by decide +kernel
theorem dX9_hasWord_14 : decode cX9_hasWord 14 = .ok (.getfield 27, 3) := by decide +kernel
theorem dX9_hasWord_17 : decode cX9_hasWord 17 = .ok (.iload_n 1, 1) := by decide +kernel
theorem dX9_hasWord_18 : decode cX9_hasWord 18 = .ok (.iload 4, 2) := by decide +kernel
theorem dX9_hasWord_20 : decode cX9_hasWord 20 = .ok (.invokestatic 262, 3) := by decide +kernel
theorem dX9_hasWord_23 : decode cX9_hasWord 23 = .ok (.iaload, 1) := by decide +kernel
theorem dX9_hasWord_24 : decode cX9_hasWord 24 = .ok (.iload_n 2, 1) := by decide +kernel
theorem dX9_hasWord_25 : decode cX9_hasWord 25 = .ok (.if_icmp .ne 21, 3) := by decide +kernel
theorem dX9_hasWord_28 : decode cX9_hasWord 28 = .ok (.iload_n 3, 1) := by decide +kernel
theorem dX9_hasWord_29 : decode cX9_hasWord 29 = .ok (.iconst (-1), 1) := by decide +kernel
theorem dX9_hasWord_30 : decode cX9_hasWord 30 = .ok (.if_icmp .eq 14, 3) := by decide +kernel
theorem dX9_hasWord_33 : decode cX9_hasWord 33 = .ok (.aload_n 0, 1) := by decide +kernel
theorem dX9_hasWord_34 : decode cX9_hasWord 34 = .ok (.iload_n 1, 1) := by decide +kernel
theorem dX9_hasWord_35 : decode cX9_hasWord 35 = .ok (.iload 4, 2) := by decide +kernel
theorem dX9_hasWord_37 : decode cX9_hasWord 37 = .ok (.invokevirtual 294, 3) := by decide +kernel
theorem dX9_hasWord_40 : decode cX9_hasWord 40 = .ok (.iload_n 3, 1) := by decide +kernel
theorem dX9_hasWord_41 : decode cX9_hasWord 41 = .ok (.if_icmp .ne 5, 3) := by decide +kernel
theorem dX9_hasWord_44 : decode cX9_hasWord 44 = .ok (.iconst 1, 1) := by decide +kernel
theorem dX9_hasWord_45 : decode cX9_hasWord 45 = .ok (.ireturn, 1) := by decide +kernel
theorem dX9_hasWord_46 : decode cX9_hasWord 46 = .ok (.iinc 4 1, 3) := by decide +kernel
theorem dX9_hasWord_49 : decode cX9_hasWord 49 = .ok (.goto (-46), 3) := by decide +kernel
theorem dX9_hasWord_52 : decode cX9_hasWord 52 = .ok (.iconst 0, 1) := by decide +kernel
theorem dX9_hasWord_53 : decode cX9_hasWord 53 = .ok (.ireturn, 1) := by decide +kernel
abbrev mm_X9_hasWord : ab_M := (RX9, 5, (some .boolean), false, 2, 43, none)
noncomputable def f_X9_hasWord_J46 (rec : Int → Int → Int → Int → Int → ab_H → Option (Int × ab_H)) (v0 : Int) (v1 : Int) (v2 : Int) (v3 : Int) (v4 : Int) (h : ab_H) : Option (Int × ab_H) :=
  rec v0 v1 v2 v3 (ab_w32 (v4 + (1 : Int))) h
set_option maxRecDepth 20000 in
theorem e_X9_hasWord_J46 {rec : Int → Int → Int → Int → Int → ab_H → Option (Int × ab_H)} (hrec : ∀ (v0 : Int) (v1 : Int) (v2 : Int) (v3 : Int) (v4 : Int) (h : ab_H) (q : Int × ab_H), rec v0 v1 v2 v3 v4 h = some q → ab_E mm_X9_hasWord cX9_hasWord 3 [some (ab_R v0), some (ab_I v1), some (ab_I v2), some (ab_I v3), some (ab_I v4)] [] h (some (ab_I q.1)) q.2) : ∀ (v0 : Int) (v1 : Int) (v2 : Int) (v3 : Int) (v4 : Int) (h : ab_H) (q : Int × ab_H), f_X9_hasWord_J46 rec v0 v1 v2 v3 v4 h = some q → ab_E mm_X9_hasWord cX9_hasWord 46 [some (ab_R v0), some (ab_I v1), some (ab_I v2), some (ab_I v3), some (ab_I v4)] [] h (some (ab_I q.1)) q.2 := by
  intro v0 v1 v2 v3 v4 h q hk
  unfold f_X9_hasWord_J46 at hk
  refine ab_iinc (pc := 46) (i := 4) (lv2 := [some (ab_R v0), some (ab_I v1), some (ab_I v2), some (ab_I v3), some (ab_I (ab_w32 (v4 + (1 : Int))))]) dX9_hasWord_46 rfl (Nat.le_of_ble_eq_true rfl) rfl rfl ?_
  refine ab_goto (pc := 49) (tgt := 3) dX9_hasWord_49 rfl ?_
  refine ab_sub_ (lv2 := [some (ab_R v0), some (ab_I v1), some (ab_I v2), some (ab_I v3), some (ab_I (ab_w32 (v4 + (1 : Int))))]) (ab_ss (ab_ss (ab_ss (ab_ss (ab_ss ab_s0))))) ?_
  exact hrec _ _ _ _ _ _ _ hk
noncomputable def f_X9_hasWord_L3 : Nat → Int → Int → Int → Int → Int → ab_H → Option (Int × ab_H)
  | 0, _, _, _, _, _, _ => none
  | n + 1, v0, v1, v2, v3, v4, h =>
    (ab_on h 10 v0 (f_X9_terms v0 v1 h)).bind fun q1 =>
    if q1.1 ≤ v4 then
      some ((0 : Int), q1.2)
    else
    (ab_get q1.2 10 15 v0).bind fun t2 =>
    (f_X9_place v1 v4 q1.2).bind fun q3 =>
    (ab_ald q3.2 11 t2 q3.1).bind fun t4 =>
    if t4 = v2 then
      if v3 = (-1 : Int) then
        some ((1 : Int), q3.2)
      else
      (ab_on q3.2 10 v0 (f_X9_roleOf v0 v1 v4 q3.2)).bind fun q5 =>
      if q5.1 = v3 then
        some ((1 : Int), q5.2)
      else
      f_X9_hasWord_J46 (f_X9_hasWord_L3 n) v0 v1 v2 v3 v4 q5.2
    else
    f_X9_hasWord_J46 (f_X9_hasWord_L3 n) v0 v1 v2 v3 v4 q3.2
set_option maxRecDepth 20000 in
theorem e_X9_hasWord_L3 : ∀ (n : Nat) (v0 : Int) (v1 : Int) (v2 : Int) (v3 : Int) (v4 : Int) (h : ab_H) (q : Int × ab_H), f_X9_hasWord_L3 n v0 v1 v2 v3 v4 h = some q → ab_E mm_X9_hasWord cX9_hasWord 3 [some (ab_R v0), some (ab_I v1), some (ab_I v2), some (ab_I v3), some (ab_I v4)] [] h (some (ab_I q.1)) q.2 := by
  intro n
  induction n with
  | zero => intro v0 v1 v2 v3 v4 h q hk; cases hk
  | succ n ih =>
    intro v0 v1 v2 v3 v4 h q hk
    unfold f_X9_hasWord_L3 at hk
    refine ab_iload (pc := 3) (i := 4) dX9_hasWord_3 rfl ?_
    refine ab_aload_n (pc := 5) (i := 0) dX9_hasWord_5 rfl rfl ?_
    refine ab_iload_n (pc := 6) (i := 1) dX9_hasWord_6 rfl rfl ?_
    obtain ⟨q1, hq1, hk⟩ := ab_bnd hk
    obtain ⟨hb, hq1⟩ := ab_on_some hq1
    refine ab_callVI (st := [ab_I v4]) (as := [ab_I v1]) (b := v0) (pc := 7) dX9_hasWord_7 ml_RX9_255 my_X9_terms mv_X9_terms hb (ct_X9_terms hq1) ⟨Nat.le_of_ble_eq_true rfl, Nat.le_of_ble_eq_true rfl⟩ rfl (Nat.le_of_ble_eq_true rfl) rfl ?_
    refine ab_icmp_ge (pc := 10) (tgt := 52) dX9_hasWord_10 rfl (fun hc => ?_) (fun hc => ?_)
    · have hk := ab_ifp hk hc
      refine ab_iconst (pc := 52) dX9_hasWord_52 ab_k_0 ?_
      obtain rfl := Option.some.inj hk
      exact ab_retz (pc := 53) dX9_hasWord_53 rfl rfl
    · have hk := ab_ifn hk hc
      refine ab_aload_n (pc := 13) (i := 0) dX9_hasWord_13 rfl rfl ?_
      obtain ⟨t2, ht2, hk⟩ := ab_bnd hk
      refine ab_getR (pc := 14) dX9_hasWord_14 fl_RX9_27 ht2 ?_
      refine ab_iload_n (pc := 17) (i := 1) dX9_hasWord_17 rfl rfl ?_
      refine ab_iload (pc := 18) (i := 4) dX9_hasWord_18 rfl ?_
      obtain ⟨q3, hq3, hk⟩ := ab_bnd hk
      refine ab_callSI (st := [ab_R t2]) (as := [ab_I v1, ab_I v4]) (pc := 20) dX9_hasWord_20 ml_RX9_262 my_X9_place ms_X9_place (ct_X9_place hq3) ⟨Nat.le_of_ble_eq_true rfl, Nat.le_of_ble_eq_true rfl⟩ rfl (Nat.le_of_ble_eq_true rfl) rfl ?_
      obtain ⟨t4, ht4, hk⟩ := ab_bnd hk
      refine ab_iald (pc := 23) dX9_hasWord_23 ht4 ?_
      refine ab_iload_n (pc := 24) (i := 2) dX9_hasWord_24 rfl rfl ?_
      refine ab_icmp_ne (pc := 25) (tgt := 46) dX9_hasWord_25 rfl (fun hc => ?_) (fun hc => ?_)
      · have hk := ab_ifn hk hc
        refine ab_sub_ (lv2 := [some (ab_R v0), some (ab_I v1), some (ab_I v2), some (ab_I v3), some (ab_I v4)]) (ab_ss (ab_ss (ab_ss (ab_ss (ab_ss ab_s0))))) ?_
        exact e_X9_hasWord_J46 ih _ _ _ _ _ _ _ hk
      · have hk := ab_ifp hk hc
        refine ab_iload_n (pc := 28) (i := 3) dX9_hasWord_28 rfl rfl ?_
        refine ab_iconst (pc := 29) dX9_hasWord_29 ab_k_m1 ?_
        refine ab_icmp_eq (pc := 30) (tgt := 44) dX9_hasWord_30 rfl (fun hc => ?_) (fun hc => ?_)
        · have hk := ab_ifp hk hc
          refine ab_iconst (pc := 44) dX9_hasWord_44 ab_k_1 ?_
          obtain rfl := Option.some.inj hk
          exact ab_retz (pc := 45) dX9_hasWord_45 rfl rfl
        · have hk := ab_ifn hk hc
          refine ab_aload_n (pc := 33) (i := 0) dX9_hasWord_33 rfl rfl ?_
          refine ab_iload_n (pc := 34) (i := 1) dX9_hasWord_34 rfl rfl ?_
          refine ab_iload (pc := 35) (i := 4) dX9_hasWord_35 rfl ?_
          obtain ⟨q5, hq5, hk⟩ := ab_bnd hk
          obtain ⟨hb, hq5⟩ := ab_on_some hq5
          refine ab_callVI (st := []) (as := [ab_I v1, ab_I v4]) (b := v0) (pc := 37) dX9_hasWord_37 ml_RX9_294 my_X9_roleOf mv_X9_roleOf hb (ct_X9_roleOf hq5) ⟨Nat.le_of_ble_eq_true rfl, Nat.le_of_ble_eq_true rfl⟩ rfl (Nat.le_of_ble_eq_true rfl) rfl ?_
          refine ab_iload_n (pc := 40) (i := 3) dX9_hasWord_40 rfl rfl ?_
          refine ab_icmp_ne (pc := 41) (tgt := 46) dX9_hasWord_41 rfl (fun hc => ?_) (fun hc => ?_)
          · have hk := ab_ifn hk hc
            refine ab_sub_ (lv2 := [some (ab_R v0), some (ab_I v1), some (ab_I v2), some (ab_I v3), some (ab_I v4)]) (ab_ss (ab_ss (ab_ss (ab_ss (ab_ss ab_s0))))) ?_
            exact e_X9_hasWord_J46 ih _ _ _ _ _ _ _ hk
          · have hk := ab_ifp hk hc
            refine ab_iconst (pc := 44) dX9_hasWord_44 ab_k_1 ?_
            obtain rfl := Option.some.inj hk
            exact ab_retz (pc := 45) dX9_hasWord_45 rfl rfl
noncomputable def f_X9_hasWord (a0 : Int) (a1 : Int) (a2 : Int) (a3 : Int) (h : ab_H) : Option (Int × ab_H) :=
  f_X9_hasWord_L3 ab_FU a0 a1 a2 a3 (0 : Int) h
set_option maxRecDepth 20000 in
theorem ct_X9_hasWord {a0 a1 a2 a3 : Int} {h : ab_H} {q : Int × ab_H} (hk : f_X9_hasWord a0 a1 a2 a3 h = some q) : ab_CT yX9_hasWord cX9_hasWord 5 (some .boolean) 2 43 [ab_R a0, ab_I a1, ab_I a2, ab_I a3] h (some (ab_I q.1)) q.2 := by
  refine ab_CT.mk_ 1 (own := RX9) (ini := false) (lv := [some (ab_R a0), some (ab_I a1), some (ab_I a2), some (ab_I a3), none]) rfl (by decide +kernel) (fun q => by cases q) rfl rfl ?_
  unfold f_X9_hasWord at hk
  show ab_E mm_X9_hasWord cX9_hasWord 0 _ [] h _ _
  refine ab_iconst (pc := 0) dX9_hasWord_0 ab_k_0 ?_
  refine ab_istore (pc := 1) (i := 4) (lv2 := [some (ab_R a0), some (ab_I a1), some (ab_I a2), some (ab_I a3), some (ab_I (0 : Int))]) dX9_hasWord_1 (Nat.le_of_ble_eq_true rfl) rfl rfl ?_
  refine ab_sub_ (lv2 := [some (ab_R a0), some (ab_I a1), some (ab_I a2), some (ab_I a3), some (ab_I (0 : Int))]) (ab_ss (ab_ss (ab_ss (ab_ss (ab_ss ab_s0))))) ?_
  refine e_X9_hasWord_L3 _ _ _ _ _ _ _ _ hk
theorem dX9_having0_0 : decode cX9_having0 0 = .ok (.iconst 0, 1) := by decide +kernel
theorem dX9_having0_1 : decode cX9_having0 1 = .ok (.istore_n 3, 1) := by decide +kernel
theorem dX9_having0_2 : decode cX9_having0 2 = .ok (.iconst 0, 1) := by decide +kernel
theorem dX9_having0_3 : decode cX9_having0 3 = .ok (.istore 4, 2) := by decide +kernel
theorem dX9_having0_5 : decode cX9_having0 5 = .ok (.iload 4, 2) := by decide +kernel
theorem dX9_having0_7 : decode cX9_having0 7 = .ok (.aload_n 0, 1) := by decide +kernel
theorem dX9_having0_8 : decode cX9_having0 8 = .ok (.invokevirtual 246, 3) := by decide +kernel
theorem dX9_having0_11 : decode cX9_having0 11 = .ok (.if_icmp .ge 31, 3) := by decide +kernel
theorem dX9_having0_14 : decode cX9_having0 14 = .ok (.iload_n 3, 1) := by decide +kernel
theorem dX9_having0_15 : decode cX9_having0 15 = .ok (.aload_n 0, 1) := by decide +kernel
theorem dX9_having0_16 : decode cX9_having0 16 = .ok (.iload 4, 2) := by decide +kernel
theorem dX9_having0_18 : decode cX9_having0 18 = .ok (.iload_n 1, 1) := by decide +kernel
theorem dX9_having0_19 : decode cX9_having0 19 = .ok (.iload_n 2, 1) := by decide +kernel
theorem dX9_having0_20 : decode cX9_having0 20 = .ok (.invokevirtual 402, 3) := by decide +kernel
theorem dX9_having0_23 : decode cX9_having0 23 = .ok (.ifCond .eq 10, 3) := by decide +kernel
theorem dX9_having0_26 : decode cX9_having0 26 = .ok (.iconst 1, 1) := by decide +kernel
theorem dX9_having0_27 : decode cX9_having0 27 = .ok (.iload 4, 2) := by decide +kernel
theorem dX9_having0_29 : decode cX9_having0 29 = .ok (.ishl, 1) := by decide +kernel
theorem dX9_having0_30 : decode cX9_having0 30 = .ok (.goto 4, 3) := by decide +kernel
theorem dX9_having0_33 : decode cX9_having0 33 = .ok (.iconst 0, 1) := by decide +kernel
theorem dX9_having0_34 : decode cX9_having0 34 = .ok (.ior, 1) := by decide +kernel
theorem dX9_having0_35 : decode cX9_having0 35 = .ok (.istore_n 3, 1) := by decide +kernel
theorem dX9_having0_36 : decode cX9_having0 36 = .ok (.iinc 4 1, 3) := by decide +kernel
theorem dX9_having0_39 : decode cX9_having0 39 = .ok (.goto (-34), 3) := by decide +kernel
theorem dX9_having0_42 : decode cX9_having0 42 = .ok (.iload_n 3, 1) := by decide +kernel
theorem dX9_having0_43 : decode cX9_having0 43 = .ok (.ireturn, 1) := by decide +kernel
abbrev mm_X9_having0 : ab_M := (RX9, 5, (some .int), false, 3, 67, none)
noncomputable def f_X9_having0_J34 (rec : Int → Int → Int → Int → Int → ab_H → Option (Int × ab_H)) (v0 : Int) (v1 : Int) (v2 : Int) (v4 : Int) (s1 : Int) (s0 : Int) (h : ab_H) : Option (Int × ab_H) :=
  rec v0 v1 v2 (ab_or s0 s1) (ab_w32 (v4 + (1 : Int))) h
set_option maxRecDepth 20000 in
theorem e_X9_having0_J34 {rec : Int → Int → Int → Int → Int → ab_H → Option (Int × ab_H)} (hrec : ∀ (v0 : Int) (v1 : Int) (v2 : Int) (v3 : Int) (v4 : Int) (h : ab_H) (q : Int × ab_H), rec v0 v1 v2 v3 v4 h = some q → ab_E mm_X9_having0 cX9_having0 5 [some (ab_R v0), some (ab_I v1), some (ab_I v2), some (ab_I v3), some (ab_I v4)] [] h (some (ab_I q.1)) q.2) : ∀ (v0 : Int) (v1 : Int) (v2 : Int) (v4 : Int) (s1 : Int) (s0 : Int) (h : ab_H) (q : Int × ab_H), f_X9_having0_J34 rec v0 v1 v2 v4 s1 s0 h = some q → ab_E mm_X9_having0 cX9_having0 34 [some (ab_R v0), some (ab_I v1), some (ab_I v2), none, some (ab_I v4)] [ab_I s1, ab_I s0] h (some (ab_I q.1)) q.2 := by
  intro v0 v1 v2 v4 s1 s0 h q hk
  unfold f_X9_having0_J34 at hk
  refine ab_ior (pc := 34) dX9_having0_34 ?_
  refine ab_istore_n (pc := 35) (i := 3) (lv2 := [some (ab_R v0), some (ab_I v1), some (ab_I v2), some (ab_I (ab_or s0 s1)), some (ab_I v4)]) dX9_having0_35 rfl (Nat.le_of_ble_eq_true rfl) rfl rfl ?_
  refine ab_iinc (pc := 36) (i := 4) (lv2 := [some (ab_R v0), some (ab_I v1), some (ab_I v2), some (ab_I (ab_or s0 s1)), some (ab_I (ab_w32 (v4 + (1 : Int))))]) dX9_having0_36 rfl (Nat.le_of_ble_eq_true rfl) rfl rfl ?_
  refine ab_goto (pc := 39) (tgt := 5) dX9_having0_39 rfl ?_
  refine ab_sub_ (lv2 := [some (ab_R v0), some (ab_I v1), some (ab_I v2), some (ab_I (ab_or s0 s1)), some (ab_I (ab_w32 (v4 + (1 : Int))))]) (ab_ss (ab_ss (ab_ss (ab_ss (ab_ss ab_s0))))) ?_
  exact hrec _ _ _ _ _ _ _ hk
noncomputable def f_X9_having0_L5 : Nat → Int → Int → Int → Int → Int → ab_H → Option (Int × ab_H)
  | 0, _, _, _, _, _, _ => none
  | n + 1, v0, v1, v2, v3, v4, h =>
    (ab_on h 10 v0 (f_X9_strings v0 h)).bind fun q1 =>
    if q1.1 ≤ v4 then
      some (v3, q1.2)
    else
    (ab_on q1.2 10 v0 (f_X9_hasWord v0 v4 v1 v2 q1.2)).bind fun q2 =>
    if q2.1 = (0 : Int) then
      f_X9_having0_J34 (f_X9_having0_L5 n) v0 v1 v2 v4 (0 : Int) v3 q2.2
    else
    f_X9_having0_J34 (f_X9_having0_L5 n) v0 v1 v2 v4 (ab_shl (1 : Int) v4) v3 q2.2
set_option maxRecDepth 20000 in
theorem e_X9_having0_L5 : ∀ (n : Nat) (v0 : Int) (v1 : Int) (v2 : Int) (v3 : Int) (v4 : Int) (h : ab_H) (q : Int × ab_H), f_X9_having0_L5 n v0 v1 v2 v3 v4 h = some q → ab_E mm_X9_having0 cX9_having0 5 [some (ab_R v0), some (ab_I v1), some (ab_I v2), some (ab_I v3), some (ab_I v4)] [] h (some (ab_I q.1)) q.2 := by
  intro n
  induction n with
  | zero => intro v0 v1 v2 v3 v4 h q hk; cases hk
  | succ n ih =>
    intro v0 v1 v2 v3 v4 h q hk
    unfold f_X9_having0_L5 at hk
    refine ab_iload (pc := 5) (i := 4) dX9_having0_5 rfl ?_
    refine ab_aload_n (pc := 7) (i := 0) dX9_having0_7 rfl rfl ?_
    obtain ⟨q1, hq1, hk⟩ := ab_bnd hk
    obtain ⟨hb, hq1⟩ := ab_on_some hq1
    refine ab_callVI (st := [ab_I v4]) (as := []) (b := v0) (pc := 8) dX9_having0_8 ml_RX9_246 my_X9_strings mv_X9_strings hb (ct_X9_strings hq1) ⟨Nat.le_of_ble_eq_true rfl, Nat.le_of_ble_eq_true rfl⟩ rfl (Nat.le_of_ble_eq_true rfl) rfl ?_
    refine ab_icmp_ge (pc := 11) (tgt := 42) dX9_having0_11 rfl (fun hc => ?_) (fun hc => ?_)
    · have hk := ab_ifp hk hc
      refine ab_iload_n (pc := 42) (i := 3) dX9_having0_42 rfl rfl ?_
      obtain rfl := Option.some.inj hk
      exact ab_reti (pc := 43) dX9_having0_43 (Or.inl rfl)
    · have hk := ab_ifn hk hc
      refine ab_iload_n (pc := 14) (i := 3) dX9_having0_14 rfl rfl ?_
      refine ab_aload_n (pc := 15) (i := 0) dX9_having0_15 rfl rfl ?_
      refine ab_iload (pc := 16) (i := 4) dX9_having0_16 rfl ?_
      refine ab_iload_n (pc := 18) (i := 1) dX9_having0_18 rfl rfl ?_
      refine ab_iload_n (pc := 19) (i := 2) dX9_having0_19 rfl rfl ?_
      obtain ⟨q2, hq2, hk⟩ := ab_bnd hk
      obtain ⟨hb, hq2⟩ := ab_on_some hq2
      refine ab_callVI (st := [ab_I v3]) (as := [ab_I v4, ab_I v1, ab_I v2]) (b := v0) (pc := 20) dX9_having0_20 ml_RX9_402 my_X9_hasWord mv_X9_hasWord hb (ct_X9_hasWord hq2) ⟨Nat.le_of_ble_eq_true rfl, Nat.le_of_ble_eq_true rfl⟩ rfl (Nat.le_of_ble_eq_true rfl) rfl ?_
      refine ab_if_eq (pc := 23) (tgt := 33) dX9_having0_23 rfl (fun hc => ?_) (fun hc => ?_)
      · have hk := ab_ifp hk hc
        refine ab_iconst (pc := 33) dX9_having0_33 ab_k_0 ?_
        refine ab_sub_ (lv2 := [some (ab_R v0), some (ab_I v1), some (ab_I v2), none, some (ab_I v4)]) (ab_ss (ab_ss (ab_ss (ab_sn (ab_ss ab_s0))))) ?_
        exact e_X9_having0_J34 ih _ _ _ _ _ _ _ _ hk
      · have hk := ab_ifn hk hc
        refine ab_iconst (pc := 26) dX9_having0_26 ab_k_1 ?_
        refine ab_iload (pc := 27) (i := 4) dX9_having0_27 rfl ?_
        refine ab_ishl (pc := 29) dX9_having0_29 ?_
        refine ab_goto (pc := 30) (tgt := 34) dX9_having0_30 rfl ?_
        refine ab_sub_ (lv2 := [some (ab_R v0), some (ab_I v1), some (ab_I v2), none, some (ab_I v4)]) (ab_ss (ab_ss (ab_ss (ab_sn (ab_ss ab_s0))))) ?_
        exact e_X9_having0_J34 ih _ _ _ _ _ _ _ _ hk
noncomputable def f_X9_having0 (a0 : Int) (a1 : Int) (a2 : Int) (h : ab_H) : Option (Int × ab_H) :=
  f_X9_having0_L5 ab_FU a0 a1 a2 (0 : Int) (0 : Int) h
set_option maxRecDepth 20000 in
theorem ct_X9_having0 {a0 a1 a2 : Int} {h : ab_H} {q : Int × ab_H} (hk : f_X9_having0 a0 a1 a2 h = some q) : ab_CT yX9_having0 cX9_having0 5 (some .int) 3 67 [ab_R a0, ab_I a1, ab_I a2] h (some (ab_I q.1)) q.2 := by
  refine ab_CT.mk_ 2 (own := RX9) (ini := false) (lv := [some (ab_R a0), some (ab_I a1), some (ab_I a2), none, none]) rfl (by decide +kernel) (fun q => by cases q) rfl rfl ?_
  unfold f_X9_having0 at hk
  show ab_E mm_X9_having0 cX9_having0 0 _ [] h _ _
  refine ab_iconst (pc := 0) dX9_having0_0 ab_k_0 ?_
  refine ab_istore_n (pc := 1) (i := 3) (lv2 := [some (ab_R a0), some (ab_I a1), some (ab_I a2), some (ab_I (0 : Int)), none]) dX9_having0_1 rfl (Nat.le_of_ble_eq_true rfl) rfl rfl ?_
  refine ab_iconst (pc := 2) dX9_having0_2 ab_k_0 ?_
  refine ab_istore (pc := 3) (i := 4) (lv2 := [some (ab_R a0), some (ab_I a1), some (ab_I a2), some (ab_I (0 : Int)), some (ab_I (0 : Int))]) dX9_having0_3 (Nat.le_of_ble_eq_true rfl) rfl rfl ?_
  refine ab_sub_ (lv2 := [some (ab_R a0), some (ab_I a1), some (ab_I a2), some (ab_I (0 : Int)), some (ab_I (0 : Int))]) (ab_ss (ab_ss (ab_ss (ab_ss (ab_ss ab_s0))))) ?_
  refine e_X9_having0_L5 _ _ _ _ _ _ _ _ hk
theorem dX9_having_0 : decode cX9_having 0 = .ok (.aload_n 0, 1) := by decide +kernel
theorem dX9_having_1 : decode cX9_having 1 = .ok (.iload_n 1, 1) := by decide +kernel
theorem dX9_having_2 : decode cX9_having 2 = .ok (.invokevirtual 346, 3) := by decide +kernel
theorem dX9_having_5 : decode cX9_having 5 = .ok (.ifCond .eq 26, 3) := by decide +kernel
theorem dX9_having_8 : decode cX9_having 8 = .ok (.iload_n 2, 1) := by decide +kernel
theorem dX9_having_9 : decode cX9_having 9 = .ok (.i2l, 1) := by decide +kernel
theorem dX9_having_10 : decode cX9_having 10 = .ok (.ldc2_w 406, 3) := by decide +kernel
theorem dX9_having_13 : decode cX9_having 13 = .ok (.ldc2_w 349, 3) := by decide +kernel
theorem dX9_having_16 : decode cX9_having 16 = .ok (.invokestatic 84, 3) := by decide +kernel
theorem dX9_having_19 : decode cX9_having 19 = .ok (.ifCond .eq 12, 3) := by decide +kernel
theorem dX9_having_22 : decode cX9_having 22 = .ok (.aload_n 0, 1) := by decide +kernel
theorem dX9_having_23 : decode cX9_having 23 = .ok (.iload_n 1, 1) := by decide +kernel
theorem dX9_having_24 : decode cX9_having 24 = .ok (.iload_n 2, 1) := by decide +kernel
theorem dX9_having_25 : decode cX9_having 25 = .ok (.invokevirtual 408, 3) := by decide +kernel
theorem dX9_having_28 : decode cX9_having 28 = .ok (.goto 5, 3) := by decide +kernel
theorem dX9_having_31 : decode cX9_having 31 = .ok (.bipush (-2), 2) := by decide +kernel
theorem dX9_having_33 : decode cX9_having 33 = .ok (.ireturn, 1) := by decide +kernel
abbrev mm_X9_having : ab_M := (RX9, 3, (some .int), false, 4, 91, none)
noncomputable def f_X9_having_J31 (h : ab_H) : Option (Int × ab_H) :=
  some ((-2 : Int), h)
set_option maxRecDepth 20000 in
theorem e_X9_having_J31 : ∀ (h : ab_H) (q : Int × ab_H), f_X9_having_J31  h = some q → ab_E mm_X9_having cX9_having 31 [none, none, none] [] h (some (ab_I q.1)) q.2 := by
  intro  h q hk
  unfold f_X9_having_J31 at hk
  refine ab_bipush (pc := 31) dX9_having_31 ab_p8_m2 ab_k_m2 ?_
  obtain rfl := Option.some.inj hk
  exact ab_reti (pc := 33) dX9_having_33 (Or.inl rfl)
noncomputable def f_X9_having (a0 : Int) (a1 : Int) (a2 : Int) (h : ab_H) : Option (Int × ab_H) :=
  (ab_on h 10 a0 (f_X9_isWordNow a0 a1 h)).bind fun q1 =>
  if q1.1 = (0 : Int) then
    f_X9_having_J31 q1.2
  else
  (f_X9_in a2 (-1 : Int) (5 : Int) q1.2).bind fun q2 =>
  if q2.1 = (0 : Int) then
    f_X9_having_J31 q2.2
  else
  (ab_on q2.2 10 a0 (f_X9_having0 a0 a1 a2 q2.2)).bind fun q3 =>
  some (q3.1, q3.2)
set_option maxRecDepth 20000 in
theorem ct_X9_having {a0 a1 a2 : Int} {h : ab_H} {q : Int × ab_H} (hk : f_X9_having a0 a1 a2 h = some q) : ab_CT yX9_having cX9_having 3 (some .int) 4 91 [ab_R a0, ab_I a1, ab_I a2] h (some (ab_I q.1)) q.2 := by
  refine ab_CT.mk_ 0 (own := RX9) (ini := false) (lv := [some (ab_R a0), some (ab_I a1), some (ab_I a2)]) rfl (by decide +kernel) (fun q => by cases q) rfl rfl ?_
  unfold f_X9_having at hk
  show ab_E mm_X9_having cX9_having 0 _ [] h _ _
  refine ab_aload_n (pc := 0) (i := 0) dX9_having_0 rfl rfl ?_
  refine ab_iload_n (pc := 1) (i := 1) dX9_having_1 rfl rfl ?_
  obtain ⟨q1, hq1, hk⟩ := ab_bnd hk
  obtain ⟨hb, hq1⟩ := ab_on_some hq1
  refine ab_callVI (st := []) (as := [ab_I a1]) (b := a0) (pc := 2) dX9_having_2 ml_RX9_346 my_X9_isWordNow mv_X9_isWordNow hb (ct_X9_isWordNow hq1) ⟨Nat.le_of_ble_eq_true rfl, Nat.le_of_ble_eq_true rfl⟩ rfl (Nat.le_of_ble_eq_true rfl) rfl ?_
  refine ab_if_eq (pc := 5) (tgt := 31) dX9_having_5 rfl (fun hc => ?_) (fun hc => ?_)
  · have hk := ab_ifp hk hc
    refine ab_sub_ (lv2 := [none, none, none]) (ab_sn (ab_sn (ab_sn ab_s0))) ?_
    exact e_X9_having_J31  _ _ hk
  · have hk := ab_ifn hk hc
    refine ab_iload_n (pc := 8) (i := 2) dX9_having_8 rfl rfl ?_
    refine ab_i2l_ (pc := 9) dX9_having_9 ?_
    refine ab_ldc2 (x := (-1 : Int)) (pc := 10) dX9_having_10 ab_ld2_RX9_406 ab_kl_m1 ?_
    refine ab_ldc2 (x := (5 : Int)) (pc := 13) dX9_having_13 ab_ld2_RX9_349 ab_kl_5 ?_
    obtain ⟨q2, hq2, hk⟩ := ab_bnd hk
    refine ab_callSI (st := []) (as := [ab_J a2, ab_J (-1 : Int), ab_J (5 : Int)]) (pc := 16) dX9_having_16 ml_RX9_84 my_X9_in ms_X9_in (ct_X9_in hq2) ⟨Nat.le_of_ble_eq_true rfl, Nat.le_of_ble_eq_true rfl⟩ rfl (Nat.le_of_ble_eq_true rfl) rfl ?_
    refine ab_if_eq (pc := 19) (tgt := 31) dX9_having_19 rfl (fun hc => ?_) (fun hc => ?_)
    · have hk := ab_ifp hk hc
      refine ab_sub_ (lv2 := [none, none, none]) (ab_sn (ab_sn (ab_sn ab_s0))) ?_
      exact e_X9_having_J31  _ _ hk
    · have hk := ab_ifn hk hc
      refine ab_aload_n (pc := 22) (i := 0) dX9_having_22 rfl rfl ?_
      refine ab_iload_n (pc := 23) (i := 1) dX9_having_23 rfl rfl ?_
      refine ab_iload_n (pc := 24) (i := 2) dX9_having_24 rfl rfl ?_
      obtain ⟨q3, hq3, hk⟩ := ab_bnd hk
      obtain ⟨hb, hq3⟩ := ab_on_some hq3
      refine ab_callVI (st := []) (as := [ab_I a1, ab_I a2]) (b := a0) (pc := 25) dX9_having_25 ml_RX9_408 my_X9_having0 mv_X9_having0 hb (ct_X9_having0 hq3) ⟨Nat.le_of_ble_eq_true rfl, Nat.le_of_ble_eq_true rfl⟩ rfl (Nat.le_of_ble_eq_true rfl) rfl ?_
      refine ab_goto (pc := 28) (tgt := 33) dX9_having_28 rfl ?_
      obtain rfl := Option.some.inj hk
      exact ab_reti (pc := 33) dX9_having_33 (Or.inl rfl)
theorem dX9_sharing0_0 : decode cX9_sharing0 0 = .ok (.iconst 1, 1) := by decide +kernel
theorem dX9_sharing0_1 : decode cX9_sharing0 1 = .ok (.aload_n 0, 1) := by decide +kernel
theorem dX9_sharing0_2 : decode cX9_sharing0 2 = .ok (.invokevirtual 246, 3) := by decide +kernel
theorem dX9_sharing0_5 : decode cX9_sharing0 5 = .ok (.ishl, 1) := by decide +kernel
theorem dX9_sharing0_6 : decode cX9_sharing0 6 = .ok (.iconst 1, 1) := by decide +kernel
theorem dX9_sharing0_7 : decode cX9_sharing0 7 = .ok (.isub, 1) := by decide +kernel
theorem dX9_sharing0_8 : decode cX9_sharing0 8 = .ok (.istore_n 3, 1) := by decide +kernel
theorem dX9_sharing0_9 : decode cX9_sharing0 9 = .ok (.iconst 0, 1) := by decide +kernel
theorem dX9_sharing0_10 : decode cX9_sharing0 10 = .ok (.istore 4, 2) := by decide +kernel
theorem dX9_sharing0_12 : decode cX9_sharing0 12 = .ok (.iload 4, 2) := by decide +kernel
theorem dX9_sharing0_14 : decode cX9_sharing0 14 = .ok (.aload_n 0, 1) := by decide +kernel
theorem dX9_sharing0_15 : decode cX9_sharing0 15 = .ok (.iload_n 1, 1) := by decide +kernel
theorem dX9_sharing0_16 : decode cX9_sharing0 16 = .ok (.invokevirtual 255, 3) := by decide +kernel
theorem dX9_sharing0_19 : decode cX9_sharing0 19 = .ok (.if_icmp .ge 38, 3) := by decide +kernel
theorem dX9_sharing0_22 : decode cX9_sharing0 22 = .ok (.iload_n 2, 1) := by decide +kernel
theorem dX9_sharing0_23 : decode cX9_sharing0 23 = .ok (.iload 4, 2) := by decide +kernel
theorem dX9_sharing0_25 : decode cX9_sharing0 25 = .ok (.ishr, 1) := by decide +kernel
theorem dX9_sharing0_26 : decode cX9_sharing0 26 = .ok (.iconst 1, 1) := by decide +kernel
theorem dX9_sharing0_27 : decode cX9_sharing0 27 = .ok (.iand, 1) := by decide +kernel
theorem dX9_sharing0_28 : decode cX9_sharing0 28 = .ok (.iconst 1, 1) := by decide +kernel
theorem dX9_sharing0_29 : decode cX9_sharing0 29 = .ok (.if_icmp .ne 22, 3) := by decide +kernel
theorem dX9_sharing0_32 : decode cX9_sharing0 32 = .ok (.iload_n 3, 1) := by decide +kernel
theorem dX9_sharing0_33 : decode cX9_sharing0 33 = .ok (.aload_n 0, 1) := by decide +kernel
theorem dX9_sharing0_34 : decode cX9_sharing0 34 = .ok (.aload_n 0, 1) := by decide +kernel
theorem dX9_sharing0_35 : decode cX9_sharing0 35 = .ok (.getfield 27, 3) := by decide +kernel
theorem dX9_sharing0_38 : decode cX9_sharing0 38 = .ok (.iload_n 1, 1) := by decide +kernel
theorem dX9_sharing0_39 : decode cX9_sharing0 39 = .ok (.iload 4, 2) := by decide +kernel
theorem dX9_sharing0_41 : decode cX9_sharing0 41 = .ok (.invokestatic 262, 3) := by decide +kernel
theorem dX9_sharing0_44 : decode cX9_sharing0 44 = .ok (.iaload, 1) := by decide +kernel
theorem dX9_sharing0_45 : decode cX9_sharing0 45 = .ok (.iconst (-1), 1) := by decide +kernel
theorem dX9_sharing0_46 : decode cX9_sharing0 46 = .ok (.invokevirtual 408, 3) := by decide +kernel
theorem dX9_sharing0_49 : decode cX9_sharing0 49 = .ok (.iand, 1) := by decide +kernel
theorem dX9_sharing0_50 : decode cX9_sharing0 50 = .ok (.istore_n 3, 1) := by decide +kernel
theorem dX9_sharing0_51 : decode cX9_sharing0 51 = .ok (.iinc 4 1, 3) := by decide +kernel
theorem dX9_sharing0_54 : decode cX9_sharing0 54 = .ok (.goto (-42), 3) := by decide +kernel
theorem dX9_sharing0_57 : decode cX9_sharing0 57 = .ok (.iload_n 3, 1) := by decide +kernel
theorem dX9_sharing0_58 : decode cX9_sharing0 58 = .ok (.ireturn, 1) := by decide +kernel
abbrev mm_X9_sharing0 : ab_M := (RX9, 5, (some .int), false, 4, 91, none)
noncomputable def f_X9_sharing0_J51 (rec : Int → Int → Int → Int → Int → ab_H → Option (Int × ab_H)) (v0 : Int) (v1 : Int) (v2 : Int) (v3 : Int) (v4 : Int) (h : ab_H) : Option (Int × ab_H) :=
  rec v0 v1 v2 v3 (ab_w32 (v4 + (1 : Int))) h
set_option maxRecDepth 20000 in
theorem e_X9_sharing0_J51 {rec : Int → Int → Int → Int → Int → ab_H → Option (Int × ab_H)} (hrec : ∀ (v0 : Int) (v1 : Int) (v2 : Int) (v3 : Int) (v4 : Int) (h : ab_H) (q : Int × ab_H), rec v0 v1 v2 v3 v4 h = some q → ab_E mm_X9_sharing0 cX9_sharing0 12 [some (ab_R v0), some (ab_I v1), some (ab_I v2), some (ab_I v3), some (ab_I v4)] [] h (some (ab_I q.1)) q.2) : ∀ (v0 : Int) (v1 : Int) (v2 : Int) (v3 : Int) (v4 : Int) (h : ab_H) (q : Int × ab_H), f_X9_sharing0_J51 rec v0 v1 v2 v3 v4 h = some q → ab_E mm_X9_sharing0 cX9_sharing0 51 [some (ab_R v0), some (ab_I v1), some (ab_I v2), some (ab_I v3), some (ab_I v4)] [] h (some (ab_I q.1)) q.2 := by
  intro v0 v1 v2 v3 v4 h q hk
  unfold f_X9_sharing0_J51 at hk
  refine ab_iinc (pc := 51) (i := 4) (lv2 := [some (ab_R v0), some (ab_I v1), some (ab_I v2), some (ab_I v3), some (ab_I (ab_w32 (v4 + (1 : Int))))]) dX9_sharing0_51 rfl (Nat.le_of_ble_eq_true rfl) rfl rfl ?_
  refine ab_goto (pc := 54) (tgt := 12) dX9_sharing0_54 rfl ?_
  refine ab_sub_ (lv2 := [some (ab_R v0), some (ab_I v1), some (ab_I v2), some (ab_I v3), some (ab_I (ab_w32 (v4 + (1 : Int))))]) (ab_ss (ab_ss (ab_ss (ab_ss (ab_ss ab_s0))))) ?_
  exact hrec _ _ _ _ _ _ _ hk
noncomputable def f_X9_sharing0_L12 : Nat → Int → Int → Int → Int → Int → ab_H → Option (Int × ab_H)
  | 0, _, _, _, _, _, _ => none
  | n + 1, v0, v1, v2, v3, v4, h =>
    (ab_on h 10 v0 (f_X9_terms v0 v1 h)).bind fun q1 =>
    if q1.1 ≤ v4 then
      some (v3, q1.2)
    else
    if ab_and (ab_shr v2 v4) (1 : Int) = (1 : Int) then
      (ab_get q1.2 10 15 v0).bind fun t2 =>
      (f_X9_place v1 v4 q1.2).bind fun q3 =>
      (ab_ald q3.2 11 t2 q3.1).bind fun t4 =>
      (ab_on q3.2 10 v0 (f_X9_having0 v0 t4 (-1 : Int) q3.2)).bind fun q5 =>
      f_X9_sharing0_J51 (f_X9_sharing0_L12 n) v0 v1 v2 (ab_and v3 q5.1) v4 q5.2
    else
    f_X9_sharing0_J51 (f_X9_sharing0_L12 n) v0 v1 v2 v3 v4 q1.2
set_option maxRecDepth 20000 in
theorem e_X9_sharing0_L12 : ∀ (n : Nat) (v0 : Int) (v1 : Int) (v2 : Int) (v3 : Int) (v4 : Int) (h : ab_H) (q : Int × ab_H), f_X9_sharing0_L12 n v0 v1 v2 v3 v4 h = some q → ab_E mm_X9_sharing0 cX9_sharing0 12 [some (ab_R v0), some (ab_I v1), some (ab_I v2), some (ab_I v3), some (ab_I v4)] [] h (some (ab_I q.1)) q.2 := by
  intro n
  induction n with
  | zero => intro v0 v1 v2 v3 v4 h q hk; cases hk
  | succ n ih =>
    intro v0 v1 v2 v3 v4 h q hk
    unfold f_X9_sharing0_L12 at hk
    refine ab_iload (pc := 12) (i := 4) dX9_sharing0_12 rfl ?_
    refine ab_aload_n (pc := 14) (i := 0) dX9_sharing0_14 rfl rfl ?_
    refine ab_iload_n (pc := 15) (i := 1) dX9_sharing0_15 rfl rfl ?_
    obtain ⟨q1, hq1, hk⟩ := ab_bnd hk
    obtain ⟨hb, hq1⟩ := ab_on_some hq1
    refine ab_callVI (st := [ab_I v4]) (as := [ab_I v1]) (b := v0) (pc := 16) dX9_sharing0_16 ml_RX9_255 my_X9_terms mv_X9_terms hb (ct_X9_terms hq1) ⟨Nat.le_of_ble_eq_true rfl, Nat.le_of_ble_eq_true rfl⟩ rfl (Nat.le_of_ble_eq_true rfl) rfl ?_
    refine ab_icmp_ge (pc := 19) (tgt := 57) dX9_sharing0_19 rfl (fun hc => ?_) (fun hc => ?_)
    · have hk := ab_ifp hk hc
      refine ab_iload_n (pc := 57) (i := 3) dX9_sharing0_57 rfl rfl ?_
      obtain rfl := Option.some.inj hk
      exact ab_reti (pc := 58) dX9_sharing0_58 (Or.inl rfl)
    · have hk := ab_ifn hk hc
      refine ab_iload_n (pc := 22) (i := 2) dX9_sharing0_22 rfl rfl ?_
      refine ab_iload (pc := 23) (i := 4) dX9_sharing0_23 rfl ?_
      refine ab_ishr (pc := 25) dX9_sharing0_25 ?_
      refine ab_iconst (pc := 26) dX9_sharing0_26 ab_k_1 ?_
      refine ab_iand (pc := 27) dX9_sharing0_27 ?_
      refine ab_iconst (pc := 28) dX9_sharing0_28 ab_k_1 ?_
      refine ab_icmp_ne (pc := 29) (tgt := 51) dX9_sharing0_29 rfl (fun hc => ?_) (fun hc => ?_)
      · have hk := ab_ifn hk hc
        refine ab_sub_ (lv2 := [some (ab_R v0), some (ab_I v1), some (ab_I v2), some (ab_I v3), some (ab_I v4)]) (ab_ss (ab_ss (ab_ss (ab_ss (ab_ss ab_s0))))) ?_
        exact e_X9_sharing0_J51 ih _ _ _ _ _ _ _ hk
      · have hk := ab_ifp hk hc
        refine ab_iload_n (pc := 32) (i := 3) dX9_sharing0_32 rfl rfl ?_
        refine ab_aload_n (pc := 33) (i := 0) dX9_sharing0_33 rfl rfl ?_
        refine ab_aload_n (pc := 34) (i := 0) dX9_sharing0_34 rfl rfl ?_
        obtain ⟨t2, ht2, hk⟩ := ab_bnd hk
        refine ab_getR (pc := 35) dX9_sharing0_35 fl_RX9_27 ht2 ?_
        refine ab_iload_n (pc := 38) (i := 1) dX9_sharing0_38 rfl rfl ?_
        refine ab_iload (pc := 39) (i := 4) dX9_sharing0_39 rfl ?_
        obtain ⟨q3, hq3, hk⟩ := ab_bnd hk
        refine ab_callSI (st := [ab_R t2, ab_R v0, ab_I v3]) (as := [ab_I v1, ab_I v4]) (pc := 41) dX9_sharing0_41 ml_RX9_262 my_X9_place ms_X9_place (ct_X9_place hq3) ⟨Nat.le_of_ble_eq_true rfl, Nat.le_of_ble_eq_true rfl⟩ rfl (Nat.le_of_ble_eq_true rfl) rfl ?_
        obtain ⟨t4, ht4, hk⟩ := ab_bnd hk
        refine ab_iald (pc := 44) dX9_sharing0_44 ht4 ?_
        refine ab_iconst (pc := 45) dX9_sharing0_45 ab_k_m1 ?_
        obtain ⟨q5, hq5, hk⟩ := ab_bnd hk
        obtain ⟨hb, hq5⟩ := ab_on_some hq5
        refine ab_callVI (st := [ab_I v3]) (as := [ab_I t4, ab_I (-1 : Int)]) (b := v0) (pc := 46) dX9_sharing0_46 ml_RX9_408 my_X9_having0 mv_X9_having0 hb (ct_X9_having0 hq5) ⟨Nat.le_of_ble_eq_true rfl, Nat.le_of_ble_eq_true rfl⟩ rfl (Nat.le_of_ble_eq_true rfl) rfl ?_
        refine ab_iand (pc := 49) dX9_sharing0_49 ?_
        refine ab_istore_n (pc := 50) (i := 3) (lv2 := [some (ab_R v0), some (ab_I v1), some (ab_I v2), some (ab_I (ab_and v3 q5.1)), some (ab_I v4)]) dX9_sharing0_50 rfl (Nat.le_of_ble_eq_true rfl) rfl rfl ?_
        refine ab_sub_ (lv2 := [some (ab_R v0), some (ab_I v1), some (ab_I v2), some (ab_I (ab_and v3 q5.1)), some (ab_I v4)]) (ab_ss (ab_ss (ab_ss (ab_ss (ab_ss ab_s0))))) ?_
        exact e_X9_sharing0_J51 ih _ _ _ _ _ _ _ hk
noncomputable def f_X9_sharing0 (a0 : Int) (a1 : Int) (a2 : Int) (h : ab_H) : Option (Int × ab_H) :=
  (ab_on h 10 a0 (f_X9_strings a0 h)).bind fun q1 =>
  f_X9_sharing0_L12 ab_FU a0 a1 a2 (ab_w32 ((ab_shl (1 : Int) q1.1) - (1 : Int))) (0 : Int) q1.2
set_option maxRecDepth 20000 in
theorem ct_X9_sharing0 {a0 a1 a2 : Int} {h : ab_H} {q : Int × ab_H} (hk : f_X9_sharing0 a0 a1 a2 h = some q) : ab_CT yX9_sharing0 cX9_sharing0 5 (some .int) 4 91 [ab_R a0, ab_I a1, ab_I a2] h (some (ab_I q.1)) q.2 := by
  refine ab_CT.mk_ 2 (own := RX9) (ini := false) (lv := [some (ab_R a0), some (ab_I a1), some (ab_I a2), none, none]) rfl (by decide +kernel) (fun q => by cases q) rfl rfl ?_
  unfold f_X9_sharing0 at hk
  show ab_E mm_X9_sharing0 cX9_sharing0 0 _ [] h _ _
  refine ab_iconst (pc := 0) dX9_sharing0_0 ab_k_1 ?_
  refine ab_aload_n (pc := 1) (i := 0) dX9_sharing0_1 rfl rfl ?_
  obtain ⟨q1, hq1, hk⟩ := ab_bnd hk
  obtain ⟨hb, hq1⟩ := ab_on_some hq1
  refine ab_callVI (st := [ab_I (1 : Int)]) (as := []) (b := a0) (pc := 2) dX9_sharing0_2 ml_RX9_246 my_X9_strings mv_X9_strings hb (ct_X9_strings hq1) ⟨Nat.le_of_ble_eq_true rfl, Nat.le_of_ble_eq_true rfl⟩ rfl (Nat.le_of_ble_eq_true rfl) rfl ?_
  refine ab_ishl (pc := 5) dX9_sharing0_5 ?_
  refine ab_iconst (pc := 6) dX9_sharing0_6 ab_k_1 ?_
  refine ab_isub (pc := 7) dX9_sharing0_7 ?_
  refine ab_istore_n (pc := 8) (i := 3) (lv2 := [some (ab_R a0), some (ab_I a1), some (ab_I a2), some (ab_I (ab_w32 ((ab_shl (1 : Int) q1.1) - (1 : Int)))), none]) dX9_sharing0_8 rfl (Nat.le_of_ble_eq_true rfl) rfl rfl ?_
  refine ab_iconst (pc := 9) dX9_sharing0_9 ab_k_0 ?_
  refine ab_istore (pc := 10) (i := 4) (lv2 := [some (ab_R a0), some (ab_I a1), some (ab_I a2), some (ab_I (ab_w32 ((ab_shl (1 : Int) q1.1) - (1 : Int)))), some (ab_I (0 : Int))]) dX9_sharing0_10 (Nat.le_of_ble_eq_true rfl) rfl rfl ?_
  refine ab_sub_ (lv2 := [some (ab_R a0), some (ab_I a1), some (ab_I a2), some (ab_I (ab_w32 ((ab_shl (1 : Int) q1.1) - (1 : Int)))), some (ab_I (0 : Int))]) (ab_ss (ab_ss (ab_ss (ab_ss (ab_ss ab_s0))))) ?_
  refine e_X9_sharing0_L12 _ _ _ _ _ _ _ _ hk
theorem dX9_sharing_0 : decode cX9_sharing 0 = .ok (.aload_n 0, 1) := by decide +kernel
theorem dX9_sharing_1 : decode cX9_sharing 1 = .ok (.iload_n 1, 1) := by decide +kernel
theorem dX9_sharing_2 : decode cX9_sharing 2 = .ok (.invokevirtual 323, 3) := by decide +kernel
theorem dX9_sharing_5 : decode cX9_sharing 5 = .ok (.ifCond .eq 22, 3) := by decide +kernel
theorem dX9_sharing_8 : decode cX9_sharing 8 = .ok (.iload_n 2, 1) := by decide +kernel
theorem dX9_sharing_9 : decode cX9_sharing 9 = .ok (.i2l, 1) := by decide +kernel
theorem dX9_sharing_10 : decode cX9_sharing 10 = .ok (.lconst 0, 1) := by decide +kernel
theorem dX9_sharing_11 : decode cX9_sharing 11 = .ok (.iconst 1, 1) := by decide +kernel
theorem dX9_sharing_12 : decode cX9_sharing 12 = .ok (.aload_n 0, 1) := by decide +kernel
theorem dX9_sharing_13 : decode cX9_sharing 13 = .ok (.iload_n 1, 1) := by decide +kernel
theorem dX9_sharing_14 : decode cX9_sharing 14 = .ok (.invokevirtual 255, 3) := by decide +kernel
theorem dX9_sharing_17 : decode cX9_sharing 17 = .ok (.ishl, 1) := by decide +kernel
theorem dX9_sharing_18 : decode cX9_sharing 18 = .ok (.iconst 1, 1) := by decide +kernel
theorem dX9_sharing_19 : decode cX9_sharing 19 = .ok (.isub, 1) := by decide +kernel
theorem dX9_sharing_20 : decode cX9_sharing 20 = .ok (.i2l, 1) := by decide +kernel
theorem dX9_sharing_21 : decode cX9_sharing 21 = .ok (.invokestatic 84, 3) := by decide +kernel
theorem dX9_sharing_24 : decode cX9_sharing 24 = .ok (.ifCond .ne 6, 3) := by decide +kernel
theorem dX9_sharing_27 : decode cX9_sharing 27 = .ok (.bipush (-2), 2) := by decide +kernel
theorem dX9_sharing_29 : decode cX9_sharing 29 = .ok (.ireturn, 1) := by decide +kernel
theorem dX9_sharing_30 : decode cX9_sharing 30 = .ok (.aload_n 0, 1) := by decide +kernel
theorem dX9_sharing_31 : decode cX9_sharing 31 = .ok (.invokevirtual 287, 3) := by decide +kernel
theorem dX9_sharing_34 : decode cX9_sharing 34 = .ok (.aload_n 0, 1) := by decide +kernel
theorem dX9_sharing_35 : decode cX9_sharing 35 = .ok (.iload_n 1, 1) := by decide +kernel
theorem dX9_sharing_36 : decode cX9_sharing 36 = .ok (.iload_n 2, 1) := by decide +kernel
theorem dX9_sharing_37 : decode cX9_sharing 37 = .ok (.invokevirtual 411, 3) := by decide +kernel
theorem dX9_sharing_40 : decode cX9_sharing 40 = .ok (.ireturn, 1) := by decide +kernel
abbrev mm_X9_sharing : ab_M := (RX9, 3, (some .int), false, 5, 115, none)
noncomputable def f_X9_sharing (a0 : Int) (a1 : Int) (a2 : Int) (h : ab_H) : Option (Int × ab_H) :=
  (ab_on h 10 a0 (f_X9_isString a0 a1 h)).bind fun q1 =>
  if q1.1 = (0 : Int) then
    some ((-2 : Int), q1.2)
  else
  (ab_on q1.2 10 a0 (f_X9_terms a0 a1 q1.2)).bind fun q2 =>
  (f_X9_in a2 (0 : Int) (ab_w32 ((ab_shl (1 : Int) q2.1) - (1 : Int))) q2.2).bind fun q3 =>
  if q3.1 = (0 : Int) then
    some ((-2 : Int), q3.2)
  else
  (ab_on q3.2 10 a0 (f_X9_laysWords a0 q3.2)).bind fun q4 =>
  (ab_on q4 10 a0 (f_X9_sharing0 a0 a1 a2 q4)).bind fun q5 =>
  some (q5.1, q5.2)
set_option maxRecDepth 20000 in
theorem ct_X9_sharing {a0 a1 a2 : Int} {h : ab_H} {q : Int × ab_H} (hk : f_X9_sharing a0 a1 a2 h = some q) : ab_CT yX9_sharing cX9_sharing 3 (some .int) 5 115 [ab_R a0, ab_I a1, ab_I a2] h (some (ab_I q.1)) q.2 := by
  refine ab_CT.mk_ 0 (own := RX9) (ini := false) (lv := [some (ab_R a0), some (ab_I a1), some (ab_I a2)]) rfl (by decide +kernel) (fun q => by cases q) rfl rfl ?_
  unfold f_X9_sharing at hk
  show ab_E mm_X9_sharing cX9_sharing 0 _ [] h _ _
  refine ab_aload_n (pc := 0) (i := 0) dX9_sharing_0 rfl rfl ?_
  refine ab_iload_n (pc := 1) (i := 1) dX9_sharing_1 rfl rfl ?_
  obtain ⟨q1, hq1, hk⟩ := ab_bnd hk
  obtain ⟨hb, hq1⟩ := ab_on_some hq1
  refine ab_callVI (st := []) (as := [ab_I a1]) (b := a0) (pc := 2) dX9_sharing_2 ml_RX9_323 my_X9_isString mv_X9_isString hb (ct_X9_isString hq1) ⟨Nat.le_of_ble_eq_true rfl, Nat.le_of_ble_eq_true rfl⟩ rfl (Nat.le_of_ble_eq_true rfl) rfl ?_
  refine ab_if_eq (pc := 5) (tgt := 27) dX9_sharing_5 rfl (fun hc => ?_) (fun hc => ?_)
  · have hk := ab_ifp hk hc
    refine ab_bipush (pc := 27) dX9_sharing_27 ab_p8_m2 ab_k_m2 ?_
    obtain rfl := Option.some.inj hk
    exact ab_reti (pc := 29) dX9_sharing_29 (Or.inl rfl)
  · have hk := ab_ifn hk hc
    refine ab_iload_n (pc := 8) (i := 2) dX9_sharing_8 rfl rfl ?_
    refine ab_i2l_ (pc := 9) dX9_sharing_9 ?_
    refine ab_lconst (x := (0 : Int)) (pc := 10) dX9_sharing_10 rfl ab_kl_0 ?_
    refine ab_iconst (pc := 11) dX9_sharing_11 ab_k_1 ?_
    refine ab_aload_n (pc := 12) (i := 0) dX9_sharing_12 rfl rfl ?_
    refine ab_iload_n (pc := 13) (i := 1) dX9_sharing_13 rfl rfl ?_
    obtain ⟨q2, hq2, hk⟩ := ab_bnd hk
    obtain ⟨hb, hq2⟩ := ab_on_some hq2
    refine ab_callVI (st := [ab_I (1 : Int), ab_J (0 : Int), ab_J a2]) (as := [ab_I a1]) (b := a0) (pc := 14) dX9_sharing_14 ml_RX9_255 my_X9_terms mv_X9_terms hb (ct_X9_terms hq2) ⟨Nat.le_of_ble_eq_true rfl, Nat.le_of_ble_eq_true rfl⟩ rfl (Nat.le_of_ble_eq_true rfl) rfl ?_
    refine ab_ishl (pc := 17) dX9_sharing_17 ?_
    refine ab_iconst (pc := 18) dX9_sharing_18 ab_k_1 ?_
    refine ab_isub (pc := 19) dX9_sharing_19 ?_
    refine ab_i2l_ (pc := 20) dX9_sharing_20 ?_
    obtain ⟨q3, hq3, hk⟩ := ab_bnd hk
    refine ab_callSI (st := []) (as := [ab_J a2, ab_J (0 : Int), ab_J (ab_w32 ((ab_shl (1 : Int) q2.1) - (1 : Int)))]) (pc := 21) dX9_sharing_21 ml_RX9_84 my_X9_in ms_X9_in (ct_X9_in hq3) ⟨Nat.le_of_ble_eq_true rfl, Nat.le_of_ble_eq_true rfl⟩ rfl (Nat.le_of_ble_eq_true rfl) rfl ?_
    refine ab_if_ne (pc := 24) (tgt := 30) dX9_sharing_24 rfl (fun hc => ?_) (fun hc => ?_)
    · have hk := ab_ifn hk hc
      refine ab_aload_n (pc := 30) (i := 0) dX9_sharing_30 rfl rfl ?_
      obtain ⟨q4, hq4, hk⟩ := ab_bnd hk
      obtain ⟨hb, hq4⟩ := ab_on_some hq4
      refine ab_callVV (st := []) (as := []) (b := a0) (pc := 31) dX9_sharing_31 ml_RX9_287 my_X9_laysWords mv_X9_laysWords hb (ct_X9_laysWords hq4) ⟨Nat.le_of_ble_eq_true rfl, Nat.le_of_ble_eq_true rfl⟩ rfl (Nat.le_of_ble_eq_true rfl) rfl ?_
      refine ab_aload_n (pc := 34) (i := 0) dX9_sharing_34 rfl rfl ?_
      refine ab_iload_n (pc := 35) (i := 1) dX9_sharing_35 rfl rfl ?_
      refine ab_iload_n (pc := 36) (i := 2) dX9_sharing_36 rfl rfl ?_
      obtain ⟨q5, hq5, hk⟩ := ab_bnd hk
      obtain ⟨hb, hq5⟩ := ab_on_some hq5
      refine ab_callVI (st := []) (as := [ab_I a1, ab_I a2]) (b := a0) (pc := 37) dX9_sharing_37 ml_RX9_411 my_X9_sharing0 mv_X9_sharing0 hb (ct_X9_sharing0 hq5) ⟨Nat.le_of_ble_eq_true rfl, Nat.le_of_ble_eq_true rfl⟩ rfl (Nat.le_of_ble_eq_true rfl) rfl ?_
      obtain rfl := Option.some.inj hk
      exact ab_reti (pc := 40) dX9_sharing_40 (Or.inl rfl)
    · have hk := ab_ifp hk hc
      refine ab_bipush (pc := 27) dX9_sharing_27 ab_p8_m2 ab_k_m2 ?_
      obtain rfl := Option.some.inj hk
      exact ab_reti (pc := 29) dX9_sharing_29 (Or.inl rfl)
theorem dX9_hasSense_0 : decode cX9_hasSense 0 = .ok (.aload_n 0, 1) := by decide +kernel
theorem dX9_hasSense_1 : decode cX9_hasSense 1 = .ok (.iload_n 1, 1) := by decide +kernel
theorem dX9_hasSense_2 : decode cX9_hasSense 2 = .ok (.aload_n 0, 1) := by decide +kernel
theorem dX9_hasSense_3 : decode cX9_hasSense 3 = .ok (.getfield 27, 3) := by decide +kernel
theorem dX9_hasSense_6 : decode cX9_hasSense 6 = .ok (.iload_n 2, 1) := by decide +kernel
theorem dX9_hasSense_7 : decode cX9_hasSense 7 = .ok (.iload_n 3, 1) := by decide +kernel
theorem dX9_hasSense_8 : decode cX9_hasSense 8 = .ok (.invokestatic 262, 3) := by decide +kernel
theorem dX9_hasSense_11 : decode cX9_hasSense 11 = .ok (.iaload, 1) := by decide +kernel
theorem dX9_hasSense_12 : decode cX9_hasSense 12 = .ok (.aload_n 0, 1) := by decide +kernel
theorem dX9_hasSense_13 : decode cX9_hasSense 13 = .ok (.iload_n 2, 1) := by decide +kernel
theorem dX9_hasSense_14 : decode cX9_hasSense 14 = .ok (.iload_n 3, 1) := by decide +kernel
theorem dX9_hasSense_15 : decode cX9_hasSense 15 = .ok (.invokevirtual 294, 3) := by decide +kernel
theorem dX9_hasSense_18 : decode cX9_hasSense 18 = .ok (.invokevirtual 402, 3) := by decide +kernel
theorem dX9_hasSense_21 : decode cX9_hasSense 21 = .ok (.ireturn, 1) := by decide +kernel
abbrev mm_X9_hasSense : ab_M := (RX9, 4, (some .boolean), false, 3, 67, none)
noncomputable def f_X9_hasSense (a0 : Int) (a1 : Int) (a2 : Int) (a3 : Int) (h : ab_H) : Option (Int × ab_H) :=
  (ab_get h 10 15 a0).bind fun t1 =>
  (f_X9_place a2 a3 h).bind fun q2 =>
  (ab_ald q2.2 11 t1 q2.1).bind fun t3 =>
  (ab_on q2.2 10 a0 (f_X9_roleOf a0 a2 a3 q2.2)).bind fun q4 =>
  (ab_on q4.2 10 a0 (f_X9_hasWord a0 a1 t3 q4.1 q4.2)).bind fun q5 =>
  ab_if (decide (q5.1 = 0 ∨ q5.1 = 1)) <|
  some (q5.1, q5.2)
set_option maxRecDepth 20000 in
theorem ct_X9_hasSense {a0 a1 a2 a3 : Int} {h : ab_H} {q : Int × ab_H} (hk : f_X9_hasSense a0 a1 a2 a3 h = some q) : ab_CT yX9_hasSense cX9_hasSense 4 (some .boolean) 3 67 [ab_R a0, ab_I a1, ab_I a2, ab_I a3] h (some (ab_I q.1)) q.2 := by
  refine ab_CT.mk_ 0 (own := RX9) (ini := false) (lv := [some (ab_R a0), some (ab_I a1), some (ab_I a2), some (ab_I a3)]) rfl (by decide +kernel) (fun q => by cases q) rfl rfl ?_
  unfold f_X9_hasSense at hk
  show ab_E mm_X9_hasSense cX9_hasSense 0 _ [] h _ _
  refine ab_aload_n (pc := 0) (i := 0) dX9_hasSense_0 rfl rfl ?_
  refine ab_iload_n (pc := 1) (i := 1) dX9_hasSense_1 rfl rfl ?_
  refine ab_aload_n (pc := 2) (i := 0) dX9_hasSense_2 rfl rfl ?_
  obtain ⟨t1, ht1, hk⟩ := ab_bnd hk
  refine ab_getR (pc := 3) dX9_hasSense_3 fl_RX9_27 ht1 ?_
  refine ab_iload_n (pc := 6) (i := 2) dX9_hasSense_6 rfl rfl ?_
  refine ab_iload_n (pc := 7) (i := 3) dX9_hasSense_7 rfl rfl ?_
  obtain ⟨q2, hq2, hk⟩ := ab_bnd hk
  refine ab_callSI (st := [ab_R t1, ab_I a1, ab_R a0]) (as := [ab_I a2, ab_I a3]) (pc := 8) dX9_hasSense_8 ml_RX9_262 my_X9_place ms_X9_place (ct_X9_place hq2) ⟨Nat.le_of_ble_eq_true rfl, Nat.le_of_ble_eq_true rfl⟩ rfl (Nat.le_of_ble_eq_true rfl) rfl ?_
  obtain ⟨t3, ht3, hk⟩ := ab_bnd hk
  refine ab_iald (pc := 11) dX9_hasSense_11 ht3 ?_
  refine ab_aload_n (pc := 12) (i := 0) dX9_hasSense_12 rfl rfl ?_
  refine ab_iload_n (pc := 13) (i := 2) dX9_hasSense_13 rfl rfl ?_
  refine ab_iload_n (pc := 14) (i := 3) dX9_hasSense_14 rfl rfl ?_
  obtain ⟨q4, hq4, hk⟩ := ab_bnd hk
  obtain ⟨hb, hq4⟩ := ab_on_some hq4
  refine ab_callVI (st := [ab_I t3, ab_I a1, ab_R a0]) (as := [ab_I a2, ab_I a3]) (b := a0) (pc := 15) dX9_hasSense_15 ml_RX9_294 my_X9_roleOf mv_X9_roleOf hb (ct_X9_roleOf hq4) ⟨Nat.le_of_ble_eq_true rfl, Nat.le_of_ble_eq_true rfl⟩ rfl (Nat.le_of_ble_eq_true rfl) rfl ?_
  obtain ⟨q5, hq5, hk⟩ := ab_bnd hk
  obtain ⟨hb, hq5⟩ := ab_on_some hq5
  refine ab_callVI (st := []) (as := [ab_I a1, ab_I t3, ab_I q4.1]) (b := a0) (pc := 18) dX9_hasSense_18 ml_RX9_402 my_X9_hasWord mv_X9_hasWord hb (ct_X9_hasWord hq5) ⟨Nat.le_of_ble_eq_true rfl, Nat.le_of_ble_eq_true rfl⟩ rfl (Nat.le_of_ble_eq_true rfl) rfl ?_
  obtain ⟨hg, hk⟩ := ab_if_some hk
  obtain rfl := Option.some.inj hk
  exact ab_retz (pc := 21) dX9_hasSense_21 rfl hg
theorem dX9_isFirst_0 : decode cX9_isFirst 0 = .ok (.iconst 0, 1) := by decide +kernel
theorem dX9_isFirst_1 : decode cX9_isFirst 1 = .ok (.istore_n 3, 1) := by decide +kernel
theorem dX9_isFirst_2 : decode cX9_isFirst 2 = .ok (.iload_n 3, 1) := by decide +kernel
theorem dX9_isFirst_3 : decode cX9_isFirst 3 = .ok (.iload_n 2, 1) := by decide +kernel
theorem dX9_isFirst_4 : decode cX9_isFirst 4 = .ok (.if_icmp .ge 49, 3) := by decide +kernel
theorem dX9_isFirst_7 : decode cX9_isFirst 7 = .ok (.aload_n 0, 1) := by decide +kernel
theorem dX9_isFirst_8 : decode cX9_isFirst 8 = .ok (.getfield 27, 3) := by decide +kernel
theorem dX9_isFirst_11 : decode cX9_isFirst 11 = .ok (.iload_n 1, 1) := by decide +kernel
theorem dX9_isFirst_12 : decode cX9_isFirst 12 = .ok (.iload_n 3, 1) := by decide +kernel
theorem dX9_isFirst_13 : decode cX9_isFirst 13 = .ok (.invokestatic 262, 3) := by decide +kernel
theorem dX9_isFirst_16 : decode cX9_isFirst 16 = .ok (.iaload, 1) := by decide +kernel
theorem dX9_isFirst_17 : decode cX9_isFirst 17 = .ok (.aload_n 0, 1) := by decide +kernel
theorem dX9_isFirst_18 : decode cX9_isFirst 18 = .ok (.getfield 27, 3) := by decide +kernel
theorem dX9_isFirst_21 : decode cX9_isFirst 21 = .ok (.iload_n 1, 1) := by decide +kernel
theorem dX9_isFirst_22 : decode cX9_isFirst 22 = .ok (.iload_n 2, 1) := by decide +kernel
theorem dX9_isFirst_23 : decode cX9_isFirst 23 = .ok (.invokestatic 262, 3) := by decide +kernel
theorem dX9_isFirst_26 : decode cX9_isFirst 26 = .ok (.iaload, 1) := by decide +kernel
theorem dX9_isFirst_27 : decode cX9_isFirst 27 = .ok (.if_icmp .ne 20, 3) := by decide +kernel
theorem dX9_isFirst_30 : decode cX9_isFirst 30 = .ok (.aload_n 0, 1) := by decide +kernel
theorem dX9_isFirst_31 : decode cX9_isFirst 31 = .ok (.iload_n 1, 1) := by decide +kernel
theorem dX9_isFirst_32 : decode cX9_isFirst 32 = .ok (.iload_n 3, 1) := by decide +kernel
theorem dX9_isFirst_33 : decode cX9_isFirst 33 = .ok (.invokevirtual 294, 3) := by decide +kernel
theorem dX9_isFirst_36 : decode cX9_isFirst 36 = .ok (.aload_n 0, 1) := by decide +kernel
theorem dX9_isFirst_37 : decode cX9_isFirst 37 = .ok (.iload_n 1, 1) := by decide +kernel
theorem dX9_isFirst_38 : decode cX9_isFirst 38 = .ok (.iload_n 2, 1) := by decide +kernel
theorem dX9_isFirst_39 : decode cX9_isFirst 39 = .ok (.invokevirtual 294, 3) := by decide +kernel
theorem dX9_isFirst_42 : decode cX9_isFirst 42 = .ok (.if_icmp .ne 5, 3) := by decide +kernel
theorem dX9_isFirst_45 : decode cX9_isFirst 45 = .ok (.iconst 0, 1) := by decide +kernel
theorem dX9_isFirst_46 : decode cX9_isFirst 46 = .ok (.ireturn, 1) := by decide +kernel
theorem dX9_isFirst_47 : decode cX9_isFirst 47 = .ok (.iinc 3 1, 3) := by decide +kernel
theorem dX9_isFirst_50 : decode cX9_isFirst 50 = .ok (.goto (-48), 3) := by decide +kernel
theorem dX9_isFirst_53 : decode cX9_isFirst 53 = .ok (.iconst 1, 1) := by decide +kernel
theorem dX9_isFirst_54 : decode cX9_isFirst 54 = .ok (.ireturn, 1) := by decide +kernel
abbrev mm_X9_isFirst : ab_M := (RX9, 4, (some .boolean), false, 2, 43, none)
noncomputable def f_X9_isFirst_J47 (rec : Int → Int → Int → Int → ab_H → Option (Int × ab_H)) (v0 : Int) (v1 : Int) (v2 : Int) (v3 : Int) (h : ab_H) : Option (Int × ab_H) :=
  rec v0 v1 v2 (ab_w32 (v3 + (1 : Int))) h
set_option maxRecDepth 20000 in
theorem e_X9_isFirst_J47 {rec : Int → Int → Int → Int → ab_H → Option (Int × ab_H)} (hrec : ∀ (v0 : Int) (v1 : Int) (v2 : Int) (v3 : Int) (h : ab_H) (q : Int × ab_H), rec v0 v1 v2 v3 h = some q → ab_E mm_X9_isFirst cX9_isFirst 2 [some (ab_R v0), some (ab_I v1), some (ab_I v2), some (ab_I v3)] [] h (some (ab_I q.1)) q.2) : ∀ (v0 : Int) (v1 : Int) (v2 : Int) (v3 : Int) (h : ab_H) (q : Int × ab_H), f_X9_isFirst_J47 rec v0 v1 v2 v3 h = some q → ab_E mm_X9_isFirst cX9_isFirst 47 [some (ab_R v0), some (ab_I v1), some (ab_I v2), some (ab_I v3)] [] h (some (ab_I q.1)) q.2 := by
  intro v0 v1 v2 v3 h q hk
  unfold f_X9_isFirst_J47 at hk
  refine ab_iinc (pc := 47) (i := 3) (lv2 := [some (ab_R v0), some (ab_I v1), some (ab_I v2), some (ab_I (ab_w32 (v3 + (1 : Int))))]) dX9_isFirst_47 rfl (Nat.le_of_ble_eq_true rfl) rfl rfl ?_
  refine ab_goto (pc := 50) (tgt := 2) dX9_isFirst_50 rfl ?_
  refine ab_sub_ (lv2 := [some (ab_R v0), some (ab_I v1), some (ab_I v2), some (ab_I (ab_w32 (v3 + (1 : Int))))]) (ab_ss (ab_ss (ab_ss (ab_ss ab_s0)))) ?_
  exact hrec _ _ _ _ _ _ hk
noncomputable def f_X9_isFirst_L2 : Nat → Int → Int → Int → Int → ab_H → Option (Int × ab_H)
  | 0, _, _, _, _, _ => none
  | n + 1, v0, v1, v2, v3, h =>
    if v2 ≤ v3 then
      some ((1 : Int), h)
    else
    (ab_get h 10 15 v0).bind fun t1 =>
    (f_X9_place v1 v3 h).bind fun q2 =>
    (ab_ald q2.2 11 t1 q2.1).bind fun t3 =>
    (ab_get q2.2 10 15 v0).bind fun t4 =>
    (f_X9_place v1 v2 q2.2).bind fun q5 =>
    (ab_ald q5.2 11 t4 q5.1).bind fun t6 =>
    if t3 = t6 then
      (ab_on q5.2 10 v0 (f_X9_roleOf v0 v1 v3 q5.2)).bind fun q7 =>
      (ab_on q7.2 10 v0 (f_X9_roleOf v0 v1 v2 q7.2)).bind fun q8 =>
      if q7.1 = q8.1 then
        some ((0 : Int), q8.2)
      else
      f_X9_isFirst_J47 (f_X9_isFirst_L2 n) v0 v1 v2 v3 q8.2
    else
    f_X9_isFirst_J47 (f_X9_isFirst_L2 n) v0 v1 v2 v3 q5.2
set_option maxRecDepth 20000 in
theorem e_X9_isFirst_L2 : ∀ (n : Nat) (v0 : Int) (v1 : Int) (v2 : Int) (v3 : Int) (h : ab_H) (q : Int × ab_H), f_X9_isFirst_L2 n v0 v1 v2 v3 h = some q → ab_E mm_X9_isFirst cX9_isFirst 2 [some (ab_R v0), some (ab_I v1), some (ab_I v2), some (ab_I v3)] [] h (some (ab_I q.1)) q.2 := by
  intro n
  induction n with
  | zero => intro v0 v1 v2 v3 h q hk; cases hk
  | succ n ih =>
    intro v0 v1 v2 v3 h q hk
    unfold f_X9_isFirst_L2 at hk
    refine ab_iload_n (pc := 2) (i := 3) dX9_isFirst_2 rfl rfl ?_
    refine ab_iload_n (pc := 3) (i := 2) dX9_isFirst_3 rfl rfl ?_
    refine ab_icmp_ge (pc := 4) (tgt := 53) dX9_isFirst_4 rfl (fun hc => ?_) (fun hc => ?_)
    · have hk := ab_ifp hk hc
      refine ab_iconst (pc := 53) dX9_isFirst_53 ab_k_1 ?_
      obtain rfl := Option.some.inj hk
      exact ab_retz (pc := 54) dX9_isFirst_54 rfl rfl
    · have hk := ab_ifn hk hc
      refine ab_aload_n (pc := 7) (i := 0) dX9_isFirst_7 rfl rfl ?_
      obtain ⟨t1, ht1, hk⟩ := ab_bnd hk
      refine ab_getR (pc := 8) dX9_isFirst_8 fl_RX9_27 ht1 ?_
      refine ab_iload_n (pc := 11) (i := 1) dX9_isFirst_11 rfl rfl ?_
      refine ab_iload_n (pc := 12) (i := 3) dX9_isFirst_12 rfl rfl ?_
      obtain ⟨q2, hq2, hk⟩ := ab_bnd hk
      refine ab_callSI (st := [ab_R t1]) (as := [ab_I v1, ab_I v3]) (pc := 13) dX9_isFirst_13 ml_RX9_262 my_X9_place ms_X9_place (ct_X9_place hq2) ⟨Nat.le_of_ble_eq_true rfl, Nat.le_of_ble_eq_true rfl⟩ rfl (Nat.le_of_ble_eq_true rfl) rfl ?_
      obtain ⟨t3, ht3, hk⟩ := ab_bnd hk
      refine ab_iald (pc := 16) dX9_isFirst_16 ht3 ?_
      refine ab_aload_n (pc := 17) (i := 0) dX9_isFirst_17 rfl rfl ?_
      obtain ⟨t4, ht4, hk⟩ := ab_bnd hk
      refine ab_getR (pc := 18) dX9_isFirst_18 fl_RX9_27 ht4 ?_
      refine ab_iload_n (pc := 21) (i := 1) dX9_isFirst_21 rfl rfl ?_
      refine ab_iload_n (pc := 22) (i := 2) dX9_isFirst_22 rfl rfl ?_
      obtain ⟨q5, hq5, hk⟩ := ab_bnd hk
      refine ab_callSI (st := [ab_R t4, ab_I t3]) (as := [ab_I v1, ab_I v2]) (pc := 23) dX9_isFirst_23 ml_RX9_262 my_X9_place ms_X9_place (ct_X9_place hq5) ⟨Nat.le_of_ble_eq_true rfl, Nat.le_of_ble_eq_true rfl⟩ rfl (Nat.le_of_ble_eq_true rfl) rfl ?_
      obtain ⟨t6, ht6, hk⟩ := ab_bnd hk
      refine ab_iald (pc := 26) dX9_isFirst_26 ht6 ?_
      refine ab_icmp_ne (pc := 27) (tgt := 47) dX9_isFirst_27 rfl (fun hc => ?_) (fun hc => ?_)
      · have hk := ab_ifn hk hc
        refine ab_sub_ (lv2 := [some (ab_R v0), some (ab_I v1), some (ab_I v2), some (ab_I v3)]) (ab_ss (ab_ss (ab_ss (ab_ss ab_s0)))) ?_
        exact e_X9_isFirst_J47 ih _ _ _ _ _ _ hk
      · have hk := ab_ifp hk hc
        refine ab_aload_n (pc := 30) (i := 0) dX9_isFirst_30 rfl rfl ?_
        refine ab_iload_n (pc := 31) (i := 1) dX9_isFirst_31 rfl rfl ?_
        refine ab_iload_n (pc := 32) (i := 3) dX9_isFirst_32 rfl rfl ?_
        obtain ⟨q7, hq7, hk⟩ := ab_bnd hk
        obtain ⟨hb, hq7⟩ := ab_on_some hq7
        refine ab_callVI (st := []) (as := [ab_I v1, ab_I v3]) (b := v0) (pc := 33) dX9_isFirst_33 ml_RX9_294 my_X9_roleOf mv_X9_roleOf hb (ct_X9_roleOf hq7) ⟨Nat.le_of_ble_eq_true rfl, Nat.le_of_ble_eq_true rfl⟩ rfl (Nat.le_of_ble_eq_true rfl) rfl ?_
        refine ab_aload_n (pc := 36) (i := 0) dX9_isFirst_36 rfl rfl ?_
        refine ab_iload_n (pc := 37) (i := 1) dX9_isFirst_37 rfl rfl ?_
        refine ab_iload_n (pc := 38) (i := 2) dX9_isFirst_38 rfl rfl ?_
        obtain ⟨q8, hq8, hk⟩ := ab_bnd hk
        obtain ⟨hb, hq8⟩ := ab_on_some hq8
        refine ab_callVI (st := [ab_I q7.1]) (as := [ab_I v1, ab_I v2]) (b := v0) (pc := 39) dX9_isFirst_39 ml_RX9_294 my_X9_roleOf mv_X9_roleOf hb (ct_X9_roleOf hq8) ⟨Nat.le_of_ble_eq_true rfl, Nat.le_of_ble_eq_true rfl⟩ rfl (Nat.le_of_ble_eq_true rfl) rfl ?_
        refine ab_icmp_ne (pc := 42) (tgt := 47) dX9_isFirst_42 rfl (fun hc => ?_) (fun hc => ?_)
        · have hk := ab_ifn hk hc
          refine ab_sub_ (lv2 := [some (ab_R v0), some (ab_I v1), some (ab_I v2), some (ab_I v3)]) (ab_ss (ab_ss (ab_ss (ab_ss ab_s0)))) ?_
          exact e_X9_isFirst_J47 ih _ _ _ _ _ _ hk
        · have hk := ab_ifp hk hc
          refine ab_iconst (pc := 45) dX9_isFirst_45 ab_k_0 ?_
          obtain rfl := Option.some.inj hk
          exact ab_retz (pc := 46) dX9_isFirst_46 rfl rfl
noncomputable def f_X9_isFirst (a0 : Int) (a1 : Int) (a2 : Int) (h : ab_H) : Option (Int × ab_H) :=
  f_X9_isFirst_L2 ab_FU a0 a1 a2 (0 : Int) h
set_option maxRecDepth 20000 in
theorem ct_X9_isFirst {a0 a1 a2 : Int} {h : ab_H} {q : Int × ab_H} (hk : f_X9_isFirst a0 a1 a2 h = some q) : ab_CT yX9_isFirst cX9_isFirst 4 (some .boolean) 2 43 [ab_R a0, ab_I a1, ab_I a2] h (some (ab_I q.1)) q.2 := by
  refine ab_CT.mk_ 1 (own := RX9) (ini := false) (lv := [some (ab_R a0), some (ab_I a1), some (ab_I a2), none]) rfl (by decide +kernel) (fun q => by cases q) rfl rfl ?_
  unfold f_X9_isFirst at hk
  show ab_E mm_X9_isFirst cX9_isFirst 0 _ [] h _ _
  refine ab_iconst (pc := 0) dX9_isFirst_0 ab_k_0 ?_
  refine ab_istore_n (pc := 1) (i := 3) (lv2 := [some (ab_R a0), some (ab_I a1), some (ab_I a2), some (ab_I (0 : Int))]) dX9_isFirst_1 rfl (Nat.le_of_ble_eq_true rfl) rfl rfl ?_
  refine ab_sub_ (lv2 := [some (ab_R a0), some (ab_I a1), some (ab_I a2), some (ab_I (0 : Int))]) (ab_ss (ab_ss (ab_ss (ab_ss ab_s0)))) ?_
  refine e_X9_isFirst_L2 _ _ _ _ _ _ _ hk
theorem dX9_commonOf_0 : decode cX9_commonOf 0 = .ok (.iconst 0, 1) := by decide +kernel
theorem dX9_commonOf_1 : decode cX9_commonOf 1 = .ok (.istore_n 3, 1) := by decide +kernel
theorem dX9_commonOf_2 : decode cX9_commonOf 2 = .ok (.iconst 0, 1) := by decide +kernel
theorem dX9_commonOf_3 : decode cX9_commonOf 3 = .ok (.istore 4, 2) := by decide +kernel
theorem dX9_commonOf_5 : decode cX9_commonOf 5 = .ok (.iload 4, 2) := by decide +kernel
theorem dX9_commonOf_7 : decode cX9_commonOf 7 = .ok (.aload_n 0, 1) := by decide +kernel
theorem dX9_commonOf_8 : decode cX9_commonOf 8 = .ok (.iload_n 1, 1) := by decide +kernel
theorem dX9_commonOf_9 : decode cX9_commonOf 9 = .ok (.invokevirtual 255, 3) := by decide +kernel
theorem dX9_commonOf_12 : decode cX9_commonOf 12 = .ok (.if_icmp .ge 38, 3) := by decide +kernel
theorem dX9_commonOf_15 : decode cX9_commonOf 15 = .ok (.iload_n 3, 1) := by decide +kernel
theorem dX9_commonOf_16 : decode cX9_commonOf 16 = .ok (.aload_n 0, 1) := by decide +kernel
theorem dX9_commonOf_17 : decode cX9_commonOf 17 = .ok (.iload_n 1, 1) := by decide +kernel
theorem dX9_commonOf_18 : decode cX9_commonOf 18 = .ok (.iload 4, 2) := by decide +kernel
theorem dX9_commonOf_20 : decode cX9_commonOf 20 = .ok (.invokevirtual 414, 3) := by decide +kernel
theorem dX9_commonOf_23 : decode cX9_commonOf 23 = .ok (.ifCond .eq 18, 3) := by decide +kernel
theorem dX9_commonOf_26 : decode cX9_commonOf 26 = .ok (.aload_n 0, 1) := by decide +kernel
theorem dX9_commonOf_27 : decode cX9_commonOf 27 = .ok (.iload_n 2, 1) := by decide +kernel
theorem dX9_commonOf_28 : decode cX9_commonOf 28 = .ok (.iload_n 1, 1) := by decide +kernel
theorem dX9_commonOf_29 : decode cX9_commonOf 29 = .ok (.iload 4, 2) := by decide +kernel
theorem dX9_commonOf_31 : decode cX9_commonOf 31 = .ok (.invokevirtual 417, 3) := by decide +kernel
theorem dX9_commonOf_34 : decode cX9_commonOf 34 = .ok (.ifCond .eq 7, 3) := by decide +kernel
theorem dX9_commonOf_37 : decode cX9_commonOf 37 = .ok (.iconst 1, 1) := by decide +kernel
theorem dX9_commonOf_38 : decode cX9_commonOf 38 = .ok (.goto 4, 3) := by decide +kernel
theorem dX9_commonOf_41 : decode cX9_commonOf 41 = .ok (.iconst 0, 1) := by decide +kernel
theorem dX9_commonOf_42 : decode cX9_commonOf 42 = .ok (.iadd, 1) := by decide +kernel
theorem dX9_commonOf_43 : decode cX9_commonOf 43 = .ok (.istore_n 3, 1) := by decide +kernel
theorem dX9_commonOf_44 : decode cX9_commonOf 44 = .ok (.iinc 4 1, 3) := by decide +kernel
theorem dX9_commonOf_47 : decode cX9_commonOf 47 = .ok (.goto (-42), 3) := by decide +kernel
theorem dX9_commonOf_50 : decode cX9_commonOf 50 = .ok (.iload_n 3, 1) := by decide +kernel
theorem dX9_commonOf_51 : decode cX9_commonOf 51 = .ok (.ireturn, 1) := by decide +kernel
abbrev mm_X9_commonOf : ab_M := (RX9, 5, (some .int), false, 4, 90, none)
noncomputable def f_X9_commonOf_J42 (rec : Int → Int → Int → Int → Int → ab_H → Option (Int × ab_H)) (v0 : Int) (v1 : Int) (v2 : Int) (v4 : Int) (s1 : Int) (s0 : Int) (h : ab_H) : Option (Int × ab_H) :=
  rec v0 v1 v2 (ab_w32 (s0 + s1)) (ab_w32 (v4 + (1 : Int))) h
set_option maxRecDepth 20000 in
theorem e_X9_commonOf_J42 {rec : Int → Int → Int → Int → Int → ab_H → Option (Int × ab_H)} (hrec : ∀ (v0 : Int) (v1 : Int) (v2 : Int) (v3 : Int) (v4 : Int) (h : ab_H) (q : Int × ab_H), rec v0 v1 v2 v3 v4 h = some q → ab_E mm_X9_commonOf cX9_commonOf 5 [some (ab_R v0), some (ab_I v1), some (ab_I v2), some (ab_I v3), some (ab_I v4)] [] h (some (ab_I q.1)) q.2) : ∀ (v0 : Int) (v1 : Int) (v2 : Int) (v4 : Int) (s1 : Int) (s0 : Int) (h : ab_H) (q : Int × ab_H), f_X9_commonOf_J42 rec v0 v1 v2 v4 s1 s0 h = some q → ab_E mm_X9_commonOf cX9_commonOf 42 [some (ab_R v0), some (ab_I v1), some (ab_I v2), none, some (ab_I v4)] [ab_I s1, ab_I s0] h (some (ab_I q.1)) q.2 := by
  intro v0 v1 v2 v4 s1 s0 h q hk
  unfold f_X9_commonOf_J42 at hk
  refine ab_iadd (pc := 42) dX9_commonOf_42 ?_
  refine ab_istore_n (pc := 43) (i := 3) (lv2 := [some (ab_R v0), some (ab_I v1), some (ab_I v2), some (ab_I (ab_w32 (s0 + s1))), some (ab_I v4)]) dX9_commonOf_43 rfl (Nat.le_of_ble_eq_true rfl) rfl rfl ?_
  refine ab_iinc (pc := 44) (i := 4) (lv2 := [some (ab_R v0), some (ab_I v1), some (ab_I v2), some (ab_I (ab_w32 (s0 + s1))), some (ab_I (ab_w32 (v4 + (1 : Int))))]) dX9_commonOf_44 rfl (Nat.le_of_ble_eq_true rfl) rfl rfl ?_
  refine ab_goto (pc := 47) (tgt := 5) dX9_commonOf_47 rfl ?_
  refine ab_sub_ (lv2 := [some (ab_R v0), some (ab_I v1), some (ab_I v2), some (ab_I (ab_w32 (s0 + s1))), some (ab_I (ab_w32 (v4 + (1 : Int))))]) (ab_ss (ab_ss (ab_ss (ab_ss (ab_ss ab_s0))))) ?_
  exact hrec _ _ _ _ _ _ _ hk
noncomputable def f_X9_commonOf_J41 (rec : Int → Int → Int → Int → Int → ab_H → Option (Int × ab_H)) (v0 : Int) (v1 : Int) (v2 : Int) (v4 : Int) (s0 : Int) (h : ab_H) : Option (Int × ab_H) :=
  f_X9_commonOf_J42 rec v0 v1 v2 v4 (0 : Int) s0 h
set_option maxRecDepth 20000 in
theorem e_X9_commonOf_J41 {rec : Int → Int → Int → Int → Int → ab_H → Option (Int × ab_H)} (hrec : ∀ (v0 : Int) (v1 : Int) (v2 : Int) (v3 : Int) (v4 : Int) (h : ab_H) (q : Int × ab_H), rec v0 v1 v2 v3 v4 h = some q → ab_E mm_X9_commonOf cX9_commonOf 5 [some (ab_R v0), some (ab_I v1), some (ab_I v2), some (ab_I v3), some (ab_I v4)] [] h (some (ab_I q.1)) q.2) : ∀ (v0 : Int) (v1 : Int) (v2 : Int) (v4 : Int) (s0 : Int) (h : ab_H) (q : Int × ab_H), f_X9_commonOf_J41 rec v0 v1 v2 v4 s0 h = some q → ab_E mm_X9_commonOf cX9_commonOf 41 [some (ab_R v0), some (ab_I v1), some (ab_I v2), none, some (ab_I v4)] [ab_I s0] h (some (ab_I q.1)) q.2 := by
  intro v0 v1 v2 v4 s0 h q hk
  unfold f_X9_commonOf_J41 at hk
  refine ab_iconst (pc := 41) dX9_commonOf_41 ab_k_0 ?_
  refine ab_sub_ (lv2 := [some (ab_R v0), some (ab_I v1), some (ab_I v2), none, some (ab_I v4)]) (ab_ss (ab_ss (ab_ss (ab_sn (ab_ss ab_s0))))) ?_
  exact e_X9_commonOf_J42 hrec _ _ _ _ _ _ _ _ hk
noncomputable def f_X9_commonOf_L5 : Nat → Int → Int → Int → Int → Int → ab_H → Option (Int × ab_H)
  | 0, _, _, _, _, _, _ => none
  | n + 1, v0, v1, v2, v3, v4, h =>
    (ab_on h 10 v0 (f_X9_terms v0 v1 h)).bind fun q1 =>
    if q1.1 ≤ v4 then
      some (v3, q1.2)
    else
    (ab_on q1.2 10 v0 (f_X9_isFirst v0 v1 v4 q1.2)).bind fun q2 =>
    if q2.1 = (0 : Int) then
      f_X9_commonOf_J41 (f_X9_commonOf_L5 n) v0 v1 v2 v4 v3 q2.2
    else
    (ab_on q2.2 10 v0 (f_X9_hasSense v0 v2 v1 v4 q2.2)).bind fun q3 =>
    if q3.1 = (0 : Int) then
      f_X9_commonOf_J41 (f_X9_commonOf_L5 n) v0 v1 v2 v4 v3 q3.2
    else
    f_X9_commonOf_J42 (f_X9_commonOf_L5 n) v0 v1 v2 v4 (1 : Int) v3 q3.2
set_option maxRecDepth 20000 in
theorem e_X9_commonOf_L5 : ∀ (n : Nat) (v0 : Int) (v1 : Int) (v2 : Int) (v3 : Int) (v4 : Int) (h : ab_H) (q : Int × ab_H), f_X9_commonOf_L5 n v0 v1 v2 v3 v4 h = some q → ab_E mm_X9_commonOf cX9_commonOf 5 [some (ab_R v0), some (ab_I v1), some (ab_I v2), some (ab_I v3), some (ab_I v4)] [] h (some (ab_I q.1)) q.2 := by
  intro n
  induction n with
  | zero => intro v0 v1 v2 v3 v4 h q hk; cases hk
  | succ n ih =>
    intro v0 v1 v2 v3 v4 h q hk
    unfold f_X9_commonOf_L5 at hk
    refine ab_iload (pc := 5) (i := 4) dX9_commonOf_5 rfl ?_
    refine ab_aload_n (pc := 7) (i := 0) dX9_commonOf_7 rfl rfl ?_
    refine ab_iload_n (pc := 8) (i := 1) dX9_commonOf_8 rfl rfl ?_
    obtain ⟨q1, hq1, hk⟩ := ab_bnd hk
    obtain ⟨hb, hq1⟩ := ab_on_some hq1
    refine ab_callVI (st := [ab_I v4]) (as := [ab_I v1]) (b := v0) (pc := 9) dX9_commonOf_9 ml_RX9_255 my_X9_terms mv_X9_terms hb (ct_X9_terms hq1) ⟨Nat.le_of_ble_eq_true rfl, Nat.le_of_ble_eq_true rfl⟩ rfl (Nat.le_of_ble_eq_true rfl) rfl ?_
    refine ab_icmp_ge (pc := 12) (tgt := 50) dX9_commonOf_12 rfl (fun hc => ?_) (fun hc => ?_)
    · have hk := ab_ifp hk hc
      refine ab_iload_n (pc := 50) (i := 3) dX9_commonOf_50 rfl rfl ?_
      obtain rfl := Option.some.inj hk
      exact ab_reti (pc := 51) dX9_commonOf_51 (Or.inl rfl)
    · have hk := ab_ifn hk hc
      refine ab_iload_n (pc := 15) (i := 3) dX9_commonOf_15 rfl rfl ?_
      refine ab_aload_n (pc := 16) (i := 0) dX9_commonOf_16 rfl rfl ?_
      refine ab_iload_n (pc := 17) (i := 1) dX9_commonOf_17 rfl rfl ?_
      refine ab_iload (pc := 18) (i := 4) dX9_commonOf_18 rfl ?_
      obtain ⟨q2, hq2, hk⟩ := ab_bnd hk
      obtain ⟨hb, hq2⟩ := ab_on_some hq2
      refine ab_callVI (st := [ab_I v3]) (as := [ab_I v1, ab_I v4]) (b := v0) (pc := 20) dX9_commonOf_20 ml_RX9_414 my_X9_isFirst mv_X9_isFirst hb (ct_X9_isFirst hq2) ⟨Nat.le_of_ble_eq_true rfl, Nat.le_of_ble_eq_true rfl⟩ rfl (Nat.le_of_ble_eq_true rfl) rfl ?_
      refine ab_if_eq (pc := 23) (tgt := 41) dX9_commonOf_23 rfl (fun hc => ?_) (fun hc => ?_)
      · have hk := ab_ifp hk hc
        refine ab_sub_ (lv2 := [some (ab_R v0), some (ab_I v1), some (ab_I v2), none, some (ab_I v4)]) (ab_ss (ab_ss (ab_ss (ab_sn (ab_ss ab_s0))))) ?_
        exact e_X9_commonOf_J41 ih _ _ _ _ _ _ _ hk
      · have hk := ab_ifn hk hc
        refine ab_aload_n (pc := 26) (i := 0) dX9_commonOf_26 rfl rfl ?_
        refine ab_iload_n (pc := 27) (i := 2) dX9_commonOf_27 rfl rfl ?_
        refine ab_iload_n (pc := 28) (i := 1) dX9_commonOf_28 rfl rfl ?_
        refine ab_iload (pc := 29) (i := 4) dX9_commonOf_29 rfl ?_
        obtain ⟨q3, hq3, hk⟩ := ab_bnd hk
        obtain ⟨hb, hq3⟩ := ab_on_some hq3
        refine ab_callVI (st := [ab_I v3]) (as := [ab_I v2, ab_I v1, ab_I v4]) (b := v0) (pc := 31) dX9_commonOf_31 ml_RX9_417 my_X9_hasSense mv_X9_hasSense hb (ct_X9_hasSense hq3) ⟨Nat.le_of_ble_eq_true rfl, Nat.le_of_ble_eq_true rfl⟩ rfl (Nat.le_of_ble_eq_true rfl) rfl ?_
        refine ab_if_eq (pc := 34) (tgt := 41) dX9_commonOf_34 rfl (fun hc => ?_) (fun hc => ?_)
        · have hk := ab_ifp hk hc
          refine ab_sub_ (lv2 := [some (ab_R v0), some (ab_I v1), some (ab_I v2), none, some (ab_I v4)]) (ab_ss (ab_ss (ab_ss (ab_sn (ab_ss ab_s0))))) ?_
          exact e_X9_commonOf_J41 ih _ _ _ _ _ _ _ hk
        · have hk := ab_ifn hk hc
          refine ab_iconst (pc := 37) dX9_commonOf_37 ab_k_1 ?_
          refine ab_goto (pc := 38) (tgt := 42) dX9_commonOf_38 rfl ?_
          refine ab_sub_ (lv2 := [some (ab_R v0), some (ab_I v1), some (ab_I v2), none, some (ab_I v4)]) (ab_ss (ab_ss (ab_ss (ab_sn (ab_ss ab_s0))))) ?_
          exact e_X9_commonOf_J42 ih _ _ _ _ _ _ _ _ hk
noncomputable def f_X9_commonOf (a0 : Int) (a1 : Int) (a2 : Int) (h : ab_H) : Option (Int × ab_H) :=
  f_X9_commonOf_L5 ab_FU a0 a1 a2 (0 : Int) (0 : Int) h
set_option maxRecDepth 20000 in
theorem ct_X9_commonOf {a0 a1 a2 : Int} {h : ab_H} {q : Int × ab_H} (hk : f_X9_commonOf a0 a1 a2 h = some q) : ab_CT yX9_commonOf cX9_commonOf 5 (some .int) 4 90 [ab_R a0, ab_I a1, ab_I a2] h (some (ab_I q.1)) q.2 := by
  refine ab_CT.mk_ 2 (own := RX9) (ini := false) (lv := [some (ab_R a0), some (ab_I a1), some (ab_I a2), none, none]) rfl (by decide +kernel) (fun q => by cases q) rfl rfl ?_
  unfold f_X9_commonOf at hk
  show ab_E mm_X9_commonOf cX9_commonOf 0 _ [] h _ _
  refine ab_iconst (pc := 0) dX9_commonOf_0 ab_k_0 ?_
  refine ab_istore_n (pc := 1) (i := 3) (lv2 := [some (ab_R a0), some (ab_I a1), some (ab_I a2), some (ab_I (0 : Int)), none]) dX9_commonOf_1 rfl (Nat.le_of_ble_eq_true rfl) rfl rfl ?_
  refine ab_iconst (pc := 2) dX9_commonOf_2 ab_k_0 ?_
  refine ab_istore (pc := 3) (i := 4) (lv2 := [some (ab_R a0), some (ab_I a1), some (ab_I a2), some (ab_I (0 : Int)), some (ab_I (0 : Int))]) dX9_commonOf_3 (Nat.le_of_ble_eq_true rfl) rfl rfl ?_
  refine ab_sub_ (lv2 := [some (ab_R a0), some (ab_I a1), some (ab_I a2), some (ab_I (0 : Int)), some (ab_I (0 : Int))]) (ab_ss (ab_ss (ab_ss (ab_ss (ab_ss ab_s0))))) ?_
  refine e_X9_commonOf_L5 _ _ _ _ _ _ _ _ hk
theorem dX9_areOneSense_0 : decode cX9_areOneSense 0 = .ok (.aload_n 0, 1) := by decide +kernel
theorem dX9_areOneSense_1 : decode cX9_areOneSense 1 = .ok (.iload_n 1, 1) := by decide +kernel
theorem dX9_areOneSense_2 : decode cX9_areOneSense 2 = .ok (.iload_n 2, 1) := by decide +kernel
theorem dX9_areOneSense_3 : decode cX9_areOneSense 3 = .ok (.invokevirtual 420, 3) := by decide +kernel
theorem dX9_areOneSense_6 : decode cX9_areOneSense 6 = .ok (.aload_n 0, 1) := by decide +kernel
theorem dX9_areOneSense_7 : decode cX9_areOneSense 7 = .ok (.iload_n 1, 1) := by decide +kernel
theorem dX9_areOneSense_8 : decode cX9_areOneSense 8 = .ok (.iload_n 1, 1) := by decide +kernel
theorem dX9_areOneSense_9 : decode cX9_areOneSense 9 = .ok (.invokevirtual 420, 3) := by decide +kernel
theorem dX9_areOneSense_12 : decode cX9_areOneSense 12 = .ok (.if_icmp .ne 22, 3) := by decide +kernel
theorem dX9_areOneSense_15 : decode cX9_areOneSense 15 = .ok (.aload_n 0, 1) := by decide +kernel
theorem dX9_areOneSense_16 : decode cX9_areOneSense 16 = .ok (.iload_n 2, 1) := by decide +kernel
theorem dX9_areOneSense_17 : decode cX9_areOneSense 17 = .ok (.iload_n 1, 1) := by decide +kernel
theorem dX9_areOneSense_18 : decode cX9_areOneSense 18 = .ok (.invokevirtual 420, 3) := by decide +kernel
theorem dX9_areOneSense_21 : decode cX9_areOneSense 21 = .ok (.aload_n 0, 1) := by decide +kernel
theorem dX9_areOneSense_22 : decode cX9_areOneSense 22 = .ok (.iload_n 2, 1) := by decide +kernel
theorem dX9_areOneSense_23 : decode cX9_areOneSense 23 = .ok (.iload_n 2, 1) := by decide +kernel
theorem dX9_areOneSense_24 : decode cX9_areOneSense 24 = .ok (.invokevirtual 420, 3) := by decide +kernel
theorem dX9_areOneSense_27 : decode cX9_areOneSense 27 = .ok (.if_icmp .ne 7, 3) := by decide +kernel
theorem dX9_areOneSense_30 : decode cX9_areOneSense 30 = .ok (.iconst 1, 1) := by decide +kernel
theorem dX9_areOneSense_31 : decode cX9_areOneSense 31 = .ok (.goto 4, 3) := by decide +kernel
theorem dX9_areOneSense_34 : decode cX9_areOneSense 34 = .ok (.iconst 0, 1) := by decide +kernel
theorem dX9_areOneSense_35 : decode cX9_areOneSense 35 = .ok (.ireturn, 1) := by decide +kernel
abbrev mm_X9_areOneSense : ab_M := (RX9, 3, (some .boolean), false, 5, 114, none)
noncomputable def f_X9_areOneSense_J34 (h : ab_H) : Option (Int × ab_H) :=
  some ((0 : Int), h)
set_option maxRecDepth 20000 in
theorem e_X9_areOneSense_J34 : ∀ (h : ab_H) (q : Int × ab_H), f_X9_areOneSense_J34  h = some q → ab_E mm_X9_areOneSense cX9_areOneSense 34 [none, none, none] [] h (some (ab_I q.1)) q.2 := by
  intro  h q hk
  unfold f_X9_areOneSense_J34 at hk
  refine ab_iconst (pc := 34) dX9_areOneSense_34 ab_k_0 ?_
  obtain rfl := Option.some.inj hk
  exact ab_retz (pc := 35) dX9_areOneSense_35 rfl rfl
noncomputable def f_X9_areOneSense (a0 : Int) (a1 : Int) (a2 : Int) (h : ab_H) : Option (Int × ab_H) :=
  (ab_on h 10 a0 (f_X9_commonOf a0 a1 a2 h)).bind fun q1 =>
  (ab_on q1.2 10 a0 (f_X9_commonOf a0 a1 a1 q1.2)).bind fun q2 =>
  if q1.1 = q2.1 then
    (ab_on q2.2 10 a0 (f_X9_commonOf a0 a2 a1 q2.2)).bind fun q3 =>
    (ab_on q3.2 10 a0 (f_X9_commonOf a0 a2 a2 q3.2)).bind fun q4 =>
    if q3.1 = q4.1 then
      some ((1 : Int), q4.2)
    else
    f_X9_areOneSense_J34 q4.2
  else
  f_X9_areOneSense_J34 q2.2
set_option maxRecDepth 20000 in
theorem ct_X9_areOneSense {a0 a1 a2 : Int} {h : ab_H} {q : Int × ab_H} (hk : f_X9_areOneSense a0 a1 a2 h = some q) : ab_CT yX9_areOneSense cX9_areOneSense 3 (some .boolean) 5 114 [ab_R a0, ab_I a1, ab_I a2] h (some (ab_I q.1)) q.2 := by
  refine ab_CT.mk_ 0 (own := RX9) (ini := false) (lv := [some (ab_R a0), some (ab_I a1), some (ab_I a2)]) rfl (by decide +kernel) (fun q => by cases q) rfl rfl ?_
  unfold f_X9_areOneSense at hk
  show ab_E mm_X9_areOneSense cX9_areOneSense 0 _ [] h _ _
  refine ab_aload_n (pc := 0) (i := 0) dX9_areOneSense_0 rfl rfl ?_
  refine ab_iload_n (pc := 1) (i := 1) dX9_areOneSense_1 rfl rfl ?_
  refine ab_iload_n (pc := 2) (i := 2) dX9_areOneSense_2 rfl rfl ?_
  obtain ⟨q1, hq1, hk⟩ := ab_bnd hk
  obtain ⟨hb, hq1⟩ := ab_on_some hq1
  refine ab_callVI (st := []) (as := [ab_I a1, ab_I a2]) (b := a0) (pc := 3) dX9_areOneSense_3 ml_RX9_420 my_X9_commonOf mv_X9_commonOf hb (ct_X9_commonOf hq1) ⟨Nat.le_of_ble_eq_true rfl, Nat.le_of_ble_eq_true rfl⟩ rfl (Nat.le_of_ble_eq_true rfl) rfl ?_
  refine ab_aload_n (pc := 6) (i := 0) dX9_areOneSense_6 rfl rfl ?_
  refine ab_iload_n (pc := 7) (i := 1) dX9_areOneSense_7 rfl rfl ?_
  refine ab_iload_n (pc := 8) (i := 1) dX9_areOneSense_8 rfl rfl ?_
  obtain ⟨q2, hq2, hk⟩ := ab_bnd hk
  obtain ⟨hb, hq2⟩ := ab_on_some hq2
  refine ab_callVI (st := [ab_I q1.1]) (as := [ab_I a1, ab_I a1]) (b := a0) (pc := 9) dX9_areOneSense_9 ml_RX9_420 my_X9_commonOf mv_X9_commonOf hb (ct_X9_commonOf hq2) ⟨Nat.le_of_ble_eq_true rfl, Nat.le_of_ble_eq_true rfl⟩ rfl (Nat.le_of_ble_eq_true rfl) rfl ?_
  refine ab_icmp_ne (pc := 12) (tgt := 34) dX9_areOneSense_12 rfl (fun hc => ?_) (fun hc => ?_)
  · have hk := ab_ifn hk hc
    refine ab_sub_ (lv2 := [none, none, none]) (ab_sn (ab_sn (ab_sn ab_s0))) ?_
    exact e_X9_areOneSense_J34  _ _ hk
  · have hk := ab_ifp hk hc
    refine ab_aload_n (pc := 15) (i := 0) dX9_areOneSense_15 rfl rfl ?_
    refine ab_iload_n (pc := 16) (i := 2) dX9_areOneSense_16 rfl rfl ?_
    refine ab_iload_n (pc := 17) (i := 1) dX9_areOneSense_17 rfl rfl ?_
    obtain ⟨q3, hq3, hk⟩ := ab_bnd hk
    obtain ⟨hb, hq3⟩ := ab_on_some hq3
    refine ab_callVI (st := []) (as := [ab_I a2, ab_I a1]) (b := a0) (pc := 18) dX9_areOneSense_18 ml_RX9_420 my_X9_commonOf mv_X9_commonOf hb (ct_X9_commonOf hq3) ⟨Nat.le_of_ble_eq_true rfl, Nat.le_of_ble_eq_true rfl⟩ rfl (Nat.le_of_ble_eq_true rfl) rfl ?_
    refine ab_aload_n (pc := 21) (i := 0) dX9_areOneSense_21 rfl rfl ?_
    refine ab_iload_n (pc := 22) (i := 2) dX9_areOneSense_22 rfl rfl ?_
    refine ab_iload_n (pc := 23) (i := 2) dX9_areOneSense_23 rfl rfl ?_
    obtain ⟨q4, hq4, hk⟩ := ab_bnd hk
    obtain ⟨hb, hq4⟩ := ab_on_some hq4
    refine ab_callVI (st := [ab_I q3.1]) (as := [ab_I a2, ab_I a2]) (b := a0) (pc := 24) dX9_areOneSense_24 ml_RX9_420 my_X9_commonOf mv_X9_commonOf hb (ct_X9_commonOf hq4) ⟨Nat.le_of_ble_eq_true rfl, Nat.le_of_ble_eq_true rfl⟩ rfl (Nat.le_of_ble_eq_true rfl) rfl ?_
    refine ab_icmp_ne (pc := 27) (tgt := 34) dX9_areOneSense_27 rfl (fun hc => ?_) (fun hc => ?_)
    · have hk := ab_ifn hk hc
      refine ab_sub_ (lv2 := [none, none, none]) (ab_sn (ab_sn (ab_sn ab_s0))) ?_
      exact e_X9_areOneSense_J34  _ _ hk
    · have hk := ab_ifp hk hc
      refine ab_iconst (pc := 30) dX9_areOneSense_30 ab_k_1 ?_
      refine ab_goto (pc := 31) (tgt := 35) dX9_areOneSense_31 rfl ?_
      obtain rfl := Option.some.inj hk
      exact ab_retz (pc := 35) dX9_areOneSense_35 rfl rfl
theorem dX9_areSame_0 : decode cX9_areSame 0 = .ok (.aload_n 0, 1) := by decide +kernel
theorem dX9_areSame_1 : decode cX9_areSame 1 = .ok (.iload_n 1, 1) := by decide +kernel
theorem dX9_areSame_2 : decode cX9_areSame 2 = .ok (.invokevirtual 255, 3) := by decide +kernel
theorem dX9_areSame_5 : decode cX9_areSame 5 = .ok (.aload_n 0, 1) := by decide +kernel
theorem dX9_areSame_6 : decode cX9_areSame 6 = .ok (.iload_n 2, 1) := by decide +kernel
theorem dX9_areSame_7 : decode cX9_areSame 7 = .ok (.invokevirtual 255, 3) := by decide +kernel
theorem dX9_areSame_10 : decode cX9_areSame 10 = .ok (.if_icmp .ne 7, 3) := by decide +kernel
theorem dX9_areSame_13 : decode cX9_areSame 13 = .ok (.iconst 1, 1) := by decide +kernel
theorem dX9_areSame_14 : decode cX9_areSame 14 = .ok (.goto 4, 3) := by decide +kernel
theorem dX9_areSame_17 : decode cX9_areSame 17 = .ok (.iconst 0, 1) := by decide +kernel
theorem dX9_areSame_18 : decode cX9_areSame 18 = .ok (.istore_n 3, 1) := by decide +kernel
theorem dX9_areSame_19 : decode cX9_areSame 19 = .ok (.iconst 0, 1) := by decide +kernel
theorem dX9_areSame_20 : decode cX9_areSame 20 = .ok (.istore 4, 2) := by decide +kernel
theorem dX9_areSame_22 : decode cX9_areSame 22 = .ok (.iload 4, 2) := by decide +kernel
theorem dX9_areSame_24 : decode cX9_areSame 24 = .ok (.aload_n 0, 1) := by decide +kernel
theorem dX9_areSame_25 : decode cX9_areSame 25 = .ok (.iload_n 1, 1) := by decide +kernel
theorem dX9_areSame_26 : decode cX9_areSame 26 = .ok (.invokevirtual 255, 3) := by decide +kernel
theorem dX9_areSame_29 : decode cX9_areSame 29 = .ok (.if_icmp .ge 61, 3) := by decide +kernel
theorem dX9_areSame_32 : decode cX9_areSame 32 = .ok (.iload_n 3, 1) := by decide +kernel
theorem dX9_areSame_33 : decode cX9_areSame 33 = .ok (.ifCond .eq 57, 3) := by decide +kernel
theorem dX9_areSame_36 : decode cX9_areSame 36 = .ok (.aload_n 0, 1) := by decide +kernel
theorem dX9_areSame_37 : decode cX9_areSame 37 = .ok (.iload_n 1, 1) := by decide +kernel
theorem dX9_areSame_38 : decode cX9_areSame 38 = .ok (.iload 4, 2) := by decide +kernel
theorem dX9_areSame_40 : decode cX9_areSame 40 = .ok (.invokevirtual 294, 3) := by decide +kernel
theorem dX9_areSame_43 : decode cX9_areSame 43 = .ok (.aload_n 0, 1) := by decide +kernel
theorem dX9_areSame_44 : decode cX9_areSame 44 = .ok (.iload_n 2, 1) := by decide +kernel
theorem dX9_areSame_45 : decode cX9_areSame 45 = .ok (.iload 4, 2) := by decide +kernel
theorem dX9_areSame_47 : decode cX9_areSame 47 = .ok (.invokevirtual 294, 3) := by decide +kernel
theorem dX9_areSame_50 : decode cX9_areSame 50 = .ok (.if_icmp .ne 32, 3) := by decide +kernel
theorem dX9_areSame_53 : decode cX9_areSame 53 = .ok (.aload_n 0, 1) := by decide +kernel
theorem dX9_areSame_54 : decode cX9_areSame 54 = .ok (.getfield 27, 3) := by decide +kernel
theorem dX9_areSame_57 : decode cX9_areSame 57 = .ok (.iload_n 1, 1) := by decide +kernel
theorem dX9_areSame_58 : decode cX9_areSame 58 = .ok (.iload 4, 2) := by decide +kernel
theorem dX9_areSame_60 : decode cX9_areSame 60 = .ok (.invokestatic 262, 3) := by decide +kernel
theorem dX9_areSame_63 : decode cX9_areSame 63 = .ok (.iaload, 1) := by decide +kernel
theorem dX9_areSame_64 : decode cX9_areSame 64 = .ok (.aload_n 0, 1) := by decide +kernel
theorem dX9_areSame_65 : decode cX9_areSame 65 = .ok (.getfield 27, 3) := by decide +kernel
theorem dX9_areSame_68 : decode cX9_areSame 68 = .ok (.iload_n 2, 1) := by decide +kernel
theorem dX9_areSame_69 : decode cX9_areSame 69 = .ok (.iload 4, 2) := by decide +kernel
theorem dX9_areSame_71 : decode cX9_areSame 71 = .ok (.invokestatic 262, 3) := by decide +kernel
theorem dX9_areSame_74 : decode cX9_areSame 74 = .ok (.iaload, 1) := by decide +kernel
theorem dX9_areSame_75 : decode cX9_areSame 75 = .ok (.if_icmp .ne 7, 3) := by decide +kernel
theorem dX9_areSame_78 : decode cX9_areSame 78 = .ok (.iconst 1, 1) := by decide +kernel
theorem dX9_areSame_79 : decode cX9_areSame 79 = .ok (.goto 4, 3) := by decide +kernel
theorem dX9_areSame_82 : decode cX9_areSame 82 = .ok (.iconst 0, 1) := by decide +kernel
theorem dX9_areSame_83 : decode cX9_areSame 83 = .ok (.istore_n 3, 1) := by decide +kernel
theorem dX9_areSame_84 : decode cX9_areSame 84 = .ok (.iinc 4 1, 3) := by decide +kernel
theorem dX9_areSame_87 : decode cX9_areSame 87 = .ok (.goto (-65), 3) := by decide +kernel
theorem dX9_areSame_90 : decode cX9_areSame 90 = .ok (.iload_n 3, 1) := by decide +kernel
theorem dX9_areSame_91 : decode cX9_areSame 91 = .ok (.ireturn, 1) := by decide +kernel
abbrev mm_X9_areSame : ab_M := (RX9, 5, (some .boolean), false, 2, 43, none)
noncomputable def f_X9_areSame_J83 (rec : Int → Int → Int → Int → Int → ab_H → Option (Int × ab_H)) (v0 : Int) (v1 : Int) (v2 : Int) (v4 : Int) (s0 : Int) (h : ab_H) : Option (Int × ab_H) :=
  rec v0 v1 v2 s0 (ab_w32 (v4 + (1 : Int))) h
set_option maxRecDepth 20000 in
theorem e_X9_areSame_J83 {rec : Int → Int → Int → Int → Int → ab_H → Option (Int × ab_H)} (hrec : ∀ (v0 : Int) (v1 : Int) (v2 : Int) (v3 : Int) (v4 : Int) (h : ab_H) (q : Int × ab_H), rec v0 v1 v2 v3 v4 h = some q → ab_E mm_X9_areSame cX9_areSame 22 [some (ab_R v0), some (ab_I v1), some (ab_I v2), some (ab_I v3), some (ab_I v4)] [] h (some (ab_I q.1)) q.2) : ∀ (v0 : Int) (v1 : Int) (v2 : Int) (v4 : Int) (s0 : Int) (h : ab_H) (q : Int × ab_H), f_X9_areSame_J83 rec v0 v1 v2 v4 s0 h = some q → ab_E mm_X9_areSame cX9_areSame 83 [some (ab_R v0), some (ab_I v1), some (ab_I v2), none, some (ab_I v4)] [ab_I s0] h (some (ab_I q.1)) q.2 := by
  intro v0 v1 v2 v4 s0 h q hk
  unfold f_X9_areSame_J83 at hk
  refine ab_istore_n (pc := 83) (i := 3) (lv2 := [some (ab_R v0), some (ab_I v1), some (ab_I v2), some (ab_I s0), some (ab_I v4)]) dX9_areSame_83 rfl (Nat.le_of_ble_eq_true rfl) rfl rfl ?_
  refine ab_iinc (pc := 84) (i := 4) (lv2 := [some (ab_R v0), some (ab_I v1), some (ab_I v2), some (ab_I s0), some (ab_I (ab_w32 (v4 + (1 : Int))))]) dX9_areSame_84 rfl (Nat.le_of_ble_eq_true rfl) rfl rfl ?_
  refine ab_goto (pc := 87) (tgt := 22) dX9_areSame_87 rfl ?_
  refine ab_sub_ (lv2 := [some (ab_R v0), some (ab_I v1), some (ab_I v2), some (ab_I s0), some (ab_I (ab_w32 (v4 + (1 : Int))))]) (ab_ss (ab_ss (ab_ss (ab_ss (ab_ss ab_s0))))) ?_
  exact hrec _ _ _ _ _ _ _ hk
noncomputable def f_X9_areSame_J82 (rec : Int → Int → Int → Int → Int → ab_H → Option (Int × ab_H)) (v0 : Int) (v1 : Int) (v2 : Int) (v4 : Int) (h : ab_H) : Option (Int × ab_H) :=
  f_X9_areSame_J83 rec v0 v1 v2 v4 (0 : Int) h
set_option maxRecDepth 20000 in
theorem e_X9_areSame_J82 {rec : Int → Int → Int → Int → Int → ab_H → Option (Int × ab_H)} (hrec : ∀ (v0 : Int) (v1 : Int) (v2 : Int) (v3 : Int) (v4 : Int) (h : ab_H) (q : Int × ab_H), rec v0 v1 v2 v3 v4 h = some q → ab_E mm_X9_areSame cX9_areSame 22 [some (ab_R v0), some (ab_I v1), some (ab_I v2), some (ab_I v3), some (ab_I v4)] [] h (some (ab_I q.1)) q.2) : ∀ (v0 : Int) (v1 : Int) (v2 : Int) (v4 : Int) (h : ab_H) (q : Int × ab_H), f_X9_areSame_J82 rec v0 v1 v2 v4 h = some q → ab_E mm_X9_areSame cX9_areSame 82 [some (ab_R v0), some (ab_I v1), some (ab_I v2), none, some (ab_I v4)] [] h (some (ab_I q.1)) q.2 := by
  intro v0 v1 v2 v4 h q hk
  unfold f_X9_areSame_J82 at hk
  refine ab_iconst (pc := 82) dX9_areSame_82 ab_k_0 ?_
  refine ab_sub_ (lv2 := [some (ab_R v0), some (ab_I v1), some (ab_I v2), none, some (ab_I v4)]) (ab_ss (ab_ss (ab_ss (ab_sn (ab_ss ab_s0))))) ?_
  exact e_X9_areSame_J83 hrec _ _ _ _ _ _ _ hk
noncomputable def f_X9_areSame_L22 : Nat → Int → Int → Int → Int → Int → ab_H → Option (Int × ab_H)
  | 0, _, _, _, _, _, _ => none
  | n + 1, v0, v1, v2, v3, v4, h =>
    (ab_on h 10 v0 (f_X9_terms v0 v1 h)).bind fun q1 =>
    if q1.1 ≤ v4 then
      ab_if (decide (v3 = 0 ∨ v3 = 1)) <|
      some (v3, q1.2)
    else
    if v3 = (0 : Int) then
      ab_if (decide (v3 = 0 ∨ v3 = 1)) <|
      some (v3, q1.2)
    else
    (ab_on q1.2 10 v0 (f_X9_roleOf v0 v1 v4 q1.2)).bind fun q2 =>
    (ab_on q2.2 10 v0 (f_X9_roleOf v0 v2 v4 q2.2)).bind fun q3 =>
    if q2.1 = q3.1 then
      (ab_get q3.2 10 15 v0).bind fun t4 =>
      (f_X9_place v1 v4 q3.2).bind fun q5 =>
      (ab_ald q5.2 11 t4 q5.1).bind fun t6 =>
      (ab_get q5.2 10 15 v0).bind fun t7 =>
      (f_X9_place v2 v4 q5.2).bind fun q8 =>
      (ab_ald q8.2 11 t7 q8.1).bind fun t9 =>
      if t6 = t9 then
        f_X9_areSame_J83 (f_X9_areSame_L22 n) v0 v1 v2 v4 (1 : Int) q8.2
      else
      f_X9_areSame_J82 (f_X9_areSame_L22 n) v0 v1 v2 v4 q8.2
    else
    f_X9_areSame_J82 (f_X9_areSame_L22 n) v0 v1 v2 v4 q3.2
set_option maxRecDepth 20000 in
theorem e_X9_areSame_L22 : ∀ (n : Nat) (v0 : Int) (v1 : Int) (v2 : Int) (v3 : Int) (v4 : Int) (h : ab_H) (q : Int × ab_H), f_X9_areSame_L22 n v0 v1 v2 v3 v4 h = some q → ab_E mm_X9_areSame cX9_areSame 22 [some (ab_R v0), some (ab_I v1), some (ab_I v2), some (ab_I v3), some (ab_I v4)] [] h (some (ab_I q.1)) q.2 := by
  intro n
  induction n with
  | zero => intro v0 v1 v2 v3 v4 h q hk; cases hk
  | succ n ih =>
    intro v0 v1 v2 v3 v4 h q hk
    unfold f_X9_areSame_L22 at hk
    refine ab_iload (pc := 22) (i := 4) dX9_areSame_22 rfl ?_
    refine ab_aload_n (pc := 24) (i := 0) dX9_areSame_24 rfl rfl ?_
    refine ab_iload_n (pc := 25) (i := 1) dX9_areSame_25 rfl rfl ?_
    obtain ⟨q1, hq1, hk⟩ := ab_bnd hk
    obtain ⟨hb, hq1⟩ := ab_on_some hq1
    refine ab_callVI (st := [ab_I v4]) (as := [ab_I v1]) (b := v0) (pc := 26) dX9_areSame_26 ml_RX9_255 my_X9_terms mv_X9_terms hb (ct_X9_terms hq1) ⟨Nat.le_of_ble_eq_true rfl, Nat.le_of_ble_eq_true rfl⟩ rfl (Nat.le_of_ble_eq_true rfl) rfl ?_
    refine ab_icmp_ge (pc := 29) (tgt := 90) dX9_areSame_29 rfl (fun hc => ?_) (fun hc => ?_)
    · have hk := ab_ifp hk hc
      refine ab_iload_n (pc := 90) (i := 3) dX9_areSame_90 rfl rfl ?_
      obtain ⟨hg, hk⟩ := ab_if_some hk
      obtain rfl := Option.some.inj hk
      exact ab_retz (pc := 91) dX9_areSame_91 rfl hg
    · have hk := ab_ifn hk hc
      refine ab_iload_n (pc := 32) (i := 3) dX9_areSame_32 rfl rfl ?_
      refine ab_if_eq (pc := 33) (tgt := 90) dX9_areSame_33 rfl (fun hc => ?_) (fun hc => ?_)
      · have hk := ab_ifp hk hc
        refine ab_iload_n (pc := 90) (i := 3) dX9_areSame_90 rfl rfl ?_
        obtain ⟨hg, hk⟩ := ab_if_some hk
        obtain rfl := Option.some.inj hk
        exact ab_retz (pc := 91) dX9_areSame_91 rfl hg
      · have hk := ab_ifn hk hc
        refine ab_aload_n (pc := 36) (i := 0) dX9_areSame_36 rfl rfl ?_
        refine ab_iload_n (pc := 37) (i := 1) dX9_areSame_37 rfl rfl ?_
        refine ab_iload (pc := 38) (i := 4) dX9_areSame_38 rfl ?_
        obtain ⟨q2, hq2, hk⟩ := ab_bnd hk
        obtain ⟨hb, hq2⟩ := ab_on_some hq2
        refine ab_callVI (st := []) (as := [ab_I v1, ab_I v4]) (b := v0) (pc := 40) dX9_areSame_40 ml_RX9_294 my_X9_roleOf mv_X9_roleOf hb (ct_X9_roleOf hq2) ⟨Nat.le_of_ble_eq_true rfl, Nat.le_of_ble_eq_true rfl⟩ rfl (Nat.le_of_ble_eq_true rfl) rfl ?_
        refine ab_aload_n (pc := 43) (i := 0) dX9_areSame_43 rfl rfl ?_
        refine ab_iload_n (pc := 44) (i := 2) dX9_areSame_44 rfl rfl ?_
        refine ab_iload (pc := 45) (i := 4) dX9_areSame_45 rfl ?_
        obtain ⟨q3, hq3, hk⟩ := ab_bnd hk
        obtain ⟨hb, hq3⟩ := ab_on_some hq3
        refine ab_callVI (st := [ab_I q2.1]) (as := [ab_I v2, ab_I v4]) (b := v0) (pc := 47) dX9_areSame_47 ml_RX9_294 my_X9_roleOf mv_X9_roleOf hb (ct_X9_roleOf hq3) ⟨Nat.le_of_ble_eq_true rfl, Nat.le_of_ble_eq_true rfl⟩ rfl (Nat.le_of_ble_eq_true rfl) rfl ?_
        refine ab_icmp_ne (pc := 50) (tgt := 82) dX9_areSame_50 rfl (fun hc => ?_) (fun hc => ?_)
        · have hk := ab_ifn hk hc
          refine ab_sub_ (lv2 := [some (ab_R v0), some (ab_I v1), some (ab_I v2), none, some (ab_I v4)]) (ab_ss (ab_ss (ab_ss (ab_sn (ab_ss ab_s0))))) ?_
          exact e_X9_areSame_J82 ih _ _ _ _ _ _ hk
        · have hk := ab_ifp hk hc
          refine ab_aload_n (pc := 53) (i := 0) dX9_areSame_53 rfl rfl ?_
          obtain ⟨t4, ht4, hk⟩ := ab_bnd hk
          refine ab_getR (pc := 54) dX9_areSame_54 fl_RX9_27 ht4 ?_
          refine ab_iload_n (pc := 57) (i := 1) dX9_areSame_57 rfl rfl ?_
          refine ab_iload (pc := 58) (i := 4) dX9_areSame_58 rfl ?_
          obtain ⟨q5, hq5, hk⟩ := ab_bnd hk
          refine ab_callSI (st := [ab_R t4]) (as := [ab_I v1, ab_I v4]) (pc := 60) dX9_areSame_60 ml_RX9_262 my_X9_place ms_X9_place (ct_X9_place hq5) ⟨Nat.le_of_ble_eq_true rfl, Nat.le_of_ble_eq_true rfl⟩ rfl (Nat.le_of_ble_eq_true rfl) rfl ?_
          obtain ⟨t6, ht6, hk⟩ := ab_bnd hk
          refine ab_iald (pc := 63) dX9_areSame_63 ht6 ?_
          refine ab_aload_n (pc := 64) (i := 0) dX9_areSame_64 rfl rfl ?_
          obtain ⟨t7, ht7, hk⟩ := ab_bnd hk
          refine ab_getR (pc := 65) dX9_areSame_65 fl_RX9_27 ht7 ?_
          refine ab_iload_n (pc := 68) (i := 2) dX9_areSame_68 rfl rfl ?_
          refine ab_iload (pc := 69) (i := 4) dX9_areSame_69 rfl ?_
          obtain ⟨q8, hq8, hk⟩ := ab_bnd hk
          refine ab_callSI (st := [ab_R t7, ab_I t6]) (as := [ab_I v2, ab_I v4]) (pc := 71) dX9_areSame_71 ml_RX9_262 my_X9_place ms_X9_place (ct_X9_place hq8) ⟨Nat.le_of_ble_eq_true rfl, Nat.le_of_ble_eq_true rfl⟩ rfl (Nat.le_of_ble_eq_true rfl) rfl ?_
          obtain ⟨t9, ht9, hk⟩ := ab_bnd hk
          refine ab_iald (pc := 74) dX9_areSame_74 ht9 ?_
          refine ab_icmp_ne (pc := 75) (tgt := 82) dX9_areSame_75 rfl (fun hc => ?_) (fun hc => ?_)
          · have hk := ab_ifn hk hc
            refine ab_sub_ (lv2 := [some (ab_R v0), some (ab_I v1), some (ab_I v2), none, some (ab_I v4)]) (ab_ss (ab_ss (ab_ss (ab_sn (ab_ss ab_s0))))) ?_
            exact e_X9_areSame_J82 ih _ _ _ _ _ _ hk
          · have hk := ab_ifp hk hc
            refine ab_iconst (pc := 78) dX9_areSame_78 ab_k_1 ?_
            refine ab_goto (pc := 79) (tgt := 83) dX9_areSame_79 rfl ?_
            refine ab_sub_ (lv2 := [some (ab_R v0), some (ab_I v1), some (ab_I v2), none, some (ab_I v4)]) (ab_ss (ab_ss (ab_ss (ab_sn (ab_ss ab_s0))))) ?_
            exact e_X9_areSame_J83 ih _ _ _ _ _ _ _ hk
noncomputable def f_X9_areSame_J18 (v0 : Int) (v1 : Int) (v2 : Int) (s0 : Int) (h : ab_H) : Option (Int × ab_H) :=
  f_X9_areSame_L22 ab_FU v0 v1 v2 s0 (0 : Int) h
set_option maxRecDepth 20000 in
theorem e_X9_areSame_J18 : ∀ (v0 : Int) (v1 : Int) (v2 : Int) (s0 : Int) (h : ab_H) (q : Int × ab_H), f_X9_areSame_J18 v0 v1 v2 s0 h = some q → ab_E mm_X9_areSame cX9_areSame 18 [some (ab_R v0), some (ab_I v1), some (ab_I v2), none, none] [ab_I s0] h (some (ab_I q.1)) q.2 := by
  intro v0 v1 v2 s0 h q hk
  unfold f_X9_areSame_J18 at hk
  refine ab_istore_n (pc := 18) (i := 3) (lv2 := [some (ab_R v0), some (ab_I v1), some (ab_I v2), some (ab_I s0), none]) dX9_areSame_18 rfl (Nat.le_of_ble_eq_true rfl) rfl rfl ?_
  refine ab_iconst (pc := 19) dX9_areSame_19 ab_k_0 ?_
  refine ab_istore (pc := 20) (i := 4) (lv2 := [some (ab_R v0), some (ab_I v1), some (ab_I v2), some (ab_I s0), some (ab_I (0 : Int))]) dX9_areSame_20 (Nat.le_of_ble_eq_true rfl) rfl rfl ?_
  refine ab_sub_ (lv2 := [some (ab_R v0), some (ab_I v1), some (ab_I v2), some (ab_I s0), some (ab_I (0 : Int))]) (ab_ss (ab_ss (ab_ss (ab_ss (ab_ss ab_s0))))) ?_
  refine e_X9_areSame_L22 _ _ _ _ _ _ _ _ hk
noncomputable def f_X9_areSame (a0 : Int) (a1 : Int) (a2 : Int) (h : ab_H) : Option (Int × ab_H) :=
  (ab_on h 10 a0 (f_X9_terms a0 a1 h)).bind fun q1 =>
  (ab_on q1.2 10 a0 (f_X9_terms a0 a2 q1.2)).bind fun q2 =>
  if q1.1 = q2.1 then
    f_X9_areSame_J18 a0 a1 a2 (1 : Int) q2.2
  else
  f_X9_areSame_J18 a0 a1 a2 (0 : Int) q2.2
set_option maxRecDepth 20000 in
theorem ct_X9_areSame {a0 a1 a2 : Int} {h : ab_H} {q : Int × ab_H} (hk : f_X9_areSame a0 a1 a2 h = some q) : ab_CT yX9_areSame cX9_areSame 5 (some .boolean) 2 43 [ab_R a0, ab_I a1, ab_I a2] h (some (ab_I q.1)) q.2 := by
  refine ab_CT.mk_ 2 (own := RX9) (ini := false) (lv := [some (ab_R a0), some (ab_I a1), some (ab_I a2), none, none]) rfl (by decide +kernel) (fun q => by cases q) rfl rfl ?_
  unfold f_X9_areSame at hk
  show ab_E mm_X9_areSame cX9_areSame 0 _ [] h _ _
  refine ab_aload_n (pc := 0) (i := 0) dX9_areSame_0 rfl rfl ?_
  refine ab_iload_n (pc := 1) (i := 1) dX9_areSame_1 rfl rfl ?_
  obtain ⟨q1, hq1, hk⟩ := ab_bnd hk
  obtain ⟨hb, hq1⟩ := ab_on_some hq1
  refine ab_callVI (st := []) (as := [ab_I a1]) (b := a0) (pc := 2) dX9_areSame_2 ml_RX9_255 my_X9_terms mv_X9_terms hb (ct_X9_terms hq1) ⟨Nat.le_of_ble_eq_true rfl, Nat.le_of_ble_eq_true rfl⟩ rfl (Nat.le_of_ble_eq_true rfl) rfl ?_
  refine ab_aload_n (pc := 5) (i := 0) dX9_areSame_5 rfl rfl ?_
  refine ab_iload_n (pc := 6) (i := 2) dX9_areSame_6 rfl rfl ?_
  obtain ⟨q2, hq2, hk⟩ := ab_bnd hk
  obtain ⟨hb, hq2⟩ := ab_on_some hq2
  refine ab_callVI (st := [ab_I q1.1]) (as := [ab_I a2]) (b := a0) (pc := 7) dX9_areSame_7 ml_RX9_255 my_X9_terms mv_X9_terms hb (ct_X9_terms hq2) ⟨Nat.le_of_ble_eq_true rfl, Nat.le_of_ble_eq_true rfl⟩ rfl (Nat.le_of_ble_eq_true rfl) rfl ?_
  refine ab_icmp_ne (pc := 10) (tgt := 17) dX9_areSame_10 rfl (fun hc => ?_) (fun hc => ?_)
  · have hk := ab_ifn hk hc
    refine ab_iconst (pc := 17) dX9_areSame_17 ab_k_0 ?_
    refine ab_sub_ (lv2 := [some (ab_R a0), some (ab_I a1), some (ab_I a2), none, none]) (ab_ss (ab_ss (ab_ss (ab_sn (ab_sn ab_s0))))) ?_
    exact e_X9_areSame_J18 _ _ _ _ _ _ hk
  · have hk := ab_ifp hk hc
    refine ab_iconst (pc := 13) dX9_areSame_13 ab_k_1 ?_
    refine ab_goto (pc := 14) (tgt := 18) dX9_areSame_14 rfl ?_
    refine ab_sub_ (lv2 := [some (ab_R a0), some (ab_I a1), some (ab_I a2), none, none]) (ab_ss (ab_ss (ab_ss (ab_sn (ab_sn ab_s0))))) ?_
    exact e_X9_areSame_J18 _ _ _ _ _ _ hk
