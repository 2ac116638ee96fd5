theorem dX8_letterOf_0 : decode cX8_letterOf 0 = .ok (.lload_n 0, 1) := by decide +kernel
theorem dX8_letterOf_1 : decode cX8_letterOf 1 = .ok (.iconst 5, 1) := by decide +kernel
theorem dX8_letterOf_2 : decode cX8_letterOf 2 = .ok (.bipush 6, 2) := by decide +kernel
theorem dX8_letterOf_4 : decode cX8_letterOf 4 = .ok (.iload_n 2, 1) := by decide +kernel
theorem dX8_letterOf_5 : decode cX8_letterOf 5 = .ok (.isub, 1) := by decide +kernel
theorem dX8_letterOf_6 : decode cX8_letterOf 6 = .ok (.imul, 1) := by decide +kernel
theorem dX8_letterOf_7 : decode cX8_letterOf 7 = .ok (.lshr, 1) := by decide +kernel
theorem dX8_letterOf_8 : decode cX8_letterOf 8 = .ok (.l2i, 1) := by decide +kernel
theorem dX8_letterOf_9 : decode cX8_letterOf 9 = .ok (.bipush 31, 2) := by decide +kernel
theorem dX8_letterOf_11 : decode cX8_letterOf 11 = .ok (.iand, 1) := by decide +kernel
theorem dX8_letterOf_12 : decode cX8_letterOf 12 = .ok (.ireturn, 1) := by decide +kernel
abbrev mm_X8_letterOf : ab_M := (RX8, 3, (some .int), false, 0, 0, none)
noncomputable def f_X8_letterOf (a0 : Int) (a2 : Int) (h : ab_H) : Option (Int × ab_H) :=
  some (ab_and (ab_w32 (ab_lshr a0 (ab_w32 ((5 : Int) * (ab_w32 ((6 : Int) - a2)))))) (31 : Int), h)
set_option maxRecDepth 20000 in
theorem ct_X8_letterOf {a0 a2 : Int} {h : ab_H} {q : Int × ab_H} (hk : f_X8_letterOf a0 a2 h = some q) : ab_CT yX8_letterOf cX8_letterOf 3 (some .int) 0 0 [ab_J a0, ab_I a2] h (some (ab_I q.1)) q.2 := by
  refine ab_CT.mk_ 0 (own := RX8) (ini := false) (lv := [some (ab_J a0), none, some (ab_I a2)]) rfl (by decide +kernel) (fun q => by cases q) rfl rfl ?_
  unfold f_X8_letterOf at hk
  show ab_E mm_X8_letterOf cX8_letterOf 0 _ [] h _ _
  refine ab_lload_n (pc := 0) (i := 0) dX8_letterOf_0 rfl rfl ?_
  refine ab_iconst (pc := 1) dX8_letterOf_1 ab_k_5 ?_
  refine ab_bipush (pc := 2) dX8_letterOf_2 ab_p8_6 ab_k_6 ?_
  refine ab_iload_n (pc := 4) (i := 2) dX8_letterOf_4 rfl rfl ?_
  refine ab_isub (pc := 5) dX8_letterOf_5 ?_
  refine ab_imul (pc := 6) dX8_letterOf_6 ?_
  refine ab_lshr_ (pc := 7) dX8_letterOf_7 ?_
  refine ab_l2i_ (pc := 8) dX8_letterOf_8 ?_
  refine ab_bipush (pc := 9) dX8_letterOf_9 ab_p8_31 ab_k_31 ?_
  refine ab_iand (pc := 11) dX8_letterOf_11 ?_
  obtain rfl := Option.some.inj hk
  exact ab_reti (pc := 12) dX8_letterOf_12 (Or.inl rfl)
theorem dX8_isLetter_0 : decode cX8_isLetter 0 = .ok (.iload_n 0, 1) := by decide +kernel
theorem dX8_isLetter_1 : decode cX8_isLetter 1 = .ok (.bipush 97, 2) := by decide +kernel
theorem dX8_isLetter_3 : decode cX8_isLetter 3 = .ok (.if_icmp .lt 13, 3) := by decide +kernel
theorem dX8_isLetter_6 : decode cX8_isLetter 6 = .ok (.iload_n 0, 1) := by decide +kernel
theorem dX8_isLetter_7 : decode cX8_isLetter 7 = .ok (.bipush 122, 2) := by decide +kernel
theorem dX8_isLetter_9 : decode cX8_isLetter 9 = .ok (.if_icmp .gt 7, 3) := by decide +kernel
theorem dX8_isLetter_12 : decode cX8_isLetter 12 = .ok (.iconst 1, 1) := by decide +kernel
theorem dX8_isLetter_13 : decode cX8_isLetter 13 = .ok (.goto 4, 3) := by decide +kernel
theorem dX8_isLetter_16 : decode cX8_isLetter 16 = .ok (.iconst 0, 1) := by decide +kernel
theorem dX8_isLetter_17 : decode cX8_isLetter 17 = .ok (.ireturn, 1) := by decide +kernel
abbrev mm_X8_isLetter : ab_M := (RX8, 1, (some .boolean), false, 0, 0, none)
noncomputable def f_X8_isLetter_J16 (h : ab_H) : Option (Int × ab_H) :=
  some ((0 : Int), h)
set_option maxRecDepth 20000 in
theorem e_X8_isLetter_J16 : ∀ (h : ab_H) (q : Int × ab_H), f_X8_isLetter_J16  h = some q → ab_E mm_X8_isLetter cX8_isLetter 16 [none] [] h (some (ab_I q.1)) q.2 := by
  intro  h q hk
  unfold f_X8_isLetter_J16 at hk
  refine ab_iconst (pc := 16) dX8_isLetter_16 ab_k_0 ?_
  obtain rfl := Option.some.inj hk
  exact ab_retz (pc := 17) dX8_isLetter_17 rfl rfl
noncomputable def f_X8_isLetter (a0 : Int) (h : ab_H) : Option (Int × ab_H) :=
  if a0 < (97 : Int) then
    f_X8_isLetter_J16 h
  else
  if (122 : Int) < a0 then
    f_X8_isLetter_J16 h
  else
  some ((1 : Int), h)
set_option maxRecDepth 20000 in
theorem ct_X8_isLetter {a0 : Int} {h : ab_H} {q : Int × ab_H} (hk : f_X8_isLetter a0 h = some q) : ab_CT yX8_isLetter cX8_isLetter 1 (some .boolean) 0 0 [ab_I a0] h (some (ab_I q.1)) q.2 := by
  refine ab_CT.mk_ 0 (own := RX8) (ini := false) (lv := [some (ab_I a0)]) rfl (by decide +kernel) (fun q => by cases q) rfl rfl ?_
  unfold f_X8_isLetter at hk
  show ab_E mm_X8_isLetter cX8_isLetter 0 _ [] h _ _
  refine ab_iload_n (pc := 0) (i := 0) dX8_isLetter_0 rfl rfl ?_
  refine ab_bipush (pc := 1) dX8_isLetter_1 ab_p8_97 ab_k_97 ?_
  refine ab_icmp_lt (pc := 3) (tgt := 16) dX8_isLetter_3 rfl (fun hc => ?_) (fun hc => ?_)
  · have hk := ab_ifp hk hc
    refine ab_sub_ (lv2 := [none]) (ab_sn ab_s0) ?_
    exact e_X8_isLetter_J16  _ _ hk
  · have hk := ab_ifn hk hc
    refine ab_iload_n (pc := 6) (i := 0) dX8_isLetter_6 rfl rfl ?_
    refine ab_bipush (pc := 7) dX8_isLetter_7 ab_p8_122 ab_k_122 ?_
    refine ab_icmp_gt (pc := 9) (tgt := 16) dX8_isLetter_9 rfl (fun hc => ?_) (fun hc => ?_)
    · have hk := ab_ifp hk hc
      refine ab_sub_ (lv2 := [none]) (ab_sn ab_s0) ?_
      exact e_X8_isLetter_J16  _ _ hk
    · have hk := ab_ifn hk hc
      refine ab_iconst (pc := 12) dX8_isLetter_12 ab_k_1 ?_
      refine ab_goto (pc := 13) (tgt := 17) dX8_isLetter_13 rfl ?_
      obtain rfl := Option.some.inj hk
      exact ab_retz (pc := 17) dX8_isLetter_17 rfl rfl
theorem dX8_grown_0 : decode cX8_grown 0 = .ok (.lload_n 0, 1) := by decide +kernel
theorem dX8_grown_1 : decode cX8_grown 1 = .ok (.iconst 5, 1) := by decide +kernel
theorem dX8_grown_2 : decode cX8_grown 2 = .ok (.lshl, 1) := by decide +kernel
theorem dX8_grown_3 : decode cX8_grown 3 = .ok (.iload_n 2, 1) := by decide +kernel
theorem dX8_grown_4 : decode cX8_grown 4 = .ok (.bipush 97, 2) := by decide +kernel
theorem dX8_grown_6 : decode cX8_grown 6 = .ok (.isub, 1) := by decide +kernel
theorem dX8_grown_7 : decode cX8_grown 7 = .ok (.iconst 1, 1) := by decide +kernel
theorem dX8_grown_8 : decode cX8_grown 8 = .ok (.iadd, 1) := by decide +kernel
theorem dX8_grown_9 : decode cX8_grown 9 = .ok (.i2l, 1) := by decide +kernel
theorem dX8_grown_10 : decode cX8_grown 10 = .ok (.lor, 1) := by decide +kernel
theorem dX8_grown_11 : decode cX8_grown 11 = .ok (.lreturn, 1) := by decide +kernel
abbrev mm_X8_grown : ab_M := (RX8, 3, (some .long), false, 0, 0, none)
noncomputable def f_X8_grown (a0 : Int) (a2 : Int) (h : ab_H) : Option (Int × ab_H) :=
  some (ab_lor (ab_lshl a0 (5 : Int)) (ab_w32 ((ab_w32 (a2 - (97 : Int))) + (1 : Int))), h)
set_option maxRecDepth 20000 in
theorem ct_X8_grown {a0 a2 : Int} {h : ab_H} {q : Int × ab_H} (hk : f_X8_grown a0 a2 h = some q) : ab_CT yX8_grown cX8_grown 3 (some .long) 0 0 [ab_J a0, ab_I a2] h (some (ab_J q.1)) q.2 := by
  refine ab_CT.mk_ 0 (own := RX8) (ini := false) (lv := [some (ab_J a0), none, some (ab_I a2)]) rfl (by decide +kernel) (fun q => by cases q) rfl rfl ?_
  unfold f_X8_grown at hk
  show ab_E mm_X8_grown cX8_grown 0 _ [] h _ _
  refine ab_lload_n (pc := 0) (i := 0) dX8_grown_0 rfl rfl ?_
  refine ab_iconst (pc := 1) dX8_grown_1 ab_k_5 ?_
  refine ab_lshl_ (pc := 2) dX8_grown_2 ?_
  refine ab_iload_n (pc := 3) (i := 2) dX8_grown_3 rfl rfl ?_
  refine ab_bipush (pc := 4) dX8_grown_4 ab_p8_97 ab_k_97 ?_
  refine ab_isub (pc := 6) dX8_grown_6 ?_
  refine ab_iconst (pc := 7) dX8_grown_7 ab_k_1 ?_
  refine ab_iadd (pc := 8) dX8_grown_8 ?_
  refine ab_i2l_ (pc := 9) dX8_grown_9 ?_
  refine ab_lor_ (pc := 10) dX8_grown_10 ?_
  obtain rfl := Option.some.inj hk
  exact ab_retl (pc := 11) dX8_grown_11 rfl
theorem dX8_aligned_0 : decode cX8_aligned 0 = .ok (.lload_n 0, 1) := by decide +kernel
theorem dX8_aligned_1 : decode cX8_aligned 1 = .ok (.lstore_n 2, 1) := by decide +kernel
theorem dX8_aligned_2 : decode cX8_aligned 2 = .ok (.iconst 1, 1) := by decide +kernel
theorem dX8_aligned_3 : decode cX8_aligned 3 = .ok (.istore 4, 2) := by decide +kernel
theorem dX8_aligned_5 : decode cX8_aligned 5 = .ok (.iload 4, 2) := by decide +kernel
theorem dX8_aligned_7 : decode cX8_aligned 7 = .ok (.bipush 7, 2) := by decide +kernel
theorem dX8_aligned_9 : decode cX8_aligned 9 = .ok (.if_icmp .ge 21, 3) := by decide +kernel
theorem dX8_aligned_12 : decode cX8_aligned 12 = .ok (.lload_n 2, 1) := by decide +kernel
theorem dX8_aligned_13 : decode cX8_aligned 13 = .ok (.ldc2_w 360, 3) := by decide +kernel
theorem dX8_aligned_16 : decode cX8_aligned 16 = .ok (.lcmp, 1) := by decide +kernel
theorem dX8_aligned_17 : decode cX8_aligned 17 = .ok (.ifCond .ge 7, 3) := by decide +kernel
theorem dX8_aligned_20 : decode cX8_aligned 20 = .ok (.lload_n 2, 1) := by decide +kernel
theorem dX8_aligned_21 : decode cX8_aligned 21 = .ok (.iconst 5, 1) := by decide +kernel
theorem dX8_aligned_22 : decode cX8_aligned 22 = .ok (.lshl, 1) := by decide +kernel
theorem dX8_aligned_23 : decode cX8_aligned 23 = .ok (.lstore_n 2, 1) := by decide +kernel
theorem dX8_aligned_24 : decode cX8_aligned 24 = .ok (.iinc 4 1, 3) := by decide +kernel
theorem dX8_aligned_27 : decode cX8_aligned 27 = .ok (.goto (-22), 3) := by decide +kernel
theorem dX8_aligned_30 : decode cX8_aligned 30 = .ok (.lload_n 2, 1) := by decide +kernel
theorem dX8_aligned_31 : decode cX8_aligned 31 = .ok (.lreturn, 1) := by decide +kernel
abbrev mm_X8_aligned : ab_M := (RX8, 5, (some .long), false, 0, 0, none)
noncomputable def f_X8_aligned_J24 (rec : Int → Int → ab_H → Option (Int × ab_H)) (v2 : Int) (v4 : Int) (h : ab_H) : Option (Int × ab_H) :=
  rec v2 (ab_w32 (v4 + (1 : Int))) h
set_option maxRecDepth 20000 in
theorem e_X8_aligned_J24 {rec : Int → Int → ab_H → Option (Int × ab_H)} (hrec : ∀ (v2 : Int) (v4 : Int) (h : ab_H) (q : Int × ab_H), rec v2 v4 h = some q → ab_E mm_X8_aligned cX8_aligned 5 [none, none, some (ab_J v2), none, some (ab_I v4)] [] h (some (ab_J q.1)) q.2) : ∀ (v2 : Int) (v4 : Int) (h : ab_H) (q : Int × ab_H), f_X8_aligned_J24 rec v2 v4 h = some q → ab_E mm_X8_aligned cX8_aligned 24 [none, none, some (ab_J v2), none, some (ab_I v4)] [] h (some (ab_J q.1)) q.2 := by
  intro v2 v4 h q hk
  unfold f_X8_aligned_J24 at hk
  refine ab_iinc (pc := 24) (i := 4) (lv2 := [none, none, some (ab_J v2), none, some (ab_I (ab_w32 (v4 + (1 : Int))))]) dX8_aligned_24 rfl (Nat.le_of_ble_eq_true rfl) rfl rfl ?_
  refine ab_goto (pc := 27) (tgt := 5) dX8_aligned_27 rfl ?_
  refine ab_sub_ (lv2 := [none, none, some (ab_J v2), none, some (ab_I (ab_w32 (v4 + (1 : Int))))]) (ab_sn (ab_sn (ab_ss (ab_sn (ab_ss ab_s0))))) ?_
  exact hrec _ _ _ _ hk
noncomputable def f_X8_aligned_L5 : Nat → Int → Int → ab_H → Option (Int × ab_H)
  | 0, _, _, _ => none
  | n + 1, v2, v4, h =>
    if (7 : Int) ≤ v4 then
      some (v2, h)
    else
    if (0 : Int) ≤ ab_cmp v2 (1073741824 : Int) then
      f_X8_aligned_J24 (f_X8_aligned_L5 n) v2 v4 h
    else
    f_X8_aligned_J24 (f_X8_aligned_L5 n) (ab_lshl v2 (5 : Int)) v4 h
set_option maxRecDepth 20000 in
theorem e_X8_aligned_L5 : ∀ (n : Nat) (v2 : Int) (v4 : Int) (h : ab_H) (q : Int × ab_H), f_X8_aligned_L5 n v2 v4 h = some q → ab_E mm_X8_aligned cX8_aligned 5 [none, none, some (ab_J v2), none, some (ab_I v4)] [] h (some (ab_J q.1)) q.2 := by
  intro n
  induction n with
  | zero => intro v2 v4 h q hk; cases hk
  | succ n ih =>
    intro v2 v4 h q hk
    unfold f_X8_aligned_L5 at hk
    refine ab_iload (pc := 5) (i := 4) dX8_aligned_5 rfl ?_
    refine ab_bipush (pc := 7) dX8_aligned_7 ab_p8_7 ab_k_7 ?_
    refine ab_icmp_ge (pc := 9) (tgt := 30) dX8_aligned_9 rfl (fun hc => ?_) (fun hc => ?_)
    · have hk := ab_ifp hk hc
      refine ab_lload_n (pc := 30) (i := 2) dX8_aligned_30 rfl rfl ?_
      obtain rfl := Option.some.inj hk
      exact ab_retl (pc := 31) dX8_aligned_31 rfl
    · have hk := ab_ifn hk hc
      refine ab_lload_n (pc := 12) (i := 2) dX8_aligned_12 rfl rfl ?_
      refine ab_ldc2 (x := (1073741824 : Int)) (pc := 13) dX8_aligned_13 ab_ld2_RX8_360 ab_kl_1073741824 ?_
      refine ab_lcmp_ (pc := 16) dX8_aligned_16 ?_
      refine ab_if_ge (pc := 17) (tgt := 24) dX8_aligned_17 rfl (fun hc => ?_) (fun hc => ?_)
      · have hk := ab_ifp hk hc
        refine ab_sub_ (lv2 := [none, none, some (ab_J v2), none, some (ab_I v4)]) (ab_sn (ab_sn (ab_ss (ab_sn (ab_ss ab_s0))))) ?_
        exact e_X8_aligned_J24 ih _ _ _ _ hk
      · have hk := ab_ifn hk hc
        refine ab_lload_n (pc := 20) (i := 2) dX8_aligned_20 rfl rfl ?_
        refine ab_iconst (pc := 21) dX8_aligned_21 ab_k_5 ?_
        refine ab_lshl_ (pc := 22) dX8_aligned_22 ?_
        refine ab_lstore_n (pc := 23) (i := 2) (lv2 := [none, none, some (ab_J (ab_lshl v2 (5 : Int))), none, some (ab_I v4)]) dX8_aligned_23 rfl (Nat.le_of_ble_eq_true rfl) rfl rfl ?_
        refine ab_sub_ (lv2 := [none, none, some (ab_J (ab_lshl v2 (5 : Int))), none, some (ab_I v4)]) (ab_sn (ab_sn (ab_ss (ab_sn (ab_ss ab_s0))))) ?_
        exact e_X8_aligned_J24 ih _ _ _ _ hk
noncomputable def f_X8_aligned (a0 : Int) (h : ab_H) : Option (Int × ab_H) :=
  f_X8_aligned_L5 ab_FU a0 (1 : Int) h
set_option maxRecDepth 20000 in
theorem ct_X8_aligned {a0 : Int} {h : ab_H} {q : Int × ab_H} (hk : f_X8_aligned a0 h = some q) : ab_CT yX8_aligned cX8_aligned 5 (some .long) 0 0 [ab_J a0] h (some (ab_J q.1)) q.2 := by
  refine ab_CT.mk_ 3 (own := RX8) (ini := false) (lv := [some (ab_J a0), none, none, none, none]) rfl (by decide +kernel) (fun q => by cases q) rfl rfl ?_
  unfold f_X8_aligned at hk
  show ab_E mm_X8_aligned cX8_aligned 0 _ [] h _ _
  refine ab_lload_n (pc := 0) (i := 0) dX8_aligned_0 rfl rfl ?_
  refine ab_lstore_n (pc := 1) (i := 2) (lv2 := [some (ab_J a0), none, some (ab_J a0), none, none]) dX8_aligned_1 rfl (Nat.le_of_ble_eq_true rfl) rfl rfl ?_
  refine ab_iconst (pc := 2) dX8_aligned_2 ab_k_1 ?_
  refine ab_istore (pc := 3) (i := 4) (lv2 := [some (ab_J a0), none, some (ab_J a0), none, some (ab_I (1 : Int))]) dX8_aligned_3 (Nat.le_of_ble_eq_true rfl) rfl rfl ?_
  refine ab_sub_ (lv2 := [none, none, some (ab_J a0), none, some (ab_I (1 : Int))]) (ab_sn (ab_sn (ab_ss (ab_sn (ab_ss ab_s0))))) ?_
  refine e_X8_aligned_L5 _ _ _ _ _ hk
theorem dX8_hasBit_0 : decode cX8_hasBit 0 = .ok (.iload_n 0, 1) := by decide +kernel
theorem dX8_hasBit_1 : decode cX8_hasBit 1 = .ok (.iload_n 1, 1) := by decide +kernel
theorem dX8_hasBit_2 : decode cX8_hasBit 2 = .ok (.ishr, 1) := by decide +kernel
theorem dX8_hasBit_3 : decode cX8_hasBit 3 = .ok (.iconst 1, 1) := by decide +kernel
theorem dX8_hasBit_4 : decode cX8_hasBit 4 = .ok (.iand, 1) := by decide +kernel
theorem dX8_hasBit_5 : decode cX8_hasBit 5 = .ok (.iconst 1, 1) := by decide +kernel
theorem dX8_hasBit_6 : decode cX8_hasBit 6 = .ok (.if_icmp .ne 7, 3) := by decide +kernel
theorem dX8_hasBit_9 : decode cX8_hasBit 9 = .ok (.iconst 1, 1) := by decide +kernel
theorem dX8_hasBit_10 : decode cX8_hasBit 10 = .ok (.goto 4, 3) := by decide +kernel
theorem dX8_hasBit_13 : decode cX8_hasBit 13 = .ok (.iconst 0, 1) := by decide +kernel
theorem dX8_hasBit_14 : decode cX8_hasBit 14 = .ok (.ireturn, 1) := by decide +kernel
abbrev mm_X8_hasBit : ab_M := (RX8, 2, (some .boolean), false, 0, 0, none)
noncomputable def f_X8_hasBit (a0 : Int) (a1 : Int) (h : ab_H) : Option (Int × ab_H) :=
  if ab_and (ab_shr a0 a1) (1 : Int) = (1 : Int) then
    some ((1 : Int), h)
  else
  some ((0 : Int), h)
set_option maxRecDepth 20000 in
theorem ct_X8_hasBit {a0 a1 : Int} {h : ab_H} {q : Int × ab_H} (hk : f_X8_hasBit a0 a1 h = some q) : ab_CT yX8_hasBit cX8_hasBit 2 (some .boolean) 0 0 [ab_I a0, ab_I a1] h (some (ab_I q.1)) q.2 := by
  refine ab_CT.mk_ 0 (own := RX8) (ini := false) (lv := [some (ab_I a0), some (ab_I a1)]) rfl (by decide +kernel) (fun q => by cases q) rfl rfl ?_
  unfold f_X8_hasBit at hk
  show ab_E mm_X8_hasBit cX8_hasBit 0 _ [] h _ _
  refine ab_iload_n (pc := 0) (i := 0) dX8_hasBit_0 rfl rfl ?_
  refine ab_iload_n (pc := 1) (i := 1) dX8_hasBit_1 rfl rfl ?_
  refine ab_ishr (pc := 2) dX8_hasBit_2 ?_
  refine ab_iconst (pc := 3) dX8_hasBit_3 ab_k_1 ?_
  refine ab_iand (pc := 4) dX8_hasBit_4 ?_
  refine ab_iconst (pc := 5) dX8_hasBit_5 ab_k_1 ?_
  refine ab_icmp_ne (pc := 6) (tgt := 13) dX8_hasBit_6 rfl (fun hc => ?_) (fun hc => ?_)
  · have hk := ab_ifn hk hc
    refine ab_iconst (pc := 13) dX8_hasBit_13 ab_k_0 ?_
    obtain rfl := Option.some.inj hk
    exact ab_retz (pc := 14) dX8_hasBit_14 rfl rfl
  · have hk := ab_ifp hk hc
    refine ab_iconst (pc := 9) dX8_hasBit_9 ab_k_1 ?_
    refine ab_goto (pc := 10) (tgt := 14) dX8_hasBit_10 rfl ?_
    obtain rfl := Option.some.inj hk
    exact ab_retz (pc := 14) dX8_hasBit_14 rfl rfl
theorem dX8_isAddress_0 : decode cX8_isAddress 0 = .ok (.iload_n 0, 1) := by decide +kernel
theorem dX8_isAddress_1 : decode cX8_isAddress 1 = .ok (.ifCond .lt 14, 3) := by decide +kernel
theorem dX8_isAddress_4 : decode cX8_isAddress 4 = .ok (.iload_n 0, 1) := by decide +kernel
theorem dX8_isAddress_5 : decode cX8_isAddress 5 = .ok (.sipush 1000, 3) := by decide +kernel
theorem dX8_isAddress_8 : decode cX8_isAddress 8 = .ok (.if_icmp .ge 7, 3) := by decide +kernel
theorem dX8_isAddress_11 : decode cX8_isAddress 11 = .ok (.iconst 1, 1) := by decide +kernel
theorem dX8_isAddress_12 : decode cX8_isAddress 12 = .ok (.goto 4, 3) := by decide +kernel
theorem dX8_isAddress_15 : decode cX8_isAddress 15 = .ok (.iconst 0, 1) := by decide +kernel
theorem dX8_isAddress_16 : decode cX8_isAddress 16 = .ok (.ireturn, 1) := by decide +kernel
abbrev mm_X8_isAddress : ab_M := (RX8, 1, (some .boolean), false, 0, 0, none)
noncomputable def f_X8_isAddress_J15 (h : ab_H) : Option (Int × ab_H) :=
  some ((0 : Int), h)
set_option maxRecDepth 20000 in
theorem e_X8_isAddress_J15 : ∀ (h : ab_H) (q : Int × ab_H), f_X8_isAddress_J15  h = some q → ab_E mm_X8_isAddress cX8_isAddress 15 [none] [] h (some (ab_I q.1)) q.2 := by
  intro  h q hk
  unfold f_X8_isAddress_J15 at hk
  refine ab_iconst (pc := 15) dX8_isAddress_15 ab_k_0 ?_
  obtain rfl := Option.some.inj hk
  exact ab_retz (pc := 16) dX8_isAddress_16 rfl rfl
noncomputable def f_X8_isAddress (a0 : Int) (h : ab_H) : Option (Int × ab_H) :=
  if a0 < (0 : Int) then
    f_X8_isAddress_J15 h
  else
  if (1000 : Int) ≤ a0 then
    f_X8_isAddress_J15 h
  else
  some ((1 : Int), h)
set_option maxRecDepth 20000 in
theorem ct_X8_isAddress {a0 : Int} {h : ab_H} {q : Int × ab_H} (hk : f_X8_isAddress a0 h = some q) : ab_CT yX8_isAddress cX8_isAddress 1 (some .boolean) 0 0 [ab_I a0] h (some (ab_I q.1)) q.2 := by
  refine ab_CT.mk_ 0 (own := RX8) (ini := false) (lv := [some (ab_I a0)]) rfl (by decide +kernel) (fun q => by cases q) rfl rfl ?_
  unfold f_X8_isAddress at hk
  show ab_E mm_X8_isAddress cX8_isAddress 0 _ [] h _ _
  refine ab_iload_n (pc := 0) (i := 0) dX8_isAddress_0 rfl rfl ?_
  refine ab_if_lt (pc := 1) (tgt := 15) dX8_isAddress_1 rfl (fun hc => ?_) (fun hc => ?_)
  · have hk := ab_ifp hk hc
    refine ab_sub_ (lv2 := [none]) (ab_sn ab_s0) ?_
    exact e_X8_isAddress_J15  _ _ hk
  · have hk := ab_ifn hk hc
    refine ab_iload_n (pc := 4) (i := 0) dX8_isAddress_4 rfl rfl ?_
    refine ab_sipush (pc := 5) dX8_isAddress_5 ab_p16_1000 ab_k_1000 ?_
    refine ab_icmp_ge (pc := 8) (tgt := 15) dX8_isAddress_8 rfl (fun hc => ?_) (fun hc => ?_)
    · have hk := ab_ifp hk hc
      refine ab_sub_ (lv2 := [none]) (ab_sn ab_s0) ?_
      exact e_X8_isAddress_J15  _ _ hk
    · have hk := ab_ifn hk hc
      refine ab_iconst (pc := 11) dX8_isAddress_11 ab_k_1 ?_
      refine ab_goto (pc := 12) (tgt := 16) dX8_isAddress_12 rfl ?_
      obtain rfl := Option.some.inj hk
      exact ab_retz (pc := 16) dX8_isAddress_16 rfl rfl
theorem dX8_lettersOf_0 : decode cX8_lettersOf 0 = .ok (.iconst 0, 1) := by decide +kernel
theorem dX8_lettersOf_1 : decode cX8_lettersOf 1 = .ok (.istore_n 2, 1) := by decide +kernel
theorem dX8_lettersOf_2 : decode cX8_lettersOf 2 = .ok (.iconst 0, 1) := by decide +kernel
theorem dX8_lettersOf_3 : decode cX8_lettersOf 3 = .ok (.istore_n 3, 1) := by decide +kernel
theorem dX8_lettersOf_4 : decode cX8_lettersOf 4 = .ok (.iload_n 3, 1) := by decide +kernel
theorem dX8_lettersOf_5 : decode cX8_lettersOf 5 = .ok (.bipush 7, 2) := by decide +kernel
theorem dX8_lettersOf_7 : decode cX8_lettersOf 7 = .ok (.if_icmp .ge 20, 3) := by decide +kernel
theorem dX8_lettersOf_10 : decode cX8_lettersOf 10 = .ok (.lload_n 0, 1) := by decide +kernel
theorem dX8_lettersOf_11 : decode cX8_lettersOf 11 = .ok (.iload_n 3, 1) := by decide +kernel
theorem dX8_lettersOf_12 : decode cX8_lettersOf 12 = .ok (.invokestatic 167, 3) := by decide +kernel
theorem dX8_lettersOf_15 : decode cX8_lettersOf 15 = .ok (.ifCond .eq 6, 3) := by decide +kernel
theorem dX8_lettersOf_18 : decode cX8_lettersOf 18 = .ok (.iinc 2 1, 3) := by decide +kernel
theorem dX8_lettersOf_21 : decode cX8_lettersOf 21 = .ok (.iinc 3 1, 3) := by decide +kernel
theorem dX8_lettersOf_24 : decode cX8_lettersOf 24 = .ok (.goto (-20), 3) := by decide +kernel
theorem dX8_lettersOf_27 : decode cX8_lettersOf 27 = .ok (.iload_n 2, 1) := by decide +kernel
theorem dX8_lettersOf_28 : decode cX8_lettersOf 28 = .ok (.ireturn, 1) := by decide +kernel
abbrev mm_X8_lettersOf : ab_M := (RX8, 4, (some .int), false, 1, 22, none)
noncomputable def f_X8_lettersOf_J21 (rec : Int → Int → Int → ab_H → Option (Int × ab_H)) (v0 : Int) (v2 : Int) (v3 : Int) (h : ab_H) : Option (Int × ab_H) :=
  rec v0 v2 (ab_w32 (v3 + (1 : Int))) h
set_option maxRecDepth 20000 in
theorem e_X8_lettersOf_J21 {rec : Int → Int → Int → ab_H → Option (Int × ab_H)} (hrec : ∀ (v0 : Int) (v2 : Int) (v3 : Int) (h : ab_H) (q : Int × ab_H), rec v0 v2 v3 h = some q → ab_E mm_X8_lettersOf cX8_lettersOf 4 [some (ab_J v0), none, some (ab_I v2), some (ab_I v3)] [] h (some (ab_I q.1)) q.2) : ∀ (v0 : Int) (v2 : Int) (v3 : Int) (h : ab_H) (q : Int × ab_H), f_X8_lettersOf_J21 rec v0 v2 v3 h = some q → ab_E mm_X8_lettersOf cX8_lettersOf 21 [some (ab_J v0), none, some (ab_I v2), some (ab_I v3)] [] h (some (ab_I q.1)) q.2 := by
  intro v0 v2 v3 h q hk
  unfold f_X8_lettersOf_J21 at hk
  refine ab_iinc (pc := 21) (i := 3) (lv2 := [some (ab_J v0), none, some (ab_I v2), some (ab_I (ab_w32 (v3 + (1 : Int))))]) dX8_lettersOf_21 rfl (Nat.le_of_ble_eq_true rfl) rfl rfl ?_
  refine ab_goto (pc := 24) (tgt := 4) dX8_lettersOf_24 rfl ?_
  refine ab_sub_ (lv2 := [some (ab_J v0), none, some (ab_I v2), some (ab_I (ab_w32 (v3 + (1 : Int))))]) (ab_ss (ab_sn (ab_ss (ab_ss ab_s0)))) ?_
  exact hrec _ _ _ _ _ hk
noncomputable def f_X8_lettersOf_L4 : Nat → Int → Int → Int → ab_H → Option (Int × ab_H)
  | 0, _, _, _, _ => none
  | n + 1, v0, v2, v3, h =>
    if (7 : Int) ≤ v3 then
      some (v2, h)
    else
    (f_X8_letterOf v0 v3 h).bind fun q1 =>
    if q1.1 = (0 : Int) then
      f_X8_lettersOf_J21 (f_X8_lettersOf_L4 n) v0 v2 v3 q1.2
    else
    f_X8_lettersOf_J21 (f_X8_lettersOf_L4 n) v0 (ab_w32 (v2 + (1 : Int))) v3 q1.2
set_option maxRecDepth 20000 in
theorem e_X8_lettersOf_L4 : ∀ (n : Nat) (v0 : Int) (v2 : Int) (v3 : Int) (h : ab_H) (q : Int × ab_H), f_X8_lettersOf_L4 n v0 v2 v3 h = some q → ab_E mm_X8_lettersOf cX8_lettersOf 4 [some (ab_J v0), none, some (ab_I v2), some (ab_I v3)] [] h (some (ab_I q.1)) q.2 := by
  intro n
  induction n with
  | zero => intro v0 v2 v3 h q hk; cases hk
  | succ n ih =>
    intro v0 v2 v3 h q hk
    unfold f_X8_lettersOf_L4 at hk
    refine ab_iload_n (pc := 4) (i := 3) dX8_lettersOf_4 rfl rfl ?_
    refine ab_bipush (pc := 5) dX8_lettersOf_5 ab_p8_7 ab_k_7 ?_
    refine ab_icmp_ge (pc := 7) (tgt := 27) dX8_lettersOf_7 rfl (fun hc => ?_) (fun hc => ?_)
    · have hk := ab_ifp hk hc
      refine ab_iload_n (pc := 27) (i := 2) dX8_lettersOf_27 rfl rfl ?_
      obtain rfl := Option.some.inj hk
      exact ab_reti (pc := 28) dX8_lettersOf_28 (Or.inl rfl)
    · have hk := ab_ifn hk hc
      refine ab_lload_n (pc := 10) (i := 0) dX8_lettersOf_10 rfl rfl ?_
      refine ab_iload_n (pc := 11) (i := 3) dX8_lettersOf_11 rfl rfl ?_
      obtain ⟨q1, hq1, hk⟩ := ab_bnd hk
      refine ab_callSI (st := []) (as := [ab_J v0, ab_I v3]) (pc := 12) dX8_lettersOf_12 ml_RX8_167 my_X8_letterOf ms_X8_letterOf (ct_X8_letterOf hq1) ⟨Nat.le_of_ble_eq_true rfl, Nat.le_of_ble_eq_true rfl⟩ rfl (Nat.le_of_ble_eq_true rfl) rfl ?_
      refine ab_if_eq (pc := 15) (tgt := 21) dX8_lettersOf_15 rfl (fun hc => ?_) (fun hc => ?_)
      · have hk := ab_ifp hk hc
        refine ab_sub_ (lv2 := [some (ab_J v0), none, some (ab_I v2), some (ab_I v3)]) (ab_ss (ab_sn (ab_ss (ab_ss ab_s0)))) ?_
        exact e_X8_lettersOf_J21 ih _ _ _ _ _ hk
      · have hk := ab_ifn hk hc
        refine ab_iinc (pc := 18) (i := 2) (lv2 := [some (ab_J v0), none, some (ab_I (ab_w32 (v2 + (1 : Int)))), some (ab_I v3)]) dX8_lettersOf_18 rfl (Nat.le_of_ble_eq_true rfl) rfl rfl ?_
        refine ab_sub_ (lv2 := [some (ab_J v0), none, some (ab_I (ab_w32 (v2 + (1 : Int)))), some (ab_I v3)]) (ab_ss (ab_sn (ab_ss (ab_ss ab_s0)))) ?_
        exact e_X8_lettersOf_J21 ih _ _ _ _ _ hk
noncomputable def f_X8_lettersOf (a0 : Int) (h : ab_H) : Option (Int × ab_H) :=
  f_X8_lettersOf_L4 ab_FU a0 (0 : Int) (0 : Int) h
set_option maxRecDepth 20000 in
theorem ct_X8_lettersOf {a0 : Int} {h : ab_H} {q : Int × ab_H} (hk : f_X8_lettersOf a0 h = some q) : ab_CT yX8_lettersOf cX8_lettersOf 4 (some .int) 1 22 [ab_J a0] h (some (ab_I q.1)) q.2 := by
  refine ab_CT.mk_ 2 (own := RX8) (ini := false) (lv := [some (ab_J a0), none, none, none]) rfl (by decide +kernel) (fun q => by cases q) rfl rfl ?_
  unfold f_X8_lettersOf at hk
  show ab_E mm_X8_lettersOf cX8_lettersOf 0 _ [] h _ _
  refine ab_iconst (pc := 0) dX8_lettersOf_0 ab_k_0 ?_
  refine ab_istore_n (pc := 1) (i := 2) (lv2 := [some (ab_J a0), none, some (ab_I (0 : Int)), none]) dX8_lettersOf_1 rfl (Nat.le_of_ble_eq_true rfl) rfl rfl ?_
  refine ab_iconst (pc := 2) dX8_lettersOf_2 ab_k_0 ?_
  refine ab_istore_n (pc := 3) (i := 3) (lv2 := [some (ab_J a0), none, some (ab_I (0 : Int)), some (ab_I (0 : Int))]) dX8_lettersOf_3 rfl (Nat.le_of_ble_eq_true rfl) rfl rfl ?_
  refine ab_sub_ (lv2 := [some (ab_J a0), none, some (ab_I (0 : Int)), some (ab_I (0 : Int))]) (ab_ss (ab_sn (ab_ss (ab_ss ab_s0)))) ?_
  refine e_X8_lettersOf_L4 _ _ _ _ _ _ hk
theorem dX8_isRole_0 : decode cX8_isRole 0 = .ok (.iload_n 0, 1) := by decide +kernel
theorem dX8_isRole_1 : decode cX8_isRole 1 = .ok (.ifCond .lt 13, 3) := by decide +kernel
theorem dX8_isRole_4 : decode cX8_isRole 4 = .ok (.iload_n 0, 1) := by decide +kernel
theorem dX8_isRole_5 : decode cX8_isRole 5 = .ok (.bipush 6, 2) := by decide +kernel
theorem dX8_isRole_7 : decode cX8_isRole 7 = .ok (.if_icmp .ge 7, 3) := by decide +kernel
theorem dX8_isRole_10 : decode cX8_isRole 10 = .ok (.iconst 1, 1) := by decide +kernel
theorem dX8_isRole_11 : decode cX8_isRole 11 = .ok (.goto 4, 3) := by decide +kernel
theorem dX8_isRole_14 : decode cX8_isRole 14 = .ok (.iconst 0, 1) := by decide +kernel
theorem dX8_isRole_15 : decode cX8_isRole 15 = .ok (.ireturn, 1) := by decide +kernel
abbrev mm_X8_isRole : ab_M := (RX8, 1, (some .boolean), false, 0, 0, none)
noncomputable def f_X8_isRole_J14 (h : ab_H) : Option (Int × ab_H) :=
  some ((0 : Int), h)
set_option maxRecDepth 20000 in
theorem e_X8_isRole_J14 : ∀ (h : ab_H) (q : Int × ab_H), f_X8_isRole_J14  h = some q → ab_E mm_X8_isRole cX8_isRole 14 [none] [] h (some (ab_I q.1)) q.2 := by
  intro  h q hk
  unfold f_X8_isRole_J14 at hk
  refine ab_iconst (pc := 14) dX8_isRole_14 ab_k_0 ?_
  obtain rfl := Option.some.inj hk
  exact ab_retz (pc := 15) dX8_isRole_15 rfl rfl
noncomputable def f_X8_isRole (a0 : Int) (h : ab_H) : Option (Int × ab_H) :=
  if a0 < (0 : Int) then
    f_X8_isRole_J14 h
  else
  if (6 : Int) ≤ a0 then
    f_X8_isRole_J14 h
  else
  some ((1 : Int), h)
set_option maxRecDepth 20000 in
theorem ct_X8_isRole {a0 : Int} {h : ab_H} {q : Int × ab_H} (hk : f_X8_isRole a0 h = some q) : ab_CT yX8_isRole cX8_isRole 1 (some .boolean) 0 0 [ab_I a0] h (some (ab_I q.1)) q.2 := by
  refine ab_CT.mk_ 0 (own := RX8) (ini := false) (lv := [some (ab_I a0)]) rfl (by decide +kernel) (fun q => by cases q) rfl rfl ?_
  unfold f_X8_isRole at hk
  show ab_E mm_X8_isRole cX8_isRole 0 _ [] h _ _
  refine ab_iload_n (pc := 0) (i := 0) dX8_isRole_0 rfl rfl ?_
  refine ab_if_lt (pc := 1) (tgt := 14) dX8_isRole_1 rfl (fun hc => ?_) (fun hc => ?_)
  · have hk := ab_ifp hk hc
    refine ab_sub_ (lv2 := [none]) (ab_sn ab_s0) ?_
    exact e_X8_isRole_J14  _ _ hk
  · have hk := ab_ifn hk hc
    refine ab_iload_n (pc := 4) (i := 0) dX8_isRole_4 rfl rfl ?_
    refine ab_bipush (pc := 5) dX8_isRole_5 ab_p8_6 ab_k_6 ?_
    refine ab_icmp_ge (pc := 7) (tgt := 14) dX8_isRole_7 rfl (fun hc => ?_) (fun hc => ?_)
    · have hk := ab_ifp hk hc
      refine ab_sub_ (lv2 := [none]) (ab_sn ab_s0) ?_
      exact e_X8_isRole_J14  _ _ hk
    · have hk := ab_ifn hk hc
      refine ab_iconst (pc := 10) dX8_isRole_10 ab_k_1 ?_
      refine ab_goto (pc := 11) (tgt := 15) dX8_isRole_11 rfl ?_
      obtain rfl := Option.some.inj hk
      exact ab_retz (pc := 15) dX8_isRole_15 rfl rfl
theorem dX8_isWay_0 : decode cX8_isWay 0 = .ok (.iload_n 0, 1) := by decide +kernel
theorem dX8_isWay_1 : decode cX8_isWay 1 = .ok (.ifCond .lt 12, 3) := by decide +kernel
theorem dX8_isWay_4 : decode cX8_isWay 4 = .ok (.iload_n 0, 1) := by decide +kernel
theorem dX8_isWay_5 : decode cX8_isWay 5 = .ok (.iconst 3, 1) := by decide +kernel
theorem dX8_isWay_6 : decode cX8_isWay 6 = .ok (.if_icmp .ge 7, 3) := by decide +kernel
theorem dX8_isWay_9 : decode cX8_isWay 9 = .ok (.iconst 1, 1) := by decide +kernel
theorem dX8_isWay_10 : decode cX8_isWay 10 = .ok (.goto 4, 3) := by decide +kernel
theorem dX8_isWay_13 : decode cX8_isWay 13 = .ok (.iconst 0, 1) := by decide +kernel
theorem dX8_isWay_14 : decode cX8_isWay 14 = .ok (.ireturn, 1) := by decide +kernel
abbrev mm_X8_isWay : ab_M := (RX8, 1, (some .boolean), false, 0, 0, none)
noncomputable def f_X8_isWay_J13 (h : ab_H) : Option (Int × ab_H) :=
  some ((0 : Int), h)
set_option maxRecDepth 20000 in
theorem e_X8_isWay_J13 : ∀ (h : ab_H) (q : Int × ab_H), f_X8_isWay_J13  h = some q → ab_E mm_X8_isWay cX8_isWay 13 [none] [] h (some (ab_I q.1)) q.2 := by
  intro  h q hk
  unfold f_X8_isWay_J13 at hk
  refine ab_iconst (pc := 13) dX8_isWay_13 ab_k_0 ?_
  obtain rfl := Option.some.inj hk
  exact ab_retz (pc := 14) dX8_isWay_14 rfl rfl
noncomputable def f_X8_isWay (a0 : Int) (h : ab_H) : Option (Int × ab_H) :=
  if a0 < (0 : Int) then
    f_X8_isWay_J13 h
  else
  if (3 : Int) ≤ a0 then
    f_X8_isWay_J13 h
  else
  some ((1 : Int), h)
set_option maxRecDepth 20000 in
theorem ct_X8_isWay {a0 : Int} {h : ab_H} {q : Int × ab_H} (hk : f_X8_isWay a0 h = some q) : ab_CT yX8_isWay cX8_isWay 1 (some .boolean) 0 0 [ab_I a0] h (some (ab_I q.1)) q.2 := by
  refine ab_CT.mk_ 0 (own := RX8) (ini := false) (lv := [some (ab_I a0)]) rfl (by decide +kernel) (fun q => by cases q) rfl rfl ?_
  unfold f_X8_isWay at hk
  show ab_E mm_X8_isWay cX8_isWay 0 _ [] h _ _
  refine ab_iload_n (pc := 0) (i := 0) dX8_isWay_0 rfl rfl ?_
  refine ab_if_lt (pc := 1) (tgt := 13) dX8_isWay_1 rfl (fun hc => ?_) (fun hc => ?_)
  · have hk := ab_ifp hk hc
    refine ab_sub_ (lv2 := [none]) (ab_sn ab_s0) ?_
    exact e_X8_isWay_J13  _ _ hk
  · have hk := ab_ifn hk hc
    refine ab_iload_n (pc := 4) (i := 0) dX8_isWay_4 rfl rfl ?_
    refine ab_iconst (pc := 5) dX8_isWay_5 ab_k_3 ?_
    refine ab_icmp_ge (pc := 6) (tgt := 13) dX8_isWay_6 rfl (fun hc => ?_) (fun hc => ?_)
    · have hk := ab_ifp hk hc
      refine ab_sub_ (lv2 := [none]) (ab_sn ab_s0) ?_
      exact e_X8_isWay_J13  _ _ hk
    · have hk := ab_ifn hk hc
      refine ab_iconst (pc := 9) dX8_isWay_9 ab_k_1 ?_
      refine ab_goto (pc := 10) (tgt := 14) dX8_isWay_10 rfl ?_
      obtain rfl := Option.some.inj hk
      exact ab_retz (pc := 14) dX8_isWay_14 rfl rfl
theorem dX8_beginsWith_0 : decode cX8_beginsWith 0 = .ok (.iconst 5, 1) := by decide +kernel
theorem dX8_beginsWith_1 : decode cX8_beginsWith 1 = .ok (.bipush 7, 2) := by decide +kernel
theorem dX8_beginsWith_3 : decode cX8_beginsWith 3 = .ok (.iload 4, 2) := by decide +kernel
theorem dX8_beginsWith_5 : decode cX8_beginsWith 5 = .ok (.isub, 1) := by decide +kernel
theorem dX8_beginsWith_6 : decode cX8_beginsWith 6 = .ok (.imul, 1) := by decide +kernel
theorem dX8_beginsWith_7 : decode cX8_beginsWith 7 = .ok (.istore 5, 2) := by decide +kernel
theorem dX8_beginsWith_9 : decode cX8_beginsWith 9 = .ok (.lload_n 0, 1) := by decide +kernel
theorem dX8_beginsWith_10 : decode cX8_beginsWith 10 = .ok (.iload 5, 2) := by decide +kernel
theorem dX8_beginsWith_12 : decode cX8_beginsWith 12 = .ok (.lshr, 1) := by decide +kernel
theorem dX8_beginsWith_13 : decode cX8_beginsWith 13 = .ok (.lload_n 2, 1) := by decide +kernel
theorem dX8_beginsWith_14 : decode cX8_beginsWith 14 = .ok (.iload 5, 2) := by decide +kernel
theorem dX8_beginsWith_16 : decode cX8_beginsWith 16 = .ok (.lshr, 1) := by decide +kernel
theorem dX8_beginsWith_17 : decode cX8_beginsWith 17 = .ok (.lcmp, 1) := by decide +kernel
theorem dX8_beginsWith_18 : decode cX8_beginsWith 18 = .ok (.ifCond .ne 7, 3) := by decide +kernel
theorem dX8_beginsWith_21 : decode cX8_beginsWith 21 = .ok (.iconst 1, 1) := by decide +kernel
theorem dX8_beginsWith_22 : decode cX8_beginsWith 22 = .ok (.goto 4, 3) := by decide +kernel
theorem dX8_beginsWith_25 : decode cX8_beginsWith 25 = .ok (.iconst 0, 1) := by decide +kernel
theorem dX8_beginsWith_26 : decode cX8_beginsWith 26 = .ok (.ireturn, 1) := by decide +kernel
abbrev mm_X8_beginsWith : ab_M := (RX8, 6, (some .boolean), false, 0, 0, none)
noncomputable def f_X8_beginsWith (a0 : Int) (a2 : Int) (a4 : Int) (h : ab_H) : Option (Int × ab_H) :=
  if ab_cmp (ab_lshr a0 (ab_w32 ((5 : Int) * (ab_w32 ((7 : Int) - a4))))) (ab_lshr a2 (ab_w32 ((5 : Int) * (ab_w32 ((7 : Int) - a4))))) = (0 : Int) then
    some ((1 : Int), h)
  else
  some ((0 : Int), h)
set_option maxRecDepth 20000 in
theorem ct_X8_beginsWith {a0 a2 a4 : Int} {h : ab_H} {q : Int × ab_H} (hk : f_X8_beginsWith a0 a2 a4 h = some q) : ab_CT yX8_beginsWith cX8_beginsWith 6 (some .boolean) 0 0 [ab_J a0, ab_J a2, ab_I a4] h (some (ab_I q.1)) q.2 := by
  refine ab_CT.mk_ 1 (own := RX8) (ini := false) (lv := [some (ab_J a0), none, some (ab_J a2), none, some (ab_I a4), none]) rfl (by decide +kernel) (fun q => by cases q) rfl rfl ?_
  unfold f_X8_beginsWith at hk
  show ab_E mm_X8_beginsWith cX8_beginsWith 0 _ [] h _ _
  refine ab_iconst (pc := 0) dX8_beginsWith_0 ab_k_5 ?_
  refine ab_bipush (pc := 1) dX8_beginsWith_1 ab_p8_7 ab_k_7 ?_
  refine ab_iload (pc := 3) (i := 4) dX8_beginsWith_3 rfl ?_
  refine ab_isub (pc := 5) dX8_beginsWith_5 ?_
  refine ab_imul (pc := 6) dX8_beginsWith_6 ?_
  refine ab_istore (pc := 7) (i := 5) (lv2 := [some (ab_J a0), none, some (ab_J a2), none, some (ab_I a4), some (ab_I (ab_w32 ((5 : Int) * (ab_w32 ((7 : Int) - a4)))))]) dX8_beginsWith_7 (Nat.le_of_ble_eq_true rfl) rfl rfl ?_
  refine ab_lload_n (pc := 9) (i := 0) dX8_beginsWith_9 rfl rfl ?_
  refine ab_iload (pc := 10) (i := 5) dX8_beginsWith_10 rfl ?_
  refine ab_lshr_ (pc := 12) dX8_beginsWith_12 ?_
  refine ab_lload_n (pc := 13) (i := 2) dX8_beginsWith_13 rfl rfl ?_
  refine ab_iload (pc := 14) (i := 5) dX8_beginsWith_14 rfl ?_
  refine ab_lshr_ (pc := 16) dX8_beginsWith_16 ?_
  refine ab_lcmp_ (pc := 17) dX8_beginsWith_17 ?_
  refine ab_if_ne (pc := 18) (tgt := 25) dX8_beginsWith_18 rfl (fun hc => ?_) (fun hc => ?_)
  · have hk := ab_ifn hk hc
    refine ab_iconst (pc := 25) dX8_beginsWith_25 ab_k_0 ?_
    obtain rfl := Option.some.inj hk
    exact ab_retz (pc := 26) dX8_beginsWith_26 rfl rfl
  · have hk := ab_ifp hk hc
    refine ab_iconst (pc := 21) dX8_beginsWith_21 ab_k_1 ?_
    refine ab_goto (pc := 22) (tgt := 26) dX8_beginsWith_22 rfl ?_
    obtain rfl := Option.some.inj hk
    exact ab_retz (pc := 26) dX8_beginsWith_26 rfl rfl
