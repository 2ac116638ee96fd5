abbrev mm_L_law (sN : Nat) (sX : Nat → Int) : ab_M := (RL, 4, (some .boolean), false, 16, 604, some (sN, sX))
noncomputable def f_L_law_J1702 (sN : Nat) (sX : Nat → Int) (rec : Int → Int → Int → Int → ab_H → Option (Int × ab_H)) (v0 : Int) (v1 : Int) (v2 : Int) (v3 : Int) (h : ab_H) : Option (Int × ab_H) :=
  rec v0 v1 v2 (ab_w32 (v3 + (6 : Int))) h
set_option maxRecDepth 20000 in
theorem e_L_law_J1702 {sN : Nat} {sX : Nat → Int} {rec : Int → Int → Int → Int → ab_H → Option (Int × ab_H)} (hrec : ∀ (v0 : Int) (v1 : Int) (v2 : Int) (v3 : Int) (h : ab_H) (q : Int × ab_H), rec v0 v1 v2 v3 h = some q → ab_E (mm_L_law sN sX) cL_law 18 [some (ab_R v0), some (ab_R v1), some (ab_R v2), some (ab_I v3)] [] h (some (ab_I q.1)) q.2) : ∀ (v0 : Int) (v1 : Int) (v2 : Int) (v3 : Int) (h : ab_H) (q : Int × ab_H), f_L_law_J1702 sN sX rec v0 v1 v2 v3 h = some q → ab_E (mm_L_law sN sX) cL_law 1702 [some (ab_R v0), some (ab_R v1), some (ab_R v2), some (ab_I v3)] [] h (some (ab_I q.1)) q.2 := by
  intro v0 v1 v2 v3 h q hk
  unfold f_L_law_J1702 at hk
  refine ab_iinc (pc := 1702) (i := 3) (lv2 := [some (ab_R v0), some (ab_R v1), some (ab_R v2), some (ab_I (ab_w32 (v3 + (6 : Int))))]) dL_law_1702 rfl (Nat.le_of_ble_eq_true rfl) rfl rfl ?_
  refine ab_goto (pc := 1705) (tgt := 18) dL_law_1705 rfl ?_
  refine ab_sub_ (lv2 := [some (ab_R v0), some (ab_R v1), some (ab_R v2), some (ab_I (ab_w32 (v3 + (6 : Int))))]) (ab_ss (ab_ss (ab_ss (ab_ss ab_s0)))) ?_
  exact hrec _ _ _ _ _ _ hk
noncomputable def f_L_law_L18 (sN : Nat) (sX : Nat → Int) : Nat → Int → Int → Int → Int → ab_H → Option (Int × ab_H)
  | 0, _, _, _, _, _ => none
  | n + 1, v0, v1, v2, v3, h =>
    (ab_scn sN v0).bind fun t1 =>
    if ab_w32 (t1 - (6 : Int)) < v3 then
      some ((1 : Int), h)
    else
    (ab_scl sN sX v0 v3).bind fun t2 =>
    if ab_and t2 (63 : Int) = (0 : Int) then
      (ab_scl sN sX v0 (ab_w32 (v3 + (1 : Int)))).bind fun t3 =>
      (ab_scl sN sX v0 (ab_w32 (v3 + (2 : Int)))).bind fun t4 =>
      (ab_scl sN sX v0 (ab_w32 (v3 + (3 : Int)))).bind fun t5 =>
      (ab_scl sN sX v0 (ab_w32 (v3 + (4 : Int)))).bind fun t6 =>
      (ab_scl sN sX v0 (ab_w32 (v3 + (5 : Int)))).bind fun t7 =>
      (ab_on h 9 v1 (f_X8_feed v1 t3 t4 t5 t6 t7 h)).bind fun q8 =>
      (ab_scl sN sX v0 (ab_w32 (v3 + (1 : Int)))).bind fun t9 =>
      (ab_scl sN sX v0 (ab_w32 (v3 + (2 : Int)))).bind fun t10 =>
      (ab_scl sN sX v0 (ab_w32 (v3 + (3 : Int)))).bind fun t11 =>
      (ab_scl sN sX v0 (ab_w32 (v3 + (4 : Int)))).bind fun t12 =>
      (ab_scl sN sX v0 (ab_w32 (v3 + (5 : Int)))).bind fun t13 =>
      (ab_on q8.2 10 v2 (f_X9_feed v2 t9 t10 t11 t12 t13 q8.2)).bind fun q14 =>
      if q8.1 = q14.1 then
        f_L_law_J1702 sN sX (f_L_law_L18 sN sX n) v0 v1 v2 v3 q14.2
      else
      some ((0 : Int), q14.2)
    else
    if ab_and t2 (63 : Int) = (1 : Int) then
      (ab_scl sN sX v0 (ab_w32 (v3 + (1 : Int)))).bind fun t15 =>
      (ab_on h 9 v1 (f_X8_end v1 t15 h)).bind fun q16 =>
      (ab_scl sN sX v0 (ab_w32 (v3 + (1 : Int)))).bind fun t17 =>
      (ab_on q16.2 10 v2 (f_X9_end v2 t17 q16.2)).bind fun q18 =>
      if q16.1 = q18.1 then
        f_L_law_J1702 sN sX (f_L_law_L18 sN sX n) v0 v1 v2 v3 q18.2
      else
      some ((0 : Int), q18.2)
    else
    if ab_and t2 (63 : Int) = (2 : Int) then
      (ab_on h 9 v1 (f_X8_text v1 h)).bind fun q19 =>
      (ab_on q19.2 10 v2 (f_X9_text v2 q19.2)).bind fun q20 =>
      if q19.1 = q20.1 then
        f_L_law_J1702 sN sX (f_L_law_L18 sN sX n) v0 v1 v2 v3 q20.2
      else
      some ((0 : Int), q20.2)
    else
    if ab_and t2 (63 : Int) = (3 : Int) then
      (ab_scl sN sX v0 (ab_w32 (v3 + (1 : Int)))).bind fun t21 =>
      (ab_on h 9 v1 (f_X8_fault v1 t21 h)).bind fun q22 =>
      (ab_scl sN sX v0 (ab_w32 (v3 + (1 : Int)))).bind fun t23 =>
      (ab_on q22.2 10 v2 (f_X9_fault v2 t23 q22.2)).bind fun q24 =>
      if q22.1 = q24.1 then
        f_L_law_J1702 sN sX (f_L_law_L18 sN sX n) v0 v1 v2 v3 q24.2
      else
      some ((0 : Int), q24.2)
    else
    if ab_and t2 (63 : Int) = (4 : Int) then
      (ab_scl sN sX v0 (ab_w32 (v3 + (1 : Int)))).bind fun t25 =>
      (ab_on h 9 v1 (f_X8_count v1 t25 h)).bind fun q26 =>
      (ab_scl sN sX v0 (ab_w32 (v3 + (1 : Int)))).bind fun t27 =>
      (ab_on q26.2 10 v2 (f_X9_count v2 t27 q26.2)).bind fun q28 =>
      if q26.1 = q28.1 then
        f_L_law_J1702 sN sX (f_L_law_L18 sN sX n) v0 v1 v2 v3 q28.2
      else
      some ((0 : Int), q28.2)
    else
    if ab_and t2 (63 : Int) = (5 : Int) then
      (ab_scl sN sX v0 (ab_w32 (v3 + (1 : Int)))).bind fun t29 =>
      (ab_scl sN sX v0 (ab_w32 (v3 + (2 : Int)))).bind fun t30 =>
      (ab_on h 9 v1 (f_X8_string v1 t29 t30 h)).bind fun q31 =>
      (ab_scl sN sX v0 (ab_w32 (v3 + (1 : Int)))).bind fun t32 =>
      (ab_scl sN sX v0 (ab_w32 (v3 + (2 : Int)))).bind fun t33 =>
      (ab_on q31.2 10 v2 (f_X9_string v2 t32 t33 q31.2)).bind fun q34 =>
      if q31.1 = q34.1 then
        f_L_law_J1702 sN sX (f_L_law_L18 sN sX n) v0 v1 v2 v3 q34.2
      else
      some ((0 : Int), q34.2)
    else
    if ab_and t2 (63 : Int) = (6 : Int) then
      (ab_scl sN sX v0 (ab_w32 (v3 + (1 : Int)))).bind fun t35 =>
      (ab_scl sN sX v0 (ab_w32 (v3 + (2 : Int)))).bind fun t36 =>
      (ab_scl sN sX v0 (ab_w32 (v3 + (3 : Int)))).bind fun t37 =>
      (ab_on h 9 v1 (f_X8_term v1 t35 t36 t37 h)).bind fun q38 =>
      (ab_scl sN sX v0 (ab_w32 (v3 + (1 : Int)))).bind fun t39 =>
      (ab_scl sN sX v0 (ab_w32 (v3 + (2 : Int)))).bind fun t40 =>
      (ab_scl sN sX v0 (ab_w32 (v3 + (3 : Int)))).bind fun t41 =>
      (ab_on q38.2 10 v2 (f_X9_term v2 t39 t40 t41 q38.2)).bind fun q42 =>
      if q38.1 = q42.1 then
        f_L_law_J1702 sN sX (f_L_law_L18 sN sX n) v0 v1 v2 v3 q42.2
      else
      some ((0 : Int), q42.2)
    else
    if ab_and t2 (63 : Int) = (7 : Int) then
      (ab_scl sN sX v0 (ab_w32 (v3 + (1 : Int)))).bind fun t43 =>
      (ab_scl sN sX v0 (ab_w32 (v3 + (2 : Int)))).bind fun t44 =>
      (ab_on h 9 v1 (f_X8_letter v1 t43 t44 h)).bind fun q45 =>
      (ab_scl sN sX v0 (ab_w32 (v3 + (1 : Int)))).bind fun t46 =>
      (ab_scl sN sX v0 (ab_w32 (v3 + (2 : Int)))).bind fun t47 =>
      (ab_on q45.2 10 v2 (f_X9_letter v2 t46 t47 q45.2)).bind fun q48 =>
      if q45.1 = q48.1 then
        f_L_law_J1702 sN sX (f_L_law_L18 sN sX n) v0 v1 v2 v3 q48.2
      else
      some ((0 : Int), q48.2)
    else
    if ab_and t2 (63 : Int) = (8 : Int) then
      (ab_scl sN sX v0 (ab_w32 (v3 + (1 : Int)))).bind fun t49 =>
      (ab_on h 9 v1 (f_X8_way v1 t49 h)).bind fun q50 =>
      (ab_scl sN sX v0 (ab_w32 (v3 + (1 : Int)))).bind fun t51 =>
      (ab_on q50.2 10 v2 (f_X9_way v2 t51 q50.2)).bind fun q52 =>
      if q50.1 = q52.1 then
        f_L_law_J1702 sN sX (f_L_law_L18 sN sX n) v0 v1 v2 v3 q52.2
      else
      some ((0 : Int), q52.2)
    else
    if ab_and t2 (63 : Int) = (9 : Int) then
      (ab_on h 9 v1 (f_X8_find v1 h)).bind fun q53 =>
      (ab_on q53.2 10 v2 (f_X9_find v2 q53.2)).bind fun q54 =>
      if q53.1 = q54.1 then
        f_L_law_J1702 sN sX (f_L_law_L18 sN sX n) v0 v1 v2 v3 q54.2
      else
      some ((0 : Int), q54.2)
    else
    if ab_and t2 (63 : Int) = (10 : Int) then
      (ab_scl sN sX v0 (ab_w32 (v3 + (1 : Int)))).bind fun t55 =>
      (ab_on h 9 v1 (f_X8_at v1 t55 h)).bind fun q56 =>
      (ab_scl sN sX v0 (ab_w32 (v3 + (1 : Int)))).bind fun t57 =>
      (ab_on q56.2 10 v2 (f_X9_at v2 t57 q56.2)).bind fun q58 =>
      if q56.1 = q58.1 then
        f_L_law_J1702 sN sX (f_L_law_L18 sN sX n) v0 v1 v2 v3 q58.2
      else
      some ((0 : Int), q58.2)
    else
    if ab_and t2 (63 : Int) = (11 : Int) then
      (ab_scl sN sX v0 (ab_w32 (v3 + (1 : Int)))).bind fun t59 =>
      (ab_scl sN sX v0 (ab_w32 (v3 + (2 : Int)))).bind fun t60 =>
      (ab_on h 9 v1 (f_X8_entry v1 t59 t60 h)).bind fun q61 =>
      (ab_scl sN sX v0 (ab_w32 (v3 + (1 : Int)))).bind fun t62 =>
      (ab_scl sN sX v0 (ab_w32 (v3 + (2 : Int)))).bind fun t63 =>
      (ab_on q61.2 10 v2 (f_X9_entry v2 t62 t63 q61.2)).bind fun q64 =>
      if q61.1 = q64.1 then
        f_L_law_J1702 sN sX (f_L_law_L18 sN sX n) v0 v1 v2 v3 q64.2
      else
      some ((0 : Int), q64.2)
    else
    if ab_and t2 (63 : Int) = (12 : Int) then
      (ab_scl sN sX v0 (ab_w32 (v3 + (1 : Int)))).bind fun t65 =>
      (ab_scl sN sX v0 (ab_w32 (v3 + (2 : Int)))).bind fun t66 =>
      (ab_scl sN sX v0 (ab_w32 (v3 + (3 : Int)))).bind fun t67 =>
      (ab_on h 9 v1 (f_X8_row v1 t65 t66 t67 h)).bind fun q68 =>
      (ab_scl sN sX v0 (ab_w32 (v3 + (1 : Int)))).bind fun t69 =>
      (ab_scl sN sX v0 (ab_w32 (v3 + (2 : Int)))).bind fun t70 =>
      (ab_scl sN sX v0 (ab_w32 (v3 + (3 : Int)))).bind fun t71 =>
      (ab_on q68.2 10 v2 (f_X9_row v2 t69 t70 t71 q68.2)).bind fun q72 =>
      if q68.1 = q72.1 then
        f_L_law_J1702 sN sX (f_L_law_L18 sN sX n) v0 v1 v2 v3 q72.2
      else
      some ((0 : Int), q72.2)
    else
    if ab_and t2 (63 : Int) = (13 : Int) then
      (ab_scl sN sX v0 (ab_w32 (v3 + (1 : Int)))).bind fun t73 =>
      (ab_scl sN sX v0 (ab_w32 (v3 + (2 : Int)))).bind fun t74 =>
      (ab_on h 9 v1 (f_X8_line v1 t73 t74 h)).bind fun q75 =>
      (ab_scl sN sX v0 (ab_w32 (v3 + (1 : Int)))).bind fun t76 =>
      (ab_scl sN sX v0 (ab_w32 (v3 + (2 : Int)))).bind fun t77 =>
      (ab_on q75.2 10 v2 (f_X9_line v2 t76 t77 q75.2)).bind fun q78 =>
      if q75.1 = q78.1 then
        f_L_law_J1702 sN sX (f_L_law_L18 sN sX n) v0 v1 v2 v3 q78.2
      else
      some ((0 : Int), q78.2)
    else
    if ab_and t2 (63 : Int) = (14 : Int) then
      (ab_scl sN sX v0 (ab_w32 (v3 + (1 : Int)))).bind fun t79 =>
      (ab_scl sN sX v0 (ab_w32 (v3 + (2 : Int)))).bind fun t80 =>
      (ab_on h 9 v1 (f_X8_address v1 t79 t80 h)).bind fun q81 =>
      (ab_scl sN sX v0 (ab_w32 (v3 + (1 : Int)))).bind fun t82 =>
      (ab_scl sN sX v0 (ab_w32 (v3 + (2 : Int)))).bind fun t83 =>
      (ab_on q81.2 10 v2 (f_X9_address v2 t82 t83 q81.2)).bind fun q84 =>
      if q81.1 = q84.1 then
        f_L_law_J1702 sN sX (f_L_law_L18 sN sX n) v0 v1 v2 v3 q84.2
      else
      some ((0 : Int), q84.2)
    else
    if ab_and t2 (63 : Int) = (15 : Int) then
      (ab_scl sN sX v0 (ab_w32 (v3 + (1 : Int)))).bind fun t85 =>
      (ab_scl sN sX v0 (ab_w32 (v3 + (2 : Int)))).bind fun t86 =>
      (ab_on h 9 v1 (f_X8_head v1 t85 t86 h)).bind fun q87 =>
      (ab_scl sN sX v0 (ab_w32 (v3 + (1 : Int)))).bind fun t88 =>
      (ab_scl sN sX v0 (ab_w32 (v3 + (2 : Int)))).bind fun t89 =>
      (ab_on q87.2 10 v2 (f_X9_head v2 t88 t89 q87.2)).bind fun q90 =>
      if q87.1 = q90.1 then
        f_L_law_J1702 sN sX (f_L_law_L18 sN sX n) v0 v1 v2 v3 q90.2
      else
      some ((0 : Int), q90.2)
    else
    if ab_and t2 (63 : Int) = (16 : Int) then
      (ab_scl sN sX v0 (ab_w32 (v3 + (1 : Int)))).bind fun t91 =>
      (ab_on h 9 v1 (f_X8_print v1 t91 h)).bind fun q92 =>
      (ab_scl sN sX v0 (ab_w32 (v3 + (1 : Int)))).bind fun t93 =>
      (ab_on q92.2 10 v2 (f_X9_print v2 t93 q92.2)).bind fun q94 =>
      if q92.1 = q94.1 then
        f_L_law_J1702 sN sX (f_L_law_L18 sN sX n) v0 v1 v2 v3 q94.2
      else
      some ((0 : Int), q94.2)
    else
    if ab_and t2 (63 : Int) = (17 : Int) then
      (ab_on h 9 v1 (f_X8_printAll v1 h)).bind fun q95 =>
      (ab_on q95.2 10 v2 (f_X9_printAll v2 q95.2)).bind fun q96 =>
      if q95.1 = q96.1 then
        f_L_law_J1702 sN sX (f_L_law_L18 sN sX n) v0 v1 v2 v3 q96.2
      else
      some ((0 : Int), q96.2)
    else
    if ab_and t2 (63 : Int) = (18 : Int) then
      (ab_scl sN sX v0 (ab_w32 (v3 + (1 : Int)))).bind fun t97 =>
      (ab_on h 9 v1 (f_X8_octet v1 t97 h)).bind fun q98 =>
      (ab_scl sN sX v0 (ab_w32 (v3 + (1 : Int)))).bind fun t99 =>
      (ab_on q98.2 10 v2 (f_X9_octet v2 t99 q98.2)).bind fun q100 =>
      if q98.1 = q100.1 then
        f_L_law_J1702 sN sX (f_L_law_L18 sN sX n) v0 v1 v2 v3 q100.2
      else
      some ((0 : Int), q100.2)
    else
    if ab_and t2 (63 : Int) = (19 : Int) then
      (ab_scl sN sX v0 (ab_w32 (v3 + (1 : Int)))).bind fun t101 =>
      (ab_on h 9 v1 (f_X8_rebuilt v1 t101 h)).bind fun q102 =>
      (ab_scl sN sX v0 (ab_w32 (v3 + (1 : Int)))).bind fun t103 =>
      (ab_on q102.2 10 v2 (f_X9_rebuilt v2 t103 q102.2)).bind fun q104 =>
      if q102.1 = q104.1 then
        f_L_law_J1702 sN sX (f_L_law_L18 sN sX n) v0 v1 v2 v3 q104.2
      else
      some ((0 : Int), q104.2)
    else
    if ab_and t2 (63 : Int) = (20 : Int) then
      (ab_scl sN sX v0 (ab_w32 (v3 + (1 : Int)))).bind fun t105 =>
      (ab_on h 9 v1 (f_X8_begins v1 t105 h)).bind fun q106 =>
      (ab_scl sN sX v0 (ab_w32 (v3 + (1 : Int)))).bind fun t107 =>
      (ab_on q106.2 10 v2 (f_X9_begins v2 t107 q106.2)).bind fun q108 =>
      if q106.1 = q108.1 then
        f_L_law_J1702 sN sX (f_L_law_L18 sN sX n) v0 v1 v2 v3 q108.2
      else
      some ((0 : Int), q108.2)
    else
    if ab_and t2 (63 : Int) = (21 : Int) then
      (ab_scl sN sX v0 (ab_w32 (v3 + (1 : Int)))).bind fun t109 =>
      (ab_scl sN sX v0 (ab_w32 (v3 + (2 : Int)))).bind fun t110 =>
      (ab_on h 9 v1 (f_X8_having v1 t109 t110 h)).bind fun q111 =>
      (ab_scl sN sX v0 (ab_w32 (v3 + (1 : Int)))).bind fun t112 =>
      (ab_scl sN sX v0 (ab_w32 (v3 + (2 : Int)))).bind fun t113 =>
      (ab_on q111.2 10 v2 (f_X9_having v2 t112 t113 q111.2)).bind fun q114 =>
      if q111.1 = q114.1 then
        f_L_law_J1702 sN sX (f_L_law_L18 sN sX n) v0 v1 v2 v3 q114.2
      else
      some ((0 : Int), q114.2)
    else
    if ab_and t2 (63 : Int) = (22 : Int) then
      (ab_scl sN sX v0 (ab_w32 (v3 + (1 : Int)))).bind fun t115 =>
      (ab_scl sN sX v0 (ab_w32 (v3 + (2 : Int)))).bind fun t116 =>
      (ab_on h 9 v1 (f_X8_sharing v1 t115 t116 h)).bind fun q117 =>
      (ab_scl sN sX v0 (ab_w32 (v3 + (1 : Int)))).bind fun t118 =>
      (ab_scl sN sX v0 (ab_w32 (v3 + (2 : Int)))).bind fun t119 =>
      (ab_on q117.2 10 v2 (f_X9_sharing v2 t118 t119 q117.2)).bind fun q120 =>
      if q117.1 = q120.1 then
        f_L_law_J1702 sN sX (f_L_law_L18 sN sX n) v0 v1 v2 v3 q120.2
      else
      some ((0 : Int), q120.2)
    else
    if ab_and t2 (63 : Int) = (23 : Int) then
      (ab_scl sN sX v0 (ab_w32 (v3 + (1 : Int)))).bind fun t121 =>
      (ab_scl sN sX v0 (ab_w32 (v3 + (2 : Int)))).bind fun t122 =>
      (ab_on h 9 v1 (f_X8_alike v1 t121 t122 h)).bind fun q123 =>
      (ab_scl sN sX v0 (ab_w32 (v3 + (1 : Int)))).bind fun t124 =>
      (ab_scl sN sX v0 (ab_w32 (v3 + (2 : Int)))).bind fun t125 =>
      (ab_on q123.2 10 v2 (f_X9_alike v2 t124 t125 q123.2)).bind fun q126 =>
      if q123.1 = q126.1 then
        f_L_law_J1702 sN sX (f_L_law_L18 sN sX n) v0 v1 v2 v3 q126.2
      else
      some ((0 : Int), q126.2)
    else
    if ab_and t2 (63 : Int) = (24 : Int) then
      (ab_scl sN sX v0 (ab_w32 (v3 + (1 : Int)))).bind fun t127 =>
      (ab_scl sN sX v0 (ab_w32 (v3 + (2 : Int)))).bind fun t128 =>
      (ab_scl sN sX v0 (ab_w32 (v3 + (3 : Int)))).bind fun t129 =>
      (ab_on h 9 v1 (f_X8_common v1 t127 t128 t129 h)).bind fun q130 =>
      (ab_scl sN sX v0 (ab_w32 (v3 + (1 : Int)))).bind fun t131 =>
      (ab_scl sN sX v0 (ab_w32 (v3 + (2 : Int)))).bind fun t132 =>
      (ab_scl sN sX v0 (ab_w32 (v3 + (3 : Int)))).bind fun t133 =>
      (ab_on q130.2 10 v2 (f_X9_common v2 t131 t132 t133 q130.2)).bind fun q134 =>
      if q130.1 = q134.1 then
        f_L_law_J1702 sN sX (f_L_law_L18 sN sX n) v0 v1 v2 v3 q134.2
      else
      some ((0 : Int), q134.2)
    else
    if ab_and t2 (63 : Int) = (25 : Int) then
      (ab_scl sN sX v0 (ab_w32 (v3 + (1 : Int)))).bind fun t135 =>
      (ab_on h 9 v1 (f_X8_nearest v1 t135 h)).bind fun q136 =>
      (ab_scl sN sX v0 (ab_w32 (v3 + (1 : Int)))).bind fun t137 =>
      (ab_on q136.2 10 v2 (f_X9_nearest v2 t137 q136.2)).bind fun q138 =>
      if q136.1 = q138.1 then
        f_L_law_J1702 sN sX (f_L_law_L18 sN sX n) v0 v1 v2 v3 q138.2
      else
      some ((0 : Int), q138.2)
    else
    if ab_and t2 (63 : Int) = (26 : Int) then
      (ab_on h 9 v1 (f_X8_senses v1 h)).bind fun q139 =>
      (ab_on q139.2 10 v2 (f_X9_senses v2 q139.2)).bind fun q140 =>
      if q139.1 = q140.1 then
        f_L_law_J1702 sN sX (f_L_law_L18 sN sX n) v0 v1 v2 v3 q140.2
      else
      some ((0 : Int), q140.2)
    else
    if ab_and t2 (63 : Int) = (27 : Int) then
      (ab_scl sN sX v0 (ab_w32 (v3 + (1 : Int)))).bind fun t141 =>
      (ab_scl sN sX v0 (ab_w32 (v3 + (2 : Int)))).bind fun t142 =>
      (ab_scl sN sX v0 (ab_w32 (v3 + (3 : Int)))).bind fun t143 =>
      (ab_on h 9 v1 (f_X8_beside v1 t141 t142 t143 h)).bind fun q144 =>
      (ab_scl sN sX v0 (ab_w32 (v3 + (1 : Int)))).bind fun t145 =>
      (ab_scl sN sX v0 (ab_w32 (v3 + (2 : Int)))).bind fun t146 =>
      (ab_scl sN sX v0 (ab_w32 (v3 + (3 : Int)))).bind fun t147 =>
      (ab_on q144.2 10 v2 (f_X9_beside v2 t145 t146 t147 q144.2)).bind fun q148 =>
      if q144.1 = q148.1 then
        f_L_law_J1702 sN sX (f_L_law_L18 sN sX n) v0 v1 v2 v3 q148.2
      else
      some ((0 : Int), q148.2)
    else
    if ab_and t2 (63 : Int) = (28 : Int) then
      (ab_scl sN sX v0 (ab_w32 (v3 + (1 : Int)))).bind fun t149 =>
      (ab_on h 9 v1 (f_X8_often v1 t149 h)).bind fun q150 =>
      (ab_scl sN sX v0 (ab_w32 (v3 + (1 : Int)))).bind fun t151 =>
      (ab_on q150.2 10 v2 (f_X9_often v2 t151 q150.2)).bind fun q152 =>
      if q150.1 = q152.1 then
        f_L_law_J1702 sN sX (f_L_law_L18 sN sX n) v0 v1 v2 v3 q152.2
      else
      some ((0 : Int), q152.2)
    else
    if ab_and t2 (63 : Int) = (29 : Int) then
      (ab_scl sN sX v0 (ab_w32 (v3 + (1 : Int)))).bind fun t153 =>
      (ab_on h 9 v1 (f_X8_most v1 t153 h)).bind fun q154 =>
      (ab_scl sN sX v0 (ab_w32 (v3 + (1 : Int)))).bind fun t155 =>
      (ab_on q154.2 10 v2 (f_X9_most v2 t155 q154.2)).bind fun q156 =>
      if q154.1 = q156.1 then
        f_L_law_J1702 sN sX (f_L_law_L18 sN sX n) v0 v1 v2 v3 q156.2
      else
      some ((0 : Int), q156.2)
    else
    if ab_and t2 (63 : Int) = (30 : Int) then
      (ab_scl sN sX v0 (ab_w32 (v3 + (1 : Int)))).bind fun t157 =>
      (ab_on h 9 v1 (f_X8_apart v1 t157 h)).bind fun q158 =>
      (ab_scl sN sX v0 (ab_w32 (v3 + (1 : Int)))).bind fun t159 =>
      (ab_on q158.2 10 v2 (f_X9_apart v2 t159 q158.2)).bind fun q160 =>
      if q158.1 = q160.1 then
        f_L_law_J1702 sN sX (f_L_law_L18 sN sX n) v0 v1 v2 v3 q160.2
      else
      some ((0 : Int), q160.2)
    else
    if ab_and t2 (63 : Int) = (31 : Int) then
      (ab_on h 9 v1 (f_X8_cover v1 h)).bind fun q161 =>
      (ab_on q161.2 10 v2 (f_X9_cover v2 q161.2)).bind fun q162 =>
      if q161.1 = q162.1 then
        f_L_law_J1702 sN sX (f_L_law_L18 sN sX n) v0 v1 v2 v3 q162.2
      else
      some ((0 : Int), q162.2)
    else
    if ab_and t2 (63 : Int) = (32 : Int) then
      (ab_scl sN sX v0 (ab_w32 (v3 + (1 : Int)))).bind fun t163 =>
      (ab_scl sN sX v0 (ab_w32 (v3 + (2 : Int)))).bind fun t164 =>
      (ab_scl sN sX v0 (ab_w32 (v3 + (3 : Int)))).bind fun t165 =>
      (ab_on h 9 v1 (f_X8_would v1 t163 t164 t165 h)).bind fun q166 =>
      (ab_scl sN sX v0 (ab_w32 (v3 + (1 : Int)))).bind fun t167 =>
      (ab_scl sN sX v0 (ab_w32 (v3 + (2 : Int)))).bind fun t168 =>
      (ab_scl sN sX v0 (ab_w32 (v3 + (3 : Int)))).bind fun t169 =>
      (ab_on q166.2 10 v2 (f_X9_would v2 t167 t168 t169 q166.2)).bind fun q170 =>
      if q166.1 = q170.1 then
        f_L_law_J1702 sN sX (f_L_law_L18 sN sX n) v0 v1 v2 v3 q170.2
      else
      some ((0 : Int), q170.2)
    else
    if ab_and t2 (63 : Int) = (33 : Int) then
      (ab_on h 9 v1 (f_X8_adds v1 h)).bind fun q171 =>
      (ab_on q171.2 10 v2 (f_X9_adds v2 q171.2)).bind fun q172 =>
      if q171.1 = q172.1 then
        f_L_law_J1702 sN sX (f_L_law_L18 sN sX n) v0 v1 v2 v3 q172.2
      else
      some ((0 : Int), q172.2)
    else
    if ab_and t2 (63 : Int) = (34 : Int) then
      (ab_scl sN sX v0 (ab_w32 (v3 + (1 : Int)))).bind fun t173 =>
      (ab_on h 9 v1 (f_X8_drops v1 t173 h)).bind fun q174 =>
      (ab_scl sN sX v0 (ab_w32 (v3 + (1 : Int)))).bind fun t175 =>
      (ab_on q174.2 10 v2 (f_X9_drops v2 t175 q174.2)).bind fun q176 =>
      if q174.1 = q176.1 then
        f_L_law_J1702 sN sX (f_L_law_L18 sN sX n) v0 v1 v2 v3 q176.2
      else
      some ((0 : Int), q176.2)
    else
    if ab_and t2 (63 : Int) = (35 : Int) then
      (ab_scl sN sX v0 (ab_w32 (v3 + (1 : Int)))).bind fun t177 =>
      (ab_scl sN sX v0 (ab_w32 (v3 + (2 : Int)))).bind fun t178 =>
      (ab_on h 9 v1 (f_X8_law v1 t177 t178 h)).bind fun q179 =>
      (ab_scl sN sX v0 (ab_w32 (v3 + (1 : Int)))).bind fun t180 =>
      (ab_scl sN sX v0 (ab_w32 (v3 + (2 : Int)))).bind fun t181 =>
      (ab_on q179.2 10 v2 (f_X9_law v2 t180 t181 q179.2)).bind fun q182 =>
      if q179.1 = q182.1 then
        f_L_law_J1702 sN sX (f_L_law_L18 sN sX n) v0 v1 v2 v3 q182.2
      else
      some ((0 : Int), q182.2)
    else
    if ab_and t2 (63 : Int) = (36 : Int) then
      (ab_scl sN sX v0 (ab_w32 (v3 + (1 : Int)))).bind fun t183 =>
      (ab_scl sN sX v0 (ab_w32 (v3 + (2 : Int)))).bind fun t184 =>
      (ab_scl sN sX v0 (ab_w32 (v3 + (3 : Int)))).bind fun t185 =>
      (ab_on h 9 v1 (f_X8_lead v1 t183 t184 t185 h)).bind fun q186 =>
      (ab_scl sN sX v0 (ab_w32 (v3 + (1 : Int)))).bind fun t187 =>
      (ab_scl sN sX v0 (ab_w32 (v3 + (2 : Int)))).bind fun t188 =>
      (ab_scl sN sX v0 (ab_w32 (v3 + (3 : Int)))).bind fun t189 =>
      (ab_on q186.2 10 v2 (f_X9_lead v2 t187 t188 t189 q186.2)).bind fun q190 =>
      if q186.1 = q190.1 then
        f_L_law_J1702 sN sX (f_L_law_L18 sN sX n) v0 v1 v2 v3 q190.2
      else
      some ((0 : Int), q190.2)
    else
    if ab_and t2 (63 : Int) = (37 : Int) then
      (ab_scl sN sX v0 (ab_w32 (v3 + (1 : Int)))).bind fun t191 =>
      (ab_scl sN sX v0 (ab_w32 (v3 + (2 : Int)))).bind fun t192 =>
      (ab_scl sN sX v0 (ab_w32 (v3 + (3 : Int)))).bind fun t193 =>
      (ab_on h 9 v1 (f_X8_swaps v1 t191 t192 t193 h)).bind fun q194 =>
      (ab_scl sN sX v0 (ab_w32 (v3 + (1 : Int)))).bind fun t195 =>
      (ab_scl sN sX v0 (ab_w32 (v3 + (2 : Int)))).bind fun t196 =>
      (ab_scl sN sX v0 (ab_w32 (v3 + (3 : Int)))).bind fun t197 =>
      (ab_on q194.2 10 v2 (f_X9_swaps v2 t195 t196 t197 q194.2)).bind fun q198 =>
      if q194.1 = q198.1 then
        f_L_law_J1702 sN sX (f_L_law_L18 sN sX n) v0 v1 v2 v3 q198.2
      else
      some ((0 : Int), q198.2)
    else
    if ab_and t2 (63 : Int) = (38 : Int) then
      (ab_scl sN sX v0 (ab_w32 (v3 + (1 : Int)))).bind fun t199 =>
      (ab_scl sN sX v0 (ab_w32 (v3 + (2 : Int)))).bind fun t200 =>
      (ab_on h 9 v1 (f_X8_see v1 t199 t200 h)).bind fun q201 =>
      (ab_scl sN sX v0 (ab_w32 (v3 + (1 : Int)))).bind fun t202 =>
      (ab_scl sN sX v0 (ab_w32 (v3 + (2 : Int)))).bind fun t203 =>
      (ab_on q201.2 10 v2 (f_X9_see v2 t202 t203 q201.2)).bind fun q204 =>
      if q201.1 = q204.1 then
        f_L_law_J1702 sN sX (f_L_law_L18 sN sX n) v0 v1 v2 v3 q204.2
      else
      some ((0 : Int), q204.2)
    else
    if ab_and t2 (63 : Int) = (39 : Int) then
      (ab_scl sN sX v0 (ab_w32 (v3 + (1 : Int)))).bind fun t205 =>
      (ab_on h 9 v1 (f_X8_forget v1 t205 h)).bind fun q206 =>
      (ab_scl sN sX v0 (ab_w32 (v3 + (1 : Int)))).bind fun t207 =>
      (ab_on q206.2 10 v2 (f_X9_forget v2 t207 q206.2)).bind fun q208 =>
      if q206.1 = q208.1 then
        f_L_law_J1702 sN sX (f_L_law_L18 sN sX n) v0 v1 v2 v3 q208.2
      else
      some ((0 : Int), q208.2)
    else
    if ab_and t2 (63 : Int) = (40 : Int) then
      (ab_scl sN sX v0 (ab_w32 (v3 + (1 : Int)))).bind fun t209 =>
      (ab_scl sN sX v0 (ab_w32 (v3 + (2 : Int)))).bind fun t210 =>
      (ab_on h 9 v1 (f_X8_moves v1 t209 t210 h)).bind fun q211 =>
      (ab_scl sN sX v0 (ab_w32 (v3 + (1 : Int)))).bind fun t212 =>
      (ab_scl sN sX v0 (ab_w32 (v3 + (2 : Int)))).bind fun t213 =>
      (ab_on q211.2 10 v2 (f_X9_moves v2 t212 t213 q211.2)).bind fun q214 =>
      if q211.1 = q214.1 then
        f_L_law_J1702 sN sX (f_L_law_L18 sN sX n) v0 v1 v2 v3 q214.2
      else
      some ((0 : Int), q214.2)
    else
    if ab_and t2 (63 : Int) = (41 : Int) then
      (ab_on h 9 v1 (f_X8_undo v1 h)).bind fun q215 =>
      (ab_on q215.2 10 v2 (f_X9_undo v2 q215.2)).bind fun q216 =>
      if q215.1 = q216.1 then
        f_L_law_J1702 sN sX (f_L_law_L18 sN sX n) v0 v1 v2 v3 q216.2
      else
      some ((0 : Int), q216.2)
    else
    if ab_and t2 (63 : Int) = (42 : Int) then
      (ab_scl sN sX v0 (ab_w32 (v3 + (1 : Int)))).bind fun t217 =>
      (ab_scl sN sX v0 (ab_w32 (v3 + (2 : Int)))).bind fun t218 =>
      (ab_on h 9 v1 (f_X8_gather v1 t217 t218 h)).bind fun q219 =>
      (ab_scl sN sX v0 (ab_w32 (v3 + (1 : Int)))).bind fun t220 =>
      (ab_scl sN sX v0 (ab_w32 (v3 + (2 : Int)))).bind fun t221 =>
      (ab_on q219.2 10 v2 (f_X9_gather v2 t220 t221 q219.2)).bind fun q222 =>
      if q219.1 = q222.1 then
        f_L_law_J1702 sN sX (f_L_law_L18 sN sX n) v0 v1 v2 v3 q222.2
      else
      some ((0 : Int), q222.2)
    else
    if ab_and t2 (63 : Int) = (43 : Int) then
      (ab_scl sN sX v0 (ab_w32 (v3 + (1 : Int)))).bind fun t223 =>
      (ab_on h 9 v1 (f_X8_lost v1 t223 h)).bind fun q224 =>
      (ab_scl sN sX v0 (ab_w32 (v3 + (1 : Int)))).bind fun t225 =>
      (ab_on q224.2 10 v2 (f_X9_lost v2 t225 q224.2)).bind fun q226 =>
      if q224.1 = q226.1 then
        f_L_law_J1702 sN sX (f_L_law_L18 sN sX n) v0 v1 v2 v3 q226.2
      else
      some ((0 : Int), q226.2)
    else
    if ab_and t2 (63 : Int) = (44 : Int) then
      (ab_scl sN sX v0 (ab_w32 (v3 + (1 : Int)))).bind fun t227 =>
      (ab_scl sN sX v0 (ab_w32 (v3 + (2 : Int)))).bind fun t228 =>
      (ab_on h 9 v1 (f_X8_chain v1 t227 t228 h)).bind fun q229 =>
      (ab_scl sN sX v0 (ab_w32 (v3 + (1 : Int)))).bind fun t230 =>
      (ab_scl sN sX v0 (ab_w32 (v3 + (2 : Int)))).bind fun t231 =>
      (ab_on q229.2 10 v2 (f_X9_chain v2 t230 t231 q229.2)).bind fun q232 =>
      if q229.1 = q232.1 then
        f_L_law_J1702 sN sX (f_L_law_L18 sN sX n) v0 v1 v2 v3 q232.2
      else
      some ((0 : Int), q232.2)
    else
    if ab_and t2 (63 : Int) = (45 : Int) then
      (ab_on h 9 v1 (f_X8_groups v1 h)).bind fun q233 =>
      (ab_on q233.2 10 v2 (f_X9_groups v2 q233.2)).bind fun q234 =>
      if q233.1 = q234.1 then
        f_L_law_J1702 sN sX (f_L_law_L18 sN sX n) v0 v1 v2 v3 q234.2
      else
      some ((0 : Int), q234.2)
    else
    if ab_and t2 (63 : Int) = (46 : Int) then
      (ab_on h 9 v1 (f_X8_longest v1 h)).bind fun q235 =>
      (ab_on q235.2 10 v2 (f_X9_longest v2 q235.2)).bind fun q236 =>
      if q235.1 = q236.1 then
        f_L_law_J1702 sN sX (f_L_law_L18 sN sX n) v0 v1 v2 v3 q236.2
      else
      some ((0 : Int), q236.2)
    else
    if ab_and t2 (63 : Int) = (47 : Int) then
      (ab_scl sN sX v0 (ab_w32 (v3 + (1 : Int)))).bind fun t237 =>
      (ab_scl sN sX v0 (ab_w32 (v3 + (2 : Int)))).bind fun t238 =>
      (ab_on h 9 v1 (f_X8_shown v1 t237 t238 h)).bind fun q239 =>
      (ab_scl sN sX v0 (ab_w32 (v3 + (1 : Int)))).bind fun t240 =>
      (ab_scl sN sX v0 (ab_w32 (v3 + (2 : Int)))).bind fun t241 =>
      (ab_on q239.2 10 v2 (f_X9_shown v2 t240 t241 q239.2)).bind fun q242 =>
      if q239.1 = q242.1 then
        f_L_law_J1702 sN sX (f_L_law_L18 sN sX n) v0 v1 v2 v3 q242.2
      else
      some ((0 : Int), q242.2)
    else
    if ab_and t2 (63 : Int) = (48 : Int) then
      (ab_scl sN sX v0 (ab_w32 (v3 + (1 : Int)))).bind fun t243 =>
      (ab_on h 9 v1 (f_X8_twins v1 t243 h)).bind fun q244 =>
      (ab_scl sN sX v0 (ab_w32 (v3 + (1 : Int)))).bind fun t245 =>
      (ab_on q244.2 10 v2 (f_X9_twins v2 t245 q244.2)).bind fun q246 =>
      if q244.1 = q246.1 then
        f_L_law_J1702 sN sX (f_L_law_L18 sN sX n) v0 v1 v2 v3 q246.2
      else
      some ((0 : Int), q246.2)
    else
    if ab_and t2 (63 : Int) = (49 : Int) then
      (ab_scl sN sX v0 (ab_w32 (v3 + (1 : Int)))).bind fun t247 =>
      (ab_on h 9 v1 (f_X8_rarest v1 t247 h)).bind fun q248 =>
      (ab_scl sN sX v0 (ab_w32 (v3 + (1 : Int)))).bind fun t249 =>
      (ab_on q248.2 10 v2 (f_X9_rarest v2 t249 q248.2)).bind fun q250 =>
      if q248.1 = q250.1 then
        f_L_law_J1702 sN sX (f_L_law_L18 sN sX n) v0 v1 v2 v3 q250.2
      else
      some ((0 : Int), q250.2)
    else
    if ab_and t2 (63 : Int) = (50 : Int) then
      (ab_scl sN sX v0 (ab_w32 (v3 + (1 : Int)))).bind fun t251 =>
      (ab_scl sN sX v0 (ab_w32 (v3 + (2 : Int)))).bind fun t252 =>
      (ab_on h 9 v1 (f_X8_crossed v1 t251 t252 h)).bind fun q253 =>
      (ab_scl sN sX v0 (ab_w32 (v3 + (1 : Int)))).bind fun t254 =>
      (ab_scl sN sX v0 (ab_w32 (v3 + (2 : Int)))).bind fun t255 =>
      (ab_on q253.2 10 v2 (f_X9_crossed v2 t254 t255 q253.2)).bind fun q256 =>
      if q253.1 = q256.1 then
        f_L_law_J1702 sN sX (f_L_law_L18 sN sX n) v0 v1 v2 v3 q256.2
      else
      some ((0 : Int), q256.2)
    else
    if ab_and t2 (63 : Int) = (51 : Int) then
      (ab_scl sN sX v0 (ab_w32 (v3 + (1 : Int)))).bind fun t257 =>
      (ab_on h 9 v1 (f_X8_shared v1 t257 h)).bind fun q258 =>
      (ab_scl sN sX v0 (ab_w32 (v3 + (1 : Int)))).bind fun t259 =>
      (ab_on q258.2 10 v2 (f_X9_shared v2 t259 q258.2)).bind fun q260 =>
      if q258.1 = q260.1 then
        f_L_law_J1702 sN sX (f_L_law_L18 sN sX n) v0 v1 v2 v3 q260.2
      else
      some ((0 : Int), q260.2)
    else
    f_L_law_J1702 sN sX (f_L_law_L18 sN sX n) v0 v1 v2 v3 h
set_option maxRecDepth 20000 in
theorem e_L_law_L18 {sN : Nat} {sX : Nat → Int} : ∀ (n : Nat) (v0 : Int) (v1 : Int) (v2 : Int) (v3 : Int) (h : ab_H) (q : Int × ab_H), f_L_law_L18 sN sX n v0 v1 v2 v3 h = some q → ab_E (mm_L_law sN sX) cL_law 18 [some (ab_R v0), some (ab_R v1), some (ab_R v2), some (ab_I v3)] [] h (some (ab_I q.1)) q.2 := by
  intro n
  induction n with
  | zero => intro v0 v1 v2 v3 h q hk; cases hk
  | succ n ih =>
    intro v0 v1 v2 v3 h q hk
    unfold f_L_law_L18 at hk
    refine ab_iload_n (pc := 18) (i := 3) dL_law_18 rfl rfl ?_
    refine ab_aload_n (pc := 19) (i := 0) dL_law_19 rfl rfl ?_
    obtain ⟨t1, ht1, hk⟩ := ab_bnd hk
    refine ab_scn_ (pc := 20) dL_law_20 rfl ht1 ?_
    refine ab_bipush (pc := 21) dL_law_21 ab_p8_6 ab_k_6 ?_
    refine ab_isub (pc := 23) dL_law_23 ?_
    refine ab_icmp_gt (pc := 24) (tgt := 1708) dL_law_24 rfl (fun hc => ?_) (fun hc => ?_)
    · have hk := ab_ifp hk hc
      refine ab_iconst (pc := 1708) dL_law_1708 ab_k_1 ?_
      obtain rfl := Option.some.inj hk
      exact ab_retz (pc := 1709) dL_law_1709 rfl rfl
    · have hk := ab_ifn hk hc
      refine ab_aload_n (pc := 27) (i := 0) dL_law_27 rfl rfl ?_
      refine ab_iload_n (pc := 28) (i := 3) dL_law_28 rfl rfl ?_
      obtain ⟨t2, ht2, hk⟩ := ab_bnd hk
      refine ab_scl_ (pc := 29) dL_law_29 rfl ht2 ?_
      refine ab_bipush (pc := 30) dL_law_30 ab_p8_63 ab_k_63 ?_
      refine ab_iand (pc := 32) dL_law_32 ?_
      by_cases hc : ab_and t2 (63 : Int) = (0 : Int)
      · have hk := ab_ifp hk hc
        refine ab_tswIn (pc := 33) (v := (0 : Int)) (off := 223) (tgt := 256) dL_law_33 hc ⟨by decide, by decide⟩ rfl rfl ?_
        refine ab_aload_n (pc := 256) (i := 1) dL_law_256 rfl rfl ?_
        refine ab_aload_n (pc := 257) (i := 0) dL_law_257 rfl rfl ?_
        refine ab_iload_n (pc := 258) (i := 3) dL_law_258 rfl rfl ?_
        refine ab_iconst (pc := 259) dL_law_259 ab_k_1 ?_
        refine ab_iadd (pc := 260) dL_law_260 ?_
        obtain ⟨t3, ht3, hk⟩ := ab_bnd hk
        refine ab_scl_ (pc := 261) dL_law_261 rfl ht3 ?_
        refine ab_aload_n (pc := 262) (i := 0) dL_law_262 rfl rfl ?_
        refine ab_iload_n (pc := 263) (i := 3) dL_law_263 rfl rfl ?_
        refine ab_iconst (pc := 264) dL_law_264 ab_k_2 ?_
        refine ab_iadd (pc := 265) dL_law_265 ?_
        obtain ⟨t4, ht4, hk⟩ := ab_bnd hk
        refine ab_scl_ (pc := 266) dL_law_266 rfl ht4 ?_
        refine ab_aload_n (pc := 267) (i := 0) dL_law_267 rfl rfl ?_
        refine ab_iload_n (pc := 268) (i := 3) dL_law_268 rfl rfl ?_
        refine ab_iconst (pc := 269) dL_law_269 ab_k_3 ?_
        refine ab_iadd (pc := 270) dL_law_270 ?_
        obtain ⟨t5, ht5, hk⟩ := ab_bnd hk
        refine ab_scl_ (pc := 271) dL_law_271 rfl ht5 ?_
        refine ab_aload_n (pc := 272) (i := 0) dL_law_272 rfl rfl ?_
        refine ab_iload_n (pc := 273) (i := 3) dL_law_273 rfl rfl ?_
        refine ab_iconst (pc := 274) dL_law_274 ab_k_4 ?_
        refine ab_iadd (pc := 275) dL_law_275 ?_
        obtain ⟨t6, ht6, hk⟩ := ab_bnd hk
        refine ab_scl_ (pc := 276) dL_law_276 rfl ht6 ?_
        refine ab_aload_n (pc := 277) (i := 0) dL_law_277 rfl rfl ?_
        refine ab_iload_n (pc := 278) (i := 3) dL_law_278 rfl rfl ?_
        refine ab_iconst (pc := 279) dL_law_279 ab_k_5 ?_
        refine ab_iadd (pc := 280) dL_law_280 ?_
        obtain ⟨t7, ht7, hk⟩ := ab_bnd hk
        refine ab_scl_ (pc := 281) dL_law_281 rfl ht7 ?_
        obtain ⟨q8, hq8, hk⟩ := ab_bnd hk
        obtain ⟨hb, hq8⟩ := ab_on_some hq8
        refine ab_callVI (st := []) (as := [ab_I t3, ab_I t4, ab_I t5, ab_I t6, ab_I t7]) (b := v1) (pc := 282) dL_law_282 ml_RL_13 my_X8_feed mv_X8_feed hb (ct_X8_feed hq8) ⟨Nat.le_of_ble_eq_true rfl, Nat.le_of_ble_eq_true rfl⟩ rfl (Nat.le_of_ble_eq_true rfl) rfl ?_
        refine ab_aload_n (pc := 285) (i := 2) dL_law_285 rfl rfl ?_
        refine ab_aload_n (pc := 286) (i := 0) dL_law_286 rfl rfl ?_
        refine ab_iload_n (pc := 287) (i := 3) dL_law_287 rfl rfl ?_
        refine ab_iconst (pc := 288) dL_law_288 ab_k_1 ?_
        refine ab_iadd (pc := 289) dL_law_289 ?_
        obtain ⟨t9, ht9, hk⟩ := ab_bnd hk
        refine ab_scl_ (pc := 290) dL_law_290 rfl ht9 ?_
        refine ab_aload_n (pc := 291) (i := 0) dL_law_291 rfl rfl ?_
        refine ab_iload_n (pc := 292) (i := 3) dL_law_292 rfl rfl ?_
        refine ab_iconst (pc := 293) dL_law_293 ab_k_2 ?_
        refine ab_iadd (pc := 294) dL_law_294 ?_
        obtain ⟨t10, ht10, hk⟩ := ab_bnd hk
        refine ab_scl_ (pc := 295) dL_law_295 rfl ht10 ?_
        refine ab_aload_n (pc := 296) (i := 0) dL_law_296 rfl rfl ?_
        refine ab_iload_n (pc := 297) (i := 3) dL_law_297 rfl rfl ?_
        refine ab_iconst (pc := 298) dL_law_298 ab_k_3 ?_
        refine ab_iadd (pc := 299) dL_law_299 ?_
        obtain ⟨t11, ht11, hk⟩ := ab_bnd hk
        refine ab_scl_ (pc := 300) dL_law_300 rfl ht11 ?_
        refine ab_aload_n (pc := 301) (i := 0) dL_law_301 rfl rfl ?_
        refine ab_iload_n (pc := 302) (i := 3) dL_law_302 rfl rfl ?_
        refine ab_iconst (pc := 303) dL_law_303 ab_k_4 ?_
        refine ab_iadd (pc := 304) dL_law_304 ?_
        obtain ⟨t12, ht12, hk⟩ := ab_bnd hk
        refine ab_scl_ (pc := 305) dL_law_305 rfl ht12 ?_
        refine ab_aload_n (pc := 306) (i := 0) dL_law_306 rfl rfl ?_
        refine ab_iload_n (pc := 307) (i := 3) dL_law_307 rfl rfl ?_
        refine ab_iconst (pc := 308) dL_law_308 ab_k_5 ?_
        refine ab_iadd (pc := 309) dL_law_309 ?_
        obtain ⟨t13, ht13, hk⟩ := ab_bnd hk
        refine ab_scl_ (pc := 310) dL_law_310 rfl ht13 ?_
        obtain ⟨q14, hq14, hk⟩ := ab_bnd hk
        obtain ⟨hb, hq14⟩ := ab_on_some hq14
        refine ab_callVI (st := [ab_I q8.1]) (as := [ab_I t9, ab_I t10, ab_I t11, ab_I t12, ab_I t13]) (b := v2) (pc := 311) dL_law_311 ml_RL_17 my_X9_feed mv_X9_feed hb (ct_X9_feed hq14) ⟨Nat.le_of_ble_eq_true rfl, Nat.le_of_ble_eq_true rfl⟩ rfl (Nat.le_of_ble_eq_true rfl) rfl ?_
        refine ab_icmp_eq (pc := 314) (tgt := 1702) dL_law_314 rfl (fun hc => ?_) (fun hc => ?_)
        · have hk := ab_ifp hk hc
          refine ab_sub_ (lv2 := [some (ab_R v0), some (ab_R v1), some (ab_R v2), some (ab_I v3)]) (ab_ss (ab_ss (ab_ss (ab_ss ab_s0)))) ?_
          exact e_L_law_J1702 ih _ _ _ _ _ _ hk
        · have hk := ab_ifn hk hc
          refine ab_iconst (pc := 317) dL_law_317 ab_k_0 ?_
          obtain rfl := Option.some.inj hk
          exact ab_retz (pc := 318) dL_law_318 rfl rfl
      have hk := ab_ifn hk hc
      have hz0 := hc
      clear hc
      by_cases hc : ab_and t2 (63 : Int) = (1 : Int)
      · have hk := ab_ifp hk hc
        refine ab_tswIn (pc := 33) (v := (1 : Int)) (off := 286) (tgt := 319) dL_law_33 hc ⟨by decide, by decide⟩ rfl rfl ?_
        refine ab_aload_n (pc := 319) (i := 1) dL_law_319 rfl rfl ?_
        refine ab_aload_n (pc := 320) (i := 0) dL_law_320 rfl rfl ?_
        refine ab_iload_n (pc := 321) (i := 3) dL_law_321 rfl rfl ?_
        refine ab_iconst (pc := 322) dL_law_322 ab_k_1 ?_
        refine ab_iadd (pc := 323) dL_law_323 ?_
        obtain ⟨t15, ht15, hk⟩ := ab_bnd hk
        refine ab_scl_ (pc := 324) dL_law_324 rfl ht15 ?_
        obtain ⟨q16, hq16, hk⟩ := ab_bnd hk
        obtain ⟨hb, hq16⟩ := ab_on_some hq16
        refine ab_callVI (st := []) (as := [ab_I t15]) (b := v1) (pc := 325) dL_law_325 ml_RL_18 my_X8_end mv_X8_end hb (ct_X8_end hq16) ⟨Nat.le_of_ble_eq_true rfl, Nat.le_of_ble_eq_true rfl⟩ rfl (Nat.le_of_ble_eq_true rfl) rfl ?_
        refine ab_aload_n (pc := 328) (i := 2) dL_law_328 rfl rfl ?_
        refine ab_aload_n (pc := 329) (i := 0) dL_law_329 rfl rfl ?_
        refine ab_iload_n (pc := 330) (i := 3) dL_law_330 rfl rfl ?_
        refine ab_iconst (pc := 331) dL_law_331 ab_k_1 ?_
        refine ab_iadd (pc := 332) dL_law_332 ?_
        obtain ⟨t17, ht17, hk⟩ := ab_bnd hk
        refine ab_scl_ (pc := 333) dL_law_333 rfl ht17 ?_
        obtain ⟨q18, hq18, hk⟩ := ab_bnd hk
        obtain ⟨hb, hq18⟩ := ab_on_some hq18
        refine ab_callVI (st := [ab_I q16.1]) (as := [ab_I t17]) (b := v2) (pc := 334) dL_law_334 ml_RL_22 my_X9_end mv_X9_end hb (ct_X9_end hq18) ⟨Nat.le_of_ble_eq_true rfl, Nat.le_of_ble_eq_true rfl⟩ rfl (Nat.le_of_ble_eq_true rfl) rfl ?_
        refine ab_icmp_eq (pc := 337) (tgt := 1702) dL_law_337 rfl (fun hc => ?_) (fun hc => ?_)
        · have hk := ab_ifp hk hc
          refine ab_sub_ (lv2 := [some (ab_R v0), some (ab_R v1), some (ab_R v2), some (ab_I v3)]) (ab_ss (ab_ss (ab_ss (ab_ss ab_s0)))) ?_
          exact e_L_law_J1702 ih _ _ _ _ _ _ hk
        · have hk := ab_ifn hk hc
          refine ab_iconst (pc := 340) dL_law_340 ab_k_0 ?_
          obtain rfl := Option.some.inj hk
          exact ab_retz (pc := 341) dL_law_341 rfl rfl
      have hk := ab_ifn hk hc
      have hz1 := hc
      clear hc
      by_cases hc : ab_and t2 (63 : Int) = (2 : Int)
      · have hk := ab_ifp hk hc
        refine ab_tswIn (pc := 33) (v := (2 : Int)) (off := 309) (tgt := 342) dL_law_33 hc ⟨by decide, by decide⟩ rfl rfl ?_
        refine ab_aload_n (pc := 342) (i := 1) dL_law_342 rfl rfl ?_
        obtain ⟨q19, hq19, hk⟩ := ab_bnd hk
        obtain ⟨hb, hq19⟩ := ab_on_some hq19
        refine ab_callVI (st := []) (as := []) (b := v1) (pc := 343) dL_law_343 ml_RL_23 my_X8_text mv_X8_text hb (ct_X8_text hq19) ⟨Nat.le_of_ble_eq_true rfl, Nat.le_of_ble_eq_true rfl⟩ rfl (Nat.le_of_ble_eq_true rfl) rfl ?_
        refine ab_aload_n (pc := 346) (i := 2) dL_law_346 rfl rfl ?_
        obtain ⟨q20, hq20, hk⟩ := ab_bnd hk
        obtain ⟨hb, hq20⟩ := ab_on_some hq20
        refine ab_callVI (st := [ab_I q19.1]) (as := []) (b := v2) (pc := 347) dL_law_347 ml_RL_27 my_X9_text mv_X9_text hb (ct_X9_text hq20) ⟨Nat.le_of_ble_eq_true rfl, Nat.le_of_ble_eq_true rfl⟩ rfl (Nat.le_of_ble_eq_true rfl) rfl ?_
        refine ab_icmp_eq (pc := 350) (tgt := 1702) dL_law_350 rfl (fun hc => ?_) (fun hc => ?_)
        · have hk := ab_ifp hk hc
          refine ab_sub_ (lv2 := [some (ab_R v0), some (ab_R v1), some (ab_R v2), some (ab_I v3)]) (ab_ss (ab_ss (ab_ss (ab_ss ab_s0)))) ?_
          exact e_L_law_J1702 ih _ _ _ _ _ _ hk
        · have hk := ab_ifn hk hc
          refine ab_iconst (pc := 353) dL_law_353 ab_k_0 ?_
          obtain rfl := Option.some.inj hk
          exact ab_retz (pc := 354) dL_law_354 rfl rfl
      have hk := ab_ifn hk hc
      have hz2 := hc
      clear hc
      by_cases hc : ab_and t2 (63 : Int) = (3 : Int)
      · have hk := ab_ifp hk hc
        refine ab_tswIn (pc := 33) (v := (3 : Int)) (off := 322) (tgt := 355) dL_law_33 hc ⟨by decide, by decide⟩ rfl rfl ?_
        refine ab_aload_n (pc := 355) (i := 1) dL_law_355 rfl rfl ?_
        refine ab_aload_n (pc := 356) (i := 0) dL_law_356 rfl rfl ?_
        refine ab_iload_n (pc := 357) (i := 3) dL_law_357 rfl rfl ?_
        refine ab_iconst (pc := 358) dL_law_358 ab_k_1 ?_
        refine ab_iadd (pc := 359) dL_law_359 ?_
        obtain ⟨t21, ht21, hk⟩ := ab_bnd hk
        refine ab_scl_ (pc := 360) dL_law_360 rfl ht21 ?_
        obtain ⟨q22, hq22, hk⟩ := ab_bnd hk
        obtain ⟨hb, hq22⟩ := ab_on_some hq22
        refine ab_callVI (st := []) (as := [ab_I t21]) (b := v1) (pc := 361) dL_law_361 ml_RL_28 my_X8_fault mv_X8_fault hb (ct_X8_fault hq22) ⟨Nat.le_of_ble_eq_true rfl, Nat.le_of_ble_eq_true rfl⟩ rfl (Nat.le_of_ble_eq_true rfl) rfl ?_
        refine ab_aload_n (pc := 364) (i := 2) dL_law_364 rfl rfl ?_
        refine ab_aload_n (pc := 365) (i := 0) dL_law_365 rfl rfl ?_
        refine ab_iload_n (pc := 366) (i := 3) dL_law_366 rfl rfl ?_
        refine ab_iconst (pc := 367) dL_law_367 ab_k_1 ?_
        refine ab_iadd (pc := 368) dL_law_368 ?_
        obtain ⟨t23, ht23, hk⟩ := ab_bnd hk
        refine ab_scl_ (pc := 369) dL_law_369 rfl ht23 ?_
        obtain ⟨q24, hq24, hk⟩ := ab_bnd hk
        obtain ⟨hb, hq24⟩ := ab_on_some hq24
        refine ab_callVI (st := [ab_I q22.1]) (as := [ab_I t23]) (b := v2) (pc := 370) dL_law_370 ml_RL_31 my_X9_fault mv_X9_fault hb (ct_X9_fault hq24) ⟨Nat.le_of_ble_eq_true rfl, Nat.le_of_ble_eq_true rfl⟩ rfl (Nat.le_of_ble_eq_true rfl) rfl ?_
        refine ab_icmp_eq (pc := 373) (tgt := 1702) dL_law_373 rfl (fun hc => ?_) (fun hc => ?_)
        · have hk := ab_ifp hk hc
          refine ab_sub_ (lv2 := [some (ab_R v0), some (ab_R v1), some (ab_R v2), some (ab_I v3)]) (ab_ss (ab_ss (ab_ss (ab_ss ab_s0)))) ?_
          exact e_L_law_J1702 ih _ _ _ _ _ _ hk
        · have hk := ab_ifn hk hc
          refine ab_iconst (pc := 376) dL_law_376 ab_k_0 ?_
          obtain rfl := Option.some.inj hk
          exact ab_retz (pc := 377) dL_law_377 rfl rfl
      have hk := ab_ifn hk hc
      have hz3 := hc
      clear hc
      by_cases hc : ab_and t2 (63 : Int) = (4 : Int)
      · have hk := ab_ifp hk hc
        refine ab_tswIn (pc := 33) (v := (4 : Int)) (off := 345) (tgt := 378) dL_law_33 hc ⟨by decide, by decide⟩ rfl rfl ?_
        refine ab_aload_n (pc := 378) (i := 1) dL_law_378 rfl rfl ?_
        refine ab_aload_n (pc := 379) (i := 0) dL_law_379 rfl rfl ?_
        refine ab_iload_n (pc := 380) (i := 3) dL_law_380 rfl rfl ?_
        refine ab_iconst (pc := 381) dL_law_381 ab_k_1 ?_
        refine ab_iadd (pc := 382) dL_law_382 ?_
        obtain ⟨t25, ht25, hk⟩ := ab_bnd hk
        refine ab_scl_ (pc := 383) dL_law_383 rfl ht25 ?_
        obtain ⟨q26, hq26, hk⟩ := ab_bnd hk
        obtain ⟨hb, hq26⟩ := ab_on_some hq26
        refine ab_callVI (st := []) (as := [ab_I t25]) (b := v1) (pc := 384) dL_law_384 ml_RL_32 my_X8_count mv_X8_count hb (ct_X8_count hq26) ⟨Nat.le_of_ble_eq_true rfl, Nat.le_of_ble_eq_true rfl⟩ rfl (Nat.le_of_ble_eq_true rfl) rfl ?_
        refine ab_aload_n (pc := 387) (i := 2) dL_law_387 rfl rfl ?_
        refine ab_aload_n (pc := 388) (i := 0) dL_law_388 rfl rfl ?_
        refine ab_iload_n (pc := 389) (i := 3) dL_law_389 rfl rfl ?_
        refine ab_iconst (pc := 390) dL_law_390 ab_k_1 ?_
        refine ab_iadd (pc := 391) dL_law_391 ?_
        obtain ⟨t27, ht27, hk⟩ := ab_bnd hk
        refine ab_scl_ (pc := 392) dL_law_392 rfl ht27 ?_
        obtain ⟨q28, hq28, hk⟩ := ab_bnd hk
        obtain ⟨hb, hq28⟩ := ab_on_some hq28
        refine ab_callVI (st := [ab_I q26.1]) (as := [ab_I t27]) (b := v2) (pc := 393) dL_law_393 ml_RL_35 my_X9_count mv_X9_count hb (ct_X9_count hq28) ⟨Nat.le_of_ble_eq_true rfl, Nat.le_of_ble_eq_true rfl⟩ rfl (Nat.le_of_ble_eq_true rfl) rfl ?_
        refine ab_icmp_eq (pc := 396) (tgt := 1702) dL_law_396 rfl (fun hc => ?_) (fun hc => ?_)
        · have hk := ab_ifp hk hc
          refine ab_sub_ (lv2 := [some (ab_R v0), some (ab_R v1), some (ab_R v2), some (ab_I v3)]) (ab_ss (ab_ss (ab_ss (ab_ss ab_s0)))) ?_
          exact e_L_law_J1702 ih _ _ _ _ _ _ hk
        · have hk := ab_ifn hk hc
          refine ab_iconst (pc := 399) dL_law_399 ab_k_0 ?_
          obtain rfl := Option.some.inj hk
          exact ab_retz (pc := 400) dL_law_400 rfl rfl
      have hk := ab_ifn hk hc
      have hz4 := hc
      clear hc
      by_cases hc : ab_and t2 (63 : Int) = (5 : Int)
      · have hk := ab_ifp hk hc
        refine ab_tswIn (pc := 33) (v := (5 : Int)) (off := 368) (tgt := 401) dL_law_33 hc ⟨by decide, by decide⟩ rfl rfl ?_
        refine ab_aload_n (pc := 401) (i := 1) dL_law_401 rfl rfl ?_
        refine ab_aload_n (pc := 402) (i := 0) dL_law_402 rfl rfl ?_
        refine ab_iload_n (pc := 403) (i := 3) dL_law_403 rfl rfl ?_
        refine ab_iconst (pc := 404) dL_law_404 ab_k_1 ?_
        refine ab_iadd (pc := 405) dL_law_405 ?_
        obtain ⟨t29, ht29, hk⟩ := ab_bnd hk
        refine ab_scl_ (pc := 406) dL_law_406 rfl ht29 ?_
        refine ab_aload_n (pc := 407) (i := 0) dL_law_407 rfl rfl ?_
        refine ab_iload_n (pc := 408) (i := 3) dL_law_408 rfl rfl ?_
        refine ab_iconst (pc := 409) dL_law_409 ab_k_2 ?_
        refine ab_iadd (pc := 410) dL_law_410 ?_
        obtain ⟨t30, ht30, hk⟩ := ab_bnd hk
        refine ab_scl_ (pc := 411) dL_law_411 rfl ht30 ?_
        obtain ⟨q31, hq31, hk⟩ := ab_bnd hk
        obtain ⟨hb, hq31⟩ := ab_on_some hq31
        refine ab_callVI (st := []) (as := [ab_I t29, ab_I t30]) (b := v1) (pc := 412) dL_law_412 ml_RL_36 my_X8_string mv_X8_string hb (ct_X8_string hq31) ⟨Nat.le_of_ble_eq_true rfl, Nat.le_of_ble_eq_true rfl⟩ rfl (Nat.le_of_ble_eq_true rfl) rfl ?_
        refine ab_aload_n (pc := 415) (i := 2) dL_law_415 rfl rfl ?_
        refine ab_aload_n (pc := 416) (i := 0) dL_law_416 rfl rfl ?_
        refine ab_iload_n (pc := 417) (i := 3) dL_law_417 rfl rfl ?_
        refine ab_iconst (pc := 418) dL_law_418 ab_k_1 ?_
        refine ab_iadd (pc := 419) dL_law_419 ?_
        obtain ⟨t32, ht32, hk⟩ := ab_bnd hk
        refine ab_scl_ (pc := 420) dL_law_420 rfl ht32 ?_
        refine ab_aload_n (pc := 421) (i := 0) dL_law_421 rfl rfl ?_
        refine ab_iload_n (pc := 422) (i := 3) dL_law_422 rfl rfl ?_
        refine ab_iconst (pc := 423) dL_law_423 ab_k_2 ?_
        refine ab_iadd (pc := 424) dL_law_424 ?_
        obtain ⟨t33, ht33, hk⟩ := ab_bnd hk
        refine ab_scl_ (pc := 425) dL_law_425 rfl ht33 ?_
        obtain ⟨q34, hq34, hk⟩ := ab_bnd hk
        obtain ⟨hb, hq34⟩ := ab_on_some hq34
        refine ab_callVI (st := [ab_I q31.1]) (as := [ab_I t32, ab_I t33]) (b := v2) (pc := 426) dL_law_426 ml_RL_40 my_X9_string mv_X9_string hb (ct_X9_string hq34) ⟨Nat.le_of_ble_eq_true rfl, Nat.le_of_ble_eq_true rfl⟩ rfl (Nat.le_of_ble_eq_true rfl) rfl ?_
        refine ab_icmp_eq (pc := 429) (tgt := 1702) dL_law_429 rfl (fun hc => ?_) (fun hc => ?_)
        · have hk := ab_ifp hk hc
          refine ab_sub_ (lv2 := [some (ab_R v0), some (ab_R v1), some (ab_R v2), some (ab_I v3)]) (ab_ss (ab_ss (ab_ss (ab_ss ab_s0)))) ?_
          exact e_L_law_J1702 ih _ _ _ _ _ _ hk
        · have hk := ab_ifn hk hc
          refine ab_iconst (pc := 432) dL_law_432 ab_k_0 ?_
          obtain rfl := Option.some.inj hk
          exact ab_retz (pc := 433) dL_law_433 rfl rfl
      have hk := ab_ifn hk hc
      have hz5 := hc
      clear hc
      by_cases hc : ab_and t2 (63 : Int) = (6 : Int)
      · have hk := ab_ifp hk hc
        refine ab_tswIn (pc := 33) (v := (6 : Int)) (off := 401) (tgt := 434) dL_law_33 hc ⟨by decide, by decide⟩ rfl rfl ?_
        refine ab_aload_n (pc := 434) (i := 1) dL_law_434 rfl rfl ?_
        refine ab_aload_n (pc := 435) (i := 0) dL_law_435 rfl rfl ?_
        refine ab_iload_n (pc := 436) (i := 3) dL_law_436 rfl rfl ?_
        refine ab_iconst (pc := 437) dL_law_437 ab_k_1 ?_
        refine ab_iadd (pc := 438) dL_law_438 ?_
        obtain ⟨t35, ht35, hk⟩ := ab_bnd hk
        refine ab_scl_ (pc := 439) dL_law_439 rfl ht35 ?_
        refine ab_aload_n (pc := 440) (i := 0) dL_law_440 rfl rfl ?_
        refine ab_iload_n (pc := 441) (i := 3) dL_law_441 rfl rfl ?_
        refine ab_iconst (pc := 442) dL_law_442 ab_k_2 ?_
        refine ab_iadd (pc := 443) dL_law_443 ?_
        obtain ⟨t36, ht36, hk⟩ := ab_bnd hk
        refine ab_scl_ (pc := 444) dL_law_444 rfl ht36 ?_
        refine ab_aload_n (pc := 445) (i := 0) dL_law_445 rfl rfl ?_
        refine ab_iload_n (pc := 446) (i := 3) dL_law_446 rfl rfl ?_
        refine ab_iconst (pc := 447) dL_law_447 ab_k_3 ?_
        refine ab_iadd (pc := 448) dL_law_448 ?_
        obtain ⟨t37, ht37, hk⟩ := ab_bnd hk
        refine ab_scl_ (pc := 449) dL_law_449 rfl ht37 ?_
        obtain ⟨q38, hq38, hk⟩ := ab_bnd hk
        obtain ⟨hb, hq38⟩ := ab_on_some hq38
        refine ab_callVI (st := []) (as := [ab_I t35, ab_I t36, ab_I t37]) (b := v1) (pc := 450) dL_law_450 ml_RL_41 my_X8_term mv_X8_term hb (ct_X8_term hq38) ⟨Nat.le_of_ble_eq_true rfl, Nat.le_of_ble_eq_true rfl⟩ rfl (Nat.le_of_ble_eq_true rfl) rfl ?_
        refine ab_aload_n (pc := 453) (i := 2) dL_law_453 rfl rfl ?_
        refine ab_aload_n (pc := 454) (i := 0) dL_law_454 rfl rfl ?_
        refine ab_iload_n (pc := 455) (i := 3) dL_law_455 rfl rfl ?_
        refine ab_iconst (pc := 456) dL_law_456 ab_k_1 ?_
        refine ab_iadd (pc := 457) dL_law_457 ?_
        obtain ⟨t39, ht39, hk⟩ := ab_bnd hk
        refine ab_scl_ (pc := 458) dL_law_458 rfl ht39 ?_
        refine ab_aload_n (pc := 459) (i := 0) dL_law_459 rfl rfl ?_
        refine ab_iload_n (pc := 460) (i := 3) dL_law_460 rfl rfl ?_
        refine ab_iconst (pc := 461) dL_law_461 ab_k_2 ?_
        refine ab_iadd (pc := 462) dL_law_462 ?_
        obtain ⟨t40, ht40, hk⟩ := ab_bnd hk
        refine ab_scl_ (pc := 463) dL_law_463 rfl ht40 ?_
        refine ab_aload_n (pc := 464) (i := 0) dL_law_464 rfl rfl ?_
        refine ab_iload_n (pc := 465) (i := 3) dL_law_465 rfl rfl ?_
        refine ab_iconst (pc := 466) dL_law_466 ab_k_3 ?_
        refine ab_iadd (pc := 467) dL_law_467 ?_
        obtain ⟨t41, ht41, hk⟩ := ab_bnd hk
        refine ab_scl_ (pc := 468) dL_law_468 rfl ht41 ?_
        obtain ⟨q42, hq42, hk⟩ := ab_bnd hk
        obtain ⟨hb, hq42⟩ := ab_on_some hq42
        refine ab_callVI (st := [ab_I q38.1]) (as := [ab_I t39, ab_I t40, ab_I t41]) (b := v2) (pc := 469) dL_law_469 ml_RL_45 my_X9_term mv_X9_term hb (ct_X9_term hq42) ⟨Nat.le_of_ble_eq_true rfl, Nat.le_of_ble_eq_true rfl⟩ rfl (Nat.le_of_ble_eq_true rfl) rfl ?_
        refine ab_icmp_eq (pc := 472) (tgt := 1702) dL_law_472 rfl (fun hc => ?_) (fun hc => ?_)
        · have hk := ab_ifp hk hc
          refine ab_sub_ (lv2 := [some (ab_R v0), some (ab_R v1), some (ab_R v2), some (ab_I v3)]) (ab_ss (ab_ss (ab_ss (ab_ss ab_s0)))) ?_
          exact e_L_law_J1702 ih _ _ _ _ _ _ hk
        · have hk := ab_ifn hk hc
          refine ab_iconst (pc := 475) dL_law_475 ab_k_0 ?_
          obtain rfl := Option.some.inj hk
          exact ab_retz (pc := 476) dL_law_476 rfl rfl
      have hk := ab_ifn hk hc
      have hz6 := hc
      clear hc
      by_cases hc : ab_and t2 (63 : Int) = (7 : Int)
      · have hk := ab_ifp hk hc
        refine ab_tswIn (pc := 33) (v := (7 : Int)) (off := 444) (tgt := 477) dL_law_33 hc ⟨by decide, by decide⟩ rfl rfl ?_
        refine ab_aload_n (pc := 477) (i := 1) dL_law_477 rfl rfl ?_
        refine ab_aload_n (pc := 478) (i := 0) dL_law_478 rfl rfl ?_
        refine ab_iload_n (pc := 479) (i := 3) dL_law_479 rfl rfl ?_
        refine ab_iconst (pc := 480) dL_law_480 ab_k_1 ?_
        refine ab_iadd (pc := 481) dL_law_481 ?_
        obtain ⟨t43, ht43, hk⟩ := ab_bnd hk
        refine ab_scl_ (pc := 482) dL_law_482 rfl ht43 ?_
        refine ab_aload_n (pc := 483) (i := 0) dL_law_483 rfl rfl ?_
        refine ab_iload_n (pc := 484) (i := 3) dL_law_484 rfl rfl ?_
        refine ab_iconst (pc := 485) dL_law_485 ab_k_2 ?_
        refine ab_iadd (pc := 486) dL_law_486 ?_
        obtain ⟨t44, ht44, hk⟩ := ab_bnd hk
        refine ab_scl_ (pc := 487) dL_law_487 rfl ht44 ?_
        obtain ⟨q45, hq45, hk⟩ := ab_bnd hk
        obtain ⟨hb, hq45⟩ := ab_on_some hq45
        refine ab_callVI (st := []) (as := [ab_I t43, ab_I t44]) (b := v1) (pc := 488) dL_law_488 ml_RL_46 my_X8_letter mv_X8_letter hb (ct_X8_letter hq45) ⟨Nat.le_of_ble_eq_true rfl, Nat.le_of_ble_eq_true rfl⟩ rfl (Nat.le_of_ble_eq_true rfl) rfl ?_
        refine ab_aload_n (pc := 491) (i := 2) dL_law_491 rfl rfl ?_
        refine ab_aload_n (pc := 492) (i := 0) dL_law_492 rfl rfl ?_
        refine ab_iload_n (pc := 493) (i := 3) dL_law_493 rfl rfl ?_
        refine ab_iconst (pc := 494) dL_law_494 ab_k_1 ?_
        refine ab_iadd (pc := 495) dL_law_495 ?_
        obtain ⟨t46, ht46, hk⟩ := ab_bnd hk
        refine ab_scl_ (pc := 496) dL_law_496 rfl ht46 ?_
        refine ab_aload_n (pc := 497) (i := 0) dL_law_497 rfl rfl ?_
        refine ab_iload_n (pc := 498) (i := 3) dL_law_498 rfl rfl ?_
        refine ab_iconst (pc := 499) dL_law_499 ab_k_2 ?_
        refine ab_iadd (pc := 500) dL_law_500 ?_
        obtain ⟨t47, ht47, hk⟩ := ab_bnd hk
        refine ab_scl_ (pc := 501) dL_law_501 rfl ht47 ?_
        obtain ⟨q48, hq48, hk⟩ := ab_bnd hk
        obtain ⟨hb, hq48⟩ := ab_on_some hq48
        refine ab_callVI (st := [ab_I q45.1]) (as := [ab_I t46, ab_I t47]) (b := v2) (pc := 502) dL_law_502 ml_RL_49 my_X9_letter mv_X9_letter hb (ct_X9_letter hq48) ⟨Nat.le_of_ble_eq_true rfl, Nat.le_of_ble_eq_true rfl⟩ rfl (Nat.le_of_ble_eq_true rfl) rfl ?_
        refine ab_icmp_eq (pc := 505) (tgt := 1702) dL_law_505 rfl (fun hc => ?_) (fun hc => ?_)
        · have hk := ab_ifp hk hc
          refine ab_sub_ (lv2 := [some (ab_R v0), some (ab_R v1), some (ab_R v2), some (ab_I v3)]) (ab_ss (ab_ss (ab_ss (ab_ss ab_s0)))) ?_
          exact e_L_law_J1702 ih _ _ _ _ _ _ hk
        · have hk := ab_ifn hk hc
          refine ab_iconst (pc := 508) dL_law_508 ab_k_0 ?_
          obtain rfl := Option.some.inj hk
          exact ab_retz (pc := 509) dL_law_509 rfl rfl
      have hk := ab_ifn hk hc
      have hz7 := hc
      clear hc
      by_cases hc : ab_and t2 (63 : Int) = (8 : Int)
      · have hk := ab_ifp hk hc
        refine ab_tswIn (pc := 33) (v := (8 : Int)) (off := 477) (tgt := 510) dL_law_33 hc ⟨by decide, by decide⟩ rfl rfl ?_
        refine ab_aload_n (pc := 510) (i := 1) dL_law_510 rfl rfl ?_
        refine ab_aload_n (pc := 511) (i := 0) dL_law_511 rfl rfl ?_
        refine ab_iload_n (pc := 512) (i := 3) dL_law_512 rfl rfl ?_
        refine ab_iconst (pc := 513) dL_law_513 ab_k_1 ?_
        refine ab_iadd (pc := 514) dL_law_514 ?_
        obtain ⟨t49, ht49, hk⟩ := ab_bnd hk
        refine ab_scl_ (pc := 515) dL_law_515 rfl ht49 ?_
        obtain ⟨q50, hq50, hk⟩ := ab_bnd hk
        obtain ⟨hb, hq50⟩ := ab_on_some hq50
        refine ab_callVI (st := []) (as := [ab_I t49]) (b := v1) (pc := 516) dL_law_516 ml_RL_50 my_X8_way mv_X8_way hb (ct_X8_way hq50) ⟨Nat.le_of_ble_eq_true rfl, Nat.le_of_ble_eq_true rfl⟩ rfl (Nat.le_of_ble_eq_true rfl) rfl ?_
        refine ab_aload_n (pc := 519) (i := 2) dL_law_519 rfl rfl ?_
        refine ab_aload_n (pc := 520) (i := 0) dL_law_520 rfl rfl ?_
        refine ab_iload_n (pc := 521) (i := 3) dL_law_521 rfl rfl ?_
        refine ab_iconst (pc := 522) dL_law_522 ab_k_1 ?_
        refine ab_iadd (pc := 523) dL_law_523 ?_
        obtain ⟨t51, ht51, hk⟩ := ab_bnd hk
        refine ab_scl_ (pc := 524) dL_law_524 rfl ht51 ?_
        obtain ⟨q52, hq52, hk⟩ := ab_bnd hk
        obtain ⟨hb, hq52⟩ := ab_on_some hq52
        refine ab_callVI (st := [ab_I q50.1]) (as := [ab_I t51]) (b := v2) (pc := 525) dL_law_525 ml_RL_53 my_X9_way mv_X9_way hb (ct_X9_way hq52) ⟨Nat.le_of_ble_eq_true rfl, Nat.le_of_ble_eq_true rfl⟩ rfl (Nat.le_of_ble_eq_true rfl) rfl ?_
        refine ab_icmp_eq (pc := 528) (tgt := 1702) dL_law_528 rfl (fun hc => ?_) (fun hc => ?_)
        · have hk := ab_ifp hk hc
          refine ab_sub_ (lv2 := [some (ab_R v0), some (ab_R v1), some (ab_R v2), some (ab_I v3)]) (ab_ss (ab_ss (ab_ss (ab_ss ab_s0)))) ?_
          exact e_L_law_J1702 ih _ _ _ _ _ _ hk
        · have hk := ab_ifn hk hc
          refine ab_iconst (pc := 531) dL_law_531 ab_k_0 ?_
          obtain rfl := Option.some.inj hk
          exact ab_retz (pc := 532) dL_law_532 rfl rfl
      have hk := ab_ifn hk hc
      have hz8 := hc
      clear hc
      by_cases hc : ab_and t2 (63 : Int) = (9 : Int)
      · have hk := ab_ifp hk hc
        refine ab_tswIn (pc := 33) (v := (9 : Int)) (off := 500) (tgt := 533) dL_law_33 hc ⟨by decide, by decide⟩ rfl rfl ?_
        refine ab_aload_n (pc := 533) (i := 1) dL_law_533 rfl rfl ?_
        obtain ⟨q53, hq53, hk⟩ := ab_bnd hk
        obtain ⟨hb, hq53⟩ := ab_on_some hq53
        refine ab_callVI (st := []) (as := []) (b := v1) (pc := 534) dL_law_534 ml_RL_54 my_X8_find mv_X8_find hb (ct_X8_find hq53) ⟨Nat.le_of_ble_eq_true rfl, Nat.le_of_ble_eq_true rfl⟩ rfl (Nat.le_of_ble_eq_true rfl) rfl ?_
        refine ab_aload_n (pc := 537) (i := 2) dL_law_537 rfl rfl ?_
        obtain ⟨q54, hq54, hk⟩ := ab_bnd hk
        obtain ⟨hb, hq54⟩ := ab_on_some hq54
        refine ab_callVI (st := [ab_I q53.1]) (as := []) (b := v2) (pc := 538) dL_law_538 ml_RL_57 my_X9_find mv_X9_find hb (ct_X9_find hq54) ⟨Nat.le_of_ble_eq_true rfl, Nat.le_of_ble_eq_true rfl⟩ rfl (Nat.le_of_ble_eq_true rfl) rfl ?_
        refine ab_icmp_eq (pc := 541) (tgt := 1702) dL_law_541 rfl (fun hc => ?_) (fun hc => ?_)
        · have hk := ab_ifp hk hc
          refine ab_sub_ (lv2 := [some (ab_R v0), some (ab_R v1), some (ab_R v2), some (ab_I v3)]) (ab_ss (ab_ss (ab_ss (ab_ss ab_s0)))) ?_
          exact e_L_law_J1702 ih _ _ _ _ _ _ hk
        · have hk := ab_ifn hk hc
          refine ab_iconst (pc := 544) dL_law_544 ab_k_0 ?_
          obtain rfl := Option.some.inj hk
          exact ab_retz (pc := 545) dL_law_545 rfl rfl
      have hk := ab_ifn hk hc
      have hz9 := hc
      clear hc
      by_cases hc : ab_and t2 (63 : Int) = (10 : Int)
      · have hk := ab_ifp hk hc
        refine ab_tswIn (pc := 33) (v := (10 : Int)) (off := 513) (tgt := 546) dL_law_33 hc ⟨by decide, by decide⟩ rfl rfl ?_
        refine ab_aload_n (pc := 546) (i := 1) dL_law_546 rfl rfl ?_
        refine ab_aload_n (pc := 547) (i := 0) dL_law_547 rfl rfl ?_
        refine ab_iload_n (pc := 548) (i := 3) dL_law_548 rfl rfl ?_
        refine ab_iconst (pc := 549) dL_law_549 ab_k_1 ?_
        refine ab_iadd (pc := 550) dL_law_550 ?_
        obtain ⟨t55, ht55, hk⟩ := ab_bnd hk
        refine ab_scl_ (pc := 551) dL_law_551 rfl ht55 ?_
        obtain ⟨q56, hq56, hk⟩ := ab_bnd hk
        obtain ⟨hb, hq56⟩ := ab_on_some hq56
        refine ab_callVI (st := []) (as := [ab_I t55]) (b := v1) (pc := 552) dL_law_552 ml_RL_58 my_X8_at mv_X8_at hb (ct_X8_at hq56) ⟨Nat.le_of_ble_eq_true rfl, Nat.le_of_ble_eq_true rfl⟩ rfl (Nat.le_of_ble_eq_true rfl) rfl ?_
        refine ab_aload_n (pc := 555) (i := 2) dL_law_555 rfl rfl ?_
        refine ab_aload_n (pc := 556) (i := 0) dL_law_556 rfl rfl ?_
        refine ab_iload_n (pc := 557) (i := 3) dL_law_557 rfl rfl ?_
        refine ab_iconst (pc := 558) dL_law_558 ab_k_1 ?_
        refine ab_iadd (pc := 559) dL_law_559 ?_
        obtain ⟨t57, ht57, hk⟩ := ab_bnd hk
        refine ab_scl_ (pc := 560) dL_law_560 rfl ht57 ?_
        obtain ⟨q58, hq58, hk⟩ := ab_bnd hk
        obtain ⟨hb, hq58⟩ := ab_on_some hq58
        refine ab_callVI (st := [ab_I q56.1]) (as := [ab_I t57]) (b := v2) (pc := 561) dL_law_561 ml_RL_61 my_X9_at mv_X9_at hb (ct_X9_at hq58) ⟨Nat.le_of_ble_eq_true rfl, Nat.le_of_ble_eq_true rfl⟩ rfl (Nat.le_of_ble_eq_true rfl) rfl ?_
        refine ab_icmp_eq (pc := 564) (tgt := 1702) dL_law_564 rfl (fun hc => ?_) (fun hc => ?_)
        · have hk := ab_ifp hk hc
          refine ab_sub_ (lv2 := [some (ab_R v0), some (ab_R v1), some (ab_R v2), some (ab_I v3)]) (ab_ss (ab_ss (ab_ss (ab_ss ab_s0)))) ?_
          exact e_L_law_J1702 ih _ _ _ _ _ _ hk
        · have hk := ab_ifn hk hc
          refine ab_iconst (pc := 567) dL_law_567 ab_k_0 ?_
          obtain rfl := Option.some.inj hk
          exact ab_retz (pc := 568) dL_law_568 rfl rfl
      have hk := ab_ifn hk hc
      have hz10 := hc
      clear hc
      by_cases hc : ab_and t2 (63 : Int) = (11 : Int)
      · have hk := ab_ifp hk hc
        refine ab_tswIn (pc := 33) (v := (11 : Int)) (off := 536) (tgt := 569) dL_law_33 hc ⟨by decide, by decide⟩ rfl rfl ?_
        refine ab_aload_n (pc := 569) (i := 1) dL_law_569 rfl rfl ?_
        refine ab_aload_n (pc := 570) (i := 0) dL_law_570 rfl rfl ?_
        refine ab_iload_n (pc := 571) (i := 3) dL_law_571 rfl rfl ?_
        refine ab_iconst (pc := 572) dL_law_572 ab_k_1 ?_
        refine ab_iadd (pc := 573) dL_law_573 ?_
        obtain ⟨t59, ht59, hk⟩ := ab_bnd hk
        refine ab_scl_ (pc := 574) dL_law_574 rfl ht59 ?_
        refine ab_aload_n (pc := 575) (i := 0) dL_law_575 rfl rfl ?_
        refine ab_iload_n (pc := 576) (i := 3) dL_law_576 rfl rfl ?_
        refine ab_iconst (pc := 577) dL_law_577 ab_k_2 ?_
        refine ab_iadd (pc := 578) dL_law_578 ?_
        obtain ⟨t60, ht60, hk⟩ := ab_bnd hk
        refine ab_scl_ (pc := 579) dL_law_579 rfl ht60 ?_
        obtain ⟨q61, hq61, hk⟩ := ab_bnd hk
        obtain ⟨hb, hq61⟩ := ab_on_some hq61
        refine ab_callVI (st := []) (as := [ab_I t59, ab_I t60]) (b := v1) (pc := 580) dL_law_580 ml_RL_62 my_X8_entry mv_X8_entry hb (ct_X8_entry hq61) ⟨Nat.le_of_ble_eq_true rfl, Nat.le_of_ble_eq_true rfl⟩ rfl (Nat.le_of_ble_eq_true rfl) rfl ?_
        refine ab_aload_n (pc := 583) (i := 2) dL_law_583 rfl rfl ?_
        refine ab_aload_n (pc := 584) (i := 0) dL_law_584 rfl rfl ?_
        refine ab_iload_n (pc := 585) (i := 3) dL_law_585 rfl rfl ?_
        refine ab_iconst (pc := 586) dL_law_586 ab_k_1 ?_
        refine ab_iadd (pc := 587) dL_law_587 ?_
        obtain ⟨t62, ht62, hk⟩ := ab_bnd hk
        refine ab_scl_ (pc := 588) dL_law_588 rfl ht62 ?_
        refine ab_aload_n (pc := 589) (i := 0) dL_law_589 rfl rfl ?_
        refine ab_iload_n (pc := 590) (i := 3) dL_law_590 rfl rfl ?_
        refine ab_iconst (pc := 591) dL_law_591 ab_k_2 ?_
        refine ab_iadd (pc := 592) dL_law_592 ?_
        obtain ⟨t63, ht63, hk⟩ := ab_bnd hk
        refine ab_scl_ (pc := 593) dL_law_593 rfl ht63 ?_
        obtain ⟨q64, hq64, hk⟩ := ab_bnd hk
        obtain ⟨hb, hq64⟩ := ab_on_some hq64
        refine ab_callVI (st := [ab_I q61.1]) (as := [ab_I t62, ab_I t63]) (b := v2) (pc := 594) dL_law_594 ml_RL_65 my_X9_entry mv_X9_entry hb (ct_X9_entry hq64) ⟨Nat.le_of_ble_eq_true rfl, Nat.le_of_ble_eq_true rfl⟩ rfl (Nat.le_of_ble_eq_true rfl) rfl ?_
        refine ab_icmp_eq (pc := 597) (tgt := 1702) dL_law_597 rfl (fun hc => ?_) (fun hc => ?_)
        · have hk := ab_ifp hk hc
          refine ab_sub_ (lv2 := [some (ab_R v0), some (ab_R v1), some (ab_R v2), some (ab_I v3)]) (ab_ss (ab_ss (ab_ss (ab_ss ab_s0)))) ?_
          exact e_L_law_J1702 ih _ _ _ _ _ _ hk
        · have hk := ab_ifn hk hc
          refine ab_iconst (pc := 600) dL_law_600 ab_k_0 ?_
          obtain rfl := Option.some.inj hk
          exact ab_retz (pc := 601) dL_law_601 rfl rfl
      have hk := ab_ifn hk hc
      have hz11 := hc
      clear hc
      by_cases hc : ab_and t2 (63 : Int) = (12 : Int)
      · have hk := ab_ifp hk hc
        refine ab_tswIn (pc := 33) (v := (12 : Int)) (off := 569) (tgt := 602) dL_law_33 hc ⟨by decide, by decide⟩ rfl rfl ?_
        refine ab_aload_n (pc := 602) (i := 1) dL_law_602 rfl rfl ?_
        refine ab_aload_n (pc := 603) (i := 0) dL_law_603 rfl rfl ?_
        refine ab_iload_n (pc := 604) (i := 3) dL_law_604 rfl rfl ?_
        refine ab_iconst (pc := 605) dL_law_605 ab_k_1 ?_
        refine ab_iadd (pc := 606) dL_law_606 ?_
        obtain ⟨t65, ht65, hk⟩ := ab_bnd hk
        refine ab_scl_ (pc := 607) dL_law_607 rfl ht65 ?_
        refine ab_aload_n (pc := 608) (i := 0) dL_law_608 rfl rfl ?_
        refine ab_iload_n (pc := 609) (i := 3) dL_law_609 rfl rfl ?_
        refine ab_iconst (pc := 610) dL_law_610 ab_k_2 ?_
        refine ab_iadd (pc := 611) dL_law_611 ?_
        obtain ⟨t66, ht66, hk⟩ := ab_bnd hk
        refine ab_scl_ (pc := 612) dL_law_612 rfl ht66 ?_
        refine ab_aload_n (pc := 613) (i := 0) dL_law_613 rfl rfl ?_
        refine ab_iload_n (pc := 614) (i := 3) dL_law_614 rfl rfl ?_
        refine ab_iconst (pc := 615) dL_law_615 ab_k_3 ?_
        refine ab_iadd (pc := 616) dL_law_616 ?_
        obtain ⟨t67, ht67, hk⟩ := ab_bnd hk
        refine ab_scl_ (pc := 617) dL_law_617 rfl ht67 ?_
        obtain ⟨q68, hq68, hk⟩ := ab_bnd hk
        obtain ⟨hb, hq68⟩ := ab_on_some hq68
        refine ab_callVI (st := []) (as := [ab_I t65, ab_I t66, ab_I t67]) (b := v1) (pc := 618) dL_law_618 ml_RL_66 my_X8_row mv_X8_row hb (ct_X8_row hq68) ⟨Nat.le_of_ble_eq_true rfl, Nat.le_of_ble_eq_true rfl⟩ rfl (Nat.le_of_ble_eq_true rfl) rfl ?_
        refine ab_aload_n (pc := 621) (i := 2) dL_law_621 rfl rfl ?_
        refine ab_aload_n (pc := 622) (i := 0) dL_law_622 rfl rfl ?_
        refine ab_iload_n (pc := 623) (i := 3) dL_law_623 rfl rfl ?_
        refine ab_iconst (pc := 624) dL_law_624 ab_k_1 ?_
        refine ab_iadd (pc := 625) dL_law_625 ?_
        obtain ⟨t69, ht69, hk⟩ := ab_bnd hk
        refine ab_scl_ (pc := 626) dL_law_626 rfl ht69 ?_
        refine ab_aload_n (pc := 627) (i := 0) dL_law_627 rfl rfl ?_
        refine ab_iload_n (pc := 628) (i := 3) dL_law_628 rfl rfl ?_
        refine ab_iconst (pc := 629) dL_law_629 ab_k_2 ?_
        refine ab_iadd (pc := 630) dL_law_630 ?_
        obtain ⟨t70, ht70, hk⟩ := ab_bnd hk
        refine ab_scl_ (pc := 631) dL_law_631 rfl ht70 ?_
        refine ab_aload_n (pc := 632) (i := 0) dL_law_632 rfl rfl ?_
        refine ab_iload_n (pc := 633) (i := 3) dL_law_633 rfl rfl ?_
        refine ab_iconst (pc := 634) dL_law_634 ab_k_3 ?_
        refine ab_iadd (pc := 635) dL_law_635 ?_
        obtain ⟨t71, ht71, hk⟩ := ab_bnd hk
        refine ab_scl_ (pc := 636) dL_law_636 rfl ht71 ?_
        obtain ⟨q72, hq72, hk⟩ := ab_bnd hk
        obtain ⟨hb, hq72⟩ := ab_on_some hq72
        refine ab_callVI (st := [ab_I q68.1]) (as := [ab_I t69, ab_I t70, ab_I t71]) (b := v2) (pc := 637) dL_law_637 ml_RL_69 my_X9_row mv_X9_row hb (ct_X9_row hq72) ⟨Nat.le_of_ble_eq_true rfl, Nat.le_of_ble_eq_true rfl⟩ rfl (Nat.le_of_ble_eq_true rfl) rfl ?_
        refine ab_icmp_eq (pc := 640) (tgt := 1702) dL_law_640 rfl (fun hc => ?_) (fun hc => ?_)
        · have hk := ab_ifp hk hc
          refine ab_sub_ (lv2 := [some (ab_R v0), some (ab_R v1), some (ab_R v2), some (ab_I v3)]) (ab_ss (ab_ss (ab_ss (ab_ss ab_s0)))) ?_
          exact e_L_law_J1702 ih _ _ _ _ _ _ hk
        · have hk := ab_ifn hk hc
          refine ab_iconst (pc := 643) dL_law_643 ab_k_0 ?_
          obtain rfl := Option.some.inj hk
          exact ab_retz (pc := 644) dL_law_644 rfl rfl
      have hk := ab_ifn hk hc
      have hz12 := hc
      clear hc
      by_cases hc : ab_and t2 (63 : Int) = (13 : Int)
      · have hk := ab_ifp hk hc
        refine ab_tswIn (pc := 33) (v := (13 : Int)) (off := 612) (tgt := 645) dL_law_33 hc ⟨by decide, by decide⟩ rfl rfl ?_
        refine ab_aload_n (pc := 645) (i := 1) dL_law_645 rfl rfl ?_
        refine ab_aload_n (pc := 646) (i := 0) dL_law_646 rfl rfl ?_
        refine ab_iload_n (pc := 647) (i := 3) dL_law_647 rfl rfl ?_
        refine ab_iconst (pc := 648) dL_law_648 ab_k_1 ?_
        refine ab_iadd (pc := 649) dL_law_649 ?_
        obtain ⟨t73, ht73, hk⟩ := ab_bnd hk
        refine ab_scl_ (pc := 650) dL_law_650 rfl ht73 ?_
        refine ab_aload_n (pc := 651) (i := 0) dL_law_651 rfl rfl ?_
        refine ab_iload_n (pc := 652) (i := 3) dL_law_652 rfl rfl ?_
        refine ab_iconst (pc := 653) dL_law_653 ab_k_2 ?_
        refine ab_iadd (pc := 654) dL_law_654 ?_
        obtain ⟨t74, ht74, hk⟩ := ab_bnd hk
        refine ab_scl_ (pc := 655) dL_law_655 rfl ht74 ?_
        obtain ⟨q75, hq75, hk⟩ := ab_bnd hk
        obtain ⟨hb, hq75⟩ := ab_on_some hq75
        refine ab_callVI (st := []) (as := [ab_I t73, ab_I t74]) (b := v1) (pc := 656) dL_law_656 ml_RL_70 my_X8_line mv_X8_line hb (ct_X8_line hq75) ⟨Nat.le_of_ble_eq_true rfl, Nat.le_of_ble_eq_true rfl⟩ rfl (Nat.le_of_ble_eq_true rfl) rfl ?_
        refine ab_aload_n (pc := 659) (i := 2) dL_law_659 rfl rfl ?_
        refine ab_aload_n (pc := 660) (i := 0) dL_law_660 rfl rfl ?_
        refine ab_iload_n (pc := 661) (i := 3) dL_law_661 rfl rfl ?_
        refine ab_iconst (pc := 662) dL_law_662 ab_k_1 ?_
        refine ab_iadd (pc := 663) dL_law_663 ?_
        obtain ⟨t76, ht76, hk⟩ := ab_bnd hk
        refine ab_scl_ (pc := 664) dL_law_664 rfl ht76 ?_
        refine ab_aload_n (pc := 665) (i := 0) dL_law_665 rfl rfl ?_
        refine ab_iload_n (pc := 666) (i := 3) dL_law_666 rfl rfl ?_
        refine ab_iconst (pc := 667) dL_law_667 ab_k_2 ?_
        refine ab_iadd (pc := 668) dL_law_668 ?_
        obtain ⟨t77, ht77, hk⟩ := ab_bnd hk
        refine ab_scl_ (pc := 669) dL_law_669 rfl ht77 ?_
        obtain ⟨q78, hq78, hk⟩ := ab_bnd hk
        obtain ⟨hb, hq78⟩ := ab_on_some hq78
        refine ab_callVI (st := [ab_I q75.1]) (as := [ab_I t76, ab_I t77]) (b := v2) (pc := 670) dL_law_670 ml_RL_73 my_X9_line mv_X9_line hb (ct_X9_line hq78) ⟨Nat.le_of_ble_eq_true rfl, Nat.le_of_ble_eq_true rfl⟩ rfl (Nat.le_of_ble_eq_true rfl) rfl ?_
        refine ab_icmp_eq (pc := 673) (tgt := 1702) dL_law_673 rfl (fun hc => ?_) (fun hc => ?_)
        · have hk := ab_ifp hk hc
          refine ab_sub_ (lv2 := [some (ab_R v0), some (ab_R v1), some (ab_R v2), some (ab_I v3)]) (ab_ss (ab_ss (ab_ss (ab_ss ab_s0)))) ?_
          exact e_L_law_J1702 ih _ _ _ _ _ _ hk
        · have hk := ab_ifn hk hc
          refine ab_iconst (pc := 676) dL_law_676 ab_k_0 ?_
          obtain rfl := Option.some.inj hk
          exact ab_retz (pc := 677) dL_law_677 rfl rfl
      have hk := ab_ifn hk hc
      have hz13 := hc
      clear hc
      by_cases hc : ab_and t2 (63 : Int) = (14 : Int)
      · have hk := ab_ifp hk hc
        refine ab_tswIn (pc := 33) (v := (14 : Int)) (off := 645) (tgt := 678) dL_law_33 hc ⟨by decide, by decide⟩ rfl rfl ?_
        refine ab_aload_n (pc := 678) (i := 1) dL_law_678 rfl rfl ?_
        refine ab_aload_n (pc := 679) (i := 0) dL_law_679 rfl rfl ?_
        refine ab_iload_n (pc := 680) (i := 3) dL_law_680 rfl rfl ?_
        refine ab_iconst (pc := 681) dL_law_681 ab_k_1 ?_
        refine ab_iadd (pc := 682) dL_law_682 ?_
        obtain ⟨t79, ht79, hk⟩ := ab_bnd hk
        refine ab_scl_ (pc := 683) dL_law_683 rfl ht79 ?_
        refine ab_aload_n (pc := 684) (i := 0) dL_law_684 rfl rfl ?_
        refine ab_iload_n (pc := 685) (i := 3) dL_law_685 rfl rfl ?_
        refine ab_iconst (pc := 686) dL_law_686 ab_k_2 ?_
        refine ab_iadd (pc := 687) dL_law_687 ?_
        obtain ⟨t80, ht80, hk⟩ := ab_bnd hk
        refine ab_scl_ (pc := 688) dL_law_688 rfl ht80 ?_
        obtain ⟨q81, hq81, hk⟩ := ab_bnd hk
        obtain ⟨hb, hq81⟩ := ab_on_some hq81
        refine ab_callVI (st := []) (as := [ab_I t79, ab_I t80]) (b := v1) (pc := 689) dL_law_689 ml_RL_74 my_X8_address mv_X8_address hb (ct_X8_address hq81) ⟨Nat.le_of_ble_eq_true rfl, Nat.le_of_ble_eq_true rfl⟩ rfl (Nat.le_of_ble_eq_true rfl) rfl ?_
        refine ab_aload_n (pc := 692) (i := 2) dL_law_692 rfl rfl ?_
        refine ab_aload_n (pc := 693) (i := 0) dL_law_693 rfl rfl ?_
        refine ab_iload_n (pc := 694) (i := 3) dL_law_694 rfl rfl ?_
        refine ab_iconst (pc := 695) dL_law_695 ab_k_1 ?_
        refine ab_iadd (pc := 696) dL_law_696 ?_
        obtain ⟨t82, ht82, hk⟩ := ab_bnd hk
        refine ab_scl_ (pc := 697) dL_law_697 rfl ht82 ?_
        refine ab_aload_n (pc := 698) (i := 0) dL_law_698 rfl rfl ?_
        refine ab_iload_n (pc := 699) (i := 3) dL_law_699 rfl rfl ?_
        refine ab_iconst (pc := 700) dL_law_700 ab_k_2 ?_
        refine ab_iadd (pc := 701) dL_law_701 ?_
        obtain ⟨t83, ht83, hk⟩ := ab_bnd hk
        refine ab_scl_ (pc := 702) dL_law_702 rfl ht83 ?_
        obtain ⟨q84, hq84, hk⟩ := ab_bnd hk
        obtain ⟨hb, hq84⟩ := ab_on_some hq84
        refine ab_callVI (st := [ab_I q81.1]) (as := [ab_I t82, ab_I t83]) (b := v2) (pc := 703) dL_law_703 ml_RL_77 my_X9_address mv_X9_address hb (ct_X9_address hq84) ⟨Nat.le_of_ble_eq_true rfl, Nat.le_of_ble_eq_true rfl⟩ rfl (Nat.le_of_ble_eq_true rfl) rfl ?_
        refine ab_icmp_eq (pc := 706) (tgt := 1702) dL_law_706 rfl (fun hc => ?_) (fun hc => ?_)
        · have hk := ab_ifp hk hc
          refine ab_sub_ (lv2 := [some (ab_R v0), some (ab_R v1), some (ab_R v2), some (ab_I v3)]) (ab_ss (ab_ss (ab_ss (ab_ss ab_s0)))) ?_
          exact e_L_law_J1702 ih _ _ _ _ _ _ hk
        · have hk := ab_ifn hk hc
          refine ab_iconst (pc := 709) dL_law_709 ab_k_0 ?_
          obtain rfl := Option.some.inj hk
          exact ab_retz (pc := 710) dL_law_710 rfl rfl
      have hk := ab_ifn hk hc
      have hz14 := hc
      clear hc
      by_cases hc : ab_and t2 (63 : Int) = (15 : Int)
      · have hk := ab_ifp hk hc
        refine ab_tswIn (pc := 33) (v := (15 : Int)) (off := 678) (tgt := 711) dL_law_33 hc ⟨by decide, by decide⟩ rfl rfl ?_
        refine ab_aload_n (pc := 711) (i := 1) dL_law_711 rfl rfl ?_
        refine ab_aload_n (pc := 712) (i := 0) dL_law_712 rfl rfl ?_
        refine ab_iload_n (pc := 713) (i := 3) dL_law_713 rfl rfl ?_
        refine ab_iconst (pc := 714) dL_law_714 ab_k_1 ?_
        refine ab_iadd (pc := 715) dL_law_715 ?_
        obtain ⟨t85, ht85, hk⟩ := ab_bnd hk
        refine ab_scl_ (pc := 716) dL_law_716 rfl ht85 ?_
        refine ab_aload_n (pc := 717) (i := 0) dL_law_717 rfl rfl ?_
        refine ab_iload_n (pc := 718) (i := 3) dL_law_718 rfl rfl ?_
        refine ab_iconst (pc := 719) dL_law_719 ab_k_2 ?_
        refine ab_iadd (pc := 720) dL_law_720 ?_
        obtain ⟨t86, ht86, hk⟩ := ab_bnd hk
        refine ab_scl_ (pc := 721) dL_law_721 rfl ht86 ?_
        obtain ⟨q87, hq87, hk⟩ := ab_bnd hk
        obtain ⟨hb, hq87⟩ := ab_on_some hq87
        refine ab_callVI (st := []) (as := [ab_I t85, ab_I t86]) (b := v1) (pc := 722) dL_law_722 ml_RL_78 my_X8_head mv_X8_head hb (ct_X8_head hq87) ⟨Nat.le_of_ble_eq_true rfl, Nat.le_of_ble_eq_true rfl⟩ rfl (Nat.le_of_ble_eq_true rfl) rfl ?_
        refine ab_aload_n (pc := 725) (i := 2) dL_law_725 rfl rfl ?_
        refine ab_aload_n (pc := 726) (i := 0) dL_law_726 rfl rfl ?_
        refine ab_iload_n (pc := 727) (i := 3) dL_law_727 rfl rfl ?_
        refine ab_iconst (pc := 728) dL_law_728 ab_k_1 ?_
        refine ab_iadd (pc := 729) dL_law_729 ?_
        obtain ⟨t88, ht88, hk⟩ := ab_bnd hk
        refine ab_scl_ (pc := 730) dL_law_730 rfl ht88 ?_
        refine ab_aload_n (pc := 731) (i := 0) dL_law_731 rfl rfl ?_
        refine ab_iload_n (pc := 732) (i := 3) dL_law_732 rfl rfl ?_
        refine ab_iconst (pc := 733) dL_law_733 ab_k_2 ?_
        refine ab_iadd (pc := 734) dL_law_734 ?_
        obtain ⟨t89, ht89, hk⟩ := ab_bnd hk
        refine ab_scl_ (pc := 735) dL_law_735 rfl ht89 ?_
        obtain ⟨q90, hq90, hk⟩ := ab_bnd hk
        obtain ⟨hb, hq90⟩ := ab_on_some hq90
        refine ab_callVI (st := [ab_I q87.1]) (as := [ab_I t88, ab_I t89]) (b := v2) (pc := 736) dL_law_736 ml_RL_81 my_X9_head mv_X9_head hb (ct_X9_head hq90) ⟨Nat.le_of_ble_eq_true rfl, Nat.le_of_ble_eq_true rfl⟩ rfl (Nat.le_of_ble_eq_true rfl) rfl ?_
        refine ab_icmp_eq (pc := 739) (tgt := 1702) dL_law_739 rfl (fun hc => ?_) (fun hc => ?_)
        · have hk := ab_ifp hk hc
          refine ab_sub_ (lv2 := [some (ab_R v0), some (ab_R v1), some (ab_R v2), some (ab_I v3)]) (ab_ss (ab_ss (ab_ss (ab_ss ab_s0)))) ?_
          exact e_L_law_J1702 ih _ _ _ _ _ _ hk
        · have hk := ab_ifn hk hc
          refine ab_iconst (pc := 742) dL_law_742 ab_k_0 ?_
          obtain rfl := Option.some.inj hk
          exact ab_retz (pc := 743) dL_law_743 rfl rfl
      have hk := ab_ifn hk hc
      have hz15 := hc
      clear hc
      by_cases hc : ab_and t2 (63 : Int) = (16 : Int)
      · have hk := ab_ifp hk hc
        refine ab_tswIn (pc := 33) (v := (16 : Int)) (off := 711) (tgt := 744) dL_law_33 hc ⟨by decide, by decide⟩ rfl rfl ?_
        refine ab_aload_n (pc := 744) (i := 1) dL_law_744 rfl rfl ?_
        refine ab_aload_n (pc := 745) (i := 0) dL_law_745 rfl rfl ?_
        refine ab_iload_n (pc := 746) (i := 3) dL_law_746 rfl rfl ?_
        refine ab_iconst (pc := 747) dL_law_747 ab_k_1 ?_
        refine ab_iadd (pc := 748) dL_law_748 ?_
        obtain ⟨t91, ht91, hk⟩ := ab_bnd hk
        refine ab_scl_ (pc := 749) dL_law_749 rfl ht91 ?_
        obtain ⟨q92, hq92, hk⟩ := ab_bnd hk
        obtain ⟨hb, hq92⟩ := ab_on_some hq92
        refine ab_callVI (st := []) (as := [ab_I t91]) (b := v1) (pc := 750) dL_law_750 ml_RL_82 my_X8_print mv_X8_print hb (ct_X8_print hq92) ⟨Nat.le_of_ble_eq_true rfl, Nat.le_of_ble_eq_true rfl⟩ rfl (Nat.le_of_ble_eq_true rfl) rfl ?_
        refine ab_aload_n (pc := 753) (i := 2) dL_law_753 rfl rfl ?_
        refine ab_aload_n (pc := 754) (i := 0) dL_law_754 rfl rfl ?_
        refine ab_iload_n (pc := 755) (i := 3) dL_law_755 rfl rfl ?_
        refine ab_iconst (pc := 756) dL_law_756 ab_k_1 ?_
        refine ab_iadd (pc := 757) dL_law_757 ?_
        obtain ⟨t93, ht93, hk⟩ := ab_bnd hk
        refine ab_scl_ (pc := 758) dL_law_758 rfl ht93 ?_
        obtain ⟨q94, hq94, hk⟩ := ab_bnd hk
        obtain ⟨hb, hq94⟩ := ab_on_some hq94
        refine ab_callVI (st := [ab_I q92.1]) (as := [ab_I t93]) (b := v2) (pc := 759) dL_law_759 ml_RL_85 my_X9_print mv_X9_print hb (ct_X9_print hq94) ⟨Nat.le_of_ble_eq_true rfl, Nat.le_of_ble_eq_true rfl⟩ rfl (Nat.le_of_ble_eq_true rfl) rfl ?_
        refine ab_icmp_eq (pc := 762) (tgt := 1702) dL_law_762 rfl (fun hc => ?_) (fun hc => ?_)
        · have hk := ab_ifp hk hc
          refine ab_sub_ (lv2 := [some (ab_R v0), some (ab_R v1), some (ab_R v2), some (ab_I v3)]) (ab_ss (ab_ss (ab_ss (ab_ss ab_s0)))) ?_
          exact e_L_law_J1702 ih _ _ _ _ _ _ hk
        · have hk := ab_ifn hk hc
          refine ab_iconst (pc := 765) dL_law_765 ab_k_0 ?_
          obtain rfl := Option.some.inj hk
          exact ab_retz (pc := 766) dL_law_766 rfl rfl
      have hk := ab_ifn hk hc
      have hz16 := hc
      clear hc
      by_cases hc : ab_and t2 (63 : Int) = (17 : Int)
      · have hk := ab_ifp hk hc
        refine ab_tswIn (pc := 33) (v := (17 : Int)) (off := 734) (tgt := 767) dL_law_33 hc ⟨by decide, by decide⟩ rfl rfl ?_
        refine ab_aload_n (pc := 767) (i := 1) dL_law_767 rfl rfl ?_
        obtain ⟨q95, hq95, hk⟩ := ab_bnd hk
        obtain ⟨hb, hq95⟩ := ab_on_some hq95
        refine ab_callVI (st := []) (as := []) (b := v1) (pc := 768) dL_law_768 ml_RL_86 my_X8_printAll mv_X8_printAll hb (ct_X8_printAll hq95) ⟨Nat.le_of_ble_eq_true rfl, Nat.le_of_ble_eq_true rfl⟩ rfl (Nat.le_of_ble_eq_true rfl) rfl ?_
        refine ab_aload_n (pc := 771) (i := 2) dL_law_771 rfl rfl ?_
        obtain ⟨q96, hq96, hk⟩ := ab_bnd hk
        obtain ⟨hb, hq96⟩ := ab_on_some hq96
        refine ab_callVI (st := [ab_I q95.1]) (as := []) (b := v2) (pc := 772) dL_law_772 ml_RL_89 my_X9_printAll mv_X9_printAll hb (ct_X9_printAll hq96) ⟨Nat.le_of_ble_eq_true rfl, Nat.le_of_ble_eq_true rfl⟩ rfl (Nat.le_of_ble_eq_true rfl) rfl ?_
        refine ab_icmp_eq (pc := 775) (tgt := 1702) dL_law_775 rfl (fun hc => ?_) (fun hc => ?_)
        · have hk := ab_ifp hk hc
          refine ab_sub_ (lv2 := [some (ab_R v0), some (ab_R v1), some (ab_R v2), some (ab_I v3)]) (ab_ss (ab_ss (ab_ss (ab_ss ab_s0)))) ?_
          exact e_L_law_J1702 ih _ _ _ _ _ _ hk
        · have hk := ab_ifn hk hc
          refine ab_iconst (pc := 778) dL_law_778 ab_k_0 ?_
          obtain rfl := Option.some.inj hk
          exact ab_retz (pc := 779) dL_law_779 rfl rfl
      have hk := ab_ifn hk hc
      have hz17 := hc
      clear hc
      by_cases hc : ab_and t2 (63 : Int) = (18 : Int)
      · have hk := ab_ifp hk hc
        refine ab_tswIn (pc := 33) (v := (18 : Int)) (off := 747) (tgt := 780) dL_law_33 hc ⟨by decide, by decide⟩ rfl rfl ?_
        refine ab_aload_n (pc := 780) (i := 1) dL_law_780 rfl rfl ?_
        refine ab_aload_n (pc := 781) (i := 0) dL_law_781 rfl rfl ?_
        refine ab_iload_n (pc := 782) (i := 3) dL_law_782 rfl rfl ?_
        refine ab_iconst (pc := 783) dL_law_783 ab_k_1 ?_
        refine ab_iadd (pc := 784) dL_law_784 ?_
        obtain ⟨t97, ht97, hk⟩ := ab_bnd hk
        refine ab_scl_ (pc := 785) dL_law_785 rfl ht97 ?_
        obtain ⟨q98, hq98, hk⟩ := ab_bnd hk
        obtain ⟨hb, hq98⟩ := ab_on_some hq98
        refine ab_callVI (st := []) (as := [ab_I t97]) (b := v1) (pc := 786) dL_law_786 ml_RL_90 my_X8_octet mv_X8_octet hb (ct_X8_octet hq98) ⟨Nat.le_of_ble_eq_true rfl, Nat.le_of_ble_eq_true rfl⟩ rfl (Nat.le_of_ble_eq_true rfl) rfl ?_
        refine ab_aload_n (pc := 789) (i := 2) dL_law_789 rfl rfl ?_
        refine ab_aload_n (pc := 790) (i := 0) dL_law_790 rfl rfl ?_
        refine ab_iload_n (pc := 791) (i := 3) dL_law_791 rfl rfl ?_
        refine ab_iconst (pc := 792) dL_law_792 ab_k_1 ?_
        refine ab_iadd (pc := 793) dL_law_793 ?_
        obtain ⟨t99, ht99, hk⟩ := ab_bnd hk
        refine ab_scl_ (pc := 794) dL_law_794 rfl ht99 ?_
        obtain ⟨q100, hq100, hk⟩ := ab_bnd hk
        obtain ⟨hb, hq100⟩ := ab_on_some hq100
        refine ab_callVI (st := [ab_I q98.1]) (as := [ab_I t99]) (b := v2) (pc := 795) dL_law_795 ml_RL_93 my_X9_octet mv_X9_octet hb (ct_X9_octet hq100) ⟨Nat.le_of_ble_eq_true rfl, Nat.le_of_ble_eq_true rfl⟩ rfl (Nat.le_of_ble_eq_true rfl) rfl ?_
        refine ab_icmp_eq (pc := 798) (tgt := 1702) dL_law_798 rfl (fun hc => ?_) (fun hc => ?_)
        · have hk := ab_ifp hk hc
          refine ab_sub_ (lv2 := [some (ab_R v0), some (ab_R v1), some (ab_R v2), some (ab_I v3)]) (ab_ss (ab_ss (ab_ss (ab_ss ab_s0)))) ?_
          exact e_L_law_J1702 ih _ _ _ _ _ _ hk
        · have hk := ab_ifn hk hc
          refine ab_iconst (pc := 801) dL_law_801 ab_k_0 ?_
          obtain rfl := Option.some.inj hk
          exact ab_retz (pc := 802) dL_law_802 rfl rfl
      have hk := ab_ifn hk hc
      have hz18 := hc
      clear hc
      by_cases hc : ab_and t2 (63 : Int) = (19 : Int)
      · have hk := ab_ifp hk hc
        refine ab_tswIn (pc := 33) (v := (19 : Int)) (off := 770) (tgt := 803) dL_law_33 hc ⟨by decide, by decide⟩ rfl rfl ?_
        refine ab_aload_n (pc := 803) (i := 1) dL_law_803 rfl rfl ?_
        refine ab_aload_n (pc := 804) (i := 0) dL_law_804 rfl rfl ?_
        refine ab_iload_n (pc := 805) (i := 3) dL_law_805 rfl rfl ?_
        refine ab_iconst (pc := 806) dL_law_806 ab_k_1 ?_
        refine ab_iadd (pc := 807) dL_law_807 ?_
        obtain ⟨t101, ht101, hk⟩ := ab_bnd hk
        refine ab_scl_ (pc := 808) dL_law_808 rfl ht101 ?_
        obtain ⟨q102, hq102, hk⟩ := ab_bnd hk
        obtain ⟨hb, hq102⟩ := ab_on_some hq102
        refine ab_callVI (st := []) (as := [ab_I t101]) (b := v1) (pc := 809) dL_law_809 ml_RL_94 my_X8_rebuilt mv_X8_rebuilt hb (ct_X8_rebuilt hq102) ⟨Nat.le_of_ble_eq_true rfl, Nat.le_of_ble_eq_true rfl⟩ rfl (Nat.le_of_ble_eq_true rfl) rfl ?_
        refine ab_aload_n (pc := 812) (i := 2) dL_law_812 rfl rfl ?_
        refine ab_aload_n (pc := 813) (i := 0) dL_law_813 rfl rfl ?_
        refine ab_iload_n (pc := 814) (i := 3) dL_law_814 rfl rfl ?_
        refine ab_iconst (pc := 815) dL_law_815 ab_k_1 ?_
        refine ab_iadd (pc := 816) dL_law_816 ?_
        obtain ⟨t103, ht103, hk⟩ := ab_bnd hk
        refine ab_scl_ (pc := 817) dL_law_817 rfl ht103 ?_
        obtain ⟨q104, hq104, hk⟩ := ab_bnd hk
        obtain ⟨hb, hq104⟩ := ab_on_some hq104
        refine ab_callVI (st := [ab_I q102.1]) (as := [ab_I t103]) (b := v2) (pc := 818) dL_law_818 ml_RL_97 my_X9_rebuilt mv_X9_rebuilt hb (ct_X9_rebuilt hq104) ⟨Nat.le_of_ble_eq_true rfl, Nat.le_of_ble_eq_true rfl⟩ rfl (Nat.le_of_ble_eq_true rfl) rfl ?_
        refine ab_icmp_eq (pc := 821) (tgt := 1702) dL_law_821 rfl (fun hc => ?_) (fun hc => ?_)
        · have hk := ab_ifp hk hc
          refine ab_sub_ (lv2 := [some (ab_R v0), some (ab_R v1), some (ab_R v2), some (ab_I v3)]) (ab_ss (ab_ss (ab_ss (ab_ss ab_s0)))) ?_
          exact e_L_law_J1702 ih _ _ _ _ _ _ hk
        · have hk := ab_ifn hk hc
          refine ab_iconst (pc := 824) dL_law_824 ab_k_0 ?_
          obtain rfl := Option.some.inj hk
          exact ab_retz (pc := 825) dL_law_825 rfl rfl
      have hk := ab_ifn hk hc
      have hz19 := hc
      clear hc
      by_cases hc : ab_and t2 (63 : Int) = (20 : Int)
      · have hk := ab_ifp hk hc
        refine ab_tswIn (pc := 33) (v := (20 : Int)) (off := 793) (tgt := 826) dL_law_33 hc ⟨by decide, by decide⟩ rfl rfl ?_
        refine ab_aload_n (pc := 826) (i := 1) dL_law_826 rfl rfl ?_
        refine ab_aload_n (pc := 827) (i := 0) dL_law_827 rfl rfl ?_
        refine ab_iload_n (pc := 828) (i := 3) dL_law_828 rfl rfl ?_
        refine ab_iconst (pc := 829) dL_law_829 ab_k_1 ?_
        refine ab_iadd (pc := 830) dL_law_830 ?_
        obtain ⟨t105, ht105, hk⟩ := ab_bnd hk
        refine ab_scl_ (pc := 831) dL_law_831 rfl ht105 ?_
        obtain ⟨q106, hq106, hk⟩ := ab_bnd hk
        obtain ⟨hb, hq106⟩ := ab_on_some hq106
        refine ab_callVI (st := []) (as := [ab_I t105]) (b := v1) (pc := 832) dL_law_832 ml_RL_98 my_X8_begins mv_X8_begins hb (ct_X8_begins hq106) ⟨Nat.le_of_ble_eq_true rfl, Nat.le_of_ble_eq_true rfl⟩ rfl (Nat.le_of_ble_eq_true rfl) rfl ?_
        refine ab_aload_n (pc := 835) (i := 2) dL_law_835 rfl rfl ?_
        refine ab_aload_n (pc := 836) (i := 0) dL_law_836 rfl rfl ?_
        refine ab_iload_n (pc := 837) (i := 3) dL_law_837 rfl rfl ?_
        refine ab_iconst (pc := 838) dL_law_838 ab_k_1 ?_
        refine ab_iadd (pc := 839) dL_law_839 ?_
        obtain ⟨t107, ht107, hk⟩ := ab_bnd hk
        refine ab_scl_ (pc := 840) dL_law_840 rfl ht107 ?_
        obtain ⟨q108, hq108, hk⟩ := ab_bnd hk
        obtain ⟨hb, hq108⟩ := ab_on_some hq108
        refine ab_callVI (st := [ab_I q106.1]) (as := [ab_I t107]) (b := v2) (pc := 841) dL_law_841 ml_RL_101 my_X9_begins mv_X9_begins hb (ct_X9_begins hq108) ⟨Nat.le_of_ble_eq_true rfl, Nat.le_of_ble_eq_true rfl⟩ rfl (Nat.le_of_ble_eq_true rfl) rfl ?_
        refine ab_icmp_eq (pc := 844) (tgt := 1702) dL_law_844 rfl (fun hc => ?_) (fun hc => ?_)
        · have hk := ab_ifp hk hc
          refine ab_sub_ (lv2 := [some (ab_R v0), some (ab_R v1), some (ab_R v2), some (ab_I v3)]) (ab_ss (ab_ss (ab_ss (ab_ss ab_s0)))) ?_
          exact e_L_law_J1702 ih _ _ _ _ _ _ hk
        · have hk := ab_ifn hk hc
          refine ab_iconst (pc := 847) dL_law_847 ab_k_0 ?_
          obtain rfl := Option.some.inj hk
          exact ab_retz (pc := 848) dL_law_848 rfl rfl
      have hk := ab_ifn hk hc
      have hz20 := hc
      clear hc
      by_cases hc : ab_and t2 (63 : Int) = (21 : Int)
      · have hk := ab_ifp hk hc
        refine ab_tswIn (pc := 33) (v := (21 : Int)) (off := 816) (tgt := 849) dL_law_33 hc ⟨by decide, by decide⟩ rfl rfl ?_
        refine ab_aload_n (pc := 849) (i := 1) dL_law_849 rfl rfl ?_
        refine ab_aload_n (pc := 850) (i := 0) dL_law_850 rfl rfl ?_
        refine ab_iload_n (pc := 851) (i := 3) dL_law_851 rfl rfl ?_
        refine ab_iconst (pc := 852) dL_law_852 ab_k_1 ?_
        refine ab_iadd (pc := 853) dL_law_853 ?_
        obtain ⟨t109, ht109, hk⟩ := ab_bnd hk
        refine ab_scl_ (pc := 854) dL_law_854 rfl ht109 ?_
        refine ab_aload_n (pc := 855) (i := 0) dL_law_855 rfl rfl ?_
        refine ab_iload_n (pc := 856) (i := 3) dL_law_856 rfl rfl ?_
        refine ab_iconst (pc := 857) dL_law_857 ab_k_2 ?_
        refine ab_iadd (pc := 858) dL_law_858 ?_
        obtain ⟨t110, ht110, hk⟩ := ab_bnd hk
        refine ab_scl_ (pc := 859) dL_law_859 rfl ht110 ?_
        obtain ⟨q111, hq111, hk⟩ := ab_bnd hk
        obtain ⟨hb, hq111⟩ := ab_on_some hq111
        refine ab_callVI (st := []) (as := [ab_I t109, ab_I t110]) (b := v1) (pc := 860) dL_law_860 ml_RL_102 my_X8_having mv_X8_having hb (ct_X8_having hq111) ⟨Nat.le_of_ble_eq_true rfl, Nat.le_of_ble_eq_true rfl⟩ rfl (Nat.le_of_ble_eq_true rfl) rfl ?_
        refine ab_aload_n (pc := 863) (i := 2) dL_law_863 rfl rfl ?_
        refine ab_aload_n (pc := 864) (i := 0) dL_law_864 rfl rfl ?_
        refine ab_iload_n (pc := 865) (i := 3) dL_law_865 rfl rfl ?_
        refine ab_iconst (pc := 866) dL_law_866 ab_k_1 ?_
        refine ab_iadd (pc := 867) dL_law_867 ?_
        obtain ⟨t112, ht112, hk⟩ := ab_bnd hk
        refine ab_scl_ (pc := 868) dL_law_868 rfl ht112 ?_
        refine ab_aload_n (pc := 869) (i := 0) dL_law_869 rfl rfl ?_
        refine ab_iload_n (pc := 870) (i := 3) dL_law_870 rfl rfl ?_
        refine ab_iconst (pc := 871) dL_law_871 ab_k_2 ?_
        refine ab_iadd (pc := 872) dL_law_872 ?_
        obtain ⟨t113, ht113, hk⟩ := ab_bnd hk
        refine ab_scl_ (pc := 873) dL_law_873 rfl ht113 ?_
        obtain ⟨q114, hq114, hk⟩ := ab_bnd hk
        obtain ⟨hb, hq114⟩ := ab_on_some hq114
        refine ab_callVI (st := [ab_I q111.1]) (as := [ab_I t112, ab_I t113]) (b := v2) (pc := 874) dL_law_874 ml_RL_105 my_X9_having mv_X9_having hb (ct_X9_having hq114) ⟨Nat.le_of_ble_eq_true rfl, Nat.le_of_ble_eq_true rfl⟩ rfl (Nat.le_of_ble_eq_true rfl) rfl ?_
        refine ab_icmp_eq (pc := 877) (tgt := 1702) dL_law_877 rfl (fun hc => ?_) (fun hc => ?_)
        · have hk := ab_ifp hk hc
          refine ab_sub_ (lv2 := [some (ab_R v0), some (ab_R v1), some (ab_R v2), some (ab_I v3)]) (ab_ss (ab_ss (ab_ss (ab_ss ab_s0)))) ?_
          exact e_L_law_J1702 ih _ _ _ _ _ _ hk
        · have hk := ab_ifn hk hc
          refine ab_iconst (pc := 880) dL_law_880 ab_k_0 ?_
          obtain rfl := Option.some.inj hk
          exact ab_retz (pc := 881) dL_law_881 rfl rfl
      have hk := ab_ifn hk hc
      have hz21 := hc
      clear hc
      by_cases hc : ab_and t2 (63 : Int) = (22 : Int)
      · have hk := ab_ifp hk hc
        refine ab_tswIn (pc := 33) (v := (22 : Int)) (off := 849) (tgt := 882) dL_law_33 hc ⟨by decide, by decide⟩ rfl rfl ?_
        refine ab_aload_n (pc := 882) (i := 1) dL_law_882 rfl rfl ?_
        refine ab_aload_n (pc := 883) (i := 0) dL_law_883 rfl rfl ?_
        refine ab_iload_n (pc := 884) (i := 3) dL_law_884 rfl rfl ?_
        refine ab_iconst (pc := 885) dL_law_885 ab_k_1 ?_
        refine ab_iadd (pc := 886) dL_law_886 ?_
        obtain ⟨t115, ht115, hk⟩ := ab_bnd hk
        refine ab_scl_ (pc := 887) dL_law_887 rfl ht115 ?_
        refine ab_aload_n (pc := 888) (i := 0) dL_law_888 rfl rfl ?_
        refine ab_iload_n (pc := 889) (i := 3) dL_law_889 rfl rfl ?_
        refine ab_iconst (pc := 890) dL_law_890 ab_k_2 ?_
        refine ab_iadd (pc := 891) dL_law_891 ?_
        obtain ⟨t116, ht116, hk⟩ := ab_bnd hk
        refine ab_scl_ (pc := 892) dL_law_892 rfl ht116 ?_
        obtain ⟨q117, hq117, hk⟩ := ab_bnd hk
        obtain ⟨hb, hq117⟩ := ab_on_some hq117
        refine ab_callVI (st := []) (as := [ab_I t115, ab_I t116]) (b := v1) (pc := 893) dL_law_893 ml_RL_106 my_X8_sharing mv_X8_sharing hb (ct_X8_sharing hq117) ⟨Nat.le_of_ble_eq_true rfl, Nat.le_of_ble_eq_true rfl⟩ rfl (Nat.le_of_ble_eq_true rfl) rfl ?_
        refine ab_aload_n (pc := 896) (i := 2) dL_law_896 rfl rfl ?_
        refine ab_aload_n (pc := 897) (i := 0) dL_law_897 rfl rfl ?_
        refine ab_iload_n (pc := 898) (i := 3) dL_law_898 rfl rfl ?_
        refine ab_iconst (pc := 899) dL_law_899 ab_k_1 ?_
        refine ab_iadd (pc := 900) dL_law_900 ?_
        obtain ⟨t118, ht118, hk⟩ := ab_bnd hk
        refine ab_scl_ (pc := 901) dL_law_901 rfl ht118 ?_
        refine ab_aload_n (pc := 902) (i := 0) dL_law_902 rfl rfl ?_
        refine ab_iload_n (pc := 903) (i := 3) dL_law_903 rfl rfl ?_
        refine ab_iconst (pc := 904) dL_law_904 ab_k_2 ?_
        refine ab_iadd (pc := 905) dL_law_905 ?_
        obtain ⟨t119, ht119, hk⟩ := ab_bnd hk
        refine ab_scl_ (pc := 906) dL_law_906 rfl ht119 ?_
        obtain ⟨q120, hq120, hk⟩ := ab_bnd hk
        obtain ⟨hb, hq120⟩ := ab_on_some hq120
        refine ab_callVI (st := [ab_I q117.1]) (as := [ab_I t118, ab_I t119]) (b := v2) (pc := 907) dL_law_907 ml_RL_109 my_X9_sharing mv_X9_sharing hb (ct_X9_sharing hq120) ⟨Nat.le_of_ble_eq_true rfl, Nat.le_of_ble_eq_true rfl⟩ rfl (Nat.le_of_ble_eq_true rfl) rfl ?_
        refine ab_icmp_eq (pc := 910) (tgt := 1702) dL_law_910 rfl (fun hc => ?_) (fun hc => ?_)
        · have hk := ab_ifp hk hc
          refine ab_sub_ (lv2 := [some (ab_R v0), some (ab_R v1), some (ab_R v2), some (ab_I v3)]) (ab_ss (ab_ss (ab_ss (ab_ss ab_s0)))) ?_
          exact e_L_law_J1702 ih _ _ _ _ _ _ hk
        · have hk := ab_ifn hk hc
          refine ab_iconst (pc := 913) dL_law_913 ab_k_0 ?_
          obtain rfl := Option.some.inj hk
          exact ab_retz (pc := 914) dL_law_914 rfl rfl
      have hk := ab_ifn hk hc
      have hz22 := hc
      clear hc
      by_cases hc : ab_and t2 (63 : Int) = (23 : Int)
      · have hk := ab_ifp hk hc
        refine ab_tswIn (pc := 33) (v := (23 : Int)) (off := 882) (tgt := 915) dL_law_33 hc ⟨by decide, by decide⟩ rfl rfl ?_
        refine ab_aload_n (pc := 915) (i := 1) dL_law_915 rfl rfl ?_
        refine ab_aload_n (pc := 916) (i := 0) dL_law_916 rfl rfl ?_
        refine ab_iload_n (pc := 917) (i := 3) dL_law_917 rfl rfl ?_
        refine ab_iconst (pc := 918) dL_law_918 ab_k_1 ?_
        refine ab_iadd (pc := 919) dL_law_919 ?_
        obtain ⟨t121, ht121, hk⟩ := ab_bnd hk
        refine ab_scl_ (pc := 920) dL_law_920 rfl ht121 ?_
        refine ab_aload_n (pc := 921) (i := 0) dL_law_921 rfl rfl ?_
        refine ab_iload_n (pc := 922) (i := 3) dL_law_922 rfl rfl ?_
        refine ab_iconst (pc := 923) dL_law_923 ab_k_2 ?_
        refine ab_iadd (pc := 924) dL_law_924 ?_
        obtain ⟨t122, ht122, hk⟩ := ab_bnd hk
        refine ab_scl_ (pc := 925) dL_law_925 rfl ht122 ?_
        obtain ⟨q123, hq123, hk⟩ := ab_bnd hk
        obtain ⟨hb, hq123⟩ := ab_on_some hq123
        refine ab_callVI (st := []) (as := [ab_I t121, ab_I t122]) (b := v1) (pc := 926) dL_law_926 ml_RL_110 my_X8_alike mv_X8_alike hb (ct_X8_alike hq123) ⟨Nat.le_of_ble_eq_true rfl, Nat.le_of_ble_eq_true rfl⟩ rfl (Nat.le_of_ble_eq_true rfl) rfl ?_
        refine ab_aload_n (pc := 929) (i := 2) dL_law_929 rfl rfl ?_
        refine ab_aload_n (pc := 930) (i := 0) dL_law_930 rfl rfl ?_
        refine ab_iload_n (pc := 931) (i := 3) dL_law_931 rfl rfl ?_
        refine ab_iconst (pc := 932) dL_law_932 ab_k_1 ?_
        refine ab_iadd (pc := 933) dL_law_933 ?_
        obtain ⟨t124, ht124, hk⟩ := ab_bnd hk
        refine ab_scl_ (pc := 934) dL_law_934 rfl ht124 ?_
        refine ab_aload_n (pc := 935) (i := 0) dL_law_935 rfl rfl ?_
        refine ab_iload_n (pc := 936) (i := 3) dL_law_936 rfl rfl ?_
        refine ab_iconst (pc := 937) dL_law_937 ab_k_2 ?_
        refine ab_iadd (pc := 938) dL_law_938 ?_
        obtain ⟨t125, ht125, hk⟩ := ab_bnd hk
        refine ab_scl_ (pc := 939) dL_law_939 rfl ht125 ?_
        obtain ⟨q126, hq126, hk⟩ := ab_bnd hk
        obtain ⟨hb, hq126⟩ := ab_on_some hq126
        refine ab_callVI (st := [ab_I q123.1]) (as := [ab_I t124, ab_I t125]) (b := v2) (pc := 940) dL_law_940 ml_RL_113 my_X9_alike mv_X9_alike hb (ct_X9_alike hq126) ⟨Nat.le_of_ble_eq_true rfl, Nat.le_of_ble_eq_true rfl⟩ rfl (Nat.le_of_ble_eq_true rfl) rfl ?_
        refine ab_icmp_eq (pc := 943) (tgt := 1702) dL_law_943 rfl (fun hc => ?_) (fun hc => ?_)
        · have hk := ab_ifp hk hc
          refine ab_sub_ (lv2 := [some (ab_R v0), some (ab_R v1), some (ab_R v2), some (ab_I v3)]) (ab_ss (ab_ss (ab_ss (ab_ss ab_s0)))) ?_
          exact e_L_law_J1702 ih _ _ _ _ _ _ hk
        · have hk := ab_ifn hk hc
          refine ab_iconst (pc := 946) dL_law_946 ab_k_0 ?_
          obtain rfl := Option.some.inj hk
          exact ab_retz (pc := 947) dL_law_947 rfl rfl
      have hk := ab_ifn hk hc
      have hz23 := hc
      clear hc
      by_cases hc : ab_and t2 (63 : Int) = (24 : Int)
      · have hk := ab_ifp hk hc
        refine ab_tswIn (pc := 33) (v := (24 : Int)) (off := 915) (tgt := 948) dL_law_33 hc ⟨by decide, by decide⟩ rfl rfl ?_
        refine ab_aload_n (pc := 948) (i := 1) dL_law_948 rfl rfl ?_
        refine ab_aload_n (pc := 949) (i := 0) dL_law_949 rfl rfl ?_
        refine ab_iload_n (pc := 950) (i := 3) dL_law_950 rfl rfl ?_
        refine ab_iconst (pc := 951) dL_law_951 ab_k_1 ?_
        refine ab_iadd (pc := 952) dL_law_952 ?_
        obtain ⟨t127, ht127, hk⟩ := ab_bnd hk
        refine ab_scl_ (pc := 953) dL_law_953 rfl ht127 ?_
        refine ab_aload_n (pc := 954) (i := 0) dL_law_954 rfl rfl ?_
        refine ab_iload_n (pc := 955) (i := 3) dL_law_955 rfl rfl ?_
        refine ab_iconst (pc := 956) dL_law_956 ab_k_2 ?_
        refine ab_iadd (pc := 957) dL_law_957 ?_
        obtain ⟨t128, ht128, hk⟩ := ab_bnd hk
        refine ab_scl_ (pc := 958) dL_law_958 rfl ht128 ?_
        refine ab_aload_n (pc := 959) (i := 0) dL_law_959 rfl rfl ?_
        refine ab_iload_n (pc := 960) (i := 3) dL_law_960 rfl rfl ?_
        refine ab_iconst (pc := 961) dL_law_961 ab_k_3 ?_
        refine ab_iadd (pc := 962) dL_law_962 ?_
        obtain ⟨t129, ht129, hk⟩ := ab_bnd hk
        refine ab_scl_ (pc := 963) dL_law_963 rfl ht129 ?_
        obtain ⟨q130, hq130, hk⟩ := ab_bnd hk
        obtain ⟨hb, hq130⟩ := ab_on_some hq130
        refine ab_callVI (st := []) (as := [ab_I t127, ab_I t128, ab_I t129]) (b := v1) (pc := 964) dL_law_964 ml_RL_114 my_X8_common mv_X8_common hb (ct_X8_common hq130) ⟨Nat.le_of_ble_eq_true rfl, Nat.le_of_ble_eq_true rfl⟩ rfl (Nat.le_of_ble_eq_true rfl) rfl ?_
        refine ab_aload_n (pc := 967) (i := 2) dL_law_967 rfl rfl ?_
        refine ab_aload_n (pc := 968) (i := 0) dL_law_968 rfl rfl ?_
        refine ab_iload_n (pc := 969) (i := 3) dL_law_969 rfl rfl ?_
        refine ab_iconst (pc := 970) dL_law_970 ab_k_1 ?_
        refine ab_iadd (pc := 971) dL_law_971 ?_
        obtain ⟨t131, ht131, hk⟩ := ab_bnd hk
        refine ab_scl_ (pc := 972) dL_law_972 rfl ht131 ?_
        refine ab_aload_n (pc := 973) (i := 0) dL_law_973 rfl rfl ?_
        refine ab_iload_n (pc := 974) (i := 3) dL_law_974 rfl rfl ?_
        refine ab_iconst (pc := 975) dL_law_975 ab_k_2 ?_
        refine ab_iadd (pc := 976) dL_law_976 ?_
        obtain ⟨t132, ht132, hk⟩ := ab_bnd hk
        refine ab_scl_ (pc := 977) dL_law_977 rfl ht132 ?_
        refine ab_aload_n (pc := 978) (i := 0) dL_law_978 rfl rfl ?_
        refine ab_iload_n (pc := 979) (i := 3) dL_law_979 rfl rfl ?_
        refine ab_iconst (pc := 980) dL_law_980 ab_k_3 ?_
        refine ab_iadd (pc := 981) dL_law_981 ?_
        obtain ⟨t133, ht133, hk⟩ := ab_bnd hk
        refine ab_scl_ (pc := 982) dL_law_982 rfl ht133 ?_
        obtain ⟨q134, hq134, hk⟩ := ab_bnd hk
        obtain ⟨hb, hq134⟩ := ab_on_some hq134
        refine ab_callVI (st := [ab_I q130.1]) (as := [ab_I t131, ab_I t132, ab_I t133]) (b := v2) (pc := 983) dL_law_983 ml_RL_117 my_X9_common mv_X9_common hb (ct_X9_common hq134) ⟨Nat.le_of_ble_eq_true rfl, Nat.le_of_ble_eq_true rfl⟩ rfl (Nat.le_of_ble_eq_true rfl) rfl ?_
        refine ab_icmp_eq (pc := 986) (tgt := 1702) dL_law_986 rfl (fun hc => ?_) (fun hc => ?_)
        · have hk := ab_ifp hk hc
          refine ab_sub_ (lv2 := [some (ab_R v0), some (ab_R v1), some (ab_R v2), some (ab_I v3)]) (ab_ss (ab_ss (ab_ss (ab_ss ab_s0)))) ?_
          exact e_L_law_J1702 ih _ _ _ _ _ _ hk
        · have hk := ab_ifn hk hc
          refine ab_iconst (pc := 989) dL_law_989 ab_k_0 ?_
          obtain rfl := Option.some.inj hk
          exact ab_retz (pc := 990) dL_law_990 rfl rfl
      have hk := ab_ifn hk hc
      have hz24 := hc
      clear hc
      by_cases hc : ab_and t2 (63 : Int) = (25 : Int)
      · have hk := ab_ifp hk hc
        refine ab_tswIn (pc := 33) (v := (25 : Int)) (off := 958) (tgt := 991) dL_law_33 hc ⟨by decide, by decide⟩ rfl rfl ?_
        refine ab_aload_n (pc := 991) (i := 1) dL_law_991 rfl rfl ?_
        refine ab_aload_n (pc := 992) (i := 0) dL_law_992 rfl rfl ?_
        refine ab_iload_n (pc := 993) (i := 3) dL_law_993 rfl rfl ?_
        refine ab_iconst (pc := 994) dL_law_994 ab_k_1 ?_
        refine ab_iadd (pc := 995) dL_law_995 ?_
        obtain ⟨t135, ht135, hk⟩ := ab_bnd hk
        refine ab_scl_ (pc := 996) dL_law_996 rfl ht135 ?_
        obtain ⟨q136, hq136, hk⟩ := ab_bnd hk
        obtain ⟨hb, hq136⟩ := ab_on_some hq136
        refine ab_callVI (st := []) (as := [ab_I t135]) (b := v1) (pc := 997) dL_law_997 ml_RL_118 my_X8_nearest mv_X8_nearest hb (ct_X8_nearest hq136) ⟨Nat.le_of_ble_eq_true rfl, Nat.le_of_ble_eq_true rfl⟩ rfl (Nat.le_of_ble_eq_true rfl) rfl ?_
        refine ab_aload_n (pc := 1000) (i := 2) dL_law_1000 rfl rfl ?_
        refine ab_aload_n (pc := 1001) (i := 0) dL_law_1001 rfl rfl ?_
        refine ab_iload_n (pc := 1002) (i := 3) dL_law_1002 rfl rfl ?_
        refine ab_iconst (pc := 1003) dL_law_1003 ab_k_1 ?_
        refine ab_iadd (pc := 1004) dL_law_1004 ?_
        obtain ⟨t137, ht137, hk⟩ := ab_bnd hk
        refine ab_scl_ (pc := 1005) dL_law_1005 rfl ht137 ?_
        obtain ⟨q138, hq138, hk⟩ := ab_bnd hk
        obtain ⟨hb, hq138⟩ := ab_on_some hq138
        refine ab_callVI (st := [ab_I q136.1]) (as := [ab_I t137]) (b := v2) (pc := 1006) dL_law_1006 ml_RL_121 my_X9_nearest mv_X9_nearest hb (ct_X9_nearest hq138) ⟨Nat.le_of_ble_eq_true rfl, Nat.le_of_ble_eq_true rfl⟩ rfl (Nat.le_of_ble_eq_true rfl) rfl ?_
        refine ab_icmp_eq (pc := 1009) (tgt := 1702) dL_law_1009 rfl (fun hc => ?_) (fun hc => ?_)
        · have hk := ab_ifp hk hc
          refine ab_sub_ (lv2 := [some (ab_R v0), some (ab_R v1), some (ab_R v2), some (ab_I v3)]) (ab_ss (ab_ss (ab_ss (ab_ss ab_s0)))) ?_
          exact e_L_law_J1702 ih _ _ _ _ _ _ hk
        · have hk := ab_ifn hk hc
          refine ab_iconst (pc := 1012) dL_law_1012 ab_k_0 ?_
          obtain rfl := Option.some.inj hk
          exact ab_retz (pc := 1013) dL_law_1013 rfl rfl
      have hk := ab_ifn hk hc
      have hz25 := hc
      clear hc
      by_cases hc : ab_and t2 (63 : Int) = (26 : Int)
      · have hk := ab_ifp hk hc
        refine ab_tswIn (pc := 33) (v := (26 : Int)) (off := 981) (tgt := 1014) dL_law_33 hc ⟨by decide, by decide⟩ rfl rfl ?_
        refine ab_aload_n (pc := 1014) (i := 1) dL_law_1014 rfl rfl ?_
        obtain ⟨q139, hq139, hk⟩ := ab_bnd hk
        obtain ⟨hb, hq139⟩ := ab_on_some hq139
        refine ab_callVI (st := []) (as := []) (b := v1) (pc := 1015) dL_law_1015 ml_RL_122 my_X8_senses mv_X8_senses hb (ct_X8_senses hq139) ⟨Nat.le_of_ble_eq_true rfl, Nat.le_of_ble_eq_true rfl⟩ rfl (Nat.le_of_ble_eq_true rfl) rfl ?_
        refine ab_aload_n (pc := 1018) (i := 2) dL_law_1018 rfl rfl ?_
        obtain ⟨q140, hq140, hk⟩ := ab_bnd hk
        obtain ⟨hb, hq140⟩ := ab_on_some hq140
        refine ab_callVI (st := [ab_I q139.1]) (as := []) (b := v2) (pc := 1019) dL_law_1019 ml_RL_125 my_X9_senses mv_X9_senses hb (ct_X9_senses hq140) ⟨Nat.le_of_ble_eq_true rfl, Nat.le_of_ble_eq_true rfl⟩ rfl (Nat.le_of_ble_eq_true rfl) rfl ?_
        refine ab_icmp_eq (pc := 1022) (tgt := 1702) dL_law_1022 rfl (fun hc => ?_) (fun hc => ?_)
        · have hk := ab_ifp hk hc
          refine ab_sub_ (lv2 := [some (ab_R v0), some (ab_R v1), some (ab_R v2), some (ab_I v3)]) (ab_ss (ab_ss (ab_ss (ab_ss ab_s0)))) ?_
          exact e_L_law_J1702 ih _ _ _ _ _ _ hk
        · have hk := ab_ifn hk hc
          refine ab_iconst (pc := 1025) dL_law_1025 ab_k_0 ?_
          obtain rfl := Option.some.inj hk
          exact ab_retz (pc := 1026) dL_law_1026 rfl rfl
      have hk := ab_ifn hk hc
      have hz26 := hc
      clear hc
      by_cases hc : ab_and t2 (63 : Int) = (27 : Int)
      · have hk := ab_ifp hk hc
        refine ab_tswIn (pc := 33) (v := (27 : Int)) (off := 994) (tgt := 1027) dL_law_33 hc ⟨by decide, by decide⟩ rfl rfl ?_
        refine ab_aload_n (pc := 1027) (i := 1) dL_law_1027 rfl rfl ?_
        refine ab_aload_n (pc := 1028) (i := 0) dL_law_1028 rfl rfl ?_
        refine ab_iload_n (pc := 1029) (i := 3) dL_law_1029 rfl rfl ?_
        refine ab_iconst (pc := 1030) dL_law_1030 ab_k_1 ?_
        refine ab_iadd (pc := 1031) dL_law_1031 ?_
        obtain ⟨t141, ht141, hk⟩ := ab_bnd hk
        refine ab_scl_ (pc := 1032) dL_law_1032 rfl ht141 ?_
        refine ab_aload_n (pc := 1033) (i := 0) dL_law_1033 rfl rfl ?_
        refine ab_iload_n (pc := 1034) (i := 3) dL_law_1034 rfl rfl ?_
        refine ab_iconst (pc := 1035) dL_law_1035 ab_k_2 ?_
        refine ab_iadd (pc := 1036) dL_law_1036 ?_
        obtain ⟨t142, ht142, hk⟩ := ab_bnd hk
        refine ab_scl_ (pc := 1037) dL_law_1037 rfl ht142 ?_
        refine ab_aload_n (pc := 1038) (i := 0) dL_law_1038 rfl rfl ?_
        refine ab_iload_n (pc := 1039) (i := 3) dL_law_1039 rfl rfl ?_
        refine ab_iconst (pc := 1040) dL_law_1040 ab_k_3 ?_
        refine ab_iadd (pc := 1041) dL_law_1041 ?_
        obtain ⟨t143, ht143, hk⟩ := ab_bnd hk
        refine ab_scl_ (pc := 1042) dL_law_1042 rfl ht143 ?_
        obtain ⟨q144, hq144, hk⟩ := ab_bnd hk
        obtain ⟨hb, hq144⟩ := ab_on_some hq144
        refine ab_callVI (st := []) (as := [ab_I t141, ab_I t142, ab_I t143]) (b := v1) (pc := 1043) dL_law_1043 ml_RL_126 my_X8_beside mv_X8_beside hb (ct_X8_beside hq144) ⟨Nat.le_of_ble_eq_true rfl, Nat.le_of_ble_eq_true rfl⟩ rfl (Nat.le_of_ble_eq_true rfl) rfl ?_
        refine ab_aload_n (pc := 1046) (i := 2) dL_law_1046 rfl rfl ?_
        refine ab_aload_n (pc := 1047) (i := 0) dL_law_1047 rfl rfl ?_
        refine ab_iload_n (pc := 1048) (i := 3) dL_law_1048 rfl rfl ?_
        refine ab_iconst (pc := 1049) dL_law_1049 ab_k_1 ?_
        refine ab_iadd (pc := 1050) dL_law_1050 ?_
        obtain ⟨t145, ht145, hk⟩ := ab_bnd hk
        refine ab_scl_ (pc := 1051) dL_law_1051 rfl ht145 ?_
        refine ab_aload_n (pc := 1052) (i := 0) dL_law_1052 rfl rfl ?_
        refine ab_iload_n (pc := 1053) (i := 3) dL_law_1053 rfl rfl ?_
        refine ab_iconst (pc := 1054) dL_law_1054 ab_k_2 ?_
        refine ab_iadd (pc := 1055) dL_law_1055 ?_
        obtain ⟨t146, ht146, hk⟩ := ab_bnd hk
        refine ab_scl_ (pc := 1056) dL_law_1056 rfl ht146 ?_
        refine ab_aload_n (pc := 1057) (i := 0) dL_law_1057 rfl rfl ?_
        refine ab_iload_n (pc := 1058) (i := 3) dL_law_1058 rfl rfl ?_
        refine ab_iconst (pc := 1059) dL_law_1059 ab_k_3 ?_
        refine ab_iadd (pc := 1060) dL_law_1060 ?_
        obtain ⟨t147, ht147, hk⟩ := ab_bnd hk
        refine ab_scl_ (pc := 1061) dL_law_1061 rfl ht147 ?_
        obtain ⟨q148, hq148, hk⟩ := ab_bnd hk
        obtain ⟨hb, hq148⟩ := ab_on_some hq148
        refine ab_callVI (st := [ab_I q144.1]) (as := [ab_I t145, ab_I t146, ab_I t147]) (b := v2) (pc := 1062) dL_law_1062 ml_RL_129 my_X9_beside mv_X9_beside hb (ct_X9_beside hq148) ⟨Nat.le_of_ble_eq_true rfl, Nat.le_of_ble_eq_true rfl⟩ rfl (Nat.le_of_ble_eq_true rfl) rfl ?_
        refine ab_icmp_eq (pc := 1065) (tgt := 1702) dL_law_1065 rfl (fun hc => ?_) (fun hc => ?_)
        · have hk := ab_ifp hk hc
          refine ab_sub_ (lv2 := [some (ab_R v0), some (ab_R v1), some (ab_R v2), some (ab_I v3)]) (ab_ss (ab_ss (ab_ss (ab_ss ab_s0)))) ?_
          exact e_L_law_J1702 ih _ _ _ _ _ _ hk
        · have hk := ab_ifn hk hc
          refine ab_iconst (pc := 1068) dL_law_1068 ab_k_0 ?_
          obtain rfl := Option.some.inj hk
          exact ab_retz (pc := 1069) dL_law_1069 rfl rfl
      have hk := ab_ifn hk hc
      have hz27 := hc
      clear hc
      by_cases hc : ab_and t2 (63 : Int) = (28 : Int)
      · have hk := ab_ifp hk hc
        refine ab_tswIn (pc := 33) (v := (28 : Int)) (off := 1037) (tgt := 1070) dL_law_33 hc ⟨by decide, by decide⟩ rfl rfl ?_
        refine ab_aload_n (pc := 1070) (i := 1) dL_law_1070 rfl rfl ?_
        refine ab_aload_n (pc := 1071) (i := 0) dL_law_1071 rfl rfl ?_
        refine ab_iload_n (pc := 1072) (i := 3) dL_law_1072 rfl rfl ?_
        refine ab_iconst (pc := 1073) dL_law_1073 ab_k_1 ?_
        refine ab_iadd (pc := 1074) dL_law_1074 ?_
        obtain ⟨t149, ht149, hk⟩ := ab_bnd hk
        refine ab_scl_ (pc := 1075) dL_law_1075 rfl ht149 ?_
        obtain ⟨q150, hq150, hk⟩ := ab_bnd hk
        obtain ⟨hb, hq150⟩ := ab_on_some hq150
        refine ab_callVI (st := []) (as := [ab_I t149]) (b := v1) (pc := 1076) dL_law_1076 ml_RL_130 my_X8_often mv_X8_often hb (ct_X8_often hq150) ⟨Nat.le_of_ble_eq_true rfl, Nat.le_of_ble_eq_true rfl⟩ rfl (Nat.le_of_ble_eq_true rfl) rfl ?_
        refine ab_aload_n (pc := 1079) (i := 2) dL_law_1079 rfl rfl ?_
        refine ab_aload_n (pc := 1080) (i := 0) dL_law_1080 rfl rfl ?_
        refine ab_iload_n (pc := 1081) (i := 3) dL_law_1081 rfl rfl ?_
        refine ab_iconst (pc := 1082) dL_law_1082 ab_k_1 ?_
        refine ab_iadd (pc := 1083) dL_law_1083 ?_
        obtain ⟨t151, ht151, hk⟩ := ab_bnd hk
        refine ab_scl_ (pc := 1084) dL_law_1084 rfl ht151 ?_
        obtain ⟨q152, hq152, hk⟩ := ab_bnd hk
        obtain ⟨hb, hq152⟩ := ab_on_some hq152
        refine ab_callVI (st := [ab_I q150.1]) (as := [ab_I t151]) (b := v2) (pc := 1085) dL_law_1085 ml_RL_133 my_X9_often mv_X9_often hb (ct_X9_often hq152) ⟨Nat.le_of_ble_eq_true rfl, Nat.le_of_ble_eq_true rfl⟩ rfl (Nat.le_of_ble_eq_true rfl) rfl ?_
        refine ab_icmp_eq (pc := 1088) (tgt := 1702) dL_law_1088 rfl (fun hc => ?_) (fun hc => ?_)
        · have hk := ab_ifp hk hc
          refine ab_sub_ (lv2 := [some (ab_R v0), some (ab_R v1), some (ab_R v2), some (ab_I v3)]) (ab_ss (ab_ss (ab_ss (ab_ss ab_s0)))) ?_
          exact e_L_law_J1702 ih _ _ _ _ _ _ hk
        · have hk := ab_ifn hk hc
          refine ab_iconst (pc := 1091) dL_law_1091 ab_k_0 ?_
          obtain rfl := Option.some.inj hk
          exact ab_retz (pc := 1092) dL_law_1092 rfl rfl
      have hk := ab_ifn hk hc
      have hz28 := hc
      clear hc
      by_cases hc : ab_and t2 (63 : Int) = (29 : Int)
      · have hk := ab_ifp hk hc
        refine ab_tswIn (pc := 33) (v := (29 : Int)) (off := 1060) (tgt := 1093) dL_law_33 hc ⟨by decide, by decide⟩ rfl rfl ?_
        refine ab_aload_n (pc := 1093) (i := 1) dL_law_1093 rfl rfl ?_
        refine ab_aload_n (pc := 1094) (i := 0) dL_law_1094 rfl rfl ?_
        refine ab_iload_n (pc := 1095) (i := 3) dL_law_1095 rfl rfl ?_
        refine ab_iconst (pc := 1096) dL_law_1096 ab_k_1 ?_
        refine ab_iadd (pc := 1097) dL_law_1097 ?_
        obtain ⟨t153, ht153, hk⟩ := ab_bnd hk
        refine ab_scl_ (pc := 1098) dL_law_1098 rfl ht153 ?_
        obtain ⟨q154, hq154, hk⟩ := ab_bnd hk
        obtain ⟨hb, hq154⟩ := ab_on_some hq154
        refine ab_callVI (st := []) (as := [ab_I t153]) (b := v1) (pc := 1099) dL_law_1099 ml_RL_134 my_X8_most mv_X8_most hb (ct_X8_most hq154) ⟨Nat.le_of_ble_eq_true rfl, Nat.le_of_ble_eq_true rfl⟩ rfl (Nat.le_of_ble_eq_true rfl) rfl ?_
        refine ab_aload_n (pc := 1102) (i := 2) dL_law_1102 rfl rfl ?_
        refine ab_aload_n (pc := 1103) (i := 0) dL_law_1103 rfl rfl ?_
        refine ab_iload_n (pc := 1104) (i := 3) dL_law_1104 rfl rfl ?_
        refine ab_iconst (pc := 1105) dL_law_1105 ab_k_1 ?_
        refine ab_iadd (pc := 1106) dL_law_1106 ?_
        obtain ⟨t155, ht155, hk⟩ := ab_bnd hk
        refine ab_scl_ (pc := 1107) dL_law_1107 rfl ht155 ?_
        obtain ⟨q156, hq156, hk⟩ := ab_bnd hk
        obtain ⟨hb, hq156⟩ := ab_on_some hq156
        refine ab_callVI (st := [ab_I q154.1]) (as := [ab_I t155]) (b := v2) (pc := 1108) dL_law_1108 ml_RL_137 my_X9_most mv_X9_most hb (ct_X9_most hq156) ⟨Nat.le_of_ble_eq_true rfl, Nat.le_of_ble_eq_true rfl⟩ rfl (Nat.le_of_ble_eq_true rfl) rfl ?_
        refine ab_icmp_eq (pc := 1111) (tgt := 1702) dL_law_1111 rfl (fun hc => ?_) (fun hc => ?_)
        · have hk := ab_ifp hk hc
          refine ab_sub_ (lv2 := [some (ab_R v0), some (ab_R v1), some (ab_R v2), some (ab_I v3)]) (ab_ss (ab_ss (ab_ss (ab_ss ab_s0)))) ?_
          exact e_L_law_J1702 ih _ _ _ _ _ _ hk
        · have hk := ab_ifn hk hc
          refine ab_iconst (pc := 1114) dL_law_1114 ab_k_0 ?_
          obtain rfl := Option.some.inj hk
          exact ab_retz (pc := 1115) dL_law_1115 rfl rfl
      have hk := ab_ifn hk hc
      have hz29 := hc
      clear hc
      by_cases hc : ab_and t2 (63 : Int) = (30 : Int)
      · have hk := ab_ifp hk hc
        refine ab_tswIn (pc := 33) (v := (30 : Int)) (off := 1083) (tgt := 1116) dL_law_33 hc ⟨by decide, by decide⟩ rfl rfl ?_
        refine ab_aload_n (pc := 1116) (i := 1) dL_law_1116 rfl rfl ?_
        refine ab_aload_n (pc := 1117) (i := 0) dL_law_1117 rfl rfl ?_
        refine ab_iload_n (pc := 1118) (i := 3) dL_law_1118 rfl rfl ?_
        refine ab_iconst (pc := 1119) dL_law_1119 ab_k_1 ?_
        refine ab_iadd (pc := 1120) dL_law_1120 ?_
        obtain ⟨t157, ht157, hk⟩ := ab_bnd hk
        refine ab_scl_ (pc := 1121) dL_law_1121 rfl ht157 ?_
        obtain ⟨q158, hq158, hk⟩ := ab_bnd hk
        obtain ⟨hb, hq158⟩ := ab_on_some hq158
        refine ab_callVI (st := []) (as := [ab_I t157]) (b := v1) (pc := 1122) dL_law_1122 ml_RL_138 my_X8_apart mv_X8_apart hb (ct_X8_apart hq158) ⟨Nat.le_of_ble_eq_true rfl, Nat.le_of_ble_eq_true rfl⟩ rfl (Nat.le_of_ble_eq_true rfl) rfl ?_
        refine ab_aload_n (pc := 1125) (i := 2) dL_law_1125 rfl rfl ?_
        refine ab_aload_n (pc := 1126) (i := 0) dL_law_1126 rfl rfl ?_
        refine ab_iload_n (pc := 1127) (i := 3) dL_law_1127 rfl rfl ?_
        refine ab_iconst (pc := 1128) dL_law_1128 ab_k_1 ?_
        refine ab_iadd (pc := 1129) dL_law_1129 ?_
        obtain ⟨t159, ht159, hk⟩ := ab_bnd hk
        refine ab_scl_ (pc := 1130) dL_law_1130 rfl ht159 ?_
        obtain ⟨q160, hq160, hk⟩ := ab_bnd hk
        obtain ⟨hb, hq160⟩ := ab_on_some hq160
        refine ab_callVI (st := [ab_I q158.1]) (as := [ab_I t159]) (b := v2) (pc := 1131) dL_law_1131 ml_RL_141 my_X9_apart mv_X9_apart hb (ct_X9_apart hq160) ⟨Nat.le_of_ble_eq_true rfl, Nat.le_of_ble_eq_true rfl⟩ rfl (Nat.le_of_ble_eq_true rfl) rfl ?_
        refine ab_icmp_eq (pc := 1134) (tgt := 1702) dL_law_1134 rfl (fun hc => ?_) (fun hc => ?_)
        · have hk := ab_ifp hk hc
          refine ab_sub_ (lv2 := [some (ab_R v0), some (ab_R v1), some (ab_R v2), some (ab_I v3)]) (ab_ss (ab_ss (ab_ss (ab_ss ab_s0)))) ?_
          exact e_L_law_J1702 ih _ _ _ _ _ _ hk
        · have hk := ab_ifn hk hc
          refine ab_iconst (pc := 1137) dL_law_1137 ab_k_0 ?_
          obtain rfl := Option.some.inj hk
          exact ab_retz (pc := 1138) dL_law_1138 rfl rfl
      have hk := ab_ifn hk hc
      have hz30 := hc
      clear hc
      by_cases hc : ab_and t2 (63 : Int) = (31 : Int)
      · have hk := ab_ifp hk hc
        refine ab_tswIn (pc := 33) (v := (31 : Int)) (off := 1106) (tgt := 1139) dL_law_33 hc ⟨by decide, by decide⟩ rfl rfl ?_
        refine ab_aload_n (pc := 1139) (i := 1) dL_law_1139 rfl rfl ?_
        obtain ⟨q161, hq161, hk⟩ := ab_bnd hk
        obtain ⟨hb, hq161⟩ := ab_on_some hq161
        refine ab_callVI (st := []) (as := []) (b := v1) (pc := 1140) dL_law_1140 ml_RL_142 my_X8_cover mv_X8_cover hb (ct_X8_cover hq161) ⟨Nat.le_of_ble_eq_true rfl, Nat.le_of_ble_eq_true rfl⟩ rfl (Nat.le_of_ble_eq_true rfl) rfl ?_
        refine ab_aload_n (pc := 1143) (i := 2) dL_law_1143 rfl rfl ?_
        obtain ⟨q162, hq162, hk⟩ := ab_bnd hk
        obtain ⟨hb, hq162⟩ := ab_on_some hq162
        refine ab_callVI (st := [ab_I q161.1]) (as := []) (b := v2) (pc := 1144) dL_law_1144 ml_RL_145 my_X9_cover mv_X9_cover hb (ct_X9_cover hq162) ⟨Nat.le_of_ble_eq_true rfl, Nat.le_of_ble_eq_true rfl⟩ rfl (Nat.le_of_ble_eq_true rfl) rfl ?_
        refine ab_icmp_eq (pc := 1147) (tgt := 1702) dL_law_1147 rfl (fun hc => ?_) (fun hc => ?_)
        · have hk := ab_ifp hk hc
          refine ab_sub_ (lv2 := [some (ab_R v0), some (ab_R v1), some (ab_R v2), some (ab_I v3)]) (ab_ss (ab_ss (ab_ss (ab_ss ab_s0)))) ?_
          exact e_L_law_J1702 ih _ _ _ _ _ _ hk
        · have hk := ab_ifn hk hc
          refine ab_iconst (pc := 1150) dL_law_1150 ab_k_0 ?_
          obtain rfl := Option.some.inj hk
          exact ab_retz (pc := 1151) dL_law_1151 rfl rfl
      have hk := ab_ifn hk hc
      have hz31 := hc
      clear hc
      by_cases hc : ab_and t2 (63 : Int) = (32 : Int)
      · have hk := ab_ifp hk hc
        refine ab_tswIn (pc := 33) (v := (32 : Int)) (off := 1119) (tgt := 1152) dL_law_33 hc ⟨by decide, by decide⟩ rfl rfl ?_
        refine ab_aload_n (pc := 1152) (i := 1) dL_law_1152 rfl rfl ?_
        refine ab_aload_n (pc := 1153) (i := 0) dL_law_1153 rfl rfl ?_
        refine ab_iload_n (pc := 1154) (i := 3) dL_law_1154 rfl rfl ?_
        refine ab_iconst (pc := 1155) dL_law_1155 ab_k_1 ?_
        refine ab_iadd (pc := 1156) dL_law_1156 ?_
        obtain ⟨t163, ht163, hk⟩ := ab_bnd hk
        refine ab_scl_ (pc := 1157) dL_law_1157 rfl ht163 ?_
        refine ab_aload_n (pc := 1158) (i := 0) dL_law_1158 rfl rfl ?_
        refine ab_iload_n (pc := 1159) (i := 3) dL_law_1159 rfl rfl ?_
        refine ab_iconst (pc := 1160) dL_law_1160 ab_k_2 ?_
        refine ab_iadd (pc := 1161) dL_law_1161 ?_
        obtain ⟨t164, ht164, hk⟩ := ab_bnd hk
        refine ab_scl_ (pc := 1162) dL_law_1162 rfl ht164 ?_
        refine ab_aload_n (pc := 1163) (i := 0) dL_law_1163 rfl rfl ?_
        refine ab_iload_n (pc := 1164) (i := 3) dL_law_1164 rfl rfl ?_
        refine ab_iconst (pc := 1165) dL_law_1165 ab_k_3 ?_
        refine ab_iadd (pc := 1166) dL_law_1166 ?_
        obtain ⟨t165, ht165, hk⟩ := ab_bnd hk
        refine ab_scl_ (pc := 1167) dL_law_1167 rfl ht165 ?_
        obtain ⟨q166, hq166, hk⟩ := ab_bnd hk
        obtain ⟨hb, hq166⟩ := ab_on_some hq166
        refine ab_callVI (st := []) (as := [ab_I t163, ab_I t164, ab_I t165]) (b := v1) (pc := 1168) dL_law_1168 ml_RL_146 my_X8_would mv_X8_would hb (ct_X8_would hq166) ⟨Nat.le_of_ble_eq_true rfl, Nat.le_of_ble_eq_true rfl⟩ rfl (Nat.le_of_ble_eq_true rfl) rfl ?_
        refine ab_aload_n (pc := 1171) (i := 2) dL_law_1171 rfl rfl ?_
        refine ab_aload_n (pc := 1172) (i := 0) dL_law_1172 rfl rfl ?_
        refine ab_iload_n (pc := 1173) (i := 3) dL_law_1173 rfl rfl ?_
        refine ab_iconst (pc := 1174) dL_law_1174 ab_k_1 ?_
        refine ab_iadd (pc := 1175) dL_law_1175 ?_
        obtain ⟨t167, ht167, hk⟩ := ab_bnd hk
        refine ab_scl_ (pc := 1176) dL_law_1176 rfl ht167 ?_
        refine ab_aload_n (pc := 1177) (i := 0) dL_law_1177 rfl rfl ?_
        refine ab_iload_n (pc := 1178) (i := 3) dL_law_1178 rfl rfl ?_
        refine ab_iconst (pc := 1179) dL_law_1179 ab_k_2 ?_
        refine ab_iadd (pc := 1180) dL_law_1180 ?_
        obtain ⟨t168, ht168, hk⟩ := ab_bnd hk
        refine ab_scl_ (pc := 1181) dL_law_1181 rfl ht168 ?_
        refine ab_aload_n (pc := 1182) (i := 0) dL_law_1182 rfl rfl ?_
        refine ab_iload_n (pc := 1183) (i := 3) dL_law_1183 rfl rfl ?_
        refine ab_iconst (pc := 1184) dL_law_1184 ab_k_3 ?_
        refine ab_iadd (pc := 1185) dL_law_1185 ?_
        obtain ⟨t169, ht169, hk⟩ := ab_bnd hk
        refine ab_scl_ (pc := 1186) dL_law_1186 rfl ht169 ?_
        obtain ⟨q170, hq170, hk⟩ := ab_bnd hk
        obtain ⟨hb, hq170⟩ := ab_on_some hq170
        refine ab_callVI (st := [ab_I q166.1]) (as := [ab_I t167, ab_I t168, ab_I t169]) (b := v2) (pc := 1187) dL_law_1187 ml_RL_149 my_X9_would mv_X9_would hb (ct_X9_would hq170) ⟨Nat.le_of_ble_eq_true rfl, Nat.le_of_ble_eq_true rfl⟩ rfl (Nat.le_of_ble_eq_true rfl) rfl ?_
        refine ab_icmp_eq (pc := 1190) (tgt := 1702) dL_law_1190 rfl (fun hc => ?_) (fun hc => ?_)
        · have hk := ab_ifp hk hc
          refine ab_sub_ (lv2 := [some (ab_R v0), some (ab_R v1), some (ab_R v2), some (ab_I v3)]) (ab_ss (ab_ss (ab_ss (ab_ss ab_s0)))) ?_
          exact e_L_law_J1702 ih _ _ _ _ _ _ hk
        · have hk := ab_ifn hk hc
          refine ab_iconst (pc := 1193) dL_law_1193 ab_k_0 ?_
          obtain rfl := Option.some.inj hk
          exact ab_retz (pc := 1194) dL_law_1194 rfl rfl
      have hk := ab_ifn hk hc
      have hz32 := hc
      clear hc
      by_cases hc : ab_and t2 (63 : Int) = (33 : Int)
      · have hk := ab_ifp hk hc
        refine ab_tswIn (pc := 33) (v := (33 : Int)) (off := 1162) (tgt := 1195) dL_law_33 hc ⟨by decide, by decide⟩ rfl rfl ?_
        refine ab_aload_n (pc := 1195) (i := 1) dL_law_1195 rfl rfl ?_
        obtain ⟨q171, hq171, hk⟩ := ab_bnd hk
        obtain ⟨hb, hq171⟩ := ab_on_some hq171
        refine ab_callVI (st := []) (as := []) (b := v1) (pc := 1196) dL_law_1196 ml_RL_150 my_X8_adds mv_X8_adds hb (ct_X8_adds hq171) ⟨Nat.le_of_ble_eq_true rfl, Nat.le_of_ble_eq_true rfl⟩ rfl (Nat.le_of_ble_eq_true rfl) rfl ?_
        refine ab_aload_n (pc := 1199) (i := 2) dL_law_1199 rfl rfl ?_
        obtain ⟨q172, hq172, hk⟩ := ab_bnd hk
        obtain ⟨hb, hq172⟩ := ab_on_some hq172
        refine ab_callVI (st := [ab_I q171.1]) (as := []) (b := v2) (pc := 1200) dL_law_1200 ml_RL_153 my_X9_adds mv_X9_adds hb (ct_X9_adds hq172) ⟨Nat.le_of_ble_eq_true rfl, Nat.le_of_ble_eq_true rfl⟩ rfl (Nat.le_of_ble_eq_true rfl) rfl ?_
        refine ab_icmp_eq (pc := 1203) (tgt := 1702) dL_law_1203 rfl (fun hc => ?_) (fun hc => ?_)
        · have hk := ab_ifp hk hc
          refine ab_sub_ (lv2 := [some (ab_R v0), some (ab_R v1), some (ab_R v2), some (ab_I v3)]) (ab_ss (ab_ss (ab_ss (ab_ss ab_s0)))) ?_
          exact e_L_law_J1702 ih _ _ _ _ _ _ hk
        · have hk := ab_ifn hk hc
          refine ab_iconst (pc := 1206) dL_law_1206 ab_k_0 ?_
          obtain rfl := Option.some.inj hk
          exact ab_retz (pc := 1207) dL_law_1207 rfl rfl
      have hk := ab_ifn hk hc
      have hz33 := hc
      clear hc
      by_cases hc : ab_and t2 (63 : Int) = (34 : Int)
      · have hk := ab_ifp hk hc
        refine ab_tswIn (pc := 33) (v := (34 : Int)) (off := 1175) (tgt := 1208) dL_law_33 hc ⟨by decide, by decide⟩ rfl rfl ?_
        refine ab_aload_n (pc := 1208) (i := 1) dL_law_1208 rfl rfl ?_
        refine ab_aload_n (pc := 1209) (i := 0) dL_law_1209 rfl rfl ?_
        refine ab_iload_n (pc := 1210) (i := 3) dL_law_1210 rfl rfl ?_
        refine ab_iconst (pc := 1211) dL_law_1211 ab_k_1 ?_
        refine ab_iadd (pc := 1212) dL_law_1212 ?_
        obtain ⟨t173, ht173, hk⟩ := ab_bnd hk
        refine ab_scl_ (pc := 1213) dL_law_1213 rfl ht173 ?_
        obtain ⟨q174, hq174, hk⟩ := ab_bnd hk
        obtain ⟨hb, hq174⟩ := ab_on_some hq174
        refine ab_callVI (st := []) (as := [ab_I t173]) (b := v1) (pc := 1214) dL_law_1214 ml_RL_154 my_X8_drops mv_X8_drops hb (ct_X8_drops hq174) ⟨Nat.le_of_ble_eq_true rfl, Nat.le_of_ble_eq_true rfl⟩ rfl (Nat.le_of_ble_eq_true rfl) rfl ?_
        refine ab_aload_n (pc := 1217) (i := 2) dL_law_1217 rfl rfl ?_
        refine ab_aload_n (pc := 1218) (i := 0) dL_law_1218 rfl rfl ?_
        refine ab_iload_n (pc := 1219) (i := 3) dL_law_1219 rfl rfl ?_
        refine ab_iconst (pc := 1220) dL_law_1220 ab_k_1 ?_
        refine ab_iadd (pc := 1221) dL_law_1221 ?_
        obtain ⟨t175, ht175, hk⟩ := ab_bnd hk
        refine ab_scl_ (pc := 1222) dL_law_1222 rfl ht175 ?_
        obtain ⟨q176, hq176, hk⟩ := ab_bnd hk
        obtain ⟨hb, hq176⟩ := ab_on_some hq176
        refine ab_callVI (st := [ab_I q174.1]) (as := [ab_I t175]) (b := v2) (pc := 1223) dL_law_1223 ml_RL_157 my_X9_drops mv_X9_drops hb (ct_X9_drops hq176) ⟨Nat.le_of_ble_eq_true rfl, Nat.le_of_ble_eq_true rfl⟩ rfl (Nat.le_of_ble_eq_true rfl) rfl ?_
        refine ab_icmp_eq (pc := 1226) (tgt := 1702) dL_law_1226 rfl (fun hc => ?_) (fun hc => ?_)
        · have hk := ab_ifp hk hc
          refine ab_sub_ (lv2 := [some (ab_R v0), some (ab_R v1), some (ab_R v2), some (ab_I v3)]) (ab_ss (ab_ss (ab_ss (ab_ss ab_s0)))) ?_
          exact e_L_law_J1702 ih _ _ _ _ _ _ hk
        · have hk := ab_ifn hk hc
          refine ab_iconst (pc := 1229) dL_law_1229 ab_k_0 ?_
          obtain rfl := Option.some.inj hk
          exact ab_retz (pc := 1230) dL_law_1230 rfl rfl
      have hk := ab_ifn hk hc
      have hz34 := hc
      clear hc
      by_cases hc : ab_and t2 (63 : Int) = (35 : Int)
      · have hk := ab_ifp hk hc
        refine ab_tswIn (pc := 33) (v := (35 : Int)) (off := 1198) (tgt := 1231) dL_law_33 hc ⟨by decide, by decide⟩ rfl rfl ?_
        refine ab_aload_n (pc := 1231) (i := 1) dL_law_1231 rfl rfl ?_
        refine ab_aload_n (pc := 1232) (i := 0) dL_law_1232 rfl rfl ?_
        refine ab_iload_n (pc := 1233) (i := 3) dL_law_1233 rfl rfl ?_
        refine ab_iconst (pc := 1234) dL_law_1234 ab_k_1 ?_
        refine ab_iadd (pc := 1235) dL_law_1235 ?_
        obtain ⟨t177, ht177, hk⟩ := ab_bnd hk
        refine ab_scl_ (pc := 1236) dL_law_1236 rfl ht177 ?_
        refine ab_aload_n (pc := 1237) (i := 0) dL_law_1237 rfl rfl ?_
        refine ab_iload_n (pc := 1238) (i := 3) dL_law_1238 rfl rfl ?_
        refine ab_iconst (pc := 1239) dL_law_1239 ab_k_2 ?_
        refine ab_iadd (pc := 1240) dL_law_1240 ?_
        obtain ⟨t178, ht178, hk⟩ := ab_bnd hk
        refine ab_scl_ (pc := 1241) dL_law_1241 rfl ht178 ?_
        obtain ⟨q179, hq179, hk⟩ := ab_bnd hk
        obtain ⟨hb, hq179⟩ := ab_on_some hq179
        refine ab_callVI (st := []) (as := [ab_I t177, ab_I t178]) (b := v1) (pc := 1242) dL_law_1242 ml_RL_158 my_X8_law mv_X8_law hb (ct_X8_law hq179) ⟨Nat.le_of_ble_eq_true rfl, Nat.le_of_ble_eq_true rfl⟩ rfl (Nat.le_of_ble_eq_true rfl) rfl ?_
        refine ab_aload_n (pc := 1245) (i := 2) dL_law_1245 rfl rfl ?_
        refine ab_aload_n (pc := 1246) (i := 0) dL_law_1246 rfl rfl ?_
        refine ab_iload_n (pc := 1247) (i := 3) dL_law_1247 rfl rfl ?_
        refine ab_iconst (pc := 1248) dL_law_1248 ab_k_1 ?_
        refine ab_iadd (pc := 1249) dL_law_1249 ?_
        obtain ⟨t180, ht180, hk⟩ := ab_bnd hk
        refine ab_scl_ (pc := 1250) dL_law_1250 rfl ht180 ?_
        refine ab_aload_n (pc := 1251) (i := 0) dL_law_1251 rfl rfl ?_
        refine ab_iload_n (pc := 1252) (i := 3) dL_law_1252 rfl rfl ?_
        refine ab_iconst (pc := 1253) dL_law_1253 ab_k_2 ?_
        refine ab_iadd (pc := 1254) dL_law_1254 ?_
        obtain ⟨t181, ht181, hk⟩ := ab_bnd hk
        refine ab_scl_ (pc := 1255) dL_law_1255 rfl ht181 ?_
        obtain ⟨q182, hq182, hk⟩ := ab_bnd hk
        obtain ⟨hb, hq182⟩ := ab_on_some hq182
        refine ab_callVI (st := [ab_I q179.1]) (as := [ab_I t180, ab_I t181]) (b := v2) (pc := 1256) dL_law_1256 ml_RL_161 my_X9_law mv_X9_law hb (ct_X9_law hq182) ⟨Nat.le_of_ble_eq_true rfl, Nat.le_of_ble_eq_true rfl⟩ rfl (Nat.le_of_ble_eq_true rfl) rfl ?_
        refine ab_icmp_eq (pc := 1259) (tgt := 1702) dL_law_1259 rfl (fun hc => ?_) (fun hc => ?_)
        · have hk := ab_ifp hk hc
          refine ab_sub_ (lv2 := [some (ab_R v0), some (ab_R v1), some (ab_R v2), some (ab_I v3)]) (ab_ss (ab_ss (ab_ss (ab_ss ab_s0)))) ?_
          exact e_L_law_J1702 ih _ _ _ _ _ _ hk
        · have hk := ab_ifn hk hc
          refine ab_iconst (pc := 1262) dL_law_1262 ab_k_0 ?_
          obtain rfl := Option.some.inj hk
          exact ab_retz (pc := 1263) dL_law_1263 rfl rfl
      have hk := ab_ifn hk hc
      have hz35 := hc
      clear hc
      by_cases hc : ab_and t2 (63 : Int) = (36 : Int)
      · have hk := ab_ifp hk hc
        refine ab_tswIn (pc := 33) (v := (36 : Int)) (off := 1231) (tgt := 1264) dL_law_33 hc ⟨by decide, by decide⟩ rfl rfl ?_
        refine ab_aload_n (pc := 1264) (i := 1) dL_law_1264 rfl rfl ?_
        refine ab_aload_n (pc := 1265) (i := 0) dL_law_1265 rfl rfl ?_
        refine ab_iload_n (pc := 1266) (i := 3) dL_law_1266 rfl rfl ?_
        refine ab_iconst (pc := 1267) dL_law_1267 ab_k_1 ?_
        refine ab_iadd (pc := 1268) dL_law_1268 ?_
        obtain ⟨t183, ht183, hk⟩ := ab_bnd hk
        refine ab_scl_ (pc := 1269) dL_law_1269 rfl ht183 ?_
        refine ab_aload_n (pc := 1270) (i := 0) dL_law_1270 rfl rfl ?_
        refine ab_iload_n (pc := 1271) (i := 3) dL_law_1271 rfl rfl ?_
        refine ab_iconst (pc := 1272) dL_law_1272 ab_k_2 ?_
        refine ab_iadd (pc := 1273) dL_law_1273 ?_
        obtain ⟨t184, ht184, hk⟩ := ab_bnd hk
        refine ab_scl_ (pc := 1274) dL_law_1274 rfl ht184 ?_
        refine ab_aload_n (pc := 1275) (i := 0) dL_law_1275 rfl rfl ?_
        refine ab_iload_n (pc := 1276) (i := 3) dL_law_1276 rfl rfl ?_
        refine ab_iconst (pc := 1277) dL_law_1277 ab_k_3 ?_
        refine ab_iadd (pc := 1278) dL_law_1278 ?_
        obtain ⟨t185, ht185, hk⟩ := ab_bnd hk
        refine ab_scl_ (pc := 1279) dL_law_1279 rfl ht185 ?_
        obtain ⟨q186, hq186, hk⟩ := ab_bnd hk
        obtain ⟨hb, hq186⟩ := ab_on_some hq186
        refine ab_callVI (st := []) (as := [ab_I t183, ab_I t184, ab_I t185]) (b := v1) (pc := 1280) dL_law_1280 ml_RL_162 my_X8_lead mv_X8_lead hb (ct_X8_lead hq186) ⟨Nat.le_of_ble_eq_true rfl, Nat.le_of_ble_eq_true rfl⟩ rfl (Nat.le_of_ble_eq_true rfl) rfl ?_
        refine ab_aload_n (pc := 1283) (i := 2) dL_law_1283 rfl rfl ?_
        refine ab_aload_n (pc := 1284) (i := 0) dL_law_1284 rfl rfl ?_
        refine ab_iload_n (pc := 1285) (i := 3) dL_law_1285 rfl rfl ?_
        refine ab_iconst (pc := 1286) dL_law_1286 ab_k_1 ?_
        refine ab_iadd (pc := 1287) dL_law_1287 ?_
        obtain ⟨t187, ht187, hk⟩ := ab_bnd hk
        refine ab_scl_ (pc := 1288) dL_law_1288 rfl ht187 ?_
        refine ab_aload_n (pc := 1289) (i := 0) dL_law_1289 rfl rfl ?_
        refine ab_iload_n (pc := 1290) (i := 3) dL_law_1290 rfl rfl ?_
        refine ab_iconst (pc := 1291) dL_law_1291 ab_k_2 ?_
        refine ab_iadd (pc := 1292) dL_law_1292 ?_
        obtain ⟨t188, ht188, hk⟩ := ab_bnd hk
        refine ab_scl_ (pc := 1293) dL_law_1293 rfl ht188 ?_
        refine ab_aload_n (pc := 1294) (i := 0) dL_law_1294 rfl rfl ?_
        refine ab_iload_n (pc := 1295) (i := 3) dL_law_1295 rfl rfl ?_
        refine ab_iconst (pc := 1296) dL_law_1296 ab_k_3 ?_
        refine ab_iadd (pc := 1297) dL_law_1297 ?_
        obtain ⟨t189, ht189, hk⟩ := ab_bnd hk
        refine ab_scl_ (pc := 1298) dL_law_1298 rfl ht189 ?_
        obtain ⟨q190, hq190, hk⟩ := ab_bnd hk
        obtain ⟨hb, hq190⟩ := ab_on_some hq190
        refine ab_callVI (st := [ab_I q186.1]) (as := [ab_I t187, ab_I t188, ab_I t189]) (b := v2) (pc := 1299) dL_law_1299 ml_RL_165 my_X9_lead mv_X9_lead hb (ct_X9_lead hq190) ⟨Nat.le_of_ble_eq_true rfl, Nat.le_of_ble_eq_true rfl⟩ rfl (Nat.le_of_ble_eq_true rfl) rfl ?_
        refine ab_icmp_eq (pc := 1302) (tgt := 1702) dL_law_1302 rfl (fun hc => ?_) (fun hc => ?_)
        · have hk := ab_ifp hk hc
          refine ab_sub_ (lv2 := [some (ab_R v0), some (ab_R v1), some (ab_R v2), some (ab_I v3)]) (ab_ss (ab_ss (ab_ss (ab_ss ab_s0)))) ?_
          exact e_L_law_J1702 ih _ _ _ _ _ _ hk
        · have hk := ab_ifn hk hc
          refine ab_iconst (pc := 1305) dL_law_1305 ab_k_0 ?_
          obtain rfl := Option.some.inj hk
          exact ab_retz (pc := 1306) dL_law_1306 rfl rfl
      have hk := ab_ifn hk hc
      have hz36 := hc
      clear hc
      by_cases hc : ab_and t2 (63 : Int) = (37 : Int)
      · have hk := ab_ifp hk hc
        refine ab_tswIn (pc := 33) (v := (37 : Int)) (off := 1274) (tgt := 1307) dL_law_33 hc ⟨by decide, by decide⟩ rfl rfl ?_
        refine ab_aload_n (pc := 1307) (i := 1) dL_law_1307 rfl rfl ?_
        refine ab_aload_n (pc := 1308) (i := 0) dL_law_1308 rfl rfl ?_
        refine ab_iload_n (pc := 1309) (i := 3) dL_law_1309 rfl rfl ?_
        refine ab_iconst (pc := 1310) dL_law_1310 ab_k_1 ?_
        refine ab_iadd (pc := 1311) dL_law_1311 ?_
        obtain ⟨t191, ht191, hk⟩ := ab_bnd hk
        refine ab_scl_ (pc := 1312) dL_law_1312 rfl ht191 ?_
        refine ab_aload_n (pc := 1313) (i := 0) dL_law_1313 rfl rfl ?_
        refine ab_iload_n (pc := 1314) (i := 3) dL_law_1314 rfl rfl ?_
        refine ab_iconst (pc := 1315) dL_law_1315 ab_k_2 ?_
        refine ab_iadd (pc := 1316) dL_law_1316 ?_
        obtain ⟨t192, ht192, hk⟩ := ab_bnd hk
        refine ab_scl_ (pc := 1317) dL_law_1317 rfl ht192 ?_
        refine ab_aload_n (pc := 1318) (i := 0) dL_law_1318 rfl rfl ?_
        refine ab_iload_n (pc := 1319) (i := 3) dL_law_1319 rfl rfl ?_
        refine ab_iconst (pc := 1320) dL_law_1320 ab_k_3 ?_
        refine ab_iadd (pc := 1321) dL_law_1321 ?_
        obtain ⟨t193, ht193, hk⟩ := ab_bnd hk
        refine ab_scl_ (pc := 1322) dL_law_1322 rfl ht193 ?_
        obtain ⟨q194, hq194, hk⟩ := ab_bnd hk
        obtain ⟨hb, hq194⟩ := ab_on_some hq194
        refine ab_callVI (st := []) (as := [ab_I t191, ab_I t192, ab_I t193]) (b := v1) (pc := 1323) dL_law_1323 ml_RL_166 my_X8_swaps mv_X8_swaps hb (ct_X8_swaps hq194) ⟨Nat.le_of_ble_eq_true rfl, Nat.le_of_ble_eq_true rfl⟩ rfl (Nat.le_of_ble_eq_true rfl) rfl ?_
        refine ab_aload_n (pc := 1326) (i := 2) dL_law_1326 rfl rfl ?_
        refine ab_aload_n (pc := 1327) (i := 0) dL_law_1327 rfl rfl ?_
        refine ab_iload_n (pc := 1328) (i := 3) dL_law_1328 rfl rfl ?_
        refine ab_iconst (pc := 1329) dL_law_1329 ab_k_1 ?_
        refine ab_iadd (pc := 1330) dL_law_1330 ?_
        obtain ⟨t195, ht195, hk⟩ := ab_bnd hk
        refine ab_scl_ (pc := 1331) dL_law_1331 rfl ht195 ?_
        refine ab_aload_n (pc := 1332) (i := 0) dL_law_1332 rfl rfl ?_
        refine ab_iload_n (pc := 1333) (i := 3) dL_law_1333 rfl rfl ?_
        refine ab_iconst (pc := 1334) dL_law_1334 ab_k_2 ?_
        refine ab_iadd (pc := 1335) dL_law_1335 ?_
        obtain ⟨t196, ht196, hk⟩ := ab_bnd hk
        refine ab_scl_ (pc := 1336) dL_law_1336 rfl ht196 ?_
        refine ab_aload_n (pc := 1337) (i := 0) dL_law_1337 rfl rfl ?_
        refine ab_iload_n (pc := 1338) (i := 3) dL_law_1338 rfl rfl ?_
        refine ab_iconst (pc := 1339) dL_law_1339 ab_k_3 ?_
        refine ab_iadd (pc := 1340) dL_law_1340 ?_
        obtain ⟨t197, ht197, hk⟩ := ab_bnd hk
        refine ab_scl_ (pc := 1341) dL_law_1341 rfl ht197 ?_
        obtain ⟨q198, hq198, hk⟩ := ab_bnd hk
        obtain ⟨hb, hq198⟩ := ab_on_some hq198
        refine ab_callVI (st := [ab_I q194.1]) (as := [ab_I t195, ab_I t196, ab_I t197]) (b := v2) (pc := 1342) dL_law_1342 ml_RL_169 my_X9_swaps mv_X9_swaps hb (ct_X9_swaps hq198) ⟨Nat.le_of_ble_eq_true rfl, Nat.le_of_ble_eq_true rfl⟩ rfl (Nat.le_of_ble_eq_true rfl) rfl ?_
        refine ab_icmp_eq (pc := 1345) (tgt := 1702) dL_law_1345 rfl (fun hc => ?_) (fun hc => ?_)
        · have hk := ab_ifp hk hc
          refine ab_sub_ (lv2 := [some (ab_R v0), some (ab_R v1), some (ab_R v2), some (ab_I v3)]) (ab_ss (ab_ss (ab_ss (ab_ss ab_s0)))) ?_
          exact e_L_law_J1702 ih _ _ _ _ _ _ hk
        · have hk := ab_ifn hk hc
          refine ab_iconst (pc := 1348) dL_law_1348 ab_k_0 ?_
          obtain rfl := Option.some.inj hk
          exact ab_retz (pc := 1349) dL_law_1349 rfl rfl
      have hk := ab_ifn hk hc
      have hz37 := hc
      clear hc
      by_cases hc : ab_and t2 (63 : Int) = (38 : Int)
      · have hk := ab_ifp hk hc
        refine ab_tswIn (pc := 33) (v := (38 : Int)) (off := 1317) (tgt := 1350) dL_law_33 hc ⟨by decide, by decide⟩ rfl rfl ?_
        refine ab_aload_n (pc := 1350) (i := 1) dL_law_1350 rfl rfl ?_
        refine ab_aload_n (pc := 1351) (i := 0) dL_law_1351 rfl rfl ?_
        refine ab_iload_n (pc := 1352) (i := 3) dL_law_1352 rfl rfl ?_
        refine ab_iconst (pc := 1353) dL_law_1353 ab_k_1 ?_
        refine ab_iadd (pc := 1354) dL_law_1354 ?_
        obtain ⟨t199, ht199, hk⟩ := ab_bnd hk
        refine ab_scl_ (pc := 1355) dL_law_1355 rfl ht199 ?_
        refine ab_aload_n (pc := 1356) (i := 0) dL_law_1356 rfl rfl ?_
        refine ab_iload_n (pc := 1357) (i := 3) dL_law_1357 rfl rfl ?_
        refine ab_iconst (pc := 1358) dL_law_1358 ab_k_2 ?_
        refine ab_iadd (pc := 1359) dL_law_1359 ?_
        obtain ⟨t200, ht200, hk⟩ := ab_bnd hk
        refine ab_scl_ (pc := 1360) dL_law_1360 rfl ht200 ?_
        obtain ⟨q201, hq201, hk⟩ := ab_bnd hk
        obtain ⟨hb, hq201⟩ := ab_on_some hq201
        refine ab_callVI (st := []) (as := [ab_I t199, ab_I t200]) (b := v1) (pc := 1361) dL_law_1361 ml_RL_170 my_X8_see mv_X8_see hb (ct_X8_see hq201) ⟨Nat.le_of_ble_eq_true rfl, Nat.le_of_ble_eq_true rfl⟩ rfl (Nat.le_of_ble_eq_true rfl) rfl ?_
        refine ab_aload_n (pc := 1364) (i := 2) dL_law_1364 rfl rfl ?_
        refine ab_aload_n (pc := 1365) (i := 0) dL_law_1365 rfl rfl ?_
        refine ab_iload_n (pc := 1366) (i := 3) dL_law_1366 rfl rfl ?_
        refine ab_iconst (pc := 1367) dL_law_1367 ab_k_1 ?_
        refine ab_iadd (pc := 1368) dL_law_1368 ?_
        obtain ⟨t202, ht202, hk⟩ := ab_bnd hk
        refine ab_scl_ (pc := 1369) dL_law_1369 rfl ht202 ?_
        refine ab_aload_n (pc := 1370) (i := 0) dL_law_1370 rfl rfl ?_
        refine ab_iload_n (pc := 1371) (i := 3) dL_law_1371 rfl rfl ?_
        refine ab_iconst (pc := 1372) dL_law_1372 ab_k_2 ?_
        refine ab_iadd (pc := 1373) dL_law_1373 ?_
        obtain ⟨t203, ht203, hk⟩ := ab_bnd hk
        refine ab_scl_ (pc := 1374) dL_law_1374 rfl ht203 ?_
        obtain ⟨q204, hq204, hk⟩ := ab_bnd hk
        obtain ⟨hb, hq204⟩ := ab_on_some hq204
        refine ab_callVI (st := [ab_I q201.1]) (as := [ab_I t202, ab_I t203]) (b := v2) (pc := 1375) dL_law_1375 ml_RL_173 my_X9_see mv_X9_see hb (ct_X9_see hq204) ⟨Nat.le_of_ble_eq_true rfl, Nat.le_of_ble_eq_true rfl⟩ rfl (Nat.le_of_ble_eq_true rfl) rfl ?_
        refine ab_icmp_eq (pc := 1378) (tgt := 1702) dL_law_1378 rfl (fun hc => ?_) (fun hc => ?_)
        · have hk := ab_ifp hk hc
          refine ab_sub_ (lv2 := [some (ab_R v0), some (ab_R v1), some (ab_R v2), some (ab_I v3)]) (ab_ss (ab_ss (ab_ss (ab_ss ab_s0)))) ?_
          exact e_L_law_J1702 ih _ _ _ _ _ _ hk
        · have hk := ab_ifn hk hc
          refine ab_iconst (pc := 1381) dL_law_1381 ab_k_0 ?_
          obtain rfl := Option.some.inj hk
          exact ab_retz (pc := 1382) dL_law_1382 rfl rfl
      have hk := ab_ifn hk hc
      have hz38 := hc
      clear hc
      by_cases hc : ab_and t2 (63 : Int) = (39 : Int)
      · have hk := ab_ifp hk hc
        refine ab_tswIn (pc := 33) (v := (39 : Int)) (off := 1350) (tgt := 1383) dL_law_33 hc ⟨by decide, by decide⟩ rfl rfl ?_
        refine ab_aload_n (pc := 1383) (i := 1) dL_law_1383 rfl rfl ?_
        refine ab_aload_n (pc := 1384) (i := 0) dL_law_1384 rfl rfl ?_
        refine ab_iload_n (pc := 1385) (i := 3) dL_law_1385 rfl rfl ?_
        refine ab_iconst (pc := 1386) dL_law_1386 ab_k_1 ?_
        refine ab_iadd (pc := 1387) dL_law_1387 ?_
        obtain ⟨t205, ht205, hk⟩ := ab_bnd hk
        refine ab_scl_ (pc := 1388) dL_law_1388 rfl ht205 ?_
        obtain ⟨q206, hq206, hk⟩ := ab_bnd hk
        obtain ⟨hb, hq206⟩ := ab_on_some hq206
        refine ab_callVI (st := []) (as := [ab_I t205]) (b := v1) (pc := 1389) dL_law_1389 ml_RL_174 my_X8_forget mv_X8_forget hb (ct_X8_forget hq206) ⟨Nat.le_of_ble_eq_true rfl, Nat.le_of_ble_eq_true rfl⟩ rfl (Nat.le_of_ble_eq_true rfl) rfl ?_
        refine ab_aload_n (pc := 1392) (i := 2) dL_law_1392 rfl rfl ?_
        refine ab_aload_n (pc := 1393) (i := 0) dL_law_1393 rfl rfl ?_
        refine ab_iload_n (pc := 1394) (i := 3) dL_law_1394 rfl rfl ?_
        refine ab_iconst (pc := 1395) dL_law_1395 ab_k_1 ?_
        refine ab_iadd (pc := 1396) dL_law_1396 ?_
        obtain ⟨t207, ht207, hk⟩ := ab_bnd hk
        refine ab_scl_ (pc := 1397) dL_law_1397 rfl ht207 ?_
        obtain ⟨q208, hq208, hk⟩ := ab_bnd hk
        obtain ⟨hb, hq208⟩ := ab_on_some hq208
        refine ab_callVI (st := [ab_I q206.1]) (as := [ab_I t207]) (b := v2) (pc := 1398) dL_law_1398 ml_RL_177 my_X9_forget mv_X9_forget hb (ct_X9_forget hq208) ⟨Nat.le_of_ble_eq_true rfl, Nat.le_of_ble_eq_true rfl⟩ rfl (Nat.le_of_ble_eq_true rfl) rfl ?_
        refine ab_icmp_eq (pc := 1401) (tgt := 1702) dL_law_1401 rfl (fun hc => ?_) (fun hc => ?_)
        · have hk := ab_ifp hk hc
          refine ab_sub_ (lv2 := [some (ab_R v0), some (ab_R v1), some (ab_R v2), some (ab_I v3)]) (ab_ss (ab_ss (ab_ss (ab_ss ab_s0)))) ?_
          exact e_L_law_J1702 ih _ _ _ _ _ _ hk
        · have hk := ab_ifn hk hc
          refine ab_iconst (pc := 1404) dL_law_1404 ab_k_0 ?_
          obtain rfl := Option.some.inj hk
          exact ab_retz (pc := 1405) dL_law_1405 rfl rfl
      have hk := ab_ifn hk hc
      have hz39 := hc
      clear hc
      by_cases hc : ab_and t2 (63 : Int) = (40 : Int)
      · have hk := ab_ifp hk hc
        refine ab_tswIn (pc := 33) (v := (40 : Int)) (off := 1373) (tgt := 1406) dL_law_33 hc ⟨by decide, by decide⟩ rfl rfl ?_
        refine ab_aload_n (pc := 1406) (i := 1) dL_law_1406 rfl rfl ?_
        refine ab_aload_n (pc := 1407) (i := 0) dL_law_1407 rfl rfl ?_
        refine ab_iload_n (pc := 1408) (i := 3) dL_law_1408 rfl rfl ?_
        refine ab_iconst (pc := 1409) dL_law_1409 ab_k_1 ?_
        refine ab_iadd (pc := 1410) dL_law_1410 ?_
        obtain ⟨t209, ht209, hk⟩ := ab_bnd hk
        refine ab_scl_ (pc := 1411) dL_law_1411 rfl ht209 ?_
        refine ab_aload_n (pc := 1412) (i := 0) dL_law_1412 rfl rfl ?_
        refine ab_iload_n (pc := 1413) (i := 3) dL_law_1413 rfl rfl ?_
        refine ab_iconst (pc := 1414) dL_law_1414 ab_k_2 ?_
        refine ab_iadd (pc := 1415) dL_law_1415 ?_
        obtain ⟨t210, ht210, hk⟩ := ab_bnd hk
        refine ab_scl_ (pc := 1416) dL_law_1416 rfl ht210 ?_
        obtain ⟨q211, hq211, hk⟩ := ab_bnd hk
        obtain ⟨hb, hq211⟩ := ab_on_some hq211
        refine ab_callVI (st := []) (as := [ab_I t209, ab_I t210]) (b := v1) (pc := 1417) dL_law_1417 ml_RL_178 my_X8_moves mv_X8_moves hb (ct_X8_moves hq211) ⟨Nat.le_of_ble_eq_true rfl, Nat.le_of_ble_eq_true rfl⟩ rfl (Nat.le_of_ble_eq_true rfl) rfl ?_
        refine ab_aload_n (pc := 1420) (i := 2) dL_law_1420 rfl rfl ?_
        refine ab_aload_n (pc := 1421) (i := 0) dL_law_1421 rfl rfl ?_
        refine ab_iload_n (pc := 1422) (i := 3) dL_law_1422 rfl rfl ?_
        refine ab_iconst (pc := 1423) dL_law_1423 ab_k_1 ?_
        refine ab_iadd (pc := 1424) dL_law_1424 ?_
        obtain ⟨t212, ht212, hk⟩ := ab_bnd hk
        refine ab_scl_ (pc := 1425) dL_law_1425 rfl ht212 ?_
        refine ab_aload_n (pc := 1426) (i := 0) dL_law_1426 rfl rfl ?_
        refine ab_iload_n (pc := 1427) (i := 3) dL_law_1427 rfl rfl ?_
        refine ab_iconst (pc := 1428) dL_law_1428 ab_k_2 ?_
        refine ab_iadd (pc := 1429) dL_law_1429 ?_
        obtain ⟨t213, ht213, hk⟩ := ab_bnd hk
        refine ab_scl_ (pc := 1430) dL_law_1430 rfl ht213 ?_
        obtain ⟨q214, hq214, hk⟩ := ab_bnd hk
        obtain ⟨hb, hq214⟩ := ab_on_some hq214
        refine ab_callVI (st := [ab_I q211.1]) (as := [ab_I t212, ab_I t213]) (b := v2) (pc := 1431) dL_law_1431 ml_RL_181 my_X9_moves mv_X9_moves hb (ct_X9_moves hq214) ⟨Nat.le_of_ble_eq_true rfl, Nat.le_of_ble_eq_true rfl⟩ rfl (Nat.le_of_ble_eq_true rfl) rfl ?_
        refine ab_icmp_eq (pc := 1434) (tgt := 1702) dL_law_1434 rfl (fun hc => ?_) (fun hc => ?_)
        · have hk := ab_ifp hk hc
          refine ab_sub_ (lv2 := [some (ab_R v0), some (ab_R v1), some (ab_R v2), some (ab_I v3)]) (ab_ss (ab_ss (ab_ss (ab_ss ab_s0)))) ?_
          exact e_L_law_J1702 ih _ _ _ _ _ _ hk
        · have hk := ab_ifn hk hc
          refine ab_iconst (pc := 1437) dL_law_1437 ab_k_0 ?_
          obtain rfl := Option.some.inj hk
          exact ab_retz (pc := 1438) dL_law_1438 rfl rfl
      have hk := ab_ifn hk hc
      have hz40 := hc
      clear hc
      by_cases hc : ab_and t2 (63 : Int) = (41 : Int)
      · have hk := ab_ifp hk hc
        refine ab_tswIn (pc := 33) (v := (41 : Int)) (off := 1406) (tgt := 1439) dL_law_33 hc ⟨by decide, by decide⟩ rfl rfl ?_
        refine ab_aload_n (pc := 1439) (i := 1) dL_law_1439 rfl rfl ?_
        obtain ⟨q215, hq215, hk⟩ := ab_bnd hk
        obtain ⟨hb, hq215⟩ := ab_on_some hq215
        refine ab_callVI (st := []) (as := []) (b := v1) (pc := 1440) dL_law_1440 ml_RL_182 my_X8_undo mv_X8_undo hb (ct_X8_undo hq215) ⟨Nat.le_of_ble_eq_true rfl, Nat.le_of_ble_eq_true rfl⟩ rfl (Nat.le_of_ble_eq_true rfl) rfl ?_
        refine ab_aload_n (pc := 1443) (i := 2) dL_law_1443 rfl rfl ?_
        obtain ⟨q216, hq216, hk⟩ := ab_bnd hk
        obtain ⟨hb, hq216⟩ := ab_on_some hq216
        refine ab_callVI (st := [ab_I q215.1]) (as := []) (b := v2) (pc := 1444) dL_law_1444 ml_RL_185 my_X9_undo mv_X9_undo hb (ct_X9_undo hq216) ⟨Nat.le_of_ble_eq_true rfl, Nat.le_of_ble_eq_true rfl⟩ rfl (Nat.le_of_ble_eq_true rfl) rfl ?_
        refine ab_icmp_eq (pc := 1447) (tgt := 1702) dL_law_1447 rfl (fun hc => ?_) (fun hc => ?_)
        · have hk := ab_ifp hk hc
          refine ab_sub_ (lv2 := [some (ab_R v0), some (ab_R v1), some (ab_R v2), some (ab_I v3)]) (ab_ss (ab_ss (ab_ss (ab_ss ab_s0)))) ?_
          exact e_L_law_J1702 ih _ _ _ _ _ _ hk
        · have hk := ab_ifn hk hc
          refine ab_iconst (pc := 1450) dL_law_1450 ab_k_0 ?_
          obtain rfl := Option.some.inj hk
          exact ab_retz (pc := 1451) dL_law_1451 rfl rfl
      have hk := ab_ifn hk hc
      have hz41 := hc
      clear hc
      by_cases hc : ab_and t2 (63 : Int) = (42 : Int)
      · have hk := ab_ifp hk hc
        refine ab_tswIn (pc := 33) (v := (42 : Int)) (off := 1419) (tgt := 1452) dL_law_33 hc ⟨by decide, by decide⟩ rfl rfl ?_
        refine ab_aload_n (pc := 1452) (i := 1) dL_law_1452 rfl rfl ?_
        refine ab_aload_n (pc := 1453) (i := 0) dL_law_1453 rfl rfl ?_
        refine ab_iload_n (pc := 1454) (i := 3) dL_law_1454 rfl rfl ?_
        refine ab_iconst (pc := 1455) dL_law_1455 ab_k_1 ?_
        refine ab_iadd (pc := 1456) dL_law_1456 ?_
        obtain ⟨t217, ht217, hk⟩ := ab_bnd hk
        refine ab_scl_ (pc := 1457) dL_law_1457 rfl ht217 ?_
        refine ab_aload_n (pc := 1458) (i := 0) dL_law_1458 rfl rfl ?_
        refine ab_iload_n (pc := 1459) (i := 3) dL_law_1459 rfl rfl ?_
        refine ab_iconst (pc := 1460) dL_law_1460 ab_k_2 ?_
        refine ab_iadd (pc := 1461) dL_law_1461 ?_
        obtain ⟨t218, ht218, hk⟩ := ab_bnd hk
        refine ab_scl_ (pc := 1462) dL_law_1462 rfl ht218 ?_
        obtain ⟨q219, hq219, hk⟩ := ab_bnd hk
        obtain ⟨hb, hq219⟩ := ab_on_some hq219
        refine ab_callVI (st := []) (as := [ab_I t217, ab_I t218]) (b := v1) (pc := 1463) dL_law_1463 ml_RL_186 my_X8_gather mv_X8_gather hb (ct_X8_gather hq219) ⟨Nat.le_of_ble_eq_true rfl, Nat.le_of_ble_eq_true rfl⟩ rfl (Nat.le_of_ble_eq_true rfl) rfl ?_
        refine ab_aload_n (pc := 1466) (i := 2) dL_law_1466 rfl rfl ?_
        refine ab_aload_n (pc := 1467) (i := 0) dL_law_1467 rfl rfl ?_
        refine ab_iload_n (pc := 1468) (i := 3) dL_law_1468 rfl rfl ?_
        refine ab_iconst (pc := 1469) dL_law_1469 ab_k_1 ?_
        refine ab_iadd (pc := 1470) dL_law_1470 ?_
        obtain ⟨t220, ht220, hk⟩ := ab_bnd hk
        refine ab_scl_ (pc := 1471) dL_law_1471 rfl ht220 ?_
        refine ab_aload_n (pc := 1472) (i := 0) dL_law_1472 rfl rfl ?_
        refine ab_iload_n (pc := 1473) (i := 3) dL_law_1473 rfl rfl ?_
        refine ab_iconst (pc := 1474) dL_law_1474 ab_k_2 ?_
        refine ab_iadd (pc := 1475) dL_law_1475 ?_
        obtain ⟨t221, ht221, hk⟩ := ab_bnd hk
        refine ab_scl_ (pc := 1476) dL_law_1476 rfl ht221 ?_
        obtain ⟨q222, hq222, hk⟩ := ab_bnd hk
        obtain ⟨hb, hq222⟩ := ab_on_some hq222
        refine ab_callVI (st := [ab_I q219.1]) (as := [ab_I t220, ab_I t221]) (b := v2) (pc := 1477) dL_law_1477 ml_RL_189 my_X9_gather mv_X9_gather hb (ct_X9_gather hq222) ⟨Nat.le_of_ble_eq_true rfl, Nat.le_of_ble_eq_true rfl⟩ rfl (Nat.le_of_ble_eq_true rfl) rfl ?_
        refine ab_icmp_eq (pc := 1480) (tgt := 1702) dL_law_1480 rfl (fun hc => ?_) (fun hc => ?_)
        · have hk := ab_ifp hk hc
          refine ab_sub_ (lv2 := [some (ab_R v0), some (ab_R v1), some (ab_R v2), some (ab_I v3)]) (ab_ss (ab_ss (ab_ss (ab_ss ab_s0)))) ?_
          exact e_L_law_J1702 ih _ _ _ _ _ _ hk
        · have hk := ab_ifn hk hc
          refine ab_iconst (pc := 1483) dL_law_1483 ab_k_0 ?_
          obtain rfl := Option.some.inj hk
          exact ab_retz (pc := 1484) dL_law_1484 rfl rfl
      have hk := ab_ifn hk hc
      have hz42 := hc
      clear hc
      by_cases hc : ab_and t2 (63 : Int) = (43 : Int)
      · have hk := ab_ifp hk hc
        refine ab_tswIn (pc := 33) (v := (43 : Int)) (off := 1452) (tgt := 1485) dL_law_33 hc ⟨by decide, by decide⟩ rfl rfl ?_
        refine ab_aload_n (pc := 1485) (i := 1) dL_law_1485 rfl rfl ?_
        refine ab_aload_n (pc := 1486) (i := 0) dL_law_1486 rfl rfl ?_
        refine ab_iload_n (pc := 1487) (i := 3) dL_law_1487 rfl rfl ?_
        refine ab_iconst (pc := 1488) dL_law_1488 ab_k_1 ?_
        refine ab_iadd (pc := 1489) dL_law_1489 ?_
        obtain ⟨t223, ht223, hk⟩ := ab_bnd hk
        refine ab_scl_ (pc := 1490) dL_law_1490 rfl ht223 ?_
        obtain ⟨q224, hq224, hk⟩ := ab_bnd hk
        obtain ⟨hb, hq224⟩ := ab_on_some hq224
        refine ab_callVI (st := []) (as := [ab_I t223]) (b := v1) (pc := 1491) dL_law_1491 ml_RL_190 my_X8_lost mv_X8_lost hb (ct_X8_lost hq224) ⟨Nat.le_of_ble_eq_true rfl, Nat.le_of_ble_eq_true rfl⟩ rfl (Nat.le_of_ble_eq_true rfl) rfl ?_
        refine ab_aload_n (pc := 1494) (i := 2) dL_law_1494 rfl rfl ?_
        refine ab_aload_n (pc := 1495) (i := 0) dL_law_1495 rfl rfl ?_
        refine ab_iload_n (pc := 1496) (i := 3) dL_law_1496 rfl rfl ?_
        refine ab_iconst (pc := 1497) dL_law_1497 ab_k_1 ?_
        refine ab_iadd (pc := 1498) dL_law_1498 ?_
        obtain ⟨t225, ht225, hk⟩ := ab_bnd hk
        refine ab_scl_ (pc := 1499) dL_law_1499 rfl ht225 ?_
        obtain ⟨q226, hq226, hk⟩ := ab_bnd hk
        obtain ⟨hb, hq226⟩ := ab_on_some hq226
        refine ab_callVI (st := [ab_I q224.1]) (as := [ab_I t225]) (b := v2) (pc := 1500) dL_law_1500 ml_RL_193 my_X9_lost mv_X9_lost hb (ct_X9_lost hq226) ⟨Nat.le_of_ble_eq_true rfl, Nat.le_of_ble_eq_true rfl⟩ rfl (Nat.le_of_ble_eq_true rfl) rfl ?_
        refine ab_icmp_eq (pc := 1503) (tgt := 1702) dL_law_1503 rfl (fun hc => ?_) (fun hc => ?_)
        · have hk := ab_ifp hk hc
          refine ab_sub_ (lv2 := [some (ab_R v0), some (ab_R v1), some (ab_R v2), some (ab_I v3)]) (ab_ss (ab_ss (ab_ss (ab_ss ab_s0)))) ?_
          exact e_L_law_J1702 ih _ _ _ _ _ _ hk
        · have hk := ab_ifn hk hc
          refine ab_iconst (pc := 1506) dL_law_1506 ab_k_0 ?_
          obtain rfl := Option.some.inj hk
          exact ab_retz (pc := 1507) dL_law_1507 rfl rfl
      have hk := ab_ifn hk hc
      have hz43 := hc
      clear hc
      by_cases hc : ab_and t2 (63 : Int) = (44 : Int)
      · have hk := ab_ifp hk hc
        refine ab_tswIn (pc := 33) (v := (44 : Int)) (off := 1475) (tgt := 1508) dL_law_33 hc ⟨by decide, by decide⟩ rfl rfl ?_
        refine ab_aload_n (pc := 1508) (i := 1) dL_law_1508 rfl rfl ?_
        refine ab_aload_n (pc := 1509) (i := 0) dL_law_1509 rfl rfl ?_
        refine ab_iload_n (pc := 1510) (i := 3) dL_law_1510 rfl rfl ?_
        refine ab_iconst (pc := 1511) dL_law_1511 ab_k_1 ?_
        refine ab_iadd (pc := 1512) dL_law_1512 ?_
        obtain ⟨t227, ht227, hk⟩ := ab_bnd hk
        refine ab_scl_ (pc := 1513) dL_law_1513 rfl ht227 ?_
        refine ab_aload_n (pc := 1514) (i := 0) dL_law_1514 rfl rfl ?_
        refine ab_iload_n (pc := 1515) (i := 3) dL_law_1515 rfl rfl ?_
        refine ab_iconst (pc := 1516) dL_law_1516 ab_k_2 ?_
        refine ab_iadd (pc := 1517) dL_law_1517 ?_
        obtain ⟨t228, ht228, hk⟩ := ab_bnd hk
        refine ab_scl_ (pc := 1518) dL_law_1518 rfl ht228 ?_
        obtain ⟨q229, hq229, hk⟩ := ab_bnd hk
        obtain ⟨hb, hq229⟩ := ab_on_some hq229
        refine ab_callVI (st := []) (as := [ab_I t227, ab_I t228]) (b := v1) (pc := 1519) dL_law_1519 ml_RL_194 my_X8_chain mv_X8_chain hb (ct_X8_chain hq229) ⟨Nat.le_of_ble_eq_true rfl, Nat.le_of_ble_eq_true rfl⟩ rfl (Nat.le_of_ble_eq_true rfl) rfl ?_
        refine ab_aload_n (pc := 1522) (i := 2) dL_law_1522 rfl rfl ?_
        refine ab_aload_n (pc := 1523) (i := 0) dL_law_1523 rfl rfl ?_
        refine ab_iload_n (pc := 1524) (i := 3) dL_law_1524 rfl rfl ?_
        refine ab_iconst (pc := 1525) dL_law_1525 ab_k_1 ?_
        refine ab_iadd (pc := 1526) dL_law_1526 ?_
        obtain ⟨t230, ht230, hk⟩ := ab_bnd hk
        refine ab_scl_ (pc := 1527) dL_law_1527 rfl ht230 ?_
        refine ab_aload_n (pc := 1528) (i := 0) dL_law_1528 rfl rfl ?_
        refine ab_iload_n (pc := 1529) (i := 3) dL_law_1529 rfl rfl ?_
        refine ab_iconst (pc := 1530) dL_law_1530 ab_k_2 ?_
        refine ab_iadd (pc := 1531) dL_law_1531 ?_
        obtain ⟨t231, ht231, hk⟩ := ab_bnd hk
        refine ab_scl_ (pc := 1532) dL_law_1532 rfl ht231 ?_
        obtain ⟨q232, hq232, hk⟩ := ab_bnd hk
        obtain ⟨hb, hq232⟩ := ab_on_some hq232
        refine ab_callVI (st := [ab_I q229.1]) (as := [ab_I t230, ab_I t231]) (b := v2) (pc := 1533) dL_law_1533 ml_RL_197 my_X9_chain mv_X9_chain hb (ct_X9_chain hq232) ⟨Nat.le_of_ble_eq_true rfl, Nat.le_of_ble_eq_true rfl⟩ rfl (Nat.le_of_ble_eq_true rfl) rfl ?_
        refine ab_icmp_eq (pc := 1536) (tgt := 1702) dL_law_1536 rfl (fun hc => ?_) (fun hc => ?_)
        · have hk := ab_ifp hk hc
          refine ab_sub_ (lv2 := [some (ab_R v0), some (ab_R v1), some (ab_R v2), some (ab_I v3)]) (ab_ss (ab_ss (ab_ss (ab_ss ab_s0)))) ?_
          exact e_L_law_J1702 ih _ _ _ _ _ _ hk
        · have hk := ab_ifn hk hc
          refine ab_iconst (pc := 1539) dL_law_1539 ab_k_0 ?_
          obtain rfl := Option.some.inj hk
          exact ab_retz (pc := 1540) dL_law_1540 rfl rfl
      have hk := ab_ifn hk hc
      have hz44 := hc
      clear hc
      by_cases hc : ab_and t2 (63 : Int) = (45 : Int)
      · have hk := ab_ifp hk hc
        refine ab_tswIn (pc := 33) (v := (45 : Int)) (off := 1508) (tgt := 1541) dL_law_33 hc ⟨by decide, by decide⟩ rfl rfl ?_
        refine ab_aload_n (pc := 1541) (i := 1) dL_law_1541 rfl rfl ?_
        obtain ⟨q233, hq233, hk⟩ := ab_bnd hk
        obtain ⟨hb, hq233⟩ := ab_on_some hq233
        refine ab_callVI (st := []) (as := []) (b := v1) (pc := 1542) dL_law_1542 ml_RL_198 my_X8_groups mv_X8_groups hb (ct_X8_groups hq233) ⟨Nat.le_of_ble_eq_true rfl, Nat.le_of_ble_eq_true rfl⟩ rfl (Nat.le_of_ble_eq_true rfl) rfl ?_
        refine ab_aload_n (pc := 1545) (i := 2) dL_law_1545 rfl rfl ?_
        obtain ⟨q234, hq234, hk⟩ := ab_bnd hk
        obtain ⟨hb, hq234⟩ := ab_on_some hq234
        refine ab_callVI (st := [ab_I q233.1]) (as := []) (b := v2) (pc := 1546) dL_law_1546 ml_RL_201 my_X9_groups mv_X9_groups hb (ct_X9_groups hq234) ⟨Nat.le_of_ble_eq_true rfl, Nat.le_of_ble_eq_true rfl⟩ rfl (Nat.le_of_ble_eq_true rfl) rfl ?_
        refine ab_icmp_eq (pc := 1549) (tgt := 1702) dL_law_1549 rfl (fun hc => ?_) (fun hc => ?_)
        · have hk := ab_ifp hk hc
          refine ab_sub_ (lv2 := [some (ab_R v0), some (ab_R v1), some (ab_R v2), some (ab_I v3)]) (ab_ss (ab_ss (ab_ss (ab_ss ab_s0)))) ?_
          exact e_L_law_J1702 ih _ _ _ _ _ _ hk
        · have hk := ab_ifn hk hc
          refine ab_iconst (pc := 1552) dL_law_1552 ab_k_0 ?_
          obtain rfl := Option.some.inj hk
          exact ab_retz (pc := 1553) dL_law_1553 rfl rfl
      have hk := ab_ifn hk hc
      have hz45 := hc
      clear hc
      by_cases hc : ab_and t2 (63 : Int) = (46 : Int)
      · have hk := ab_ifp hk hc
        refine ab_tswIn (pc := 33) (v := (46 : Int)) (off := 1521) (tgt := 1554) dL_law_33 hc ⟨by decide, by decide⟩ rfl rfl ?_
        refine ab_aload_n (pc := 1554) (i := 1) dL_law_1554 rfl rfl ?_
        obtain ⟨q235, hq235, hk⟩ := ab_bnd hk
        obtain ⟨hb, hq235⟩ := ab_on_some hq235
        refine ab_callVI (st := []) (as := []) (b := v1) (pc := 1555) dL_law_1555 ml_RL_202 my_X8_longest mv_X8_longest hb (ct_X8_longest hq235) ⟨Nat.le_of_ble_eq_true rfl, Nat.le_of_ble_eq_true rfl⟩ rfl (Nat.le_of_ble_eq_true rfl) rfl ?_
        refine ab_aload_n (pc := 1558) (i := 2) dL_law_1558 rfl rfl ?_
        obtain ⟨q236, hq236, hk⟩ := ab_bnd hk
        obtain ⟨hb, hq236⟩ := ab_on_some hq236
        refine ab_callVI (st := [ab_I q235.1]) (as := []) (b := v2) (pc := 1559) dL_law_1559 ml_RL_205 my_X9_longest mv_X9_longest hb (ct_X9_longest hq236) ⟨Nat.le_of_ble_eq_true rfl, Nat.le_of_ble_eq_true rfl⟩ rfl (Nat.le_of_ble_eq_true rfl) rfl ?_
        refine ab_icmp_eq (pc := 1562) (tgt := 1702) dL_law_1562 rfl (fun hc => ?_) (fun hc => ?_)
        · have hk := ab_ifp hk hc
          refine ab_sub_ (lv2 := [some (ab_R v0), some (ab_R v1), some (ab_R v2), some (ab_I v3)]) (ab_ss (ab_ss (ab_ss (ab_ss ab_s0)))) ?_
          exact e_L_law_J1702 ih _ _ _ _ _ _ hk
        · have hk := ab_ifn hk hc
          refine ab_iconst (pc := 1565) dL_law_1565 ab_k_0 ?_
          obtain rfl := Option.some.inj hk
          exact ab_retz (pc := 1566) dL_law_1566 rfl rfl
      have hk := ab_ifn hk hc
      have hz46 := hc
      clear hc
      by_cases hc : ab_and t2 (63 : Int) = (47 : Int)
      · have hk := ab_ifp hk hc
        refine ab_tswIn (pc := 33) (v := (47 : Int)) (off := 1534) (tgt := 1567) dL_law_33 hc ⟨by decide, by decide⟩ rfl rfl ?_
        refine ab_aload_n (pc := 1567) (i := 1) dL_law_1567 rfl rfl ?_
        refine ab_aload_n (pc := 1568) (i := 0) dL_law_1568 rfl rfl ?_
        refine ab_iload_n (pc := 1569) (i := 3) dL_law_1569 rfl rfl ?_
        refine ab_iconst (pc := 1570) dL_law_1570 ab_k_1 ?_
        refine ab_iadd (pc := 1571) dL_law_1571 ?_
        obtain ⟨t237, ht237, hk⟩ := ab_bnd hk
        refine ab_scl_ (pc := 1572) dL_law_1572 rfl ht237 ?_
        refine ab_aload_n (pc := 1573) (i := 0) dL_law_1573 rfl rfl ?_
        refine ab_iload_n (pc := 1574) (i := 3) dL_law_1574 rfl rfl ?_
        refine ab_iconst (pc := 1575) dL_law_1575 ab_k_2 ?_
        refine ab_iadd (pc := 1576) dL_law_1576 ?_
        obtain ⟨t238, ht238, hk⟩ := ab_bnd hk
        refine ab_scl_ (pc := 1577) dL_law_1577 rfl ht238 ?_
        obtain ⟨q239, hq239, hk⟩ := ab_bnd hk
        obtain ⟨hb, hq239⟩ := ab_on_some hq239
        refine ab_callVI (st := []) (as := [ab_I t237, ab_I t238]) (b := v1) (pc := 1578) dL_law_1578 ml_RL_206 my_X8_shown mv_X8_shown hb (ct_X8_shown hq239) ⟨Nat.le_of_ble_eq_true rfl, Nat.le_of_ble_eq_true rfl⟩ rfl (Nat.le_of_ble_eq_true rfl) rfl ?_
        refine ab_aload_n (pc := 1581) (i := 2) dL_law_1581 rfl rfl ?_
        refine ab_aload_n (pc := 1582) (i := 0) dL_law_1582 rfl rfl ?_
        refine ab_iload_n (pc := 1583) (i := 3) dL_law_1583 rfl rfl ?_
        refine ab_iconst (pc := 1584) dL_law_1584 ab_k_1 ?_
        refine ab_iadd (pc := 1585) dL_law_1585 ?_
        obtain ⟨t240, ht240, hk⟩ := ab_bnd hk
        refine ab_scl_ (pc := 1586) dL_law_1586 rfl ht240 ?_
        refine ab_aload_n (pc := 1587) (i := 0) dL_law_1587 rfl rfl ?_
        refine ab_iload_n (pc := 1588) (i := 3) dL_law_1588 rfl rfl ?_
        refine ab_iconst (pc := 1589) dL_law_1589 ab_k_2 ?_
        refine ab_iadd (pc := 1590) dL_law_1590 ?_
        obtain ⟨t241, ht241, hk⟩ := ab_bnd hk
        refine ab_scl_ (pc := 1591) dL_law_1591 rfl ht241 ?_
        obtain ⟨q242, hq242, hk⟩ := ab_bnd hk
        obtain ⟨hb, hq242⟩ := ab_on_some hq242
        refine ab_callVI (st := [ab_I q239.1]) (as := [ab_I t240, ab_I t241]) (b := v2) (pc := 1592) dL_law_1592 ml_RL_209 my_X9_shown mv_X9_shown hb (ct_X9_shown hq242) ⟨Nat.le_of_ble_eq_true rfl, Nat.le_of_ble_eq_true rfl⟩ rfl (Nat.le_of_ble_eq_true rfl) rfl ?_
        refine ab_icmp_eq (pc := 1595) (tgt := 1702) dL_law_1595 rfl (fun hc => ?_) (fun hc => ?_)
        · have hk := ab_ifp hk hc
          refine ab_sub_ (lv2 := [some (ab_R v0), some (ab_R v1), some (ab_R v2), some (ab_I v3)]) (ab_ss (ab_ss (ab_ss (ab_ss ab_s0)))) ?_
          exact e_L_law_J1702 ih _ _ _ _ _ _ hk
        · have hk := ab_ifn hk hc
          refine ab_iconst (pc := 1598) dL_law_1598 ab_k_0 ?_
          obtain rfl := Option.some.inj hk
          exact ab_retz (pc := 1599) dL_law_1599 rfl rfl
      have hk := ab_ifn hk hc
      have hz47 := hc
      clear hc
      by_cases hc : ab_and t2 (63 : Int) = (48 : Int)
      · have hk := ab_ifp hk hc
        refine ab_tswIn (pc := 33) (v := (48 : Int)) (off := 1567) (tgt := 1600) dL_law_33 hc ⟨by decide, by decide⟩ rfl rfl ?_
        refine ab_aload_n (pc := 1600) (i := 1) dL_law_1600 rfl rfl ?_
        refine ab_aload_n (pc := 1601) (i := 0) dL_law_1601 rfl rfl ?_
        refine ab_iload_n (pc := 1602) (i := 3) dL_law_1602 rfl rfl ?_
        refine ab_iconst (pc := 1603) dL_law_1603 ab_k_1 ?_
        refine ab_iadd (pc := 1604) dL_law_1604 ?_
        obtain ⟨t243, ht243, hk⟩ := ab_bnd hk
        refine ab_scl_ (pc := 1605) dL_law_1605 rfl ht243 ?_
        obtain ⟨q244, hq244, hk⟩ := ab_bnd hk
        obtain ⟨hb, hq244⟩ := ab_on_some hq244
        refine ab_callVI (st := []) (as := [ab_I t243]) (b := v1) (pc := 1606) dL_law_1606 ml_RL_210 my_X8_twins mv_X8_twins hb (ct_X8_twins hq244) ⟨Nat.le_of_ble_eq_true rfl, Nat.le_of_ble_eq_true rfl⟩ rfl (Nat.le_of_ble_eq_true rfl) rfl ?_
        refine ab_aload_n (pc := 1609) (i := 2) dL_law_1609 rfl rfl ?_
        refine ab_aload_n (pc := 1610) (i := 0) dL_law_1610 rfl rfl ?_
        refine ab_iload_n (pc := 1611) (i := 3) dL_law_1611 rfl rfl ?_
        refine ab_iconst (pc := 1612) dL_law_1612 ab_k_1 ?_
        refine ab_iadd (pc := 1613) dL_law_1613 ?_
        obtain ⟨t245, ht245, hk⟩ := ab_bnd hk
        refine ab_scl_ (pc := 1614) dL_law_1614 rfl ht245 ?_
        obtain ⟨q246, hq246, hk⟩ := ab_bnd hk
        obtain ⟨hb, hq246⟩ := ab_on_some hq246
        refine ab_callVI (st := [ab_I q244.1]) (as := [ab_I t245]) (b := v2) (pc := 1615) dL_law_1615 ml_RL_213 my_X9_twins mv_X9_twins hb (ct_X9_twins hq246) ⟨Nat.le_of_ble_eq_true rfl, Nat.le_of_ble_eq_true rfl⟩ rfl (Nat.le_of_ble_eq_true rfl) rfl ?_
        refine ab_icmp_eq (pc := 1618) (tgt := 1702) dL_law_1618 rfl (fun hc => ?_) (fun hc => ?_)
        · have hk := ab_ifp hk hc
          refine ab_sub_ (lv2 := [some (ab_R v0), some (ab_R v1), some (ab_R v2), some (ab_I v3)]) (ab_ss (ab_ss (ab_ss (ab_ss ab_s0)))) ?_
          exact e_L_law_J1702 ih _ _ _ _ _ _ hk
        · have hk := ab_ifn hk hc
          refine ab_iconst (pc := 1621) dL_law_1621 ab_k_0 ?_
          obtain rfl := Option.some.inj hk
          exact ab_retz (pc := 1622) dL_law_1622 rfl rfl
      have hk := ab_ifn hk hc
      have hz48 := hc
      clear hc
      by_cases hc : ab_and t2 (63 : Int) = (49 : Int)
      · have hk := ab_ifp hk hc
        refine ab_tswIn (pc := 33) (v := (49 : Int)) (off := 1590) (tgt := 1623) dL_law_33 hc ⟨by decide, by decide⟩ rfl rfl ?_
        refine ab_aload_n (pc := 1623) (i := 1) dL_law_1623 rfl rfl ?_
        refine ab_aload_n (pc := 1624) (i := 0) dL_law_1624 rfl rfl ?_
        refine ab_iload_n (pc := 1625) (i := 3) dL_law_1625 rfl rfl ?_
        refine ab_iconst (pc := 1626) dL_law_1626 ab_k_1 ?_
        refine ab_iadd (pc := 1627) dL_law_1627 ?_
        obtain ⟨t247, ht247, hk⟩ := ab_bnd hk
        refine ab_scl_ (pc := 1628) dL_law_1628 rfl ht247 ?_
        obtain ⟨q248, hq248, hk⟩ := ab_bnd hk
        obtain ⟨hb, hq248⟩ := ab_on_some hq248
        refine ab_callVI (st := []) (as := [ab_I t247]) (b := v1) (pc := 1629) dL_law_1629 ml_RL_214 my_X8_rarest mv_X8_rarest hb (ct_X8_rarest hq248) ⟨Nat.le_of_ble_eq_true rfl, Nat.le_of_ble_eq_true rfl⟩ rfl (Nat.le_of_ble_eq_true rfl) rfl ?_
        refine ab_aload_n (pc := 1632) (i := 2) dL_law_1632 rfl rfl ?_
        refine ab_aload_n (pc := 1633) (i := 0) dL_law_1633 rfl rfl ?_
        refine ab_iload_n (pc := 1634) (i := 3) dL_law_1634 rfl rfl ?_
        refine ab_iconst (pc := 1635) dL_law_1635 ab_k_1 ?_
        refine ab_iadd (pc := 1636) dL_law_1636 ?_
        obtain ⟨t249, ht249, hk⟩ := ab_bnd hk
        refine ab_scl_ (pc := 1637) dL_law_1637 rfl ht249 ?_
        obtain ⟨q250, hq250, hk⟩ := ab_bnd hk
        obtain ⟨hb, hq250⟩ := ab_on_some hq250
        refine ab_callVI (st := [ab_I q248.1]) (as := [ab_I t249]) (b := v2) (pc := 1638) dL_law_1638 ml_RL_217 my_X9_rarest mv_X9_rarest hb (ct_X9_rarest hq250) ⟨Nat.le_of_ble_eq_true rfl, Nat.le_of_ble_eq_true rfl⟩ rfl (Nat.le_of_ble_eq_true rfl) rfl ?_
        refine ab_icmp_eq (pc := 1641) (tgt := 1702) dL_law_1641 rfl (fun hc => ?_) (fun hc => ?_)
        · have hk := ab_ifp hk hc
          refine ab_sub_ (lv2 := [some (ab_R v0), some (ab_R v1), some (ab_R v2), some (ab_I v3)]) (ab_ss (ab_ss (ab_ss (ab_ss ab_s0)))) ?_
          exact e_L_law_J1702 ih _ _ _ _ _ _ hk
        · have hk := ab_ifn hk hc
          refine ab_iconst (pc := 1644) dL_law_1644 ab_k_0 ?_
          obtain rfl := Option.some.inj hk
          exact ab_retz (pc := 1645) dL_law_1645 rfl rfl
      have hk := ab_ifn hk hc
      have hz49 := hc
      clear hc
      by_cases hc : ab_and t2 (63 : Int) = (50 : Int)
      · have hk := ab_ifp hk hc
        refine ab_tswIn (pc := 33) (v := (50 : Int)) (off := 1613) (tgt := 1646) dL_law_33 hc ⟨by decide, by decide⟩ rfl rfl ?_
        refine ab_aload_n (pc := 1646) (i := 1) dL_law_1646 rfl rfl ?_
        refine ab_aload_n (pc := 1647) (i := 0) dL_law_1647 rfl rfl ?_
        refine ab_iload_n (pc := 1648) (i := 3) dL_law_1648 rfl rfl ?_
        refine ab_iconst (pc := 1649) dL_law_1649 ab_k_1 ?_
        refine ab_iadd (pc := 1650) dL_law_1650 ?_
        obtain ⟨t251, ht251, hk⟩ := ab_bnd hk
        refine ab_scl_ (pc := 1651) dL_law_1651 rfl ht251 ?_
        refine ab_aload_n (pc := 1652) (i := 0) dL_law_1652 rfl rfl ?_
        refine ab_iload_n (pc := 1653) (i := 3) dL_law_1653 rfl rfl ?_
        refine ab_iconst (pc := 1654) dL_law_1654 ab_k_2 ?_
        refine ab_iadd (pc := 1655) dL_law_1655 ?_
        obtain ⟨t252, ht252, hk⟩ := ab_bnd hk
        refine ab_scl_ (pc := 1656) dL_law_1656 rfl ht252 ?_
        obtain ⟨q253, hq253, hk⟩ := ab_bnd hk
        obtain ⟨hb, hq253⟩ := ab_on_some hq253
        refine ab_callVI (st := []) (as := [ab_I t251, ab_I t252]) (b := v1) (pc := 1657) dL_law_1657 ml_RL_218 my_X8_crossed mv_X8_crossed hb (ct_X8_crossed hq253) ⟨Nat.le_of_ble_eq_true rfl, Nat.le_of_ble_eq_true rfl⟩ rfl (Nat.le_of_ble_eq_true rfl) rfl ?_
        refine ab_aload_n (pc := 1660) (i := 2) dL_law_1660 rfl rfl ?_
        refine ab_aload_n (pc := 1661) (i := 0) dL_law_1661 rfl rfl ?_
        refine ab_iload_n (pc := 1662) (i := 3) dL_law_1662 rfl rfl ?_
        refine ab_iconst (pc := 1663) dL_law_1663 ab_k_1 ?_
        refine ab_iadd (pc := 1664) dL_law_1664 ?_
        obtain ⟨t254, ht254, hk⟩ := ab_bnd hk
        refine ab_scl_ (pc := 1665) dL_law_1665 rfl ht254 ?_
        refine ab_aload_n (pc := 1666) (i := 0) dL_law_1666 rfl rfl ?_
        refine ab_iload_n (pc := 1667) (i := 3) dL_law_1667 rfl rfl ?_
        refine ab_iconst (pc := 1668) dL_law_1668 ab_k_2 ?_
        refine ab_iadd (pc := 1669) dL_law_1669 ?_
        obtain ⟨t255, ht255, hk⟩ := ab_bnd hk
        refine ab_scl_ (pc := 1670) dL_law_1670 rfl ht255 ?_
        obtain ⟨q256, hq256, hk⟩ := ab_bnd hk
        obtain ⟨hb, hq256⟩ := ab_on_some hq256
        refine ab_callVI (st := [ab_I q253.1]) (as := [ab_I t254, ab_I t255]) (b := v2) (pc := 1671) dL_law_1671 ml_RL_221 my_X9_crossed mv_X9_crossed hb (ct_X9_crossed hq256) ⟨Nat.le_of_ble_eq_true rfl, Nat.le_of_ble_eq_true rfl⟩ rfl (Nat.le_of_ble_eq_true rfl) rfl ?_
        refine ab_icmp_eq (pc := 1674) (tgt := 1702) dL_law_1674 rfl (fun hc => ?_) (fun hc => ?_)
        · have hk := ab_ifp hk hc
          refine ab_sub_ (lv2 := [some (ab_R v0), some (ab_R v1), some (ab_R v2), some (ab_I v3)]) (ab_ss (ab_ss (ab_ss (ab_ss ab_s0)))) ?_
          exact e_L_law_J1702 ih _ _ _ _ _ _ hk
        · have hk := ab_ifn hk hc
          refine ab_iconst (pc := 1677) dL_law_1677 ab_k_0 ?_
          obtain rfl := Option.some.inj hk
          exact ab_retz (pc := 1678) dL_law_1678 rfl rfl
      have hk := ab_ifn hk hc
      have hz50 := hc
      clear hc
      by_cases hc : ab_and t2 (63 : Int) = (51 : Int)
      · have hk := ab_ifp hk hc
        refine ab_tswIn (pc := 33) (v := (51 : Int)) (off := 1646) (tgt := 1679) dL_law_33 hc ⟨by decide, by decide⟩ rfl rfl ?_
        refine ab_aload_n (pc := 1679) (i := 1) dL_law_1679 rfl rfl ?_
        refine ab_aload_n (pc := 1680) (i := 0) dL_law_1680 rfl rfl ?_
        refine ab_iload_n (pc := 1681) (i := 3) dL_law_1681 rfl rfl ?_
        refine ab_iconst (pc := 1682) dL_law_1682 ab_k_1 ?_
        refine ab_iadd (pc := 1683) dL_law_1683 ?_
        obtain ⟨t257, ht257, hk⟩ := ab_bnd hk
        refine ab_scl_ (pc := 1684) dL_law_1684 rfl ht257 ?_
        obtain ⟨q258, hq258, hk⟩ := ab_bnd hk
        obtain ⟨hb, hq258⟩ := ab_on_some hq258
        refine ab_callVI (st := []) (as := [ab_I t257]) (b := v1) (pc := 1685) dL_law_1685 ml_RL_222 my_X8_shared mv_X8_shared hb (ct_X8_shared hq258) ⟨Nat.le_of_ble_eq_true rfl, Nat.le_of_ble_eq_true rfl⟩ rfl (Nat.le_of_ble_eq_true rfl) rfl ?_
        refine ab_aload_n (pc := 1688) (i := 2) dL_law_1688 rfl rfl ?_
        refine ab_aload_n (pc := 1689) (i := 0) dL_law_1689 rfl rfl ?_
        refine ab_iload_n (pc := 1690) (i := 3) dL_law_1690 rfl rfl ?_
        refine ab_iconst (pc := 1691) dL_law_1691 ab_k_1 ?_
        refine ab_iadd (pc := 1692) dL_law_1692 ?_
        obtain ⟨t259, ht259, hk⟩ := ab_bnd hk
        refine ab_scl_ (pc := 1693) dL_law_1693 rfl ht259 ?_
        obtain ⟨q260, hq260, hk⟩ := ab_bnd hk
        obtain ⟨hb, hq260⟩ := ab_on_some hq260
        refine ab_callVI (st := [ab_I q258.1]) (as := [ab_I t259]) (b := v2) (pc := 1694) dL_law_1694 ml_RL_225 my_X9_shared mv_X9_shared hb (ct_X9_shared hq260) ⟨Nat.le_of_ble_eq_true rfl, Nat.le_of_ble_eq_true rfl⟩ rfl (Nat.le_of_ble_eq_true rfl) rfl ?_
        refine ab_icmp_eq (pc := 1697) (tgt := 1702) dL_law_1697 rfl (fun hc => ?_) (fun hc => ?_)
        · have hk := ab_ifp hk hc
          refine ab_sub_ (lv2 := [some (ab_R v0), some (ab_R v1), some (ab_R v2), some (ab_I v3)]) (ab_ss (ab_ss (ab_ss (ab_ss ab_s0)))) ?_
          exact e_L_law_J1702 ih _ _ _ _ _ _ hk
        · have hk := ab_ifn hk hc
          refine ab_iconst (pc := 1700) dL_law_1700 ab_k_0 ?_
          obtain rfl := Option.some.inj hk
          exact ab_retz (pc := 1701) dL_law_1701 rfl rfl
      have hk := ab_ifn hk hc
      have hz51 := hc
      clear hc
      refine ab_tswOut (pc := 33) (tgt := 1702) dL_law_33 (by omega) rfl ?_
      refine ab_sub_ (lv2 := [some (ab_R v0), some (ab_R v1), some (ab_R v2), some (ab_I v3)]) (ab_ss (ab_ss (ab_ss (ab_ss ab_s0)))) ?_
      exact e_L_law_J1702 ih _ _ _ _ _ _ hk
noncomputable def f_L_law (sN : Nat) (sX : Nat → Int) (a0 : Int) (h : ab_H) : Option (Int × ab_H) :=
  (ab_mkO h 8).bind fun h1 =>
  (ab_if (decide (0 < ab_nx h)) (f_X8_init (ab_nx h) h1)).bind fun q1 =>
  (ab_mkO q1 9).bind fun h2 =>
  (ab_if (decide (0 < ab_nx q1)) (f_X9_init (ab_nx q1) h2)).bind fun q2 =>
  f_L_law_L18 sN sX ab_FU a0 (ab_nx h) (ab_nx q1) (0 : Int) q2
set_option maxRecDepth 20000 in
theorem et_L_law {sN : Nat} {sX : Nat → Int} {a0 : Int} {h : ab_H} {q : Int × ab_H} (hk : f_L_law sN sX a0 h = some q) : ab_E (mm_L_law sN sX) cL_law 0 [some (ab_R a0), none, none, none] [] h (some (ab_I q.1)) q.2 := by
  unfold f_L_law at hk
  obtain ⟨h1, hh1, hk⟩ := ab_bnd hk
  refine ab_newO (pc := 0) dL_law_0 nw_RL_7 hh1 ?_
  refine ab_dup (pc := 3) dL_law_3 rfl ?_
  obtain ⟨q1, hq1, hk⟩ := ab_bnd hk
  obtain ⟨hb, hq1⟩ := ab_if_some hq1
  refine ab_callI_ (st := [ab_R (ab_nx h)]) (as := []) (b := ab_nx h) (pc := 4) dL_law_4 ml_RL_9 my_X8_init mi_X8_init hb (ct_X8_init hq1) ⟨Nat.le_of_ble_eq_true rfl, Nat.le_of_ble_eq_true rfl⟩ rfl (Nat.le_of_ble_eq_true rfl) rfl ?_
  refine ab_astore_n (pc := 7) (i := 1) (lv2 := [some (ab_R a0), some (ab_R (ab_nx h)), none, none]) dL_law_7 rfl (Nat.le_of_ble_eq_true rfl) rfl rfl ?_
  obtain ⟨h2, hh2, hk⟩ := ab_bnd hk
  refine ab_newO (pc := 8) dL_law_8 nw_RL_10 hh2 ?_
  refine ab_dup (pc := 11) dL_law_11 rfl ?_
  obtain ⟨q2, hq2, hk⟩ := ab_bnd hk
  obtain ⟨hb, hq2⟩ := ab_if_some hq2
  refine ab_callI_ (st := [ab_R (ab_nx q1)]) (as := []) (b := ab_nx q1) (pc := 12) dL_law_12 ml_RL_12 my_X9_init mi_X9_init hb (ct_X9_init hq2) ⟨Nat.le_of_ble_eq_true rfl, Nat.le_of_ble_eq_true rfl⟩ rfl (Nat.le_of_ble_eq_true rfl) rfl ?_
  refine ab_astore_n (pc := 15) (i := 2) (lv2 := [some (ab_R a0), some (ab_R (ab_nx h)), some (ab_R (ab_nx q1)), none]) dL_law_15 rfl (Nat.le_of_ble_eq_true rfl) rfl rfl ?_
  refine ab_iconst (pc := 16) dL_law_16 ab_k_0 ?_
  refine ab_istore_n (pc := 17) (i := 3) (lv2 := [some (ab_R a0), some (ab_R (ab_nx h)), some (ab_R (ab_nx q1)), some (ab_I (0 : Int))]) dL_law_17 rfl (Nat.le_of_ble_eq_true rfl) rfl rfl ?_
  refine ab_sub_ (lv2 := [some (ab_R a0), some (ab_R (ab_nx h)), some (ab_R (ab_nx q1)), some (ab_I (0 : Int))]) (ab_ss (ab_ss (ab_ss (ab_ss ab_s0)))) ?_
  refine e_L_law_L18 _ _ _ _ _ _ _ hk
