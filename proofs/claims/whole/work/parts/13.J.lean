theorem dJ6_bitCount_0f7a4_0 : decode cJ6_bitCount_0f7a4 0 = .ok (.iload_n 0, 1) := by decide +kernel
theorem dJ6_bitCount_0f7a4_1 : decode cJ6_bitCount_0f7a4 1 = .ok (.iload_n 0, 1) := by decide +kernel
theorem dJ6_bitCount_0f7a4_2 : decode cJ6_bitCount_0f7a4 2 = .ok (.iconst 1, 1) := by decide +kernel
theorem dJ6_bitCount_0f7a4_3 : decode cJ6_bitCount_0f7a4 3 = .ok (.iushr, 1) := by decide +kernel
theorem dJ6_bitCount_0f7a4_4 : decode cJ6_bitCount_0f7a4 4 = .ok (.ldc_w 265, 3) := by decide +kernel
theorem dJ6_bitCount_0f7a4_7 : decode cJ6_bitCount_0f7a4 7 = .ok (.iand, 1) := by decide +kernel
theorem dJ6_bitCount_0f7a4_8 : decode cJ6_bitCount_0f7a4 8 = .ok (.isub, 1) := by decide +kernel
theorem dJ6_bitCount_0f7a4_9 : decode cJ6_bitCount_0f7a4 9 = .ok (.istore_n 0, 1) := by decide +kernel
theorem dJ6_bitCount_0f7a4_10 : decode cJ6_bitCount_0f7a4 10 = .ok (.iload_n 0, 1) := by decide +kernel
theorem dJ6_bitCount_0f7a4_11 : decode cJ6_bitCount_0f7a4 11 = .ok (.ldc_w 266, 3) := by decide +kernel
theorem dJ6_bitCount_0f7a4_14 : decode cJ6_bitCount_0f7a4 14 = .ok (.iand, 1) := by decide +kernel
theorem dJ6_bitCount_0f7a4_15 : decode cJ6_bitCount_0f7a4 15 = .ok (.iload_n 0, 1) := by decide +kernel
theorem dJ6_bitCount_0f7a4_16 : decode cJ6_bitCount_0f7a4 16 = .ok (.iconst 2, 1) := by decide +kernel
theorem dJ6_bitCount_0f7a4_17 : decode cJ6_bitCount_0f7a4 17 = .ok (.iushr, 1) := by decide +kernel
theorem dJ6_bitCount_0f7a4_18 : decode cJ6_bitCount_0f7a4 18 = .ok (.ldc_w 266, 3) := by decide +kernel
theorem dJ6_bitCount_0f7a4_21 : decode cJ6_bitCount_0f7a4 21 = .ok (.iand, 1) := by decide +kernel
theorem dJ6_bitCount_0f7a4_22 : decode cJ6_bitCount_0f7a4 22 = .ok (.iadd, 1) := by decide +kernel
theorem dJ6_bitCount_0f7a4_23 : decode cJ6_bitCount_0f7a4 23 = .ok (.istore_n 0, 1) := by decide +kernel
theorem dJ6_bitCount_0f7a4_24 : decode cJ6_bitCount_0f7a4 24 = .ok (.iload_n 0, 1) := by decide +kernel
theorem dJ6_bitCount_0f7a4_25 : decode cJ6_bitCount_0f7a4 25 = .ok (.iload_n 0, 1) := by decide +kernel
theorem dJ6_bitCount_0f7a4_26 : decode cJ6_bitCount_0f7a4 26 = .ok (.iconst 4, 1) := by decide +kernel
theorem dJ6_bitCount_0f7a4_27 : decode cJ6_bitCount_0f7a4 27 = .ok (.iushr, 1) := by decide +kernel
theorem dJ6_bitCount_0f7a4_28 : decode cJ6_bitCount_0f7a4 28 = .ok (.iadd, 1) := by decide +kernel
theorem dJ6_bitCount_0f7a4_29 : decode cJ6_bitCount_0f7a4 29 = .ok (.ldc_w 267, 3) := by decide +kernel
theorem dJ6_bitCount_0f7a4_32 : decode cJ6_bitCount_0f7a4 32 = .ok (.iand, 1) := by decide +kernel
theorem dJ6_bitCount_0f7a4_33 : decode cJ6_bitCount_0f7a4 33 = .ok (.istore_n 0, 1) := by decide +kernel
theorem dJ6_bitCount_0f7a4_34 : decode cJ6_bitCount_0f7a4 34 = .ok (.iload_n 0, 1) := by decide +kernel
theorem dJ6_bitCount_0f7a4_35 : decode cJ6_bitCount_0f7a4 35 = .ok (.iload_n 0, 1) := by decide +kernel
theorem dJ6_bitCount_0f7a4_36 : decode cJ6_bitCount_0f7a4 36 = .ok (.bipush 8, 2) := by decide +kernel
theorem dJ6_bitCount_0f7a4_38 : decode cJ6_bitCount_0f7a4 38 = .ok (.iushr, 1) := by decide +kernel
theorem dJ6_bitCount_0f7a4_39 : decode cJ6_bitCount_0f7a4 39 = .ok (.iadd, 1) := by decide +kernel
theorem dJ6_bitCount_0f7a4_40 : decode cJ6_bitCount_0f7a4 40 = .ok (.istore_n 0, 1) := by decide +kernel
theorem dJ6_bitCount_0f7a4_41 : decode cJ6_bitCount_0f7a4 41 = .ok (.iload_n 0, 1) := by decide +kernel
theorem dJ6_bitCount_0f7a4_42 : decode cJ6_bitCount_0f7a4 42 = .ok (.iload_n 0, 1) := by decide +kernel
theorem dJ6_bitCount_0f7a4_43 : decode cJ6_bitCount_0f7a4 43 = .ok (.bipush 16, 2) := by decide +kernel
theorem dJ6_bitCount_0f7a4_45 : decode cJ6_bitCount_0f7a4 45 = .ok (.iushr, 1) := by decide +kernel
theorem dJ6_bitCount_0f7a4_46 : decode cJ6_bitCount_0f7a4 46 = .ok (.iadd, 1) := by decide +kernel
theorem dJ6_bitCount_0f7a4_47 : decode cJ6_bitCount_0f7a4 47 = .ok (.istore_n 0, 1) := by decide +kernel
theorem dJ6_bitCount_0f7a4_48 : decode cJ6_bitCount_0f7a4 48 = .ok (.iload_n 0, 1) := by decide +kernel
theorem dJ6_bitCount_0f7a4_49 : decode cJ6_bitCount_0f7a4 49 = .ok (.bipush 63, 2) := by decide +kernel
theorem dJ6_bitCount_0f7a4_51 : decode cJ6_bitCount_0f7a4 51 = .ok (.iand, 1) := by decide +kernel
theorem dJ6_bitCount_0f7a4_52 : decode cJ6_bitCount_0f7a4 52 = .ok (.ireturn, 1) := by decide +kernel
abbrev mm_J6_bitCount_0f7a4 : ab_M := (RJ6, 1, (some .int), false, 0, 0, none)
noncomputable def f_J6_bitCount_0f7a4 (a0 : Int) (h : ab_H) : Option (Int × ab_H) :=
  some (ab_and (ab_w32 ((ab_w32 ((ab_and (ab_w32 ((ab_w32 ((ab_and (ab_w32 (a0 - (ab_and (ab_ushr a0 (1 : Int)) (1431655765 : Int)))) (858993459 : Int)) + (ab_and (ab_ushr (ab_w32 (a0 - (ab_and (ab_ushr a0 (1 : Int)) (1431655765 : Int)))) (2 : Int)) (858993459 : Int)))) + (ab_ushr (ab_w32 ((ab_and (ab_w32 (a0 - (ab_and (ab_ushr a0 (1 : Int)) (1431655765 : Int)))) (858993459 : Int)) + (ab_and (ab_ushr (ab_w32 (a0 - (ab_and (ab_ushr a0 (1 : Int)) (1431655765 : Int)))) (2 : Int)) (858993459 : Int)))) (4 : Int)))) (252645135 : Int)) + (ab_ushr (ab_and (ab_w32 ((ab_w32 ((ab_and (ab_w32 (a0 - (ab_and (ab_ushr a0 (1 : Int)) (1431655765 : Int)))) (858993459 : Int)) + (ab_and (ab_ushr (ab_w32 (a0 - (ab_and (ab_ushr a0 (1 : Int)) (1431655765 : Int)))) (2 : Int)) (858993459 : Int)))) + (ab_ushr (ab_w32 ((ab_and (ab_w32 (a0 - (ab_and (ab_ushr a0 (1 : Int)) (1431655765 : Int)))) (858993459 : Int)) + (ab_and (ab_ushr (ab_w32 (a0 - (ab_and (ab_ushr a0 (1 : Int)) (1431655765 : Int)))) (2 : Int)) (858993459 : Int)))) (4 : Int)))) (252645135 : Int)) (8 : Int)))) + (ab_ushr (ab_w32 ((ab_and (ab_w32 ((ab_w32 ((ab_and (ab_w32 (a0 - (ab_and (ab_ushr a0 (1 : Int)) (1431655765 : Int)))) (858993459 : Int)) + (ab_and (ab_ushr (ab_w32 (a0 - (ab_and (ab_ushr a0 (1 : Int)) (1431655765 : Int)))) (2 : Int)) (858993459 : Int)))) + (ab_ushr (ab_w32 ((ab_and (ab_w32 (a0 - (ab_and (ab_ushr a0 (1 : Int)) (1431655765 : Int)))) (858993459 : Int)) + (ab_and (ab_ushr (ab_w32 (a0 - (ab_and (ab_ushr a0 (1 : Int)) (1431655765 : Int)))) (2 : Int)) (858993459 : Int)))) (4 : Int)))) (252645135 : Int)) + (ab_ushr (ab_and (ab_w32 ((ab_w32 ((ab_and (ab_w32 (a0 - (ab_and (ab_ushr a0 (1 : Int)) (1431655765 : Int)))) (858993459 : Int)) + (ab_and (ab_ushr (ab_w32 (a0 - (ab_and (ab_ushr a0 (1 : Int)) (1431655765 : Int)))) (2 : Int)) (858993459 : Int)))) + (ab_ushr (ab_w32 ((ab_and (ab_w32 (a0 - (ab_and (ab_ushr a0 (1 : Int)) (1431655765 : Int)))) (858993459 : Int)) + (ab_and (ab_ushr (ab_w32 (a0 - (ab_and (ab_ushr a0 (1 : Int)) (1431655765 : Int)))) (2 : Int)) (858993459 : Int)))) (4 : Int)))) (252645135 : Int)) (8 : Int)))) (16 : Int)))) (63 : Int), h)
set_option maxRecDepth 20000 in
theorem ct_J6_bitCount_0f7a4 {a0 : Int} {h : ab_H} {q : Int × ab_H} (hk : f_J6_bitCount_0f7a4 a0 h = some q) : ab_CT yJ6_bitCount_0f7a4 cJ6_bitCount_0f7a4 1 (some .int) 0 0 [ab_I a0] h (some (ab_I q.1)) q.2 := by
  refine ab_CT.mk_ 0 (own := RJ6) (ini := false) (lv := [some (ab_I a0)]) rfl (by decide +kernel) (fun q => by cases q) rfl rfl ?_
  unfold f_J6_bitCount_0f7a4 at hk
  show ab_E mm_J6_bitCount_0f7a4 cJ6_bitCount_0f7a4 0 _ [] h _ _
  refine ab_iload_n (pc := 0) (i := 0) dJ6_bitCount_0f7a4_0 rfl rfl ?_
  refine ab_iload_n (pc := 1) (i := 0) dJ6_bitCount_0f7a4_1 rfl rfl ?_
  refine ab_iconst (pc := 2) dJ6_bitCount_0f7a4_2 ab_k_1 ?_
  refine ab_iushr (pc := 3) dJ6_bitCount_0f7a4_3 ?_
  refine ab_ldcw (x := (1431655765 : Int)) (pc := 4) dJ6_bitCount_0f7a4_4 ab_ld_RJ6_265 ab_k_1431655765 ?_
  refine ab_iand (pc := 7) dJ6_bitCount_0f7a4_7 ?_
  refine ab_isub (pc := 8) dJ6_bitCount_0f7a4_8 ?_
  refine ab_istore_n (pc := 9) (i := 0) (lv2 := [some (ab_I (ab_w32 (a0 - (ab_and (ab_ushr a0 (1 : Int)) (1431655765 : Int)))))]) dJ6_bitCount_0f7a4_9 rfl (Nat.le_of_ble_eq_true rfl) rfl rfl ?_
  refine ab_iload_n (pc := 10) (i := 0) dJ6_bitCount_0f7a4_10 rfl rfl ?_
  refine ab_ldcw (x := (858993459 : Int)) (pc := 11) dJ6_bitCount_0f7a4_11 ab_ld_RJ6_266 ab_k_858993459 ?_
  refine ab_iand (pc := 14) dJ6_bitCount_0f7a4_14 ?_
  refine ab_iload_n (pc := 15) (i := 0) dJ6_bitCount_0f7a4_15 rfl rfl ?_
  refine ab_iconst (pc := 16) dJ6_bitCount_0f7a4_16 ab_k_2 ?_
  refine ab_iushr (pc := 17) dJ6_bitCount_0f7a4_17 ?_
  refine ab_ldcw (x := (858993459 : Int)) (pc := 18) dJ6_bitCount_0f7a4_18 ab_ld_RJ6_266 ab_k_858993459 ?_
  refine ab_iand (pc := 21) dJ6_bitCount_0f7a4_21 ?_
  refine ab_iadd (pc := 22) dJ6_bitCount_0f7a4_22 ?_
  refine ab_istore_n (pc := 23) (i := 0) (lv2 := [some (ab_I (ab_w32 ((ab_and (ab_w32 (a0 - (ab_and (ab_ushr a0 (1 : Int)) (1431655765 : Int)))) (858993459 : Int)) + (ab_and (ab_ushr (ab_w32 (a0 - (ab_and (ab_ushr a0 (1 : Int)) (1431655765 : Int)))) (2 : Int)) (858993459 : Int)))))]) dJ6_bitCount_0f7a4_23 rfl (Nat.le_of_ble_eq_true rfl) rfl rfl ?_
  refine ab_iload_n (pc := 24) (i := 0) dJ6_bitCount_0f7a4_24 rfl rfl ?_
  refine ab_iload_n (pc := 25) (i := 0) dJ6_bitCount_0f7a4_25 rfl rfl ?_
  refine ab_iconst (pc := 26) dJ6_bitCount_0f7a4_26 ab_k_4 ?_
  refine ab_iushr (pc := 27) dJ6_bitCount_0f7a4_27 ?_
  refine ab_iadd (pc := 28) dJ6_bitCount_0f7a4_28 ?_
  refine ab_ldcw (x := (252645135 : Int)) (pc := 29) dJ6_bitCount_0f7a4_29 ab_ld_RJ6_267 ab_k_252645135 ?_
  refine ab_iand (pc := 32) dJ6_bitCount_0f7a4_32 ?_
  refine ab_istore_n (pc := 33) (i := 0) (lv2 := [some (ab_I (ab_and (ab_w32 ((ab_w32 ((ab_and (ab_w32 (a0 - (ab_and (ab_ushr a0 (1 : Int)) (1431655765 : Int)))) (858993459 : Int)) + (ab_and (ab_ushr (ab_w32 (a0 - (ab_and (ab_ushr a0 (1 : Int)) (1431655765 : Int)))) (2 : Int)) (858993459 : Int)))) + (ab_ushr (ab_w32 ((ab_and (ab_w32 (a0 - (ab_and (ab_ushr a0 (1 : Int)) (1431655765 : Int)))) (858993459 : Int)) + (ab_and (ab_ushr (ab_w32 (a0 - (ab_and (ab_ushr a0 (1 : Int)) (1431655765 : Int)))) (2 : Int)) (858993459 : Int)))) (4 : Int)))) (252645135 : Int)))]) dJ6_bitCount_0f7a4_33 rfl (Nat.le_of_ble_eq_true rfl) rfl rfl ?_
  refine ab_iload_n (pc := 34) (i := 0) dJ6_bitCount_0f7a4_34 rfl rfl ?_
  refine ab_iload_n (pc := 35) (i := 0) dJ6_bitCount_0f7a4_35 rfl rfl ?_
  refine ab_bipush (pc := 36) dJ6_bitCount_0f7a4_36 ab_p8_8 ab_k_8 ?_
  refine ab_iushr (pc := 38) dJ6_bitCount_0f7a4_38 ?_
  refine ab_iadd (pc := 39) dJ6_bitCount_0f7a4_39 ?_
  refine ab_istore_n (pc := 40) (i := 0) (lv2 := [some (ab_I (ab_w32 ((ab_and (ab_w32 ((ab_w32 ((ab_and (ab_w32 (a0 - (ab_and (ab_ushr a0 (1 : Int)) (1431655765 : Int)))) (858993459 : Int)) + (ab_and (ab_ushr (ab_w32 (a0 - (ab_and (ab_ushr a0 (1 : Int)) (1431655765 : Int)))) (2 : Int)) (858993459 : Int)))) + (ab_ushr (ab_w32 ((ab_and (ab_w32 (a0 - (ab_and (ab_ushr a0 (1 : Int)) (1431655765 : Int)))) (858993459 : Int)) + (ab_and (ab_ushr (ab_w32 (a0 - (ab_and (ab_ushr a0 (1 : Int)) (1431655765 : Int)))) (2 : Int)) (858993459 : Int)))) (4 : Int)))) (252645135 : Int)) + (ab_ushr (ab_and (ab_w32 ((ab_w32 ((ab_and (ab_w32 (a0 - (ab_and (ab_ushr a0 (1 : Int)) (1431655765 : Int)))) (858993459 : Int)) + (ab_and (ab_ushr (ab_w32 (a0 - (ab_and (ab_ushr a0 (1 : Int)) (1431655765 : Int)))) (2 : Int)) (858993459 : Int)))) + (ab_ushr (ab_w32 ((ab_and (ab_w32 (a0 - (ab_and (ab_ushr a0 (1 : Int)) (1431655765 : Int)))) (858993459 : Int)) + (ab_and (ab_ushr (ab_w32 (a0 - (ab_and (ab_ushr a0 (1 : Int)) (1431655765 : Int)))) (2 : Int)) (858993459 : Int)))) (4 : Int)))) (252645135 : Int)) (8 : Int)))))]) dJ6_bitCount_0f7a4_40 rfl (Nat.le_of_ble_eq_true rfl) rfl rfl ?_
  refine ab_iload_n (pc := 41) (i := 0) dJ6_bitCount_0f7a4_41 rfl rfl ?_
  refine ab_iload_n (pc := 42) (i := 0) dJ6_bitCount_0f7a4_42 rfl rfl ?_
  refine ab_bipush (pc := 43) dJ6_bitCount_0f7a4_43 ab_p8_16 ab_k_16 ?_
  refine ab_iushr (pc := 45) dJ6_bitCount_0f7a4_45 ?_
  refine ab_iadd (pc := 46) dJ6_bitCount_0f7a4_46 ?_
  refine ab_istore_n (pc := 47) (i := 0) (lv2 := [some (ab_I (ab_w32 ((ab_w32 ((ab_and (ab_w32 ((ab_w32 ((ab_and (ab_w32 (a0 - (ab_and (ab_ushr a0 (1 : Int)) (1431655765 : Int)))) (858993459 : Int)) + (ab_and (ab_ushr (ab_w32 (a0 - (ab_and (ab_ushr a0 (1 : Int)) (1431655765 : Int)))) (2 : Int)) (858993459 : Int)))) + (ab_ushr (ab_w32 ((ab_and (ab_w32 (a0 - (ab_and (ab_ushr a0 (1 : Int)) (1431655765 : Int)))) (858993459 : Int)) + (ab_and (ab_ushr (ab_w32 (a0 - (ab_and (ab_ushr a0 (1 : Int)) (1431655765 : Int)))) (2 : Int)) (858993459 : Int)))) (4 : Int)))) (252645135 : Int)) + (ab_ushr (ab_and (ab_w32 ((ab_w32 ((ab_and (ab_w32 (a0 - (ab_and (ab_ushr a0 (1 : Int)) (1431655765 : Int)))) (858993459 : Int)) + (ab_and (ab_ushr (ab_w32 (a0 - (ab_and (ab_ushr a0 (1 : Int)) (1431655765 : Int)))) (2 : Int)) (858993459 : Int)))) + (ab_ushr (ab_w32 ((ab_and (ab_w32 (a0 - (ab_and (ab_ushr a0 (1 : Int)) (1431655765 : Int)))) (858993459 : Int)) + (ab_and (ab_ushr (ab_w32 (a0 - (ab_and (ab_ushr a0 (1 : Int)) (1431655765 : Int)))) (2 : Int)) (858993459 : Int)))) (4 : Int)))) (252645135 : Int)) (8 : Int)))) + (ab_ushr (ab_w32 ((ab_and (ab_w32 ((ab_w32 ((ab_and (ab_w32 (a0 - (ab_and (ab_ushr a0 (1 : Int)) (1431655765 : Int)))) (858993459 : Int)) + (ab_and (ab_ushr (ab_w32 (a0 - (ab_and (ab_ushr a0 (1 : Int)) (1431655765 : Int)))) (2 : Int)) (858993459 : Int)))) + (ab_ushr (ab_w32 ((ab_and (ab_w32 (a0 - (ab_and (ab_ushr a0 (1 : Int)) (1431655765 : Int)))) (858993459 : Int)) + (ab_and (ab_ushr (ab_w32 (a0 - (ab_and (ab_ushr a0 (1 : Int)) (1431655765 : Int)))) (2 : Int)) (858993459 : Int)))) (4 : Int)))) (252645135 : Int)) + (ab_ushr (ab_and (ab_w32 ((ab_w32 ((ab_and (ab_w32 (a0 - (ab_and (ab_ushr a0 (1 : Int)) (1431655765 : Int)))) (858993459 : Int)) + (ab_and (ab_ushr (ab_w32 (a0 - (ab_and (ab_ushr a0 (1 : Int)) (1431655765 : Int)))) (2 : Int)) (858993459 : Int)))) + (ab_ushr (ab_w32 ((ab_and (ab_w32 (a0 - (ab_and (ab_ushr a0 (1 : Int)) (1431655765 : Int)))) (858993459 : Int)) + (ab_and (ab_ushr (ab_w32 (a0 - (ab_and (ab_ushr a0 (1 : Int)) (1431655765 : Int)))) (2 : Int)) (858993459 : Int)))) (4 : Int)))) (252645135 : Int)) (8 : Int)))) (16 : Int)))))]) dJ6_bitCount_0f7a4_47 rfl (Nat.le_of_ble_eq_true rfl) rfl rfl ?_
  refine ab_iload_n (pc := 48) (i := 0) dJ6_bitCount_0f7a4_48 rfl rfl ?_
  refine ab_bipush (pc := 49) dJ6_bitCount_0f7a4_49 ab_p8_63 ab_k_63 ?_
  refine ab_iand (pc := 51) dJ6_bitCount_0f7a4_51 ?_
  obtain rfl := Option.some.inj hk
  exact ab_reti (pc := 52) dJ6_bitCount_0f7a4_52 (Or.inl rfl)
