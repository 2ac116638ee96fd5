/-! arrays -/
theorem ab_e11 {b0 : Nat} {cy : Nat → ClassId} {c : ab_C} (h : c.1 = 11) : ab_ent b0 cy c = .inl (cy 0, c.2.1, .inl (fun i => Int32.ofInt (c.2.2 i))) := by unfold ab_ent; rw [if_pos h]
theorem ab_e12 {b0 : Nat} {cy : Nat → ClassId} {c : ab_C} (h : c.1 = 12) : ab_ent b0 cy c = .inl (cy 1, c.2.1, .inr (.inl (fun i => Int64.ofInt (c.2.2 i)))) := by unfold ab_ent; rw [if_neg (by omega), if_pos h]
theorem ab_e13 {b0 : Nat} {cy : Nat → ClassId} {c : ab_C} (h : c.1 = 13) : ab_ent b0 cy c = .inl (cy 2, c.2.1, .inl (fun i => Int32.ofInt (c.2.2 i))) := by unfold ab_ent; rw [if_neg (by omega), if_neg (by omega), if_pos h]
theorem ab_e14 {b0 : Nat} {cy : Nat → ClassId} {c : ab_C} (h : c.1 = 14) : ab_ent b0 cy c = .inl (cy 3, c.2.1, .inr (.inr (.inr (.inr (fun i => ab_rf b0 (c.2.2 i)))))) := by unfold ab_ent; rw [if_neg (by omega), if_neg (by omega), if_neg (by omega), if_pos h]
theorem ab_e15 {b0 : Nat} {cy : Nat → ClassId} {c : ab_C} (h : c.1 = 15) : ab_ent b0 cy c = .inl (cy 4, c.2.1, .inr (.inr (.inr (.inr (fun i => ab_rf b0 (c.2.2 i)))))) := by unfold ab_ent; rw [if_neg (by omega), if_neg (by omega), if_neg (by omega), if_neg (by omega), if_pos h]
theorem ab_ofNat (n : Nat) : Int32.ofNat n = Int32.ofInt (n : Int) := by first | rfl | (simp; done) | exact (Int32.ofInt_eq_ofNat).symm
section ABY
variable {M : ab_M} {cc : ByteArray} {pc : Nat} {lv : List (Option ab_V)} {st : List ab_V} {h h' : ab_H} {r : Option ab_V}
theorem ab_ald_in {kd : Nat} {a i x : Int} (hg : ab_ald h kd a i = some x) : (h.2.2 a.toNat).1 = kd ∧ 0 ≤ i ∧ i < ((h.2.2 a.toNat).2.1 : Int) ∧ (h.2.2 a.toNat).2.2 i.toNat = x := by
  unfold ab_ald at hg
  split at hg
  case isFalse => cases hg
  case isTrue q => cases hg; exact ⟨q.1, q.2.1, q.2.2, rfl⟩
theorem ab_ast_in {kd : Nat} {a i x : Int} {h2 : ab_H} (hg : ab_ast h kd a i x = some h2) : (h.2.2 a.toNat).1 = kd ∧ 0 ≤ i ∧ i < ((h.2.2 a.toNat).2.1 : Int) ∧ ab_set h a.toNat (kd, (h.2.2 a.toNat).2.1, ab_up (h.2.2 a.toNat).2.2 i.toNat x) = h2 := by
  unfold ab_ast at hg
  split at hg
  case isFalse => cases hg
  case isTrue q => cases hg; exact ⟨q.1, q.2.1, q.2.2, rfl⟩
theorem ab_iald {a i x : Int} (hd : decode cc pc = .ok (.iaload, 1)) (hg : ab_ald h 11 a i = some x) (kk : ab_E M cc (pc + 1) lv (ab_I x :: st) h r h') : ab_E M cc pc lv (ab_I i :: ab_R a :: st) h r h' := by
  obtain ⟨hk, h0, h1, rfl⟩ := ab_ald_in hg
  refine ab_stk kk (fun h5 _ hh => ab_ok1 (v := ab_I 0) (ab_okt (ab_okt h5)) (by have e := (hh.1 a.toNat).1 i.toNat; rw [hk] at e; exact e)) fun p l e R s m args below meth c H locs Q ls b0 n0 s0 D cy sA adV S0 D0 _ kW => ?_
  obtain ⟨q1, q2, q3, q4, q5, q6, q7, q8, q9, q10⟩ := S0
  obtain ⟨d1, d2, d3, d4, d5, d6, d7, d8, d9⟩ := D0
  obtain ⟨i1, i2, i3⟩ := ab_there d7 (by omega) hk
  have hi : ab_i32 i := ab_okh1 d5
  simp only [List.map_cons, ab_cv, ab_cvR_pos i3] at kW ⊢
  refine va_iald q1 q2 q8.2.1 d1 (a.toNat - 1) 0 (by rw [ab_W_get i1 i2, ab_e11 hk]) rfl (ab_inn hi h0 h1) hd ?_
  rw [ab_clamp hi]; exact kW
theorem ab_bald {a i x : Int} (hd : decode cc pc = .ok (.baload, 1)) (hg : ab_ald h 13 a i = some x) (kk : ab_E M cc (pc + 1) lv (ab_I x :: st) h r h') : ab_E M cc pc lv (ab_I i :: ab_R a :: st) h r h' := by
  obtain ⟨hk, h0, h1, rfl⟩ := ab_ald_in hg
  refine ab_stk kk (fun h5 _ hh => ab_ok1 (v := ab_I 0) (ab_okt (ab_okt h5)) (by have e := (hh.1 a.toNat).1 i.toNat; rw [hk] at e; have e : _ ∧ _ := e; show ab_i32 _; unfold ab_i32; omega)) fun p l e R s m args below meth c H locs Q ls b0 n0 s0 D cy sA adV S0 D0 _ kW => ?_
  obtain ⟨q1, q2, q3, q4, q5, q6, q7, q8, q9, q10⟩ := S0
  obtain ⟨d1, d2, d3, d4, d5, d6, d7, d8, d9⟩ := D0
  obtain ⟨i1, i2, i3⟩ := ab_there d7 (by omega) hk
  have hi : ab_i32 i := ab_okh1 d5
  simp only [List.map_cons, ab_cv, ab_cvR_pos i3] at kW ⊢
  refine va_bald q1 q2 q8.2.1 d1 (a.toNat - 1) 2 (by rw [ab_W_get i1 i2, ab_e13 hk]) rfl (ab_inn hi h0 h1) hd ?_
  rw [ab_clamp hi]; exact kW
theorem ab_lald {a i x : Int} (hd : decode cc pc = .ok (.laload, 1)) (hg : ab_ald h 12 a i = some x) (kk : ab_E M cc (pc + 1) lv (ab_J x :: st) h r h') : ab_E M cc pc lv (ab_I i :: ab_R a :: st) h r h' := by
  obtain ⟨hk, h0, h1, rfl⟩ := ab_ald_in hg
  refine ab_stk kk (fun h5 _ hh => ab_ok1 (v := ab_I 0) (ab_okt (ab_okt h5)) (by have e := (hh.1 a.toNat).1 i.toNat; rw [hk] at e; exact e)) fun p l e R s m args below meth c H locs Q ls b0 n0 s0 D cy sA adV S0 D0 _ kW => ?_
  obtain ⟨q1, q2, q3, q4, q5, q6, q7, q8, q9, q10⟩ := S0
  obtain ⟨d1, d2, d3, d4, d5, d6, d7, d8, d9⟩ := D0
  obtain ⟨i1, i2, i3⟩ := ab_there d7 (by omega) hk
  have hi : ab_i32 i := ab_okh1 d5
  simp only [List.map_cons, ab_cv, ab_cvR_pos i3] at kW ⊢
  refine va_lald q1 q2 q8.2.1 d1 (a.toNat - 1) 1 (by rw [ab_W_get i1 i2, ab_e12 hk]) rfl (ab_inn hi h0 h1) hd ?_
  rw [ab_clamp hi]; exact kW
theorem ab_aald {kd : Nat} {a i x : Int} (hd : decode cc pc = .ok (.aaload, 1)) (hkd : kd = 14 ∨ kd = 15) (hg : ab_ald h kd a i = some x) (kk : ab_E M cc (pc + 1) lv (ab_R x :: st) h r h') : ab_E M cc pc lv (ab_I i :: ab_R a :: st) h r h' := by
  obtain ⟨hk, h0, h1, rfl⟩ := ab_ald_in hg
  refine ab_stk kk (fun h5 _ hh => ab_ok1 (v := ab_I 0) (ab_okt (ab_okt h5)) trivial) fun p l e R s m args below meth c H locs Q ls b0 n0 s0 D cy sA adV S0 D0 _ kW => ?_
  obtain ⟨q1, q2, q3, q4, q5, q6, q7, q8, q9, q10⟩ := S0
  obtain ⟨d1, d2, d3, d4, d5, d6, d7, d8, d9⟩ := D0
  obtain ⟨i1, i2, i3⟩ := ab_there d7 (by omega) hk
  have hi : ab_i32 i := ab_okh1 d5
  have hx : 0 ≤ (h.2.2 a.toNat).2.2 i.toNat := by
    have e := (d7.1 a.toNat).1 i.toNat
    rw [hk] at e
    rcases hkd with rfl | rfl <;> exact e
  simp only [List.map_cons, ab_cv, ab_cvR_pos i3] at kW ⊢
  rcases hkd with rfl | rfl
  · refine va_aldq q1 q2 q8.2.1 d1 (a.toNat - 1) 3 (by rw [ab_W_get i1 i2, ab_e14 hk]) rfl (ab_inn hi h0 h1) hd ?_
    rw [ab_clamp hi, ab_rf_cv (sA := sA) hx]; exact kW
  · refine va_aldq q1 q2 q8.2.1 d1 (a.toNat - 1) 4 (by rw [ab_W_get i1 i2, ab_e15 hk]) rfl (ab_inn hi h0 h1) hd ?_
    rw [ab_clamp hi, ab_rf_cv (sA := sA) hx]; exact kW
theorem ab_alen {kd : Nat} {a x : Int} (hd : decode cc pc = .ok (.arraylength, 1)) (hkd : kd = 11 ∨ kd = 12 ∨ kd = 13) (hg : ab_len h kd a = some x) (kk : ab_E M cc (pc + 1) lv (ab_I x :: st) h r h') : ab_E M cc pc lv (ab_R a :: st) h r h' := by
  unfold ab_len at hg
  split at hg
  case isFalse => cases hg
  case isTrue hk =>
    cases hg
    refine ab_stk kk (fun h5 _ hh => ab_ok1 (v := ab_I 0) (ab_okt h5) (by have e := (hh.1 a.toNat).2.2; show ab_i32 _; unfold ab_i32; omega)) fun p l e R s m args below meth c H locs Q ls b0 n0 s0 D cy sA adV S0 D0 _ kW => ?_
    obtain ⟨q1, q2, q3, q4, q5, q6, q7, q8, q9, q10⟩ := S0
    obtain ⟨d1, d2, d3, d4, d5, d6, d7, d8, d9⟩ := D0
    obtain ⟨i1, i2, i3⟩ := ab_there d7 (by omega) hk
    simp only [List.map_cons, ab_cv, ab_cvR_pos i3] at kW ⊢
    rcases hkd with rfl | rfl | rfl
    · refine va_alen q1 q2 q8.2.1 d1 (a.toNat - 1) 0 (by rw [ab_W_get i1 i2, ab_e11 hk]) (ty := .int) rfl (v := Int32.ofInt ((h.2.2 a.toNat).2.1 : Int)) ?_ hd kW
      exact ab_ofNat _
    · refine va_alen q1 q2 q8.2.1 d1 (a.toNat - 1) 1 (by rw [ab_W_get i1 i2, ab_e12 hk]) (ty := .long) rfl (v := Int32.ofInt ((h.2.2 a.toNat).2.1 : Int)) ?_ hd kW
      exact ab_ofNat _
    · refine va_alen q1 q2 q8.2.1 d1 (a.toNat - 1) 2 (by rw [ab_W_get i1 i2, ab_e13 hk]) (ty := .byte) rfl (v := Int32.ofInt ((h.2.2 a.toNat).2.1 : Int)) ?_ hd kW
      exact ab_ofNat _
theorem ab_iast {a i x : Int} {h2 : ab_H} (hd : decode cc pc = .ok (.iastore, 1)) (hg : ab_ast h 11 a i x = some h2) (kk : ab_E M cc (pc + 1) lv st h2 r h') : ab_E M cc pc lv (ab_I x :: ab_I i :: ab_R a :: st) h r h' := by
  obtain ⟨hk, h0, h1, rfl⟩ := ab_ast_in hg
  refine ab_wr (kd := 11) (by omega) hk kk (fun h5 hh => ⟨ab_okt (ab_okt (ab_okt h5)), by
    have e := ab_okc_up (hh.1 a.toNat) (k := i.toNat) (x := x) (by rw [hk]; exact ab_okh1 h5)
    rw [hk] at e; exact e⟩) fun p l e R s m args below meth c H locs Q ls b0 n0 s0 D cy sA adV S0 D0 i12 kW => ?_
  obtain ⟨q1, q2, q3, q4, q5, q6, q7, q8, q9, q10⟩ := S0
  obtain ⟨d1, d2, d3, d4, d5, d6, d7, d8, d9⟩ := D0
  obtain ⟨i1, i2, i3⟩ := ab_there d7 (by omega) hk
  have hi : ab_i32 i := ab_okh1 (ab_okt d5)
  have hc := d1 (a.toNat - 1) _ (ab_W_get i1 i2)
  rw [ab_e11 hk] at hc
  simp only [List.map_cons, ab_cv, ab_cvR_pos i3]
  refine W.iast q1 q2 hc ((q8.2.1.2 0 _ rfl).1 _ (fun j => .int (Int32.ofInt ((h.2.2 a.toNat).2.2 j)))) (fun q => by cases q) (by show ¬ (_ < 0 ∨ (arrV _ _ _).slots.size ≤ _); rw [arrV_size]; exact ab_inn hi h0 h1) rfl rfl hd fun H1 e1 z oq => kW H1 _ ?_ z oq (fun q hq => by rw [List.mem_singleton.mp hq])
  rw [ab_e11 rfl]
  show H1[b0 + a.toNat]? = some (vp_cell _ _)
  rw [e1, vp_cell_i, vp_cell_i, arrV_store, ab_clamp hi]
  congr 2
  funext q
  by_cases hq : q = i.toNat
  · subst hq; simp [updV, ab_up]
  · simp [updV, ab_up, hq]
theorem ab_last {a i x : Int} {h2 : ab_H} (hd : decode cc pc = .ok (.lastore, 1)) (hg : ab_ast h 12 a i x = some h2) (kk : ab_E M cc (pc + 1) lv st h2 r h') : ab_E M cc pc lv (ab_J x :: ab_I i :: ab_R a :: st) h r h' := by
  obtain ⟨hk, h0, h1, rfl⟩ := ab_ast_in hg
  refine ab_wr (kd := 12) (by omega) hk kk (fun h5 hh => ⟨ab_okt (ab_okt (ab_okt h5)), by
    have e := ab_okc_up (hh.1 a.toNat) (k := i.toNat) (x := x) (by rw [hk]; exact ab_okh1 h5)
    rw [hk] at e; exact e⟩) fun p l e R s m args below meth c H locs Q ls b0 n0 s0 D cy sA adV S0 D0 i12 kW => ?_
  obtain ⟨q1, q2, q3, q4, q5, q6, q7, q8, q9, q10⟩ := S0
  obtain ⟨d1, d2, d3, d4, d5, d6, d7, d8, d9⟩ := D0
  obtain ⟨i1, i2, i3⟩ := ab_there d7 (by omega) hk
  have hi : ab_i32 i := ab_okh1 (ab_okt d5)
  have hc := d1 (a.toNat - 1) _ (ab_W_get i1 i2)
  rw [ab_e12 hk] at hc
  simp only [List.map_cons, ab_cv, ab_cvR_pos i3]
  refine W.last q1 q2 hc ((q8.2.1.2 1 _ rfl).1 _ (fun j => .long (Int64.ofInt ((h.2.2 a.toNat).2.2 j)))) (fun q => by cases q) (by show ¬ (_ < 0 ∨ (arrV _ _ _).slots.size ≤ _); rw [arrV_size]; exact ab_inn hi h0 h1) rfl rfl hd fun H1 e1 z oq => kW H1 _ ?_ z oq (fun q hq => by rw [List.mem_singleton.mp hq])
  rw [ab_e12 rfl]
  show H1[b0 + a.toNat]? = some (vp_cell _ _)
  rw [e1, vp_cell_l, vp_cell_l, arrV_store, ab_clamp hi]
  congr 2
  funext q
  by_cases hq : q = i.toNat
  · subst hq; simp [updV, ab_up]
  · simp [updV, ab_up, hq]
theorem ab_bast {a i x : Int} {h2 : ab_H} (hd : decode cc pc = .ok (.bastore, 1)) (hg : ab_ast h 13 a i (ab_w8 x) = some h2) (kk : ab_E M cc (pc + 1) lv st h2 r h') : ab_E M cc pc lv (ab_I x :: ab_I i :: ab_R a :: st) h r h' := by
  obtain ⟨hk, h0, h1, rfl⟩ := ab_ast_in hg
  refine ab_wr (kd := 13) (by omega) hk kk (fun h5 hh => ⟨ab_okt (ab_okt (ab_okt h5)), by
    have e := ab_okc_up (hh.1 a.toNat) (k := i.toNat) (x := ab_w8 x) (by rw [hk]; show _ ∧ _; unfold ab_w8; omega)
    rw [hk] at e; exact e⟩) fun p l e R s m args below meth c H locs Q ls b0 n0 s0 D cy sA adV S0 D0 i12 kW => ?_
  obtain ⟨q1, q2, q3, q4, q5, q6, q7, q8, q9, q10⟩ := S0
  obtain ⟨d1, d2, d3, d4, d5, d6, d7, d8, d9⟩ := D0
  obtain ⟨i1, i2, i3⟩ := ab_there d7 (by omega) hk
  have hi : ab_i32 i := ab_okh1 (ab_okt d5)
  have hc := d1 (a.toNat - 1) _ (ab_W_get i1 i2)
  rw [ab_e13 hk] at hc
  simp only [List.map_cons, ab_cv, ab_cvR_pos i3]
  refine W.bast q1 q2 hc ((q8.2.1.2 2 _ rfl).1 _ (fun j => .int (Int32.ofInt ((h.2.2 a.toNat).2.2 j)))) (fun q => by cases q) (by show ¬ (_ < 0 ∨ (arrV _ _ _).slots.size ≤ _); rw [arrV_size]; exact ab_inn hi h0 h1) rfl rfl hd fun H1 e1 z oq => kW H1 _ ?_ z oq (fun q hq => by rw [List.mem_singleton.mp hq])
  rw [ab_e13 rfl]
  show H1[b0 + a.toNat]? = some (vp_cell _ _)
  have en : narrow .byte (.int (Int32.ofInt x)) = .int (Int32.ofInt (ab_w8 x)) := by rw [← ab_i2b]; rfl
  rw [e1, vp_cell_i, vp_cell_i, arrV_store, ab_clamp hi, en]
  congr 2
  funext q
  by_cases hq : q = i.toNat
  · subst hq; simp [updV, ab_up]
  · simp [updV, ab_up, hq]
theorem ab_aast {kd ko : Nat} {a i x : Int} {h2 : ab_H} (hd : decode cc pc = .ok (.aastore, 1)) (hkd : kd = 14 ∧ ko = 1 ∨ kd = 15 ∧ ko = 3) (hx : (h.2.2 x.toNat).1 = ko) (hg : ab_ast h kd a i x = some h2) (kk : ab_E M cc (pc + 1) lv st h2 r h') : ab_E M cc pc lv (ab_R x :: ab_I i :: ab_R a :: st) h r h' := by
  obtain ⟨hk, h0, h1, rfl⟩ := ab_ast_in hg
  refine ab_wr (kd := kd) (by omega) hk kk (fun h5 hh => ⟨ab_okt (ab_okt (ab_okt h5)), by
    have j1 := ab_there hh (r := x) (k := ko) (by omega) hx
    have e := ab_okc_up (hh.1 a.toNat) (k := i.toNat) (x := x) (by rw [hk]; rcases hkd with ⟨rfl, -⟩ | ⟨rfl, -⟩ <;> (show (0 : Int) ≤ x; omega))
    rw [hk] at e; exact e⟩) fun p l e R s m args below meth c H locs Q ls b0 n0 s0 D cy sA adV S0 D0 i12 kW => ?_
  obtain ⟨q1, q2, q3, q4, q5, q6, q7, q8, q9, q10⟩ := S0
  obtain ⟨d1, d2, d3, d4, d5, d6, d7, d8, d9⟩ := D0
  obtain ⟨i1, i2, i3⟩ := ab_there d7 (by omega) hk
  obtain ⟨j1, j2, j3⟩ := ab_there d7 (by omega) hx
  have hi : ab_i32 i := ab_okh1 (ab_okt d5)
  have hc := d1 (a.toNat - 1) _ (ab_W_get i1 i2)
  have ho := d1 (x.toNat - 1) _ (ab_W_get j1 j2)
  rw [ab_ent_obj (by omega)] at ho
  obtain ⟨r', hr', cellV, g1, g2, g3, -⟩ := ho
  have hin := ab_inn hi h0 h1
  simp only [List.map_cons, ab_cv, ab_cvR_pos i3, ab_cvR_pos j3]
  have fin : ∀ (t0 ci : Nat) (rr : vw_C) (cA : ClassId), (h.2.2 x.toNat).1 - 1 = ci → vwCl[ci]? = some rr → (ab_tys cy)[t0]? = some (cA, .object rr.1) → ab_ent b0 cy (h.2.2 a.toNat) = .inl (cA, (h.2.2 a.toNat).2.1, .inr (.inr (.inr (.inr (fun i => ab_rf b0 ((h.2.2 a.toNat).2.2 i)))))) →
      (ab_ent b0 cy (kd, (h.2.2 a.toNat).2.1, ab_up (h.2.2 a.toNat).2.2 i.toNat x) = .inl (cA, (h.2.2 a.toNat).2.1, .inr (.inr (.inr (.inr (fun j => ab_rf b0 (ab_up (h.2.2 a.toNat).2.2 i.toNat x j))))))) →
      W p l e R s m args below meth c H locs (h.1 - n0) (h.2.1 - s0) Q (F0 m pc ls (.ref (b0 + x.toNat) :: .int (Int32.ofInt i) :: .ref (b0 + a.toNat) :: st.map (ab_cv b0 sA))) := by
    intro t0 ci rr cA e1 e2 e3 e4 e5
    rw [e4] at hc
    rw [e1] at g2
    have hcls := (q8.2.1.1 ci rr e2).2
    obtain ⟨kA, comp, k1, k2, k3, -⟩ := (q8.2.1.2 t0 _ e3).2
    have hcomp : comp = D.1 ci := Option.some.inj (k3.symm.trans hcls.1)
    subst hcomp
    obtain ⟨kC, hkC, -⟩ := hcls.2
    have g2' : cellV.cls = D.1 ci := g2
    have hcl : (Int32.ofInt i).toNatClampNeg < (h.2.2 a.toNat).2.1 := Nat.not_le.mp fun q => hin (Or.inr q)
    refine W.aast q1 q2 hc (fun q hq => by cases hq) (fun hq => by cases hq) k1 k2 rfl hkC ⟨fun q => hin (Or.inl q), by show _ < (arrV _ _ _).slots.size; rw [arrV_size]; exact hcl⟩ g1 (fun q hq => by rw [g3] at hq; cases hq) (by rw [g2']; exact hkC) (by rw [g2']; exact va_assign hcls) rfl rfl hd fun H1 f1 z oq => kW H1 _ ?_ z oq (fun q hq => by rw [List.mem_singleton.mp hq])
    rw [e5]
    show H1[b0 + a.toNat]? = some (vp_cell _ _)
    rw [f1, vp_cell_q, vp_cell_q, arrV_store, ab_clamp hi]
    congr 2
    funext q
    by_cases hq : q = i.toNat
    · subst hq
      simp only [updV, ab_up, if_true, ab_rf]
      rw [if_pos j3]; rfl
    · simp [updV, ab_up, hq]
  rcases hkd with ⟨rfl, rfl⟩ | ⟨rfl, rfl⟩
  · exact fin 3 0 _ _ (by omega) rfl rfl (ab_e14 hk) (ab_e14 rfl)
  · exact fin 4 2 _ _ (by omega) rfl rfl (ab_e15 hk) (ab_e15 rfl)
/-- the heap's size, out of the room that a walk may take -/
theorem ab_sz {p : Program} {l : Launch} {e : Env} {R : Room} {s : State} {m : MethodId} {args : Array Value} {below : List Frame} {meth : Method} {c : Code} {H : Heap} {locs : List Loc} {Q : State → Prop} {g : JFrame} {b0 n0 sl : Nat} {D : va_G} {cy : Nat → ClassId} {A : Nat → Prop} (hP : va_P D vwCl (ab_W b0 cy h) H) (hs : s.heap.size = b0 + n0 + 1) (hn : n0 ≤ h.1) (hS : va_S A s.heap H locs)
    (k : H.size = b0 + h.1 + 1 → W p l e R s m args below meth c H locs (h.1 - n0) sl Q g) : W p l e R s m args below meth c H locs (h.1 - n0) sl Q g := by
  intro T hT X
  have h1 := X.heapSize
  rw [hT] at h1
  have h2 := hS.1
  have h3 : b0 + h.1 + 1 ≤ H.size := by
    by_cases h0 : h.1 = 0
    · omega
    · have := (hP (h.1 - 1) _ (ab_W_get (by omega) (by omega))).lt
      simp only at this
      omega
  exact k (by omega) T hT X
theorem ab_cpy_in {kd : Nat} {a sp b dp n : Int} {h2 : ab_H} (hg : ab_cpy h kd a sp b dp n = some h2) : (h.2.2 a.toNat).1 = kd ∧ (h.2.2 b.toNat).1 = kd ∧ 0 ≤ sp ∧ 0 ≤ dp ∧ 0 ≤ n ∧ sp + n ≤ ((h.2.2 a.toNat).2.1 : Int) ∧ dp + n ≤ ((h.2.2 b.toNat).2.1 : Int) ∧
    ab_set h b.toNat (kd, (h.2.2 b.toNat).2.1, va_cpy (h.2.2 a.toNat).2.2 (h.2.2 b.toNat).2.2 sp.toNat dp.toNat n.toNat) = h2 := by
  unfold ab_cpy at hg
  split at hg
  case isFalse => cases hg
  case isTrue q => cases hg; exact ⟨q.1, q.2.1, q.2.2.1, q.2.2.2.1, q.2.2.2.2.1, q.2.2.2.2.2.1, q.2.2.2.2.2.2, rfl⟩
/-- what a call of System.arraycopy needs of the tables -/
def ab_AC (own : String) (idx : Nat) : Prop := Cond.methodLink own idx arraycopyName ∈ lw_tbl ∧ Cond.native arraycopyName ∈ lw_tbl ∧ Cond.static arraycopyName ∈ lw_tbl ∧ Cond.initialized "java/lang/System" ∈ lw_tbl
theorem ab_copy {idx kd : Nat} {a sp b dp n : Int} {h2 : ab_H} (hd : decode cc pc = .ok (.invokestatic idx, 3)) (hw : ab_AC M.1 idx) (hkd : kd = 11 ∨ kd = 12) (hfr : 1 ≤ M.2.2.2.2.1) (hlo : 40 ≤ M.2.2.2.2.2.1) (hst : (st.length : Nat) ≤ 4) (hg : ab_cpy h kd a sp b dp n = some h2) (kk : ab_E M cc (pc + 3) lv st h2 r h') : ab_E M cc pc lv (ab_I n :: ab_I dp :: ab_R b :: ab_I sp :: ab_R a :: st) h r h' := by
  obtain ⟨k1, k2, g1, g2, g3, g4, g5, rfl⟩ := ab_cpy_in hg
  refine ⟨kk.1, ?_⟩
  intro p l e R s m args below meth c H locs Q ls b0 n0 s0 D cy sA adV S0 D0 R0 T0
  have S1 := S0
  obtain ⟨q1, q2, q3, q4, q5, q6, q7, q8, q9, q10⟩ := S0
  obtain ⟨d1, d2, d3, d4, d5, d6, d7, d8, d9⟩ := D0
  obtain ⟨i1, i2, i3⟩ := ab_there d7 (by omega) k1
  obtain ⟨j1, j2, j3⟩ := ab_there d7 (by omega) k2
  have hn : ab_i32 n := ab_okh1 d5
  have hdp : ab_i32 dp := ab_okh1 (ab_okt d5)
  have hsp : ab_i32 sp := ab_okh1 (ab_okt (ab_okt (ab_okt d5)))
  have cat : ∀ l : List ab_V, ((l.map (ab_cv b0 sA)).map fun v => v.category).sum ≤ 2 * l.length := by
    intro l
    induction l with
    | nil => simp
    | cons v l ih =>
      have : (ab_cv b0 sA v).category ≤ 2 := by rcases lv_cat (ab_cv b0 sA v) with q | q <;> omega
      simp only [List.map_cons, List.sum_cons, List.length_cons]
      omega
  have hcat := cat st
  have hnw : nativeFrameWords "java/lang/System" "arraycopy" 5 + 11 ≤ 32 := by decide +kernel
  have hok : ab_okc (kd, (h.2.2 b.toNat).2.1, va_cpy (h.2.2 a.toNat).2.2 (h.2.2 b.toNat).2.2 sp.toNat dp.toNat n.toNat) := by
    have ha := d7.1 a.toNat
    have hb := d7.1 b.toNat
    refine ⟨fun i => ?_, fun _ hq => by simp only at hq; omega, hb.2.2⟩
    show ab_okx (ab_ct kd i) (va_cpy _ _ _ _ _ i)
    unfold va_cpy
    have e1 := ha.1 (sp.toNat + (i - dp.toNat))
    have e2 := hb.1 i
    rw [k1] at e1; rw [k2] at e2
    split
    · rcases hkd with rfl | rfl <;> exact e1
    · exact e2
  have done : ∀ (H1 : Heap) (locs1 : List Loc), va_P D vwCl ((ab_W b0 cy h).set (b.toNat - 1) (b0 + b.toNat, ab_ent b0 cy (kd, (h.2.2 b.toNat).2.1, va_cpy (h.2.2 a.toNat).2.2 (h.2.2 b.toNat).2.2 sp.toNat dp.toNat n.toNat))) H1 → va_S (ab_A b0) s.heap H1 locs1 →
      W p l e R s m args below meth c H1 locs1 (h.1 - n0) (h.2.1 - s0) Q (F0 m (pc + 3) ls (st.map (ab_cv b0 sA))) := by
    intro H1 locs1 hP1 hS1
    rw [ab_W_set j1 j2] at hP1
    refine ab_sz (h := ab_set h b.toNat _) hP1 q9 d8 hS1 (fun hz => ?_)
    exact kk.2 p l e R s m args below meth c H1 locs1 Q ls b0 n0 s0 D cy sA adV S1 ⟨hP1, hz, hS1, d4, ab_okt (ab_okt (ab_okt (ab_okt (ab_okt d5)))), d6, ab_set_ok d7 hok j1 j2, d8, d9⟩ R0 T0
  have z1 : ¬ Int32.ofInt sp < 0 := fun q => by have := (ab_lt0 hsp).mp q; omega
  have z2 : ¬ Int32.ofInt dp < 0 := fun q => by have := (ab_lt0 hdp).mp q; omega
  have z3 : ¬ Int32.ofInt n < 0 := fun q => by have := (ab_lt0 hn).mp q; omega
  simp only [List.map_cons, ab_cv, ab_cvR_pos i3, ab_cvR_pos j3]
  rcases hkd with rfl | rfl
  · refine va_copyi q1 q2 (by rw [q4, d4.1]) q5 (q8.1 _ hw.1 rfl _) (q8.1 _ hw.2.1 rfl _) (q8.1 _ hw.2.2.1 rfl _) (q8.1 _ hw.2.2.2 rfl _) q8.2.1 d1 (ab_WD (b0 := b0)) d3 (a.toNat - 1) (b.toNat - 1) 0 0 (ty := .int) (by rw [ab_W_get i1 i2, ab_e11 k1]) (by rw [ab_W_get j1 j2, ab_e11 k2]) rfl rfl rfl z1 z2 z3 (by rw [ab_clamp hsp, ab_clamp hn]; omega) (by rw [ab_clamp hdp, ab_clamp hn]; omega) (fun _ _ => rfl) (by omega) (by omega) hd (fun H1 locs1 hP1 _ hS1 => ?_)
    refine done H1 locs1 ?_ hS1
    rw [ab_e11 rfl]
    rw [ab_clamp hsp, ab_clamp hdp, ab_clamp hn] at hP1
    have : (fun i => Int32.ofInt (va_cpy (h.2.2 a.toNat).2.2 (h.2.2 b.toNat).2.2 sp.toNat dp.toNat n.toNat i)) = va_cpy (fun i => Int32.ofInt ((h.2.2 a.toNat).2.2 i)) (fun i => Int32.ofInt ((h.2.2 b.toNat).2.2 i)) sp.toNat dp.toNat n.toNat := by
      funext i; unfold va_cpy; split <;> rfl
    rw [this]; exact hP1
  · refine va_copyl q1 q2 (by rw [q4, d4.1]) q5 (q8.1 _ hw.1 rfl _) (q8.1 _ hw.2.1 rfl _) (q8.1 _ hw.2.2.1 rfl _) (q8.1 _ hw.2.2.2 rfl _) q8.2.1 d1 (ab_WD (b0 := b0)) d3 (a.toNat - 1) (b.toNat - 1) 1 1 (ty := .long) (by rw [ab_W_get i1 i2, ab_e12 k1]) (by rw [ab_W_get j1 j2, ab_e12 k2]) rfl rfl rfl z1 z2 z3 (by rw [ab_clamp hsp, ab_clamp hn]; omega) (by rw [ab_clamp hdp, ab_clamp hn]; omega) (fun _ _ => rfl) (by omega) (by omega) hd (fun H1 locs1 hP1 _ hS1 => ?_)
    refine done H1 locs1 ?_ hS1
    rw [ab_e12 rfl]
    rw [ab_clamp hsp, ab_clamp hdp, ab_clamp hn] at hP1
    have : (fun i => Int64.ofInt (va_cpy (h.2.2 a.toNat).2.2 (h.2.2 b.toNat).2.2 sp.toNat dp.toNat n.toNat i)) = va_cpy (fun i => Int64.ofInt ((h.2.2 a.toNat).2.2 i)) (fun i => Int64.ofInt ((h.2.2 b.toNat).2.2 i)) sp.toNat dp.toNat n.toNat := by
      funext i; unfold va_cpy; split <;> rfl
    rw [this]; exact hP1
end ABY
