/-! rows as a program lays them: new cells -/
def ab_mkO (h : ab_H) (ci : Nat) : Option ab_H := some (ab_push h (ab_N ci) (ci + 1, ab_N ci, ab_zero))
def ab_mkA (h : ab_H) (kd : Nat) (n : Int) : Option ab_H := if 0 ≤ n ∧ n ≤ 1000000 then some (ab_push h n.toNat (kd, n.toNat, ab_zero)) else none
def ab_nx (h : ab_H) : Int := (h.1 : Int) + 1
section ABZ2
variable {M : ab_M} {cc : ByteArray} {pc : Nat} {lv : List (Option ab_V)} {st : List ab_V} {h h' : ab_H} {r : Option ab_V}
theorem ab_newO {idx ci : Nat} {h2 : ab_H} (hd : decode cc pc = .ok (.new idx, 3)) (hf : ab_NW M.1 idx ci) (hg : ab_mkO h ci = some h2) (kk : ab_E M cc (pc + 3) lv (ab_R (ab_nx h) :: st) h2 r h') : ab_E M cc pc lv st h r h' := by
  cases hg; exact ab_new_ hd hf kk
theorem ab_newA {aty : ArrayType} {kd : Nat} {n : Int} {h2 : ab_H} (hd : decode cc pc = .ok (.newarray aty, 2)) (hk : aty = .int ∧ kd = 11 ∨ aty = .long ∧ kd = 12 ∨ aty = .byte ∧ kd = 13) (hw : Cond.arrayClass (newarray.typeOf aty) ∈ lw_tbl) (hg : ab_mkA h kd n = some h2) (kk : ab_E M cc (pc + 2) lv (ab_R (ab_nx h) :: st) h2 r h') : ab_E M cc pc lv (ab_I n :: st) h r h' := by
  unfold ab_mkA at hg; split at hg
  · next hc => cases hg; exact ab_newa_ hd hk hw hc kk
  · cases hg
theorem ab_newQ {idx kd : Nat} {C : String} {n : Int} {h2 : ab_H} (hd : decode cc pc = .ok (.anewarray idx, 3)) (hk : C = RX0 ∧ kd = 14 ∨ C = RX2 ∧ kd = 15) (hw : Cond.classLink M.1 idx C ∈ lw_tbl ∧ Cond.arrayOver (.object C) ∈ lw_tbl) (hg : ab_mkA h kd n = some h2) (kk : ab_E M cc (pc + 3) lv (ab_R (ab_nx h) :: st) h2 r h') : ab_E M cc pc lv (ab_I n :: st) h r h' := by
  unfold ab_mkA at hg; split at hg
  · next hc => cases hg; exact ab_newq_ hd hk hw hc kk
  · cases hg
theorem ab_obj0_ {idx : Nat} {a : Int} (hd : decode cc pc = .ok (.invokespecial idx, 3)) (hw : Cond.methodLink M.1 idx Lib.objectInit ∈ lw_tbl ∧ Cond.instanceMethod Lib.objectInit ∈ lw_tbl ∧ Cond.code Lib.objectInit ⟨#[0xb1]⟩ 1 none ∈ lw_tbl) (ha : decide (0 < a) = true) (hfr : 1 ≤ M.2.2.2.2.1) (hlo : 20 ≤ M.2.2.2.2.2.1) (hst : ab_wd st ≤ 8) (kk : ab_E M cc (pc + 3) lv st h r h') : ab_E M cc pc lv (ab_R a :: st) h r h' := ab_obj0 hd hw (of_decide_eq_true ha) hfr hlo hst kk
theorem ab_callI_ {idx nL' n fr' lo' : Nat} {y : MethodName} {cc' : ByteArray} {as stk : List ab_V} {b : Int} {h1 : ab_H} (hd : decode cc pc = .ok (.invokespecial idx, 3)) (hl : ab_ML M.1 idx y) (hy : ab_MY y cc' nL' n none) (hs : ab_MI y) (hb : decide (0 < b) = true) (hC : ab_CT y cc' nL' none fr' lo' (ab_R b :: as) h none h1)
    (hfr : fr' + 1 ≤ M.2.2.2.2.1 ∧ 8 + (nL' + 11) + lo' ≤ M.2.2.2.2.2.1) (hn : as.length = n) (hst : ab_wd st ≤ 8) (hk : stk = as.reverse ++ ab_R b :: st) (kk : ab_E M cc (pc + 3) lv st h1 r h') : ab_E M cc pc lv stk h r h' := ab_callI hd hl hy hs (of_decide_eq_true hb) hC hfr hn hst hk kk
theorem ab_retz {x : Int} (hd : decode cc pc = .ok (.ireturn, 1)) (hr : M.2.2.1 = some .boolean) (hx : decide (x = 0 ∨ x = 1) = true) : ab_E M cc pc lv [ab_I x] h (some (ab_I x)) h := ab_reti hd (Or.inr (Or.inl ⟨hr, of_decide_eq_true hx⟩))
end ABZ2
section ABZ3
variable {M : ab_M} {cc : ByteArray} {pc : Nat} {lv : List (Option ab_V)} {st : List ab_V} {h h' : ab_H} {r : Option ab_V}
theorem ab_lswOut {dflt : Int} {ps : Array (Int × Int)} {len : Nat} {x : Int} {off : Int} {tgt : Nat} (hd : decode cc pc = .ok (.lookupswitch dflt ps, len)) (hp : (ps.toList.zip (ps.toList.drop 1)).all (fun (a, next) => a.1 < next.1) = true) (ho : Op.lookupswitch.offset ps.toList dflt x = off) (ht : (pc : Int) + off = (tgt : Int)) (k : ab_E M cc tgt lv st h r h') : ab_E M cc pc lv (ab_I x :: st) h r h' := by
  refine ab_stk k (fun h5 _ _ => ab_okt h5) fun p l e R s m args below meth c H locs Q ls b0 n0 s0 D cy sA adV S0 D0 _ kW => ?_
  have hx : ab_i32 x := ab_okh1 D0.2.2.2.2.1
  have e : (Int32.ofInt x).toInt = x := by rw [ab_toInt32, ab_w32_id hx]
  exact lv_lookup S0.1 S0.2.1 hd hp (by rw [e]; exact ho) ht kW
theorem ab_lswIn {dflt : Int} {ps : Array (Int × Int)} {len : Nat} {x v : Int} {off : Int} {tgt : Nat} (hd : decode cc pc = .ok (.lookupswitch dflt ps, len)) (hp : (ps.toList.zip (ps.toList.drop 1)).all (fun (a, next) => a.1 < next.1) = true) (hx : x = v) (ho : Op.lookupswitch.offset ps.toList dflt v = off) (ht : (pc : Int) + off = (tgt : Int)) (k : ab_E M cc tgt lv st h r h') : ab_E M cc pc lv (ab_I x :: st) h r h' := by
  subst hx; exact ab_lswOut hd hp ho ht k
end ABZ3
/-! Math.max, Math.min -/
def ab_mx (x y : Int) : Int := if x < y then y else x
def ab_mn (x y : Int) : Int := if y < x then y else x
def ab_MT (own : String) (idx : Nat) (y : MethodName) (cc : ByteArray) (nL : Nat) (ret : Option FieldType) : Prop := Cond.methodLink own idx y ∈ lw_tbl ∧ Cond.static y ∈ lw_tbl ∧ Cond.initialized "java/lang/Math" ∈ lw_tbl ∧ Cond.code y cc nL ret ∈ lw_tbl
section ABZ4
variable {M : ab_M} {cc : ByteArray} {pc : Nat} {lv : List (Option ab_V)} {st : List ab_V} {h h' : ab_H} {r : Option ab_V}
theorem ab_mmax_ {idx : Nat} {x y : Int} (hd : decode cc pc = .ok (.invokestatic idx, 3)) (hw : ab_MT M.1 idx Lib.Math.max.name Lib.Math.max.code 2 (some .int)) (hfr : 1 ≤ M.2.2.2.2.1) (hlo : 24 ≤ M.2.2.2.2.2.1) (hst : ab_wd st ≤ 8) (k : ab_E M cc (pc + 3) lv (ab_I (ab_mx x y) :: st) h r h') : ab_E M cc pc lv (ab_I y :: ab_I x :: st) h r h' := by
  refine ab_stk k (fun h5 _ _ => ab_ok1 (v := ab_I 0) (ab_okt (ab_okt h5)) (by show ab_i32 (ab_mx x y); unfold ab_mx; split; exact ab_okh1 h5; exact ab_okh1 (ab_okt h5))) fun p l e R s m args below meth c H locs Q ls b0 n0 s0 D cy sA adV S0 D0 R0 kW => ?_
  obtain ⟨q1, q2, q3, q4, q5, q6, q7, q8, q9, q10⟩ := S0
  have hy : ab_i32 y := ab_okh1 D0.2.2.2.2.1
  have hx : ab_i32 x := ab_okh1 (ab_okt D0.2.2.2.2.1)
  have hcat := ab_catsum b0 sA st
  refine va_mmax q1 q2 (by rw [q4, D0.2.2.2.1.1]) q5 (q8.1 _ hw.1 rfl _) (q8.1 _ hw.2.1 rfl _) (q8.1 _ hw.2.2.1 rfl _) (q8.1 _ hw.2.2.2 rfl _) (by omega) (by omega) R0.1 R0.2 hd ?_
  have e : (if Int32.ofInt x < Int32.ofInt y then Int32.ofInt y else Int32.ofInt x) = Int32.ofInt (ab_mx x y) := by
    unfold ab_mx
    by_cases q : x < y
    · rw [if_pos q, if_pos ((ab_lt hx hy).mpr q)]
    · rw [if_neg q, if_neg (fun z => q ((ab_lt hx hy).mp z))]
  rw [e]; exact kW
theorem ab_mmin_ {idx : Nat} {x y : Int} (hd : decode cc pc = .ok (.invokestatic idx, 3)) (hw : ab_MT M.1 idx Lib.Math.min.name Lib.Math.min.code 2 (some .int)) (hfr : 1 ≤ M.2.2.2.2.1) (hlo : 24 ≤ M.2.2.2.2.2.1) (hst : ab_wd st ≤ 8) (k : ab_E M cc (pc + 3) lv (ab_I (ab_mn x y) :: st) h r h') : ab_E M cc pc lv (ab_I y :: ab_I x :: st) h r h' := by
  refine ab_stk k (fun h5 _ _ => ab_ok1 (v := ab_I 0) (ab_okt (ab_okt h5)) (by show ab_i32 (ab_mn x y); unfold ab_mn; split; exact ab_okh1 h5; exact ab_okh1 (ab_okt h5))) fun p l e R s m args below meth c H locs Q ls b0 n0 s0 D cy sA adV S0 D0 R0 kW => ?_
  obtain ⟨q1, q2, q3, q4, q5, q6, q7, q8, q9, q10⟩ := S0
  have hy : ab_i32 y := ab_okh1 D0.2.2.2.2.1
  have hx : ab_i32 x := ab_okh1 (ab_okt D0.2.2.2.2.1)
  have hcat := ab_catsum b0 sA st
  refine va_mmin q1 q2 (by rw [q4, D0.2.2.2.1.1]) q5 (q8.1 _ hw.1 rfl _) (q8.1 _ hw.2.1 rfl _) (q8.1 _ hw.2.2.1 rfl _) (q8.1 _ hw.2.2.2 rfl _) (by omega) (by omega) R0.1 R0.2 hd ?_
  have e : (if Int32.ofInt y < Int32.ofInt x then Int32.ofInt y else Int32.ofInt x) = Int32.ofInt (ab_mn x y) := by
    unfold ab_mn
    by_cases q : y < x
    · rw [if_pos q, if_pos ((ab_lt hy hx).mpr q)]
    · rw [if_neg q, if_neg (fun z => q ((ab_lt hy hx).mp z))]
  rw [e]; exact kW
theorem ab_mminL_ {idx : Nat} {x y : Int} (hd : decode cc pc = .ok (.invokestatic idx, 3)) (hw : ab_MT M.1 idx Lib.MathLoose.min_long.x Lib.MathLoose.min_long.code 4 (some .long)) (hfr : 1 ≤ M.2.2.2.2.1) (hlo : 24 ≤ M.2.2.2.2.2.1) (hst : ab_wd st ≤ 8) (k : ab_E M cc (pc + 3) lv (ab_J (ab_mn x y) :: st) h r h') : ab_E M cc pc lv (ab_J y :: ab_J x :: st) h r h' := by
  refine ab_stk k (fun h5 _ _ => ab_ok1 (v := ab_I 0) (ab_okt (ab_okt h5)) (by show ab_i64 (ab_mn x y); unfold ab_mn; split; exact ab_okh1 h5; exact ab_okh1 (ab_okt h5))) fun p l e R s m args below meth c H locs Q ls b0 n0 s0 D cy sA adV S0 D0 R0 kW => ?_
  obtain ⟨q1, q2, q3, q4, q5, q6, q7, q8, q9, q10⟩ := S0
  have hy : ab_i64 y := ab_okh1 D0.2.2.2.2.1
  have hx : ab_i64 x := ab_okh1 (ab_okt D0.2.2.2.2.1)
  have hcat := ab_catsum b0 sA st
  refine va_mmin_long q1 q2 (by rw [q4, D0.2.2.2.1.1]) q5 (q8.1 _ hw.1 rfl _) (q8.1 _ hw.2.1 rfl _) (q8.1 _ hw.2.2.1 rfl _) (q8.1 _ hw.2.2.2 rfl _) (by omega) (by omega) R0.1 R0.2 hd ?_
  have e : (if Int64.ofInt y < Int64.ofInt x then Int64.ofInt y else Int64.ofInt x) = Int64.ofInt (ab_mn x y) := by
    unfold ab_mn
    by_cases q : y < x
    · rw [if_pos q, if_pos ((ab_ltL hy hx).mpr q)]
    · rw [if_neg q, if_neg (fun z => q ((ab_ltL hy hx).mp z))]
  rw [e]; exact kW
end ABZ4
