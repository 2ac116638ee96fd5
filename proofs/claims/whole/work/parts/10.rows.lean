/-! rows as a program lays them -/
def ab_FU : Nat := 100000
def ab_on {α : Type} (h : ab_H) (k : Nat) (b : Int) (x : Option α) : Option α := if (h.2.2 b.toNat).1 = k then x else none
theorem ab_on_some {α : Type} {h : ab_H} {k : Nat} {b : Int} {x : Option α} {q : α} (e : ab_on h k b x = some q) : (h.2.2 b.toNat).1 = k ∧ x = some q := by
  unfold ab_on at e; split at e
  · next hc => exact ⟨hc, e⟩
  · cases e
def ab_if {α : Type} (c : Bool) (x : Option α) : Option α := if c = true then x else none
theorem ab_if_some {α : Type} {c : Bool} {x : Option α} {q : α} (e : ab_if c x = some q) : c = true ∧ x = some q := by
  unfold ab_if at e; split at e
  · next hc => exact ⟨hc, e⟩
  · cases e
theorem ab_ifp {α : Type} {c : Prop} {inst : Decidable c} {x y : Option α} {q : α} (e : (@ite (Option α) c inst x y) = some q) (hc : c) : x = some q := by rw [if_pos hc] at e; exact e
theorem ab_ifn {α : Type} {c : Prop} {inst : Decidable c} {x y : Option α} {q : α} (e : (@ite (Option α) c inst x y) = some q) (hc : ¬ c) : y = some q := by rw [if_neg hc] at e; exact e
theorem ab_bnd {α β : Type} {x : Option α} {f : α → Option β} {q : β} (e : x.bind f = some q) : ∃ t, x = some t ∧ f t = some q := Option.bind_eq_some_iff.mp e
def ab_putR (h : ab_H) (kd k : Nat) (r x : Int) : Option ab_H := if 0 ≤ x then ab_put h kd k r x else none
def ab_astR (h : ab_H) (kd ko : Nat) (r i x : Int) : Option ab_H := if (h.2.2 x.toNat).1 = ko then ab_ast h kd r i x else none
def ab_dv (x y : Int) : Option Int := if 0 ≤ x ∧ 0 < y then some (x / y) else none
def ab_rm_ (x y : Int) : Option Int := if 0 ≤ x ∧ 0 < y then some (x % y) else none
def ab_les : List (Option ab_V) → List (Option ab_V) → Prop := fun l2 l1 => ∀ (i : Nat) (v : ab_V), l2[i]? = some (some v) → l1[i]? = some (some v)
theorem ab_s0 {l : List (Option ab_V)} : ab_les [] l := fun i v h => by simp at h
theorem ab_sn {l2 l1 : List (Option ab_V)} {w : Option ab_V} (k : ab_les l2 l1) : ab_les (none :: l2) (w :: l1) := fun i v h => by
  match i with
  | 0 => simp at h
  | i + 1 => simpa using k i v (by simpa using h)
theorem ab_ss {l2 l1 : List (Option ab_V)} {w : Option ab_V} (k : ab_les l2 l1) : ab_les (w :: l2) (w :: l1) := fun i v h => by
  match i with
  | 0 => exact h
  | i + 1 => simpa using k i v (by simpa using h)
section ABZ
variable {M : ab_M} {cc : ByteArray} {pc : Nat} {lv : List (Option ab_V)} {st : List ab_V} {h h' : ab_H} {r : Option ab_V}
theorem ab_sub_ {lv2 : List (Option ab_V)} (hs : ab_les lv2 lv) (k : ab_E M cc pc lv2 st h r h') : ab_E M cc pc lv st h r h' := ab_less hs k
theorem ab_getI {idx ci k : Nat} {fin : Bool} {a x : Int} (hd : decode cc pc = .ok (.getfield idx, 3)) (hf : ab_FL M.1 idx ci k 0 fin) (hg : ab_get h (ci + 1) k a = some x) (kk : ab_E M cc (pc + 3) lv (ab_I x :: st) h r h') : ab_E M cc pc lv (ab_R a :: st) h r h' := ab_getf hd hf hg kk
theorem ab_getJ {idx ci k : Nat} {fin : Bool} {a x : Int} (hd : decode cc pc = .ok (.getfield idx, 3)) (hf : ab_FL M.1 idx ci k 1 fin) (hg : ab_get h (ci + 1) k a = some x) (kk : ab_E M cc (pc + 3) lv (ab_J x :: st) h r h') : ab_E M cc pc lv (ab_R a :: st) h r h' := ab_getf hd hf hg kk
theorem ab_getR {idx ci k : Nat} {fin : Bool} {a x : Int} (hd : decode cc pc = .ok (.getfield idx, 3)) (hf : ab_FL M.1 idx ci k 2 fin) (hg : ab_get h (ci + 1) k a = some x) (kk : ab_E M cc (pc + 3) lv (ab_R x :: st) h r h') : ab_E M cc pc lv (ab_R a :: st) h r h' := ab_getf hd hf hg kk
theorem ab_putI_ {idx ci k : Nat} {fin : Bool} {a x : Int} {h2 : ab_H} (hd : decode cc pc = .ok (.putfield idx, 3)) (hf : ab_FL M.1 idx ci k 0 fin) (hfin : fin = true → M.2.2.2.1 = true ∧ vwCl[ci]?.map (fun q => (q.2.1 k).1) = some M.1) (hg : ab_put h (ci + 1) k a x = some h2) (kk : ab_E M cc (pc + 3) lv st h2 r h') : ab_E M cc pc lv (ab_I x :: ab_R a :: st) h r h' := ab_putf hd hf hfin (fun q => by cases q) hg kk
theorem ab_putJ_ {idx ci k : Nat} {fin : Bool} {a x : Int} {h2 : ab_H} (hd : decode cc pc = .ok (.putfield idx, 3)) (hf : ab_FL M.1 idx ci k 1 fin) (hfin : fin = true → M.2.2.2.1 = true ∧ vwCl[ci]?.map (fun q => (q.2.1 k).1) = some M.1) (hg : ab_put h (ci + 1) k a x = some h2) (kk : ab_E M cc (pc + 3) lv st h2 r h') : ab_E M cc pc lv (ab_J x :: ab_R a :: st) h r h' := ab_putf hd hf hfin (fun q => by cases q) hg kk
theorem ab_putR_ {idx ci k : Nat} {fin : Bool} {a x : Int} {h2 : ab_H} (hd : decode cc pc = .ok (.putfield idx, 3)) (hf : ab_FL M.1 idx ci k 2 fin) (hfin : fin = true → M.2.2.2.1 = true ∧ vwCl[ci]?.map (fun q => (q.2.1 k).1) = some M.1) (hg : ab_putR h (ci + 1) k a x = some h2) (kk : ab_E M cc (pc + 3) lv st h2 r h') : ab_E M cc pc lv (ab_R x :: ab_R a :: st) h r h' := by
  unfold ab_putR at hg; split at hg
  · next hc => exact ab_putf hd hf hfin (fun _ => hc) hg kk
  · cases hg
theorem ab_aastR {kd ko : Nat} {a i x : Int} {h2 : ab_H} (hd : decode cc pc = .ok (.aastore, 1)) (hkd : kd = 14 ∧ ko = 1 ∨ kd = 15 ∧ ko = 3) (hg : ab_astR h kd ko a i x = some h2) (kk : ab_E M cc (pc + 1) lv st h2 r h') : ab_E M cc pc lv (ab_R x :: ab_I i :: ab_R a :: st) h r h' := by
  unfold ab_astR at hg; split at hg
  · next hc => exact ab_aast hd hkd hc hg kk
  · cases hg
theorem ab_idiv_ {x y z : Int} (hd : decode cc pc = .ok (.idiv, 1)) (hg : ab_dv x y = some z) (k : ab_E M cc (pc + 1) lv (ab_I z :: st) h r h') : ab_E M cc pc lv (ab_I y :: ab_I x :: st) h r h' := by
  unfold ab_dv at hg; split at hg
  · next hc => cases hg; exact ab_idiv hd hc.1 hc.2 k
  · cases hg
theorem ab_irem_ {x y z : Int} (hd : decode cc pc = .ok (.irem, 1)) (hg : ab_rm_ x y = some z) (k : ab_E M cc (pc + 1) lv (ab_I z :: st) h r h') : ab_E M cc pc lv (ab_I y :: ab_I x :: st) h r h' := by
  unfold ab_rm_ at hg; split at hg
  · next hc => cases hg; exact ab_irem hd hc.1 hc.2 k
  · cases hg
theorem ab_callSI {idx nL' n fr' lo' : Nat} {y : MethodName} {cc' : ByteArray} {ret' : Option FieldType} {as stk : List ab_V} {x : Int} {h1 : ab_H} (hd : decode cc pc = .ok (.invokestatic idx, 3)) (hl : ab_ML M.1 idx y) (hy : ab_MY y cc' nL' n ret') (hs : Cond.static y ∈ lw_tbl) (hC : ab_CT y cc' nL' ret' fr' lo' as h (some (ab_I x)) h1)
    (hfr : fr' + 1 ≤ M.2.2.2.2.1 ∧ 8 + (nL' + 11) + lo' ≤ M.2.2.2.2.2.1) (hn : as.length = n) (hst : ab_wd st ≤ 8) (hk : stk = as.reverse ++ st) (kk : ab_E M cc (pc + 3) lv (ab_I x :: st) h1 r h') : ab_E M cc pc lv stk h r h' := ab_callS hd hl hy hs hC hfr hn hst hk kk
theorem ab_callSJ {idx nL' n fr' lo' : Nat} {y : MethodName} {cc' : ByteArray} {ret' : Option FieldType} {as stk : List ab_V} {x : Int} {h1 : ab_H} (hd : decode cc pc = .ok (.invokestatic idx, 3)) (hl : ab_ML M.1 idx y) (hy : ab_MY y cc' nL' n ret') (hs : Cond.static y ∈ lw_tbl) (hC : ab_CT y cc' nL' ret' fr' lo' as h (some (ab_J x)) h1)
    (hfr : fr' + 1 ≤ M.2.2.2.2.1 ∧ 8 + (nL' + 11) + lo' ≤ M.2.2.2.2.2.1) (hn : as.length = n) (hst : ab_wd st ≤ 8) (hk : stk = as.reverse ++ st) (kk : ab_E M cc (pc + 3) lv (ab_J x :: st) h1 r h') : ab_E M cc pc lv stk h r h' := ab_callS hd hl hy hs hC hfr hn hst hk kk
theorem ab_callSV {idx nL' n fr' lo' : Nat} {y : MethodName} {cc' : ByteArray} {ret' : Option FieldType} {as stk : List ab_V} {h1 : ab_H} (hd : decode cc pc = .ok (.invokestatic idx, 3)) (hl : ab_ML M.1 idx y) (hy : ab_MY y cc' nL' n ret') (hs : Cond.static y ∈ lw_tbl) (hC : ab_CT y cc' nL' ret' fr' lo' as h none h1)
    (hfr : fr' + 1 ≤ M.2.2.2.2.1 ∧ 8 + (nL' + 11) + lo' ≤ M.2.2.2.2.2.1) (hn : as.length = n) (hst : ab_wd st ≤ 8) (hk : stk = as.reverse ++ st) (kk : ab_E M cc (pc + 3) lv st h1 r h') : ab_E M cc pc lv stk h r h' := ab_callS hd hl hy hs hC hfr hn hst hk kk
theorem ab_callVI {idx nL' n fr' lo' ci : Nat} {y : MethodName} {cc' : ByteArray} {ret' : Option FieldType} {as stk : List ab_V} {b x : Int} {h1 : ab_H} (hd : decode cc pc = .ok (.invokevirtual idx, 3)) (hl : ab_ML M.1 idx y) (hy : ab_MY y cc' nL' n ret') (hs : ab_MV y ci) (hb : (h.2.2 b.toNat).1 = ci + 1) (hC : ab_CT y cc' nL' ret' fr' lo' (ab_R b :: as) h (some (ab_I x)) h1)
    (hfr : fr' + 1 ≤ M.2.2.2.2.1 ∧ 8 + (nL' + 11) + lo' ≤ M.2.2.2.2.2.1) (hn : as.length = n) (hst : ab_wd st ≤ 8) (hk : stk = as.reverse ++ ab_R b :: st) (kk : ab_E M cc (pc + 3) lv (ab_I x :: st) h1 r h') : ab_E M cc pc lv stk h r h' := ab_callV hd hl hy hs hb hC hfr hn hst hk kk
theorem ab_callVJ {idx nL' n fr' lo' ci : Nat} {y : MethodName} {cc' : ByteArray} {ret' : Option FieldType} {as stk : List ab_V} {b x : Int} {h1 : ab_H} (hd : decode cc pc = .ok (.invokevirtual idx, 3)) (hl : ab_ML M.1 idx y) (hy : ab_MY y cc' nL' n ret') (hs : ab_MV y ci) (hb : (h.2.2 b.toNat).1 = ci + 1) (hC : ab_CT y cc' nL' ret' fr' lo' (ab_R b :: as) h (some (ab_J x)) h1)
    (hfr : fr' + 1 ≤ M.2.2.2.2.1 ∧ 8 + (nL' + 11) + lo' ≤ M.2.2.2.2.2.1) (hn : as.length = n) (hst : ab_wd st ≤ 8) (hk : stk = as.reverse ++ ab_R b :: st) (kk : ab_E M cc (pc + 3) lv (ab_J x :: st) h1 r h') : ab_E M cc pc lv stk h r h' := ab_callV hd hl hy hs hb hC hfr hn hst hk kk
theorem ab_callVV {idx nL' n fr' lo' ci : Nat} {y : MethodName} {cc' : ByteArray} {ret' : Option FieldType} {as stk : List ab_V} {b : Int} {h1 : ab_H} (hd : decode cc pc = .ok (.invokevirtual idx, 3)) (hl : ab_ML M.1 idx y) (hy : ab_MY y cc' nL' n ret') (hs : ab_MV y ci) (hb : (h.2.2 b.toNat).1 = ci + 1) (hC : ab_CT y cc' nL' ret' fr' lo' (ab_R b :: as) h none h1)
    (hfr : fr' + 1 ≤ M.2.2.2.2.1 ∧ 8 + (nL' + 11) + lo' ≤ M.2.2.2.2.2.1) (hn : as.length = n) (hst : ab_wd st ≤ 8) (hk : stk = as.reverse ++ ab_R b :: st) (kk : ab_E M cc (pc + 3) lv st h1 r h') : ab_E M cc pc lv stk h r h' := ab_callV hd hl hy hs hb hC hfr hn hst hk kk
theorem ab_tswIn {dflt lo hi : Int} {offs : Array Int} {len : Nat} {x v : Int} {off : Int} {tgt : Nat} (hd : decode cc pc = .ok (.tableswitch dflt lo hi offs, len)) (hx : x = v) (h1 : lo ≤ v ∧ v ≤ hi) (ho : offs[(v - lo).toNat]? = some off) (ht : (pc : Int) + off = (tgt : Int)) (k : ab_E M cc tgt lv st h r h') : ab_E M cc pc lv (ab_I x :: st) h r h' := by
  subst hx
  refine ab_stk k (fun h5 _ _ => ab_okt h5) fun p l e R s m args below meth c H locs Q ls b0 n0 s0 D cy sA adV S0 D0 _ kW => ?_
  have hx : ab_i32 x := ab_okh1 D0.2.2.2.2.1
  have e : (Int32.ofInt x).toInt = x := by rw [ab_toInt32, ab_w32_id hx]
  exact lv_tableIn S0.1 S0.2.1 hd (by rw [e]; omega) (by rw [e]; omega) (by rw [e]; exact ho) ht kW
theorem ab_tswOut {dflt lo hi : Int} {offs : Array Int} {len : Nat} {x : Int} {tgt : Nat} (hd : decode cc pc = .ok (.tableswitch dflt lo hi offs, len)) (hx : x < lo ∨ hi < x) (ht : (pc : Int) + dflt = (tgt : Int)) (k : ab_E M cc tgt lv st h r h') : ab_E M cc pc lv (ab_I x :: st) h r h' := by
  refine ab_stk k (fun h5 _ _ => ab_okt h5) fun p l e R s m args below meth c H locs Q ls b0 n0 s0 D cy sA adV S0 D0 _ kW => ?_
  have hx' : ab_i32 x := ab_okh1 D0.2.2.2.2.1
  have e : (Int32.ofInt x).toInt = x := by rw [ab_toInt32, ab_w32_id hx']
  exact lv_tableOut S0.1 S0.2.1 hd (by rw [e]; exact hx) ht kW
end ABZ
theorem ab_CT.mk_ {y : MethodName} {own : String} {cc : ByteArray} {nL : Nat} {ret : Option FieldType} {fr lo : Nat} (j : Nat) {ini : Bool} {as : List ab_V} {h h1 : ab_H} {r : Option ab_V} {lv : List (Option ab_V)} (ho : y.cls = own) (hy : plainName own = true) (hi : ini = true → y.name = "<init>") (hl : ab_l0 as ++ List.replicate j none = lv) (hj : lv.length = nL)
    (k : ab_E (own, nL, ret, ini, fr, lo, none) cc 0 lv [] h r h1) : ab_CT y cc nL ret fr lo as h r h1 := by
  subst ho
  exact ab_CT.of hy hi hl hj k
