/-! the law's script -/
def ab_scl (sN : Nat) (sX : Nat → Int) (a i : Int) : Option Int := if a = -1000 ∧ 0 ≤ i ∧ i < (sN : Int) then some (sX i.toNat) else none
def ab_scn (sN : Nat) (a : Int) : Option Int := if a = -1000 then some (sN : Int) else none
section ABL
variable {M : ab_M} {cc : ByteArray} {pc : Nat} {lv : List (Option ab_V)} {st : List ab_V} {h h' : ab_H} {r : Option ab_V}
theorem ab_scn_ {sN : Nat} {sX : Nat → Int} {a x : Int} (hd : decode cc pc = .ok (.arraylength, 1)) (hM : M.2.2.2.2.2.2 = some (sN, sX)) (hg : ab_scn sN a = some x) (k : ab_E M cc (pc + 1) lv (ab_I x :: st) h r h') : ab_E M cc pc lv (ab_R a :: st) h r h' := by
  unfold ab_scn at hg; split at hg
  · next hc =>
    cases hg
    subst hc
    refine ⟨k.1, ?_⟩
    intro p l e R s m args below meth c H locs Q ls b0 n0 s0 D cy sA adV S0 D0 R0 T0
    have S1 := S0
    obtain ⟨q1, q2, q3, q4, q5, q6, q7, q8, q9, q10⟩ := S0
    obtain ⟨d1, d2, d3, d4, d5, d6, d7, d8, d9⟩ := D0
    obtain ⟨g1, g2, g3, g4, g5⟩ := q10 _ hM
    have kW := k.2 p l e R s m args below meth c H locs Q ls b0 n0 s0 D cy sA adV S1 ⟨d1, d2, d3, d4, ab_ok1 (v := ab_I 0) (ab_okt d5) (by show ab_i32 _; unfold ab_i32; omega), d6, d7, d8, d9⟩ R0 T0
    rw [List.map_cons, show ab_cv b0 sA (ab_R (-1000)) = .ref (sA 1000) from rfl]
    refine va_slen q1 q2 g1 g2 g3 d3 hd ?_
    rw [ab_ofNat]; exact kW
  · cases hg
theorem ab_scl_ {sN : Nat} {sX : Nat → Int} {a i x : Int} (hd : decode cc pc = .ok (.iaload, 1)) (hM : M.2.2.2.2.2.2 = some (sN, sX)) (hg : ab_scl sN sX a i = some x) (k : ab_E M cc (pc + 1) lv (ab_I x :: st) h r h') : ab_E M cc pc lv (ab_I i :: ab_R a :: st) h r h' := by
  unfold ab_scl at hg; split at hg
  · next hc =>
    cases hg
    obtain ⟨hc, h0, h1⟩ := hc
    subst hc
    refine ⟨k.1, ?_⟩
    intro p l e R s m args below meth c H locs Q ls b0 n0 s0 D cy sA adV S0 D0 R0 T0
    have S1 := S0
    obtain ⟨q1, q2, q3, q4, q5, q6, q7, q8, q9, q10⟩ := S0
    obtain ⟨d1, d2, d3, d4, d5, d6, d7, d8, d9⟩ := D0
    obtain ⟨g1, g2, g3, g4, g5⟩ := q10 _ hM
    have hi : ab_i32 i := ab_okh1 d5
    have kW := k.2 p l e R s m args below meth c H locs Q ls b0 n0 s0 D cy sA adV S1 ⟨d1, d2, d3, d4, ab_ok1 (v := ab_I 0) (ab_okt (ab_okt d5)) (g4 _), d6, d7, d8, d9⟩ R0 T0
    rw [List.map_cons, List.map_cons, show ab_cv b0 sA (ab_R (-1000)) = .ref (sA 1000) from rfl]
    refine va_sld q1 q2 g1 g2 g3 d3 (ab_inn hi h0 h1) hd ?_
    rw [ab_clamp hi]; exact kW
  · cases hg
end ABL
