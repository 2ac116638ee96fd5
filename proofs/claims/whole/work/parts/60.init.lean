/-! the two constructors, run -/
noncomputable def in_h : Option ab_H :=
  (ab_mkO ab_h0 8).bind fun h1 =>
  (ab_if (decide (0 < ab_nx ab_h0)) (f_X8_init (ab_nx ab_h0) h1)).bind fun q1 =>
  (ab_mkO q1 9).bind fun h2 =>
  (ab_if (decide (0 < ab_nx q1)) (f_X9_init (ab_nx q1) h2))
/-- the numbers of the text's own words -/
def in_keys : List Int := [12942573568, 20574109696, 21091367136, 17583674368, 21753175040, 17232953344, 1195376640, 1314344960, 6965067776, 17583880192, 24980624384, 15201796096, 15556673536, 23925358592, 2184544256]
/-- what the constructors leave in the cells -/
def in_v (a f : Nat) : Int :=
  if a = 8 ∧ f = 10 ∨ a = 596 ∧ f = 11 then -1 else if a = 9 then in_keys.getD f 0 else if a = 157 ∧ f < 72 then 160 + 3 * (f : Int) else if a = 377 ∧ f < 72 then 380 + 3 * (f : Int) else 0
def in_ok (h : ab_H) : Bool :=
  h.1 == 614 && h.2.1 == 26508 && (List.range 615).all (fun a => (h.2.2 a).1 == (ly a).1 && (h.2.2 a).2.1 == (ly a).2 && (List.range 40).all (fun f => (h.2.2 a).2.2 f == (if ly_r a f = 0 then in_v a f else (ly_r a f : Int)))) &&
  (List.range 72).all (fun f => (h.2.2 157).2.2 f == in_v 157 f && (h.2.2 377).2.2 f == in_v 377 f)
set_option maxRecDepth 100000 in
theorem in_n : (match in_h with | some h => in_ok h | none => false) = true := by decide +kernel
