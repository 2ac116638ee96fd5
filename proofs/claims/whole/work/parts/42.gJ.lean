noncomputable def g_J6_bitCount_0f7a4 (a0 : Int) (σ : st_S) : Option (Int × st_S) :=
  some (ab_and (ab_w32 ((ab_w32 ((ab_and (ab_w32 ((ab_w32 ((ab_and (ab_w32 (a0 - (ab_and (ab_ushr a0 (1 : Int)) (1431655765 : Int)))) (858993459 : Int)) + (ab_and (ab_ushr (ab_w32 (a0 - (ab_and (ab_ushr a0 (1 : Int)) (1431655765 : Int)))) (2 : Int)) (858993459 : Int)))) + (ab_ushr (ab_w32 ((ab_and (ab_w32 (a0 - (ab_and (ab_ushr a0 (1 : Int)) (1431655765 : Int)))) (858993459 : Int)) + (ab_and (ab_ushr (ab_w32 (a0 - (ab_and (ab_ushr a0 (1 : Int)) (1431655765 : Int)))) (2 : Int)) (858993459 : Int)))) (4 : Int)))) (252645135 : Int)) + (ab_ushr (ab_and (ab_w32 ((ab_w32 ((ab_and (ab_w32 (a0 - (ab_and (ab_ushr a0 (1 : Int)) (1431655765 : Int)))) (858993459 : Int)) + (ab_and (ab_ushr (ab_w32 (a0 - (ab_and (ab_ushr a0 (1 : Int)) (1431655765 : Int)))) (2 : Int)) (858993459 : Int)))) + (ab_ushr (ab_w32 ((ab_and (ab_w32 (a0 - (ab_and (ab_ushr a0 (1 : Int)) (1431655765 : Int)))) (858993459 : Int)) + (ab_and (ab_ushr (ab_w32 (a0 - (ab_and (ab_ushr a0 (1 : Int)) (1431655765 : Int)))) (2 : Int)) (858993459 : Int)))) (4 : Int)))) (252645135 : Int)) (8 : Int)))) + (ab_ushr (ab_w32 ((ab_and (ab_w32 ((ab_w32 ((ab_and (ab_w32 (a0 - (ab_and (ab_ushr a0 (1 : Int)) (1431655765 : Int)))) (858993459 : Int)) + (ab_and (ab_ushr (ab_w32 (a0 - (ab_and (ab_ushr a0 (1 : Int)) (1431655765 : Int)))) (2 : Int)) (858993459 : Int)))) + (ab_ushr (ab_w32 ((ab_and (ab_w32 (a0 - (ab_and (ab_ushr a0 (1 : Int)) (1431655765 : Int)))) (858993459 : Int)) + (ab_and (ab_ushr (ab_w32 (a0 - (ab_and (ab_ushr a0 (1 : Int)) (1431655765 : Int)))) (2 : Int)) (858993459 : Int)))) (4 : Int)))) (252645135 : Int)) + (ab_ushr (ab_and (ab_w32 ((ab_w32 ((ab_and (ab_w32 (a0 - (ab_and (ab_ushr a0 (1 : Int)) (1431655765 : Int)))) (858993459 : Int)) + (ab_and (ab_ushr (ab_w32 (a0 - (ab_and (ab_ushr a0 (1 : Int)) (1431655765 : Int)))) (2 : Int)) (858993459 : Int)))) + (ab_ushr (ab_w32 ((ab_and (ab_w32 (a0 - (ab_and (ab_ushr a0 (1 : Int)) (1431655765 : Int)))) (858993459 : Int)) + (ab_and (ab_ushr (ab_w32 (a0 - (ab_and (ab_ushr a0 (1 : Int)) (1431655765 : Int)))) (2 : Int)) (858993459 : Int)))) (4 : Int)))) (252645135 : Int)) (8 : Int)))) (16 : Int)))) (63 : Int), σ)
set_option maxRecDepth 20000 in
theorem s_J6_bitCount_0f7a4 {a0 : Int} {σ : st_S} {q : Int × st_S} (hk : g_J6_bitCount_0f7a4 a0 σ = some q) : f_J6_bitCount_0f7a4 a0 (mk_ σ) = some ((q.1, mk_ q.2)) := by
  unfold g_J6_bitCount_0f7a4 at hk
  unfold f_J6_bitCount_0f7a4
  obtain rfl := Option.some.inj hk
  rfl
noncomputable def g_X8_letterOf (a0 : Int) (a2 : Int) (σ : st_S) : Option (Int × st_S) :=
  some (ab_and (ab_w32 (ab_lshr a0 (ab_w32 ((5 : Int) * (ab_w32 ((6 : Int) - a2)))))) (31 : Int), σ)
set_option maxRecDepth 20000 in
theorem s_X8_letterOf {a0 : Int} {a2 : Int} {σ : st_S} {q : Int × st_S} (hk : g_X8_letterOf a0 a2 σ = some q) : f_X8_letterOf a0 a2 (mk_ σ) = some ((q.1, mk_ q.2)) := by
  unfold g_X8_letterOf at hk
  unfold f_X8_letterOf
  obtain rfl := Option.some.inj hk
  rfl
noncomputable def g_X8_isLetter_J16 (σ : st_S) : Option (Int × st_S) :=
  some ((0 : Int), σ)
set_option maxRecDepth 20000 in
theorem s_X8_isLetter_J16 : ∀ (σ : st_S) (q : Int × st_S), g_X8_isLetter_J16 σ = some q → f_X8_isLetter_J16 (mk_ σ) = some ((q.1, mk_ q.2)) := by
  intro σ q hk
  unfold g_X8_isLetter_J16 at hk
  unfold f_X8_isLetter_J16
  obtain rfl := Option.some.inj hk
  rfl
noncomputable def g_X8_isLetter (a0 : Int) (σ : st_S) : Option (Int × st_S) :=
  if a0 < (97 : Int) then
    g_X8_isLetter_J16 σ
  else
  if (122 : Int) < a0 then
    g_X8_isLetter_J16 σ
  else
  some ((1 : Int), σ)
set_option maxRecDepth 20000 in
theorem s_X8_isLetter {a0 : Int} {σ : st_S} {q : Int × st_S} (hk : g_X8_isLetter a0 σ = some q) : f_X8_isLetter a0 (mk_ σ) = some ((q.1, mk_ q.2)) := by
  unfold g_X8_isLetter at hk
  unfold f_X8_isLetter
  by_cases hc : a0 < (97 : Int)
  · have hk := ab_ifp hk hc
    refine mb_ifp hc ?_
    exact s_X8_isLetter_J16  _ _ hk
  · have hk := ab_ifn hk hc
    refine mb_ifn hc ?_
    by_cases hc : (122 : Int) < a0
    · have hk := ab_ifp hk hc
      refine mb_ifp hc ?_
      exact s_X8_isLetter_J16  _ _ hk
    · have hk := ab_ifn hk hc
      refine mb_ifn hc ?_
      obtain rfl := Option.some.inj hk
      rfl
noncomputable def g_X8_grown (a0 : Int) (a2 : Int) (σ : st_S) : Option (Int × st_S) :=
  some (ab_lor (ab_lshl a0 (5 : Int)) (ab_w32 ((ab_w32 (a2 - (97 : Int))) + (1 : Int))), σ)
set_option maxRecDepth 20000 in
theorem s_X8_grown {a0 : Int} {a2 : Int} {σ : st_S} {q : Int × st_S} (hk : g_X8_grown a0 a2 σ = some q) : f_X8_grown a0 a2 (mk_ σ) = some ((q.1, mk_ q.2)) := by
  unfold g_X8_grown at hk
  unfold f_X8_grown
  obtain rfl := Option.some.inj hk
  rfl
noncomputable def g_X8_aligned_J24 (rec : Int → Int → st_S → Option (Int × st_S)) (v2 : Int) (v4 : Int) (σ : st_S) : Option (Int × st_S) :=
  rec v2 (ab_w32 (v4 + (1 : Int))) σ
set_option maxRecDepth 20000 in
theorem s_X8_aligned_J24 {rec : Int → Int → st_S → Option (Int × st_S)} {recf : Int → Int → ab_H → Option (Int × ab_H)} (hrec : ∀ (v2 : Int) (v4 : Int) (σ : st_S) (q : Int × st_S), rec v2 v4 σ = some q → recf v2 v4 (mk_ σ) = some ((q.1, mk_ q.2))) : ∀ (v2 : Int) (v4 : Int) (σ : st_S) (q : Int × st_S), g_X8_aligned_J24 rec v2 v4 σ = some q → f_X8_aligned_J24 recf v2 v4 (mk_ σ) = some ((q.1, mk_ q.2)) := by
  intro v2 v4 σ q hk
  unfold g_X8_aligned_J24 at hk
  unfold f_X8_aligned_J24
  exact hrec _ _  _ _ hk
noncomputable def g_X8_aligned_L5 : Nat → Int → Int → st_S → Option (Int × st_S)
  | 0, _, _, _ => none
  | n + 1, v2, v4, σ =>
    if (7 : Int) ≤ v4 then
      some (v2, σ)
    else
    if (0 : Int) ≤ ab_cmp v2 (1073741824 : Int) then
      g_X8_aligned_J24 (g_X8_aligned_L5 n) v2 v4 σ
    else
    g_X8_aligned_J24 (g_X8_aligned_L5 n) (ab_lshl v2 (5 : Int)) v4 σ
set_option maxRecDepth 20000 in
theorem s_X8_aligned_L5 : ∀ (n : Nat) (v2 : Int) (v4 : Int) (σ : st_S) (q : Int × st_S), g_X8_aligned_L5 n v2 v4 σ = some q → f_X8_aligned_L5 n v2 v4 (mk_ σ) = some ((q.1, mk_ q.2)) := by
  intro n
  induction n with
  | zero => intro v2 v4 σ q hk; cases hk
  | succ n ih =>
    intro v2 v4 σ q hk
    unfold g_X8_aligned_L5 at hk
    unfold f_X8_aligned_L5
    by_cases hc : (7 : Int) ≤ v4
    · have hk := ab_ifp hk hc
      refine mb_ifp hc ?_
      obtain rfl := Option.some.inj hk
      rfl
    · have hk := ab_ifn hk hc
      refine mb_ifn hc ?_
      by_cases hc : (0 : Int) ≤ ab_cmp v2 (1073741824 : Int)
      · have hk := ab_ifp hk hc
        refine mb_ifp hc ?_
        exact s_X8_aligned_J24 ih _ _  _ _ hk
      · have hk := ab_ifn hk hc
        refine mb_ifn hc ?_
        exact s_X8_aligned_J24 ih _ _  _ _ hk
noncomputable def g_X8_aligned (a0 : Int) (σ : st_S) : Option (Int × st_S) :=
  g_X8_aligned_L5 ab_FU a0 (1 : Int) σ
set_option maxRecDepth 20000 in
theorem s_X8_aligned {a0 : Int} {σ : st_S} {q : Int × st_S} (hk : g_X8_aligned a0 σ = some q) : f_X8_aligned a0 (mk_ σ) = some ((q.1, mk_ q.2)) := by
  unfold g_X8_aligned at hk
  unfold f_X8_aligned
  refine s_X8_aligned_L5 _ _ _  _ _ hk
noncomputable def g_X8_hasBit (a0 : Int) (a1 : Int) (σ : st_S) : Option (Int × st_S) :=
  if ab_and (ab_shr a0 a1) (1 : Int) = (1 : Int) then
    some ((1 : Int), σ)
  else
  some ((0 : Int), σ)
set_option maxRecDepth 20000 in
theorem s_X8_hasBit {a0 : Int} {a1 : Int} {σ : st_S} {q : Int × st_S} (hk : g_X8_hasBit a0 a1 σ = some q) : f_X8_hasBit a0 a1 (mk_ σ) = some ((q.1, mk_ q.2)) := by
  unfold g_X8_hasBit at hk
  unfold f_X8_hasBit
  by_cases hc : ab_and (ab_shr a0 a1) (1 : Int) = (1 : Int)
  · have hk := ab_ifp hk hc
    refine mb_ifp hc ?_
    obtain rfl := Option.some.inj hk
    rfl
  · have hk := ab_ifn hk hc
    refine mb_ifn hc ?_
    obtain rfl := Option.some.inj hk
    rfl
noncomputable def g_X8_isAddress_J15 (σ : st_S) : Option (Int × st_S) :=
  some ((0 : Int), σ)
set_option maxRecDepth 20000 in
theorem s_X8_isAddress_J15 : ∀ (σ : st_S) (q : Int × st_S), g_X8_isAddress_J15 σ = some q → f_X8_isAddress_J15 (mk_ σ) = some ((q.1, mk_ q.2)) := by
  intro σ q hk
  unfold g_X8_isAddress_J15 at hk
  unfold f_X8_isAddress_J15
  obtain rfl := Option.some.inj hk
  rfl
noncomputable def g_X8_isAddress (a0 : Int) (σ : st_S) : Option (Int × st_S) :=
  if a0 < (0 : Int) then
    g_X8_isAddress_J15 σ
  else
  if (1000 : Int) ≤ a0 then
    g_X8_isAddress_J15 σ
  else
  some ((1 : Int), σ)
set_option maxRecDepth 20000 in
theorem s_X8_isAddress {a0 : Int} {σ : st_S} {q : Int × st_S} (hk : g_X8_isAddress a0 σ = some q) : f_X8_isAddress a0 (mk_ σ) = some ((q.1, mk_ q.2)) := by
  unfold g_X8_isAddress at hk
  unfold f_X8_isAddress
  by_cases hc : a0 < (0 : Int)
  · have hk := ab_ifp hk hc
    refine mb_ifp hc ?_
    exact s_X8_isAddress_J15  _ _ hk
  · have hk := ab_ifn hk hc
    refine mb_ifn hc ?_
    by_cases hc : (1000 : Int) ≤ a0
    · have hk := ab_ifp hk hc
      refine mb_ifp hc ?_
      exact s_X8_isAddress_J15  _ _ hk
    · have hk := ab_ifn hk hc
      refine mb_ifn hc ?_
      obtain rfl := Option.some.inj hk
      rfl
noncomputable def g_X8_lettersOf_J21 (rec : Int → Int → Int → st_S → Option (Int × st_S)) (v0 : Int) (v2 : Int) (v3 : Int) (σ : st_S) : Option (Int × st_S) :=
  rec v0 v2 (ab_w32 (v3 + (1 : Int))) σ
set_option maxRecDepth 20000 in
theorem s_X8_lettersOf_J21 {rec : Int → Int → Int → st_S → Option (Int × st_S)} {recf : Int → Int → Int → ab_H → Option (Int × ab_H)} (hrec : ∀ (v0 : Int) (v2 : Int) (v3 : Int) (σ : st_S) (q : Int × st_S), rec v0 v2 v3 σ = some q → recf v0 v2 v3 (mk_ σ) = some ((q.1, mk_ q.2))) : ∀ (v0 : Int) (v2 : Int) (v3 : Int) (σ : st_S) (q : Int × st_S), g_X8_lettersOf_J21 rec v0 v2 v3 σ = some q → f_X8_lettersOf_J21 recf v0 v2 v3 (mk_ σ) = some ((q.1, mk_ q.2)) := by
  intro v0 v2 v3 σ q hk
  unfold g_X8_lettersOf_J21 at hk
  unfold f_X8_lettersOf_J21
  exact hrec _ _ _  _ _ hk
noncomputable def g_X8_lettersOf_L4 : Nat → Int → Int → Int → st_S → Option (Int × st_S)
  | 0, _, _, _, _ => none
  | n + 1, v0, v2, v3, σ =>
    if (7 : Int) ≤ v3 then
      some (v2, σ)
    else
    (g_X8_letterOf v0 v3 σ).bind fun q1 =>
    if q1.1 = (0 : Int) then
      g_X8_lettersOf_J21 (g_X8_lettersOf_L4 n) v0 v2 v3 q1.2
    else
    g_X8_lettersOf_J21 (g_X8_lettersOf_L4 n) v0 (ab_w32 (v2 + (1 : Int))) v3 q1.2
set_option maxRecDepth 20000 in
theorem s_X8_lettersOf_L4 : ∀ (n : Nat) (v0 : Int) (v2 : Int) (v3 : Int) (σ : st_S) (q : Int × st_S), g_X8_lettersOf_L4 n v0 v2 v3 σ = some q → f_X8_lettersOf_L4 n v0 v2 v3 (mk_ σ) = some ((q.1, mk_ q.2)) := by
  intro n
  induction n with
  | zero => intro v0 v2 v3 σ q hk; cases hk
  | succ n ih =>
    intro v0 v2 v3 σ q hk
    unfold g_X8_lettersOf_L4 at hk
    unfold f_X8_lettersOf_L4
    by_cases hc : (7 : Int) ≤ v3
    · have hk := ab_ifp hk hc
      refine mb_ifp hc ?_
      obtain rfl := Option.some.inj hk
      rfl
    · have hk := ab_ifn hk hc
      refine mb_ifn hc ?_
      obtain ⟨q1, hq1, hk⟩ := ab_bnd hk
      refine mb_eq (s_X8_letterOf hq1) ?_
      by_cases hc : q1.1 = (0 : Int)
      · have hk := ab_ifp hk hc
        refine mb_ifp hc ?_
        exact s_X8_lettersOf_J21 ih _ _ _  _ _ hk
      · have hk := ab_ifn hk hc
        refine mb_ifn hc ?_
        exact s_X8_lettersOf_J21 ih _ _ _  _ _ hk
noncomputable def g_X8_lettersOf (a0 : Int) (σ : st_S) : Option (Int × st_S) :=
  g_X8_lettersOf_L4 ab_FU a0 (0 : Int) (0 : Int) σ
set_option maxRecDepth 20000 in
theorem s_X8_lettersOf {a0 : Int} {σ : st_S} {q : Int × st_S} (hk : g_X8_lettersOf a0 σ = some q) : f_X8_lettersOf a0 (mk_ σ) = some ((q.1, mk_ q.2)) := by
  unfold g_X8_lettersOf at hk
  unfold f_X8_lettersOf
  refine s_X8_lettersOf_L4 _ _ _ _  _ _ hk
noncomputable def g_X8_isRole_J14 (σ : st_S) : Option (Int × st_S) :=
  some ((0 : Int), σ)
set_option maxRecDepth 20000 in
theorem s_X8_isRole_J14 : ∀ (σ : st_S) (q : Int × st_S), g_X8_isRole_J14 σ = some q → f_X8_isRole_J14 (mk_ σ) = some ((q.1, mk_ q.2)) := by
  intro σ q hk
  unfold g_X8_isRole_J14 at hk
  unfold f_X8_isRole_J14
  obtain rfl := Option.some.inj hk
  rfl
noncomputable def g_X8_isRole (a0 : Int) (σ : st_S) : Option (Int × st_S) :=
  if a0 < (0 : Int) then
    g_X8_isRole_J14 σ
  else
  if (6 : Int) ≤ a0 then
    g_X8_isRole_J14 σ
  else
  some ((1 : Int), σ)
set_option maxRecDepth 20000 in
theorem s_X8_isRole {a0 : Int} {σ : st_S} {q : Int × st_S} (hk : g_X8_isRole a0 σ = some q) : f_X8_isRole a0 (mk_ σ) = some ((q.1, mk_ q.2)) := by
  unfold g_X8_isRole at hk
  unfold f_X8_isRole
  by_cases hc : a0 < (0 : Int)
  · have hk := ab_ifp hk hc
    refine mb_ifp hc ?_
    exact s_X8_isRole_J14  _ _ hk
  · have hk := ab_ifn hk hc
    refine mb_ifn hc ?_
    by_cases hc : (6 : Int) ≤ a0
    · have hk := ab_ifp hk hc
      refine mb_ifp hc ?_
      exact s_X8_isRole_J14  _ _ hk
    · have hk := ab_ifn hk hc
      refine mb_ifn hc ?_
      obtain rfl := Option.some.inj hk
      rfl
noncomputable def g_X8_isWay_J13 (σ : st_S) : Option (Int × st_S) :=
  some ((0 : Int), σ)
set_option maxRecDepth 20000 in
theorem s_X8_isWay_J13 : ∀ (σ : st_S) (q : Int × st_S), g_X8_isWay_J13 σ = some q → f_X8_isWay_J13 (mk_ σ) = some ((q.1, mk_ q.2)) := by
  intro σ q hk
  unfold g_X8_isWay_J13 at hk
  unfold f_X8_isWay_J13
  obtain rfl := Option.some.inj hk
  rfl
noncomputable def g_X8_isWay (a0 : Int) (σ : st_S) : Option (Int × st_S) :=
  if a0 < (0 : Int) then
    g_X8_isWay_J13 σ
  else
  if (3 : Int) ≤ a0 then
    g_X8_isWay_J13 σ
  else
  some ((1 : Int), σ)
set_option maxRecDepth 20000 in
theorem s_X8_isWay {a0 : Int} {σ : st_S} {q : Int × st_S} (hk : g_X8_isWay a0 σ = some q) : f_X8_isWay a0 (mk_ σ) = some ((q.1, mk_ q.2)) := by
  unfold g_X8_isWay at hk
  unfold f_X8_isWay
  by_cases hc : a0 < (0 : Int)
  · have hk := ab_ifp hk hc
    refine mb_ifp hc ?_
    exact s_X8_isWay_J13  _ _ hk
  · have hk := ab_ifn hk hc
    refine mb_ifn hc ?_
    by_cases hc : (3 : Int) ≤ a0
    · have hk := ab_ifp hk hc
      refine mb_ifp hc ?_
      exact s_X8_isWay_J13  _ _ hk
    · have hk := ab_ifn hk hc
      refine mb_ifn hc ?_
      obtain rfl := Option.some.inj hk
      rfl
noncomputable def g_X8_beginsWith (a0 : Int) (a2 : Int) (a4 : Int) (σ : st_S) : Option (Int × st_S) :=
  if ab_cmp (ab_lshr a0 (ab_w32 ((5 : Int) * (ab_w32 ((7 : Int) - a4))))) (ab_lshr a2 (ab_w32 ((5 : Int) * (ab_w32 ((7 : Int) - a4))))) = (0 : Int) then
    some ((1 : Int), σ)
  else
  some ((0 : Int), σ)
set_option maxRecDepth 20000 in
theorem s_X8_beginsWith {a0 : Int} {a2 : Int} {a4 : Int} {σ : st_S} {q : Int × st_S} (hk : g_X8_beginsWith a0 a2 a4 σ = some q) : f_X8_beginsWith a0 a2 a4 (mk_ σ) = some ((q.1, mk_ q.2)) := by
  unfold g_X8_beginsWith at hk
  unfold f_X8_beginsWith
  by_cases hc : ab_cmp (ab_lshr a0 (ab_w32 ((5 : Int) * (ab_w32 ((7 : Int) - a4))))) (ab_lshr a2 (ab_w32 ((5 : Int) * (ab_w32 ((7 : Int) - a4))))) = (0 : Int)
  · have hk := ab_ifp hk hc
    refine mb_ifp hc ?_
    obtain rfl := Option.some.inj hk
    rfl
  · have hk := ab_ifn hk hc
    refine mb_ifn hc ?_
    obtain rfl := Option.some.inj hk
    rfl
