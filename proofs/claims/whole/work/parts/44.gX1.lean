noncomputable def g_X1_put (a0 : Nat) (a1 : Int) (σ : st_S) : Option st_S :=
  if (((by_n a0) : Nat) : Int) ≤ σ a0 1 then
    some σ
  else
  (some (up2 σ a0 1 (ab_w32 ((σ a0 1) + (1 : Int))))).bind fun σ1 =>
  (sa_st σ1 (a0 + 1) (by_n a0) (σ a0 1) (ab_w8 (ab_w8 a1))).bind fun σ2 =>
  some σ2
set_option maxRecDepth 20000 in
theorem s_X1_put {a0 : Nat} {a1 : Int} (pa0 : isBy a0 = true) {σ : st_S} {q : st_S} (hk : g_X1_put a0 a1 σ = some q) : f_X1_put ((a0 : Nat) : Int) a1 (mk_ σ) = some (mk_ q) := by
  unfold g_X1_put at hk
  unfold f_X1_put
  refine mb_get (by_ly pa0).1 ((by_ly pa0).2.1 _) ?_
  refine mb_getR (a0 + 1) (by_ly pa0).1 ((by_ly pa0).2.1 _) (by omega) ?_
  refine mb_len (by_ly pa0).2.2 ?_
  by_cases hc : (((by_n a0) : Nat) : Int) ≤ σ a0 1
  · have hk := ab_ifp hk hc
    refine mb_ifp hc ?_
    obtain rfl := Option.some.inj hk
    rfl
  · have hk := ab_ifn hk hc
    refine mb_ifn hc ?_
    refine mb_getR (a0 + 1) (by_ly pa0).1 ((by_ly pa0).2.1 _) (by omega) ?_
    refine mb_get (by_ly pa0).1 ((by_ly pa0).2.1 _) ?_
    obtain ⟨σ1, hσ1, hk⟩ := ab_bnd hk
    refine mb_put (by_ly pa0).1 ((by_ly pa0).2.1 _) hσ1 ?_
    obtain ⟨σ2, hσ2, hk⟩ := ab_bnd hk
    refine mb_ast (by_ly pa0).2.2 hσ2 ?_
    obtain rfl := Option.some.inj hk
    rfl
noncomputable def g_X1_putFour_L3 : Nat → Nat → Int → Int → st_S → Option st_S
  | 0, _, _, _, _ => none
  | n + 1, v0, v1, v2, σ =>
    if v2 < (0 : Int) then
      some σ
    else
    (g_X1_put v0 (ab_shr v1 v2) σ).bind fun q1 =>
    g_X1_putFour_L3 n v0 v1 (ab_w32 (v2 + (-8 : Int))) q1
set_option maxRecDepth 20000 in
theorem s_X1_putFour_L3 : ∀ (n : Nat) (v0 : Nat) (v1 : Int) (v2 : Int) (pv0 : isBy v0 = true) (σ : st_S) (q : st_S), g_X1_putFour_L3 n v0 v1 v2 σ = some q → f_X1_putFour_L3 n ((v0 : Nat) : Int) v1 v2 (mk_ σ) = some (mk_ q) := by
  intro n
  induction n with
  | zero => intro v0 v1 v2 pv0 σ q hk; cases hk
  | succ n ih =>
    intro v0 v1 v2 pv0 σ q hk
    unfold g_X1_putFour_L3 at hk
    unfold f_X1_putFour_L3
    by_cases hc : v2 < (0 : Int)
    · have hk := ab_ifp hk hc
      refine mb_ifp hc ?_
      obtain rfl := Option.some.inj hk
      rfl
    · have hk := ab_ifn hk hc
      refine mb_ifn hc ?_
      obtain ⟨q1, hq1, hk⟩ := ab_bnd hk
      refine mb_on (by_ly pv0).1 (s_X1_put pv0 hq1) ?_
      exact ih _ _ _ pv0 _ _ hk
noncomputable def g_X1_putFour (a0 : Nat) (a1 : Int) (σ : st_S) : Option st_S :=
  g_X1_putFour_L3 ab_FU a0 a1 (24 : Int) σ
set_option maxRecDepth 20000 in
theorem s_X1_putFour {a0 : Nat} {a1 : Int} (pa0 : isBy a0 = true) {σ : st_S} {q : st_S} (hk : g_X1_putFour a0 a1 σ = some q) : f_X1_putFour ((a0 : Nat) : Int) a1 (mk_ σ) = some (mk_ q) := by
  unfold g_X1_putFour at hk
  unfold f_X1_putFour
  refine s_X1_putFour_L3 _ _ _ _ pa0 _ _ hk
noncomputable def g_X1_putAll_L2 : Nat → Nat → Nat → Int → st_S → Option st_S
  | 0, _, _, _, _ => none
  | n + 1, v0, v1, v2, σ =>
    if σ v1 1 ≤ v2 then
      some σ
    else
    (sa_ld σ (v1 + 1) (by_n v1) v2).bind fun t1 =>
    (g_X1_put v0 t1 σ).bind fun q2 =>
    g_X1_putAll_L2 n v0 v1 (ab_w32 (v2 + (1 : Int))) q2
set_option maxRecDepth 20000 in
theorem s_X1_putAll_L2 : ∀ (n : Nat) (v0 : Nat) (v1 : Nat) (v2 : Int) (pv0 : isBy v0 = true) (pv1 : isBy v1 = true) (σ : st_S) (q : st_S), g_X1_putAll_L2 n v0 v1 v2 σ = some q → f_X1_putAll_L2 n ((v0 : Nat) : Int) ((v1 : Nat) : Int) v2 (mk_ σ) = some (mk_ q) := by
  intro n
  induction n with
  | zero => intro v0 v1 v2 pv0 pv1 σ q hk; cases hk
  | succ n ih =>
    intro v0 v1 v2 pv0 pv1 σ q hk
    unfold g_X1_putAll_L2 at hk
    unfold f_X1_putAll_L2
    refine mb_get (by_ly pv1).1 ((by_ly pv1).2.1 _) ?_
    by_cases hc : σ v1 1 ≤ v2
    · have hk := ab_ifp hk hc
      refine mb_ifp hc ?_
      obtain rfl := Option.some.inj hk
      rfl
    · have hk := ab_ifn hk hc
      refine mb_ifn hc ?_
      refine mb_getR (v1 + 1) (by_ly pv1).1 ((by_ly pv1).2.1 _) (by omega) ?_
      obtain ⟨t1, ht1, hk⟩ := ab_bnd hk
      refine mb_ald (by_ly pv1).2.2 ht1 ?_
      obtain ⟨q2, hq2, hk⟩ := ab_bnd hk
      refine mb_on (by_ly pv0).1 (s_X1_put pv0 hq2) ?_
      exact ih _ _ _ pv0 pv1 _ _ hk
noncomputable def g_X1_putAll (a0 : Nat) (a1 : Nat) (σ : st_S) : Option st_S :=
  g_X1_putAll_L2 ab_FU a0 a1 (0 : Int) σ
set_option maxRecDepth 20000 in
theorem s_X1_putAll {a0 : Nat} {a1 : Nat} (pa0 : isBy a0 = true) (pa1 : isBy a1 = true) {σ : st_S} {q : st_S} (hk : g_X1_putAll a0 a1 σ = some q) : f_X1_putAll ((a0 : Nat) : Int) ((a1 : Nat) : Int) (mk_ σ) = some (mk_ q) := by
  unfold g_X1_putAll at hk
  unfold f_X1_putAll
  refine s_X1_putAll_L2 _ _ _ _ pa0 pa1 _ _ hk
noncomputable def g_X1_putName_J29 (rec : Nat → Int → Int → st_S → Option st_S) (v0 : Nat) (v1 : Int) (v3 : Int) (σ : st_S) : Option st_S :=
  rec v0 v1 (ab_w32 (v3 + (1 : Int))) σ
set_option maxRecDepth 20000 in
theorem s_X1_putName_J29 {rec : Nat → Int → Int → st_S → Option st_S} {recf : Int → Int → Int → ab_H → Option ab_H} (hrec : ∀ (v0 : Nat) (v1 : Int) (v3 : Int) (pv0 : isBy v0 = true) (σ : st_S) (q : st_S), rec v0 v1 v3 σ = some q → recf ((v0 : Nat) : Int) v1 v3 (mk_ σ) = some (mk_ q)) : ∀ (v0 : Nat) (v1 : Int) (v3 : Int) (pv0 : isBy v0 = true) (σ : st_S) (q : st_S), g_X1_putName_J29 rec v0 v1 v3 σ = some q → f_X1_putName_J29 recf ((v0 : Nat) : Int) v1 v3 (mk_ σ) = some (mk_ q) := by
  intro v0 v1 v3 pv0 σ q hk
  unfold g_X1_putName_J29 at hk
  unfold f_X1_putName_J29
  exact hrec _ _ _ pv0 _ _ hk
noncomputable def g_X1_putName_L2 : Nat → Nat → Int → Int → st_S → Option st_S
  | 0, _, _, _, _ => none
  | n + 1, v0, v1, v3, σ =>
    if (7 : Int) ≤ v3 then
      some σ
    else
    (g_X8_letterOf v1 v3 σ).bind fun q1 =>
    if q1.1 = (0 : Int) then
      g_X1_putName_J29 (g_X1_putName_L2 n) v0 v1 v3 q1.2
    else
    (g_X1_put v0 (ab_w32 ((96 : Int) + q1.1)) q1.2).bind fun q2 =>
    g_X1_putName_J29 (g_X1_putName_L2 n) v0 v1 v3 q2
set_option maxRecDepth 20000 in
theorem s_X1_putName_L2 : ∀ (n : Nat) (v0 : Nat) (v1 : Int) (v3 : Int) (pv0 : isBy v0 = true) (σ : st_S) (q : st_S), g_X1_putName_L2 n v0 v1 v3 σ = some q → f_X1_putName_L2 n ((v0 : Nat) : Int) v1 v3 (mk_ σ) = some (mk_ q) := by
  intro n
  induction n with
  | zero => intro v0 v1 v3 pv0 σ q hk; cases hk
  | succ n ih =>
    intro v0 v1 v3 pv0 σ q hk
    unfold g_X1_putName_L2 at hk
    unfold f_X1_putName_L2
    by_cases hc : (7 : Int) ≤ v3
    · have hk := ab_ifp hk hc
      refine mb_ifp hc ?_
      obtain rfl := Option.some.inj hk
      rfl
    · have hk := ab_ifn hk hc
      refine mb_ifn hc ?_
      obtain ⟨q1, hq1, hk⟩ := ab_bnd hk
      refine mb_eq (s_X8_letterOf hq1) ?_
      by_cases hc : q1.1 = (0 : Int)
      · have hk := ab_ifp hk hc
        refine mb_ifp hc ?_
        exact s_X1_putName_J29 ih _ _ _ pv0 _ _ hk
      · have hk := ab_ifn hk hc
        refine mb_ifn hc ?_
        obtain ⟨q2, hq2, hk⟩ := ab_bnd hk
        refine mb_on (by_ly pv0).1 (s_X1_put pv0 hq2) ?_
        exact s_X1_putName_J29 ih _ _ _ pv0 _ _ hk
noncomputable def g_X1_putName (a0 : Nat) (a1 : Int) (σ : st_S) : Option st_S :=
  g_X1_putName_L2 ab_FU a0 a1 (0 : Int) σ
set_option maxRecDepth 20000 in
theorem s_X1_putName {a0 : Nat} {a1 : Int} (pa0 : isBy a0 = true) {σ : st_S} {q : st_S} (hk : g_X1_putName a0 a1 σ = some q) : f_X1_putName ((a0 : Nat) : Int) a1 (mk_ σ) = some (mk_ q) := by
  unfold g_X1_putName at hk
  unfold f_X1_putName
  refine s_X1_putName_L2 _ _ _ _ pa0 _ _ hk
noncomputable def g_X1_putAddress_J37 (v0 : Nat) (v1 : Int) (σ : st_S) : Option st_S :=
  (ab_rm_ v1 (10 : Int)).bind fun t1 =>
  (g_X1_put v0 (ab_w32 ((48 : Int) + t1)) σ).bind fun q2 =>
  some q2
set_option maxRecDepth 20000 in
theorem s_X1_putAddress_J37 : ∀ (v0 : Nat) (v1 : Int) (pv0 : isBy v0 = true) (σ : st_S) (q : st_S), g_X1_putAddress_J37 v0 v1 σ = some q → f_X1_putAddress_J37 ((v0 : Nat) : Int) v1 (mk_ σ) = some (mk_ q) := by
  intro v0 v1 pv0 σ q hk
  unfold g_X1_putAddress_J37 at hk
  unfold f_X1_putAddress_J37
  obtain ⟨t1, ht1, hk⟩ := ab_bnd hk
  refine mb_eq ht1 ?_
  obtain ⟨q2, hq2, hk⟩ := ab_bnd hk
  refine mb_on (by_ly pv0).1 (s_X1_put pv0 hq2) ?_
  obtain rfl := Option.some.inj hk
  rfl
noncomputable def g_X1_putAddress_J17 (v0 : Nat) (v1 : Int) (σ : st_S) : Option st_S :=
  if v1 < (10 : Int) then
    g_X1_putAddress_J37 v0 v1 σ
  else
  (ab_dv v1 (10 : Int)).bind fun t1 =>
  (ab_rm_ t1 (10 : Int)).bind fun t2 =>
  (g_X1_put v0 (ab_w32 ((48 : Int) + t2)) σ).bind fun q3 =>
  g_X1_putAddress_J37 v0 v1 q3
set_option maxRecDepth 20000 in
theorem s_X1_putAddress_J17 : ∀ (v0 : Nat) (v1 : Int) (pv0 : isBy v0 = true) (σ : st_S) (q : st_S), g_X1_putAddress_J17 v0 v1 σ = some q → f_X1_putAddress_J17 ((v0 : Nat) : Int) v1 (mk_ σ) = some (mk_ q) := by
  intro v0 v1 pv0 σ q hk
  unfold g_X1_putAddress_J17 at hk
  unfold f_X1_putAddress_J17
  by_cases hc : v1 < (10 : Int)
  · have hk := ab_ifp hk hc
    refine mb_ifp hc ?_
    exact s_X1_putAddress_J37 _ _ pv0 _ _ hk
  · have hk := ab_ifn hk hc
    refine mb_ifn hc ?_
    obtain ⟨t1, ht1, hk⟩ := ab_bnd hk
    refine mb_eq ht1 ?_
    obtain ⟨t2, ht2, hk⟩ := ab_bnd hk
    refine mb_eq ht2 ?_
    obtain ⟨q3, hq3, hk⟩ := ab_bnd hk
    refine mb_on (by_ly pv0).1 (s_X1_put pv0 hq3) ?_
    exact s_X1_putAddress_J37 _ _ pv0 _ _ hk
noncomputable def g_X1_putAddress (a0 : Nat) (a1 : Int) (σ : st_S) : Option st_S :=
  if a1 < (100 : Int) then
    g_X1_putAddress_J17 a0 a1 σ
  else
  (ab_dv a1 (100 : Int)).bind fun t1 =>
  (g_X1_put a0 (ab_w32 ((48 : Int) + t1)) σ).bind fun q2 =>
  g_X1_putAddress_J17 a0 a1 q2
set_option maxRecDepth 20000 in
theorem s_X1_putAddress {a0 : Nat} {a1 : Int} (pa0 : isBy a0 = true) {σ : st_S} {q : st_S} (hk : g_X1_putAddress a0 a1 σ = some q) : f_X1_putAddress ((a0 : Nat) : Int) a1 (mk_ σ) = some (mk_ q) := by
  unfold g_X1_putAddress at hk
  unfold f_X1_putAddress
  by_cases hc : a1 < (100 : Int)
  · have hk := ab_ifp hk hc
    refine mb_ifp hc ?_
    exact s_X1_putAddress_J17 _ _ pa0 _ _ hk
  · have hk := ab_ifn hk hc
    refine mb_ifn hc ?_
    obtain ⟨t1, ht1, hk⟩ := ab_bnd hk
    refine mb_eq ht1 ?_
    obtain ⟨q2, hq2, hk⟩ := ab_bnd hk
    refine mb_on (by_ly pa0).1 (s_X1_put pa0 hq2) ?_
    exact s_X1_putAddress_J17 _ _ pa0 _ _ hk
noncomputable def g_X1_asName_L17 (k58 : Int → st_S → Option (Int × st_S)) : Nat → Nat → Int → Int → st_S → Option (Int × st_S)
  | 0, _, _, _, _ => none
  | n + 1, v0, v1, v3, σ =>
    if σ v0 1 ≤ v3 then
      k58 v1 σ
    else
    (sa_ld σ (v0 + 1) (by_n v0) v3).bind fun t1 =>
    (g_X8_isLetter t1 σ).bind fun q2 =>
    if q2.1 = (0 : Int) then
      some ((-1 : Int), q2.2)
    else
    (sa_ld q2.2 (v0 + 1) (by_n v0) v3).bind fun t3 =>
    (g_X8_grown v1 t3 q2.2).bind fun q4 =>
    g_X1_asName_L17 k58 n v0 q4.1 (ab_w32 (v3 + (1 : Int))) q4.2
set_option maxRecDepth 20000 in
theorem s_X1_asName_L17 {k58 : Int → st_S → Option (Int × st_S)} {kf58 : Int → ab_H → Option (Int × ab_H)} (hk58 : ∀ (v1 : Int) (σ : st_S) (q : Int × st_S), k58 v1 σ = some q → kf58 v1 (mk_ σ) = some ((q.1, mk_ q.2))) : ∀ (n : Nat) (v0 : Nat) (v1 : Int) (v3 : Int) (pv0 : isBy v0 = true) (σ : st_S) (q : Int × st_S), g_X1_asName_L17 k58 n v0 v1 v3 σ = some q → f_X1_asName_L17 kf58 n ((v0 : Nat) : Int) v1 v3 (mk_ σ) = some ((q.1, mk_ q.2)) := by
  intro n
  induction n with
  | zero => intro v0 v1 v3 pv0 σ q hk; cases hk
  | succ n ih =>
    intro v0 v1 v3 pv0 σ q hk
    unfold g_X1_asName_L17 at hk
    unfold f_X1_asName_L17
    refine mb_get (by_ly pv0).1 ((by_ly pv0).2.1 _) ?_
    by_cases hc : σ v0 1 ≤ v3
    · have hk := ab_ifp hk hc
      refine mb_ifp hc ?_
      exact hk58 _  _ _ hk
    · have hk := ab_ifn hk hc
      refine mb_ifn hc ?_
      refine mb_getR (v0 + 1) (by_ly pv0).1 ((by_ly pv0).2.1 _) (by omega) ?_
      obtain ⟨t1, ht1, hk⟩ := ab_bnd hk
      refine mb_ald (by_ly pv0).2.2 ht1 ?_
      obtain ⟨q2, hq2, hk⟩ := ab_bnd hk
      refine mb_eq (s_X8_isLetter hq2) ?_
      by_cases hc : q2.1 = (0 : Int)
      · have hk := ab_ifp hk hc
        refine mb_ifp hc ?_
        obtain rfl := Option.some.inj hk
        rfl
      · have hk := ab_ifn hk hc
        refine mb_ifn hc ?_
        refine mb_getR (v0 + 1) (by_ly pv0).1 ((by_ly pv0).2.1 _) (by omega) ?_
        obtain ⟨t3, ht3, hk⟩ := ab_bnd hk
        refine mb_ald (by_ly pv0).2.2 ht3 ?_
        obtain ⟨q4, hq4, hk⟩ := ab_bnd hk
        refine mb_eq (s_X8_grown hq4) ?_
        exact ih _ _ _ pv0 _ _ hk
noncomputable def g_X1_asName (a0 : Nat) (σ : st_S) : Option (Int × st_S) :=
  if σ a0 1 ≤ (7 : Int) then
    g_X1_asName_L17 (fun w58_1 σx58 =>
      (g_X8_aligned w58_1 σx58).bind fun q1 =>
      some (q1.1, q1.2)) ab_FU a0 (0 : Int) (0 : Int) σ
  else
  some ((-1 : Int), σ)
set_option maxRecDepth 20000 in
theorem s_X1_asName {a0 : Nat} (pa0 : isBy a0 = true) {σ : st_S} {q : Int × st_S} (hk : g_X1_asName a0 σ = some q) : f_X1_asName ((a0 : Nat) : Int) (mk_ σ) = some ((q.1, mk_ q.2)) := by
  unfold g_X1_asName at hk
  unfold f_X1_asName
  refine mb_get (by_ly pa0).1 ((by_ly pa0).2.1 _) ?_
  by_cases hc : σ a0 1 ≤ (7 : Int)
  · have hk := ab_ifp hk hc
    refine mb_ifp hc ?_
    refine s_X1_asName_L17 (fun w58_1 σx58 q hk => ?_) _ _ _ _ pa0 _ _ hk
    · skip
      obtain ⟨q1, hq1, hk⟩ := ab_bnd hk
      refine mb_eq (s_X8_aligned hq1) ?_
      obtain rfl := Option.some.inj hk
      rfl
  · have hk := ab_ifn hk hc
    refine mb_ifn hc ?_
    obtain rfl := Option.some.inj hk
    rfl
