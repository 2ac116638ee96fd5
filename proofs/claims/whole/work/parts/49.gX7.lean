noncomputable def g_X7_numberOf_L2 : Nat → Int → Int → st_S → Option (Int × st_S)
  | 0, _, _, _ => none
  | n + 1, v1, v3, σ =>
    if σ 147 0 ≤ v3 then
      some ((-1 : Int), σ)
    else
    (sa_ld σ 148 72 v3).bind fun t1 =>
    if ab_cmp t1 v1 = (0 : Int) then
      some (v3, σ)
    else
    g_X7_numberOf_L2 n v1 (ab_w32 (v3 + (1 : Int))) σ
set_option maxRecDepth 20000 in
theorem s_X7_numberOf_L2 : ∀ (n : Nat) (v1 : Int) (v3 : Int) (σ : st_S) (q : Int × st_S), g_X7_numberOf_L2 n v1 v3 σ = some q → f_X7_numberOf_L2 n ((147 : Nat) : Int) v1 v3 (mk_ σ) = some ((q.1, mk_ q.2)) := by
  intro n
  induction n with
  | zero => intro v1 v3 σ q hk; cases hk
  | succ n ih =>
    intro v1 v3 σ q hk
    unfold g_X7_numberOf_L2 at hk
    unfold f_X7_numberOf_L2
    refine mb_get rfl rfl ?_
    by_cases hc : σ 147 0 ≤ v3
    · have hk := ab_ifp hk hc
      refine mb_ifp hc ?_
      obtain rfl := Option.some.inj hk
      rfl
    · have hk := ab_ifn hk hc
      refine mb_ifn hc ?_
      refine mb_getR 148 rfl rfl (by decide) ?_
      obtain ⟨t1, ht1, hk⟩ := ab_bnd hk
      refine mb_ald ⟨rfl, rfl, fun _ => rfl⟩ ht1 ?_
      by_cases hc : ab_cmp t1 v1 = (0 : Int)
      · have hk := ab_ifp hk hc
        refine mb_ifp hc ?_
        obtain rfl := Option.some.inj hk
        rfl
      · have hk := ab_ifn hk hc
        refine mb_ifn hc ?_
        exact ih _ _  _ _ hk
noncomputable def g_X7_numberOf (a1 : Int) (σ : st_S) : Option (Int × st_S) :=
  g_X7_numberOf_L2 ab_FU a1 (0 : Int) σ
set_option maxRecDepth 20000 in
theorem s_X7_numberOf {a1 : Int} {σ : st_S} {q : Int × st_S} (hk : g_X7_numberOf a1 σ = some q) : f_X7_numberOf ((147 : Nat) : Int) a1 (mk_ σ) = some ((q.1, mk_ q.2)) := by
  unfold g_X7_numberOf at hk
  unfold f_X7_numberOf
  refine s_X7_numberOf_L2 _ _ _  _ _ hk
noncomputable def g_X7_sortIn_J100 (v1 : Int) (v3 : Int) (v5 : Int) (σ : st_S) : Option st_S :=
  (sa_st σ 148 72 v5 v1).bind fun σ1 =>
  (sa_st σ1 149 72 v5 (ab_shl (1 : Int) v3)).bind fun σ2 =>
  (some (up2 σ2 147 0 (ab_w32 ((σ2 147 0) + (1 : Int))))).bind fun σ3 =>
  some σ3
set_option maxRecDepth 20000 in
theorem s_X7_sortIn_J100 : ∀ (v1 : Int) (v3 : Int) (v5 : Int) (σ : st_S) (q : st_S), g_X7_sortIn_J100 v1 v3 v5 σ = some q → f_X7_sortIn_J100 ((147 : Nat) : Int) v1 v3 v5 (mk_ σ) = some (mk_ q) := by
  intro v1 v3 v5 σ q hk
  unfold g_X7_sortIn_J100 at hk
  unfold f_X7_sortIn_J100
  refine mb_getR 148 rfl rfl (by decide) ?_
  obtain ⟨σ1, hσ1, hk⟩ := ab_bnd hk
  refine mb_ast ⟨rfl, rfl, fun _ => rfl⟩ hσ1 ?_
  refine mb_getR 149 rfl rfl (by decide) ?_
  obtain ⟨σ2, hσ2, hk⟩ := ab_bnd hk
  refine mb_ast ⟨rfl, rfl, fun _ => rfl⟩ hσ2 ?_
  refine mb_get rfl rfl ?_
  obtain ⟨σ3, hσ3, hk⟩ := ab_bnd hk
  refine mb_put rfl rfl hσ3 ?_
  obtain rfl := Option.some.inj hk
  rfl
noncomputable def g_X7_sortIn_L43 (k100 : Int → Int → Int → st_S → Option st_S) : Nat → Int → Int → Int → st_S → Option st_S
  | 0, _, _, _, _ => none
  | n + 1, v1, v3, v5, σ =>
    if v5 ≤ (0 : Int) then
      k100 v1 v3 v5 σ
    else
    (sa_ld σ 148 72 (ab_w32 (v5 - (1 : Int)))).bind fun t1 =>
    if ab_cmp t1 v1 ≤ (0 : Int) then
      k100 v1 v3 v5 σ
    else
    (sa_ld σ 148 72 (ab_w32 (v5 - (1 : Int)))).bind fun t2 =>
    (sa_st σ 148 72 v5 t2).bind fun σ1 =>
    (sa_ld σ1 149 72 (ab_w32 (v5 - (1 : Int)))).bind fun t3 =>
    (sa_st σ1 149 72 v5 t3).bind fun σ2 =>
    g_X7_sortIn_L43 k100 n v1 v3 (ab_w32 (v5 + (-1 : Int))) σ2
set_option maxRecDepth 20000 in
theorem s_X7_sortIn_L43 {k100 : Int → Int → Int → st_S → Option st_S} {kf100 : Int → Int → Int → Int → ab_H → Option ab_H} (hk100 : ∀ (v1 : Int) (v3 : Int) (v5 : Int) (σ : st_S) (q : st_S), k100 v1 v3 v5 σ = some q → kf100 ((147 : Nat) : Int) v1 v3 v5 (mk_ σ) = some (mk_ q)) : ∀ (n : Nat) (v1 : Int) (v3 : Int) (v5 : Int) (σ : st_S) (q : st_S), g_X7_sortIn_L43 k100 n v1 v3 v5 σ = some q → f_X7_sortIn_L43 kf100 n ((147 : Nat) : Int) v1 v3 v5 (mk_ σ) = some (mk_ q) := by
  intro n
  induction n with
  | zero => intro v1 v3 v5 σ q hk; cases hk
  | succ n ih =>
    intro v1 v3 v5 σ q hk
    unfold g_X7_sortIn_L43 at hk
    unfold f_X7_sortIn_L43
    by_cases hc : v5 ≤ (0 : Int)
    · have hk := ab_ifp hk hc
      refine mb_ifp hc ?_
      exact hk100 _ _ _  _ _ hk
    · have hk := ab_ifn hk hc
      refine mb_ifn hc ?_
      refine mb_getR 148 rfl rfl (by decide) ?_
      obtain ⟨t1, ht1, hk⟩ := ab_bnd hk
      refine mb_ald ⟨rfl, rfl, fun _ => rfl⟩ ht1 ?_
      by_cases hc : ab_cmp t1 v1 ≤ (0 : Int)
      · have hk := ab_ifp hk hc
        refine mb_ifp hc ?_
        exact hk100 _ _ _  _ _ hk
      · have hk := ab_ifn hk hc
        refine mb_ifn hc ?_
        refine mb_getR 148 rfl rfl (by decide) ?_
        refine mb_getR 148 rfl rfl (by decide) ?_
        obtain ⟨t2, ht2, hk⟩ := ab_bnd hk
        refine mb_ald ⟨rfl, rfl, fun _ => rfl⟩ ht2 ?_
        obtain ⟨σ1, hσ1, hk⟩ := ab_bnd hk
        refine mb_ast ⟨rfl, rfl, fun _ => rfl⟩ hσ1 ?_
        refine mb_getR 149 rfl rfl (by decide) ?_
        refine mb_getR 149 rfl rfl (by decide) ?_
        obtain ⟨t3, ht3, hk⟩ := ab_bnd hk
        refine mb_ald ⟨rfl, rfl, fun _ => rfl⟩ ht3 ?_
        obtain ⟨σ2, hσ2, hk⟩ := ab_bnd hk
        refine mb_ast ⟨rfl, rfl, fun _ => rfl⟩ hσ2 ?_
        exact ih _ _ _  _ _ hk
noncomputable def g_X7_sortIn (a1 : Int) (a3 : Int) (σ : st_S) : Option st_S :=
  (g_X7_numberOf a1 σ).bind fun q1 =>
  if q1.1 = (-1 : Int) then
    if q1.2 147 0 < (72 : Int) then
      g_X7_sortIn_L43 (fun w100_1 w100_3 w100_5 σx100 =>
        g_X7_sortIn_J100 w100_1 w100_3 w100_5 σx100) ab_FU a1 a3 (q1.2 147 0) q1.2
    else
    some q1.2
  else
  (sa_ld q1.2 149 72 q1.1).bind fun t2 =>
  (sa_st q1.2 149 72 q1.1 (ab_or t2 (ab_shl (1 : Int) a3))).bind fun σ1 =>
  some σ1
set_option maxRecDepth 20000 in
theorem s_X7_sortIn {a1 : Int} {a3 : Int} {σ : st_S} {q : st_S} (hk : g_X7_sortIn a1 a3 σ = some q) : f_X7_sortIn ((147 : Nat) : Int) a1 a3 (mk_ σ) = some (mk_ q) := by
  unfold g_X7_sortIn at hk
  unfold f_X7_sortIn
  obtain ⟨q1, hq1, hk⟩ := ab_bnd hk
  refine mb_on rfl (s_X7_numberOf hq1) ?_
  by_cases hc : q1.1 = (-1 : Int)
  · have hk := ab_ifp hk hc
    refine mb_ifp hc ?_
    refine mb_get rfl rfl ?_
    by_cases hc : q1.2 147 0 < (72 : Int)
    · have hk := ab_ifp hk hc
      refine mb_ifp hc ?_
      refine mb_get rfl rfl ?_
      refine s_X7_sortIn_L43 (fun w100_1 w100_3 w100_5 σx100 q hk => ?_) _ _ _ _  _ _ hk
      · skip
        exact s_X7_sortIn_J100 _ _ _  _ _ hk
    · have hk := ab_ifn hk hc
      refine mb_ifn hc ?_
      obtain rfl := Option.some.inj hk
      rfl
  · have hk := ab_ifn hk hc
    refine mb_ifn hc ?_
    refine mb_getR 149 rfl rfl (by decide) ?_
    obtain ⟨t2, ht2, hk⟩ := ab_bnd hk
    refine mb_ald ⟨rfl, rfl, fun _ => rfl⟩ ht2 ?_
    obtain ⟨σ1, hσ1, hk⟩ := ab_bnd hk
    refine mb_ast ⟨rfl, rfl, fun _ => rfl⟩ hσ1 ?_
    obtain rfl := Option.some.inj hk
    rfl
noncomputable def g_X7_gatherFrom_L17 (k53 : Nat → Int → st_S → Option st_S) : Nat → Nat → Int → Int → st_S → Option st_S
  | 0, _, _, _, _ => none
  | n + 1, v1, v2, v3, σ =>
    (sa_ld σ (v1 + 2) 12 v2).bind fun t1 =>
    if t1 ≤ v3 then
      k53 v1 v2 σ
    else
    (sa_ld σ (v1 + 5) 72 (ab_w32 ((ab_w32 (v2 * (6 : Int))) + v3))).bind fun t2 =>
    (g_X0_used v1 t2 σ).bind fun q3 =>
    (g_X7_sortIn q3.1 v2 q3.2).bind fun q4 =>
    g_X7_gatherFrom_L17 k53 n v1 v2 (ab_w32 (v3 + (1 : Int))) q4
set_option maxRecDepth 20000 in
theorem s_X7_gatherFrom_L17 {k53 : Nat → Int → st_S → Option st_S} {kf53 : Int → Int → Int → ab_H → Option ab_H} (hk53 : ∀ (v1 : Nat) (v2 : Int) (pv1 : isBk v1 = true) (σ : st_S) (q : st_S), k53 v1 v2 σ = some q → kf53 ((147 : Nat) : Int) ((v1 : Nat) : Int) v2 (mk_ σ) = some (mk_ q)) : ∀ (n : Nat) (v1 : Nat) (v2 : Int) (v3 : Int) (pv1 : isBk v1 = true) (σ : st_S) (q : st_S), g_X7_gatherFrom_L17 k53 n v1 v2 v3 σ = some q → f_X7_gatherFrom_L17 kf53 n ((147 : Nat) : Int) ((v1 : Nat) : Int) v2 v3 (mk_ σ) = some (mk_ q) := by
  intro n
  induction n with
  | zero => intro v1 v2 v3 pv1 σ q hk; cases hk
  | succ n ih =>
    intro v1 v2 v3 pv1 σ q hk
    unfold g_X7_gatherFrom_L17 at hk
    unfold f_X7_gatherFrom_L17
    refine mb_getR (v1 + 2) (bk_ly pv1).1 ((bk_ly pv1).2.1 _) (by omega) ?_
    obtain ⟨t1, ht1, hk⟩ := ab_bnd hk
    refine mb_ald (bk_ly pv1).2.2.2.1 ht1 ?_
    by_cases hc : t1 ≤ v3
    · have hk := ab_ifp hk hc
      refine mb_ifp hc ?_
      exact hk53 _ _ pv1 _ _ hk
    · have hk := ab_ifn hk hc
      refine mb_ifn hc ?_
      refine mb_getR (v1 + 5) (bk_ly pv1).1 ((bk_ly pv1).2.1 _) (by omega) ?_
      obtain ⟨t2, ht2, hk⟩ := ab_bnd hk
      refine mb_ald (bk_ly pv1).2.2.2.2.2.2.1 ht2 ?_
      obtain ⟨q3, hq3, hk⟩ := ab_bnd hk
      refine mb_on (bk_ly pv1).1 (s_X0_used pv1 hq3) ?_
      obtain ⟨q4, hq4, hk⟩ := ab_bnd hk
      refine mb_on rfl (s_X7_sortIn hq4) ?_
      exact ih _ _ _ pv1 _ _ hk
noncomputable def g_X7_gatherFrom_L7 : Nat → Nat → Int → st_S → Option st_S
  | 0, _, _, _ => none
  | n + 1, v1, v2, σ =>
    if σ v1 0 ≤ v2 then
      some σ
    else
    g_X7_gatherFrom_L17 (fun w53_1 w53_2 σx53 =>
      g_X7_gatherFrom_L7 n w53_1 (ab_w32 (w53_2 + (1 : Int))) σx53) ab_FU v1 v2 (0 : Int) σ
set_option maxRecDepth 20000 in
theorem s_X7_gatherFrom_L7 : ∀ (n : Nat) (v1 : Nat) (v2 : Int) (pv1 : isBk v1 = true) (σ : st_S) (q : st_S), g_X7_gatherFrom_L7 n v1 v2 σ = some q → f_X7_gatherFrom_L7 n ((147 : Nat) : Int) ((v1 : Nat) : Int) v2 (mk_ σ) = some (mk_ q) := by
  intro n
  induction n with
  | zero => intro v1 v2 pv1 σ q hk; cases hk
  | succ n ih =>
    intro v1 v2 pv1 σ q hk
    unfold g_X7_gatherFrom_L7 at hk
    unfold f_X7_gatherFrom_L7
    refine mb_get (bk_ly pv1).1 ((bk_ly pv1).2.1 _) ?_
    by_cases hc : σ v1 0 ≤ v2
    · have hk := ab_ifp hk hc
      refine mb_ifp hc ?_
      obtain rfl := Option.some.inj hk
      rfl
    · have hk := ab_ifn hk hc
      refine mb_ifn hc ?_
      refine s_X7_gatherFrom_L17 (fun w53_1 w53_2 pw53_1 σx53 q hk => ?_) _ _ _ _ pv1 _ _ hk
      · skip
        exact ih _ _ pw53_1 _ _ hk
noncomputable def g_X7_gatherFrom (a1 : Nat) (σ : st_S) : Option st_S :=
  (some (up2 σ 147 0 (0 : Int))).bind fun σ1 =>
  g_X7_gatherFrom_L7 ab_FU a1 (0 : Int) σ1
set_option maxRecDepth 20000 in
theorem s_X7_gatherFrom {a1 : Nat} (pa1 : isBk a1 = true) {σ : st_S} {q : st_S} (hk : g_X7_gatherFrom a1 σ = some q) : f_X7_gatherFrom ((147 : Nat) : Int) ((a1 : Nat) : Int) (mk_ σ) = some (mk_ q) := by
  unfold g_X7_gatherFrom at hk
  unfold f_X7_gatherFrom
  obtain ⟨σ1, hσ1, hk⟩ := ab_bnd hk
  refine mb_put rfl rfl hσ1 ?_
  refine s_X7_gatherFrom_L7 _ _ _ pa1 _ _ hk
noncomputable def g_X7_stringCount (a1 : Int) (σ : st_S) : Option (Int × st_S) :=
  (sa_ld σ 149 72 a1).bind fun t1 =>
  (g_J6_bitCount_0f7a4 t1 σ).bind fun q2 =>
  some (q2.1, q2.2)
set_option maxRecDepth 20000 in
theorem s_X7_stringCount {a1 : Int} {σ : st_S} {q : Int × st_S} (hk : g_X7_stringCount a1 σ = some q) : f_X7_stringCount ((147 : Nat) : Int) a1 (mk_ σ) = some ((q.1, mk_ q.2)) := by
  unfold g_X7_stringCount at hk
  unfold f_X7_stringCount
  refine mb_getR 149 rfl rfl (by decide) ?_
  obtain ⟨t1, ht1, hk⟩ := ab_bnd hk
  refine mb_ald ⟨rfl, rfl, fun _ => rfl⟩ ht1 ?_
  obtain ⟨q2, hq2, hk⟩ := ab_bnd hk
  refine mb_eq (s_J6_bitCount_0f7a4 hq2) ?_
  obtain rfl := Option.some.inj hk
  rfl
noncomputable def g_X7_rankOf_J49 (rec : Int → Int → Int → Int → st_S → Option (Int × st_S)) (v1 : Int) (v2 : Int) (v3 : Int) (v4 : Int) (σ : st_S) : Option (Int × st_S) :=
  rec v1 v2 v3 (ab_w32 (v4 + (1 : Int))) σ
set_option maxRecDepth 20000 in
theorem s_X7_rankOf_J49 {rec : Int → Int → Int → Int → st_S → Option (Int × st_S)} {recf : Int → Int → Int → Int → Int → ab_H → Option (Int × ab_H)} (hrec : ∀ (v1 : Int) (v2 : Int) (v3 : Int) (v4 : Int) (σ : st_S) (q : Int × st_S), rec v1 v2 v3 v4 σ = some q → recf ((147 : Nat) : Int) v1 v2 v3 v4 (mk_ σ) = some ((q.1, mk_ q.2))) : ∀ (v1 : Int) (v2 : Int) (v3 : Int) (v4 : Int) (σ : st_S) (q : Int × st_S), g_X7_rankOf_J49 rec v1 v2 v3 v4 σ = some q → f_X7_rankOf_J49 recf ((147 : Nat) : Int) v1 v2 v3 v4 (mk_ σ) = some ((q.1, mk_ q.2)) := by
  intro v1 v2 v3 v4 σ q hk
  unfold g_X7_rankOf_J49 at hk
  unfold f_X7_rankOf_J49
  exact hrec _ _ _ _  _ _ hk
noncomputable def g_X7_rankOf_J46 (rec : Int → Int → Int → Int → st_S → Option (Int × st_S)) (v1 : Int) (v2 : Int) (v3 : Int) (v4 : Int) (σ : st_S) : Option (Int × st_S) :=
  g_X7_rankOf_J49 rec v1 (ab_w32 (v2 + (1 : Int))) v3 v4 σ
set_option maxRecDepth 20000 in
theorem s_X7_rankOf_J46 {rec : Int → Int → Int → Int → st_S → Option (Int × st_S)} {recf : Int → Int → Int → Int → Int → ab_H → Option (Int × ab_H)} (hrec : ∀ (v1 : Int) (v2 : Int) (v3 : Int) (v4 : Int) (σ : st_S) (q : Int × st_S), rec v1 v2 v3 v4 σ = some q → recf ((147 : Nat) : Int) v1 v2 v3 v4 (mk_ σ) = some ((q.1, mk_ q.2))) : ∀ (v1 : Int) (v2 : Int) (v3 : Int) (v4 : Int) (σ : st_S) (q : Int × st_S), g_X7_rankOf_J46 rec v1 v2 v3 v4 σ = some q → f_X7_rankOf_J46 recf ((147 : Nat) : Int) v1 v2 v3 v4 (mk_ σ) = some ((q.1, mk_ q.2)) := by
  intro v1 v2 v3 v4 σ q hk
  unfold g_X7_rankOf_J46 at hk
  unfold f_X7_rankOf_J46
  exact s_X7_rankOf_J49 hrec _ _ _ _  _ _ hk
noncomputable def g_X7_rankOf_L11 : Nat → Int → Int → Int → Int → st_S → Option (Int × st_S)
  | 0, _, _, _, _, _ => none
  | n + 1, v1, v2, v3, v4, σ =>
    if σ 147 0 ≤ v4 then
      some (v2, σ)
    else
    (g_X7_stringCount v4 σ).bind fun q1 =>
    if v3 < q1.1 then
      g_X7_rankOf_J46 (g_X7_rankOf_L11 n) v1 v2 v3 v4 q1.2
    else
    if q1.1 = v3 then
      if v1 ≤ v4 then
        g_X7_rankOf_J49 (g_X7_rankOf_L11 n) v1 v2 v3 v4 q1.2
      else
      g_X7_rankOf_J46 (g_X7_rankOf_L11 n) v1 v2 v3 v4 q1.2
    else
    g_X7_rankOf_J49 (g_X7_rankOf_L11 n) v1 v2 v3 v4 q1.2
set_option maxRecDepth 20000 in
theorem s_X7_rankOf_L11 : ∀ (n : Nat) (v1 : Int) (v2 : Int) (v3 : Int) (v4 : Int) (σ : st_S) (q : Int × st_S), g_X7_rankOf_L11 n v1 v2 v3 v4 σ = some q → f_X7_rankOf_L11 n ((147 : Nat) : Int) v1 v2 v3 v4 (mk_ σ) = some ((q.1, mk_ q.2)) := by
  intro n
  induction n with
  | zero => intro v1 v2 v3 v4 σ q hk; cases hk
  | succ n ih =>
    intro v1 v2 v3 v4 σ q hk
    unfold g_X7_rankOf_L11 at hk
    unfold f_X7_rankOf_L11
    refine mb_get rfl rfl ?_
    by_cases hc : σ 147 0 ≤ v4
    · have hk := ab_ifp hk hc
      refine mb_ifp hc ?_
      obtain rfl := Option.some.inj hk
      rfl
    · have hk := ab_ifn hk hc
      refine mb_ifn hc ?_
      obtain ⟨q1, hq1, hk⟩ := ab_bnd hk
      refine mb_on rfl (s_X7_stringCount hq1) ?_
      by_cases hc : v3 < q1.1
      · have hk := ab_ifp hk hc
        refine mb_ifp hc ?_
        exact s_X7_rankOf_J46 ih _ _ _ _  _ _ hk
      · have hk := ab_ifn hk hc
        refine mb_ifn hc ?_
        by_cases hc : q1.1 = v3
        · have hk := ab_ifp hk hc
          refine mb_ifp hc ?_
          by_cases hc : v1 ≤ v4
          · have hk := ab_ifp hk hc
            refine mb_ifp hc ?_
            exact s_X7_rankOf_J49 ih _ _ _ _  _ _ hk
          · have hk := ab_ifn hk hc
            refine mb_ifn hc ?_
            exact s_X7_rankOf_J46 ih _ _ _ _  _ _ hk
        · have hk := ab_ifn hk hc
          refine mb_ifn hc ?_
          exact s_X7_rankOf_J49 ih _ _ _ _  _ _ hk
noncomputable def g_X7_rankOf (a1 : Int) (σ : st_S) : Option (Int × st_S) :=
  (g_X7_stringCount a1 σ).bind fun q1 =>
  g_X7_rankOf_L11 ab_FU a1 (0 : Int) q1.1 (0 : Int) q1.2
set_option maxRecDepth 20000 in
theorem s_X7_rankOf {a1 : Int} {σ : st_S} {q : Int × st_S} (hk : g_X7_rankOf a1 σ = some q) : f_X7_rankOf ((147 : Nat) : Int) a1 (mk_ σ) = some ((q.1, mk_ q.2)) := by
  unfold g_X7_rankOf at hk
  unfold f_X7_rankOf
  obtain ⟨q1, hq1, hk⟩ := ab_bnd hk
  refine mb_on rfl (s_X7_stringCount hq1) ?_
  refine s_X7_rankOf_L11 _ _ _ _ _  _ _ hk
noncomputable def g_X7_areAllIn_L2 : Nat → Int → Int → st_S → Option (Int × st_S)
  | 0, _, _, _ => none
  | n + 1, v1, v2, σ =>
    if σ 147 0 ≤ v2 then
      some ((1 : Int), σ)
    else
    (sa_ld σ 149 72 v2).bind fun t1 =>
    if ab_and t1 v1 = (0 : Int) then
      some ((0 : Int), σ)
    else
    g_X7_areAllIn_L2 n v1 (ab_w32 (v2 + (1 : Int))) σ
set_option maxRecDepth 20000 in
theorem s_X7_areAllIn_L2 : ∀ (n : Nat) (v1 : Int) (v2 : Int) (σ : st_S) (q : Int × st_S), g_X7_areAllIn_L2 n v1 v2 σ = some q → f_X7_areAllIn_L2 n ((147 : Nat) : Int) v1 v2 (mk_ σ) = some ((q.1, mk_ q.2)) := by
  intro n
  induction n with
  | zero => intro v1 v2 σ q hk; cases hk
  | succ n ih =>
    intro v1 v2 σ q hk
    unfold g_X7_areAllIn_L2 at hk
    unfold f_X7_areAllIn_L2
    refine mb_get rfl rfl ?_
    by_cases hc : σ 147 0 ≤ v2
    · have hk := ab_ifp hk hc
      refine mb_ifp hc ?_
      obtain rfl := Option.some.inj hk
      rfl
    · have hk := ab_ifn hk hc
      refine mb_ifn hc ?_
      refine mb_getR 149 rfl rfl (by decide) ?_
      obtain ⟨t1, ht1, hk⟩ := ab_bnd hk
      refine mb_ald ⟨rfl, rfl, fun _ => rfl⟩ ht1 ?_
      by_cases hc : ab_and t1 v1 = (0 : Int)
      · have hk := ab_ifp hk hc
        refine mb_ifp hc ?_
        obtain rfl := Option.some.inj hk
        rfl
      · have hk := ab_ifn hk hc
        refine mb_ifn hc ?_
        exact ih _ _  _ _ hk
noncomputable def g_X7_areAllIn (a1 : Int) (σ : st_S) : Option (Int × st_S) :=
  g_X7_areAllIn_L2 ab_FU a1 (0 : Int) σ
set_option maxRecDepth 20000 in
theorem s_X7_areAllIn {a1 : Int} {σ : st_S} {q : Int × st_S} (hk : g_X7_areAllIn a1 σ = some q) : f_X7_areAllIn ((147 : Nat) : Int) a1 (mk_ σ) = some ((q.1, mk_ q.2)) := by
  unfold g_X7_areAllIn at hk
  unfold f_X7_areAllIn
  refine s_X7_areAllIn_L2 _ _ _  _ _ hk
noncomputable def g_X7_spread_J32 (rec : Int → Int → Int → st_S → Option (Int × st_S)) (v1 : Int) (v2 : Int) (v3 : Int) (σ : st_S) : Option (Int × st_S) :=
  rec v1 v2 (ab_w32 (v3 + (1 : Int))) σ
set_option maxRecDepth 20000 in
theorem s_X7_spread_J32 {rec : Int → Int → Int → st_S → Option (Int × st_S)} {recf : Int → Int → Int → Int → ab_H → Option (Int × ab_H)} (hrec : ∀ (v1 : Int) (v2 : Int) (v3 : Int) (σ : st_S) (q : Int × st_S), rec v1 v2 v3 σ = some q → recf ((147 : Nat) : Int) v1 v2 v3 (mk_ σ) = some ((q.1, mk_ q.2))) : ∀ (v1 : Int) (v2 : Int) (v3 : Int) (σ : st_S) (q : Int × st_S), g_X7_spread_J32 rec v1 v2 v3 σ = some q → f_X7_spread_J32 recf ((147 : Nat) : Int) v1 v2 v3 (mk_ σ) = some ((q.1, mk_ q.2)) := by
  intro v1 v2 v3 σ q hk
  unfold g_X7_spread_J32 at hk
  unfold f_X7_spread_J32
  exact hrec _ _ _  _ _ hk
noncomputable def g_X7_spread_L4 : Nat → Int → Int → Int → st_S → Option (Int × st_S)
  | 0, _, _, _, _ => none
  | n + 1, v1, v2, v3, σ =>
    if σ 147 0 ≤ v3 then
      some (v2, σ)
    else
    (sa_ld σ 149 72 v3).bind fun t1 =>
    if ab_and t1 v1 = (0 : Int) then
      g_X7_spread_J32 (g_X7_spread_L4 n) v1 v2 v3 σ
    else
    (sa_ld σ 149 72 v3).bind fun t2 =>
    g_X7_spread_J32 (g_X7_spread_L4 n) v1 (ab_or v2 t2) v3 σ
set_option maxRecDepth 20000 in
theorem s_X7_spread_L4 : ∀ (n : Nat) (v1 : Int) (v2 : Int) (v3 : Int) (σ : st_S) (q : Int × st_S), g_X7_spread_L4 n v1 v2 v3 σ = some q → f_X7_spread_L4 n ((147 : Nat) : Int) v1 v2 v3 (mk_ σ) = some ((q.1, mk_ q.2)) := by
  intro n
  induction n with
  | zero => intro v1 v2 v3 σ q hk; cases hk
  | succ n ih =>
    intro v1 v2 v3 σ q hk
    unfold g_X7_spread_L4 at hk
    unfold f_X7_spread_L4
    refine mb_get rfl rfl ?_
    by_cases hc : σ 147 0 ≤ v3
    · have hk := ab_ifp hk hc
      refine mb_ifp hc ?_
      obtain rfl := Option.some.inj hk
      rfl
    · have hk := ab_ifn hk hc
      refine mb_ifn hc ?_
      refine mb_getR 149 rfl rfl (by decide) ?_
      obtain ⟨t1, ht1, hk⟩ := ab_bnd hk
      refine mb_ald ⟨rfl, rfl, fun _ => rfl⟩ ht1 ?_
      by_cases hc : ab_and t1 v1 = (0 : Int)
      · have hk := ab_ifp hk hc
        refine mb_ifp hc ?_
        exact s_X7_spread_J32 ih _ _ _  _ _ hk
      · have hk := ab_ifn hk hc
        refine mb_ifn hc ?_
        refine mb_getR 149 rfl rfl (by decide) ?_
        obtain ⟨t2, ht2, hk⟩ := ab_bnd hk
        refine mb_ald ⟨rfl, rfl, fun _ => rfl⟩ ht2 ?_
        exact s_X7_spread_J32 ih _ _ _  _ _ hk
noncomputable def g_X7_spread (a1 : Int) (σ : st_S) : Option (Int × st_S) :=
  g_X7_spread_L4 ab_FU a1 a1 (0 : Int) σ
set_option maxRecDepth 20000 in
theorem s_X7_spread {a1 : Int} {σ : st_S} {q : Int × st_S} (hk : g_X7_spread a1 σ = some q) : f_X7_spread ((147 : Nat) : Int) a1 (mk_ σ) = some ((q.1, mk_ q.2)) := by
  unfold g_X7_spread at hk
  unfold f_X7_spread
  refine s_X7_spread_L4 _ _ _ _  _ _ hk
noncomputable def g_X7_stepsBetween_L10 : Nat → Int → Int → Int → st_S → Option (Int × st_S)
  | 0, _, _, _, _ => none
  | n + 1, v2, v3, v4, σ =>
    if (12 : Int) < v4 then
      some ((-1 : Int), σ)
    else
    (sa_ld σ 149 72 v2).bind fun t1 =>
    if ab_and v3 t1 = (0 : Int) then
      (g_X7_spread v3 σ).bind fun q2 =>
      g_X7_stepsBetween_L10 n v2 q2.1 (ab_w32 (v4 + (1 : Int))) q2.2
    else
    some (v4, σ)
set_option maxRecDepth 20000 in
theorem s_X7_stepsBetween_L10 : ∀ (n : Nat) (v2 : Int) (v3 : Int) (v4 : Int) (σ : st_S) (q : Int × st_S), g_X7_stepsBetween_L10 n v2 v3 v4 σ = some q → f_X7_stepsBetween_L10 n ((147 : Nat) : Int) v2 v3 v4 (mk_ σ) = some ((q.1, mk_ q.2)) := by
  intro n
  induction n with
  | zero => intro v2 v3 v4 σ q hk; cases hk
  | succ n ih =>
    intro v2 v3 v4 σ q hk
    unfold g_X7_stepsBetween_L10 at hk
    unfold f_X7_stepsBetween_L10
    by_cases hc : (12 : Int) < v4
    · have hk := ab_ifp hk hc
      refine mb_ifp hc ?_
      obtain rfl := Option.some.inj hk
      rfl
    · have hk := ab_ifn hk hc
      refine mb_ifn hc ?_
      refine mb_getR 149 rfl rfl (by decide) ?_
      obtain ⟨t1, ht1, hk⟩ := ab_bnd hk
      refine mb_ald ⟨rfl, rfl, fun _ => rfl⟩ ht1 ?_
      by_cases hc : ab_and v3 t1 = (0 : Int)
      · have hk := ab_ifp hk hc
        refine mb_ifp hc ?_
        obtain ⟨q2, hq2, hk⟩ := ab_bnd hk
        refine mb_on rfl (s_X7_spread hq2) ?_
        exact ih _ _ _  _ _ hk
      · have hk := ab_ifn hk hc
        refine mb_ifn hc ?_
        obtain rfl := Option.some.inj hk
        rfl
noncomputable def g_X7_stepsBetween (a1 : Int) (a2 : Int) (σ : st_S) : Option (Int × st_S) :=
  (sa_ld σ 149 72 a1).bind fun t1 =>
  g_X7_stepsBetween_L10 ab_FU a2 t1 (1 : Int) σ
set_option maxRecDepth 20000 in
theorem s_X7_stepsBetween {a1 : Int} {a2 : Int} {σ : st_S} {q : Int × st_S} (hk : g_X7_stepsBetween a1 a2 σ = some q) : f_X7_stepsBetween ((147 : Nat) : Int) a1 a2 (mk_ σ) = some ((q.1, mk_ q.2)) := by
  unfold g_X7_stepsBetween at hk
  unfold f_X7_stepsBetween
  refine mb_getR 149 rfl rfl (by decide) ?_
  obtain ⟨t1, ht1, hk⟩ := ab_bnd hk
  refine mb_ald ⟨rfl, rfl, fun _ => rfl⟩ ht1 ?_
  refine s_X7_stepsBetween_L10 _ _ _ _  _ _ hk
noncomputable def g_X7_groupOf_L9 : Nat → Int → Int → st_S → Option (Int × st_S)
  | 0, _, _, _ => none
  | n + 1, v2, v3, σ =>
    if (12 : Int) ≤ v3 then
      some (v2, σ)
    else
    (g_X7_spread v2 σ).bind fun q1 =>
    g_X7_groupOf_L9 n q1.1 (ab_w32 (v3 + (1 : Int))) q1.2
set_option maxRecDepth 20000 in
theorem s_X7_groupOf_L9 : ∀ (n : Nat) (v2 : Int) (v3 : Int) (σ : st_S) (q : Int × st_S), g_X7_groupOf_L9 n v2 v3 σ = some q → f_X7_groupOf_L9 n ((147 : Nat) : Int) v2 v3 (mk_ σ) = some ((q.1, mk_ q.2)) := by
  intro n
  induction n with
  | zero => intro v2 v3 σ q hk; cases hk
  | succ n ih =>
    intro v2 v3 σ q hk
    unfold g_X7_groupOf_L9 at hk
    unfold f_X7_groupOf_L9
    by_cases hc : (12 : Int) ≤ v3
    · have hk := ab_ifp hk hc
      refine mb_ifp hc ?_
      obtain rfl := Option.some.inj hk
      rfl
    · have hk := ab_ifn hk hc
      refine mb_ifn hc ?_
      obtain ⟨q1, hq1, hk⟩ := ab_bnd hk
      refine mb_on rfl (s_X7_spread hq1) ?_
      exact ih _ _  _ _ hk
noncomputable def g_X7_groupOf (a1 : Int) (σ : st_S) : Option (Int × st_S) :=
  (sa_ld σ 149 72 a1).bind fun t1 =>
  g_X7_groupOf_L9 ab_FU t1 (0 : Int) σ
set_option maxRecDepth 20000 in
theorem s_X7_groupOf {a1 : Int} {σ : st_S} {q : Int × st_S} (hk : g_X7_groupOf a1 σ = some q) : f_X7_groupOf ((147 : Nat) : Int) a1 (mk_ σ) = some ((q.1, mk_ q.2)) := by
  unfold g_X7_groupOf at hk
  unfold f_X7_groupOf
  refine mb_getR 149 rfl rfl (by decide) ?_
  obtain ⟨t1, ht1, hk⟩ := ab_bnd hk
  refine mb_ald ⟨rfl, rfl, fun _ => rfl⟩ ht1 ?_
  refine s_X7_groupOf_L9 _ _ _  _ _ hk
