noncomputable def g_X5_takeFrom_L36 (k134 : Nat → Int → st_S → Option st_S) : Nat → Nat → Int → Int → st_S → Option st_S
  | 0, _, _, _, _ => none
  | n + 1, v1, v3, v4, σ =>
    (sa_ld σ 151 12 v3).bind fun t1 =>
    if ab_w32 ((ab_w32 (v3 * (6 : Int))) + t1) ≤ v4 then
      k134 v1 v3 σ
    else
    (sa_ld σ (v1 + 3) 72 v4).bind fun t2 =>
    (sa_st σ 152 72 v4 t2).bind fun σ1 =>
    (sa_ld σ1 (v1 + 5) 72 v4).bind fun t3 =>
    (g_X0_used v1 t3 σ1).bind fun q4 =>
    (g_X7_numberOf q4.1 q4.2).bind fun q5 =>
    (sa_st q5.2 153 72 v4 (ab_mx q5.1 (0 : Int))).bind fun σ2 =>
    (sa_ld σ2 (v1 + 6) 72 v4).bind fun t6 =>
    (g_X0_used v1 t6 σ2).bind fun q7 =>
    (sa_st q7.2 154 72 v4 q7.1).bind fun σ3 =>
    (sa_ld σ3 (v1 + 7) 72 v4).bind fun t8 =>
    (g_X0_used v1 t8 σ3).bind fun q9 =>
    (sa_st q9.2 155 72 v4 q9.1).bind fun σ4 =>
    g_X5_takeFrom_L36 k134 n v1 v3 (ab_w32 (v4 + (1 : Int))) σ4
set_option maxRecDepth 20000 in
theorem s_X5_takeFrom_L36 {k134 : Nat → Int → st_S → Option st_S} {kf134 : Int → Int → Int → Int → ab_H → Option ab_H} (hk134 : ∀ (v1 : Nat) (v3 : Int) (pv1 : isBk v1 = true) (σ : st_S) (q : st_S), k134 v1 v3 σ = some q → kf134 ((150 : Nat) : Int) ((v1 : Nat) : Int) ((147 : Nat) : Int) v3 (mk_ σ) = some (mk_ q)) : ∀ (n : Nat) (v1 : Nat) (v3 : Int) (v4 : Int) (pv1 : isBk v1 = true) (σ : st_S) (q : st_S), g_X5_takeFrom_L36 k134 n v1 v3 v4 σ = some q → f_X5_takeFrom_L36 kf134 n ((150 : Nat) : Int) ((v1 : Nat) : Int) ((147 : Nat) : Int) v3 v4 (mk_ σ) = some (mk_ q) := by
  intro n
  induction n with
  | zero => intro v1 v3 v4 pv1 σ q hk; cases hk
  | succ n ih =>
    intro v1 v3 v4 pv1 σ q hk
    unfold g_X5_takeFrom_L36 at hk
    unfold f_X5_takeFrom_L36
    refine mb_getR 151 rfl rfl (by decide) ?_
    obtain ⟨t1, ht1, hk⟩ := ab_bnd hk
    refine mb_ald ⟨rfl, rfl, fun _ => rfl⟩ ht1 ?_
    by_cases hc : ab_w32 ((ab_w32 (v3 * (6 : Int))) + t1) ≤ v4
    · have hk := ab_ifp hk hc
      refine mb_ifp hc ?_
      exact hk134 _ _ pv1 _ _ hk
    · have hk := ab_ifn hk hc
      refine mb_ifn hc ?_
      refine mb_getR 152 rfl rfl (by decide) ?_
      refine mb_getR (v1 + 3) (bk_ly pv1).1 ((bk_ly pv1).2.1 _) (by omega) ?_
      obtain ⟨t2, ht2, hk⟩ := ab_bnd hk
      refine mb_ald (bk_ly pv1).2.2.2.2.1 ht2 ?_
      obtain ⟨σ1, hσ1, hk⟩ := ab_bnd hk
      refine mb_ast ⟨rfl, rfl, fun _ => rfl⟩ hσ1 ?_
      refine mb_getR 153 rfl rfl (by decide) ?_
      refine mb_getR (v1 + 5) (bk_ly pv1).1 ((bk_ly pv1).2.1 _) (by omega) ?_
      obtain ⟨t3, ht3, hk⟩ := ab_bnd hk
      refine mb_ald (bk_ly pv1).2.2.2.2.2.2.1 ht3 ?_
      obtain ⟨q4, hq4, hk⟩ := ab_bnd hk
      refine mb_on (bk_ly pv1).1 (s_X0_used pv1 hq4) ?_
      obtain ⟨q5, hq5, hk⟩ := ab_bnd hk
      refine mb_on rfl (s_X7_numberOf hq5) ?_
      obtain ⟨σ2, hσ2, hk⟩ := ab_bnd hk
      refine mb_ast ⟨rfl, rfl, fun _ => rfl⟩ hσ2 ?_
      refine mb_getR 154 rfl rfl (by decide) ?_
      refine mb_getR (v1 + 6) (bk_ly pv1).1 ((bk_ly pv1).2.1 _) (by omega) ?_
      obtain ⟨t6, ht6, hk⟩ := ab_bnd hk
      refine mb_ald (bk_ly pv1).2.2.2.2.2.2.2.1 ht6 ?_
      obtain ⟨q7, hq7, hk⟩ := ab_bnd hk
      refine mb_on (bk_ly pv1).1 (s_X0_used pv1 hq7) ?_
      obtain ⟨σ3, hσ3, hk⟩ := ab_bnd hk
      refine mb_ast ⟨rfl, rfl, fun _ => rfl⟩ hσ3 ?_
      refine mb_getR 155 rfl rfl (by decide) ?_
      refine mb_getR (v1 + 7) (bk_ly pv1).1 ((bk_ly pv1).2.1 _) (by omega) ?_
      obtain ⟨t8, ht8, hk⟩ := ab_bnd hk
      refine mb_ald (bk_ly pv1).2.2.2.2.2.2.2.2.1 ht8 ?_
      obtain ⟨q9, hq9, hk⟩ := ab_bnd hk
      refine mb_on (bk_ly pv1).1 (s_X0_used pv1 hq9) ?_
      obtain ⟨σ4, hσ4, hk⟩ := ab_bnd hk
      refine mb_ast ⟨rfl, rfl, fun _ => rfl⟩ hσ4 ?_
      exact ih _ _ _ pv1 _ _ hk
noncomputable def g_X5_takeFrom_L10 : Nat → Nat → Int → st_S → Option st_S
  | 0, _, _, _ => none
  | n + 1, v1, v3, σ =>
    if σ 150 0 ≤ v3 then
      some σ
    else
    (sa_ld σ (v1 + 2) 12 v3).bind fun t1 =>
    (sa_st σ 151 12 v3 t1).bind fun σ1 =>
    g_X5_takeFrom_L36 (fun w134_1 w134_3 σx134 =>
      g_X5_takeFrom_L10 n w134_1 (ab_w32 (w134_3 + (1 : Int))) σx134) ab_FU v1 v3 (ab_w32 (v3 * (6 : Int))) σ1
set_option maxRecDepth 20000 in
theorem s_X5_takeFrom_L10 : ∀ (n : Nat) (v1 : Nat) (v3 : Int) (pv1 : isBk v1 = true) (σ : st_S) (q : st_S), g_X5_takeFrom_L10 n v1 v3 σ = some q → f_X5_takeFrom_L10 n ((150 : Nat) : Int) ((v1 : Nat) : Int) ((147 : Nat) : Int) v3 (mk_ σ) = some (mk_ q) := by
  intro n
  induction n with
  | zero => intro v1 v3 pv1 σ q hk; cases hk
  | succ n ih =>
    intro v1 v3 pv1 σ q hk
    unfold g_X5_takeFrom_L10 at hk
    unfold f_X5_takeFrom_L10
    refine mb_get rfl rfl ?_
    by_cases hc : σ 150 0 ≤ v3
    · have hk := ab_ifp hk hc
      refine mb_ifp hc ?_
      obtain rfl := Option.some.inj hk
      rfl
    · have hk := ab_ifn hk hc
      refine mb_ifn hc ?_
      refine mb_getR 151 rfl rfl (by decide) ?_
      refine mb_getR (v1 + 2) (bk_ly pv1).1 ((bk_ly pv1).2.1 _) (by omega) ?_
      obtain ⟨t1, ht1, hk⟩ := ab_bnd hk
      refine mb_ald (bk_ly pv1).2.2.2.1 ht1 ?_
      obtain ⟨σ1, hσ1, hk⟩ := ab_bnd hk
      refine mb_ast ⟨rfl, rfl, fun _ => rfl⟩ hσ1 ?_
      refine s_X5_takeFrom_L36 (fun w134_1 w134_3 pw134_1 σx134 q hk => ?_) _ _ _ _ pv1 _ _ hk
      · skip
        exact ih _ _ pw134_1 _ _ hk
noncomputable def g_X5_takeFrom (a1 : Nat) (σ : st_S) : Option st_S :=
  (some (up2 σ 150 0 (σ a1 0))).bind fun σ1 =>
  g_X5_takeFrom_L10 ab_FU a1 (0 : Int) σ1
set_option maxRecDepth 20000 in
theorem s_X5_takeFrom {a1 : Nat} (pa1 : isBk a1 = true) {σ : st_S} {q : st_S} (hk : g_X5_takeFrom a1 σ = some q) : f_X5_takeFrom ((150 : Nat) : Int) ((a1 : Nat) : Int) ((147 : Nat) : Int) (mk_ σ) = some (mk_ q) := by
  unfold g_X5_takeFrom at hk
  unfold f_X5_takeFrom
  refine mb_get (bk_ly pa1).1 ((bk_ly pa1).2.1 _) ?_
  obtain ⟨σ1, hσ1, hk⟩ := ab_bnd hk
  refine mb_put rfl rfl hσ1 ?_
  refine s_X5_takeFrom_L10 _ _ _ pa1 _ _ hk
noncomputable def g_X5_repeatedIn_J70 (rec : Int → Int → Int → st_S → Option (Int × st_S)) (v1 : Int) (v2 : Int) (v3 : Int) (σ : st_S) : Option (Int × st_S) :=
  rec v1 v2 (ab_w32 (v3 + (1 : Int))) σ
set_option maxRecDepth 20000 in
theorem s_X5_repeatedIn_J70 {rec : Int → Int → Int → st_S → Option (Int × st_S)} {recf : Int → Int → Int → Int → ab_H → Option (Int × ab_H)} (hrec : ∀ (v1 : Int) (v2 : Int) (v3 : Int) (σ : st_S) (q : Int × st_S), rec v1 v2 v3 σ = some q → recf ((150 : Nat) : Int) v1 v2 v3 (mk_ σ) = some ((q.1, mk_ q.2))) : ∀ (v1 : Int) (v2 : Int) (v3 : Int) (σ : st_S) (q : Int × st_S), g_X5_repeatedIn_J70 rec v1 v2 v3 σ = some q → f_X5_repeatedIn_J70 recf ((150 : Nat) : Int) v1 v2 v3 (mk_ σ) = some ((q.1, mk_ q.2)) := by
  intro v1 v2 v3 σ q hk
  unfold g_X5_repeatedIn_J70 at hk
  unfold f_X5_repeatedIn_J70
  exact hrec _ _ _  _ _ hk
noncomputable def g_X5_repeatedIn_J55 (rec : Int → Int → Int → Int → Int → st_S → Option (Int × st_S)) (k61 : Int → Int → Int → Int → st_S → Option (Int × st_S)) (v1 : Int) (v2 : Int) (v3 : Int) (v4 : Int) (v5 : Int) (σ : st_S) : Option (Int × st_S) :=
  rec v1 v2 v3 v4 (ab_w32 (v5 + (1 : Int))) σ
set_option maxRecDepth 20000 in
theorem s_X5_repeatedIn_J55 {rec : Int → Int → Int → Int → Int → st_S → Option (Int × st_S)} {recf : Int → Int → Int → Int → Int → Int → ab_H → Option (Int × ab_H)} {k61 : Int → Int → Int → Int → st_S → Option (Int × st_S)} {kf61 : Int → Int → Int → Int → Int → ab_H → Option (Int × ab_H)} (hrec : ∀ (v1 : Int) (v2 : Int) (v3 : Int) (v4 : Int) (v5 : Int) (σ : st_S) (q : Int × st_S), rec v1 v2 v3 v4 v5 σ = some q → recf ((150 : Nat) : Int) v1 v2 v3 v4 v5 (mk_ σ) = some ((q.1, mk_ q.2))) (hk61 : ∀ (v1 : Int) (v2 : Int) (v3 : Int) (v4 : Int) (σ : st_S) (q : Int × st_S), k61 v1 v2 v3 v4 σ = some q → kf61 ((150 : Nat) : Int) v1 v2 v3 v4 (mk_ σ) = some ((q.1, mk_ q.2))) : ∀ (v1 : Int) (v2 : Int) (v3 : Int) (v4 : Int) (v5 : Int) (σ : st_S) (q : Int × st_S), g_X5_repeatedIn_J55 rec k61 v1 v2 v3 v4 v5 σ = some q → f_X5_repeatedIn_J55 recf kf61 ((150 : Nat) : Int) v1 v2 v3 v4 v5 (mk_ σ) = some ((q.1, mk_ q.2)) := by
  intro v1 v2 v3 v4 v5 σ q hk
  unfold g_X5_repeatedIn_J55 at hk
  unfold f_X5_repeatedIn_J55
  exact hrec _ _ _ _ _  _ _ hk
noncomputable def g_X5_repeatedIn_L20 (k61 : Int → Int → Int → Int → st_S → Option (Int × st_S)) : Nat → Int → Int → Int → Int → Int → st_S → Option (Int × st_S)
  | 0, _, _, _, _, _, _ => none
  | n + 1, v1, v2, v3, v4, v5, σ =>
    if v3 ≤ v5 then
      k61 v1 v2 v3 v4 σ
    else
    (sa_ld σ 153 72 (ab_w32 ((ab_w32 (v1 * (6 : Int))) + v5))).bind fun t1 =>
    (sa_ld σ 153 72 (ab_w32 ((ab_w32 (v1 * (6 : Int))) + v3))).bind fun t2 =>
    if t1 = t2 then
      g_X5_repeatedIn_J55 (g_X5_repeatedIn_L20 k61 n) k61 v1 v2 v3 (ab_w32 (v4 + (1 : Int))) v5 σ
    else
    g_X5_repeatedIn_J55 (g_X5_repeatedIn_L20 k61 n) k61 v1 v2 v3 v4 v5 σ
set_option maxRecDepth 20000 in
theorem s_X5_repeatedIn_L20 {k61 : Int → Int → Int → Int → st_S → Option (Int × st_S)} {kf61 : Int → Int → Int → Int → Int → ab_H → Option (Int × ab_H)} (hk61 : ∀ (v1 : Int) (v2 : Int) (v3 : Int) (v4 : Int) (σ : st_S) (q : Int × st_S), k61 v1 v2 v3 v4 σ = some q → kf61 ((150 : Nat) : Int) v1 v2 v3 v4 (mk_ σ) = some ((q.1, mk_ q.2))) : ∀ (n : Nat) (v1 : Int) (v2 : Int) (v3 : Int) (v4 : Int) (v5 : Int) (σ : st_S) (q : Int × st_S), g_X5_repeatedIn_L20 k61 n v1 v2 v3 v4 v5 σ = some q → f_X5_repeatedIn_L20 kf61 n ((150 : Nat) : Int) v1 v2 v3 v4 v5 (mk_ σ) = some ((q.1, mk_ q.2)) := by
  intro n
  induction n with
  | zero => intro v1 v2 v3 v4 v5 σ q hk; cases hk
  | succ n ih =>
    intro v1 v2 v3 v4 v5 σ q hk
    unfold g_X5_repeatedIn_L20 at hk
    unfold f_X5_repeatedIn_L20
    by_cases hc : v3 ≤ v5
    · have hk := ab_ifp hk hc
      refine mb_ifp hc ?_
      exact hk61 _ _ _ _  _ _ hk
    · have hk := ab_ifn hk hc
      refine mb_ifn hc ?_
      refine mb_getR 153 rfl rfl (by decide) ?_
      obtain ⟨t1, ht1, hk⟩ := ab_bnd hk
      refine mb_ald ⟨rfl, rfl, fun _ => rfl⟩ ht1 ?_
      refine mb_getR 153 rfl rfl (by decide) ?_
      obtain ⟨t2, ht2, hk⟩ := ab_bnd hk
      refine mb_ald ⟨rfl, rfl, fun _ => rfl⟩ ht2 ?_
      by_cases hc : t1 = t2
      · have hk := ab_ifp hk hc
        refine mb_ifp hc ?_
        exact s_X5_repeatedIn_J55 ih hk61 _ _ _ _ _  _ _ hk
      · have hk := ab_ifn hk hc
        refine mb_ifn hc ?_
        exact s_X5_repeatedIn_J55 ih hk61 _ _ _ _ _  _ _ hk
noncomputable def g_X5_repeatedIn_L4 : Nat → Int → Int → Int → st_S → Option (Int × st_S)
  | 0, _, _, _, _ => none
  | n + 1, v1, v2, v3, σ =>
    (sa_ld σ 151 12 v1).bind fun t1 =>
    if t1 ≤ v3 then
      some (v2, σ)
    else
    g_X5_repeatedIn_L20 (fun w61_1 w61_2 w61_3 w61_4 σx61 =>
      if w61_4 = (1 : Int) then
        g_X5_repeatedIn_J70 (g_X5_repeatedIn_L4 n) w61_1 (ab_w32 (w61_2 + (1 : Int))) w61_3 σx61
      else
      g_X5_repeatedIn_J70 (g_X5_repeatedIn_L4 n) w61_1 w61_2 w61_3 σx61) ab_FU v1 v2 v3 (0 : Int) (0 : Int) σ
set_option maxRecDepth 20000 in
theorem s_X5_repeatedIn_L4 : ∀ (n : Nat) (v1 : Int) (v2 : Int) (v3 : Int) (σ : st_S) (q : Int × st_S), g_X5_repeatedIn_L4 n v1 v2 v3 σ = some q → f_X5_repeatedIn_L4 n ((150 : Nat) : Int) v1 v2 v3 (mk_ σ) = some ((q.1, mk_ q.2)) := by
  intro n
  induction n with
  | zero => intro v1 v2 v3 σ q hk; cases hk
  | succ n ih =>
    intro v1 v2 v3 σ q hk
    unfold g_X5_repeatedIn_L4 at hk
    unfold f_X5_repeatedIn_L4
    refine mb_getR 151 rfl rfl (by decide) ?_
    obtain ⟨t1, ht1, hk⟩ := ab_bnd hk
    refine mb_ald ⟨rfl, rfl, fun _ => rfl⟩ ht1 ?_
    by_cases hc : t1 ≤ v3
    · have hk := ab_ifp hk hc
      refine mb_ifp hc ?_
      obtain rfl := Option.some.inj hk
      rfl
    · have hk := ab_ifn hk hc
      refine mb_ifn hc ?_
      refine s_X5_repeatedIn_L20 (fun w61_1 w61_2 w61_3 w61_4 σx61 q hk => ?_) _ _ _ _ _ _  _ _ hk
      · skip
        by_cases hc : w61_4 = (1 : Int)
        · have hk := ab_ifp hk hc
          refine mb_ifp hc ?_
          exact s_X5_repeatedIn_J70 ih _ _ _  _ _ hk
        · have hk := ab_ifn hk hc
          refine mb_ifn hc ?_
          exact s_X5_repeatedIn_J70 ih _ _ _  _ _ hk
noncomputable def g_X5_repeatedIn (a1 : Int) (σ : st_S) : Option (Int × st_S) :=
  g_X5_repeatedIn_L4 ab_FU a1 (0 : Int) (1 : Int) σ
set_option maxRecDepth 20000 in
theorem s_X5_repeatedIn {a1 : Int} {σ : st_S} {q : Int × st_S} (hk : g_X5_repeatedIn a1 σ = some q) : f_X5_repeatedIn ((150 : Nat) : Int) a1 (mk_ σ) = some ((q.1, mk_ q.2)) := by
  unfold g_X5_repeatedIn at hk
  unfold f_X5_repeatedIn
  refine s_X5_repeatedIn_L4 _ _ _ _  _ _ hk
noncomputable def g_X5_hasTwo_J42 (rec : Int → Int → Int → Int → Int → st_S → Option (Int × st_S)) (v1 : Int) (v2 : Int) (v3 : Int) (v4 : Int) (v5 : Int) (σ : st_S) : Option (Int × st_S) :=
  rec v1 v2 v3 v4 (ab_w32 (v5 + (1 : Int))) σ
set_option maxRecDepth 20000 in
theorem s_X5_hasTwo_J42 {rec : Int → Int → Int → Int → Int → st_S → Option (Int × st_S)} {recf : Int → Int → Int → Int → Int → Int → ab_H → Option (Int × ab_H)} (hrec : ∀ (v1 : Int) (v2 : Int) (v3 : Int) (v4 : Int) (v5 : Int) (σ : st_S) (q : Int × st_S), rec v1 v2 v3 v4 v5 σ = some q → recf ((150 : Nat) : Int) v1 v2 v3 v4 v5 (mk_ σ) = some ((q.1, mk_ q.2))) : ∀ (v1 : Int) (v2 : Int) (v3 : Int) (v4 : Int) (v5 : Int) (σ : st_S) (q : Int × st_S), g_X5_hasTwo_J42 rec v1 v2 v3 v4 v5 σ = some q → f_X5_hasTwo_J42 recf ((150 : Nat) : Int) v1 v2 v3 v4 v5 (mk_ σ) = some ((q.1, mk_ q.2)) := by
  intro v1 v2 v3 v4 v5 σ q hk
  unfold g_X5_hasTwo_J42 at hk
  unfold f_X5_hasTwo_J42
  exact hrec _ _ _ _ _  _ _ hk
noncomputable def g_X5_hasTwo_L6 : Nat → Int → Int → Int → Int → Int → st_S → Option (Int × st_S)
  | 0, _, _, _, _, _, _ => none
  | n + 1, v1, v2, v3, v4, v5, σ =>
    if ab_w32 ((ab_w32 (v1 * (6 : Int))) + v2) ≤ v5 then
      some ((0 : Int), σ)
    else
    (sa_ld σ 152 72 v5).bind fun t1 =>
    if t1 = v3 then
      (sa_ld σ 153 72 v5).bind fun t2 =>
      if t2 = v4 then
        some ((1 : Int), σ)
      else
      g_X5_hasTwo_J42 (g_X5_hasTwo_L6 n) v1 v2 v3 v4 v5 σ
    else
    g_X5_hasTwo_J42 (g_X5_hasTwo_L6 n) v1 v2 v3 v4 v5 σ
set_option maxRecDepth 20000 in
theorem s_X5_hasTwo_L6 : ∀ (n : Nat) (v1 : Int) (v2 : Int) (v3 : Int) (v4 : Int) (v5 : Int) (σ : st_S) (q : Int × st_S), g_X5_hasTwo_L6 n v1 v2 v3 v4 v5 σ = some q → f_X5_hasTwo_L6 n ((150 : Nat) : Int) v1 v2 v3 v4 v5 (mk_ σ) = some ((q.1, mk_ q.2)) := by
  intro n
  induction n with
  | zero => intro v1 v2 v3 v4 v5 σ q hk; cases hk
  | succ n ih =>
    intro v1 v2 v3 v4 v5 σ q hk
    unfold g_X5_hasTwo_L6 at hk
    unfold f_X5_hasTwo_L6
    by_cases hc : ab_w32 ((ab_w32 (v1 * (6 : Int))) + v2) ≤ v5
    · have hk := ab_ifp hk hc
      refine mb_ifp hc ?_
      obtain rfl := Option.some.inj hk
      rfl
    · have hk := ab_ifn hk hc
      refine mb_ifn hc ?_
      refine mb_getR 152 rfl rfl (by decide) ?_
      obtain ⟨t1, ht1, hk⟩ := ab_bnd hk
      refine mb_ald ⟨rfl, rfl, fun _ => rfl⟩ ht1 ?_
      by_cases hc : t1 = v3
      · have hk := ab_ifp hk hc
        refine mb_ifp hc ?_
        refine mb_getR 153 rfl rfl (by decide) ?_
        obtain ⟨t2, ht2, hk⟩ := ab_bnd hk
        refine mb_ald ⟨rfl, rfl, fun _ => rfl⟩ ht2 ?_
        by_cases hc : t2 = v4
        · have hk := ab_ifp hk hc
          refine mb_ifp hc ?_
          obtain rfl := Option.some.inj hk
          rfl
        · have hk := ab_ifn hk hc
          refine mb_ifn hc ?_
          exact s_X5_hasTwo_J42 ih _ _ _ _ _  _ _ hk
      · have hk := ab_ifn hk hc
        refine mb_ifn hc ?_
        exact s_X5_hasTwo_J42 ih _ _ _ _ _  _ _ hk
noncomputable def g_X5_hasTwo (a1 : Int) (a2 : Int) (a3 : Int) (a4 : Int) (σ : st_S) : Option (Int × st_S) :=
  g_X5_hasTwo_L6 ab_FU a1 a2 a3 a4 (ab_w32 (a1 * (6 : Int))) σ
set_option maxRecDepth 20000 in
theorem s_X5_hasTwo {a1 : Int} {a2 : Int} {a3 : Int} {a4 : Int} {σ : st_S} {q : Int × st_S} (hk : g_X5_hasTwo a1 a2 a3 a4 σ = some q) : f_X5_hasTwo ((150 : Nat) : Int) a1 a2 a3 a4 (mk_ σ) = some ((q.1, mk_ q.2)) := by
  unfold g_X5_hasTwo at hk
  unfold f_X5_hasTwo
  refine s_X5_hasTwo_L6 _ _ _ _ _ _  _ _ hk
noncomputable def g_X5_stringsWith_J39 (rec : Int → Int → Int → Int → st_S → Option (Int × st_S)) (v1 : Int) (v2 : Int) (v3 : Int) (v4 : Int) (σ : st_S) : Option (Int × st_S) :=
  rec v1 v2 v3 (ab_w32 (v4 + (1 : Int))) σ
set_option maxRecDepth 20000 in
theorem s_X5_stringsWith_J39 {rec : Int → Int → Int → Int → st_S → Option (Int × st_S)} {recf : Int → Int → Int → Int → Int → ab_H → Option (Int × ab_H)} (hrec : ∀ (v1 : Int) (v2 : Int) (v3 : Int) (v4 : Int) (σ : st_S) (q : Int × st_S), rec v1 v2 v3 v4 σ = some q → recf ((150 : Nat) : Int) v1 v2 v3 v4 (mk_ σ) = some ((q.1, mk_ q.2))) : ∀ (v1 : Int) (v2 : Int) (v3 : Int) (v4 : Int) (σ : st_S) (q : Int × st_S), g_X5_stringsWith_J39 rec v1 v2 v3 v4 σ = some q → f_X5_stringsWith_J39 recf ((150 : Nat) : Int) v1 v2 v3 v4 (mk_ σ) = some ((q.1, mk_ q.2)) := by
  intro v1 v2 v3 v4 σ q hk
  unfold g_X5_stringsWith_J39 at hk
  unfold f_X5_stringsWith_J39
  exact hrec _ _ _ _  _ _ hk
noncomputable def g_X5_stringsWith_L5 : Nat → Int → Int → Int → Int → st_S → Option (Int × st_S)
  | 0, _, _, _, _, _ => none
  | n + 1, v1, v2, v3, v4, σ =>
    if σ 150 0 ≤ v4 then
      some (v3, σ)
    else
    (sa_ld σ 151 12 v4).bind fun t1 =>
    (g_X5_hasTwo v4 t1 v1 v2 σ).bind fun q2 =>
    if q2.1 = (0 : Int) then
      g_X5_stringsWith_J39 (g_X5_stringsWith_L5 n) v1 v2 v3 v4 q2.2
    else
    g_X5_stringsWith_J39 (g_X5_stringsWith_L5 n) v1 v2 (ab_or v3 (ab_shl (1 : Int) v4)) v4 q2.2
set_option maxRecDepth 20000 in
theorem s_X5_stringsWith_L5 : ∀ (n : Nat) (v1 : Int) (v2 : Int) (v3 : Int) (v4 : Int) (σ : st_S) (q : Int × st_S), g_X5_stringsWith_L5 n v1 v2 v3 v4 σ = some q → f_X5_stringsWith_L5 n ((150 : Nat) : Int) v1 v2 v3 v4 (mk_ σ) = some ((q.1, mk_ q.2)) := by
  intro n
  induction n with
  | zero => intro v1 v2 v3 v4 σ q hk; cases hk
  | succ n ih =>
    intro v1 v2 v3 v4 σ q hk
    unfold g_X5_stringsWith_L5 at hk
    unfold f_X5_stringsWith_L5
    refine mb_get rfl rfl ?_
    by_cases hc : σ 150 0 ≤ v4
    · have hk := ab_ifp hk hc
      refine mb_ifp hc ?_
      obtain rfl := Option.some.inj hk
      rfl
    · have hk := ab_ifn hk hc
      refine mb_ifn hc ?_
      refine mb_getR 151 rfl rfl (by decide) ?_
      obtain ⟨t1, ht1, hk⟩ := ab_bnd hk
      refine mb_ald ⟨rfl, rfl, fun _ => rfl⟩ ht1 ?_
      obtain ⟨q2, hq2, hk⟩ := ab_bnd hk
      refine mb_on rfl (s_X5_hasTwo hq2) ?_
      by_cases hc : q2.1 = (0 : Int)
      · have hk := ab_ifp hk hc
        refine mb_ifp hc ?_
        exact s_X5_stringsWith_J39 ih _ _ _ _  _ _ hk
      · have hk := ab_ifn hk hc
        refine mb_ifn hc ?_
        exact s_X5_stringsWith_J39 ih _ _ _ _  _ _ hk
noncomputable def g_X5_stringsWith (a1 : Int) (a2 : Int) (σ : st_S) : Option (Int × st_S) :=
  g_X5_stringsWith_L5 ab_FU a1 a2 (0 : Int) (0 : Int) σ
set_option maxRecDepth 20000 in
theorem s_X5_stringsWith {a1 : Int} {a2 : Int} {σ : st_S} {q : Int × st_S} (hk : g_X5_stringsWith a1 a2 σ = some q) : f_X5_stringsWith ((150 : Nat) : Int) a1 a2 (mk_ σ) = some ((q.1, mk_ q.2)) := by
  unfold g_X5_stringsWith at hk
  unfold f_X5_stringsWith
  refine s_X5_stringsWith_L5 _ _ _ _ _  _ _ hk
noncomputable def g_X5_isAgain (a1 : Int) (a2 : Int) (σ : st_S) : Option (Int × st_S) :=
  (sa_ld σ 152 72 (ab_w32 ((ab_w32 (a1 * (6 : Int))) + a2))).bind fun t1 =>
  (sa_ld σ 153 72 (ab_w32 ((ab_w32 (a1 * (6 : Int))) + a2))).bind fun t2 =>
  (g_X5_hasTwo a1 a2 t1 t2 σ).bind fun q3 =>
  ab_if (decide (q3.1 = 0 ∨ q3.1 = 1)) <|
  some (q3.1, q3.2)
set_option maxRecDepth 20000 in
theorem s_X5_isAgain {a1 : Int} {a2 : Int} {σ : st_S} {q : Int × st_S} (hk : g_X5_isAgain a1 a2 σ = some q) : f_X5_isAgain ((150 : Nat) : Int) a1 a2 (mk_ σ) = some ((q.1, mk_ q.2)) := by
  unfold g_X5_isAgain at hk
  unfold f_X5_isAgain
  refine mb_getR 152 rfl rfl (by decide) ?_
  obtain ⟨t1, ht1, hk⟩ := ab_bnd hk
  refine mb_ald ⟨rfl, rfl, fun _ => rfl⟩ ht1 ?_
  refine mb_getR 153 rfl rfl (by decide) ?_
  obtain ⟨t2, ht2, hk⟩ := ab_bnd hk
  refine mb_ald ⟨rfl, rfl, fun _ => rfl⟩ ht2 ?_
  obtain ⟨q3, hq3, hk⟩ := ab_bnd hk
  refine mb_on rfl (s_X5_hasTwo hq3) ?_
  obtain ⟨hg, hk⟩ := ab_if_some hk
  refine mb_if hg ?_
  obtain rfl := Option.some.inj hk
  rfl
noncomputable def g_X5_senseSize_J26 (rec : Int → Int → Int → st_S → Option (Int × st_S)) (v1 : Int) (v2 : Int) (v3 : Int) (σ : st_S) : Option (Int × st_S) :=
  rec v1 v2 (ab_w32 (v3 + (1 : Int))) σ
set_option maxRecDepth 20000 in
theorem s_X5_senseSize_J26 {rec : Int → Int → Int → st_S → Option (Int × st_S)} {recf : Int → Int → Int → Int → ab_H → Option (Int × ab_H)} (hrec : ∀ (v1 : Int) (v2 : Int) (v3 : Int) (σ : st_S) (q : Int × st_S), rec v1 v2 v3 σ = some q → recf ((150 : Nat) : Int) v1 v2 v3 (mk_ σ) = some ((q.1, mk_ q.2))) : ∀ (v1 : Int) (v2 : Int) (v3 : Int) (σ : st_S) (q : Int × st_S), g_X5_senseSize_J26 rec v1 v2 v3 σ = some q → f_X5_senseSize_J26 recf ((150 : Nat) : Int) v1 v2 v3 (mk_ σ) = some ((q.1, mk_ q.2)) := by
  intro v1 v2 v3 σ q hk
  unfold g_X5_senseSize_J26 at hk
  unfold f_X5_senseSize_J26
  exact hrec _ _ _  _ _ hk
noncomputable def g_X5_senseSize_L4 : Nat → Int → Int → Int → st_S → Option (Int × st_S)
  | 0, _, _, _, _ => none
  | n + 1, v1, v2, v3, σ =>
    (sa_ld σ 151 12 v1).bind fun t1 =>
    if t1 ≤ v3 then
      some (v2, σ)
    else
    (g_X5_isAgain v1 v3 σ).bind fun q2 =>
    if q2.1 = (0 : Int) then
      g_X5_senseSize_J26 (g_X5_senseSize_L4 n) v1 (ab_w32 (v2 + (1 : Int))) v3 q2.2
    else
    g_X5_senseSize_J26 (g_X5_senseSize_L4 n) v1 v2 v3 q2.2
set_option maxRecDepth 20000 in
theorem s_X5_senseSize_L4 : ∀ (n : Nat) (v1 : Int) (v2 : Int) (v3 : Int) (σ : st_S) (q : Int × st_S), g_X5_senseSize_L4 n v1 v2 v3 σ = some q → f_X5_senseSize_L4 n ((150 : Nat) : Int) v1 v2 v3 (mk_ σ) = some ((q.1, mk_ q.2)) := by
  intro n
  induction n with
  | zero => intro v1 v2 v3 σ q hk; cases hk
  | succ n ih =>
    intro v1 v2 v3 σ q hk
    unfold g_X5_senseSize_L4 at hk
    unfold f_X5_senseSize_L4
    refine mb_getR 151 rfl rfl (by decide) ?_
    obtain ⟨t1, ht1, hk⟩ := ab_bnd hk
    refine mb_ald ⟨rfl, rfl, fun _ => rfl⟩ ht1 ?_
    by_cases hc : t1 ≤ v3
    · have hk := ab_ifp hk hc
      refine mb_ifp hc ?_
      obtain rfl := Option.some.inj hk
      rfl
    · have hk := ab_ifn hk hc
      refine mb_ifn hc ?_
      obtain ⟨q2, hq2, hk⟩ := ab_bnd hk
      refine mb_on rfl (s_X5_isAgain hq2) ?_
      by_cases hc : q2.1 = (0 : Int)
      · have hk := ab_ifp hk hc
        refine mb_ifp hc ?_
        exact s_X5_senseSize_J26 ih _ _ _  _ _ hk
      · have hk := ab_ifn hk hc
        refine mb_ifn hc ?_
        exact s_X5_senseSize_J26 ih _ _ _  _ _ hk
noncomputable def g_X5_senseSize (a1 : Int) (σ : st_S) : Option (Int × st_S) :=
  g_X5_senseSize_L4 ab_FU a1 (0 : Int) (0 : Int) σ
set_option maxRecDepth 20000 in
theorem s_X5_senseSize {a1 : Int} {σ : st_S} {q : Int × st_S} (hk : g_X5_senseSize a1 σ = some q) : f_X5_senseSize ((150 : Nat) : Int) a1 (mk_ σ) = some ((q.1, mk_ q.2)) := by
  unfold g_X5_senseSize at hk
  unfold f_X5_senseSize
  refine s_X5_senseSize_L4 _ _ _ _  _ _ hk
noncomputable def g_X5_inBoth_J71 (rec : Int → Int → Int → Int → st_S → Option (Int × st_S)) (v1 : Int) (v2 : Int) (v3 : Int) (v4 : Int) (σ : st_S) : Option (Int × st_S) :=
  rec v1 v2 v3 (ab_w32 (v4 + (1 : Int))) σ
set_option maxRecDepth 20000 in
theorem s_X5_inBoth_J71 {rec : Int → Int → Int → Int → st_S → Option (Int × st_S)} {recf : Int → Int → Int → Int → Int → ab_H → Option (Int × ab_H)} (hrec : ∀ (v1 : Int) (v2 : Int) (v3 : Int) (v4 : Int) (σ : st_S) (q : Int × st_S), rec v1 v2 v3 v4 σ = some q → recf ((150 : Nat) : Int) v1 v2 v3 v4 (mk_ σ) = some ((q.1, mk_ q.2))) : ∀ (v1 : Int) (v2 : Int) (v3 : Int) (v4 : Int) (σ : st_S) (q : Int × st_S), g_X5_inBoth_J71 rec v1 v2 v3 v4 σ = some q → f_X5_inBoth_J71 recf ((150 : Nat) : Int) v1 v2 v3 v4 (mk_ σ) = some ((q.1, mk_ q.2)) := by
  intro v1 v2 v3 v4 σ q hk
  unfold g_X5_inBoth_J71 at hk
  unfold f_X5_inBoth_J71
  exact hrec _ _ _ _  _ _ hk
noncomputable def g_X5_inBoth_L5 : Nat → Int → Int → Int → Int → st_S → Option (Int × st_S)
  | 0, _, _, _, _, _ => none
  | n + 1, v1, v2, v3, v4, σ =>
    (sa_ld σ 151 12 v1).bind fun t1 =>
    if t1 ≤ v4 then
      some (v3, σ)
    else
    (sa_ld σ 151 12 v2).bind fun t2 =>
    (sa_ld σ 152 72 (ab_w32 ((ab_w32 (v1 * (6 : Int))) + v4))).bind fun t3 =>
    (sa_ld σ 153 72 (ab_w32 ((ab_w32 (v1 * (6 : Int))) + v4))).bind fun t4 =>
    (g_X5_hasTwo v2 t2 t3 t4 σ).bind fun q5 =>
    if q5.1 = (0 : Int) then
      g_X5_inBoth_J71 (g_X5_inBoth_L5 n) v1 v2 v3 v4 q5.2
    else
    (g_X5_isAgain v1 v4 q5.2).bind fun q6 =>
    if q6.1 = (0 : Int) then
      g_X5_inBoth_J71 (g_X5_inBoth_L5 n) v1 v2 (ab_w32 (v3 + (1 : Int))) v4 q6.2
    else
    g_X5_inBoth_J71 (g_X5_inBoth_L5 n) v1 v2 v3 v4 q6.2
set_option maxRecDepth 20000 in
theorem s_X5_inBoth_L5 : ∀ (n : Nat) (v1 : Int) (v2 : Int) (v3 : Int) (v4 : Int) (σ : st_S) (q : Int × st_S), g_X5_inBoth_L5 n v1 v2 v3 v4 σ = some q → f_X5_inBoth_L5 n ((150 : Nat) : Int) v1 v2 v3 v4 (mk_ σ) = some ((q.1, mk_ q.2)) := by
  intro n
  induction n with
  | zero => intro v1 v2 v3 v4 σ q hk; cases hk
  | succ n ih =>
    intro v1 v2 v3 v4 σ q hk
    unfold g_X5_inBoth_L5 at hk
    unfold f_X5_inBoth_L5
    refine mb_getR 151 rfl rfl (by decide) ?_
    obtain ⟨t1, ht1, hk⟩ := ab_bnd hk
    refine mb_ald ⟨rfl, rfl, fun _ => rfl⟩ ht1 ?_
    by_cases hc : t1 ≤ v4
    · have hk := ab_ifp hk hc
      refine mb_ifp hc ?_
      obtain rfl := Option.some.inj hk
      rfl
    · have hk := ab_ifn hk hc
      refine mb_ifn hc ?_
      refine mb_getR 151 rfl rfl (by decide) ?_
      obtain ⟨t2, ht2, hk⟩ := ab_bnd hk
      refine mb_ald ⟨rfl, rfl, fun _ => rfl⟩ ht2 ?_
      refine mb_getR 152 rfl rfl (by decide) ?_
      obtain ⟨t3, ht3, hk⟩ := ab_bnd hk
      refine mb_ald ⟨rfl, rfl, fun _ => rfl⟩ ht3 ?_
      refine mb_getR 153 rfl rfl (by decide) ?_
      obtain ⟨t4, ht4, hk⟩ := ab_bnd hk
      refine mb_ald ⟨rfl, rfl, fun _ => rfl⟩ ht4 ?_
      obtain ⟨q5, hq5, hk⟩ := ab_bnd hk
      refine mb_on rfl (s_X5_hasTwo hq5) ?_
      by_cases hc : q5.1 = (0 : Int)
      · have hk := ab_ifp hk hc
        refine mb_ifp hc ?_
        exact s_X5_inBoth_J71 ih _ _ _ _  _ _ hk
      · have hk := ab_ifn hk hc
        refine mb_ifn hc ?_
        obtain ⟨q6, hq6, hk⟩ := ab_bnd hk
        refine mb_on rfl (s_X5_isAgain hq6) ?_
        by_cases hc : q6.1 = (0 : Int)
        · have hk := ab_ifp hk hc
          refine mb_ifp hc ?_
          exact s_X5_inBoth_J71 ih _ _ _ _  _ _ hk
        · have hk := ab_ifn hk hc
          refine mb_ifn hc ?_
          exact s_X5_inBoth_J71 ih _ _ _ _  _ _ hk
noncomputable def g_X5_inBoth (a1 : Int) (a2 : Int) (σ : st_S) : Option (Int × st_S) :=
  g_X5_inBoth_L5 ab_FU a1 a2 (0 : Int) (0 : Int) σ
set_option maxRecDepth 20000 in
theorem s_X5_inBoth {a1 : Int} {a2 : Int} {σ : st_S} {q : Int × st_S} (hk : g_X5_inBoth a1 a2 σ = some q) : f_X5_inBoth ((150 : Nat) : Int) a1 a2 (mk_ σ) = some ((q.1, mk_ q.2)) := by
  unfold g_X5_inBoth at hk
  unfold f_X5_inBoth
  refine s_X5_inBoth_L5 _ _ _ _ _  _ _ hk
noncomputable def g_X5_areOfOneSense_J29 (σ : st_S) : Option (Int × st_S) :=
  some ((0 : Int), σ)
set_option maxRecDepth 20000 in
theorem s_X5_areOfOneSense_J29 : ∀ (σ : st_S) (q : Int × st_S), g_X5_areOfOneSense_J29 σ = some q → f_X5_areOfOneSense_J29 (mk_ σ) = some ((q.1, mk_ q.2)) := by
  intro σ q hk
  unfold g_X5_areOfOneSense_J29 at hk
  unfold f_X5_areOfOneSense_J29
  obtain rfl := Option.some.inj hk
  rfl
noncomputable def g_X5_areOfOneSense (a1 : Int) (a2 : Int) (σ : st_S) : Option (Int × st_S) :=
  (g_X5_inBoth a1 a2 σ).bind fun q1 =>
  (g_X5_senseSize a1 q1.2).bind fun q2 =>
  if q1.1 = q2.1 then
    (g_X5_senseSize a2 q2.2).bind fun q3 =>
    if q1.1 = q3.1 then
      some ((1 : Int), q3.2)
    else
    g_X5_areOfOneSense_J29 q3.2
  else
  g_X5_areOfOneSense_J29 q2.2
set_option maxRecDepth 20000 in
theorem s_X5_areOfOneSense {a1 : Int} {a2 : Int} {σ : st_S} {q : Int × st_S} (hk : g_X5_areOfOneSense a1 a2 σ = some q) : f_X5_areOfOneSense ((150 : Nat) : Int) a1 a2 (mk_ σ) = some ((q.1, mk_ q.2)) := by
  unfold g_X5_areOfOneSense at hk
  unfold f_X5_areOfOneSense
  obtain ⟨q1, hq1, hk⟩ := ab_bnd hk
  refine mb_on rfl (s_X5_inBoth hq1) ?_
  obtain ⟨q2, hq2, hk⟩ := ab_bnd hk
  refine mb_on rfl (s_X5_senseSize hq2) ?_
  by_cases hc : q1.1 = q2.1
  · have hk := ab_ifp hk hc
    refine mb_ifp hc ?_
    obtain ⟨q3, hq3, hk⟩ := ab_bnd hk
    refine mb_on rfl (s_X5_senseSize hq3) ?_
    by_cases hc : q1.1 = q3.1
    · have hk := ab_ifp hk hc
      refine mb_ifp hc ?_
      obtain rfl := Option.some.inj hk
      rfl
    · have hk := ab_ifn hk hc
      refine mb_ifn hc ?_
      exact s_X5_areOfOneSense_J29  _ _ hk
  · have hk := ab_ifn hk hc
    refine mb_ifn hc ?_
    exact s_X5_areOfOneSense_J29  _ _ hk
noncomputable def g_X5_isFirstOfSense_L2 : Nat → Int → Int → st_S → Option (Int × st_S)
  | 0, _, _, _ => none
  | n + 1, v1, v2, σ =>
    if v1 ≤ v2 then
      some ((1 : Int), σ)
    else
    (g_X5_areOfOneSense v1 v2 σ).bind fun q1 =>
    if q1.1 = (0 : Int) then
      g_X5_isFirstOfSense_L2 n v1 (ab_w32 (v2 + (1 : Int))) q1.2
    else
    some ((0 : Int), q1.2)
set_option maxRecDepth 20000 in
theorem s_X5_isFirstOfSense_L2 : ∀ (n : Nat) (v1 : Int) (v2 : Int) (σ : st_S) (q : Int × st_S), g_X5_isFirstOfSense_L2 n v1 v2 σ = some q → f_X5_isFirstOfSense_L2 n ((150 : Nat) : Int) v1 v2 (mk_ σ) = some ((q.1, mk_ q.2)) := by
  intro n
  induction n with
  | zero => intro v1 v2 σ q hk; cases hk
  | succ n ih =>
    intro v1 v2 σ q hk
    unfold g_X5_isFirstOfSense_L2 at hk
    unfold f_X5_isFirstOfSense_L2
    by_cases hc : v1 ≤ v2
    · have hk := ab_ifp hk hc
      refine mb_ifp hc ?_
      obtain rfl := Option.some.inj hk
      rfl
    · have hk := ab_ifn hk hc
      refine mb_ifn hc ?_
      obtain ⟨q1, hq1, hk⟩ := ab_bnd hk
      refine mb_on rfl (s_X5_areOfOneSense hq1) ?_
      by_cases hc : q1.1 = (0 : Int)
      · have hk := ab_ifp hk hc
        refine mb_ifp hc ?_
        exact ih _ _  _ _ hk
      · have hk := ab_ifn hk hc
        refine mb_ifn hc ?_
        obtain rfl := Option.some.inj hk
        rfl
noncomputable def g_X5_isFirstOfSense (a1 : Int) (σ : st_S) : Option (Int × st_S) :=
  g_X5_isFirstOfSense_L2 ab_FU a1 (0 : Int) σ
set_option maxRecDepth 20000 in
theorem s_X5_isFirstOfSense {a1 : Int} {σ : st_S} {q : Int × st_S} (hk : g_X5_isFirstOfSense a1 σ = some q) : f_X5_isFirstOfSense ((150 : Nat) : Int) a1 (mk_ σ) = some ((q.1, mk_ q.2)) := by
  unfold g_X5_isFirstOfSense at hk
  unfold f_X5_isFirstOfSense
  refine s_X5_isFirstOfSense_L2 _ _ _  _ _ hk
noncomputable def g_X5_areSame_L19 : Nat → Int → Int → Int → st_S → Option (Int × st_S)
  | 0, _, _, _, _ => none
  | n + 1, v1, v2, v3, σ =>
    (sa_ld σ 151 12 v1).bind fun t1 =>
    if t1 ≤ v3 then
      some ((1 : Int), σ)
    else
    (sa_ld σ 152 72 (ab_w32 ((ab_w32 (v1 * (6 : Int))) + v3))).bind fun t2 =>
    (sa_ld σ 152 72 (ab_w32 ((ab_w32 (v2 * (6 : Int))) + v3))).bind fun t3 =>
    if t2 = t3 then
      (sa_ld σ 153 72 (ab_w32 ((ab_w32 (v1 * (6 : Int))) + v3))).bind fun t4 =>
      (sa_ld σ 153 72 (ab_w32 ((ab_w32 (v2 * (6 : Int))) + v3))).bind fun t5 =>
      if t4 = t5 then
        g_X5_areSame_L19 n v1 v2 (ab_w32 (v3 + (1 : Int))) σ
      else
      some ((0 : Int), σ)
    else
    some ((0 : Int), σ)
set_option maxRecDepth 20000 in
theorem s_X5_areSame_L19 : ∀ (n : Nat) (v1 : Int) (v2 : Int) (v3 : Int) (σ : st_S) (q : Int × st_S), g_X5_areSame_L19 n v1 v2 v3 σ = some q → f_X5_areSame_L19 n ((150 : Nat) : Int) v1 v2 v3 (mk_ σ) = some ((q.1, mk_ q.2)) := by
  intro n
  induction n with
  | zero => intro v1 v2 v3 σ q hk; cases hk
  | succ n ih =>
    intro v1 v2 v3 σ q hk
    unfold g_X5_areSame_L19 at hk
    unfold f_X5_areSame_L19
    refine mb_getR 151 rfl rfl (by decide) ?_
    obtain ⟨t1, ht1, hk⟩ := ab_bnd hk
    refine mb_ald ⟨rfl, rfl, fun _ => rfl⟩ ht1 ?_
    by_cases hc : t1 ≤ v3
    · have hk := ab_ifp hk hc
      refine mb_ifp hc ?_
      obtain rfl := Option.some.inj hk
      rfl
    · have hk := ab_ifn hk hc
      refine mb_ifn hc ?_
      refine mb_getR 152 rfl rfl (by decide) ?_
      obtain ⟨t2, ht2, hk⟩ := ab_bnd hk
      refine mb_ald ⟨rfl, rfl, fun _ => rfl⟩ ht2 ?_
      refine mb_getR 152 rfl rfl (by decide) ?_
      obtain ⟨t3, ht3, hk⟩ := ab_bnd hk
      refine mb_ald ⟨rfl, rfl, fun _ => rfl⟩ ht3 ?_
      by_cases hc : t2 = t3
      · have hk := ab_ifp hk hc
        refine mb_ifp hc ?_
        refine mb_getR 153 rfl rfl (by decide) ?_
        obtain ⟨t4, ht4, hk⟩ := ab_bnd hk
        refine mb_ald ⟨rfl, rfl, fun _ => rfl⟩ ht4 ?_
        refine mb_getR 153 rfl rfl (by decide) ?_
        obtain ⟨t5, ht5, hk⟩ := ab_bnd hk
        refine mb_ald ⟨rfl, rfl, fun _ => rfl⟩ ht5 ?_
        by_cases hc : t4 = t5
        · have hk := ab_ifp hk hc
          refine mb_ifp hc ?_
          exact ih _ _ _  _ _ hk
        · have hk := ab_ifn hk hc
          refine mb_ifn hc ?_
          obtain rfl := Option.some.inj hk
          rfl
      · have hk := ab_ifn hk hc
        refine mb_ifn hc ?_
        obtain rfl := Option.some.inj hk
        rfl
noncomputable def g_X5_areSame (a1 : Int) (a2 : Int) (σ : st_S) : Option (Int × st_S) :=
  (sa_ld σ 151 12 a1).bind fun t1 =>
  (sa_ld σ 151 12 a2).bind fun t2 =>
  if t1 = t2 then
    g_X5_areSame_L19 ab_FU a1 a2 (0 : Int) σ
  else
  some ((0 : Int), σ)
set_option maxRecDepth 20000 in
theorem s_X5_areSame {a1 : Int} {a2 : Int} {σ : st_S} {q : Int × st_S} (hk : g_X5_areSame a1 a2 σ = some q) : f_X5_areSame ((150 : Nat) : Int) a1 a2 (mk_ σ) = some ((q.1, mk_ q.2)) := by
  unfold g_X5_areSame at hk
  unfold f_X5_areSame
  refine mb_getR 151 rfl rfl (by decide) ?_
  obtain ⟨t1, ht1, hk⟩ := ab_bnd hk
  refine mb_ald ⟨rfl, rfl, fun _ => rfl⟩ ht1 ?_
  refine mb_getR 151 rfl rfl (by decide) ?_
  obtain ⟨t2, ht2, hk⟩ := ab_bnd hk
  refine mb_ald ⟨rfl, rfl, fun _ => rfl⟩ ht2 ?_
  by_cases hc : t1 = t2
  · have hk := ab_ifp hk hc
    refine mb_ifp hc ?_
    refine s_X5_areSame_L19 _ _ _ _  _ _ hk
  · have hk := ab_ifn hk hc
    refine mb_ifn hc ?_
    obtain rfl := Option.some.inj hk
    rfl
noncomputable def g_X5_follow_J60 (rec : Int → Int → Int → Int → st_S → Option (Int × st_S)) (k66 : Int → Int → Int → st_S → Option (Int × st_S)) (v1 : Int) (v2 : Int) (v3 : Int) (v4 : Int) (σ : st_S) : Option (Int × st_S) :=
  rec v1 v2 v3 (ab_w32 (v4 + (1 : Int))) σ
set_option maxRecDepth 20000 in
theorem s_X5_follow_J60 {rec : Int → Int → Int → Int → st_S → Option (Int × st_S)} {recf : Int → Int → Int → Int → Int → ab_H → Option (Int × ab_H)} {k66 : Int → Int → Int → st_S → Option (Int × st_S)} {kf66 : Int → Int → Int → Int → ab_H → Option (Int × ab_H)} (hrec : ∀ (v1 : Int) (v2 : Int) (v3 : Int) (v4 : Int) (σ : st_S) (q : Int × st_S), rec v1 v2 v3 v4 σ = some q → recf ((150 : Nat) : Int) v1 v2 v3 v4 (mk_ σ) = some ((q.1, mk_ q.2))) (hk66 : ∀ (v1 : Int) (v2 : Int) (v3 : Int) (σ : st_S) (q : Int × st_S), k66 v1 v2 v3 σ = some q → kf66 ((150 : Nat) : Int) v1 v2 v3 (mk_ σ) = some ((q.1, mk_ q.2))) : ∀ (v1 : Int) (v2 : Int) (v3 : Int) (v4 : Int) (σ : st_S) (q : Int × st_S), g_X5_follow_J60 rec k66 v1 v2 v3 v4 σ = some q → f_X5_follow_J60 recf kf66 ((150 : Nat) : Int) v1 v2 v3 v4 (mk_ σ) = some ((q.1, mk_ q.2)) := by
  intro v1 v2 v3 v4 σ q hk
  unfold g_X5_follow_J60 at hk
  unfold f_X5_follow_J60
  exact hrec _ _ _ _  _ _ hk
noncomputable def g_X5_follow_L18 (k66 : Int → Int → Int → st_S → Option (Int × st_S)) : Nat → Int → Int → Int → Int → st_S → Option (Int × st_S)
  | 0, _, _, _, _, _ => none
  | n + 1, v1, v2, v3, v4, σ =>
    (sa_ld σ 151 12 v3).bind fun t1 =>
    if ab_w32 ((ab_w32 (v3 * (6 : Int))) + t1) ≤ v4 then
      k66 v1 v2 v3 σ
    else
    (sa_ld σ 153 72 (ab_w32 (v4 - (1 : Int)))).bind fun t2 =>
    if t2 = v1 then
      (sa_ld σ 153 72 v4).bind fun t3 =>
      if t3 = v2 then
        some ((1 : Int), σ)
      else
      g_X5_follow_J60 (g_X5_follow_L18 k66 n) k66 v1 v2 v3 v4 σ
    else
    g_X5_follow_J60 (g_X5_follow_L18 k66 n) k66 v1 v2 v3 v4 σ
set_option maxRecDepth 20000 in
theorem s_X5_follow_L18 {k66 : Int → Int → Int → st_S → Option (Int × st_S)} {kf66 : Int → Int → Int → Int → ab_H → Option (Int × ab_H)} (hk66 : ∀ (v1 : Int) (v2 : Int) (v3 : Int) (σ : st_S) (q : Int × st_S), k66 v1 v2 v3 σ = some q → kf66 ((150 : Nat) : Int) v1 v2 v3 (mk_ σ) = some ((q.1, mk_ q.2))) : ∀ (n : Nat) (v1 : Int) (v2 : Int) (v3 : Int) (v4 : Int) (σ : st_S) (q : Int × st_S), g_X5_follow_L18 k66 n v1 v2 v3 v4 σ = some q → f_X5_follow_L18 kf66 n ((150 : Nat) : Int) v1 v2 v3 v4 (mk_ σ) = some ((q.1, mk_ q.2)) := by
  intro n
  induction n with
  | zero => intro v1 v2 v3 v4 σ q hk; cases hk
  | succ n ih =>
    intro v1 v2 v3 v4 σ q hk
    unfold g_X5_follow_L18 at hk
    unfold f_X5_follow_L18
    refine mb_getR 151 rfl rfl (by decide) ?_
    obtain ⟨t1, ht1, hk⟩ := ab_bnd hk
    refine mb_ald ⟨rfl, rfl, fun _ => rfl⟩ ht1 ?_
    by_cases hc : ab_w32 ((ab_w32 (v3 * (6 : Int))) + t1) ≤ v4
    · have hk := ab_ifp hk hc
      refine mb_ifp hc ?_
      exact hk66 _ _ _  _ _ hk
    · have hk := ab_ifn hk hc
      refine mb_ifn hc ?_
      refine mb_getR 153 rfl rfl (by decide) ?_
      obtain ⟨t2, ht2, hk⟩ := ab_bnd hk
      refine mb_ald ⟨rfl, rfl, fun _ => rfl⟩ ht2 ?_
      by_cases hc : t2 = v1
      · have hk := ab_ifp hk hc
        refine mb_ifp hc ?_
        refine mb_getR 153 rfl rfl (by decide) ?_
        obtain ⟨t3, ht3, hk⟩ := ab_bnd hk
        refine mb_ald ⟨rfl, rfl, fun _ => rfl⟩ ht3 ?_
        by_cases hc : t3 = v2
        · have hk := ab_ifp hk hc
          refine mb_ifp hc ?_
          obtain rfl := Option.some.inj hk
          rfl
        · have hk := ab_ifn hk hc
          refine mb_ifn hc ?_
          exact s_X5_follow_J60 ih hk66 _ _ _ _  _ _ hk
      · have hk := ab_ifn hk hc
        refine mb_ifn hc ?_
        exact s_X5_follow_J60 ih hk66 _ _ _ _  _ _ hk
noncomputable def g_X5_follow_L2 : Nat → Int → Int → Int → st_S → Option (Int × st_S)
  | 0, _, _, _, _ => none
  | n + 1, v1, v2, v3, σ =>
    if σ 150 0 ≤ v3 then
      some ((0 : Int), σ)
    else
    g_X5_follow_L18 (fun w66_1 w66_2 w66_3 σx66 =>
      g_X5_follow_L2 n w66_1 w66_2 (ab_w32 (w66_3 + (1 : Int))) σx66) ab_FU v1 v2 v3 (ab_w32 ((ab_w32 (v3 * (6 : Int))) + (1 : Int))) σ
set_option maxRecDepth 20000 in
theorem s_X5_follow_L2 : ∀ (n : Nat) (v1 : Int) (v2 : Int) (v3 : Int) (σ : st_S) (q : Int × st_S), g_X5_follow_L2 n v1 v2 v3 σ = some q → f_X5_follow_L2 n ((150 : Nat) : Int) v1 v2 v3 (mk_ σ) = some ((q.1, mk_ q.2)) := by
  intro n
  induction n with
  | zero => intro v1 v2 v3 σ q hk; cases hk
  | succ n ih =>
    intro v1 v2 v3 σ q hk
    unfold g_X5_follow_L2 at hk
    unfold f_X5_follow_L2
    refine mb_get rfl rfl ?_
    by_cases hc : σ 150 0 ≤ v3
    · have hk := ab_ifp hk hc
      refine mb_ifp hc ?_
      obtain rfl := Option.some.inj hk
      rfl
    · have hk := ab_ifn hk hc
      refine mb_ifn hc ?_
      refine s_X5_follow_L18 (fun w66_1 w66_2 w66_3 σx66 q hk => ?_) _ _ _ _ _  _ _ hk
      · skip
        exact ih _ _ _  _ _ hk
noncomputable def g_X5_follow (a1 : Int) (a2 : Int) (σ : st_S) : Option (Int × st_S) :=
  g_X5_follow_L2 ab_FU a1 a2 (0 : Int) σ
set_option maxRecDepth 20000 in
theorem s_X5_follow {a1 : Int} {a2 : Int} {σ : st_S} {q : Int × st_S} (hk : g_X5_follow a1 a2 σ = some q) : f_X5_follow ((150 : Nat) : Int) a1 a2 (mk_ σ) = some ((q.1, mk_ q.2)) := by
  unfold g_X5_follow at hk
  unfold f_X5_follow
  refine s_X5_follow_L2 _ _ _ _  _ _ hk
