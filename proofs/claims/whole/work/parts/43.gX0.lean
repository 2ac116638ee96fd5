noncomputable def g_X0_clear_L12 : Nat → Nat → Int → st_S → Option st_S
  | 0, _, _, _ => none
  | n + 1, v0, v1, σ =>
    if (6 : Int) ≤ v1 then
      some σ
    else
    (sa_st σ (v0 + 8) 6 v1 (0 : Int)).bind fun σ1 =>
    g_X0_clear_L12 n v0 (ab_w32 (v1 + (1 : Int))) σ1
set_option maxRecDepth 20000 in
theorem s_X0_clear_L12 : ∀ (n : Nat) (v0 : Nat) (v1 : Int) (pv0 : isBk v0 = true) (σ : st_S) (q : st_S), g_X0_clear_L12 n v0 v1 σ = some q → f_X0_clear_L12 n ((v0 : Nat) : Int) v1 (mk_ σ) = some (mk_ q) := by
  intro n
  induction n with
  | zero => intro v0 v1 pv0 σ q hk; cases hk
  | succ n ih =>
    intro v0 v1 pv0 σ q hk
    unfold g_X0_clear_L12 at hk
    unfold f_X0_clear_L12
    by_cases hc : (6 : Int) ≤ v1
    · have hk := ab_ifp hk hc
      refine mb_ifp hc ?_
      obtain rfl := Option.some.inj hk
      rfl
    · have hk := ab_ifn hk hc
      refine mb_ifn hc ?_
      refine mb_getR (v0 + 8) (bk_ly pv0).1 ((bk_ly pv0).2.1 _) (by omega) ?_
      obtain ⟨σ1, hσ1, hk⟩ := ab_bnd hk
      refine mb_ast (bk_ly pv0).2.2.2.2.2.2.2.2.2.1 hσ1 ?_
      exact ih _ _ pv0 _ _ hk
noncomputable def g_X0_clear (a0 : Nat) (σ : st_S) : Option st_S :=
  (some (up2 σ a0 0 (0 : Int))).bind fun σ1 =>
  (some (up2 σ1 a0 9 (0 : Int))).bind fun σ2 =>
  g_X0_clear_L12 ab_FU a0 (0 : Int) σ2
set_option maxRecDepth 20000 in
theorem s_X0_clear {a0 : Nat} (pa0 : isBk a0 = true) {σ : st_S} {q : st_S} (hk : g_X0_clear a0 σ = some q) : f_X0_clear ((a0 : Nat) : Int) (mk_ σ) = some (mk_ q) := by
  unfold g_X0_clear at hk
  unfold f_X0_clear
  obtain ⟨σ1, hσ1, hk⟩ := ab_bnd hk
  refine mb_put (bk_ly pa0).1 ((bk_ly pa0).2.1 _) hσ1 ?_
  obtain ⟨σ2, hσ2, hk⟩ := ab_bnd hk
  refine mb_put (bk_ly pa0).1 ((bk_ly pa0).2.1 _) hσ2 ?_
  refine s_X0_clear_L12 _ _ _ pa0 _ _ hk
noncomputable def g_X0_copyStrings (a0 : Nat) (a1 : Nat) (a2 : Int) (a3 : Int) (a4 : Int) (σ : st_S) : Option st_S :=
  (sa_cp σ (a1 + 1) 12 a2 (a0 + 1) 12 a3 a4).bind fun σ1 =>
  (sa_cp σ1 (a1 + 2) 12 a2 (a0 + 2) 12 a3 a4).bind fun σ2 =>
  (sa_cp σ2 (a1 + 3) 72 (ab_w32 (a2 * (6 : Int))) (a0 + 3) 72 (ab_w32 (a3 * (6 : Int))) (ab_w32 (a4 * (6 : Int)))).bind fun σ3 =>
  (sa_cp σ3 (a1 + 4) 72 (ab_w32 (a2 * (6 : Int))) (a0 + 4) 72 (ab_w32 (a3 * (6 : Int))) (ab_w32 (a4 * (6 : Int)))).bind fun σ4 =>
  (sa_cp σ4 (a1 + 5) 72 (ab_w32 (a2 * (6 : Int))) (a0 + 5) 72 (ab_w32 (a3 * (6 : Int))) (ab_w32 (a4 * (6 : Int)))).bind fun σ5 =>
  (sa_cp σ5 (a1 + 6) 72 (ab_w32 (a2 * (6 : Int))) (a0 + 6) 72 (ab_w32 (a3 * (6 : Int))) (ab_w32 (a4 * (6 : Int)))).bind fun σ6 =>
  (sa_cp σ6 (a1 + 7) 72 (ab_w32 (a2 * (6 : Int))) (a0 + 7) 72 (ab_w32 (a3 * (6 : Int))) (ab_w32 (a4 * (6 : Int)))).bind fun σ7 =>
  some σ7
set_option maxRecDepth 20000 in
theorem s_X0_copyStrings {a0 : Nat} {a1 : Nat} {a2 : Int} {a3 : Int} {a4 : Int} (pa0 : isBk a0 = true) (pa1 : isBk a1 = true) {σ : st_S} {q : st_S} (hk : g_X0_copyStrings a0 a1 a2 a3 a4 σ = some q) : f_X0_copyStrings ((a0 : Nat) : Int) ((a1 : Nat) : Int) a2 a3 a4 (mk_ σ) = some (mk_ q) := by
  unfold g_X0_copyStrings at hk
  unfold f_X0_copyStrings
  refine mb_getR (a1 + 1) (bk_ly pa1).1 ((bk_ly pa1).2.1 _) (by omega) ?_
  refine mb_getR (a0 + 1) (bk_ly pa0).1 ((bk_ly pa0).2.1 _) (by omega) ?_
  obtain ⟨σ1, hσ1, hk⟩ := ab_bnd hk
  refine mb_cpy (bk_ly pa1).2.2.1 (bk_ly pa0).2.2.1 hσ1 ?_
  refine mb_getR (a1 + 2) (bk_ly pa1).1 ((bk_ly pa1).2.1 _) (by omega) ?_
  refine mb_getR (a0 + 2) (bk_ly pa0).1 ((bk_ly pa0).2.1 _) (by omega) ?_
  obtain ⟨σ2, hσ2, hk⟩ := ab_bnd hk
  refine mb_cpy (bk_ly pa1).2.2.2.1 (bk_ly pa0).2.2.2.1 hσ2 ?_
  refine mb_getR (a1 + 3) (bk_ly pa1).1 ((bk_ly pa1).2.1 _) (by omega) ?_
  refine mb_getR (a0 + 3) (bk_ly pa0).1 ((bk_ly pa0).2.1 _) (by omega) ?_
  obtain ⟨σ3, hσ3, hk⟩ := ab_bnd hk
  refine mb_cpy (bk_ly pa1).2.2.2.2.1 (bk_ly pa0).2.2.2.2.1 hσ3 ?_
  refine mb_getR (a1 + 4) (bk_ly pa1).1 ((bk_ly pa1).2.1 _) (by omega) ?_
  refine mb_getR (a0 + 4) (bk_ly pa0).1 ((bk_ly pa0).2.1 _) (by omega) ?_
  obtain ⟨σ4, hσ4, hk⟩ := ab_bnd hk
  refine mb_cpy (bk_ly pa1).2.2.2.2.2.1 (bk_ly pa0).2.2.2.2.2.1 hσ4 ?_
  refine mb_getR (a1 + 5) (bk_ly pa1).1 ((bk_ly pa1).2.1 _) (by omega) ?_
  refine mb_getR (a0 + 5) (bk_ly pa0).1 ((bk_ly pa0).2.1 _) (by omega) ?_
  obtain ⟨σ5, hσ5, hk⟩ := ab_bnd hk
  refine mb_cpy (bk_ly pa1).2.2.2.2.2.2.1 (bk_ly pa0).2.2.2.2.2.2.1 hσ5 ?_
  refine mb_getR (a1 + 6) (bk_ly pa1).1 ((bk_ly pa1).2.1 _) (by omega) ?_
  refine mb_getR (a0 + 6) (bk_ly pa0).1 ((bk_ly pa0).2.1 _) (by omega) ?_
  obtain ⟨σ6, hσ6, hk⟩ := ab_bnd hk
  refine mb_cpy (bk_ly pa1).2.2.2.2.2.2.2.1 (bk_ly pa0).2.2.2.2.2.2.2.1 hσ6 ?_
  refine mb_getR (a1 + 7) (bk_ly pa1).1 ((bk_ly pa1).2.1 _) (by omega) ?_
  refine mb_getR (a0 + 7) (bk_ly pa0).1 ((bk_ly pa0).2.1 _) (by omega) ?_
  obtain ⟨σ7, hσ7, hk⟩ := ab_bnd hk
  refine mb_cpy (bk_ly pa1).2.2.2.2.2.2.2.2.1 (bk_ly pa0).2.2.2.2.2.2.2.2.1 hσ7 ?_
  obtain rfl := Option.some.inj hk
  rfl
noncomputable def g_X0_copyFrom (a0 : Nat) (a1 : Nat) (σ : st_S) : Option st_S :=
  (some (up2 σ a0 0 (σ a1 0))).bind fun σ1 =>
  (g_X0_copyStrings a0 a1 (0 : Int) (0 : Int) (σ1 a0 0) σ1).bind fun q1 =>
  (sa_cp q1 (a1 + 8) 6 (0 : Int) (a0 + 8) 6 (0 : Int) (6 : Int)).bind fun σ2 =>
  (some (up2 σ2 a0 9 (σ2 a1 9))).bind fun σ3 =>
  (sa_cp σ3 (a1 + 9) 12 (0 : Int) (a0 + 9) 12 (0 : Int) (σ3 a0 9)).bind fun σ4 =>
  (sa_cp σ4 (a1 + 10) 12 (0 : Int) (a0 + 10) 12 (0 : Int) (σ4 a0 9)).bind fun σ5 =>
  some σ5
set_option maxRecDepth 20000 in
theorem s_X0_copyFrom {a0 : Nat} {a1 : Nat} (pa0 : isBk a0 = true) (pa1 : isBk a1 = true) {σ : st_S} {q : st_S} (hk : g_X0_copyFrom a0 a1 σ = some q) : f_X0_copyFrom ((a0 : Nat) : Int) ((a1 : Nat) : Int) (mk_ σ) = some (mk_ q) := by
  unfold g_X0_copyFrom at hk
  unfold f_X0_copyFrom
  refine mb_get (bk_ly pa1).1 ((bk_ly pa1).2.1 _) ?_
  obtain ⟨σ1, hσ1, hk⟩ := ab_bnd hk
  refine mb_put (bk_ly pa0).1 ((bk_ly pa0).2.1 _) hσ1 ?_
  refine mb_get (bk_ly pa0).1 ((bk_ly pa0).2.1 _) ?_
  obtain ⟨q1, hq1, hk⟩ := ab_bnd hk
  refine mb_on (bk_ly pa0).1 (s_X0_copyStrings pa0 pa1 hq1) ?_
  refine mb_getR (a1 + 8) (bk_ly pa1).1 ((bk_ly pa1).2.1 _) (by omega) ?_
  refine mb_getR (a0 + 8) (bk_ly pa0).1 ((bk_ly pa0).2.1 _) (by omega) ?_
  obtain ⟨σ2, hσ2, hk⟩ := ab_bnd hk
  refine mb_cpy (bk_ly pa1).2.2.2.2.2.2.2.2.2.1 (bk_ly pa0).2.2.2.2.2.2.2.2.2.1 hσ2 ?_
  refine mb_get (bk_ly pa1).1 ((bk_ly pa1).2.1 _) ?_
  obtain ⟨σ3, hσ3, hk⟩ := ab_bnd hk
  refine mb_put (bk_ly pa0).1 ((bk_ly pa0).2.1 _) hσ3 ?_
  refine mb_getR (a1 + 9) (bk_ly pa1).1 ((bk_ly pa1).2.1 _) (by omega) ?_
  refine mb_getR (a0 + 9) (bk_ly pa0).1 ((bk_ly pa0).2.1 _) (by omega) ?_
  refine mb_get (bk_ly pa0).1 ((bk_ly pa0).2.1 _) ?_
  obtain ⟨σ4, hσ4, hk⟩ := ab_bnd hk
  refine mb_cpy (bk_ly pa1).2.2.2.2.2.2.2.2.2.2.1 (bk_ly pa0).2.2.2.2.2.2.2.2.2.2.1 hσ4 ?_
  refine mb_getR (a1 + 10) (bk_ly pa1).1 ((bk_ly pa1).2.1 _) (by omega) ?_
  refine mb_getR (a0 + 10) (bk_ly pa0).1 ((bk_ly pa0).2.1 _) (by omega) ?_
  refine mb_get (bk_ly pa0).1 ((bk_ly pa0).2.1 _) ?_
  obtain ⟨σ5, hσ5, hk⟩ := ab_bnd hk
  refine mb_cpy (bk_ly pa1).2.2.2.2.2.2.2.2.2.2.2 (bk_ly pa0).2.2.2.2.2.2.2.2.2.2.2 hσ5 ?_
  obtain rfl := Option.some.inj hk
  rfl
noncomputable def g_X0_dropString (a0 : Nat) (a1 : Int) (σ : st_S) : Option st_S :=
  (g_X0_copyStrings a0 a0 (ab_w32 (a1 + (1 : Int))) a1 (ab_w32 ((ab_w32 ((σ a0 0) - a1)) - (1 : Int))) σ).bind fun q1 =>
  (some (up2 q1 a0 0 (ab_w32 ((q1 a0 0) - (1 : Int))))).bind fun σ1 =>
  some σ1
set_option maxRecDepth 20000 in
theorem s_X0_dropString {a0 : Nat} {a1 : Int} (pa0 : isBk a0 = true) {σ : st_S} {q : st_S} (hk : g_X0_dropString a0 a1 σ = some q) : f_X0_dropString ((a0 : Nat) : Int) a1 (mk_ σ) = some (mk_ q) := by
  unfold g_X0_dropString at hk
  unfold f_X0_dropString
  refine mb_get (bk_ly pa0).1 ((bk_ly pa0).2.1 _) ?_
  obtain ⟨q1, hq1, hk⟩ := ab_bnd hk
  refine mb_on (bk_ly pa0).1 (s_X0_copyStrings pa0 pa0 hq1) ?_
  refine mb_get (bk_ly pa0).1 ((bk_ly pa0).2.1 _) ?_
  obtain ⟨σ1, hσ1, hk⟩ := ab_bnd hk
  refine mb_put (bk_ly pa0).1 ((bk_ly pa0).2.1 _) hσ1 ?_
  obtain rfl := Option.some.inj hk
  rfl
noncomputable def g_X0_termsOfAll_L4 : Nat → Nat → Int → Int → st_S → Option (Int × st_S)
  | 0, _, _, _, _ => none
  | n + 1, v0, v1, v2, σ =>
    if σ v0 0 ≤ v2 then
      some (v1, σ)
    else
    (sa_ld σ (v0 + 2) 12 v2).bind fun t1 =>
    g_X0_termsOfAll_L4 n v0 (ab_w32 (v1 + t1)) (ab_w32 (v2 + (1 : Int))) σ
set_option maxRecDepth 20000 in
theorem s_X0_termsOfAll_L4 : ∀ (n : Nat) (v0 : Nat) (v1 : Int) (v2 : Int) (pv0 : isBk v0 = true) (σ : st_S) (q : Int × st_S), g_X0_termsOfAll_L4 n v0 v1 v2 σ = some q → f_X0_termsOfAll_L4 n ((v0 : Nat) : Int) v1 v2 (mk_ σ) = some ((q.1, mk_ q.2)) := by
  intro n
  induction n with
  | zero => intro v0 v1 v2 pv0 σ q hk; cases hk
  | succ n ih =>
    intro v0 v1 v2 pv0 σ q hk
    unfold g_X0_termsOfAll_L4 at hk
    unfold f_X0_termsOfAll_L4
    refine mb_get (bk_ly pv0).1 ((bk_ly pv0).2.1 _) ?_
    by_cases hc : σ v0 0 ≤ v2
    · have hk := ab_ifp hk hc
      refine mb_ifp hc ?_
      obtain rfl := Option.some.inj hk
      rfl
    · have hk := ab_ifn hk hc
      refine mb_ifn hc ?_
      refine mb_getR (v0 + 2) (bk_ly pv0).1 ((bk_ly pv0).2.1 _) (by omega) ?_
      obtain ⟨t1, ht1, hk⟩ := ab_bnd hk
      refine mb_ald (bk_ly pv0).2.2.2.1 ht1 ?_
      exact ih _ _ _ pv0 _ _ hk
noncomputable def g_X0_termsOfAll (a0 : Nat) (σ : st_S) : Option (Int × st_S) :=
  g_X0_termsOfAll_L4 ab_FU a0 (0 : Int) (0 : Int) σ
set_option maxRecDepth 20000 in
theorem s_X0_termsOfAll {a0 : Nat} (pa0 : isBk a0 = true) {σ : st_S} {q : Int × st_S} (hk : g_X0_termsOfAll a0 σ = some q) : f_X0_termsOfAll ((a0 : Nat) : Int) (mk_ σ) = some ((q.1, mk_ q.2)) := by
  unfold g_X0_termsOfAll at hk
  unfold f_X0_termsOfAll
  refine s_X0_termsOfAll_L4 _ _ _ _ pa0 _ _ hk
noncomputable def g_X0_leadingOf_L4 : Nat → Nat → Int → Int → Int → st_S → Option (Int × st_S)
  | 0, _, _, _, _, _ => none
  | n + 1, v0, v1, v2, v3, σ =>
    (sa_ld σ (v0 + 2) 12 v1).bind fun t1 =>
    if t1 ≤ v3 then
      some (v2, σ)
    else
    (sa_ld σ (v0 + 4) 72 (ab_w32 ((ab_w32 (v1 * (6 : Int))) + v3))).bind fun t2 =>
    g_X0_leadingOf_L4 n v0 v1 (ab_w32 (v2 + t2)) (ab_w32 (v3 + (1 : Int))) σ
set_option maxRecDepth 20000 in
theorem s_X0_leadingOf_L4 : ∀ (n : Nat) (v0 : Nat) (v1 : Int) (v2 : Int) (v3 : Int) (pv0 : isBk v0 = true) (σ : st_S) (q : Int × st_S), g_X0_leadingOf_L4 n v0 v1 v2 v3 σ = some q → f_X0_leadingOf_L4 n ((v0 : Nat) : Int) v1 v2 v3 (mk_ σ) = some ((q.1, mk_ q.2)) := by
  intro n
  induction n with
  | zero => intro v0 v1 v2 v3 pv0 σ q hk; cases hk
  | succ n ih =>
    intro v0 v1 v2 v3 pv0 σ q hk
    unfold g_X0_leadingOf_L4 at hk
    unfold f_X0_leadingOf_L4
    refine mb_getR (v0 + 2) (bk_ly pv0).1 ((bk_ly pv0).2.1 _) (by omega) ?_
    obtain ⟨t1, ht1, hk⟩ := ab_bnd hk
    refine mb_ald (bk_ly pv0).2.2.2.1 ht1 ?_
    by_cases hc : t1 ≤ v3
    · have hk := ab_ifp hk hc
      refine mb_ifp hc ?_
      obtain rfl := Option.some.inj hk
      rfl
    · have hk := ab_ifn hk hc
      refine mb_ifn hc ?_
      refine mb_getR (v0 + 4) (bk_ly pv0).1 ((bk_ly pv0).2.1 _) (by omega) ?_
      obtain ⟨t2, ht2, hk⟩ := ab_bnd hk
      refine mb_ald (bk_ly pv0).2.2.2.2.2.1 ht2 ?_
      exact ih _ _ _ _ pv0 _ _ hk
noncomputable def g_X0_leadingOf (a0 : Nat) (a1 : Int) (σ : st_S) : Option (Int × st_S) :=
  g_X0_leadingOf_L4 ab_FU a0 a1 (0 : Int) (0 : Int) σ
set_option maxRecDepth 20000 in
theorem s_X0_leadingOf {a0 : Nat} {a1 : Int} (pa0 : isBk a0 = true) {σ : st_S} {q : Int × st_S} (hk : g_X0_leadingOf a0 a1 σ = some q) : f_X0_leadingOf ((a0 : Nat) : Int) a1 (mk_ σ) = some ((q.1, mk_ q.2)) := by
  unfold g_X0_leadingOf at hk
  unfold f_X0_leadingOf
  refine s_X0_leadingOf_L4 _ _ _ _ _ pa0 _ _ hk
noncomputable def g_X0_stringAt_L2 : Nat → Nat → Int → Int → st_S → Option (Int × st_S)
  | 0, _, _, _, _ => none
  | n + 1, v0, v1, v2, σ =>
    if σ v0 0 ≤ v2 then
      some ((-1 : Int), σ)
    else
    (sa_ld σ (v0 + 1) 12 v2).bind fun t1 =>
    if t1 = v1 then
      some (v2, σ)
    else
    g_X0_stringAt_L2 n v0 v1 (ab_w32 (v2 + (1 : Int))) σ
set_option maxRecDepth 20000 in
theorem s_X0_stringAt_L2 : ∀ (n : Nat) (v0 : Nat) (v1 : Int) (v2 : Int) (pv0 : isBk v0 = true) (σ : st_S) (q : Int × st_S), g_X0_stringAt_L2 n v0 v1 v2 σ = some q → f_X0_stringAt_L2 n ((v0 : Nat) : Int) v1 v2 (mk_ σ) = some ((q.1, mk_ q.2)) := by
  intro n
  induction n with
  | zero => intro v0 v1 v2 pv0 σ q hk; cases hk
  | succ n ih =>
    intro v0 v1 v2 pv0 σ q hk
    unfold g_X0_stringAt_L2 at hk
    unfold f_X0_stringAt_L2
    refine mb_get (bk_ly pv0).1 ((bk_ly pv0).2.1 _) ?_
    by_cases hc : σ v0 0 ≤ v2
    · have hk := ab_ifp hk hc
      refine mb_ifp hc ?_
      obtain rfl := Option.some.inj hk
      rfl
    · have hk := ab_ifn hk hc
      refine mb_ifn hc ?_
      refine mb_getR (v0 + 1) (bk_ly pv0).1 ((bk_ly pv0).2.1 _) (by omega) ?_
      obtain ⟨t1, ht1, hk⟩ := ab_bnd hk
      refine mb_ald (bk_ly pv0).2.2.1 ht1 ?_
      by_cases hc : t1 = v1
      · have hk := ab_ifp hk hc
        refine mb_ifp hc ?_
        obtain rfl := Option.some.inj hk
        rfl
      · have hk := ab_ifn hk hc
        refine mb_ifn hc ?_
        exact ih _ _ _ pv0 _ _ hk
noncomputable def g_X0_stringAt (a0 : Nat) (a1 : Int) (σ : st_S) : Option (Int × st_S) :=
  g_X0_stringAt_L2 ab_FU a0 a1 (0 : Int) σ
set_option maxRecDepth 20000 in
theorem s_X0_stringAt {a0 : Nat} {a1 : Int} (pa0 : isBk a0 = true) {σ : st_S} {q : Int × st_S} (hk : g_X0_stringAt a0 a1 σ = some q) : f_X0_stringAt ((a0 : Nat) : Int) a1 (mk_ σ) = some ((q.1, mk_ q.2)) := by
  unfold g_X0_stringAt at hk
  unfold f_X0_stringAt
  refine s_X0_stringAt_L2 _ _ _ _ pa0 _ _ hk
noncomputable def g_X0_exchangeIn (a0 : Nat) (a1 : Int) (a2 : Int) (σ : st_S) : Option st_S :=
  (sa_ld σ a0 72 a1).bind fun t1 =>
  (sa_ld σ a0 72 a2).bind fun t2 =>
  (sa_st σ a0 72 a1 t2).bind fun σ1 =>
  (sa_st σ1 a0 72 a2 t1).bind fun σ2 =>
  some σ2
set_option maxRecDepth 20000 in
theorem s_X0_exchangeIn {a0 : Nat} {a1 : Int} {a2 : Int} (pa0 : IsA 12 72 a0) {σ : st_S} {q : st_S} (hk : g_X0_exchangeIn a0 a1 a2 σ = some q) : f_X0_exchangeIn ((a0 : Nat) : Int) a1 a2 (mk_ σ) = some (mk_ q) := by
  unfold g_X0_exchangeIn at hk
  unfold f_X0_exchangeIn
  obtain ⟨t1, ht1, hk⟩ := ab_bnd hk
  refine mb_ald pa0 ht1 ?_
  obtain ⟨t2, ht2, hk⟩ := ab_bnd hk
  refine mb_ald pa0 ht2 ?_
  obtain ⟨σ1, hσ1, hk⟩ := ab_bnd hk
  refine mb_ast pa0 hσ1 ?_
  obtain ⟨σ2, hσ2, hk⟩ := ab_bnd hk
  refine mb_ast pa0 hσ2 ?_
  obtain rfl := Option.some.inj hk
  rfl
noncomputable def g_X0_exchange (a0 : Nat) (a1 : Int) (a2 : Int) (σ : st_S) : Option st_S :=
  (sa_ld σ (a0 + 4) 72 a1).bind fun t1 =>
  (sa_ld σ (a0 + 4) 72 a2).bind fun t2 =>
  (sa_st σ (a0 + 4) 72 a1 t2).bind fun σ1 =>
  (sa_st σ1 (a0 + 4) 72 a2 t1).bind fun σ2 =>
  (g_X0_exchangeIn (a0 + 5) a1 a2 σ2).bind fun q3 =>
  (g_X0_exchangeIn (a0 + 6) a1 a2 q3).bind fun q4 =>
  (g_X0_exchangeIn (a0 + 7) a1 a2 q4).bind fun q5 =>
  some q5
set_option maxRecDepth 20000 in
theorem s_X0_exchange {a0 : Nat} {a1 : Int} {a2 : Int} (pa0 : isBk a0 = true) {σ : st_S} {q : st_S} (hk : g_X0_exchange a0 a1 a2 σ = some q) : f_X0_exchange ((a0 : Nat) : Int) a1 a2 (mk_ σ) = some (mk_ q) := by
  unfold g_X0_exchange at hk
  unfold f_X0_exchange
  refine mb_getR (a0 + 4) (bk_ly pa0).1 ((bk_ly pa0).2.1 _) (by omega) ?_
  obtain ⟨t1, ht1, hk⟩ := ab_bnd hk
  refine mb_ald (bk_ly pa0).2.2.2.2.2.1 ht1 ?_
  refine mb_getR (a0 + 4) (bk_ly pa0).1 ((bk_ly pa0).2.1 _) (by omega) ?_
  refine mb_getR (a0 + 4) (bk_ly pa0).1 ((bk_ly pa0).2.1 _) (by omega) ?_
  obtain ⟨t2, ht2, hk⟩ := ab_bnd hk
  refine mb_ald (bk_ly pa0).2.2.2.2.2.1 ht2 ?_
  obtain ⟨σ1, hσ1, hk⟩ := ab_bnd hk
  refine mb_ast (bk_ly pa0).2.2.2.2.2.1 hσ1 ?_
  refine mb_getR (a0 + 4) (bk_ly pa0).1 ((bk_ly pa0).2.1 _) (by omega) ?_
  obtain ⟨σ2, hσ2, hk⟩ := ab_bnd hk
  refine mb_ast (bk_ly pa0).2.2.2.2.2.1 hσ2 ?_
  refine mb_getR (a0 + 5) (bk_ly pa0).1 ((bk_ly pa0).2.1 _) (by omega) ?_
  obtain ⟨q3, hq3, hk⟩ := ab_bnd hk
  refine mb_eq (s_X0_exchangeIn (bk_ly pa0).2.2.2.2.2.2.1 hq3) ?_
  refine mb_getR (a0 + 6) (bk_ly pa0).1 ((bk_ly pa0).2.1 _) (by omega) ?_
  obtain ⟨q4, hq4, hk⟩ := ab_bnd hk
  refine mb_eq (s_X0_exchangeIn (bk_ly pa0).2.2.2.2.2.2.2.1 hq4) ?_
  refine mb_getR (a0 + 7) (bk_ly pa0).1 ((bk_ly pa0).2.1 _) (by omega) ?_
  obtain ⟨q5, hq5, hk⟩ := ab_bnd hk
  refine mb_eq (s_X0_exchangeIn (bk_ly pa0).2.2.2.2.2.2.2.2.1 hq5) ?_
  obtain rfl := Option.some.inj hk
  rfl
noncomputable def g_X0_seeOf_L2 : Nat → Nat → Int → Int → st_S → Option (Int × st_S)
  | 0, _, _, _, _ => none
  | n + 1, v0, v1, v3, σ =>
    if σ v0 9 ≤ v3 then
      some ((-1 : Int), σ)
    else
    (sa_ld σ (v0 + 9) 12 v3).bind fun t1 =>
    if ab_cmp t1 v1 = (0 : Int) then
      some (v3, σ)
    else
    g_X0_seeOf_L2 n v0 v1 (ab_w32 (v3 + (1 : Int))) σ
set_option maxRecDepth 20000 in
theorem s_X0_seeOf_L2 : ∀ (n : Nat) (v0 : Nat) (v1 : Int) (v3 : Int) (pv0 : isBk v0 = true) (σ : st_S) (q : Int × st_S), g_X0_seeOf_L2 n v0 v1 v3 σ = some q → f_X0_seeOf_L2 n ((v0 : Nat) : Int) v1 v3 (mk_ σ) = some ((q.1, mk_ q.2)) := by
  intro n
  induction n with
  | zero => intro v0 v1 v3 pv0 σ q hk; cases hk
  | succ n ih =>
    intro v0 v1 v3 pv0 σ q hk
    unfold g_X0_seeOf_L2 at hk
    unfold f_X0_seeOf_L2
    refine mb_get (bk_ly pv0).1 ((bk_ly pv0).2.1 _) ?_
    by_cases hc : σ v0 9 ≤ v3
    · have hk := ab_ifp hk hc
      refine mb_ifp hc ?_
      obtain rfl := Option.some.inj hk
      rfl
    · have hk := ab_ifn hk hc
      refine mb_ifn hc ?_
      refine mb_getR (v0 + 9) (bk_ly pv0).1 ((bk_ly pv0).2.1 _) (by omega) ?_
      obtain ⟨t1, ht1, hk⟩ := ab_bnd hk
      refine mb_ald (bk_ly pv0).2.2.2.2.2.2.2.2.2.2.1 ht1 ?_
      by_cases hc : ab_cmp t1 v1 = (0 : Int)
      · have hk := ab_ifp hk hc
        refine mb_ifp hc ?_
        obtain rfl := Option.some.inj hk
        rfl
      · have hk := ab_ifn hk hc
        refine mb_ifn hc ?_
        exact ih _ _ _ pv0 _ _ hk
noncomputable def g_X0_seeOf (a0 : Nat) (a1 : Int) (σ : st_S) : Option (Int × st_S) :=
  g_X0_seeOf_L2 ab_FU a0 a1 (0 : Int) σ
set_option maxRecDepth 20000 in
theorem s_X0_seeOf {a0 : Nat} {a1 : Int} (pa0 : isBk a0 = true) {σ : st_S} {q : Int × st_S} (hk : g_X0_seeOf a0 a1 σ = some q) : f_X0_seeOf ((a0 : Nat) : Int) a1 (mk_ σ) = some ((q.1, mk_ q.2)) := by
  unfold g_X0_seeOf at hk
  unfold f_X0_seeOf
  refine s_X0_seeOf_L2 _ _ _ _ pa0 _ _ hk
noncomputable def g_X0_used_L5 : Nat → Nat → Int → Int → st_S → Option (Int × st_S)
  | 0, _, _, _, _ => none
  | n + 1, v0, v3, v5, σ =>
    if (12 : Int) ≤ v5 then
      some (v3, σ)
    else
    (g_X0_seeOf v0 v3 σ).bind fun q1 =>
    if q1.1 = (-1 : Int) then
      some (v3, q1.2)
    else
    (sa_ld q1.2 (v0 + 10) 12 q1.1).bind fun t2 =>
    g_X0_used_L5 n v0 t2 (ab_w32 (v5 + (1 : Int))) q1.2
set_option maxRecDepth 20000 in
theorem s_X0_used_L5 : ∀ (n : Nat) (v0 : Nat) (v3 : Int) (v5 : Int) (pv0 : isBk v0 = true) (σ : st_S) (q : Int × st_S), g_X0_used_L5 n v0 v3 v5 σ = some q → f_X0_used_L5 n ((v0 : Nat) : Int) v3 v5 (mk_ σ) = some ((q.1, mk_ q.2)) := by
  intro n
  induction n with
  | zero => intro v0 v3 v5 pv0 σ q hk; cases hk
  | succ n ih =>
    intro v0 v3 v5 pv0 σ q hk
    unfold g_X0_used_L5 at hk
    unfold f_X0_used_L5
    by_cases hc : (12 : Int) ≤ v5
    · have hk := ab_ifp hk hc
      refine mb_ifp hc ?_
      obtain rfl := Option.some.inj hk
      rfl
    · have hk := ab_ifn hk hc
      refine mb_ifn hc ?_
      obtain ⟨q1, hq1, hk⟩ := ab_bnd hk
      refine mb_on (bk_ly pv0).1 (s_X0_seeOf pv0 hq1) ?_
      by_cases hc : q1.1 = (-1 : Int)
      · have hk := ab_ifp hk hc
        refine mb_ifp hc ?_
        obtain rfl := Option.some.inj hk
        rfl
      · have hk := ab_ifn hk hc
        refine mb_ifn hc ?_
        refine mb_getR (v0 + 10) (bk_ly pv0).1 ((bk_ly pv0).2.1 _) (by omega) ?_
        obtain ⟨t2, ht2, hk⟩ := ab_bnd hk
        refine mb_ald (bk_ly pv0).2.2.2.2.2.2.2.2.2.2.2 ht2 ?_
        exact ih _ _ _ pv0 _ _ hk
noncomputable def g_X0_used (a0 : Nat) (a1 : Int) (σ : st_S) : Option (Int × st_S) :=
  g_X0_used_L5 ab_FU a0 a1 (0 : Int) σ
set_option maxRecDepth 20000 in
theorem s_X0_used {a0 : Nat} {a1 : Int} (pa0 : isBk a0 = true) {σ : st_S} {q : Int × st_S} (hk : g_X0_used a0 a1 σ = some q) : f_X0_used ((a0 : Nat) : Int) a1 (mk_ σ) = some ((q.1, mk_ q.2)) := by
  unfold g_X0_used at hk
  unfold f_X0_used
  refine s_X0_used_L5 _ _ _ _ pa0 _ _ hk
noncomputable def g_X0_addSee (a0 : Nat) (a1 : Int) (a3 : Int) (σ : st_S) : Option st_S :=
  if σ a0 9 < (12 : Int) then
    (sa_st σ (a0 + 9) 12 (σ a0 9) a1).bind fun σ1 =>
    (sa_st σ1 (a0 + 10) 12 (σ1 a0 9) a3).bind fun σ2 =>
    (some (up2 σ2 a0 9 (ab_w32 ((σ2 a0 9) + (1 : Int))))).bind fun σ3 =>
    some σ3
  else
  some σ
set_option maxRecDepth 20000 in
theorem s_X0_addSee {a0 : Nat} {a1 : Int} {a3 : Int} (pa0 : isBk a0 = true) {σ : st_S} {q : st_S} (hk : g_X0_addSee a0 a1 a3 σ = some q) : f_X0_addSee ((a0 : Nat) : Int) a1 a3 (mk_ σ) = some (mk_ q) := by
  unfold g_X0_addSee at hk
  unfold f_X0_addSee
  refine mb_get (bk_ly pa0).1 ((bk_ly pa0).2.1 _) ?_
  by_cases hc : σ a0 9 < (12 : Int)
  · have hk := ab_ifp hk hc
    refine mb_ifp hc ?_
    refine mb_getR (a0 + 9) (bk_ly pa0).1 ((bk_ly pa0).2.1 _) (by omega) ?_
    refine mb_get (bk_ly pa0).1 ((bk_ly pa0).2.1 _) ?_
    obtain ⟨σ1, hσ1, hk⟩ := ab_bnd hk
    refine mb_ast (bk_ly pa0).2.2.2.2.2.2.2.2.2.2.1 hσ1 ?_
    refine mb_getR (a0 + 10) (bk_ly pa0).1 ((bk_ly pa0).2.1 _) (by omega) ?_
    refine mb_get (bk_ly pa0).1 ((bk_ly pa0).2.1 _) ?_
    obtain ⟨σ2, hσ2, hk⟩ := ab_bnd hk
    refine mb_ast (bk_ly pa0).2.2.2.2.2.2.2.2.2.2.2 hσ2 ?_
    refine mb_get (bk_ly pa0).1 ((bk_ly pa0).2.1 _) ?_
    obtain ⟨σ3, hσ3, hk⟩ := ab_bnd hk
    refine mb_put (bk_ly pa0).1 ((bk_ly pa0).2.1 _) hσ3 ?_
    obtain rfl := Option.some.inj hk
    rfl
  · have hk := ab_ifn hk hc
    refine mb_ifn hc ?_
    obtain rfl := Option.some.inj hk
    rfl
noncomputable def g_X0_dropSee_L4 (k46 : Nat → st_S → Option st_S) : Nat → Nat → Int → st_S → Option st_S
  | 0, _, _, _ => none
  | n + 1, v0, v2, σ =>
    if σ v0 9 ≤ v2 then
      k46 v0 σ
    else
    (sa_ld σ (v0 + 9) 12 v2).bind fun t1 =>
    (sa_st σ (v0 + 9) 12 (ab_w32 (v2 - (1 : Int))) t1).bind fun σ1 =>
    (sa_ld σ1 (v0 + 10) 12 v2).bind fun t2 =>
    (sa_st σ1 (v0 + 10) 12 (ab_w32 (v2 - (1 : Int))) t2).bind fun σ2 =>
    g_X0_dropSee_L4 k46 n v0 (ab_w32 (v2 + (1 : Int))) σ2
set_option maxRecDepth 20000 in
theorem s_X0_dropSee_L4 {k46 : Nat → st_S → Option st_S} {kf46 : Int → ab_H → Option ab_H} (hk46 : ∀ (v0 : Nat) (pv0 : isBk v0 = true) (σ : st_S) (q : st_S), k46 v0 σ = some q → kf46 ((v0 : Nat) : Int) (mk_ σ) = some (mk_ q)) : ∀ (n : Nat) (v0 : Nat) (v2 : Int) (pv0 : isBk v0 = true) (σ : st_S) (q : st_S), g_X0_dropSee_L4 k46 n v0 v2 σ = some q → f_X0_dropSee_L4 kf46 n ((v0 : Nat) : Int) v2 (mk_ σ) = some (mk_ q) := by
  intro n
  induction n with
  | zero => intro v0 v2 pv0 σ q hk; cases hk
  | succ n ih =>
    intro v0 v2 pv0 σ q hk
    unfold g_X0_dropSee_L4 at hk
    unfold f_X0_dropSee_L4
    refine mb_get (bk_ly pv0).1 ((bk_ly pv0).2.1 _) ?_
    by_cases hc : σ v0 9 ≤ v2
    · have hk := ab_ifp hk hc
      refine mb_ifp hc ?_
      exact hk46 _ pv0 _ _ hk
    · have hk := ab_ifn hk hc
      refine mb_ifn hc ?_
      refine mb_getR (v0 + 9) (bk_ly pv0).1 ((bk_ly pv0).2.1 _) (by omega) ?_
      refine mb_getR (v0 + 9) (bk_ly pv0).1 ((bk_ly pv0).2.1 _) (by omega) ?_
      obtain ⟨t1, ht1, hk⟩ := ab_bnd hk
      refine mb_ald (bk_ly pv0).2.2.2.2.2.2.2.2.2.2.1 ht1 ?_
      obtain ⟨σ1, hσ1, hk⟩ := ab_bnd hk
      refine mb_ast (bk_ly pv0).2.2.2.2.2.2.2.2.2.2.1 hσ1 ?_
      refine mb_getR (v0 + 10) (bk_ly pv0).1 ((bk_ly pv0).2.1 _) (by omega) ?_
      refine mb_getR (v0 + 10) (bk_ly pv0).1 ((bk_ly pv0).2.1 _) (by omega) ?_
      obtain ⟨t2, ht2, hk⟩ := ab_bnd hk
      refine mb_ald (bk_ly pv0).2.2.2.2.2.2.2.2.2.2.2 ht2 ?_
      obtain ⟨σ2, hσ2, hk⟩ := ab_bnd hk
      refine mb_ast (bk_ly pv0).2.2.2.2.2.2.2.2.2.2.2 hσ2 ?_
      exact ih _ _ pv0 _ _ hk
noncomputable def g_X0_dropSee (a0 : Nat) (a1 : Int) (σ : st_S) : Option st_S :=
  g_X0_dropSee_L4 (fun w46_0 σx46 =>
    (some (up2 σx46 w46_0 9 (ab_w32 ((σx46 w46_0 9) - (1 : Int))))).bind fun σ1 =>
    some σ1) ab_FU a0 (ab_w32 (a1 + (1 : Int))) σ
set_option maxRecDepth 20000 in
theorem s_X0_dropSee {a0 : Nat} {a1 : Int} (pa0 : isBk a0 = true) {σ : st_S} {q : st_S} (hk : g_X0_dropSee a0 a1 σ = some q) : f_X0_dropSee ((a0 : Nat) : Int) a1 (mk_ σ) = some (mk_ q) := by
  unfold g_X0_dropSee at hk
  unfold f_X0_dropSee
  refine s_X0_dropSee_L4 (fun w46_0 pw46_0 σx46 q hk => ?_) _ _ _ pa0 _ _ hk
  · skip
    refine mb_get (bk_ly pw46_0).1 ((bk_ly pw46_0).2.1 _) ?_
    obtain ⟨σ1, hσ1, hk⟩ := ab_bnd hk
    refine mb_put (bk_ly pw46_0).1 ((bk_ly pw46_0).2.1 _) hσ1 ?_
    obtain rfl := Option.some.inj hk
    rfl
