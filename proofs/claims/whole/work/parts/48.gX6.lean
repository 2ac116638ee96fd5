noncomputable def g_X6_addEntry_J118 (v0 : Nat) (v5 : Nat) (v6 : Int) (σ : st_S) : Option st_S :=
  (sa_st σ (v0 + 1) 72 v6 ((v5 : Nat) : Int)).bind fun σ1 =>
  (some (up2 σ1 v0 1 (ab_w32 ((σ1 v0 1) + (1 : Int))))).bind fun σ2 =>
  some σ2
set_option maxRecDepth 20000 in
theorem s_X6_addEntry_J118 : ∀ (v0 : Nat) (v5 : Nat) (v6 : Int) (pv0 : isTu v0 = true) (pv5 : isEn v5 = true) (σ : st_S) (q : st_S), g_X6_addEntry_J118 v0 v5 v6 σ = some q → f_X6_addEntry_J118 ((v0 : Nat) : Int) ((v5 : Nat) : Int) v6 (mk_ σ) = some (mk_ q) := by
  intro v0 v5 v6 pv0 pv5 σ q hk
  unfold g_X6_addEntry_J118 at hk
  unfold f_X6_addEntry_J118
  refine mb_getR (v0 + 1) (tu_ly pv0).1 ((tu_ly pv0).2.1 _) (by omega) ?_
  obtain ⟨σ1, hσ1, hk⟩ := ab_bnd hk
  refine mb_astE (tu_ly pv0).2.2.2.1 (en_ly pv5).1 hσ1 ?_
  refine mb_get (tu_ly pv0).1 ((tu_ly pv0).2.1 _) ?_
  obtain ⟨σ2, hσ2, hk⟩ := ab_bnd hk
  refine mb_put (tu_ly pv0).1 ((tu_ly pv0).2.1 _) hσ2 ?_
  obtain rfl := Option.some.inj hk
  rfl
noncomputable def g_X6_addEntry_L74 (k118 : Nat → Nat → Int → st_S → Option st_S) : Nat → Nat → Nat → Int → st_S → Option st_S
  | 0, _, _, _, _ => none
  | n + 1, v0, v5, v6, σ =>
    if v6 ≤ (0 : Int) then
      k118 v0 v5 v6 σ
    else
    (sa_ld σ (v0 + 1) 72 (ab_w32 (v6 - (1 : Int)))).bind fun t1 =>
    (sa_en t1).bind fun e1 =>
    (g_X2_compare e1 v5 σ).bind fun q2 =>
    if q2.1 ≤ (0 : Int) then
      k118 v0 v5 v6 q2.2
    else
    (sa_ld q2.2 (v0 + 1) 72 (ab_w32 (v6 - (1 : Int)))).bind fun t3 =>
    (sa_en t3).bind fun e2 =>
    (sa_st q2.2 (v0 + 1) 72 v6 ((e2 : Nat) : Int)).bind fun σ1 =>
    g_X6_addEntry_L74 k118 n v0 v5 (ab_w32 (v6 + (-1 : Int))) σ1
set_option maxRecDepth 20000 in
theorem s_X6_addEntry_L74 {k118 : Nat → Nat → Int → st_S → Option st_S} {kf118 : Int → Int → Int → ab_H → Option ab_H} (hk118 : ∀ (v0 : Nat) (v5 : Nat) (v6 : Int) (pv0 : isTu v0 = true) (pv5 : isEn v5 = true) (σ : st_S) (q : st_S), k118 v0 v5 v6 σ = some q → kf118 ((v0 : Nat) : Int) ((v5 : Nat) : Int) v6 (mk_ σ) = some (mk_ q)) : ∀ (n : Nat) (v0 : Nat) (v5 : Nat) (v6 : Int) (pv0 : isTu v0 = true) (pv5 : isEn v5 = true) (σ : st_S) (q : st_S), g_X6_addEntry_L74 k118 n v0 v5 v6 σ = some q → f_X6_addEntry_L74 kf118 n ((v0 : Nat) : Int) ((v5 : Nat) : Int) v6 (mk_ σ) = some (mk_ q) := by
  intro n
  induction n with
  | zero => intro v0 v5 v6 pv0 pv5 σ q hk; cases hk
  | succ n ih =>
    intro v0 v5 v6 pv0 pv5 σ q hk
    unfold g_X6_addEntry_L74 at hk
    unfold f_X6_addEntry_L74
    by_cases hc : v6 ≤ (0 : Int)
    · have hk := ab_ifp hk hc
      refine mb_ifp hc ?_
      exact hk118 _ _ _ pv0 pv5 _ _ hk
    · have hk := ab_ifn hk hc
      refine mb_ifn hc ?_
      refine mb_getR (v0 + 1) (tu_ly pv0).1 ((tu_ly pv0).2.1 _) (by omega) ?_
      obtain ⟨t1, ht1, hk⟩ := ab_bnd hk
      obtain ⟨e1, he1, hk⟩ := ab_bnd hk
      have pe1 : isEn e1 = true := en_of he1
      refine mb_aldE (tu_ly pv0).2.2.2.1 ht1 he1 ?_
      obtain ⟨q2, hq2, hk⟩ := ab_bnd hk
      refine mb_on (en_ly pe1).1 (s_X2_compare pe1 pv5 hq2) ?_
      by_cases hc : q2.1 ≤ (0 : Int)
      · have hk := ab_ifp hk hc
        refine mb_ifp hc ?_
        exact hk118 _ _ _ pv0 pv5 _ _ hk
      · have hk := ab_ifn hk hc
        refine mb_ifn hc ?_
        refine mb_getR (v0 + 1) (tu_ly pv0).1 ((tu_ly pv0).2.1 _) (by omega) ?_
        refine mb_getR (v0 + 1) (tu_ly pv0).1 ((tu_ly pv0).2.1 _) (by omega) ?_
        obtain ⟨t3, ht3, hk⟩ := ab_bnd hk
        obtain ⟨e2, he2, hk⟩ := ab_bnd hk
        have pe2 : isEn e2 = true := en_of he2
        refine mb_aldE (tu_ly pv0).2.2.2.1 ht3 he2 ?_
        obtain ⟨σ1, hσ1, hk⟩ := ab_bnd hk
        refine mb_astE (tu_ly pv0).2.2.2.1 (en_ly pe2).1 hσ1 ?_
        exact ih _ _ _ pv0 pv5 _ _ hk
noncomputable def g_X6_addEntry (a0 : Nat) (a1 : Nat) (a3 : Int) (a4 : Int) (σ : st_S) : Option st_S :=
  if σ a0 1 < (72 : Int) then
    (sa_ld σ (a0 + 1) 72 (σ a0 1)).bind fun t1 =>
    (sa_en t1).bind fun e1 =>
    (some (up2 σ e1 0 a3)).bind fun σ1 =>
    (sa_ld σ1 (a1 + 1) 12 a3).bind fun t2 =>
    (some (up2 σ1 e1 1 t2)).bind fun σ2 =>
    (some (up2 σ2 e1 2 a4)).bind fun σ3 =>
    (sa_ld σ3 (a1 + 3) 72 (ab_w32 ((ab_w32 (a3 * (6 : Int))) + a4))).bind fun t3 =>
    (sa_ld σ3 (a1 + 8) 6 t3).bind fun t4 =>
    (g_X2_turn e1 t4 σ3).bind fun q5 =>
    g_X6_addEntry_L74 (fun w118_0 w118_5 w118_6 σx118 =>
      g_X6_addEntry_J118 w118_0 w118_5 w118_6 σx118) ab_FU a0 e1 (q5 a0 1) q5
  else
  some σ
set_option maxRecDepth 20000 in
theorem s_X6_addEntry {a0 : Nat} {a1 : Nat} {a3 : Int} {a4 : Int} (pa0 : isTu a0 = true) (pa1 : isBk a1 = true) {σ : st_S} {q : st_S} (hk : g_X6_addEntry a0 a1 a3 a4 σ = some q) : f_X6_addEntry ((a0 : Nat) : Int) ((a1 : Nat) : Int) ((150 : Nat) : Int) a3 a4 (mk_ σ) = some (mk_ q) := by
  unfold g_X6_addEntry at hk
  unfold f_X6_addEntry
  refine mb_get (tu_ly pa0).1 ((tu_ly pa0).2.1 _) ?_
  by_cases hc : σ a0 1 < (72 : Int)
  · have hk := ab_ifp hk hc
    refine mb_ifp hc ?_
    refine mb_getR (a0 + 1) (tu_ly pa0).1 ((tu_ly pa0).2.1 _) (by omega) ?_
    refine mb_get (tu_ly pa0).1 ((tu_ly pa0).2.1 _) ?_
    obtain ⟨t1, ht1, hk⟩ := ab_bnd hk
    obtain ⟨e1, he1, hk⟩ := ab_bnd hk
    have pe1 : isEn e1 = true := en_of he1
    refine mb_aldE (tu_ly pa0).2.2.2.1 ht1 he1 ?_
    obtain ⟨σ1, hσ1, hk⟩ := ab_bnd hk
    refine mb_put (en_ly pe1).1 ((en_ly pe1).2.1 _) hσ1 ?_
    refine mb_getR (a1 + 1) (bk_ly pa1).1 ((bk_ly pa1).2.1 _) (by omega) ?_
    obtain ⟨t2, ht2, hk⟩ := ab_bnd hk
    refine mb_ald (bk_ly pa1).2.2.1 ht2 ?_
    obtain ⟨σ2, hσ2, hk⟩ := ab_bnd hk
    refine mb_put (en_ly pe1).1 ((en_ly pe1).2.1 _) hσ2 ?_
    obtain ⟨σ3, hσ3, hk⟩ := ab_bnd hk
    refine mb_put (en_ly pe1).1 ((en_ly pe1).2.1 _) hσ3 ?_
    refine mb_getR (a1 + 8) (bk_ly pa1).1 ((bk_ly pa1).2.1 _) (by omega) ?_
    refine mb_getR (a1 + 3) (bk_ly pa1).1 ((bk_ly pa1).2.1 _) (by omega) ?_
    obtain ⟨t3, ht3, hk⟩ := ab_bnd hk
    refine mb_ald (bk_ly pa1).2.2.2.2.1 ht3 ?_
    obtain ⟨t4, ht4, hk⟩ := ab_bnd hk
    refine mb_ald (bk_ly pa1).2.2.2.2.2.2.2.2.2.1 ht4 ?_
    obtain ⟨q5, hq5, hk⟩ := ab_bnd hk
    refine mb_on (en_ly pe1).1 (s_X2_turn pe1 hq5) ?_
    refine mb_get (tu_ly pa0).1 ((tu_ly pa0).2.1 _) ?_
    refine s_X6_addEntry_L74 (fun w118_0 w118_5 w118_6 pw118_0 pw118_5 σx118 q hk => ?_) _ _ _ _ pa0 pe1 _ _ hk
    · skip
      exact s_X6_addEntry_J118 _ _ _ pw118_0 pw118_5 _ _ hk
  · have hk := ab_ifn hk hc
    refine mb_ifn hc ?_
    obtain rfl := Option.some.inj hk
    rfl
noncomputable def g_X6_numberLinesAndHeads_J102 (rec : Nat → Int → st_S → Option st_S) (k128 : Nat → st_S → Option st_S) (v0 : Nat) (v1 : Int) (v2 : Nat) (σ : st_S) : Option st_S :=
  (some (up2 σ v2 9 (ab_w32 ((σ v0 3) - (1 : Int))))).bind fun σ1 =>
  (some (up2 σ1 v2 10 (ab_w32 ((σ1 v0 5) - (1 : Int))))).bind fun σ2 =>
  rec v0 (ab_w32 (v1 + (1 : Int))) σ2
set_option maxRecDepth 20000 in
theorem s_X6_numberLinesAndHeads_J102 {rec : Nat → Int → st_S → Option st_S} {recf : Int → Int → ab_H → Option ab_H} {k128 : Nat → st_S → Option st_S} {kf128 : Int → ab_H → Option ab_H} (hrec : ∀ (v0 : Nat) (v1 : Int) (pv0 : isTu v0 = true) (σ : st_S) (q : st_S), rec v0 v1 σ = some q → recf ((v0 : Nat) : Int) v1 (mk_ σ) = some (mk_ q)) (hk128 : ∀ (v0 : Nat) (pv0 : isTu v0 = true) (σ : st_S) (q : st_S), k128 v0 σ = some q → kf128 ((v0 : Nat) : Int) (mk_ σ) = some (mk_ q)) : ∀ (v0 : Nat) (v1 : Int) (v2 : Nat) (pv0 : isTu v0 = true) (pv2 : isEn v2 = true) (σ : st_S) (q : st_S), g_X6_numberLinesAndHeads_J102 rec k128 v0 v1 v2 σ = some q → f_X6_numberLinesAndHeads_J102 recf kf128 ((v0 : Nat) : Int) v1 ((v2 : Nat) : Int) (mk_ σ) = some (mk_ q) := by
  intro v0 v1 v2 pv0 pv2 σ q hk
  unfold g_X6_numberLinesAndHeads_J102 at hk
  unfold f_X6_numberLinesAndHeads_J102
  refine mb_get (tu_ly pv0).1 ((tu_ly pv0).2.1 _) ?_
  obtain ⟨σ1, hσ1, hk⟩ := ab_bnd hk
  refine mb_put (en_ly pv2).1 ((en_ly pv2).2.1 _) hσ1 ?_
  refine mb_get (tu_ly pv0).1 ((tu_ly pv0).2.1 _) ?_
  obtain ⟨σ2, hσ2, hk⟩ := ab_bnd hk
  refine mb_put (en_ly pv2).1 ((en_ly pv2).2.1 _) hσ2 ?_
  exact hrec _ _ pv0 _ _ hk
noncomputable def g_X6_numberLinesAndHeads_J85 (rec : Nat → Int → st_S → Option st_S) (k128 : Nat → st_S → Option st_S) (v0 : Nat) (v1 : Int) (v2 : Nat) (σ : st_S) : Option st_S :=
  (some (up2 σ v0 5 (ab_w32 ((σ v0 5) + (1 : Int))))).bind fun σ1 =>
  (sa_st σ1 (v0 + 3) 73 (σ v0 5) v1).bind fun σ2 =>
  g_X6_numberLinesAndHeads_J102 rec k128 v0 v1 v2 σ2
set_option maxRecDepth 20000 in
theorem s_X6_numberLinesAndHeads_J85 {rec : Nat → Int → st_S → Option st_S} {recf : Int → Int → ab_H → Option ab_H} {k128 : Nat → st_S → Option st_S} {kf128 : Int → ab_H → Option ab_H} (hrec : ∀ (v0 : Nat) (v1 : Int) (pv0 : isTu v0 = true) (σ : st_S) (q : st_S), rec v0 v1 σ = some q → recf ((v0 : Nat) : Int) v1 (mk_ σ) = some (mk_ q)) (hk128 : ∀ (v0 : Nat) (pv0 : isTu v0 = true) (σ : st_S) (q : st_S), k128 v0 σ = some q → kf128 ((v0 : Nat) : Int) (mk_ σ) = some (mk_ q)) : ∀ (v0 : Nat) (v1 : Int) (v2 : Nat) (pv0 : isTu v0 = true) (pv2 : isEn v2 = true) (σ : st_S) (q : st_S), g_X6_numberLinesAndHeads_J85 rec k128 v0 v1 v2 σ = some q → f_X6_numberLinesAndHeads_J85 recf kf128 ((v0 : Nat) : Int) v1 ((v2 : Nat) : Int) (mk_ σ) = some (mk_ q) := by
  intro v0 v1 v2 pv0 pv2 σ q hk
  unfold g_X6_numberLinesAndHeads_J85 at hk
  unfold f_X6_numberLinesAndHeads_J85
  refine mb_getR (v0 + 3) (tu_ly pv0).1 ((tu_ly pv0).2.1 _) (by omega) ?_
  refine mb_get (tu_ly pv0).1 ((tu_ly pv0).2.1 _) ?_
  obtain ⟨σ1, hσ1, hk⟩ := ab_bnd hk
  refine mb_put (tu_ly pv0).1 ((tu_ly pv0).2.1 _) hσ1 ?_
  obtain ⟨σ2, hσ2, hk⟩ := ab_bnd hk
  refine mb_ast (tu_ly pv0).2.2.2.2.2 hσ2 ?_
  exact s_X6_numberLinesAndHeads_J102 hrec hk128 _ _ _ pv0 pv2 _ _ hk
noncomputable def g_X6_numberLinesAndHeads_J63 (rec : Nat → Int → st_S → Option st_S) (k128 : Nat → st_S → Option st_S) (v0 : Nat) (v1 : Int) (v2 : Nat) (σ : st_S) : Option st_S :=
  if v1 = (0 : Int) then
    g_X6_numberLinesAndHeads_J85 rec k128 v0 v1 v2 σ
  else
  (sa_ld σ (v0 + 1) 72 (ab_w32 (v1 - (1 : Int)))).bind fun t1 =>
  (sa_en t1).bind fun e1 =>
  if σ v2 3 = σ e1 3 then
    g_X6_numberLinesAndHeads_J102 rec k128 v0 v1 v2 σ
  else
  g_X6_numberLinesAndHeads_J85 rec k128 v0 v1 v2 σ
set_option maxRecDepth 20000 in
theorem s_X6_numberLinesAndHeads_J63 {rec : Nat → Int → st_S → Option st_S} {recf : Int → Int → ab_H → Option ab_H} {k128 : Nat → st_S → Option st_S} {kf128 : Int → ab_H → Option ab_H} (hrec : ∀ (v0 : Nat) (v1 : Int) (pv0 : isTu v0 = true) (σ : st_S) (q : st_S), rec v0 v1 σ = some q → recf ((v0 : Nat) : Int) v1 (mk_ σ) = some (mk_ q)) (hk128 : ∀ (v0 : Nat) (pv0 : isTu v0 = true) (σ : st_S) (q : st_S), k128 v0 σ = some q → kf128 ((v0 : Nat) : Int) (mk_ σ) = some (mk_ q)) : ∀ (v0 : Nat) (v1 : Int) (v2 : Nat) (pv0 : isTu v0 = true) (pv2 : isEn v2 = true) (σ : st_S) (q : st_S), g_X6_numberLinesAndHeads_J63 rec k128 v0 v1 v2 σ = some q → f_X6_numberLinesAndHeads_J63 recf kf128 ((v0 : Nat) : Int) v1 ((v2 : Nat) : Int) (mk_ σ) = some (mk_ q) := by
  intro v0 v1 v2 pv0 pv2 σ q hk
  unfold g_X6_numberLinesAndHeads_J63 at hk
  unfold f_X6_numberLinesAndHeads_J63
  by_cases hc : v1 = (0 : Int)
  · have hk := ab_ifp hk hc
    refine mb_ifp hc ?_
    exact s_X6_numberLinesAndHeads_J85 hrec hk128 _ _ _ pv0 pv2 _ _ hk
  · have hk := ab_ifn hk hc
    refine mb_ifn hc ?_
    refine mb_get (en_ly pv2).1 ((en_ly pv2).2.1 _) ?_
    refine mb_getR (v0 + 1) (tu_ly pv0).1 ((tu_ly pv0).2.1 _) (by omega) ?_
    obtain ⟨t1, ht1, hk⟩ := ab_bnd hk
    obtain ⟨e1, he1, hk⟩ := ab_bnd hk
    have pe1 : isEn e1 = true := en_of he1
    refine mb_aldE (tu_ly pv0).2.2.2.1 ht1 he1 ?_
    refine mb_get (en_ly pe1).1 ((en_ly pe1).2.1 _) ?_
    by_cases hc : σ v2 3 = σ e1 3
    · have hk := ab_ifp hk hc
      refine mb_ifp hc ?_
      exact s_X6_numberLinesAndHeads_J102 hrec hk128 _ _ _ pv0 pv2 _ _ hk
    · have hk := ab_ifn hk hc
      refine mb_ifn hc ?_
      exact s_X6_numberLinesAndHeads_J85 hrec hk128 _ _ _ pv0 pv2 _ _ hk
noncomputable def g_X6_numberLinesAndHeads_J46 (rec : Nat → Int → st_S → Option st_S) (k128 : Nat → st_S → Option st_S) (v0 : Nat) (v1 : Int) (v2 : Nat) (σ : st_S) : Option st_S :=
  (some (up2 σ v0 3 (ab_w32 ((σ v0 3) + (1 : Int))))).bind fun σ1 =>
  (sa_st σ1 (v0 + 2) 73 (σ v0 3) v1).bind fun σ2 =>
  g_X6_numberLinesAndHeads_J63 rec k128 v0 v1 v2 σ2
set_option maxRecDepth 20000 in
theorem s_X6_numberLinesAndHeads_J46 {rec : Nat → Int → st_S → Option st_S} {recf : Int → Int → ab_H → Option ab_H} {k128 : Nat → st_S → Option st_S} {kf128 : Int → ab_H → Option ab_H} (hrec : ∀ (v0 : Nat) (v1 : Int) (pv0 : isTu v0 = true) (σ : st_S) (q : st_S), rec v0 v1 σ = some q → recf ((v0 : Nat) : Int) v1 (mk_ σ) = some (mk_ q)) (hk128 : ∀ (v0 : Nat) (pv0 : isTu v0 = true) (σ : st_S) (q : st_S), k128 v0 σ = some q → kf128 ((v0 : Nat) : Int) (mk_ σ) = some (mk_ q)) : ∀ (v0 : Nat) (v1 : Int) (v2 : Nat) (pv0 : isTu v0 = true) (pv2 : isEn v2 = true) (σ : st_S) (q : st_S), g_X6_numberLinesAndHeads_J46 rec k128 v0 v1 v2 σ = some q → f_X6_numberLinesAndHeads_J46 recf kf128 ((v0 : Nat) : Int) v1 ((v2 : Nat) : Int) (mk_ σ) = some (mk_ q) := by
  intro v0 v1 v2 pv0 pv2 σ q hk
  unfold g_X6_numberLinesAndHeads_J46 at hk
  unfold f_X6_numberLinesAndHeads_J46
  refine mb_getR (v0 + 2) (tu_ly pv0).1 ((tu_ly pv0).2.1 _) (by omega) ?_
  refine mb_get (tu_ly pv0).1 ((tu_ly pv0).2.1 _) ?_
  obtain ⟨σ1, hσ1, hk⟩ := ab_bnd hk
  refine mb_put (tu_ly pv0).1 ((tu_ly pv0).2.1 _) hσ1 ?_
  obtain ⟨σ2, hσ2, hk⟩ := ab_bnd hk
  refine mb_ast (tu_ly pv0).2.2.2.2.1 hσ2 ?_
  exact s_X6_numberLinesAndHeads_J63 hrec hk128 _ _ _ pv0 pv2 _ _ hk
noncomputable def g_X6_numberLinesAndHeads_L12 (k128 : Nat → st_S → Option st_S) : Nat → Nat → Int → st_S → Option st_S
  | 0, _, _, _ => none
  | n + 1, v0, v1, σ =>
    if σ v0 1 ≤ v1 then
      k128 v0 σ
    else
    (sa_ld σ (v0 + 1) 72 v1).bind fun t1 =>
    (sa_en t1).bind fun e1 =>
    if v1 = (0 : Int) then
      g_X6_numberLinesAndHeads_J46 (g_X6_numberLinesAndHeads_L12 k128 n) k128 v0 v1 e1 σ
    else
    (sa_ld σ (v0 + 1) 72 (ab_w32 (v1 - (1 : Int)))).bind fun t2 =>
    (sa_en t2).bind fun e2 =>
    (g_X2_compareWords e1 e2 σ).bind fun q3 =>
    if q3.1 = (0 : Int) then
      g_X6_numberLinesAndHeads_J63 (g_X6_numberLinesAndHeads_L12 k128 n) k128 v0 v1 e1 q3.2
    else
    g_X6_numberLinesAndHeads_J46 (g_X6_numberLinesAndHeads_L12 k128 n) k128 v0 v1 e1 q3.2
set_option maxRecDepth 20000 in
theorem s_X6_numberLinesAndHeads_L12 {k128 : Nat → st_S → Option st_S} {kf128 : Int → ab_H → Option ab_H} (hk128 : ∀ (v0 : Nat) (pv0 : isTu v0 = true) (σ : st_S) (q : st_S), k128 v0 σ = some q → kf128 ((v0 : Nat) : Int) (mk_ σ) = some (mk_ q)) : ∀ (n : Nat) (v0 : Nat) (v1 : Int) (pv0 : isTu v0 = true) (σ : st_S) (q : st_S), g_X6_numberLinesAndHeads_L12 k128 n v0 v1 σ = some q → f_X6_numberLinesAndHeads_L12 kf128 n ((v0 : Nat) : Int) v1 (mk_ σ) = some (mk_ q) := by
  intro n
  induction n with
  | zero => intro v0 v1 pv0 σ q hk; cases hk
  | succ n ih =>
    intro v0 v1 pv0 σ q hk
    unfold g_X6_numberLinesAndHeads_L12 at hk
    unfold f_X6_numberLinesAndHeads_L12
    refine mb_get (tu_ly pv0).1 ((tu_ly pv0).2.1 _) ?_
    by_cases hc : σ v0 1 ≤ v1
    · have hk := ab_ifp hk hc
      refine mb_ifp hc ?_
      exact hk128 _ pv0 _ _ hk
    · have hk := ab_ifn hk hc
      refine mb_ifn hc ?_
      refine mb_getR (v0 + 1) (tu_ly pv0).1 ((tu_ly pv0).2.1 _) (by omega) ?_
      obtain ⟨t1, ht1, hk⟩ := ab_bnd hk
      obtain ⟨e1, he1, hk⟩ := ab_bnd hk
      have pe1 : isEn e1 = true := en_of he1
      refine mb_aldE (tu_ly pv0).2.2.2.1 ht1 he1 ?_
      by_cases hc : v1 = (0 : Int)
      · have hk := ab_ifp hk hc
        refine mb_ifp hc ?_
        exact s_X6_numberLinesAndHeads_J46 ih hk128 _ _ _ pv0 pe1 _ _ hk
      · have hk := ab_ifn hk hc
        refine mb_ifn hc ?_
        refine mb_getR (v0 + 1) (tu_ly pv0).1 ((tu_ly pv0).2.1 _) (by omega) ?_
        obtain ⟨t2, ht2, hk⟩ := ab_bnd hk
        obtain ⟨e2, he2, hk⟩ := ab_bnd hk
        have pe2 : isEn e2 = true := en_of he2
        refine mb_aldE (tu_ly pv0).2.2.2.1 ht2 he2 ?_
        obtain ⟨q3, hq3, hk⟩ := ab_bnd hk
        refine mb_on (en_ly pe1).1 (s_X2_compareWords pe1 pe2 hq3) ?_
        by_cases hc : q3.1 = (0 : Int)
        · have hk := ab_ifp hk hc
          refine mb_ifp hc ?_
          exact s_X6_numberLinesAndHeads_J63 ih hk128 _ _ _ pv0 pe1 _ _ hk
        · have hk := ab_ifn hk hc
          refine mb_ifn hc ?_
          exact s_X6_numberLinesAndHeads_J46 ih hk128 _ _ _ pv0 pe1 _ _ hk
noncomputable def g_X6_numberLinesAndHeads (a0 : Nat) (σ : st_S) : Option st_S :=
  (some (up2 σ a0 3 (0 : Int))).bind fun σ1 =>
  (some (up2 σ1 a0 5 (0 : Int))).bind fun σ2 =>
  g_X6_numberLinesAndHeads_L12 (fun w128_0 σx128 =>
    (sa_st σx128 (w128_0 + 2) 73 (σx128 w128_0 3) (σx128 w128_0 1)).bind fun σ3 =>
    (sa_st σ3 (w128_0 + 3) 73 (σ3 w128_0 5) (σ3 w128_0 1)).bind fun σ4 =>
    some σ4) ab_FU a0 (0 : Int) σ2
set_option maxRecDepth 20000 in
theorem s_X6_numberLinesAndHeads {a0 : Nat} (pa0 : isTu a0 = true) {σ : st_S} {q : st_S} (hk : g_X6_numberLinesAndHeads a0 σ = some q) : f_X6_numberLinesAndHeads ((a0 : Nat) : Int) (mk_ σ) = some (mk_ q) := by
  unfold g_X6_numberLinesAndHeads at hk
  unfold f_X6_numberLinesAndHeads
  obtain ⟨σ1, hσ1, hk⟩ := ab_bnd hk
  refine mb_put (tu_ly pa0).1 ((tu_ly pa0).2.1 _) hσ1 ?_
  obtain ⟨σ2, hσ2, hk⟩ := ab_bnd hk
  refine mb_put (tu_ly pa0).1 ((tu_ly pa0).2.1 _) hσ2 ?_
  refine s_X6_numberLinesAndHeads_L12 (fun w128_0 pw128_0 σx128 q hk => ?_) _ _ _ pa0 _ _ hk
  · skip
    refine mb_getR (w128_0 + 2) (tu_ly pw128_0).1 ((tu_ly pw128_0).2.1 _) (by omega) ?_
    refine mb_get (tu_ly pw128_0).1 ((tu_ly pw128_0).2.1 _) ?_
    refine mb_get (tu_ly pw128_0).1 ((tu_ly pw128_0).2.1 _) ?_
    obtain ⟨σ3, hσ3, hk⟩ := ab_bnd hk
    refine mb_ast (tu_ly pw128_0).2.2.2.2.1 hσ3 ?_
    refine mb_getR (w128_0 + 3) (tu_ly pw128_0).1 ((tu_ly pw128_0).2.1 _) (by omega) ?_
    refine mb_get (tu_ly pw128_0).1 ((tu_ly pw128_0).2.1 _) ?_
    refine mb_get (tu_ly pw128_0).1 ((tu_ly pw128_0).2.1 _) ?_
    obtain ⟨σ4, hσ4, hk⟩ := ab_bnd hk
    refine mb_ast (tu_ly pw128_0).2.2.2.2.2 hσ4 ?_
    obtain rfl := Option.some.inj hk
    rfl
noncomputable def g_X6_turnAll_J54 (rec : Nat → Nat → Int → Int → st_S → Option st_S) (k60 : Nat → Nat → Int → st_S → Option st_S) (v0 : Nat) (v1 : Nat) (v3 : Int) (v4 : Int) (σ : st_S) : Option st_S :=
  rec v0 v1 v3 (ab_w32 (v4 + (1 : Int))) σ
set_option maxRecDepth 20000 in
theorem s_X6_turnAll_J54 {rec : Nat → Nat → Int → Int → st_S → Option st_S} {recf : Int → Int → Int → Int → Int → ab_H → Option ab_H} {k60 : Nat → Nat → Int → st_S → Option st_S} {kf60 : Int → Int → Int → Int → ab_H → Option ab_H} (hrec : ∀ (v0 : Nat) (v1 : Nat) (v3 : Int) (v4 : Int) (pv0 : isTu v0 = true) (pv1 : isBk v1 = true) (σ : st_S) (q : st_S), rec v0 v1 v3 v4 σ = some q → recf ((v0 : Nat) : Int) ((v1 : Nat) : Int) ((150 : Nat) : Int) v3 v4 (mk_ σ) = some (mk_ q)) (hk60 : ∀ (v0 : Nat) (v1 : Nat) (v3 : Int) (pv0 : isTu v0 = true) (pv1 : isBk v1 = true) (σ : st_S) (q : st_S), k60 v0 v1 v3 σ = some q → kf60 ((v0 : Nat) : Int) ((v1 : Nat) : Int) ((150 : Nat) : Int) v3 (mk_ σ) = some (mk_ q)) : ∀ (v0 : Nat) (v1 : Nat) (v3 : Int) (v4 : Int) (pv0 : isTu v0 = true) (pv1 : isBk v1 = true) (σ : st_S) (q : st_S), g_X6_turnAll_J54 rec k60 v0 v1 v3 v4 σ = some q → f_X6_turnAll_J54 recf kf60 ((v0 : Nat) : Int) ((v1 : Nat) : Int) ((150 : Nat) : Int) v3 v4 (mk_ σ) = some (mk_ q) := by
  intro v0 v1 v3 v4 pv0 pv1 σ q hk
  unfold g_X6_turnAll_J54 at hk
  unfold f_X6_turnAll_J54
  exact hrec _ _ _ _ pv0 pv1 _ _ hk
noncomputable def g_X6_turnAll_L18 (k60 : Nat → Nat → Int → st_S → Option st_S) : Nat → Nat → Nat → Int → Int → st_S → Option st_S
  | 0, _, _, _, _, _ => none
  | n + 1, v0, v1, v3, v4, σ =>
    (sa_ld σ (v1 + 2) 12 v3).bind fun t1 =>
    if t1 ≤ v4 then
      k60 v0 v1 v3 σ
    else
    (sa_ld σ (v1 + 4) 72 (ab_w32 ((ab_w32 (v3 * (6 : Int))) + v4))).bind fun t2 =>
    if t2 = (1 : Int) then
      (g_X6_addEntry v0 v1 v3 v4 σ).bind fun q3 =>
      g_X6_turnAll_J54 (g_X6_turnAll_L18 k60 n) k60 v0 v1 v3 v4 q3
    else
    g_X6_turnAll_J54 (g_X6_turnAll_L18 k60 n) k60 v0 v1 v3 v4 σ
set_option maxRecDepth 20000 in
theorem s_X6_turnAll_L18 {k60 : Nat → Nat → Int → st_S → Option st_S} {kf60 : Int → Int → Int → Int → ab_H → Option ab_H} (hk60 : ∀ (v0 : Nat) (v1 : Nat) (v3 : Int) (pv0 : isTu v0 = true) (pv1 : isBk v1 = true) (σ : st_S) (q : st_S), k60 v0 v1 v3 σ = some q → kf60 ((v0 : Nat) : Int) ((v1 : Nat) : Int) ((150 : Nat) : Int) v3 (mk_ σ) = some (mk_ q)) : ∀ (n : Nat) (v0 : Nat) (v1 : Nat) (v3 : Int) (v4 : Int) (pv0 : isTu v0 = true) (pv1 : isBk v1 = true) (σ : st_S) (q : st_S), g_X6_turnAll_L18 k60 n v0 v1 v3 v4 σ = some q → f_X6_turnAll_L18 kf60 n ((v0 : Nat) : Int) ((v1 : Nat) : Int) ((150 : Nat) : Int) v3 v4 (mk_ σ) = some (mk_ q) := by
  intro n
  induction n with
  | zero => intro v0 v1 v3 v4 pv0 pv1 σ q hk; cases hk
  | succ n ih =>
    intro v0 v1 v3 v4 pv0 pv1 σ q hk
    unfold g_X6_turnAll_L18 at hk
    unfold f_X6_turnAll_L18
    refine mb_getR (v1 + 2) (bk_ly pv1).1 ((bk_ly pv1).2.1 _) (by omega) ?_
    obtain ⟨t1, ht1, hk⟩ := ab_bnd hk
    refine mb_ald (bk_ly pv1).2.2.2.1 ht1 ?_
    by_cases hc : t1 ≤ v4
    · have hk := ab_ifp hk hc
      refine mb_ifp hc ?_
      exact hk60 _ _ _ pv0 pv1 _ _ hk
    · have hk := ab_ifn hk hc
      refine mb_ifn hc ?_
      refine mb_getR (v1 + 4) (bk_ly pv1).1 ((bk_ly pv1).2.1 _) (by omega) ?_
      obtain ⟨t2, ht2, hk⟩ := ab_bnd hk
      refine mb_ald (bk_ly pv1).2.2.2.2.2.1 ht2 ?_
      by_cases hc : t2 = (1 : Int)
      · have hk := ab_ifp hk hc
        refine mb_ifp hc ?_
        obtain ⟨q3, hq3, hk⟩ := ab_bnd hk
        refine mb_on (tu_ly pv0).1 (s_X6_addEntry pv0 pv1 hq3) ?_
        exact s_X6_turnAll_J54 ih hk60 _ _ _ _ pv0 pv1 _ _ hk
      · have hk := ab_ifn hk hc
        refine mb_ifn hc ?_
        exact s_X6_turnAll_J54 ih hk60 _ _ _ _ pv0 pv1 _ _ hk
noncomputable def g_X6_turnAll_L7 (k66 : Nat → st_S → Option st_S) : Nat → Nat → Nat → Int → st_S → Option st_S
  | 0, _, _, _, _ => none
  | n + 1, v0, v1, v3, σ =>
    if σ v1 0 ≤ v3 then
      k66 v0 σ
    else
    g_X6_turnAll_L18 (fun w60_0 w60_1 w60_3 σx60 =>
      g_X6_turnAll_L7 k66 n w60_0 w60_1 (ab_w32 (w60_3 + (1 : Int))) σx60) ab_FU v0 v1 v3 (0 : Int) σ
set_option maxRecDepth 20000 in
theorem s_X6_turnAll_L7 {k66 : Nat → st_S → Option st_S} {kf66 : Int → ab_H → Option ab_H} (hk66 : ∀ (v0 : Nat) (pv0 : isTu v0 = true) (σ : st_S) (q : st_S), k66 v0 σ = some q → kf66 ((v0 : Nat) : Int) (mk_ σ) = some (mk_ q)) : ∀ (n : Nat) (v0 : Nat) (v1 : Nat) (v3 : Int) (pv0 : isTu v0 = true) (pv1 : isBk v1 = true) (σ : st_S) (q : st_S), g_X6_turnAll_L7 k66 n v0 v1 v3 σ = some q → f_X6_turnAll_L7 kf66 n ((v0 : Nat) : Int) ((v1 : Nat) : Int) ((150 : Nat) : Int) v3 (mk_ σ) = some (mk_ q) := by
  intro n
  induction n with
  | zero => intro v0 v1 v3 pv0 pv1 σ q hk; cases hk
  | succ n ih =>
    intro v0 v1 v3 pv0 pv1 σ q hk
    unfold g_X6_turnAll_L7 at hk
    unfold f_X6_turnAll_L7
    refine mb_get (bk_ly pv1).1 ((bk_ly pv1).2.1 _) ?_
    by_cases hc : σ v1 0 ≤ v3
    · have hk := ab_ifp hk hc
      refine mb_ifp hc ?_
      exact hk66 _ pv0 _ _ hk
    · have hk := ab_ifn hk hc
      refine mb_ifn hc ?_
      refine s_X6_turnAll_L18 (fun w60_0 w60_1 w60_3 pw60_0 pw60_1 σx60 q hk => ?_) _ _ _ _ _ pv0 pv1 _ _ hk
      · skip
        exact ih _ _ _ pw60_0 pw60_1 _ _ hk
noncomputable def g_X6_turnAll (a0 : Nat) (a1 : Nat) (σ : st_S) : Option st_S :=
  (some (up2 σ a0 1 (0 : Int))).bind fun σ1 =>
  g_X6_turnAll_L7 (fun w66_0 σx66 =>
    (g_X6_numberLinesAndHeads w66_0 σx66).bind fun q1 =>
    some q1) ab_FU a0 a1 (0 : Int) σ1
set_option maxRecDepth 20000 in
theorem s_X6_turnAll {a0 : Nat} {a1 : Nat} (pa0 : isTu a0 = true) (pa1 : isBk a1 = true) {σ : st_S} {q : st_S} (hk : g_X6_turnAll a0 a1 σ = some q) : f_X6_turnAll ((a0 : Nat) : Int) ((a1 : Nat) : Int) ((150 : Nat) : Int) (mk_ σ) = some (mk_ q) := by
  unfold g_X6_turnAll at hk
  unfold f_X6_turnAll
  obtain ⟨σ1, hσ1, hk⟩ := ab_bnd hk
  refine mb_put (tu_ly pa0).1 ((tu_ly pa0).2.1 _) hσ1 ?_
  refine s_X6_turnAll_L7 (fun w66_0 pw66_0 σx66 q hk => ?_) _ _ _ _ pa0 pa1 _ _ hk
  · skip
    obtain ⟨q1, hq1, hk⟩ := ab_bnd hk
    refine mb_on (tu_ly pw66_0).1 (s_X6_numberLinesAndHeads pw66_0 hq1) ?_
    obtain rfl := Option.some.inj hk
    rfl
noncomputable def g_X6_stringsAmong_L5 : Nat → Nat → Int → Int → Int → st_S → Option (Int × st_S)
  | 0, _, _, _, _, _ => none
  | n + 1, v0, v2, v3, v4, σ =>
    if v2 ≤ v4 then
      some (v3, σ)
    else
    (sa_ld σ (v0 + 1) 72 v4).bind fun t1 =>
    (sa_en t1).bind fun e1 =>
    g_X6_stringsAmong_L5 n v0 v2 (ab_or v3 (ab_shl (1 : Int) (σ e1 0))) (ab_w32 (v4 + (1 : Int))) σ
set_option maxRecDepth 20000 in
theorem s_X6_stringsAmong_L5 : ∀ (n : Nat) (v0 : Nat) (v2 : Int) (v3 : Int) (v4 : Int) (pv0 : isTu v0 = true) (σ : st_S) (q : Int × st_S), g_X6_stringsAmong_L5 n v0 v2 v3 v4 σ = some q → f_X6_stringsAmong_L5 n ((v0 : Nat) : Int) v2 v3 v4 (mk_ σ) = some ((q.1, mk_ q.2)) := by
  intro n
  induction n with
  | zero => intro v0 v2 v3 v4 pv0 σ q hk; cases hk
  | succ n ih =>
    intro v0 v2 v3 v4 pv0 σ q hk
    unfold g_X6_stringsAmong_L5 at hk
    unfold f_X6_stringsAmong_L5
    by_cases hc : v2 ≤ v4
    · have hk := ab_ifp hk hc
      refine mb_ifp hc ?_
      obtain rfl := Option.some.inj hk
      rfl
    · have hk := ab_ifn hk hc
      refine mb_ifn hc ?_
      refine mb_getR (v0 + 1) (tu_ly pv0).1 ((tu_ly pv0).2.1 _) (by omega) ?_
      obtain ⟨t1, ht1, hk⟩ := ab_bnd hk
      obtain ⟨e1, he1, hk⟩ := ab_bnd hk
      have pe1 : isEn e1 = true := en_of he1
      refine mb_aldE (tu_ly pv0).2.2.2.1 ht1 he1 ?_
      refine mb_get (en_ly pe1).1 ((en_ly pe1).2.1 _) ?_
      exact ih _ _ _ _ pv0 _ _ hk
noncomputable def g_X6_stringsAmong (a0 : Nat) (a1 : Int) (a2 : Int) (σ : st_S) : Option (Int × st_S) :=
  g_X6_stringsAmong_L5 ab_FU a0 a2 (0 : Int) a1 σ
set_option maxRecDepth 20000 in
theorem s_X6_stringsAmong {a0 : Nat} {a1 : Int} {a2 : Int} (pa0 : isTu a0 = true) {σ : st_S} {q : Int × st_S} (hk : g_X6_stringsAmong a0 a1 a2 σ = some q) : f_X6_stringsAmong ((a0 : Nat) : Int) a1 a2 (mk_ σ) = some ((q.1, mk_ q.2)) := by
  unfold g_X6_stringsAmong at hk
  unfold f_X6_stringsAmong
  refine s_X6_stringsAmong_L5 _ _ _ _ _ pa0 _ _ hk
noncomputable def g_X6_stringsOfLine (a0 : Nat) (a1 : Int) (σ : st_S) : Option (Int × st_S) :=
  (sa_ld σ (a0 + 2) 73 a1).bind fun t1 =>
  (sa_ld σ (a0 + 2) 73 (ab_w32 (a1 + (1 : Int)))).bind fun t2 =>
  (g_X6_stringsAmong a0 t1 t2 σ).bind fun q3 =>
  some (q3.1, q3.2)
set_option maxRecDepth 20000 in
theorem s_X6_stringsOfLine {a0 : Nat} {a1 : Int} (pa0 : isTu a0 = true) {σ : st_S} {q : Int × st_S} (hk : g_X6_stringsOfLine a0 a1 σ = some q) : f_X6_stringsOfLine ((a0 : Nat) : Int) a1 (mk_ σ) = some ((q.1, mk_ q.2)) := by
  unfold g_X6_stringsOfLine at hk
  unfold f_X6_stringsOfLine
  refine mb_getR (a0 + 2) (tu_ly pa0).1 ((tu_ly pa0).2.1 _) (by omega) ?_
  obtain ⟨t1, ht1, hk⟩ := ab_bnd hk
  refine mb_ald (tu_ly pa0).2.2.2.2.1 ht1 ?_
  refine mb_getR (a0 + 2) (tu_ly pa0).1 ((tu_ly pa0).2.1 _) (by omega) ?_
  obtain ⟨t2, ht2, hk⟩ := ab_bnd hk
  refine mb_ald (tu_ly pa0).2.2.2.2.1 ht2 ?_
  obtain ⟨q3, hq3, hk⟩ := ab_bnd hk
  refine mb_on (tu_ly pa0).1 (s_X6_stringsAmong pa0 hq3) ?_
  obtain rfl := Option.some.inj hk
  rfl
noncomputable def g_X6_stringsOfHead (a0 : Nat) (a1 : Int) (σ : st_S) : Option (Int × st_S) :=
  (sa_ld σ (a0 + 3) 73 a1).bind fun t1 =>
  (sa_ld σ (a0 + 3) 73 (ab_w32 (a1 + (1 : Int)))).bind fun t2 =>
  (g_X6_stringsAmong a0 t1 t2 σ).bind fun q3 =>
  some (q3.1, q3.2)
set_option maxRecDepth 20000 in
theorem s_X6_stringsOfHead {a0 : Nat} {a1 : Int} (pa0 : isTu a0 = true) {σ : st_S} {q : Int × st_S} (hk : g_X6_stringsOfHead a0 a1 σ = some q) : f_X6_stringsOfHead ((a0 : Nat) : Int) a1 (mk_ σ) = some ((q.1, mk_ q.2)) := by
  unfold g_X6_stringsOfHead at hk
  unfold f_X6_stringsOfHead
  refine mb_getR (a0 + 3) (tu_ly pa0).1 ((tu_ly pa0).2.1 _) (by omega) ?_
  obtain ⟨t1, ht1, hk⟩ := ab_bnd hk
  refine mb_ald (tu_ly pa0).2.2.2.2.2 ht1 ?_
  refine mb_getR (a0 + 3) (tu_ly pa0).1 ((tu_ly pa0).2.1 _) (by omega) ?_
  obtain ⟨t2, ht2, hk⟩ := ab_bnd hk
  refine mb_ald (tu_ly pa0).2.2.2.2.2 ht2 ?_
  obtain ⟨q3, hq3, hk⟩ := ab_bnd hk
  refine mb_on (tu_ly pa0).1 (s_X6_stringsAmong pa0 hq3) ?_
  obtain rfl := Option.some.inj hk
  rfl
noncomputable def g_X6_doublesOf_J40 (rec : Nat → Int → Int → Int → st_S → Option (Int × st_S)) (v0 : Nat) (v1 : Int) (v2 : Int) (v3 : Int) (σ : st_S) : Option (Int × st_S) :=
  rec v0 v1 v2 (ab_w32 (v3 + (1 : Int))) σ
set_option maxRecDepth 20000 in
theorem s_X6_doublesOf_J40 {rec : Nat → Int → Int → Int → st_S → Option (Int × st_S)} {recf : Int → Int → Int → Int → ab_H → Option (Int × ab_H)} (hrec : ∀ (v0 : Nat) (v1 : Int) (v2 : Int) (v3 : Int) (pv0 : isTu v0 = true) (σ : st_S) (q : Int × st_S), rec v0 v1 v2 v3 σ = some q → recf ((v0 : Nat) : Int) v1 v2 v3 (mk_ σ) = some ((q.1, mk_ q.2))) : ∀ (v0 : Nat) (v1 : Int) (v2 : Int) (v3 : Int) (pv0 : isTu v0 = true) (σ : st_S) (q : Int × st_S), g_X6_doublesOf_J40 rec v0 v1 v2 v3 σ = some q → f_X6_doublesOf_J40 recf ((v0 : Nat) : Int) v1 v2 v3 (mk_ σ) = some ((q.1, mk_ q.2)) := by
  intro v0 v1 v2 v3 pv0 σ q hk
  unfold g_X6_doublesOf_J40 at hk
  unfold f_X6_doublesOf_J40
  exact hrec _ _ _ _ pv0 _ _ hk
noncomputable def g_X6_doublesOf_L4 : Nat → Nat → Int → Int → Int → st_S → Option (Int × st_S)
  | 0, _, _, _, _, _ => none
  | n + 1, v0, v1, v2, v3, σ =>
    if σ v0 1 ≤ v3 then
      some (v2, σ)
    else
    (sa_ld σ (v0 + 1) 72 v3).bind fun t1 =>
    (sa_en t1).bind fun e1 =>
    if σ e1 0 = v1 then
      (sa_ld σ (v0 + 1) 72 v3).bind fun t2 =>
      (sa_en t2).bind fun e2 =>
      (g_J6_bitCount_0f7a4 (σ e2 8) σ).bind fun q3 =>
      g_X6_doublesOf_J40 (g_X6_doublesOf_L4 n) v0 v1 (ab_w32 (v2 + q3.1)) v3 q3.2
    else
    g_X6_doublesOf_J40 (g_X6_doublesOf_L4 n) v0 v1 v2 v3 σ
set_option maxRecDepth 20000 in
theorem s_X6_doublesOf_L4 : ∀ (n : Nat) (v0 : Nat) (v1 : Int) (v2 : Int) (v3 : Int) (pv0 : isTu v0 = true) (σ : st_S) (q : Int × st_S), g_X6_doublesOf_L4 n v0 v1 v2 v3 σ = some q → f_X6_doublesOf_L4 n ((v0 : Nat) : Int) v1 v2 v3 (mk_ σ) = some ((q.1, mk_ q.2)) := by
  intro n
  induction n with
  | zero => intro v0 v1 v2 v3 pv0 σ q hk; cases hk
  | succ n ih =>
    intro v0 v1 v2 v3 pv0 σ q hk
    unfold g_X6_doublesOf_L4 at hk
    unfold f_X6_doublesOf_L4
    refine mb_get (tu_ly pv0).1 ((tu_ly pv0).2.1 _) ?_
    by_cases hc : σ v0 1 ≤ v3
    · have hk := ab_ifp hk hc
      refine mb_ifp hc ?_
      obtain rfl := Option.some.inj hk
      rfl
    · have hk := ab_ifn hk hc
      refine mb_ifn hc ?_
      refine mb_getR (v0 + 1) (tu_ly pv0).1 ((tu_ly pv0).2.1 _) (by omega) ?_
      obtain ⟨t1, ht1, hk⟩ := ab_bnd hk
      obtain ⟨e1, he1, hk⟩ := ab_bnd hk
      have pe1 : isEn e1 = true := en_of he1
      refine mb_aldE (tu_ly pv0).2.2.2.1 ht1 he1 ?_
      refine mb_get (en_ly pe1).1 ((en_ly pe1).2.1 _) ?_
      by_cases hc : σ e1 0 = v1
      · have hk := ab_ifp hk hc
        refine mb_ifp hc ?_
        refine mb_getR (v0 + 1) (tu_ly pv0).1 ((tu_ly pv0).2.1 _) (by omega) ?_
        obtain ⟨t2, ht2, hk⟩ := ab_bnd hk
        obtain ⟨e2, he2, hk⟩ := ab_bnd hk
        have pe2 : isEn e2 = true := en_of he2
        refine mb_aldE (tu_ly pv0).2.2.2.1 ht2 he2 ?_
        refine mb_get (en_ly pe2).1 ((en_ly pe2).2.1 _) ?_
        obtain ⟨q3, hq3, hk⟩ := ab_bnd hk
        refine mb_eq (s_J6_bitCount_0f7a4 hq3) ?_
        exact s_X6_doublesOf_J40 ih _ _ _ _ pv0 _ _ hk
      · have hk := ab_ifn hk hc
        refine mb_ifn hc ?_
        exact s_X6_doublesOf_J40 ih _ _ _ _ pv0 _ _ hk
noncomputable def g_X6_doublesOf (a0 : Nat) (a1 : Int) (σ : st_S) : Option (Int × st_S) :=
  g_X6_doublesOf_L4 ab_FU a0 a1 (0 : Int) (0 : Int) σ
set_option maxRecDepth 20000 in
theorem s_X6_doublesOf {a0 : Nat} {a1 : Int} (pa0 : isTu a0 = true) {σ : st_S} {q : Int × st_S} (hk : g_X6_doublesOf a0 a1 σ = some q) : f_X6_doublesOf ((a0 : Nat) : Int) a1 (mk_ σ) = some ((q.1, mk_ q.2)) := by
  unfold g_X6_doublesOf at hk
  unfold f_X6_doublesOf
  refine s_X6_doublesOf_L4 _ _ _ _ _ pa0 _ _ hk
noncomputable def g_X6_doublesOfAll_L4 : Nat → Nat → Int → Int → st_S → Option (Int × st_S)
  | 0, _, _, _, _ => none
  | n + 1, v0, v1, v2, σ =>
    if σ v0 1 ≤ v2 then
      some (v1, σ)
    else
    (sa_ld σ (v0 + 1) 72 v2).bind fun t1 =>
    (sa_en t1).bind fun e1 =>
    (g_J6_bitCount_0f7a4 (σ e1 8) σ).bind fun q2 =>
    g_X6_doublesOfAll_L4 n v0 (ab_w32 (v1 + q2.1)) (ab_w32 (v2 + (1 : Int))) q2.2
set_option maxRecDepth 20000 in
theorem s_X6_doublesOfAll_L4 : ∀ (n : Nat) (v0 : Nat) (v1 : Int) (v2 : Int) (pv0 : isTu v0 = true) (σ : st_S) (q : Int × st_S), g_X6_doublesOfAll_L4 n v0 v1 v2 σ = some q → f_X6_doublesOfAll_L4 n ((v0 : Nat) : Int) v1 v2 (mk_ σ) = some ((q.1, mk_ q.2)) := by
  intro n
  induction n with
  | zero => intro v0 v1 v2 pv0 σ q hk; cases hk
  | succ n ih =>
    intro v0 v1 v2 pv0 σ q hk
    unfold g_X6_doublesOfAll_L4 at hk
    unfold f_X6_doublesOfAll_L4
    refine mb_get (tu_ly pv0).1 ((tu_ly pv0).2.1 _) ?_
    by_cases hc : σ v0 1 ≤ v2
    · have hk := ab_ifp hk hc
      refine mb_ifp hc ?_
      obtain rfl := Option.some.inj hk
      rfl
    · have hk := ab_ifn hk hc
      refine mb_ifn hc ?_
      refine mb_getR (v0 + 1) (tu_ly pv0).1 ((tu_ly pv0).2.1 _) (by omega) ?_
      obtain ⟨t1, ht1, hk⟩ := ab_bnd hk
      obtain ⟨e1, he1, hk⟩ := ab_bnd hk
      have pe1 : isEn e1 = true := en_of he1
      refine mb_aldE (tu_ly pv0).2.2.2.1 ht1 he1 ?_
      refine mb_get (en_ly pe1).1 ((en_ly pe1).2.1 _) ?_
      obtain ⟨q2, hq2, hk⟩ := ab_bnd hk
      refine mb_eq (s_J6_bitCount_0f7a4 hq2) ?_
      exact ih _ _ _ pv0 _ _ hk
noncomputable def g_X6_doublesOfAll (a0 : Nat) (σ : st_S) : Option (Int × st_S) :=
  g_X6_doublesOfAll_L4 ab_FU a0 (0 : Int) (0 : Int) σ
set_option maxRecDepth 20000 in
theorem s_X6_doublesOfAll {a0 : Nat} (pa0 : isTu a0 = true) {σ : st_S} {q : Int × st_S} (hk : g_X6_doublesOfAll a0 σ = some q) : f_X6_doublesOfAll ((a0 : Nat) : Int) (mk_ σ) = some ((q.1, mk_ q.2)) := by
  unfold g_X6_doublesOfAll at hk
  unfold f_X6_doublesOfAll
  refine s_X6_doublesOfAll_L4 _ _ _ _ pa0 _ _ hk
noncomputable def g_X6_putJoined_J22 (v0 : Nat) (v4 : Int) (σ : st_S) : Option st_S :=
  if ab_cmp v4 (0 : Int) = (0 : Int) then
    some σ
  else
  (g_X1_put v0 (32 : Int) σ).bind fun q1 =>
  (g_X1_putName v0 v4 q1).bind fun q2 =>
  some q2
set_option maxRecDepth 20000 in
theorem s_X6_putJoined_J22 : ∀ (v0 : Nat) (v4 : Int) (pv0 : isBy v0 = true) (σ : st_S) (q : st_S), g_X6_putJoined_J22 v0 v4 σ = some q → f_X6_putJoined_J22 ((v0 : Nat) : Int) v4 (mk_ σ) = some (mk_ q) := by
  intro v0 v4 pv0 σ q hk
  unfold g_X6_putJoined_J22 at hk
  unfold f_X6_putJoined_J22
  by_cases hc : ab_cmp v4 (0 : Int) = (0 : Int)
  · have hk := ab_ifp hk hc
    refine mb_ifp hc ?_
    obtain rfl := Option.some.inj hk
    rfl
  · have hk := ab_ifn hk hc
    refine mb_ifn hc ?_
    obtain ⟨q1, hq1, hk⟩ := ab_bnd hk
    refine mb_on (by_ly pv0).1 (s_X1_put pv0 hq1) ?_
    obtain ⟨q2, hq2, hk⟩ := ab_bnd hk
    refine mb_on (by_ly pv0).1 (s_X1_putName pv0 hq2) ?_
    obtain rfl := Option.some.inj hk
    rfl
noncomputable def g_X6_putJoined (a0 : Nat) (a1 : Int) (a2 : Int) (a4 : Int) (σ : st_S) : Option st_S :=
  (g_X1_put a0 a1 σ).bind fun q1 =>
  if ab_cmp a2 (0 : Int) = (0 : Int) then
    g_X6_putJoined_J22 a0 a4 q1
  else
  (g_X1_put a0 (32 : Int) q1).bind fun q2 =>
  (g_X1_putName a0 a2 q2).bind fun q3 =>
  g_X6_putJoined_J22 a0 a4 q3
set_option maxRecDepth 20000 in
theorem s_X6_putJoined {a0 : Nat} {a1 : Int} {a2 : Int} {a4 : Int} (pa0 : isBy a0 = true) {σ : st_S} {q : st_S} (hk : g_X6_putJoined a0 a1 a2 a4 σ = some q) : f_X6_putJoined ((a0 : Nat) : Int) a1 a2 a4 (mk_ σ) = some (mk_ q) := by
  unfold g_X6_putJoined at hk
  unfold f_X6_putJoined
  obtain ⟨q1, hq1, hk⟩ := ab_bnd hk
  refine mb_on (by_ly pa0).1 (s_X1_put pa0 hq1) ?_
  by_cases hc : ab_cmp a2 (0 : Int) = (0 : Int)
  · have hk := ab_ifp hk hc
    refine mb_ifp hc ?_
    exact s_X6_putJoined_J22 _ _ pa0 _ _ hk
  · have hk := ab_ifn hk hc
    refine mb_ifn hc ?_
    obtain ⟨q2, hq2, hk⟩ := ab_bnd hk
    refine mb_on (by_ly pa0).1 (s_X1_put pa0 hq2) ?_
    obtain ⟨q3, hq3, hk⟩ := ab_bnd hk
    refine mb_on (by_ly pa0).1 (s_X1_putName pa0 hq3) ?_
    exact s_X6_putJoined_J22 _ _ pa0 _ _ hk
noncomputable def g_X6_printAddresses_J69 (rec : Nat → Int → Nat → Int → Int → st_S → Option st_S) (v0 : Nat) (v1 : Int) (v2 : Nat) (v3 : Int) (v4 : Int) (σ : st_S) : Option st_S :=
  rec v0 v1 v2 v3 (ab_w32 (v4 + (1 : Int))) σ
set_option maxRecDepth 20000 in
theorem s_X6_printAddresses_J69 {rec : Nat → Int → Nat → Int → Int → st_S → Option st_S} {recf : Int → Int → Int → Int → Int → ab_H → Option ab_H} (hrec : ∀ (v0 : Nat) (v1 : Int) (v2 : Nat) (v3 : Int) (v4 : Int) (pv0 : isTu v0 = true) (pv2 : isBy v2 = true) (σ : st_S) (q : st_S), rec v0 v1 v2 v3 v4 σ = some q → recf ((v0 : Nat) : Int) v1 ((v2 : Nat) : Int) v3 v4 (mk_ σ) = some (mk_ q)) : ∀ (v0 : Nat) (v1 : Int) (v2 : Nat) (v3 : Int) (v4 : Int) (pv0 : isTu v0 = true) (pv2 : isBy v2 = true) (σ : st_S) (q : st_S), g_X6_printAddresses_J69 rec v0 v1 v2 v3 v4 σ = some q → f_X6_printAddresses_J69 recf ((v0 : Nat) : Int) v1 ((v2 : Nat) : Int) v3 v4 (mk_ σ) = some (mk_ q) := by
  intro v0 v1 v2 v3 v4 pv0 pv2 σ q hk
  unfold g_X6_printAddresses_J69 at hk
  unfold f_X6_printAddresses_J69
  exact hrec _ _ _ _ _ pv0 pv2 _ _ hk
noncomputable def g_X6_printAddresses_J57 (rec : Nat → Int → Nat → Int → Int → st_S → Option st_S) (v0 : Nat) (v1 : Int) (v2 : Nat) (v4 : Int) (v5 : Int) (s1 : Int) (s0 : Nat) (σ : st_S) : Option st_S :=
  (g_X1_put s0 s1 σ).bind fun q1 =>
  (g_X1_putAddress v2 v5 q1).bind fun q2 =>
  g_X6_printAddresses_J69 rec v0 v1 v2 v5 v4 q2
set_option maxRecDepth 20000 in
theorem s_X6_printAddresses_J57 {rec : Nat → Int → Nat → Int → Int → st_S → Option st_S} {recf : Int → Int → Int → Int → Int → ab_H → Option ab_H} (hrec : ∀ (v0 : Nat) (v1 : Int) (v2 : Nat) (v3 : Int) (v4 : Int) (pv0 : isTu v0 = true) (pv2 : isBy v2 = true) (σ : st_S) (q : st_S), rec v0 v1 v2 v3 v4 σ = some q → recf ((v0 : Nat) : Int) v1 ((v2 : Nat) : Int) v3 v4 (mk_ σ) = some (mk_ q)) : ∀ (v0 : Nat) (v1 : Int) (v2 : Nat) (v4 : Int) (v5 : Int) (s1 : Int) (s0 : Nat) (pv0 : isTu v0 = true) (pv2 : isBy v2 = true) (ps0 : isBy s0 = true) (σ : st_S) (q : st_S), g_X6_printAddresses_J57 rec v0 v1 v2 v4 v5 s1 s0 σ = some q → f_X6_printAddresses_J57 recf ((v0 : Nat) : Int) v1 ((v2 : Nat) : Int) v4 v5 s1 ((s0 : Nat) : Int) (mk_ σ) = some (mk_ q) := by
  intro v0 v1 v2 v4 v5 s1 s0 pv0 pv2 ps0 σ q hk
  unfold g_X6_printAddresses_J57 at hk
  unfold f_X6_printAddresses_J57
  obtain ⟨q1, hq1, hk⟩ := ab_bnd hk
  refine mb_on (by_ly ps0).1 (s_X1_put ps0 hq1) ?_
  obtain ⟨q2, hq2, hk⟩ := ab_bnd hk
  refine mb_on (by_ly pv2).1 (s_X1_putAddress pv2 hq2) ?_
  exact s_X6_printAddresses_J69 hrec _ _ _ _ _ pv0 pv2 _ _ hk
noncomputable def g_X6_printAddresses_L10 : Nat → Nat → Int → Nat → Int → Int → st_S → Option st_S
  | 0, _, _, _, _, _, _ => none
  | n + 1, v0, v1, v2, v3, v4, σ =>
    (sa_ld σ (v0 + 2) 73 (ab_w32 (v1 + (1 : Int)))).bind fun t1 =>
    if t1 ≤ v4 then
      some σ
    else
    (sa_ld σ (v0 + 1) 72 v4).bind fun t2 =>
    (sa_en t2).bind fun e1 =>
    if σ e1 1 = v3 then
      g_X6_printAddresses_J69 (g_X6_printAddresses_L10 n) v0 v1 v2 v3 v4 σ
    else
    if v3 = (-1 : Int) then
      g_X6_printAddresses_J57 (g_X6_printAddresses_L10 n) v0 v1 v2 v4 (σ e1 1) (32 : Int) v2 σ
    else
    g_X6_printAddresses_J57 (g_X6_printAddresses_L10 n) v0 v1 v2 v4 (σ e1 1) (44 : Int) v2 σ
set_option maxRecDepth 20000 in
theorem s_X6_printAddresses_L10 : ∀ (n : Nat) (v0 : Nat) (v1 : Int) (v2 : Nat) (v3 : Int) (v4 : Int) (pv0 : isTu v0 = true) (pv2 : isBy v2 = true) (σ : st_S) (q : st_S), g_X6_printAddresses_L10 n v0 v1 v2 v3 v4 σ = some q → f_X6_printAddresses_L10 n ((v0 : Nat) : Int) v1 ((v2 : Nat) : Int) v3 v4 (mk_ σ) = some (mk_ q) := by
  intro n
  induction n with
  | zero => intro v0 v1 v2 v3 v4 pv0 pv2 σ q hk; cases hk
  | succ n ih =>
    intro v0 v1 v2 v3 v4 pv0 pv2 σ q hk
    unfold g_X6_printAddresses_L10 at hk
    unfold f_X6_printAddresses_L10
    refine mb_getR (v0 + 2) (tu_ly pv0).1 ((tu_ly pv0).2.1 _) (by omega) ?_
    obtain ⟨t1, ht1, hk⟩ := ab_bnd hk
    refine mb_ald (tu_ly pv0).2.2.2.2.1 ht1 ?_
    by_cases hc : t1 ≤ v4
    · have hk := ab_ifp hk hc
      refine mb_ifp hc ?_
      obtain rfl := Option.some.inj hk
      rfl
    · have hk := ab_ifn hk hc
      refine mb_ifn hc ?_
      refine mb_getR (v0 + 1) (tu_ly pv0).1 ((tu_ly pv0).2.1 _) (by omega) ?_
      obtain ⟨t2, ht2, hk⟩ := ab_bnd hk
      obtain ⟨e1, he1, hk⟩ := ab_bnd hk
      have pe1 : isEn e1 = true := en_of he1
      refine mb_aldE (tu_ly pv0).2.2.2.1 ht2 he1 ?_
      refine mb_get (en_ly pe1).1 ((en_ly pe1).2.1 _) ?_
      by_cases hc : σ e1 1 = v3
      · have hk := ab_ifp hk hc
        refine mb_ifp hc ?_
        exact s_X6_printAddresses_J69 ih _ _ _ _ _ pv0 pv2 _ _ hk
      · have hk := ab_ifn hk hc
        refine mb_ifn hc ?_
        by_cases hc : v3 = (-1 : Int)
        · have hk := ab_ifp hk hc
          refine mb_ifp hc ?_
          exact s_X6_printAddresses_J57 ih _ _ _ _ _ _ _ pv0 pv2 pv2 _ _ hk
        · have hk := ab_ifn hk hc
          refine mb_ifn hc ?_
          exact s_X6_printAddresses_J57 ih _ _ _ _ _ _ _ pv0 pv2 pv2 _ _ hk
noncomputable def g_X6_printAddresses (a0 : Nat) (a1 : Int) (a2 : Nat) (σ : st_S) : Option st_S :=
  (sa_ld σ (a0 + 2) 73 a1).bind fun t1 =>
  g_X6_printAddresses_L10 ab_FU a0 a1 a2 (-1 : Int) t1 σ
set_option maxRecDepth 20000 in
theorem s_X6_printAddresses {a0 : Nat} {a1 : Int} {a2 : Nat} (pa0 : isTu a0 = true) (pa2 : isBy a2 = true) {σ : st_S} {q : st_S} (hk : g_X6_printAddresses a0 a1 a2 σ = some q) : f_X6_printAddresses ((a0 : Nat) : Int) a1 ((a2 : Nat) : Int) (mk_ σ) = some (mk_ q) := by
  unfold g_X6_printAddresses at hk
  unfold f_X6_printAddresses
  refine mb_getR (a0 + 2) (tu_ly pa0).1 ((tu_ly pa0).2.1 _) (by omega) ?_
  obtain ⟨t1, ht1, hk⟩ := ab_bnd hk
  refine mb_ald (tu_ly pa0).2.2.2.2.1 ht1 ?_
  refine s_X6_printAddresses_L10 _ _ _ _ _ _ pa0 pa2 _ _ hk
noncomputable def g_X6_printLine_J135 (rec : Nat → Int → Nat → Nat → Int → st_S → Option st_S) (k141 : Nat → Int → Nat → st_S → Option st_S) (v0 : Nat) (v1 : Int) (v4 : Nat) (v5 : Nat) (v6 : Int) (σ : st_S) : Option st_S :=
  rec v0 v1 v4 v5 (ab_w32 (v6 + (1 : Int))) σ
set_option maxRecDepth 20000 in
theorem s_X6_printLine_J135 {rec : Nat → Int → Nat → Nat → Int → st_S → Option st_S} {recf : Int → Int → Int → Int → Int → Int → Int → ab_H → Option ab_H} {k141 : Nat → Int → Nat → st_S → Option st_S} {kf141 : Int → Int → Int → ab_H → Option ab_H} (hrec : ∀ (v0 : Nat) (v1 : Int) (v4 : Nat) (v5 : Nat) (v6 : Int) (pv0 : isTu v0 = true) (pv4 : isBy v4 = true) (pv5 : isEn v5 = true) (σ : st_S) (q : st_S), rec v0 v1 v4 v5 v6 σ = some q → recf ((v0 : Nat) : Int) v1 ((147 : Nat) : Int) ((150 : Nat) : Int) ((v4 : Nat) : Int) ((v5 : Nat) : Int) v6 (mk_ σ) = some (mk_ q)) (hk141 : ∀ (v0 : Nat) (v1 : Int) (v4 : Nat) (pv0 : isTu v0 = true) (pv4 : isBy v4 = true) (σ : st_S) (q : st_S), k141 v0 v1 v4 σ = some q → kf141 ((v0 : Nat) : Int) v1 ((v4 : Nat) : Int) (mk_ σ) = some (mk_ q)) : ∀ (v0 : Nat) (v1 : Int) (v4 : Nat) (v5 : Nat) (v6 : Int) (pv0 : isTu v0 = true) (pv4 : isBy v4 = true) (pv5 : isEn v5 = true) (σ : st_S) (q : st_S), g_X6_printLine_J135 rec k141 v0 v1 v4 v5 v6 σ = some q → f_X6_printLine_J135 recf kf141 ((v0 : Nat) : Int) v1 ((147 : Nat) : Int) ((150 : Nat) : Int) ((v4 : Nat) : Int) ((v5 : Nat) : Int) v6 (mk_ σ) = some (mk_ q) := by
  intro v0 v1 v4 v5 v6 pv0 pv4 pv5 σ q hk
  unfold g_X6_printLine_J135 at hk
  unfold f_X6_printLine_J135
  exact hrec _ _ _ _ _ pv0 pv4 pv5 _ _ hk
noncomputable def g_X6_printLine_J123 (rec : Nat → Int → Nat → Nat → Int → st_S → Option st_S) (k141 : Nat → Int → Nat → st_S → Option st_S) (v0 : Nat) (v1 : Int) (v4 : Nat) (v5 : Nat) (v6 : Int) (v7 : Int) (v8 : Int) (s1 : Int) (s0 : Nat) (σ : st_S) : Option st_S :=
  (sa_ld σ 154 72 v7).bind fun t1 =>
  (g_X6_putJoined s0 s1 t1 v8 σ).bind fun q2 =>
  g_X6_printLine_J135 rec k141 v0 v1 v4 v5 v6 q2
set_option maxRecDepth 20000 in
theorem s_X6_printLine_J123 {rec : Nat → Int → Nat → Nat → Int → st_S → Option st_S} {recf : Int → Int → Int → Int → Int → Int → Int → ab_H → Option ab_H} {k141 : Nat → Int → Nat → st_S → Option st_S} {kf141 : Int → Int → Int → ab_H → Option ab_H} (hrec : ∀ (v0 : Nat) (v1 : Int) (v4 : Nat) (v5 : Nat) (v6 : Int) (pv0 : isTu v0 = true) (pv4 : isBy v4 = true) (pv5 : isEn v5 = true) (σ : st_S) (q : st_S), rec v0 v1 v4 v5 v6 σ = some q → recf ((v0 : Nat) : Int) v1 ((147 : Nat) : Int) ((150 : Nat) : Int) ((v4 : Nat) : Int) ((v5 : Nat) : Int) v6 (mk_ σ) = some (mk_ q)) (hk141 : ∀ (v0 : Nat) (v1 : Int) (v4 : Nat) (pv0 : isTu v0 = true) (pv4 : isBy v4 = true) (σ : st_S) (q : st_S), k141 v0 v1 v4 σ = some q → kf141 ((v0 : Nat) : Int) v1 ((v4 : Nat) : Int) (mk_ σ) = some (mk_ q)) : ∀ (v0 : Nat) (v1 : Int) (v4 : Nat) (v5 : Nat) (v6 : Int) (v7 : Int) (v8 : Int) (s1 : Int) (s0 : Nat) (pv0 : isTu v0 = true) (pv4 : isBy v4 = true) (pv5 : isEn v5 = true) (ps0 : isBy s0 = true) (σ : st_S) (q : st_S), g_X6_printLine_J123 rec k141 v0 v1 v4 v5 v6 v7 v8 s1 s0 σ = some q → f_X6_printLine_J123 recf kf141 ((v0 : Nat) : Int) v1 ((147 : Nat) : Int) ((150 : Nat) : Int) ((v4 : Nat) : Int) ((v5 : Nat) : Int) v6 v7 v8 s1 ((s0 : Nat) : Int) (mk_ σ) = some (mk_ q) := by
  intro v0 v1 v4 v5 v6 v7 v8 s1 s0 pv0 pv4 pv5 ps0 σ q hk
  unfold g_X6_printLine_J123 at hk
  unfold f_X6_printLine_J123
  refine mb_getR 154 rfl rfl (by decide) ?_
  obtain ⟨t1, ht1, hk⟩ := ab_bnd hk
  refine mb_ald ⟨rfl, rfl, fun _ => rfl⟩ ht1 ?_
  obtain ⟨q2, hq2, hk⟩ := ab_bnd hk
  refine mb_eq (s_X6_putJoined ps0 hq2) ?_
  exact s_X6_printLine_J135 hrec hk141 _ _ _ _ _ pv0 pv4 pv5 _ _ hk
noncomputable def g_X6_printLine_L31 (k141 : Nat → Int → Nat → st_S → Option st_S) : Nat → Nat → Int → Nat → Nat → Int → st_S → Option st_S
  | 0, _, _, _, _, _, _ => none
  | n + 1, v0, v1, v4, v5, v6, σ =>
    if σ v5 7 ≤ v6 then
      k141 v0 v1 v4 σ
    else
    (sa_ld σ (v5 + 1) 6 v6).bind fun t1 =>
    (sa_ld σ (v5 + 2) 6 v6).bind fun t2 =>
    (sa_ld σ 148 72 t2).bind fun t3 =>
    if σ v5 6 ≤ v6 then
      if v6 = σ v5 6 then
        g_X6_printLine_J123 (g_X6_printLine_L31 k141 n) k141 v0 v1 v4 v5 v6 (ab_w32 ((ab_w32 ((σ v5 0) * (6 : Int))) + t1)) t3 (58 : Int) v4 σ
      else
      g_X6_printLine_J123 (g_X6_printLine_L31 k141 n) k141 v0 v1 v4 v5 v6 (ab_w32 ((ab_w32 ((σ v5 0) * (6 : Int))) + t1)) t3 (46 : Int) v4 σ
    else
    (sa_ld σ 155 72 (ab_w32 ((ab_w32 ((σ v5 0) * (6 : Int))) + t1))).bind fun t4 =>
    (g_X6_putJoined v4 (44 : Int) t3 t4 σ).bind fun q5 =>
    g_X6_printLine_J135 (g_X6_printLine_L31 k141 n) k141 v0 v1 v4 v5 v6 q5
set_option maxRecDepth 20000 in
theorem s_X6_printLine_L31 {k141 : Nat → Int → Nat → st_S → Option st_S} {kf141 : Int → Int → Int → ab_H → Option ab_H} (hk141 : ∀ (v0 : Nat) (v1 : Int) (v4 : Nat) (pv0 : isTu v0 = true) (pv4 : isBy v4 = true) (σ : st_S) (q : st_S), k141 v0 v1 v4 σ = some q → kf141 ((v0 : Nat) : Int) v1 ((v4 : Nat) : Int) (mk_ σ) = some (mk_ q)) : ∀ (n : Nat) (v0 : Nat) (v1 : Int) (v4 : Nat) (v5 : Nat) (v6 : Int) (pv0 : isTu v0 = true) (pv4 : isBy v4 = true) (pv5 : isEn v5 = true) (σ : st_S) (q : st_S), g_X6_printLine_L31 k141 n v0 v1 v4 v5 v6 σ = some q → f_X6_printLine_L31 kf141 n ((v0 : Nat) : Int) v1 ((147 : Nat) : Int) ((150 : Nat) : Int) ((v4 : Nat) : Int) ((v5 : Nat) : Int) v6 (mk_ σ) = some (mk_ q) := by
  intro n
  induction n with
  | zero => intro v0 v1 v4 v5 v6 pv0 pv4 pv5 σ q hk; cases hk
  | succ n ih =>
    intro v0 v1 v4 v5 v6 pv0 pv4 pv5 σ q hk
    unfold g_X6_printLine_L31 at hk
    unfold f_X6_printLine_L31
    refine mb_get (en_ly pv5).1 ((en_ly pv5).2.1 _) ?_
    by_cases hc : σ v5 7 ≤ v6
    · have hk := ab_ifp hk hc
      refine mb_ifp hc ?_
      exact hk141 _ _ _ pv0 pv4 _ _ hk
    · have hk := ab_ifn hk hc
      refine mb_ifn hc ?_
      refine mb_get (en_ly pv5).1 ((en_ly pv5).2.1 _) ?_
      refine mb_getR (v5 + 1) (en_ly pv5).1 ((en_ly pv5).2.1 _) (by omega) ?_
      obtain ⟨t1, ht1, hk⟩ := ab_bnd hk
      refine mb_ald (en_ly pv5).2.2.1 ht1 ?_
      refine mb_getR 148 rfl rfl (by decide) ?_
      refine mb_getR (v5 + 2) (en_ly pv5).1 ((en_ly pv5).2.1 _) (by omega) ?_
      obtain ⟨t2, ht2, hk⟩ := ab_bnd hk
      refine mb_ald (en_ly pv5).2.2.2 ht2 ?_
      obtain ⟨t3, ht3, hk⟩ := ab_bnd hk
      refine mb_ald ⟨rfl, rfl, fun _ => rfl⟩ ht3 ?_
      refine mb_get (en_ly pv5).1 ((en_ly pv5).2.1 _) ?_
      by_cases hc : σ v5 6 ≤ v6
      · have hk := ab_ifp hk hc
        refine mb_ifp hc ?_
        refine mb_get (en_ly pv5).1 ((en_ly pv5).2.1 _) ?_
        by_cases hc : v6 = σ v5 6
        · have hk := ab_ifp hk hc
          refine mb_ifp hc ?_
          exact s_X6_printLine_J123 ih hk141 _ _ _ _ _ _ _ _ _ pv0 pv4 pv5 pv4 _ _ hk
        · have hk := ab_ifn hk hc
          refine mb_ifn hc ?_
          exact s_X6_printLine_J123 ih hk141 _ _ _ _ _ _ _ _ _ pv0 pv4 pv5 pv4 _ _ hk
      · have hk := ab_ifn hk hc
        refine mb_ifn hc ?_
        refine mb_getR 155 rfl rfl (by decide) ?_
        obtain ⟨t4, ht4, hk⟩ := ab_bnd hk
        refine mb_ald ⟨rfl, rfl, fun _ => rfl⟩ ht4 ?_
        obtain ⟨q5, hq5, hk⟩ := ab_bnd hk
        refine mb_eq (s_X6_putJoined pv4 hq5) ?_
        exact s_X6_printLine_J135 ih hk141 _ _ _ _ _ pv0 pv4 pv5 _ _ hk
noncomputable def g_X6_printLine (a0 : Nat) (a1 : Int) (a4 : Nat) (σ : st_S) : Option st_S :=
  (sa_ld σ (a0 + 2) 73 a1).bind fun t1 =>
  (sa_ld σ (a0 + 1) 72 t1).bind fun t2 =>
  (sa_en t2).bind fun e1 =>
  (sa_ld σ 148 72 (σ e1 3)).bind fun t3 =>
  (g_X1_putName a4 t3 σ).bind fun q4 =>
  g_X6_printLine_L31 (fun w141_0 w141_1 w141_4 σx141 =>
    (g_X6_printAddresses w141_0 w141_1 w141_4 σx141).bind fun q5 =>
    some q5) ab_FU a0 a1 a4 e1 (0 : Int) q4
set_option maxRecDepth 20000 in
theorem s_X6_printLine {a0 : Nat} {a1 : Int} {a4 : Nat} (pa0 : isTu a0 = true) (pa4 : isBy a4 = true) {σ : st_S} {q : st_S} (hk : g_X6_printLine a0 a1 a4 σ = some q) : f_X6_printLine ((a0 : Nat) : Int) a1 ((147 : Nat) : Int) ((150 : Nat) : Int) ((a4 : Nat) : Int) (mk_ σ) = some (mk_ q) := by
  unfold g_X6_printLine at hk
  unfold f_X6_printLine
  refine mb_getR (a0 + 1) (tu_ly pa0).1 ((tu_ly pa0).2.1 _) (by omega) ?_
  refine mb_getR (a0 + 2) (tu_ly pa0).1 ((tu_ly pa0).2.1 _) (by omega) ?_
  obtain ⟨t1, ht1, hk⟩ := ab_bnd hk
  refine mb_ald (tu_ly pa0).2.2.2.2.1 ht1 ?_
  obtain ⟨t2, ht2, hk⟩ := ab_bnd hk
  obtain ⟨e1, he1, hk⟩ := ab_bnd hk
  have pe1 : isEn e1 = true := en_of he1
  refine mb_aldE (tu_ly pa0).2.2.2.1 ht2 he1 ?_
  refine mb_getR 148 rfl rfl (by decide) ?_
  refine mb_get (en_ly pe1).1 ((en_ly pe1).2.1 _) ?_
  obtain ⟨t3, ht3, hk⟩ := ab_bnd hk
  refine mb_ald ⟨rfl, rfl, fun _ => rfl⟩ ht3 ?_
  obtain ⟨q4, hq4, hk⟩ := ab_bnd hk
  refine mb_on (by_ly pa4).1 (s_X1_putName pa4 hq4) ?_
  refine s_X6_printLine_L31 (fun w141_0 w141_1 w141_4 pw141_0 pw141_4 σx141 q hk => ?_) _ _ _ _ _ _ pa0 pa4 pe1 _ _ hk
  · skip
    obtain ⟨q5, hq5, hk⟩ := ab_bnd hk
    refine mb_on (tu_ly pw141_0).1 (s_X6_printAddresses pw141_0 pw141_4 hq5) ?_
    obtain rfl := Option.some.inj hk
    rfl
