noncomputable def g_X2_offer_J26 (v0 : Nat) (v1 : Int) (v2 : Int) (s0 : Int) (σ : st_S) : Option st_S :=
  if v2 = s0 then
    (some (up2 σ v0 8 (ab_or (σ v0 8) (ab_shl (1 : Int) v1)))).bind fun σ4 =>
    some σ4
  else
  if (6 : Int) ≤ σ v0 7 then
    some σ
  else
  (sa_st σ (v0 + 1) 6 (σ v0 7) v1).bind fun σ1 =>
  (sa_st σ1 (v0 + 2) 6 (σ1 v0 7) v2).bind fun σ2 =>
  (some (up2 σ2 v0 7 (ab_w32 ((σ2 v0 7) + (1 : Int))))).bind fun σ3 =>
  some σ3
set_option maxRecDepth 20000 in
theorem s_X2_offer_J26 : ∀ (v0 : Nat) (v1 : Int) (v2 : Int) (s0 : Int) (pv0 : isEn v0 = true) (σ : st_S) (q : st_S), g_X2_offer_J26 v0 v1 v2 s0 σ = some q → f_X2_offer_J26 ((v0 : Nat) : Int) v1 v2 s0 (mk_ σ) = some (mk_ q) := by
  intro v0 v1 v2 s0 pv0 σ q hk
  unfold g_X2_offer_J26 at hk
  unfold f_X2_offer_J26
  by_cases hc : v2 = s0
  · have hk := ab_ifp hk hc
    refine mb_ifp hc ?_
    refine mb_get (en_ly pv0).1 ((en_ly pv0).2.1 _) ?_
    obtain ⟨σ4, hσ4, hk⟩ := ab_bnd hk
    refine mb_put (en_ly pv0).1 ((en_ly pv0).2.1 _) hσ4 ?_
    obtain rfl := Option.some.inj hk
    rfl
  · have hk := ab_ifn hk hc
    refine mb_ifn hc ?_
    refine mb_get (en_ly pv0).1 ((en_ly pv0).2.1 _) ?_
    by_cases hc : (6 : Int) ≤ σ v0 7
    · have hk := ab_ifp hk hc
      refine mb_ifp hc ?_
      obtain rfl := Option.some.inj hk
      rfl
    · have hk := ab_ifn hk hc
      refine mb_ifn hc ?_
      refine mb_getR (v0 + 1) (en_ly pv0).1 ((en_ly pv0).2.1 _) (by omega) ?_
      refine mb_get (en_ly pv0).1 ((en_ly pv0).2.1 _) ?_
      obtain ⟨σ1, hσ1, hk⟩ := ab_bnd hk
      refine mb_ast (en_ly pv0).2.2.1 hσ1 ?_
      refine mb_getR (v0 + 2) (en_ly pv0).1 ((en_ly pv0).2.1 _) (by omega) ?_
      refine mb_get (en_ly pv0).1 ((en_ly pv0).2.1 _) ?_
      obtain ⟨σ2, hσ2, hk⟩ := ab_bnd hk
      refine mb_ast (en_ly pv0).2.2.2 hσ2 ?_
      refine mb_get (en_ly pv0).1 ((en_ly pv0).2.1 _) ?_
      obtain ⟨σ3, hσ3, hk⟩ := ab_bnd hk
      refine mb_put (en_ly pv0).1 ((en_ly pv0).2.1 _) hσ3 ?_
      obtain rfl := Option.some.inj hk
      rfl
noncomputable def g_X2_offer (a0 : Nat) (a1 : Int) (a2 : Int) (a3 : Int) (σ : st_S) : Option st_S :=
  if σ a0 7 = a3 then
    g_X2_offer_J26 a0 a1 a2 (σ a0 3) σ
  else
  (sa_ld σ (a0 + 2) 6 (ab_w32 ((σ a0 7) - (1 : Int)))).bind fun t1 =>
  g_X2_offer_J26 a0 a1 a2 t1 σ
set_option maxRecDepth 20000 in
theorem s_X2_offer {a0 : Nat} {a1 : Int} {a2 : Int} {a3 : Int} (pa0 : isEn a0 = true) {σ : st_S} {q : st_S} (hk : g_X2_offer a0 a1 a2 a3 σ = some q) : f_X2_offer ((a0 : Nat) : Int) a1 a2 a3 (mk_ σ) = some (mk_ q) := by
  unfold g_X2_offer at hk
  unfold f_X2_offer
  refine mb_get (en_ly pa0).1 ((en_ly pa0).2.1 _) ?_
  by_cases hc : σ a0 7 = a3
  · have hk := ab_ifp hk hc
    refine mb_ifp hc ?_
    refine mb_get (en_ly pa0).1 ((en_ly pa0).2.1 _) ?_
    exact s_X2_offer_J26 _ _ _ _ pa0 _ _ hk
  · have hk := ab_ifn hk hc
    refine mb_ifn hc ?_
    refine mb_getR (a0 + 2) (en_ly pa0).1 ((en_ly pa0).2.1 _) (by omega) ?_
    refine mb_get (en_ly pa0).1 ((en_ly pa0).2.1 _) ?_
    obtain ⟨t1, ht1, hk⟩ := ab_bnd hk
    refine mb_ald (en_ly pa0).2.2.2 ht1 ?_
    exact s_X2_offer_J26 _ _ _ _ pa0 _ _ hk
noncomputable def g_X2_turn_J154 (rec : Nat → Int → Int → Int → st_S → Option st_S) (k160 : Nat → Int → st_S → Option st_S) (v0 : Nat) (v1 : Int) (v3 : Int) (v5 : Int) (σ : st_S) : Option st_S :=
  rec v0 v1 v3 (ab_w32 (v5 + (1 : Int))) σ
set_option maxRecDepth 20000 in
theorem s_X2_turn_J154 {rec : Nat → Int → Int → Int → st_S → Option st_S} {recf : Int → Int → Int → Int → Int → ab_H → Option ab_H} {k160 : Nat → Int → st_S → Option st_S} {kf160 : Int → Int → ab_H → Option ab_H} (hrec : ∀ (v0 : Nat) (v1 : Int) (v3 : Int) (v5 : Int) (pv0 : isEn v0 = true) (σ : st_S) (q : st_S), rec v0 v1 v3 v5 σ = some q → recf ((v0 : Nat) : Int) v1 ((150 : Nat) : Int) v3 v5 (mk_ σ) = some (mk_ q)) (hk160 : ∀ (v0 : Nat) (v1 : Int) (pv0 : isEn v0 = true) (σ : st_S) (q : st_S), k160 v0 v1 σ = some q → kf160 ((v0 : Nat) : Int) v1 (mk_ σ) = some (mk_ q)) : ∀ (v0 : Nat) (v1 : Int) (v3 : Int) (v5 : Int) (pv0 : isEn v0 = true) (σ : st_S) (q : st_S), g_X2_turn_J154 rec k160 v0 v1 v3 v5 σ = some q → f_X2_turn_J154 recf kf160 ((v0 : Nat) : Int) v1 ((150 : Nat) : Int) v3 v5 (mk_ σ) = some (mk_ q) := by
  intro v0 v1 v3 v5 pv0 σ q hk
  unfold g_X2_turn_J154 at hk
  unfold f_X2_turn_J154
  exact hrec _ _ _ _ pv0 _ _ hk
noncomputable def g_X2_turn_L112 (k160 : Nat → Int → st_S → Option st_S) : Nat → Nat → Int → Int → Int → st_S → Option st_S
  | 0, _, _, _, _, _ => none
  | n + 1, v0, v1, v3, v5, σ =>
    (sa_ld σ 151 12 (σ v0 0)).bind fun t1 =>
    if t1 ≤ v5 then
      k160 v0 v1 σ
    else
    if v5 = σ v0 2 then
      g_X2_turn_J154 (g_X2_turn_L112 k160 n) k160 v0 v1 v3 v5 σ
    else
    (sa_ld σ 153 72 (ab_w32 (v3 + v5))).bind fun t2 =>
    (g_X2_offer v0 v5 t2 (σ v0 6) σ).bind fun q3 =>
    g_X2_turn_J154 (g_X2_turn_L112 k160 n) k160 v0 v1 v3 v5 q3
set_option maxRecDepth 20000 in
theorem s_X2_turn_L112 {k160 : Nat → Int → st_S → Option st_S} {kf160 : Int → Int → ab_H → Option ab_H} (hk160 : ∀ (v0 : Nat) (v1 : Int) (pv0 : isEn v0 = true) (σ : st_S) (q : st_S), k160 v0 v1 σ = some q → kf160 ((v0 : Nat) : Int) v1 (mk_ σ) = some (mk_ q)) : ∀ (n : Nat) (v0 : Nat) (v1 : Int) (v3 : Int) (v5 : Int) (pv0 : isEn v0 = true) (σ : st_S) (q : st_S), g_X2_turn_L112 k160 n v0 v1 v3 v5 σ = some q → f_X2_turn_L112 kf160 n ((v0 : Nat) : Int) v1 ((150 : Nat) : Int) v3 v5 (mk_ σ) = some (mk_ q) := by
  intro n
  induction n with
  | zero => intro v0 v1 v3 v5 pv0 σ q hk; cases hk
  | succ n ih =>
    intro v0 v1 v3 v5 pv0 σ q hk
    unfold g_X2_turn_L112 at hk
    unfold f_X2_turn_L112
    refine mb_getR 151 rfl rfl (by decide) ?_
    refine mb_get (en_ly pv0).1 ((en_ly pv0).2.1 _) ?_
    obtain ⟨t1, ht1, hk⟩ := ab_bnd hk
    refine mb_ald ⟨rfl, rfl, fun _ => rfl⟩ ht1 ?_
    by_cases hc : t1 ≤ v5
    · have hk := ab_ifp hk hc
      refine mb_ifp hc ?_
      exact hk160 _ _ pv0 _ _ hk
    · have hk := ab_ifn hk hc
      refine mb_ifn hc ?_
      refine mb_get (en_ly pv0).1 ((en_ly pv0).2.1 _) ?_
      by_cases hc : v5 = σ v0 2
      · have hk := ab_ifp hk hc
        refine mb_ifp hc ?_
        exact s_X2_turn_J154 ih hk160 _ _ _ _ pv0 _ _ hk
      · have hk := ab_ifn hk hc
        refine mb_ifn hc ?_
        refine mb_getR 153 rfl rfl (by decide) ?_
        obtain ⟨t2, ht2, hk⟩ := ab_bnd hk
        refine mb_ald ⟨rfl, rfl, fun _ => rfl⟩ ht2 ?_
        refine mb_get (en_ly pv0).1 ((en_ly pv0).2.1 _) ?_
        obtain ⟨q3, hq3, hk⟩ := ab_bnd hk
        refine mb_on (en_ly pv0).1 (s_X2_offer pv0 hq3) ?_
        exact s_X2_turn_J154 ih hk160 _ _ _ _ pv0 _ _ hk
noncomputable def g_X2_turn_J106 (v0 : Nat) (v1 : Int) (v3 : Int) (s0 : Int) (σ : st_S) : Option st_S :=
  g_X2_turn_L112 (fun w160_0 w160_1 σx160 =>
    if w160_1 = (2 : Int) then
      (some (up2 σx160 w160_0 6 (σx160 w160_0 7))).bind fun σ1 =>
      some σ1
    else
    some σx160) ab_FU v0 v1 v3 s0 σ
set_option maxRecDepth 20000 in
theorem s_X2_turn_J106 : ∀ (v0 : Nat) (v1 : Int) (v3 : Int) (s0 : Int) (pv0 : isEn v0 = true) (σ : st_S) (q : st_S), g_X2_turn_J106 v0 v1 v3 s0 σ = some q → f_X2_turn_J106 ((v0 : Nat) : Int) v1 ((150 : Nat) : Int) v3 s0 (mk_ σ) = some (mk_ q) := by
  intro v0 v1 v3 s0 pv0 σ q hk
  unfold g_X2_turn_J106 at hk
  unfold f_X2_turn_J106
  refine s_X2_turn_L112 (fun w160_0 w160_1 pw160_0 σx160 q hk => ?_) _ _ _ _ _ pv0 _ _ hk
  · skip
    by_cases hc : w160_1 = (2 : Int)
    · have hk := ab_ifp hk hc
      refine mb_ifp hc ?_
      refine mb_get (en_ly pw160_0).1 ((en_ly pw160_0).2.1 _) ?_
      obtain ⟨σ1, hσ1, hk⟩ := ab_bnd hk
      refine mb_put (en_ly pw160_0).1 ((en_ly pw160_0).2.1 _) hσ1 ?_
      obtain rfl := Option.some.inj hk
      rfl
    · have hk := ab_ifn hk hc
      refine mb_ifn hc ?_
      obtain rfl := Option.some.inj hk
      rfl
noncomputable def g_X2_turn_J91 (v0 : Nat) (v1 : Int) (v3 : Int) (σ : st_S) : Option st_S :=
  if v1 = (1 : Int) then
    g_X2_turn_J106 v0 v1 v3 (0 : Int) σ
  else
  g_X2_turn_J106 v0 v1 v3 (ab_w32 ((σ v0 2) + (1 : Int))) σ
set_option maxRecDepth 20000 in
theorem s_X2_turn_J91 : ∀ (v0 : Nat) (v1 : Int) (v3 : Int) (pv0 : isEn v0 = true) (σ : st_S) (q : st_S), g_X2_turn_J91 v0 v1 v3 σ = some q → f_X2_turn_J91 ((v0 : Nat) : Int) v1 ((150 : Nat) : Int) v3 (mk_ σ) = some (mk_ q) := by
  intro v0 v1 v3 pv0 σ q hk
  unfold g_X2_turn_J91 at hk
  unfold f_X2_turn_J91
  by_cases hc : v1 = (1 : Int)
  · have hk := ab_ifp hk hc
    refine mb_ifp hc ?_
    exact s_X2_turn_J106 _ _ _ _ pv0 _ _ hk
  · have hk := ab_ifn hk hc
    refine mb_ifn hc ?_
    refine mb_get (en_ly pv0).1 ((en_ly pv0).2.1 _) ?_
    exact s_X2_turn_J106 _ _ _ _ pv0 _ _ hk
noncomputable def g_X2_turn_J78 (v0 : Nat) (v1 : Int) (v3 : Int) (σ : st_S) : Option st_S :=
  if v1 = (2 : Int) then
    g_X2_turn_J91 v0 v1 v3 σ
  else
  (some (up2 σ v0 6 (σ v0 7))).bind fun σ1 =>
  g_X2_turn_J91 v0 v1 v3 σ1
set_option maxRecDepth 20000 in
theorem s_X2_turn_J78 : ∀ (v0 : Nat) (v1 : Int) (v3 : Int) (pv0 : isEn v0 = true) (σ : st_S) (q : st_S), g_X2_turn_J78 v0 v1 v3 σ = some q → f_X2_turn_J78 ((v0 : Nat) : Int) v1 ((150 : Nat) : Int) v3 (mk_ σ) = some (mk_ q) := by
  intro v0 v1 v3 pv0 σ q hk
  unfold g_X2_turn_J78 at hk
  unfold f_X2_turn_J78
  by_cases hc : v1 = (2 : Int)
  · have hk := ab_ifp hk hc
    refine mb_ifp hc ?_
    exact s_X2_turn_J91 _ _ _ pv0 _ _ hk
  · have hk := ab_ifn hk hc
    refine mb_ifn hc ?_
    refine mb_get (en_ly pv0).1 ((en_ly pv0).2.1 _) ?_
    obtain ⟨σ1, hσ1, hk⟩ := ab_bnd hk
    refine mb_put (en_ly pv0).1 ((en_ly pv0).2.1 _) hσ1 ?_
    exact s_X2_turn_J91 _ _ _ pv0 _ _ hk
noncomputable def g_X2_turn_L51 (k78 : Nat → Int → Int → st_S → Option st_S) : Nat → Nat → Int → Int → Int → st_S → Option st_S
  | 0, _, _, _, _, _ => none
  | n + 1, v0, v1, v3, v4, σ =>
    if v4 < (0 : Int) then
      k78 v0 v1 v3 σ
    else
    (sa_ld σ 153 72 (ab_w32 (v3 + v4))).bind fun t1 =>
    (g_X2_offer v0 v4 t1 (0 : Int) σ).bind fun q2 =>
    g_X2_turn_L51 k78 n v0 v1 v3 (ab_w32 (v4 + (-1 : Int))) q2
set_option maxRecDepth 20000 in
theorem s_X2_turn_L51 {k78 : Nat → Int → Int → st_S → Option st_S} {kf78 : Int → Int → Int → Int → ab_H → Option ab_H} (hk78 : ∀ (v0 : Nat) (v1 : Int) (v3 : Int) (pv0 : isEn v0 = true) (σ : st_S) (q : st_S), k78 v0 v1 v3 σ = some q → kf78 ((v0 : Nat) : Int) v1 ((150 : Nat) : Int) v3 (mk_ σ) = some (mk_ q)) : ∀ (n : Nat) (v0 : Nat) (v1 : Int) (v3 : Int) (v4 : Int) (pv0 : isEn v0 = true) (σ : st_S) (q : st_S), g_X2_turn_L51 k78 n v0 v1 v3 v4 σ = some q → f_X2_turn_L51 kf78 n ((v0 : Nat) : Int) v1 ((150 : Nat) : Int) v3 v4 (mk_ σ) = some (mk_ q) := by
  intro n
  induction n with
  | zero => intro v0 v1 v3 v4 pv0 σ q hk; cases hk
  | succ n ih =>
    intro v0 v1 v3 v4 pv0 σ q hk
    unfold g_X2_turn_L51 at hk
    unfold f_X2_turn_L51
    by_cases hc : v4 < (0 : Int)
    · have hk := ab_ifp hk hc
      refine mb_ifp hc ?_
      exact hk78 _ _ _ pv0 _ _ hk
    · have hk := ab_ifn hk hc
      refine mb_ifn hc ?_
      refine mb_getR 153 rfl rfl (by decide) ?_
      obtain ⟨t1, ht1, hk⟩ := ab_bnd hk
      refine mb_ald ⟨rfl, rfl, fun _ => rfl⟩ ht1 ?_
      obtain ⟨q2, hq2, hk⟩ := ab_bnd hk
      refine mb_on (en_ly pv0).1 (s_X2_offer pv0 hq2) ?_
      exact ih _ _ _ _ pv0 _ _ hk
noncomputable def g_X2_turn (a0 : Nat) (a1 : Int) (σ : st_S) : Option st_S :=
  (sa_ld σ 153 72 (ab_w32 ((ab_w32 ((σ a0 0) * (6 : Int))) + (σ a0 2)))).bind fun t1 =>
  (some (up2 σ a0 3 t1)).bind fun σ1 =>
  (some (up2 σ1 a0 6 (0 : Int))).bind fun σ2 =>
  (some (up2 σ2 a0 7 (0 : Int))).bind fun σ3 =>
  (some (up2 σ3 a0 8 (0 : Int))).bind fun σ4 =>
  if a1 = (1 : Int) then
    g_X2_turn_J78 a0 a1 (ab_w32 ((σ a0 0) * (6 : Int))) σ4
  else
  g_X2_turn_L51 (fun w78_0 w78_1 w78_3 σx78 =>
    g_X2_turn_J78 w78_0 w78_1 w78_3 σx78) ab_FU a0 a1 (ab_w32 ((σ a0 0) * (6 : Int))) (ab_w32 ((σ4 a0 2) - (1 : Int))) σ4
set_option maxRecDepth 20000 in
theorem s_X2_turn {a0 : Nat} {a1 : Int} (pa0 : isEn a0 = true) {σ : st_S} {q : st_S} (hk : g_X2_turn a0 a1 σ = some q) : f_X2_turn ((a0 : Nat) : Int) a1 ((150 : Nat) : Int) (mk_ σ) = some (mk_ q) := by
  unfold g_X2_turn at hk
  unfold f_X2_turn
  refine mb_get (en_ly pa0).1 ((en_ly pa0).2.1 _) ?_
  refine mb_getR 153 rfl rfl (by decide) ?_
  refine mb_get (en_ly pa0).1 ((en_ly pa0).2.1 _) ?_
  obtain ⟨t1, ht1, hk⟩ := ab_bnd hk
  refine mb_ald ⟨rfl, rfl, fun _ => rfl⟩ ht1 ?_
  obtain ⟨σ1, hσ1, hk⟩ := ab_bnd hk
  refine mb_put (en_ly pa0).1 ((en_ly pa0).2.1 _) hσ1 ?_
  obtain ⟨σ2, hσ2, hk⟩ := ab_bnd hk
  refine mb_put (en_ly pa0).1 ((en_ly pa0).2.1 _) hσ2 ?_
  obtain ⟨σ3, hσ3, hk⟩ := ab_bnd hk
  refine mb_put (en_ly pa0).1 ((en_ly pa0).2.1 _) hσ3 ?_
  obtain ⟨σ4, hσ4, hk⟩ := ab_bnd hk
  refine mb_put (en_ly pa0).1 ((en_ly pa0).2.1 _) hσ4 ?_
  by_cases hc : a1 = (1 : Int)
  · have hk := ab_ifp hk hc
    refine mb_ifp hc ?_
    exact s_X2_turn_J78 _ _ _ pa0 _ _ hk
  · have hk := ab_ifn hk hc
    refine mb_ifn hc ?_
    refine mb_get (en_ly pa0).1 ((en_ly pa0).2.1 _) ?_
    refine s_X2_turn_L51 (fun w78_0 w78_1 w78_3 pw78_0 σx78 q hk => ?_) _ _ _ _ _ pa0 _ _ hk
    · skip
      exact s_X2_turn_J78 _ _ _ pw78_0 _ _ hk
noncomputable def g_X2_compareRows_L3 (k33 : Nat → Nat → Int → st_S → Option (Int × st_S)) : Nat → Nat → Nat → Int → Int → Int → st_S → Option (Int × st_S)
  | 0, _, _, _, _, _, _ => none
  | n + 1, v0, v1, v3, v4, v5, σ =>
    if v3 ≤ v5 then
      some (ab_w32 (v3 - v4), σ)
    else
    if v4 ≤ v5 then
      some (ab_w32 (v3 - v4), σ)
    else
    (sa_ld σ (v0 + 2) 6 v5).bind fun t1 =>
    (sa_ld σ (v1 + 2) 6 v5).bind fun t2 =>
    if t1 = t2 then
      g_X2_compareRows_L3 k33 n v0 v1 v3 v4 (ab_w32 (v5 + (1 : Int))) σ
    else
    k33 v0 v1 v5 σ
set_option maxRecDepth 20000 in
theorem s_X2_compareRows_L3 {k33 : Nat → Nat → Int → st_S → Option (Int × st_S)} {kf33 : Int → Int → Int → ab_H → Option (Int × ab_H)} (hk33 : ∀ (v0 : Nat) (v1 : Nat) (v5 : Int) (pv0 : isEn v0 = true) (pv1 : isEn v1 = true) (σ : st_S) (q : Int × st_S), k33 v0 v1 v5 σ = some q → kf33 ((v0 : Nat) : Int) ((v1 : Nat) : Int) v5 (mk_ σ) = some ((q.1, mk_ q.2))) : ∀ (n : Nat) (v0 : Nat) (v1 : Nat) (v3 : Int) (v4 : Int) (v5 : Int) (pv0 : isEn v0 = true) (pv1 : isEn v1 = true) (σ : st_S) (q : Int × st_S), g_X2_compareRows_L3 k33 n v0 v1 v3 v4 v5 σ = some q → f_X2_compareRows_L3 kf33 n ((v0 : Nat) : Int) ((v1 : Nat) : Int) v3 v4 v5 (mk_ σ) = some ((q.1, mk_ q.2)) := by
  intro n
  induction n with
  | zero => intro v0 v1 v3 v4 v5 pv0 pv1 σ q hk; cases hk
  | succ n ih =>
    intro v0 v1 v3 v4 v5 pv0 pv1 σ q hk
    unfold g_X2_compareRows_L3 at hk
    unfold f_X2_compareRows_L3
    by_cases hc : v3 ≤ v5
    · have hk := ab_ifp hk hc
      refine mb_ifp hc ?_
      obtain rfl := Option.some.inj hk
      rfl
    · have hk := ab_ifn hk hc
      refine mb_ifn hc ?_
      by_cases hc : v4 ≤ v5
      · have hk := ab_ifp hk hc
        refine mb_ifp hc ?_
        obtain rfl := Option.some.inj hk
        rfl
      · have hk := ab_ifn hk hc
        refine mb_ifn hc ?_
        refine mb_getR (v0 + 2) (en_ly pv0).1 ((en_ly pv0).2.1 _) (by omega) ?_
        obtain ⟨t1, ht1, hk⟩ := ab_bnd hk
        refine mb_ald (en_ly pv0).2.2.2 ht1 ?_
        refine mb_getR (v1 + 2) (en_ly pv1).1 ((en_ly pv1).2.1 _) (by omega) ?_
        obtain ⟨t2, ht2, hk⟩ := ab_bnd hk
        refine mb_ald (en_ly pv1).2.2.2 ht2 ?_
        by_cases hc : t1 = t2
        · have hk := ab_ifp hk hc
          refine mb_ifp hc ?_
          exact ih _ _ _ _ _ pv0 pv1 _ _ hk
        · have hk := ab_ifn hk hc
          refine mb_ifn hc ?_
          exact hk33 _ _ _ pv0 pv1 _ _ hk
noncomputable def g_X2_compareRows (a0 : Nat) (a1 : Nat) (a2 : Int) (a3 : Int) (a4 : Int) (σ : st_S) : Option (Int × st_S) :=
  g_X2_compareRows_L3 (fun w33_0 w33_1 w33_5 σx33 =>
    (sa_ld σx33 (w33_0 + 2) 6 w33_5).bind fun t1 =>
    (sa_ld σx33 (w33_1 + 2) 6 w33_5).bind fun t2 =>
    some (ab_w32 (t1 - t2), σx33)) ab_FU a0 a1 a3 a4 a2 σ
set_option maxRecDepth 20000 in
theorem s_X2_compareRows {a0 : Nat} {a1 : Nat} {a2 : Int} {a3 : Int} {a4 : Int} (pa0 : isEn a0 = true) (pa1 : isEn a1 = true) {σ : st_S} {q : Int × st_S} (hk : g_X2_compareRows a0 a1 a2 a3 a4 σ = some q) : f_X2_compareRows ((a0 : Nat) : Int) ((a1 : Nat) : Int) a2 a3 a4 (mk_ σ) = some ((q.1, mk_ q.2)) := by
  unfold g_X2_compareRows at hk
  unfold f_X2_compareRows
  refine s_X2_compareRows_L3 (fun w33_0 w33_1 w33_5 pw33_0 pw33_1 σx33 q hk => ?_) _ _ _ _ _ _ pa0 pa1 _ _ hk
  · skip
    refine mb_getR (w33_0 + 2) (en_ly pw33_0).1 ((en_ly pw33_0).2.1 _) (by omega) ?_
    obtain ⟨t1, ht1, hk⟩ := ab_bnd hk
    refine mb_ald (en_ly pw33_0).2.2.2 ht1 ?_
    refine mb_getR (w33_1 + 2) (en_ly pw33_1).1 ((en_ly pw33_1).2.1 _) (by omega) ?_
    obtain ⟨t2, ht2, hk⟩ := ab_bnd hk
    refine mb_ald (en_ly pw33_1).2.2.2 ht2 ?_
    obtain rfl := Option.some.inj hk
    rfl
noncomputable def g_X2_compareWords (a0 : Nat) (a1 : Nat) (σ : st_S) : Option (Int × st_S) :=
  if σ a0 3 = σ a1 3 then
    (g_X2_compareRows a0 a1 (0 : Int) (σ a0 6) (σ a1 6) σ).bind fun q1 =>
    if q1.1 = (0 : Int) then
      (g_X2_compareRows a0 a1 (q1.2 a0 6) (q1.2 a0 7) (q1.2 a1 7) q1.2).bind fun q2 =>
      some (q2.1, q2.2)
    else
    some (q1.1, q1.2)
  else
  some (ab_w32 ((σ a0 3) - (σ a1 3)), σ)
set_option maxRecDepth 20000 in
theorem s_X2_compareWords {a0 : Nat} {a1 : Nat} (pa0 : isEn a0 = true) (pa1 : isEn a1 = true) {σ : st_S} {q : Int × st_S} (hk : g_X2_compareWords a0 a1 σ = some q) : f_X2_compareWords ((a0 : Nat) : Int) ((a1 : Nat) : Int) (mk_ σ) = some ((q.1, mk_ q.2)) := by
  unfold g_X2_compareWords at hk
  unfold f_X2_compareWords
  refine mb_get (en_ly pa0).1 ((en_ly pa0).2.1 _) ?_
  refine mb_get (en_ly pa1).1 ((en_ly pa1).2.1 _) ?_
  by_cases hc : σ a0 3 = σ a1 3
  · have hk := ab_ifp hk hc
    refine mb_ifp hc ?_
    refine mb_get (en_ly pa0).1 ((en_ly pa0).2.1 _) ?_
    refine mb_get (en_ly pa1).1 ((en_ly pa1).2.1 _) ?_
    obtain ⟨q1, hq1, hk⟩ := ab_bnd hk
    refine mb_on (en_ly pa0).1 (s_X2_compareRows pa0 pa1 hq1) ?_
    by_cases hc : q1.1 = (0 : Int)
    · have hk := ab_ifp hk hc
      refine mb_ifp hc ?_
      refine mb_get (en_ly pa0).1 ((en_ly pa0).2.1 _) ?_
      refine mb_get (en_ly pa0).1 ((en_ly pa0).2.1 _) ?_
      refine mb_get (en_ly pa1).1 ((en_ly pa1).2.1 _) ?_
      obtain ⟨q2, hq2, hk⟩ := ab_bnd hk
      refine mb_on (en_ly pa0).1 (s_X2_compareRows pa0 pa1 hq2) ?_
      obtain rfl := Option.some.inj hk
      rfl
    · have hk := ab_ifn hk hc
      refine mb_ifn hc ?_
      obtain rfl := Option.some.inj hk
      rfl
  · have hk := ab_ifn hk hc
    refine mb_ifn hc ?_
    refine mb_get (en_ly pa0).1 ((en_ly pa0).2.1 _) ?_
    refine mb_get (en_ly pa1).1 ((en_ly pa1).2.1 _) ?_
    obtain rfl := Option.some.inj hk
    rfl
noncomputable def g_X2_compare_J20 (v0 : Nat) (v1 : Nat) (v2 : Int) (σ : st_S) : Option (Int × st_S) :=
  if v2 = (0 : Int) then
    some (ab_w32 ((σ v0 2) - (σ v1 2)), σ)
  else
  some (v2, σ)
set_option maxRecDepth 20000 in
theorem s_X2_compare_J20 : ∀ (v0 : Nat) (v1 : Nat) (v2 : Int) (pv0 : isEn v0 = true) (pv1 : isEn v1 = true) (σ : st_S) (q : Int × st_S), g_X2_compare_J20 v0 v1 v2 σ = some q → f_X2_compare_J20 ((v0 : Nat) : Int) ((v1 : Nat) : Int) v2 (mk_ σ) = some ((q.1, mk_ q.2)) := by
  intro v0 v1 v2 pv0 pv1 σ q hk
  unfold g_X2_compare_J20 at hk
  unfold f_X2_compare_J20
  by_cases hc : v2 = (0 : Int)
  · have hk := ab_ifp hk hc
    refine mb_ifp hc ?_
    refine mb_get (en_ly pv0).1 ((en_ly pv0).2.1 _) ?_
    refine mb_get (en_ly pv1).1 ((en_ly pv1).2.1 _) ?_
    obtain rfl := Option.some.inj hk
    rfl
  · have hk := ab_ifn hk hc
    refine mb_ifn hc ?_
    obtain rfl := Option.some.inj hk
    rfl
noncomputable def g_X2_compare (a0 : Nat) (a1 : Nat) (σ : st_S) : Option (Int × st_S) :=
  (g_X2_compareWords a0 a1 σ).bind fun q1 =>
  if q1.1 = (0 : Int) then
    g_X2_compare_J20 a0 a1 (ab_w32 ((q1.2 a0 1) - (q1.2 a1 1))) q1.2
  else
  g_X2_compare_J20 a0 a1 q1.1 q1.2
set_option maxRecDepth 20000 in
theorem s_X2_compare {a0 : Nat} {a1 : Nat} (pa0 : isEn a0 = true) (pa1 : isEn a1 = true) {σ : st_S} {q : Int × st_S} (hk : g_X2_compare a0 a1 σ = some q) : f_X2_compare ((a0 : Nat) : Int) ((a1 : Nat) : Int) (mk_ σ) = some ((q.1, mk_ q.2)) := by
  unfold g_X2_compare at hk
  unfold f_X2_compare
  obtain ⟨q1, hq1, hk⟩ := ab_bnd hk
  refine mb_on (en_ly pa0).1 (s_X2_compareWords pa0 pa1 hq1) ?_
  by_cases hc : q1.1 = (0 : Int)
  · have hk := ab_ifp hk hc
    refine mb_ifp hc ?_
    refine mb_get (en_ly pa0).1 ((en_ly pa0).2.1 _) ?_
    refine mb_get (en_ly pa1).1 ((en_ly pa1).2.1 _) ?_
    exact s_X2_compare_J20 _ _ _ pa0 pa1 _ _ hk
  · have hk := ab_ifn hk hc
    refine mb_ifn hc ?_
    exact s_X2_compare_J20 _ _ _ pa0 pa1 _ _ hk
noncomputable def g_X2_shows_L53 : Nat → Nat → Int → Int → Int → st_S → Option (Int × st_S)
  | 0, _, _, _, _, _ => none
  | n + 1, v0, v1, v4, v5, σ =>
    if v4 ≤ v5 then
      some ((0 : Int), σ)
    else
    (sa_ld σ (v0 + 2) 6 v5).bind fun t1 =>
    if t1 = v1 then
      some ((1 : Int), σ)
    else
    g_X2_shows_L53 n v0 v1 v4 (ab_w32 (v5 + (1 : Int))) σ
set_option maxRecDepth 20000 in
theorem s_X2_shows_L53 : ∀ (n : Nat) (v0 : Nat) (v1 : Int) (v4 : Int) (v5 : Int) (pv0 : isEn v0 = true) (σ : st_S) (q : Int × st_S), g_X2_shows_L53 n v0 v1 v4 v5 σ = some q → f_X2_shows_L53 n ((v0 : Nat) : Int) v1 v4 v5 (mk_ σ) = some ((q.1, mk_ q.2)) := by
  intro n
  induction n with
  | zero => intro v0 v1 v4 v5 pv0 σ q hk; cases hk
  | succ n ih =>
    intro v0 v1 v4 v5 pv0 σ q hk
    unfold g_X2_shows_L53 at hk
    unfold f_X2_shows_L53
    by_cases hc : v4 ≤ v5
    · have hk := ab_ifp hk hc
      refine mb_ifp hc ?_
      obtain rfl := Option.some.inj hk
      rfl
    · have hk := ab_ifn hk hc
      refine mb_ifn hc ?_
      refine mb_getR (v0 + 2) (en_ly pv0).1 ((en_ly pv0).2.1 _) (by omega) ?_
      obtain ⟨t1, ht1, hk⟩ := ab_bnd hk
      refine mb_ald (en_ly pv0).2.2.2 ht1 ?_
      by_cases hc : t1 = v1
      · have hk := ab_ifp hk hc
        refine mb_ifp hc ?_
        obtain rfl := Option.some.inj hk
        rfl
      · have hk := ab_ifn hk hc
        refine mb_ifn hc ?_
        exact ih _ _ _ _ pv0 _ _ hk
noncomputable def g_X2_shows_J48 (v0 : Nat) (v1 : Int) (v3 : Int) (s0 : Int) (σ : st_S) : Option (Int × st_S) :=
  g_X2_shows_L53 ab_FU v0 v1 s0 v3 σ
set_option maxRecDepth 20000 in
theorem s_X2_shows_J48 : ∀ (v0 : Nat) (v1 : Int) (v3 : Int) (s0 : Int) (pv0 : isEn v0 = true) (σ : st_S) (q : Int × st_S), g_X2_shows_J48 v0 v1 v3 s0 σ = some q → f_X2_shows_J48 ((v0 : Nat) : Int) v1 v3 s0 (mk_ σ) = some ((q.1, mk_ q.2)) := by
  intro v0 v1 v3 s0 pv0 σ q hk
  unfold g_X2_shows_J48 at hk
  unfold f_X2_shows_J48
  refine s_X2_shows_L53 _ _ _ _ _ pv0 _ _ hk
noncomputable def g_X2_shows_J31 (v0 : Nat) (v1 : Int) (v2 : Int) (s0 : Int) (σ : st_S) : Option (Int × st_S) :=
  if v2 = (1 : Int) then
    g_X2_shows_J48 v0 v1 s0 (σ v0 6) σ
  else
  g_X2_shows_J48 v0 v1 s0 (σ v0 7) σ
set_option maxRecDepth 20000 in
theorem s_X2_shows_J31 : ∀ (v0 : Nat) (v1 : Int) (v2 : Int) (s0 : Int) (pv0 : isEn v0 = true) (σ : st_S) (q : Int × st_S), g_X2_shows_J31 v0 v1 v2 s0 σ = some q → f_X2_shows_J31 ((v0 : Nat) : Int) v1 v2 s0 (mk_ σ) = some ((q.1, mk_ q.2)) := by
  intro v0 v1 v2 s0 pv0 σ q hk
  unfold g_X2_shows_J31 at hk
  unfold f_X2_shows_J31
  by_cases hc : v2 = (1 : Int)
  · have hk := ab_ifp hk hc
    refine mb_ifp hc ?_
    refine mb_get (en_ly pv0).1 ((en_ly pv0).2.1 _) ?_
    exact s_X2_shows_J48 _ _ _ _ pv0 _ _ hk
  · have hk := ab_ifn hk hc
    refine mb_ifn hc ?_
    refine mb_get (en_ly pv0).1 ((en_ly pv0).2.1 _) ?_
    exact s_X2_shows_J48 _ _ _ _ pv0 _ _ hk
noncomputable def g_X2_shows (a0 : Nat) (a1 : Int) (a2 : Int) (σ : st_S) : Option (Int × st_S) :=
  if a2 = (0 : Int) then
    if σ a0 3 = a1 then
      some ((1 : Int), σ)
    else
    some ((0 : Int), σ)
  else
  if a2 = (1 : Int) then
    g_X2_shows_J31 a0 a1 a2 (0 : Int) σ
  else
  g_X2_shows_J31 a0 a1 a2 (σ a0 6) σ
set_option maxRecDepth 20000 in
theorem s_X2_shows {a0 : Nat} {a1 : Int} {a2 : Int} (pa0 : isEn a0 = true) {σ : st_S} {q : Int × st_S} (hk : g_X2_shows a0 a1 a2 σ = some q) : f_X2_shows ((a0 : Nat) : Int) a1 a2 (mk_ σ) = some ((q.1, mk_ q.2)) := by
  unfold g_X2_shows at hk
  unfold f_X2_shows
  by_cases hc : a2 = (0 : Int)
  · have hk := ab_ifp hk hc
    refine mb_ifp hc ?_
    refine mb_get (en_ly pa0).1 ((en_ly pa0).2.1 _) ?_
    by_cases hc : σ a0 3 = a1
    · have hk := ab_ifp hk hc
      refine mb_ifp hc ?_
      obtain rfl := Option.some.inj hk
      rfl
    · have hk := ab_ifn hk hc
      refine mb_ifn hc ?_
      obtain rfl := Option.some.inj hk
      rfl
  · have hk := ab_ifn hk hc
    refine mb_ifn hc ?_
    by_cases hc : a2 = (1 : Int)
    · have hk := ab_ifp hk hc
      refine mb_ifp hc ?_
      exact s_X2_shows_J31 _ _ _ _ pa0 _ _ hk
    · have hk := ab_ifn hk hc
      refine mb_ifn hc ?_
      refine mb_get (en_ly pa0).1 ((en_ly pa0).2.1 _) ?_
      exact s_X2_shows_J31 _ _ _ _ pa0 _ _ hk
