noncomputable def g_X9_in_J17 (σ : st_S) : Option (Int × st_S) :=
  some ((0 : Int), σ)
set_option maxRecDepth 20000 in
theorem s_X9_in_J17 : ∀ (σ : st_S) (q : Int × st_S), g_X9_in_J17 σ = some q → f_X9_in_J17 (mk_ σ) = some ((q.1, mk_ q.2)) := by
  intro σ q hk
  unfold g_X9_in_J17 at hk
  unfold f_X9_in_J17
  obtain rfl := Option.some.inj hk
  rfl
noncomputable def g_X9_in (a0 : Int) (a2 : Int) (a4 : Int) (σ : st_S) : Option (Int × st_S) :=
  if ab_cmp a0 a2 < (0 : Int) then
    g_X9_in_J17 σ
  else
  if (0 : Int) < ab_cmp a0 a4 then
    g_X9_in_J17 σ
  else
  some ((1 : Int), σ)
set_option maxRecDepth 20000 in
theorem s_X9_in {a0 : Int} {a2 : Int} {a4 : Int} {σ : st_S} {q : Int × st_S} (hk : g_X9_in a0 a2 a4 σ = some q) : f_X9_in a0 a2 a4 (mk_ σ) = some ((q.1, mk_ q.2)) := by
  unfold g_X9_in at hk
  unfold f_X9_in
  by_cases hc : ab_cmp a0 a2 < (0 : Int)
  · have hk := ab_ifp hk hc
    refine mb_ifp hc ?_
    exact s_X9_in_J17  _ _ hk
  · have hk := ab_ifn hk hc
    refine mb_ifn hc ?_
    by_cases hc : (0 : Int) < ab_cmp a0 a4
    · have hk := ab_ifp hk hc
      refine mb_ifp hc ?_
      exact s_X9_in_J17  _ _ hk
    · have hk := ab_ifn hk hc
      refine mb_ifn hc ?_
      obtain rfl := Option.some.inj hk
      rfl
noncomputable def g_X9_strings (σ : st_S) : Option (Int × st_S) :=
  (sa_ld σ 597 416 (0 : Int)).bind fun t1 =>
  some (ab_w32 t1, σ)
set_option maxRecDepth 20000 in
theorem s_X9_strings {σ : st_S} {q : Int × st_S} (hk : g_X9_strings σ = some q) : f_X9_strings ((596 : Nat) : Int) (mk_ σ) = some ((q.1, mk_ q.2)) := by
  unfold g_X9_strings at hk
  unfold f_X9_strings
  refine mb_getR 597 rfl rfl (by decide) ?_
  obtain ⟨t1, ht1, hk⟩ := ab_bnd hk
  refine mb_ald ⟨rfl, rfl, fun _ => rfl⟩ ht1 ?_
  obtain rfl := Option.some.inj hk
  rfl
noncomputable def g_X9_sees (σ : st_S) : Option (Int × st_S) :=
  (sa_ld σ 597 416 (1 : Int)).bind fun t1 =>
  some (ab_w32 t1, σ)
set_option maxRecDepth 20000 in
theorem s_X9_sees {σ : st_S} {q : Int × st_S} (hk : g_X9_sees σ = some q) : f_X9_sees ((596 : Nat) : Int) (mk_ σ) = some ((q.1, mk_ q.2)) := by
  unfold g_X9_sees at hk
  unfold f_X9_sees
  refine mb_getR 597 rfl rfl (by decide) ?_
  obtain ⟨t1, ht1, hk⟩ := ab_bnd hk
  refine mb_ald ⟨rfl, rfl, fun _ => rfl⟩ ht1 ?_
  obtain rfl := Option.some.inj hk
  rfl
noncomputable def g_X9_terms (a1 : Int) (σ : st_S) : Option (Int × st_S) :=
  (sa_ld σ 597 416 (ab_w32 ((ab_w32 ((32 : Int) + (ab_w32 ((32 : Int) * a1)))) + (1 : Int)))).bind fun t1 =>
  some (ab_w32 t1, σ)
set_option maxRecDepth 20000 in
theorem s_X9_terms {a1 : Int} {σ : st_S} {q : Int × st_S} (hk : g_X9_terms a1 σ = some q) : f_X9_terms ((596 : Nat) : Int) a1 (mk_ σ) = some ((q.1, mk_ q.2)) := by
  unfold g_X9_terms at hk
  unfold f_X9_terms
  refine mb_getR 597 rfl rfl (by decide) ?_
  obtain ⟨t1, ht1, hk⟩ := ab_bnd hk
  refine mb_ald ⟨rfl, rfl, fun _ => rfl⟩ ht1 ?_
  obtain rfl := Option.some.inj hk
  rfl
noncomputable def g_X9_addressOf (a1 : Int) (σ : st_S) : Option (Int × st_S) :=
  (sa_ld σ 597 416 (ab_w32 ((32 : Int) + (ab_w32 ((32 : Int) * a1))))).bind fun t1 =>
  some (ab_w32 t1, σ)
set_option maxRecDepth 20000 in
theorem s_X9_addressOf {a1 : Int} {σ : st_S} {q : Int × st_S} (hk : g_X9_addressOf a1 σ = some q) : f_X9_addressOf ((596 : Nat) : Int) a1 (mk_ σ) = some ((q.1, mk_ q.2)) := by
  unfold g_X9_addressOf at hk
  unfold f_X9_addressOf
  refine mb_getR 597 rfl rfl (by decide) ?_
  obtain ⟨t1, ht1, hk⟩ := ab_bnd hk
  refine mb_ald ⟨rfl, rfl, fun _ => rfl⟩ ht1 ?_
  obtain rfl := Option.some.inj hk
  rfl
noncomputable def g_X9_termAt (a0 : Int) (a1 : Int) (σ : st_S) : Option (Int × st_S) :=
  some (ab_w32 ((ab_w32 ((ab_w32 ((32 : Int) + (ab_w32 ((32 : Int) * a0)))) + (2 : Int))) + (ab_w32 ((5 : Int) * a1))), σ)
set_option maxRecDepth 20000 in
theorem s_X9_termAt {a0 : Int} {a1 : Int} {σ : st_S} {q : Int × st_S} (hk : g_X9_termAt a0 a1 σ = some q) : f_X9_termAt a0 a1 (mk_ σ) = some ((q.1, mk_ q.2)) := by
  unfold g_X9_termAt at hk
  unfold f_X9_termAt
  obtain rfl := Option.some.inj hk
  rfl
noncomputable def g_X9_roleOf (a1 : Int) (a2 : Int) (σ : st_S) : Option (Int × st_S) :=
  (g_X9_termAt a1 a2 σ).bind fun q1 =>
  (sa_ld q1.2 597 416 (ab_w32 (q1.1 + (0 : Int)))).bind fun t2 =>
  some (ab_w32 t2, q1.2)
set_option maxRecDepth 20000 in
theorem s_X9_roleOf {a1 : Int} {a2 : Int} {σ : st_S} {q : Int × st_S} (hk : g_X9_roleOf a1 a2 σ = some q) : f_X9_roleOf ((596 : Nat) : Int) a1 a2 (mk_ σ) = some ((q.1, mk_ q.2)) := by
  unfold g_X9_roleOf at hk
  unfold f_X9_roleOf
  refine mb_getR 597 rfl rfl (by decide) ?_
  obtain ⟨q1, hq1, hk⟩ := ab_bnd hk
  refine mb_eq (s_X9_termAt hq1) ?_
  obtain ⟨t2, ht2, hk⟩ := ab_bnd hk
  refine mb_ald ⟨rfl, rfl, fun _ => rfl⟩ ht2 ?_
  obtain rfl := Option.some.inj hk
  rfl
noncomputable def g_X9_doesLead (a1 : Int) (a2 : Int) (σ : st_S) : Option (Int × st_S) :=
  (g_X9_termAt a1 a2 σ).bind fun q1 =>
  (sa_ld q1.2 597 416 (ab_w32 (q1.1 + (1 : Int)))).bind fun t2 =>
  if ab_cmp t2 (1 : Int) = (0 : Int) then
    some ((1 : Int), q1.2)
  else
  some ((0 : Int), q1.2)
set_option maxRecDepth 20000 in
theorem s_X9_doesLead {a1 : Int} {a2 : Int} {σ : st_S} {q : Int × st_S} (hk : g_X9_doesLead a1 a2 σ = some q) : f_X9_doesLead ((596 : Nat) : Int) a1 a2 (mk_ σ) = some ((q.1, mk_ q.2)) := by
  unfold g_X9_doesLead at hk
  unfold f_X9_doesLead
  refine mb_getR 597 rfl rfl (by decide) ?_
  obtain ⟨q1, hq1, hk⟩ := ab_bnd hk
  refine mb_eq (s_X9_termAt hq1) ?_
  obtain ⟨t2, ht2, hk⟩ := ab_bnd hk
  refine mb_ald ⟨rfl, rfl, fun _ => rfl⟩ ht2 ?_
  by_cases hc : ab_cmp t2 (1 : Int) = (0 : Int)
  · have hk := ab_ifp hk hc
    refine mb_ifp hc ?_
    obtain rfl := Option.some.inj hk
    rfl
  · have hk := ab_ifn hk hc
    refine mb_ifn hc ?_
    obtain rfl := Option.some.inj hk
    rfl
noncomputable def g_X9_puts4_L3 : Nat → Int → Int → st_S → Option st_S
  | 0, _, _, _ => none
  | n + 1, v1, v2, σ =>
    if v2 < (0 : Int) then
      some σ
    else
    (sa_st σ 599 1200 (σ 596 4) (ab_w8 (ab_w8 (ab_shr v1 v2)))).bind fun σ1 =>
    (some (up2 σ1 596 4 (ab_w32 ((σ1 596 4) + (1 : Int))))).bind fun σ2 =>
    g_X9_puts4_L3 n v1 (ab_w32 (v2 + (-8 : Int))) σ2
set_option maxRecDepth 20000 in
theorem s_X9_puts4_L3 : ∀ (n : Nat) (v1 : Int) (v2 : Int) (σ : st_S) (q : st_S), g_X9_puts4_L3 n v1 v2 σ = some q → f_X9_puts4_L3 n ((596 : Nat) : Int) v1 v2 (mk_ σ) = some (mk_ q) := by
  intro n
  induction n with
  | zero => intro v1 v2 σ q hk; cases hk
  | succ n ih =>
    intro v1 v2 σ q hk
    unfold g_X9_puts4_L3 at hk
    unfold f_X9_puts4_L3
    by_cases hc : v2 < (0 : Int)
    · have hk := ab_ifp hk hc
      refine mb_ifp hc ?_
      obtain rfl := Option.some.inj hk
      rfl
    · have hk := ab_ifn hk hc
      refine mb_ifn hc ?_
      refine mb_getR 599 rfl rfl (by decide) ?_
      refine mb_get rfl rfl ?_
      obtain ⟨σ1, hσ1, hk⟩ := ab_bnd hk
      refine mb_ast ⟨rfl, rfl, fun _ => rfl⟩ hσ1 ?_
      refine mb_get rfl rfl ?_
      obtain ⟨σ2, hσ2, hk⟩ := ab_bnd hk
      refine mb_put rfl rfl hσ2 ?_
      exact ih _ _  _ _ hk
noncomputable def g_X9_puts4 (a1 : Int) (σ : st_S) : Option st_S :=
  g_X9_puts4_L3 ab_FU a1 (24 : Int) σ
set_option maxRecDepth 20000 in
theorem s_X9_puts4 {a1 : Int} {σ : st_S} {q : st_S} (hk : g_X9_puts4 a1 σ = some q) : f_X9_puts4 ((596 : Nat) : Int) a1 (mk_ σ) = some (mk_ q) := by
  unfold g_X9_puts4 at hk
  unfold f_X9_puts4
  refine s_X9_puts4_L3 _ _ _  _ _ hk
noncomputable def g_X9_feed (a1 : Int) (a2 : Int) (a3 : Int) (a4 : Int) (a5 : Int) (σ : st_S) : Option (Int × st_S) :=
  if ab_w32 ((σ 596 4) + (20 : Int)) ≤ (1200 : Int) then
    (g_X9_puts4 a1 σ).bind fun q1 =>
    (g_X9_puts4 a2 q1).bind fun q2 =>
    (g_X9_puts4 a3 q2).bind fun q3 =>
    (g_X9_puts4 a4 q3).bind fun q4 =>
    (g_X9_puts4 a5 q4).bind fun q5 =>
    some (q5 596 4, q5)
  else
  some ((-1 : Int), σ)
set_option maxRecDepth 20000 in
theorem s_X9_feed {a1 : Int} {a2 : Int} {a3 : Int} {a4 : Int} {a5 : Int} {σ : st_S} {q : Int × st_S} (hk : g_X9_feed a1 a2 a3 a4 a5 σ = some q) : f_X9_feed ((596 : Nat) : Int) a1 a2 a3 a4 a5 (mk_ σ) = some ((q.1, mk_ q.2)) := by
  unfold g_X9_feed at hk
  unfold f_X9_feed
  refine mb_get rfl rfl ?_
  by_cases hc : ab_w32 ((σ 596 4) + (20 : Int)) ≤ (1200 : Int)
  · have hk := ab_ifp hk hc
    refine mb_ifp hc ?_
    obtain ⟨q1, hq1, hk⟩ := ab_bnd hk
    refine mb_on rfl (s_X9_puts4 hq1) ?_
    obtain ⟨q2, hq2, hk⟩ := ab_bnd hk
    refine mb_on rfl (s_X9_puts4 hq2) ?_
    obtain ⟨q3, hq3, hk⟩ := ab_bnd hk
    refine mb_on rfl (s_X9_puts4 hq3) ?_
    obtain ⟨q4, hq4, hk⟩ := ab_bnd hk
    refine mb_on rfl (s_X9_puts4 hq4) ?_
    obtain ⟨q5, hq5, hk⟩ := ab_bnd hk
    refine mb_on rfl (s_X9_puts4 hq5) ?_
    refine mb_get rfl rfl ?_
    obtain rfl := Option.some.inj hk
    rfl
  · have hk := ab_ifn hk hc
    refine mb_ifn hc ?_
    obtain rfl := Option.some.inj hk
    rfl
noncomputable def g_X9_end (a1 : Int) (σ : st_S) : Option (Int × st_S) :=
  (g_X9_in a1 (0 : Int) (σ 596 4) σ).bind fun q1 =>
  if q1.1 = (0 : Int) then
    some ((-1 : Int), q1.2)
  else
  (some (up2 q1.2 596 4 a1)).bind fun σ1 =>
  some (a1, σ1)
set_option maxRecDepth 20000 in
theorem s_X9_end {a1 : Int} {σ : st_S} {q : Int × st_S} (hk : g_X9_end a1 σ = some q) : f_X9_end ((596 : Nat) : Int) a1 (mk_ σ) = some ((q.1, mk_ q.2)) := by
  unfold g_X9_end at hk
  unfold f_X9_end
  refine mb_get rfl rfl ?_
  obtain ⟨q1, hq1, hk⟩ := ab_bnd hk
  refine mb_eq (s_X9_in hq1) ?_
  by_cases hc : q1.1 = (0 : Int)
  · have hk := ab_ifp hk hc
    refine mb_ifp hc ?_
    obtain rfl := Option.some.inj hk
    rfl
  · have hk := ab_ifn hk hc
    refine mb_ifn hc ?_
    obtain ⟨σ1, hσ1, hk⟩ := ab_bnd hk
    refine mb_put rfl rfl hσ1 ?_
    obtain rfl := Option.some.inj hk
    rfl
noncomputable def g_X9_good (σ : st_S) : Option (Int × st_S) :=
  if σ 596 10 = (0 : Int) then
    some ((1 : Int), σ)
  else
  some ((0 : Int), σ)
set_option maxRecDepth 20000 in
theorem s_X9_good {σ : st_S} {q : Int × st_S} (hk : g_X9_good σ = some q) : f_X9_good ((596 : Nat) : Int) (mk_ σ) = some ((q.1, mk_ q.2)) := by
  unfold g_X9_good at hk
  unfold f_X9_good
  refine mb_get rfl rfl ?_
  by_cases hc : σ 596 10 = (0 : Int)
  · have hk := ab_ifp hk hc
    refine mb_ifp hc ?_
    obtain rfl := Option.some.inj hk
    rfl
  · have hk := ab_ifn hk hc
    refine mb_ifn hc ?_
    obtain rfl := Option.some.inj hk
    rfl
noncomputable def g_X9_errs (a1 : Int) (a2 : Int) (σ : st_S) : Option st_S :=
  (g_X9_good σ).bind fun q1 =>
  if q1.1 = (0 : Int) then
    some q1.2
  else
  (some (up2 q1.2 596 10 a1)).bind fun σ1 =>
  (some (up2 σ1 596 11 a2)).bind fun σ2 =>
  some σ2
set_option maxRecDepth 20000 in
theorem s_X9_errs {a1 : Int} {a2 : Int} {σ : st_S} {q : st_S} (hk : g_X9_errs a1 a2 σ = some q) : f_X9_errs ((596 : Nat) : Int) a1 a2 (mk_ σ) = some (mk_ q) := by
  unfold g_X9_errs at hk
  unfold f_X9_errs
  obtain ⟨q1, hq1, hk⟩ := ab_bnd hk
  refine mb_on rfl (s_X9_good hq1) ?_
  by_cases hc : q1.1 = (0 : Int)
  · have hk := ab_ifp hk hc
    refine mb_ifp hc ?_
    obtain rfl := Option.some.inj hk
    rfl
  · have hk := ab_ifn hk hc
    refine mb_ifn hc ?_
    obtain ⟨σ1, hσ1, hk⟩ := ab_bnd hk
    refine mb_put rfl rfl hσ1 ?_
    obtain ⟨σ2, hσ2, hk⟩ := ab_bnd hk
    refine mb_put rfl rfl hσ2 ?_
    obtain rfl := Option.some.inj hk
    rfl
noncomputable def g_X9_see0 (a1 : Int) (σ : st_S) : Option (Int × st_S) :=
  if σ 596 5 ≤ a1 then
    some ((-1 : Int), σ)
  else
  (sa_ld σ 599 1200 a1).bind fun t1 =>
  some (ab_and t1 (255 : Int), σ)
set_option maxRecDepth 20000 in
theorem s_X9_see0 {a1 : Int} {σ : st_S} {q : Int × st_S} (hk : g_X9_see0 a1 σ = some q) : f_X9_see0 ((596 : Nat) : Int) a1 (mk_ σ) = some ((q.1, mk_ q.2)) := by
  unfold g_X9_see0 at hk
  unfold f_X9_see0
  refine mb_get rfl rfl ?_
  by_cases hc : σ 596 5 ≤ a1
  · have hk := ab_ifp hk hc
    refine mb_ifp hc ?_
    obtain rfl := Option.some.inj hk
    rfl
  · have hk := ab_ifn hk hc
    refine mb_ifn hc ?_
    refine mb_getR 599 rfl rfl (by decide) ?_
    obtain ⟨t1, ht1, hk⟩ := ab_bnd hk
    refine mb_ald ⟨rfl, rfl, fun _ => rfl⟩ ht1 ?_
    obtain rfl := Option.some.inj hk
    rfl
noncomputable def g_X9_advance_L144 (k206 : st_S → Option st_S) : Nat → st_S → Option st_S
  | 0, _ => none
  | n + 1, σ =>
    (g_X9_see0 (σ 596 6) σ).bind fun q1 =>
    (g_X9_in q1.1 (48 : Int) (57 : Int) q1.2).bind fun q2 =>
    if q2.1 = (0 : Int) then
      k206 q2.2
    else
    (g_X9_see0 (q2.2 596 6) q2.2).bind fun q3 =>
    (some (up2 q3.2 596 9 (ab_mn (99999 : Int) (ab_w32 ((ab_w32 ((ab_w32 ((10 : Int) * (q2.2 596 9))) + q3.1)) - (48 : Int)))))).bind fun σ1 =>
    (some (up2 σ1 596 6 (ab_w32 ((σ1 596 6) + (1 : Int))))).bind fun σ2 =>
    g_X9_advance_L144 k206 n σ2
set_option maxRecDepth 20000 in
theorem s_X9_advance_L144 {k206 : st_S → Option st_S} {kf206 : Int → ab_H → Option ab_H} (hk206 : ∀ (σ : st_S) (q : st_S), k206 σ = some q → kf206 ((596 : Nat) : Int) (mk_ σ) = some (mk_ q)) : ∀ (n : Nat) (σ : st_S) (q : st_S), g_X9_advance_L144 k206 n σ = some q → f_X9_advance_L144 kf206 n ((596 : Nat) : Int) (mk_ σ) = some (mk_ q) := by
  intro n
  induction n with
  | zero => intro σ q hk; cases hk
  | succ n ih =>
    intro σ q hk
    unfold g_X9_advance_L144 at hk
    unfold f_X9_advance_L144
    refine mb_get rfl rfl ?_
    obtain ⟨q1, hq1, hk⟩ := ab_bnd hk
    refine mb_on rfl (s_X9_see0 hq1) ?_
    obtain ⟨q2, hq2, hk⟩ := ab_bnd hk
    refine mb_eq (s_X9_in hq2) ?_
    by_cases hc : q2.1 = (0 : Int)
    · have hk := ab_ifp hk hc
      refine mb_ifp hc ?_
      exact hk206  _ _ hk
    · have hk := ab_ifn hk hc
      refine mb_ifn hc ?_
      refine mb_get rfl rfl ?_
      refine mb_get rfl rfl ?_
      obtain ⟨q3, hq3, hk⟩ := ab_bnd hk
      refine mb_on rfl (s_X9_see0 hq3) ?_
      obtain ⟨σ1, hσ1, hk⟩ := ab_bnd hk
      refine mb_put rfl rfl hσ1 ?_
      refine mb_get rfl rfl ?_
      obtain ⟨σ2, hσ2, hk⟩ := ab_bnd hk
      refine mb_put rfl rfl hσ2 ?_
      exact ih  _ _ hk
noncomputable def g_X9_advance_L83 (k117 : st_S → Option st_S) : Nat → st_S → Option st_S
  | 0, _ => none
  | n + 1, σ =>
    (g_X9_see0 (σ 596 6) σ).bind fun q1 =>
    (g_X9_in q1.1 (97 : Int) (122 : Int) q1.2).bind fun q2 =>
    if q2.1 = (0 : Int) then
      k117 q2.2
    else
    (some (up2 q2.2 596 6 (ab_w32 ((q2.2 596 6) + (1 : Int))))).bind fun σ1 =>
    g_X9_advance_L83 k117 n σ1
set_option maxRecDepth 20000 in
theorem s_X9_advance_L83 {k117 : st_S → Option st_S} {kf117 : Int → ab_H → Option ab_H} (hk117 : ∀ (σ : st_S) (q : st_S), k117 σ = some q → kf117 ((596 : Nat) : Int) (mk_ σ) = some (mk_ q)) : ∀ (n : Nat) (σ : st_S) (q : st_S), g_X9_advance_L83 k117 n σ = some q → f_X9_advance_L83 kf117 n ((596 : Nat) : Int) (mk_ σ) = some (mk_ q) := by
  intro n
  induction n with
  | zero => intro σ q hk; cases hk
  | succ n ih =>
    intro σ q hk
    unfold g_X9_advance_L83 at hk
    unfold f_X9_advance_L83
    refine mb_get rfl rfl ?_
    obtain ⟨q1, hq1, hk⟩ := ab_bnd hk
    refine mb_on rfl (s_X9_see0 hq1) ?_
    obtain ⟨q2, hq2, hk⟩ := ab_bnd hk
    refine mb_eq (s_X9_in hq2) ?_
    by_cases hc : q2.1 = (0 : Int)
    · have hk := ab_ifp hk hc
      refine mb_ifp hc ?_
      exact hk117  _ _ hk
    · have hk := ab_ifn hk hc
      refine mb_ifn hc ?_
      refine mb_get rfl rfl ?_
      obtain ⟨σ1, hσ1, hk⟩ := ab_bnd hk
      refine mb_put rfl rfl hσ1 ?_
      exact ih  _ _ hk
noncomputable def g_X9_advance_J26 (rec : st_S → Option st_S) (k39 : st_S → Option st_S) (σ : st_S) : Option st_S :=
  (some (up2 σ 596 6 (ab_w32 ((σ 596 6) + (1 : Int))))).bind fun σ1 =>
  rec σ1
set_option maxRecDepth 20000 in
theorem s_X9_advance_J26 {rec : st_S → Option st_S} {recf : Int → ab_H → Option ab_H} {k39 : st_S → Option st_S} {kf39 : Int → ab_H → Option ab_H} (hrec : ∀ (σ : st_S) (q : st_S), rec σ = some q → recf ((596 : Nat) : Int) (mk_ σ) = some (mk_ q)) (hk39 : ∀ (σ : st_S) (q : st_S), k39 σ = some q → kf39 ((596 : Nat) : Int) (mk_ σ) = some (mk_ q)) : ∀ (σ : st_S) (q : st_S), g_X9_advance_J26 rec k39 σ = some q → f_X9_advance_J26 recf kf39 ((596 : Nat) : Int) (mk_ σ) = some (mk_ q) := by
  intro σ q hk
  unfold g_X9_advance_J26 at hk
  unfold f_X9_advance_J26
  refine mb_get rfl rfl ?_
  obtain ⟨σ1, hσ1, hk⟩ := ab_bnd hk
  refine mb_put rfl rfl hσ1 ?_
  exact hrec  _ _ hk
noncomputable def g_X9_advance_L0 (k39 : st_S → Option st_S) : Nat → st_S → Option st_S
  | 0, _ => none
  | n + 1, σ =>
    (g_X9_see0 (σ 596 6) σ).bind fun q1 =>
    if q1.1 = (32 : Int) then
      g_X9_advance_J26 (g_X9_advance_L0 k39 n) k39 q1.2
    else
    (g_X9_see0 (q1.2 596 6) q1.2).bind fun q2 =>
    if q2.1 = (10 : Int) then
      g_X9_advance_J26 (g_X9_advance_L0 k39 n) k39 q2.2
    else
    k39 q2.2
set_option maxRecDepth 20000 in
theorem s_X9_advance_L0 {k39 : st_S → Option st_S} {kf39 : Int → ab_H → Option ab_H} (hk39 : ∀ (σ : st_S) (q : st_S), k39 σ = some q → kf39 ((596 : Nat) : Int) (mk_ σ) = some (mk_ q)) : ∀ (n : Nat) (σ : st_S) (q : st_S), g_X9_advance_L0 k39 n σ = some q → f_X9_advance_L0 kf39 n ((596 : Nat) : Int) (mk_ σ) = some (mk_ q) := by
  intro n
  induction n with
  | zero => intro σ q hk; cases hk
  | succ n ih =>
    intro σ q hk
    unfold g_X9_advance_L0 at hk
    unfold f_X9_advance_L0
    refine mb_get rfl rfl ?_
    obtain ⟨q1, hq1, hk⟩ := ab_bnd hk
    refine mb_on rfl (s_X9_see0 hq1) ?_
    by_cases hc : q1.1 = (32 : Int)
    · have hk := ab_ifp hk hc
      refine mb_ifp hc ?_
      exact s_X9_advance_J26 ih hk39  _ _ hk
    · have hk := ab_ifn hk hc
      refine mb_ifn hc ?_
      refine mb_get rfl rfl ?_
      obtain ⟨q2, hq2, hk⟩ := ab_bnd hk
      refine mb_on rfl (s_X9_see0 hq2) ?_
      by_cases hc : q2.1 = (10 : Int)
      · have hk := ab_ifp hk hc
        refine mb_ifp hc ?_
        exact s_X9_advance_J26 ih hk39  _ _ hk
      · have hk := ab_ifn hk hc
        refine mb_ifn hc ?_
        exact hk39  _ _ hk
noncomputable def g_X9_advance (σ : st_S) : Option st_S :=
  g_X9_advance_L0 (fun σx39 =>
    (some (up2 σx39 596 7 (σx39 596 6))).bind fun σ1 =>
    (g_X9_see0 (σ1 596 6) σ1).bind fun q1 =>
    if q1.1 = (-1 : Int) then
      (some (up2 q1.2 596 8 (0 : Int))).bind fun σ8 =>
      some σ8
    else
    (g_X9_in q1.1 (97 : Int) (122 : Int) q1.2).bind fun q2 =>
    if q2.1 = (0 : Int) then
      (g_X9_in q1.1 (48 : Int) (57 : Int) q2.2).bind fun q3 =>
      if q3.1 = (0 : Int) then
        (some (up2 q3.2 596 8 (3 : Int))).bind fun σ2 =>
        (some (up2 σ2 596 9 q1.1)).bind fun σ3 =>
        (some (up2 σ3 596 6 (ab_w32 ((σ3 596 6) + (1 : Int))))).bind fun σ4 =>
        some σ4
      else
      (some (up2 q3.2 596 9 (0 : Int))).bind fun σ5 =>
      g_X9_advance_L144 (fun σx206 =>
        (some (up2 σx206 596 8 (2 : Int))).bind fun σ6 =>
        some σ6) ab_FU σ5
    else
    g_X9_advance_L83 (fun σx117 =>
      (some (up2 σx117 596 8 (1 : Int))).bind fun σ7 =>
      some σ7) ab_FU q2.2) ab_FU σ
set_option maxRecDepth 20000 in
theorem s_X9_advance {σ : st_S} {q : st_S} (hk : g_X9_advance σ = some q) : f_X9_advance ((596 : Nat) : Int) (mk_ σ) = some (mk_ q) := by
  unfold g_X9_advance at hk
  unfold f_X9_advance
  refine s_X9_advance_L0 (fun σx39 q hk => ?_) _  _ _ hk
  · skip
    refine mb_get rfl rfl ?_
    obtain ⟨σ1, hσ1, hk⟩ := ab_bnd hk
    refine mb_put rfl rfl hσ1 ?_
    refine mb_get rfl rfl ?_
    obtain ⟨q1, hq1, hk⟩ := ab_bnd hk
    refine mb_on rfl (s_X9_see0 hq1) ?_
    by_cases hc : q1.1 = (-1 : Int)
    · have hk := ab_ifp hk hc
      refine mb_ifp hc ?_
      obtain ⟨σ8, hσ8, hk⟩ := ab_bnd hk
      refine mb_put rfl rfl hσ8 ?_
      obtain rfl := Option.some.inj hk
      rfl
    · have hk := ab_ifn hk hc
      refine mb_ifn hc ?_
      obtain ⟨q2, hq2, hk⟩ := ab_bnd hk
      refine mb_eq (s_X9_in hq2) ?_
      by_cases hc : q2.1 = (0 : Int)
      · have hk := ab_ifp hk hc
        refine mb_ifp hc ?_
        obtain ⟨q3, hq3, hk⟩ := ab_bnd hk
        refine mb_eq (s_X9_in hq3) ?_
        by_cases hc : q3.1 = (0 : Int)
        · have hk := ab_ifp hk hc
          refine mb_ifp hc ?_
          obtain ⟨σ2, hσ2, hk⟩ := ab_bnd hk
          refine mb_put rfl rfl hσ2 ?_
          obtain ⟨σ3, hσ3, hk⟩ := ab_bnd hk
          refine mb_put rfl rfl hσ3 ?_
          refine mb_get rfl rfl ?_
          obtain ⟨σ4, hσ4, hk⟩ := ab_bnd hk
          refine mb_put rfl rfl hσ4 ?_
          obtain rfl := Option.some.inj hk
          rfl
        · have hk := ab_ifn hk hc
          refine mb_ifn hc ?_
          obtain ⟨σ5, hσ5, hk⟩ := ab_bnd hk
          refine mb_put rfl rfl hσ5 ?_
          refine s_X9_advance_L144 (fun σx206 q hk => ?_) _  _ _ hk
          · skip
            obtain ⟨σ6, hσ6, hk⟩ := ab_bnd hk
            refine mb_put rfl rfl hσ6 ?_
            obtain rfl := Option.some.inj hk
            rfl
      · have hk := ab_ifn hk hc
        refine mb_ifn hc ?_
        refine s_X9_advance_L83 (fun σx117 q hk => ?_) _  _ _ hk
        · skip
          obtain ⟨σ7, hσ7, hk⟩ := ab_bnd hk
          refine mb_put rfl rfl hσ7 ?_
          obtain rfl := Option.some.inj hk
          rfl
noncomputable def g_X9_isWord_J75 (rec : Int → Int → Int → st_S → Option (Int × st_S)) (v1 : Int) (v3 : Int) (s0 : Int) (σ : st_S) : Option (Int × st_S) :=
  rec v1 s0 (ab_w32 (v3 + (1 : Int))) σ
set_option maxRecDepth 20000 in
theorem s_X9_isWord_J75 {rec : Int → Int → Int → st_S → Option (Int × st_S)} {recf : Int → Int → Int → Int → ab_H → Option (Int × ab_H)} (hrec : ∀ (v1 : Int) (v2 : Int) (v3 : Int) (σ : st_S) (q : Int × st_S), rec v1 v2 v3 σ = some q → recf ((596 : Nat) : Int) v1 v2 v3 (mk_ σ) = some ((q.1, mk_ q.2))) : ∀ (v1 : Int) (v3 : Int) (s0 : Int) (σ : st_S) (q : Int × st_S), g_X9_isWord_J75 rec v1 v3 s0 σ = some q → f_X9_isWord_J75 recf ((596 : Nat) : Int) v1 v3 s0 (mk_ σ) = some ((q.1, mk_ q.2)) := by
  intro v1 v3 s0 σ q hk
  unfold g_X9_isWord_J75 at hk
  unfold f_X9_isWord_J75
  exact hrec _ _ _  _ _ hk
noncomputable def g_X9_isWord_L39 : Nat → Int → Int → Int → st_S → Option (Int × st_S)
  | 0, _, _, _, _ => none
  | n + 1, v1, v2, v3, σ =>
    (ab_slen v1).bind fun t1 =>
    if t1 ≤ v3 then
      ab_if (decide (v2 = 0 ∨ v2 = 1)) <|
      some (v2, σ)
    else
    if v2 = (0 : Int) then
      ab_if (decide (v2 = 0 ∨ v2 = 1)) <|
      some (v2, σ)
    else
    (sa_ld σ 599 1200 (ab_w32 ((σ 596 7) + v3))).bind fun t2 =>
    (ab_schr v1 v3).bind fun t3 =>
    if t2 = t3 then
      g_X9_isWord_J75 (g_X9_isWord_L39 n) v1 v3 (1 : Int) σ
    else
    g_X9_isWord_J75 (g_X9_isWord_L39 n) v1 v3 (0 : Int) σ
set_option maxRecDepth 20000 in
theorem s_X9_isWord_L39 : ∀ (n : Nat) (v1 : Int) (v2 : Int) (v3 : Int) (σ : st_S) (q : Int × st_S), g_X9_isWord_L39 n v1 v2 v3 σ = some q → f_X9_isWord_L39 n ((596 : Nat) : Int) v1 v2 v3 (mk_ σ) = some ((q.1, mk_ q.2)) := by
  intro n
  induction n with
  | zero => intro v1 v2 v3 σ q hk; cases hk
  | succ n ih =>
    intro v1 v2 v3 σ q hk
    unfold g_X9_isWord_L39 at hk
    unfold f_X9_isWord_L39
    obtain ⟨t1, ht1, hk⟩ := ab_bnd hk
    refine mb_eq ht1 ?_
    by_cases hc : t1 ≤ v3
    · have hk := ab_ifp hk hc
      refine mb_ifp hc ?_
      obtain ⟨hg, hk⟩ := ab_if_some hk
      refine mb_if hg ?_
      obtain rfl := Option.some.inj hk
      rfl
    · have hk := ab_ifn hk hc
      refine mb_ifn hc ?_
      by_cases hc : v2 = (0 : Int)
      · have hk := ab_ifp hk hc
        refine mb_ifp hc ?_
        obtain ⟨hg, hk⟩ := ab_if_some hk
        refine mb_if hg ?_
        obtain rfl := Option.some.inj hk
        rfl
      · have hk := ab_ifn hk hc
        refine mb_ifn hc ?_
        refine mb_getR 599 rfl rfl (by decide) ?_
        refine mb_get rfl rfl ?_
        obtain ⟨t2, ht2, hk⟩ := ab_bnd hk
        refine mb_ald ⟨rfl, rfl, fun _ => rfl⟩ ht2 ?_
        obtain ⟨t3, ht3, hk⟩ := ab_bnd hk
        refine mb_eq ht3 ?_
        by_cases hc : t2 = t3
        · have hk := ab_ifp hk hc
          refine mb_ifp hc ?_
          exact s_X9_isWord_J75 ih _ _ _  _ _ hk
        · have hk := ab_ifn hk hc
          refine mb_ifn hc ?_
          exact s_X9_isWord_J75 ih _ _ _  _ _ hk
noncomputable def g_X9_isWord_J36 (v1 : Int) (s0 : Int) (σ : st_S) : Option (Int × st_S) :=
  g_X9_isWord_L39 ab_FU v1 s0 (0 : Int) σ
set_option maxRecDepth 20000 in
theorem s_X9_isWord_J36 : ∀ (v1 : Int) (s0 : Int) (σ : st_S) (q : Int × st_S), g_X9_isWord_J36 v1 s0 σ = some q → f_X9_isWord_J36 ((596 : Nat) : Int) v1 s0 (mk_ σ) = some ((q.1, mk_ q.2)) := by
  intro v1 s0 σ q hk
  unfold g_X9_isWord_J36 at hk
  unfold f_X9_isWord_J36
  refine s_X9_isWord_L39 _ _ _ _  _ _ hk
noncomputable def g_X9_isWord_J35 (v1 : Int) (σ : st_S) : Option (Int × st_S) :=
  g_X9_isWord_J36 v1 (0 : Int) σ
set_option maxRecDepth 20000 in
theorem s_X9_isWord_J35 : ∀ (v1 : Int) (σ : st_S) (q : Int × st_S), g_X9_isWord_J35 v1 σ = some q → f_X9_isWord_J35 ((596 : Nat) : Int) v1 (mk_ σ) = some ((q.1, mk_ q.2)) := by
  intro v1 σ q hk
  unfold g_X9_isWord_J35 at hk
  unfold f_X9_isWord_J35
  exact s_X9_isWord_J36 _ _  _ _ hk
noncomputable def g_X9_isWord (a1 : Int) (σ : st_S) : Option (Int × st_S) :=
  (g_X9_good σ).bind fun q1 =>
  if q1.1 = (0 : Int) then
    g_X9_isWord_J35 a1 q1.2
  else
  if q1.2 596 8 = (1 : Int) then
    (ab_slen a1).bind fun t2 =>
    if ab_w32 ((q1.2 596 6) - (q1.2 596 7)) = t2 then
      g_X9_isWord_J36 a1 (1 : Int) q1.2
    else
    g_X9_isWord_J35 a1 q1.2
  else
  g_X9_isWord_J35 a1 q1.2
set_option maxRecDepth 20000 in
theorem s_X9_isWord {a1 : Int} {σ : st_S} {q : Int × st_S} (hk : g_X9_isWord a1 σ = some q) : f_X9_isWord ((596 : Nat) : Int) a1 (mk_ σ) = some ((q.1, mk_ q.2)) := by
  unfold g_X9_isWord at hk
  unfold f_X9_isWord
  obtain ⟨q1, hq1, hk⟩ := ab_bnd hk
  refine mb_on rfl (s_X9_good hq1) ?_
  by_cases hc : q1.1 = (0 : Int)
  · have hk := ab_ifp hk hc
    refine mb_ifp hc ?_
    exact s_X9_isWord_J35 _  _ _ hk
  · have hk := ab_ifn hk hc
    refine mb_ifn hc ?_
    refine mb_get rfl rfl ?_
    by_cases hc : q1.2 596 8 = (1 : Int)
    · have hk := ab_ifp hk hc
      refine mb_ifp hc ?_
      refine mb_get rfl rfl ?_
      refine mb_get rfl rfl ?_
      obtain ⟨t2, ht2, hk⟩ := ab_bnd hk
      refine mb_eq ht2 ?_
      by_cases hc : ab_w32 ((q1.2 596 6) - (q1.2 596 7)) = t2
      · have hk := ab_ifp hk hc
        refine mb_ifp hc ?_
        exact s_X9_isWord_J36 _ _  _ _ hk
      · have hk := ab_ifn hk hc
        refine mb_ifn hc ?_
        exact s_X9_isWord_J35 _  _ _ hk
    · have hk := ab_ifn hk hc
      refine mb_ifn hc ?_
      exact s_X9_isWord_J35 _  _ _ hk
noncomputable def g_X9_eats (a1 : Int) (σ : st_S) : Option (Int × st_S) :=
  (g_X9_isWord a1 σ).bind fun q1 =>
  if q1.1 = (0 : Int) then
    some ((0 : Int), q1.2)
  else
  (g_X9_advance q1.2).bind fun q2 =>
  some ((1 : Int), q2)
set_option maxRecDepth 20000 in
theorem s_X9_eats {a1 : Int} {σ : st_S} {q : Int × st_S} (hk : g_X9_eats a1 σ = some q) : f_X9_eats ((596 : Nat) : Int) a1 (mk_ σ) = some ((q.1, mk_ q.2)) := by
  unfold g_X9_eats at hk
  unfold f_X9_eats
  obtain ⟨q1, hq1, hk⟩ := ab_bnd hk
  refine mb_on rfl (s_X9_isWord hq1) ?_
  by_cases hc : q1.1 = (0 : Int)
  · have hk := ab_ifp hk hc
    refine mb_ifp hc ?_
    obtain rfl := Option.some.inj hk
    rfl
  · have hk := ab_ifn hk hc
    refine mb_ifn hc ?_
    obtain ⟨q2, hq2, hk⟩ := ab_bnd hk
    refine mb_on rfl (s_X9_advance hq2) ?_
    obtain rfl := Option.some.inj hk
    rfl
noncomputable def g_X9_eatsByte (a1 : Int) (σ : st_S) : Option (Int × st_S) :=
  (g_X9_good σ).bind fun q1 =>
  if q1.1 = (0 : Int) then
    some ((0 : Int), q1.2)
  else
  if q1.2 596 8 = (3 : Int) then
    if q1.2 596 9 = a1 then
      (g_X9_advance q1.2).bind fun q2 =>
      some ((1 : Int), q2)
    else
    some ((0 : Int), q1.2)
  else
  some ((0 : Int), q1.2)
set_option maxRecDepth 20000 in
theorem s_X9_eatsByte {a1 : Int} {σ : st_S} {q : Int × st_S} (hk : g_X9_eatsByte a1 σ = some q) : f_X9_eatsByte ((596 : Nat) : Int) a1 (mk_ σ) = some ((q.1, mk_ q.2)) := by
  unfold g_X9_eatsByte at hk
  unfold f_X9_eatsByte
  obtain ⟨q1, hq1, hk⟩ := ab_bnd hk
  refine mb_on rfl (s_X9_good hq1) ?_
  by_cases hc : q1.1 = (0 : Int)
  · have hk := ab_ifp hk hc
    refine mb_ifp hc ?_
    obtain rfl := Option.some.inj hk
    rfl
  · have hk := ab_ifn hk hc
    refine mb_ifn hc ?_
    refine mb_get rfl rfl ?_
    by_cases hc : q1.2 596 8 = (3 : Int)
    · have hk := ab_ifp hk hc
      refine mb_ifp hc ?_
      refine mb_get rfl rfl ?_
      by_cases hc : q1.2 596 9 = a1
      · have hk := ab_ifp hk hc
        refine mb_ifp hc ?_
        obtain ⟨q2, hq2, hk⟩ := ab_bnd hk
        refine mb_on rfl (s_X9_advance hq2) ?_
        obtain rfl := Option.some.inj hk
        rfl
      · have hk := ab_ifn hk hc
        refine mb_ifn hc ?_
        obtain rfl := Option.some.inj hk
        rfl
    · have hk := ab_ifn hk hc
      refine mb_ifn hc ?_
      obtain rfl := Option.some.inj hk
      rfl
noncomputable def g_X9_passesByte (a1 : Int) (σ : st_S) : Option st_S :=
  (g_X9_eatsByte a1 σ).bind fun q1 =>
  if q1.1 = (0 : Int) then
    (g_X9_errs (1 : Int) (q1.2 596 7) q1.2).bind fun q2 =>
    some q2
  else
  some q1.2
set_option maxRecDepth 20000 in
theorem s_X9_passesByte {a1 : Int} {σ : st_S} {q : st_S} (hk : g_X9_passesByte a1 σ = some q) : f_X9_passesByte ((596 : Nat) : Int) a1 (mk_ σ) = some (mk_ q) := by
  unfold g_X9_passesByte at hk
  unfold f_X9_passesByte
  obtain ⟨q1, hq1, hk⟩ := ab_bnd hk
  refine mb_on rfl (s_X9_eatsByte hq1) ?_
  by_cases hc : q1.1 = (0 : Int)
  · have hk := ab_ifp hk hc
    refine mb_ifp hc ?_
    refine mb_get rfl rfl ?_
    obtain ⟨q2, hq2, hk⟩ := ab_bnd hk
    refine mb_on rfl (s_X9_errs hq2) ?_
    obtain rfl := Option.some.inj hk
    rfl
  · have hk := ab_ifn hk hc
    refine mb_ifn hc ?_
    obtain rfl := Option.some.inj hk
    rfl
noncomputable def g_X9_roleHere (σ : st_S) : Option (Int × st_S) :=
  (g_X9_isWord (-3 : Int) σ).bind fun q1 =>
  if q1.1 = (0 : Int) then
    (g_X9_isWord (-4 : Int) q1.2).bind fun q2 =>
    if q2.1 = (0 : Int) then
      (g_X9_isWord (-5 : Int) q2.2).bind fun q3 =>
      if q3.1 = (0 : Int) then
        (g_X9_isWord (-6 : Int) q3.2).bind fun q4 =>
        if q4.1 = (0 : Int) then
          (g_X9_isWord (-7 : Int) q4.2).bind fun q5 =>
          if q5.1 = (0 : Int) then
            (g_X9_isWord (-8 : Int) q5.2).bind fun q6 =>
            if q6.1 = (0 : Int) then
              some ((-1 : Int), q6.2)
            else
            some ((5 : Int), q6.2)
          else
          some ((4 : Int), q5.2)
        else
        some ((3 : Int), q4.2)
      else
      some ((2 : Int), q3.2)
    else
    some ((1 : Int), q2.2)
  else
  some ((0 : Int), q1.2)
set_option maxRecDepth 20000 in
theorem s_X9_roleHere {σ : st_S} {q : Int × st_S} (hk : g_X9_roleHere σ = some q) : f_X9_roleHere ((596 : Nat) : Int) (mk_ σ) = some ((q.1, mk_ q.2)) := by
  unfold g_X9_roleHere at hk
  unfold f_X9_roleHere
  obtain ⟨q1, hq1, hk⟩ := ab_bnd hk
  refine mb_on rfl (s_X9_isWord hq1) ?_
  by_cases hc : q1.1 = (0 : Int)
  · have hk := ab_ifp hk hc
    refine mb_ifp hc ?_
    obtain ⟨q2, hq2, hk⟩ := ab_bnd hk
    refine mb_on rfl (s_X9_isWord hq2) ?_
    by_cases hc : q2.1 = (0 : Int)
    · have hk := ab_ifp hk hc
      refine mb_ifp hc ?_
      obtain ⟨q3, hq3, hk⟩ := ab_bnd hk
      refine mb_on rfl (s_X9_isWord hq3) ?_
      by_cases hc : q3.1 = (0 : Int)
      · have hk := ab_ifp hk hc
        refine mb_ifp hc ?_
        obtain ⟨q4, hq4, hk⟩ := ab_bnd hk
        refine mb_on rfl (s_X9_isWord hq4) ?_
        by_cases hc : q4.1 = (0 : Int)
        · have hk := ab_ifp hk hc
          refine mb_ifp hc ?_
          obtain ⟨q5, hq5, hk⟩ := ab_bnd hk
          refine mb_on rfl (s_X9_isWord hq5) ?_
          by_cases hc : q5.1 = (0 : Int)
          · have hk := ab_ifp hk hc
            refine mb_ifp hc ?_
            obtain ⟨q6, hq6, hk⟩ := ab_bnd hk
            refine mb_on rfl (s_X9_isWord hq6) ?_
            by_cases hc : q6.1 = (0 : Int)
            · have hk := ab_ifp hk hc
              refine mb_ifp hc ?_
              obtain rfl := Option.some.inj hk
              rfl
            · have hk := ab_ifn hk hc
              refine mb_ifn hc ?_
              obtain rfl := Option.some.inj hk
              rfl
          · have hk := ab_ifn hk hc
            refine mb_ifn hc ?_
            obtain rfl := Option.some.inj hk
            rfl
        · have hk := ab_ifn hk hc
          refine mb_ifn hc ?_
          obtain rfl := Option.some.inj hk
          rfl
      · have hk := ab_ifn hk hc
        refine mb_ifn hc ?_
        obtain rfl := Option.some.inj hk
        rfl
    · have hk := ab_ifn hk hc
      refine mb_ifn hc ?_
      obtain rfl := Option.some.inj hk
      rfl
  · have hk := ab_ifn hk hc
    refine mb_ifn hc ?_
    obtain rfl := Option.some.inj hk
    rfl
noncomputable def g_X9_isOwnWord_J89 (σ : st_S) : Option (Int × st_S) :=
  some ((1 : Int), σ)
set_option maxRecDepth 20000 in
theorem s_X9_isOwnWord_J89 : ∀ (σ : st_S) (q : Int × st_S), g_X9_isOwnWord_J89 σ = some q → f_X9_isOwnWord_J89 (mk_ σ) = some ((q.1, mk_ q.2)) := by
  intro σ q hk
  unfold g_X9_isOwnWord_J89 at hk
  unfold f_X9_isOwnWord_J89
  obtain rfl := Option.some.inj hk
  rfl
noncomputable def g_X9_isOwnWord (σ : st_S) : Option (Int × st_S) :=
  (g_X9_roleHere σ).bind fun q1 =>
  if q1.1 = (-1 : Int) then
    (g_X9_isWord (-2 : Int) q1.2).bind fun q2 =>
    if q2.1 = (0 : Int) then
      (g_X9_isWord (-12 : Int) q2.2).bind fun q3 =>
      if q3.1 = (0 : Int) then
        (g_X9_isWord (-13 : Int) q3.2).bind fun q4 =>
        if q4.1 = (0 : Int) then
          (g_X9_isWord (-9 : Int) q4.2).bind fun q5 =>
          if q5.1 = (0 : Int) then
            (g_X9_isWord (-10 : Int) q5.2).bind fun q6 =>
            if q6.1 = (0 : Int) then
              (g_X9_isWord (-11 : Int) q6.2).bind fun q7 =>
              if q7.1 = (0 : Int) then
                (g_X9_isWord (-14 : Int) q7.2).bind fun q8 =>
                if q8.1 = (0 : Int) then
                  (g_X9_isWord (-15 : Int) q8.2).bind fun q9 =>
                  if q9.1 = (0 : Int) then
                    (g_X9_isWord (-16 : Int) q9.2).bind fun q10 =>
                    if q10.1 = (0 : Int) then
                      some ((0 : Int), q10.2)
                    else
                    g_X9_isOwnWord_J89 q10.2
                  else
                  g_X9_isOwnWord_J89 q9.2
                else
                g_X9_isOwnWord_J89 q8.2
              else
              g_X9_isOwnWord_J89 q7.2
            else
            g_X9_isOwnWord_J89 q6.2
          else
          g_X9_isOwnWord_J89 q5.2
        else
        g_X9_isOwnWord_J89 q4.2
      else
      g_X9_isOwnWord_J89 q3.2
    else
    g_X9_isOwnWord_J89 q2.2
  else
  g_X9_isOwnWord_J89 q1.2
set_option maxRecDepth 20000 in
theorem s_X9_isOwnWord {σ : st_S} {q : Int × st_S} (hk : g_X9_isOwnWord σ = some q) : f_X9_isOwnWord ((596 : Nat) : Int) (mk_ σ) = some ((q.1, mk_ q.2)) := by
  unfold g_X9_isOwnWord at hk
  unfold f_X9_isOwnWord
  obtain ⟨q1, hq1, hk⟩ := ab_bnd hk
  refine mb_on rfl (s_X9_roleHere hq1) ?_
  by_cases hc : q1.1 = (-1 : Int)
  · have hk := ab_ifp hk hc
    refine mb_ifp hc ?_
    obtain ⟨q2, hq2, hk⟩ := ab_bnd hk
    refine mb_on rfl (s_X9_isWord hq2) ?_
    by_cases hc : q2.1 = (0 : Int)
    · have hk := ab_ifp hk hc
      refine mb_ifp hc ?_
      obtain ⟨q3, hq3, hk⟩ := ab_bnd hk
      refine mb_on rfl (s_X9_isWord hq3) ?_
      by_cases hc : q3.1 = (0 : Int)
      · have hk := ab_ifp hk hc
        refine mb_ifp hc ?_
        obtain ⟨q4, hq4, hk⟩ := ab_bnd hk
        refine mb_on rfl (s_X9_isWord hq4) ?_
        by_cases hc : q4.1 = (0 : Int)
        · have hk := ab_ifp hk hc
          refine mb_ifp hc ?_
          obtain ⟨q5, hq5, hk⟩ := ab_bnd hk
          refine mb_on rfl (s_X9_isWord hq5) ?_
          by_cases hc : q5.1 = (0 : Int)
          · have hk := ab_ifp hk hc
            refine mb_ifp hc ?_
            obtain ⟨q6, hq6, hk⟩ := ab_bnd hk
            refine mb_on rfl (s_X9_isWord hq6) ?_
            by_cases hc : q6.1 = (0 : Int)
            · have hk := ab_ifp hk hc
              refine mb_ifp hc ?_
              obtain ⟨q7, hq7, hk⟩ := ab_bnd hk
              refine mb_on rfl (s_X9_isWord hq7) ?_
              by_cases hc : q7.1 = (0 : Int)
              · have hk := ab_ifp hk hc
                refine mb_ifp hc ?_
                obtain ⟨q8, hq8, hk⟩ := ab_bnd hk
                refine mb_on rfl (s_X9_isWord hq8) ?_
                by_cases hc : q8.1 = (0 : Int)
                · have hk := ab_ifp hk hc
                  refine mb_ifp hc ?_
                  obtain ⟨q9, hq9, hk⟩ := ab_bnd hk
                  refine mb_on rfl (s_X9_isWord hq9) ?_
                  by_cases hc : q9.1 = (0 : Int)
                  · have hk := ab_ifp hk hc
                    refine mb_ifp hc ?_
                    obtain ⟨q10, hq10, hk⟩ := ab_bnd hk
                    refine mb_on rfl (s_X9_isWord hq10) ?_
                    by_cases hc : q10.1 = (0 : Int)
                    · have hk := ab_ifp hk hc
                      refine mb_ifp hc ?_
                      obtain rfl := Option.some.inj hk
                      rfl
                    · have hk := ab_ifn hk hc
                      refine mb_ifn hc ?_
                      exact s_X9_isOwnWord_J89  _ _ hk
                  · have hk := ab_ifn hk hc
                    refine mb_ifn hc ?_
                    exact s_X9_isOwnWord_J89  _ _ hk
                · have hk := ab_ifn hk hc
                  refine mb_ifn hc ?_
                  exact s_X9_isOwnWord_J89  _ _ hk
              · have hk := ab_ifn hk hc
                refine mb_ifn hc ?_
                exact s_X9_isOwnWord_J89  _ _ hk
            · have hk := ab_ifn hk hc
              refine mb_ifn hc ?_
              exact s_X9_isOwnWord_J89  _ _ hk
          · have hk := ab_ifn hk hc
            refine mb_ifn hc ?_
            exact s_X9_isOwnWord_J89  _ _ hk
        · have hk := ab_ifn hk hc
          refine mb_ifn hc ?_
          exact s_X9_isOwnWord_J89  _ _ hk
      · have hk := ab_ifn hk hc
        refine mb_ifn hc ?_
        exact s_X9_isOwnWord_J89  _ _ hk
    · have hk := ab_ifn hk hc
      refine mb_ifn hc ?_
      exact s_X9_isOwnWord_J89  _ _ hk
  · have hk := ab_ifn hk hc
    refine mb_ifn hc ?_
    exact s_X9_isOwnWord_J89  _ _ hk
noncomputable def g_X9_packed_J41 (rec : Int → Int → Int → Int → st_S → Option (Int × st_S)) (v1 : Int) (v2 : Int) (v5 : Int) (s1 : Int) (s0 : Int) (σ : st_S) : Option (Int × st_S) :=
  rec v1 v2 (ab_lor s0 s1) (ab_w32 (v5 + (1 : Int))) σ
set_option maxRecDepth 20000 in
theorem s_X9_packed_J41 {rec : Int → Int → Int → Int → st_S → Option (Int × st_S)} {recf : Int → Int → Int → Int → Int → ab_H → Option (Int × ab_H)} (hrec : ∀ (v1 : Int) (v2 : Int) (v3 : Int) (v5 : Int) (σ : st_S) (q : Int × st_S), rec v1 v2 v3 v5 σ = some q → recf ((596 : Nat) : Int) v1 v2 v3 v5 (mk_ σ) = some ((q.1, mk_ q.2))) : ∀ (v1 : Int) (v2 : Int) (v5 : Int) (s1 : Int) (s0 : Int) (σ : st_S) (q : Int × st_S), g_X9_packed_J41 rec v1 v2 v5 s1 s0 σ = some q → f_X9_packed_J41 recf ((596 : Nat) : Int) v1 v2 v5 s1 s0 (mk_ σ) = some ((q.1, mk_ q.2)) := by
  intro v1 v2 v5 s1 s0 σ q hk
  unfold g_X9_packed_J41 at hk
  unfold f_X9_packed_J41
  exact hrec _ _ _ _  _ _ hk
noncomputable def g_X9_packed_L5 : Nat → Int → Int → Int → Int → st_S → Option (Int × st_S)
  | 0, _, _, _, _, _ => none
  | n + 1, v1, v2, v3, v5, σ =>
    if (7 : Int) ≤ v5 then
      some (v3, σ)
    else
    if v2 ≤ ab_w32 (v1 + v5) then
      g_X9_packed_J41 (g_X9_packed_L5 n) v1 v2 v5 (0 : Int) (ab_lshl v3 (5 : Int)) σ
    else
    (sa_ld σ 599 1200 (ab_w32 (v1 + v5))).bind fun t1 =>
    g_X9_packed_J41 (g_X9_packed_L5 n) v1 v2 v5 (ab_w32 ((ab_w32 (t1 - (97 : Int))) + (1 : Int))) (ab_lshl v3 (5 : Int)) σ
set_option maxRecDepth 20000 in
theorem s_X9_packed_L5 : ∀ (n : Nat) (v1 : Int) (v2 : Int) (v3 : Int) (v5 : Int) (σ : st_S) (q : Int × st_S), g_X9_packed_L5 n v1 v2 v3 v5 σ = some q → f_X9_packed_L5 n ((596 : Nat) : Int) v1 v2 v3 v5 (mk_ σ) = some ((q.1, mk_ q.2)) := by
  intro n
  induction n with
  | zero => intro v1 v2 v3 v5 σ q hk; cases hk
  | succ n ih =>
    intro v1 v2 v3 v5 σ q hk
    unfold g_X9_packed_L5 at hk
    unfold f_X9_packed_L5
    by_cases hc : (7 : Int) ≤ v5
    · have hk := ab_ifp hk hc
      refine mb_ifp hc ?_
      obtain rfl := Option.some.inj hk
      rfl
    · have hk := ab_ifn hk hc
      refine mb_ifn hc ?_
      by_cases hc : v2 ≤ ab_w32 (v1 + v5)
      · have hk := ab_ifp hk hc
        refine mb_ifp hc ?_
        exact s_X9_packed_J41 ih _ _ _ _ _  _ _ hk
      · have hk := ab_ifn hk hc
        refine mb_ifn hc ?_
        refine mb_getR 599 rfl rfl (by decide) ?_
        obtain ⟨t1, ht1, hk⟩ := ab_bnd hk
        refine mb_ald ⟨rfl, rfl, fun _ => rfl⟩ ht1 ?_
        exact s_X9_packed_J41 ih _ _ _ _ _  _ _ hk
noncomputable def g_X9_packed (a1 : Int) (a2 : Int) (σ : st_S) : Option (Int × st_S) :=
  g_X9_packed_L5 ab_FU a1 a2 (0 : Int) (0 : Int) σ
set_option maxRecDepth 20000 in
theorem s_X9_packed {a1 : Int} {a2 : Int} {σ : st_S} {q : Int × st_S} (hk : g_X9_packed a1 a2 σ = some q) : f_X9_packed ((596 : Nat) : Int) a1 a2 (mk_ σ) = some ((q.1, mk_ q.2)) := by
  unfold g_X9_packed at hk
  unfold f_X9_packed
  refine s_X9_packed_L5 _ _ _ _ _  _ _ hk
noncomputable def g_X9_wordHere_J45 (σ : st_S) : Option (Int × st_S) :=
  (g_X9_good σ).bind fun q1 =>
  if q1.1 = (0 : Int) then
    some ((0 : Int), q1.2)
  else
  (g_X9_packed (q1.2 596 7) (q1.2 596 6) q1.2).bind fun q2 =>
  some (q2.1, q2.2)
set_option maxRecDepth 20000 in
theorem s_X9_wordHere_J45 : ∀ (σ : st_S) (q : Int × st_S), g_X9_wordHere_J45 σ = some q → f_X9_wordHere_J45 ((596 : Nat) : Int) (mk_ σ) = some ((q.1, mk_ q.2)) := by
  intro σ q hk
  unfold g_X9_wordHere_J45 at hk
  unfold f_X9_wordHere_J45
  obtain ⟨q1, hq1, hk⟩ := ab_bnd hk
  refine mb_on rfl (s_X9_good hq1) ?_
  by_cases hc : q1.1 = (0 : Int)
  · have hk := ab_ifp hk hc
    refine mb_ifp hc ?_
    obtain rfl := Option.some.inj hk
    rfl
  · have hk := ab_ifn hk hc
    refine mb_ifn hc ?_
    refine mb_get rfl rfl ?_
    refine mb_get rfl rfl ?_
    obtain ⟨q2, hq2, hk⟩ := ab_bnd hk
    refine mb_on rfl (s_X9_packed hq2) ?_
    obtain rfl := Option.some.inj hk
    rfl
noncomputable def g_X9_wordHere_J36 (σ : st_S) : Option (Int × st_S) :=
  (g_X9_errs (1 : Int) (σ 596 7) σ).bind fun q1 =>
  g_X9_wordHere_J45 q1
set_option maxRecDepth 20000 in
theorem s_X9_wordHere_J36 : ∀ (σ : st_S) (q : Int × st_S), g_X9_wordHere_J36 σ = some q → f_X9_wordHere_J36 ((596 : Nat) : Int) (mk_ σ) = some ((q.1, mk_ q.2)) := by
  intro σ q hk
  unfold g_X9_wordHere_J36 at hk
  unfold f_X9_wordHere_J36
  refine mb_get rfl rfl ?_
  obtain ⟨q1, hq1, hk⟩ := ab_bnd hk
  refine mb_on rfl (s_X9_errs hq1) ?_
  exact s_X9_wordHere_J45  _ _ hk
noncomputable def g_X9_wordHere (σ : st_S) : Option (Int × st_S) :=
  (g_X9_good σ).bind fun q1 =>
  if q1.1 = (0 : Int) then
    g_X9_wordHere_J45 q1.2
  else
  if q1.2 596 8 = (1 : Int) then
    if (7 : Int) < ab_w32 ((q1.2 596 6) - (q1.2 596 7)) then
      g_X9_wordHere_J36 q1.2
    else
    (g_X9_isOwnWord q1.2).bind fun q2 =>
    if q2.1 = (0 : Int) then
      g_X9_wordHere_J45 q2.2
    else
    g_X9_wordHere_J36 q2.2
  else
  g_X9_wordHere_J36 q1.2
set_option maxRecDepth 20000 in
theorem s_X9_wordHere {σ : st_S} {q : Int × st_S} (hk : g_X9_wordHere σ = some q) : f_X9_wordHere ((596 : Nat) : Int) (mk_ σ) = some ((q.1, mk_ q.2)) := by
  unfold g_X9_wordHere at hk
  unfold f_X9_wordHere
  obtain ⟨q1, hq1, hk⟩ := ab_bnd hk
  refine mb_on rfl (s_X9_good hq1) ?_
  by_cases hc : q1.1 = (0 : Int)
  · have hk := ab_ifp hk hc
    refine mb_ifp hc ?_
    exact s_X9_wordHere_J45  _ _ hk
  · have hk := ab_ifn hk hc
    refine mb_ifn hc ?_
    refine mb_get rfl rfl ?_
    by_cases hc : q1.2 596 8 = (1 : Int)
    · have hk := ab_ifp hk hc
      refine mb_ifp hc ?_
      refine mb_get rfl rfl ?_
      refine mb_get rfl rfl ?_
      by_cases hc : (7 : Int) < ab_w32 ((q1.2 596 6) - (q1.2 596 7))
      · have hk := ab_ifp hk hc
        refine mb_ifp hc ?_
        exact s_X9_wordHere_J36  _ _ hk
      · have hk := ab_ifn hk hc
        refine mb_ifn hc ?_
        obtain ⟨q2, hq2, hk⟩ := ab_bnd hk
        refine mb_on rfl (s_X9_isOwnWord hq2) ?_
        by_cases hc : q2.1 = (0 : Int)
        · have hk := ab_ifp hk hc
          refine mb_ifp hc ?_
          exact s_X9_wordHere_J45  _ _ hk
        · have hk := ab_ifn hk hc
          refine mb_ifn hc ?_
          exact s_X9_wordHere_J36  _ _ hk
    · have hk := ab_ifn hk hc
      refine mb_ifn hc ?_
      exact s_X9_wordHere_J36  _ _ hk
noncomputable def g_X9_wordRead (σ : st_S) : Option (Int × st_S) :=
  (g_X9_wordHere σ).bind fun q1 =>
  (g_X9_good q1.2).bind fun q2 =>
  if q2.1 = (0 : Int) then
    some (q1.1, q2.2)
  else
  (g_X9_advance q2.2).bind fun q3 =>
  some (q1.1, q3)
set_option maxRecDepth 20000 in
theorem s_X9_wordRead {σ : st_S} {q : Int × st_S} (hk : g_X9_wordRead σ = some q) : f_X9_wordRead ((596 : Nat) : Int) (mk_ σ) = some ((q.1, mk_ q.2)) := by
  unfold g_X9_wordRead at hk
  unfold f_X9_wordRead
  obtain ⟨q1, hq1, hk⟩ := ab_bnd hk
  refine mb_on rfl (s_X9_wordHere hq1) ?_
  obtain ⟨q2, hq2, hk⟩ := ab_bnd hk
  refine mb_on rfl (s_X9_good hq2) ?_
  by_cases hc : q2.1 = (0 : Int)
  · have hk := ab_ifp hk hc
    refine mb_ifp hc ?_
    obtain rfl := Option.some.inj hk
    rfl
  · have hk := ab_ifn hk hc
    refine mb_ifn hc ?_
    obtain ⟨q3, hq3, hk⟩ := ab_bnd hk
    refine mb_on rfl (s_X9_advance hq3) ?_
    obtain rfl := Option.some.inj hk
    rfl
noncomputable def g_X9_readLaw_J126 (v1 : Int) (v2 : Int) (σ : st_S) : Option st_S :=
  (g_X9_good σ).bind fun q1 =>
  if q1.1 = (0 : Int) then
    some q1.2
  else
  (sa_st q1.2 598 416 (ab_w32 ((2 : Int) + v1)) v2).bind fun σ1 =>
  (g_X9_advance σ1).bind fun q2 =>
  some q2
set_option maxRecDepth 20000 in
theorem s_X9_readLaw_J126 : ∀ (v1 : Int) (v2 : Int) (σ : st_S) (q : st_S), g_X9_readLaw_J126 v1 v2 σ = some q → f_X9_readLaw_J126 ((596 : Nat) : Int) v1 v2 (mk_ σ) = some (mk_ q) := by
  intro v1 v2 σ q hk
  unfold g_X9_readLaw_J126 at hk
  unfold f_X9_readLaw_J126
  obtain ⟨q1, hq1, hk⟩ := ab_bnd hk
  refine mb_on rfl (s_X9_good hq1) ?_
  by_cases hc : q1.1 = (0 : Int)
  · have hk := ab_ifp hk hc
    refine mb_ifp hc ?_
    obtain rfl := Option.some.inj hk
    rfl
  · have hk := ab_ifn hk hc
    refine mb_ifn hc ?_
    refine mb_getR 598 rfl rfl (by decide) ?_
    obtain ⟨σ1, hσ1, hk⟩ := ab_bnd hk
    refine mb_ast ⟨rfl, rfl, fun _ => rfl⟩ hσ1 ?_
    obtain ⟨q2, hq2, hk⟩ := ab_bnd hk
    refine mb_on rfl (s_X9_advance hq2) ?_
    obtain rfl := Option.some.inj hk
    rfl
noncomputable def g_X9_readLaw_J111 (v1 : Int) (s0 : Int) (σ : st_S) : Option st_S :=
  if s0 = (-1 : Int) then
    (g_X9_errs (1 : Int) (σ 596 7) σ).bind fun q1 =>
    g_X9_readLaw_J126 v1 s0 q1
  else
  g_X9_readLaw_J126 v1 s0 σ
set_option maxRecDepth 20000 in
theorem s_X9_readLaw_J111 : ∀ (v1 : Int) (s0 : Int) (σ : st_S) (q : st_S), g_X9_readLaw_J111 v1 s0 σ = some q → f_X9_readLaw_J111 ((596 : Nat) : Int) v1 s0 (mk_ σ) = some (mk_ q) := by
  intro v1 s0 σ q hk
  unfold g_X9_readLaw_J111 at hk
  unfold f_X9_readLaw_J111
  by_cases hc : s0 = (-1 : Int)
  · have hk := ab_ifp hk hc
    refine mb_ifp hc ?_
    refine mb_get rfl rfl ?_
    obtain ⟨q1, hq1, hk⟩ := ab_bnd hk
    refine mb_on rfl (s_X9_errs hq1) ?_
    exact s_X9_readLaw_J126 _ _  _ _ hk
  · have hk := ab_ifn hk hc
    refine mb_ifn hc ?_
    exact s_X9_readLaw_J126 _ _  _ _ hk
noncomputable def g_X9_readLaw_J47 (v1 : Int) (σ : st_S) : Option st_S :=
  (g_X9_good σ).bind fun q1 =>
  if q1.1 = (0 : Int) then
    some q1.2
  else
  (some (up2 q1.2 596 12 (ab_or (q1.2 596 12) (ab_shl (1 : Int) v1)))).bind fun σ1 =>
  (g_X9_advance σ1).bind fun q2 =>
  (g_X9_isWord (-9 : Int) q2).bind fun q3 =>
  if q3.1 = (0 : Int) then
    (g_X9_isWord (-10 : Int) q3.2).bind fun q4 =>
    if q4.1 = (0 : Int) then
      (g_X9_isWord (-11 : Int) q4.2).bind fun q5 =>
      if q5.1 = (0 : Int) then
        g_X9_readLaw_J111 v1 (-1 : Int) q5.2
      else
      g_X9_readLaw_J111 v1 (2 : Int) q5.2
    else
    g_X9_readLaw_J111 v1 (1 : Int) q4.2
  else
  g_X9_readLaw_J111 v1 (0 : Int) q3.2
set_option maxRecDepth 20000 in
theorem s_X9_readLaw_J47 : ∀ (v1 : Int) (σ : st_S) (q : st_S), g_X9_readLaw_J47 v1 σ = some q → f_X9_readLaw_J47 ((596 : Nat) : Int) v1 (mk_ σ) = some (mk_ q) := by
  intro v1 σ q hk
  unfold g_X9_readLaw_J47 at hk
  unfold f_X9_readLaw_J47
  obtain ⟨q1, hq1, hk⟩ := ab_bnd hk
  refine mb_on rfl (s_X9_good hq1) ?_
  by_cases hc : q1.1 = (0 : Int)
  · have hk := ab_ifp hk hc
    refine mb_ifp hc ?_
    obtain rfl := Option.some.inj hk
    rfl
  · have hk := ab_ifn hk hc
    refine mb_ifn hc ?_
    refine mb_get rfl rfl ?_
    obtain ⟨σ1, hσ1, hk⟩ := ab_bnd hk
    refine mb_put rfl rfl hσ1 ?_
    obtain ⟨q2, hq2, hk⟩ := ab_bnd hk
    refine mb_on rfl (s_X9_advance hq2) ?_
    obtain ⟨q3, hq3, hk⟩ := ab_bnd hk
    refine mb_on rfl (s_X9_isWord hq3) ?_
    by_cases hc : q3.1 = (0 : Int)
    · have hk := ab_ifp hk hc
      refine mb_ifp hc ?_
      obtain ⟨q4, hq4, hk⟩ := ab_bnd hk
      refine mb_on rfl (s_X9_isWord hq4) ?_
      by_cases hc : q4.1 = (0 : Int)
      · have hk := ab_ifp hk hc
        refine mb_ifp hc ?_
        obtain ⟨q5, hq5, hk⟩ := ab_bnd hk
        refine mb_on rfl (s_X9_isWord hq5) ?_
        by_cases hc : q5.1 = (0 : Int)
        · have hk := ab_ifp hk hc
          refine mb_ifp hc ?_
          exact s_X9_readLaw_J111 _ _  _ _ hk
        · have hk := ab_ifn hk hc
          refine mb_ifn hc ?_
          exact s_X9_readLaw_J111 _ _  _ _ hk
      · have hk := ab_ifn hk hc
        refine mb_ifn hc ?_
        exact s_X9_readLaw_J111 _ _  _ _ hk
    · have hk := ab_ifn hk hc
      refine mb_ifn hc ?_
      exact s_X9_readLaw_J111 _ _  _ _ hk
noncomputable def g_X9_readLaw_J19 (v1 : Int) (σ : st_S) : Option st_S :=
  (g_X9_good σ).bind fun q1 =>
  if q1.1 = (0 : Int) then
    g_X9_readLaw_J47 v1 q1.2
  else
  if ab_and (ab_shr (q1.2 596 12) v1) (1 : Int) = (1 : Int) then
    (g_X9_errs (3 : Int) (q1.2 596 7) q1.2).bind fun q2 =>
    g_X9_readLaw_J47 v1 q2
  else
  g_X9_readLaw_J47 v1 q1.2
set_option maxRecDepth 20000 in
theorem s_X9_readLaw_J19 : ∀ (v1 : Int) (σ : st_S) (q : st_S), g_X9_readLaw_J19 v1 σ = some q → f_X9_readLaw_J19 ((596 : Nat) : Int) v1 (mk_ σ) = some (mk_ q) := by
  intro v1 σ q hk
  unfold g_X9_readLaw_J19 at hk
  unfold f_X9_readLaw_J19
  obtain ⟨q1, hq1, hk⟩ := ab_bnd hk
  refine mb_on rfl (s_X9_good hq1) ?_
  by_cases hc : q1.1 = (0 : Int)
  · have hk := ab_ifp hk hc
    refine mb_ifp hc ?_
    exact s_X9_readLaw_J47 _  _ _ hk
  · have hk := ab_ifn hk hc
    refine mb_ifn hc ?_
    refine mb_get rfl rfl ?_
    by_cases hc : ab_and (ab_shr (q1.2 596 12) v1) (1 : Int) = (1 : Int)
    · have hk := ab_ifp hk hc
      refine mb_ifp hc ?_
      refine mb_get rfl rfl ?_
      obtain ⟨q2, hq2, hk⟩ := ab_bnd hk
      refine mb_on rfl (s_X9_errs hq2) ?_
      exact s_X9_readLaw_J47 _  _ _ hk
    · have hk := ab_ifn hk hc
      refine mb_ifn hc ?_
      exact s_X9_readLaw_J47 _  _ _ hk
noncomputable def g_X9_readLaw (σ : st_S) : Option st_S :=
  (g_X9_roleHere σ).bind fun q1 =>
  if q1.1 = (-1 : Int) then
    (g_X9_errs (1 : Int) (q1.2 596 7) q1.2).bind fun q2 =>
    g_X9_readLaw_J19 q1.1 q2
  else
  g_X9_readLaw_J19 q1.1 q1.2
set_option maxRecDepth 20000 in
theorem s_X9_readLaw {σ : st_S} {q : st_S} (hk : g_X9_readLaw σ = some q) : f_X9_readLaw ((596 : Nat) : Int) (mk_ σ) = some (mk_ q) := by
  unfold g_X9_readLaw at hk
  unfold f_X9_readLaw
  obtain ⟨q1, hq1, hk⟩ := ab_bnd hk
  refine mb_on rfl (s_X9_roleHere hq1) ?_
  by_cases hc : q1.1 = (-1 : Int)
  · have hk := ab_ifp hk hc
    refine mb_ifp hc ?_
    refine mb_get rfl rfl ?_
    obtain ⟨q2, hq2, hk⟩ := ab_bnd hk
    refine mb_on rfl (s_X9_errs hq2) ?_
    exact s_X9_readLaw_J19 _  _ _ hk
  · have hk := ab_ifn hk hc
    refine mb_ifn hc ?_
    exact s_X9_readLaw_J19 _  _ _ hk
noncomputable def g_X9_usedOf_J50 (rec : Nat → Int → Int → Int → st_S → Option (Int × st_S)) (k56 : Nat → Int → Int → st_S → Option (Int × st_S)) (v0 : Nat) (v3 : Int) (v5 : Int) (v6 : Int) (σ : st_S) : Option (Int × st_S) :=
  rec v0 v3 v5 (ab_w32 (v6 + (1 : Int))) σ
set_option maxRecDepth 20000 in
theorem s_X9_usedOf_J50 {rec : Nat → Int → Int → Int → st_S → Option (Int × st_S)} {recf : Int → Int → Int → Int → ab_H → Option (Int × ab_H)} {k56 : Nat → Int → Int → st_S → Option (Int × st_S)} {kf56 : Int → Int → Int → ab_H → Option (Int × ab_H)} (hrec : ∀ (v0 : Nat) (v3 : Int) (v5 : Int) (v6 : Int) (pv0 : IsA 12 416 v0) (σ : st_S) (q : Int × st_S), rec v0 v3 v5 v6 σ = some q → recf ((v0 : Nat) : Int) v3 v5 v6 (mk_ σ) = some ((q.1, mk_ q.2))) (hk56 : ∀ (v0 : Nat) (v3 : Int) (v5 : Int) (pv0 : IsA 12 416 v0) (σ : st_S) (q : Int × st_S), k56 v0 v3 v5 σ = some q → kf56 ((v0 : Nat) : Int) v3 v5 (mk_ σ) = some ((q.1, mk_ q.2))) : ∀ (v0 : Nat) (v3 : Int) (v5 : Int) (v6 : Int) (pv0 : IsA 12 416 v0) (σ : st_S) (q : Int × st_S), g_X9_usedOf_J50 rec k56 v0 v3 v5 v6 σ = some q → f_X9_usedOf_J50 recf kf56 ((v0 : Nat) : Int) v3 v5 v6 (mk_ σ) = some ((q.1, mk_ q.2)) := by
  intro v0 v3 v5 v6 pv0 σ q hk
  unfold g_X9_usedOf_J50 at hk
  unfold f_X9_usedOf_J50
  exact hrec _ _ _ _ pv0 _ _ hk
noncomputable def g_X9_usedOf_L15 (k56 : Nat → Int → Int → st_S → Option (Int × st_S)) : Nat → Nat → Int → Int → Int → st_S → Option (Int × st_S)
  | 0, _, _, _, _, _ => none
  | n + 1, v0, v3, v5, v6, σ =>
    (sa_ld σ v0 416 (1 : Int)).bind fun t1 =>
    if ab_w32 t1 ≤ v6 then
      k56 v0 v3 v5 σ
    else
    (sa_ld σ v0 416 (ab_w32 ((8 : Int) + (ab_w32 ((2 : Int) * v6))))).bind fun t2 =>
    if ab_cmp t2 v3 = (0 : Int) then
      (sa_ld σ v0 416 (ab_w32 ((ab_w32 ((8 : Int) + (ab_w32 ((2 : Int) * v6)))) + (1 : Int)))).bind fun t3 =>
      g_X9_usedOf_J50 (g_X9_usedOf_L15 k56 n) k56 v0 t3 v5 v6 σ
    else
    g_X9_usedOf_J50 (g_X9_usedOf_L15 k56 n) k56 v0 v3 v5 v6 σ
set_option maxRecDepth 20000 in
theorem s_X9_usedOf_L15 {k56 : Nat → Int → Int → st_S → Option (Int × st_S)} {kf56 : Int → Int → Int → ab_H → Option (Int × ab_H)} (hk56 : ∀ (v0 : Nat) (v3 : Int) (v5 : Int) (pv0 : IsA 12 416 v0) (σ : st_S) (q : Int × st_S), k56 v0 v3 v5 σ = some q → kf56 ((v0 : Nat) : Int) v3 v5 (mk_ σ) = some ((q.1, mk_ q.2))) : ∀ (n : Nat) (v0 : Nat) (v3 : Int) (v5 : Int) (v6 : Int) (pv0 : IsA 12 416 v0) (σ : st_S) (q : Int × st_S), g_X9_usedOf_L15 k56 n v0 v3 v5 v6 σ = some q → f_X9_usedOf_L15 kf56 n ((v0 : Nat) : Int) v3 v5 v6 (mk_ σ) = some ((q.1, mk_ q.2)) := by
  intro n
  induction n with
  | zero => intro v0 v3 v5 v6 pv0 σ q hk; cases hk
  | succ n ih =>
    intro v0 v3 v5 v6 pv0 σ q hk
    unfold g_X9_usedOf_L15 at hk
    unfold f_X9_usedOf_L15
    obtain ⟨t1, ht1, hk⟩ := ab_bnd hk
    refine mb_ald pv0 ht1 ?_
    by_cases hc : ab_w32 t1 ≤ v6
    · have hk := ab_ifp hk hc
      refine mb_ifp hc ?_
      exact hk56 _ _ _ pv0 _ _ hk
    · have hk := ab_ifn hk hc
      refine mb_ifn hc ?_
      obtain ⟨t2, ht2, hk⟩ := ab_bnd hk
      refine mb_ald pv0 ht2 ?_
      by_cases hc : ab_cmp t2 v3 = (0 : Int)
      · have hk := ab_ifp hk hc
        refine mb_ifp hc ?_
        obtain ⟨t3, ht3, hk⟩ := ab_bnd hk
        refine mb_ald pv0 ht3 ?_
        exact s_X9_usedOf_J50 ih hk56 _ _ _ _ pv0 _ _ hk
      · have hk := ab_ifn hk hc
        refine mb_ifn hc ?_
        exact s_X9_usedOf_J50 ih hk56 _ _ _ _ pv0 _ _ hk
noncomputable def g_X9_usedOf_L5 : Nat → Nat → Int → Int → st_S → Option (Int × st_S)
  | 0, _, _, _, _ => none
  | n + 1, v0, v3, v5, σ =>
    if (12 : Int) < v5 then
      some (v3, σ)
    else
    g_X9_usedOf_L15 (fun w56_0 w56_3 w56_5 σx56 =>
      g_X9_usedOf_L5 n w56_0 w56_3 (ab_w32 (w56_5 + (1 : Int))) σx56) ab_FU v0 v3 v5 (0 : Int) σ
set_option maxRecDepth 20000 in
theorem s_X9_usedOf_L5 : ∀ (n : Nat) (v0 : Nat) (v3 : Int) (v5 : Int) (pv0 : IsA 12 416 v0) (σ : st_S) (q : Int × st_S), g_X9_usedOf_L5 n v0 v3 v5 σ = some q → f_X9_usedOf_L5 n ((v0 : Nat) : Int) v3 v5 (mk_ σ) = some ((q.1, mk_ q.2)) := by
  intro n
  induction n with
  | zero => intro v0 v3 v5 pv0 σ q hk; cases hk
  | succ n ih =>
    intro v0 v3 v5 pv0 σ q hk
    unfold g_X9_usedOf_L5 at hk
    unfold f_X9_usedOf_L5
    by_cases hc : (12 : Int) < v5
    · have hk := ab_ifp hk hc
      refine mb_ifp hc ?_
      obtain rfl := Option.some.inj hk
      rfl
    · have hk := ab_ifn hk hc
      refine mb_ifn hc ?_
      refine s_X9_usedOf_L15 (fun w56_0 w56_3 w56_5 pw56_0 σx56 q hk => ?_) _ _ _ _ _ pv0 _ _ hk
      · skip
        exact ih _ _ _ pw56_0 _ _ hk
noncomputable def g_X9_usedOf (a0 : Nat) (a1 : Int) (σ : st_S) : Option (Int × st_S) :=
  g_X9_usedOf_L5 ab_FU a0 a1 (0 : Int) σ
set_option maxRecDepth 20000 in
theorem s_X9_usedOf {a0 : Nat} {a1 : Int} (pa0 : IsA 12 416 a0) {σ : st_S} {q : Int × st_S} (hk : g_X9_usedOf a0 a1 σ = some q) : f_X9_usedOf ((a0 : Nat) : Int) a1 (mk_ σ) = some ((q.1, mk_ q.2)) := by
  unfold g_X9_usedOf at hk
  unfold f_X9_usedOf
  refine s_X9_usedOf_L5 _ _ _ _ pa0 _ _ hk
noncomputable def g_X9_isSeen_L2 : Nat → Int → Int → st_S → Option (Int × st_S)
  | 0, _, _, _ => none
  | n + 1, v1, v3, σ =>
    (sa_ld σ 598 416 (1 : Int)).bind fun t1 =>
    if ab_w32 t1 ≤ v3 then
      some ((0 : Int), σ)
    else
    (sa_ld σ 598 416 (ab_w32 ((8 : Int) + (ab_w32 ((2 : Int) * v3))))).bind fun t2 =>
    if ab_cmp t2 v1 = (0 : Int) then
      some ((1 : Int), σ)
    else
    g_X9_isSeen_L2 n v1 (ab_w32 (v3 + (1 : Int))) σ
set_option maxRecDepth 20000 in
theorem s_X9_isSeen_L2 : ∀ (n : Nat) (v1 : Int) (v3 : Int) (σ : st_S) (q : Int × st_S), g_X9_isSeen_L2 n v1 v3 σ = some q → f_X9_isSeen_L2 n ((596 : Nat) : Int) v1 v3 (mk_ σ) = some ((q.1, mk_ q.2)) := by
  intro n
  induction n with
  | zero => intro v1 v3 σ q hk; cases hk
  | succ n ih =>
    intro v1 v3 σ q hk
    unfold g_X9_isSeen_L2 at hk
    unfold f_X9_isSeen_L2
    refine mb_getR 598 rfl rfl (by decide) ?_
    obtain ⟨t1, ht1, hk⟩ := ab_bnd hk
    refine mb_ald ⟨rfl, rfl, fun _ => rfl⟩ ht1 ?_
    by_cases hc : ab_w32 t1 ≤ v3
    · have hk := ab_ifp hk hc
      refine mb_ifp hc ?_
      obtain rfl := Option.some.inj hk
      rfl
    · have hk := ab_ifn hk hc
      refine mb_ifn hc ?_
      refine mb_getR 598 rfl rfl (by decide) ?_
      obtain ⟨t2, ht2, hk⟩ := ab_bnd hk
      refine mb_ald ⟨rfl, rfl, fun _ => rfl⟩ ht2 ?_
      by_cases hc : ab_cmp t2 v1 = (0 : Int)
      · have hk := ab_ifp hk hc
        refine mb_ifp hc ?_
        obtain rfl := Option.some.inj hk
        rfl
      · have hk := ab_ifn hk hc
        refine mb_ifn hc ?_
        exact ih _ _  _ _ hk
noncomputable def g_X9_isSeen (a1 : Int) (σ : st_S) : Option (Int × st_S) :=
  g_X9_isSeen_L2 ab_FU a1 (0 : Int) σ
set_option maxRecDepth 20000 in
theorem s_X9_isSeen {a1 : Int} {σ : st_S} {q : Int × st_S} (hk : g_X9_isSeen a1 σ = some q) : f_X9_isSeen ((596 : Nat) : Int) a1 (mk_ σ) = some ((q.1, mk_ q.2)) := by
  unfold g_X9_isSeen at hk
  unfold f_X9_isSeen
  refine s_X9_isSeen_L2 _ _ _  _ _ hk
noncomputable def g_X9_readSee_J74 (v1 : Int) (v3 : Int) (σ : st_S) : Option st_S :=
  (g_X9_good σ).bind fun q1 =>
  if q1.1 = (0 : Int) then
    some q1.2
  else
  (g_X9_advance q1.2).bind fun q2 =>
  (sa_ld q2 598 416 (1 : Int)).bind fun t3 =>
  (sa_st q2 598 416 (ab_w32 ((8 : Int) + (ab_w32 ((2 : Int) * (ab_w32 t3))))) v1).bind fun σ1 =>
  (sa_st σ1 598 416 (ab_w32 ((ab_w32 ((8 : Int) + (ab_w32 ((2 : Int) * (ab_w32 t3))))) + (1 : Int))) v3).bind fun σ2 =>
  (sa_ld σ2 598 416 (1 : Int)).bind fun t4 =>
  (sa_st σ2 598 416 (1 : Int) (ab_w64 (t4 + (1 : Int)))).bind fun σ3 =>
  some σ3
set_option maxRecDepth 20000 in
theorem s_X9_readSee_J74 : ∀ (v1 : Int) (v3 : Int) (σ : st_S) (q : st_S), g_X9_readSee_J74 v1 v3 σ = some q → f_X9_readSee_J74 ((596 : Nat) : Int) v1 v3 (mk_ σ) = some (mk_ q) := by
  intro v1 v3 σ q hk
  unfold g_X9_readSee_J74 at hk
  unfold f_X9_readSee_J74
  obtain ⟨q1, hq1, hk⟩ := ab_bnd hk
  refine mb_on rfl (s_X9_good hq1) ?_
  by_cases hc : q1.1 = (0 : Int)
  · have hk := ab_ifp hk hc
    refine mb_ifp hc ?_
    obtain rfl := Option.some.inj hk
    rfl
  · have hk := ab_ifn hk hc
    refine mb_ifn hc ?_
    obtain ⟨q2, hq2, hk⟩ := ab_bnd hk
    refine mb_on rfl (s_X9_advance hq2) ?_
    refine mb_getR 598 rfl rfl (by decide) ?_
    obtain ⟨t3, ht3, hk⟩ := ab_bnd hk
    refine mb_ald ⟨rfl, rfl, fun _ => rfl⟩ ht3 ?_
    refine mb_getR 598 rfl rfl (by decide) ?_
    obtain ⟨σ1, hσ1, hk⟩ := ab_bnd hk
    refine mb_ast ⟨rfl, rfl, fun _ => rfl⟩ hσ1 ?_
    refine mb_getR 598 rfl rfl (by decide) ?_
    obtain ⟨σ2, hσ2, hk⟩ := ab_bnd hk
    refine mb_ast ⟨rfl, rfl, fun _ => rfl⟩ hσ2 ?_
    refine mb_getR 598 rfl rfl (by decide) ?_
    obtain ⟨t4, ht4, hk⟩ := ab_bnd hk
    refine mb_ald ⟨rfl, rfl, fun _ => rfl⟩ ht4 ?_
    obtain ⟨σ3, hσ3, hk⟩ := ab_bnd hk
    refine mb_ast ⟨rfl, rfl, fun _ => rfl⟩ hσ3 ?_
    obtain rfl := Option.some.inj hk
    rfl
noncomputable def g_X9_readSee_J40 (v1 : Int) (σ : st_S) : Option st_S :=
  (g_X9_wordHere σ).bind fun q1 =>
  (g_X9_good q1.2).bind fun q2 =>
  if q2.1 = (0 : Int) then
    g_X9_readSee_J74 v1 q1.1 q2.2
  else
  (g_X9_usedOf 598 q1.1 q2.2).bind fun q3 =>
  if ab_cmp q3.1 v1 = (0 : Int) then
    (g_X9_errs (3 : Int) (q3.2 596 7) q3.2).bind fun q4 =>
    g_X9_readSee_J74 v1 q1.1 q4
  else
  g_X9_readSee_J74 v1 q1.1 q3.2
set_option maxRecDepth 20000 in
theorem s_X9_readSee_J40 : ∀ (v1 : Int) (σ : st_S) (q : st_S), g_X9_readSee_J40 v1 σ = some q → f_X9_readSee_J40 ((596 : Nat) : Int) v1 (mk_ σ) = some (mk_ q) := by
  intro v1 σ q hk
  unfold g_X9_readSee_J40 at hk
  unfold f_X9_readSee_J40
  obtain ⟨q1, hq1, hk⟩ := ab_bnd hk
  refine mb_on rfl (s_X9_wordHere hq1) ?_
  obtain ⟨q2, hq2, hk⟩ := ab_bnd hk
  refine mb_on rfl (s_X9_good hq2) ?_
  by_cases hc : q2.1 = (0 : Int)
  · have hk := ab_ifp hk hc
    refine mb_ifp hc ?_
    exact s_X9_readSee_J74 _ _  _ _ hk
  · have hk := ab_ifn hk hc
    refine mb_ifn hc ?_
    refine mb_getR 598 rfl rfl (by decide) ?_
    obtain ⟨q3, hq3, hk⟩ := ab_bnd hk
    refine mb_eq (s_X9_usedOf ⟨rfl, rfl, fun _ => rfl⟩ hq3) ?_
    by_cases hc : ab_cmp q3.1 v1 = (0 : Int)
    · have hk := ab_ifp hk hc
      refine mb_ifp hc ?_
      refine mb_get rfl rfl ?_
      obtain ⟨q4, hq4, hk⟩ := ab_bnd hk
      refine mb_on rfl (s_X9_errs hq4) ?_
      exact s_X9_readSee_J74 _ _  _ _ hk
    · have hk := ab_ifn hk hc
      refine mb_ifn hc ?_
      exact s_X9_readSee_J74 _ _  _ _ hk
noncomputable def g_X9_readSee_J29 (v1 : Int) (σ : st_S) : Option st_S :=
  (g_X9_good σ).bind fun q1 =>
  if q1.1 = (0 : Int) then
    g_X9_readSee_J40 v1 q1.2
  else
  (g_X9_advance q1.2).bind fun q2 =>
  g_X9_readSee_J40 v1 q2
set_option maxRecDepth 20000 in
theorem s_X9_readSee_J29 : ∀ (v1 : Int) (σ : st_S) (q : st_S), g_X9_readSee_J29 v1 σ = some q → f_X9_readSee_J29 ((596 : Nat) : Int) v1 (mk_ σ) = some (mk_ q) := by
  intro v1 σ q hk
  unfold g_X9_readSee_J29 at hk
  unfold f_X9_readSee_J29
  obtain ⟨q1, hq1, hk⟩ := ab_bnd hk
  refine mb_on rfl (s_X9_good hq1) ?_
  by_cases hc : q1.1 = (0 : Int)
  · have hk := ab_ifp hk hc
    refine mb_ifp hc ?_
    exact s_X9_readSee_J40 _  _ _ hk
  · have hk := ab_ifn hk hc
    refine mb_ifn hc ?_
    obtain ⟨q2, hq2, hk⟩ := ab_bnd hk
    refine mb_on rfl (s_X9_advance hq2) ?_
    exact s_X9_readSee_J40 _  _ _ hk
noncomputable def g_X9_readSee (σ : st_S) : Option st_S :=
  (g_X9_wordHere σ).bind fun q1 =>
  (g_X9_good q1.2).bind fun q2 =>
  if q2.1 = (0 : Int) then
    g_X9_readSee_J29 q1.1 q2.2
  else
  (g_X9_isSeen q1.1 q2.2).bind fun q3 =>
  if q3.1 = (0 : Int) then
    g_X9_readSee_J29 q1.1 q3.2
  else
  (g_X9_errs (3 : Int) (q3.2 596 7) q3.2).bind fun q4 =>
  g_X9_readSee_J29 q1.1 q4
set_option maxRecDepth 20000 in
theorem s_X9_readSee {σ : st_S} {q : st_S} (hk : g_X9_readSee σ = some q) : f_X9_readSee ((596 : Nat) : Int) (mk_ σ) = some (mk_ q) := by
  unfold g_X9_readSee at hk
  unfold f_X9_readSee
  obtain ⟨q1, hq1, hk⟩ := ab_bnd hk
  refine mb_on rfl (s_X9_wordHere hq1) ?_
  obtain ⟨q2, hq2, hk⟩ := ab_bnd hk
  refine mb_on rfl (s_X9_good hq2) ?_
  by_cases hc : q2.1 = (0 : Int)
  · have hk := ab_ifp hk hc
    refine mb_ifp hc ?_
    exact s_X9_readSee_J29 _  _ _ hk
  · have hk := ab_ifn hk hc
    refine mb_ifn hc ?_
    obtain ⟨q3, hq3, hk⟩ := ab_bnd hk
    refine mb_on rfl (s_X9_isSeen hq3) ?_
    by_cases hc : q3.1 = (0 : Int)
    · have hk := ab_ifp hk hc
      refine mb_ifp hc ?_
      exact s_X9_readSee_J29 _  _ _ hk
    · have hk := ab_ifn hk hc
      refine mb_ifn hc ?_
      refine mb_get rfl rfl ?_
      obtain ⟨q4, hq4, hk⟩ := ab_bnd hk
      refine mb_on rfl (s_X9_errs hq4) ?_
      exact s_X9_readSee_J29 _  _ _ hk
noncomputable def g_X9_isAddress_L2 : Nat → Int → Int → st_S → Option (Int × st_S)
  | 0, _, _, _ => none
  | n + 1, v1, v2, σ =>
    (sa_ld σ 598 416 (0 : Int)).bind fun t1 =>
    if ab_w32 t1 ≤ v2 then
      some ((0 : Int), σ)
    else
    (sa_ld σ 598 416 (ab_w32 ((32 : Int) + (ab_w32 ((32 : Int) * v2))))).bind fun t2 =>
    if ab_cmp t2 v1 = (0 : Int) then
      some ((1 : Int), σ)
    else
    g_X9_isAddress_L2 n v1 (ab_w32 (v2 + (1 : Int))) σ
set_option maxRecDepth 20000 in
theorem s_X9_isAddress_L2 : ∀ (n : Nat) (v1 : Int) (v2 : Int) (σ : st_S) (q : Int × st_S), g_X9_isAddress_L2 n v1 v2 σ = some q → f_X9_isAddress_L2 n ((596 : Nat) : Int) v1 v2 (mk_ σ) = some ((q.1, mk_ q.2)) := by
  intro n
  induction n with
  | zero => intro v1 v2 σ q hk; cases hk
  | succ n ih =>
    intro v1 v2 σ q hk
    unfold g_X9_isAddress_L2 at hk
    unfold f_X9_isAddress_L2
    refine mb_getR 598 rfl rfl (by decide) ?_
    obtain ⟨t1, ht1, hk⟩ := ab_bnd hk
    refine mb_ald ⟨rfl, rfl, fun _ => rfl⟩ ht1 ?_
    by_cases hc : ab_w32 t1 ≤ v2
    · have hk := ab_ifp hk hc
      refine mb_ifp hc ?_
      obtain rfl := Option.some.inj hk
      rfl
    · have hk := ab_ifn hk hc
      refine mb_ifn hc ?_
      refine mb_getR 598 rfl rfl (by decide) ?_
      obtain ⟨t2, ht2, hk⟩ := ab_bnd hk
      refine mb_ald ⟨rfl, rfl, fun _ => rfl⟩ ht2 ?_
      by_cases hc : ab_cmp t2 v1 = (0 : Int)
      · have hk := ab_ifp hk hc
        refine mb_ifp hc ?_
        obtain rfl := Option.some.inj hk
        rfl
      · have hk := ab_ifn hk hc
        refine mb_ifn hc ?_
        exact ih _ _  _ _ hk
noncomputable def g_X9_isAddress (a1 : Int) (σ : st_S) : Option (Int × st_S) :=
  g_X9_isAddress_L2 ab_FU a1 (0 : Int) σ
set_option maxRecDepth 20000 in
theorem s_X9_isAddress {a1 : Int} {σ : st_S} {q : Int × st_S} (hk : g_X9_isAddress a1 σ = some q) : f_X9_isAddress ((596 : Nat) : Int) a1 (mk_ σ) = some ((q.1, mk_ q.2)) := by
  unfold g_X9_isAddress at hk
  unfold f_X9_isAddress
  refine s_X9_isAddress_L2 _ _ _  _ _ hk
noncomputable def g_X9_readTerm_J186 (v4 : Int) (s2 : Int) (s1 : Int) (σ : st_S) : Option st_S :=
  (sa_st σ 598 416 s1 s2).bind fun σ1 =>
  (g_X9_eats (-16 : Int) σ1).bind fun q1 =>
  if q1.1 = (0 : Int) then
    (sa_st q1.2 598 416 (ab_w32 (v4 + (4 : Int))) (0 : Int)).bind fun σ2 =>
    some σ2
  else
  (g_X9_wordRead q1.2).bind fun q2 =>
  (sa_st q2.2 598 416 (ab_w32 (v4 + (4 : Int))) q2.1).bind fun σ3 =>
  some σ3
set_option maxRecDepth 20000 in
theorem s_X9_readTerm_J186 : ∀ (v4 : Int) (s2 : Int) (s1 : Int) (σ : st_S) (q : st_S), g_X9_readTerm_J186 v4 s2 s1 σ = some q → f_X9_readTerm_J186 ((596 : Nat) : Int) v4 s2 s1 ((598 : Nat) : Int) (mk_ σ) = some (mk_ q) := by
  intro v4 s2 s1 σ q hk
  unfold g_X9_readTerm_J186 at hk
  unfold f_X9_readTerm_J186
  obtain ⟨σ1, hσ1, hk⟩ := ab_bnd hk
  refine mb_ast ⟨rfl, rfl, fun _ => rfl⟩ hσ1 ?_
  refine mb_getR 598 rfl rfl (by decide) ?_
  obtain ⟨q1, hq1, hk⟩ := ab_bnd hk
  refine mb_on rfl (s_X9_eats hq1) ?_
  by_cases hc : q1.1 = (0 : Int)
  · have hk := ab_ifp hk hc
    refine mb_ifp hc ?_
    obtain ⟨σ2, hσ2, hk⟩ := ab_bnd hk
    refine mb_ast ⟨rfl, rfl, fun _ => rfl⟩ hσ2 ?_
    obtain rfl := Option.some.inj hk
    rfl
  · have hk := ab_ifn hk hc
    refine mb_ifn hc ?_
    obtain ⟨q2, hq2, hk⟩ := ab_bnd hk
    refine mb_on rfl (s_X9_wordRead hq2) ?_
    obtain ⟨σ3, hσ3, hk⟩ := ab_bnd hk
    refine mb_ast ⟨rfl, rfl, fun _ => rfl⟩ hσ3 ?_
    obtain rfl := Option.some.inj hk
    rfl
noncomputable def g_X9_readTerm_J124 (v4 : Int) (v5 : Int) (σ : st_S) : Option st_S :=
  (g_X9_good σ).bind fun q1 =>
  if q1.1 = (0 : Int) then
    some q1.2
  else
  (g_X9_advance q1.2).bind fun q2 =>
  (sa_st q2 598 416 (ab_w32 (v4 + (0 : Int))) v5).bind fun σ1 =>
  (g_X9_wordRead σ1).bind fun q3 =>
  (sa_st q3.2 598 416 (ab_w32 (v4 + (2 : Int))) q3.1).bind fun σ2 =>
  (g_X9_eats (-15 : Int) σ2).bind fun q4 =>
  if q4.1 = (0 : Int) then
    g_X9_readTerm_J186 v4 (0 : Int) (ab_w32 (v4 + (3 : Int))) q4.2
  else
  (g_X9_wordRead q4.2).bind fun q5 =>
  g_X9_readTerm_J186 v4 q5.1 (ab_w32 (v4 + (3 : Int))) q5.2
set_option maxRecDepth 20000 in
theorem s_X9_readTerm_J124 : ∀ (v4 : Int) (v5 : Int) (σ : st_S) (q : st_S), g_X9_readTerm_J124 v4 v5 σ = some q → f_X9_readTerm_J124 ((596 : Nat) : Int) v4 v5 (mk_ σ) = some (mk_ q) := by
  intro v4 v5 σ q hk
  unfold g_X9_readTerm_J124 at hk
  unfold f_X9_readTerm_J124
  obtain ⟨q1, hq1, hk⟩ := ab_bnd hk
  refine mb_on rfl (s_X9_good hq1) ?_
  by_cases hc : q1.1 = (0 : Int)
  · have hk := ab_ifp hk hc
    refine mb_ifp hc ?_
    obtain rfl := Option.some.inj hk
    rfl
  · have hk := ab_ifn hk hc
    refine mb_ifn hc ?_
    obtain ⟨q2, hq2, hk⟩ := ab_bnd hk
    refine mb_on rfl (s_X9_advance hq2) ?_
    refine mb_getR 598 rfl rfl (by decide) ?_
    obtain ⟨σ1, hσ1, hk⟩ := ab_bnd hk
    refine mb_ast ⟨rfl, rfl, fun _ => rfl⟩ hσ1 ?_
    refine mb_getR 598 rfl rfl (by decide) ?_
    obtain ⟨q3, hq3, hk⟩ := ab_bnd hk
    refine mb_on rfl (s_X9_wordRead hq3) ?_
    obtain ⟨σ2, hσ2, hk⟩ := ab_bnd hk
    refine mb_ast ⟨rfl, rfl, fun _ => rfl⟩ hσ2 ?_
    refine mb_getR 598 rfl rfl (by decide) ?_
    obtain ⟨q4, hq4, hk⟩ := ab_bnd hk
    refine mb_on rfl (s_X9_eats hq4) ?_
    by_cases hc : q4.1 = (0 : Int)
    · have hk := ab_ifp hk hc
      refine mb_ifp hc ?_
      exact s_X9_readTerm_J186 _ _ _  _ _ hk
    · have hk := ab_ifn hk hc
      refine mb_ifn hc ?_
      obtain ⟨q5, hq5, hk⟩ := ab_bnd hk
      refine mb_on rfl (s_X9_wordRead hq5) ?_
      exact s_X9_readTerm_J186 _ _ _  _ _ hk
noncomputable def g_X9_readTerm_J102 (v3 : Int) (v4 : Int) (v5 : Int) (σ : st_S) : Option st_S :=
  (g_X9_good σ).bind fun q1 =>
  if q1.1 = (0 : Int) then
    g_X9_readTerm_J124 v4 v5 q1.2
  else
  if v3 ≤ v5 then
    g_X9_readTerm_J124 v4 v5 q1.2
  else
  (g_X9_errs (5 : Int) (q1.2 596 7) q1.2).bind fun q2 =>
  g_X9_readTerm_J124 v4 v5 q2
set_option maxRecDepth 20000 in
theorem s_X9_readTerm_J102 : ∀ (v3 : Int) (v4 : Int) (v5 : Int) (σ : st_S) (q : st_S), g_X9_readTerm_J102 v3 v4 v5 σ = some q → f_X9_readTerm_J102 ((596 : Nat) : Int) v3 v4 v5 (mk_ σ) = some (mk_ q) := by
  intro v3 v4 v5 σ q hk
  unfold g_X9_readTerm_J102 at hk
  unfold f_X9_readTerm_J102
  obtain ⟨q1, hq1, hk⟩ := ab_bnd hk
  refine mb_on rfl (s_X9_good hq1) ?_
  by_cases hc : q1.1 = (0 : Int)
  · have hk := ab_ifp hk hc
    refine mb_ifp hc ?_
    exact s_X9_readTerm_J124 _ _  _ _ hk
  · have hk := ab_ifn hk hc
    refine mb_ifn hc ?_
    by_cases hc : v3 ≤ v5
    · have hk := ab_ifp hk hc
      refine mb_ifp hc ?_
      exact s_X9_readTerm_J124 _ _  _ _ hk
    · have hk := ab_ifn hk hc
      refine mb_ifn hc ?_
      refine mb_get rfl rfl ?_
      obtain ⟨q2, hq2, hk⟩ := ab_bnd hk
      refine mb_on rfl (s_X9_errs hq2) ?_
      exact s_X9_readTerm_J124 _ _  _ _ hk
noncomputable def g_X9_readTerm_J80 (v3 : Int) (v4 : Int) (s2 : Int) (s1 : Int) (σ : st_S) : Option st_S :=
  (sa_st σ 598 416 s1 s2).bind fun σ1 =>
  (g_X9_roleHere σ1).bind fun q1 =>
  if q1.1 = (-1 : Int) then
    (g_X9_errs (1 : Int) (q1.2 596 7) q1.2).bind fun q2 =>
    g_X9_readTerm_J102 v3 v4 q1.1 q2
  else
  g_X9_readTerm_J102 v3 v4 q1.1 q1.2
set_option maxRecDepth 20000 in
theorem s_X9_readTerm_J80 : ∀ (v3 : Int) (v4 : Int) (s2 : Int) (s1 : Int) (σ : st_S) (q : st_S), g_X9_readTerm_J80 v3 v4 s2 s1 σ = some q → f_X9_readTerm_J80 ((596 : Nat) : Int) v3 v4 s2 s1 ((598 : Nat) : Int) (mk_ σ) = some (mk_ q) := by
  intro v3 v4 s2 s1 σ q hk
  unfold g_X9_readTerm_J80 at hk
  unfold f_X9_readTerm_J80
  obtain ⟨σ1, hσ1, hk⟩ := ab_bnd hk
  refine mb_ast ⟨rfl, rfl, fun _ => rfl⟩ hσ1 ?_
  obtain ⟨q1, hq1, hk⟩ := ab_bnd hk
  refine mb_on rfl (s_X9_roleHere hq1) ?_
  by_cases hc : q1.1 = (-1 : Int)
  · have hk := ab_ifp hk hc
    refine mb_ifp hc ?_
    refine mb_get rfl rfl ?_
    obtain ⟨q2, hq2, hk⟩ := ab_bnd hk
    refine mb_on rfl (s_X9_errs hq2) ?_
    exact s_X9_readTerm_J102 _ _ _  _ _ hk
  · have hk := ab_ifn hk hc
    refine mb_ifn hc ?_
    exact s_X9_readTerm_J102 _ _ _  _ _ hk
noncomputable def g_X9_readTerm_J50 (v3 : Int) (v4 : Int) (σ : st_S) : Option st_S :=
  (g_X9_good σ).bind fun q1 =>
  if q1.1 = (0 : Int) then
    some q1.2
  else
  (g_X9_eats (-14 : Int) q1.2).bind fun q2 =>
  if q2.1 = (0 : Int) then
    g_X9_readTerm_J80 v3 v4 (1 : Int) (ab_w32 (v4 + (1 : Int))) q2.2
  else
  g_X9_readTerm_J80 v3 v4 (0 : Int) (ab_w32 (v4 + (1 : Int))) q2.2
set_option maxRecDepth 20000 in
theorem s_X9_readTerm_J50 : ∀ (v3 : Int) (v4 : Int) (σ : st_S) (q : st_S), g_X9_readTerm_J50 v3 v4 σ = some q → f_X9_readTerm_J50 ((596 : Nat) : Int) v3 v4 (mk_ σ) = some (mk_ q) := by
  intro v3 v4 σ q hk
  unfold g_X9_readTerm_J50 at hk
  unfold f_X9_readTerm_J50
  obtain ⟨q1, hq1, hk⟩ := ab_bnd hk
  refine mb_on rfl (s_X9_good hq1) ?_
  by_cases hc : q1.1 = (0 : Int)
  · have hk := ab_ifp hk hc
    refine mb_ifp hc ?_
    obtain rfl := Option.some.inj hk
    rfl
  · have hk := ab_ifn hk hc
    refine mb_ifn hc ?_
    refine mb_getR 598 rfl rfl (by decide) ?_
    obtain ⟨q2, hq2, hk⟩ := ab_bnd hk
    refine mb_on rfl (s_X9_eats hq2) ?_
    by_cases hc : q2.1 = (0 : Int)
    · have hk := ab_ifp hk hc
      refine mb_ifp hc ?_
      exact s_X9_readTerm_J80 _ _ _ _  _ _ hk
    · have hk := ab_ifn hk hc
      refine mb_ifn hc ?_
      exact s_X9_readTerm_J80 _ _ _ _  _ _ hk
noncomputable def g_X9_readTerm_J43 (v3 : Int) (v4 : Int) (s1 : Int) (σ : st_S) : Option st_S :=
  (g_X9_errs s1 (σ 596 7) σ).bind fun q1 =>
  g_X9_readTerm_J50 v3 v4 q1
set_option maxRecDepth 20000 in
theorem s_X9_readTerm_J43 : ∀ (v3 : Int) (v4 : Int) (s1 : Int) (σ : st_S) (q : st_S), g_X9_readTerm_J43 v3 v4 s1 σ = some q → f_X9_readTerm_J43 ((596 : Nat) : Int) v3 v4 s1 ((596 : Nat) : Int) (mk_ σ) = some (mk_ q) := by
  intro v3 v4 s1 σ q hk
  unfold g_X9_readTerm_J43 at hk
  unfold f_X9_readTerm_J43
  refine mb_get rfl rfl ?_
  obtain ⟨q1, hq1, hk⟩ := ab_bnd hk
  refine mb_on rfl (s_X9_errs hq1) ?_
  exact s_X9_readTerm_J50 _ _  _ _ hk
noncomputable def g_X9_readTerm_J38 (v3 : Int) (v4 : Int) (σ : st_S) : Option st_S :=
  g_X9_readTerm_J43 v3 v4 (4 : Int) σ
set_option maxRecDepth 20000 in
theorem s_X9_readTerm_J38 : ∀ (v3 : Int) (v4 : Int) (σ : st_S) (q : st_S), g_X9_readTerm_J38 v3 v4 σ = some q → f_X9_readTerm_J38 ((596 : Nat) : Int) v3 v4 ((596 : Nat) : Int) (mk_ σ) = some (mk_ q) := by
  intro v3 v4 σ q hk
  unfold g_X9_readTerm_J38 at hk
  unfold f_X9_readTerm_J38
  exact s_X9_readTerm_J43 _ _ _  _ _ hk
noncomputable def g_X9_readTerm (a1 : Int) (a2 : Int) (a3 : Int) (σ : st_S) : Option st_S :=
  (g_X9_termAt a1 a2 σ).bind fun q1 =>
  (g_X9_good q1.2).bind fun q2 =>
  if q2.1 = (0 : Int) then
    g_X9_readTerm_J50 a3 q1.1 q2.2
  else
  if a2 = (6 : Int) then
    (g_X9_isWord (-14 : Int) q2.2).bind fun q3 =>
    if q3.1 = (0 : Int) then
      (g_X9_roleHere q3.2).bind fun q4 =>
      if q4.1 = (-1 : Int) then
        g_X9_readTerm_J43 a3 q1.1 (1 : Int) q4.2
      else
      g_X9_readTerm_J38 a3 q1.1 q4.2
    else
    g_X9_readTerm_J38 a3 q1.1 q3.2
  else
  g_X9_readTerm_J50 a3 q1.1 q2.2
set_option maxRecDepth 20000 in
theorem s_X9_readTerm {a1 : Int} {a2 : Int} {a3 : Int} {σ : st_S} {q : st_S} (hk : g_X9_readTerm a1 a2 a3 σ = some q) : f_X9_readTerm ((596 : Nat) : Int) a1 a2 a3 (mk_ σ) = some (mk_ q) := by
  unfold g_X9_readTerm at hk
  unfold f_X9_readTerm
  obtain ⟨q1, hq1, hk⟩ := ab_bnd hk
  refine mb_eq (s_X9_termAt hq1) ?_
  obtain ⟨q2, hq2, hk⟩ := ab_bnd hk
  refine mb_on rfl (s_X9_good hq2) ?_
  by_cases hc : q2.1 = (0 : Int)
  · have hk := ab_ifp hk hc
    refine mb_ifp hc ?_
    exact s_X9_readTerm_J50 _ _  _ _ hk
  · have hk := ab_ifn hk hc
    refine mb_ifn hc ?_
    by_cases hc : a2 = (6 : Int)
    · have hk := ab_ifp hk hc
      refine mb_ifp hc ?_
      obtain ⟨q3, hq3, hk⟩ := ab_bnd hk
      refine mb_on rfl (s_X9_isWord hq3) ?_
      by_cases hc : q3.1 = (0 : Int)
      · have hk := ab_ifp hk hc
        refine mb_ifp hc ?_
        obtain ⟨q4, hq4, hk⟩ := ab_bnd hk
        refine mb_on rfl (s_X9_roleHere hq4) ?_
        by_cases hc : q4.1 = (-1 : Int)
        · have hk := ab_ifp hk hc
          refine mb_ifp hc ?_
          exact s_X9_readTerm_J43 _ _ _  _ _ hk
        · have hk := ab_ifn hk hc
          refine mb_ifn hc ?_
          exact s_X9_readTerm_J38 _ _  _ _ hk
      · have hk := ab_ifn hk hc
        refine mb_ifn hc ?_
        exact s_X9_readTerm_J38 _ _  _ _ hk
    · have hk := ab_ifn hk hc
      refine mb_ifn hc ?_
      exact s_X9_readTerm_J50 _ _  _ _ hk
noncomputable def g_X9_readString_L129 (k170 : Int → Int → st_S → Option st_S) : Nat → Int → Int → Int → st_S → Option st_S
  | 0, _, _, _, _ => none
  | n + 1, v1, v2, v3, σ =>
    (g_X9_readTerm v1 v2 v3 σ).bind fun q1 =>
    (g_X9_good q1).bind fun q2 =>
    if q2.1 = (0 : Int) then
      some q2.2
    else
    (g_X9_termAt v1 v2 q2.2).bind fun q3 =>
    (sa_ld q3.2 598 416 (ab_w32 (q3.1 + (0 : Int)))).bind fun t4 =>
    (g_X9_eatsByte (44 : Int) q3.2).bind fun q5 =>
    if q5.1 = (0 : Int) then
      k170 v1 (ab_w32 (v2 + (1 : Int))) q5.2
    else
    g_X9_readString_L129 k170 n v1 (ab_w32 (v2 + (1 : Int))) (ab_w32 t4) q5.2
set_option maxRecDepth 20000 in
theorem s_X9_readString_L129 {k170 : Int → Int → st_S → Option st_S} {kf170 : Int → Int → Int → ab_H → Option ab_H} (hk170 : ∀ (v1 : Int) (v2 : Int) (σ : st_S) (q : st_S), k170 v1 v2 σ = some q → kf170 ((596 : Nat) : Int) v1 v2 (mk_ σ) = some (mk_ q)) : ∀ (n : Nat) (v1 : Int) (v2 : Int) (v3 : Int) (σ : st_S) (q : st_S), g_X9_readString_L129 k170 n v1 v2 v3 σ = some q → f_X9_readString_L129 kf170 n ((596 : Nat) : Int) v1 v2 v3 (mk_ σ) = some (mk_ q) := by
  intro n
  induction n with
  | zero => intro v1 v2 v3 σ q hk; cases hk
  | succ n ih =>
    intro v1 v2 v3 σ q hk
    unfold g_X9_readString_L129 at hk
    unfold f_X9_readString_L129
    obtain ⟨q1, hq1, hk⟩ := ab_bnd hk
    refine mb_on rfl (s_X9_readTerm hq1) ?_
    obtain ⟨q2, hq2, hk⟩ := ab_bnd hk
    refine mb_on rfl (s_X9_good hq2) ?_
    by_cases hc : q2.1 = (0 : Int)
    · have hk := ab_ifp hk hc
      refine mb_ifp hc ?_
      obtain rfl := Option.some.inj hk
      rfl
    · have hk := ab_ifn hk hc
      refine mb_ifn hc ?_
      refine mb_getR 598 rfl rfl (by decide) ?_
      obtain ⟨q3, hq3, hk⟩ := ab_bnd hk
      refine mb_eq (s_X9_termAt hq3) ?_
      obtain ⟨t4, ht4, hk⟩ := ab_bnd hk
      refine mb_ald ⟨rfl, rfl, fun _ => rfl⟩ ht4 ?_
      obtain ⟨q5, hq5, hk⟩ := ab_bnd hk
      refine mb_on rfl (s_X9_eatsByte hq5) ?_
      by_cases hc : q5.1 = (0 : Int)
      · have hk := ab_ifp hk hc
        refine mb_ifp hc ?_
        exact hk170 _ _  _ _ hk
      · have hk := ab_ifn hk hc
        refine mb_ifn hc ?_
        exact ih _ _ _  _ _ hk
noncomputable def g_X9_readString_J90 (v1 : Int) (σ : st_S) : Option st_S :=
  (g_X9_good σ).bind fun q1 =>
  if q1.1 = (0 : Int) then
    some q1.2
  else
  (sa_st q1.2 598 416 (ab_w32 ((32 : Int) + (ab_w32 ((32 : Int) * v1)))) (q1.2 596 9)).bind fun σ1 =>
  (g_X9_advance σ1).bind fun q2 =>
  (g_X9_passesByte (58 : Int) q2).bind fun q3 =>
  g_X9_readString_L129 (fun w170_1 w170_2 σx170 =>
    (sa_st σx170 598 416 (ab_w32 ((ab_w32 ((32 : Int) + (ab_w32 ((32 : Int) * w170_1)))) + (1 : Int))) w170_2).bind fun σ2 =>
    some σ2) ab_FU v1 (0 : Int) (0 : Int) q3
set_option maxRecDepth 20000 in
theorem s_X9_readString_J90 : ∀ (v1 : Int) (σ : st_S) (q : st_S), g_X9_readString_J90 v1 σ = some q → f_X9_readString_J90 ((596 : Nat) : Int) v1 (mk_ σ) = some (mk_ q) := by
  intro v1 σ q hk
  unfold g_X9_readString_J90 at hk
  unfold f_X9_readString_J90
  obtain ⟨q1, hq1, hk⟩ := ab_bnd hk
  refine mb_on rfl (s_X9_good hq1) ?_
  by_cases hc : q1.1 = (0 : Int)
  · have hk := ab_ifp hk hc
    refine mb_ifp hc ?_
    obtain rfl := Option.some.inj hk
    rfl
  · have hk := ab_ifn hk hc
    refine mb_ifn hc ?_
    refine mb_getR 598 rfl rfl (by decide) ?_
    refine mb_get rfl rfl ?_
    obtain ⟨σ1, hσ1, hk⟩ := ab_bnd hk
    refine mb_ast ⟨rfl, rfl, fun _ => rfl⟩ hσ1 ?_
    obtain ⟨q2, hq2, hk⟩ := ab_bnd hk
    refine mb_on rfl (s_X9_advance hq2) ?_
    obtain ⟨q3, hq3, hk⟩ := ab_bnd hk
    refine mb_on rfl (s_X9_passesByte hq3) ?_
    refine s_X9_readString_L129 (fun w170_1 w170_2 σx170 q hk => ?_) _ _ _ _  _ _ hk
    · skip
      refine mb_getR 598 rfl rfl (by decide) ?_
      obtain ⟨σ2, hσ2, hk⟩ := ab_bnd hk
      refine mb_ast ⟨rfl, rfl, fun _ => rfl⟩ hσ2 ?_
      obtain rfl := Option.some.inj hk
      rfl
noncomputable def g_X9_readString_J63 (v1 : Int) (σ : st_S) : Option st_S :=
  (g_X9_good σ).bind fun q1 =>
  if q1.1 = (0 : Int) then
    g_X9_readString_J90 v1 q1.2
  else
  (g_X9_isAddress (q1.2 596 9) q1.2).bind fun q2 =>
  if q2.1 = (0 : Int) then
    g_X9_readString_J90 v1 q2.2
  else
  (g_X9_errs (3 : Int) (q2.2 596 7) q2.2).bind fun q3 =>
  g_X9_readString_J90 v1 q3
set_option maxRecDepth 20000 in
theorem s_X9_readString_J63 : ∀ (v1 : Int) (σ : st_S) (q : st_S), g_X9_readString_J63 v1 σ = some q → f_X9_readString_J63 ((596 : Nat) : Int) v1 (mk_ σ) = some (mk_ q) := by
  intro v1 σ q hk
  unfold g_X9_readString_J63 at hk
  unfold f_X9_readString_J63
  obtain ⟨q1, hq1, hk⟩ := ab_bnd hk
  refine mb_on rfl (s_X9_good hq1) ?_
  by_cases hc : q1.1 = (0 : Int)
  · have hk := ab_ifp hk hc
    refine mb_ifp hc ?_
    exact s_X9_readString_J90 _  _ _ hk
  · have hk := ab_ifn hk hc
    refine mb_ifn hc ?_
    refine mb_get rfl rfl ?_
    obtain ⟨q2, hq2, hk⟩ := ab_bnd hk
    refine mb_on rfl (s_X9_isAddress hq2) ?_
    by_cases hc : q2.1 = (0 : Int)
    · have hk := ab_ifp hk hc
      refine mb_ifp hc ?_
      exact s_X9_readString_J90 _  _ _ hk
    · have hk := ab_ifn hk hc
      refine mb_ifn hc ?_
      refine mb_get rfl rfl ?_
      obtain ⟨q3, hq3, hk⟩ := ab_bnd hk
      refine mb_on rfl (s_X9_errs hq3) ?_
      exact s_X9_readString_J90 _  _ _ hk
noncomputable def g_X9_readString_J32 (v1 : Int) (σ : st_S) : Option st_S :=
  (g_X9_good σ).bind fun q1 =>
  if q1.1 = (0 : Int) then
    g_X9_readString_J63 v1 q1.2
  else
  (g_X9_in (q1.2 596 9) (0 : Int) (999 : Int) q1.2).bind fun q2 =>
  if q2.1 = (0 : Int) then
    (g_X9_errs (2 : Int) (q2.2 596 7) q2.2).bind fun q3 =>
    g_X9_readString_J63 v1 q3
  else
  g_X9_readString_J63 v1 q2.2
set_option maxRecDepth 20000 in
theorem s_X9_readString_J32 : ∀ (v1 : Int) (σ : st_S) (q : st_S), g_X9_readString_J32 v1 σ = some q → f_X9_readString_J32 ((596 : Nat) : Int) v1 (mk_ σ) = some (mk_ q) := by
  intro v1 σ q hk
  unfold g_X9_readString_J32 at hk
  unfold f_X9_readString_J32
  obtain ⟨q1, hq1, hk⟩ := ab_bnd hk
  refine mb_on rfl (s_X9_good hq1) ?_
  by_cases hc : q1.1 = (0 : Int)
  · have hk := ab_ifp hk hc
    refine mb_ifp hc ?_
    exact s_X9_readString_J63 _  _ _ hk
  · have hk := ab_ifn hk hc
    refine mb_ifn hc ?_
    refine mb_get rfl rfl ?_
    obtain ⟨q2, hq2, hk⟩ := ab_bnd hk
    refine mb_eq (s_X9_in hq2) ?_
    by_cases hc : q2.1 = (0 : Int)
    · have hk := ab_ifp hk hc
      refine mb_ifp hc ?_
      refine mb_get rfl rfl ?_
      obtain ⟨q3, hq3, hk⟩ := ab_bnd hk
      refine mb_on rfl (s_X9_errs hq3) ?_
      exact s_X9_readString_J63 _  _ _ hk
    · have hk := ab_ifn hk hc
      refine mb_ifn hc ?_
      exact s_X9_readString_J63 _  _ _ hk
noncomputable def g_X9_readString (σ : st_S) : Option st_S :=
  (sa_ld σ 598 416 (0 : Int)).bind fun t1 =>
  (g_X9_good σ).bind fun q2 =>
  if q2.1 = (0 : Int) then
    g_X9_readString_J32 (ab_w32 t1) q2.2
  else
  if q2.2 596 8 = (2 : Int) then
    g_X9_readString_J32 (ab_w32 t1) q2.2
  else
  (g_X9_errs (1 : Int) (q2.2 596 7) q2.2).bind fun q3 =>
  g_X9_readString_J32 (ab_w32 t1) q3
set_option maxRecDepth 20000 in
theorem s_X9_readString {σ : st_S} {q : st_S} (hk : g_X9_readString σ = some q) : f_X9_readString ((596 : Nat) : Int) (mk_ σ) = some (mk_ q) := by
  unfold g_X9_readString at hk
  unfold f_X9_readString
  refine mb_getR 598 rfl rfl (by decide) ?_
  obtain ⟨t1, ht1, hk⟩ := ab_bnd hk
  refine mb_ald ⟨rfl, rfl, fun _ => rfl⟩ ht1 ?_
  obtain ⟨q2, hq2, hk⟩ := ab_bnd hk
  refine mb_on rfl (s_X9_good hq2) ?_
  by_cases hc : q2.1 = (0 : Int)
  · have hk := ab_ifp hk hc
    refine mb_ifp hc ?_
    exact s_X9_readString_J32 _  _ _ hk
  · have hk := ab_ifn hk hc
    refine mb_ifn hc ?_
    refine mb_get rfl rfl ?_
    by_cases hc : q2.2 596 8 = (2 : Int)
    · have hk := ab_ifp hk hc
      refine mb_ifp hc ?_
      exact s_X9_readString_J32 _  _ _ hk
    · have hk := ab_ifn hk hc
      refine mb_ifn hc ?_
      refine mb_get rfl rfl ?_
      obtain ⟨q3, hq3, hk⟩ := ab_bnd hk
      refine mb_on rfl (s_X9_errs hq3) ?_
      exact s_X9_readString_J32 _  _ _ hk
noncomputable def g_X9_readLine_J151 (σ : st_S) : Option st_S :=
  (g_X9_passesByte (59 : Int) σ).bind fun q1 =>
  some q1
set_option maxRecDepth 20000 in
theorem s_X9_readLine_J151 : ∀ (σ : st_S) (q : st_S), g_X9_readLine_J151 σ = some q → f_X9_readLine_J151 ((596 : Nat) : Int) (mk_ σ) = some (mk_ q) := by
  intro σ q hk
  unfold g_X9_readLine_J151 at hk
  unfold f_X9_readLine_J151
  obtain ⟨q1, hq1, hk⟩ := ab_bnd hk
  refine mb_on rfl (s_X9_passesByte hq1) ?_
  obtain rfl := Option.some.inj hk
  rfl
noncomputable def g_X9_readLine_J118 (σ : st_S) : Option st_S :=
  (g_X9_readString σ).bind fun q1 =>
  (g_X9_good q1).bind fun q2 =>
  if q2.1 = (0 : Int) then
    g_X9_readLine_J151 q2.2
  else
  (sa_ld q2.2 598 416 (0 : Int)).bind fun t3 =>
  (sa_st q2.2 598 416 (0 : Int) (ab_w64 (t3 + (1 : Int)))).bind fun σ1 =>
  g_X9_readLine_J151 σ1
set_option maxRecDepth 20000 in
theorem s_X9_readLine_J118 : ∀ (σ : st_S) (q : st_S), g_X9_readLine_J118 σ = some q → f_X9_readLine_J118 ((596 : Nat) : Int) (mk_ σ) = some (mk_ q) := by
  intro σ q hk
  unfold g_X9_readLine_J118 at hk
  unfold f_X9_readLine_J118
  obtain ⟨q1, hq1, hk⟩ := ab_bnd hk
  refine mb_on rfl (s_X9_readString hq1) ?_
  obtain ⟨q2, hq2, hk⟩ := ab_bnd hk
  refine mb_on rfl (s_X9_good hq2) ?_
  by_cases hc : q2.1 = (0 : Int)
  · have hk := ab_ifp hk hc
    refine mb_ifp hc ?_
    exact s_X9_readLine_J151  _ _ hk
  · have hk := ab_ifn hk hc
    refine mb_ifn hc ?_
    refine mb_getR 598 rfl rfl (by decide) ?_
    obtain ⟨t3, ht3, hk⟩ := ab_bnd hk
    refine mb_ald ⟨rfl, rfl, fun _ => rfl⟩ ht3 ?_
    obtain ⟨σ1, hσ1, hk⟩ := ab_bnd hk
    refine mb_ast ⟨rfl, rfl, fun _ => rfl⟩ hσ1 ?_
    exact s_X9_readLine_J151  _ _ hk
noncomputable def g_X9_readLine_J107 (σ : st_S) : Option st_S :=
  (g_X9_good σ).bind fun q1 =>
  if q1.1 = (0 : Int) then
    g_X9_readLine_J118 q1.2
  else
  (g_X9_advance q1.2).bind fun q2 =>
  g_X9_readLine_J118 q2
set_option maxRecDepth 20000 in
theorem s_X9_readLine_J107 : ∀ (σ : st_S) (q : st_S), g_X9_readLine_J107 σ = some q → f_X9_readLine_J107 ((596 : Nat) : Int) (mk_ σ) = some (mk_ q) := by
  intro σ q hk
  unfold g_X9_readLine_J107 at hk
  unfold f_X9_readLine_J107
  obtain ⟨q1, hq1, hk⟩ := ab_bnd hk
  refine mb_on rfl (s_X9_good hq1) ?_
  by_cases hc : q1.1 = (0 : Int)
  · have hk := ab_ifp hk hc
    refine mb_ifp hc ?_
    exact s_X9_readLine_J118  _ _ hk
  · have hk := ab_ifn hk hc
    refine mb_ifn hc ?_
    obtain ⟨q2, hq2, hk⟩ := ab_bnd hk
    refine mb_on rfl (s_X9_advance hq2) ?_
    exact s_X9_readLine_J118  _ _ hk
noncomputable def g_X9_readLine_J62 (σ : st_S) : Option st_S :=
  (g_X9_good σ).bind fun q1 =>
  if q1.1 = (0 : Int) then
    g_X9_readLine_J151 q1.2
  else
  (g_X9_readSee q1.2).bind fun q2 =>
  g_X9_readLine_J151 q2
set_option maxRecDepth 20000 in
theorem s_X9_readLine_J62 : ∀ (σ : st_S) (q : st_S), g_X9_readLine_J62 σ = some q → f_X9_readLine_J62 ((596 : Nat) : Int) (mk_ σ) = some (mk_ q) := by
  intro σ q hk
  unfold g_X9_readLine_J62 at hk
  unfold f_X9_readLine_J62
  obtain ⟨q1, hq1, hk⟩ := ab_bnd hk
  refine mb_on rfl (s_X9_good hq1) ?_
  by_cases hc : q1.1 = (0 : Int)
  · have hk := ab_ifp hk hc
    refine mb_ifp hc ?_
    exact s_X9_readLine_J151  _ _ hk
  · have hk := ab_ifn hk hc
    refine mb_ifn hc ?_
    obtain ⟨q2, hq2, hk⟩ := ab_bnd hk
    refine mb_on rfl (s_X9_readSee hq2) ?_
    exact s_X9_readLine_J151  _ _ hk
noncomputable def g_X9_readLine_J51 (σ : st_S) : Option st_S :=
  (g_X9_good σ).bind fun q1 =>
  if q1.1 = (0 : Int) then
    g_X9_readLine_J62 q1.2
  else
  (g_X9_advance q1.2).bind fun q2 =>
  g_X9_readLine_J62 q2
set_option maxRecDepth 20000 in
theorem s_X9_readLine_J51 : ∀ (σ : st_S) (q : st_S), g_X9_readLine_J51 σ = some q → f_X9_readLine_J51 ((596 : Nat) : Int) (mk_ σ) = some (mk_ q) := by
  intro σ q hk
  unfold g_X9_readLine_J51 at hk
  unfold f_X9_readLine_J51
  obtain ⟨q1, hq1, hk⟩ := ab_bnd hk
  refine mb_on rfl (s_X9_good hq1) ?_
  by_cases hc : q1.1 = (0 : Int)
  · have hk := ab_ifp hk hc
    refine mb_ifp hc ?_
    exact s_X9_readLine_J62  _ _ hk
  · have hk := ab_ifn hk hc
    refine mb_ifn hc ?_
    obtain ⟨q2, hq2, hk⟩ := ab_bnd hk
    refine mb_on rfl (s_X9_advance hq2) ?_
    exact s_X9_readLine_J62  _ _ hk
noncomputable def g_X9_readLine (σ : st_S) : Option st_S :=
  (g_X9_isWord (-2 : Int) σ).bind fun q1 =>
  if q1.1 = (0 : Int) then
    (g_X9_isWord (-12 : Int) q1.2).bind fun q2 =>
    if q2.1 = (0 : Int) then
      (g_X9_isWord (-13 : Int) q2.2).bind fun q3 =>
      if q3.1 = (0 : Int) then
        (g_X9_errs (1 : Int) (q3.2 596 7) q3.2).bind fun q4 =>
        g_X9_readLine_J151 q4
      else
      (sa_ld q3.2 598 416 (0 : Int)).bind fun t5 =>
      if ab_cmp t5 (12 : Int) = (0 : Int) then
        (g_X9_errs (4 : Int) (q3.2 596 7) q3.2).bind fun q6 =>
        g_X9_readLine_J107 q6
      else
      g_X9_readLine_J107 q3.2
    else
    (sa_ld q2.2 598 416 (1 : Int)).bind fun t7 =>
    if ab_cmp t7 (12 : Int) = (0 : Int) then
      (g_X9_errs (4 : Int) (q2.2 596 7) q2.2).bind fun q8 =>
      g_X9_readLine_J51 q8
    else
    g_X9_readLine_J51 q2.2
  else
  (g_X9_advance q1.2).bind fun q9 =>
  (g_X9_readLaw q9).bind fun q10 =>
  g_X9_readLine_J151 q10
set_option maxRecDepth 20000 in
theorem s_X9_readLine {σ : st_S} {q : st_S} (hk : g_X9_readLine σ = some q) : f_X9_readLine ((596 : Nat) : Int) (mk_ σ) = some (mk_ q) := by
  unfold g_X9_readLine at hk
  unfold f_X9_readLine
  obtain ⟨q1, hq1, hk⟩ := ab_bnd hk
  refine mb_on rfl (s_X9_isWord hq1) ?_
  by_cases hc : q1.1 = (0 : Int)
  · have hk := ab_ifp hk hc
    refine mb_ifp hc ?_
    obtain ⟨q2, hq2, hk⟩ := ab_bnd hk
    refine mb_on rfl (s_X9_isWord hq2) ?_
    by_cases hc : q2.1 = (0 : Int)
    · have hk := ab_ifp hk hc
      refine mb_ifp hc ?_
      obtain ⟨q3, hq3, hk⟩ := ab_bnd hk
      refine mb_on rfl (s_X9_isWord hq3) ?_
      by_cases hc : q3.1 = (0 : Int)
      · have hk := ab_ifp hk hc
        refine mb_ifp hc ?_
        refine mb_get rfl rfl ?_
        obtain ⟨q4, hq4, hk⟩ := ab_bnd hk
        refine mb_on rfl (s_X9_errs hq4) ?_
        exact s_X9_readLine_J151  _ _ hk
      · have hk := ab_ifn hk hc
        refine mb_ifn hc ?_
        refine mb_getR 598 rfl rfl (by decide) ?_
        obtain ⟨t5, ht5, hk⟩ := ab_bnd hk
        refine mb_ald ⟨rfl, rfl, fun _ => rfl⟩ ht5 ?_
        by_cases hc : ab_cmp t5 (12 : Int) = (0 : Int)
        · have hk := ab_ifp hk hc
          refine mb_ifp hc ?_
          refine mb_get rfl rfl ?_
          obtain ⟨q6, hq6, hk⟩ := ab_bnd hk
          refine mb_on rfl (s_X9_errs hq6) ?_
          exact s_X9_readLine_J107  _ _ hk
        · have hk := ab_ifn hk hc
          refine mb_ifn hc ?_
          exact s_X9_readLine_J107  _ _ hk
    · have hk := ab_ifn hk hc
      refine mb_ifn hc ?_
      refine mb_getR 598 rfl rfl (by decide) ?_
      obtain ⟨t7, ht7, hk⟩ := ab_bnd hk
      refine mb_ald ⟨rfl, rfl, fun _ => rfl⟩ ht7 ?_
      by_cases hc : ab_cmp t7 (12 : Int) = (0 : Int)
      · have hk := ab_ifp hk hc
        refine mb_ifp hc ?_
        refine mb_get rfl rfl ?_
        obtain ⟨q8, hq8, hk⟩ := ab_bnd hk
        refine mb_on rfl (s_X9_errs hq8) ?_
        exact s_X9_readLine_J51  _ _ hk
      · have hk := ab_ifn hk hc
        refine mb_ifn hc ?_
        exact s_X9_readLine_J51  _ _ hk
  · have hk := ab_ifn hk hc
    refine mb_ifn hc ?_
    obtain ⟨q9, hq9, hk⟩ := ab_bnd hk
    refine mb_on rfl (s_X9_advance hq9) ?_
    obtain ⟨q10, hq10, hk⟩ := ab_bnd hk
    refine mb_on rfl (s_X9_readLaw hq10) ?_
    exact s_X9_readLine_J151  _ _ hk
noncomputable def g_X9_beginsTape (σ : st_S) : Option st_S :=
  (some (up2 σ 596 5 (σ 596 4))).bind fun σ1 =>
  (some (up2 σ1 596 4 (0 : Int))).bind fun σ2 =>
  (some (up2 σ2 596 6 (0 : Int))).bind fun σ3 =>
  (some (up2 σ3 596 10 (0 : Int))).bind fun σ4 =>
  (some (up2 σ4 596 11 (-1 : Int))).bind fun σ5 =>
  (g_X9_advance σ5).bind fun q1 =>
  some q1
set_option maxRecDepth 20000 in
theorem s_X9_beginsTape {σ : st_S} {q : st_S} (hk : g_X9_beginsTape σ = some q) : f_X9_beginsTape ((596 : Nat) : Int) (mk_ σ) = some (mk_ q) := by
  unfold g_X9_beginsTape at hk
  unfold f_X9_beginsTape
  refine mb_get rfl rfl ?_
  obtain ⟨σ1, hσ1, hk⟩ := ab_bnd hk
  refine mb_put rfl rfl hσ1 ?_
  obtain ⟨σ2, hσ2, hk⟩ := ab_bnd hk
  refine mb_put rfl rfl hσ2 ?_
  obtain ⟨σ3, hσ3, hk⟩ := ab_bnd hk
  refine mb_put rfl rfl hσ3 ?_
  obtain ⟨σ4, hσ4, hk⟩ := ab_bnd hk
  refine mb_put rfl rfl hσ4 ?_
  obtain ⟨σ5, hσ5, hk⟩ := ab_bnd hk
  refine mb_put rfl rfl hσ5 ?_
  obtain ⟨q1, hq1, hk⟩ := ab_bnd hk
  refine mb_on rfl (s_X9_advance hq1) ?_
  obtain rfl := Option.some.inj hk
  rfl
noncomputable def g_X9_text_L69 (k94 : Int → st_S → Option (Int × st_S)) : Nat → Int → Int → st_S → Option (Int × st_S)
  | 0, _, _, _ => none
  | n + 1, v1, v2, σ =>
    if (416 : Int) ≤ v2 then
      k94 v1 σ
    else
    (sa_ld σ 598 416 v2).bind fun t1 =>
    (sa_st σ 597 416 v2 t1).bind fun σ1 =>
    g_X9_text_L69 k94 n v1 (ab_w32 (v2 + (1 : Int))) σ1
set_option maxRecDepth 20000 in
theorem s_X9_text_L69 {k94 : Int → st_S → Option (Int × st_S)} {kf94 : Int → Int → ab_H → Option (Int × ab_H)} (hk94 : ∀ (v1 : Int) (σ : st_S) (q : Int × st_S), k94 v1 σ = some q → kf94 ((596 : Nat) : Int) v1 (mk_ σ) = some ((q.1, mk_ q.2))) : ∀ (n : Nat) (v1 : Int) (v2 : Int) (σ : st_S) (q : Int × st_S), g_X9_text_L69 k94 n v1 v2 σ = some q → f_X9_text_L69 kf94 n ((596 : Nat) : Int) v1 v2 (mk_ σ) = some ((q.1, mk_ q.2)) := by
  intro n
  induction n with
  | zero => intro v1 v2 σ q hk; cases hk
  | succ n ih =>
    intro v1 v2 σ q hk
    unfold g_X9_text_L69 at hk
    unfold f_X9_text_L69
    by_cases hc : (416 : Int) ≤ v2
    · have hk := ab_ifp hk hc
      refine mb_ifp hc ?_
      exact hk94 _  _ _ hk
    · have hk := ab_ifn hk hc
      refine mb_ifn hc ?_
      refine mb_getR 597 rfl rfl (by decide) ?_
      refine mb_getR 598 rfl rfl (by decide) ?_
      obtain ⟨t1, ht1, hk⟩ := ab_bnd hk
      refine mb_ald ⟨rfl, rfl, fun _ => rfl⟩ ht1 ?_
      obtain ⟨σ1, hσ1, hk⟩ := ab_bnd hk
      refine mb_ast ⟨rfl, rfl, fun _ => rfl⟩ hσ1 ?_
      exact ih _ _  _ _ hk
noncomputable def g_X9_text_J57 (v1 : Int) (σ : st_S) : Option (Int × st_S) :=
  (g_X9_good σ).bind fun q1 =>
  if q1.1 = (0 : Int) then
    some ((-4 : Int), q1.2)
  else
  g_X9_text_L69 (fun w94_1 σx94 =>
    (some (up2 σx94 596 34 (0 : Int))).bind fun σ1 =>
    some (w94_1, σ1)) ab_FU v1 (0 : Int) q1.2
set_option maxRecDepth 20000 in
theorem s_X9_text_J57 : ∀ (v1 : Int) (σ : st_S) (q : Int × st_S), g_X9_text_J57 v1 σ = some q → f_X9_text_J57 ((596 : Nat) : Int) v1 (mk_ σ) = some ((q.1, mk_ q.2)) := by
  intro v1 σ q hk
  unfold g_X9_text_J57 at hk
  unfold f_X9_text_J57
  obtain ⟨q1, hq1, hk⟩ := ab_bnd hk
  refine mb_on rfl (s_X9_good hq1) ?_
  by_cases hc : q1.1 = (0 : Int)
  · have hk := ab_ifp hk hc
    refine mb_ifp hc ?_
    obtain rfl := Option.some.inj hk
    rfl
  · have hk := ab_ifn hk hc
    refine mb_ifn hc ?_
    refine s_X9_text_L69 (fun w94_1 σx94 q hk => ?_) _ _ _  _ _ hk
    · skip
      obtain ⟨σ1, hσ1, hk⟩ := ab_bnd hk
      refine mb_put rfl rfl hσ1 ?_
      obtain rfl := Option.some.inj hk
      rfl
noncomputable def g_X9_text_L33 (k57 : Int → st_S → Option (Int × st_S)) : Nat → Int → st_S → Option (Int × st_S)
  | 0, _, _ => none
  | n + 1, v1, σ =>
    (g_X9_good σ).bind fun q1 =>
    if q1.1 = (0 : Int) then
      k57 v1 q1.2
    else
    if q1.2 596 8 = (0 : Int) then
      k57 v1 q1.2
    else
    (g_X9_readLine q1.2).bind fun q2 =>
    g_X9_text_L33 k57 n (ab_w32 (v1 + (1 : Int))) q2
set_option maxRecDepth 20000 in
theorem s_X9_text_L33 {k57 : Int → st_S → Option (Int × st_S)} {kf57 : Int → Int → ab_H → Option (Int × ab_H)} (hk57 : ∀ (v1 : Int) (σ : st_S) (q : Int × st_S), k57 v1 σ = some q → kf57 ((596 : Nat) : Int) v1 (mk_ σ) = some ((q.1, mk_ q.2))) : ∀ (n : Nat) (v1 : Int) (σ : st_S) (q : Int × st_S), g_X9_text_L33 k57 n v1 σ = some q → f_X9_text_L33 kf57 n ((596 : Nat) : Int) v1 (mk_ σ) = some ((q.1, mk_ q.2)) := by
  intro n
  induction n with
  | zero => intro v1 σ q hk; cases hk
  | succ n ih =>
    intro v1 σ q hk
    unfold g_X9_text_L33 at hk
    unfold f_X9_text_L33
    obtain ⟨q1, hq1, hk⟩ := ab_bnd hk
    refine mb_on rfl (s_X9_good hq1) ?_
    by_cases hc : q1.1 = (0 : Int)
    · have hk := ab_ifp hk hc
      refine mb_ifp hc ?_
      exact hk57 _  _ _ hk
    · have hk := ab_ifn hk hc
      refine mb_ifn hc ?_
      refine mb_get rfl rfl ?_
      by_cases hc : q1.2 596 8 = (0 : Int)
      · have hk := ab_ifp hk hc
        refine mb_ifp hc ?_
        exact hk57 _  _ _ hk
      · have hk := ab_ifn hk hc
        refine mb_ifn hc ?_
        obtain ⟨q2, hq2, hk⟩ := ab_bnd hk
        refine mb_on rfl (s_X9_readLine hq2) ?_
        exact ih _  _ _ hk
noncomputable def g_X9_text_L11 (k31 : st_S → Option (Int × st_S)) : Nat → Int → st_S → Option (Int × st_S)
  | 0, _, _ => none
  | n + 1, v1, σ =>
    if (416 : Int) ≤ v1 then
      k31 σ
    else
    (sa_st σ 598 416 v1 (0 : Int)).bind fun σ1 =>
    g_X9_text_L11 k31 n (ab_w32 (v1 + (1 : Int))) σ1
set_option maxRecDepth 20000 in
theorem s_X9_text_L11 {k31 : st_S → Option (Int × st_S)} {kf31 : Int → ab_H → Option (Int × ab_H)} (hk31 : ∀ (σ : st_S) (q : Int × st_S), k31 σ = some q → kf31 ((596 : Nat) : Int) (mk_ σ) = some ((q.1, mk_ q.2))) : ∀ (n : Nat) (v1 : Int) (σ : st_S) (q : Int × st_S), g_X9_text_L11 k31 n v1 σ = some q → f_X9_text_L11 kf31 n ((596 : Nat) : Int) v1 (mk_ σ) = some ((q.1, mk_ q.2)) := by
  intro n
  induction n with
  | zero => intro v1 σ q hk; cases hk
  | succ n ih =>
    intro v1 σ q hk
    unfold g_X9_text_L11 at hk
    unfold f_X9_text_L11
    by_cases hc : (416 : Int) ≤ v1
    · have hk := ab_ifp hk hc
      refine mb_ifp hc ?_
      exact hk31  _ _ hk
    · have hk := ab_ifn hk hc
      refine mb_ifn hc ?_
      refine mb_getR 598 rfl rfl (by decide) ?_
      obtain ⟨σ1, hσ1, hk⟩ := ab_bnd hk
      refine mb_ast ⟨rfl, rfl, fun _ => rfl⟩ hσ1 ?_
      exact ih _  _ _ hk
noncomputable def g_X9_text (σ : st_S) : Option (Int × st_S) :=
  (g_X9_beginsTape σ).bind fun q1 =>
  (some (up2 q1 596 12 (0 : Int))).bind fun σ1 =>
  g_X9_text_L11 (fun σx31 =>
    g_X9_text_L33 (fun w57_1 σx57 =>
      g_X9_text_J57 w57_1 σx57) ab_FU (0 : Int) σx31) ab_FU (0 : Int) σ1
set_option maxRecDepth 20000 in
theorem s_X9_text {σ : st_S} {q : Int × st_S} (hk : g_X9_text σ = some q) : f_X9_text ((596 : Nat) : Int) (mk_ σ) = some ((q.1, mk_ q.2)) := by
  unfold g_X9_text at hk
  unfold f_X9_text
  obtain ⟨q1, hq1, hk⟩ := ab_bnd hk
  refine mb_on rfl (s_X9_beginsTape hq1) ?_
  obtain ⟨σ1, hσ1, hk⟩ := ab_bnd hk
  refine mb_put rfl rfl hσ1 ?_
  refine s_X9_text_L11 (fun σx31 q hk => ?_) _ _  _ _ hk
  · skip
    refine s_X9_text_L33 (fun w57_1 σx57 q hk => ?_) _ _  _ _ hk
    · skip
      exact s_X9_text_J57 _  _ _ hk
noncomputable def g_X9_keeps_L54 (k88 : st_S → Option st_S) : Nat → Int → st_S → Option st_S
  | 0, _, _ => none
  | n + 1, v1, σ =>
    if (416 : Int) ≤ v1 then
      k88 σ
    else
    (sa_ld σ 597 416 v1).bind fun t1 =>
    (sa_st σ 614 4160 (ab_w32 ((ab_w32 ((416 : Int) * (σ 596 34))) + v1)) t1).bind fun σ1 =>
    g_X9_keeps_L54 k88 n (ab_w32 (v1 + (1 : Int))) σ1
set_option maxRecDepth 20000 in
theorem s_X9_keeps_L54 {k88 : st_S → Option st_S} {kf88 : Int → ab_H → Option ab_H} (hk88 : ∀ (σ : st_S) (q : st_S), k88 σ = some q → kf88 ((596 : Nat) : Int) (mk_ σ) = some (mk_ q)) : ∀ (n : Nat) (v1 : Int) (σ : st_S) (q : st_S), g_X9_keeps_L54 k88 n v1 σ = some q → f_X9_keeps_L54 kf88 n ((596 : Nat) : Int) v1 (mk_ σ) = some (mk_ q) := by
  intro n
  induction n with
  | zero => intro v1 σ q hk; cases hk
  | succ n ih =>
    intro v1 σ q hk
    unfold g_X9_keeps_L54 at hk
    unfold f_X9_keeps_L54
    by_cases hc : (416 : Int) ≤ v1
    · have hk := ab_ifp hk hc
      refine mb_ifp hc ?_
      exact hk88  _ _ hk
    · have hk := ab_ifn hk hc
      refine mb_ifn hc ?_
      refine mb_getR 614 rfl rfl (by decide) ?_
      refine mb_get rfl rfl ?_
      refine mb_getR 597 rfl rfl (by decide) ?_
      obtain ⟨t1, ht1, hk⟩ := ab_bnd hk
      refine mb_ald ⟨rfl, rfl, fun _ => rfl⟩ ht1 ?_
      obtain ⟨σ1, hσ1, hk⟩ := ab_bnd hk
      refine mb_ast ⟨rfl, rfl, fun _ => rfl⟩ hσ1 ?_
      exact ih _  _ _ hk
noncomputable def g_X9_keeps_J52 (σ : st_S) : Option st_S :=
  g_X9_keeps_L54 (fun σx88 =>
    (some (up2 σx88 596 34 (ab_w32 ((σx88 596 34) + (1 : Int))))).bind fun σ1 =>
    some σ1) ab_FU (0 : Int) σ
set_option maxRecDepth 20000 in
theorem s_X9_keeps_J52 : ∀ (σ : st_S) (q : st_S), g_X9_keeps_J52 σ = some q → f_X9_keeps_J52 ((596 : Nat) : Int) (mk_ σ) = some (mk_ q) := by
  intro σ q hk
  unfold g_X9_keeps_J52 at hk
  unfold f_X9_keeps_J52
  refine s_X9_keeps_L54 (fun σx88 q hk => ?_) _ _  _ _ hk
  · skip
    refine mb_get rfl rfl ?_
    obtain ⟨σ1, hσ1, hk⟩ := ab_bnd hk
    refine mb_put rfl rfl hσ1 ?_
    obtain rfl := Option.some.inj hk
    rfl
noncomputable def g_X9_keeps_L13 (k42 : st_S → Option st_S) : Nat → Int → st_S → Option st_S
  | 0, _, _ => none
  | n + 1, v1, σ =>
    if (4160 : Int) ≤ v1 then
      k42 σ
    else
    (sa_ld σ 614 4160 v1).bind fun t1 =>
    (sa_st σ 614 4160 (ab_w32 (v1 - (416 : Int))) t1).bind fun σ1 =>
    g_X9_keeps_L13 k42 n (ab_w32 (v1 + (1 : Int))) σ1
set_option maxRecDepth 20000 in
theorem s_X9_keeps_L13 {k42 : st_S → Option st_S} {kf42 : Int → ab_H → Option ab_H} (hk42 : ∀ (σ : st_S) (q : st_S), k42 σ = some q → kf42 ((596 : Nat) : Int) (mk_ σ) = some (mk_ q)) : ∀ (n : Nat) (v1 : Int) (σ : st_S) (q : st_S), g_X9_keeps_L13 k42 n v1 σ = some q → f_X9_keeps_L13 kf42 n ((596 : Nat) : Int) v1 (mk_ σ) = some (mk_ q) := by
  intro n
  induction n with
  | zero => intro v1 σ q hk; cases hk
  | succ n ih =>
    intro v1 σ q hk
    unfold g_X9_keeps_L13 at hk
    unfold f_X9_keeps_L13
    by_cases hc : (4160 : Int) ≤ v1
    · have hk := ab_ifp hk hc
      refine mb_ifp hc ?_
      exact hk42  _ _ hk
    · have hk := ab_ifn hk hc
      refine mb_ifn hc ?_
      refine mb_getR 614 rfl rfl (by decide) ?_
      refine mb_getR 614 rfl rfl (by decide) ?_
      obtain ⟨t1, ht1, hk⟩ := ab_bnd hk
      refine mb_ald ⟨rfl, rfl, fun _ => rfl⟩ ht1 ?_
      obtain ⟨σ1, hσ1, hk⟩ := ab_bnd hk
      refine mb_ast ⟨rfl, rfl, fun _ => rfl⟩ hσ1 ?_
      exact ih _  _ _ hk
noncomputable def g_X9_keeps (σ : st_S) : Option st_S :=
  if σ 596 34 = (10 : Int) then
    g_X9_keeps_L13 (fun σx42 =>
      (some (up2 σx42 596 34 (ab_w32 ((σx42 596 34) - (1 : Int))))).bind fun σ1 =>
      g_X9_keeps_J52 σ1) ab_FU (416 : Int) σ
  else
  g_X9_keeps_J52 σ
set_option maxRecDepth 20000 in
theorem s_X9_keeps {σ : st_S} {q : st_S} (hk : g_X9_keeps σ = some q) : f_X9_keeps ((596 : Nat) : Int) (mk_ σ) = some (mk_ q) := by
  unfold g_X9_keeps at hk
  unfold f_X9_keeps
  refine mb_get rfl rfl ?_
  by_cases hc : σ 596 34 = (10 : Int)
  · have hk := ab_ifp hk hc
    refine mb_ifp hc ?_
    refine s_X9_keeps_L13 (fun σx42 q hk => ?_) _ _  _ _ hk
    · skip
      refine mb_get rfl rfl ?_
      obtain ⟨σ1, hσ1, hk⟩ := ab_bnd hk
      refine mb_put rfl rfl hσ1 ?_
      exact s_X9_keeps_J52  _ _ hk
  · have hk := ab_ifn hk hc
    refine mb_ifn hc ?_
    exact s_X9_keeps_J52  _ _ hk
noncomputable def g_X9_adds_L92 (k117 : st_S → Option (Int × st_S)) : Nat → Int → st_S → Option (Int × st_S)
  | 0, _, _ => none
  | n + 1, v1, σ =>
    if (416 : Int) ≤ v1 then
      k117 σ
    else
    (sa_ld σ 598 416 v1).bind fun t1 =>
    (sa_st σ 597 416 v1 t1).bind fun σ1 =>
    g_X9_adds_L92 k117 n (ab_w32 (v1 + (1 : Int))) σ1
set_option maxRecDepth 20000 in
theorem s_X9_adds_L92 {k117 : st_S → Option (Int × st_S)} {kf117 : Int → ab_H → Option (Int × ab_H)} (hk117 : ∀ (σ : st_S) (q : Int × st_S), k117 σ = some q → kf117 ((596 : Nat) : Int) (mk_ σ) = some ((q.1, mk_ q.2))) : ∀ (n : Nat) (v1 : Int) (σ : st_S) (q : Int × st_S), g_X9_adds_L92 k117 n v1 σ = some q → f_X9_adds_L92 kf117 n ((596 : Nat) : Int) v1 (mk_ σ) = some ((q.1, mk_ q.2)) := by
  intro n
  induction n with
  | zero => intro v1 σ q hk; cases hk
  | succ n ih =>
    intro v1 σ q hk
    unfold g_X9_adds_L92 at hk
    unfold f_X9_adds_L92
    by_cases hc : (416 : Int) ≤ v1
    · have hk := ab_ifp hk hc
      refine mb_ifp hc ?_
      exact hk117  _ _ hk
    · have hk := ab_ifn hk hc
      refine mb_ifn hc ?_
      refine mb_getR 597 rfl rfl (by decide) ?_
      refine mb_getR 598 rfl rfl (by decide) ?_
      obtain ⟨t1, ht1, hk⟩ := ab_bnd hk
      refine mb_ald ⟨rfl, rfl, fun _ => rfl⟩ ht1 ?_
      obtain ⟨σ1, hσ1, hk⟩ := ab_bnd hk
      refine mb_ast ⟨rfl, rfl, fun _ => rfl⟩ hσ1 ?_
      exact ih _  _ _ hk
noncomputable def g_X9_adds_J76 (σ : st_S) : Option (Int × st_S) :=
  (g_X9_good σ).bind fun q1 =>
  if q1.1 = (0 : Int) then
    some ((-4 : Int), q1.2)
  else
  (g_X9_keeps q1.2).bind fun q2 =>
  g_X9_adds_L92 (fun σx117 =>
    (sa_ld σx117 597 416 (0 : Int)).bind fun t3 =>
    (sa_st σx117 597 416 (0 : Int) (ab_w64 (t3 + (1 : Int)))).bind fun σ1 =>
    (g_X9_strings σ1).bind fun q4 =>
    some (ab_w32 (q4.1 - (1 : Int)), q4.2)) ab_FU (0 : Int) q2
set_option maxRecDepth 20000 in
theorem s_X9_adds_J76 : ∀ (σ : st_S) (q : Int × st_S), g_X9_adds_J76 σ = some q → f_X9_adds_J76 ((596 : Nat) : Int) (mk_ σ) = some ((q.1, mk_ q.2)) := by
  intro σ q hk
  unfold g_X9_adds_J76 at hk
  unfold f_X9_adds_J76
  obtain ⟨q1, hq1, hk⟩ := ab_bnd hk
  refine mb_on rfl (s_X9_good hq1) ?_
  by_cases hc : q1.1 = (0 : Int)
  · have hk := ab_ifp hk hc
    refine mb_ifp hc ?_
    obtain rfl := Option.some.inj hk
    rfl
  · have hk := ab_ifn hk hc
    refine mb_ifn hc ?_
    obtain ⟨q2, hq2, hk⟩ := ab_bnd hk
    refine mb_on rfl (s_X9_keeps hq2) ?_
    refine s_X9_adds_L92 (fun σx117 q hk => ?_) _ _  _ _ hk
    · skip
      refine mb_getR 597 rfl rfl (by decide) ?_
      obtain ⟨t3, ht3, hk⟩ := ab_bnd hk
      refine mb_ald ⟨rfl, rfl, fun _ => rfl⟩ ht3 ?_
      obtain ⟨σ1, hσ1, hk⟩ := ab_bnd hk
      refine mb_ast ⟨rfl, rfl, fun _ => rfl⟩ hσ1 ?_
      obtain ⟨q4, hq4, hk⟩ := ab_bnd hk
      refine mb_on rfl (s_X9_strings hq4) ?_
      obtain rfl := Option.some.inj hk
      rfl
noncomputable def g_X9_adds_L18 (k43 : st_S → Option (Int × st_S)) : Nat → Int → st_S → Option (Int × st_S)
  | 0, _, _ => none
  | n + 1, v1, σ =>
    if (416 : Int) ≤ v1 then
      k43 σ
    else
    (sa_ld σ 597 416 v1).bind fun t1 =>
    (sa_st σ 598 416 v1 t1).bind fun σ1 =>
    g_X9_adds_L18 k43 n (ab_w32 (v1 + (1 : Int))) σ1
set_option maxRecDepth 20000 in
theorem s_X9_adds_L18 {k43 : st_S → Option (Int × st_S)} {kf43 : Int → ab_H → Option (Int × ab_H)} (hk43 : ∀ (σ : st_S) (q : Int × st_S), k43 σ = some q → kf43 ((596 : Nat) : Int) (mk_ σ) = some ((q.1, mk_ q.2))) : ∀ (n : Nat) (v1 : Int) (σ : st_S) (q : Int × st_S), g_X9_adds_L18 k43 n v1 σ = some q → f_X9_adds_L18 kf43 n ((596 : Nat) : Int) v1 (mk_ σ) = some ((q.1, mk_ q.2)) := by
  intro n
  induction n with
  | zero => intro v1 σ q hk; cases hk
  | succ n ih =>
    intro v1 σ q hk
    unfold g_X9_adds_L18 at hk
    unfold f_X9_adds_L18
    by_cases hc : (416 : Int) ≤ v1
    · have hk := ab_ifp hk hc
      refine mb_ifp hc ?_
      exact hk43  _ _ hk
    · have hk := ab_ifn hk hc
      refine mb_ifn hc ?_
      refine mb_getR 598 rfl rfl (by decide) ?_
      refine mb_getR 597 rfl rfl (by decide) ?_
      obtain ⟨t1, ht1, hk⟩ := ab_bnd hk
      refine mb_ald ⟨rfl, rfl, fun _ => rfl⟩ ht1 ?_
      obtain ⟨σ1, hσ1, hk⟩ := ab_bnd hk
      refine mb_ast ⟨rfl, rfl, fun _ => rfl⟩ hσ1 ?_
      exact ih _  _ _ hk
noncomputable def g_X9_adds (σ : st_S) : Option (Int × st_S) :=
  (g_X9_strings σ).bind fun q1 =>
  if q1.1 = (12 : Int) then
    some ((-5 : Int), q1.2)
  else
  (g_X9_beginsTape q1.2).bind fun q2 =>
  g_X9_adds_L18 (fun σx43 =>
    (g_X9_readString σx43).bind fun q3 =>
    (g_X9_passesByte (59 : Int) q3).bind fun q4 =>
    (g_X9_good q4).bind fun q5 =>
    if q5.1 = (0 : Int) then
      g_X9_adds_J76 q5.2
    else
    if q5.2 596 8 = (0 : Int) then
      g_X9_adds_J76 q5.2
    else
    (g_X9_errs (1 : Int) (q5.2 596 7) q5.2).bind fun q6 =>
    g_X9_adds_J76 q6) ab_FU (0 : Int) q2
set_option maxRecDepth 20000 in
theorem s_X9_adds {σ : st_S} {q : Int × st_S} (hk : g_X9_adds σ = some q) : f_X9_adds ((596 : Nat) : Int) (mk_ σ) = some ((q.1, mk_ q.2)) := by
  unfold g_X9_adds at hk
  unfold f_X9_adds
  obtain ⟨q1, hq1, hk⟩ := ab_bnd hk
  refine mb_on rfl (s_X9_strings hq1) ?_
  by_cases hc : q1.1 = (12 : Int)
  · have hk := ab_ifp hk hc
    refine mb_ifp hc ?_
    obtain rfl := Option.some.inj hk
    rfl
  · have hk := ab_ifn hk hc
    refine mb_ifn hc ?_
    obtain ⟨q2, hq2, hk⟩ := ab_bnd hk
    refine mb_on rfl (s_X9_beginsTape hq2) ?_
    refine s_X9_adds_L18 (fun σx43 q hk => ?_) _ _  _ _ hk
    · skip
      obtain ⟨q3, hq3, hk⟩ := ab_bnd hk
      refine mb_on rfl (s_X9_readString hq3) ?_
      obtain ⟨q4, hq4, hk⟩ := ab_bnd hk
      refine mb_on rfl (s_X9_passesByte hq4) ?_
      obtain ⟨q5, hq5, hk⟩ := ab_bnd hk
      refine mb_on rfl (s_X9_good hq5) ?_
      by_cases hc : q5.1 = (0 : Int)
      · have hk := ab_ifp hk hc
        refine mb_ifp hc ?_
        exact s_X9_adds_J76  _ _ hk
      · have hk := ab_ifn hk hc
        refine mb_ifn hc ?_
        refine mb_get rfl rfl ?_
        by_cases hc : q5.2 596 8 = (0 : Int)
        · have hk := ab_ifp hk hc
          refine mb_ifp hc ?_
          exact s_X9_adds_J76  _ _ hk
        · have hk := ab_ifn hk hc
          refine mb_ifn hc ?_
          refine mb_get rfl rfl ?_
          obtain ⟨q6, hq6, hk⟩ := ab_bnd hk
          refine mb_on rfl (s_X9_errs hq6) ?_
          exact s_X9_adds_J76  _ _ hk
noncomputable def g_X9_fault (a1 : Int) (σ : st_S) : Option (Int × st_S) :=
  if a1 = (0 : Int) then
    some (σ 596 10, σ)
  else
  if a1 = (1 : Int) then
    some (σ 596 11, σ)
  else
  some ((-1 : Int), σ)
set_option maxRecDepth 20000 in
theorem s_X9_fault {a1 : Int} {σ : st_S} {q : Int × st_S} (hk : g_X9_fault a1 σ = some q) : f_X9_fault ((596 : Nat) : Int) a1 (mk_ σ) = some ((q.1, mk_ q.2)) := by
  unfold g_X9_fault at hk
  unfold f_X9_fault
  by_cases hc : a1 = (0 : Int)
  · have hk := ab_ifp hk hc
    refine mb_ifp hc ?_
    refine mb_get rfl rfl ?_
    obtain rfl := Option.some.inj hk
    rfl
  · have hk := ab_ifn hk hc
    refine mb_ifn hc ?_
    by_cases hc : a1 = (1 : Int)
    · have hk := ab_ifp hk hc
      refine mb_ifp hc ?_
      refine mb_get rfl rfl ?_
      obtain rfl := Option.some.inj hk
      rfl
    · have hk := ab_ifn hk hc
      refine mb_ifn hc ?_
      obtain rfl := Option.some.inj hk
      rfl
noncomputable def g_X9_place (a0 : Int) (a1 : Int) (σ : st_S) : Option (Int × st_S) :=
  some (ab_w32 ((ab_w32 ((6 : Int) * a0)) + a1), σ)
set_option maxRecDepth 20000 in
theorem s_X9_place {a0 : Int} {a1 : Int} {σ : st_S} {q : Int × st_S} (hk : g_X9_place a0 a1 σ = some q) : f_X9_place a0 a1 (mk_ σ) = some ((q.1, mk_ q.2)) := by
  unfold g_X9_place at hk
  unfold f_X9_place
  obtain rfl := Option.some.inj hk
  rfl
noncomputable def g_X9_findWord_L2 : Nat → Int → Int → st_S → Option (Int × st_S)
  | 0, _, _, _ => none
  | n + 1, v1, v3, σ =>
    if σ 596 14 ≤ v3 then
      some ((-1 : Int), σ)
    else
    (sa_ld σ 600 72 v3).bind fun t1 =>
    if ab_cmp t1 v1 = (0 : Int) then
      some (v3, σ)
    else
    g_X9_findWord_L2 n v1 (ab_w32 (v3 + (1 : Int))) σ
set_option maxRecDepth 20000 in
theorem s_X9_findWord_L2 : ∀ (n : Nat) (v1 : Int) (v3 : Int) (σ : st_S) (q : Int × st_S), g_X9_findWord_L2 n v1 v3 σ = some q → f_X9_findWord_L2 n ((596 : Nat) : Int) v1 v3 (mk_ σ) = some ((q.1, mk_ q.2)) := by
  intro n
  induction n with
  | zero => intro v1 v3 σ q hk; cases hk
  | succ n ih =>
    intro v1 v3 σ q hk
    unfold g_X9_findWord_L2 at hk
    unfold f_X9_findWord_L2
    refine mb_get rfl rfl ?_
    by_cases hc : σ 596 14 ≤ v3
    · have hk := ab_ifp hk hc
      refine mb_ifp hc ?_
      obtain rfl := Option.some.inj hk
      rfl
    · have hk := ab_ifn hk hc
      refine mb_ifn hc ?_
      refine mb_getR 600 rfl rfl (by decide) ?_
      obtain ⟨t1, ht1, hk⟩ := ab_bnd hk
      refine mb_ald ⟨rfl, rfl, fun _ => rfl⟩ ht1 ?_
      by_cases hc : ab_cmp t1 v1 = (0 : Int)
      · have hk := ab_ifp hk hc
        refine mb_ifp hc ?_
        obtain rfl := Option.some.inj hk
        rfl
      · have hk := ab_ifn hk hc
        refine mb_ifn hc ?_
        exact ih _ _  _ _ hk
noncomputable def g_X9_findWord (a1 : Int) (σ : st_S) : Option (Int × st_S) :=
  g_X9_findWord_L2 ab_FU a1 (0 : Int) σ
set_option maxRecDepth 20000 in
theorem s_X9_findWord {a1 : Int} {σ : st_S} {q : Int × st_S} (hk : g_X9_findWord a1 σ = some q) : f_X9_findWord ((596 : Nat) : Int) a1 (mk_ σ) = some ((q.1, mk_ q.2)) := by
  unfold g_X9_findWord at hk
  unfold f_X9_findWord
  refine s_X9_findWord_L2 _ _ _  _ _ hk
noncomputable def g_X9_laysWords_L147 (k195 : Int → st_S → Option st_S) : Nat → Int → Int → st_S → Option st_S
  | 0, _, _, _ => none
  | n + 1, v1, v2, σ =>
    (g_X9_terms v1 σ).bind fun q1 =>
    if q1.1 ≤ v2 then
      k195 v1 q1.2
    else
    (g_X9_place v1 v2 q1.2).bind fun q2 =>
    (g_X9_termAt v1 v2 q2.2).bind fun q3 =>
    (sa_ld q3.2 597 416 (ab_w32 (q3.1 + (2 : Int)))).bind fun t4 =>
    (g_X9_usedOf 597 t4 q3.2).bind fun q5 =>
    (g_X9_findWord q5.1 q5.2).bind fun q6 =>
    (sa_st q6.2 601 72 q2.1 q6.1).bind fun σ1 =>
    g_X9_laysWords_L147 k195 n v1 (ab_w32 (v2 + (1 : Int))) σ1
set_option maxRecDepth 20000 in
theorem s_X9_laysWords_L147 {k195 : Int → st_S → Option st_S} {kf195 : Int → Int → ab_H → Option ab_H} (hk195 : ∀ (v1 : Int) (σ : st_S) (q : st_S), k195 v1 σ = some q → kf195 ((596 : Nat) : Int) v1 (mk_ σ) = some (mk_ q)) : ∀ (n : Nat) (v1 : Int) (v2 : Int) (σ : st_S) (q : st_S), g_X9_laysWords_L147 k195 n v1 v2 σ = some q → f_X9_laysWords_L147 kf195 n ((596 : Nat) : Int) v1 v2 (mk_ σ) = some (mk_ q) := by
  intro n
  induction n with
  | zero => intro v1 v2 σ q hk; cases hk
  | succ n ih =>
    intro v1 v2 σ q hk
    unfold g_X9_laysWords_L147 at hk
    unfold f_X9_laysWords_L147
    obtain ⟨q1, hq1, hk⟩ := ab_bnd hk
    refine mb_on rfl (s_X9_terms hq1) ?_
    by_cases hc : q1.1 ≤ v2
    · have hk := ab_ifp hk hc
      refine mb_ifp hc ?_
      exact hk195 _  _ _ hk
    · have hk := ab_ifn hk hc
      refine mb_ifn hc ?_
      refine mb_getR 601 rfl rfl (by decide) ?_
      obtain ⟨q2, hq2, hk⟩ := ab_bnd hk
      refine mb_eq (s_X9_place hq2) ?_
      refine mb_getR 597 rfl rfl (by decide) ?_
      refine mb_getR 597 rfl rfl (by decide) ?_
      obtain ⟨q3, hq3, hk⟩ := ab_bnd hk
      refine mb_eq (s_X9_termAt hq3) ?_
      obtain ⟨t4, ht4, hk⟩ := ab_bnd hk
      refine mb_ald ⟨rfl, rfl, fun _ => rfl⟩ ht4 ?_
      obtain ⟨q5, hq5, hk⟩ := ab_bnd hk
      refine mb_eq (s_X9_usedOf ⟨rfl, rfl, fun _ => rfl⟩ hq5) ?_
      obtain ⟨q6, hq6, hk⟩ := ab_bnd hk
      refine mb_on rfl (s_X9_findWord hq6) ?_
      obtain ⟨σ1, hσ1, hk⟩ := ab_bnd hk
      refine mb_ast ⟨rfl, rfl, fun _ => rfl⟩ hσ1 ?_
      exact ih _ _  _ _ hk
noncomputable def g_X9_laysWords_L137 : Nat → Int → st_S → Option st_S
  | 0, _, _ => none
  | n + 1, v1, σ =>
    (g_X9_strings σ).bind fun q1 =>
    if q1.1 ≤ v1 then
      some q1.2
    else
    g_X9_laysWords_L147 (fun w195_1 σx195 =>
      g_X9_laysWords_L137 n (ab_w32 (w195_1 + (1 : Int))) σx195) ab_FU v1 (0 : Int) q1.2
set_option maxRecDepth 20000 in
theorem s_X9_laysWords_L137 : ∀ (n : Nat) (v1 : Int) (σ : st_S) (q : st_S), g_X9_laysWords_L137 n v1 σ = some q → f_X9_laysWords_L137 n ((596 : Nat) : Int) v1 (mk_ σ) = some (mk_ q) := by
  intro n
  induction n with
  | zero => intro v1 σ q hk; cases hk
  | succ n ih =>
    intro v1 σ q hk
    unfold g_X9_laysWords_L137 at hk
    unfold f_X9_laysWords_L137
    obtain ⟨q1, hq1, hk⟩ := ab_bnd hk
    refine mb_on rfl (s_X9_strings hq1) ?_
    by_cases hc : q1.1 ≤ v1
    · have hk := ab_ifp hk hc
      refine mb_ifp hc ?_
      obtain rfl := Option.some.inj hk
      rfl
    · have hk := ab_ifn hk hc
      refine mb_ifn hc ?_
      refine s_X9_laysWords_L147 (fun w195_1 σx195 q hk => ?_) _ _ _  _ _ hk
      · skip
        exact ih _  _ _ hk
noncomputable def g_X9_laysWords_J123 (rec : Int → Int → st_S → Option st_S) (k129 : Int → st_S → Option st_S) (v1 : Int) (v2 : Int) (σ : st_S) : Option st_S :=
  rec v1 (ab_w32 (v2 + (1 : Int))) σ
set_option maxRecDepth 20000 in
theorem s_X9_laysWords_J123 {rec : Int → Int → st_S → Option st_S} {recf : Int → Int → Int → ab_H → Option ab_H} {k129 : Int → st_S → Option st_S} {kf129 : Int → Int → ab_H → Option ab_H} (hrec : ∀ (v1 : Int) (v2 : Int) (σ : st_S) (q : st_S), rec v1 v2 σ = some q → recf ((596 : Nat) : Int) v1 v2 (mk_ σ) = some (mk_ q)) (hk129 : ∀ (v1 : Int) (σ : st_S) (q : st_S), k129 v1 σ = some q → kf129 ((596 : Nat) : Int) v1 (mk_ σ) = some (mk_ q)) : ∀ (v1 : Int) (v2 : Int) (σ : st_S) (q : st_S), g_X9_laysWords_J123 rec k129 v1 v2 σ = some q → f_X9_laysWords_J123 recf kf129 ((596 : Nat) : Int) v1 v2 (mk_ σ) = some (mk_ q) := by
  intro v1 v2 σ q hk
  unfold g_X9_laysWords_J123 at hk
  unfold f_X9_laysWords_J123
  exact hrec _ _  _ _ hk
noncomputable def g_X9_laysWords_J105 (rec : Int → Int → st_S → Option st_S) (k129 : Int → st_S → Option st_S) (v1 : Int) (v2 : Int) (v3 : Int) (v5 : Int) (σ : st_S) : Option st_S :=
  (sa_st σ 600 72 v5 v3).bind fun σ1 =>
  (some (up2 σ1 596 14 (ab_w32 ((σ1 596 14) + (1 : Int))))).bind fun σ2 =>
  g_X9_laysWords_J123 rec k129 v1 v2 σ2
set_option maxRecDepth 20000 in
theorem s_X9_laysWords_J105 {rec : Int → Int → st_S → Option st_S} {recf : Int → Int → Int → ab_H → Option ab_H} {k129 : Int → st_S → Option st_S} {kf129 : Int → Int → ab_H → Option ab_H} (hrec : ∀ (v1 : Int) (v2 : Int) (σ : st_S) (q : st_S), rec v1 v2 σ = some q → recf ((596 : Nat) : Int) v1 v2 (mk_ σ) = some (mk_ q)) (hk129 : ∀ (v1 : Int) (σ : st_S) (q : st_S), k129 v1 σ = some q → kf129 ((596 : Nat) : Int) v1 (mk_ σ) = some (mk_ q)) : ∀ (v1 : Int) (v2 : Int) (v3 : Int) (v5 : Int) (σ : st_S) (q : st_S), g_X9_laysWords_J105 rec k129 v1 v2 v3 v5 σ = some q → f_X9_laysWords_J105 recf kf129 ((596 : Nat) : Int) v1 v2 v3 v5 (mk_ σ) = some (mk_ q) := by
  intro v1 v2 v3 v5 σ q hk
  unfold g_X9_laysWords_J105 at hk
  unfold f_X9_laysWords_J105
  refine mb_getR 600 rfl rfl (by decide) ?_
  obtain ⟨σ1, hσ1, hk⟩ := ab_bnd hk
  refine mb_ast ⟨rfl, rfl, fun _ => rfl⟩ hσ1 ?_
  refine mb_get rfl rfl ?_
  obtain ⟨σ2, hσ2, hk⟩ := ab_bnd hk
  refine mb_put rfl rfl hσ2 ?_
  exact s_X9_laysWords_J123 hrec hk129 _ _  _ _ hk
noncomputable def g_X9_laysWords_L64 (k105 : Int → Int → Int → Int → st_S → Option st_S) : Nat → Int → Int → Int → Int → st_S → Option st_S
  | 0, _, _, _, _, _ => none
  | n + 1, v1, v2, v3, v5, σ =>
    if v5 ≤ (0 : Int) then
      k105 v1 v2 v3 v5 σ
    else
    (sa_ld σ 600 72 (ab_w32 (v5 - (1 : Int)))).bind fun t1 =>
    if ab_cmp t1 v3 ≤ (0 : Int) then
      k105 v1 v2 v3 v5 σ
    else
    (sa_ld σ 600 72 (ab_w32 (v5 - (1 : Int)))).bind fun t2 =>
    (sa_st σ 600 72 v5 t2).bind fun σ1 =>
    g_X9_laysWords_L64 k105 n v1 v2 v3 (ab_w32 (v5 + (-1 : Int))) σ1
set_option maxRecDepth 20000 in
theorem s_X9_laysWords_L64 {k105 : Int → Int → Int → Int → st_S → Option st_S} {kf105 : Int → Int → Int → Int → Int → ab_H → Option ab_H} (hk105 : ∀ (v1 : Int) (v2 : Int) (v3 : Int) (v5 : Int) (σ : st_S) (q : st_S), k105 v1 v2 v3 v5 σ = some q → kf105 ((596 : Nat) : Int) v1 v2 v3 v5 (mk_ σ) = some (mk_ q)) : ∀ (n : Nat) (v1 : Int) (v2 : Int) (v3 : Int) (v5 : Int) (σ : st_S) (q : st_S), g_X9_laysWords_L64 k105 n v1 v2 v3 v5 σ = some q → f_X9_laysWords_L64 kf105 n ((596 : Nat) : Int) v1 v2 v3 v5 (mk_ σ) = some (mk_ q) := by
  intro n
  induction n with
  | zero => intro v1 v2 v3 v5 σ q hk; cases hk
  | succ n ih =>
    intro v1 v2 v3 v5 σ q hk
    unfold g_X9_laysWords_L64 at hk
    unfold f_X9_laysWords_L64
    by_cases hc : v5 ≤ (0 : Int)
    · have hk := ab_ifp hk hc
      refine mb_ifp hc ?_
      exact hk105 _ _ _ _  _ _ hk
    · have hk := ab_ifn hk hc
      refine mb_ifn hc ?_
      refine mb_getR 600 rfl rfl (by decide) ?_
      obtain ⟨t1, ht1, hk⟩ := ab_bnd hk
      refine mb_ald ⟨rfl, rfl, fun _ => rfl⟩ ht1 ?_
      by_cases hc : ab_cmp t1 v3 ≤ (0 : Int)
      · have hk := ab_ifp hk hc
        refine mb_ifp hc ?_
        exact hk105 _ _ _ _  _ _ hk
      · have hk := ab_ifn hk hc
        refine mb_ifn hc ?_
        refine mb_getR 600 rfl rfl (by decide) ?_
        refine mb_getR 600 rfl rfl (by decide) ?_
        obtain ⟨t2, ht2, hk⟩ := ab_bnd hk
        refine mb_ald ⟨rfl, rfl, fun _ => rfl⟩ ht2 ?_
        obtain ⟨σ1, hσ1, hk⟩ := ab_bnd hk
        refine mb_ast ⟨rfl, rfl, fun _ => rfl⟩ hσ1 ?_
        exact ih _ _ _ _  _ _ hk
noncomputable def g_X9_laysWords_L17 (k129 : Int → st_S → Option st_S) : Nat → Int → Int → st_S → Option st_S
  | 0, _, _, _ => none
  | n + 1, v1, v2, σ =>
    (g_X9_terms v1 σ).bind fun q1 =>
    if q1.1 ≤ v2 then
      k129 v1 q1.2
    else
    (g_X9_termAt v1 v2 q1.2).bind fun q2 =>
    (sa_ld q2.2 597 416 (ab_w32 (q2.1 + (2 : Int)))).bind fun t3 =>
    (g_X9_usedOf 597 t3 q2.2).bind fun q4 =>
    (g_X9_findWord q4.1 q4.2).bind fun q5 =>
    if q5.1 = (-1 : Int) then
      g_X9_laysWords_L64 (fun w105_1 w105_2 w105_3 w105_5 σx105 =>
        g_X9_laysWords_J105 (g_X9_laysWords_L17 k129 n) k129 w105_1 w105_2 w105_3 w105_5 σx105) ab_FU v1 v2 q4.1 (q5.2 596 14) q5.2
    else
    g_X9_laysWords_J123 (g_X9_laysWords_L17 k129 n) k129 v1 v2 q5.2
set_option maxRecDepth 20000 in
theorem s_X9_laysWords_L17 {k129 : Int → st_S → Option st_S} {kf129 : Int → Int → ab_H → Option ab_H} (hk129 : ∀ (v1 : Int) (σ : st_S) (q : st_S), k129 v1 σ = some q → kf129 ((596 : Nat) : Int) v1 (mk_ σ) = some (mk_ q)) : ∀ (n : Nat) (v1 : Int) (v2 : Int) (σ : st_S) (q : st_S), g_X9_laysWords_L17 k129 n v1 v2 σ = some q → f_X9_laysWords_L17 kf129 n ((596 : Nat) : Int) v1 v2 (mk_ σ) = some (mk_ q) := by
  intro n
  induction n with
  | zero => intro v1 v2 σ q hk; cases hk
  | succ n ih =>
    intro v1 v2 σ q hk
    unfold g_X9_laysWords_L17 at hk
    unfold f_X9_laysWords_L17
    obtain ⟨q1, hq1, hk⟩ := ab_bnd hk
    refine mb_on rfl (s_X9_terms hq1) ?_
    by_cases hc : q1.1 ≤ v2
    · have hk := ab_ifp hk hc
      refine mb_ifp hc ?_
      exact hk129 _  _ _ hk
    · have hk := ab_ifn hk hc
      refine mb_ifn hc ?_
      refine mb_getR 597 rfl rfl (by decide) ?_
      refine mb_getR 597 rfl rfl (by decide) ?_
      obtain ⟨q2, hq2, hk⟩ := ab_bnd hk
      refine mb_eq (s_X9_termAt hq2) ?_
      obtain ⟨t3, ht3, hk⟩ := ab_bnd hk
      refine mb_ald ⟨rfl, rfl, fun _ => rfl⟩ ht3 ?_
      obtain ⟨q4, hq4, hk⟩ := ab_bnd hk
      refine mb_eq (s_X9_usedOf ⟨rfl, rfl, fun _ => rfl⟩ hq4) ?_
      obtain ⟨q5, hq5, hk⟩ := ab_bnd hk
      refine mb_on rfl (s_X9_findWord hq5) ?_
      by_cases hc : q5.1 = (-1 : Int)
      · have hk := ab_ifp hk hc
        refine mb_ifp hc ?_
        refine mb_get rfl rfl ?_
        refine s_X9_laysWords_L64 (fun w105_1 w105_2 w105_3 w105_5 σx105 q hk => ?_) _ _ _ _ _  _ _ hk
        · skip
          exact s_X9_laysWords_J105 ih hk129 _ _ _ _  _ _ hk
      · have hk := ab_ifn hk hc
        refine mb_ifn hc ?_
        exact s_X9_laysWords_J123 ih hk129 _ _  _ _ hk
noncomputable def g_X9_laysWords_L7 (k135 : st_S → Option st_S) : Nat → Int → st_S → Option st_S
  | 0, _, _ => none
  | n + 1, v1, σ =>
    (g_X9_strings σ).bind fun q1 =>
    if q1.1 ≤ v1 then
      k135 q1.2
    else
    g_X9_laysWords_L17 (fun w129_1 σx129 =>
      g_X9_laysWords_L7 k135 n (ab_w32 (w129_1 + (1 : Int))) σx129) ab_FU v1 (0 : Int) q1.2
set_option maxRecDepth 20000 in
theorem s_X9_laysWords_L7 {k135 : st_S → Option st_S} {kf135 : Int → ab_H → Option ab_H} (hk135 : ∀ (σ : st_S) (q : st_S), k135 σ = some q → kf135 ((596 : Nat) : Int) (mk_ σ) = some (mk_ q)) : ∀ (n : Nat) (v1 : Int) (σ : st_S) (q : st_S), g_X9_laysWords_L7 k135 n v1 σ = some q → f_X9_laysWords_L7 kf135 n ((596 : Nat) : Int) v1 (mk_ σ) = some (mk_ q) := by
  intro n
  induction n with
  | zero => intro v1 σ q hk; cases hk
  | succ n ih =>
    intro v1 σ q hk
    unfold g_X9_laysWords_L7 at hk
    unfold f_X9_laysWords_L7
    obtain ⟨q1, hq1, hk⟩ := ab_bnd hk
    refine mb_on rfl (s_X9_strings hq1) ?_
    by_cases hc : q1.1 ≤ v1
    · have hk := ab_ifp hk hc
      refine mb_ifp hc ?_
      exact hk135  _ _ hk
    · have hk := ab_ifn hk hc
      refine mb_ifn hc ?_
      refine s_X9_laysWords_L17 (fun w129_1 σx129 q hk => ?_) _ _ _  _ _ hk
      · skip
        exact ih _  _ _ hk
noncomputable def g_X9_laysWords (σ : st_S) : Option st_S :=
  (some (up2 σ 596 14 (0 : Int))).bind fun σ1 =>
  g_X9_laysWords_L7 (fun σx135 =>
    g_X9_laysWords_L137 ab_FU (0 : Int) σx135) ab_FU (0 : Int) σ1
set_option maxRecDepth 20000 in
theorem s_X9_laysWords {σ : st_S} {q : st_S} (hk : g_X9_laysWords σ = some q) : f_X9_laysWords ((596 : Nat) : Int) (mk_ σ) = some (mk_ q) := by
  unfold g_X9_laysWords at hk
  unfold f_X9_laysWords
  obtain ⟨σ1, hσ1, hk⟩ := ab_bnd hk
  refine mb_put rfl rfl hσ1 ?_
  refine s_X9_laysWords_L7 (fun σx135 q hk => ?_) _ _  _ _ hk
  · skip
    refine s_X9_laysWords_L137 _ _  _ _ hk
noncomputable def g_X9_puts_J87 (v3 : Int) (v4 : Int) (v5 : Int) (v6 : Int) (σ : st_S) : Option st_S :=
  (sa_ld σ 607 864 v5).bind fun t1 =>
  (sa_st σ 607 864 v5 (ab_w32 (t1 + (1 : Int)))).bind fun σ1 =>
  (g_X9_place v3 v4 σ1).bind fun q2 =>
  (sa_st q2.2 607 864 (ab_w32 ((ab_w32 (v5 + v6)) + (1 : Int))) q2.1).bind fun σ2 =>
  some σ2
set_option maxRecDepth 20000 in
theorem s_X9_puts_J87 : ∀ (v3 : Int) (v4 : Int) (v5 : Int) (v6 : Int) (σ : st_S) (q : st_S), g_X9_puts_J87 v3 v4 v5 v6 σ = some q → f_X9_puts_J87 ((596 : Nat) : Int) v3 v4 v5 v6 (mk_ σ) = some (mk_ q) := by
  intro v3 v4 v5 v6 σ q hk
  unfold g_X9_puts_J87 at hk
  unfold f_X9_puts_J87
  refine mb_getR 607 rfl rfl (by decide) ?_
  obtain ⟨t1, ht1, hk⟩ := ab_bnd hk
  refine mb_ald ⟨rfl, rfl, fun _ => rfl⟩ ht1 ?_
  obtain ⟨σ1, hσ1, hk⟩ := ab_bnd hk
  refine mb_ast ⟨rfl, rfl, fun _ => rfl⟩ hσ1 ?_
  refine mb_getR 607 rfl rfl (by decide) ?_
  obtain ⟨q2, hq2, hk⟩ := ab_bnd hk
  refine mb_eq (s_X9_place hq2) ?_
  obtain ⟨σ2, hσ2, hk⟩ := ab_bnd hk
  refine mb_ast ⟨rfl, rfl, fun _ => rfl⟩ hσ2 ?_
  obtain rfl := Option.some.inj hk
  rfl
noncomputable def g_X9_puts_J48 (v3 : Int) (v4 : Int) (v5 : Int) (v6 : Int) (s0 : Int) (σ : st_S) : Option st_S :=
  if s0 < (0 : Int) then
    g_X9_puts_J87 v3 v4 v5 v6 σ
  else
  (sa_ld σ 601 72 s0).bind fun t1 =>
  (g_X9_place v3 v4 σ).bind fun q2 =>
  (sa_ld q2.2 601 72 q2.1).bind fun t3 =>
  if t1 = t3 then
    (some (up2 q2.2 596 25 (ab_w32 ((q2.2 596 25) + (1 : Int))))).bind fun σ1 =>
    some σ1
  else
  g_X9_puts_J87 v3 v4 v5 v6 q2.2
set_option maxRecDepth 20000 in
theorem s_X9_puts_J48 : ∀ (v3 : Int) (v4 : Int) (v5 : Int) (v6 : Int) (s0 : Int) (σ : st_S) (q : st_S), g_X9_puts_J48 v3 v4 v5 v6 s0 σ = some q → f_X9_puts_J48 ((596 : Nat) : Int) v3 v4 v5 v6 s0 (mk_ σ) = some (mk_ q) := by
  intro v3 v4 v5 v6 s0 σ q hk
  unfold g_X9_puts_J48 at hk
  unfold f_X9_puts_J48
  by_cases hc : s0 < (0 : Int)
  · have hk := ab_ifp hk hc
    refine mb_ifp hc ?_
    exact s_X9_puts_J87 _ _ _ _  _ _ hk
  · have hk := ab_ifn hk hc
    refine mb_ifn hc ?_
    refine mb_getR 601 rfl rfl (by decide) ?_
    obtain ⟨t1, ht1, hk⟩ := ab_bnd hk
    refine mb_ald ⟨rfl, rfl, fun _ => rfl⟩ ht1 ?_
    refine mb_getR 601 rfl rfl (by decide) ?_
    obtain ⟨q2, hq2, hk⟩ := ab_bnd hk
    refine mb_eq (s_X9_place hq2) ?_
    obtain ⟨t3, ht3, hk⟩ := ab_bnd hk
    refine mb_ald ⟨rfl, rfl, fun _ => rfl⟩ ht3 ?_
    by_cases hc : t1 = t3
    · have hk := ab_ifp hk hc
      refine mb_ifp hc ?_
      refine mb_get rfl rfl ?_
      obtain ⟨σ1, hσ1, hk⟩ := ab_bnd hk
      refine mb_put rfl rfl hσ1 ?_
      obtain rfl := Option.some.inj hk
      rfl
    · have hk := ab_ifn hk hc
      refine mb_ifn hc ?_
      exact s_X9_puts_J87 _ _ _ _  _ _ hk
noncomputable def g_X9_puts (a1 : Int) (a2 : Int) (a3 : Int) (a4 : Int) (σ : st_S) : Option st_S :=
  (sa_ld σ 607 864 (ab_w32 ((ab_w32 ((12 : Int) * a1)) + (ab_w32 ((6 : Int) * a2))))).bind fun t1 =>
  if t1 = (0 : Int) then
    (sa_ld σ 603 72 a1).bind fun t3 =>
    (g_X9_place a3 t3 σ).bind fun q4 =>
    g_X9_puts_J48 a3 a4 (ab_w32 ((ab_w32 ((12 : Int) * a1)) + (ab_w32 ((6 : Int) * a2)))) t1 q4.1 q4.2
  else
  (sa_ld σ 607 864 (ab_w32 ((ab_w32 ((ab_w32 ((12 : Int) * a1)) + (ab_w32 ((6 : Int) * a2)))) + t1))).bind fun t2 =>
  g_X9_puts_J48 a3 a4 (ab_w32 ((ab_w32 ((12 : Int) * a1)) + (ab_w32 ((6 : Int) * a2)))) t1 t2 σ
set_option maxRecDepth 20000 in
theorem s_X9_puts {a1 : Int} {a2 : Int} {a3 : Int} {a4 : Int} {σ : st_S} {q : st_S} (hk : g_X9_puts a1 a2 a3 a4 σ = some q) : f_X9_puts ((596 : Nat) : Int) a1 a2 a3 a4 (mk_ σ) = some (mk_ q) := by
  unfold g_X9_puts at hk
  unfold f_X9_puts
  refine mb_getR 607 rfl rfl (by decide) ?_
  obtain ⟨t1, ht1, hk⟩ := ab_bnd hk
  refine mb_ald ⟨rfl, rfl, fun _ => rfl⟩ ht1 ?_
  by_cases hc : t1 = (0 : Int)
  · have hk := ab_ifp hk hc
    refine mb_ifp hc ?_
    refine mb_getR 603 rfl rfl (by decide) ?_
    obtain ⟨t3, ht3, hk⟩ := ab_bnd hk
    refine mb_ald ⟨rfl, rfl, fun _ => rfl⟩ ht3 ?_
    obtain ⟨q4, hq4, hk⟩ := ab_bnd hk
    refine mb_eq (s_X9_place hq4) ?_
    exact s_X9_puts_J48 _ _ _ _ _  _ _ hk
  · have hk := ab_ifn hk hc
    refine mb_ifn hc ?_
    refine mb_getR 607 rfl rfl (by decide) ?_
    obtain ⟨t2, ht2, hk⟩ := ab_bnd hk
    refine mb_ald ⟨rfl, rfl, fun _ => rfl⟩ ht2 ?_
    exact s_X9_puts_J48 _ _ _ _ _  _ _ hk
noncomputable def g_X9_laysEntry_J185 (v4 : Int) (σ : st_S) : Option st_S :=
  (sa_st σ 604 72 v4 (σ 596 25)).bind fun σ1 =>
  (some (up2 σ1 596 16 (ab_w32 ((σ1 596 16) + (1 : Int))))).bind fun σ2 =>
  some σ2
set_option maxRecDepth 20000 in
theorem s_X9_laysEntry_J185 : ∀ (v4 : Int) (σ : st_S) (q : st_S), g_X9_laysEntry_J185 v4 σ = some q → f_X9_laysEntry_J185 ((596 : Nat) : Int) v4 (mk_ σ) = some (mk_ q) := by
  intro v4 σ q hk
  unfold g_X9_laysEntry_J185 at hk
  unfold f_X9_laysEntry_J185
  refine mb_getR 604 rfl rfl (by decide) ?_
  refine mb_get rfl rfl ?_
  obtain ⟨σ1, hσ1, hk⟩ := ab_bnd hk
  refine mb_ast ⟨rfl, rfl, fun _ => rfl⟩ hσ1 ?_
  refine mb_get rfl rfl ?_
  obtain ⟨σ2, hσ2, hk⟩ := ab_bnd hk
  refine mb_put rfl rfl hσ2 ?_
  obtain rfl := Option.some.inj hk
  rfl
noncomputable def g_X9_laysEntry_L159 (k185 : Int → st_S → Option st_S) : Nat → Int → Int → Int → st_S → Option st_S
  | 0, _, _, _, _ => none
  | n + 1, v1, v4, v5, σ =>
    (g_X9_terms v1 σ).bind fun q1 =>
    if q1.1 ≤ v5 then
      k185 v4 q1.2
    else
    (g_X9_puts v4 (1 : Int) v1 v5 q1.2).bind fun q2 =>
    g_X9_laysEntry_L159 k185 n v1 v4 (ab_w32 (v5 + (1 : Int))) q2
set_option maxRecDepth 20000 in
theorem s_X9_laysEntry_L159 {k185 : Int → st_S → Option st_S} {kf185 : Int → Int → ab_H → Option ab_H} (hk185 : ∀ (v4 : Int) (σ : st_S) (q : st_S), k185 v4 σ = some q → kf185 ((596 : Nat) : Int) v4 (mk_ σ) = some (mk_ q)) : ∀ (n : Nat) (v1 : Int) (v4 : Int) (v5 : Int) (σ : st_S) (q : st_S), g_X9_laysEntry_L159 k185 n v1 v4 v5 σ = some q → f_X9_laysEntry_L159 kf185 n ((596 : Nat) : Int) v1 v4 v5 (mk_ σ) = some (mk_ q) := by
  intro n
  induction n with
  | zero => intro v1 v4 v5 σ q hk; cases hk
  | succ n ih =>
    intro v1 v4 v5 σ q hk
    unfold g_X9_laysEntry_L159 at hk
    unfold f_X9_laysEntry_L159
    obtain ⟨q1, hq1, hk⟩ := ab_bnd hk
    refine mb_on rfl (s_X9_terms hq1) ?_
    by_cases hc : q1.1 ≤ v5
    · have hk := ab_ifp hk hc
      refine mb_ifp hc ?_
      exact hk185 _  _ _ hk
    · have hk := ab_ifn hk hc
      refine mb_ifn hc ?_
      obtain ⟨q2, hq2, hk⟩ := ab_bnd hk
      refine mb_on rfl (s_X9_puts hq2) ?_
      exact ih _ _ _  _ _ hk
noncomputable def g_X9_laysEntry_J149 (v1 : Int) (v2 : Int) (v3 : Int) (v4 : Int) (σ : st_S) : Option st_S :=
  if v3 = (2 : Int) then
    g_X9_laysEntry_J185 v4 σ
  else
  g_X9_laysEntry_L159 (fun w185_4 σx185 =>
    g_X9_laysEntry_J185 w185_4 σx185) ab_FU v1 v4 (ab_w32 (v2 + (1 : Int))) σ
set_option maxRecDepth 20000 in
theorem s_X9_laysEntry_J149 : ∀ (v1 : Int) (v2 : Int) (v3 : Int) (v4 : Int) (σ : st_S) (q : st_S), g_X9_laysEntry_J149 v1 v2 v3 v4 σ = some q → f_X9_laysEntry_J149 ((596 : Nat) : Int) v1 v2 v3 v4 (mk_ σ) = some (mk_ q) := by
  intro v1 v2 v3 v4 σ q hk
  unfold g_X9_laysEntry_J149 at hk
  unfold f_X9_laysEntry_J149
  by_cases hc : v3 = (2 : Int)
  · have hk := ab_ifp hk hc
    refine mb_ifp hc ?_
    exact s_X9_laysEntry_J185 _  _ _ hk
  · have hk := ab_ifn hk hc
    refine mb_ifn hc ?_
    refine s_X9_laysEntry_L159 (fun w185_4 σx185 q hk => ?_) _ _ _ _  _ _ hk
    · skip
      exact s_X9_laysEntry_J185 _  _ _ hk
noncomputable def g_X9_laysEntry_L127 (k149 : Int → Int → Int → Int → st_S → Option st_S) : Nat → Int → Int → Int → Int → Int → st_S → Option st_S
  | 0, _, _, _, _, _, _ => none
  | n + 1, v1, v2, v3, v4, v5, σ =>
    if v2 ≤ v5 then
      k149 v1 v2 v3 v4 σ
    else
    (g_X9_puts v4 (1 : Int) v1 v5 σ).bind fun q1 =>
    g_X9_laysEntry_L127 k149 n v1 v2 v3 v4 (ab_w32 (v5 + (1 : Int))) q1
set_option maxRecDepth 20000 in
theorem s_X9_laysEntry_L127 {k149 : Int → Int → Int → Int → st_S → Option st_S} {kf149 : Int → Int → Int → Int → Int → ab_H → Option ab_H} (hk149 : ∀ (v1 : Int) (v2 : Int) (v3 : Int) (v4 : Int) (σ : st_S) (q : st_S), k149 v1 v2 v3 v4 σ = some q → kf149 ((596 : Nat) : Int) v1 v2 v3 v4 (mk_ σ) = some (mk_ q)) : ∀ (n : Nat) (v1 : Int) (v2 : Int) (v3 : Int) (v4 : Int) (v5 : Int) (σ : st_S) (q : st_S), g_X9_laysEntry_L127 k149 n v1 v2 v3 v4 v5 σ = some q → f_X9_laysEntry_L127 kf149 n ((596 : Nat) : Int) v1 v2 v3 v4 v5 (mk_ σ) = some (mk_ q) := by
  intro n
  induction n with
  | zero => intro v1 v2 v3 v4 v5 σ q hk; cases hk
  | succ n ih =>
    intro v1 v2 v3 v4 v5 σ q hk
    unfold g_X9_laysEntry_L127 at hk
    unfold f_X9_laysEntry_L127
    by_cases hc : v2 ≤ v5
    · have hk := ab_ifp hk hc
      refine mb_ifp hc ?_
      exact hk149 _ _ _ _  _ _ hk
    · have hk := ab_ifn hk hc
      refine mb_ifn hc ?_
      obtain ⟨q1, hq1, hk⟩ := ab_bnd hk
      refine mb_on rfl (s_X9_puts hq1) ?_
      exact ih _ _ _ _ _  _ _ hk
noncomputable def g_X9_laysEntry_J119 (v1 : Int) (v2 : Int) (v3 : Int) (v4 : Int) (σ : st_S) : Option st_S :=
  if v3 = (1 : Int) then
    g_X9_laysEntry_L127 (fun w149_1 w149_2 w149_3 w149_4 σx149 =>
      g_X9_laysEntry_J149 w149_1 w149_2 w149_3 w149_4 σx149) ab_FU v1 v2 v3 v4 (0 : Int) σ
  else
  g_X9_laysEntry_J149 v1 v2 v3 v4 σ
set_option maxRecDepth 20000 in
theorem s_X9_laysEntry_J119 : ∀ (v1 : Int) (v2 : Int) (v3 : Int) (v4 : Int) (σ : st_S) (q : st_S), g_X9_laysEntry_J119 v1 v2 v3 v4 σ = some q → f_X9_laysEntry_J119 ((596 : Nat) : Int) v1 v2 v3 v4 (mk_ σ) = some (mk_ q) := by
  intro v1 v2 v3 v4 σ q hk
  unfold g_X9_laysEntry_J119 at hk
  unfold f_X9_laysEntry_J119
  by_cases hc : v3 = (1 : Int)
  · have hk := ab_ifp hk hc
    refine mb_ifp hc ?_
    refine s_X9_laysEntry_L127 (fun w149_1 w149_2 w149_3 w149_4 σx149 q hk => ?_) _ _ _ _ _ _  _ _ hk
    · skip
      exact s_X9_laysEntry_J149 _ _ _ _  _ _ hk
  · have hk := ab_ifn hk hc
    refine mb_ifn hc ?_
    exact s_X9_laysEntry_J149 _ _ _ _  _ _ hk
noncomputable def g_X9_laysEntry_L93 (k119 : Int → Int → Int → Int → st_S → Option st_S) : Nat → Int → Int → Int → Int → Int → st_S → Option st_S
  | 0, _, _, _, _, _, _ => none
  | n + 1, v1, v2, v3, v4, v5, σ =>
    (g_X9_terms v1 σ).bind fun q1 =>
    if q1.1 ≤ v5 then
      k119 v1 v2 v3 v4 q1.2
    else
    (g_X9_puts v4 (0 : Int) v1 v5 q1.2).bind fun q2 =>
    g_X9_laysEntry_L93 k119 n v1 v2 v3 v4 (ab_w32 (v5 + (1 : Int))) q2
set_option maxRecDepth 20000 in
theorem s_X9_laysEntry_L93 {k119 : Int → Int → Int → Int → st_S → Option st_S} {kf119 : Int → Int → Int → Int → Int → ab_H → Option ab_H} (hk119 : ∀ (v1 : Int) (v2 : Int) (v3 : Int) (v4 : Int) (σ : st_S) (q : st_S), k119 v1 v2 v3 v4 σ = some q → kf119 ((596 : Nat) : Int) v1 v2 v3 v4 (mk_ σ) = some (mk_ q)) : ∀ (n : Nat) (v1 : Int) (v2 : Int) (v3 : Int) (v4 : Int) (v5 : Int) (σ : st_S) (q : st_S), g_X9_laysEntry_L93 k119 n v1 v2 v3 v4 v5 σ = some q → f_X9_laysEntry_L93 kf119 n ((596 : Nat) : Int) v1 v2 v3 v4 v5 (mk_ σ) = some (mk_ q) := by
  intro n
  induction n with
  | zero => intro v1 v2 v3 v4 v5 σ q hk; cases hk
  | succ n ih =>
    intro v1 v2 v3 v4 v5 σ q hk
    unfold g_X9_laysEntry_L93 at hk
    unfold f_X9_laysEntry_L93
    obtain ⟨q1, hq1, hk⟩ := ab_bnd hk
    refine mb_on rfl (s_X9_terms hq1) ?_
    by_cases hc : q1.1 ≤ v5
    · have hk := ab_ifp hk hc
      refine mb_ifp hc ?_
      exact hk119 _ _ _ _  _ _ hk
    · have hk := ab_ifn hk hc
      refine mb_ifn hc ?_
      obtain ⟨q2, hq2, hk⟩ := ab_bnd hk
      refine mb_on rfl (s_X9_puts hq2) ?_
      exact ih _ _ _ _ _  _ _ hk
noncomputable def g_X9_laysEntry_J83 (v1 : Int) (v2 : Int) (v3 : Int) (v4 : Int) (σ : st_S) : Option st_S :=
  if v3 = (2 : Int) then
    g_X9_laysEntry_L93 (fun w119_1 w119_2 w119_3 w119_4 σx119 =>
      g_X9_laysEntry_J119 w119_1 w119_2 w119_3 w119_4 σx119) ab_FU v1 v2 v3 v4 (ab_w32 (v2 + (1 : Int))) σ
  else
  g_X9_laysEntry_J119 v1 v2 v3 v4 σ
set_option maxRecDepth 20000 in
theorem s_X9_laysEntry_J83 : ∀ (v1 : Int) (v2 : Int) (v3 : Int) (v4 : Int) (σ : st_S) (q : st_S), g_X9_laysEntry_J83 v1 v2 v3 v4 σ = some q → f_X9_laysEntry_J83 ((596 : Nat) : Int) v1 v2 v3 v4 (mk_ σ) = some (mk_ q) := by
  intro v1 v2 v3 v4 σ q hk
  unfold g_X9_laysEntry_J83 at hk
  unfold f_X9_laysEntry_J83
  by_cases hc : v3 = (2 : Int)
  · have hk := ab_ifp hk hc
    refine mb_ifp hc ?_
    refine s_X9_laysEntry_L93 (fun w119_1 w119_2 w119_3 w119_4 σx119 q hk => ?_) _ _ _ _ _ _  _ _ hk
    · skip
      exact s_X9_laysEntry_J119 _ _ _ _  _ _ hk
  · have hk := ab_ifn hk hc
    refine mb_ifn hc ?_
    exact s_X9_laysEntry_J119 _ _ _ _  _ _ hk
noncomputable def g_X9_laysEntry_L62 (k83 : Int → Int → Int → Int → st_S → Option st_S) : Nat → Int → Int → Int → Int → Int → st_S → Option st_S
  | 0, _, _, _, _, _, _ => none
  | n + 1, v1, v2, v3, v4, v5, σ =>
    if v5 < (0 : Int) then
      k83 v1 v2 v3 v4 σ
    else
    (g_X9_puts v4 (0 : Int) v1 v5 σ).bind fun q1 =>
    g_X9_laysEntry_L62 k83 n v1 v2 v3 v4 (ab_w32 (v5 + (-1 : Int))) q1
set_option maxRecDepth 20000 in
theorem s_X9_laysEntry_L62 {k83 : Int → Int → Int → Int → st_S → Option st_S} {kf83 : Int → Int → Int → Int → Int → ab_H → Option ab_H} (hk83 : ∀ (v1 : Int) (v2 : Int) (v3 : Int) (v4 : Int) (σ : st_S) (q : st_S), k83 v1 v2 v3 v4 σ = some q → kf83 ((596 : Nat) : Int) v1 v2 v3 v4 (mk_ σ) = some (mk_ q)) : ∀ (n : Nat) (v1 : Int) (v2 : Int) (v3 : Int) (v4 : Int) (v5 : Int) (σ : st_S) (q : st_S), g_X9_laysEntry_L62 k83 n v1 v2 v3 v4 v5 σ = some q → f_X9_laysEntry_L62 kf83 n ((596 : Nat) : Int) v1 v2 v3 v4 v5 (mk_ σ) = some (mk_ q) := by
  intro n
  induction n with
  | zero => intro v1 v2 v3 v4 v5 σ q hk; cases hk
  | succ n ih =>
    intro v1 v2 v3 v4 v5 σ q hk
    unfold g_X9_laysEntry_L62 at hk
    unfold f_X9_laysEntry_L62
    by_cases hc : v5 < (0 : Int)
    · have hk := ab_ifp hk hc
      refine mb_ifp hc ?_
      exact hk83 _ _ _ _  _ _ hk
    · have hk := ab_ifn hk hc
      refine mb_ifn hc ?_
      obtain ⟨q1, hq1, hk⟩ := ab_bnd hk
      refine mb_on rfl (s_X9_puts hq1) ?_
      exact ih _ _ _ _ _  _ _ hk
noncomputable def g_X9_laysEntry (a1 : Int) (a2 : Int) (a3 : Int) (σ : st_S) : Option st_S :=
  (sa_st σ 602 72 (σ 596 16) a1).bind fun σ1 =>
  (sa_st σ1 603 72 (σ 596 16) a2).bind fun σ2 =>
  (sa_st σ2 607 864 (ab_w32 ((12 : Int) * (σ 596 16))) (0 : Int)).bind fun σ3 =>
  (sa_st σ3 607 864 (ab_w32 ((ab_w32 ((12 : Int) * (σ 596 16))) + (6 : Int))) (0 : Int)).bind fun σ4 =>
  (some (up2 σ4 596 25 (0 : Int))).bind fun σ5 =>
  if a3 = (1 : Int) then
    g_X9_laysEntry_J83 a1 a2 a3 (σ 596 16) σ5
  else
  g_X9_laysEntry_L62 (fun w83_1 w83_2 w83_3 w83_4 σx83 =>
    g_X9_laysEntry_J83 w83_1 w83_2 w83_3 w83_4 σx83) ab_FU a1 a2 a3 (σ 596 16) (ab_w32 (a2 - (1 : Int))) σ5
set_option maxRecDepth 20000 in
theorem s_X9_laysEntry {a1 : Int} {a2 : Int} {a3 : Int} {σ : st_S} {q : st_S} (hk : g_X9_laysEntry a1 a2 a3 σ = some q) : f_X9_laysEntry ((596 : Nat) : Int) a1 a2 a3 (mk_ σ) = some (mk_ q) := by
  unfold g_X9_laysEntry at hk
  unfold f_X9_laysEntry
  refine mb_get rfl rfl ?_
  refine mb_getR 602 rfl rfl (by decide) ?_
  obtain ⟨σ1, hσ1, hk⟩ := ab_bnd hk
  refine mb_ast ⟨rfl, rfl, fun _ => rfl⟩ hσ1 ?_
  refine mb_getR 603 rfl rfl (by decide) ?_
  obtain ⟨σ2, hσ2, hk⟩ := ab_bnd hk
  refine mb_ast ⟨rfl, rfl, fun _ => rfl⟩ hσ2 ?_
  refine mb_getR 607 rfl rfl (by decide) ?_
  obtain ⟨σ3, hσ3, hk⟩ := ab_bnd hk
  refine mb_ast ⟨rfl, rfl, fun _ => rfl⟩ hσ3 ?_
  refine mb_getR 607 rfl rfl (by decide) ?_
  obtain ⟨σ4, hσ4, hk⟩ := ab_bnd hk
  refine mb_ast ⟨rfl, rfl, fun _ => rfl⟩ hσ4 ?_
  obtain ⟨σ5, hσ5, hk⟩ := ab_bnd hk
  refine mb_put rfl rfl hσ5 ?_
  by_cases hc : a3 = (1 : Int)
  · have hk := ab_ifp hk hc
    refine mb_ifp hc ?_
    exact s_X9_laysEntry_J83 _ _ _ _  _ _ hk
  · have hk := ab_ifn hk hc
    refine mb_ifn hc ?_
    refine s_X9_laysEntry_L62 (fun w83_1 w83_2 w83_3 w83_4 σx83 q hk => ?_) _ _ _ _ _ _  _ _ hk
    · skip
      exact s_X9_laysEntry_J83 _ _ _ _  _ _ hk
noncomputable def g_X9_leadWord (a1 : Int) (σ : st_S) : Option (Int × st_S) :=
  (sa_ld σ 602 72 a1).bind fun t1 =>
  (sa_ld σ 603 72 a1).bind fun t2 =>
  (g_X9_place t1 t2 σ).bind fun q3 =>
  (sa_ld q3.2 601 72 q3.1).bind fun t4 =>
  some (t4, q3.2)
set_option maxRecDepth 20000 in
theorem s_X9_leadWord {a1 : Int} {σ : st_S} {q : Int × st_S} (hk : g_X9_leadWord a1 σ = some q) : f_X9_leadWord ((596 : Nat) : Int) a1 (mk_ σ) = some ((q.1, mk_ q.2)) := by
  unfold g_X9_leadWord at hk
  unfold f_X9_leadWord
  refine mb_getR 601 rfl rfl (by decide) ?_
  refine mb_getR 602 rfl rfl (by decide) ?_
  obtain ⟨t1, ht1, hk⟩ := ab_bnd hk
  refine mb_ald ⟨rfl, rfl, fun _ => rfl⟩ ht1 ?_
  refine mb_getR 603 rfl rfl (by decide) ?_
  obtain ⟨t2, ht2, hk⟩ := ab_bnd hk
  refine mb_ald ⟨rfl, rfl, fun _ => rfl⟩ ht2 ?_
  obtain ⟨q3, hq3, hk⟩ := ab_bnd hk
  refine mb_eq (s_X9_place hq3) ?_
  obtain ⟨t4, ht4, hk⟩ := ab_bnd hk
  refine mb_ald ⟨rfl, rfl, fun _ => rfl⟩ ht4 ?_
  obtain rfl := Option.some.inj hk
  rfl
noncomputable def g_X9_comparesRows_J96 (v4 : Int) (v5 : Int) (σ : st_S) : Option (Int × st_S) :=
  (sa_ld σ 607 864 v4).bind fun t1 =>
  (sa_ld σ 607 864 v5).bind fun t2 =>
  some (ab_w32 (t1 - t2), σ)
set_option maxRecDepth 20000 in
theorem s_X9_comparesRows_J96 : ∀ (v4 : Int) (v5 : Int) (σ : st_S) (q : Int × st_S), g_X9_comparesRows_J96 v4 v5 σ = some q → f_X9_comparesRows_J96 ((596 : Nat) : Int) v4 v5 (mk_ σ) = some ((q.1, mk_ q.2)) := by
  intro v4 v5 σ q hk
  unfold g_X9_comparesRows_J96 at hk
  unfold f_X9_comparesRows_J96
  refine mb_getR 607 rfl rfl (by decide) ?_
  obtain ⟨t1, ht1, hk⟩ := ab_bnd hk
  refine mb_ald ⟨rfl, rfl, fun _ => rfl⟩ ht1 ?_
  refine mb_getR 607 rfl rfl (by decide) ?_
  obtain ⟨t2, ht2, hk⟩ := ab_bnd hk
  refine mb_ald ⟨rfl, rfl, fun _ => rfl⟩ ht2 ?_
  obtain rfl := Option.some.inj hk
  rfl
noncomputable def g_X9_comparesRows_L25 (k96 : Int → Int → st_S → Option (Int × st_S)) : Nat → Int → Int → Int → st_S → Option (Int × st_S)
  | 0, _, _, _, _ => none
  | n + 1, v4, v5, v6, σ =>
    (sa_ld σ 607 864 v4).bind fun t1 =>
    if t1 < v6 then
      k96 v4 v5 σ
    else
    (sa_ld σ 607 864 v5).bind fun t2 =>
    if t2 < v6 then
      k96 v4 v5 σ
    else
    (sa_ld σ 607 864 (ab_w32 (v4 + v6))).bind fun t3 =>
    (sa_ld σ 601 72 t3).bind fun t4 =>
    (sa_ld σ 607 864 (ab_w32 (v5 + v6))).bind fun t5 =>
    (sa_ld σ 601 72 t5).bind fun t6 =>
    if ab_w32 (t4 - t6) = (0 : Int) then
      g_X9_comparesRows_L25 k96 n v4 v5 (ab_w32 (v6 + (1 : Int))) σ
    else
    some (ab_w32 (t4 - t6), σ)
set_option maxRecDepth 20000 in
theorem s_X9_comparesRows_L25 {k96 : Int → Int → st_S → Option (Int × st_S)} {kf96 : Int → Int → Int → ab_H → Option (Int × ab_H)} (hk96 : ∀ (v4 : Int) (v5 : Int) (σ : st_S) (q : Int × st_S), k96 v4 v5 σ = some q → kf96 ((596 : Nat) : Int) v4 v5 (mk_ σ) = some ((q.1, mk_ q.2))) : ∀ (n : Nat) (v4 : Int) (v5 : Int) (v6 : Int) (σ : st_S) (q : Int × st_S), g_X9_comparesRows_L25 k96 n v4 v5 v6 σ = some q → f_X9_comparesRows_L25 kf96 n ((596 : Nat) : Int) v4 v5 v6 (mk_ σ) = some ((q.1, mk_ q.2)) := by
  intro n
  induction n with
  | zero => intro v4 v5 v6 σ q hk; cases hk
  | succ n ih =>
    intro v4 v5 v6 σ q hk
    unfold g_X9_comparesRows_L25 at hk
    unfold f_X9_comparesRows_L25
    refine mb_getR 607 rfl rfl (by decide) ?_
    obtain ⟨t1, ht1, hk⟩ := ab_bnd hk
    refine mb_ald ⟨rfl, rfl, fun _ => rfl⟩ ht1 ?_
    by_cases hc : t1 < v6
    · have hk := ab_ifp hk hc
      refine mb_ifp hc ?_
      exact hk96 _ _  _ _ hk
    · have hk := ab_ifn hk hc
      refine mb_ifn hc ?_
      refine mb_getR 607 rfl rfl (by decide) ?_
      obtain ⟨t2, ht2, hk⟩ := ab_bnd hk
      refine mb_ald ⟨rfl, rfl, fun _ => rfl⟩ ht2 ?_
      by_cases hc : t2 < v6
      · have hk := ab_ifp hk hc
        refine mb_ifp hc ?_
        exact hk96 _ _  _ _ hk
      · have hk := ab_ifn hk hc
        refine mb_ifn hc ?_
        refine mb_getR 601 rfl rfl (by decide) ?_
        refine mb_getR 607 rfl rfl (by decide) ?_
        obtain ⟨t3, ht3, hk⟩ := ab_bnd hk
        refine mb_ald ⟨rfl, rfl, fun _ => rfl⟩ ht3 ?_
        obtain ⟨t4, ht4, hk⟩ := ab_bnd hk
        refine mb_ald ⟨rfl, rfl, fun _ => rfl⟩ ht4 ?_
        refine mb_getR 601 rfl rfl (by decide) ?_
        refine mb_getR 607 rfl rfl (by decide) ?_
        obtain ⟨t5, ht5, hk⟩ := ab_bnd hk
        refine mb_ald ⟨rfl, rfl, fun _ => rfl⟩ ht5 ?_
        obtain ⟨t6, ht6, hk⟩ := ab_bnd hk
        refine mb_ald ⟨rfl, rfl, fun _ => rfl⟩ ht6 ?_
        by_cases hc : ab_w32 (t4 - t6) = (0 : Int)
        · have hk := ab_ifp hk hc
          refine mb_ifp hc ?_
          exact ih _ _ _  _ _ hk
        · have hk := ab_ifn hk hc
          refine mb_ifn hc ?_
          obtain rfl := Option.some.inj hk
          rfl
noncomputable def g_X9_comparesRows (a1 : Int) (a2 : Int) (a3 : Int) (σ : st_S) : Option (Int × st_S) :=
  g_X9_comparesRows_L25 (fun w96_4 w96_5 σx96 =>
    g_X9_comparesRows_J96 w96_4 w96_5 σx96) ab_FU (ab_w32 ((ab_w32 ((12 : Int) * a1)) + (ab_w32 ((6 : Int) * a3)))) (ab_w32 ((ab_w32 ((12 : Int) * a2)) + (ab_w32 ((6 : Int) * a3)))) (1 : Int) σ
set_option maxRecDepth 20000 in
theorem s_X9_comparesRows {a1 : Int} {a2 : Int} {a3 : Int} {σ : st_S} {q : Int × st_S} (hk : g_X9_comparesRows a1 a2 a3 σ = some q) : f_X9_comparesRows ((596 : Nat) : Int) a1 a2 a3 (mk_ σ) = some ((q.1, mk_ q.2)) := by
  unfold g_X9_comparesRows at hk
  unfold f_X9_comparesRows
  refine s_X9_comparesRows_L25 (fun w96_4 w96_5 σx96 q hk => ?_) _ _ _ _  _ _ hk
  · skip
    exact s_X9_comparesRows_J96 _ _  _ _ hk
noncomputable def g_X9_comparesWords_J24 (v1 : Int) (v2 : Int) (v3 : Int) (σ : st_S) : Option (Int × st_S) :=
  if v3 = (0 : Int) then
    (g_X9_comparesRows v1 v2 (1 : Int) σ).bind fun q1 =>
    some (q1.1, q1.2)
  else
  some (v3, σ)
set_option maxRecDepth 20000 in
theorem s_X9_comparesWords_J24 : ∀ (v1 : Int) (v2 : Int) (v3 : Int) (σ : st_S) (q : Int × st_S), g_X9_comparesWords_J24 v1 v2 v3 σ = some q → f_X9_comparesWords_J24 ((596 : Nat) : Int) v1 v2 v3 (mk_ σ) = some ((q.1, mk_ q.2)) := by
  intro v1 v2 v3 σ q hk
  unfold g_X9_comparesWords_J24 at hk
  unfold f_X9_comparesWords_J24
  by_cases hc : v3 = (0 : Int)
  · have hk := ab_ifp hk hc
    refine mb_ifp hc ?_
    obtain ⟨q1, hq1, hk⟩ := ab_bnd hk
    refine mb_on rfl (s_X9_comparesRows hq1) ?_
    obtain rfl := Option.some.inj hk
    rfl
  · have hk := ab_ifn hk hc
    refine mb_ifn hc ?_
    obtain rfl := Option.some.inj hk
    rfl
noncomputable def g_X9_comparesWords (a1 : Int) (a2 : Int) (σ : st_S) : Option (Int × st_S) :=
  (g_X9_leadWord a1 σ).bind fun q1 =>
  (g_X9_leadWord a2 q1.2).bind fun q2 =>
  if ab_w32 (q1.1 - q2.1) = (0 : Int) then
    (g_X9_comparesRows a1 a2 (0 : Int) q2.2).bind fun q3 =>
    g_X9_comparesWords_J24 a1 a2 q3.1 q3.2
  else
  g_X9_comparesWords_J24 a1 a2 (ab_w32 (q1.1 - q2.1)) q2.2
set_option maxRecDepth 20000 in
theorem s_X9_comparesWords {a1 : Int} {a2 : Int} {σ : st_S} {q : Int × st_S} (hk : g_X9_comparesWords a1 a2 σ = some q) : f_X9_comparesWords ((596 : Nat) : Int) a1 a2 (mk_ σ) = some ((q.1, mk_ q.2)) := by
  unfold g_X9_comparesWords at hk
  unfold f_X9_comparesWords
  obtain ⟨q1, hq1, hk⟩ := ab_bnd hk
  refine mb_on rfl (s_X9_leadWord hq1) ?_
  obtain ⟨q2, hq2, hk⟩ := ab_bnd hk
  refine mb_on rfl (s_X9_leadWord hq2) ?_
  by_cases hc : ab_w32 (q1.1 - q2.1) = (0 : Int)
  · have hk := ab_ifp hk hc
    refine mb_ifp hc ?_
    obtain ⟨q3, hq3, hk⟩ := ab_bnd hk
    refine mb_on rfl (s_X9_comparesRows hq3) ?_
    exact s_X9_comparesWords_J24 _ _ _  _ _ hk
  · have hk := ab_ifn hk hc
    refine mb_ifn hc ?_
    exact s_X9_comparesWords_J24 _ _ _  _ _ hk
noncomputable def g_X9_compares_J33 (v1 : Int) (v2 : Int) (v3 : Int) (σ : st_S) : Option (Int × st_S) :=
  if v3 = (0 : Int) then
    (sa_ld σ 603 72 v1).bind fun t1 =>
    (sa_ld σ 603 72 v2).bind fun t2 =>
    some (ab_w32 (t1 - t2), σ)
  else
  some (v3, σ)
set_option maxRecDepth 20000 in
theorem s_X9_compares_J33 : ∀ (v1 : Int) (v2 : Int) (v3 : Int) (σ : st_S) (q : Int × st_S), g_X9_compares_J33 v1 v2 v3 σ = some q → f_X9_compares_J33 ((596 : Nat) : Int) v1 v2 v3 (mk_ σ) = some ((q.1, mk_ q.2)) := by
  intro v1 v2 v3 σ q hk
  unfold g_X9_compares_J33 at hk
  unfold f_X9_compares_J33
  by_cases hc : v3 = (0 : Int)
  · have hk := ab_ifp hk hc
    refine mb_ifp hc ?_
    refine mb_getR 603 rfl rfl (by decide) ?_
    obtain ⟨t1, ht1, hk⟩ := ab_bnd hk
    refine mb_ald ⟨rfl, rfl, fun _ => rfl⟩ ht1 ?_
    refine mb_getR 603 rfl rfl (by decide) ?_
    obtain ⟨t2, ht2, hk⟩ := ab_bnd hk
    refine mb_ald ⟨rfl, rfl, fun _ => rfl⟩ ht2 ?_
    obtain rfl := Option.some.inj hk
    rfl
  · have hk := ab_ifn hk hc
    refine mb_ifn hc ?_
    obtain rfl := Option.some.inj hk
    rfl
noncomputable def g_X9_compares (a1 : Int) (a2 : Int) (σ : st_S) : Option (Int × st_S) :=
  (g_X9_comparesWords a1 a2 σ).bind fun q1 =>
  if q1.1 = (0 : Int) then
    (sa_ld q1.2 602 72 a1).bind fun t2 =>
    (g_X9_addressOf t2 q1.2).bind fun q3 =>
    (sa_ld q3.2 602 72 a2).bind fun t4 =>
    (g_X9_addressOf t4 q3.2).bind fun q5 =>
    g_X9_compares_J33 a1 a2 (ab_w32 (q3.1 - q5.1)) q5.2
  else
  g_X9_compares_J33 a1 a2 q1.1 q1.2
set_option maxRecDepth 20000 in
theorem s_X9_compares {a1 : Int} {a2 : Int} {σ : st_S} {q : Int × st_S} (hk : g_X9_compares a1 a2 σ = some q) : f_X9_compares ((596 : Nat) : Int) a1 a2 (mk_ σ) = some ((q.1, mk_ q.2)) := by
  unfold g_X9_compares at hk
  unfold f_X9_compares
  obtain ⟨q1, hq1, hk⟩ := ab_bnd hk
  refine mb_on rfl (s_X9_comparesWords hq1) ?_
  by_cases hc : q1.1 = (0 : Int)
  · have hk := ab_ifp hk hc
    refine mb_ifp hc ?_
    refine mb_getR 602 rfl rfl (by decide) ?_
    obtain ⟨t2, ht2, hk⟩ := ab_bnd hk
    refine mb_ald ⟨rfl, rfl, fun _ => rfl⟩ ht2 ?_
    obtain ⟨q3, hq3, hk⟩ := ab_bnd hk
    refine mb_on rfl (s_X9_addressOf hq3) ?_
    refine mb_getR 602 rfl rfl (by decide) ?_
    obtain ⟨t4, ht4, hk⟩ := ab_bnd hk
    refine mb_ald ⟨rfl, rfl, fun _ => rfl⟩ ht4 ?_
    obtain ⟨q5, hq5, hk⟩ := ab_bnd hk
    refine mb_on rfl (s_X9_addressOf hq5) ?_
    exact s_X9_compares_J33 _ _ _  _ _ hk
  · have hk := ab_ifn hk hc
    refine mb_ifn hc ?_
    exact s_X9_compares_J33 _ _ _  _ _ hk
noncomputable def g_X9_laysBy_J284 (rec : Int → st_S → Option st_S) (v3 : Int) (s2 : Int) (s1 : Int) (σ : st_S) : Option st_S :=
  (some (up2 σ 596 18 (ab_w32 (s1 + s2)))).bind fun σ1 =>
  (sa_st σ1 605 72 v3 (ab_w32 ((σ1 596 17) - (1 : Int)))).bind fun σ2 =>
  (sa_st σ2 606 72 v3 (ab_w32 ((σ2 596 18) - (1 : Int)))).bind fun σ3 =>
  rec (ab_w32 (v3 + (1 : Int))) σ3
set_option maxRecDepth 20000 in
theorem s_X9_laysBy_J284 {rec : Int → st_S → Option st_S} {recf : Int → Int → ab_H → Option ab_H} (hrec : ∀ (v3 : Int) (σ : st_S) (q : st_S), rec v3 σ = some q → recf ((596 : Nat) : Int) v3 (mk_ σ) = some (mk_ q)) : ∀ (v3 : Int) (s2 : Int) (s1 : Int) (σ : st_S) (q : st_S), g_X9_laysBy_J284 rec v3 s2 s1 σ = some q → f_X9_laysBy_J284 recf ((596 : Nat) : Int) v3 s2 s1 ((596 : Nat) : Int) (mk_ σ) = some (mk_ q) := by
  intro v3 s2 s1 σ q hk
  unfold g_X9_laysBy_J284 at hk
  unfold f_X9_laysBy_J284
  obtain ⟨σ1, hσ1, hk⟩ := ab_bnd hk
  refine mb_put rfl rfl hσ1 ?_
  refine mb_getR 605 rfl rfl (by decide) ?_
  refine mb_get rfl rfl ?_
  obtain ⟨σ2, hσ2, hk⟩ := ab_bnd hk
  refine mb_ast ⟨rfl, rfl, fun _ => rfl⟩ hσ2 ?_
  refine mb_getR 606 rfl rfl (by decide) ?_
  refine mb_get rfl rfl ?_
  obtain ⟨σ3, hσ3, hk⟩ := ab_bnd hk
  refine mb_ast ⟨rfl, rfl, fun _ => rfl⟩ hσ3 ?_
  exact hrec _  _ _ hk
noncomputable def g_X9_laysBy_J265 (rec : Int → st_S → Option st_S) (v3 : Int) (v5 : Int) (s2 : Int) (s1 : Int) (σ : st_S) : Option st_S :=
  (some (up2 σ 596 17 (ab_w32 (s1 + s2)))).bind fun σ1 =>
  if v5 = (0 : Int) then
    g_X9_laysBy_J284 rec v3 (0 : Int) (σ1 596 18) σ1
  else
  g_X9_laysBy_J284 rec v3 (1 : Int) (σ1 596 18) σ1
set_option maxRecDepth 20000 in
theorem s_X9_laysBy_J265 {rec : Int → st_S → Option st_S} {recf : Int → Int → ab_H → Option ab_H} (hrec : ∀ (v3 : Int) (σ : st_S) (q : st_S), rec v3 σ = some q → recf ((596 : Nat) : Int) v3 (mk_ σ) = some (mk_ q)) : ∀ (v3 : Int) (v5 : Int) (s2 : Int) (s1 : Int) (σ : st_S) (q : st_S), g_X9_laysBy_J265 rec v3 v5 s2 s1 σ = some q → f_X9_laysBy_J265 recf ((596 : Nat) : Int) v3 v5 s2 s1 ((596 : Nat) : Int) (mk_ σ) = some (mk_ q) := by
  intro v3 v5 s2 s1 σ q hk
  unfold g_X9_laysBy_J265 at hk
  unfold f_X9_laysBy_J265
  obtain ⟨σ1, hσ1, hk⟩ := ab_bnd hk
  refine mb_put rfl rfl hσ1 ?_
  refine mb_get rfl rfl ?_
  by_cases hc : v5 = (0 : Int)
  · have hk := ab_ifp hk hc
    refine mb_ifp hc ?_
    exact s_X9_laysBy_J284 hrec _ _ _  _ _ hk
  · have hk := ab_ifn hk hc
    refine mb_ifn hc ?_
    exact s_X9_laysBy_J284 hrec _ _ _  _ _ hk
noncomputable def g_X9_laysBy_J248 (rec : Int → st_S → Option st_S) (v3 : Int) (v4 : Int) (s0 : Int) (σ : st_S) : Option st_S :=
  if v4 = (0 : Int) then
    g_X9_laysBy_J265 rec v3 s0 (0 : Int) (σ 596 17) σ
  else
  g_X9_laysBy_J265 rec v3 s0 (1 : Int) (σ 596 17) σ
set_option maxRecDepth 20000 in
theorem s_X9_laysBy_J248 {rec : Int → st_S → Option st_S} {recf : Int → Int → ab_H → Option ab_H} (hrec : ∀ (v3 : Int) (σ : st_S) (q : st_S), rec v3 σ = some q → recf ((596 : Nat) : Int) v3 (mk_ σ) = some (mk_ q)) : ∀ (v3 : Int) (v4 : Int) (s0 : Int) (σ : st_S) (q : st_S), g_X9_laysBy_J248 rec v3 v4 s0 σ = some q → f_X9_laysBy_J248 recf ((596 : Nat) : Int) v3 v4 s0 (mk_ σ) = some (mk_ q) := by
  intro v3 v4 s0 σ q hk
  unfold g_X9_laysBy_J248 at hk
  unfold f_X9_laysBy_J248
  refine mb_get rfl rfl ?_
  by_cases hc : v4 = (0 : Int)
  · have hk := ab_ifp hk hc
    refine mb_ifp hc ?_
    exact s_X9_laysBy_J265 hrec _ _ _ _  _ _ hk
  · have hk := ab_ifn hk hc
    refine mb_ifn hc ?_
    exact s_X9_laysBy_J265 hrec _ _ _ _  _ _ hk
noncomputable def g_X9_laysBy_J243 (rec : Int → st_S → Option st_S) (v3 : Int) (v4 : Int) (σ : st_S) : Option st_S :=
  g_X9_laysBy_J248 rec v3 v4 (1 : Int) σ
set_option maxRecDepth 20000 in
theorem s_X9_laysBy_J243 {rec : Int → st_S → Option st_S} {recf : Int → Int → ab_H → Option ab_H} (hrec : ∀ (v3 : Int) (σ : st_S) (q : st_S), rec v3 σ = some q → recf ((596 : Nat) : Int) v3 (mk_ σ) = some (mk_ q)) : ∀ (v3 : Int) (v4 : Int) (σ : st_S) (q : st_S), g_X9_laysBy_J243 rec v3 v4 σ = some q → f_X9_laysBy_J243 recf ((596 : Nat) : Int) v3 v4 (mk_ σ) = some (mk_ q) := by
  intro v3 v4 σ q hk
  unfold g_X9_laysBy_J243 at hk
  unfold f_X9_laysBy_J243
  exact s_X9_laysBy_J248 hrec _ _ _  _ _ hk
noncomputable def g_X9_laysBy_J212 (rec : Int → st_S → Option st_S) (v3 : Int) (s0 : Int) (σ : st_S) : Option st_S :=
  if v3 = (0 : Int) then
    g_X9_laysBy_J243 rec v3 s0 σ
  else
  (sa_ld σ 608 72 (ab_w32 (v3 - (1 : Int)))).bind fun t1 =>
  (g_X9_leadWord t1 σ).bind fun q2 =>
  (sa_ld q2.2 608 72 v3).bind fun t3 =>
  (g_X9_leadWord t3 q2.2).bind fun q4 =>
  if q2.1 = q4.1 then
    g_X9_laysBy_J248 rec v3 s0 (0 : Int) q4.2
  else
  g_X9_laysBy_J243 rec v3 s0 q4.2
set_option maxRecDepth 20000 in
theorem s_X9_laysBy_J212 {rec : Int → st_S → Option st_S} {recf : Int → Int → ab_H → Option ab_H} (hrec : ∀ (v3 : Int) (σ : st_S) (q : st_S), rec v3 σ = some q → recf ((596 : Nat) : Int) v3 (mk_ σ) = some (mk_ q)) : ∀ (v3 : Int) (s0 : Int) (σ : st_S) (q : st_S), g_X9_laysBy_J212 rec v3 s0 σ = some q → f_X9_laysBy_J212 recf ((596 : Nat) : Int) v3 s0 (mk_ σ) = some (mk_ q) := by
  intro v3 s0 σ q hk
  unfold g_X9_laysBy_J212 at hk
  unfold f_X9_laysBy_J212
  by_cases hc : v3 = (0 : Int)
  · have hk := ab_ifp hk hc
    refine mb_ifp hc ?_
    exact s_X9_laysBy_J243 hrec _ _  _ _ hk
  · have hk := ab_ifn hk hc
    refine mb_ifn hc ?_
    refine mb_getR 608 rfl rfl (by decide) ?_
    obtain ⟨t1, ht1, hk⟩ := ab_bnd hk
    refine mb_ald ⟨rfl, rfl, fun _ => rfl⟩ ht1 ?_
    obtain ⟨q2, hq2, hk⟩ := ab_bnd hk
    refine mb_on rfl (s_X9_leadWord hq2) ?_
    refine mb_getR 608 rfl rfl (by decide) ?_
    obtain ⟨t3, ht3, hk⟩ := ab_bnd hk
    refine mb_ald ⟨rfl, rfl, fun _ => rfl⟩ ht3 ?_
    obtain ⟨q4, hq4, hk⟩ := ab_bnd hk
    refine mb_on rfl (s_X9_leadWord hq4) ?_
    by_cases hc : q2.1 = q4.1
    · have hk := ab_ifp hk hc
      refine mb_ifp hc ?_
      exact s_X9_laysBy_J248 hrec _ _ _  _ _ hk
    · have hk := ab_ifn hk hc
      refine mb_ifn hc ?_
      exact s_X9_laysBy_J243 hrec _ _  _ _ hk
noncomputable def g_X9_laysBy_J207 (rec : Int → st_S → Option st_S) (v3 : Int) (σ : st_S) : Option st_S :=
  g_X9_laysBy_J212 rec v3 (1 : Int) σ
set_option maxRecDepth 20000 in
theorem s_X9_laysBy_J207 {rec : Int → st_S → Option st_S} {recf : Int → Int → ab_H → Option ab_H} (hrec : ∀ (v3 : Int) (σ : st_S) (q : st_S), rec v3 σ = some q → recf ((596 : Nat) : Int) v3 (mk_ σ) = some (mk_ q)) : ∀ (v3 : Int) (σ : st_S) (q : st_S), g_X9_laysBy_J207 rec v3 σ = some q → f_X9_laysBy_J207 recf ((596 : Nat) : Int) v3 (mk_ σ) = some (mk_ q) := by
  intro v3 σ q hk
  unfold g_X9_laysBy_J207 at hk
  unfold f_X9_laysBy_J207
  exact s_X9_laysBy_J212 hrec _ _  _ _ hk
noncomputable def g_X9_laysBy_L174 : Nat → Int → st_S → Option st_S
  | 0, _, _ => none
  | n + 1, v3, σ =>
    if σ 596 16 ≤ v3 then
      some σ
    else
    if v3 = (0 : Int) then
      g_X9_laysBy_J207 (g_X9_laysBy_L174 n) v3 σ
    else
    (sa_ld σ 608 72 (ab_w32 (v3 - (1 : Int)))).bind fun t1 =>
    (sa_ld σ 608 72 v3).bind fun t2 =>
    (g_X9_comparesWords t1 t2 σ).bind fun q3 =>
    if q3.1 = (0 : Int) then
      g_X9_laysBy_J212 (g_X9_laysBy_L174 n) v3 (0 : Int) q3.2
    else
    g_X9_laysBy_J207 (g_X9_laysBy_L174 n) v3 q3.2
set_option maxRecDepth 20000 in
theorem s_X9_laysBy_L174 : ∀ (n : Nat) (v3 : Int) (σ : st_S) (q : st_S), g_X9_laysBy_L174 n v3 σ = some q → f_X9_laysBy_L174 n ((596 : Nat) : Int) v3 (mk_ σ) = some (mk_ q) := by
  intro n
  induction n with
  | zero => intro v3 σ q hk; cases hk
  | succ n ih =>
    intro v3 σ q hk
    unfold g_X9_laysBy_L174 at hk
    unfold f_X9_laysBy_L174
    refine mb_get rfl rfl ?_
    by_cases hc : σ 596 16 ≤ v3
    · have hk := ab_ifp hk hc
      refine mb_ifp hc ?_
      obtain rfl := Option.some.inj hk
      rfl
    · have hk := ab_ifn hk hc
      refine mb_ifn hc ?_
      by_cases hc : v3 = (0 : Int)
      · have hk := ab_ifp hk hc
        refine mb_ifp hc ?_
        exact s_X9_laysBy_J207 ih _  _ _ hk
      · have hk := ab_ifn hk hc
        refine mb_ifn hc ?_
        refine mb_getR 608 rfl rfl (by decide) ?_
        obtain ⟨t1, ht1, hk⟩ := ab_bnd hk
        refine mb_ald ⟨rfl, rfl, fun _ => rfl⟩ ht1 ?_
        refine mb_getR 608 rfl rfl (by decide) ?_
        obtain ⟨t2, ht2, hk⟩ := ab_bnd hk
        refine mb_ald ⟨rfl, rfl, fun _ => rfl⟩ ht2 ?_
        obtain ⟨q3, hq3, hk⟩ := ab_bnd hk
        refine mb_on rfl (s_X9_comparesWords hq3) ?_
        by_cases hc : q3.1 = (0 : Int)
        · have hk := ab_ifp hk hc
          refine mb_ifp hc ?_
          exact s_X9_laysBy_J212 ih _ _  _ _ hk
        · have hk := ab_ifn hk hc
          refine mb_ifn hc ?_
          exact s_X9_laysBy_J207 ih _  _ _ hk
noncomputable def g_X9_laysBy_J148 (rec : Int → st_S → Option st_S) (k162 : st_S → Option st_S) (v3 : Int) (v4 : Int) (σ : st_S) : Option st_S :=
  (sa_st σ 608 72 v4 v3).bind fun σ1 =>
  rec (ab_w32 (v3 + (1 : Int))) σ1
set_option maxRecDepth 20000 in
theorem s_X9_laysBy_J148 {rec : Int → st_S → Option st_S} {recf : Int → Int → ab_H → Option ab_H} {k162 : st_S → Option st_S} {kf162 : Int → ab_H → Option ab_H} (hrec : ∀ (v3 : Int) (σ : st_S) (q : st_S), rec v3 σ = some q → recf ((596 : Nat) : Int) v3 (mk_ σ) = some (mk_ q)) (hk162 : ∀ (σ : st_S) (q : st_S), k162 σ = some q → kf162 ((596 : Nat) : Int) (mk_ σ) = some (mk_ q)) : ∀ (v3 : Int) (v4 : Int) (σ : st_S) (q : st_S), g_X9_laysBy_J148 rec k162 v3 v4 σ = some q → f_X9_laysBy_J148 recf kf162 ((596 : Nat) : Int) v3 v4 (mk_ σ) = some (mk_ q) := by
  intro v3 v4 σ q hk
  unfold g_X9_laysBy_J148 at hk
  unfold f_X9_laysBy_J148
  refine mb_getR 608 rfl rfl (by decide) ?_
  obtain ⟨σ1, hσ1, hk⟩ := ab_bnd hk
  refine mb_ast ⟨rfl, rfl, fun _ => rfl⟩ hσ1 ?_
  exact hrec _  _ _ hk
noncomputable def g_X9_laysBy_L104 (k148 : Int → Int → st_S → Option st_S) : Nat → Int → Int → st_S → Option st_S
  | 0, _, _, _ => none
  | n + 1, v3, v4, σ =>
    if v4 ≤ (0 : Int) then
      k148 v3 v4 σ
    else
    (sa_ld σ 608 72 (ab_w32 (v4 - (1 : Int)))).bind fun t1 =>
    (g_X9_compares t1 v3 σ).bind fun q2 =>
    if q2.1 ≤ (0 : Int) then
      k148 v3 v4 q2.2
    else
    (sa_ld q2.2 608 72 (ab_w32 (v4 - (1 : Int)))).bind fun t3 =>
    (sa_st q2.2 608 72 v4 t3).bind fun σ1 =>
    g_X9_laysBy_L104 k148 n v3 (ab_w32 (v4 + (-1 : Int))) σ1
set_option maxRecDepth 20000 in
theorem s_X9_laysBy_L104 {k148 : Int → Int → st_S → Option st_S} {kf148 : Int → Int → Int → ab_H → Option ab_H} (hk148 : ∀ (v3 : Int) (v4 : Int) (σ : st_S) (q : st_S), k148 v3 v4 σ = some q → kf148 ((596 : Nat) : Int) v3 v4 (mk_ σ) = some (mk_ q)) : ∀ (n : Nat) (v3 : Int) (v4 : Int) (σ : st_S) (q : st_S), g_X9_laysBy_L104 k148 n v3 v4 σ = some q → f_X9_laysBy_L104 kf148 n ((596 : Nat) : Int) v3 v4 (mk_ σ) = some (mk_ q) := by
  intro n
  induction n with
  | zero => intro v3 v4 σ q hk; cases hk
  | succ n ih =>
    intro v3 v4 σ q hk
    unfold g_X9_laysBy_L104 at hk
    unfold f_X9_laysBy_L104
    by_cases hc : v4 ≤ (0 : Int)
    · have hk := ab_ifp hk hc
      refine mb_ifp hc ?_
      exact hk148 _ _  _ _ hk
    · have hk := ab_ifn hk hc
      refine mb_ifn hc ?_
      refine mb_getR 608 rfl rfl (by decide) ?_
      obtain ⟨t1, ht1, hk⟩ := ab_bnd hk
      refine mb_ald ⟨rfl, rfl, fun _ => rfl⟩ ht1 ?_
      obtain ⟨q2, hq2, hk⟩ := ab_bnd hk
      refine mb_on rfl (s_X9_compares hq2) ?_
      by_cases hc : q2.1 ≤ (0 : Int)
      · have hk := ab_ifp hk hc
        refine mb_ifp hc ?_
        exact hk148 _ _  _ _ hk
      · have hk := ab_ifn hk hc
        refine mb_ifn hc ?_
        refine mb_getR 608 rfl rfl (by decide) ?_
        refine mb_getR 608 rfl rfl (by decide) ?_
        obtain ⟨t3, ht3, hk⟩ := ab_bnd hk
        refine mb_ald ⟨rfl, rfl, fun _ => rfl⟩ ht3 ?_
        obtain ⟨σ1, hσ1, hk⟩ := ab_bnd hk
        refine mb_ast ⟨rfl, rfl, fun _ => rfl⟩ hσ1 ?_
        exact ih _ _  _ _ hk
noncomputable def g_X9_laysBy_L93 (k162 : st_S → Option st_S) : Nat → Int → st_S → Option st_S
  | 0, _, _ => none
  | n + 1, v3, σ =>
    if σ 596 16 ≤ v3 then
      k162 σ
    else
    g_X9_laysBy_L104 (fun w148_3 w148_4 σx148 =>
      g_X9_laysBy_J148 (g_X9_laysBy_L93 k162 n) k162 w148_3 w148_4 σx148) ab_FU v3 v3 σ
set_option maxRecDepth 20000 in
theorem s_X9_laysBy_L93 {k162 : st_S → Option st_S} {kf162 : Int → ab_H → Option ab_H} (hk162 : ∀ (σ : st_S) (q : st_S), k162 σ = some q → kf162 ((596 : Nat) : Int) (mk_ σ) = some (mk_ q)) : ∀ (n : Nat) (v3 : Int) (σ : st_S) (q : st_S), g_X9_laysBy_L93 k162 n v3 σ = some q → f_X9_laysBy_L93 kf162 n ((596 : Nat) : Int) v3 (mk_ σ) = some (mk_ q) := by
  intro n
  induction n with
  | zero => intro v3 σ q hk; cases hk
  | succ n ih =>
    intro v3 σ q hk
    unfold g_X9_laysBy_L93 at hk
    unfold f_X9_laysBy_L93
    refine mb_get rfl rfl ?_
    by_cases hc : σ 596 16 ≤ v3
    · have hk := ab_ifp hk hc
      refine mb_ifp hc ?_
      exact hk162  _ _ hk
    · have hk := ab_ifn hk hc
      refine mb_ifn hc ?_
      refine s_X9_laysBy_L104 (fun w148_3 w148_4 σx148 q hk => ?_) _ _ _  _ _ hk
      · skip
        exact s_X9_laysBy_J148 ih hk162 _ _  _ _ hk
noncomputable def g_X9_laysBy_J79 (rec : Int → Int → Int → Int → st_S → Option st_S) (k85 : Int → Int → Int → st_S → Option st_S) (v1 : Int) (v2 : Int) (v3 : Int) (v4 : Int) (σ : st_S) : Option st_S :=
  rec v1 v2 v3 (ab_w32 (v4 + (1 : Int))) σ
set_option maxRecDepth 20000 in
theorem s_X9_laysBy_J79 {rec : Int → Int → Int → Int → st_S → Option st_S} {recf : Int → Int → Int → Int → Int → ab_H → Option ab_H} {k85 : Int → Int → Int → st_S → Option st_S} {kf85 : Int → Int → Int → Int → ab_H → Option ab_H} (hrec : ∀ (v1 : Int) (v2 : Int) (v3 : Int) (v4 : Int) (σ : st_S) (q : st_S), rec v1 v2 v3 v4 σ = some q → recf ((596 : Nat) : Int) v1 v2 v3 v4 (mk_ σ) = some (mk_ q)) (hk85 : ∀ (v1 : Int) (v2 : Int) (v3 : Int) (σ : st_S) (q : st_S), k85 v1 v2 v3 σ = some q → kf85 ((596 : Nat) : Int) v1 v2 v3 (mk_ σ) = some (mk_ q)) : ∀ (v1 : Int) (v2 : Int) (v3 : Int) (v4 : Int) (σ : st_S) (q : st_S), g_X9_laysBy_J79 rec k85 v1 v2 v3 v4 σ = some q → f_X9_laysBy_J79 recf kf85 ((596 : Nat) : Int) v1 v2 v3 v4 (mk_ σ) = some (mk_ q) := by
  intro v1 v2 v3 v4 σ q hk
  unfold g_X9_laysBy_J79 at hk
  unfold f_X9_laysBy_J79
  exact hrec _ _ _ _  _ _ hk
noncomputable def g_X9_laysBy_J76 (rec : Int → Int → Int → Int → st_S → Option st_S) (k85 : Int → Int → Int → st_S → Option st_S) (v1 : Int) (v2 : Int) (v3 : Int) (v4 : Int) (s3 : Int) (s2 : Int) (s1 : Int) (σ : st_S) : Option st_S :=
  (g_X9_laysEntry s1 s2 s3 σ).bind fun q1 =>
  g_X9_laysBy_J79 rec k85 v1 v2 v3 v4 q1
set_option maxRecDepth 20000 in
theorem s_X9_laysBy_J76 {rec : Int → Int → Int → Int → st_S → Option st_S} {recf : Int → Int → Int → Int → Int → ab_H → Option ab_H} {k85 : Int → Int → Int → st_S → Option st_S} {kf85 : Int → Int → Int → Int → ab_H → Option ab_H} (hrec : ∀ (v1 : Int) (v2 : Int) (v3 : Int) (v4 : Int) (σ : st_S) (q : st_S), rec v1 v2 v3 v4 σ = some q → recf ((596 : Nat) : Int) v1 v2 v3 v4 (mk_ σ) = some (mk_ q)) (hk85 : ∀ (v1 : Int) (v2 : Int) (v3 : Int) (σ : st_S) (q : st_S), k85 v1 v2 v3 σ = some q → kf85 ((596 : Nat) : Int) v1 v2 v3 (mk_ σ) = some (mk_ q)) : ∀ (v1 : Int) (v2 : Int) (v3 : Int) (v4 : Int) (s3 : Int) (s2 : Int) (s1 : Int) (σ : st_S) (q : st_S), g_X9_laysBy_J76 rec k85 v1 v2 v3 v4 s3 s2 s1 σ = some q → f_X9_laysBy_J76 recf kf85 ((596 : Nat) : Int) v1 v2 v3 v4 s3 s2 s1 ((596 : Nat) : Int) (mk_ σ) = some (mk_ q) := by
  intro v1 v2 v3 v4 s3 s2 s1 σ q hk
  unfold g_X9_laysBy_J76 at hk
  unfold f_X9_laysBy_J76
  obtain ⟨q1, hq1, hk⟩ := ab_bnd hk
  refine mb_on rfl (s_X9_laysEntry hq1) ?_
  exact s_X9_laysBy_J79 hrec hk85 _ _ _ _  _ _ hk
noncomputable def g_X9_laysBy_L22 (k85 : Int → Int → Int → st_S → Option st_S) : Nat → Int → Int → Int → Int → st_S → Option st_S
  | 0, _, _, _, _, _ => none
  | n + 1, v1, v2, v3, v4, σ =>
    (g_X9_terms v3 σ).bind fun q1 =>
    if q1.1 ≤ v4 then
      k85 v1 v2 v3 q1.2
    else
    (g_X9_doesLead v3 v4 q1.2).bind fun q2 =>
    if q2.1 = (0 : Int) then
      g_X9_laysBy_J79 (g_X9_laysBy_L22 k85 n) k85 v1 v2 v3 v4 q2.2
    else
    (g_X9_roleOf v3 v4 q2.2).bind fun q3 =>
    if q3.1 = v1 then
      g_X9_laysBy_J76 (g_X9_laysBy_L22 k85 n) k85 v1 v2 v3 v4 v2 v4 v3 q3.2
    else
    (g_X9_roleOf v3 v4 q3.2).bind fun q4 =>
    (sa_ld q4.2 597 416 (ab_w32 ((2 : Int) + q4.1))).bind fun t5 =>
    g_X9_laysBy_J76 (g_X9_laysBy_L22 k85 n) k85 v1 v2 v3 v4 (ab_w32 t5) v4 v3 q4.2
set_option maxRecDepth 20000 in
theorem s_X9_laysBy_L22 {k85 : Int → Int → Int → st_S → Option st_S} {kf85 : Int → Int → Int → Int → ab_H → Option ab_H} (hk85 : ∀ (v1 : Int) (v2 : Int) (v3 : Int) (σ : st_S) (q : st_S), k85 v1 v2 v3 σ = some q → kf85 ((596 : Nat) : Int) v1 v2 v3 (mk_ σ) = some (mk_ q)) : ∀ (n : Nat) (v1 : Int) (v2 : Int) (v3 : Int) (v4 : Int) (σ : st_S) (q : st_S), g_X9_laysBy_L22 k85 n v1 v2 v3 v4 σ = some q → f_X9_laysBy_L22 kf85 n ((596 : Nat) : Int) v1 v2 v3 v4 (mk_ σ) = some (mk_ q) := by
  intro n
  induction n with
  | zero => intro v1 v2 v3 v4 σ q hk; cases hk
  | succ n ih =>
    intro v1 v2 v3 v4 σ q hk
    unfold g_X9_laysBy_L22 at hk
    unfold f_X9_laysBy_L22
    obtain ⟨q1, hq1, hk⟩ := ab_bnd hk
    refine mb_on rfl (s_X9_terms hq1) ?_
    by_cases hc : q1.1 ≤ v4
    · have hk := ab_ifp hk hc
      refine mb_ifp hc ?_
      exact hk85 _ _ _  _ _ hk
    · have hk := ab_ifn hk hc
      refine mb_ifn hc ?_
      obtain ⟨q2, hq2, hk⟩ := ab_bnd hk
      refine mb_on rfl (s_X9_doesLead hq2) ?_
      by_cases hc : q2.1 = (0 : Int)
      · have hk := ab_ifp hk hc
        refine mb_ifp hc ?_
        exact s_X9_laysBy_J79 ih hk85 _ _ _ _  _ _ hk
      · have hk := ab_ifn hk hc
        refine mb_ifn hc ?_
        obtain ⟨q3, hq3, hk⟩ := ab_bnd hk
        refine mb_on rfl (s_X9_roleOf hq3) ?_
        by_cases hc : q3.1 = v1
        · have hk := ab_ifp hk hc
          refine mb_ifp hc ?_
          exact s_X9_laysBy_J76 ih hk85 _ _ _ _ _ _ _  _ _ hk
        · have hk := ab_ifn hk hc
          refine mb_ifn hc ?_
          refine mb_getR 597 rfl rfl (by decide) ?_
          obtain ⟨q4, hq4, hk⟩ := ab_bnd hk
          refine mb_on rfl (s_X9_roleOf hq4) ?_
          obtain ⟨t5, ht5, hk⟩ := ab_bnd hk
          refine mb_ald ⟨rfl, rfl, fun _ => rfl⟩ ht5 ?_
          exact s_X9_laysBy_J76 ih hk85 _ _ _ _ _ _ _  _ _ hk
noncomputable def g_X9_laysBy_L11 (k91 : st_S → Option st_S) : Nat → Int → Int → Int → st_S → Option st_S
  | 0, _, _, _, _ => none
  | n + 1, v1, v2, v3, σ =>
    (g_X9_strings σ).bind fun q1 =>
    if q1.1 ≤ v3 then
      k91 q1.2
    else
    g_X9_laysBy_L22 (fun w85_1 w85_2 w85_3 σx85 =>
      g_X9_laysBy_L11 k91 n w85_1 w85_2 (ab_w32 (w85_3 + (1 : Int))) σx85) ab_FU v1 v2 v3 (0 : Int) q1.2
set_option maxRecDepth 20000 in
theorem s_X9_laysBy_L11 {k91 : st_S → Option st_S} {kf91 : Int → ab_H → Option ab_H} (hk91 : ∀ (σ : st_S) (q : st_S), k91 σ = some q → kf91 ((596 : Nat) : Int) (mk_ σ) = some (mk_ q)) : ∀ (n : Nat) (v1 : Int) (v2 : Int) (v3 : Int) (σ : st_S) (q : st_S), g_X9_laysBy_L11 k91 n v1 v2 v3 σ = some q → f_X9_laysBy_L11 kf91 n ((596 : Nat) : Int) v1 v2 v3 (mk_ σ) = some (mk_ q) := by
  intro n
  induction n with
  | zero => intro v1 v2 v3 σ q hk; cases hk
  | succ n ih =>
    intro v1 v2 v3 σ q hk
    unfold g_X9_laysBy_L11 at hk
    unfold f_X9_laysBy_L11
    obtain ⟨q1, hq1, hk⟩ := ab_bnd hk
    refine mb_on rfl (s_X9_strings hq1) ?_
    by_cases hc : q1.1 ≤ v3
    · have hk := ab_ifp hk hc
      refine mb_ifp hc ?_
      exact hk91  _ _ hk
    · have hk := ab_ifn hk hc
      refine mb_ifn hc ?_
      refine s_X9_laysBy_L22 (fun w85_1 w85_2 w85_3 σx85 q hk => ?_) _ _ _ _ _  _ _ hk
      · skip
        exact ih _ _ _  _ _ hk
noncomputable def g_X9_laysBy (a1 : Int) (a2 : Int) (σ : st_S) : Option st_S :=
  (g_X9_laysWords σ).bind fun q1 =>
  (some (up2 q1 596 16 (0 : Int))).bind fun σ1 =>
  g_X9_laysBy_L11 (fun σx91 =>
    g_X9_laysBy_L93 (fun σx162 =>
      (some (up2 σx162 596 17 (0 : Int))).bind fun σ2 =>
      (some (up2 σ2 596 18 (0 : Int))).bind fun σ3 =>
      g_X9_laysBy_L174 ab_FU (0 : Int) σ3) ab_FU (0 : Int) σx91) ab_FU a1 a2 (0 : Int) σ1
set_option maxRecDepth 20000 in
theorem s_X9_laysBy {a1 : Int} {a2 : Int} {σ : st_S} {q : st_S} (hk : g_X9_laysBy a1 a2 σ = some q) : f_X9_laysBy ((596 : Nat) : Int) a1 a2 (mk_ σ) = some (mk_ q) := by
  unfold g_X9_laysBy at hk
  unfold f_X9_laysBy
  obtain ⟨q1, hq1, hk⟩ := ab_bnd hk
  refine mb_on rfl (s_X9_laysWords hq1) ?_
  obtain ⟨σ1, hσ1, hk⟩ := ab_bnd hk
  refine mb_put rfl rfl hσ1 ?_
  refine s_X9_laysBy_L11 (fun σx91 q hk => ?_) _ _ _ _  _ _ hk
  · skip
    refine s_X9_laysBy_L93 (fun σx162 q hk => ?_) _ _  _ _ hk
    · skip
      obtain ⟨σ2, hσ2, hk⟩ := ab_bnd hk
      refine mb_put rfl rfl hσ2 ?_
      obtain ⟨σ3, hσ3, hk⟩ := ab_bnd hk
      refine mb_put rfl rfl hσ3 ?_
      refine s_X9_laysBy_L174 _ _  _ _ hk
noncomputable def g_X9_lays (σ : st_S) : Option st_S :=
  (g_X9_laysBy (-1 : Int) (0 : Int) σ).bind fun q1 =>
  some q1
set_option maxRecDepth 20000 in
theorem s_X9_lays {σ : st_S} {q : st_S} (hk : g_X9_lays σ = some q) : f_X9_lays ((596 : Nat) : Int) (mk_ σ) = some (mk_ q) := by
  unfold g_X9_lays at hk
  unfold f_X9_lays
  obtain ⟨q1, hq1, hk⟩ := ab_bnd hk
  refine mb_on rfl (s_X9_laysBy hq1) ?_
  obtain rfl := Option.some.inj hk
  rfl
noncomputable def g_X9_count_J47 (v1 : Int) (v2 : Int) (σ : st_S) : Option (Int × st_S) :=
  if v1 = (0 : Int) then
    (g_X9_strings σ).bind fun q2 =>
    some (q2.1, q2.2)
  else
  if v1 = (1 : Int) then
    some (v2, σ)
  else
  if v1 = (2 : Int) then
    (g_X9_sees σ).bind fun q1 =>
    some (q1.1, q1.2)
  else
  if v1 = (3 : Int) then
    some (σ 596 14, σ)
  else
  if v1 = (4 : Int) then
    some (σ 596 16, σ)
  else
  if v1 = (5 : Int) then
    some (σ 596 17, σ)
  else
  if v1 = (6 : Int) then
    some (σ 596 18, σ)
  else
  if v1 = (7 : Int) then
    some (σ 596 34, σ)
  else
  if v1 = (8 : Int) then
    some (σ 596 4, σ)
  else
  if v1 = (9 : Int) then
    some (σ 596 28, σ)
  else
  some ((-1 : Int), σ)
set_option maxRecDepth 20000 in
theorem s_X9_count_J47 : ∀ (v1 : Int) (v2 : Int) (σ : st_S) (q : Int × st_S), g_X9_count_J47 v1 v2 σ = some q → f_X9_count_J47 ((596 : Nat) : Int) v1 v2 (mk_ σ) = some ((q.1, mk_ q.2)) := by
  intro v1 v2 σ q hk
  unfold g_X9_count_J47 at hk
  unfold f_X9_count_J47
  by_cases hc : v1 = (0 : Int)
  · have hk := ab_ifp hk hc
    refine mb_ifp hc ?_
    obtain ⟨q2, hq2, hk⟩ := ab_bnd hk
    refine mb_on rfl (s_X9_strings hq2) ?_
    obtain rfl := Option.some.inj hk
    rfl
  · have hk := ab_ifn hk hc
    refine mb_ifn hc ?_
    by_cases hc : v1 = (1 : Int)
    · have hk := ab_ifp hk hc
      refine mb_ifp hc ?_
      obtain rfl := Option.some.inj hk
      rfl
    · have hk := ab_ifn hk hc
      refine mb_ifn hc ?_
      by_cases hc : v1 = (2 : Int)
      · have hk := ab_ifp hk hc
        refine mb_ifp hc ?_
        obtain ⟨q1, hq1, hk⟩ := ab_bnd hk
        refine mb_on rfl (s_X9_sees hq1) ?_
        obtain rfl := Option.some.inj hk
        rfl
      · have hk := ab_ifn hk hc
        refine mb_ifn hc ?_
        by_cases hc : v1 = (3 : Int)
        · have hk := ab_ifp hk hc
          refine mb_ifp hc ?_
          refine mb_get rfl rfl ?_
          obtain rfl := Option.some.inj hk
          rfl
        · have hk := ab_ifn hk hc
          refine mb_ifn hc ?_
          by_cases hc : v1 = (4 : Int)
          · have hk := ab_ifp hk hc
            refine mb_ifp hc ?_
            refine mb_get rfl rfl ?_
            obtain rfl := Option.some.inj hk
            rfl
          · have hk := ab_ifn hk hc
            refine mb_ifn hc ?_
            by_cases hc : v1 = (5 : Int)
            · have hk := ab_ifp hk hc
              refine mb_ifp hc ?_
              refine mb_get rfl rfl ?_
              obtain rfl := Option.some.inj hk
              rfl
            · have hk := ab_ifn hk hc
              refine mb_ifn hc ?_
              by_cases hc : v1 = (6 : Int)
              · have hk := ab_ifp hk hc
                refine mb_ifp hc ?_
                refine mb_get rfl rfl ?_
                obtain rfl := Option.some.inj hk
                rfl
              · have hk := ab_ifn hk hc
                refine mb_ifn hc ?_
                by_cases hc : v1 = (7 : Int)
                · have hk := ab_ifp hk hc
                  refine mb_ifp hc ?_
                  refine mb_get rfl rfl ?_
                  obtain rfl := Option.some.inj hk
                  rfl
                · have hk := ab_ifn hk hc
                  refine mb_ifn hc ?_
                  by_cases hc : v1 = (8 : Int)
                  · have hk := ab_ifp hk hc
                    refine mb_ifp hc ?_
                    refine mb_get rfl rfl ?_
                    obtain rfl := Option.some.inj hk
                    rfl
                  · have hk := ab_ifn hk hc
                    refine mb_ifn hc ?_
                    by_cases hc : v1 = (9 : Int)
                    · have hk := ab_ifp hk hc
                      refine mb_ifp hc ?_
                      refine mb_get rfl rfl ?_
                      obtain rfl := Option.some.inj hk
                      rfl
                    · have hk := ab_ifn hk hc
                      refine mb_ifn hc ?_
                      obtain rfl := Option.some.inj hk
                      rfl
noncomputable def g_X9_count_L20 (k47 : Int → Int → st_S → Option (Int × st_S)) : Nat → Int → Int → Int → st_S → Option (Int × st_S)
  | 0, _, _, _, _ => none
  | n + 1, v1, v2, v3, σ =>
    (g_X9_strings σ).bind fun q1 =>
    if q1.1 ≤ v3 then
      k47 v1 v2 q1.2
    else
    if v1 = (1 : Int) then
      (g_X9_terms v3 q1.2).bind fun q2 =>
      g_X9_count_L20 k47 n v1 (ab_w32 (v2 + q2.1)) (ab_w32 (v3 + (1 : Int))) q2.2
    else
    k47 v1 v2 q1.2
set_option maxRecDepth 20000 in
theorem s_X9_count_L20 {k47 : Int → Int → st_S → Option (Int × st_S)} {kf47 : Int → Int → Int → ab_H → Option (Int × ab_H)} (hk47 : ∀ (v1 : Int) (v2 : Int) (σ : st_S) (q : Int × st_S), k47 v1 v2 σ = some q → kf47 ((596 : Nat) : Int) v1 v2 (mk_ σ) = some ((q.1, mk_ q.2))) : ∀ (n : Nat) (v1 : Int) (v2 : Int) (v3 : Int) (σ : st_S) (q : Int × st_S), g_X9_count_L20 k47 n v1 v2 v3 σ = some q → f_X9_count_L20 kf47 n ((596 : Nat) : Int) v1 v2 v3 (mk_ σ) = some ((q.1, mk_ q.2)) := by
  intro n
  induction n with
  | zero => intro v1 v2 v3 σ q hk; cases hk
  | succ n ih =>
    intro v1 v2 v3 σ q hk
    unfold g_X9_count_L20 at hk
    unfold f_X9_count_L20
    obtain ⟨q1, hq1, hk⟩ := ab_bnd hk
    refine mb_on rfl (s_X9_strings hq1) ?_
    by_cases hc : q1.1 ≤ v3
    · have hk := ab_ifp hk hc
      refine mb_ifp hc ?_
      exact hk47 _ _  _ _ hk
    · have hk := ab_ifn hk hc
      refine mb_ifn hc ?_
      by_cases hc : v1 = (1 : Int)
      · have hk := ab_ifp hk hc
        refine mb_ifp hc ?_
        obtain ⟨q2, hq2, hk⟩ := ab_bnd hk
        refine mb_on rfl (s_X9_terms hq2) ?_
        exact ih _ _ _  _ _ hk
      · have hk := ab_ifn hk hc
        refine mb_ifn hc ?_
        exact hk47 _ _  _ _ hk
noncomputable def g_X9_count_J16 (v1 : Int) (σ : st_S) : Option (Int × st_S) :=
  g_X9_count_L20 (fun w47_1 w47_2 σx47 =>
    g_X9_count_J47 w47_1 w47_2 σx47) ab_FU v1 (0 : Int) (0 : Int) σ
set_option maxRecDepth 20000 in
theorem s_X9_count_J16 : ∀ (v1 : Int) (σ : st_S) (q : Int × st_S), g_X9_count_J16 v1 σ = some q → f_X9_count_J16 ((596 : Nat) : Int) v1 (mk_ σ) = some ((q.1, mk_ q.2)) := by
  intro v1 σ q hk
  unfold g_X9_count_J16 at hk
  unfold f_X9_count_J16
  refine s_X9_count_L20 (fun w47_1 w47_2 σx47 q hk => ?_) _ _ _ _  _ _ hk
  · skip
    exact s_X9_count_J47 _ _  _ _ hk
noncomputable def g_X9_count (a1 : Int) (σ : st_S) : Option (Int × st_S) :=
  (g_X9_in a1 (1 : Int) (6 : Int) σ).bind fun q1 =>
  if q1.1 = (0 : Int) then
    g_X9_count_J16 a1 q1.2
  else
  (g_X9_lays q1.2).bind fun q2 =>
  g_X9_count_J16 a1 q2
set_option maxRecDepth 20000 in
theorem s_X9_count {a1 : Int} {σ : st_S} {q : Int × st_S} (hk : g_X9_count a1 σ = some q) : f_X9_count ((596 : Nat) : Int) a1 (mk_ σ) = some ((q.1, mk_ q.2)) := by
  unfold g_X9_count at hk
  unfold f_X9_count
  obtain ⟨q1, hq1, hk⟩ := ab_bnd hk
  refine mb_eq (s_X9_in hq1) ?_
  by_cases hc : q1.1 = (0 : Int)
  · have hk := ab_ifp hk hc
    refine mb_ifp hc ?_
    exact s_X9_count_J16 _  _ _ hk
  · have hk := ab_ifn hk hc
    refine mb_ifn hc ?_
    obtain ⟨q2, hq2, hk⟩ := ab_bnd hk
    refine mb_on rfl (s_X9_lays hq2) ?_
    exact s_X9_count_J16 _  _ _ hk
noncomputable def g_X9_isString (a1 : Int) (σ : st_S) : Option (Int × st_S) :=
  (g_X9_strings σ).bind fun q1 =>
  (g_X9_in a1 (0 : Int) (ab_w32 (q1.1 - (1 : Int))) q1.2).bind fun q2 =>
  ab_if (decide (q2.1 = 0 ∨ q2.1 = 1)) <|
  some (q2.1, q2.2)
set_option maxRecDepth 20000 in
theorem s_X9_isString {a1 : Int} {σ : st_S} {q : Int × st_S} (hk : g_X9_isString a1 σ = some q) : f_X9_isString ((596 : Nat) : Int) a1 (mk_ σ) = some ((q.1, mk_ q.2)) := by
  unfold g_X9_isString at hk
  unfold f_X9_isString
  obtain ⟨q1, hq1, hk⟩ := ab_bnd hk
  refine mb_on rfl (s_X9_strings hq1) ?_
  obtain ⟨q2, hq2, hk⟩ := ab_bnd hk
  refine mb_eq (s_X9_in hq2) ?_
  obtain ⟨hg, hk⟩ := ab_if_some hk
  refine mb_if hg ?_
  obtain rfl := Option.some.inj hk
  rfl
noncomputable def g_X9_isTerm_J29 (σ : st_S) : Option (Int × st_S) :=
  some ((0 : Int), σ)
set_option maxRecDepth 20000 in
theorem s_X9_isTerm_J29 : ∀ (σ : st_S) (q : Int × st_S), g_X9_isTerm_J29 σ = some q → f_X9_isTerm_J29 (mk_ σ) = some ((q.1, mk_ q.2)) := by
  intro σ q hk
  unfold g_X9_isTerm_J29 at hk
  unfold f_X9_isTerm_J29
  obtain rfl := Option.some.inj hk
  rfl
noncomputable def g_X9_isTerm (a1 : Int) (a2 : Int) (σ : st_S) : Option (Int × st_S) :=
  (g_X9_isString a1 σ).bind fun q1 =>
  if q1.1 = (0 : Int) then
    g_X9_isTerm_J29 q1.2
  else
  (g_X9_terms a1 q1.2).bind fun q2 =>
  (g_X9_in a2 (0 : Int) (ab_w32 (q2.1 - (1 : Int))) q2.2).bind fun q3 =>
  if q3.1 = (0 : Int) then
    g_X9_isTerm_J29 q3.2
  else
  some ((1 : Int), q3.2)
set_option maxRecDepth 20000 in
theorem s_X9_isTerm {a1 : Int} {a2 : Int} {σ : st_S} {q : Int × st_S} (hk : g_X9_isTerm a1 a2 σ = some q) : f_X9_isTerm ((596 : Nat) : Int) a1 a2 (mk_ σ) = some ((q.1, mk_ q.2)) := by
  unfold g_X9_isTerm at hk
  unfold f_X9_isTerm
  obtain ⟨q1, hq1, hk⟩ := ab_bnd hk
  refine mb_on rfl (s_X9_isString hq1) ?_
  by_cases hc : q1.1 = (0 : Int)
  · have hk := ab_ifp hk hc
    refine mb_ifp hc ?_
    exact s_X9_isTerm_J29  _ _ hk
  · have hk := ab_ifn hk hc
    refine mb_ifn hc ?_
    obtain ⟨q2, hq2, hk⟩ := ab_bnd hk
    refine mb_on rfl (s_X9_terms hq2) ?_
    obtain ⟨q3, hq3, hk⟩ := ab_bnd hk
    refine mb_eq (s_X9_in hq3) ?_
    by_cases hc : q3.1 = (0 : Int)
    · have hk := ab_ifp hk hc
      refine mb_ifp hc ?_
      exact s_X9_isTerm_J29  _ _ hk
    · have hk := ab_ifn hk hc
      refine mb_ifn hc ?_
      obtain rfl := Option.some.inj hk
      rfl
noncomputable def g_X9_doublesOf_J33 (rec : Int → Int → Int → st_S → Option (Int × st_S)) (v1 : Int) (v3 : Int) (s1 : Int) (s0 : Int) (σ : st_S) : Option (Int × st_S) :=
  rec v1 (ab_w32 (s0 + s1)) (ab_w32 (v3 + (1 : Int))) σ
set_option maxRecDepth 20000 in
theorem s_X9_doublesOf_J33 {rec : Int → Int → Int → st_S → Option (Int × st_S)} {recf : Int → Int → Int → Int → ab_H → Option (Int × ab_H)} (hrec : ∀ (v1 : Int) (v2 : Int) (v3 : Int) (σ : st_S) (q : Int × st_S), rec v1 v2 v3 σ = some q → recf ((596 : Nat) : Int) v1 v2 v3 (mk_ σ) = some ((q.1, mk_ q.2))) : ∀ (v1 : Int) (v3 : Int) (s1 : Int) (s0 : Int) (σ : st_S) (q : Int × st_S), g_X9_doublesOf_J33 rec v1 v3 s1 s0 σ = some q → f_X9_doublesOf_J33 recf ((596 : Nat) : Int) v1 v3 s1 s0 (mk_ σ) = some ((q.1, mk_ q.2)) := by
  intro v1 v3 s1 s0 σ q hk
  unfold g_X9_doublesOf_J33 at hk
  unfold f_X9_doublesOf_J33
  exact hrec _ _ _  _ _ hk
noncomputable def g_X9_doublesOf_L4 : Nat → Int → Int → Int → st_S → Option (Int × st_S)
  | 0, _, _, _, _ => none
  | n + 1, v1, v2, v3, σ =>
    if σ 596 16 ≤ v3 then
      some (v2, σ)
    else
    (sa_ld σ 602 72 v3).bind fun t1 =>
    if t1 = v1 then
      (sa_ld σ 604 72 v3).bind fun t2 =>
      g_X9_doublesOf_J33 (g_X9_doublesOf_L4 n) v1 v3 t2 v2 σ
    else
    g_X9_doublesOf_J33 (g_X9_doublesOf_L4 n) v1 v3 (0 : Int) v2 σ
set_option maxRecDepth 20000 in
theorem s_X9_doublesOf_L4 : ∀ (n : Nat) (v1 : Int) (v2 : Int) (v3 : Int) (σ : st_S) (q : Int × st_S), g_X9_doublesOf_L4 n v1 v2 v3 σ = some q → f_X9_doublesOf_L4 n ((596 : Nat) : Int) v1 v2 v3 (mk_ σ) = some ((q.1, mk_ q.2)) := by
  intro n
  induction n with
  | zero => intro v1 v2 v3 σ q hk; cases hk
  | succ n ih =>
    intro v1 v2 v3 σ q hk
    unfold g_X9_doublesOf_L4 at hk
    unfold f_X9_doublesOf_L4
    refine mb_get rfl rfl ?_
    by_cases hc : σ 596 16 ≤ v3
    · have hk := ab_ifp hk hc
      refine mb_ifp hc ?_
      obtain rfl := Option.some.inj hk
      rfl
    · have hk := ab_ifn hk hc
      refine mb_ifn hc ?_
      refine mb_getR 602 rfl rfl (by decide) ?_
      obtain ⟨t1, ht1, hk⟩ := ab_bnd hk
      refine mb_ald ⟨rfl, rfl, fun _ => rfl⟩ ht1 ?_
      by_cases hc : t1 = v1
      · have hk := ab_ifp hk hc
        refine mb_ifp hc ?_
        refine mb_getR 604 rfl rfl (by decide) ?_
        obtain ⟨t2, ht2, hk⟩ := ab_bnd hk
        refine mb_ald ⟨rfl, rfl, fun _ => rfl⟩ ht2 ?_
        exact s_X9_doublesOf_J33 ih _ _ _ _  _ _ hk
      · have hk := ab_ifn hk hc
        refine mb_ifn hc ?_
        exact s_X9_doublesOf_J33 ih _ _ _ _  _ _ hk
noncomputable def g_X9_doublesOf (a1 : Int) (σ : st_S) : Option (Int × st_S) :=
  g_X9_doublesOf_L4 ab_FU a1 (0 : Int) (0 : Int) σ
set_option maxRecDepth 20000 in
theorem s_X9_doublesOf {a1 : Int} {σ : st_S} {q : Int × st_S} (hk : g_X9_doublesOf a1 σ = some q) : f_X9_doublesOf ((596 : Nat) : Int) a1 (mk_ σ) = some ((q.1, mk_ q.2)) := by
  unfold g_X9_doublesOf at hk
  unfold f_X9_doublesOf
  refine s_X9_doublesOf_L4 _ _ _ _  _ _ hk
noncomputable def g_X9_twiceIn_J71 (rec : Int → Int → Int → st_S → Option (Int × st_S)) (v1 : Int) (v3 : Int) (s1 : Int) (s0 : Int) (σ : st_S) : Option (Int × st_S) :=
  rec v1 (ab_w32 (s0 + s1)) (ab_w32 (v3 + (1 : Int))) σ
set_option maxRecDepth 20000 in
theorem s_X9_twiceIn_J71 {rec : Int → Int → Int → st_S → Option (Int × st_S)} {recf : Int → Int → Int → Int → ab_H → Option (Int × ab_H)} (hrec : ∀ (v1 : Int) (v2 : Int) (v3 : Int) (σ : st_S) (q : Int × st_S), rec v1 v2 v3 σ = some q → recf ((596 : Nat) : Int) v1 v2 v3 (mk_ σ) = some ((q.1, mk_ q.2))) : ∀ (v1 : Int) (v3 : Int) (s1 : Int) (s0 : Int) (σ : st_S) (q : Int × st_S), g_X9_twiceIn_J71 rec v1 v3 s1 s0 σ = some q → f_X9_twiceIn_J71 recf ((596 : Nat) : Int) v1 v3 s1 s0 (mk_ σ) = some ((q.1, mk_ q.2)) := by
  intro v1 v3 s1 s0 σ q hk
  unfold g_X9_twiceIn_J71 at hk
  unfold f_X9_twiceIn_J71
  exact hrec _ _ _  _ _ hk
noncomputable def g_X9_twiceIn_J50 (rec : Int → Int → Int → Int → Int → st_S → Option (Int × st_S)) (k59 : Int → Int → Int → Int → st_S → Option (Int × st_S)) (v1 : Int) (v2 : Int) (v3 : Int) (v5 : Int) (s1 : Int) (s0 : Int) (σ : st_S) : Option (Int × st_S) :=
  rec v1 v2 v3 (ab_w32 (s0 + s1)) (ab_w32 (v5 + (1 : Int))) σ
set_option maxRecDepth 20000 in
theorem s_X9_twiceIn_J50 {rec : Int → Int → Int → Int → Int → st_S → Option (Int × st_S)} {recf : Int → Int → Int → Int → Int → Int → ab_H → Option (Int × ab_H)} {k59 : Int → Int → Int → Int → st_S → Option (Int × st_S)} {kf59 : Int → Int → Int → Int → Int → ab_H → Option (Int × ab_H)} (hrec : ∀ (v1 : Int) (v2 : Int) (v3 : Int) (v4 : Int) (v5 : Int) (σ : st_S) (q : Int × st_S), rec v1 v2 v3 v4 v5 σ = some q → recf ((596 : Nat) : Int) v1 v2 v3 v4 v5 (mk_ σ) = some ((q.1, mk_ q.2))) (hk59 : ∀ (v1 : Int) (v2 : Int) (v3 : Int) (v4 : Int) (σ : st_S) (q : Int × st_S), k59 v1 v2 v3 v4 σ = some q → kf59 ((596 : Nat) : Int) v1 v2 v3 v4 (mk_ σ) = some ((q.1, mk_ q.2))) : ∀ (v1 : Int) (v2 : Int) (v3 : Int) (v5 : Int) (s1 : Int) (s0 : Int) (σ : st_S) (q : Int × st_S), g_X9_twiceIn_J50 rec k59 v1 v2 v3 v5 s1 s0 σ = some q → f_X9_twiceIn_J50 recf kf59 ((596 : Nat) : Int) v1 v2 v3 v5 s1 s0 (mk_ σ) = some ((q.1, mk_ q.2)) := by
  intro v1 v2 v3 v5 s1 s0 σ q hk
  unfold g_X9_twiceIn_J50 at hk
  unfold f_X9_twiceIn_J50
  exact hrec _ _ _ _ _  _ _ hk
noncomputable def g_X9_twiceIn_L18 (k59 : Int → Int → Int → Int → st_S → Option (Int × st_S)) : Nat → Int → Int → Int → Int → Int → st_S → Option (Int × st_S)
  | 0, _, _, _, _, _, _ => none
  | n + 1, v1, v2, v3, v4, v5, σ =>
    (g_X9_terms v1 σ).bind fun q1 =>
    if q1.1 ≤ v5 then
      k59 v1 v2 v3 v4 q1.2
    else
    (g_X9_place v1 v5 q1.2).bind fun q2 =>
    (sa_ld q2.2 601 72 q2.1).bind fun t3 =>
    if t3 = v3 then
      g_X9_twiceIn_J50 (g_X9_twiceIn_L18 k59 n) k59 v1 v2 v3 v5 (1 : Int) v4 q2.2
    else
    g_X9_twiceIn_J50 (g_X9_twiceIn_L18 k59 n) k59 v1 v2 v3 v5 (0 : Int) v4 q2.2
set_option maxRecDepth 20000 in
theorem s_X9_twiceIn_L18 {k59 : Int → Int → Int → Int → st_S → Option (Int × st_S)} {kf59 : Int → Int → Int → Int → Int → ab_H → Option (Int × ab_H)} (hk59 : ∀ (v1 : Int) (v2 : Int) (v3 : Int) (v4 : Int) (σ : st_S) (q : Int × st_S), k59 v1 v2 v3 v4 σ = some q → kf59 ((596 : Nat) : Int) v1 v2 v3 v4 (mk_ σ) = some ((q.1, mk_ q.2))) : ∀ (n : Nat) (v1 : Int) (v2 : Int) (v3 : Int) (v4 : Int) (v5 : Int) (σ : st_S) (q : Int × st_S), g_X9_twiceIn_L18 k59 n v1 v2 v3 v4 v5 σ = some q → f_X9_twiceIn_L18 kf59 n ((596 : Nat) : Int) v1 v2 v3 v4 v5 (mk_ σ) = some ((q.1, mk_ q.2)) := by
  intro n
  induction n with
  | zero => intro v1 v2 v3 v4 v5 σ q hk; cases hk
  | succ n ih =>
    intro v1 v2 v3 v4 v5 σ q hk
    unfold g_X9_twiceIn_L18 at hk
    unfold f_X9_twiceIn_L18
    obtain ⟨q1, hq1, hk⟩ := ab_bnd hk
    refine mb_on rfl (s_X9_terms hq1) ?_
    by_cases hc : q1.1 ≤ v5
    · have hk := ab_ifp hk hc
      refine mb_ifp hc ?_
      exact hk59 _ _ _ _  _ _ hk
    · have hk := ab_ifn hk hc
      refine mb_ifn hc ?_
      refine mb_getR 601 rfl rfl (by decide) ?_
      obtain ⟨q2, hq2, hk⟩ := ab_bnd hk
      refine mb_eq (s_X9_place hq2) ?_
      obtain ⟨t3, ht3, hk⟩ := ab_bnd hk
      refine mb_ald ⟨rfl, rfl, fun _ => rfl⟩ ht3 ?_
      by_cases hc : t3 = v3
      · have hk := ab_ifp hk hc
        refine mb_ifp hc ?_
        exact s_X9_twiceIn_J50 ih hk59 _ _ _ _ _ _  _ _ hk
      · have hk := ab_ifn hk hc
        refine mb_ifn hc ?_
        exact s_X9_twiceIn_J50 ih hk59 _ _ _ _ _ _  _ _ hk
noncomputable def g_X9_twiceIn_L4 : Nat → Int → Int → Int → st_S → Option (Int × st_S)
  | 0, _, _, _, _ => none
  | n + 1, v1, v2, v3, σ =>
    if σ 596 14 ≤ v3 then
      some (v2, σ)
    else
    g_X9_twiceIn_L18 (fun w59_1 w59_2 w59_3 w59_4 σx59 =>
      if w59_4 ≤ (1 : Int) then
        g_X9_twiceIn_J71 (g_X9_twiceIn_L4 n) w59_1 w59_3 (0 : Int) w59_2 σx59
      else
      g_X9_twiceIn_J71 (g_X9_twiceIn_L4 n) w59_1 w59_3 (1 : Int) w59_2 σx59) ab_FU v1 v2 v3 (0 : Int) (0 : Int) σ
set_option maxRecDepth 20000 in
theorem s_X9_twiceIn_L4 : ∀ (n : Nat) (v1 : Int) (v2 : Int) (v3 : Int) (σ : st_S) (q : Int × st_S), g_X9_twiceIn_L4 n v1 v2 v3 σ = some q → f_X9_twiceIn_L4 n ((596 : Nat) : Int) v1 v2 v3 (mk_ σ) = some ((q.1, mk_ q.2)) := by
  intro n
  induction n with
  | zero => intro v1 v2 v3 σ q hk; cases hk
  | succ n ih =>
    intro v1 v2 v3 σ q hk
    unfold g_X9_twiceIn_L4 at hk
    unfold f_X9_twiceIn_L4
    refine mb_get rfl rfl ?_
    by_cases hc : σ 596 14 ≤ v3
    · have hk := ab_ifp hk hc
      refine mb_ifp hc ?_
      obtain rfl := Option.some.inj hk
      rfl
    · have hk := ab_ifn hk hc
      refine mb_ifn hc ?_
      refine s_X9_twiceIn_L18 (fun w59_1 w59_2 w59_3 w59_4 σx59 q hk => ?_) _ _ _ _ _ _  _ _ hk
      · skip
        by_cases hc : w59_4 ≤ (1 : Int)
        · have hk := ab_ifp hk hc
          refine mb_ifp hc ?_
          exact s_X9_twiceIn_J71 ih _ _ _ _  _ _ hk
        · have hk := ab_ifn hk hc
          refine mb_ifn hc ?_
          exact s_X9_twiceIn_J71 ih _ _ _ _  _ _ hk
noncomputable def g_X9_twiceIn (a1 : Int) (σ : st_S) : Option (Int × st_S) :=
  g_X9_twiceIn_L4 ab_FU a1 (0 : Int) (0 : Int) σ
set_option maxRecDepth 20000 in
theorem s_X9_twiceIn {a1 : Int} {σ : st_S} {q : Int × st_S} (hk : g_X9_twiceIn a1 σ = some q) : f_X9_twiceIn ((596 : Nat) : Int) a1 (mk_ σ) = some ((q.1, mk_ q.2)) := by
  unfold g_X9_twiceIn at hk
  unfold f_X9_twiceIn
  refine s_X9_twiceIn_L4 _ _ _ _  _ _ hk
noncomputable def g_X9_string_J58 (rec : Int → Int → Int → Int → st_S → Option (Int × st_S)) (k66 : Int → Int → Int → st_S → Option (Int × st_S)) (v1 : Int) (v2 : Int) (v4 : Int) (s1 : Int) (s0 : Int) (σ : st_S) : Option (Int × st_S) :=
  rec v1 v2 (ab_w32 (s0 + s1)) (ab_w32 (v4 + (1 : Int))) σ
set_option maxRecDepth 20000 in
theorem s_X9_string_J58 {rec : Int → Int → Int → Int → st_S → Option (Int × st_S)} {recf : Int → Int → Int → Int → Int → ab_H → Option (Int × ab_H)} {k66 : Int → Int → Int → st_S → Option (Int × st_S)} {kf66 : Int → Int → Int → Int → ab_H → Option (Int × ab_H)} (hrec : ∀ (v1 : Int) (v2 : Int) (v3 : Int) (v4 : Int) (σ : st_S) (q : Int × st_S), rec v1 v2 v3 v4 σ = some q → recf ((596 : Nat) : Int) v1 v2 v3 v4 (mk_ σ) = some ((q.1, mk_ q.2))) (hk66 : ∀ (v1 : Int) (v2 : Int) (v3 : Int) (σ : st_S) (q : Int × st_S), k66 v1 v2 v3 σ = some q → kf66 ((596 : Nat) : Int) v1 v2 v3 (mk_ σ) = some ((q.1, mk_ q.2))) : ∀ (v1 : Int) (v2 : Int) (v4 : Int) (s1 : Int) (s0 : Int) (σ : st_S) (q : Int × st_S), g_X9_string_J58 rec k66 v1 v2 v4 s1 s0 σ = some q → f_X9_string_J58 recf kf66 ((596 : Nat) : Int) v1 v2 v4 s1 s0 (mk_ σ) = some ((q.1, mk_ q.2)) := by
  intro v1 v2 v4 s1 s0 σ q hk
  unfold g_X9_string_J58 at hk
  unfold f_X9_string_J58
  exact hrec _ _ _ _  _ _ hk
noncomputable def g_X9_string_L32 (k66 : Int → Int → Int → st_S → Option (Int × st_S)) : Nat → Int → Int → Int → Int → st_S → Option (Int × st_S)
  | 0, _, _, _, _, _ => none
  | n + 1, v1, v2, v3, v4, σ =>
    (g_X9_terms v1 σ).bind fun q1 =>
    if q1.1 ≤ v4 then
      k66 v1 v2 v3 q1.2
    else
    (g_X9_doesLead v1 v4 q1.2).bind fun q2 =>
    if q2.1 = (0 : Int) then
      g_X9_string_J58 (g_X9_string_L32 k66 n) k66 v1 v2 v4 (0 : Int) v3 q2.2
    else
    g_X9_string_J58 (g_X9_string_L32 k66 n) k66 v1 v2 v4 (1 : Int) v3 q2.2
set_option maxRecDepth 20000 in
theorem s_X9_string_L32 {k66 : Int → Int → Int → st_S → Option (Int × st_S)} {kf66 : Int → Int → Int → Int → ab_H → Option (Int × ab_H)} (hk66 : ∀ (v1 : Int) (v2 : Int) (v3 : Int) (σ : st_S) (q : Int × st_S), k66 v1 v2 v3 σ = some q → kf66 ((596 : Nat) : Int) v1 v2 v3 (mk_ σ) = some ((q.1, mk_ q.2))) : ∀ (n : Nat) (v1 : Int) (v2 : Int) (v3 : Int) (v4 : Int) (σ : st_S) (q : Int × st_S), g_X9_string_L32 k66 n v1 v2 v3 v4 σ = some q → f_X9_string_L32 kf66 n ((596 : Nat) : Int) v1 v2 v3 v4 (mk_ σ) = some ((q.1, mk_ q.2)) := by
  intro n
  induction n with
  | zero => intro v1 v2 v3 v4 σ q hk; cases hk
  | succ n ih =>
    intro v1 v2 v3 v4 σ q hk
    unfold g_X9_string_L32 at hk
    unfold f_X9_string_L32
    obtain ⟨q1, hq1, hk⟩ := ab_bnd hk
    refine mb_on rfl (s_X9_terms hq1) ?_
    by_cases hc : q1.1 ≤ v4
    · have hk := ab_ifp hk hc
      refine mb_ifp hc ?_
      exact hk66 _ _ _  _ _ hk
    · have hk := ab_ifn hk hc
      refine mb_ifn hc ?_
      obtain ⟨q2, hq2, hk⟩ := ab_bnd hk
      refine mb_on rfl (s_X9_doesLead hq2) ?_
      by_cases hc : q2.1 = (0 : Int)
      · have hk := ab_ifp hk hc
        refine mb_ifp hc ?_
        exact s_X9_string_J58 ih hk66 _ _ _ _ _  _ _ hk
      · have hk := ab_ifn hk hc
        refine mb_ifn hc ?_
        exact s_X9_string_J58 ih hk66 _ _ _ _ _  _ _ hk
noncomputable def g_X9_string (a1 : Int) (a2 : Int) (σ : st_S) : Option (Int × st_S) :=
  (g_X9_isString a1 σ).bind fun q1 =>
  if q1.1 = (0 : Int) then
    some ((-2 : Int), q1.2)
  else
  (g_X9_in a2 (0 : Int) (4 : Int) q1.2).bind fun q2 =>
  if q2.1 = (0 : Int) then
    some ((-2 : Int), q2.2)
  else
  (g_X9_lays q2.2).bind fun q3 =>
  g_X9_string_L32 (fun w66_1 w66_2 w66_3 σx66 =>
    if w66_2 = (0 : Int) then
      (g_X9_addressOf w66_1 σx66).bind fun q7 =>
      some (q7.1, q7.2)
    else
    if w66_2 = (1 : Int) then
      (g_X9_terms w66_1 σx66).bind fun q6 =>
      some (q6.1, q6.2)
    else
    if w66_2 = (2 : Int) then
      some (w66_3, σx66)
    else
    if w66_2 = (3 : Int) then
      (g_X9_doublesOf w66_1 σx66).bind fun q5 =>
      some (q5.1, q5.2)
    else
    (g_X9_twiceIn w66_1 σx66).bind fun q4 =>
    some (q4.1, q4.2)) ab_FU a1 a2 (0 : Int) (0 : Int) q3
set_option maxRecDepth 20000 in
theorem s_X9_string {a1 : Int} {a2 : Int} {σ : st_S} {q : Int × st_S} (hk : g_X9_string a1 a2 σ = some q) : f_X9_string ((596 : Nat) : Int) a1 a2 (mk_ σ) = some ((q.1, mk_ q.2)) := by
  unfold g_X9_string at hk
  unfold f_X9_string
  obtain ⟨q1, hq1, hk⟩ := ab_bnd hk
  refine mb_on rfl (s_X9_isString hq1) ?_
  by_cases hc : q1.1 = (0 : Int)
  · have hk := ab_ifp hk hc
    refine mb_ifp hc ?_
    obtain rfl := Option.some.inj hk
    rfl
  · have hk := ab_ifn hk hc
    refine mb_ifn hc ?_
    obtain ⟨q2, hq2, hk⟩ := ab_bnd hk
    refine mb_eq (s_X9_in hq2) ?_
    by_cases hc : q2.1 = (0 : Int)
    · have hk := ab_ifp hk hc
      refine mb_ifp hc ?_
      obtain rfl := Option.some.inj hk
      rfl
    · have hk := ab_ifn hk hc
      refine mb_ifn hc ?_
      obtain ⟨q3, hq3, hk⟩ := ab_bnd hk
      refine mb_on rfl (s_X9_lays hq3) ?_
      refine s_X9_string_L32 (fun w66_1 w66_2 w66_3 σx66 q hk => ?_) _ _ _ _ _  _ _ hk
      · skip
        by_cases hc : w66_2 = (0 : Int)
        · have hk := ab_ifp hk hc
          refine mb_ifp hc ?_
          obtain ⟨q7, hq7, hk⟩ := ab_bnd hk
          refine mb_on rfl (s_X9_addressOf hq7) ?_
          obtain rfl := Option.some.inj hk
          rfl
        · have hk := ab_ifn hk hc
          refine mb_ifn hc ?_
          by_cases hc : w66_2 = (1 : Int)
          · have hk := ab_ifp hk hc
            refine mb_ifp hc ?_
            obtain ⟨q6, hq6, hk⟩ := ab_bnd hk
            refine mb_on rfl (s_X9_terms hq6) ?_
            obtain rfl := Option.some.inj hk
            rfl
          · have hk := ab_ifn hk hc
            refine mb_ifn hc ?_
            by_cases hc : w66_2 = (2 : Int)
            · have hk := ab_ifp hk hc
              refine mb_ifp hc ?_
              obtain rfl := Option.some.inj hk
              rfl
            · have hk := ab_ifn hk hc
              refine mb_ifn hc ?_
              by_cases hc : w66_2 = (3 : Int)
              · have hk := ab_ifp hk hc
                refine mb_ifp hc ?_
                obtain ⟨q5, hq5, hk⟩ := ab_bnd hk
                refine mb_on rfl (s_X9_doublesOf hq5) ?_
                obtain rfl := Option.some.inj hk
                rfl
              · have hk := ab_ifn hk hc
                refine mb_ifn hc ?_
                obtain ⟨q4, hq4, hk⟩ := ab_bnd hk
                refine mb_on rfl (s_X9_twiceIn hq4) ?_
                obtain rfl := Option.some.inj hk
                rfl
noncomputable def g_X9_letterOf (a0 : Int) (a2 : Int) (σ : st_S) : Option (Int × st_S) :=
  some (ab_w32 (ab_land (ab_lshr a0 (ab_w32 ((5 : Int) * (ab_w32 ((6 : Int) - a2))))) (31 : Int)), σ)
set_option maxRecDepth 20000 in
theorem s_X9_letterOf {a0 : Int} {a2 : Int} {σ : st_S} {q : Int × st_S} (hk : g_X9_letterOf a0 a2 σ = some q) : f_X9_letterOf a0 a2 (mk_ σ) = some ((q.1, mk_ q.2)) := by
  unfold g_X9_letterOf at hk
  unfold f_X9_letterOf
  obtain rfl := Option.some.inj hk
  rfl
noncomputable def g_X9_lettersOf_J24 (rec : Int → Int → Int → st_S → Option (Int × st_S)) (v0 : Int) (v3 : Int) (s1 : Int) (s0 : Int) (σ : st_S) : Option (Int × st_S) :=
  rec v0 (ab_w32 (s0 + s1)) (ab_w32 (v3 + (1 : Int))) σ
set_option maxRecDepth 20000 in
theorem s_X9_lettersOf_J24 {rec : Int → Int → Int → st_S → Option (Int × st_S)} {recf : Int → Int → Int → ab_H → Option (Int × ab_H)} (hrec : ∀ (v0 : Int) (v2 : Int) (v3 : Int) (σ : st_S) (q : Int × st_S), rec v0 v2 v3 σ = some q → recf v0 v2 v3 (mk_ σ) = some ((q.1, mk_ q.2))) : ∀ (v0 : Int) (v3 : Int) (s1 : Int) (s0 : Int) (σ : st_S) (q : Int × st_S), g_X9_lettersOf_J24 rec v0 v3 s1 s0 σ = some q → f_X9_lettersOf_J24 recf v0 v3 s1 s0 (mk_ σ) = some ((q.1, mk_ q.2)) := by
  intro v0 v3 s1 s0 σ q hk
  unfold g_X9_lettersOf_J24 at hk
  unfold f_X9_lettersOf_J24
  exact hrec _ _ _  _ _ hk
noncomputable def g_X9_lettersOf_L4 : Nat → Int → Int → Int → st_S → Option (Int × st_S)
  | 0, _, _, _, _ => none
  | n + 1, v0, v2, v3, σ =>
    if (7 : Int) ≤ v3 then
      some (v2, σ)
    else
    (g_X9_letterOf v0 v3 σ).bind fun q1 =>
    if q1.1 ≤ (0 : Int) then
      g_X9_lettersOf_J24 (g_X9_lettersOf_L4 n) v0 v3 (0 : Int) v2 q1.2
    else
    g_X9_lettersOf_J24 (g_X9_lettersOf_L4 n) v0 v3 (1 : Int) v2 q1.2
set_option maxRecDepth 20000 in
theorem s_X9_lettersOf_L4 : ∀ (n : Nat) (v0 : Int) (v2 : Int) (v3 : Int) (σ : st_S) (q : Int × st_S), g_X9_lettersOf_L4 n v0 v2 v3 σ = some q → f_X9_lettersOf_L4 n v0 v2 v3 (mk_ σ) = some ((q.1, mk_ q.2)) := by
  intro n
  induction n with
  | zero => intro v0 v2 v3 σ q hk; cases hk
  | succ n ih =>
    intro v0 v2 v3 σ q hk
    unfold g_X9_lettersOf_L4 at hk
    unfold f_X9_lettersOf_L4
    by_cases hc : (7 : Int) ≤ v3
    · have hk := ab_ifp hk hc
      refine mb_ifp hc ?_
      obtain rfl := Option.some.inj hk
      rfl
    · have hk := ab_ifn hk hc
      refine mb_ifn hc ?_
      obtain ⟨q1, hq1, hk⟩ := ab_bnd hk
      refine mb_eq (s_X9_letterOf hq1) ?_
      by_cases hc : q1.1 ≤ (0 : Int)
      · have hk := ab_ifp hk hc
        refine mb_ifp hc ?_
        exact s_X9_lettersOf_J24 ih _ _ _ _  _ _ hk
      · have hk := ab_ifn hk hc
        refine mb_ifn hc ?_
        exact s_X9_lettersOf_J24 ih _ _ _ _  _ _ hk
noncomputable def g_X9_lettersOf (a0 : Int) (σ : st_S) : Option (Int × st_S) :=
  g_X9_lettersOf_L4 ab_FU a0 (0 : Int) (0 : Int) σ
set_option maxRecDepth 20000 in
theorem s_X9_lettersOf {a0 : Int} {σ : st_S} {q : Int × st_S} (hk : g_X9_lettersOf a0 σ = some q) : f_X9_lettersOf a0 (mk_ σ) = some ((q.1, mk_ q.2)) := by
  unfold g_X9_lettersOf at hk
  unfold f_X9_lettersOf
  refine s_X9_lettersOf_L4 _ _ _ _  _ _ hk
noncomputable def g_X9_term (a1 : Int) (a2 : Int) (a3 : Int) (σ : st_S) : Option (Int × st_S) :=
  (g_X9_isTerm a1 a2 σ).bind fun q1 =>
  if q1.1 = (0 : Int) then
    some ((-2 : Int), q1.2)
  else
  (g_X9_in a3 (0 : Int) (4 : Int) q1.2).bind fun q2 =>
  if q2.1 = (0 : Int) then
    some ((-2 : Int), q2.2)
  else
  (g_X9_laysWords q2.2).bind fun q3 =>
  (g_X9_termAt a1 a2 q3).bind fun q4 =>
  if a3 = (0 : Int) then
    (g_X9_roleOf a1 a2 q4.2).bind fun q14 =>
    some (q14.1, q14.2)
  else
  if a3 = (1 : Int) then
    (g_X9_doesLead a1 a2 q4.2).bind fun q13 =>
    if q13.1 = (0 : Int) then
      some ((0 : Int), q13.2)
    else
    some ((1 : Int), q13.2)
  else
  if a3 = (2 : Int) then
    (g_X9_place a1 a2 q4.2).bind fun q11 =>
    (sa_ld q11.2 601 72 q11.1).bind fun t12 =>
    some (t12, q11.2)
  else
  if a3 = (3 : Int) then
    (sa_ld q4.2 597 416 (ab_w32 (q4.1 + (3 : Int)))).bind fun t8 =>
    (g_X9_usedOf 597 t8 q4.2).bind fun q9 =>
    (g_X9_lettersOf q9.1 q9.2).bind fun q10 =>
    some (q10.1, q10.2)
  else
  (sa_ld q4.2 597 416 (ab_w32 (q4.1 + (4 : Int)))).bind fun t5 =>
  (g_X9_usedOf 597 t5 q4.2).bind fun q6 =>
  (g_X9_lettersOf q6.1 q6.2).bind fun q7 =>
  some (q7.1, q7.2)
set_option maxRecDepth 20000 in
theorem s_X9_term {a1 : Int} {a2 : Int} {a3 : Int} {σ : st_S} {q : Int × st_S} (hk : g_X9_term a1 a2 a3 σ = some q) : f_X9_term ((596 : Nat) : Int) a1 a2 a3 (mk_ σ) = some ((q.1, mk_ q.2)) := by
  unfold g_X9_term at hk
  unfold f_X9_term
  obtain ⟨q1, hq1, hk⟩ := ab_bnd hk
  refine mb_on rfl (s_X9_isTerm hq1) ?_
  by_cases hc : q1.1 = (0 : Int)
  · have hk := ab_ifp hk hc
    refine mb_ifp hc ?_
    obtain rfl := Option.some.inj hk
    rfl
  · have hk := ab_ifn hk hc
    refine mb_ifn hc ?_
    obtain ⟨q2, hq2, hk⟩ := ab_bnd hk
    refine mb_eq (s_X9_in hq2) ?_
    by_cases hc : q2.1 = (0 : Int)
    · have hk := ab_ifp hk hc
      refine mb_ifp hc ?_
      obtain rfl := Option.some.inj hk
      rfl
    · have hk := ab_ifn hk hc
      refine mb_ifn hc ?_
      obtain ⟨q3, hq3, hk⟩ := ab_bnd hk
      refine mb_on rfl (s_X9_laysWords hq3) ?_
      obtain ⟨q4, hq4, hk⟩ := ab_bnd hk
      refine mb_eq (s_X9_termAt hq4) ?_
      by_cases hc : a3 = (0 : Int)
      · have hk := ab_ifp hk hc
        refine mb_ifp hc ?_
        obtain ⟨q14, hq14, hk⟩ := ab_bnd hk
        refine mb_on rfl (s_X9_roleOf hq14) ?_
        obtain rfl := Option.some.inj hk
        rfl
      · have hk := ab_ifn hk hc
        refine mb_ifn hc ?_
        by_cases hc : a3 = (1 : Int)
        · have hk := ab_ifp hk hc
          refine mb_ifp hc ?_
          obtain ⟨q13, hq13, hk⟩ := ab_bnd hk
          refine mb_on rfl (s_X9_doesLead hq13) ?_
          by_cases hc : q13.1 = (0 : Int)
          · have hk := ab_ifp hk hc
            refine mb_ifp hc ?_
            obtain rfl := Option.some.inj hk
            rfl
          · have hk := ab_ifn hk hc
            refine mb_ifn hc ?_
            obtain rfl := Option.some.inj hk
            rfl
        · have hk := ab_ifn hk hc
          refine mb_ifn hc ?_
          by_cases hc : a3 = (2 : Int)
          · have hk := ab_ifp hk hc
            refine mb_ifp hc ?_
            refine mb_getR 601 rfl rfl (by decide) ?_
            obtain ⟨q11, hq11, hk⟩ := ab_bnd hk
            refine mb_eq (s_X9_place hq11) ?_
            obtain ⟨t12, ht12, hk⟩ := ab_bnd hk
            refine mb_ald ⟨rfl, rfl, fun _ => rfl⟩ ht12 ?_
            obtain rfl := Option.some.inj hk
            rfl
          · have hk := ab_ifn hk hc
            refine mb_ifn hc ?_
            by_cases hc : a3 = (3 : Int)
            · have hk := ab_ifp hk hc
              refine mb_ifp hc ?_
              refine mb_getR 597 rfl rfl (by decide) ?_
              refine mb_getR 597 rfl rfl (by decide) ?_
              obtain ⟨t8, ht8, hk⟩ := ab_bnd hk
              refine mb_ald ⟨rfl, rfl, fun _ => rfl⟩ ht8 ?_
              obtain ⟨q9, hq9, hk⟩ := ab_bnd hk
              refine mb_eq (s_X9_usedOf ⟨rfl, rfl, fun _ => rfl⟩ hq9) ?_
              obtain ⟨q10, hq10, hk⟩ := ab_bnd hk
              refine mb_eq (s_X9_lettersOf hq10) ?_
              obtain rfl := Option.some.inj hk
              rfl
            · have hk := ab_ifn hk hc
              refine mb_ifn hc ?_
              refine mb_getR 597 rfl rfl (by decide) ?_
              refine mb_getR 597 rfl rfl (by decide) ?_
              obtain ⟨t5, ht5, hk⟩ := ab_bnd hk
              refine mb_ald ⟨rfl, rfl, fun _ => rfl⟩ ht5 ?_
              obtain ⟨q6, hq6, hk⟩ := ab_bnd hk
              refine mb_eq (s_X9_usedOf ⟨rfl, rfl, fun _ => rfl⟩ hq6) ?_
              obtain ⟨q7, hq7, hk⟩ := ab_bnd hk
              refine mb_eq (s_X9_lettersOf hq7) ?_
              obtain rfl := Option.some.inj hk
              rfl
noncomputable def g_X9_isWordNow (a1 : Int) (σ : st_S) : Option (Int × st_S) :=
  (g_X9_laysWords σ).bind fun q1 =>
  (g_X9_in a1 (0 : Int) (ab_w32 ((q1 596 14) - (1 : Int))) q1).bind fun q2 =>
  ab_if (decide (q2.1 = 0 ∨ q2.1 = 1)) <|
  some (q2.1, q2.2)
set_option maxRecDepth 20000 in
theorem s_X9_isWordNow {a1 : Int} {σ : st_S} {q : Int × st_S} (hk : g_X9_isWordNow a1 σ = some q) : f_X9_isWordNow ((596 : Nat) : Int) a1 (mk_ σ) = some ((q.1, mk_ q.2)) := by
  unfold g_X9_isWordNow at hk
  unfold f_X9_isWordNow
  obtain ⟨q1, hq1, hk⟩ := ab_bnd hk
  refine mb_on rfl (s_X9_laysWords hq1) ?_
  refine mb_get rfl rfl ?_
  obtain ⟨q2, hq2, hk⟩ := ab_bnd hk
  refine mb_eq (s_X9_in hq2) ?_
  obtain ⟨hg, hk⟩ := ab_if_some hk
  refine mb_if hg ?_
  obtain rfl := Option.some.inj hk
  rfl
noncomputable def g_X9_letter_J33 (σ : st_S) : Option (Int × st_S) :=
  some ((-2 : Int), σ)
set_option maxRecDepth 20000 in
theorem s_X9_letter_J33 : ∀ (σ : st_S) (q : Int × st_S), g_X9_letter_J33 σ = some q → f_X9_letter_J33 (mk_ σ) = some ((q.1, mk_ q.2)) := by
  intro σ q hk
  unfold g_X9_letter_J33 at hk
  unfold f_X9_letter_J33
  obtain rfl := Option.some.inj hk
  rfl
noncomputable def g_X9_letter (a1 : Int) (a2 : Int) (σ : st_S) : Option (Int × st_S) :=
  (g_X9_isWordNow a1 σ).bind fun q1 =>
  if q1.1 = (0 : Int) then
    g_X9_letter_J33 q1.2
  else
  (g_X9_in a2 (0 : Int) (6 : Int) q1.2).bind fun q2 =>
  if q2.1 = (0 : Int) then
    g_X9_letter_J33 q2.2
  else
  (sa_ld q2.2 600 72 a1).bind fun t3 =>
  (g_X9_letterOf t3 a2 q2.2).bind fun q4 =>
  some (q4.1, q4.2)
set_option maxRecDepth 20000 in
theorem s_X9_letter {a1 : Int} {a2 : Int} {σ : st_S} {q : Int × st_S} (hk : g_X9_letter a1 a2 σ = some q) : f_X9_letter ((596 : Nat) : Int) a1 a2 (mk_ σ) = some ((q.1, mk_ q.2)) := by
  unfold g_X9_letter at hk
  unfold f_X9_letter
  obtain ⟨q1, hq1, hk⟩ := ab_bnd hk
  refine mb_on rfl (s_X9_isWordNow hq1) ?_
  by_cases hc : q1.1 = (0 : Int)
  · have hk := ab_ifp hk hc
    refine mb_ifp hc ?_
    exact s_X9_letter_J33  _ _ hk
  · have hk := ab_ifn hk hc
    refine mb_ifn hc ?_
    obtain ⟨q2, hq2, hk⟩ := ab_bnd hk
    refine mb_eq (s_X9_in hq2) ?_
    by_cases hc : q2.1 = (0 : Int)
    · have hk := ab_ifp hk hc
      refine mb_ifp hc ?_
      exact s_X9_letter_J33  _ _ hk
    · have hk := ab_ifn hk hc
      refine mb_ifn hc ?_
      refine mb_getR 600 rfl rfl (by decide) ?_
      obtain ⟨t3, ht3, hk⟩ := ab_bnd hk
      refine mb_ald ⟨rfl, rfl, fun _ => rfl⟩ ht3 ?_
      obtain ⟨q4, hq4, hk⟩ := ab_bnd hk
      refine mb_eq (s_X9_letterOf hq4) ?_
      obtain rfl := Option.some.inj hk
      rfl
noncomputable def g_X9_way (a1 : Int) (σ : st_S) : Option (Int × st_S) :=
  (g_X9_in a1 (0 : Int) (5 : Int) σ).bind fun q1 =>
  if q1.1 = (0 : Int) then
    some ((-2 : Int), q1.2)
  else
  (sa_ld q1.2 597 416 (ab_w32 ((2 : Int) + a1))).bind fun t2 =>
  some (ab_w32 t2, q1.2)
set_option maxRecDepth 20000 in
theorem s_X9_way {a1 : Int} {σ : st_S} {q : Int × st_S} (hk : g_X9_way a1 σ = some q) : f_X9_way ((596 : Nat) : Int) a1 (mk_ σ) = some ((q.1, mk_ q.2)) := by
  unfold g_X9_way at hk
  unfold f_X9_way
  obtain ⟨q1, hq1, hk⟩ := ab_bnd hk
  refine mb_eq (s_X9_in hq1) ?_
  by_cases hc : q1.1 = (0 : Int)
  · have hk := ab_ifp hk hc
    refine mb_ifp hc ?_
    obtain rfl := Option.some.inj hk
    rfl
  · have hk := ab_ifn hk hc
    refine mb_ifn hc ?_
    refine mb_getR 597 rfl rfl (by decide) ?_
    obtain ⟨t2, ht2, hk⟩ := ab_bnd hk
    refine mb_ald ⟨rfl, rfl, fun _ => rfl⟩ ht2 ?_
    obtain rfl := Option.some.inj hk
    rfl
noncomputable def g_X9_lettersTold_J56 (v1 : Int) (v2 : Int) (σ : st_S) : Option (Int × st_S) :=
  if v2 = (0 : Int) then
    some ((-1 : Int), σ)
  else
  some (v1, σ)
set_option maxRecDepth 20000 in
theorem s_X9_lettersTold_J56 : ∀ (v1 : Int) (v2 : Int) (σ : st_S) (q : Int × st_S), g_X9_lettersTold_J56 v1 v2 σ = some q → f_X9_lettersTold_J56 v1 v2 (mk_ σ) = some ((q.1, mk_ q.2)) := by
  intro v1 v2 σ q hk
  unfold g_X9_lettersTold_J56 at hk
  unfold f_X9_lettersTold_J56
  by_cases hc : v2 = (0 : Int)
  · have hk := ab_ifp hk hc
    refine mb_ifp hc ?_
    obtain rfl := Option.some.inj hk
    rfl
  · have hk := ab_ifn hk hc
    refine mb_ifn hc ?_
    obtain rfl := Option.some.inj hk
    rfl
noncomputable def g_X9_lettersTold_L24 (k56 : Int → Int → st_S → Option (Int × st_S)) : Nat → Int → Int → Int → st_S → Option (Int × st_S)
  | 0, _, _, _, _ => none
  | n + 1, v1, v2, v3, σ =>
    if v1 ≤ v3 then
      k56 v1 v2 σ
    else
    if v2 = (0 : Int) then
      k56 v1 v2 σ
    else
    (sa_ld σ 599 1200 v3).bind fun t1 =>
    (g_X9_in t1 (97 : Int) (122 : Int) σ).bind fun q2 =>
    g_X9_lettersTold_L24 k56 n v1 q2.1 (ab_w32 (v3 + (1 : Int))) q2.2
set_option maxRecDepth 20000 in
theorem s_X9_lettersTold_L24 {k56 : Int → Int → st_S → Option (Int × st_S)} {kf56 : Int → Int → ab_H → Option (Int × ab_H)} (hk56 : ∀ (v1 : Int) (v2 : Int) (σ : st_S) (q : Int × st_S), k56 v1 v2 σ = some q → kf56 v1 v2 (mk_ σ) = some ((q.1, mk_ q.2))) : ∀ (n : Nat) (v1 : Int) (v2 : Int) (v3 : Int) (σ : st_S) (q : Int × st_S), g_X9_lettersTold_L24 k56 n v1 v2 v3 σ = some q → f_X9_lettersTold_L24 kf56 n ((596 : Nat) : Int) v1 v2 v3 (mk_ σ) = some ((q.1, mk_ q.2)) := by
  intro n
  induction n with
  | zero => intro v1 v2 v3 σ q hk; cases hk
  | succ n ih =>
    intro v1 v2 v3 σ q hk
    unfold g_X9_lettersTold_L24 at hk
    unfold f_X9_lettersTold_L24
    by_cases hc : v1 ≤ v3
    · have hk := ab_ifp hk hc
      refine mb_ifp hc ?_
      exact hk56 _ _  _ _ hk
    · have hk := ab_ifn hk hc
      refine mb_ifn hc ?_
      by_cases hc : v2 = (0 : Int)
      · have hk := ab_ifp hk hc
        refine mb_ifp hc ?_
        exact hk56 _ _  _ _ hk
      · have hk := ab_ifn hk hc
        refine mb_ifn hc ?_
        refine mb_getR 599 rfl rfl (by decide) ?_
        obtain ⟨t1, ht1, hk⟩ := ab_bnd hk
        refine mb_ald ⟨rfl, rfl, fun _ => rfl⟩ ht1 ?_
        obtain ⟨q2, hq2, hk⟩ := ab_bnd hk
        refine mb_eq (s_X9_in hq2) ?_
        exact ih _ _ _  _ _ hk
noncomputable def g_X9_lettersTold_J21 (v1 : Int) (s0 : Int) (σ : st_S) : Option (Int × st_S) :=
  g_X9_lettersTold_L24 (fun w56_1 w56_2 σx56 =>
    g_X9_lettersTold_J56 w56_1 w56_2 σx56) ab_FU v1 s0 (0 : Int) σ
set_option maxRecDepth 20000 in
theorem s_X9_lettersTold_J21 : ∀ (v1 : Int) (s0 : Int) (σ : st_S) (q : Int × st_S), g_X9_lettersTold_J21 v1 s0 σ = some q → f_X9_lettersTold_J21 ((596 : Nat) : Int) v1 s0 (mk_ σ) = some ((q.1, mk_ q.2)) := by
  intro v1 s0 σ q hk
  unfold g_X9_lettersTold_J21 at hk
  unfold f_X9_lettersTold_J21
  refine s_X9_lettersTold_L24 (fun w56_1 w56_2 σx56 q hk => ?_) _ _ _ _  _ _ hk
  · skip
    exact s_X9_lettersTold_J56 _ _  _ _ hk
noncomputable def g_X9_lettersTold (σ : st_S) : Option (Int × st_S) :=
  (some (up2 σ 596 4 (0 : Int))).bind fun σ1 =>
  if (7 : Int) < σ 596 4 then
    g_X9_lettersTold_J21 (σ 596 4) (0 : Int) σ1
  else
  g_X9_lettersTold_J21 (σ 596 4) (1 : Int) σ1
set_option maxRecDepth 20000 in
theorem s_X9_lettersTold {σ : st_S} {q : Int × st_S} (hk : g_X9_lettersTold σ = some q) : f_X9_lettersTold ((596 : Nat) : Int) (mk_ σ) = some ((q.1, mk_ q.2)) := by
  unfold g_X9_lettersTold at hk
  unfold f_X9_lettersTold
  refine mb_get rfl rfl ?_
  obtain ⟨σ1, hσ1, hk⟩ := ab_bnd hk
  refine mb_put rfl rfl hσ1 ?_
  by_cases hc : (7 : Int) < σ 596 4
  · have hk := ab_ifp hk hc
    refine mb_ifp hc ?_
    exact s_X9_lettersTold_J21 _ _  _ _ hk
  · have hk := ab_ifn hk hc
    refine mb_ifn hc ?_
    exact s_X9_lettersTold_J21 _ _  _ _ hk
noncomputable def g_X9_find (σ : st_S) : Option (Int × st_S) :=
  (g_X9_lettersTold σ).bind fun q1 =>
  if (0 : Int) < q1.1 then
    (g_X9_laysWords q1.2).bind fun q2 =>
    (g_X9_packed (0 : Int) q1.1 q2).bind fun q3 =>
    (g_X9_usedOf 597 q3.1 q3.2).bind fun q4 =>
    (g_X9_findWord q4.1 q4.2).bind fun q5 =>
    some (q5.1, q5.2)
  else
  some ((-2 : Int), q1.2)
set_option maxRecDepth 20000 in
theorem s_X9_find {σ : st_S} {q : Int × st_S} (hk : g_X9_find σ = some q) : f_X9_find ((596 : Nat) : Int) (mk_ σ) = some ((q.1, mk_ q.2)) := by
  unfold g_X9_find at hk
  unfold f_X9_find
  obtain ⟨q1, hq1, hk⟩ := ab_bnd hk
  refine mb_on rfl (s_X9_lettersTold hq1) ?_
  by_cases hc : (0 : Int) < q1.1
  · have hk := ab_ifp hk hc
    refine mb_ifp hc ?_
    obtain ⟨q2, hq2, hk⟩ := ab_bnd hk
    refine mb_on rfl (s_X9_laysWords hq2) ?_
    refine mb_getR 597 rfl rfl (by decide) ?_
    obtain ⟨q3, hq3, hk⟩ := ab_bnd hk
    refine mb_on rfl (s_X9_packed hq3) ?_
    obtain ⟨q4, hq4, hk⟩ := ab_bnd hk
    refine mb_eq (s_X9_usedOf ⟨rfl, rfl, fun _ => rfl⟩ hq4) ?_
    obtain ⟨q5, hq5, hk⟩ := ab_bnd hk
    refine mb_on rfl (s_X9_findWord hq5) ?_
    obtain rfl := Option.some.inj hk
    rfl
  · have hk := ab_ifn hk hc
    refine mb_ifn hc ?_
    obtain rfl := Option.some.inj hk
    rfl
noncomputable def g_X9_at_L17 : Nat → Int → Int → st_S → Option (Int × st_S)
  | 0, _, _, _ => none
  | n + 1, v1, v2, σ =>
    (g_X9_strings σ).bind fun q1 =>
    if q1.1 ≤ v2 then
      some ((-1 : Int), q1.2)
    else
    (g_X9_addressOf v2 q1.2).bind fun q2 =>
    if q2.1 = v1 then
      some (v2, q2.2)
    else
    g_X9_at_L17 n v1 (ab_w32 (v2 + (1 : Int))) q2.2
set_option maxRecDepth 20000 in
theorem s_X9_at_L17 : ∀ (n : Nat) (v1 : Int) (v2 : Int) (σ : st_S) (q : Int × st_S), g_X9_at_L17 n v1 v2 σ = some q → f_X9_at_L17 n ((596 : Nat) : Int) v1 v2 (mk_ σ) = some ((q.1, mk_ q.2)) := by
  intro n
  induction n with
  | zero => intro v1 v2 σ q hk; cases hk
  | succ n ih =>
    intro v1 v2 σ q hk
    unfold g_X9_at_L17 at hk
    unfold f_X9_at_L17
    obtain ⟨q1, hq1, hk⟩ := ab_bnd hk
    refine mb_on rfl (s_X9_strings hq1) ?_
    by_cases hc : q1.1 ≤ v2
    · have hk := ab_ifp hk hc
      refine mb_ifp hc ?_
      obtain rfl := Option.some.inj hk
      rfl
    · have hk := ab_ifn hk hc
      refine mb_ifn hc ?_
      obtain ⟨q2, hq2, hk⟩ := ab_bnd hk
      refine mb_on rfl (s_X9_addressOf hq2) ?_
      by_cases hc : q2.1 = v1
      · have hk := ab_ifp hk hc
        refine mb_ifp hc ?_
        obtain rfl := Option.some.inj hk
        rfl
      · have hk := ab_ifn hk hc
        refine mb_ifn hc ?_
        exact ih _ _  _ _ hk
noncomputable def g_X9_at (a1 : Int) (σ : st_S) : Option (Int × st_S) :=
  (g_X9_in a1 (0 : Int) (999 : Int) σ).bind fun q1 =>
  if q1.1 = (0 : Int) then
    some ((-2 : Int), q1.2)
  else
  g_X9_at_L17 ab_FU a1 (0 : Int) q1.2
set_option maxRecDepth 20000 in
theorem s_X9_at {a1 : Int} {σ : st_S} {q : Int × st_S} (hk : g_X9_at a1 σ = some q) : f_X9_at ((596 : Nat) : Int) a1 (mk_ σ) = some ((q.1, mk_ q.2)) := by
  unfold g_X9_at at hk
  unfold f_X9_at
  obtain ⟨q1, hq1, hk⟩ := ab_bnd hk
  refine mb_eq (s_X9_in hq1) ?_
  by_cases hc : q1.1 = (0 : Int)
  · have hk := ab_ifp hk hc
    refine mb_ifp hc ?_
    obtain rfl := Option.some.inj hk
    rfl
  · have hk := ab_ifn hk hc
    refine mb_ifn hc ?_
    refine s_X9_at_L17 _ _ _  _ _ hk
noncomputable def g_X9_entry (a1 : Int) (a2 : Int) (σ : st_S) : Option (Int × st_S) :=
  if a1 < (0 : Int) then
    some ((-2 : Int), σ)
  else
  (g_X9_in a2 (0 : Int) (5 : Int) σ).bind fun q1 =>
  if q1.1 = (0 : Int) then
    some ((-2 : Int), q1.2)
  else
  (g_X9_lays q1.2).bind fun q2 =>
  if a1 < q2 596 16 then
    (sa_ld q2 608 72 a1).bind fun t3 =>
    if a2 = (0 : Int) then
      (sa_ld q2 602 72 t3).bind fun t9 =>
      some (t9, q2)
    else
    if a2 = (1 : Int) then
      (sa_ld q2 603 72 t3).bind fun t8 =>
      some (t8, q2)
    else
    if a2 = (2 : Int) then
      (sa_ld q2 605 72 a1).bind fun t7 =>
      some (t7, q2)
    else
    if a2 = (3 : Int) then
      (sa_ld q2 607 864 (ab_w32 ((12 : Int) * t3))).bind fun t6 =>
      some (t6, q2)
    else
    if a2 = (4 : Int) then
      (sa_ld q2 607 864 (ab_w32 ((ab_w32 ((12 : Int) * t3)) + (6 : Int)))).bind fun t5 =>
      some (t5, q2)
    else
    (sa_ld q2 604 72 t3).bind fun t4 =>
    some (t4, q2)
  else
  some ((-1 : Int), q2)
set_option maxRecDepth 20000 in
theorem s_X9_entry {a1 : Int} {a2 : Int} {σ : st_S} {q : Int × st_S} (hk : g_X9_entry a1 a2 σ = some q) : f_X9_entry ((596 : Nat) : Int) a1 a2 (mk_ σ) = some ((q.1, mk_ q.2)) := by
  unfold g_X9_entry at hk
  unfold f_X9_entry
  by_cases hc : a1 < (0 : Int)
  · have hk := ab_ifp hk hc
    refine mb_ifp hc ?_
    obtain rfl := Option.some.inj hk
    rfl
  · have hk := ab_ifn hk hc
    refine mb_ifn hc ?_
    obtain ⟨q1, hq1, hk⟩ := ab_bnd hk
    refine mb_eq (s_X9_in hq1) ?_
    by_cases hc : q1.1 = (0 : Int)
    · have hk := ab_ifp hk hc
      refine mb_ifp hc ?_
      obtain rfl := Option.some.inj hk
      rfl
    · have hk := ab_ifn hk hc
      refine mb_ifn hc ?_
      obtain ⟨q2, hq2, hk⟩ := ab_bnd hk
      refine mb_on rfl (s_X9_lays hq2) ?_
      refine mb_get rfl rfl ?_
      by_cases hc : a1 < q2 596 16
      · have hk := ab_ifp hk hc
        refine mb_ifp hc ?_
        refine mb_getR 608 rfl rfl (by decide) ?_
        obtain ⟨t3, ht3, hk⟩ := ab_bnd hk
        refine mb_ald ⟨rfl, rfl, fun _ => rfl⟩ ht3 ?_
        by_cases hc : a2 = (0 : Int)
        · have hk := ab_ifp hk hc
          refine mb_ifp hc ?_
          refine mb_getR 602 rfl rfl (by decide) ?_
          obtain ⟨t9, ht9, hk⟩ := ab_bnd hk
          refine mb_ald ⟨rfl, rfl, fun _ => rfl⟩ ht9 ?_
          obtain rfl := Option.some.inj hk
          rfl
        · have hk := ab_ifn hk hc
          refine mb_ifn hc ?_
          by_cases hc : a2 = (1 : Int)
          · have hk := ab_ifp hk hc
            refine mb_ifp hc ?_
            refine mb_getR 603 rfl rfl (by decide) ?_
            obtain ⟨t8, ht8, hk⟩ := ab_bnd hk
            refine mb_ald ⟨rfl, rfl, fun _ => rfl⟩ ht8 ?_
            obtain rfl := Option.some.inj hk
            rfl
          · have hk := ab_ifn hk hc
            refine mb_ifn hc ?_
            by_cases hc : a2 = (2 : Int)
            · have hk := ab_ifp hk hc
              refine mb_ifp hc ?_
              refine mb_getR 605 rfl rfl (by decide) ?_
              obtain ⟨t7, ht7, hk⟩ := ab_bnd hk
              refine mb_ald ⟨rfl, rfl, fun _ => rfl⟩ ht7 ?_
              obtain rfl := Option.some.inj hk
              rfl
            · have hk := ab_ifn hk hc
              refine mb_ifn hc ?_
              by_cases hc : a2 = (3 : Int)
              · have hk := ab_ifp hk hc
                refine mb_ifp hc ?_
                refine mb_getR 607 rfl rfl (by decide) ?_
                obtain ⟨t6, ht6, hk⟩ := ab_bnd hk
                refine mb_ald ⟨rfl, rfl, fun _ => rfl⟩ ht6 ?_
                obtain rfl := Option.some.inj hk
                rfl
              · have hk := ab_ifn hk hc
                refine mb_ifn hc ?_
                by_cases hc : a2 = (4 : Int)
                · have hk := ab_ifp hk hc
                  refine mb_ifp hc ?_
                  refine mb_getR 607 rfl rfl (by decide) ?_
                  obtain ⟨t5, ht5, hk⟩ := ab_bnd hk
                  refine mb_ald ⟨rfl, rfl, fun _ => rfl⟩ ht5 ?_
                  obtain rfl := Option.some.inj hk
                  rfl
                · have hk := ab_ifn hk hc
                  refine mb_ifn hc ?_
                  refine mb_getR 604 rfl rfl (by decide) ?_
                  obtain ⟨t4, ht4, hk⟩ := ab_bnd hk
                  refine mb_ald ⟨rfl, rfl, fun _ => rfl⟩ ht4 ?_
                  obtain rfl := Option.some.inj hk
                  rfl
      · have hk := ab_ifn hk hc
        refine mb_ifn hc ?_
        obtain rfl := Option.some.inj hk
        rfl
noncomputable def g_X9_row (a1 : Int) (a2 : Int) (a3 : Int) (σ : st_S) : Option (Int × st_S) :=
  if a1 < (0 : Int) then
    some ((-2 : Int), σ)
  else
  if a3 < (0 : Int) then
    some ((-2 : Int), σ)
  else
  (g_X9_in a2 (0 : Int) (1 : Int) σ).bind fun q1 =>
  if q1.1 = (0 : Int) then
    some ((-2 : Int), q1.2)
  else
  (g_X9_lays q1.2).bind fun q2 =>
  if a1 < q2 596 16 then
    (sa_ld q2 608 72 a1).bind fun t3 =>
    (sa_ld q2 607 864 (ab_w32 ((ab_w32 ((12 : Int) * t3)) + (ab_w32 ((6 : Int) * a2))))).bind fun t4 =>
    if t4 ≤ a3 then
      some ((-1 : Int), q2)
    else
    (sa_ld q2 607 864 (ab_w32 ((ab_w32 ((ab_w32 ((ab_w32 ((12 : Int) * t3)) + (ab_w32 ((6 : Int) * a2)))) + (1 : Int))) + a3))).bind fun t5 =>
    (sa_ld q2 601 72 t5).bind fun t6 =>
    some (t6, q2)
  else
  some ((-1 : Int), q2)
set_option maxRecDepth 20000 in
theorem s_X9_row {a1 : Int} {a2 : Int} {a3 : Int} {σ : st_S} {q : Int × st_S} (hk : g_X9_row a1 a2 a3 σ = some q) : f_X9_row ((596 : Nat) : Int) a1 a2 a3 (mk_ σ) = some ((q.1, mk_ q.2)) := by
  unfold g_X9_row at hk
  unfold f_X9_row
  by_cases hc : a1 < (0 : Int)
  · have hk := ab_ifp hk hc
    refine mb_ifp hc ?_
    obtain rfl := Option.some.inj hk
    rfl
  · have hk := ab_ifn hk hc
    refine mb_ifn hc ?_
    by_cases hc : a3 < (0 : Int)
    · have hk := ab_ifp hk hc
      refine mb_ifp hc ?_
      obtain rfl := Option.some.inj hk
      rfl
    · have hk := ab_ifn hk hc
      refine mb_ifn hc ?_
      obtain ⟨q1, hq1, hk⟩ := ab_bnd hk
      refine mb_eq (s_X9_in hq1) ?_
      by_cases hc : q1.1 = (0 : Int)
      · have hk := ab_ifp hk hc
        refine mb_ifp hc ?_
        obtain rfl := Option.some.inj hk
        rfl
      · have hk := ab_ifn hk hc
        refine mb_ifn hc ?_
        obtain ⟨q2, hq2, hk⟩ := ab_bnd hk
        refine mb_on rfl (s_X9_lays hq2) ?_
        refine mb_get rfl rfl ?_
        by_cases hc : a1 < q2 596 16
        · have hk := ab_ifp hk hc
          refine mb_ifp hc ?_
          refine mb_getR 608 rfl rfl (by decide) ?_
          obtain ⟨t3, ht3, hk⟩ := ab_bnd hk
          refine mb_ald ⟨rfl, rfl, fun _ => rfl⟩ ht3 ?_
          refine mb_getR 607 rfl rfl (by decide) ?_
          obtain ⟨t4, ht4, hk⟩ := ab_bnd hk
          refine mb_ald ⟨rfl, rfl, fun _ => rfl⟩ ht4 ?_
          by_cases hc : t4 ≤ a3
          · have hk := ab_ifp hk hc
            refine mb_ifp hc ?_
            obtain rfl := Option.some.inj hk
            rfl
          · have hk := ab_ifn hk hc
            refine mb_ifn hc ?_
            refine mb_getR 601 rfl rfl (by decide) ?_
            refine mb_getR 607 rfl rfl (by decide) ?_
            obtain ⟨t5, ht5, hk⟩ := ab_bnd hk
            refine mb_ald ⟨rfl, rfl, fun _ => rfl⟩ ht5 ?_
            obtain ⟨t6, ht6, hk⟩ := ab_bnd hk
            refine mb_ald ⟨rfl, rfl, fun _ => rfl⟩ ht6 ?_
            obtain rfl := Option.some.inj hk
            rfl
        · have hk := ab_ifn hk hc
          refine mb_ifn hc ?_
          obtain rfl := Option.some.inj hk
          rfl
