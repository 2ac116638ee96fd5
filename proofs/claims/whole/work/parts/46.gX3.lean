noncomputable def g_X3_forgetAll (σ : st_S) : Option st_S :=
  (some (up2 σ 35 2 (0 : Int))).bind fun σ1 =>
  some σ1
set_option maxRecDepth 20000 in
theorem s_X3_forgetAll {σ : st_S} {q : st_S} (hk : g_X3_forgetAll σ = some q) : f_X3_forgetAll ((35 : Nat) : Int) (mk_ σ) = some (mk_ q) := by
  unfold g_X3_forgetAll at hk
  unfold f_X3_forgetAll
  obtain ⟨σ1, hσ1, hk⟩ := ab_bnd hk
  refine mb_put rfl rfl hσ1 ?_
  obtain rfl := Option.some.inj hk
  rfl
noncomputable def g_X3_keep (a1 : Nat) (σ : st_S) : Option st_S :=
  (ab_rm_ (ab_w32 ((σ 35 1) + (σ 35 2))) (10 : Int)).bind fun t1 =>
  (if 0 ≤ t1 ∧ t1 < (10 : Int) then some (37 + 11 * (t1).toNat) else none).bind fun e1 =>
  (g_X0_copyFrom e1 a1 σ).bind fun q2 =>
  if (10 : Int) ≤ q2 35 2 then
    (ab_rm_ (ab_w32 ((q2 35 1) + (1 : Int))) (10 : Int)).bind fun t3 =>
    (some (up2 q2 35 1 t3)).bind fun σ1 =>
    some σ1
  else
  (some (up2 q2 35 2 (ab_w32 ((q2 35 2) + (1 : Int))))).bind fun σ2 =>
  some σ2
set_option maxRecDepth 20000 in
theorem s_X3_keep {a1 : Nat} (pa1 : isBk a1 = true) {σ : st_S} {q : st_S} (hk : g_X3_keep a1 σ = some q) : f_X3_keep ((35 : Nat) : Int) ((a1 : Nat) : Int) (mk_ σ) = some (mk_ q) := by
  unfold g_X3_keep at hk
  unfold f_X3_keep
  refine mb_getR 36 rfl rfl (by decide) ?_
  refine mb_get rfl rfl ?_
  refine mb_get rfl rfl ?_
  obtain ⟨t1, ht1, hk⟩ := ab_bnd hk
  refine mb_eq ht1 ?_
  obtain ⟨e1, he1, hk⟩ := ab_bnd hk
  have pe1 : isBk e1 = true := kb_of he1
  refine mb_aldB he1 ?_
  obtain ⟨q2, hq2, hk⟩ := ab_bnd hk
  refine mb_on (bk_ly pe1).1 (s_X0_copyFrom pe1 pa1 hq2) ?_
  refine mb_get rfl rfl ?_
  by_cases hc : (10 : Int) ≤ q2 35 2
  · have hk := ab_ifp hk hc
    refine mb_ifp hc ?_
    refine mb_get rfl rfl ?_
    obtain ⟨t3, ht3, hk⟩ := ab_bnd hk
    refine mb_eq ht3 ?_
    obtain ⟨σ1, hσ1, hk⟩ := ab_bnd hk
    refine mb_put rfl rfl hσ1 ?_
    obtain rfl := Option.some.inj hk
    rfl
  · have hk := ab_ifn hk hc
    refine mb_ifn hc ?_
    refine mb_get rfl rfl ?_
    obtain ⟨σ2, hσ2, hk⟩ := ab_bnd hk
    refine mb_put rfl rfl hσ2 ?_
    obtain rfl := Option.some.inj hk
    rfl
noncomputable def g_X3_takeBack (a1 : Nat) (σ : st_S) : Option st_S :=
  if σ 35 2 = (0 : Int) then
    some σ
  else
  (some (up2 σ 35 2 (ab_w32 ((σ 35 2) - (1 : Int))))).bind fun σ1 =>
  (ab_rm_ (ab_w32 ((σ1 35 1) + (σ1 35 2))) (10 : Int)).bind fun t1 =>
  (if 0 ≤ t1 ∧ t1 < (10 : Int) then some (37 + 11 * (t1).toNat) else none).bind fun e1 =>
  (g_X0_copyFrom a1 e1 σ1).bind fun q2 =>
  some q2
set_option maxRecDepth 20000 in
theorem s_X3_takeBack {a1 : Nat} (pa1 : isBk a1 = true) {σ : st_S} {q : st_S} (hk : g_X3_takeBack a1 σ = some q) : f_X3_takeBack ((35 : Nat) : Int) ((a1 : Nat) : Int) (mk_ σ) = some (mk_ q) := by
  unfold g_X3_takeBack at hk
  unfold f_X3_takeBack
  refine mb_get rfl rfl ?_
  by_cases hc : σ 35 2 = (0 : Int)
  · have hk := ab_ifp hk hc
    refine mb_ifp hc ?_
    obtain rfl := Option.some.inj hk
    rfl
  · have hk := ab_ifn hk hc
    refine mb_ifn hc ?_
    refine mb_get rfl rfl ?_
    obtain ⟨σ1, hσ1, hk⟩ := ab_bnd hk
    refine mb_put rfl rfl hσ1 ?_
    refine mb_getR 36 rfl rfl (by decide) ?_
    refine mb_get rfl rfl ?_
    refine mb_get rfl rfl ?_
    obtain ⟨t1, ht1, hk⟩ := ab_bnd hk
    refine mb_eq ht1 ?_
    obtain ⟨e1, he1, hk⟩ := ab_bnd hk
    have pe1 : isBk e1 = true := kb_of he1
    refine mb_aldB he1 ?_
    obtain ⟨q2, hq2, hk⟩ := ab_bnd hk
    refine mb_on (bk_ly pa1).1 (s_X0_copyFrom pa1 pe1 hq2) ?_
    obtain rfl := Option.some.inj hk
    rfl
